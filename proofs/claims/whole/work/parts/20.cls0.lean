section WALK_cls0
variable {p : Program} {l : Launch} {e : Env} {s : State} {m : MethodId} {args : Array Value} {below : List Frame} {meth : Method} {c : Code} {H : Heap} {locs : List Loc} {Q : State → Prop} {D : va_G} {cI cZ cQ : ClassId} {adK adV ad : Nat → Nat} {A : Nat → Prop} {ls : Array Slot}
noncomputable def f_X6_within (a0 : Int32) (a1 : Int32) (a2 : Int32) (u0 : XS) : Option (Int32 × XS) :=
  (if a0 < a1 then
    some ((0 : Int32), u0)
  else
    (if a2 < a0 then
      some ((0 : Int32), u0)
    else
      some ((1 : Int32), u0)))
set_option maxRecDepth 100000 in
set_option maxHeartbeats 4000000 in
theorem c_X6_within {a0 : Int32} {a1 : Int32} {a2 : Int32} {u0 : XS} {r : Int32} {u' : XS} (h : f_X6_within a0 a1 a2 u0 = some (r, u')) : MI l D cI cZ cQ adK adV A yX6_within cX6_within 3 (some .boolean) { frames := 0, cells := 0, slots := 0, locals := 0 } [.int a0, .int a1, .int a2] (wX cI cZ cQ ad) u0 r u' := by
  unfold f_X6_within at h
  refine entI (by decide) (Nat.le_of_ble_eq_true rfl) (fun p e s m below meth c ls X K G hl => ?_)
  have hl : lv_has ls 3 [(0, .int a0), (1, .int a1), (2, .int a2)] := hl
  obtain ⟨hx, hb, -⟩ := id X
  generalize hH : s.heap = H at G
  subst hH
  refine lv_iload_n hx hb dX6_within_0 rfl (lv_at hl 0 rfl) ?_
  refine lv_iload_n hx hb dX6_within_1 rfl (lv_at hl 1 rfl) ?_
  refine lv_icmp_lt (tgt := 14) hx hb dX6_within_2 (by decide) (fun c1 => ?_) (fun c1 => ?_)
  · have h := it_at c1 h
    refine lv_iconst (v := 0) hx hb dX6_within_14 (by decide) ?_
    obtain ⟨rfl, rfl⟩ := pair_at h
    exact reZ X G (Or.inl rfl) dX6_within_15
  · have h := if_at c1 h
    refine lv_iload_n hx hb dX6_within_5 rfl (lv_at hl 0 rfl) ?_
    refine lv_iload_n hx hb dX6_within_6 rfl (lv_at hl 2 rfl) ?_
    refine lv_icmp_gt (tgt := 14) hx hb dX6_within_7 (by decide) (fun c2 => ?_) (fun c2 => ?_)
    · have h := it_at c2 h
      refine lv_iconst (v := 0) hx hb dX6_within_14 (by decide) ?_
      obtain ⟨rfl, rfl⟩ := pair_at h
      exact reZ X G (Or.inl rfl) dX6_within_15
    · have h := if_at c2 h
      refine lv_iconst (v := 1) hx hb dX6_within_10 (by decide) ?_
      refine lv_goto (tgt := 15) hx hb dX6_within_11 (by decide) ?_
      obtain ⟨rfl, rfl⟩ := pair_at h
      exact reZ X G (Or.inr rfl) dX6_within_15
noncomputable def f_X3_append_L4_4 (v1 : Int32) (v3 : Int32) (u0 : XS) : Option ((Int32 × Int32 × XS) ⊕ ((Int32 × XS) ⊕ (XS))) :=
  (if v3 < 0 then
    some (.inr (.inr u0))
  else
    (if (120 : Int32) ≤ ((xP u0).2) then
      some (.inr (.inr u0))
    else
      nmv (((v1.toUInt32 >>> (((8 : Int32) * v3).toUInt32 &&& Int32.toUInt32 31)).toInt32) &&& (255 : Int32)) fun x3 =>
      nmv ((xP u0).2) fun x4 =>
      if x4 < 0 ∨ 120 ≤ x4.toNatClampNeg then none else
      nmv (sP u0 ((upd ((xP u0).1) x4.toNatClampNeg x3), (xP u0).2)) fun u6 =>
      nmv (((xP u6).2) + (1 : Int32)) fun x7 =>
      nmv (sP u6 ((xP u6).1, x7)) fun u8 =>
      nmv (v3 + (-1 : Int32)) fun x9 =>
      some (.inl (v1, x9, u8))))
set_option maxRecDepth 100000 in
set_option maxHeartbeats 4000000 in
theorem b_X3_append_L4_4 (X : cx p s m args meth c cX3_append 4 RX3 none) (K : kx D cI cZ cQ adK adV A s s.heap) {v1 : Int32} {v3 : Int32} {u0 : XS} (G : wg D A s.heap H locs (wX cI cZ cQ ad u0)) (hl : lv_has ls 4 [(0, .ref (ad 22)), (1, .int v1), (3, .int v3)]) {q : ((Int32 × Int32 × XS) ⊕ ((Int32 × XS) ⊕ (XS)))} (h : f_X3_append_L4_4 v1 v3 u0 = some q) (hB : ∀ (v1 : Int32) (v3 : Int32) (u : XS), q = .inl (v1, v3, u) → ∀ (H : Heap) (locs : List Loc) (ls : Array Slot), wg D A s.heap H locs (wX cI cZ cQ ad u) → lv_has ls 4 [(0, .ref (ad 22)), (1, .int v1), (3, .int v3)] → W p l e { frames := 0, cells := 0, slots := 0, locals := 0 } s m args below meth c H locs 0 0 Q (F0 m 4 ls [])) (hX : ∀ (u : XS), q = .inr (.inr u) → ∀ (H : Heap) (locs : List Loc) (ls : Array Slot), wg D A s.heap H locs (wX cI cZ cQ ad u) → lv_has ls 4 [] → W p l e { frames := 0, cells := 0, slots := 0, locals := 0 } s m args below meth c H locs 0 0 Q (F0 m 52 ls [])) (hR : ∀ (r : Int32) (u : XS), q = .inr (.inl (r, u)) → Q = (qV D A (wX cI cZ cQ ad) below args s u)) : W p l e { frames := 0, cells := 0, slots := 0, locals := 0 } s m args below meth c H locs 0 0 Q (F0 m 4 ls []) := by
  unfold f_X3_append_L4_4 at h
  obtain ⟨hx, hb, -⟩ := id X
  refine lv_iload_n hx hb dX3_append_4 rfl (lv_at hl 2 rfl) ?_
  refine lv_if_lt (tgt := 52) hx hb dX3_append_5 (by decide) (fun c1 => ?_) (fun c1 => ?_)
  · have h := it_at c1 h
    exact hX _ (Option.some.inj h).symm _ _ _ G (lv_sub hl [] rfl)
  · have h := if_at c1 h
    refine lv_aload_n hx hb dX3_append_8 rfl (lv_at hl 0 rfl) ?_
    refine gX_22_1 X K G q_170 dX3_append_9 ?_
    refine lv_bipush (v := 120) hx hb dX3_append_12 (by decide) ?_
    refine lv_icmp_ge (tgt := 52) hx hb dX3_append_14 (by decide) (fun c2 => ?_) (fun c2 => ?_)
    · have h := it_at c2 h
      exact hX _ (Option.some.inj h).symm _ _ _ G (lv_sub hl [] rfl)
    · have h := if_at c2 h
      refine lv_aload_n hx hb dX3_append_17 rfl (lv_at hl 0 rfl) ?_
      refine gX_22_0 X K G q_168 dX3_append_18 ?_
      refine lv_aload_n hx hb dX3_append_21 rfl (lv_at hl 0 rfl) ?_
      refine gX_22_1 X K G q_170 dX3_append_22 ?_
      refine lv_iload_n hx hb dX3_append_25 rfl (lv_at hl 1 rfl) ?_
      refine lv_bipush (v := 8) hx hb dX3_append_26 (by decide) ?_
      refine lv_iload_n hx hb dX3_append_28 rfl (lv_at hl 2 rfl) ?_
      refine lv_imul hx hb dX3_append_29 ?_
      refine lv_iushr hx hb dX3_append_30 rfl ?_
      refine lv_sipush (v := 255) hx hb dX3_append_31 (by decide) ?_
      refine lv_iand hx hb dX3_append_34 ?_
      refine lv_topi (fun x3 ex3 => ?_)
      have h := nm_at ex3 h
      refine nm2 (fun x4 ex4 => ?_)
      have h := nm_at ex4 h
      obtain ⟨g5, h⟩ := ck_at h
      refine aX_23 X K G g5 dX3_append_35 (fun H locs G => ?_)
      obtain ⟨u6, eu6⟩ : ∃ z : XS, z = sP u0 ((upd ((xP u0).1) x4.toNatClampNeg x3), (xP u0).2) := ⟨_, rfl⟩
      have G : wg D A s.heap H locs (wX cI cZ cQ ad u6) := by rw [eu6]; exact G
      have h := nm_at eu6 h
      clear eu6
      refine lv_aload_n hx hb dX3_append_36 rfl (lv_at hl 0 rfl) ?_
      refine lv_dup hx hb dX3_append_37 rfl ?_
      refine gX_22_1 X K G q_170 dX3_append_38 ?_
      refine lv_iconst (v := 1) hx hb dX3_append_41 (by decide) ?_
      refine lv_iadd hx hb dX3_append_42 ?_
      refine lv_topi (fun x7 ex7 => ?_)
      have h := nm_at ex7 h
      refine pX_22_1 X K G q_170 dX3_append_43 (fun H locs G => ?_)
      obtain ⟨u8, eu8⟩ : ∃ z : XS, z = sP u6 ((xP u6).1, x7) := ⟨_, rfl⟩
      have G : wg D A s.heap H locs (wX cI cZ cQ ad u8) := by rw [eu8]; exact G
      have h := nm_at eu8 h
      clear eu8
      obtain ⟨x9, ex9⟩ : ∃ z : Int32, z = v3 + (-1 : Int32) := ⟨_, rfl⟩
      have h := nm_at ex9 h
      refine lv_iinc (v := x9) (lv' := [(3, .int x9), (0, .ref (ad 22)), (1, .int v1)]) hx hb dX3_append_46 hl (k := 2) rfl (by rw [ex9]; rfl) (by decide) rfl (fun ls hl => ?_)
      refine lv_goto (tgt := 4) hx hb dX3_append_49 (by decide) ?_
      exact hB _ _ _ (Option.some.inj h).symm _ _ _ G (lv_sub hl [1, 2, 0] rfl)
noncomputable def f_X3_append_L4_4s (q : Int32 × Int32 × XS) : Option ((Int32 × Int32 × XS) ⊕ ((Int32 × XS) ⊕ (XS))) := f_X3_append_L4_4 q.1 q.2.1 q.2.2
set_option maxRecDepth 100000 in
set_option maxHeartbeats 4000000 in
theorem w_X3_append_L4_4 (X : cx p s m args meth c cX3_append 4 RX3 none) (K : kx D cI cZ cQ adK adV A s s.heap) {e0 : (Int32 × XS) ⊕ (XS)} : ∀ (n : Nat) (v1 : Int32) (v3 : Int32) (u : XS) {H : Heap} {locs : List Loc} {ls : Array Slot}, wh f_X3_append_L4_4s n (v1, v3, u) = some e0 → wg D A s.heap H locs (wX cI cZ cQ ad u) → lv_has ls 4 [(0, .ref (ad 22)), (1, .int v1), (3, .int v3)] → (∀ (u : XS), e0 = .inr u → ∀ (H : Heap) (locs : List Loc) (ls : Array Slot), wg D A s.heap H locs (wX cI cZ cQ ad u) → lv_has ls 4 [] → W p l e { frames := 0, cells := 0, slots := 0, locals := 0 } s m args below meth c H locs 0 0 Q (F0 m 52 ls [])) → (∀ (r : Int32) (u : XS), e0 = .inl (r, u) → Q = (qV D A (wX cI cZ cQ ad) below args s u)) → W p l e { frames := 0, cells := 0, slots := 0, locals := 0 } s m args below meth c H locs 0 0 Q (F0 m 4 ls []) := by
  intro n
  induction n with
  | zero => intro v1 v3 u H locs ls h; cases h
  | succ n ih =>
    intro v1 v3 u H locs ls h G hl hX hR
    obtain ⟨q, h1, h2, h3⟩ := wh_at h
    exact b_X3_append_L4_4 X K G hl (show f_X3_append_L4_4 v1 v3 u = some q from h1) (fun b0 b1 b2 ee H locs ls G hl => ih b0 b1 b2 (h2 _ ee) G hl hX hR) (fun z0 ee => hX z0 (h3 _ ee).symm) (fun r u ee => hR r u (h3 _ ee).symm)
noncomputable def f_X3_append (a1 : Int32) (a2 : Int32) (u0 : XS) : Option (Int32 × XS) :=
  nmv (a2 - (1 : Int32)) fun x1 =>
  bne (wl f_X3_append_L4_4s (a1, x1, u0)) (fun a => some a) fun b =>
    nmv b fun u4 =>
    some ((0 : Int32), u4)
set_option maxRecDepth 100000 in
set_option maxHeartbeats 4000000 in
theorem c_X3_append {a1 : Int32} {a2 : Int32} {u0 : XS} {r : Int32} {u' : XS} (h : f_X3_append a1 a2 u0 = some (r, u')) : MV l D cI cZ cQ adK adV A yX3_append cX3_append 4 { frames := 0, cells := 0, slots := 0, locals := 0 } [.ref (ad 22), .int a1, .int a2] (wX cI cZ cQ ad) u0 u' := by
  unfold f_X3_append at h
  refine entV (by decide) (Nat.le_of_ble_eq_true rfl) (fun p e s m below meth c ls X K G hl => ?_)
  have hl : lv_has ls 4 [(0, .ref (ad 22)), (1, .int a1), (2, .int a2)] := hl
  obtain ⟨hx, hb, -⟩ := id X
  generalize hH : s.heap = H at G
  subst hH
  refine lv_iload_n hx hb dX3_append_0 rfl (lv_at hl 2 rfl) ?_
  refine lv_iconst (v := 1) hx hb dX3_append_1 (by decide) ?_
  refine lv_isub hx hb dX3_append_2 ?_
  refine lv_topi (fun x1 ex1 => ?_)
  have h := nm_at ex1 h
  refine lv_istore_n (lv' := [(3, .int x1), (0, .ref (ad 22)), (1, .int a1), (2, .int a2)]) hx hb dX3_append_3 rfl hl (by decide) rfl (fun ls hl => ?_)
  obtain ⟨q3, hq3, ha, hb1⟩ := bne_at h
  obtain ⟨n2, hn2⟩ := wl_iff.mp hq3
  refine w_X3_append_L4_4 X K n2 _ _ _ hn2 G (lv_sub hl [1, 2, 0] rfl) (fun  u4 ee H locs ls G hl => ?_) (fun r u1 ee => by obtain ⟨rfl, rfl⟩ := pair_at (ha _ ee); rfl)
  have h := hb1 _ ee
  clear ee ha hb1 hq3 hn2
  have h := nm_at (x := u4) rfl h
  obtain ⟨rfl, rfl⟩ := pair_at h
  exact reV X G dX3_append_52
noncomputable def f_X6_found (a1 : Int32) (u0 : XS) : Option (Int32 × XS) :=
  bnd (f_X6_within a1 (0 : Int32) (6 : Int32) u0) fun r1 u2 =>
  (if r1 = 0 then
    some ((-1000001 : Int32) - a1, u2)
  else
    if a1 < 0 ∨ 7 ≤ a1.toNatClampNeg then none else
    nmv (((xF u2) a1.toNatClampNeg) + (1 : Int32)) fun x5 =>
    if a1 < 0 ∨ 7 ≤ a1.toNatClampNeg then none else
    nmv (sF u2 (upd (xF u2) a1.toNatClampNeg x5)) fun u7 =>
    some ((-1000001 : Int32) - a1, u7))
set_option maxRecDepth 100000 in
set_option maxHeartbeats 4000000 in
theorem c_X6_found {a1 : Int32} {u0 : XS} {r : Int32} {u' : XS} (h : f_X6_found a1 u0 = some (r, u')) : MI l D cI cZ cQ adK adV A yX6_found cX6_found 2 (some .int) { frames := 1, cells := 0, slots := 0, locals := 22 } [.ref (ad 0), .int a1] (wX cI cZ cQ ad) u0 r u' := by
  unfold f_X6_found at h
  refine entI (by decide) (Nat.le_of_ble_eq_true rfl) (fun p e s m below meth c ls X K G hl => ?_)
  have hl : lv_has ls 2 [(0, .ref (ad 0)), (1, .int a1)] := hl
  obtain ⟨hx, hb, -⟩ := id X
  generalize hH : s.heap = H at G
  subst hH
  refine lv_iload_n hx hb dX6_found_0 rfl (lv_at hl 1 rfl) ?_
  refine lv_iconst (v := 0) hx hb dX6_found_1 (by decide) ?_
  refine lv_bipush (v := 6) hx hb dX6_found_2 (by decide) ?_
  obtain ⟨r1, u2, er1, h⟩ := bnd_at h
  refine csI (rest := []) X K G (c_X6_within er1) q_335 my_X6_within ⟨rfl, rfl⟩ ⟨Nat.le_of_ble_eq_true rfl, Nat.le_of_ble_eq_true rfl⟩ ⟨Nat.zero_le _, Nat.zero_le _⟩ rfl hl.1 rfl (Nat.le_of_ble_eq_true rfl) dX6_found_4 (fun H locs G => ?_)
  clear er1
  refine lv_if_eq (tgt := 20) hx hb dX6_found_7 (by decide) (fun c3 => ?_) (fun c3 => ?_)
  · have h := it_at c3 h
    refine lv_ldcw (v := -1000001) hx hb X.2.2.2.1 (X.2.2.2.2.1 _ q_342) dX6_found_20 ?_
    refine lv_iload_n hx hb dX6_found_23 rfl (lv_at hl 1 rfl) ?_
    refine lv_isub hx hb dX6_found_24 ?_
    obtain ⟨rfl, rfl⟩ := pair_at h
    exact reI X G dX6_found_25
  · have h := if_at c3 h
    refine lv_aload_n hx hb dX6_found_10 rfl (lv_at hl 0 rfl) ?_
    refine gX_0_8 X K G q_308 dX6_found_11 ?_
    refine lv_iload_n hx hb dX6_found_14 rfl (lv_at hl 1 rfl) ?_
    refine lv_dup2_11 hx hb dX6_found_15 rfl rfl ?_
    obtain ⟨g4, h⟩ := ck_at h
    refine lX_43 X K G g4 dX6_found_16 ?_
    refine lv_iconst (v := 1) hx hb dX6_found_17 (by decide) ?_
    refine lv_iadd hx hb dX6_found_18 ?_
    refine lv_topi (fun x5 ex5 => ?_)
    have h := nm_at ex5 h
    obtain ⟨g6, h⟩ := ck_at h
    refine aX_43 X K G g6 dX6_found_19 (fun H locs G => ?_)
    obtain ⟨u7, eu7⟩ : ∃ z : XS, z = sF u2 (upd (xF u2) a1.toNatClampNeg x5) := ⟨_, rfl⟩
    have G : wg D A s.heap H locs (wX cI cZ cQ ad u7) := by rw [eu7]; exact G
    have h := nm_at eu7 h
    clear eu7
    refine lv_ldcw (v := -1000001) hx hb X.2.2.2.1 (X.2.2.2.2.1 _ q_342) dX6_found_20 ?_
    refine lv_iload_n hx hb dX6_found_23 rfl (lv_at hl 1 rfl) ?_
    refine lv_isub hx hb dX6_found_24 ?_
    obtain ⟨rfl, rfl⟩ := pair_at h
    exact reI X G dX6_found_25
noncomputable def f_X6_feed (a1 : Int32) (a2 : Int32) (u0 : XS) : Option (Int32 × XS) :=
  bnd (f_X6_within a2 (1 : Int32) (4 : Int32) u0) fun r1 u2 =>
  (if r1 = 0 then
    bnd (f_X6_found (0 : Int32) u2) fun r9 u10 =>
    some (r9, u10)
  else
    (if (((xP u2).2) + a2) ≤ (120 : Int32) then
      bnd (f_X3_append a1 a2 u2) fun r5 u6 =>
      some ((xP u6).2, u6)
    else
      bnd (f_X6_found (1 : Int32) u2) fun r7 u8 =>
      some (r7, u8)))
set_option maxRecDepth 100000 in
set_option maxHeartbeats 4000000 in
theorem c_X6_feed {a1 : Int32} {a2 : Int32} {u0 : XS} {r : Int32} {u' : XS} (h : f_X6_feed a1 a2 u0 = some (r, u')) : MI l D cI cZ cQ adK adV A yX6_feed cX6_feed 3 (some .int) { frames := 2, cells := 0, slots := 0, locals := 43 } [.ref (ad 0), .int a1, .int a2] (wX cI cZ cQ ad) u0 r u' := by
  unfold f_X6_feed at h
  refine entI (by decide) (Nat.le_of_ble_eq_true rfl) (fun p e s m below meth c ls X K G hl => ?_)
  have hl : lv_has ls 3 [(0, .ref (ad 0)), (1, .int a1), (2, .int a2)] := hl
  obtain ⟨hx, hb, -⟩ := id X
  generalize hH : s.heap = H at G
  subst hH
  refine lv_iload_n hx hb dX6_feed_0 rfl (lv_at hl 2 rfl) ?_
  refine lv_iconst (v := 1) hx hb dX6_feed_1 (by decide) ?_
  refine lv_iconst (v := 4) hx hb dX6_feed_2 (by decide) ?_
  obtain ⟨r1, u2, er1, h⟩ := bnd_at h
  refine csI (rest := []) X K G (c_X6_within er1) q_335 my_X6_within ⟨rfl, rfl⟩ ⟨Nat.le_of_ble_eq_true rfl, Nat.le_of_ble_eq_true rfl⟩ ⟨Nat.zero_le _, Nat.zero_le _⟩ rfl hl.1 rfl (Nat.le_of_ble_eq_true rfl) dX6_feed_3 (fun H locs G => ?_)
  clear er1
  refine lv_if_ne (tgt := 15) hx hb dX6_feed_6 (by decide) (fun c3 => ?_) (fun c3 => ?_)
  · have h := if_at c3 h
    refine lv_aload_n hx hb dX6_feed_15 rfl (lv_at hl 0 rfl) ?_
    refine gX_0_3 X K G q_303 dX6_feed_16 ?_
    refine gX_22_1 X K G q_171 dX6_feed_19 ?_
    refine lv_iload_n hx hb dX6_feed_22 rfl (lv_at hl 2 rfl) ?_
    refine lv_iadd hx hb dX6_feed_23 ?_
    refine lv_bipush (v := 120) hx hb dX6_feed_24 (by decide) ?_
    refine lv_icmp_le (tgt := 35) hx hb dX6_feed_26 (by decide) (fun c4 => ?_) (fun c4 => ?_)
    · have h := it_at c4 h
      refine lv_aload_n hx hb dX6_feed_35 rfl (lv_at hl 0 rfl) ?_
      refine gX_0_3 X K G q_303 dX6_feed_36 ?_
      refine lv_iload_n hx hb dX6_feed_39 rfl (lv_at hl 1 rfl) ?_
      refine lv_iload_n hx hb dX6_feed_40 rfl (lv_at hl 2 rfl) ?_
      obtain ⟨r5, u6, er5, h⟩ := bnd_at h
      refine cvV (rest := []) X K G (c_X3_append er5) q_343 my_X3_append ⟨rfl, rfl⟩ ⟨Nat.le_of_ble_eq_true rfl, Nat.le_of_ble_eq_true rfl⟩ ⟨Nat.zero_le _, Nat.zero_le _⟩ 22 3 rfl rfl rfl rfl hl.1 rfl (Nat.le_of_ble_eq_true rfl) dX6_feed_41 (fun H locs G => ?_)
      clear er5
      refine lv_aload_n hx hb dX6_feed_44 rfl (lv_at hl 0 rfl) ?_
      refine gX_0_3 X K G q_303 dX6_feed_45 ?_
      refine gX_22_1 X K G q_171 dX6_feed_48 ?_
      obtain ⟨rfl, rfl⟩ := pair_at h
      exact reI X G dX6_feed_51
    · have h := if_at c4 h
      refine lv_aload_n hx hb dX6_feed_29 rfl (lv_at hl 0 rfl) ?_
      refine lv_iconst (v := 1) hx hb dX6_feed_30 (by decide) ?_
      obtain ⟨r7, u8, er7, h⟩ := bnd_at h
      refine cvI (rest := []) X K G (c_X6_found er7) q_338 my_X6_found ⟨rfl, rfl⟩ ⟨Nat.le_of_ble_eq_true rfl, Nat.le_of_ble_eq_true rfl⟩ ⟨Nat.zero_le _, Nat.zero_le _⟩ 0 6 rfl rfl rfl rfl hl.1 rfl (Nat.le_of_ble_eq_true rfl) dX6_feed_31 (fun H locs G => ?_)
      clear er7
      obtain ⟨rfl, rfl⟩ := pair_at h
      exact reI X G dX6_feed_34
  · have h := it_at c3 h
    refine lv_aload_n hx hb dX6_feed_9 rfl (lv_at hl 0 rfl) ?_
    refine lv_iconst (v := 0) hx hb dX6_feed_10 (by decide) ?_
    obtain ⟨r9, u10, er9, h⟩ := bnd_at h
    refine cvI (rest := []) X K G (c_X6_found er9) q_338 my_X6_found ⟨rfl, rfl⟩ ⟨Nat.le_of_ble_eq_true rfl, Nat.le_of_ble_eq_true rfl⟩ ⟨Nat.zero_le _, Nat.zero_le _⟩ 0 6 rfl rfl rfl rfl hl.1 rfl (Nat.le_of_ble_eq_true rfl) dX6_feed_11 (fun H locs G => ?_)
    clear er9
    obtain ⟨rfl, rfl⟩ := pair_at h
    exact reI X G dX6_feed_14
noncomputable def f_X6_wipe (u0 : XS) : Option (Int32 × XS) :=
  nmv ((xP u0).2) fun x1 =>
  nmv (sP u0 ((xP u0).1, (0 : Int32))) fun u2 =>
  some (x1, u2)
set_option maxRecDepth 100000 in
set_option maxHeartbeats 4000000 in
theorem c_X6_wipe {u0 : XS} {r : Int32} {u' : XS} (h : f_X6_wipe  u0 = some (r, u')) : MI l D cI cZ cQ adK adV A yX6_wipe cX6_wipe 2 (some .int) { frames := 0, cells := 0, slots := 0, locals := 0 } [.ref (ad 0)] (wX cI cZ cQ ad) u0 r u' := by
  unfold f_X6_wipe at h
  refine entI (by decide) (Nat.le_of_ble_eq_true rfl) (fun p e s m below meth c ls X K G hl => ?_)
  have hl : lv_has ls 2 [(0, .ref (ad 0))] := hl
  obtain ⟨hx, hb, -⟩ := id X
  generalize hH : s.heap = H at G
  subst hH
  refine lv_aload_n hx hb dX6_wipe_0 rfl (lv_at hl 0 rfl) ?_
  refine gX_0_3 X K G q_303 dX6_wipe_1 ?_
  refine gX_22_1 X K G q_171 dX6_wipe_4 ?_
  refine lv_topi (fun x1 ex1 => ?_)
  have h := nm_at ex1 h
  refine lv_istore_n (lv' := [(1, .int x1), (0, .ref (ad 0))]) hx hb dX6_wipe_7 rfl hl (by decide) rfl (fun ls hl => ?_)
  refine lv_aload_n hx hb dX6_wipe_8 rfl (lv_at hl 1 rfl) ?_
  refine gX_0_3 X K G q_303 dX6_wipe_9 ?_
  refine lv_iconst (v := 0) hx hb dX6_wipe_12 (by decide) ?_
  refine pX_22_1 X K G q_171 dX6_wipe_13 (fun H locs G => ?_)
  obtain ⟨u2, eu2⟩ : ∃ z : XS, z = sP u0 ((xP u0).1, (0 : Int32)) := ⟨_, rfl⟩
  have G : wg D A s.heap H locs (wX cI cZ cQ ad u2) := by rw [eu2]; exact G
  have h := nm_at eu2 h
  clear eu2
  refine lv_iload_n hx hb dX6_wipe_16 rfl (lv_at hl 0 rfl) ?_
  obtain ⟨rfl, rfl⟩ := pair_at h
  exact reI X G dX6_wipe_17
noncomputable def f_X5_takeFrom_st (u0 : XS) : Option (Int32 × XS) :=
  nmv (tRound (xT u0)) fun x1 =>
  nmv (sS u0 (uRound (xS u0) x1)) fun u2 =>
  nmv (tNear (xT u2)) fun x3 =>
  nmv (sS u2 (uNear (xS u2) x3)) fun u4 =>
  nmv (tZ (xT u4)) fun x5 =>
  nmv (sS u4 (uZ (xS u4) x5)) fun u6 =>
  nmv (tTools (xT u6)) fun x7 =>
  nmv (sS u6 (uTools (xS u6) x7)) fun u8 =>
  nmv (tThings (xT u8)) fun x9 =>
  nmv (sS u8 (uThings (xS u8) x9)) fun u10 =>
  nmv (tOrders (xT u10)) fun x11 =>
  nmv (sS u10 (uOrders (xS u10) x11)) fun u12 =>
  nmv (sS u12 (uDays (xS u12) (va_cpy (tDays (xT u12)) (tDays (xS u12)) (0 : Int32).toNatClampNeg (0 : Int32).toNatClampNeg (8 : Int32).toNatClampNeg))) fun u13 =>
  nmv (sS u13 (uKinds (xS u13) (va_cpy (tKinds (xT u13)) (tKinds (xS u13)) (0 : Int32).toNatClampNeg (0 : Int32).toNatClampNeg (8 : Int32).toNatClampNeg))) fun u14 =>
  nmv (sS u14 (uCounts (xS u14) (va_cpy (tCounts (xT u14)) (tCounts (xS u14)) (0 : Int32).toNatClampNeg (0 : Int32).toNatClampNeg (8 : Int32).toNatClampNeg))) fun u15 =>
  nmv (sS u15 (uNums (xS u15) (va_cpy (tNums (xT u15)) (tNums (xS u15)) (0 : Int32).toNatClampNeg (0 : Int32).toNatClampNeg (192 : Int32).toNatClampNeg))) fun u16 =>
  nmv (sS u16 (uOrd (xS u16) (va_cpy (tOrd (xT u16)) (tOrd (xS u16)) (0 : Int32).toNatClampNeg (0 : Int32).toNatClampNeg (15 : Int32).toNatClampNeg))) fun u17 =>
  nmv (sS u17 (uSpots (xS u17) (va_cpy (tSpots (xT u17)) (tSpots (xS u17)) (0 : Int32).toNatClampNeg (0 : Int32).toNatClampNeg (10 : Int32).toNatClampNeg))) fun u18 =>
  some ((0 : Int32), u18)
set_option maxRecDepth 100000 in
set_option maxHeartbeats 4000000 in
theorem c_X5_takeFrom_st {u0 : XS} {r : Int32} {u' : XS} (h : f_X5_takeFrom_st  u0 = some (r, u')) : MV l D cI cZ cQ adK adV A yX5_takeFrom cX5_takeFrom 2 { frames := 1, cells := 0, slots := 0, locals := 18 } [.ref (ad 15), .ref (ad 1)] (wX cI cZ cQ ad) u0 u' := by
  unfold f_X5_takeFrom_st at h
  refine entV (by decide) (Nat.le_of_ble_eq_true rfl) (fun p e s m below meth c ls X K G hl => ?_)
  have hl : lv_has ls 2 [(0, .ref (ad 15)), (1, .ref (ad 1))] := hl
  obtain ⟨hx, hb, -⟩ := id X
  generalize hH : s.heap = H at G
  subst hH
  refine lv_aload_n hx hb dX5_takeFrom_0 rfl (lv_at hl 0 rfl) ?_
  refine lv_aload_n hx hb dX5_takeFrom_1 rfl (lv_at hl 1 rfl) ?_
  refine gX_1_0 X K G q_101 dX5_takeFrom_2 ?_
  refine lv_topi (fun x1 ex1 => ?_)
  have h := nm_at ex1 h
  refine pX_15_0 X K G q_101 dX5_takeFrom_5 (fun H locs G => ?_)
  obtain ⟨u2, eu2⟩ : ∃ z : XS, z = sS u0 (uRound (xS u0) x1) := ⟨_, rfl⟩
  have G : wg D A s.heap H locs (wX cI cZ cQ ad u2) := by rw [eu2]; exact G
  have h := nm_at eu2 h
  clear eu2
  refine lv_aload_n hx hb dX5_takeFrom_8 rfl (lv_at hl 0 rfl) ?_
  refine lv_aload_n hx hb dX5_takeFrom_9 rfl (lv_at hl 1 rfl) ?_
  refine gX_1_1 X K G q_106 dX5_takeFrom_10 ?_
  refine lv_topi (fun x3 ex3 => ?_)
  have h := nm_at ex3 h
  refine pX_15_1 X K G q_106 dX5_takeFrom_13 (fun H locs G => ?_)
  obtain ⟨u4, eu4⟩ : ∃ z : XS, z = sS u2 (uNear (xS u2) x3) := ⟨_, rfl⟩
  have G : wg D A s.heap H locs (wX cI cZ cQ ad u4) := by rw [eu4]; exact G
  have h := nm_at eu4 h
  clear eu4
  refine lv_aload_n hx hb dX5_takeFrom_16 rfl (lv_at hl 0 rfl) ?_
  refine lv_aload_n hx hb dX5_takeFrom_17 rfl (lv_at hl 1 rfl) ?_
  refine gX_1_2 X K G q_110 dX5_takeFrom_18 ?_
  refine lv_topi (fun x5 ex5 => ?_)
  have h := nm_at ex5 h
  refine pX_15_2 X K G q_110 dX5_takeFrom_21 (fun H locs G => ?_)
  obtain ⟨u6, eu6⟩ : ∃ z : XS, z = sS u4 (uZ (xS u4) x5) := ⟨_, rfl⟩
  have G : wg D A s.heap H locs (wX cI cZ cQ ad u6) := by rw [eu6]; exact G
  have h := nm_at eu6 h
  clear eu6
  refine lv_aload_n hx hb dX5_takeFrom_24 rfl (lv_at hl 0 rfl) ?_
  refine lv_aload_n hx hb dX5_takeFrom_25 rfl (lv_at hl 1 rfl) ?_
  refine gX_1_3 X K G q_112 dX5_takeFrom_26 ?_
  refine lv_topi (fun x7 ex7 => ?_)
  have h := nm_at ex7 h
  refine pX_15_3 X K G q_112 dX5_takeFrom_29 (fun H locs G => ?_)
  obtain ⟨u8, eu8⟩ : ∃ z : XS, z = sS u6 (uTools (xS u6) x7) := ⟨_, rfl⟩
  have G : wg D A s.heap H locs (wX cI cZ cQ ad u8) := by rw [eu8]; exact G
  have h := nm_at eu8 h
  clear eu8
  refine lv_aload_n hx hb dX5_takeFrom_32 rfl (lv_at hl 0 rfl) ?_
  refine lv_aload_n hx hb dX5_takeFrom_33 rfl (lv_at hl 1 rfl) ?_
  refine gX_1_4 X K G q_115 dX5_takeFrom_34 ?_
  refine lv_topi (fun x9 ex9 => ?_)
  have h := nm_at ex9 h
  refine pX_15_4 X K G q_115 dX5_takeFrom_37 (fun H locs G => ?_)
  obtain ⟨u10, eu10⟩ : ∃ z : XS, z = sS u8 (uThings (xS u8) x9) := ⟨_, rfl⟩
  have G : wg D A s.heap H locs (wX cI cZ cQ ad u10) := by rw [eu10]; exact G
  have h := nm_at eu10 h
  clear eu10
  refine lv_aload_n hx hb dX5_takeFrom_40 rfl (lv_at hl 0 rfl) ?_
  refine lv_aload_n hx hb dX5_takeFrom_41 rfl (lv_at hl 1 rfl) ?_
  refine gX_1_5 X K G q_118 dX5_takeFrom_42 ?_
  refine lv_topi (fun x11 ex11 => ?_)
  have h := nm_at ex11 h
  refine pX_15_5 X K G q_118 dX5_takeFrom_45 (fun H locs G => ?_)
  obtain ⟨u12, eu12⟩ : ∃ z : XS, z = sS u10 (uOrders (xS u10) x11) := ⟨_, rfl⟩
  have G : wg D A s.heap H locs (wX cI cZ cQ ad u12) := by rw [eu12]; exact G
  have h := nm_at eu12 h
  clear eu12
  refine lv_aload_n hx hb dX5_takeFrom_48 rfl (lv_at hl 1 rfl) ?_
  refine gX_1_6 X K G q_122 dX5_takeFrom_49 ?_
  refine lv_iconst (v := 0) hx hb dX5_takeFrom_52 (by decide) ?_
  refine lv_aload_n hx hb dX5_takeFrom_53 rfl (lv_at hl 0 rfl) ?_
  refine gX_15_6 X K G q_122 dX5_takeFrom_54 ?_
  refine lv_iconst (v := 0) hx hb dX5_takeFrom_57 (by decide) ?_
  refine lv_bipush (v := 8) hx hb dX5_takeFrom_58 (by decide) ?_
  refine gcpy X K G hl.1 q_359 2 16 rfl rfl cp_w (by decide) (Nat.le_of_ble_eq_true rfl) (Nat.le_of_ble_eq_true rfl) rfl dX5_takeFrom_60 (fun H locs G => ?_)
  obtain ⟨u13, eu13⟩ : ∃ z : XS, z = sS u12 (uDays (xS u12) (va_cpy (tDays (xT u12)) (tDays (xS u12)) (0 : Int32).toNatClampNeg (0 : Int32).toNatClampNeg (8 : Int32).toNatClampNeg)) := ⟨_, rfl⟩
  have G : wg D A s.heap H locs (wX cI cZ cQ ad u13) := by rw [eu13]; exact G
  have h := nm_at eu13 h
  clear eu13
  refine lv_aload_n hx hb dX5_takeFrom_63 rfl (lv_at hl 1 rfl) ?_
  refine gX_1_7 X K G q_125 dX5_takeFrom_64 ?_
  refine lv_iconst (v := 0) hx hb dX5_takeFrom_67 (by decide) ?_
  refine lv_aload_n hx hb dX5_takeFrom_68 rfl (lv_at hl 0 rfl) ?_
  refine gX_15_7 X K G q_125 dX5_takeFrom_69 ?_
  refine lv_iconst (v := 0) hx hb dX5_takeFrom_72 (by decide) ?_
  refine lv_bipush (v := 8) hx hb dX5_takeFrom_73 (by decide) ?_
  refine gcpy X K G hl.1 q_359 3 17 rfl rfl cp_w (by decide) (Nat.le_of_ble_eq_true rfl) (Nat.le_of_ble_eq_true rfl) rfl dX5_takeFrom_75 (fun H locs G => ?_)
  obtain ⟨u14, eu14⟩ : ∃ z : XS, z = sS u13 (uKinds (xS u13) (va_cpy (tKinds (xT u13)) (tKinds (xS u13)) (0 : Int32).toNatClampNeg (0 : Int32).toNatClampNeg (8 : Int32).toNatClampNeg)) := ⟨_, rfl⟩
  have G : wg D A s.heap H locs (wX cI cZ cQ ad u14) := by rw [eu14]; exact G
  have h := nm_at eu14 h
  clear eu14
  refine lv_aload_n hx hb dX5_takeFrom_78 rfl (lv_at hl 1 rfl) ?_
  refine gX_1_8 X K G q_128 dX5_takeFrom_79 ?_
  refine lv_iconst (v := 0) hx hb dX5_takeFrom_82 (by decide) ?_
  refine lv_aload_n hx hb dX5_takeFrom_83 rfl (lv_at hl 0 rfl) ?_
  refine gX_15_8 X K G q_128 dX5_takeFrom_84 ?_
  refine lv_iconst (v := 0) hx hb dX5_takeFrom_87 (by decide) ?_
  refine lv_bipush (v := 8) hx hb dX5_takeFrom_88 (by decide) ?_
  refine gcpy X K G hl.1 q_359 4 18 rfl rfl cp_w (by decide) (Nat.le_of_ble_eq_true rfl) (Nat.le_of_ble_eq_true rfl) rfl dX5_takeFrom_90 (fun H locs G => ?_)
  obtain ⟨u15, eu15⟩ : ∃ z : XS, z = sS u14 (uCounts (xS u14) (va_cpy (tCounts (xT u14)) (tCounts (xS u14)) (0 : Int32).toNatClampNeg (0 : Int32).toNatClampNeg (8 : Int32).toNatClampNeg)) := ⟨_, rfl⟩
  have G : wg D A s.heap H locs (wX cI cZ cQ ad u15) := by rw [eu15]; exact G
  have h := nm_at eu15 h
  clear eu15
  refine lv_aload_n hx hb dX5_takeFrom_93 rfl (lv_at hl 1 rfl) ?_
  refine gX_1_9 X K G q_132 dX5_takeFrom_94 ?_
  refine lv_iconst (v := 0) hx hb dX5_takeFrom_97 (by decide) ?_
  refine lv_aload_n hx hb dX5_takeFrom_98 rfl (lv_at hl 0 rfl) ?_
  refine gX_15_9 X K G q_132 dX5_takeFrom_99 ?_
  refine lv_iconst (v := 0) hx hb dX5_takeFrom_102 (by decide) ?_
  refine lv_sipush (v := 192) hx hb dX5_takeFrom_103 (by decide) ?_
  refine gcpy X K G hl.1 q_359 5 19 rfl rfl cp_w (by decide) (Nat.le_of_ble_eq_true rfl) (Nat.le_of_ble_eq_true rfl) rfl dX5_takeFrom_106 (fun H locs G => ?_)
  obtain ⟨u16, eu16⟩ : ∃ z : XS, z = sS u15 (uNums (xS u15) (va_cpy (tNums (xT u15)) (tNums (xS u15)) (0 : Int32).toNatClampNeg (0 : Int32).toNatClampNeg (192 : Int32).toNatClampNeg)) := ⟨_, rfl⟩
  have G : wg D A s.heap H locs (wX cI cZ cQ ad u16) := by rw [eu16]; exact G
  have h := nm_at eu16 h
  clear eu16
  refine lv_aload_n hx hb dX5_takeFrom_109 rfl (lv_at hl 1 rfl) ?_
  refine gX_1_10 X K G q_133 dX5_takeFrom_110 ?_
  refine lv_iconst (v := 0) hx hb dX5_takeFrom_113 (by decide) ?_
  refine lv_aload_n hx hb dX5_takeFrom_114 rfl (lv_at hl 0 rfl) ?_
  refine gX_15_10 X K G q_133 dX5_takeFrom_115 ?_
  refine lv_iconst (v := 0) hx hb dX5_takeFrom_118 (by decide) ?_
  refine lv_bipush (v := 15) hx hb dX5_takeFrom_119 (by decide) ?_
  refine gcpy X K G hl.1 q_359 6 20 rfl rfl cp_w (by decide) (Nat.le_of_ble_eq_true rfl) (Nat.le_of_ble_eq_true rfl) rfl dX5_takeFrom_121 (fun H locs G => ?_)
  obtain ⟨u17, eu17⟩ : ∃ z : XS, z = sS u16 (uOrd (xS u16) (va_cpy (tOrd (xT u16)) (tOrd (xS u16)) (0 : Int32).toNatClampNeg (0 : Int32).toNatClampNeg (15 : Int32).toNatClampNeg)) := ⟨_, rfl⟩
  have G : wg D A s.heap H locs (wX cI cZ cQ ad u17) := by rw [eu17]; exact G
  have h := nm_at eu17 h
  clear eu17
  refine lv_aload_n hx hb dX5_takeFrom_124 rfl (lv_at hl 1 rfl) ?_
  refine gX_1_11 X K G q_134 dX5_takeFrom_125 ?_
  refine lv_iconst (v := 0) hx hb dX5_takeFrom_128 (by decide) ?_
  refine lv_aload_n hx hb dX5_takeFrom_129 rfl (lv_at hl 0 rfl) ?_
  refine gX_15_11 X K G q_134 dX5_takeFrom_130 ?_
  refine lv_iconst (v := 0) hx hb dX5_takeFrom_133 (by decide) ?_
  refine lv_bipush (v := 10) hx hb dX5_takeFrom_134 (by decide) ?_
  refine gcpy X K G hl.1 q_359 7 21 rfl rfl cp_w (by decide) (Nat.le_of_ble_eq_true rfl) (Nat.le_of_ble_eq_true rfl) rfl dX5_takeFrom_136 (fun H locs G => ?_)
  obtain ⟨u18, eu18⟩ : ∃ z : XS, z = sS u17 (uSpots (xS u17) (va_cpy (tSpots (xT u17)) (tSpots (xS u17)) (0 : Int32).toNatClampNeg (0 : Int32).toNatClampNeg (10 : Int32).toNatClampNeg)) := ⟨_, rfl⟩
  have G : wg D A s.heap H locs (wX cI cZ cQ ad u18) := by rw [eu18]; exact G
  have h := nm_at eu18 h
  clear eu18
  obtain ⟨rfl, rfl⟩ := pair_at h
  exact reV X G dX5_takeFrom_139
noncomputable def f_X4_tokenAt_55 (v2 : Int32) (u0 : XS) : Option (Int32 × XS) :=
  (if v2 = (59 : Int32) then
    some ((3 : Int32), u0)
  else
    (if v2 = (44 : Int32) then
      some ((4 : Int32), u0)
    else
      some ((5 : Int32), u0)))
set_option maxRecDepth 100000 in
set_option maxHeartbeats 4000000 in
theorem b_X4_tokenAt_55 (X : cx p s m args meth c cX4_tokenAt 3 RX4 (some .int)) (K : kx D cI cZ cQ adK adV A s s.heap) {v2 : Int32} {u0 : XS} (G : wg D A s.heap H locs (wX cI cZ cQ ad u0)) (hl : lv_has ls 3 [(2, .int v2)]) {r : Int32} {u' : XS} (h : f_X4_tokenAt_55 v2 u0 = some (r, u')) : W p l e { frames := 0, cells := 0, slots := 0, locals := 0 } s m args below meth c H locs 0 0 (qI D A (wX cI cZ cQ ad) below args s r u') (F0 m 55 ls []) := by
  unfold f_X4_tokenAt_55 at h
  obtain ⟨hx, hb, -⟩ := id X
  refine lv_iload_n hx hb dX4_tokenAt_55 rfl (lv_at hl 0 rfl) ?_
  refine lv_bipush (v := 59) hx hb dX4_tokenAt_56 (by decide) ?_
  refine lv_icmp_ne (tgt := 63) hx hb dX4_tokenAt_58 (by decide) (fun c1 => ?_) (fun c1 => ?_)
  · have h := if_at c1 h
    refine lv_iload_n hx hb dX4_tokenAt_63 rfl (lv_at hl 0 rfl) ?_
    refine lv_bipush (v := 44) hx hb dX4_tokenAt_64 (by decide) ?_
    refine lv_icmp_ne (tgt := 73) hx hb dX4_tokenAt_66 (by decide) (fun c2 => ?_) (fun c2 => ?_)
    · have h := if_at c2 h
      refine lv_iconst (v := 5) hx hb dX4_tokenAt_73 (by decide) ?_
      obtain ⟨rfl, rfl⟩ := pair_at h
      exact reI X G dX4_tokenAt_74
    · have h := it_at c2 h
      refine lv_iconst (v := 4) hx hb dX4_tokenAt_69 (by decide) ?_
      refine lv_goto (tgt := 74) hx hb dX4_tokenAt_70 (by decide) ?_
      obtain ⟨rfl, rfl⟩ := pair_at h
      exact reI X G dX4_tokenAt_74
  · have h := it_at c1 h
    refine lv_iconst (v := 3) hx hb dX4_tokenAt_61 (by decide) ?_
    obtain ⟨rfl, rfl⟩ := pair_at h
    exact reI X G dX4_tokenAt_62
noncomputable def f_X4_tokenAt_41 (v2 : Int32) (u0 : XS) : Option (Int32 × XS) :=
  (if v2 < (48 : Int32) then
    f_X4_tokenAt_55 v2 u0
  else
    (if (57 : Int32) < v2 then
      f_X4_tokenAt_55 v2 u0
    else
      some ((2 : Int32), u0)))
set_option maxRecDepth 100000 in
set_option maxHeartbeats 4000000 in
theorem b_X4_tokenAt_41 (X : cx p s m args meth c cX4_tokenAt 3 RX4 (some .int)) (K : kx D cI cZ cQ adK adV A s s.heap) {v2 : Int32} {u0 : XS} (G : wg D A s.heap H locs (wX cI cZ cQ ad u0)) (hl : lv_has ls 3 [(2, .int v2)]) {r : Int32} {u' : XS} (h : f_X4_tokenAt_41 v2 u0 = some (r, u')) : W p l e { frames := 0, cells := 0, slots := 0, locals := 0 } s m args below meth c H locs 0 0 (qI D A (wX cI cZ cQ ad) below args s r u') (F0 m 41 ls []) := by
  unfold f_X4_tokenAt_41 at h
  obtain ⟨hx, hb, -⟩ := id X
  refine lv_iload_n hx hb dX4_tokenAt_41 rfl (lv_at hl 0 rfl) ?_
  refine lv_bipush (v := 48) hx hb dX4_tokenAt_42 (by decide) ?_
  refine lv_icmp_lt (tgt := 55) hx hb dX4_tokenAt_44 (by decide) (fun c1 => ?_) (fun c1 => ?_)
  · have h := it_at c1 h
    exact b_X4_tokenAt_55 X K G (lv_sub hl [0] rfl) h
  · have h := if_at c1 h
    refine lv_iload_n hx hb dX4_tokenAt_47 rfl (lv_at hl 0 rfl) ?_
    refine lv_bipush (v := 57) hx hb dX4_tokenAt_48 (by decide) ?_
    refine lv_icmp_gt (tgt := 55) hx hb dX4_tokenAt_50 (by decide) (fun c2 => ?_) (fun c2 => ?_)
    · have h := it_at c2 h
      exact b_X4_tokenAt_55 X K G (lv_sub hl [0] rfl) h
    · have h := if_at c2 h
      refine lv_iconst (v := 2) hx hb dX4_tokenAt_53 (by decide) ?_
      obtain ⟨rfl, rfl⟩ := pair_at h
      exact reI X G dX4_tokenAt_54
noncomputable def f_X4_tokenAt (a1 : Int32) (u0 : XS) : Option (Int32 × XS) :=
  (if a1 < 0 then
    some ((0 : Int32), u0)
  else
    (if a1 < ((xP u0).2) then
      if a1 < 0 ∨ 120 ≤ a1.toNatClampNeg then none else
      nmv (((xP u0).1) a1.toNatClampNeg) fun x4 =>
      (if x4 < (97 : Int32) then
        f_X4_tokenAt_41 x4 u0
      else
        (if (122 : Int32) < x4 then
          f_X4_tokenAt_41 x4 u0
        else
          some ((1 : Int32), u0)))
    else
      some ((0 : Int32), u0)))
set_option maxRecDepth 100000 in
set_option maxHeartbeats 4000000 in
theorem c_X4_tokenAt {a1 : Int32} {u0 : XS} {r : Int32} {u' : XS} (h : f_X4_tokenAt a1 u0 = some (r, u')) : MI l D cI cZ cQ adK adV A yX4_tokenAt cX4_tokenAt 3 (some .int) { frames := 0, cells := 0, slots := 0, locals := 0 } [.ref (ad 33), .int a1] (wX cI cZ cQ ad) u0 r u' := by
  unfold f_X4_tokenAt at h
  refine entI (by decide) (Nat.le_of_ble_eq_true rfl) (fun p e s m below meth c ls X K G hl => ?_)
  have hl : lv_has ls 3 [(0, .ref (ad 33)), (1, .int a1)] := hl
  obtain ⟨hx, hb, -⟩ := id X
  generalize hH : s.heap = H at G
  subst hH
  refine lv_iload_n hx hb dX4_tokenAt_0 rfl (lv_at hl 1 rfl) ?_
  refine lv_if_lt (tgt := 15) hx hb dX4_tokenAt_1 (by decide) (fun c1 => ?_) (fun c1 => ?_)
  · have h := it_at c1 h
    refine lv_iconst (v := 0) hx hb dX4_tokenAt_15 (by decide) ?_
    obtain ⟨rfl, rfl⟩ := pair_at h
    exact reI X G dX4_tokenAt_16
  · have h := if_at c1 h
    refine lv_iload_n hx hb dX4_tokenAt_4 rfl (lv_at hl 1 rfl) ?_
    refine lv_aload_n hx hb dX4_tokenAt_5 rfl (lv_at hl 0 rfl) ?_
    refine gX_33_0 X K G q_259 dX4_tokenAt_6 ?_
    refine gX_22_1 X K G q_172 dX4_tokenAt_9 ?_
    refine lv_icmp_lt (tgt := 17) hx hb dX4_tokenAt_12 (by decide) (fun c2 => ?_) (fun c2 => ?_)
    · have h := it_at c2 h
      refine lv_aload_n hx hb dX4_tokenAt_17 rfl (lv_at hl 0 rfl) ?_
      refine gX_33_0 X K G q_259 dX4_tokenAt_18 ?_
      refine gX_22_0 X K G q_169 dX4_tokenAt_21 ?_
      refine lv_iload_n hx hb dX4_tokenAt_24 rfl (lv_at hl 1 rfl) ?_
      obtain ⟨g3, h⟩ := ck_at h
      refine lX_23 X K G g3 dX4_tokenAt_25 ?_
      refine lv_topi (fun x4 ex4 => ?_)
      have h := nm_at ex4 h
      refine lv_istore_n (lv' := [(2, .int x4), (0, .ref (ad 33)), (1, .int a1)]) hx hb dX4_tokenAt_26 rfl hl (by decide) rfl (fun ls hl => ?_)
      refine lv_iload_n hx hb dX4_tokenAt_27 rfl (lv_at hl 0 rfl) ?_
      refine lv_bipush (v := 97) hx hb dX4_tokenAt_28 (by decide) ?_
      refine lv_icmp_lt (tgt := 41) hx hb dX4_tokenAt_30 (by decide) (fun c5 => ?_) (fun c5 => ?_)
      · have h := it_at c5 h
        exact b_X4_tokenAt_41 X K G (lv_sub hl [0] rfl) h
      · have h := if_at c5 h
        refine lv_iload_n hx hb dX4_tokenAt_33 rfl (lv_at hl 0 rfl) ?_
        refine lv_bipush (v := 122) hx hb dX4_tokenAt_34 (by decide) ?_
        refine lv_icmp_gt (tgt := 41) hx hb dX4_tokenAt_36 (by decide) (fun c6 => ?_) (fun c6 => ?_)
        · have h := it_at c6 h
          exact b_X4_tokenAt_41 X K G (lv_sub hl [0] rfl) h
        · have h := if_at c6 h
          refine lv_iconst (v := 1) hx hb dX4_tokenAt_39 (by decide) ?_
          obtain ⟨rfl, rfl⟩ := pair_at h
          exact reI X G dX4_tokenAt_40
    · have h := if_at c2 h
      refine lv_iconst (v := 0) hx hb dX4_tokenAt_15 (by decide) ?_
      obtain ⟨rfl, rfl⟩ := pair_at h
      exact reI X G dX4_tokenAt_16
noncomputable def f_X4_numberAtHand_L7_7 (v1 : Int32) (v2 : Int32) (u0 : XS) : Option ((Int32 × Int32 × XS) ⊕ ((Int32 × XS) ⊕ (Int32 × XS))) :=
  (if (r_end (xR u0)) ≤ v2 then
    some (.inr (.inr (v1, u0)))
  else
    (if (999 : Int32) < v1 then
      some (.inr (.inr (v1, u0)))
    else
      if v2 < 0 ∨ 120 ≤ v2.toNatClampNeg then none else
      nmv (((v1 * (10 : Int32)) + (((xP u0).1) v2.toNatClampNeg)) - (48 : Int32)) fun x4 =>
      nmv (v2 + (1 : Int32)) fun x5 =>
      some (.inl (x4, x5, u0))))
set_option maxRecDepth 100000 in
set_option maxHeartbeats 4000000 in
theorem b_X4_numberAtHand_L7_7 (X : cx p s m args meth c cX4_numberAtHand 3 RX4 (some .int)) (K : kx D cI cZ cQ adK adV A s s.heap) {v1 : Int32} {v2 : Int32} {u0 : XS} (G : wg D A s.heap H locs (wX cI cZ cQ ad u0)) (hl : lv_has ls 3 [(0, .ref (ad 33)), (1, .int v1), (2, .int v2)]) {q : ((Int32 × Int32 × XS) ⊕ ((Int32 × XS) ⊕ (Int32 × XS)))} (h : f_X4_numberAtHand_L7_7 v1 v2 u0 = some q) (hB : ∀ (v1 : Int32) (v2 : Int32) (u : XS), q = .inl (v1, v2, u) → ∀ (H : Heap) (locs : List Loc) (ls : Array Slot), wg D A s.heap H locs (wX cI cZ cQ ad u) → lv_has ls 3 [(0, .ref (ad 33)), (1, .int v1), (2, .int v2)] → W p l e { frames := 0, cells := 0, slots := 0, locals := 0 } s m args below meth c H locs 0 0 Q (F0 m 7 ls [])) (hX : ∀ (v1 : Int32) (u : XS), q = .inr (.inr (v1, u)) → ∀ (H : Heap) (locs : List Loc) (ls : Array Slot), wg D A s.heap H locs (wX cI cZ cQ ad u) → lv_has ls 3 [(1, .int v1)] → W p l e { frames := 0, cells := 0, slots := 0, locals := 0 } s m args below meth c H locs 0 0 Q (F0 m 46 ls [])) (hR : ∀ (r : Int32) (u : XS), q = .inr (.inl (r, u)) → Q = (qI D A (wX cI cZ cQ ad) below args s r u)) : W p l e { frames := 0, cells := 0, slots := 0, locals := 0 } s m args below meth c H locs 0 0 Q (F0 m 7 ls []) := by
  unfold f_X4_numberAtHand_L7_7 at h
  obtain ⟨hx, hb, -⟩ := id X
  refine lv_iload_n hx hb dX4_numberAtHand_7 rfl (lv_at hl 2 rfl) ?_
  refine lv_aload_n hx hb dX4_numberAtHand_8 rfl (lv_at hl 0 rfl) ?_
  refine gX_33_4 X K G q_263 dX4_numberAtHand_9 ?_
  refine lv_icmp_ge (tgt := 46) hx hb dX4_numberAtHand_12 (by decide) (fun c1 => ?_) (fun c1 => ?_)
  · have h := it_at c1 h
    exact hX _ _ (Option.some.inj h).symm _ _ _ G (lv_sub hl [1] rfl)
  · have h := if_at c1 h
    refine lv_iload_n hx hb dX4_numberAtHand_15 rfl (lv_at hl 1 rfl) ?_
    refine lv_sipush (v := 999) hx hb dX4_numberAtHand_16 (by decide) ?_
    refine lv_icmp_gt (tgt := 46) hx hb dX4_numberAtHand_19 (by decide) (fun c2 => ?_) (fun c2 => ?_)
    · have h := it_at c2 h
      exact hX _ _ (Option.some.inj h).symm _ _ _ G (lv_sub hl [1] rfl)
    · have h := if_at c2 h
      refine lv_iload_n hx hb dX4_numberAtHand_22 rfl (lv_at hl 1 rfl) ?_
      refine lv_bipush (v := 10) hx hb dX4_numberAtHand_23 (by decide) ?_
      refine lv_imul hx hb dX4_numberAtHand_25 ?_
      refine lv_aload_n hx hb dX4_numberAtHand_26 rfl (lv_at hl 0 rfl) ?_
      refine gX_33_0 X K G q_259 dX4_numberAtHand_27 ?_
      refine gX_22_0 X K G q_169 dX4_numberAtHand_30 ?_
      refine lv_iload_n hx hb dX4_numberAtHand_33 rfl (lv_at hl 2 rfl) ?_
      obtain ⟨g3, h⟩ := ck_at h
      refine lX_23 X K G g3 dX4_numberAtHand_34 ?_
      refine lv_iadd hx hb dX4_numberAtHand_35 ?_
      refine lv_bipush (v := 48) hx hb dX4_numberAtHand_36 (by decide) ?_
      refine lv_isub hx hb dX4_numberAtHand_38 ?_
      refine lv_topi (fun x4 ex4 => ?_)
      have h := nm_at ex4 h
      refine lv_istore_n (lv' := [(1, .int x4), (0, .ref (ad 33)), (2, .int v2)]) hx hb dX4_numberAtHand_39 rfl hl (by decide) rfl (fun ls hl => ?_)
      obtain ⟨x5, ex5⟩ : ∃ z : Int32, z = v2 + (1 : Int32) := ⟨_, rfl⟩
      have h := nm_at ex5 h
      refine lv_iinc (v := x5) (lv' := [(2, .int x5), (1, .int x4), (0, .ref (ad 33))]) hx hb dX4_numberAtHand_40 hl (k := 2) rfl (by rw [ex5]; rfl) (by decide) rfl (fun ls hl => ?_)
      refine lv_goto (tgt := 7) hx hb dX4_numberAtHand_43 (by decide) ?_
      exact hB _ _ _ (Option.some.inj h).symm _ _ _ G (lv_sub hl [2, 1, 0] rfl)
noncomputable def f_X4_numberAtHand_L7_7s (q : Int32 × Int32 × XS) : Option ((Int32 × Int32 × XS) ⊕ ((Int32 × XS) ⊕ (Int32 × XS))) := f_X4_numberAtHand_L7_7 q.1 q.2.1 q.2.2
set_option maxRecDepth 100000 in
set_option maxHeartbeats 4000000 in
theorem w_X4_numberAtHand_L7_7 (X : cx p s m args meth c cX4_numberAtHand 3 RX4 (some .int)) (K : kx D cI cZ cQ adK adV A s s.heap) {e0 : (Int32 × XS) ⊕ (Int32 × XS)} : ∀ (n : Nat) (v1 : Int32) (v2 : Int32) (u : XS) {H : Heap} {locs : List Loc} {ls : Array Slot}, wh f_X4_numberAtHand_L7_7s n (v1, v2, u) = some e0 → wg D A s.heap H locs (wX cI cZ cQ ad u) → lv_has ls 3 [(0, .ref (ad 33)), (1, .int v1), (2, .int v2)] → (∀ (v1 : Int32) (u : XS), e0 = .inr (v1, u) → ∀ (H : Heap) (locs : List Loc) (ls : Array Slot), wg D A s.heap H locs (wX cI cZ cQ ad u) → lv_has ls 3 [(1, .int v1)] → W p l e { frames := 0, cells := 0, slots := 0, locals := 0 } s m args below meth c H locs 0 0 Q (F0 m 46 ls [])) → (∀ (r : Int32) (u : XS), e0 = .inl (r, u) → Q = (qI D A (wX cI cZ cQ ad) below args s r u)) → W p l e { frames := 0, cells := 0, slots := 0, locals := 0 } s m args below meth c H locs 0 0 Q (F0 m 7 ls []) := by
  intro n
  induction n with
  | zero => intro v1 v2 u H locs ls h; cases h
  | succ n ih =>
    intro v1 v2 u H locs ls h G hl hX hR
    obtain ⟨q, h1, h2, h3⟩ := wh_at h
    exact b_X4_numberAtHand_L7_7 X K G hl (show f_X4_numberAtHand_L7_7 v1 v2 u = some q from h1) (fun b0 b1 b2 ee H locs ls G hl => ih b0 b1 b2 (h2 _ ee) G hl hX hR) (fun z0 z1 ee => hX z0 z1 (h3 _ ee).symm) (fun r u ee => hR r u (h3 _ ee).symm)
noncomputable def f_X4_numberAtHand (u0 : XS) : Option (Int32 × XS) :=
  nmv (r_start (xR u0)) fun x1 =>
  bne (wl f_X4_numberAtHand_L7_7s ((0 : Int32), x1, u0)) (fun a => some a) fun b =>
    nmv b.1 fun y5 =>
    nmv b.2 fun u4 =>
    some (y5, u4)
set_option maxRecDepth 100000 in
set_option maxHeartbeats 4000000 in
theorem c_X4_numberAtHand {u0 : XS} {r : Int32} {u' : XS} (h : f_X4_numberAtHand  u0 = some (r, u')) : MI l D cI cZ cQ adK adV A yX4_numberAtHand cX4_numberAtHand 3 (some .int) { frames := 0, cells := 0, slots := 0, locals := 0 } [.ref (ad 33)] (wX cI cZ cQ ad) u0 r u' := by
  unfold f_X4_numberAtHand at h
  refine entI (by decide) (Nat.le_of_ble_eq_true rfl) (fun p e s m below meth c ls X K G hl => ?_)
  have hl : lv_has ls 3 [(0, .ref (ad 33))] := hl
  obtain ⟨hx, hb, -⟩ := id X
  generalize hH : s.heap = H at G
  subst hH
  refine lv_iconst (v := 0) hx hb dX4_numberAtHand_0 (by decide) ?_
  refine lv_istore_n (lv' := [(1, .int (0 : Int32)), (0, .ref (ad 33))]) hx hb dX4_numberAtHand_1 rfl hl (by decide) rfl (fun ls hl => ?_)
  refine lv_aload_n hx hb dX4_numberAtHand_2 rfl (lv_at hl 1 rfl) ?_
  refine gX_33_3 X K G q_262 dX4_numberAtHand_3 ?_
  refine lv_topi (fun x1 ex1 => ?_)
  have h := nm_at ex1 h
  refine lv_istore_n (lv' := [(2, .int x1), (1, .int (0 : Int32)), (0, .ref (ad 33))]) hx hb dX4_numberAtHand_6 rfl hl (by decide) rfl (fun ls hl => ?_)
  obtain ⟨q3, hq3, ha, hb1⟩ := bne_at h
  obtain ⟨n2, hn2⟩ := wl_iff.mp hq3
  refine w_X4_numberAtHand_L7_7 X K n2 _ _ _ hn2 G (lv_sub hl [2, 1, 0] rfl) (fun y5 u4 ee H locs ls G hl => ?_) (fun r u1 ee => by obtain ⟨rfl, rfl⟩ := pair_at (ha _ ee); rfl)
  have h := hb1 _ ee
  clear ee ha hb1 hq3 hn2
  have h := nm_at (x := y5) rfl h
  have h := nm_at (x := u4) rfl h
  refine lv_iload_n hx hb dX4_numberAtHand_46 rfl (lv_at hl 0 rfl) ?_
  obtain ⟨rfl, rfl⟩ := pair_at h
  exact reI X G dX4_numberAtHand_47
noncomputable def f_X4_goOn_L8_8 (u0 : XS) : Option ((XS) ⊕ ((Int32 × XS) ⊕ (XS))) :=
  (if ((xP u0).2) ≤ (r_start (xR u0)) then
    some (.inr (.inr u0))
  else
    nmv (r_start (xR u0)) fun x2 =>
    if x2 < 0 ∨ 120 ≤ x2.toNatClampNeg then none else
    (if (((xP u0).1) x2.toNatClampNeg) = (32 : Int32) then
      nmv ((r_start (xR u0)) + (1 : Int32)) fun x5 =>
      nmv (sR u0 (ru_start (xR u0) x5)) fun u6 =>
      some (.inl u6)
    else
      some (.inr (.inr u0))))
set_option maxRecDepth 100000 in
set_option maxHeartbeats 4000000 in
theorem b_X4_goOn_L8_8 (X : cx p s m args meth c cX4_goOn 1 RX4 none) (K : kx D cI cZ cQ adK adV A s s.heap) {u0 : XS} (G : wg D A s.heap H locs (wX cI cZ cQ ad u0)) (hl : lv_has ls 1 [(0, .ref (ad 33))]) {q : ((XS) ⊕ ((Int32 × XS) ⊕ (XS)))} (h : f_X4_goOn_L8_8  u0 = some q) (hB : ∀ (u : XS), q = .inl u → ∀ (H : Heap) (locs : List Loc) (ls : Array Slot), wg D A s.heap H locs (wX cI cZ cQ ad u) → lv_has ls 1 [(0, .ref (ad 33))] → W p l e { frames := 1, cells := 0, slots := 0, locals := 22 } s m args below meth c H locs 0 0 Q (F0 m 8 ls [])) (hX : ∀ (u : XS), q = .inr (.inr u) → ∀ (H : Heap) (locs : List Loc) (ls : Array Slot), wg D A s.heap H locs (wX cI cZ cQ ad u) → lv_has ls 1 [(0, .ref (ad 33))] → W p l e { frames := 1, cells := 0, slots := 0, locals := 22 } s m args below meth c H locs 0 0 Q (F0 m 52 ls [])) (hR : ∀ (r : Int32) (u : XS), q = .inr (.inl (r, u)) → Q = (qV D A (wX cI cZ cQ ad) below args s u)) : W p l e { frames := 1, cells := 0, slots := 0, locals := 22 } s m args below meth c H locs 0 0 Q (F0 m 8 ls []) := by
  unfold f_X4_goOn_L8_8 at h
  obtain ⟨hx, hb, -⟩ := id X
  refine lv_aload_n hx hb dX4_goOn_8 rfl (lv_at hl 0 rfl) ?_
  refine gX_33_3 X K G q_262 dX4_goOn_9 ?_
  refine lv_aload_n hx hb dX4_goOn_12 rfl (lv_at hl 0 rfl) ?_
  refine gX_33_0 X K G q_259 dX4_goOn_13 ?_
  refine gX_22_1 X K G q_172 dX4_goOn_16 ?_
  refine lv_icmp_ge (tgt := 52) hx hb dX4_goOn_19 (by decide) (fun c1 => ?_) (fun c1 => ?_)
  · have h := it_at c1 h
    exact hX _ (Option.some.inj h).symm _ _ _ G (lv_sub hl [0] rfl)
  · have h := if_at c1 h
    refine lv_aload_n hx hb dX4_goOn_22 rfl (lv_at hl 0 rfl) ?_
    refine gX_33_0 X K G q_259 dX4_goOn_23 ?_
    refine gX_22_0 X K G q_169 dX4_goOn_26 ?_
    refine lv_aload_n hx hb dX4_goOn_29 rfl (lv_at hl 0 rfl) ?_
    refine gX_33_3 X K G q_262 dX4_goOn_30 ?_
    refine lv_topi (fun x2 ex2 => ?_)
    have h := nm_at ex2 h
    obtain ⟨g3, h⟩ := ck_at h
    refine lX_23 X K G g3 dX4_goOn_33 ?_
    refine lv_bipush (v := 32) hx hb dX4_goOn_34 (by decide) ?_
    refine lv_icmp_ne (tgt := 52) hx hb dX4_goOn_36 (by decide) (fun c4 => ?_) (fun c4 => ?_)
    · have h := if_at c4 h
      exact hX _ (Option.some.inj h).symm _ _ _ G (lv_sub hl [0] rfl)
    · have h := it_at c4 h
      refine lv_aload_n hx hb dX4_goOn_39 rfl (lv_at hl 0 rfl) ?_
      refine lv_dup hx hb dX4_goOn_40 rfl ?_
      refine gX_33_3 X K G q_262 dX4_goOn_41 ?_
      refine lv_iconst (v := 1) hx hb dX4_goOn_44 (by decide) ?_
      refine lv_iadd hx hb dX4_goOn_45 ?_
      refine lv_topi (fun x5 ex5 => ?_)
      have h := nm_at ex5 h
      refine pX_33_3 X K G q_262 dX4_goOn_46 (fun H locs G => ?_)
      obtain ⟨u6, eu6⟩ : ∃ z : XS, z = sR u0 (ru_start (xR u0) x5) := ⟨_, rfl⟩
      have G : wg D A s.heap H locs (wX cI cZ cQ ad u6) := by rw [eu6]; exact G
      have h := nm_at eu6 h
      clear eu6
      refine lv_goto (tgt := 8) hx hb dX4_goOn_49 (by decide) ?_
      exact hB _ (Option.some.inj h).symm _ _ _ G (lv_sub hl [0] rfl)
noncomputable def f_X4_goOn_L8_8s (q : XS) : Option ((XS) ⊕ ((Int32 × XS) ⊕ (XS))) := f_X4_goOn_L8_8 q
set_option maxRecDepth 100000 in
set_option maxHeartbeats 4000000 in
theorem w_X4_goOn_L8_8 (X : cx p s m args meth c cX4_goOn 1 RX4 none) (K : kx D cI cZ cQ adK adV A s s.heap) {e0 : (Int32 × XS) ⊕ (XS)} : ∀ (n : Nat) (u : XS) {H : Heap} {locs : List Loc} {ls : Array Slot}, wh f_X4_goOn_L8_8s n u = some e0 → wg D A s.heap H locs (wX cI cZ cQ ad u) → lv_has ls 1 [(0, .ref (ad 33))] → (∀ (u : XS), e0 = .inr u → ∀ (H : Heap) (locs : List Loc) (ls : Array Slot), wg D A s.heap H locs (wX cI cZ cQ ad u) → lv_has ls 1 [(0, .ref (ad 33))] → W p l e { frames := 1, cells := 0, slots := 0, locals := 22 } s m args below meth c H locs 0 0 Q (F0 m 52 ls [])) → (∀ (r : Int32) (u : XS), e0 = .inl (r, u) → Q = (qV D A (wX cI cZ cQ ad) below args s u)) → W p l e { frames := 1, cells := 0, slots := 0, locals := 22 } s m args below meth c H locs 0 0 Q (F0 m 8 ls []) := by
  intro n
  induction n with
  | zero => intro  u H locs ls h; cases h
  | succ n ih =>
    intro  u H locs ls h G hl hX hR
    obtain ⟨q, h1, h2, h3⟩ := wh_at h
    exact b_X4_goOn_L8_8 X K G hl (show f_X4_goOn_L8_8  u = some q from h1) (fun b0 ee H locs ls G hl => ih b0 (h2 _ ee) G hl hX hR) (fun z0 ee => hX z0 (h3 _ ee).symm) (fun r u ee => hR r u (h3 _ ee).symm)
noncomputable def f_X4_goOn_L105_105 (u0 : XS) : Option ((XS) ⊕ ((Int32 × XS) ⊕ (XS))) :=
  (if ((xP u0).2) ≤ (r_end (xR u0)) then
    some (.inr (.inr u0))
  else
    bnd (f_X4_tokenAt (r_end (xR u0)) u0) fun r2 u3 =>
    (if r2 = (r_token (xR u3)) then
      nmv ((r_end (xR u3)) + (1 : Int32)) fun x5 =>
      nmv (sR u3 (ru_end (xR u3) x5)) fun u6 =>
      some (.inl u6)
    else
      some (.inr (.inr u3))))
set_option maxRecDepth 100000 in
set_option maxHeartbeats 4000000 in
theorem b_X4_goOn_L105_105 (X : cx p s m args meth c cX4_goOn 1 RX4 none) (K : kx D cI cZ cQ adK adV A s s.heap) {u0 : XS} (G : wg D A s.heap H locs (wX cI cZ cQ ad u0)) (hl : lv_has ls 1 [(0, .ref (ad 33))]) {q : ((XS) ⊕ ((Int32 × XS) ⊕ (XS)))} (h : f_X4_goOn_L105_105  u0 = some q) (hB : ∀ (u : XS), q = .inl u → ∀ (H : Heap) (locs : List Loc) (ls : Array Slot), wg D A s.heap H locs (wX cI cZ cQ ad u) → lv_has ls 1 [(0, .ref (ad 33))] → W p l e { frames := 1, cells := 0, slots := 0, locals := 22 } s m args below meth c H locs 0 0 Q (F0 m 105 ls [])) (hX : ∀ (u : XS), q = .inr (.inr u) → ∀ (H : Heap) (locs : List Loc) (ls : Array Slot), wg D A s.heap H locs (wX cI cZ cQ ad u) → lv_has ls 1 [(0, .ref (ad 33))] → W p l e { frames := 1, cells := 0, slots := 0, locals := 22 } s m args below meth c H locs 0 0 Q (F0 m 147 ls [])) (hR : ∀ (r : Int32) (u : XS), q = .inr (.inl (r, u)) → Q = (qV D A (wX cI cZ cQ ad) below args s u)) : W p l e { frames := 1, cells := 0, slots := 0, locals := 22 } s m args below meth c H locs 0 0 Q (F0 m 105 ls []) := by
  unfold f_X4_goOn_L105_105 at h
  obtain ⟨hx, hb, -⟩ := id X
  refine lv_aload_n hx hb dX4_goOn_105 rfl (lv_at hl 0 rfl) ?_
  refine gX_33_4 X K G q_263 dX4_goOn_106 ?_
  refine lv_aload_n hx hb dX4_goOn_109 rfl (lv_at hl 0 rfl) ?_
  refine gX_33_0 X K G q_259 dX4_goOn_110 ?_
  refine gX_22_1 X K G q_172 dX4_goOn_113 ?_
  refine lv_icmp_ge (tgt := 147) hx hb dX4_goOn_116 (by decide) (fun c1 => ?_) (fun c1 => ?_)
  · have h := it_at c1 h
    exact hX _ (Option.some.inj h).symm _ _ _ G (lv_sub hl [0] rfl)
  · have h := if_at c1 h
    refine lv_aload_n hx hb dX4_goOn_119 rfl (lv_at hl 0 rfl) ?_
    refine lv_aload_n hx hb dX4_goOn_120 rfl (lv_at hl 0 rfl) ?_
    refine gX_33_4 X K G q_263 dX4_goOn_121 ?_
    obtain ⟨r2, u3, er2, h⟩ := bnd_at h
    refine cvI (rest := []) X K G (c_X4_tokenAt er2) q_370 my_X4_tokenAt ⟨rfl, rfl⟩ ⟨Nat.le_of_ble_eq_true rfl, Nat.le_of_ble_eq_true rfl⟩ ⟨Nat.zero_le _, Nat.zero_le _⟩ 33 4 rfl rfl rfl rfl hl.1 rfl (Nat.le_of_ble_eq_true rfl) dX4_goOn_124 (fun H locs G => ?_)
    clear er2
    refine lv_aload_n hx hb dX4_goOn_127 rfl (lv_at hl 0 rfl) ?_
    refine gX_33_2 X K G q_261 dX4_goOn_128 ?_
    refine lv_icmp_ne (tgt := 147) hx hb dX4_goOn_131 (by decide) (fun c4 => ?_) (fun c4 => ?_)
    · have h := if_at c4 h
      exact hX _ (Option.some.inj h).symm _ _ _ G (lv_sub hl [0] rfl)
    · have h := it_at c4 h
      refine lv_aload_n hx hb dX4_goOn_134 rfl (lv_at hl 0 rfl) ?_
      refine lv_dup hx hb dX4_goOn_135 rfl ?_
      refine gX_33_4 X K G q_263 dX4_goOn_136 ?_
      refine lv_iconst (v := 1) hx hb dX4_goOn_139 (by decide) ?_
      refine lv_iadd hx hb dX4_goOn_140 ?_
      refine lv_topi (fun x5 ex5 => ?_)
      have h := nm_at ex5 h
      refine pX_33_4 X K G q_263 dX4_goOn_141 (fun H locs G => ?_)
      obtain ⟨u6, eu6⟩ : ∃ z : XS, z = sR u3 (ru_end (xR u3) x5) := ⟨_, rfl⟩
      have G : wg D A s.heap H locs (wX cI cZ cQ ad u6) := by rw [eu6]; exact G
      have h := nm_at eu6 h
      clear eu6
      refine lv_goto (tgt := 105) hx hb dX4_goOn_144 (by decide) ?_
      exact hB _ (Option.some.inj h).symm _ _ _ G (lv_sub hl [0] rfl)
noncomputable def f_X4_goOn_L105_105s (q : XS) : Option ((XS) ⊕ ((Int32 × XS) ⊕ (XS))) := f_X4_goOn_L105_105 q
set_option maxRecDepth 100000 in
set_option maxHeartbeats 4000000 in
theorem w_X4_goOn_L105_105 (X : cx p s m args meth c cX4_goOn 1 RX4 none) (K : kx D cI cZ cQ adK adV A s s.heap) {e0 : (Int32 × XS) ⊕ (XS)} : ∀ (n : Nat) (u : XS) {H : Heap} {locs : List Loc} {ls : Array Slot}, wh f_X4_goOn_L105_105s n u = some e0 → wg D A s.heap H locs (wX cI cZ cQ ad u) → lv_has ls 1 [(0, .ref (ad 33))] → (∀ (u : XS), e0 = .inr u → ∀ (H : Heap) (locs : List Loc) (ls : Array Slot), wg D A s.heap H locs (wX cI cZ cQ ad u) → lv_has ls 1 [(0, .ref (ad 33))] → W p l e { frames := 1, cells := 0, slots := 0, locals := 22 } s m args below meth c H locs 0 0 Q (F0 m 147 ls [])) → (∀ (r : Int32) (u : XS), e0 = .inl (r, u) → Q = (qV D A (wX cI cZ cQ ad) below args s u)) → W p l e { frames := 1, cells := 0, slots := 0, locals := 22 } s m args below meth c H locs 0 0 Q (F0 m 105 ls []) := by
  intro n
  induction n with
  | zero => intro  u H locs ls h; cases h
  | succ n ih =>
    intro  u H locs ls h G hl hX hR
    obtain ⟨q, h1, h2, h3⟩ := wh_at h
    exact b_X4_goOn_L105_105 X K G hl (show f_X4_goOn_L105_105  u = some q from h1) (fun b0 ee H locs ls G hl => ih b0 (h2 _ ee) G hl hX hR) (fun z0 ee => hX z0 (h3 _ ee).symm) (fun r u ee => hR r u (h3 _ ee).symm)
noncomputable def f_X4_goOn_147 (u0 : XS) : Option (Int32 × XS) :=
  (if (r_token (xR u0)) = (2 : Int32) then
    bnd (f_X4_numberAtHand  u0) fun r3 u4 =>
    nmv (sR u4 (ru_value (xR u4) r3)) fun u5 =>
    some ((0 : Int32), u5)
  else
    nmv (sR u0 (ru_value (xR u0) (0 : Int32))) fun u2 =>
    some ((0 : Int32), u2))
set_option maxRecDepth 100000 in
set_option maxHeartbeats 4000000 in
theorem b_X4_goOn_147 (X : cx p s m args meth c cX4_goOn 1 RX4 none) (K : kx D cI cZ cQ adK adV A s s.heap) {u0 : XS} (G : wg D A s.heap H locs (wX cI cZ cQ ad u0)) (hl : lv_has ls 1 [(0, .ref (ad 33))]) {r : Int32} {u' : XS} (h : f_X4_goOn_147  u0 = some (r, u')) : W p l e { frames := 1, cells := 0, slots := 0, locals := 22 } s m args below meth c H locs 0 0 (qV D A (wX cI cZ cQ ad) below args s u') (F0 m 147 ls []) := by
  unfold f_X4_goOn_147 at h
  obtain ⟨hx, hb, -⟩ := id X
  refine lv_aload_n hx hb dX4_goOn_147 rfl (lv_at hl 0 rfl) ?_
  refine lv_aload_n hx hb dX4_goOn_148 rfl (lv_at hl 0 rfl) ?_
  refine gX_33_2 X K G q_261 dX4_goOn_149 ?_
  refine lv_iconst (v := 2) hx hb dX4_goOn_152 (by decide) ?_
  refine lv_icmp_ne (tgt := 163) hx hb dX4_goOn_153 (by decide) (fun c1 => ?_) (fun c1 => ?_)
  · have h := if_at c1 h
    refine lv_iconst (v := 0) hx hb dX4_goOn_163 (by decide) ?_
    refine pX_33_5 X K G q_264 dX4_goOn_164 (fun H locs G => ?_)
    obtain ⟨u2, eu2⟩ : ∃ z : XS, z = sR u0 (ru_value (xR u0) (0 : Int32)) := ⟨_, rfl⟩
    have G : wg D A s.heap H locs (wX cI cZ cQ ad u2) := by rw [eu2]; exact G
    have h := nm_at eu2 h
    clear eu2
    obtain ⟨rfl, rfl⟩ := pair_at h
    exact reV X G dX4_goOn_167
  · have h := it_at c1 h
    refine lv_aload_n hx hb dX4_goOn_156 rfl (lv_at hl 0 rfl) ?_
    obtain ⟨r3, u4, er3, h⟩ := bnd_at h
    refine cvI (rest := [.ref (ad 33)]) X K G (c_X4_numberAtHand er3) q_374 my_X4_numberAtHand ⟨rfl, rfl⟩ ⟨Nat.le_of_ble_eq_true rfl, Nat.le_of_ble_eq_true rfl⟩ ⟨Nat.zero_le _, Nat.zero_le _⟩ 33 4 rfl rfl rfl rfl hl.1 rfl (Nat.le_of_ble_eq_true rfl) dX4_goOn_157 (fun H locs G => ?_)
    clear er3
    refine lv_goto (tgt := 164) hx hb dX4_goOn_160 (by decide) ?_
    refine pX_33_5 X K G q_264 dX4_goOn_164 (fun H locs G => ?_)
    obtain ⟨u5, eu5⟩ : ∃ z : XS, z = sR u4 (ru_value (xR u4) r3) := ⟨_, rfl⟩
    have G : wg D A s.heap H locs (wX cI cZ cQ ad u5) := by rw [eu5]; exact G
    have h := nm_at eu5 h
    clear eu5
    obtain ⟨rfl, rfl⟩ := pair_at h
    exact reV X G dX4_goOn_167
noncomputable def f_X4_goOn_89 (u0 : XS) : Option (Int32 × XS) :=
  (if (r_token (xR u0)) = (1 : Int32) then
    bne (wl f_X4_goOn_L105_105s u0) (fun a => some a) fun b =>
      nmv b fun u4 =>
      f_X4_goOn_147  u4
  else
    (if (r_token (xR u0)) = (2 : Int32) then
      bne (wl f_X4_goOn_L105_105s u0) (fun a => some a) fun b =>
        nmv b fun u8 =>
        f_X4_goOn_147  u8
    else
      f_X4_goOn_147  u0))
set_option maxRecDepth 100000 in
set_option maxHeartbeats 4000000 in
theorem b_X4_goOn_89 (X : cx p s m args meth c cX4_goOn 1 RX4 none) (K : kx D cI cZ cQ adK adV A s s.heap) {u0 : XS} (G : wg D A s.heap H locs (wX cI cZ cQ ad u0)) (hl : lv_has ls 1 [(0, .ref (ad 33))]) {r : Int32} {u' : XS} (h : f_X4_goOn_89  u0 = some (r, u')) : W p l e { frames := 1, cells := 0, slots := 0, locals := 22 } s m args below meth c H locs 0 0 (qV D A (wX cI cZ cQ ad) below args s u') (F0 m 89 ls []) := by
  unfold f_X4_goOn_89 at h
  obtain ⟨hx, hb, -⟩ := id X
  refine lv_aload_n hx hb dX4_goOn_89 rfl (lv_at hl 0 rfl) ?_
  refine gX_33_2 X K G q_261 dX4_goOn_90 ?_
  refine lv_iconst (v := 1) hx hb dX4_goOn_93 (by decide) ?_
  refine lv_icmp_eq (tgt := 105) hx hb dX4_goOn_94 (by decide) (fun c1 => ?_) (fun c1 => ?_)
  · have h := it_at c1 h
    obtain ⟨q3, hq3, ha, hb1⟩ := bne_at h
    obtain ⟨n2, hn2⟩ := wl_iff.mp hq3
    refine w_X4_goOn_L105_105 X K n2 _ hn2 G (lv_sub hl [0] rfl) (fun  u4 ee H locs ls G hl => ?_) (fun r u1 ee => by obtain ⟨rfl, rfl⟩ := pair_at (ha _ ee); rfl)
    have h := hb1 _ ee
    clear ee ha hb1 hq3 hn2
    have h := nm_at (x := u4) rfl h
    exact b_X4_goOn_147 X K G (lv_sub hl [0] rfl) h
  · have h := if_at c1 h
    refine lv_aload_n hx hb dX4_goOn_97 rfl (lv_at hl 0 rfl) ?_
    refine gX_33_2 X K G q_261 dX4_goOn_98 ?_
    refine lv_iconst (v := 2) hx hb dX4_goOn_101 (by decide) ?_
    refine lv_icmp_ne (tgt := 147) hx hb dX4_goOn_102 (by decide) (fun c5 => ?_) (fun c5 => ?_)
    · have h := if_at c5 h
      exact b_X4_goOn_147 X K G (lv_sub hl [0] rfl) h
    · have h := it_at c5 h
      obtain ⟨q7, hq7, ha, hb1⟩ := bne_at h
      obtain ⟨n6, hn6⟩ := wl_iff.mp hq7
      refine w_X4_goOn_L105_105 X K n6 _ hn6 G (lv_sub hl [0] rfl) (fun  u8 ee H locs ls G hl => ?_) (fun r u1 ee => by obtain ⟨rfl, rfl⟩ := pair_at (ha _ ee); rfl)
      have h := hb1 _ ee
      clear ee ha hb1 hq7 hn6
      have h := nm_at (x := u8) rfl h
      exact b_X4_goOn_147 X K G (lv_sub hl [0] rfl) h
noncomputable def f_X4_goOn_52 (u0 : XS) : Option (Int32 × XS) :=
  nmv (r_start (xR u0)) fun x1 =>
  nmv (sR u0 (ru_end (xR u0) x1)) fun u2 =>
  bnd (f_X4_tokenAt (r_start (xR u2)) u2) fun r3 u4 =>
  nmv (sR u4 (ru_token (xR u4) r3)) fun u5 =>
  (if (r_token (xR u5)) = 0 then
    f_X4_goOn_89  u5
  else
    nmv ((r_end (xR u5)) + (1 : Int32)) fun x7 =>
    nmv (sR u5 (ru_end (xR u5) x7)) fun u8 =>
    f_X4_goOn_89  u8)
set_option maxRecDepth 100000 in
set_option maxHeartbeats 4000000 in
theorem b_X4_goOn_52 (X : cx p s m args meth c cX4_goOn 1 RX4 none) (K : kx D cI cZ cQ adK adV A s s.heap) {u0 : XS} (G : wg D A s.heap H locs (wX cI cZ cQ ad u0)) (hl : lv_has ls 1 [(0, .ref (ad 33))]) {r : Int32} {u' : XS} (h : f_X4_goOn_52  u0 = some (r, u')) : W p l e { frames := 1, cells := 0, slots := 0, locals := 22 } s m args below meth c H locs 0 0 (qV D A (wX cI cZ cQ ad) below args s u') (F0 m 52 ls []) := by
  unfold f_X4_goOn_52 at h
  obtain ⟨hx, hb, -⟩ := id X
  refine lv_aload_n hx hb dX4_goOn_52 rfl (lv_at hl 0 rfl) ?_
  refine lv_aload_n hx hb dX4_goOn_53 rfl (lv_at hl 0 rfl) ?_
  refine gX_33_3 X K G q_262 dX4_goOn_54 ?_
  refine lv_topi (fun x1 ex1 => ?_)
  have h := nm_at ex1 h
  refine pX_33_4 X K G q_263 dX4_goOn_57 (fun H locs G => ?_)
  obtain ⟨u2, eu2⟩ : ∃ z : XS, z = sR u0 (ru_end (xR u0) x1) := ⟨_, rfl⟩
  have G : wg D A s.heap H locs (wX cI cZ cQ ad u2) := by rw [eu2]; exact G
  have h := nm_at eu2 h
  clear eu2
  refine lv_aload_n hx hb dX4_goOn_60 rfl (lv_at hl 0 rfl) ?_
  refine lv_aload_n hx hb dX4_goOn_61 rfl (lv_at hl 0 rfl) ?_
  refine lv_aload_n hx hb dX4_goOn_62 rfl (lv_at hl 0 rfl) ?_
  refine gX_33_3 X K G q_262 dX4_goOn_63 ?_
  obtain ⟨r3, u4, er3, h⟩ := bnd_at h
  refine cvI (rest := [.ref (ad 33)]) X K G (c_X4_tokenAt er3) q_370 my_X4_tokenAt ⟨rfl, rfl⟩ ⟨Nat.le_of_ble_eq_true rfl, Nat.le_of_ble_eq_true rfl⟩ ⟨Nat.zero_le _, Nat.zero_le _⟩ 33 4 rfl rfl rfl rfl hl.1 rfl (Nat.le_of_ble_eq_true rfl) dX4_goOn_66 (fun H locs G => ?_)
  clear er3
  refine pX_33_2 X K G q_261 dX4_goOn_69 (fun H locs G => ?_)
  obtain ⟨u5, eu5⟩ : ∃ z : XS, z = sR u4 (ru_token (xR u4) r3) := ⟨_, rfl⟩
  have G : wg D A s.heap H locs (wX cI cZ cQ ad u5) := by rw [eu5]; exact G
  have h := nm_at eu5 h
  clear eu5
  refine lv_aload_n hx hb dX4_goOn_72 rfl (lv_at hl 0 rfl) ?_
  refine gX_33_2 X K G q_261 dX4_goOn_73 ?_
  refine lv_if_eq (tgt := 89) hx hb dX4_goOn_76 (by decide) (fun c6 => ?_) (fun c6 => ?_)
  · have h := it_at c6 h
    exact b_X4_goOn_89 X K G (lv_sub hl [0] rfl) h
  · have h := if_at c6 h
    refine lv_aload_n hx hb dX4_goOn_79 rfl (lv_at hl 0 rfl) ?_
    refine lv_dup hx hb dX4_goOn_80 rfl ?_
    refine gX_33_4 X K G q_263 dX4_goOn_81 ?_
    refine lv_iconst (v := 1) hx hb dX4_goOn_84 (by decide) ?_
    refine lv_iadd hx hb dX4_goOn_85 ?_
    refine lv_topi (fun x7 ex7 => ?_)
    have h := nm_at ex7 h
    refine pX_33_4 X K G q_263 dX4_goOn_86 (fun H locs G => ?_)
    obtain ⟨u8, eu8⟩ : ∃ z : XS, z = sR u5 (ru_end (xR u5) x7) := ⟨_, rfl⟩
    have G : wg D A s.heap H locs (wX cI cZ cQ ad u8) := by rw [eu8]; exact G
    have h := nm_at eu8 h
    clear eu8
    exact b_X4_goOn_89 X K G (lv_sub hl [0] rfl) h
noncomputable def f_X4_goOn (u0 : XS) : Option (Int32 × XS) :=
  nmv (r_end (xR u0)) fun x1 =>
  nmv (sR u0 (ru_start (xR u0) x1)) fun u2 =>
  bne (wl f_X4_goOn_L8_8s u2) (fun a => some a) fun b =>
    nmv b fun u5 =>
    f_X4_goOn_52  u5
set_option maxRecDepth 100000 in
set_option maxHeartbeats 4000000 in
theorem c_X4_goOn {u0 : XS} {r : Int32} {u' : XS} (h : f_X4_goOn  u0 = some (r, u')) : MV l D cI cZ cQ adK adV A yX4_goOn cX4_goOn 1 { frames := 1, cells := 0, slots := 0, locals := 22 } [.ref (ad 33)] (wX cI cZ cQ ad) u0 u' := by
  unfold f_X4_goOn at h
  refine entV (by decide) (Nat.le_of_ble_eq_true rfl) (fun p e s m below meth c ls X K G hl => ?_)
  have hl : lv_has ls 1 [(0, .ref (ad 33))] := hl
  obtain ⟨hx, hb, -⟩ := id X
  generalize hH : s.heap = H at G
  subst hH
  refine lv_aload_n hx hb dX4_goOn_0 rfl (lv_at hl 0 rfl) ?_
  refine lv_aload_n hx hb dX4_goOn_1 rfl (lv_at hl 0 rfl) ?_
  refine gX_33_4 X K G q_263 dX4_goOn_2 ?_
  refine lv_topi (fun x1 ex1 => ?_)
  have h := nm_at ex1 h
  refine pX_33_3 X K G q_262 dX4_goOn_5 (fun H locs G => ?_)
  obtain ⟨u2, eu2⟩ : ∃ z : XS, z = sR u0 (ru_start (xR u0) x1) := ⟨_, rfl⟩
  have G : wg D A s.heap H locs (wX cI cZ cQ ad u2) := by rw [eu2]; exact G
  have h := nm_at eu2 h
  clear eu2
  obtain ⟨q4, hq4, ha, hb1⟩ := bne_at h
  obtain ⟨n3, hn3⟩ := wl_iff.mp hq4
  refine w_X4_goOn_L8_8 X K n3 _ hn3 G (lv_sub hl [0] rfl) (fun  u5 ee H locs ls G hl => ?_) (fun r u1 ee => by obtain ⟨rfl, rfl⟩ := pair_at (ha _ ee); rfl)
  have h := hb1 _ ee
  clear ee ha hb1 hq4 hn3
  have h := nm_at (x := u5) rfl h
  exact b_X4_goOn_52 X K G (lv_sub hl [0] rfl) h
noncomputable def f_X4_isWord_L28_28 (n1 : Nat) (v2 : Int32) (u0 : XS) : Option ((Nat × Int32 × XS) ⊕ ((Int32 × XS) ⊕ (XS))) :=
  if 14 ≤ n1 then none else
  (if (nI (tx_len n1)) ≤ v2 then
    some (.inr (.inr u0))
  else
    nmv ((r_start (xR u0)) + v2) fun x3 =>
    if x3 < 0 ∨ 120 ≤ x3.toNatClampNeg then none else
    if 14 ≤ n1 then none else
    if v2 < 0 ∨ tx_len n1 ≤ v2.toNatClampNeg then none else
    (if (((xP u0).1) x3.toNatClampNeg) = (tx_chr n1 v2.toNatClampNeg) then
      nmv (v2 + (1 : Int32)) fun x8 =>
      some (.inl (n1, x8, u0))
    else
      some (.inr (.inl ((0 : Int32), u0)))))
set_option maxRecDepth 100000 in
set_option maxHeartbeats 4000000 in
theorem b_X4_isWord_L28_28 (X : cx p s m args meth c cX4_isWord 3 RX4 (some .boolean)) (K : kx D cI cZ cQ adK adV A s s.heap) {n1 : Nat} {v2 : Int32} {u0 : XS} (G : wg D A s.heap H locs (wX cI cZ cQ ad u0)) (hl : lv_has ls 3 [(0, .ref (ad 33)), (1, .ref (adK n1)), (2, .int v2)]) {q : ((Nat × Int32 × XS) ⊕ ((Int32 × XS) ⊕ (XS)))} (h : f_X4_isWord_L28_28 n1 v2 u0 = some q) (hB : ∀ (n1 : Nat) (v2 : Int32) (u : XS), q = .inl (n1, v2, u) → ∀ (H : Heap) (locs : List Loc) (ls : Array Slot), wg D A s.heap H locs (wX cI cZ cQ ad u) → lv_has ls 3 [(0, .ref (ad 33)), (1, .ref (adK n1)), (2, .int v2)] → W p l e { frames := 4, cells := 0, slots := 0, locals := 85 } s m args below meth c H locs 0 0 Q (F0 m 28 ls [])) (hX : ∀ (u : XS), q = .inr (.inr u) → ∀ (H : Heap) (locs : List Loc) (ls : Array Slot), wg D A s.heap H locs (wX cI cZ cQ ad u) → lv_has ls 3 [] → W p l e { frames := 4, cells := 0, slots := 0, locals := 85 } s m args below meth c H locs 0 0 Q (F0 m 66 ls [])) (hR : ∀ (r : Int32) (u : XS), q = .inr (.inl (r, u)) → Q = (qI D A (wX cI cZ cQ ad) below args s r u)) : W p l e { frames := 4, cells := 0, slots := 0, locals := 85 } s m args below meth c H locs 0 0 Q (F0 m 28 ls []) := by
  unfold f_X4_isWord_L28_28 at h
  obtain ⟨hx, hb, -⟩ := id X
  refine lv_iload_n hx hb dX4_isWord_28 rfl (lv_at hl 2 rfl) ?_
  refine lv_aload_n hx hb dX4_isWord_29 rfl (lv_at hl 1 rfl) ?_
  obtain ⟨g1, h⟩ := ck_at h
  refine cLen (rest := [.int v2]) X K G (Nat.not_le.mp g1) q_387 hl.1 rfl (Nat.le_of_ble_eq_true rfl) ⟨Nat.le_of_ble_eq_true rfl, Nat.le_of_ble_eq_true rfl⟩ dX4_isWord_30 (fun H locs G => ?_)
  refine lv_icmp_ge (tgt := 66) hx hb dX4_isWord_33 (by decide) (fun c2 => ?_) (fun c2 => ?_)
  · have h := it_at c2 h
    exact hX _ (Option.some.inj h).symm _ _ _ G (lv_sub hl [] rfl)
  · have h := if_at c2 h
    refine lv_aload_n hx hb dX4_isWord_36 rfl (lv_at hl 0 rfl) ?_
    refine gX_33_0 X K G q_259 dX4_isWord_37 ?_
    refine gX_22_0 X K G q_169 dX4_isWord_40 ?_
    refine lv_aload_n hx hb dX4_isWord_43 rfl (lv_at hl 0 rfl) ?_
    refine gX_33_3 X K G q_262 dX4_isWord_44 ?_
    refine lv_iload_n hx hb dX4_isWord_47 rfl (lv_at hl 2 rfl) ?_
    refine lv_iadd hx hb dX4_isWord_48 ?_
    refine lv_topi (fun x3 ex3 => ?_)
    have h := nm_at ex3 h
    obtain ⟨g4, h⟩ := ck_at h
    refine lX_23 X K G g4 dX4_isWord_49 ?_
    refine lv_aload_n hx hb dX4_isWord_50 rfl (lv_at hl 1 rfl) ?_
    refine lv_iload_n hx hb dX4_isWord_51 rfl (lv_at hl 2 rfl) ?_
    obtain ⟨g5, h⟩ := ck_at h
    obtain ⟨g6, h⟩ := ck_at h
    refine cChr (rest := [.int (((xP u0).1) x3.toNatClampNeg)]) X K G (Nat.not_le.mp g5) g6 q_397 hl.1 rfl (Nat.le_of_ble_eq_true rfl) ⟨Nat.le_of_ble_eq_true rfl, Nat.le_of_ble_eq_true rfl⟩ dX4_isWord_52 (fun H locs G => ?_)
    refine lv_icmp_eq (tgt := 60) hx hb dX4_isWord_55 (by decide) (fun c7 => ?_) (fun c7 => ?_)
    · have h := it_at c7 h
      obtain ⟨x8, ex8⟩ : ∃ z : Int32, z = v2 + (1 : Int32) := ⟨_, rfl⟩
      have h := nm_at ex8 h
      refine lv_iinc (v := x8) (lv' := [(2, .int x8), (0, .ref (ad 33)), (1, .ref (adK n1))]) hx hb dX4_isWord_60 hl (k := 2) rfl (by rw [ex8]; rfl) (by decide) rfl (fun ls hl => ?_)
      refine lv_goto (tgt := 28) hx hb dX4_isWord_63 (by decide) ?_
      exact hB _ _ _ (Option.some.inj h).symm _ _ _ G (lv_sub hl [1, 2, 0] rfl)
    · have h := if_at c7 h
      refine lv_iconst (v := 0) hx hb dX4_isWord_58 (by decide) ?_
      rw [hR _ _ (Option.some.inj h).symm]
      exact reZ X G (Or.inl rfl) dX4_isWord_59
noncomputable def f_X4_isWord_L28_28s (q : Nat × Int32 × XS) : Option ((Nat × Int32 × XS) ⊕ ((Int32 × XS) ⊕ (XS))) := f_X4_isWord_L28_28 q.1 q.2.1 q.2.2
set_option maxRecDepth 100000 in
set_option maxHeartbeats 4000000 in
theorem w_X4_isWord_L28_28 (X : cx p s m args meth c cX4_isWord 3 RX4 (some .boolean)) (K : kx D cI cZ cQ adK adV A s s.heap) {e0 : (Int32 × XS) ⊕ (XS)} : ∀ (n : Nat) (n1 : Nat) (v2 : Int32) (u : XS) {H : Heap} {locs : List Loc} {ls : Array Slot}, wh f_X4_isWord_L28_28s n (n1, v2, u) = some e0 → wg D A s.heap H locs (wX cI cZ cQ ad u) → lv_has ls 3 [(0, .ref (ad 33)), (1, .ref (adK n1)), (2, .int v2)] → (∀ (u : XS), e0 = .inr u → ∀ (H : Heap) (locs : List Loc) (ls : Array Slot), wg D A s.heap H locs (wX cI cZ cQ ad u) → lv_has ls 3 [] → W p l e { frames := 4, cells := 0, slots := 0, locals := 85 } s m args below meth c H locs 0 0 Q (F0 m 66 ls [])) → (∀ (r : Int32) (u : XS), e0 = .inl (r, u) → Q = (qI D A (wX cI cZ cQ ad) below args s r u)) → W p l e { frames := 4, cells := 0, slots := 0, locals := 85 } s m args below meth c H locs 0 0 Q (F0 m 28 ls []) := by
  intro n
  induction n with
  | zero => intro n1 v2 u H locs ls h; cases h
  | succ n ih =>
    intro n1 v2 u H locs ls h G hl hX hR
    obtain ⟨q, h1, h2, h3⟩ := wh_at h
    exact b_X4_isWord_L28_28 X K G hl (show f_X4_isWord_L28_28 n1 v2 u = some q from h1) (fun b0 b1 b2 ee H locs ls G hl => ih b0 b1 b2 (h2 _ ee) G hl hX hR) (fun z0 ee => hX z0 (h3 _ ee).symm) (fun r u ee => hR r u (h3 _ ee).symm)
noncomputable def f_X4_isWord (j1 : Nat) (u0 : XS) : Option (Int32 × XS) :=
  (if (r_token (xR u0)) = (1 : Int32) then
    if 14 ≤ j1 then none else
    (if (nI (tx_len j1)) = ((r_end (xR u0)) - (r_start (xR u0))) then
      bne (wl f_X4_isWord_L28_28s (j1, (0 : Int32), u0)) (fun a => some a) fun b =>
        nmv b fun u6 =>
        some ((1 : Int32), u6)
    else
      some ((0 : Int32), u0))
  else
    some ((0 : Int32), u0))
set_option maxRecDepth 100000 in
set_option maxHeartbeats 4000000 in
theorem c_X4_isWord {j1 : Nat} {u0 : XS} {r : Int32} {u' : XS} (h : f_X4_isWord j1 u0 = some (r, u')) : MI l D cI cZ cQ adK adV A yX4_isWord cX4_isWord 3 (some .boolean) { frames := 4, cells := 0, slots := 0, locals := 85 } [.ref (ad 33), .ref (adK j1)] (wX cI cZ cQ ad) u0 r u' := by
  unfold f_X4_isWord at h
  refine entI (by decide) (Nat.le_of_ble_eq_true rfl) (fun p e s m below meth c ls X K G hl => ?_)
  have hl : lv_has ls 3 [(0, .ref (ad 33)), (1, .ref (adK j1))] := hl
  obtain ⟨hx, hb, -⟩ := id X
  generalize hH : s.heap = H at G
  subst hH
  refine lv_aload_n hx hb dX4_isWord_0 rfl (lv_at hl 0 rfl) ?_
  refine gX_33_2 X K G q_261 dX4_isWord_1 ?_
  refine lv_iconst (v := 1) hx hb dX4_isWord_4 (by decide) ?_
  refine lv_icmp_ne (tgt := 24) hx hb dX4_isWord_5 (by decide) (fun c1 => ?_) (fun c1 => ?_)
  · have h := if_at c1 h
    refine lv_iconst (v := 0) hx hb dX4_isWord_24 (by decide) ?_
    obtain ⟨rfl, rfl⟩ := pair_at h
    exact reZ X G (Or.inl rfl) dX4_isWord_25
  · have h := it_at c1 h
    refine lv_aload_n hx hb dX4_isWord_8 rfl (lv_at hl 1 rfl) ?_
    obtain ⟨g2, h⟩ := ck_at h
    refine cLen (rest := []) X K G (Nat.not_le.mp g2) q_387 hl.1 rfl (Nat.le_of_ble_eq_true rfl) ⟨Nat.le_of_ble_eq_true rfl, Nat.le_of_ble_eq_true rfl⟩ dX4_isWord_9 (fun H locs G => ?_)
    refine lv_aload_n hx hb dX4_isWord_12 rfl (lv_at hl 0 rfl) ?_
    refine gX_33_4 X K G q_263 dX4_isWord_13 ?_
    refine lv_aload_n hx hb dX4_isWord_16 rfl (lv_at hl 0 rfl) ?_
    refine gX_33_3 X K G q_262 dX4_isWord_17 ?_
    refine lv_isub hx hb dX4_isWord_20 ?_
    refine lv_icmp_eq (tgt := 26) hx hb dX4_isWord_21 (by decide) (fun c3 => ?_) (fun c3 => ?_)
    · have h := it_at c3 h
      refine lv_iconst (v := 0) hx hb dX4_isWord_26 (by decide) ?_
      refine lv_istore_n (lv' := [(2, .int (0 : Int32)), (0, .ref (ad 33)), (1, .ref (adK j1))]) hx hb dX4_isWord_27 rfl hl (by decide) rfl (fun ls hl => ?_)
      obtain ⟨q5, hq5, ha, hb1⟩ := bne_at h
      obtain ⟨n4, hn4⟩ := wl_iff.mp hq5
      refine w_X4_isWord_L28_28 X K n4 _ _ _ hn4 G (lv_sub hl [1, 2, 0] rfl) (fun  u6 ee H locs ls G hl => ?_) (fun r u1 ee => by obtain ⟨rfl, rfl⟩ := pair_at (ha _ ee); rfl)
      have h := hb1 _ ee
      clear ee ha hb1 hq5 hn4
      have h := nm_at (x := u6) rfl h
      refine lv_iconst (v := 1) hx hb dX4_isWord_66 (by decide) ?_
      obtain ⟨rfl, rfl⟩ := pair_at h
      exact reZ X G (Or.inr rfl) dX4_isWord_67
    · have h := if_at c3 h
      refine lv_iconst (v := 0) hx hb dX4_isWord_24 (by decide) ?_
      obtain ⟨rfl, rfl⟩ := pair_at h
      exact reZ X G (Or.inl rfl) dX4_isWord_25
noncomputable def f_X4_nameOfKind (a0 : Int32) (u0 : XS) : Option (Nat × XS) :=
  (if a0 = (1 : Int32) then
    some (7, u0)
  else
  (if a0 = (2 : Int32) then
    some (8, u0)
  else
  (if a0 = (3 : Int32) then
    some (9, u0)
  else
  (if a0 = (4 : Int32) then
    some (10, u0)
  else
  (if a0 = (5 : Int32) then
    some (11, u0)
  else
  (if a0 = (6 : Int32) then
    some (12, u0)
  else
  some (13, u0)))))))
set_option maxRecDepth 100000 in
set_option maxHeartbeats 4000000 in
theorem c_X4_nameOfKind {a0 : Int32} {u0 : XS} {r : Nat} {u' : XS} (h : f_X4_nameOfKind a0 u0 = some (r, u')) : MS_ l D cI cZ cQ adK adV A yX4_nameOfKind cX4_nameOfKind 1 { frames := 0, cells := 0, slots := 0, locals := 0 } [.int a0] (wX cI cZ cQ ad) u0 r u' := by
  unfold f_X4_nameOfKind at h
  refine entS (by decide) (Nat.le_of_ble_eq_true rfl) (fun p e s m below meth c ls X K G hl => ?_)
  have hl : lv_has ls 1 [(0, .int a0)] := hl
  obtain ⟨hx, hb, -⟩ := id X
  generalize hH : s.heap = H at G
  subst hH
  refine lv_iload_n hx hb dX4_nameOfKind_0 rfl (lv_at hl 0 rfl) ?_
  by_cases c1 : a0 = (1 : Int32)
  · have h := it_at c1 h
    refine tswI X (1 : Int32) c1 dX4_nameOfKind_1 (off := 39) (tgt := 40) (by decide) ?_
    refine va_ldcS (q := adK 7) hx hb X.2.2.2.1 (K.2.2.2.1 7 (by decide)).1 dX4_nameOfKind_40 ?_
    obtain ⟨rfl, rfl⟩ := pair_at h
    exact reS X G dX4_nameOfKind_42
  have h := if_at c1 h
  by_cases c2 : a0 = (2 : Int32)
  · have h := it_at c2 h
    refine tswI X (2 : Int32) c2 dX4_nameOfKind_1 (off := 42) (tgt := 43) (by decide) ?_
    refine va_ldcS (q := adK 8) hx hb X.2.2.2.1 (K.2.2.2.1 8 (by decide)).1 dX4_nameOfKind_43 ?_
    obtain ⟨rfl, rfl⟩ := pair_at h
    exact reS X G dX4_nameOfKind_45
  have h := if_at c2 h
  by_cases c3 : a0 = (3 : Int32)
  · have h := it_at c3 h
    refine tswI X (3 : Int32) c3 dX4_nameOfKind_1 (off := 45) (tgt := 46) (by decide) ?_
    refine va_ldcS (q := adK 9) hx hb X.2.2.2.1 (K.2.2.2.1 9 (by decide)).1 dX4_nameOfKind_46 ?_
    obtain ⟨rfl, rfl⟩ := pair_at h
    exact reS X G dX4_nameOfKind_48
  have h := if_at c3 h
  by_cases c4 : a0 = (4 : Int32)
  · have h := it_at c4 h
    refine tswI X (4 : Int32) c4 dX4_nameOfKind_1 (off := 48) (tgt := 49) (by decide) ?_
    refine va_ldcS (q := adK 10) hx hb X.2.2.2.1 (K.2.2.2.1 10 (by decide)).1 dX4_nameOfKind_49 ?_
    obtain ⟨rfl, rfl⟩ := pair_at h
    exact reS X G dX4_nameOfKind_51
  have h := if_at c4 h
  by_cases c5 : a0 = (5 : Int32)
  · have h := it_at c5 h
    refine tswI X (5 : Int32) c5 dX4_nameOfKind_1 (off := 51) (tgt := 52) (by decide) ?_
    refine va_ldcS (q := adK 11) hx hb X.2.2.2.1 (K.2.2.2.1 11 (by decide)).1 dX4_nameOfKind_52 ?_
    obtain ⟨rfl, rfl⟩ := pair_at h
    exact reS X G dX4_nameOfKind_54
  have h := if_at c5 h
  by_cases c6 : a0 = (6 : Int32)
  · have h := it_at c6 h
    refine tswI X (6 : Int32) c6 dX4_nameOfKind_1 (off := 54) (tgt := 55) (by decide) ?_
    refine va_ldcS (q := adK 12) hx hb X.2.2.2.1 (K.2.2.2.1 12 (by decide)).1 dX4_nameOfKind_55 ?_
    obtain ⟨rfl, rfl⟩ := pair_at h
    exact reS X G dX4_nameOfKind_57
  have h := if_at c6 h
  have tc1 := lv_neT (a := 1) c1 rfl
  have tc2 := lv_neT (a := 2) c2 rfl
  have tc3 := lv_neT (a := 3) c3 rfl
  have tc4 := lv_neT (a := 4) c4 rfl
  have tc5 := lv_neT (a := 5) c5 rfl
  have tc6 := lv_neT (a := 6) c6 rfl
  refine tswO X (by omega) dX4_nameOfKind_1 (tgt := 58) (by decide) ?_
  refine va_ldcS (q := adK 13) hx hb X.2.2.2.1 (K.2.2.2.1 13 (by decide)).1 dX4_nameOfKind_58 ?_
  obtain ⟨rfl, rfl⟩ := pair_at h
  exact reS X G dX4_nameOfKind_60
noncomputable def f_X4_kindOfWord_L2_2 (v1 : Int32) (u0 : XS) : Option ((Int32 × XS) ⊕ ((Int32 × XS) ⊕ (XS))) :=
  (if (7 : Int32) ≤ v1 then
    some (.inr (.inr u0))
  else
    bnd (f_X4_nameOfKind v1 u0) fun r2 u3 =>
    bnd (f_X4_isWord r2 u3) fun r4 u5 =>
    (if r4 = 0 then
      nmv (v1 + (1 : Int32)) fun x7 =>
      some (.inl (x7, u5))
    else
      some (.inr (.inl (v1, u5)))))
set_option maxRecDepth 100000 in
set_option maxHeartbeats 4000000 in
theorem b_X4_kindOfWord_L2_2 (X : cx p s m args meth c cX4_kindOfWord 2 RX4 (some .int)) (K : kx D cI cZ cQ adK adV A s s.heap) {v1 : Int32} {u0 : XS} (G : wg D A s.heap H locs (wX cI cZ cQ ad u0)) (hl : lv_has ls 2 [(0, .ref (ad 33)), (1, .int v1)]) {q : ((Int32 × XS) ⊕ ((Int32 × XS) ⊕ (XS)))} (h : f_X4_kindOfWord_L2_2 v1 u0 = some q) (hB : ∀ (v1 : Int32) (u : XS), q = .inl (v1, u) → ∀ (H : Heap) (locs : List Loc) (ls : Array Slot), wg D A s.heap H locs (wX cI cZ cQ ad u) → lv_has ls 2 [(0, .ref (ad 33)), (1, .int v1)] → W p l e { frames := 5, cells := 0, slots := 0, locals := 107 } s m args below meth c H locs 0 0 Q (F0 m 2 ls [])) (hX : ∀ (u : XS), q = .inr (.inr u) → ∀ (H : Heap) (locs : List Loc) (ls : Array Slot), wg D A s.heap H locs (wX cI cZ cQ ad u) → lv_has ls 2 [] → W p l e { frames := 5, cells := 0, slots := 0, locals := 107 } s m args below meth c H locs 0 0 Q (F0 m 27 ls [])) (hR : ∀ (r : Int32) (u : XS), q = .inr (.inl (r, u)) → Q = (qI D A (wX cI cZ cQ ad) below args s r u)) : W p l e { frames := 5, cells := 0, slots := 0, locals := 107 } s m args below meth c H locs 0 0 Q (F0 m 2 ls []) := by
  unfold f_X4_kindOfWord_L2_2 at h
  obtain ⟨hx, hb, -⟩ := id X
  refine lv_iload_n hx hb dX4_kindOfWord_2 rfl (lv_at hl 1 rfl) ?_
  refine lv_bipush (v := 7) hx hb dX4_kindOfWord_3 (by decide) ?_
  refine lv_icmp_ge (tgt := 27) hx hb dX4_kindOfWord_5 (by decide) (fun c1 => ?_) (fun c1 => ?_)
  · have h := it_at c1 h
    exact hX _ (Option.some.inj h).symm _ _ _ G (lv_sub hl [] rfl)
  · have h := if_at c1 h
    refine lv_aload_n hx hb dX4_kindOfWord_8 rfl (lv_at hl 0 rfl) ?_
    refine lv_iload_n hx hb dX4_kindOfWord_9 rfl (lv_at hl 1 rfl) ?_
    obtain ⟨r2, u3, er2, h⟩ := bnd_at h
    refine csS (rest := [.ref (ad 33)]) X K G (c_X4_nameOfKind er2) q_477 my_X4_nameOfKind ⟨rfl, rfl⟩ ⟨Nat.le_of_ble_eq_true rfl, Nat.le_of_ble_eq_true rfl⟩ ⟨Nat.zero_le _, Nat.zero_le _⟩ rfl hl.1 rfl (Nat.le_of_ble_eq_true rfl) dX4_kindOfWord_10 (fun H locs G => ?_)
    clear er2
    obtain ⟨r4, u5, er4, h⟩ := bnd_at h
    refine cvI (rest := []) X K G (c_X4_isWord er4) q_383 my_X4_isWord ⟨rfl, rfl⟩ ⟨Nat.le_of_ble_eq_true rfl, Nat.le_of_ble_eq_true rfl⟩ ⟨Nat.zero_le _, Nat.zero_le _⟩ 33 4 rfl rfl rfl rfl hl.1 rfl (Nat.le_of_ble_eq_true rfl) dX4_kindOfWord_13 (fun H locs G => ?_)
    clear er4
    refine lv_if_eq (tgt := 21) hx hb dX4_kindOfWord_16 (by decide) (fun c6 => ?_) (fun c6 => ?_)
    · have h := it_at c6 h
      obtain ⟨x7, ex7⟩ : ∃ z : Int32, z = v1 + (1 : Int32) := ⟨_, rfl⟩
      have h := nm_at ex7 h
      refine lv_iinc (v := x7) (lv' := [(1, .int x7), (0, .ref (ad 33))]) hx hb dX4_kindOfWord_21 hl (k := 1) rfl (by rw [ex7]; rfl) (by decide) rfl (fun ls hl => ?_)
      refine lv_goto (tgt := 2) hx hb dX4_kindOfWord_24 (by decide) ?_
      exact hB _ _ (Option.some.inj h).symm _ _ _ G (lv_sub hl [1, 0] rfl)
    · have h := if_at c6 h
      refine lv_iload_n hx hb dX4_kindOfWord_19 rfl (lv_at hl 1 rfl) ?_
      rw [hR _ _ (Option.some.inj h).symm]
      exact reI X G dX4_kindOfWord_20
noncomputable def f_X4_kindOfWord_L2_2s (q : Int32 × XS) : Option ((Int32 × XS) ⊕ ((Int32 × XS) ⊕ (XS))) := f_X4_kindOfWord_L2_2 q.1 q.2
set_option maxRecDepth 100000 in
set_option maxHeartbeats 4000000 in
theorem w_X4_kindOfWord_L2_2 (X : cx p s m args meth c cX4_kindOfWord 2 RX4 (some .int)) (K : kx D cI cZ cQ adK adV A s s.heap) {e0 : (Int32 × XS) ⊕ (XS)} : ∀ (n : Nat) (v1 : Int32) (u : XS) {H : Heap} {locs : List Loc} {ls : Array Slot}, wh f_X4_kindOfWord_L2_2s n (v1, u) = some e0 → wg D A s.heap H locs (wX cI cZ cQ ad u) → lv_has ls 2 [(0, .ref (ad 33)), (1, .int v1)] → (∀ (u : XS), e0 = .inr u → ∀ (H : Heap) (locs : List Loc) (ls : Array Slot), wg D A s.heap H locs (wX cI cZ cQ ad u) → lv_has ls 2 [] → W p l e { frames := 5, cells := 0, slots := 0, locals := 107 } s m args below meth c H locs 0 0 Q (F0 m 27 ls [])) → (∀ (r : Int32) (u : XS), e0 = .inl (r, u) → Q = (qI D A (wX cI cZ cQ ad) below args s r u)) → W p l e { frames := 5, cells := 0, slots := 0, locals := 107 } s m args below meth c H locs 0 0 Q (F0 m 2 ls []) := by
  intro n
  induction n with
  | zero => intro v1 u H locs ls h; cases h
  | succ n ih =>
    intro v1 u H locs ls h G hl hX hR
    obtain ⟨q, h1, h2, h3⟩ := wh_at h
    exact b_X4_kindOfWord_L2_2 X K G hl (show f_X4_kindOfWord_L2_2 v1 u = some q from h1) (fun b0 b1 ee H locs ls G hl => ih b0 b1 (h2 _ ee) G hl hX hR) (fun z0 ee => hX z0 (h3 _ ee).symm) (fun r u ee => hR r u (h3 _ ee).symm)
noncomputable def f_X4_kindOfWord (u0 : XS) : Option (Int32 × XS) :=
  bne (wl f_X4_kindOfWord_L2_2s ((0 : Int32), u0)) (fun a => some a) fun b =>
    nmv b fun u3 =>
    some ((-1 : Int32), u3)
set_option maxRecDepth 100000 in
set_option maxHeartbeats 4000000 in
theorem c_X4_kindOfWord {u0 : XS} {r : Int32} {u' : XS} (h : f_X4_kindOfWord  u0 = some (r, u')) : MI l D cI cZ cQ adK adV A yX4_kindOfWord cX4_kindOfWord 2 (some .int) { frames := 5, cells := 0, slots := 0, locals := 107 } [.ref (ad 33)] (wX cI cZ cQ ad) u0 r u' := by
  unfold f_X4_kindOfWord at h
  refine entI (by decide) (Nat.le_of_ble_eq_true rfl) (fun p e s m below meth c ls X K G hl => ?_)
  have hl : lv_has ls 2 [(0, .ref (ad 33))] := hl
  obtain ⟨hx, hb, -⟩ := id X
  generalize hH : s.heap = H at G
  subst hH
  refine lv_iconst (v := 0) hx hb dX4_kindOfWord_0 (by decide) ?_
  refine lv_istore_n (lv' := [(1, .int (0 : Int32)), (0, .ref (ad 33))]) hx hb dX4_kindOfWord_1 rfl hl (by decide) rfl (fun ls hl => ?_)
  obtain ⟨q2, hq2, ha, hb1⟩ := bne_at h
  obtain ⟨n1, hn1⟩ := wl_iff.mp hq2
  refine w_X4_kindOfWord_L2_2 X K n1 _ _ hn1 G (lv_sub hl [1, 0] rfl) (fun  u3 ee H locs ls G hl => ?_) (fun r u1 ee => by obtain ⟨rfl, rfl⟩ := pair_at (ha _ ee); rfl)
  have h := hb1 _ ee
  clear ee ha hb1 hq2 hn1
  have h := nm_at (x := u3) rfl h
  refine lv_iconst (v := -1) hx hb dX4_kindOfWord_27 (by decide) ?_
  obtain ⟨rfl, rfl⟩ := pair_at h
  exact reI X G dX4_kindOfWord_28
noncomputable def f_X5_addThing (a1 : Int32) (u0 : XS) : Option (Int32 × XS) :=
  (if (tThings (xT u0)) < (8 : Int32) then
    nmv (tThings (xT u0)) fun x2 =>
    if x2 < 0 ∨ 8 ≤ x2.toNatClampNeg then none else
    nmv (sT u0 (uKinds (xT u0) (upd (tKinds (xT u0)) x2.toNatClampNeg a1))) fun u4 =>
    nmv (tThings (xT u4)) fun x5 =>
    if x5 < 0 ∨ 8 ≤ x5.toNatClampNeg then none else
    nmv (sT u4 (uCounts (xT u4) (upd (tCounts (xT u4)) x5.toNatClampNeg (0 : Int32)))) fun u7 =>
    nmv ((tThings (xT u7)) + (1 : Int32)) fun x8 =>
    nmv (sT u7 (uThings (xT u7) x8)) fun u9 =>
    some ((tThings (xT u9)) - (1 : Int32), u9)
  else
    some ((-1 : Int32), u0))
set_option maxRecDepth 100000 in
set_option maxHeartbeats 4000000 in
theorem c_X5_addThing {a1 : Int32} {u0 : XS} {r : Int32} {u' : XS} (h : f_X5_addThing a1 u0 = some (r, u')) : MI l D cI cZ cQ adK adV A yX5_addThing cX5_addThing 2 (some .int) { frames := 0, cells := 0, slots := 0, locals := 0 } [.ref (ad 1), .int a1] (wX cI cZ cQ ad) u0 r u' := by
  unfold f_X5_addThing at h
  refine entI (by decide) (Nat.le_of_ble_eq_true rfl) (fun p e s m below meth c ls X K G hl => ?_)
  have hl : lv_has ls 2 [(0, .ref (ad 1)), (1, .int a1)] := hl
  obtain ⟨hx, hb, -⟩ := id X
  generalize hH : s.heap = H at G
  subst hH
  refine lv_aload_n hx hb dX5_addThing_0 rfl (lv_at hl 0 rfl) ?_
  refine gX_1_4 X K G q_115 dX5_addThing_1 ?_
  refine lv_bipush (v := 8) hx hb dX5_addThing_4 (by decide) ?_
  refine lv_icmp_lt (tgt := 11) hx hb dX5_addThing_6 (by decide) (fun c1 => ?_) (fun c1 => ?_)
  · have h := it_at c1 h
    refine lv_aload_n hx hb dX5_addThing_11 rfl (lv_at hl 0 rfl) ?_
    refine gX_1_7 X K G q_125 dX5_addThing_12 ?_
    refine lv_aload_n hx hb dX5_addThing_15 rfl (lv_at hl 0 rfl) ?_
    refine gX_1_4 X K G q_115 dX5_addThing_16 ?_
    refine lv_iload_n hx hb dX5_addThing_19 rfl (lv_at hl 1 rfl) ?_
    refine nm2 (fun x2 ex2 => ?_)
    have h := nm_at ex2 h
    obtain ⟨g3, h⟩ := ck_at h
    refine aX_3 X K G g3 dX5_addThing_20 (fun H locs G => ?_)
    obtain ⟨u4, eu4⟩ : ∃ z : XS, z = sT u0 (uKinds (xT u0) (upd (tKinds (xT u0)) x2.toNatClampNeg a1)) := ⟨_, rfl⟩
    have G : wg D A s.heap H locs (wX cI cZ cQ ad u4) := by rw [eu4]; exact G
    have h := nm_at eu4 h
    clear eu4
    refine lv_aload_n hx hb dX5_addThing_21 rfl (lv_at hl 0 rfl) ?_
    refine gX_1_8 X K G q_128 dX5_addThing_22 ?_
    refine lv_aload_n hx hb dX5_addThing_25 rfl (lv_at hl 0 rfl) ?_
    refine gX_1_4 X K G q_115 dX5_addThing_26 ?_
    refine lv_iconst (v := 0) hx hb dX5_addThing_29 (by decide) ?_
    refine nm2 (fun x5 ex5 => ?_)
    have h := nm_at ex5 h
    obtain ⟨g6, h⟩ := ck_at h
    refine aX_4 X K G g6 dX5_addThing_30 (fun H locs G => ?_)
    obtain ⟨u7, eu7⟩ : ∃ z : XS, z = sT u4 (uCounts (xT u4) (upd (tCounts (xT u4)) x5.toNatClampNeg (0 : Int32))) := ⟨_, rfl⟩
    have G : wg D A s.heap H locs (wX cI cZ cQ ad u7) := by rw [eu7]; exact G
    have h := nm_at eu7 h
    clear eu7
    refine lv_aload_n hx hb dX5_addThing_31 rfl (lv_at hl 0 rfl) ?_
    refine lv_dup hx hb dX5_addThing_32 rfl ?_
    refine gX_1_4 X K G q_115 dX5_addThing_33 ?_
    refine lv_iconst (v := 1) hx hb dX5_addThing_36 (by decide) ?_
    refine lv_iadd hx hb dX5_addThing_37 ?_
    refine lv_topi (fun x8 ex8 => ?_)
    have h := nm_at ex8 h
    refine pX_1_4 X K G q_115 dX5_addThing_38 (fun H locs G => ?_)
    obtain ⟨u9, eu9⟩ : ∃ z : XS, z = sT u7 (uThings (xT u7) x8) := ⟨_, rfl⟩
    have G : wg D A s.heap H locs (wX cI cZ cQ ad u9) := by rw [eu9]; exact G
    have h := nm_at eu9 h
    clear eu9
    refine lv_aload_n hx hb dX5_addThing_41 rfl (lv_at hl 0 rfl) ?_
    refine gX_1_4 X K G q_115 dX5_addThing_42 ?_
    refine lv_iconst (v := 1) hx hb dX5_addThing_45 (by decide) ?_
    refine lv_isub hx hb dX5_addThing_46 ?_
    obtain ⟨rfl, rfl⟩ := pair_at h
    exact reI X G dX5_addThing_47
  · have h := if_at c1 h
    refine lv_iconst (v := -1) hx hb dX5_addThing_9 (by decide) ?_
    obtain ⟨rfl, rfl⟩ := pair_at h
    exact reI X G dX5_addThing_10
noncomputable def f_X4_isNumber (a1 : Int32) (a2 : Int32) (u0 : XS) : Option (Int32 × XS) :=
  (if (r_token (xR u0)) = (2 : Int32) then
    bnd (f_X6_within (r_value (xR u0)) a1 a2 u0) fun r2 u3 =>
    (if r2 = 0 then
      some ((0 : Int32), u3)
    else
      some ((1 : Int32), u3))
  else
    some ((0 : Int32), u0))
set_option maxRecDepth 100000 in
set_option maxHeartbeats 4000000 in
theorem c_X4_isNumber {a1 : Int32} {a2 : Int32} {u0 : XS} {r : Int32} {u' : XS} (h : f_X4_isNumber a1 a2 u0 = some (r, u')) : MI l D cI cZ cQ adK adV A yX4_isNumber cX4_isNumber 3 (some .boolean) { frames := 1, cells := 0, slots := 0, locals := 22 } [.ref (ad 33), .int a1, .int a2] (wX cI cZ cQ ad) u0 r u' := by
  unfold f_X4_isNumber at h
  refine entI (by decide) (Nat.le_of_ble_eq_true rfl) (fun p e s m below meth c ls X K G hl => ?_)
  have hl : lv_has ls 3 [(0, .ref (ad 33)), (1, .int a1), (2, .int a2)] := hl
  obtain ⟨hx, hb, -⟩ := id X
  generalize hH : s.heap = H at G
  subst hH
  refine lv_aload_n hx hb dX4_isNumber_0 rfl (lv_at hl 0 rfl) ?_
  refine gX_33_2 X K G q_261 dX4_isNumber_1 ?_
  refine lv_iconst (v := 2) hx hb dX4_isNumber_4 (by decide) ?_
  refine lv_icmp_ne (tgt := 24) hx hb dX4_isNumber_5 (by decide) (fun c1 => ?_) (fun c1 => ?_)
  · have h := if_at c1 h
    refine lv_iconst (v := 0) hx hb dX4_isNumber_24 (by decide) ?_
    obtain ⟨rfl, rfl⟩ := pair_at h
    exact reZ X G (Or.inl rfl) dX4_isNumber_25
  · have h := it_at c1 h
    refine lv_aload_n hx hb dX4_isNumber_8 rfl (lv_at hl 0 rfl) ?_
    refine gX_33_5 X K G q_264 dX4_isNumber_9 ?_
    refine lv_iload_n hx hb dX4_isNumber_12 rfl (lv_at hl 1 rfl) ?_
    refine lv_iload_n hx hb dX4_isNumber_13 rfl (lv_at hl 2 rfl) ?_
    obtain ⟨r2, u3, er2, h⟩ := bnd_at h
    refine cnI (rest := []) X K G (c_X6_within er2) K.2.1.1 my_X6_within ⟨rfl, rfl⟩ ⟨Nat.le_of_ble_eq_true rfl, Nat.le_of_ble_eq_true rfl⟩ ⟨Nat.zero_le _, Nat.zero_le _⟩ rfl hl.1 rfl (Nat.le_of_ble_eq_true rfl) dX4_isNumber_14 (fun H locs G => ?_)
    clear er2
    refine lv_if_eq (tgt := 24) hx hb dX4_isNumber_17 (by decide) (fun c4 => ?_) (fun c4 => ?_)
    · have h := it_at c4 h
      refine lv_iconst (v := 0) hx hb dX4_isNumber_24 (by decide) ?_
      obtain ⟨rfl, rfl⟩ := pair_at h
      exact reZ X G (Or.inl rfl) dX4_isNumber_25
    · have h := if_at c4 h
      refine lv_iconst (v := 1) hx hb dX4_isNumber_20 (by decide) ?_
      refine lv_goto (tgt := 25) hx hb dX4_isNumber_21 (by decide) ?_
      obtain ⟨rfl, rfl⟩ := pair_at h
      exact reZ X G (Or.inr rfl) dX4_isNumber_25
noncomputable def f_X5_hasThing (a1 : Int32) (u0 : XS) : Option (Int32 × XS) :=
  bnd (f_X6_within a1 (0 : Int32) ((tThings (xT u0)) - (1 : Int32)) u0) fun r1 u2 =>
  if ¬ (r1 = 0 ∨ r1 = 1) then none else
  some (r1, u2)
set_option maxRecDepth 100000 in
set_option maxHeartbeats 4000000 in
theorem c_X5_hasThing {a1 : Int32} {u0 : XS} {r : Int32} {u' : XS} (h : f_X5_hasThing a1 u0 = some (r, u')) : MI l D cI cZ cQ adK adV A yX5_hasThing cX5_hasThing 2 (some .boolean) { frames := 1, cells := 0, slots := 0, locals := 22 } [.ref (ad 1), .int a1] (wX cI cZ cQ ad) u0 r u' := by
  unfold f_X5_hasThing at h
  refine entI (by decide) (Nat.le_of_ble_eq_true rfl) (fun p e s m below meth c ls X K G hl => ?_)
  have hl : lv_has ls 2 [(0, .ref (ad 1)), (1, .int a1)] := hl
  obtain ⟨hx, hb, -⟩ := id X
  generalize hH : s.heap = H at G
  subst hH
  refine lv_iload_n hx hb dX5_hasThing_0 rfl (lv_at hl 1 rfl) ?_
  refine lv_iconst (v := 0) hx hb dX5_hasThing_1 (by decide) ?_
  refine lv_aload_n hx hb dX5_hasThing_2 rfl (lv_at hl 0 rfl) ?_
  refine gX_1_4 X K G q_115 dX5_hasThing_3 ?_
  refine lv_iconst (v := 1) hx hb dX5_hasThing_6 (by decide) ?_
  refine lv_isub hx hb dX5_hasThing_7 ?_
  obtain ⟨r1, u2, er1, h⟩ := bnd_at h
  refine cnI (rest := []) X K G (c_X6_within er1) K.2.1.2.1 my_X6_within ⟨rfl, rfl⟩ ⟨Nat.le_of_ble_eq_true rfl, Nat.le_of_ble_eq_true rfl⟩ ⟨Nat.zero_le _, Nat.zero_le _⟩ rfl hl.1 rfl (Nat.le_of_ble_eq_true rfl) dX5_hasThing_8 (fun H locs G => ?_)
  clear er1
  obtain ⟨g3, h⟩ := ck_at h
  obtain ⟨rfl, rfl⟩ := pair_at h
  exact reZ X G (Decidable.not_not.mp g3) dX5_hasThing_11
noncomputable def f_X5_putStepNumber (a1 : Int32) (a2 : Int32) (a3 : Int32) (a4 : Int32) (u0 : XS) : Option (Int32 × XS) :=
  nmv ((((a1 * (8 : Int32)) + a2) * (3 : Int32)) + a3) fun x1 =>
  if x1 < 0 ∨ 192 ≤ x1.toNatClampNeg then none else
  nmv (sT u0 (uNums (xT u0) (upd (tNums (xT u0)) x1.toNatClampNeg a4))) fun u3 =>
  some ((0 : Int32), u3)
set_option maxRecDepth 100000 in
set_option maxHeartbeats 4000000 in
theorem c_X5_putStepNumber {a1 : Int32} {a2 : Int32} {a3 : Int32} {a4 : Int32} {u0 : XS} {r : Int32} {u' : XS} (h : f_X5_putStepNumber a1 a2 a3 a4 u0 = some (r, u')) : MV l D cI cZ cQ adK adV A yX5_putStepNumber cX5_putStepNumber 5 { frames := 0, cells := 0, slots := 0, locals := 0 } [.ref (ad 1), .int a1, .int a2, .int a3, .int a4] (wX cI cZ cQ ad) u0 u' := by
  unfold f_X5_putStepNumber at h
  refine entV (by decide) (Nat.le_of_ble_eq_true rfl) (fun p e s m below meth c ls X K G hl => ?_)
  have hl : lv_has ls 5 [(0, .ref (ad 1)), (1, .int a1), (2, .int a2), (3, .int a3), (4, .int a4)] := hl
  obtain ⟨hx, hb, -⟩ := id X
  generalize hH : s.heap = H at G
  subst hH
  refine lv_aload_n hx hb dX5_putStepNumber_0 rfl (lv_at hl 0 rfl) ?_
  refine gX_1_9 X K G q_132 dX5_putStepNumber_1 ?_
  refine lv_iload_n hx hb dX5_putStepNumber_4 rfl (lv_at hl 1 rfl) ?_
  refine lv_bipush (v := 8) hx hb dX5_putStepNumber_5 (by decide) ?_
  refine lv_imul hx hb dX5_putStepNumber_7 ?_
  refine lv_iload_n hx hb dX5_putStepNumber_8 rfl (lv_at hl 2 rfl) ?_
  refine lv_iadd hx hb dX5_putStepNumber_9 ?_
  refine lv_iconst (v := 3) hx hb dX5_putStepNumber_10 (by decide) ?_
  refine lv_imul hx hb dX5_putStepNumber_11 ?_
  refine lv_iload_n hx hb dX5_putStepNumber_12 rfl (lv_at hl 3 rfl) ?_
  refine lv_iadd hx hb dX5_putStepNumber_13 ?_
  refine lv_iload hx hb dX5_putStepNumber_14 (lv_at hl 4 rfl) ?_
  refine nm2 (fun x1 ex1 => ?_)
  have h := nm_at ex1 h
  obtain ⟨g2, h⟩ := ck_at h
  refine aX_5 X K G g2 dX5_putStepNumber_16 (fun H locs G => ?_)
  obtain ⟨u3, eu3⟩ : ∃ z : XS, z = sT u0 (uNums (xT u0) (upd (tNums (xT u0)) x1.toNatClampNeg a4)) := ⟨_, rfl⟩
  have G : wg D A s.heap H locs (wX cI cZ cQ ad u3) := by rw [eu3]; exact G
  have h := nm_at eu3 h
  clear eu3
  obtain ⟨rfl, rfl⟩ := pair_at h
  exact reV X G dX5_putStepNumber_17
noncomputable def f_X5_addStep (a1 : Int32) (a2 : Int32) (a3 : Int32) (a4 : Int32) (u0 : XS) : Option (Int32 × XS) :=
  bnd (f_X5_hasThing a1 u0) fun r1 u2 =>
  (if r1 = 0 then
    some ((-1 : Int32), u2)
  else
    if a1 < 0 ∨ 8 ≤ a1.toNatClampNeg then none else
    (if ((tCounts (xT u2)) a1.toNatClampNeg) < (8 : Int32) then
      if a1 < 0 ∨ 8 ≤ a1.toNatClampNeg then none else
      nmv ((tCounts (xT u2)) a1.toNatClampNeg) fun x7 =>
      bnd (f_X5_putStepNumber a1 x7 (0 : Int32) a2 u2) fun r8 u9 =>
      bnd (f_X5_putStepNumber a1 x7 (1 : Int32) a3 u9) fun r10 u11 =>
      bnd (f_X5_putStepNumber a1 x7 (2 : Int32) a4 u11) fun r12 u13 =>
      nmv (x7 + (1 : Int32)) fun x14 =>
      if a1 < 0 ∨ 8 ≤ a1.toNatClampNeg then none else
      nmv (sT u13 (uCounts (xT u13) (upd (tCounts (xT u13)) a1.toNatClampNeg x14))) fun u16 =>
      some (x7 + (1 : Int32), u16)
    else
      some ((-1 : Int32), u2)))
set_option maxRecDepth 100000 in
set_option maxHeartbeats 4000000 in
theorem c_X5_addStep {a1 : Int32} {a2 : Int32} {a3 : Int32} {a4 : Int32} {u0 : XS} {r : Int32} {u' : XS} (h : f_X5_addStep a1 a2 a3 a4 u0 = some (r, u')) : MI l D cI cZ cQ adK adV A yX5_addStep cX5_addStep 6 (some .int) { frames := 2, cells := 0, slots := 0, locals := 43 } [.ref (ad 1), .int a1, .int a2, .int a3, .int a4] (wX cI cZ cQ ad) u0 r u' := by
  unfold f_X5_addStep at h
  refine entI (by decide) (Nat.le_of_ble_eq_true rfl) (fun p e s m below meth c ls X K G hl => ?_)
  have hl : lv_has ls 6 [(0, .ref (ad 1)), (1, .int a1), (2, .int a2), (3, .int a3), (4, .int a4)] := hl
  obtain ⟨hx, hb, -⟩ := id X
  generalize hH : s.heap = H at G
  subst hH
  refine lv_aload_n hx hb dX5_addStep_0 rfl (lv_at hl 0 rfl) ?_
  refine lv_iload_n hx hb dX5_addStep_1 rfl (lv_at hl 1 rfl) ?_
  obtain ⟨r1, u2, er1, h⟩ := bnd_at h
  refine cvI (rest := []) X K G (c_X5_hasThing er1) q_504 my_X5_hasThing ⟨rfl, rfl⟩ ⟨Nat.le_of_ble_eq_true rfl, Nat.le_of_ble_eq_true rfl⟩ ⟨Nat.zero_le _, Nat.zero_le _⟩ 1 5 rfl rfl rfl rfl hl.1 rfl (Nat.le_of_ble_eq_true rfl) dX5_addStep_2 (fun H locs G => ?_)
  clear er1
  refine lv_if_eq (tgt := 19) hx hb dX5_addStep_5 (by decide) (fun c3 => ?_) (fun c3 => ?_)
  · have h := it_at c3 h
    refine lv_iconst (v := -1) hx hb dX5_addStep_19 (by decide) ?_
    obtain ⟨rfl, rfl⟩ := pair_at h
    exact reI X G dX5_addStep_20
  · have h := if_at c3 h
    refine lv_aload_n hx hb dX5_addStep_8 rfl (lv_at hl 0 rfl) ?_
    refine gX_1_8 X K G q_128 dX5_addStep_9 ?_
    refine lv_iload_n hx hb dX5_addStep_12 rfl (lv_at hl 1 rfl) ?_
    obtain ⟨g4, h⟩ := ck_at h
    refine lX_4 X K G g4 dX5_addStep_13 ?_
    refine lv_bipush (v := 8) hx hb dX5_addStep_14 (by decide) ?_
    refine lv_icmp_lt (tgt := 21) hx hb dX5_addStep_16 (by decide) (fun c5 => ?_) (fun c5 => ?_)
    · have h := it_at c5 h
      refine lv_aload_n hx hb dX5_addStep_21 rfl (lv_at hl 0 rfl) ?_
      refine gX_1_8 X K G q_128 dX5_addStep_22 ?_
      refine lv_iload_n hx hb dX5_addStep_25 rfl (lv_at hl 1 rfl) ?_
      obtain ⟨g6, h⟩ := ck_at h
      refine lX_4 X K G g6 dX5_addStep_26 ?_
      refine lv_topi (fun x7 ex7 => ?_)
      have h := nm_at ex7 h
      refine lv_istore (lv' := [(5, .int x7), (0, .ref (ad 1)), (1, .int a1), (2, .int a2), (3, .int a3), (4, .int a4)]) hx hb dX5_addStep_27 hl (by decide) rfl (fun ls hl => ?_)
      refine lv_aload_n hx hb dX5_addStep_29 rfl (lv_at hl 1 rfl) ?_
      refine lv_iload_n hx hb dX5_addStep_30 rfl (lv_at hl 2 rfl) ?_
      refine lv_iload hx hb dX5_addStep_31 (lv_at hl 0 rfl) ?_
      refine lv_iconst (v := 0) hx hb dX5_addStep_33 (by decide) ?_
      refine lv_iload_n hx hb dX5_addStep_34 rfl (lv_at hl 3 rfl) ?_
      obtain ⟨r8, u9, er8, h⟩ := bnd_at h
      refine cvV (rest := []) X K G (c_X5_putStepNumber er8) q_509 my_X5_putStepNumber ⟨rfl, rfl⟩ ⟨Nat.le_of_ble_eq_true rfl, Nat.le_of_ble_eq_true rfl⟩ ⟨Nat.zero_le _, Nat.zero_le _⟩ 1 5 rfl rfl rfl rfl hl.1 rfl (Nat.le_of_ble_eq_true rfl) dX5_addStep_35 (fun H locs G => ?_)
      clear er8
      refine lv_aload_n hx hb dX5_addStep_38 rfl (lv_at hl 1 rfl) ?_
      refine lv_iload_n hx hb dX5_addStep_39 rfl (lv_at hl 2 rfl) ?_
      refine lv_iload hx hb dX5_addStep_40 (lv_at hl 0 rfl) ?_
      refine lv_iconst (v := 1) hx hb dX5_addStep_42 (by decide) ?_
      refine lv_iload_n hx hb dX5_addStep_43 rfl (lv_at hl 4 rfl) ?_
      obtain ⟨r10, u11, er10, h⟩ := bnd_at h
      refine cvV (rest := []) X K G (c_X5_putStepNumber er10) q_509 my_X5_putStepNumber ⟨rfl, rfl⟩ ⟨Nat.le_of_ble_eq_true rfl, Nat.le_of_ble_eq_true rfl⟩ ⟨Nat.zero_le _, Nat.zero_le _⟩ 1 5 rfl rfl rfl rfl hl.1 rfl (Nat.le_of_ble_eq_true rfl) dX5_addStep_44 (fun H locs G => ?_)
      clear er10
      refine lv_aload_n hx hb dX5_addStep_47 rfl (lv_at hl 1 rfl) ?_
      refine lv_iload_n hx hb dX5_addStep_48 rfl (lv_at hl 2 rfl) ?_
      refine lv_iload hx hb dX5_addStep_49 (lv_at hl 0 rfl) ?_
      refine lv_iconst (v := 2) hx hb dX5_addStep_51 (by decide) ?_
      refine lv_iload hx hb dX5_addStep_52 (lv_at hl 5 rfl) ?_
      obtain ⟨r12, u13, er12, h⟩ := bnd_at h
      refine cvV (rest := []) X K G (c_X5_putStepNumber er12) q_509 my_X5_putStepNumber ⟨rfl, rfl⟩ ⟨Nat.le_of_ble_eq_true rfl, Nat.le_of_ble_eq_true rfl⟩ ⟨Nat.zero_le _, Nat.zero_le _⟩ 1 5 rfl rfl rfl rfl hl.1 rfl (Nat.le_of_ble_eq_true rfl) dX5_addStep_54 (fun H locs G => ?_)
      clear er12
      refine lv_aload_n hx hb dX5_addStep_57 rfl (lv_at hl 1 rfl) ?_
      refine gX_1_8 X K G q_128 dX5_addStep_58 ?_
      refine lv_iload_n hx hb dX5_addStep_61 rfl (lv_at hl 2 rfl) ?_
      refine lv_iload hx hb dX5_addStep_62 (lv_at hl 0 rfl) ?_
      refine lv_iconst (v := 1) hx hb dX5_addStep_64 (by decide) ?_
      refine lv_iadd hx hb dX5_addStep_65 ?_
      refine lv_topi (fun x14 ex14 => ?_)
      have h := nm_at ex14 h
      obtain ⟨g15, h⟩ := ck_at h
      refine aX_4 X K G g15 dX5_addStep_66 (fun H locs G => ?_)
      obtain ⟨u16, eu16⟩ : ∃ z : XS, z = sT u13 (uCounts (xT u13) (upd (tCounts (xT u13)) a1.toNatClampNeg x14)) := ⟨_, rfl⟩
      have G : wg D A s.heap H locs (wX cI cZ cQ ad u16) := by rw [eu16]; exact G
      have h := nm_at eu16 h
      clear eu16
      refine lv_iload hx hb dX5_addStep_67 (lv_at hl 0 rfl) ?_
      refine lv_iconst (v := 1) hx hb dX5_addStep_69 (by decide) ?_
      refine lv_iadd hx hb dX5_addStep_70 ?_
      obtain ⟨rfl, rfl⟩ := pair_at h
      exact reI X G dX5_addStep_71
    · have h := if_at c5 h
      refine lv_iconst (v := -1) hx hb dX5_addStep_19 (by decide) ?_
      obtain ⟨rfl, rfl⟩ := pair_at h
      exact reI X G dX5_addStep_20
noncomputable def f_X4_readStep_88 (v1 : Int32) (v2 : Int32) (v3 : Int32) (v4 : Int32) (u0 : XS) : Option (Int32 × XS) :=
  bnd (f_X5_addStep v1 v2 v3 v4 u0) fun r1 u2 =>
  some ((1 : Int32), u2)
set_option maxRecDepth 100000 in
set_option maxHeartbeats 4000000 in
theorem b_X4_readStep_88 (X : cx p s m args meth c cX4_readStep 5 RX4 (some .boolean)) (K : kx D cI cZ cQ adK adV A s s.heap) {v1 : Int32} {v2 : Int32} {v3 : Int32} {v4 : Int32} {u0 : XS} (G : wg D A s.heap H locs (wX cI cZ cQ ad u0)) (hl : lv_has ls 5 [(0, .ref (ad 33)), (1, .int v1), (2, .int v2), (3, .int v3), (4, .int v4)]) {r : Int32} {u' : XS} (h : f_X4_readStep_88 v1 v2 v3 v4 u0 = some (r, u')) : W p l e { frames := 5, cells := 0, slots := 0, locals := 107 } s m args below meth c H locs 0 0 (qI D A (wX cI cZ cQ ad) below args s r u') (F0 m 88 ls []) := by
  unfold f_X4_readStep_88 at h
  obtain ⟨hx, hb, -⟩ := id X
  refine lv_aload_n hx hb dX4_readStep_88 rfl (lv_at hl 0 rfl) ?_
  refine gX_33_1 X K G q_260 dX4_readStep_89 ?_
  refine lv_iload_n hx hb dX4_readStep_92 rfl (lv_at hl 1 rfl) ?_
  refine lv_iload_n hx hb dX4_readStep_93 rfl (lv_at hl 2 rfl) ?_
  refine lv_iload_n hx hb dX4_readStep_94 rfl (lv_at hl 3 rfl) ?_
  refine lv_iload hx hb dX4_readStep_95 (lv_at hl 4 rfl) ?_
  obtain ⟨r1, u2, er1, h⟩ := bnd_at h
  refine cvI (rest := []) X K G (c_X5_addStep er1) q_500 my_X5_addStep ⟨rfl, rfl⟩ ⟨Nat.le_of_ble_eq_true rfl, Nat.le_of_ble_eq_true rfl⟩ ⟨Nat.zero_le _, Nat.zero_le _⟩ 1 5 rfl rfl rfl rfl hl.1 rfl (Nat.le_of_ble_eq_true rfl) dX4_readStep_97 (fun H locs G => ?_)
  clear er1
  refine lv_pop hx hb dX4_readStep_100 rfl ?_
  refine lv_iconst (v := 1) hx hb dX4_readStep_101 (by decide) ?_
  obtain ⟨rfl, rfl⟩ := pair_at h
  exact reZ X G (Or.inr rfl) dX4_readStep_102
noncomputable def f_X4_readStep (a1 : Int32) (u0 : XS) : Option (Int32 × XS) :=
  bnd (f_X4_isNumber (0 : Int32) ((tTools (xT u0)) - (1 : Int32)) u0) fun r1 u2 =>
  (if r1 = 0 then
    some ((0 : Int32), u2)
  else
    nmv (r_value (xR u2)) fun x4 =>
    bnd (f_X4_goOn  u2) fun r5 u6 =>
    bnd (f_X4_isNumber (1 : Int32) (8 : Int32) u6) fun r7 u8 =>
    (if r7 = 0 then
      some ((0 : Int32), u8)
    else
      nmv (r_value (xR u8)) fun x10 =>
      bnd (f_X4_goOn  u8) fun r11 u12 =>
      bnd (f_X4_isWord (4) u12) fun r13 u14 =>
      (if r13 = 0 then
        f_X4_readStep_88 a1 x4 x10 (99 : Int32) u14
      else
        bnd (f_X4_goOn  u14) fun r16 u17 =>
        bnd (f_X4_isNumber (0 : Int32) (99 : Int32) u17) fun r18 u19 =>
        (if r18 = 0 then
          some ((0 : Int32), u19)
        else
          nmv (r_value (xR u19)) fun x21 =>
          bnd (f_X4_goOn  u19) fun r22 u23 =>
          f_X4_readStep_88 a1 x4 x10 x21 u23))))
set_option maxRecDepth 100000 in
set_option maxHeartbeats 4000000 in
theorem c_X4_readStep {a1 : Int32} {u0 : XS} {r : Int32} {u' : XS} (h : f_X4_readStep a1 u0 = some (r, u')) : MI l D cI cZ cQ adK adV A yX4_readStep cX4_readStep 5 (some .boolean) { frames := 5, cells := 0, slots := 0, locals := 107 } [.ref (ad 33), .int a1] (wX cI cZ cQ ad) u0 r u' := by
  unfold f_X4_readStep at h
  refine entI (by decide) (Nat.le_of_ble_eq_true rfl) (fun p e s m below meth c ls X K G hl => ?_)
  have hl : lv_has ls 5 [(0, .ref (ad 33)), (1, .int a1)] := hl
  obtain ⟨hx, hb, -⟩ := id X
  generalize hH : s.heap = H at G
  subst hH
  refine lv_aload_n hx hb dX4_readStep_0 rfl (lv_at hl 0 rfl) ?_
  refine lv_iconst (v := 0) hx hb dX4_readStep_1 (by decide) ?_
  refine lv_aload_n hx hb dX4_readStep_2 rfl (lv_at hl 0 rfl) ?_
  refine gX_33_1 X K G q_260 dX4_readStep_3 ?_
  refine gX_1_3 X K G q_113 dX4_readStep_6 ?_
  refine lv_iconst (v := 1) hx hb dX4_readStep_9 (by decide) ?_
  refine lv_isub hx hb dX4_readStep_10 ?_
  obtain ⟨r1, u2, er1, h⟩ := bnd_at h
  refine cvI (rest := []) X K G (c_X4_isNumber er1) q_439 my_X4_isNumber ⟨rfl, rfl⟩ ⟨Nat.le_of_ble_eq_true rfl, Nat.le_of_ble_eq_true rfl⟩ ⟨Nat.zero_le _, Nat.zero_le _⟩ 33 4 rfl rfl rfl rfl hl.1 rfl (Nat.le_of_ble_eq_true rfl) dX4_readStep_11 (fun H locs G => ?_)
  clear er1
  refine lv_if_ne (tgt := 19) hx hb dX4_readStep_14 (by decide) (fun c3 => ?_) (fun c3 => ?_)
  · have h := if_at c3 h
    refine lv_aload_n hx hb dX4_readStep_19 rfl (lv_at hl 0 rfl) ?_
    refine gX_33_5 X K G q_264 dX4_readStep_20 ?_
    refine lv_topi (fun x4 ex4 => ?_)
    have h := nm_at ex4 h
    refine lv_istore_n (lv' := [(2, .int x4), (0, .ref (ad 33)), (1, .int a1)]) hx hb dX4_readStep_23 rfl hl (by decide) rfl (fun ls hl => ?_)
    refine lv_aload_n hx hb dX4_readStep_24 rfl (lv_at hl 1 rfl) ?_
    obtain ⟨r5, u6, er5, h⟩ := bnd_at h
    refine cvV (rest := []) X K G (c_X4_goOn er5) q_366 my_X4_goOn ⟨rfl, rfl⟩ ⟨Nat.le_of_ble_eq_true rfl, Nat.le_of_ble_eq_true rfl⟩ ⟨Nat.zero_le _, Nat.zero_le _⟩ 33 4 rfl rfl rfl rfl hl.1 rfl (Nat.le_of_ble_eq_true rfl) dX4_readStep_25 (fun H locs G => ?_)
    clear er5
    refine lv_aload_n hx hb dX4_readStep_28 rfl (lv_at hl 1 rfl) ?_
    refine lv_iconst (v := 1) hx hb dX4_readStep_29 (by decide) ?_
    refine lv_bipush (v := 8) hx hb dX4_readStep_30 (by decide) ?_
    obtain ⟨r7, u8, er7, h⟩ := bnd_at h
    refine cvI (rest := []) X K G (c_X4_isNumber er7) q_439 my_X4_isNumber ⟨rfl, rfl⟩ ⟨Nat.le_of_ble_eq_true rfl, Nat.le_of_ble_eq_true rfl⟩ ⟨Nat.zero_le _, Nat.zero_le _⟩ 33 4 rfl rfl rfl rfl hl.1 rfl (Nat.le_of_ble_eq_true rfl) dX4_readStep_32 (fun H locs G => ?_)
    clear er7
    refine lv_if_ne (tgt := 40) hx hb dX4_readStep_35 (by decide) (fun c9 => ?_) (fun c9 => ?_)
    · have h := if_at c9 h
      refine lv_aload_n hx hb dX4_readStep_40 rfl (lv_at hl 1 rfl) ?_
      refine gX_33_5 X K G q_264 dX4_readStep_41 ?_
      refine lv_topi (fun x10 ex10 => ?_)
      have h := nm_at ex10 h
      refine lv_istore_n (lv' := [(3, .int x10), (2, .int x4), (0, .ref (ad 33)), (1, .int a1)]) hx hb dX4_readStep_44 rfl hl (by decide) rfl (fun ls hl => ?_)
      refine lv_aload_n hx hb dX4_readStep_45 rfl (lv_at hl 2 rfl) ?_
      obtain ⟨r11, u12, er11, h⟩ := bnd_at h
      refine cvV (rest := []) X K G (c_X4_goOn er11) q_366 my_X4_goOn ⟨rfl, rfl⟩ ⟨Nat.le_of_ble_eq_true rfl, Nat.le_of_ble_eq_true rfl⟩ ⟨Nat.zero_le _, Nat.zero_le _⟩ 33 4 rfl rfl rfl rfl hl.1 rfl (Nat.le_of_ble_eq_true rfl) dX4_readStep_46 (fun H locs G => ?_)
      clear er11
      refine lv_bipush (v := 99) hx hb dX4_readStep_49 (by decide) ?_
      refine lv_istore (lv' := [(4, .int (99 : Int32)), (3, .int x10), (2, .int x4), (0, .ref (ad 33)), (1, .int a1)]) hx hb dX4_readStep_51 hl (by decide) rfl (fun ls hl => ?_)
      refine lv_aload_n hx hb dX4_readStep_53 rfl (lv_at hl 3 rfl) ?_
      refine va_ldcS (q := adK 4) hx hb X.2.2.2.1 (K.2.2.2.1 4 (by decide)).1 dX4_readStep_54 ?_
      obtain ⟨r13, u14, er13, h⟩ := bnd_at h
      refine cvI (rest := []) X K G (c_X4_isWord er13) q_383 my_X4_isWord ⟨rfl, rfl⟩ ⟨Nat.le_of_ble_eq_true rfl, Nat.le_of_ble_eq_true rfl⟩ ⟨Nat.zero_le _, Nat.zero_le _⟩ 33 4 rfl rfl rfl rfl hl.1 rfl (Nat.le_of_ble_eq_true rfl) dX4_readStep_56 (fun H locs G => ?_)
      clear er13
      refine lv_if_eq (tgt := 88) hx hb dX4_readStep_59 (by decide) (fun c15 => ?_) (fun c15 => ?_)
      · have h := it_at c15 h
        exact b_X4_readStep_88 X K G (lv_sub hl [3, 4, 2, 1, 0] rfl) h
      · have h := if_at c15 h
        refine lv_aload_n hx hb dX4_readStep_62 rfl (lv_at hl 3 rfl) ?_
        obtain ⟨r16, u17, er16, h⟩ := bnd_at h
        refine cvV (rest := []) X K G (c_X4_goOn er16) q_366 my_X4_goOn ⟨rfl, rfl⟩ ⟨Nat.le_of_ble_eq_true rfl, Nat.le_of_ble_eq_true rfl⟩ ⟨Nat.zero_le _, Nat.zero_le _⟩ 33 4 rfl rfl rfl rfl hl.1 rfl (Nat.le_of_ble_eq_true rfl) dX4_readStep_63 (fun H locs G => ?_)
        clear er16
        refine lv_aload_n hx hb dX4_readStep_66 rfl (lv_at hl 3 rfl) ?_
        refine lv_iconst (v := 0) hx hb dX4_readStep_67 (by decide) ?_
        refine lv_bipush (v := 99) hx hb dX4_readStep_68 (by decide) ?_
        obtain ⟨r18, u19, er18, h⟩ := bnd_at h
        refine cvI (rest := []) X K G (c_X4_isNumber er18) q_439 my_X4_isNumber ⟨rfl, rfl⟩ ⟨Nat.le_of_ble_eq_true rfl, Nat.le_of_ble_eq_true rfl⟩ ⟨Nat.zero_le _, Nat.zero_le _⟩ 33 4 rfl rfl rfl rfl hl.1 rfl (Nat.le_of_ble_eq_true rfl) dX4_readStep_70 (fun H locs G => ?_)
        clear er18
        refine lv_if_ne (tgt := 78) hx hb dX4_readStep_73 (by decide) (fun c20 => ?_) (fun c20 => ?_)
        · have h := if_at c20 h
          refine lv_aload_n hx hb dX4_readStep_78 rfl (lv_at hl 3 rfl) ?_
          refine gX_33_5 X K G q_264 dX4_readStep_79 ?_
          refine lv_topi (fun x21 ex21 => ?_)
          have h := nm_at ex21 h
          refine lv_istore (lv' := [(4, .int x21), (3, .int x10), (2, .int x4), (0, .ref (ad 33)), (1, .int a1)]) hx hb dX4_readStep_82 hl (by decide) rfl (fun ls hl => ?_)
          refine lv_aload_n hx hb dX4_readStep_84 rfl (lv_at hl 3 rfl) ?_
          obtain ⟨r22, u23, er22, h⟩ := bnd_at h
          refine cvV (rest := []) X K G (c_X4_goOn er22) q_366 my_X4_goOn ⟨rfl, rfl⟩ ⟨Nat.le_of_ble_eq_true rfl, Nat.le_of_ble_eq_true rfl⟩ ⟨Nat.zero_le _, Nat.zero_le _⟩ 33 4 rfl rfl rfl rfl hl.1 rfl (Nat.le_of_ble_eq_true rfl) dX4_readStep_85 (fun H locs G => ?_)
          clear er22
          exact b_X4_readStep_88 X K G (lv_sub hl [3, 4, 2, 1, 0] rfl) h
        · have h := it_at c20 h
          refine lv_iconst (v := 0) hx hb dX4_readStep_76 (by decide) ?_
          obtain ⟨rfl, rfl⟩ := pair_at h
          exact reZ X G (Or.inl rfl) dX4_readStep_77
    · have h := it_at c9 h
      refine lv_iconst (v := 0) hx hb dX4_readStep_38 (by decide) ?_
      obtain ⟨rfl, rfl⟩ := pair_at h
      exact reZ X G (Or.inl rfl) dX4_readStep_39
  · have h := it_at c3 h
    refine lv_iconst (v := 0) hx hb dX4_readStep_17 (by decide) ?_
    obtain ⟨rfl, rfl⟩ := pair_at h
    exact reZ X G (Or.inl rfl) dX4_readStep_18
noncomputable def f_X4_readThing_L29_29 (v2 : Int32) (v3 : Int32) (u0 : XS) : Option ((Int32 × Int32 × XS) ⊕ ((Int32 × XS) ⊕ (XS))) :=
  (if (8 : Int32) ≤ v3 then
    some (.inr (.inr u0))
  else
    bnd (f_X4_goOn  u0) fun r2 u3 =>
    bnd (f_X4_readStep v2 u3) fun r4 u5 =>
    (if r4 = 0 then
      some (.inr (.inl ((0 : Int32), u5)))
    else
      (if (r_token (xR u5)) = (4 : Int32) then
        nmv (v3 + (1 : Int32)) fun x8 =>
        some (.inl (v2, x8, u5))
      else
        some (.inr (.inl ((1 : Int32), u5))))))
set_option maxRecDepth 100000 in
set_option maxHeartbeats 4000000 in
theorem b_X4_readThing_L29_29 (X : cx p s m args meth c cX4_readThing 4 RX4 (some .boolean)) (K : kx D cI cZ cQ adK adV A s s.heap) {v2 : Int32} {v3 : Int32} {u0 : XS} (G : wg D A s.heap H locs (wX cI cZ cQ ad u0)) (hl : lv_has ls 4 [(0, .ref (ad 33)), (2, .int v2), (3, .int v3)]) {q : ((Int32 × Int32 × XS) ⊕ ((Int32 × XS) ⊕ (XS)))} (h : f_X4_readThing_L29_29 v2 v3 u0 = some q) (hB : ∀ (v2 : Int32) (v3 : Int32) (u : XS), q = .inl (v2, v3, u) → ∀ (H : Heap) (locs : List Loc) (ls : Array Slot), wg D A s.heap H locs (wX cI cZ cQ ad u) → lv_has ls 4 [(0, .ref (ad 33)), (2, .int v2), (3, .int v3)] → W p l e { frames := 6, cells := 0, slots := 0, locals := 131 } s m args below meth c H locs 0 0 Q (F0 m 29 ls [])) (hX : ∀ (u : XS), q = .inr (.inr u) → ∀ (H : Heap) (locs : List Loc) (ls : Array Slot), wg D A s.heap H locs (wX cI cZ cQ ad u) → lv_has ls 4 [] → W p l e { frames := 6, cells := 0, slots := 0, locals := 131 } s m args below meth c H locs 0 0 Q (F0 m 65 ls [])) (hR : ∀ (r : Int32) (u : XS), q = .inr (.inl (r, u)) → Q = (qI D A (wX cI cZ cQ ad) below args s r u)) : W p l e { frames := 6, cells := 0, slots := 0, locals := 131 } s m args below meth c H locs 0 0 Q (F0 m 29 ls []) := by
  unfold f_X4_readThing_L29_29 at h
  obtain ⟨hx, hb, -⟩ := id X
  refine lv_iload_n hx hb dX4_readThing_29 rfl (lv_at hl 2 rfl) ?_
  refine lv_bipush (v := 8) hx hb dX4_readThing_30 (by decide) ?_
  refine lv_icmp_ge (tgt := 65) hx hb dX4_readThing_32 (by decide) (fun c1 => ?_) (fun c1 => ?_)
  · have h := it_at c1 h
    exact hX _ (Option.some.inj h).symm _ _ _ G (lv_sub hl [] rfl)
  · have h := if_at c1 h
    refine lv_aload_n hx hb dX4_readThing_35 rfl (lv_at hl 0 rfl) ?_
    obtain ⟨r2, u3, er2, h⟩ := bnd_at h
    refine cvV (rest := []) X K G (c_X4_goOn er2) q_366 my_X4_goOn ⟨rfl, rfl⟩ ⟨Nat.le_of_ble_eq_true rfl, Nat.le_of_ble_eq_true rfl⟩ ⟨Nat.zero_le _, Nat.zero_le _⟩ 33 4 rfl rfl rfl rfl hl.1 rfl (Nat.le_of_ble_eq_true rfl) dX4_readThing_36 (fun H locs G => ?_)
    clear er2
    refine lv_aload_n hx hb dX4_readThing_39 rfl (lv_at hl 0 rfl) ?_
    refine lv_iload_n hx hb dX4_readThing_40 rfl (lv_at hl 1 rfl) ?_
    obtain ⟨r4, u5, er4, h⟩ := bnd_at h
    refine cvI (rest := []) X K G (c_X4_readStep er4) q_495 my_X4_readStep ⟨rfl, rfl⟩ ⟨Nat.le_of_ble_eq_true rfl, Nat.le_of_ble_eq_true rfl⟩ ⟨Nat.zero_le _, Nat.zero_le _⟩ 33 4 rfl rfl rfl rfl hl.1 rfl (Nat.le_of_ble_eq_true rfl) dX4_readThing_41 (fun H locs G => ?_)
    clear er4
    refine lv_if_ne (tgt := 49) hx hb dX4_readThing_44 (by decide) (fun c6 => ?_) (fun c6 => ?_)
    · have h := if_at c6 h
      refine lv_aload_n hx hb dX4_readThing_49 rfl (lv_at hl 0 rfl) ?_
      refine gX_33_2 X K G q_261 dX4_readThing_50 ?_
      refine lv_iconst (v := 4) hx hb dX4_readThing_53 (by decide) ?_
      refine lv_icmp_eq (tgt := 59) hx hb dX4_readThing_54 (by decide) (fun c7 => ?_) (fun c7 => ?_)
      · have h := it_at c7 h
        obtain ⟨x8, ex8⟩ : ∃ z : Int32, z = v3 + (1 : Int32) := ⟨_, rfl⟩
        have h := nm_at ex8 h
        refine lv_iinc (v := x8) (lv' := [(3, .int x8), (0, .ref (ad 33)), (2, .int v2)]) hx hb dX4_readThing_59 hl (k := 2) rfl (by rw [ex8]; rfl) (by decide) rfl (fun ls hl => ?_)
        refine lv_goto (tgt := 29) hx hb dX4_readThing_62 (by decide) ?_
        exact hB _ _ _ (Option.some.inj h).symm _ _ _ G (lv_sub hl [1, 2, 0] rfl)
      · have h := if_at c7 h
        refine lv_iconst (v := 1) hx hb dX4_readThing_57 (by decide) ?_
        rw [hR _ _ (Option.some.inj h).symm]
        exact reZ X G (Or.inr rfl) dX4_readThing_58
    · have h := it_at c6 h
      refine lv_iconst (v := 0) hx hb dX4_readThing_47 (by decide) ?_
      rw [hR _ _ (Option.some.inj h).symm]
      exact reZ X G (Or.inl rfl) dX4_readThing_48
noncomputable def f_X4_readThing_L29_29s (q : Int32 × Int32 × XS) : Option ((Int32 × Int32 × XS) ⊕ ((Int32 × XS) ⊕ (XS))) := f_X4_readThing_L29_29 q.1 q.2.1 q.2.2
set_option maxRecDepth 100000 in
set_option maxHeartbeats 4000000 in
theorem w_X4_readThing_L29_29 (X : cx p s m args meth c cX4_readThing 4 RX4 (some .boolean)) (K : kx D cI cZ cQ adK adV A s s.heap) {e0 : (Int32 × XS) ⊕ (XS)} : ∀ (n : Nat) (v2 : Int32) (v3 : Int32) (u : XS) {H : Heap} {locs : List Loc} {ls : Array Slot}, wh f_X4_readThing_L29_29s n (v2, v3, u) = some e0 → wg D A s.heap H locs (wX cI cZ cQ ad u) → lv_has ls 4 [(0, .ref (ad 33)), (2, .int v2), (3, .int v3)] → (∀ (u : XS), e0 = .inr u → ∀ (H : Heap) (locs : List Loc) (ls : Array Slot), wg D A s.heap H locs (wX cI cZ cQ ad u) → lv_has ls 4 [] → W p l e { frames := 6, cells := 0, slots := 0, locals := 131 } s m args below meth c H locs 0 0 Q (F0 m 65 ls [])) → (∀ (r : Int32) (u : XS), e0 = .inl (r, u) → Q = (qI D A (wX cI cZ cQ ad) below args s r u)) → W p l e { frames := 6, cells := 0, slots := 0, locals := 131 } s m args below meth c H locs 0 0 Q (F0 m 29 ls []) := by
  intro n
  induction n with
  | zero => intro v2 v3 u H locs ls h; cases h
  | succ n ih =>
    intro v2 v3 u H locs ls h G hl hX hR
    obtain ⟨q, h1, h2, h3⟩ := wh_at h
    exact b_X4_readThing_L29_29 X K G hl (show f_X4_readThing_L29_29 v2 v3 u = some q from h1) (fun b0 b1 b2 ee H locs ls G hl => ih b0 b1 b2 (h2 _ ee) G hl hX hR) (fun z0 ee => hX z0 (h3 _ ee).symm) (fun r u ee => hR r u (h3 _ ee).symm)
noncomputable def f_X4_readThing (a1 : Int32) (u0 : XS) : Option (Int32 × XS) :=
  (if a1 < 0 then
    some ((0 : Int32), u0)
  else
    (if (tThings (xT u0)) < (8 : Int32) then
      bnd (f_X5_addThing a1 u0) fun r3 u4 =>
      bne (wl f_X4_readThing_L29_29s (r3, (0 : Int32), u4)) (fun a => some a) fun b =>
        nmv b fun u7 =>
        some ((0 : Int32), u7)
    else
      some ((0 : Int32), u0)))
set_option maxRecDepth 100000 in
set_option maxHeartbeats 4000000 in
theorem c_X4_readThing {a1 : Int32} {u0 : XS} {r : Int32} {u' : XS} (h : f_X4_readThing a1 u0 = some (r, u')) : MI l D cI cZ cQ adK adV A yX4_readThing cX4_readThing 4 (some .boolean) { frames := 6, cells := 0, slots := 0, locals := 131 } [.ref (ad 33), .int a1] (wX cI cZ cQ ad) u0 r u' := by
  unfold f_X4_readThing at h
  refine entI (by decide) (Nat.le_of_ble_eq_true rfl) (fun p e s m below meth c ls X K G hl => ?_)
  have hl : lv_has ls 4 [(0, .ref (ad 33)), (1, .int a1)] := hl
  obtain ⟨hx, hb, -⟩ := id X
  generalize hH : s.heap = H at G
  subst hH
  refine lv_iload_n hx hb dX4_readThing_0 rfl (lv_at hl 1 rfl) ?_
  refine lv_if_lt (tgt := 16) hx hb dX4_readThing_1 (by decide) (fun c1 => ?_) (fun c1 => ?_)
  · have h := it_at c1 h
    refine lv_iconst (v := 0) hx hb dX4_readThing_16 (by decide) ?_
    obtain ⟨rfl, rfl⟩ := pair_at h
    exact reZ X G (Or.inl rfl) dX4_readThing_17
  · have h := if_at c1 h
    refine lv_aload_n hx hb dX4_readThing_4 rfl (lv_at hl 0 rfl) ?_
    refine gX_33_1 X K G q_260 dX4_readThing_5 ?_
    refine gX_1_4 X K G q_116 dX4_readThing_8 ?_
    refine lv_bipush (v := 8) hx hb dX4_readThing_11 (by decide) ?_
    refine lv_icmp_lt (tgt := 18) hx hb dX4_readThing_13 (by decide) (fun c2 => ?_) (fun c2 => ?_)
    · have h := it_at c2 h
      refine lv_aload_n hx hb dX4_readThing_18 rfl (lv_at hl 0 rfl) ?_
      refine gX_33_1 X K G q_260 dX4_readThing_19 ?_
      refine lv_iload_n hx hb dX4_readThing_22 rfl (lv_at hl 1 rfl) ?_
      obtain ⟨r3, u4, er3, h⟩ := bnd_at h
      refine cvI (rest := []) X K G (c_X5_addThing er3) q_491 my_X5_addThing ⟨rfl, rfl⟩ ⟨Nat.le_of_ble_eq_true rfl, Nat.le_of_ble_eq_true rfl⟩ ⟨Nat.zero_le _, Nat.zero_le _⟩ 1 5 rfl rfl rfl rfl hl.1 rfl (Nat.le_of_ble_eq_true rfl) dX4_readThing_23 (fun H locs G => ?_)
      clear er3
      refine lv_istore_n (lv' := [(2, .int r3), (0, .ref (ad 33)), (1, .int a1)]) hx hb dX4_readThing_26 rfl hl (by decide) rfl (fun ls hl => ?_)
      refine lv_iconst (v := 0) hx hb dX4_readThing_27 (by decide) ?_
      refine lv_istore_n (lv' := [(3, .int (0 : Int32)), (2, .int r3), (0, .ref (ad 33)), (1, .int a1)]) hx hb dX4_readThing_28 rfl hl (by decide) rfl (fun ls hl => ?_)
      obtain ⟨q6, hq6, ha, hb1⟩ := bne_at h
      obtain ⟨n5, hn5⟩ := wl_iff.mp hq6
      refine w_X4_readThing_L29_29 X K n5 _ _ _ hn5 G (lv_sub hl [2, 1, 0] rfl) (fun  u7 ee H locs ls G hl => ?_) (fun r u1 ee => by obtain ⟨rfl, rfl⟩ := pair_at (ha _ ee); rfl)
      have h := hb1 _ ee
      clear ee ha hb1 hq6 hn5
      have h := nm_at (x := u7) rfl h
      refine lv_iconst (v := 0) hx hb dX4_readThing_65 (by decide) ?_
      obtain ⟨rfl, rfl⟩ := pair_at h
      exact reZ X G (Or.inl rfl) dX4_readThing_66
    · have h := if_at c2 h
      refine lv_iconst (v := 0) hx hb dX4_readThing_16 (by decide) ?_
      obtain ⟨rfl, rfl⟩ := pair_at h
      exact reZ X G (Or.inl rfl) dX4_readThing_17
noncomputable def f_X4_readBehindWord (j1 : Nat) (a2 : Int32) (a3 : Int32) (u0 : XS) : Option (Int32 × XS) :=
  bnd (f_X4_isWord j1 u0) fun r1 u2 =>
  (if r1 = 0 then
    some ((0 : Int32), u2)
  else
    bnd (f_X4_goOn  u2) fun r4 u5 =>
    bnd (f_X4_isNumber a2 a3 u5) fun r6 u7 =>
    if ¬ (r6 = 0 ∨ r6 = 1) then none else
    some (r6, u7))
set_option maxRecDepth 100000 in
set_option maxHeartbeats 4000000 in
theorem c_X4_readBehindWord {j1 : Nat} {a2 : Int32} {a3 : Int32} {u0 : XS} {r : Int32} {u' : XS} (h : f_X4_readBehindWord j1 a2 a3 u0 = some (r, u')) : MI l D cI cZ cQ adK adV A yX4_readBehindWord cX4_readBehindWord 4 (some .boolean) { frames := 5, cells := 0, slots := 0, locals := 107 } [.ref (ad 33), .ref (adK j1), .int a2, .int a3] (wX cI cZ cQ ad) u0 r u' := by
  unfold f_X4_readBehindWord at h
  refine entI (by decide) (Nat.le_of_ble_eq_true rfl) (fun p e s m below meth c ls X K G hl => ?_)
  have hl : lv_has ls 4 [(0, .ref (ad 33)), (1, .ref (adK j1)), (2, .int a2), (3, .int a3)] := hl
  obtain ⟨hx, hb, -⟩ := id X
  generalize hH : s.heap = H at G
  subst hH
  refine lv_aload_n hx hb dX4_readBehindWord_0 rfl (lv_at hl 0 rfl) ?_
  refine lv_aload_n hx hb dX4_readBehindWord_1 rfl (lv_at hl 1 rfl) ?_
  obtain ⟨r1, u2, er1, h⟩ := bnd_at h
  refine cvI (rest := []) X K G (c_X4_isWord er1) q_383 my_X4_isWord ⟨rfl, rfl⟩ ⟨Nat.le_of_ble_eq_true rfl, Nat.le_of_ble_eq_true rfl⟩ ⟨Nat.zero_le _, Nat.zero_le _⟩ 33 4 rfl rfl rfl rfl hl.1 rfl (Nat.le_of_ble_eq_true rfl) dX4_readBehindWord_2 (fun H locs G => ?_)
  clear er1
  refine lv_if_ne (tgt := 10) hx hb dX4_readBehindWord_5 (by decide) (fun c3 => ?_) (fun c3 => ?_)
  · have h := if_at c3 h
    refine lv_aload_n hx hb dX4_readBehindWord_10 rfl (lv_at hl 0 rfl) ?_
    obtain ⟨r4, u5, er4, h⟩ := bnd_at h
    refine cvV (rest := []) X K G (c_X4_goOn er4) q_366 my_X4_goOn ⟨rfl, rfl⟩ ⟨Nat.le_of_ble_eq_true rfl, Nat.le_of_ble_eq_true rfl⟩ ⟨Nat.zero_le _, Nat.zero_le _⟩ 33 4 rfl rfl rfl rfl hl.1 rfl (Nat.le_of_ble_eq_true rfl) dX4_readBehindWord_11 (fun H locs G => ?_)
    clear er4
    refine lv_aload_n hx hb dX4_readBehindWord_14 rfl (lv_at hl 0 rfl) ?_
    refine lv_iload_n hx hb dX4_readBehindWord_15 rfl (lv_at hl 2 rfl) ?_
    refine lv_iload_n hx hb dX4_readBehindWord_16 rfl (lv_at hl 3 rfl) ?_
    obtain ⟨r6, u7, er6, h⟩ := bnd_at h
    refine cvI (rest := []) X K G (c_X4_isNumber er6) q_439 my_X4_isNumber ⟨rfl, rfl⟩ ⟨Nat.le_of_ble_eq_true rfl, Nat.le_of_ble_eq_true rfl⟩ ⟨Nat.zero_le _, Nat.zero_le _⟩ 33 4 rfl rfl rfl rfl hl.1 rfl (Nat.le_of_ble_eq_true rfl) dX4_readBehindWord_17 (fun H locs G => ?_)
    clear er6
    obtain ⟨g8, h⟩ := ck_at h
    obtain ⟨rfl, rfl⟩ := pair_at h
    exact reZ X G (Decidable.not_not.mp g8) dX4_readBehindWord_20
  · have h := it_at c3 h
    refine lv_iconst (v := 0) hx hb dX4_readBehindWord_8 (by decide) ?_
    obtain ⟨rfl, rfl⟩ := pair_at h
    exact reZ X G (Or.inl rfl) dX4_readBehindWord_9
end WALK_cls0
