section WALK_cls5
variable {p : Program} {l : Launch} {e : Env} {s : State} {m : MethodId} {args : Array Value} {below : List Frame} {meth : Method} {c : Code} {H : Heap} {locs : List Loc} {Q : State → Prop} {D : va_G} {cI cZ cQ : ClassId} {adK adV ad : Nat → Nat} {A : Nat → Prop} {ls : Array Slot}
noncomputable def f_X6_undo (u0 : XS) : Option (Int32 × XS) :=
  (if (xI u0) = 0 then
    bnd (f_X6_found (3 : Int32) u0) fun r4 u5 =>
    some (r4, u5)
  else
    bnd (f_X5_takeFrom_tk  u0) fun r2 u3 =>
    some (tThings (xT u3), u3))
set_option maxRecDepth 100000 in
set_option maxHeartbeats 4000000 in
theorem c_X6_undo {u0 : XS} {r : Int32} {u' : XS} (h : f_X6_undo  u0 = some (r, u')) : MI l D cI cZ cQ adK adV A yX6_undo cX6_undo 1 (some .int) { frames := 2, cells := 0, slots := 0, locals := 43 } [.ref (ad 0)] (wX cI cZ cQ ad) u0 r u' := by
  unfold f_X6_undo at h
  refine entI (by decide) (Nat.le_of_ble_eq_true rfl) (fun p e s m below meth c ls X K G hl => ?_)
  have hl : lv_has ls 1 [(0, .ref (ad 0))] := hl
  obtain ⟨hx, hb, -⟩ := id X
  generalize hH : s.heap = H at G
  subst hH
  refine lv_aload_n hx hb dX6_undo_0 rfl (lv_at hl 0 rfl) ?_
  refine gX_0_9 X K G q_309 dX6_undo_1 ?_
  refine lv_if_ne (tgt := 13) hx hb dX6_undo_4 (by decide) (fun c1 => ?_) (fun c1 => ?_)
  · have h := if_at c1 h
    refine lv_aload_n hx hb dX6_undo_13 rfl (lv_at hl 0 rfl) ?_
    refine gX_0_0 X K G q_300 dX6_undo_14 ?_
    refine lv_aload_n hx hb dX6_undo_17 rfl (lv_at hl 0 rfl) ?_
    refine gX_0_1 X K G q_301 dX6_undo_18 ?_
    obtain ⟨r2, u3, er2, h⟩ := bnd_at h
    refine cvV (rest := []) X K G (c_X5_takeFrom_tk er2) q_355 my_X5_takeFrom ⟨rfl, rfl⟩ ⟨Nat.le_of_ble_eq_true rfl, Nat.le_of_ble_eq_true rfl⟩ ⟨Nat.zero_le _, Nat.zero_le _⟩ 1 5 rfl rfl rfl rfl hl.1 rfl (Nat.le_of_ble_eq_true rfl) dX6_undo_21 (fun H locs G => ?_)
    clear er2
    refine lv_aload_n hx hb dX6_undo_24 rfl (lv_at hl 0 rfl) ?_
    refine gX_0_0 X K G q_300 dX6_undo_25 ?_
    refine gX_1_4 X K G q_117 dX6_undo_28 ?_
    obtain ⟨rfl, rfl⟩ := pair_at h
    exact reI X G dX6_undo_31
  · have h := it_at c1 h
    refine lv_aload_n hx hb dX6_undo_7 rfl (lv_at hl 0 rfl) ?_
    refine lv_iconst (v := 3) hx hb dX6_undo_8 (by decide) ?_
    obtain ⟨r4, u5, er4, h⟩ := bnd_at h
    refine cvI (rest := []) X K G (c_X6_found er4) q_338 my_X6_found ⟨rfl, rfl⟩ ⟨Nat.le_of_ble_eq_true rfl, Nat.le_of_ble_eq_true rfl⟩ ⟨Nat.zero_le _, Nat.zero_le _⟩ 0 6 rfl rfl rfl rfl hl.1 rfl (Nat.le_of_ble_eq_true rfl) dX6_undo_9 (fun H locs G => ?_)
    clear er4
    obtain ⟨rfl, rfl⟩ := pair_at h
    exact reI X G dX6_undo_12
noncomputable def f_X6_tear (u0 : XS) : Option (Int32 × XS) :=
  (if (xI u0) = 0 then
    nmv (sI u0 (0 : Int32)) fun u2 =>
    some ((0 : Int32), u2)
  else
    nmv (sI u0 (0 : Int32)) fun u3 =>
    some ((1 : Int32), u3))
set_option maxRecDepth 100000 in
set_option maxHeartbeats 4000000 in
theorem c_X6_tear {u0 : XS} {r : Int32} {u' : XS} (h : f_X6_tear  u0 = some (r, u')) : MI l D cI cZ cQ adK adV A yX6_tear cX6_tear 2 (some .int) { frames := 0, cells := 0, slots := 0, locals := 0 } [.ref (ad 0)] (wX cI cZ cQ ad) u0 r u' := by
  unfold f_X6_tear at h
  refine entI (by decide) (Nat.le_of_ble_eq_true rfl) (fun p e s m below meth c ls X K G hl => ?_)
  have hl : lv_has ls 2 [(0, .ref (ad 0))] := hl
  obtain ⟨hx, hb, -⟩ := id X
  generalize hH : s.heap = H at G
  subst hH
  refine lv_aload_n hx hb dX6_tear_0 rfl (lv_at hl 0 rfl) ?_
  refine gX_0_9 X K G q_309 dX6_tear_1 ?_
  refine lv_if_eq (tgt := 11) hx hb dX6_tear_4 (by decide) (fun c1 => ?_) (fun c1 => ?_)
  · have h := it_at c1 h
    refine lv_iconst (v := 0) hx hb dX6_tear_11 (by decide) ?_
    refine lv_istore_n (lv' := [(1, .int (0 : Int32)), (0, .ref (ad 0))]) hx hb dX6_tear_12 rfl hl (by decide) rfl (fun ls hl => ?_)
    refine lv_aload_n hx hb dX6_tear_13 rfl (lv_at hl 1 rfl) ?_
    refine lv_iconst (v := 0) hx hb dX6_tear_14 (by decide) ?_
    refine pX_0_9 X K G (Or.inl rfl) q_309 dX6_tear_15 (fun H locs G => ?_)
    obtain ⟨u2, eu2⟩ : ∃ z : XS, z = sI u0 (0 : Int32) := ⟨_, rfl⟩
    have G : wg D A s.heap H locs (wX cI cZ cQ ad u2) := by rw [eu2]; exact G
    have h := nm_at eu2 h
    clear eu2
    refine lv_iload_n hx hb dX6_tear_18 rfl (lv_at hl 0 rfl) ?_
    obtain ⟨rfl, rfl⟩ := pair_at h
    exact reI X G dX6_tear_19
  · have h := if_at c1 h
    refine lv_iconst (v := 1) hx hb dX6_tear_7 (by decide) ?_
    refine lv_goto (tgt := 12) hx hb dX6_tear_8 (by decide) ?_
    refine lv_istore_n (lv' := [(1, .int (1 : Int32)), (0, .ref (ad 0))]) hx hb dX6_tear_12 rfl hl (by decide) rfl (fun ls hl => ?_)
    refine lv_aload_n hx hb dX6_tear_13 rfl (lv_at hl 1 rfl) ?_
    refine lv_iconst (v := 0) hx hb dX6_tear_14 (by decide) ?_
    refine pX_0_9 X K G (Or.inl rfl) q_309 dX6_tear_15 (fun H locs G => ?_)
    obtain ⟨u3, eu3⟩ : ∃ z : XS, z = sI u0 (0 : Int32) := ⟨_, rfl⟩
    have G : wg D A s.heap H locs (wX cI cZ cQ ad u3) := by rw [eu3]; exact G
    have h := nm_at eu3 h
    clear eu3
    refine lv_iload_n hx hb dX6_tear_18 rfl (lv_at hl 0 rfl) ?_
    obtain ⟨rfl, rfl⟩ := pair_at h
    exact reI X G dX6_tear_19
noncomputable def f_X5_heldSpots_L4_4 (v1 : Int32) (v2 : Int32) (u0 : XS) : Option ((Int32 × Int32 × XS) ⊕ ((Int32 × XS) ⊕ (Int32 × XS))) :=
  (if (10 : Int32) ≤ v2 then
    some (.inr (.inr (v1, u0)))
  else
    if v2 < 0 ∨ 10 ≤ v2.toNatClampNeg then none else
    (if ((tSpots (xT u0)) v2.toNatClampNeg) < 0 then
      nmv (v2 + (1 : Int32)) fun x4 =>
      some (.inl (v1, x4, u0))
    else
      nmv (v1 + (1 : Int32)) fun x5 =>
      nmv (v2 + (1 : Int32)) fun x6 =>
      some (.inl (x5, x6, u0))))
set_option maxRecDepth 100000 in
set_option maxHeartbeats 4000000 in
theorem b_X5_heldSpots_L4_4 (X : cx p s m args meth c cX5_heldSpots 3 RX5 (some .int)) (K : kx D cI cZ cQ adK adV A s s.heap) {v1 : Int32} {v2 : Int32} {u0 : XS} (G : wg D A s.heap H locs (wX cI cZ cQ ad u0)) (hl : lv_has ls 3 [(0, .ref (ad 1)), (1, .int v1), (2, .int v2)]) {q : ((Int32 × Int32 × XS) ⊕ ((Int32 × XS) ⊕ (Int32 × XS)))} (h : f_X5_heldSpots_L4_4 v1 v2 u0 = some q) (hB : ∀ (v1 : Int32) (v2 : Int32) (u : XS), q = .inl (v1, v2, u) → ∀ (H : Heap) (locs : List Loc) (ls : Array Slot), wg D A s.heap H locs (wX cI cZ cQ ad u) → lv_has ls 3 [(0, .ref (ad 1)), (1, .int v1), (2, .int v2)] → W p l e { frames := 0, cells := 0, slots := 0, locals := 0 } s m args below meth c H locs 0 0 Q (F0 m 4 ls [])) (hX : ∀ (v1 : Int32) (u : XS), q = .inr (.inr (v1, u)) → ∀ (H : Heap) (locs : List Loc) (ls : Array Slot), wg D A s.heap H locs (wX cI cZ cQ ad u) → lv_has ls 3 [(1, .int v1)] → W p l e { frames := 0, cells := 0, slots := 0, locals := 0 } s m args below meth c H locs 0 0 Q (F0 m 28 ls [])) (hR : ∀ (r : Int32) (u : XS), q = .inr (.inl (r, u)) → Q = (qI D A (wX cI cZ cQ ad) below args s r u)) : W p l e { frames := 0, cells := 0, slots := 0, locals := 0 } s m args below meth c H locs 0 0 Q (F0 m 4 ls []) := by
  unfold f_X5_heldSpots_L4_4 at h
  obtain ⟨hx, hb, -⟩ := id X
  refine lv_iload_n hx hb dX5_heldSpots_4 rfl (lv_at hl 2 rfl) ?_
  refine lv_bipush (v := 10) hx hb dX5_heldSpots_5 (by decide) ?_
  refine lv_icmp_ge (tgt := 28) hx hb dX5_heldSpots_7 (by decide) (fun c1 => ?_) (fun c1 => ?_)
  · have h := it_at c1 h
    exact hX _ _ (Option.some.inj h).symm _ _ _ G (lv_sub hl [1] rfl)
  · have h := if_at c1 h
    refine lv_aload_n hx hb dX5_heldSpots_10 rfl (lv_at hl 0 rfl) ?_
    refine gX_1_11 X K G q_134 dX5_heldSpots_11 ?_
    refine lv_iload_n hx hb dX5_heldSpots_14 rfl (lv_at hl 2 rfl) ?_
    obtain ⟨g2, h⟩ := ck_at h
    refine lX_7 X K G g2 dX5_heldSpots_15 ?_
    refine lv_if_lt (tgt := 22) hx hb dX5_heldSpots_16 (by decide) (fun c3 => ?_) (fun c3 => ?_)
    · have h := it_at c3 h
      obtain ⟨x4, ex4⟩ : ∃ z : Int32, z = v2 + (1 : Int32) := ⟨_, rfl⟩
      have h := nm_at ex4 h
      refine lv_iinc (v := x4) (lv' := [(2, .int x4), (0, .ref (ad 1)), (1, .int v1)]) hx hb dX5_heldSpots_22 hl (k := 2) rfl (by rw [ex4]; rfl) (by decide) rfl (fun ls hl => ?_)
      refine lv_goto (tgt := 4) hx hb dX5_heldSpots_25 (by decide) ?_
      exact hB _ _ _ (Option.some.inj h).symm _ _ _ G (lv_sub hl [1, 2, 0] rfl)
    · have h := if_at c3 h
      obtain ⟨x5, ex5⟩ : ∃ z : Int32, z = v1 + (1 : Int32) := ⟨_, rfl⟩
      have h := nm_at ex5 h
      refine lv_iinc (v := x5) (lv' := [(1, .int x5), (0, .ref (ad 1)), (2, .int v2)]) hx hb dX5_heldSpots_19 hl (k := 1) rfl (by rw [ex5]; rfl) (by decide) rfl (fun ls hl => ?_)
      obtain ⟨x6, ex6⟩ : ∃ z : Int32, z = v2 + (1 : Int32) := ⟨_, rfl⟩
      have h := nm_at ex6 h
      refine lv_iinc (v := x6) (lv' := [(2, .int x6), (1, .int x5), (0, .ref (ad 1))]) hx hb dX5_heldSpots_22 hl (k := 2) rfl (by rw [ex6]; rfl) (by decide) rfl (fun ls hl => ?_)
      refine lv_goto (tgt := 4) hx hb dX5_heldSpots_25 (by decide) ?_
      exact hB _ _ _ (Option.some.inj h).symm _ _ _ G (lv_sub hl [2, 1, 0] rfl)
noncomputable def f_X5_heldSpots_L4_4s (q : Int32 × Int32 × XS) : Option ((Int32 × Int32 × XS) ⊕ ((Int32 × XS) ⊕ (Int32 × XS))) := f_X5_heldSpots_L4_4 q.1 q.2.1 q.2.2
set_option maxRecDepth 100000 in
set_option maxHeartbeats 4000000 in
theorem w_X5_heldSpots_L4_4 (X : cx p s m args meth c cX5_heldSpots 3 RX5 (some .int)) (K : kx D cI cZ cQ adK adV A s s.heap) {e0 : (Int32 × XS) ⊕ (Int32 × XS)} : ∀ (n : Nat) (v1 : Int32) (v2 : Int32) (u : XS) {H : Heap} {locs : List Loc} {ls : Array Slot}, wh f_X5_heldSpots_L4_4s n (v1, v2, u) = some e0 → wg D A s.heap H locs (wX cI cZ cQ ad u) → lv_has ls 3 [(0, .ref (ad 1)), (1, .int v1), (2, .int v2)] → (∀ (v1 : Int32) (u : XS), e0 = .inr (v1, u) → ∀ (H : Heap) (locs : List Loc) (ls : Array Slot), wg D A s.heap H locs (wX cI cZ cQ ad u) → lv_has ls 3 [(1, .int v1)] → W p l e { frames := 0, cells := 0, slots := 0, locals := 0 } s m args below meth c H locs 0 0 Q (F0 m 28 ls [])) → (∀ (r : Int32) (u : XS), e0 = .inl (r, u) → Q = (qI D A (wX cI cZ cQ ad) below args s r u)) → W p l e { frames := 0, cells := 0, slots := 0, locals := 0 } s m args below meth c H locs 0 0 Q (F0 m 4 ls []) := by
  intro n
  induction n with
  | zero => intro v1 v2 u H locs ls h; cases h
  | succ n ih =>
    intro v1 v2 u H locs ls h G hl hX hR
    obtain ⟨q, h1, h2, h3⟩ := wh_at h
    exact b_X5_heldSpots_L4_4 X K G hl (show f_X5_heldSpots_L4_4 v1 v2 u = some q from h1) (fun b0 b1 b2 ee H locs ls G hl => ih b0 b1 b2 (h2 _ ee) G hl hX hR) (fun z0 z1 ee => hX z0 z1 (h3 _ ee).symm) (fun r u ee => hR r u (h3 _ ee).symm)
noncomputable def f_X5_heldSpots (u0 : XS) : Option (Int32 × XS) :=
  bne (wl f_X5_heldSpots_L4_4s ((0 : Int32), (0 : Int32), u0)) (fun a => some a) fun b =>
    nmv b.1 fun y4 =>
    nmv b.2 fun u3 =>
    some (y4, u3)
set_option maxRecDepth 100000 in
set_option maxHeartbeats 4000000 in
theorem c_X5_heldSpots {u0 : XS} {r : Int32} {u' : XS} (h : f_X5_heldSpots  u0 = some (r, u')) : MI l D cI cZ cQ adK adV A yX5_heldSpots cX5_heldSpots 3 (some .int) { frames := 0, cells := 0, slots := 0, locals := 0 } [.ref (ad 1)] (wX cI cZ cQ ad) u0 r u' := by
  unfold f_X5_heldSpots at h
  refine entI (by decide) (Nat.le_of_ble_eq_true rfl) (fun p e s m below meth c ls X K G hl => ?_)
  have hl : lv_has ls 3 [(0, .ref (ad 1))] := hl
  obtain ⟨hx, hb, -⟩ := id X
  generalize hH : s.heap = H at G
  subst hH
  refine lv_iconst (v := 0) hx hb dX5_heldSpots_0 (by decide) ?_
  refine lv_istore_n (lv' := [(1, .int (0 : Int32)), (0, .ref (ad 1))]) hx hb dX5_heldSpots_1 rfl hl (by decide) rfl (fun ls hl => ?_)
  refine lv_iconst (v := 0) hx hb dX5_heldSpots_2 (by decide) ?_
  refine lv_istore_n (lv' := [(2, .int (0 : Int32)), (1, .int (0 : Int32)), (0, .ref (ad 1))]) hx hb dX5_heldSpots_3 rfl hl (by decide) rfl (fun ls hl => ?_)
  obtain ⟨q2, hq2, ha, hb1⟩ := bne_at h
  obtain ⟨n1, hn1⟩ := wl_iff.mp hq2
  refine w_X5_heldSpots_L4_4 X K n1 _ _ _ hn1 G (lv_sub hl [2, 1, 0] rfl) (fun y4 u3 ee H locs ls G hl => ?_) (fun r u1 ee => by obtain ⟨rfl, rfl⟩ := pair_at (ha _ ee); rfl)
  have h := hb1 _ ee
  clear ee ha hb1 hq2 hn1
  have h := nm_at (x := y4) rfl h
  have h := nm_at (x := u3) rfl h
  refine lv_iload_n hx hb dX5_heldSpots_28 rfl (lv_at hl 0 rfl) ?_
  obtain ⟨rfl, rfl⟩ := pair_at h
  exact reI X G dX5_heldSpots_29
noncomputable def f_X6_count (a1 : Int32) (u0 : XS) : Option (Int32 × XS) :=
  (if a1 = (0 : Int32) then
    some (tRound (xT u0), u0)
  else
  (if a1 = (1 : Int32) then
    some (tNear (xT u0), u0)
  else
  (if a1 = (2 : Int32) then
    some (tTools (xT u0), u0)
  else
  (if a1 = (3 : Int32) then
    some (tThings (xT u0), u0)
  else
  (if a1 = (4 : Int32) then
    some (tOrders (xT u0), u0)
  else
  (if a1 = (5 : Int32) then
    some ((xP u0).2, u0)
  else
  (if a1 = (6 : Int32) then
    some (tZ (xT u0), u0)
  else
  (if a1 = (7 : Int32) then
    bnd (f_X5_heldSpots  u0) fun r9 u10 =>
    some (r9, u10)
  else
  bnd (f_X6_found (0 : Int32) u0) fun r11 u12 =>
  some (r11, u12)))))))))
set_option maxRecDepth 100000 in
set_option maxHeartbeats 4000000 in
theorem c_X6_count {a1 : Int32} {u0 : XS} {r : Int32} {u' : XS} (h : f_X6_count a1 u0 = some (r, u')) : MI l D cI cZ cQ adK adV A yX6_count cX6_count 2 (some .int) { frames := 2, cells := 0, slots := 0, locals := 43 } [.ref (ad 0), .int a1] (wX cI cZ cQ ad) u0 r u' := by
  unfold f_X6_count at h
  refine entI (by decide) (Nat.le_of_ble_eq_true rfl) (fun p e s m below meth c ls X K G hl => ?_)
  have hl : lv_has ls 2 [(0, .ref (ad 0)), (1, .int a1)] := hl
  obtain ⟨hx, hb, -⟩ := id X
  generalize hH : s.heap = H at G
  subst hH
  refine lv_iload_n hx hb dX6_count_0 rfl (lv_at hl 1 rfl) ?_
  by_cases c1 : a1 = (0 : Int32)
  · have h := it_at c1 h
    refine tswI X (0 : Int32) c1 dX6_count_1 (off := 47) (tgt := 48) (by decide) ?_
    refine lv_aload_n hx hb dX6_count_48 rfl (lv_at hl 0 rfl) ?_
    refine gX_0_0 X K G q_300 dX6_count_49 ?_
    refine gX_1_0 X K G q_105 dX6_count_52 ?_
    obtain ⟨rfl, rfl⟩ := pair_at h
    exact reI X G dX6_count_55
  have h := if_at c1 h
  by_cases c2 : a1 = (1 : Int32)
  · have h := it_at c2 h
    refine tswI X (1 : Int32) c2 dX6_count_1 (off := 55) (tgt := 56) (by decide) ?_
    refine lv_aload_n hx hb dX6_count_56 rfl (lv_at hl 0 rfl) ?_
    refine gX_0_0 X K G q_300 dX6_count_57 ?_
    refine gX_1_1 X K G q_109 dX6_count_60 ?_
    obtain ⟨rfl, rfl⟩ := pair_at h
    exact reI X G dX6_count_63
  have h := if_at c2 h
  by_cases c3 : a1 = (2 : Int32)
  · have h := it_at c3 h
    refine tswI X (2 : Int32) c3 dX6_count_1 (off := 63) (tgt := 64) (by decide) ?_
    refine lv_aload_n hx hb dX6_count_64 rfl (lv_at hl 0 rfl) ?_
    refine gX_0_0 X K G q_300 dX6_count_65 ?_
    refine gX_1_3 X K G q_114 dX6_count_68 ?_
    obtain ⟨rfl, rfl⟩ := pair_at h
    exact reI X G dX6_count_71
  have h := if_at c3 h
  by_cases c4 : a1 = (3 : Int32)
  · have h := it_at c4 h
    refine tswI X (3 : Int32) c4 dX6_count_1 (off := 71) (tgt := 72) (by decide) ?_
    refine lv_aload_n hx hb dX6_count_72 rfl (lv_at hl 0 rfl) ?_
    refine gX_0_0 X K G q_300 dX6_count_73 ?_
    refine gX_1_4 X K G q_117 dX6_count_76 ?_
    obtain ⟨rfl, rfl⟩ := pair_at h
    exact reI X G dX6_count_79
  have h := if_at c4 h
  by_cases c5 : a1 = (4 : Int32)
  · have h := it_at c5 h
    refine tswI X (4 : Int32) c5 dX6_count_1 (off := 79) (tgt := 80) (by decide) ?_
    refine lv_aload_n hx hb dX6_count_80 rfl (lv_at hl 0 rfl) ?_
    refine gX_0_0 X K G q_300 dX6_count_81 ?_
    refine gX_1_5 X K G q_121 dX6_count_84 ?_
    obtain ⟨rfl, rfl⟩ := pair_at h
    exact reI X G dX6_count_87
  have h := if_at c5 h
  by_cases c6 : a1 = (5 : Int32)
  · have h := it_at c6 h
    refine tswI X (5 : Int32) c6 dX6_count_1 (off := 87) (tgt := 88) (by decide) ?_
    refine lv_aload_n hx hb dX6_count_88 rfl (lv_at hl 0 rfl) ?_
    refine gX_0_3 X K G q_303 dX6_count_89 ?_
    refine gX_22_1 X K G q_171 dX6_count_92 ?_
    obtain ⟨rfl, rfl⟩ := pair_at h
    exact reI X G dX6_count_95
  have h := if_at c6 h
  by_cases c7 : a1 = (6 : Int32)
  · have h := it_at c7 h
    refine tswI X (6 : Int32) c7 dX6_count_1 (off := 95) (tgt := 96) (by decide) ?_
    refine lv_aload_n hx hb dX6_count_96 rfl (lv_at hl 0 rfl) ?_
    refine gX_0_0 X K G q_300 dX6_count_97 ?_
    refine gX_1_2 X K G q_111 dX6_count_100 ?_
    obtain ⟨rfl, rfl⟩ := pair_at h
    exact reI X G dX6_count_103
  have h := if_at c7 h
  by_cases c8 : a1 = (7 : Int32)
  · have h := it_at c8 h
    refine tswI X (7 : Int32) c8 dX6_count_1 (off := 103) (tgt := 104) (by decide) ?_
    refine lv_aload_n hx hb dX6_count_104 rfl (lv_at hl 0 rfl) ?_
    refine gX_0_0 X K G q_300 dX6_count_105 ?_
    obtain ⟨r9, u10, er9, h⟩ := bnd_at h
    refine cvI (rest := []) X K G (c_X5_heldSpots er9) q_892 my_X5_heldSpots ⟨rfl, rfl⟩ ⟨Nat.le_of_ble_eq_true rfl, Nat.le_of_ble_eq_true rfl⟩ ⟨Nat.zero_le _, Nat.zero_le _⟩ 1 5 rfl rfl rfl rfl hl.1 rfl (Nat.le_of_ble_eq_true rfl) dX6_count_108 (fun H locs G => ?_)
    clear er9
    obtain ⟨rfl, rfl⟩ := pair_at h
    exact reI X G dX6_count_111
  have h := if_at c8 h
  have tc1 := lv_neT (a := 0) c1 rfl
  have tc2 := lv_neT (a := 1) c2 rfl
  have tc3 := lv_neT (a := 2) c3 rfl
  have tc4 := lv_neT (a := 3) c4 rfl
  have tc5 := lv_neT (a := 4) c5 rfl
  have tc6 := lv_neT (a := 5) c6 rfl
  have tc7 := lv_neT (a := 6) c7 rfl
  have tc8 := lv_neT (a := 7) c8 rfl
  refine tswO X (by omega) dX6_count_1 (tgt := 112) (by decide) ?_
  refine lv_aload_n hx hb dX6_count_112 rfl (lv_at hl 0 rfl) ?_
  refine lv_iconst (v := 0) hx hb dX6_count_113 (by decide) ?_
  obtain ⟨r11, u12, er11, h⟩ := bnd_at h
  refine cvI (rest := []) X K G (c_X6_found er11) q_338 my_X6_found ⟨rfl, rfl⟩ ⟨Nat.le_of_ble_eq_true rfl, Nat.le_of_ble_eq_true rfl⟩ ⟨Nat.zero_le _, Nat.zero_le _⟩ 0 6 rfl rfl rfl rfl hl.1 rfl (Nat.le_of_ble_eq_true rfl) dX6_count_114 (fun H locs G => ?_)
  clear er11
  obtain ⟨rfl, rfl⟩ := pair_at h
  exact reI X G dX6_count_117
noncomputable def f_X6_status_L31_31 (v2 : Int32) (v3 : Int32) (u0 : XS) : Option ((Int32 × Int32 × XS) ⊕ ((Int32 × XS) ⊕ (Int32 × XS))) :=
  (if (7 : Int32) ≤ v3 then
    some (.inr (.inr (v2, u0)))
  else
    if v3 < 0 ∨ 7 ≤ v3.toNatClampNeg then none else
    nmv (v2 + ((xF u0) v3.toNatClampNeg)) fun x3 =>
    nmv (v3 + (1 : Int32)) fun x4 =>
    some (.inl (x3, x4, u0)))
set_option maxRecDepth 100000 in
set_option maxHeartbeats 4000000 in
theorem b_X6_status_L31_31 (X : cx p s m args meth c cX6_status 4 RX6 (some .int)) (K : kx D cI cZ cQ adK adV A s s.heap) {v2 : Int32} {v3 : Int32} {u0 : XS} (G : wg D A s.heap H locs (wX cI cZ cQ ad u0)) (hl : lv_has ls 4 [(0, .ref (ad 0)), (2, .int v2), (3, .int v3)]) {q : ((Int32 × Int32 × XS) ⊕ ((Int32 × XS) ⊕ (Int32 × XS)))} (h : f_X6_status_L31_31 v2 v3 u0 = some q) (hB : ∀ (v2 : Int32) (v3 : Int32) (u : XS), q = .inl (v2, v3, u) → ∀ (H : Heap) (locs : List Loc) (ls : Array Slot), wg D A s.heap H locs (wX cI cZ cQ ad u) → lv_has ls 4 [(0, .ref (ad 0)), (2, .int v2), (3, .int v3)] → W p l e { frames := 2, cells := 0, slots := 0, locals := 43 } s m args below meth c H locs 0 0 Q (F0 m 31 ls [])) (hX : ∀ (v2 : Int32) (u : XS), q = .inr (.inr (v2, u)) → ∀ (H : Heap) (locs : List Loc) (ls : Array Slot), wg D A s.heap H locs (wX cI cZ cQ ad u) → lv_has ls 4 [(2, .int v2)] → W p l e { frames := 2, cells := 0, slots := 0, locals := 43 } s m args below meth c H locs 0 0 Q (F0 m 52 ls [])) (hR : ∀ (r : Int32) (u : XS), q = .inr (.inl (r, u)) → Q = (qI D A (wX cI cZ cQ ad) below args s r u)) : W p l e { frames := 2, cells := 0, slots := 0, locals := 43 } s m args below meth c H locs 0 0 Q (F0 m 31 ls []) := by
  unfold f_X6_status_L31_31 at h
  obtain ⟨hx, hb, -⟩ := id X
  refine lv_iload_n hx hb dX6_status_31 rfl (lv_at hl 2 rfl) ?_
  refine lv_bipush (v := 7) hx hb dX6_status_32 (by decide) ?_
  refine lv_icmp_ge (tgt := 52) hx hb dX6_status_34 (by decide) (fun c1 => ?_) (fun c1 => ?_)
  · have h := it_at c1 h
    exact hX _ _ (Option.some.inj h).symm _ _ _ G (lv_sub hl [1] rfl)
  · have h := if_at c1 h
    refine lv_iload_n hx hb dX6_status_37 rfl (lv_at hl 1 rfl) ?_
    refine lv_aload_n hx hb dX6_status_38 rfl (lv_at hl 0 rfl) ?_
    refine gX_0_8 X K G q_308 dX6_status_39 ?_
    refine lv_iload_n hx hb dX6_status_42 rfl (lv_at hl 2 rfl) ?_
    obtain ⟨g2, h⟩ := ck_at h
    refine lX_43 X K G g2 dX6_status_43 ?_
    refine lv_iadd hx hb dX6_status_44 ?_
    refine lv_topi (fun x3 ex3 => ?_)
    have h := nm_at ex3 h
    refine lv_istore_n (lv' := [(2, .int x3), (0, .ref (ad 0)), (3, .int v3)]) hx hb dX6_status_45 rfl hl (by decide) rfl (fun ls hl => ?_)
    obtain ⟨x4, ex4⟩ : ∃ z : Int32, z = v3 + (1 : Int32) := ⟨_, rfl⟩
    have h := nm_at ex4 h
    refine lv_iinc (v := x4) (lv' := [(3, .int x4), (2, .int x3), (0, .ref (ad 0))]) hx hb dX6_status_46 hl (k := 2) rfl (by rw [ex4]; rfl) (by decide) rfl (fun ls hl => ?_)
    refine lv_goto (tgt := 31) hx hb dX6_status_49 (by decide) ?_
    exact hB _ _ _ (Option.some.inj h).symm _ _ _ G (lv_sub hl [2, 1, 0] rfl)
noncomputable def f_X6_status_L31_31s (q : Int32 × Int32 × XS) : Option ((Int32 × Int32 × XS) ⊕ ((Int32 × XS) ⊕ (Int32 × XS))) := f_X6_status_L31_31 q.1 q.2.1 q.2.2
set_option maxRecDepth 100000 in
set_option maxHeartbeats 4000000 in
theorem w_X6_status_L31_31 (X : cx p s m args meth c cX6_status 4 RX6 (some .int)) (K : kx D cI cZ cQ adK adV A s s.heap) {e0 : (Int32 × XS) ⊕ (Int32 × XS)} : ∀ (n : Nat) (v2 : Int32) (v3 : Int32) (u : XS) {H : Heap} {locs : List Loc} {ls : Array Slot}, wh f_X6_status_L31_31s n (v2, v3, u) = some e0 → wg D A s.heap H locs (wX cI cZ cQ ad u) → lv_has ls 4 [(0, .ref (ad 0)), (2, .int v2), (3, .int v3)] → (∀ (v2 : Int32) (u : XS), e0 = .inr (v2, u) → ∀ (H : Heap) (locs : List Loc) (ls : Array Slot), wg D A s.heap H locs (wX cI cZ cQ ad u) → lv_has ls 4 [(2, .int v2)] → W p l e { frames := 2, cells := 0, slots := 0, locals := 43 } s m args below meth c H locs 0 0 Q (F0 m 52 ls [])) → (∀ (r : Int32) (u : XS), e0 = .inl (r, u) → Q = (qI D A (wX cI cZ cQ ad) below args s r u)) → W p l e { frames := 2, cells := 0, slots := 0, locals := 43 } s m args below meth c H locs 0 0 Q (F0 m 31 ls []) := by
  intro n
  induction n with
  | zero => intro v2 v3 u H locs ls h; cases h
  | succ n ih =>
    intro v2 v3 u H locs ls h G hl hX hR
    obtain ⟨q, h1, h2, h3⟩ := wh_at h
    exact b_X6_status_L31_31 X K G hl (show f_X6_status_L31_31 v2 v3 u = some q from h1) (fun b0 b1 b2 ee H locs ls G hl => ih b0 b1 b2 (h2 _ ee) G hl hX hR) (fun z0 z1 ee => hX z0 z1 (h3 _ ee).symm) (fun r u ee => hR r u (h3 _ ee).symm)
noncomputable def f_X6_status (a1 : Int32) (u0 : XS) : Option (Int32 × XS) :=
  bnd (f_X6_within a1 (-1 : Int32) (6 : Int32) u0) fun r1 u2 =>
  (if r1 = 0 then
    bnd (f_X6_found (0 : Int32) u2) fun r10 u11 =>
    some (r10, u11)
  else
    (if a1 < 0 then
      bne (wl f_X6_status_L31_31s ((0 : Int32), (0 : Int32), u2)) (fun a => some a) fun b =>
        nmv b.1 fun y8 =>
        nmv b.2 fun u7 =>
        some (y8, u7)
    else
      if a1 < 0 ∨ 7 ≤ a1.toNatClampNeg then none else
      some ((xF u2) a1.toNatClampNeg, u2)))
set_option maxRecDepth 100000 in
set_option maxHeartbeats 4000000 in
theorem c_X6_status {a1 : Int32} {u0 : XS} {r : Int32} {u' : XS} (h : f_X6_status a1 u0 = some (r, u')) : MI l D cI cZ cQ adK adV A yX6_status cX6_status 4 (some .int) { frames := 2, cells := 0, slots := 0, locals := 43 } [.ref (ad 0), .int a1] (wX cI cZ cQ ad) u0 r u' := by
  unfold f_X6_status at h
  refine entI (by decide) (Nat.le_of_ble_eq_true rfl) (fun p e s m below meth c ls X K G hl => ?_)
  have hl : lv_has ls 4 [(0, .ref (ad 0)), (1, .int a1)] := hl
  obtain ⟨hx, hb, -⟩ := id X
  generalize hH : s.heap = H at G
  subst hH
  refine lv_iload_n hx hb dX6_status_0 rfl (lv_at hl 1 rfl) ?_
  refine lv_iconst (v := -1) hx hb dX6_status_1 (by decide) ?_
  refine lv_bipush (v := 6) hx hb dX6_status_2 (by decide) ?_
  obtain ⟨r1, u2, er1, h⟩ := bnd_at h
  refine csI (rest := []) X K G (c_X6_within er1) q_335 my_X6_within ⟨rfl, rfl⟩ ⟨Nat.le_of_ble_eq_true rfl, Nat.le_of_ble_eq_true rfl⟩ ⟨Nat.zero_le _, Nat.zero_le _⟩ rfl hl.1 rfl (Nat.le_of_ble_eq_true rfl) dX6_status_4 (fun H locs G => ?_)
  clear er1
  refine lv_if_ne (tgt := 16) hx hb dX6_status_7 (by decide) (fun c3 => ?_) (fun c3 => ?_)
  · have h := if_at c3 h
    refine lv_iload_n hx hb dX6_status_16 rfl (lv_at hl 1 rfl) ?_
    refine lv_if_lt (tgt := 27) hx hb dX6_status_17 (by decide) (fun c4 => ?_) (fun c4 => ?_)
    · have h := it_at c4 h
      refine lv_iconst (v := 0) hx hb dX6_status_27 (by decide) ?_
      refine lv_istore_n (lv' := [(2, .int (0 : Int32)), (0, .ref (ad 0)), (1, .int a1)]) hx hb dX6_status_28 rfl hl (by decide) rfl (fun ls hl => ?_)
      refine lv_iconst (v := 0) hx hb dX6_status_29 (by decide) ?_
      refine lv_istore_n (lv' := [(3, .int (0 : Int32)), (2, .int (0 : Int32)), (0, .ref (ad 0)), (1, .int a1)]) hx hb dX6_status_30 rfl hl (by decide) rfl (fun ls hl => ?_)
      obtain ⟨q6, hq6, ha, hb1⟩ := bne_at h
      obtain ⟨n5, hn5⟩ := wl_iff.mp hq6
      refine w_X6_status_L31_31 X K n5 _ _ _ hn5 G (lv_sub hl [2, 1, 0] rfl) (fun y8 u7 ee H locs ls G hl => ?_) (fun r u1 ee => by obtain ⟨rfl, rfl⟩ := pair_at (ha _ ee); rfl)
      have h := hb1 _ ee
      clear ee ha hb1 hq6 hn5
      have h := nm_at (x := y8) rfl h
      have h := nm_at (x := u7) rfl h
      refine lv_iload_n hx hb dX6_status_52 rfl (lv_at hl 0 rfl) ?_
      obtain ⟨rfl, rfl⟩ := pair_at h
      exact reI X G dX6_status_53
    · have h := if_at c4 h
      refine lv_aload_n hx hb dX6_status_20 rfl (lv_at hl 0 rfl) ?_
      refine gX_0_8 X K G q_308 dX6_status_21 ?_
      refine lv_iload_n hx hb dX6_status_24 rfl (lv_at hl 1 rfl) ?_
      obtain ⟨g9, h⟩ := ck_at h
      refine lX_43 X K G g9 dX6_status_25 ?_
      obtain ⟨rfl, rfl⟩ := pair_at h
      exact reI X G dX6_status_26
  · have h := it_at c3 h
    refine lv_aload_n hx hb dX6_status_10 rfl (lv_at hl 0 rfl) ?_
    refine lv_iconst (v := 0) hx hb dX6_status_11 (by decide) ?_
    obtain ⟨r10, u11, er10, h⟩ := bnd_at h
    refine cvI (rest := []) X K G (c_X6_found er10) q_338 my_X6_found ⟨rfl, rfl⟩ ⟨Nat.le_of_ble_eq_true rfl, Nat.le_of_ble_eq_true rfl⟩ ⟨Nat.zero_le _, Nat.zero_le _⟩ 0 6 rfl rfl rfl rfl hl.1 rfl (Nat.le_of_ble_eq_true rfl) dX6_status_12 (fun H locs G => ?_)
    clear er10
    obtain ⟨rfl, rfl⟩ := pair_at h
    exact reI X G dX6_status_15
end WALK_cls5
