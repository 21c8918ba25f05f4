section WALK_cls3
variable {p : Program} {l : Launch} {e : Env} {s : State} {m : MethodId} {args : Array Value} {below : List Frame} {meth : Method} {c : Code} {H : Heap} {locs : List Loc} {Q : State → Prop} {D : va_G} {cI cZ cQ : ClassId} {adK adV ad : Nat → Nat} {A : Nat → Prop} {ls : Array Slot}
noncomputable def f_X0_latestFor_L2_2 (v1 : Int32) (v2 : Int32) (v3 : Int32) (u0 : XS) : Option ((Int32 × Int32 × Int32 × XS) ⊕ ((Int32 × XS) ⊕ (XS))) :=
  (if v3 < 0 then
    some (.inr (.inr u0))
  else
    bnd (f_X0_goThrough v1 v3 u0) fun r2 u3 =>
    (if 0 ≤ r2 then
      nmv (v3 + (-1 : Int32)) fun x5 =>
      some (.inl (v1, v2, x5, u3))
    else
      bnd (f_X0_lastRunDay v1 u3) fun r6 u7 =>
      (if v2 < r6 then
        nmv (v3 + (-1 : Int32)) fun x9 =>
        some (.inl (v1, v2, x9, u7))
      else
        some (.inr (.inl (v3, u7))))))
set_option maxRecDepth 100000 in
set_option maxHeartbeats 4000000 in
theorem b_X0_latestFor_L2_2 (X : cx p s m args meth c cX0_latestFor 4 RX0 (some .int)) (K : kx D cI cZ cQ adK adV A s s.heap) {v1 : Int32} {v2 : Int32} {v3 : Int32} {u0 : XS} (G : wg D A s.heap H locs (wX cI cZ cQ ad u0)) (hl : lv_has ls 4 [(0, .ref (ad 24)), (1, .int v1), (2, .int v2), (3, .int v3)]) {q : ((Int32 × Int32 × Int32 × XS) ⊕ ((Int32 × XS) ⊕ (XS)))} (h : f_X0_latestFor_L2_2 v1 v2 v3 u0 = some q) (hB : ∀ (v1 : Int32) (v2 : Int32) (v3 : Int32) (u : XS), q = .inl (v1, v2, v3, u) → ∀ (H : Heap) (locs : List Loc) (ls : Array Slot), wg D A s.heap H locs (wX cI cZ cQ ad u) → lv_has ls 4 [(0, .ref (ad 24)), (1, .int v1), (2, .int v2), (3, .int v3)] → W p l e { frames := 4, cells := 0, slots := 0, locals := 100 } s m args below meth c H locs 0 0 Q (F0 m 2 ls [])) (hX : ∀ (u : XS), q = .inr (.inr u) → ∀ (H : Heap) (locs : List Loc) (ls : Array Slot), wg D A s.heap H locs (wX cI cZ cQ ad u) → lv_has ls 4 [] → W p l e { frames := 4, cells := 0, slots := 0, locals := 100 } s m args below meth c H locs 0 0 Q (F0 m 32 ls [])) (hR : ∀ (r : Int32) (u : XS), q = .inr (.inl (r, u)) → Q = (qI D A (wX cI cZ cQ ad) below args s r u)) : W p l e { frames := 4, cells := 0, slots := 0, locals := 100 } s m args below meth c H locs 0 0 Q (F0 m 2 ls []) := by
  unfold f_X0_latestFor_L2_2 at h
  obtain ⟨hx, hb, -⟩ := id X
  refine lv_iload_n hx hb dX0_latestFor_2 rfl (lv_at hl 3 rfl) ?_
  refine lv_if_lt (tgt := 32) hx hb dX0_latestFor_3 (by decide) (fun c1 => ?_) (fun c1 => ?_)
  · have h := it_at c1 h
    exact hX _ (Option.some.inj h).symm _ _ _ G (lv_sub hl [] rfl)
  · have h := if_at c1 h
    refine lv_aload_n hx hb dX0_latestFor_6 rfl (lv_at hl 0 rfl) ?_
    refine lv_iload_n hx hb dX0_latestFor_7 rfl (lv_at hl 1 rfl) ?_
    refine lv_iload_n hx hb dX0_latestFor_8 rfl (lv_at hl 3 rfl) ?_
    obtain ⟨r2, u3, er2, h⟩ := bnd_at h
    refine cvI (rest := []) X K G (c_X0_goThrough er2) q_641 my_X0_goThrough ⟨rfl, rfl⟩ ⟨Nat.le_of_ble_eq_true rfl, Nat.le_of_ble_eq_true rfl⟩ ⟨Nat.zero_le _, Nat.zero_le _⟩ 24 0 rfl rfl rfl rfl hl.1 rfl (Nat.le_of_ble_eq_true rfl) dX0_latestFor_9 (fun H locs G => ?_)
    clear er2
    refine lv_if_ge (tgt := 26) hx hb dX0_latestFor_12 (by decide) (fun c4 => ?_) (fun c4 => ?_)
    · have h := it_at c4 h
      obtain ⟨x5, ex5⟩ : ∃ z : Int32, z = v3 + (-1 : Int32) := ⟨_, rfl⟩
      have h := nm_at ex5 h
      refine lv_iinc (v := x5) (lv' := [(3, .int x5), (0, .ref (ad 24)), (1, .int v1), (2, .int v2)]) hx hb dX0_latestFor_26 hl (k := 3) rfl (by rw [ex5]; rfl) (by decide) rfl (fun ls hl => ?_)
      refine lv_goto (tgt := 2) hx hb dX0_latestFor_29 (by decide) ?_
      exact hB _ _ _ _ (Option.some.inj h).symm _ _ _ G (lv_sub hl [1, 2, 3, 0] rfl)
    · have h := if_at c4 h
      refine lv_aload_n hx hb dX0_latestFor_15 rfl (lv_at hl 0 rfl) ?_
      refine lv_iload_n hx hb dX0_latestFor_16 rfl (lv_at hl 1 rfl) ?_
      obtain ⟨r6, u7, er6, h⟩ := bnd_at h
      refine cvI (rest := []) X K G (c_X0_lastRunDay er6) q_642 my_X0_lastRunDay ⟨rfl, rfl⟩ ⟨Nat.le_of_ble_eq_true rfl, Nat.le_of_ble_eq_true rfl⟩ ⟨Nat.zero_le _, Nat.zero_le _⟩ 24 0 rfl rfl rfl rfl hl.1 rfl (Nat.le_of_ble_eq_true rfl) dX0_latestFor_17 (fun H locs G => ?_)
      clear er6
      refine lv_iload_n hx hb dX0_latestFor_20 rfl (lv_at hl 2 rfl) ?_
      refine lv_icmp_gt (tgt := 26) hx hb dX0_latestFor_21 (by decide) (fun c8 => ?_) (fun c8 => ?_)
      · have h := it_at c8 h
        obtain ⟨x9, ex9⟩ : ∃ z : Int32, z = v3 + (-1 : Int32) := ⟨_, rfl⟩
        have h := nm_at ex9 h
        refine lv_iinc (v := x9) (lv' := [(3, .int x9), (0, .ref (ad 24)), (1, .int v1), (2, .int v2)]) hx hb dX0_latestFor_26 hl (k := 3) rfl (by rw [ex9]; rfl) (by decide) rfl (fun ls hl => ?_)
        refine lv_goto (tgt := 2) hx hb dX0_latestFor_29 (by decide) ?_
        exact hB _ _ _ _ (Option.some.inj h).symm _ _ _ G (lv_sub hl [1, 2, 3, 0] rfl)
      · have h := if_at c8 h
        refine lv_iload_n hx hb dX0_latestFor_24 rfl (lv_at hl 3 rfl) ?_
        rw [hR _ _ (Option.some.inj h).symm]
        exact reI X G dX0_latestFor_25
noncomputable def f_X0_latestFor_L2_2s (q : Int32 × Int32 × Int32 × XS) : Option ((Int32 × Int32 × Int32 × XS) ⊕ ((Int32 × XS) ⊕ (XS))) := f_X0_latestFor_L2_2 q.1 q.2.1 q.2.2.1 q.2.2.2
set_option maxRecDepth 100000 in
set_option maxHeartbeats 4000000 in
theorem w_X0_latestFor_L2_2 (X : cx p s m args meth c cX0_latestFor 4 RX0 (some .int)) (K : kx D cI cZ cQ adK adV A s s.heap) {e0 : (Int32 × XS) ⊕ (XS)} : ∀ (n : Nat) (v1 : Int32) (v2 : Int32) (v3 : Int32) (u : XS) {H : Heap} {locs : List Loc} {ls : Array Slot}, wh f_X0_latestFor_L2_2s n (v1, v2, v3, u) = some e0 → wg D A s.heap H locs (wX cI cZ cQ ad u) → lv_has ls 4 [(0, .ref (ad 24)), (1, .int v1), (2, .int v2), (3, .int v3)] → (∀ (u : XS), e0 = .inr u → ∀ (H : Heap) (locs : List Loc) (ls : Array Slot), wg D A s.heap H locs (wX cI cZ cQ ad u) → lv_has ls 4 [] → W p l e { frames := 4, cells := 0, slots := 0, locals := 100 } s m args below meth c H locs 0 0 Q (F0 m 32 ls [])) → (∀ (r : Int32) (u : XS), e0 = .inl (r, u) → Q = (qI D A (wX cI cZ cQ ad) below args s r u)) → W p l e { frames := 4, cells := 0, slots := 0, locals := 100 } s m args below meth c H locs 0 0 Q (F0 m 2 ls []) := by
  intro n
  induction n with
  | zero => intro v1 v2 v3 u H locs ls h; cases h
  | succ n ih =>
    intro v1 v2 v3 u H locs ls h G hl hX hR
    obtain ⟨q, h1, h2, h3⟩ := wh_at h
    exact b_X0_latestFor_L2_2 X K G hl (show f_X0_latestFor_L2_2 v1 v2 v3 u = some q from h1) (fun b0 b1 b2 b3 ee H locs ls G hl => ih b0 b1 b2 b3 (h2 _ ee) G hl hX hR) (fun z0 ee => hX z0 (h3 _ ee).symm) (fun r u ee => hR r u (h3 _ ee).symm)
noncomputable def f_X0_latestFor (a1 : Int32) (a2 : Int32) (u0 : XS) : Option (Int32 × XS) :=
  bne (wl f_X0_latestFor_L2_2s (a1, a2, a2, u0)) (fun a => some a) fun b =>
    nmv b fun u3 =>
    some ((-1 : Int32), u3)
set_option maxRecDepth 100000 in
set_option maxHeartbeats 4000000 in
theorem c_X0_latestFor {a1 : Int32} {a2 : Int32} {u0 : XS} {r : Int32} {u' : XS} (h : f_X0_latestFor a1 a2 u0 = some (r, u')) : MI l D cI cZ cQ adK adV A yX0_latestFor cX0_latestFor 4 (some .int) { frames := 4, cells := 0, slots := 0, locals := 100 } [.ref (ad 24), .int a1, .int a2] (wX cI cZ cQ ad) u0 r u' := by
  unfold f_X0_latestFor at h
  refine entI (by decide) (Nat.le_of_ble_eq_true rfl) (fun p e s m below meth c ls X K G hl => ?_)
  have hl : lv_has ls 4 [(0, .ref (ad 24)), (1, .int a1), (2, .int a2)] := hl
  obtain ⟨hx, hb, -⟩ := id X
  generalize hH : s.heap = H at G
  subst hH
  refine lv_iload_n hx hb dX0_latestFor_0 rfl (lv_at hl 2 rfl) ?_
  refine lv_istore_n (lv' := [(3, .int a2), (0, .ref (ad 24)), (1, .int a1), (2, .int a2)]) hx hb dX0_latestFor_1 rfl hl (by decide) rfl (fun ls hl => ?_)
  obtain ⟨q2, hq2, ha, hb1⟩ := bne_at h
  obtain ⟨n1, hn1⟩ := wl_iff.mp hq2
  refine w_X0_latestFor_L2_2 X K n1 _ _ _ _ hn1 G (lv_sub hl [1, 2, 3, 0] rfl) (fun  u3 ee H locs ls G hl => ?_) (fun r u1 ee => by obtain ⟨rfl, rfl⟩ := pair_at (ha _ ee); rfl)
  have h := hb1 _ ee
  clear ee ha hb1 hq2 hn1
  have h := nm_at (x := u3) rfl h
  refine lv_iconst (v := -1) hx hb dX0_latestFor_32 (by decide) ?_
  obtain ⟨rfl, rfl⟩ := pair_at h
  exact reI X G dX0_latestFor_33
noncomputable def f_X6_latest (a1 : Int32) (a2 : Int32) (u0 : XS) : Option (Int32 × XS) :=
  bnd (f_X5_hasThing a1 u0) fun r1 u2 =>
  (if r1 = 0 then
    bnd (f_X6_found (0 : Int32) u2) fun r4 u5 =>
    some (r4, u5)
  else
    bnd (f_X6_within a2 (0 : Int32) (400 : Int32) u2) fun r6 u7 =>
    (if r6 = 0 then
      bnd (f_X6_found (0 : Int32) u7) fun r13 u14 =>
      some (r13, u14)
    else
      bnd (f_X0_latestFor a1 a2 u7) fun r9 u10 =>
      bnd (f_X6_dayOrNone r9 u10) fun r11 u12 =>
      some (r11, u12)))
set_option maxRecDepth 100000 in
set_option maxHeartbeats 4000000 in
theorem c_X6_latest {a1 : Int32} {a2 : Int32} {u0 : XS} {r : Int32} {u' : XS} (h : f_X6_latest a1 a2 u0 = some (r, u')) : MI l D cI cZ cQ adK adV A yX6_latest cX6_latest 3 (some .int) { frames := 5, cells := 0, slots := 0, locals := 123 } [.ref (ad 0), .int a1, .int a2] (wX cI cZ cQ ad) u0 r u' := by
  unfold f_X6_latest at h
  refine entI (by decide) (Nat.le_of_ble_eq_true rfl) (fun p e s m below meth c ls X K G hl => ?_)
  have hl : lv_has ls 3 [(0, .ref (ad 0)), (1, .int a1), (2, .int a2)] := hl
  obtain ⟨hx, hb, -⟩ := id X
  generalize hH : s.heap = H at G
  subst hH
  refine lv_aload_n hx hb dX6_latest_0 rfl (lv_at hl 0 rfl) ?_
  refine gX_0_0 X K G q_300 dX6_latest_1 ?_
  refine lv_iload_n hx hb dX6_latest_4 rfl (lv_at hl 1 rfl) ?_
  obtain ⟨r1, u2, er1, h⟩ := bnd_at h
  refine cvI (rest := []) X K G (c_X5_hasThing er1) q_553 my_X5_hasThing ⟨rfl, rfl⟩ ⟨Nat.le_of_ble_eq_true rfl, Nat.le_of_ble_eq_true rfl⟩ ⟨Nat.zero_le _, Nat.zero_le _⟩ 1 5 rfl rfl rfl rfl hl.1 rfl (Nat.le_of_ble_eq_true rfl) dX6_latest_5 (fun H locs G => ?_)
  clear er1
  refine lv_if_eq (tgt := 22) hx hb dX6_latest_8 (by decide) (fun c3 => ?_) (fun c3 => ?_)
  · have h := it_at c3 h
    refine lv_aload_n hx hb dX6_latest_22 rfl (lv_at hl 0 rfl) ?_
    refine lv_iconst (v := 0) hx hb dX6_latest_23 (by decide) ?_
    obtain ⟨r4, u5, er4, h⟩ := bnd_at h
    refine cvI (rest := []) X K G (c_X6_found er4) q_338 my_X6_found ⟨rfl, rfl⟩ ⟨Nat.le_of_ble_eq_true rfl, Nat.le_of_ble_eq_true rfl⟩ ⟨Nat.zero_le _, Nat.zero_le _⟩ 0 6 rfl rfl rfl rfl hl.1 rfl (Nat.le_of_ble_eq_true rfl) dX6_latest_24 (fun H locs G => ?_)
    clear er4
    obtain ⟨rfl, rfl⟩ := pair_at h
    exact reI X G dX6_latest_27
  · have h := if_at c3 h
    refine lv_iload_n hx hb dX6_latest_11 rfl (lv_at hl 2 rfl) ?_
    refine lv_iconst (v := 0) hx hb dX6_latest_12 (by decide) ?_
    refine lv_sipush (v := 400) hx hb dX6_latest_13 (by decide) ?_
    obtain ⟨r6, u7, er6, h⟩ := bnd_at h
    refine csI (rest := []) X K G (c_X6_within er6) q_335 my_X6_within ⟨rfl, rfl⟩ ⟨Nat.le_of_ble_eq_true rfl, Nat.le_of_ble_eq_true rfl⟩ ⟨Nat.zero_le _, Nat.zero_le _⟩ rfl hl.1 rfl (Nat.le_of_ble_eq_true rfl) dX6_latest_16 (fun H locs G => ?_)
    clear er6
    refine lv_if_ne (tgt := 28) hx hb dX6_latest_19 (by decide) (fun c8 => ?_) (fun c8 => ?_)
    · have h := if_at c8 h
      refine lv_aload_n hx hb dX6_latest_28 rfl (lv_at hl 0 rfl) ?_
      refine lv_aload_n hx hb dX6_latest_29 rfl (lv_at hl 0 rfl) ?_
      refine gX_0_4 X K G q_304 dX6_latest_30 ?_
      refine lv_iload_n hx hb dX6_latest_33 rfl (lv_at hl 1 rfl) ?_
      refine lv_iload_n hx hb dX6_latest_34 rfl (lv_at hl 2 rfl) ?_
      obtain ⟨r9, u10, er9, h⟩ := bnd_at h
      refine cvI (rest := [.ref (ad 0)]) X K G (c_X0_latestFor er9) q_655 my_X0_latestFor ⟨rfl, rfl⟩ ⟨Nat.le_of_ble_eq_true rfl, Nat.le_of_ble_eq_true rfl⟩ ⟨Nat.zero_le _, Nat.zero_le _⟩ 24 0 rfl rfl rfl rfl hl.1 rfl (Nat.le_of_ble_eq_true rfl) dX6_latest_35 (fun H locs G => ?_)
      clear er9
      obtain ⟨r11, u12, er11, h⟩ := bnd_at h
      refine cvI (rest := []) X K G (c_X6_dayOrNone er11) q_612 my_X6_dayOrNone ⟨rfl, rfl⟩ ⟨Nat.le_of_ble_eq_true rfl, Nat.le_of_ble_eq_true rfl⟩ ⟨Nat.zero_le _, Nat.zero_le _⟩ 0 6 rfl rfl rfl rfl hl.1 rfl (Nat.le_of_ble_eq_true rfl) dX6_latest_38 (fun H locs G => ?_)
      clear er11
      obtain ⟨rfl, rfl⟩ := pair_at h
      exact reI X G dX6_latest_41
    · have h := it_at c8 h
      refine lv_aload_n hx hb dX6_latest_22 rfl (lv_at hl 0 rfl) ?_
      refine lv_iconst (v := 0) hx hb dX6_latest_23 (by decide) ?_
      obtain ⟨r13, u14, er13, h⟩ := bnd_at h
      refine cvI (rest := []) X K G (c_X6_found er13) q_338 my_X6_found ⟨rfl, rfl⟩ ⟨Nat.le_of_ble_eq_true rfl, Nat.le_of_ble_eq_true rfl⟩ ⟨Nat.zero_le _, Nat.zero_le _⟩ 0 6 rfl rfl rfl rfl hl.1 rfl (Nat.le_of_ble_eq_true rfl) dX6_latest_24 (fun H locs G => ?_)
      clear er13
      obtain ⟨rfl, rfl⟩ := pair_at h
      exact reI X G dX6_latest_27
noncomputable def f_X0_longestWait_L4_4 (v1 : Int32) (v2 : Int32) (v3 : Int32) (u0 : XS) : Option ((Int32 × Int32 × Int32 × XS) ⊕ ((Int32 × XS) ⊕ (Int32 × XS))) :=
  if v1 < 0 ∨ 8 ≤ v1.toNatClampNeg then none else
  (if ((tCounts (xT u0)) v1.toNatClampNeg) ≤ v3 then
    some (.inr (.inr (v2, u0)))
  else
    if v3 < 0 ∨ 8 ≤ v3.toNatClampNeg then none else
    nmv (v3 - (1 : Int32)) fun x4 =>
    if x4 < 0 ∨ 8 ≤ x4.toNatClampNeg then none else
    nmv (if v2 < (((xL u0) v3.toNatClampNeg) - ((xL u0) x4.toNatClampNeg)) then (((xL u0) v3.toNatClampNeg) - ((xL u0) x4.toNatClampNeg)) else v2) fun x6 =>
    nmv (v3 + (1 : Int32)) fun x7 =>
    some (.inl (v1, x6, x7, u0)))
set_option maxRecDepth 100000 in
set_option maxHeartbeats 4000000 in
theorem b_X0_longestWait_L4_4 (X : cx p s m args meth c cX0_longestWait 4 RX0 (some .int)) (K : kx D cI cZ cQ adK adV A s s.heap) {v1 : Int32} {v2 : Int32} {v3 : Int32} {u0 : XS} (G : wg D A s.heap H locs (wX cI cZ cQ ad u0)) (hl : lv_has ls 4 [(0, .ref (ad 24)), (1, .int v1), (2, .int v2), (3, .int v3)]) {q : ((Int32 × Int32 × Int32 × XS) ⊕ ((Int32 × XS) ⊕ (Int32 × XS)))} (h : f_X0_longestWait_L4_4 v1 v2 v3 u0 = some q) (hB : ∀ (v1 : Int32) (v2 : Int32) (v3 : Int32) (u : XS), q = .inl (v1, v2, v3, u) → ∀ (H : Heap) (locs : List Loc) (ls : Array Slot), wg D A s.heap H locs (wX cI cZ cQ ad u) → lv_has ls 4 [(0, .ref (ad 24)), (1, .int v1), (2, .int v2), (3, .int v3)] → W p l e { frames := 1, cells := 0, slots := 0, locals := 13 } s m args below meth c H locs 0 0 Q (F0 m 4 ls [])) (hX : ∀ (v2 : Int32) (u : XS), q = .inr (.inr (v2, u)) → ∀ (H : Heap) (locs : List Loc) (ls : Array Slot), wg D A s.heap H locs (wX cI cZ cQ ad u) → lv_has ls 4 [(2, .int v2)] → W p l e { frames := 1, cells := 0, slots := 0, locals := 13 } s m args below meth c H locs 0 0 Q (F0 m 43 ls [])) (hR : ∀ (r : Int32) (u : XS), q = .inr (.inl (r, u)) → Q = (qI D A (wX cI cZ cQ ad) below args s r u)) : W p l e { frames := 1, cells := 0, slots := 0, locals := 13 } s m args below meth c H locs 0 0 Q (F0 m 4 ls []) := by
  unfold f_X0_longestWait_L4_4 at h
  obtain ⟨hx, hb, -⟩ := id X
  refine lv_iload_n hx hb dX0_longestWait_4 rfl (lv_at hl 3 rfl) ?_
  refine lv_aload_n hx hb dX0_longestWait_5 rfl (lv_at hl 0 rfl) ?_
  refine gX_24_0 X K G q_184 dX0_longestWait_6 ?_
  refine gX_1_8 X K G q_129 dX0_longestWait_9 ?_
  refine lv_iload_n hx hb dX0_longestWait_12 rfl (lv_at hl 1 rfl) ?_
  obtain ⟨g1, h⟩ := ck_at h
  refine lX_4 X K G g1 dX0_longestWait_13 ?_
  refine lv_icmp_ge (tgt := 43) hx hb dX0_longestWait_14 (by decide) (fun c2 => ?_) (fun c2 => ?_)
  · have h := it_at c2 h
    exact hX _ _ (Option.some.inj h).symm _ _ _ G (lv_sub hl [2] rfl)
  · have h := if_at c2 h
    refine lv_iload_n hx hb dX0_longestWait_17 rfl (lv_at hl 2 rfl) ?_
    refine lv_aload_n hx hb dX0_longestWait_18 rfl (lv_at hl 0 rfl) ?_
    refine gX_24_1 X K G q_185 dX0_longestWait_19 ?_
    refine lv_iload_n hx hb dX0_longestWait_22 rfl (lv_at hl 3 rfl) ?_
    obtain ⟨g3, h⟩ := ck_at h
    refine lX_25 X K G g3 dX0_longestWait_23 ?_
    refine lv_aload_n hx hb dX0_longestWait_24 rfl (lv_at hl 0 rfl) ?_
    refine gX_24_1 X K G q_185 dX0_longestWait_25 ?_
    refine lv_iload_n hx hb dX0_longestWait_28 rfl (lv_at hl 3 rfl) ?_
    refine lv_iconst (v := 1) hx hb dX0_longestWait_29 (by decide) ?_
    refine lv_isub hx hb dX0_longestWait_30 ?_
    refine lv_topi (fun x4 ex4 => ?_)
    have h := nm_at ex4 h
    obtain ⟨g5, h⟩ := ck_at h
    refine lX_25 X K G g5 dX0_longestWait_31 ?_
    refine lv_isub hx hb dX0_longestWait_32 ?_
    refine va_mmax hx hb (by rw [X.2.2.1]; exact hl.1.symm) X.2.2.2.1 (X.2.2.2.2.1 _ q_667) (X.2.2.2.2.1 _ my_J9_max_7cf53.1) (X.2.2.2.2.1 _ my_J9_max_7cf53.2.1) (X.2.2.2.2.1 _ my_J9_max_7cf53.2.2.1) (Nat.le_of_ble_eq_true rfl) (Nat.le_of_ble_eq_true rfl) (Nat.zero_le _) (Nat.zero_le _) dX0_longestWait_33 ?_
    refine lv_topi (fun x6 ex6 => ?_)
    have h := nm_at ex6 h
    refine lv_istore_n (lv' := [(2, .int x6), (0, .ref (ad 24)), (1, .int v1), (3, .int v3)]) hx hb dX0_longestWait_36 rfl hl (by decide) rfl (fun ls hl => ?_)
    obtain ⟨x7, ex7⟩ : ∃ z : Int32, z = v3 + (1 : Int32) := ⟨_, rfl⟩
    have h := nm_at ex7 h
    refine lv_iinc (v := x7) (lv' := [(3, .int x7), (2, .int x6), (0, .ref (ad 24)), (1, .int v1)]) hx hb dX0_longestWait_37 hl (k := 3) rfl (by rw [ex7]; rfl) (by decide) rfl (fun ls hl => ?_)
    refine lv_goto (tgt := 4) hx hb dX0_longestWait_40 (by decide) ?_
    exact hB _ _ _ _ (Option.some.inj h).symm _ _ _ G (lv_sub hl [2, 3, 1, 0] rfl)
noncomputable def f_X0_longestWait_L4_4s (q : Int32 × Int32 × Int32 × XS) : Option ((Int32 × Int32 × Int32 × XS) ⊕ ((Int32 × XS) ⊕ (Int32 × XS))) := f_X0_longestWait_L4_4 q.1 q.2.1 q.2.2.1 q.2.2.2
set_option maxRecDepth 100000 in
set_option maxHeartbeats 4000000 in
theorem w_X0_longestWait_L4_4 (X : cx p s m args meth c cX0_longestWait 4 RX0 (some .int)) (K : kx D cI cZ cQ adK adV A s s.heap) {e0 : (Int32 × XS) ⊕ (Int32 × XS)} : ∀ (n : Nat) (v1 : Int32) (v2 : Int32) (v3 : Int32) (u : XS) {H : Heap} {locs : List Loc} {ls : Array Slot}, wh f_X0_longestWait_L4_4s n (v1, v2, v3, u) = some e0 → wg D A s.heap H locs (wX cI cZ cQ ad u) → lv_has ls 4 [(0, .ref (ad 24)), (1, .int v1), (2, .int v2), (3, .int v3)] → (∀ (v2 : Int32) (u : XS), e0 = .inr (v2, u) → ∀ (H : Heap) (locs : List Loc) (ls : Array Slot), wg D A s.heap H locs (wX cI cZ cQ ad u) → lv_has ls 4 [(2, .int v2)] → W p l e { frames := 1, cells := 0, slots := 0, locals := 13 } s m args below meth c H locs 0 0 Q (F0 m 43 ls [])) → (∀ (r : Int32) (u : XS), e0 = .inl (r, u) → Q = (qI D A (wX cI cZ cQ ad) below args s r u)) → W p l e { frames := 1, cells := 0, slots := 0, locals := 13 } s m args below meth c H locs 0 0 Q (F0 m 4 ls []) := by
  intro n
  induction n with
  | zero => intro v1 v2 v3 u H locs ls h; cases h
  | succ n ih =>
    intro v1 v2 v3 u H locs ls h G hl hX hR
    obtain ⟨q, h1, h2, h3⟩ := wh_at h
    exact b_X0_longestWait_L4_4 X K G hl (show f_X0_longestWait_L4_4 v1 v2 v3 u = some q from h1) (fun b0 b1 b2 b3 ee H locs ls G hl => ih b0 b1 b2 b3 (h2 _ ee) G hl hX hR) (fun z0 z1 ee => hX z0 z1 (h3 _ ee).symm) (fun r u ee => hR r u (h3 _ ee).symm)
noncomputable def f_X0_longestWait (a1 : Int32) (u0 : XS) : Option (Int32 × XS) :=
  bne (wl f_X0_longestWait_L4_4s (a1, (0 : Int32), (1 : Int32), u0)) (fun a => some a) fun b =>
    nmv b.1 fun y4 =>
    nmv b.2 fun u3 =>
    some (y4, u3)
set_option maxRecDepth 100000 in
set_option maxHeartbeats 4000000 in
theorem c_X0_longestWait {a1 : Int32} {u0 : XS} {r : Int32} {u' : XS} (h : f_X0_longestWait a1 u0 = some (r, u')) : MI l D cI cZ cQ adK adV A yX0_longestWait cX0_longestWait 4 (some .int) { frames := 1, cells := 0, slots := 0, locals := 13 } [.ref (ad 24), .int a1] (wX cI cZ cQ ad) u0 r u' := by
  unfold f_X0_longestWait at h
  refine entI (by decide) (Nat.le_of_ble_eq_true rfl) (fun p e s m below meth c ls X K G hl => ?_)
  have hl : lv_has ls 4 [(0, .ref (ad 24)), (1, .int a1)] := hl
  obtain ⟨hx, hb, -⟩ := id X
  generalize hH : s.heap = H at G
  subst hH
  refine lv_iconst (v := 0) hx hb dX0_longestWait_0 (by decide) ?_
  refine lv_istore_n (lv' := [(2, .int (0 : Int32)), (0, .ref (ad 24)), (1, .int a1)]) hx hb dX0_longestWait_1 rfl hl (by decide) rfl (fun ls hl => ?_)
  refine lv_iconst (v := 1) hx hb dX0_longestWait_2 (by decide) ?_
  refine lv_istore_n (lv' := [(3, .int (1 : Int32)), (2, .int (0 : Int32)), (0, .ref (ad 24)), (1, .int a1)]) hx hb dX0_longestWait_3 rfl hl (by decide) rfl (fun ls hl => ?_)
  obtain ⟨q2, hq2, ha, hb1⟩ := bne_at h
  obtain ⟨n1, hn1⟩ := wl_iff.mp hq2
  refine w_X0_longestWait_L4_4 X K n1 _ _ _ _ hn1 G (lv_sub hl [2, 3, 1, 0] rfl) (fun y4 u3 ee H locs ls G hl => ?_) (fun r u1 ee => by obtain ⟨rfl, rfl⟩ := pair_at (ha _ ee); rfl)
  have h := hb1 _ ee
  clear ee ha hb1 hq2 hn1
  have h := nm_at (x := y4) rfl h
  have h := nm_at (x := u3) rfl h
  refine lv_iload_n hx hb dX0_longestWait_43 rfl (lv_at hl 0 rfl) ?_
  obtain ⟨rfl, rfl⟩ := pair_at h
  exact reI X G dX0_longestWait_44
noncomputable def f_X6_waits (a1 : Int32) (a2 : Int32) (u0 : XS) : Option (Int32 × XS) :=
  bnd (f_X5_hasThing a1 u0) fun r1 u2 =>
  (if r1 = 0 then
    bnd (f_X6_found (0 : Int32) u2) fun r4 u5 =>
    some (r4, u5)
  else
    bnd (f_X6_within a2 (0 : Int32) (999 : Int32) u2) fun r6 u7 =>
    (if r6 = 0 then
      bnd (f_X6_found (0 : Int32) u7) fun r16 u17 =>
      some (r16, u17)
    else
      bnd (f_X0_begunFrom a1 a2 u7) fun r9 u10 =>
      (if 0 ≤ r9 then
        bnd (f_X0_longestWait a1 u10) fun r12 u13 =>
        some (r12, u13)
      else
        bnd (f_X6_found (3 : Int32) u10) fun r14 u15 =>
        some (r14, u15))))
set_option maxRecDepth 100000 in
set_option maxHeartbeats 4000000 in
theorem c_X6_waits {a1 : Int32} {a2 : Int32} {u0 : XS} {r : Int32} {u' : XS} (h : f_X6_waits a1 a2 u0 = some (r, u')) : MI l D cI cZ cQ adK adV A yX6_waits cX6_waits 3 (some .int) { frames := 5, cells := 0, slots := 0, locals := 123 } [.ref (ad 0), .int a1, .int a2] (wX cI cZ cQ ad) u0 r u' := by
  unfold f_X6_waits at h
  refine entI (by decide) (Nat.le_of_ble_eq_true rfl) (fun p e s m below meth c ls X K G hl => ?_)
  have hl : lv_has ls 3 [(0, .ref (ad 0)), (1, .int a1), (2, .int a2)] := hl
  obtain ⟨hx, hb, -⟩ := id X
  generalize hH : s.heap = H at G
  subst hH
  refine lv_aload_n hx hb dX6_waits_0 rfl (lv_at hl 0 rfl) ?_
  refine gX_0_0 X K G q_300 dX6_waits_1 ?_
  refine lv_iload_n hx hb dX6_waits_4 rfl (lv_at hl 1 rfl) ?_
  obtain ⟨r1, u2, er1, h⟩ := bnd_at h
  refine cvI (rest := []) X K G (c_X5_hasThing er1) q_553 my_X5_hasThing ⟨rfl, rfl⟩ ⟨Nat.le_of_ble_eq_true rfl, Nat.le_of_ble_eq_true rfl⟩ ⟨Nat.zero_le _, Nat.zero_le _⟩ 1 5 rfl rfl rfl rfl hl.1 rfl (Nat.le_of_ble_eq_true rfl) dX6_waits_5 (fun H locs G => ?_)
  clear er1
  refine lv_if_eq (tgt := 22) hx hb dX6_waits_8 (by decide) (fun c3 => ?_) (fun c3 => ?_)
  · have h := it_at c3 h
    refine lv_aload_n hx hb dX6_waits_22 rfl (lv_at hl 0 rfl) ?_
    refine lv_iconst (v := 0) hx hb dX6_waits_23 (by decide) ?_
    obtain ⟨r4, u5, er4, h⟩ := bnd_at h
    refine cvI (rest := []) X K G (c_X6_found er4) q_338 my_X6_found ⟨rfl, rfl⟩ ⟨Nat.le_of_ble_eq_true rfl, Nat.le_of_ble_eq_true rfl⟩ ⟨Nat.zero_le _, Nat.zero_le _⟩ 0 6 rfl rfl rfl rfl hl.1 rfl (Nat.le_of_ble_eq_true rfl) dX6_waits_24 (fun H locs G => ?_)
    clear er4
    obtain ⟨rfl, rfl⟩ := pair_at h
    exact reI X G dX6_waits_27
  · have h := if_at c3 h
    refine lv_iload_n hx hb dX6_waits_11 rfl (lv_at hl 2 rfl) ?_
    refine lv_iconst (v := 0) hx hb dX6_waits_12 (by decide) ?_
    refine lv_sipush (v := 999) hx hb dX6_waits_13 (by decide) ?_
    obtain ⟨r6, u7, er6, h⟩ := bnd_at h
    refine csI (rest := []) X K G (c_X6_within er6) q_335 my_X6_within ⟨rfl, rfl⟩ ⟨Nat.le_of_ble_eq_true rfl, Nat.le_of_ble_eq_true rfl⟩ ⟨Nat.zero_le _, Nat.zero_le _⟩ rfl hl.1 rfl (Nat.le_of_ble_eq_true rfl) dX6_waits_16 (fun H locs G => ?_)
    clear er6
    refine lv_if_ne (tgt := 28) hx hb dX6_waits_19 (by decide) (fun c8 => ?_) (fun c8 => ?_)
    · have h := if_at c8 h
      refine lv_aload_n hx hb dX6_waits_28 rfl (lv_at hl 0 rfl) ?_
      refine gX_0_4 X K G q_304 dX6_waits_29 ?_
      refine lv_iload_n hx hb dX6_waits_32 rfl (lv_at hl 1 rfl) ?_
      refine lv_iload_n hx hb dX6_waits_33 rfl (lv_at hl 2 rfl) ?_
      obtain ⟨r9, u10, er9, h⟩ := bnd_at h
      refine cvI (rest := []) X K G (c_X0_begunFrom er9) q_650 my_X0_begunFrom ⟨rfl, rfl⟩ ⟨Nat.le_of_ble_eq_true rfl, Nat.le_of_ble_eq_true rfl⟩ ⟨Nat.zero_le _, Nat.zero_le _⟩ 24 0 rfl rfl rfl rfl hl.1 rfl (Nat.le_of_ble_eq_true rfl) dX6_waits_34 (fun H locs G => ?_)
      clear er9
      refine lv_if_ge (tgt := 46) hx hb dX6_waits_37 (by decide) (fun c11 => ?_) (fun c11 => ?_)
      · have h := it_at c11 h
        refine lv_aload_n hx hb dX6_waits_46 rfl (lv_at hl 0 rfl) ?_
        refine gX_0_4 X K G q_304 dX6_waits_47 ?_
        refine lv_iload_n hx hb dX6_waits_50 rfl (lv_at hl 1 rfl) ?_
        obtain ⟨r12, u13, er12, h⟩ := bnd_at h
        refine cvI (rest := []) X K G (c_X0_longestWait er12) q_663 my_X0_longestWait ⟨rfl, rfl⟩ ⟨Nat.le_of_ble_eq_true rfl, Nat.le_of_ble_eq_true rfl⟩ ⟨Nat.zero_le _, Nat.zero_le _⟩ 24 0 rfl rfl rfl rfl hl.1 rfl (Nat.le_of_ble_eq_true rfl) dX6_waits_51 (fun H locs G => ?_)
        clear er12
        obtain ⟨rfl, rfl⟩ := pair_at h
        exact reI X G dX6_waits_54
      · have h := if_at c11 h
        refine lv_aload_n hx hb dX6_waits_40 rfl (lv_at hl 0 rfl) ?_
        refine lv_iconst (v := 3) hx hb dX6_waits_41 (by decide) ?_
        obtain ⟨r14, u15, er14, h⟩ := bnd_at h
        refine cvI (rest := []) X K G (c_X6_found er14) q_338 my_X6_found ⟨rfl, rfl⟩ ⟨Nat.le_of_ble_eq_true rfl, Nat.le_of_ble_eq_true rfl⟩ ⟨Nat.zero_le _, Nat.zero_le _⟩ 0 6 rfl rfl rfl rfl hl.1 rfl (Nat.le_of_ble_eq_true rfl) dX6_waits_42 (fun H locs G => ?_)
        clear er14
        obtain ⟨rfl, rfl⟩ := pair_at h
        exact reI X G dX6_waits_45
    · have h := it_at c8 h
      refine lv_aload_n hx hb dX6_waits_22 rfl (lv_at hl 0 rfl) ?_
      refine lv_iconst (v := 0) hx hb dX6_waits_23 (by decide) ?_
      obtain ⟨r16, u17, er16, h⟩ := bnd_at h
      refine cvI (rest := []) X K G (c_X6_found er16) q_338 my_X6_found ⟨rfl, rfl⟩ ⟨Nat.le_of_ble_eq_true rfl, Nat.le_of_ble_eq_true rfl⟩ ⟨Nat.zero_le _, Nat.zero_le _⟩ 0 6 rfl rfl rfl rfl hl.1 rfl (Nat.le_of_ble_eq_true rfl) dX6_waits_24 (fun H locs G => ?_)
      clear er16
      obtain ⟨rfl, rfl⟩ := pair_at h
      exact reI X G dX6_waits_27
noncomputable def f_X6_order (a1 : Int32) (a2 : Int32) (a3 : Int32) (u0 : XS) : Option (Int32 × XS) :=
  bnd (f_X5_hasThing a1 u0) fun r1 u2 =>
  (if r1 = 0 then
    bnd (f_X6_found (0 : Int32) u2) fun r4 u5 =>
    some (r4, u5)
  else
    bnd (f_X6_within a2 (0 : Int32) (399 : Int32) u2) fun r6 u7 =>
    (if r6 = 0 then
      bnd (f_X6_found (0 : Int32) u7) fun r9 u10 =>
      some (r9, u10)
    else
      bnd (f_X6_within a3 (1 : Int32) (99 : Int32) u7) fun r11 u12 =>
      (if r11 = 0 then
        bnd (f_X6_found (0 : Int32) u12) fun r19 u20 =>
        some (r19, u20)
      else
        (if (tOrders (xT u12)) < (5 : Int32) then
          bnd (f_X5_addOrder a1 a2 a3 u12) fun r15 u16 =>
          some (r15, u16)
        else
          bnd (f_X6_found (1 : Int32) u12) fun r17 u18 =>
          some (r17, u18)))))
set_option maxRecDepth 100000 in
set_option maxHeartbeats 4000000 in
theorem c_X6_order {a1 : Int32} {a2 : Int32} {a3 : Int32} {u0 : XS} {r : Int32} {u' : XS} (h : f_X6_order a1 a2 a3 u0 = some (r, u')) : MI l D cI cZ cQ adK adV A yX6_order cX6_order 4 (some .int) { frames := 2, cells := 0, slots := 0, locals := 43 } [.ref (ad 0), .int a1, .int a2, .int a3] (wX cI cZ cQ ad) u0 r u' := by
  unfold f_X6_order at h
  refine entI (by decide) (Nat.le_of_ble_eq_true rfl) (fun p e s m below meth c ls X K G hl => ?_)
  have hl : lv_has ls 4 [(0, .ref (ad 0)), (1, .int a1), (2, .int a2), (3, .int a3)] := hl
  obtain ⟨hx, hb, -⟩ := id X
  generalize hH : s.heap = H at G
  subst hH
  refine lv_aload_n hx hb dX6_order_0 rfl (lv_at hl 0 rfl) ?_
  refine gX_0_0 X K G q_300 dX6_order_1 ?_
  refine lv_iload_n hx hb dX6_order_4 rfl (lv_at hl 1 rfl) ?_
  obtain ⟨r1, u2, er1, h⟩ := bnd_at h
  refine cvI (rest := []) X K G (c_X5_hasThing er1) q_553 my_X5_hasThing ⟨rfl, rfl⟩ ⟨Nat.le_of_ble_eq_true rfl, Nat.le_of_ble_eq_true rfl⟩ ⟨Nat.zero_le _, Nat.zero_le _⟩ 1 5 rfl rfl rfl rfl hl.1 rfl (Nat.le_of_ble_eq_true rfl) dX6_order_5 (fun H locs G => ?_)
  clear er1
  refine lv_if_eq (tgt := 32) hx hb dX6_order_8 (by decide) (fun c3 => ?_) (fun c3 => ?_)
  · have h := it_at c3 h
    refine lv_aload_n hx hb dX6_order_32 rfl (lv_at hl 0 rfl) ?_
    refine lv_iconst (v := 0) hx hb dX6_order_33 (by decide) ?_
    obtain ⟨r4, u5, er4, h⟩ := bnd_at h
    refine cvI (rest := []) X K G (c_X6_found er4) q_338 my_X6_found ⟨rfl, rfl⟩ ⟨Nat.le_of_ble_eq_true rfl, Nat.le_of_ble_eq_true rfl⟩ ⟨Nat.zero_le _, Nat.zero_le _⟩ 0 6 rfl rfl rfl rfl hl.1 rfl (Nat.le_of_ble_eq_true rfl) dX6_order_34 (fun H locs G => ?_)
    clear er4
    obtain ⟨rfl, rfl⟩ := pair_at h
    exact reI X G dX6_order_37
  · have h := if_at c3 h
    refine lv_iload_n hx hb dX6_order_11 rfl (lv_at hl 2 rfl) ?_
    refine lv_iconst (v := 0) hx hb dX6_order_12 (by decide) ?_
    refine lv_sipush (v := 399) hx hb dX6_order_13 (by decide) ?_
    obtain ⟨r6, u7, er6, h⟩ := bnd_at h
    refine csI (rest := []) X K G (c_X6_within er6) q_335 my_X6_within ⟨rfl, rfl⟩ ⟨Nat.le_of_ble_eq_true rfl, Nat.le_of_ble_eq_true rfl⟩ ⟨Nat.zero_le _, Nat.zero_le _⟩ rfl hl.1 rfl (Nat.le_of_ble_eq_true rfl) dX6_order_16 (fun H locs G => ?_)
    clear er6
    refine lv_if_eq (tgt := 32) hx hb dX6_order_19 (by decide) (fun c8 => ?_) (fun c8 => ?_)
    · have h := it_at c8 h
      refine lv_aload_n hx hb dX6_order_32 rfl (lv_at hl 0 rfl) ?_
      refine lv_iconst (v := 0) hx hb dX6_order_33 (by decide) ?_
      obtain ⟨r9, u10, er9, h⟩ := bnd_at h
      refine cvI (rest := []) X K G (c_X6_found er9) q_338 my_X6_found ⟨rfl, rfl⟩ ⟨Nat.le_of_ble_eq_true rfl, Nat.le_of_ble_eq_true rfl⟩ ⟨Nat.zero_le _, Nat.zero_le _⟩ 0 6 rfl rfl rfl rfl hl.1 rfl (Nat.le_of_ble_eq_true rfl) dX6_order_34 (fun H locs G => ?_)
      clear er9
      obtain ⟨rfl, rfl⟩ := pair_at h
      exact reI X G dX6_order_37
    · have h := if_at c8 h
      refine lv_iload_n hx hb dX6_order_22 rfl (lv_at hl 3 rfl) ?_
      refine lv_iconst (v := 1) hx hb dX6_order_23 (by decide) ?_
      refine lv_bipush (v := 99) hx hb dX6_order_24 (by decide) ?_
      obtain ⟨r11, u12, er11, h⟩ := bnd_at h
      refine csI (rest := []) X K G (c_X6_within er11) q_335 my_X6_within ⟨rfl, rfl⟩ ⟨Nat.le_of_ble_eq_true rfl, Nat.le_of_ble_eq_true rfl⟩ ⟨Nat.zero_le _, Nat.zero_le _⟩ rfl hl.1 rfl (Nat.le_of_ble_eq_true rfl) dX6_order_26 (fun H locs G => ?_)
      clear er11
      refine lv_if_ne (tgt := 38) hx hb dX6_order_29 (by decide) (fun c13 => ?_) (fun c13 => ?_)
      · have h := if_at c13 h
        refine lv_aload_n hx hb dX6_order_38 rfl (lv_at hl 0 rfl) ?_
        refine gX_0_0 X K G q_300 dX6_order_39 ?_
        refine gX_1_5 X K G q_121 dX6_order_42 ?_
        refine lv_iconst (v := 5) hx hb dX6_order_45 (by decide) ?_
        refine lv_icmp_lt (tgt := 55) hx hb dX6_order_46 (by decide) (fun c14 => ?_) (fun c14 => ?_)
        · have h := it_at c14 h
          refine lv_aload_n hx hb dX6_order_55 rfl (lv_at hl 0 rfl) ?_
          refine gX_0_0 X K G q_300 dX6_order_56 ?_
          refine lv_iload_n hx hb dX6_order_59 rfl (lv_at hl 1 rfl) ?_
          refine lv_iload_n hx hb dX6_order_60 rfl (lv_at hl 2 rfl) ?_
          refine lv_iload_n hx hb dX6_order_61 rfl (lv_at hl 3 rfl) ?_
          obtain ⟨r15, u16, er15, h⟩ := bnd_at h
          refine cvI (rest := []) X K G (c_X5_addOrder er15) q_674 my_X5_addOrder ⟨rfl, rfl⟩ ⟨Nat.le_of_ble_eq_true rfl, Nat.le_of_ble_eq_true rfl⟩ ⟨Nat.zero_le _, Nat.zero_le _⟩ 1 5 rfl rfl rfl rfl hl.1 rfl (Nat.le_of_ble_eq_true rfl) dX6_order_62 (fun H locs G => ?_)
          clear er15
          obtain ⟨rfl, rfl⟩ := pair_at h
          exact reI X G dX6_order_65
        · have h := if_at c14 h
          refine lv_aload_n hx hb dX6_order_49 rfl (lv_at hl 0 rfl) ?_
          refine lv_iconst (v := 1) hx hb dX6_order_50 (by decide) ?_
          obtain ⟨r17, u18, er17, h⟩ := bnd_at h
          refine cvI (rest := []) X K G (c_X6_found er17) q_338 my_X6_found ⟨rfl, rfl⟩ ⟨Nat.le_of_ble_eq_true rfl, Nat.le_of_ble_eq_true rfl⟩ ⟨Nat.zero_le _, Nat.zero_le _⟩ 0 6 rfl rfl rfl rfl hl.1 rfl (Nat.le_of_ble_eq_true rfl) dX6_order_51 (fun H locs G => ?_)
          clear er17
          obtain ⟨rfl, rfl⟩ := pair_at h
          exact reI X G dX6_order_54
      · have h := it_at c13 h
        refine lv_aload_n hx hb dX6_order_32 rfl (lv_at hl 0 rfl) ?_
        refine lv_iconst (v := 0) hx hb dX6_order_33 (by decide) ?_
        obtain ⟨r19, u20, er19, h⟩ := bnd_at h
        refine cvI (rest := []) X K G (c_X6_found er19) q_338 my_X6_found ⟨rfl, rfl⟩ ⟨Nat.le_of_ble_eq_true rfl, Nat.le_of_ble_eq_true rfl⟩ ⟨Nat.zero_le _, Nat.zero_le _⟩ 0 6 rfl rfl rfl rfl hl.1 rfl (Nat.le_of_ble_eq_true rfl) dX6_order_34 (fun H locs G => ?_)
        clear er19
        obtain ⟨rfl, rfl⟩ := pair_at h
        exact reI X G dX6_order_37
noncomputable def f_X5_orderNumber (a1 : Int32) (a2 : Int32) (u0 : XS) : Option (Int32 × XS) :=
  nmv ((a1 * (3 : Int32)) + a2) fun x1 =>
  if x1 < 0 ∨ 15 ≤ x1.toNatClampNeg then none else
  some ((tOrd (xT u0)) x1.toNatClampNeg, u0)
set_option maxRecDepth 100000 in
set_option maxHeartbeats 4000000 in
theorem c_X5_orderNumber {a1 : Int32} {a2 : Int32} {u0 : XS} {r : Int32} {u' : XS} (h : f_X5_orderNumber a1 a2 u0 = some (r, u')) : MI l D cI cZ cQ adK adV A yX5_orderNumber cX5_orderNumber 3 (some .int) { frames := 0, cells := 0, slots := 0, locals := 0 } [.ref (ad 1), .int a1, .int a2] (wX cI cZ cQ ad) u0 r u' := by
  unfold f_X5_orderNumber at h
  refine entI (by decide) (Nat.le_of_ble_eq_true rfl) (fun p e s m below meth c ls X K G hl => ?_)
  have hl : lv_has ls 3 [(0, .ref (ad 1)), (1, .int a1), (2, .int a2)] := hl
  obtain ⟨hx, hb, -⟩ := id X
  generalize hH : s.heap = H at G
  subst hH
  refine lv_aload_n hx hb dX5_orderNumber_0 rfl (lv_at hl 0 rfl) ?_
  refine gX_1_10 X K G q_133 dX5_orderNumber_1 ?_
  refine lv_iload_n hx hb dX5_orderNumber_4 rfl (lv_at hl 1 rfl) ?_
  refine lv_iconst (v := 3) hx hb dX5_orderNumber_5 (by decide) ?_
  refine lv_imul hx hb dX5_orderNumber_6 ?_
  refine lv_iload_n hx hb dX5_orderNumber_7 rfl (lv_at hl 2 rfl) ?_
  refine lv_iadd hx hb dX5_orderNumber_8 ?_
  refine lv_topi (fun x1 ex1 => ?_)
  have h := nm_at ex1 h
  obtain ⟨g2, h⟩ := ck_at h
  refine lX_6 X K G g2 dX5_orderNumber_9 ?_
  obtain ⟨rfl, rfl⟩ := pair_at h
  exact reI X G dX5_orderNumber_10
noncomputable def f_X6_orderOf (a1 : Int32) (a2 : Int32) (u0 : XS) : Option (Int32 × XS) :=
  bnd (f_X6_within a1 (0 : Int32) ((tOrders (xT u0)) - (1 : Int32)) u0) fun r1 u2 =>
  (if r1 = 0 then
    bnd (f_X6_found (0 : Int32) u2) fun r4 u5 =>
    some (r4, u5)
  else
    bnd (f_X6_within a2 (0 : Int32) (2 : Int32) u2) fun r6 u7 =>
    (if r6 = 0 then
      bnd (f_X6_found (0 : Int32) u7) fun r11 u12 =>
      some (r11, u12)
    else
      bnd (f_X5_orderNumber a1 a2 u7) fun r9 u10 =>
      some (r9, u10)))
set_option maxRecDepth 100000 in
set_option maxHeartbeats 4000000 in
theorem c_X6_orderOf {a1 : Int32} {a2 : Int32} {u0 : XS} {r : Int32} {u' : XS} (h : f_X6_orderOf a1 a2 u0 = some (r, u')) : MI l D cI cZ cQ adK adV A yX6_orderOf cX6_orderOf 3 (some .int) { frames := 2, cells := 0, slots := 0, locals := 43 } [.ref (ad 0), .int a1, .int a2] (wX cI cZ cQ ad) u0 r u' := by
  unfold f_X6_orderOf at h
  refine entI (by decide) (Nat.le_of_ble_eq_true rfl) (fun p e s m below meth c ls X K G hl => ?_)
  have hl : lv_has ls 3 [(0, .ref (ad 0)), (1, .int a1), (2, .int a2)] := hl
  obtain ⟨hx, hb, -⟩ := id X
  generalize hH : s.heap = H at G
  subst hH
  refine lv_iload_n hx hb dX6_orderOf_0 rfl (lv_at hl 1 rfl) ?_
  refine lv_iconst (v := 0) hx hb dX6_orderOf_1 (by decide) ?_
  refine lv_aload_n hx hb dX6_orderOf_2 rfl (lv_at hl 0 rfl) ?_
  refine gX_0_0 X K G q_300 dX6_orderOf_3 ?_
  refine gX_1_5 X K G q_121 dX6_orderOf_6 ?_
  refine lv_iconst (v := 1) hx hb dX6_orderOf_9 (by decide) ?_
  refine lv_isub hx hb dX6_orderOf_10 ?_
  obtain ⟨r1, u2, er1, h⟩ := bnd_at h
  refine csI (rest := []) X K G (c_X6_within er1) q_335 my_X6_within ⟨rfl, rfl⟩ ⟨Nat.le_of_ble_eq_true rfl, Nat.le_of_ble_eq_true rfl⟩ ⟨Nat.zero_le _, Nat.zero_le _⟩ rfl hl.1 rfl (Nat.le_of_ble_eq_true rfl) dX6_orderOf_11 (fun H locs G => ?_)
  clear er1
  refine lv_if_eq (tgt := 26) hx hb dX6_orderOf_14 (by decide) (fun c3 => ?_) (fun c3 => ?_)
  · have h := it_at c3 h
    refine lv_aload_n hx hb dX6_orderOf_26 rfl (lv_at hl 0 rfl) ?_
    refine lv_iconst (v := 0) hx hb dX6_orderOf_27 (by decide) ?_
    obtain ⟨r4, u5, er4, h⟩ := bnd_at h
    refine cvI (rest := []) X K G (c_X6_found er4) q_338 my_X6_found ⟨rfl, rfl⟩ ⟨Nat.le_of_ble_eq_true rfl, Nat.le_of_ble_eq_true rfl⟩ ⟨Nat.zero_le _, Nat.zero_le _⟩ 0 6 rfl rfl rfl rfl hl.1 rfl (Nat.le_of_ble_eq_true rfl) dX6_orderOf_28 (fun H locs G => ?_)
    clear er4
    obtain ⟨rfl, rfl⟩ := pair_at h
    exact reI X G dX6_orderOf_31
  · have h := if_at c3 h
    refine lv_iload_n hx hb dX6_orderOf_17 rfl (lv_at hl 2 rfl) ?_
    refine lv_iconst (v := 0) hx hb dX6_orderOf_18 (by decide) ?_
    refine lv_iconst (v := 2) hx hb dX6_orderOf_19 (by decide) ?_
    obtain ⟨r6, u7, er6, h⟩ := bnd_at h
    refine csI (rest := []) X K G (c_X6_within er6) q_335 my_X6_within ⟨rfl, rfl⟩ ⟨Nat.le_of_ble_eq_true rfl, Nat.le_of_ble_eq_true rfl⟩ ⟨Nat.zero_le _, Nat.zero_le _⟩ rfl hl.1 rfl (Nat.le_of_ble_eq_true rfl) dX6_orderOf_20 (fun H locs G => ?_)
    clear er6
    refine lv_if_ne (tgt := 32) hx hb dX6_orderOf_23 (by decide) (fun c8 => ?_) (fun c8 => ?_)
    · have h := if_at c8 h
      refine lv_aload_n hx hb dX6_orderOf_32 rfl (lv_at hl 0 rfl) ?_
      refine gX_0_0 X K G q_300 dX6_orderOf_33 ?_
      refine lv_iload_n hx hb dX6_orderOf_36 rfl (lv_at hl 1 rfl) ?_
      refine lv_iload_n hx hb dX6_orderOf_37 rfl (lv_at hl 2 rfl) ?_
      obtain ⟨r9, u10, er9, h⟩ := bnd_at h
      refine cvI (rest := []) X K G (c_X5_orderNumber er9) q_679 my_X5_orderNumber ⟨rfl, rfl⟩ ⟨Nat.le_of_ble_eq_true rfl, Nat.le_of_ble_eq_true rfl⟩ ⟨Nat.zero_le _, Nat.zero_le _⟩ 1 5 rfl rfl rfl rfl hl.1 rfl (Nat.le_of_ble_eq_true rfl) dX6_orderOf_38 (fun H locs G => ?_)
      clear er9
      obtain ⟨rfl, rfl⟩ := pair_at h
      exact reI X G dX6_orderOf_41
    · have h := it_at c8 h
      refine lv_aload_n hx hb dX6_orderOf_26 rfl (lv_at hl 0 rfl) ?_
      refine lv_iconst (v := 0) hx hb dX6_orderOf_27 (by decide) ?_
      obtain ⟨r11, u12, er11, h⟩ := bnd_at h
      refine cvI (rest := []) X K G (c_X6_found er11) q_338 my_X6_found ⟨rfl, rfl⟩ ⟨Nat.le_of_ble_eq_true rfl, Nat.le_of_ble_eq_true rfl⟩ ⟨Nat.zero_le _, Nat.zero_le _⟩ 0 6 rfl rfl rfl rfl hl.1 rfl (Nat.le_of_ble_eq_true rfl) dX6_orderOf_28 (fun H locs G => ?_)
      clear er11
      obtain ⟨rfl, rfl⟩ := pair_at h
      exact reI X G dX6_orderOf_31
noncomputable def f_X6_clear (u0 : XS) : Option (Int32 × XS) :=
  nmv (tOrders (xT u0)) fun x1 =>
  nmv (sT u0 (uOrders (xT u0) (0 : Int32))) fun u2 =>
  some (x1, u2)
set_option maxRecDepth 100000 in
set_option maxHeartbeats 4000000 in
theorem c_X6_clear {u0 : XS} {r : Int32} {u' : XS} (h : f_X6_clear  u0 = some (r, u')) : MI l D cI cZ cQ adK adV A yX6_clear cX6_clear 2 (some .int) { frames := 0, cells := 0, slots := 0, locals := 0 } [.ref (ad 0)] (wX cI cZ cQ ad) u0 r u' := by
  unfold f_X6_clear at h
  refine entI (by decide) (Nat.le_of_ble_eq_true rfl) (fun p e s m below meth c ls X K G hl => ?_)
  have hl : lv_has ls 2 [(0, .ref (ad 0))] := hl
  obtain ⟨hx, hb, -⟩ := id X
  generalize hH : s.heap = H at G
  subst hH
  refine lv_aload_n hx hb dX6_clear_0 rfl (lv_at hl 0 rfl) ?_
  refine gX_0_0 X K G q_300 dX6_clear_1 ?_
  refine gX_1_5 X K G q_121 dX6_clear_4 ?_
  refine lv_topi (fun x1 ex1 => ?_)
  have h := nm_at ex1 h
  refine lv_istore_n (lv' := [(1, .int x1), (0, .ref (ad 0))]) hx hb dX6_clear_7 rfl hl (by decide) rfl (fun ls hl => ?_)
  refine lv_aload_n hx hb dX6_clear_8 rfl (lv_at hl 1 rfl) ?_
  refine gX_0_0 X K G q_300 dX6_clear_9 ?_
  refine lv_iconst (v := 0) hx hb dX6_clear_12 (by decide) ?_
  refine pX_1_5 X K G q_121 dX6_clear_13 (fun H locs G => ?_)
  obtain ⟨u2, eu2⟩ : ∃ z : XS, z = sT u0 (uOrders (xT u0) (0 : Int32)) := ⟨_, rfl⟩
  have G : wg D A s.heap H locs (wX cI cZ cQ ad u2) := by rw [eu2]; exact G
  have h := nm_at eu2 h
  clear eu2
  refine lv_iload_n hx hb dX6_clear_16 rfl (lv_at hl 0 rfl) ?_
  obtain ⟨rfl, rfl⟩ := pair_at h
  exact reI X G dX6_clear_17
noncomputable def f_X2_readSequence_L25_25 (v3 : Int32) (v4 : Int32) (v5 : Int32) (u0 : XS) : Option ((Int32 × Int32 × Int32 × XS) ⊕ ((Int32 × XS) ⊕ (Int32 × XS))) :=
  (if v5 < 0 then
    some (.inr (.inr (v3, u0)))
  else
    nmv (v3 - v3 / (10 : Int32) * (10 : Int32)) fun x2 =>
    (if (tOrders (xT u0)) ≤ x2 then
      some (.inr (.inl ((0 : Int32), u0)))
    else
      (if ((v4 >>> (x2 &&& 31)) &&& (1 : Int32)) = 0 then
        nmv (v4 ||| ((1 : Int32) <<< (x2 &&& 31))) fun x5 =>
        if v5 < 0 ∨ 5 ≤ v5.toNatClampNeg then none else
        nmv (sH u0 (hu_sequence (xH u0) (upd (h_sequence (xH u0)) v5.toNatClampNeg x2))) fun u7 =>
        nmv (v3 / (10 : Int32)) fun x8 =>
        nmv (v5 + (-1 : Int32)) fun x9 =>
        some (.inl (x8, x5, x9, u7))
      else
        some (.inr (.inl ((0 : Int32), u0))))))
set_option maxRecDepth 100000 in
set_option maxHeartbeats 4000000 in
theorem b_X2_readSequence_L25_25 (X : cx p s m args meth c cX2_readSequence 7 RX2 (some .boolean)) (K : kx D cI cZ cQ adK adV A s s.heap) {v3 : Int32} {v4 : Int32} {v5 : Int32} {u0 : XS} (G : wg D A s.heap H locs (wX cI cZ cQ ad u0)) (hl : lv_has ls 7 [(0, .ref (ad 26)), (3, .int v3), (4, .int v4), (5, .int v5)]) {q : ((Int32 × Int32 × Int32 × XS) ⊕ ((Int32 × XS) ⊕ (Int32 × XS)))} (h : f_X2_readSequence_L25_25 v3 v4 v5 u0 = some q) (hB : ∀ (v3 : Int32) (v4 : Int32) (v5 : Int32) (u : XS), q = .inl (v3, v4, v5, u) → ∀ (H : Heap) (locs : List Loc) (ls : Array Slot), wg D A s.heap H locs (wX cI cZ cQ ad u) → lv_has ls 7 [(0, .ref (ad 26)), (3, .int v3), (4, .int v4), (5, .int v5)] → W p l e { frames := 1, cells := 0, slots := 0, locals := 22 } s m args below meth c H locs 0 0 Q (F0 m 25 ls [])) (hX : ∀ (v3 : Int32) (u : XS), q = .inr (.inr (v3, u)) → ∀ (H : Heap) (locs : List Loc) (ls : Array Slot), wg D A s.heap H locs (wX cI cZ cQ ad u) → lv_has ls 7 [(3, .int v3)] → W p l e { frames := 1, cells := 0, slots := 0, locals := 22 } s m args below meth c H locs 0 0 Q (F0 m 89 ls [])) (hR : ∀ (r : Int32) (u : XS), q = .inr (.inl (r, u)) → Q = (qI D A (wX cI cZ cQ ad) below args s r u)) : W p l e { frames := 1, cells := 0, slots := 0, locals := 22 } s m args below meth c H locs 0 0 Q (F0 m 25 ls []) := by
  unfold f_X2_readSequence_L25_25 at h
  obtain ⟨hx, hb, -⟩ := id X
  refine lv_iload hx hb dX2_readSequence_25 (lv_at hl 3 rfl) ?_
  refine lv_if_lt (tgt := 89) hx hb dX2_readSequence_27 (by decide) (fun c1 => ?_) (fun c1 => ?_)
  · have h := it_at c1 h
    exact hX _ _ (Option.some.inj h).symm _ _ _ G (lv_sub hl [1] rfl)
  · have h := if_at c1 h
    refine lv_iload_n hx hb dX2_readSequence_30 rfl (lv_at hl 1 rfl) ?_
    refine lv_bipush (v := 10) hx hb dX2_readSequence_31 (by decide) ?_
    refine lv_irem hx hb dX2_readSequence_33 (by decide) ?_
    refine lv_topi (fun x2 ex2 => ?_)
    have h := nm_at ex2 h
    refine lv_istore (lv' := [(6, .int x2), (0, .ref (ad 26)), (3, .int v3), (4, .int v4), (5, .int v5)]) hx hb dX2_readSequence_34 hl (by decide) rfl (fun ls hl => ?_)
    refine lv_iload hx hb dX2_readSequence_36 (lv_at hl 0 rfl) ?_
    refine lv_aload_n hx hb dX2_readSequence_38 rfl (lv_at hl 1 rfl) ?_
    refine gX_26_0 X K G q_199 dX2_readSequence_39 ?_
    refine gX_1_5 X K G q_119 dX2_readSequence_42 ?_
    refine lv_icmp_ge (tgt := 58) hx hb dX2_readSequence_45 (by decide) (fun c3 => ?_) (fun c3 => ?_)
    · have h := it_at c3 h
      refine lv_iconst (v := 0) hx hb dX2_readSequence_58 (by decide) ?_
      rw [hR _ _ (Option.some.inj h).symm]
      exact reZ X G (Or.inl rfl) dX2_readSequence_59
    · have h := if_at c3 h
      refine lv_iload hx hb dX2_readSequence_48 (lv_at hl 3 rfl) ?_
      refine lv_iload hx hb dX2_readSequence_50 (lv_at hl 0 rfl) ?_
      refine lv_ishr hx hb dX2_readSequence_52 ?_
      refine lv_iconst (v := 1) hx hb dX2_readSequence_53 (by decide) ?_
      refine lv_iand hx hb dX2_readSequence_54 ?_
      refine lv_if_eq (tgt := 60) hx hb dX2_readSequence_55 (by decide) (fun c4 => ?_) (fun c4 => ?_)
      · have h := it_at c4 h
        refine lv_iload hx hb dX2_readSequence_60 (lv_at hl 3 rfl) ?_
        refine lv_iconst (v := 1) hx hb dX2_readSequence_62 (by decide) ?_
        refine lv_iload hx hb dX2_readSequence_63 (lv_at hl 0 rfl) ?_
        refine lv_ishl hx hb dX2_readSequence_65 ?_
        refine lv_ior hx hb dX2_readSequence_66 ?_
        refine lv_topi (fun x5 ex5 => ?_)
        have h := nm_at ex5 h
        refine lv_istore (lv' := [(4, .int x5), (6, .int x2), (0, .ref (ad 26)), (3, .int v3), (5, .int v5)]) hx hb dX2_readSequence_67 hl (by decide) rfl (fun ls hl => ?_)
        refine lv_aload_n hx hb dX2_readSequence_69 rfl (lv_at hl 2 rfl) ?_
        refine gX_26_7 X K G q_206 dX2_readSequence_70 ?_
        refine lv_iload hx hb dX2_readSequence_73 (lv_at hl 4 rfl) ?_
        refine lv_iload hx hb dX2_readSequence_75 (lv_at hl 1 rfl) ?_
        obtain ⟨g6, h⟩ := ck_at h
        refine aX_31 X K G g6 dX2_readSequence_77 (fun H locs G => ?_)
        obtain ⟨u7, eu7⟩ : ∃ z : XS, z = sH u0 (hu_sequence (xH u0) (upd (h_sequence (xH u0)) v5.toNatClampNeg x2)) := ⟨_, rfl⟩
        have G : wg D A s.heap H locs (wX cI cZ cQ ad u7) := by rw [eu7]; exact G
        have h := nm_at eu7 h
        clear eu7
        refine lv_iload_n hx hb dX2_readSequence_78 rfl (lv_at hl 3 rfl) ?_
        refine lv_bipush (v := 10) hx hb dX2_readSequence_79 (by decide) ?_
        refine lv_idiv hx hb dX2_readSequence_81 (by decide) ?_
        refine lv_topi (fun x8 ex8 => ?_)
        have h := nm_at ex8 h
        refine lv_istore_n (lv' := [(3, .int x8), (4, .int x5), (6, .int x2), (0, .ref (ad 26)), (5, .int v5)]) hx hb dX2_readSequence_82 rfl hl (by decide) rfl (fun ls hl => ?_)
        obtain ⟨x9, ex9⟩ : ∃ z : Int32, z = v5 + (-1 : Int32) := ⟨_, rfl⟩
        have h := nm_at ex9 h
        refine lv_iinc (v := x9) (lv' := [(5, .int x9), (3, .int x8), (4, .int x5), (6, .int x2), (0, .ref (ad 26))]) hx hb dX2_readSequence_83 hl (k := 4) rfl (by rw [ex9]; rfl) (by decide) rfl (fun ls hl => ?_)
        refine lv_goto (tgt := 25) hx hb dX2_readSequence_86 (by decide) ?_
        exact hB _ _ _ _ (Option.some.inj h).symm _ _ _ G (lv_sub hl [4, 1, 2, 0] rfl)
      · have h := if_at c4 h
        refine lv_iconst (v := 0) hx hb dX2_readSequence_58 (by decide) ?_
        rw [hR _ _ (Option.some.inj h).symm]
        exact reZ X G (Or.inl rfl) dX2_readSequence_59
noncomputable def f_X2_readSequence_L25_25s (q : Int32 × Int32 × Int32 × XS) : Option ((Int32 × Int32 × Int32 × XS) ⊕ ((Int32 × XS) ⊕ (Int32 × XS))) := f_X2_readSequence_L25_25 q.1 q.2.1 q.2.2.1 q.2.2.2
set_option maxRecDepth 100000 in
set_option maxHeartbeats 4000000 in
theorem w_X2_readSequence_L25_25 (X : cx p s m args meth c cX2_readSequence 7 RX2 (some .boolean)) (K : kx D cI cZ cQ adK adV A s s.heap) {e0 : (Int32 × XS) ⊕ (Int32 × XS)} : ∀ (n : Nat) (v3 : Int32) (v4 : Int32) (v5 : Int32) (u : XS) {H : Heap} {locs : List Loc} {ls : Array Slot}, wh f_X2_readSequence_L25_25s n (v3, v4, v5, u) = some e0 → wg D A s.heap H locs (wX cI cZ cQ ad u) → lv_has ls 7 [(0, .ref (ad 26)), (3, .int v3), (4, .int v4), (5, .int v5)] → (∀ (v3 : Int32) (u : XS), e0 = .inr (v3, u) → ∀ (H : Heap) (locs : List Loc) (ls : Array Slot), wg D A s.heap H locs (wX cI cZ cQ ad u) → lv_has ls 7 [(3, .int v3)] → W p l e { frames := 1, cells := 0, slots := 0, locals := 22 } s m args below meth c H locs 0 0 Q (F0 m 89 ls [])) → (∀ (r : Int32) (u : XS), e0 = .inl (r, u) → Q = (qI D A (wX cI cZ cQ ad) below args s r u)) → W p l e { frames := 1, cells := 0, slots := 0, locals := 22 } s m args below meth c H locs 0 0 Q (F0 m 25 ls []) := by
  intro n
  induction n with
  | zero => intro v3 v4 v5 u H locs ls h; cases h
  | succ n ih =>
    intro v3 v4 v5 u H locs ls h G hl hX hR
    obtain ⟨q, h1, h2, h3⟩ := wh_at h
    exact b_X2_readSequence_L25_25 X K G hl (show f_X2_readSequence_L25_25 v3 v4 v5 u = some q from h1) (fun b0 b1 b2 b3 ee H locs ls G hl => ih b0 b1 b2 b3 (h2 _ ee) G hl hX hR) (fun z0 z1 ee => hX z0 z1 (h3 _ ee).symm) (fun r u ee => hR r u (h3 _ ee).symm)
noncomputable def f_X2_readSequence (a1 : Int32) (a2 : Int32) (u0 : XS) : Option (Int32 × XS) :=
  (if a1 < 0 then
    some ((0 : Int32), u0)
  else
    bnd (f_X6_within a2 (0 : Int32) (5 : Int32) u0) fun r2 u3 =>
    (if r2 = 0 then
      some ((0 : Int32), u3)
    else
      nmv (a2 - (1 : Int32)) fun x5 =>
      bne (wl f_X2_readSequence_L25_25s (a1, (0 : Int32), x5, u3)) (fun a => some a) fun b =>
        nmv b.1 fun y9 =>
        nmv b.2 fun u8 =>
        (if y9 = 0 then
          some ((1 : Int32), u8)
        else
          some ((0 : Int32), u8))))
set_option maxRecDepth 100000 in
set_option maxHeartbeats 4000000 in
theorem c_X2_readSequence {a1 : Int32} {a2 : Int32} {u0 : XS} {r : Int32} {u' : XS} (h : f_X2_readSequence a1 a2 u0 = some (r, u')) : MI l D cI cZ cQ adK adV A yX2_readSequence cX2_readSequence 7 (some .boolean) { frames := 1, cells := 0, slots := 0, locals := 22 } [.ref (ad 26), .int a1, .int a2] (wX cI cZ cQ ad) u0 r u' := by
  unfold f_X2_readSequence at h
  refine entI (by decide) (Nat.le_of_ble_eq_true rfl) (fun p e s m below meth c ls X K G hl => ?_)
  have hl : lv_has ls 7 [(0, .ref (ad 26)), (1, .int a1), (2, .int a2)] := hl
  obtain ⟨hx, hb, -⟩ := id X
  generalize hH : s.heap = H at G
  subst hH
  refine lv_iload_n hx hb dX2_readSequence_0 rfl (lv_at hl 1 rfl) ?_
  refine lv_if_lt (tgt := 13) hx hb dX2_readSequence_1 (by decide) (fun c1 => ?_) (fun c1 => ?_)
  · have h := it_at c1 h
    refine lv_iconst (v := 0) hx hb dX2_readSequence_13 (by decide) ?_
    obtain ⟨rfl, rfl⟩ := pair_at h
    exact reZ X G (Or.inl rfl) dX2_readSequence_14
  · have h := if_at c1 h
    refine lv_iload_n hx hb dX2_readSequence_4 rfl (lv_at hl 2 rfl) ?_
    refine lv_iconst (v := 0) hx hb dX2_readSequence_5 (by decide) ?_
    refine lv_iconst (v := 5) hx hb dX2_readSequence_6 (by decide) ?_
    obtain ⟨r2, u3, er2, h⟩ := bnd_at h
    refine cnI (rest := []) X K G (c_X6_within er2) K.2.1.2.2.2.1 my_X6_within ⟨rfl, rfl⟩ ⟨Nat.le_of_ble_eq_true rfl, Nat.le_of_ble_eq_true rfl⟩ ⟨Nat.zero_le _, Nat.zero_le _⟩ rfl hl.1 rfl (Nat.le_of_ble_eq_true rfl) dX2_readSequence_7 (fun H locs G => ?_)
    clear er2
    refine lv_if_ne (tgt := 15) hx hb dX2_readSequence_10 (by decide) (fun c4 => ?_) (fun c4 => ?_)
    · have h := if_at c4 h
      refine lv_iload_n hx hb dX2_readSequence_15 rfl (lv_at hl 1 rfl) ?_
      refine lv_istore_n (lv' := [(3, .int a1), (0, .ref (ad 26)), (1, .int a1), (2, .int a2)]) hx hb dX2_readSequence_16 rfl hl (by decide) rfl (fun ls hl => ?_)
      refine lv_iconst (v := 0) hx hb dX2_readSequence_17 (by decide) ?_
      refine lv_istore (lv' := [(4, .int (0 : Int32)), (3, .int a1), (0, .ref (ad 26)), (1, .int a1), (2, .int a2)]) hx hb dX2_readSequence_18 hl (by decide) rfl (fun ls hl => ?_)
      refine lv_iload_n hx hb dX2_readSequence_20 rfl (lv_at hl 4 rfl) ?_
      refine lv_iconst (v := 1) hx hb dX2_readSequence_21 (by decide) ?_
      refine lv_isub hx hb dX2_readSequence_22 ?_
      refine lv_topi (fun x5 ex5 => ?_)
      have h := nm_at ex5 h
      refine lv_istore (lv' := [(5, .int x5), (4, .int (0 : Int32)), (3, .int a1), (0, .ref (ad 26)), (1, .int a1), (2, .int a2)]) hx hb dX2_readSequence_23 hl (by decide) rfl (fun ls hl => ?_)
      obtain ⟨q7, hq7, ha, hb1⟩ := bne_at h
      obtain ⟨n6, hn6⟩ := wl_iff.mp hq7
      refine w_X2_readSequence_L25_25 X K n6 _ _ _ _ hn6 G (lv_sub hl [3, 2, 1, 0] rfl) (fun y9 u8 ee H locs ls G hl => ?_) (fun r u1 ee => by obtain ⟨rfl, rfl⟩ := pair_at (ha _ ee); rfl)
      have h := hb1 _ ee
      clear ee ha hb1 hq7 hn6
      have h := nm_at (x := y9) rfl h
      have h := nm_at (x := u8) rfl h
      refine lv_iload_n hx hb dX2_readSequence_89 rfl (lv_at hl 0 rfl) ?_
      refine lv_if_ne (tgt := 97) hx hb dX2_readSequence_90 (by decide) (fun c10 => ?_) (fun c10 => ?_)
      · have h := if_at c10 h
        refine lv_iconst (v := 0) hx hb dX2_readSequence_97 (by decide) ?_
        obtain ⟨rfl, rfl⟩ := pair_at h
        exact reZ X G (Or.inl rfl) dX2_readSequence_98
      · have h := it_at c10 h
        refine lv_iconst (v := 1) hx hb dX2_readSequence_93 (by decide) ?_
        refine lv_goto (tgt := 98) hx hb dX2_readSequence_94 (by decide) ?_
        obtain ⟨rfl, rfl⟩ := pair_at h
        exact reZ X G (Or.inr rfl) dX2_readSequence_98
    · have h := it_at c4 h
      refine lv_iconst (v := 0) hx hb dX2_readSequence_13 (by decide) ?_
      obtain ⟨rfl, rfl⟩ := pair_at h
      exact reZ X G (Or.inl rfl) dX2_readSequence_14
noncomputable def f_X2_forget_L2_2 (v1 : Int32) (u0 : XS) : Option ((Int32 × XS) ⊕ ((Int32 × XS) ⊕ (XS))) :=
  (if (h_uses (xH u0)) ≤ v1 then
    some (.inr (.inr u0))
  else
    if v1 < 0 ∨ 40 ≤ v1.toNatClampNeg then none else
    nmv ((h_inUse (xH u0)) v1.toNatClampNeg) fun x3 =>
    if x3 < 0 ∨ 3200 ≤ x3.toNatClampNeg then none else
    nmv (sH u0 (hu_hoursOn (xH u0) (upd (h_hoursOn (xH u0)) x3.toNatClampNeg (0 : Int32)))) fun u5 =>
    nmv (v1 + (1 : Int32)) fun x6 =>
    some (.inl (x6, u5)))
set_option maxRecDepth 100000 in
set_option maxHeartbeats 4000000 in
theorem b_X2_forget_L2_2 (X : cx p s m args meth c cX2_forget 2 RX2 none) (K : kx D cI cZ cQ adK adV A s s.heap) {v1 : Int32} {u0 : XS} (G : wg D A s.heap H locs (wX cI cZ cQ ad u0)) (hl : lv_has ls 2 [(0, .ref (ad 26)), (1, .int v1)]) {q : ((Int32 × XS) ⊕ ((Int32 × XS) ⊕ (XS)))} (h : f_X2_forget_L2_2 v1 u0 = some q) (hB : ∀ (v1 : Int32) (u : XS), q = .inl (v1, u) → ∀ (H : Heap) (locs : List Loc) (ls : Array Slot), wg D A s.heap H locs (wX cI cZ cQ ad u) → lv_has ls 2 [(0, .ref (ad 26)), (1, .int v1)] → W p l e { frames := 0, cells := 0, slots := 0, locals := 0 } s m args below meth c H locs 0 0 Q (F0 m 2 ls [])) (hX : ∀ (u : XS), q = .inr (.inr u) → ∀ (H : Heap) (locs : List Loc) (ls : Array Slot), wg D A s.heap H locs (wX cI cZ cQ ad u) → lv_has ls 2 [(0, .ref (ad 26))] → W p l e { frames := 0, cells := 0, slots := 0, locals := 0 } s m args below meth c H locs 0 0 Q (F0 m 28 ls [])) (hR : ∀ (r : Int32) (u : XS), q = .inr (.inl (r, u)) → Q = (qV D A (wX cI cZ cQ ad) below args s u)) : W p l e { frames := 0, cells := 0, slots := 0, locals := 0 } s m args below meth c H locs 0 0 Q (F0 m 2 ls []) := by
  unfold f_X2_forget_L2_2 at h
  obtain ⟨hx, hb, -⟩ := id X
  refine lv_iload_n hx hb dX2_forget_2 rfl (lv_at hl 1 rfl) ?_
  refine lv_aload_n hx hb dX2_forget_3 rfl (lv_at hl 0 rfl) ?_
  refine gX_26_6 X K G q_205 dX2_forget_4 ?_
  refine lv_icmp_ge (tgt := 28) hx hb dX2_forget_7 (by decide) (fun c1 => ?_) (fun c1 => ?_)
  · have h := it_at c1 h
    exact hX _ (Option.some.inj h).symm _ _ _ G (lv_sub hl [0] rfl)
  · have h := if_at c1 h
    refine lv_aload_n hx hb dX2_forget_10 rfl (lv_at hl 0 rfl) ?_
    refine gX_26_4 X K G q_203 dX2_forget_11 ?_
    refine lv_aload_n hx hb dX2_forget_14 rfl (lv_at hl 0 rfl) ?_
    refine gX_26_5 X K G q_204 dX2_forget_15 ?_
    refine lv_iload_n hx hb dX2_forget_18 rfl (lv_at hl 1 rfl) ?_
    obtain ⟨g2, h⟩ := ck_at h
    refine lX_30 X K G g2 dX2_forget_19 ?_
    refine lv_iconst (v := 0) hx hb dX2_forget_20 (by decide) ?_
    refine nm2 (fun x3 ex3 => ?_)
    have h := nm_at ex3 h
    obtain ⟨g4, h⟩ := ck_at h
    refine aX_29 X K G g4 dX2_forget_21 (fun H locs G => ?_)
    obtain ⟨u5, eu5⟩ : ∃ z : XS, z = sH u0 (hu_hoursOn (xH u0) (upd (h_hoursOn (xH u0)) x3.toNatClampNeg (0 : Int32))) := ⟨_, rfl⟩
    have G : wg D A s.heap H locs (wX cI cZ cQ ad u5) := by rw [eu5]; exact G
    have h := nm_at eu5 h
    clear eu5
    obtain ⟨x6, ex6⟩ : ∃ z : Int32, z = v1 + (1 : Int32) := ⟨_, rfl⟩
    have h := nm_at ex6 h
    refine lv_iinc (v := x6) (lv' := [(1, .int x6), (0, .ref (ad 26))]) hx hb dX2_forget_22 hl (k := 1) rfl (by rw [ex6]; rfl) (by decide) rfl (fun ls hl => ?_)
    refine lv_goto (tgt := 2) hx hb dX2_forget_25 (by decide) ?_
    exact hB _ _ (Option.some.inj h).symm _ _ _ G (lv_sub hl [1, 0] rfl)
noncomputable def f_X2_forget_L2_2s (q : Int32 × XS) : Option ((Int32 × XS) ⊕ ((Int32 × XS) ⊕ (XS))) := f_X2_forget_L2_2 q.1 q.2
set_option maxRecDepth 100000 in
set_option maxHeartbeats 4000000 in
theorem w_X2_forget_L2_2 (X : cx p s m args meth c cX2_forget 2 RX2 none) (K : kx D cI cZ cQ adK adV A s s.heap) {e0 : (Int32 × XS) ⊕ (XS)} : ∀ (n : Nat) (v1 : Int32) (u : XS) {H : Heap} {locs : List Loc} {ls : Array Slot}, wh f_X2_forget_L2_2s n (v1, u) = some e0 → wg D A s.heap H locs (wX cI cZ cQ ad u) → lv_has ls 2 [(0, .ref (ad 26)), (1, .int v1)] → (∀ (u : XS), e0 = .inr u → ∀ (H : Heap) (locs : List Loc) (ls : Array Slot), wg D A s.heap H locs (wX cI cZ cQ ad u) → lv_has ls 2 [(0, .ref (ad 26))] → W p l e { frames := 0, cells := 0, slots := 0, locals := 0 } s m args below meth c H locs 0 0 Q (F0 m 28 ls [])) → (∀ (r : Int32) (u : XS), e0 = .inl (r, u) → Q = (qV D A (wX cI cZ cQ ad) below args s u)) → W p l e { frames := 0, cells := 0, slots := 0, locals := 0 } s m args below meth c H locs 0 0 Q (F0 m 2 ls []) := by
  intro n
  induction n with
  | zero => intro v1 u H locs ls h; cases h
  | succ n ih =>
    intro v1 u H locs ls h G hl hX hR
    obtain ⟨q, h1, h2, h3⟩ := wh_at h
    exact b_X2_forget_L2_2 X K G hl (show f_X2_forget_L2_2 v1 u = some q from h1) (fun b0 b1 ee H locs ls G hl => ih b0 b1 (h2 _ ee) G hl hX hR) (fun z0 ee => hX z0 (h3 _ ee).symm) (fun r u ee => hR r u (h3 _ ee).symm)
noncomputable def f_X2_forget_L35_35 (v1 : Int32) (u0 : XS) : Option ((Int32 × XS) ⊕ ((Int32 × XS) ⊕ (XS))) :=
  (if (8 : Int32) ≤ v1 then
    some (.inr (.inr u0))
  else
    if v1 < 0 ∨ 8 ≤ v1.toNatClampNeg then none else
    nmv (sH u0 (hu_toolHours (xH u0) (upd (h_toolHours (xH u0)) v1.toNatClampNeg (0 : Int32)))) fun u3 =>
    nmv (v1 + (1 : Int32)) fun x4 =>
    some (.inl (x4, u3)))
set_option maxRecDepth 100000 in
set_option maxHeartbeats 4000000 in
theorem b_X2_forget_L35_35 (X : cx p s m args meth c cX2_forget 2 RX2 none) (K : kx D cI cZ cQ adK adV A s s.heap) {v1 : Int32} {u0 : XS} (G : wg D A s.heap H locs (wX cI cZ cQ ad u0)) (hl : lv_has ls 2 [(0, .ref (ad 26)), (1, .int v1)]) {q : ((Int32 × XS) ⊕ ((Int32 × XS) ⊕ (XS)))} (h : f_X2_forget_L35_35 v1 u0 = some q) (hB : ∀ (v1 : Int32) (u : XS), q = .inl (v1, u) → ∀ (H : Heap) (locs : List Loc) (ls : Array Slot), wg D A s.heap H locs (wX cI cZ cQ ad u) → lv_has ls 2 [(0, .ref (ad 26)), (1, .int v1)] → W p l e { frames := 0, cells := 0, slots := 0, locals := 0 } s m args below meth c H locs 0 0 Q (F0 m 35 ls [])) (hX : ∀ (u : XS), q = .inr (.inr u) → ∀ (H : Heap) (locs : List Loc) (ls : Array Slot), wg D A s.heap H locs (wX cI cZ cQ ad u) → lv_has ls 2 [(0, .ref (ad 26))] → W p l e { frames := 0, cells := 0, slots := 0, locals := 0 } s m args below meth c H locs 0 0 Q (F0 m 54 ls [])) (hR : ∀ (r : Int32) (u : XS), q = .inr (.inl (r, u)) → Q = (qV D A (wX cI cZ cQ ad) below args s u)) : W p l e { frames := 0, cells := 0, slots := 0, locals := 0 } s m args below meth c H locs 0 0 Q (F0 m 35 ls []) := by
  unfold f_X2_forget_L35_35 at h
  obtain ⟨hx, hb, -⟩ := id X
  refine lv_iload_n hx hb dX2_forget_35 rfl (lv_at hl 1 rfl) ?_
  refine lv_bipush (v := 8) hx hb dX2_forget_36 (by decide) ?_
  refine lv_icmp_ge (tgt := 54) hx hb dX2_forget_38 (by decide) (fun c1 => ?_) (fun c1 => ?_)
  · have h := it_at c1 h
    exact hX _ (Option.some.inj h).symm _ _ _ G (lv_sub hl [0] rfl)
  · have h := if_at c1 h
    refine lv_aload_n hx hb dX2_forget_41 rfl (lv_at hl 0 rfl) ?_
    refine gX_26_8 X K G q_207 dX2_forget_42 ?_
    refine lv_iload_n hx hb dX2_forget_45 rfl (lv_at hl 1 rfl) ?_
    refine lv_iconst (v := 0) hx hb dX2_forget_46 (by decide) ?_
    obtain ⟨g2, h⟩ := ck_at h
    refine aX_32 X K G g2 dX2_forget_47 (fun H locs G => ?_)
    obtain ⟨u3, eu3⟩ : ∃ z : XS, z = sH u0 (hu_toolHours (xH u0) (upd (h_toolHours (xH u0)) v1.toNatClampNeg (0 : Int32))) := ⟨_, rfl⟩
    have G : wg D A s.heap H locs (wX cI cZ cQ ad u3) := by rw [eu3]; exact G
    have h := nm_at eu3 h
    clear eu3
    obtain ⟨x4, ex4⟩ : ∃ z : Int32, z = v1 + (1 : Int32) := ⟨_, rfl⟩
    have h := nm_at ex4 h
    refine lv_iinc (v := x4) (lv' := [(1, .int x4), (0, .ref (ad 26))]) hx hb dX2_forget_48 hl (k := 1) rfl (by rw [ex4]; rfl) (by decide) rfl (fun ls hl => ?_)
    refine lv_goto (tgt := 35) hx hb dX2_forget_51 (by decide) ?_
    exact hB _ _ (Option.some.inj h).symm _ _ _ G (lv_sub hl [1, 0] rfl)
noncomputable def f_X2_forget_L35_35s (q : Int32 × XS) : Option ((Int32 × XS) ⊕ ((Int32 × XS) ⊕ (XS))) := f_X2_forget_L35_35 q.1 q.2
set_option maxRecDepth 100000 in
set_option maxHeartbeats 4000000 in
theorem w_X2_forget_L35_35 (X : cx p s m args meth c cX2_forget 2 RX2 none) (K : kx D cI cZ cQ adK adV A s s.heap) {e0 : (Int32 × XS) ⊕ (XS)} : ∀ (n : Nat) (v1 : Int32) (u : XS) {H : Heap} {locs : List Loc} {ls : Array Slot}, wh f_X2_forget_L35_35s n (v1, u) = some e0 → wg D A s.heap H locs (wX cI cZ cQ ad u) → lv_has ls 2 [(0, .ref (ad 26)), (1, .int v1)] → (∀ (u : XS), e0 = .inr u → ∀ (H : Heap) (locs : List Loc) (ls : Array Slot), wg D A s.heap H locs (wX cI cZ cQ ad u) → lv_has ls 2 [(0, .ref (ad 26))] → W p l e { frames := 0, cells := 0, slots := 0, locals := 0 } s m args below meth c H locs 0 0 Q (F0 m 54 ls [])) → (∀ (r : Int32) (u : XS), e0 = .inl (r, u) → Q = (qV D A (wX cI cZ cQ ad) below args s u)) → W p l e { frames := 0, cells := 0, slots := 0, locals := 0 } s m args below meth c H locs 0 0 Q (F0 m 35 ls []) := by
  intro n
  induction n with
  | zero => intro v1 u H locs ls h; cases h
  | succ n ih =>
    intro v1 u H locs ls h G hl hX hR
    obtain ⟨q, h1, h2, h3⟩ := wh_at h
    exact b_X2_forget_L35_35 X K G hl (show f_X2_forget_L35_35 v1 u = some q from h1) (fun b0 b1 ee H locs ls G hl => ih b0 b1 (h2 _ ee) G hl hX hR) (fun z0 ee => hX z0 (h3 _ ee).symm) (fun r u ee => hR r u (h3 _ ee).symm)
noncomputable def f_X2_forget (u0 : XS) : Option (Int32 × XS) :=
  bne (wl f_X2_forget_L2_2s ((0 : Int32), u0)) (fun a => some a) fun b =>
    nmv b fun u3 =>
    nmv (sH u3 (hu_uses (xH u3) (0 : Int32))) fun u4 =>
    bne (wl f_X2_forget_L35_35s ((0 : Int32), u4)) (fun a => some a) fun b =>
      nmv b fun u7 =>
      nmv (sH u7 (hu_worth (xH u7) (0 : Int32))) fun u8 =>
      nmv (sH u8 (hu_inTime (xH u8) (0 : Int32))) fun u9 =>
      nmv (sH u9 (hu_lastDay (xH u9) (-1 : Int32))) fun u10 =>
      some ((0 : Int32), u10)
set_option maxRecDepth 100000 in
set_option maxHeartbeats 4000000 in
theorem c_X2_forget {u0 : XS} {r : Int32} {u' : XS} (h : f_X2_forget  u0 = some (r, u')) : MV l D cI cZ cQ adK adV A yX2_forget cX2_forget 2 { frames := 0, cells := 0, slots := 0, locals := 0 } [.ref (ad 26)] (wX cI cZ cQ ad) u0 u' := by
  unfold f_X2_forget at h
  refine entV (by decide) (Nat.le_of_ble_eq_true rfl) (fun p e s m below meth c ls X K G hl => ?_)
  have hl : lv_has ls 2 [(0, .ref (ad 26))] := hl
  obtain ⟨hx, hb, -⟩ := id X
  generalize hH : s.heap = H at G
  subst hH
  refine lv_iconst (v := 0) hx hb dX2_forget_0 (by decide) ?_
  refine lv_istore_n (lv' := [(1, .int (0 : Int32)), (0, .ref (ad 26))]) hx hb dX2_forget_1 rfl hl (by decide) rfl (fun ls hl => ?_)
  obtain ⟨q2, hq2, ha, hb1⟩ := bne_at h
  obtain ⟨n1, hn1⟩ := wl_iff.mp hq2
  refine w_X2_forget_L2_2 X K n1 _ _ hn1 G (lv_sub hl [1, 0] rfl) (fun  u3 ee H locs ls G hl => ?_) (fun r u1 ee => by obtain ⟨rfl, rfl⟩ := pair_at (ha _ ee); rfl)
  have h := hb1 _ ee
  clear ee ha hb1 hq2 hn1
  have h := nm_at (x := u3) rfl h
  refine lv_aload_n hx hb dX2_forget_28 rfl (lv_at hl 0 rfl) ?_
  refine lv_iconst (v := 0) hx hb dX2_forget_29 (by decide) ?_
  refine pX_26_6 X K G q_205 dX2_forget_30 (fun H locs G => ?_)
  obtain ⟨u4, eu4⟩ : ∃ z : XS, z = sH u3 (hu_uses (xH u3) (0 : Int32)) := ⟨_, rfl⟩
  have G : wg D A s.heap H locs (wX cI cZ cQ ad u4) := by rw [eu4]; exact G
  have h := nm_at eu4 h
  clear eu4
  refine lv_iconst (v := 0) hx hb dX2_forget_33 (by decide) ?_
  refine lv_istore_n (lv' := [(1, .int (0 : Int32)), (0, .ref (ad 26))]) hx hb dX2_forget_34 rfl hl (by decide) rfl (fun ls hl => ?_)
  obtain ⟨q6, hq6, ha, hb1⟩ := bne_at h
  obtain ⟨n5, hn5⟩ := wl_iff.mp hq6
  refine w_X2_forget_L35_35 X K n5 _ _ hn5 G (lv_sub hl [1, 0] rfl) (fun  u7 ee H locs ls G hl => ?_) (fun r u1 ee => by obtain ⟨rfl, rfl⟩ := pair_at (ha _ ee); rfl)
  have h := hb1 _ ee
  clear ee ha hb1 hq6 hn5
  have h := nm_at (x := u7) rfl h
  refine lv_aload_n hx hb dX2_forget_54 rfl (lv_at hl 0 rfl) ?_
  refine lv_iconst (v := 0) hx hb dX2_forget_55 (by decide) ?_
  refine pX_26_9 X K G q_209 dX2_forget_56 (fun H locs G => ?_)
  obtain ⟨u8, eu8⟩ : ∃ z : XS, z = sH u7 (hu_worth (xH u7) (0 : Int32)) := ⟨_, rfl⟩
  have G : wg D A s.heap H locs (wX cI cZ cQ ad u8) := by rw [eu8]; exact G
  have h := nm_at eu8 h
  clear eu8
  refine lv_aload_n hx hb dX2_forget_59 rfl (lv_at hl 0 rfl) ?_
  refine lv_iconst (v := 0) hx hb dX2_forget_60 (by decide) ?_
  refine pX_26_10 X K G q_211 dX2_forget_61 (fun H locs G => ?_)
  obtain ⟨u9, eu9⟩ : ∃ z : XS, z = sH u8 (hu_inTime (xH u8) (0 : Int32)) := ⟨_, rfl⟩
  have G : wg D A s.heap H locs (wX cI cZ cQ ad u9) := by rw [eu9]; exact G
  have h := nm_at eu9 h
  clear eu9
  refine lv_aload_n hx hb dX2_forget_64 rfl (lv_at hl 0 rfl) ?_
  refine lv_iconst (v := -1) hx hb dX2_forget_65 (by decide) ?_
  refine pX_26_11 X K G q_213 dX2_forget_66 (fun H locs G => ?_)
  obtain ⟨u10, eu10⟩ : ∃ z : XS, z = sH u9 (hu_lastDay (xH u9) (-1 : Int32)) := ⟨_, rfl⟩
  have G : wg D A s.heap H locs (wX cI cZ cQ ad u10) := by rw [eu10]; exact G
  have h := nm_at eu10 h
  clear eu10
  obtain ⟨rfl, rfl⟩ := pair_at h
  exact reV X G dX2_forget_69
noncomputable def f_X2_placeOf (a1 : Int32) (a2 : Int32) (a3 : Int32) (a4 : Int32) (u0 : XS) : Option (Int32 × XS) :=
  bnd (f_X5_stepNumber a1 a2 (0 : Int32) u0) fun r1 u2 =>
  nmv ((a3 * (8 : Int32)) + a2) fun x3 =>
  if x3 < 0 ∨ 480 ≤ x3.toNatClampNeg then none else
  some (((r1 * (400 : Int32)) + ((h_plotted (xH u2)) x3.toNatClampNeg)) + a4, u2)
set_option maxRecDepth 100000 in
set_option maxHeartbeats 4000000 in
theorem c_X2_placeOf {a1 : Int32} {a2 : Int32} {a3 : Int32} {a4 : Int32} {u0 : XS} {r : Int32} {u' : XS} (h : f_X2_placeOf a1 a2 a3 a4 u0 = some (r, u')) : MI l D cI cZ cQ adK adV A yX2_placeOf cX2_placeOf 5 (some .int) { frames := 1, cells := 0, slots := 0, locals := 23 } [.ref (ad 26), .int a1, .int a2, .int a3, .int a4] (wX cI cZ cQ ad) u0 r u' := by
  unfold f_X2_placeOf at h
  refine entI (by decide) (Nat.le_of_ble_eq_true rfl) (fun p e s m below meth c ls X K G hl => ?_)
  have hl : lv_has ls 5 [(0, .ref (ad 26)), (1, .int a1), (2, .int a2), (3, .int a3), (4, .int a4)] := hl
  obtain ⟨hx, hb, -⟩ := id X
  generalize hH : s.heap = H at G
  subst hH
  refine lv_aload_n hx hb dX2_placeOf_0 rfl (lv_at hl 0 rfl) ?_
  refine gX_26_0 X K G q_199 dX2_placeOf_1 ?_
  refine lv_iload_n hx hb dX2_placeOf_4 rfl (lv_at hl 1 rfl) ?_
  refine lv_iload_n hx hb dX2_placeOf_5 rfl (lv_at hl 2 rfl) ?_
  refine lv_iconst (v := 0) hx hb dX2_placeOf_6 (by decide) ?_
  obtain ⟨r1, u2, er1, h⟩ := bnd_at h
  refine cvI (rest := []) X K G (c_X5_stepNumber er1) q_715 my_X5_stepNumber ⟨rfl, rfl⟩ ⟨Nat.le_of_ble_eq_true rfl, Nat.le_of_ble_eq_true rfl⟩ ⟨Nat.zero_le _, Nat.zero_le _⟩ 1 5 rfl rfl rfl rfl hl.1 rfl (Nat.le_of_ble_eq_true rfl) dX2_placeOf_7 (fun H locs G => ?_)
  clear er1
  refine lv_sipush (v := 400) hx hb dX2_placeOf_10 (by decide) ?_
  refine lv_imul hx hb dX2_placeOf_13 ?_
  refine lv_aload_n hx hb dX2_placeOf_14 rfl (lv_at hl 0 rfl) ?_
  refine gX_26_3 X K G q_202 dX2_placeOf_15 ?_
  refine lv_iload_n hx hb dX2_placeOf_18 rfl (lv_at hl 3 rfl) ?_
  refine lv_bipush (v := 8) hx hb dX2_placeOf_19 (by decide) ?_
  refine lv_imul hx hb dX2_placeOf_21 ?_
  refine lv_iload_n hx hb dX2_placeOf_22 rfl (lv_at hl 2 rfl) ?_
  refine lv_iadd hx hb dX2_placeOf_23 ?_
  refine lv_topi (fun x3 ex3 => ?_)
  have h := nm_at ex3 h
  obtain ⟨g4, h⟩ := ck_at h
  refine lX_28 X K G g4 dX2_placeOf_24 ?_
  refine lv_iadd hx hb dX2_placeOf_25 ?_
  refine lv_iload hx hb dX2_placeOf_26 (lv_at hl 4 rfl) ?_
  refine lv_iadd hx hb dX2_placeOf_28 ?_
  obtain ⟨rfl, rfl⟩ := pair_at h
  exact reI X G dX2_placeOf_29
noncomputable def f_X2_hasHours_L53_53 (v2 : Int32) (v3 : Int32) (v4 : Int32) (v5 : Int32) (v6 : Int32) (v7 : Int32) (v8 : Int32) (u0 : XS) : Option ((Int32 × Int32 × Int32 × Int32 × Int32 × Int32 × Int32 × XS) ⊕ ((Int32 × XS) ⊕ (Int32 × Int32 × Int32 × Int32 × Int32 × XS))) :=
  (if v5 < v8 then
    some (.inr (.inr (v2, v3, v4, v5, v7, u0)))
  else
    bnd (f_X2_placeOf v4 v8 v2 v3 u0) fun r2 u3 =>
    (if r2 = v6 then
      bnd (f_X5_stepNumber v4 v8 (1 : Int32) u3) fun r6 u7 =>
      nmv (v7 + r6) fun x8 =>
      nmv (v8 + (1 : Int32)) fun x9 =>
      some (.inl (v2, v3, v4, v5, v6, x8, x9, u7))
    else
      nmv (v8 + (1 : Int32)) fun x5 =>
      some (.inl (v2, v3, v4, v5, v6, v7, x5, u3))))
set_option maxRecDepth 100000 in
set_option maxHeartbeats 4000000 in
theorem b_X2_hasHours_L53_53 (X : cx p s m args meth c cX2_hasHours 9 RX2 (some .boolean)) (K : kx D cI cZ cQ adK adV A s s.heap) {v2 : Int32} {v3 : Int32} {v4 : Int32} {v5 : Int32} {v6 : Int32} {v7 : Int32} {v8 : Int32} {u0 : XS} (G : wg D A s.heap H locs (wX cI cZ cQ ad u0)) (hl : lv_has ls 9 [(0, .ref (ad 26)), (2, .int v2), (3, .int v3), (4, .int v4), (5, .int v5), (6, .int v6), (7, .int v7), (8, .int v8)]) {q : ((Int32 × Int32 × Int32 × Int32 × Int32 × Int32 × Int32 × XS) ⊕ ((Int32 × XS) ⊕ (Int32 × Int32 × Int32 × Int32 × Int32 × XS)))} (h : f_X2_hasHours_L53_53 v2 v3 v4 v5 v6 v7 v8 u0 = some q) (hB : ∀ (v2 : Int32) (v3 : Int32) (v4 : Int32) (v5 : Int32) (v6 : Int32) (v7 : Int32) (v8 : Int32) (u : XS), q = .inl (v2, v3, v4, v5, v6, v7, v8, u) → ∀ (H : Heap) (locs : List Loc) (ls : Array Slot), wg D A s.heap H locs (wX cI cZ cQ ad u) → lv_has ls 9 [(0, .ref (ad 26)), (2, .int v2), (3, .int v3), (4, .int v4), (5, .int v5), (6, .int v6), (7, .int v7), (8, .int v8)] → W p l e { frames := 2, cells := 0, slots := 0, locals := 47 } s m args below meth c H locs 0 0 Q (F0 m 53 ls [])) (hX : ∀ (v2 : Int32) (v3 : Int32) (v4 : Int32) (v5 : Int32) (v7 : Int32) (u : XS), q = .inr (.inr (v2, v3, v4, v5, v7, u)) → ∀ (H : Heap) (locs : List Loc) (ls : Array Slot), wg D A s.heap H locs (wX cI cZ cQ ad u) → lv_has ls 9 [(0, .ref (ad 26)), (2, .int v2), (3, .int v3), (4, .int v4), (5, .int v5), (7, .int v7)] → W p l e { frames := 2, cells := 0, slots := 0, locals := 47 } s m args below meth c H locs 0 0 Q (F0 m 98 ls [])) (hR : ∀ (r : Int32) (u : XS), q = .inr (.inl (r, u)) → Q = (qI D A (wX cI cZ cQ ad) below args s r u)) : W p l e { frames := 2, cells := 0, slots := 0, locals := 47 } s m args below meth c H locs 0 0 Q (F0 m 53 ls []) := by
  unfold f_X2_hasHours_L53_53 at h
  obtain ⟨hx, hb, -⟩ := id X
  refine lv_iload hx hb dX2_hasHours_53 (lv_at hl 7 rfl) ?_
  refine lv_iload hx hb dX2_hasHours_55 (lv_at hl 4 rfl) ?_
  refine lv_icmp_gt (tgt := 98) hx hb dX2_hasHours_57 (by decide) (fun c1 => ?_) (fun c1 => ?_)
  · have h := it_at c1 h
    exact hX _ _ _ _ _ _ (Option.some.inj h).symm _ _ _ G (lv_sub hl [0, 1, 2, 3, 4, 6] rfl)
  · have h := if_at c1 h
    refine lv_aload_n hx hb dX2_hasHours_60 rfl (lv_at hl 0 rfl) ?_
    refine lv_iload hx hb dX2_hasHours_61 (lv_at hl 3 rfl) ?_
    refine lv_iload hx hb dX2_hasHours_63 (lv_at hl 7 rfl) ?_
    refine lv_iload_n hx hb dX2_hasHours_65 rfl (lv_at hl 1 rfl) ?_
    refine lv_iload_n hx hb dX2_hasHours_66 rfl (lv_at hl 2 rfl) ?_
    obtain ⟨r2, u3, er2, h⟩ := bnd_at h
    refine cvI (rest := []) X K G (c_X2_placeOf er2) q_711 my_X2_placeOf ⟨rfl, rfl⟩ ⟨Nat.le_of_ble_eq_true rfl, Nat.le_of_ble_eq_true rfl⟩ ⟨Nat.zero_le _, Nat.zero_le _⟩ 26 2 rfl rfl rfl rfl hl.1 rfl (Nat.le_of_ble_eq_true rfl) dX2_hasHours_67 (fun H locs G => ?_)
    clear er2
    refine lv_iload hx hb dX2_hasHours_70 (lv_at hl 5 rfl) ?_
    refine lv_icmp_ne (tgt := 92) hx hb dX2_hasHours_72 (by decide) (fun c4 => ?_) (fun c4 => ?_)
    · have h := if_at c4 h
      obtain ⟨x5, ex5⟩ : ∃ z : Int32, z = v8 + (1 : Int32) := ⟨_, rfl⟩
      have h := nm_at ex5 h
      refine lv_iinc (v := x5) (lv' := [(8, .int x5), (0, .ref (ad 26)), (2, .int v2), (3, .int v3), (4, .int v4), (5, .int v5), (6, .int v6), (7, .int v7)]) hx hb dX2_hasHours_92 hl (k := 7) rfl (by rw [ex5]; rfl) (by decide) rfl (fun ls hl => ?_)
      refine lv_goto (tgt := 53) hx hb dX2_hasHours_95 (by decide) ?_
      exact hB _ _ _ _ _ _ _ _ (Option.some.inj h).symm _ _ _ G (lv_sub hl [1, 2, 3, 4, 5, 6, 7, 0] rfl)
    · have h := it_at c4 h
      refine lv_iload hx hb dX2_hasHours_75 (lv_at hl 6 rfl) ?_
      refine lv_aload_n hx hb dX2_hasHours_77 rfl (lv_at hl 0 rfl) ?_
      refine gX_26_0 X K G q_199 dX2_hasHours_78 ?_
      refine lv_iload hx hb dX2_hasHours_81 (lv_at hl 3 rfl) ?_
      refine lv_iload hx hb dX2_hasHours_83 (lv_at hl 7 rfl) ?_
      refine lv_iconst (v := 1) hx hb dX2_hasHours_85 (by decide) ?_
      obtain ⟨r6, u7, er6, h⟩ := bnd_at h
      refine cvI (rest := [.int v7]) X K G (c_X5_stepNumber er6) q_715 my_X5_stepNumber ⟨rfl, rfl⟩ ⟨Nat.le_of_ble_eq_true rfl, Nat.le_of_ble_eq_true rfl⟩ ⟨Nat.zero_le _, Nat.zero_le _⟩ 1 5 rfl rfl rfl rfl hl.1 rfl (Nat.le_of_ble_eq_true rfl) dX2_hasHours_86 (fun H locs G => ?_)
      clear er6
      refine lv_iadd hx hb dX2_hasHours_89 ?_
      refine lv_topi (fun x8 ex8 => ?_)
      have h := nm_at ex8 h
      refine lv_istore (lv' := [(7, .int x8), (0, .ref (ad 26)), (2, .int v2), (3, .int v3), (4, .int v4), (5, .int v5), (6, .int v6), (8, .int v8)]) hx hb dX2_hasHours_90 hl (by decide) rfl (fun ls hl => ?_)
      obtain ⟨x9, ex9⟩ : ∃ z : Int32, z = v8 + (1 : Int32) := ⟨_, rfl⟩
      have h := nm_at ex9 h
      refine lv_iinc (v := x9) (lv' := [(8, .int x9), (7, .int x8), (0, .ref (ad 26)), (2, .int v2), (3, .int v3), (4, .int v4), (5, .int v5), (6, .int v6)]) hx hb dX2_hasHours_92 hl (k := 7) rfl (by rw [ex9]; rfl) (by decide) rfl (fun ls hl => ?_)
      refine lv_goto (tgt := 53) hx hb dX2_hasHours_95 (by decide) ?_
      exact hB _ _ _ _ _ _ _ _ (Option.some.inj h).symm _ _ _ G (lv_sub hl [2, 3, 4, 5, 6, 7, 1, 0] rfl)
noncomputable def f_X2_hasHours_L53_53s (q : Int32 × Int32 × Int32 × Int32 × Int32 × Int32 × Int32 × XS) : Option ((Int32 × Int32 × Int32 × Int32 × Int32 × Int32 × Int32 × XS) ⊕ ((Int32 × XS) ⊕ (Int32 × Int32 × Int32 × Int32 × Int32 × XS))) := f_X2_hasHours_L53_53 q.1 q.2.1 q.2.2.1 q.2.2.2.1 q.2.2.2.2.1 q.2.2.2.2.2.1 q.2.2.2.2.2.2.1 q.2.2.2.2.2.2.2
set_option maxRecDepth 100000 in
set_option maxHeartbeats 4000000 in
theorem w_X2_hasHours_L53_53 (X : cx p s m args meth c cX2_hasHours 9 RX2 (some .boolean)) (K : kx D cI cZ cQ adK adV A s s.heap) {e0 : (Int32 × XS) ⊕ (Int32 × Int32 × Int32 × Int32 × Int32 × XS)} : ∀ (n : Nat) (v2 : Int32) (v3 : Int32) (v4 : Int32) (v5 : Int32) (v6 : Int32) (v7 : Int32) (v8 : Int32) (u : XS) {H : Heap} {locs : List Loc} {ls : Array Slot}, wh f_X2_hasHours_L53_53s n (v2, v3, v4, v5, v6, v7, v8, u) = some e0 → wg D A s.heap H locs (wX cI cZ cQ ad u) → lv_has ls 9 [(0, .ref (ad 26)), (2, .int v2), (3, .int v3), (4, .int v4), (5, .int v5), (6, .int v6), (7, .int v7), (8, .int v8)] → (∀ (v2 : Int32) (v3 : Int32) (v4 : Int32) (v5 : Int32) (v7 : Int32) (u : XS), e0 = .inr (v2, v3, v4, v5, v7, u) → ∀ (H : Heap) (locs : List Loc) (ls : Array Slot), wg D A s.heap H locs (wX cI cZ cQ ad u) → lv_has ls 9 [(0, .ref (ad 26)), (2, .int v2), (3, .int v3), (4, .int v4), (5, .int v5), (7, .int v7)] → W p l e { frames := 2, cells := 0, slots := 0, locals := 47 } s m args below meth c H locs 0 0 Q (F0 m 98 ls [])) → (∀ (r : Int32) (u : XS), e0 = .inl (r, u) → Q = (qI D A (wX cI cZ cQ ad) below args s r u)) → W p l e { frames := 2, cells := 0, slots := 0, locals := 47 } s m args below meth c H locs 0 0 Q (F0 m 53 ls []) := by
  intro n
  induction n with
  | zero => intro v2 v3 v4 v5 v6 v7 v8 u H locs ls h; cases h
  | succ n ih =>
    intro v2 v3 v4 v5 v6 v7 v8 u H locs ls h G hl hX hR
    obtain ⟨q, h1, h2, h3⟩ := wh_at h
    exact b_X2_hasHours_L53_53 X K G hl (show f_X2_hasHours_L53_53 v2 v3 v4 v5 v6 v7 v8 u = some q from h1) (fun b0 b1 b2 b3 b4 b5 b6 b7 ee H locs ls G hl => ih b0 b1 b2 b3 b4 b5 b6 b7 (h2 _ ee) G hl hX hR) (fun z0 z1 z2 z3 z4 z5 ee => hX z0 z1 z2 z3 z4 z5 (h3 _ ee).symm) (fun r u ee => hR r u (h3 _ ee).symm)
noncomputable def f_X2_hasHours_L14_14 (v2 : Int32) (v3 : Int32) (v4 : Int32) (v5 : Int32) (u0 : XS) : Option ((Int32 × Int32 × Int32 × Int32 × XS) ⊕ ((Int32 × XS) ⊕ (XS))) :=
  if v4 < 0 ∨ 8 ≤ v4.toNatClampNeg then none else
  (if ((tCounts (xT u0)) v4.toNatClampNeg) ≤ v5 then
    some (.inr (.inr u0))
  else
    bnd (f_X2_placeOf v4 v5 v2 v3 u0) fun r3 u4 =>
    if r3 < 0 ∨ 3200 ≤ r3.toNatClampNeg then none else
    nmv ((h_hoursOn (xH u4)) r3.toNatClampNeg) fun x6 =>
    bne (wl f_X2_hasHours_L53_53s (v2, v3, v4, v5, r3, x6, (0 : Int32), u4)) (fun a => some (.inr (.inl a))) fun b =>
      nmv b.1 fun y10 =>
      nmv b.2.1 fun y11 =>
      nmv b.2.2.1 fun y12 =>
      nmv b.2.2.2.1 fun y13 =>
      nmv b.2.2.2.2.1 fun y14 =>
      nmv b.2.2.2.2.2 fun u9 =>
      (if y14 ≤ (8 : Int32) then
        nmv (y13 + (1 : Int32)) fun x16 =>
        some (.inl (y10, y11, y12, x16, u9))
      else
        some (.inr (.inl ((0 : Int32), u9)))))
set_option maxRecDepth 100000 in
set_option maxHeartbeats 4000000 in
theorem b_X2_hasHours_L14_14 (X : cx p s m args meth c cX2_hasHours 9 RX2 (some .boolean)) (K : kx D cI cZ cQ adK adV A s s.heap) {v2 : Int32} {v3 : Int32} {v4 : Int32} {v5 : Int32} {u0 : XS} (G : wg D A s.heap H locs (wX cI cZ cQ ad u0)) (hl : lv_has ls 9 [(0, .ref (ad 26)), (2, .int v2), (3, .int v3), (4, .int v4), (5, .int v5)]) {q : ((Int32 × Int32 × Int32 × Int32 × XS) ⊕ ((Int32 × XS) ⊕ (XS)))} (h : f_X2_hasHours_L14_14 v2 v3 v4 v5 u0 = some q) (hB : ∀ (v2 : Int32) (v3 : Int32) (v4 : Int32) (v5 : Int32) (u : XS), q = .inl (v2, v3, v4, v5, u) → ∀ (H : Heap) (locs : List Loc) (ls : Array Slot), wg D A s.heap H locs (wX cI cZ cQ ad u) → lv_has ls 9 [(0, .ref (ad 26)), (2, .int v2), (3, .int v3), (4, .int v4), (5, .int v5)] → W p l e { frames := 2, cells := 0, slots := 0, locals := 47 } s m args below meth c H locs 0 0 Q (F0 m 14 ls [])) (hX : ∀ (u : XS), q = .inr (.inr u) → ∀ (H : Heap) (locs : List Loc) (ls : Array Slot), wg D A s.heap H locs (wX cI cZ cQ ad u) → lv_has ls 9 [] → W p l e { frames := 2, cells := 0, slots := 0, locals := 47 } s m args below meth c H locs 0 0 Q (F0 m 113 ls [])) (hR : ∀ (r : Int32) (u : XS), q = .inr (.inl (r, u)) → Q = (qI D A (wX cI cZ cQ ad) below args s r u)) : W p l e { frames := 2, cells := 0, slots := 0, locals := 47 } s m args below meth c H locs 0 0 Q (F0 m 14 ls []) := by
  unfold f_X2_hasHours_L14_14 at h
  obtain ⟨hx, hb, -⟩ := id X
  refine lv_iload hx hb dX2_hasHours_14 (lv_at hl 4 rfl) ?_
  refine lv_aload_n hx hb dX2_hasHours_16 rfl (lv_at hl 0 rfl) ?_
  refine gX_26_0 X K G q_199 dX2_hasHours_17 ?_
  refine gX_1_8 X K G q_130 dX2_hasHours_20 ?_
  refine lv_iload hx hb dX2_hasHours_23 (lv_at hl 3 rfl) ?_
  obtain ⟨g1, h⟩ := ck_at h
  refine lX_4 X K G g1 dX2_hasHours_25 ?_
  refine lv_icmp_ge (tgt := 113) hx hb dX2_hasHours_26 (by decide) (fun c2 => ?_) (fun c2 => ?_)
  · have h := it_at c2 h
    exact hX _ (Option.some.inj h).symm _ _ _ G (lv_sub hl [] rfl)
  · have h := if_at c2 h
    refine lv_aload_n hx hb dX2_hasHours_29 rfl (lv_at hl 0 rfl) ?_
    refine lv_iload hx hb dX2_hasHours_30 (lv_at hl 3 rfl) ?_
    refine lv_iload hx hb dX2_hasHours_32 (lv_at hl 4 rfl) ?_
    refine lv_iload_n hx hb dX2_hasHours_34 rfl (lv_at hl 1 rfl) ?_
    refine lv_iload_n hx hb dX2_hasHours_35 rfl (lv_at hl 2 rfl) ?_
    obtain ⟨r3, u4, er3, h⟩ := bnd_at h
    refine cvI (rest := []) X K G (c_X2_placeOf er3) q_711 my_X2_placeOf ⟨rfl, rfl⟩ ⟨Nat.le_of_ble_eq_true rfl, Nat.le_of_ble_eq_true rfl⟩ ⟨Nat.zero_le _, Nat.zero_le _⟩ 26 2 rfl rfl rfl rfl hl.1 rfl (Nat.le_of_ble_eq_true rfl) dX2_hasHours_36 (fun H locs G => ?_)
    clear er3
    refine lv_istore (lv' := [(6, .int r3), (0, .ref (ad 26)), (2, .int v2), (3, .int v3), (4, .int v4), (5, .int v5)]) hx hb dX2_hasHours_39 hl (by decide) rfl (fun ls hl => ?_)
    refine lv_aload_n hx hb dX2_hasHours_41 rfl (lv_at hl 1 rfl) ?_
    refine gX_26_4 X K G q_203 dX2_hasHours_42 ?_
    refine lv_iload hx hb dX2_hasHours_45 (lv_at hl 0 rfl) ?_
    obtain ⟨g5, h⟩ := ck_at h
    refine lX_29 X K G g5 dX2_hasHours_47 ?_
    refine lv_topi (fun x6 ex6 => ?_)
    have h := nm_at ex6 h
    refine lv_istore (lv' := [(7, .int x6), (6, .int r3), (0, .ref (ad 26)), (2, .int v2), (3, .int v3), (4, .int v4), (5, .int v5)]) hx hb dX2_hasHours_48 hl (by decide) rfl (fun ls hl => ?_)
    refine lv_iconst (v := 0) hx hb dX2_hasHours_50 (by decide) ?_
    refine lv_istore (lv' := [(8, .int (0 : Int32)), (7, .int x6), (6, .int r3), (0, .ref (ad 26)), (2, .int v2), (3, .int v3), (4, .int v4), (5, .int v5)]) hx hb dX2_hasHours_51 hl (by decide) rfl (fun ls hl => ?_)
    obtain ⟨q8, hq8, ha, hb1⟩ := bne_at h
    obtain ⟨n7, hn7⟩ := wl_iff.mp hq8
    refine w_X2_hasHours_L53_53 X K n7 _ _ _ _ _ _ _ _ hn7 G (lv_sub hl [3, 4, 5, 6, 7, 2, 1, 0] rfl) (fun y10 y11 y12 y13 y14 u9 ee H locs ls G hl => ?_) (fun r u1 ee => hR _ _ (Option.some.inj (ha _ ee)).symm)
    have h := hb1 _ ee
    clear ee ha hb1 hq8 hn7
    have h := nm_at (x := y10) rfl h
    have h := nm_at (x := y11) rfl h
    have h := nm_at (x := y12) rfl h
    have h := nm_at (x := y13) rfl h
    have h := nm_at (x := y14) rfl h
    have h := nm_at (x := u9) rfl h
    refine lv_iload hx hb dX2_hasHours_98 (lv_at hl 5 rfl) ?_
    refine lv_bipush (v := 8) hx hb dX2_hasHours_100 (by decide) ?_
    refine lv_icmp_le (tgt := 107) hx hb dX2_hasHours_102 (by decide) (fun c15 => ?_) (fun c15 => ?_)
    · have h := it_at c15 h
      obtain ⟨x16, ex16⟩ : ∃ z : Int32, z = y13 + (1 : Int32) := ⟨_, rfl⟩
      have h := nm_at ex16 h
      refine lv_iinc (v := x16) (lv' := [(5, .int x16), (0, .ref (ad 26)), (2, .int y10), (3, .int y11), (4, .int y12), (7, .int y14)]) hx hb dX2_hasHours_107 hl (k := 4) rfl (by rw [ex16]; rfl) (by decide) rfl (fun ls hl => ?_)
      refine lv_goto (tgt := 14) hx hb dX2_hasHours_110 (by decide) ?_
      exact hB _ _ _ _ _ (Option.some.inj h).symm _ _ _ G (lv_sub hl [1, 2, 3, 4, 0] rfl)
    · have h := if_at c15 h
      refine lv_iconst (v := 0) hx hb dX2_hasHours_105 (by decide) ?_
      rw [hR _ _ (Option.some.inj h).symm]
      exact reZ X G (Or.inl rfl) dX2_hasHours_106
noncomputable def f_X2_hasHours_L14_14s (q : Int32 × Int32 × Int32 × Int32 × XS) : Option ((Int32 × Int32 × Int32 × Int32 × XS) ⊕ ((Int32 × XS) ⊕ (XS))) := f_X2_hasHours_L14_14 q.1 q.2.1 q.2.2.1 q.2.2.2.1 q.2.2.2.2
set_option maxRecDepth 100000 in
set_option maxHeartbeats 4000000 in
theorem w_X2_hasHours_L14_14 (X : cx p s m args meth c cX2_hasHours 9 RX2 (some .boolean)) (K : kx D cI cZ cQ adK adV A s s.heap) {e0 : (Int32 × XS) ⊕ (XS)} : ∀ (n : Nat) (v2 : Int32) (v3 : Int32) (v4 : Int32) (v5 : Int32) (u : XS) {H : Heap} {locs : List Loc} {ls : Array Slot}, wh f_X2_hasHours_L14_14s n (v2, v3, v4, v5, u) = some e0 → wg D A s.heap H locs (wX cI cZ cQ ad u) → lv_has ls 9 [(0, .ref (ad 26)), (2, .int v2), (3, .int v3), (4, .int v4), (5, .int v5)] → (∀ (u : XS), e0 = .inr u → ∀ (H : Heap) (locs : List Loc) (ls : Array Slot), wg D A s.heap H locs (wX cI cZ cQ ad u) → lv_has ls 9 [] → W p l e { frames := 2, cells := 0, slots := 0, locals := 47 } s m args below meth c H locs 0 0 Q (F0 m 113 ls [])) → (∀ (r : Int32) (u : XS), e0 = .inl (r, u) → Q = (qI D A (wX cI cZ cQ ad) below args s r u)) → W p l e { frames := 2, cells := 0, slots := 0, locals := 47 } s m args below meth c H locs 0 0 Q (F0 m 14 ls []) := by
  intro n
  induction n with
  | zero => intro v2 v3 v4 v5 u H locs ls h; cases h
  | succ n ih =>
    intro v2 v3 v4 v5 u H locs ls h G hl hX hR
    obtain ⟨q, h1, h2, h3⟩ := wh_at h
    exact b_X2_hasHours_L14_14 X K G hl (show f_X2_hasHours_L14_14 v2 v3 v4 v5 u = some q from h1) (fun b0 b1 b2 b3 b4 ee H locs ls G hl => ih b0 b1 b2 b3 b4 (h2 _ ee) G hl hX hR) (fun z0 ee => hX z0 (h3 _ ee).symm) (fun r u ee => hR r u (h3 _ ee).symm)
noncomputable def f_X2_hasHours (a1 : Int32) (a2 : Int32) (a3 : Int32) (u0 : XS) : Option (Int32 × XS) :=
  bnd (f_X5_orderNumber a1 (0 : Int32) u0) fun r1 u2 =>
  bne (wl f_X2_hasHours_L14_14s (a2, a3, r1, (0 : Int32), u2)) (fun a => some a) fun b =>
    nmv b fun u5 =>
    some ((1 : Int32), u5)
set_option maxRecDepth 100000 in
set_option maxHeartbeats 4000000 in
theorem c_X2_hasHours {a1 : Int32} {a2 : Int32} {a3 : Int32} {u0 : XS} {r : Int32} {u' : XS} (h : f_X2_hasHours a1 a2 a3 u0 = some (r, u')) : MI l D cI cZ cQ adK adV A yX2_hasHours cX2_hasHours 9 (some .boolean) { frames := 2, cells := 0, slots := 0, locals := 47 } [.ref (ad 26), .int a1, .int a2, .int a3] (wX cI cZ cQ ad) u0 r u' := by
  unfold f_X2_hasHours at h
  refine entI (by decide) (Nat.le_of_ble_eq_true rfl) (fun p e s m below meth c ls X K G hl => ?_)
  have hl : lv_has ls 9 [(0, .ref (ad 26)), (1, .int a1), (2, .int a2), (3, .int a3)] := hl
  obtain ⟨hx, hb, -⟩ := id X
  generalize hH : s.heap = H at G
  subst hH
  refine lv_aload_n hx hb dX2_hasHours_0 rfl (lv_at hl 0 rfl) ?_
  refine gX_26_0 X K G q_199 dX2_hasHours_1 ?_
  refine lv_iload_n hx hb dX2_hasHours_4 rfl (lv_at hl 1 rfl) ?_
  refine lv_iconst (v := 0) hx hb dX2_hasHours_5 (by decide) ?_
  obtain ⟨r1, u2, er1, h⟩ := bnd_at h
  refine cvI (rest := []) X K G (c_X5_orderNumber er1) q_704 my_X5_orderNumber ⟨rfl, rfl⟩ ⟨Nat.le_of_ble_eq_true rfl, Nat.le_of_ble_eq_true rfl⟩ ⟨Nat.zero_le _, Nat.zero_le _⟩ 1 5 rfl rfl rfl rfl hl.1 rfl (Nat.le_of_ble_eq_true rfl) dX2_hasHours_6 (fun H locs G => ?_)
  clear er1
  refine lv_istore (lv' := [(4, .int r1), (0, .ref (ad 26)), (1, .int a1), (2, .int a2), (3, .int a3)]) hx hb dX2_hasHours_9 hl (by decide) rfl (fun ls hl => ?_)
  refine lv_iconst (v := 0) hx hb dX2_hasHours_11 (by decide) ?_
  refine lv_istore (lv' := [(5, .int (0 : Int32)), (4, .int r1), (0, .ref (ad 26)), (1, .int a1), (2, .int a2), (3, .int a3)]) hx hb dX2_hasHours_12 hl (by decide) rfl (fun ls hl => ?_)
  obtain ⟨q4, hq4, ha, hb1⟩ := bne_at h
  obtain ⟨n3, hn3⟩ := wl_iff.mp hq4
  refine w_X2_hasHours_L14_14 X K n3 _ _ _ _ _ hn3 G (lv_sub hl [2, 4, 5, 1, 0] rfl) (fun  u5 ee H locs ls G hl => ?_) (fun r u1 ee => by obtain ⟨rfl, rfl⟩ := pair_at (ha _ ee); rfl)
  have h := hb1 _ ee
  clear ee ha hb1 hq4 hn3
  have h := nm_at (x := u5) rfl h
  refine lv_iconst (v := 1) hx hb dX2_hasHours_113 (by decide) ?_
  obtain ⟨rfl, rfl⟩ := pair_at h
  exact reZ X G (Or.inr rfl) dX2_hasHours_114
noncomputable def f_X2_plotRuns_L29_65 (v1 : Int32) (v2 : Int32) (v3 : Int32) (v4 : Int32) (k0 : Int32) (u0 : XS) : Option ((Int32 × Int32 × Int32 × XS) ⊕ ((Int32 × XS) ⊕ (Int32 × XS))) :=
  if (0 : Int32) < 0 ∨ (v4 * (8 : Int32)) < 0 ∨ (8 : Int32) < 0 ∨ 8 < (0 : Int32).toNatClampNeg + (8 : Int32).toNatClampNeg ∨ 480 < (v4 * (8 : Int32)).toNatClampNeg + (8 : Int32).toNatClampNeg then none else
  nmv (sH u0 (hu_plotted (xH u0) (va_cpy (xL u0) (h_plotted (xH u0)) (0 : Int32).toNatClampNeg (v4 * (8 : Int32)).toNatClampNeg (8 : Int32).toNatClampNeg))) fun u2 =>
  (if k0 = 0 then
    bnd (f_X2_hasHours v1 v4 (0 : Int32) u2) fun r7 u8 =>
    (if r7 = 0 then
      if v4 < 0 ∨ 60 ≤ v4.toNatClampNeg then none else
      nmv (sH u8 (hu_isGood (xH u8) (upd (h_isGood (xH u8)) v4.toNatClampNeg (0 : Int32)))) fun u11 =>
      nmv (v3 + (1 : Int32)) fun x12 =>
      some (.inl (v1, v2, x12, u11))
    else
      if v4 < 0 ∨ 60 ≤ v4.toNatClampNeg then none else
      nmv (sH u8 (hu_isGood (xH u8) (upd (h_isGood (xH u8)) v4.toNatClampNeg (1 : Int32)))) fun u14 =>
      nmv (v3 + (1 : Int32)) fun x15 =>
      some (.inl (v1, v2, x15, u14)))
  else
    if v4 < 0 ∨ 60 ≤ v4.toNatClampNeg then none else
    nmv (sH u2 (hu_isGood (xH u2) (upd (h_isGood (xH u2)) v4.toNatClampNeg (0 : Int32)))) fun u5 =>
    nmv (v3 + (1 : Int32)) fun x6 =>
    some (.inl (v1, v2, x6, u5)))
set_option maxRecDepth 100000 in
set_option maxHeartbeats 4000000 in
theorem b_X2_plotRuns_L29_65 (X : cx p s m args meth c cX2_plotRuns 6 RX2 none) (K : kx D cI cZ cQ adK adV A s s.heap) {v1 : Int32} {v2 : Int32} {v3 : Int32} {v4 : Int32} {k0 : Int32} {u0 : XS} (G : wg D A s.heap H locs (wX cI cZ cQ ad u0)) (hl : lv_has ls 6 [(0, .ref (ad 26)), (1, .int v1), (2, .int v2), (3, .int v3), (4, .int v4)]) {q : ((Int32 × Int32 × Int32 × XS) ⊕ ((Int32 × XS) ⊕ (Int32 × XS)))} (h : f_X2_plotRuns_L29_65 v1 v2 v3 v4 k0 u0 = some q) (hB : ∀ (v1 : Int32) (v2 : Int32) (v3 : Int32) (u : XS), q = .inl (v1, v2, v3, u) → ∀ (H : Heap) (locs : List Loc) (ls : Array Slot), wg D A s.heap H locs (wX cI cZ cQ ad u) → lv_has ls 6 [(0, .ref (ad 26)), (1, .int v1), (2, .int v2), (3, .int v3)] → W p l e { frames := 4, cells := 0, slots := 0, locals := 100 } s m args below meth c H locs 0 0 Q (F0 m 29 ls [])) (hX : ∀ (v1 : Int32) (u : XS), q = .inr (.inr (v1, u)) → ∀ (H : Heap) (locs : List Loc) (ls : Array Slot), wg D A s.heap H locs (wX cI cZ cQ ad u) → lv_has ls 6 [(0, .ref (ad 26)), (1, .int v1)] → W p l e { frames := 4, cells := 0, slots := 0, locals := 100 } s m args below meth c H locs 0 0 Q (F0 m 123 ls [])) (hR : ∀ (r : Int32) (u : XS), q = .inr (.inl (r, u)) → Q = (qV D A (wX cI cZ cQ ad) below args s u)) : W p l e { frames := 4, cells := 0, slots := 0, locals := 100 } s m args below meth c H locs 0 0 Q (F0 m 65 ls [.int k0]) := by
  unfold f_X2_plotRuns_L29_65 at h
  obtain ⟨hx, hb, -⟩ := id X
  refine lv_istore (lv' := [(5, .int k0), (0, .ref (ad 26)), (1, .int v1), (2, .int v2), (3, .int v3), (4, .int v4)]) hx hb dX2_plotRuns_65 hl (by decide) rfl (fun ls hl => ?_)
  refine lv_aload_n hx hb dX2_plotRuns_67 rfl (lv_at hl 1 rfl) ?_
  refine gX_26_1 X K G q_200 dX2_plotRuns_68 ?_
  refine gX_24_1 X K G q_186 dX2_plotRuns_71 ?_
  refine lv_iconst (v := 0) hx hb dX2_plotRuns_74 (by decide) ?_
  refine lv_aload_n hx hb dX2_plotRuns_75 rfl (lv_at hl 1 rfl) ?_
  refine gX_26_3 X K G q_202 dX2_plotRuns_76 ?_
  refine lv_iload hx hb dX2_plotRuns_79 (lv_at hl 5 rfl) ?_
  refine lv_bipush (v := 8) hx hb dX2_plotRuns_81 (by decide) ?_
  refine lv_imul hx hb dX2_plotRuns_83 ?_
  refine lv_bipush (v := 8) hx hb dX2_plotRuns_84 (by decide) ?_
  obtain ⟨g1, h⟩ := ck_at h
  refine gcpy X K G hl.1 q_706 25 28 rfl rfl cp_w g1 (Nat.le_of_ble_eq_true rfl) (Nat.le_of_ble_eq_true rfl) rfl dX2_plotRuns_86 (fun H locs G => ?_)
  obtain ⟨u2, eu2⟩ : ∃ z : XS, z = sH u0 (hu_plotted (xH u0) (va_cpy (xL u0) (h_plotted (xH u0)) (0 : Int32).toNatClampNeg (v4 * (8 : Int32)).toNatClampNeg (8 : Int32).toNatClampNeg)) := ⟨_, rfl⟩
  have G : wg D A s.heap H locs (wX cI cZ cQ ad u2) := by rw [eu2]; exact G
  have h := nm_at eu2 h
  clear eu2
  refine lv_aload_n hx hb dX2_plotRuns_89 rfl (lv_at hl 1 rfl) ?_
  refine gX_26_2 X K G q_201 dX2_plotRuns_90 ?_
  refine lv_iload hx hb dX2_plotRuns_93 (lv_at hl 5 rfl) ?_
  refine lv_iload hx hb dX2_plotRuns_95 (lv_at hl 0 rfl) ?_
  refine lv_if_ne (tgt := 115) hx hb dX2_plotRuns_97 (by decide) (fun c3 => ?_) (fun c3 => ?_)
  · have h := if_at c3 h
    refine lv_iconst (v := 0) hx hb dX2_plotRuns_115 (by decide) ?_
    obtain ⟨g4, h⟩ := ck_at h
    refine aX_27 X K G g4 (Or.inl rfl) dX2_plotRuns_116 (fun H locs G => ?_)
    obtain ⟨u5, eu5⟩ : ∃ z : XS, z = sH u2 (hu_isGood (xH u2) (upd (h_isGood (xH u2)) v4.toNatClampNeg (0 : Int32))) := ⟨_, rfl⟩
    have G : wg D A s.heap H locs (wX cI cZ cQ ad u5) := by rw [eu5]; exact G
    have h := nm_at eu5 h
    clear eu5
    obtain ⟨x6, ex6⟩ : ∃ z : Int32, z = v3 + (1 : Int32) := ⟨_, rfl⟩
    have h := nm_at ex6 h
    refine lv_iinc (v := x6) (lv' := [(3, .int x6), (5, .int k0), (0, .ref (ad 26)), (1, .int v1), (2, .int v2), (4, .int v4)]) hx hb dX2_plotRuns_117 hl (k := 4) rfl (by rw [ex6]; rfl) (by decide) rfl (fun ls hl => ?_)
    refine lv_goto (tgt := 29) hx hb dX2_plotRuns_120 (by decide) ?_
    exact hB _ _ _ _ (Option.some.inj h).symm _ _ _ G (lv_sub hl [2, 3, 4, 0] rfl)
  · have h := it_at c3 h
    refine lv_aload_n hx hb dX2_plotRuns_100 rfl (lv_at hl 1 rfl) ?_
    refine lv_iload_n hx hb dX2_plotRuns_101 rfl (lv_at hl 2 rfl) ?_
    refine lv_iload hx hb dX2_plotRuns_102 (lv_at hl 5 rfl) ?_
    refine lv_iconst (v := 0) hx hb dX2_plotRuns_104 (by decide) ?_
    obtain ⟨r7, u8, er7, h⟩ := bnd_at h
    refine cvI (rest := [.int v4, .ref (ad 27)]) X K G (c_X2_hasHours er7) q_707 my_X2_hasHours ⟨rfl, rfl⟩ ⟨Nat.le_of_ble_eq_true rfl, Nat.le_of_ble_eq_true rfl⟩ ⟨Nat.zero_le _, Nat.zero_le _⟩ 26 2 rfl rfl rfl rfl hl.1 rfl (Nat.le_of_ble_eq_true rfl) dX2_plotRuns_105 (fun H locs G => ?_)
    clear er7
    refine lv_if_eq (tgt := 115) hx hb dX2_plotRuns_108 (by decide) (fun c9 => ?_) (fun c9 => ?_)
    · have h := it_at c9 h
      refine lv_iconst (v := 0) hx hb dX2_plotRuns_115 (by decide) ?_
      obtain ⟨g10, h⟩ := ck_at h
      refine aX_27 X K G g10 (Or.inl rfl) dX2_plotRuns_116 (fun H locs G => ?_)
      obtain ⟨u11, eu11⟩ : ∃ z : XS, z = sH u8 (hu_isGood (xH u8) (upd (h_isGood (xH u8)) v4.toNatClampNeg (0 : Int32))) := ⟨_, rfl⟩
      have G : wg D A s.heap H locs (wX cI cZ cQ ad u11) := by rw [eu11]; exact G
      have h := nm_at eu11 h
      clear eu11
      obtain ⟨x12, ex12⟩ : ∃ z : Int32, z = v3 + (1 : Int32) := ⟨_, rfl⟩
      have h := nm_at ex12 h
      refine lv_iinc (v := x12) (lv' := [(3, .int x12), (5, .int k0), (0, .ref (ad 26)), (1, .int v1), (2, .int v2), (4, .int v4)]) hx hb dX2_plotRuns_117 hl (k := 4) rfl (by rw [ex12]; rfl) (by decide) rfl (fun ls hl => ?_)
      refine lv_goto (tgt := 29) hx hb dX2_plotRuns_120 (by decide) ?_
      exact hB _ _ _ _ (Option.some.inj h).symm _ _ _ G (lv_sub hl [2, 3, 4, 0] rfl)
    · have h := if_at c9 h
      refine lv_iconst (v := 1) hx hb dX2_plotRuns_111 (by decide) ?_
      refine lv_goto (tgt := 116) hx hb dX2_plotRuns_112 (by decide) ?_
      obtain ⟨g13, h⟩ := ck_at h
      refine aX_27 X K G g13 (Or.inr rfl) dX2_plotRuns_116 (fun H locs G => ?_)
      obtain ⟨u14, eu14⟩ : ∃ z : XS, z = sH u8 (hu_isGood (xH u8) (upd (h_isGood (xH u8)) v4.toNatClampNeg (1 : Int32))) := ⟨_, rfl⟩
      have G : wg D A s.heap H locs (wX cI cZ cQ ad u14) := by rw [eu14]; exact G
      have h := nm_at eu14 h
      clear eu14
      obtain ⟨x15, ex15⟩ : ∃ z : Int32, z = v3 + (1 : Int32) := ⟨_, rfl⟩
      have h := nm_at ex15 h
      refine lv_iinc (v := x15) (lv' := [(3, .int x15), (5, .int k0), (0, .ref (ad 26)), (1, .int v1), (2, .int v2), (4, .int v4)]) hx hb dX2_plotRuns_117 hl (k := 4) rfl (by rw [ex15]; rfl) (by decide) rfl (fun ls hl => ?_)
      refine lv_goto (tgt := 29) hx hb dX2_plotRuns_120 (by decide) ?_
      exact hB _ _ _ _ (Option.some.inj h).symm _ _ _ G (lv_sub hl [2, 3, 4, 0] rfl)
noncomputable def f_X2_plotRuns_L29_29 (v1 : Int32) (v2 : Int32) (v3 : Int32) (u0 : XS) : Option ((Int32 × Int32 × Int32 × XS) ⊕ ((Int32 × XS) ⊕ (Int32 × XS))) :=
  (if (tRound (xT u0)) ≤ v3 then
    some (.inr (.inr (v1, u0)))
  else
    nmv ((v1 * (12 : Int32)) + v3) fun x2 =>
    bnd (f_X0_goThrough v2 v3 u0) fun r3 u4 =>
    (if r3 < 0 then
      f_X2_plotRuns_L29_65 v1 v2 v3 x2 (0 : Int32) u4
    else
      f_X2_plotRuns_L29_65 v1 v2 v3 x2 (1 : Int32) u4))
set_option maxRecDepth 100000 in
set_option maxHeartbeats 4000000 in
theorem b_X2_plotRuns_L29_29 (X : cx p s m args meth c cX2_plotRuns 6 RX2 none) (K : kx D cI cZ cQ adK adV A s s.heap) {v1 : Int32} {v2 : Int32} {v3 : Int32} {u0 : XS} (G : wg D A s.heap H locs (wX cI cZ cQ ad u0)) (hl : lv_has ls 6 [(0, .ref (ad 26)), (1, .int v1), (2, .int v2), (3, .int v3)]) {q : ((Int32 × Int32 × Int32 × XS) ⊕ ((Int32 × XS) ⊕ (Int32 × XS)))} (h : f_X2_plotRuns_L29_29 v1 v2 v3 u0 = some q) (hB : ∀ (v1 : Int32) (v2 : Int32) (v3 : Int32) (u : XS), q = .inl (v1, v2, v3, u) → ∀ (H : Heap) (locs : List Loc) (ls : Array Slot), wg D A s.heap H locs (wX cI cZ cQ ad u) → lv_has ls 6 [(0, .ref (ad 26)), (1, .int v1), (2, .int v2), (3, .int v3)] → W p l e { frames := 4, cells := 0, slots := 0, locals := 100 } s m args below meth c H locs 0 0 Q (F0 m 29 ls [])) (hX : ∀ (v1 : Int32) (u : XS), q = .inr (.inr (v1, u)) → ∀ (H : Heap) (locs : List Loc) (ls : Array Slot), wg D A s.heap H locs (wX cI cZ cQ ad u) → lv_has ls 6 [(0, .ref (ad 26)), (1, .int v1)] → W p l e { frames := 4, cells := 0, slots := 0, locals := 100 } s m args below meth c H locs 0 0 Q (F0 m 123 ls [])) (hR : ∀ (r : Int32) (u : XS), q = .inr (.inl (r, u)) → Q = (qV D A (wX cI cZ cQ ad) below args s u)) : W p l e { frames := 4, cells := 0, slots := 0, locals := 100 } s m args below meth c H locs 0 0 Q (F0 m 29 ls []) := by
  unfold f_X2_plotRuns_L29_29 at h
  obtain ⟨hx, hb, -⟩ := id X
  refine lv_iload_n hx hb dX2_plotRuns_29 rfl (lv_at hl 3 rfl) ?_
  refine lv_aload_n hx hb dX2_plotRuns_30 rfl (lv_at hl 0 rfl) ?_
  refine gX_26_0 X K G q_199 dX2_plotRuns_31 ?_
  refine gX_1_0 X K G q_103 dX2_plotRuns_34 ?_
  refine lv_icmp_ge (tgt := 123) hx hb dX2_plotRuns_37 (by decide) (fun c1 => ?_) (fun c1 => ?_)
  · have h := it_at c1 h
    exact hX _ _ (Option.some.inj h).symm _ _ _ G (lv_sub hl [0, 1] rfl)
  · have h := if_at c1 h
    refine lv_iload_n hx hb dX2_plotRuns_40 rfl (lv_at hl 1 rfl) ?_
    refine lv_bipush (v := 12) hx hb dX2_plotRuns_41 (by decide) ?_
    refine lv_imul hx hb dX2_plotRuns_43 ?_
    refine lv_iload_n hx hb dX2_plotRuns_44 rfl (lv_at hl 3 rfl) ?_
    refine lv_iadd hx hb dX2_plotRuns_45 ?_
    refine lv_topi (fun x2 ex2 => ?_)
    have h := nm_at ex2 h
    refine lv_istore (lv' := [(4, .int x2), (0, .ref (ad 26)), (1, .int v1), (2, .int v2), (3, .int v3)]) hx hb dX2_plotRuns_46 hl (by decide) rfl (fun ls hl => ?_)
    refine lv_aload_n hx hb dX2_plotRuns_48 rfl (lv_at hl 1 rfl) ?_
    refine gX_26_1 X K G q_200 dX2_plotRuns_49 ?_
    refine lv_iload_n hx hb dX2_plotRuns_52 rfl (lv_at hl 3 rfl) ?_
    refine lv_iload_n hx hb dX2_plotRuns_53 rfl (lv_at hl 4 rfl) ?_
    obtain ⟨r3, u4, er3, h⟩ := bnd_at h
    refine cvI (rest := []) X K G (c_X0_goThrough er3) q_705 my_X0_goThrough ⟨rfl, rfl⟩ ⟨Nat.le_of_ble_eq_true rfl, Nat.le_of_ble_eq_true rfl⟩ ⟨Nat.zero_le _, Nat.zero_le _⟩ 24 0 rfl rfl rfl rfl hl.1 rfl (Nat.le_of_ble_eq_true rfl) dX2_plotRuns_54 (fun H locs G => ?_)
    clear er3
    refine lv_if_lt (tgt := 64) hx hb dX2_plotRuns_57 (by decide) (fun c5 => ?_) (fun c5 => ?_)
    · have h := it_at c5 h
      refine lv_iconst (v := 0) hx hb dX2_plotRuns_64 (by decide) ?_
      exact b_X2_plotRuns_L29_65 X K G (lv_sub hl [1, 2, 3, 4, 0] rfl) h hB hX hR
    · have h := if_at c5 h
      refine lv_iconst (v := 1) hx hb dX2_plotRuns_60 (by decide) ?_
      refine lv_goto (tgt := 65) hx hb dX2_plotRuns_61 (by decide) ?_
      exact b_X2_plotRuns_L29_65 X K G (lv_sub hl [1, 2, 3, 4, 0] rfl) h hB hX hR
noncomputable def f_X2_plotRuns_L29_29s (q : Int32 × Int32 × Int32 × XS) : Option ((Int32 × Int32 × Int32 × XS) ⊕ ((Int32 × XS) ⊕ (Int32 × XS))) := f_X2_plotRuns_L29_29 q.1 q.2.1 q.2.2.1 q.2.2.2
set_option maxRecDepth 100000 in
set_option maxHeartbeats 4000000 in
theorem w_X2_plotRuns_L29_29 (X : cx p s m args meth c cX2_plotRuns 6 RX2 none) (K : kx D cI cZ cQ adK adV A s s.heap) {e0 : (Int32 × XS) ⊕ (Int32 × XS)} : ∀ (n : Nat) (v1 : Int32) (v2 : Int32) (v3 : Int32) (u : XS) {H : Heap} {locs : List Loc} {ls : Array Slot}, wh f_X2_plotRuns_L29_29s n (v1, v2, v3, u) = some e0 → wg D A s.heap H locs (wX cI cZ cQ ad u) → lv_has ls 6 [(0, .ref (ad 26)), (1, .int v1), (2, .int v2), (3, .int v3)] → (∀ (v1 : Int32) (u : XS), e0 = .inr (v1, u) → ∀ (H : Heap) (locs : List Loc) (ls : Array Slot), wg D A s.heap H locs (wX cI cZ cQ ad u) → lv_has ls 6 [(0, .ref (ad 26)), (1, .int v1)] → W p l e { frames := 4, cells := 0, slots := 0, locals := 100 } s m args below meth c H locs 0 0 Q (F0 m 123 ls [])) → (∀ (r : Int32) (u : XS), e0 = .inl (r, u) → Q = (qV D A (wX cI cZ cQ ad) below args s u)) → W p l e { frames := 4, cells := 0, slots := 0, locals := 100 } s m args below meth c H locs 0 0 Q (F0 m 29 ls []) := by
  intro n
  induction n with
  | zero => intro v1 v2 v3 u H locs ls h; cases h
  | succ n ih =>
    intro v1 v2 v3 u H locs ls h G hl hX hR
    obtain ⟨q, h1, h2, h3⟩ := wh_at h
    exact b_X2_plotRuns_L29_29 X K G hl (show f_X2_plotRuns_L29_29 v1 v2 v3 u = some q from h1) (fun b0 b1 b2 b3 ee H locs ls G hl => ih b0 b1 b2 b3 (h2 _ ee) G hl hX hR) (fun z0 z1 ee => hX z0 z1 (h3 _ ee).symm) (fun r u ee => hR r u (h3 _ ee).symm)
noncomputable def f_X2_plotRuns_L6_6 (v1 : Int32) (u0 : XS) : Option ((Int32 × XS) ⊕ ((Int32 × XS) ⊕ (XS))) :=
  (if (tOrders (xT u0)) ≤ v1 then
    some (.inr (.inr u0))
  else
    bnd (f_X5_orderNumber v1 (0 : Int32) u0) fun r2 u3 =>
    bne (wl f_X2_plotRuns_L29_29s (v1, r2, (0 : Int32), u3)) (fun a => some (.inr (.inl a))) fun b =>
      nmv b.1 fun y7 =>
      nmv b.2 fun u6 =>
      nmv (y7 + (1 : Int32)) fun x8 =>
      some (.inl (x8, u6)))
set_option maxRecDepth 100000 in
set_option maxHeartbeats 4000000 in
theorem b_X2_plotRuns_L6_6 (X : cx p s m args meth c cX2_plotRuns 6 RX2 none) (K : kx D cI cZ cQ adK adV A s s.heap) {v1 : Int32} {u0 : XS} (G : wg D A s.heap H locs (wX cI cZ cQ ad u0)) (hl : lv_has ls 6 [(0, .ref (ad 26)), (1, .int v1)]) {q : ((Int32 × XS) ⊕ ((Int32 × XS) ⊕ (XS)))} (h : f_X2_plotRuns_L6_6 v1 u0 = some q) (hB : ∀ (v1 : Int32) (u : XS), q = .inl (v1, u) → ∀ (H : Heap) (locs : List Loc) (ls : Array Slot), wg D A s.heap H locs (wX cI cZ cQ ad u) → lv_has ls 6 [(0, .ref (ad 26)), (1, .int v1)] → W p l e { frames := 4, cells := 0, slots := 0, locals := 100 } s m args below meth c H locs 0 0 Q (F0 m 6 ls [])) (hX : ∀ (u : XS), q = .inr (.inr u) → ∀ (H : Heap) (locs : List Loc) (ls : Array Slot), wg D A s.heap H locs (wX cI cZ cQ ad u) → lv_has ls 6 [] → W p l e { frames := 4, cells := 0, slots := 0, locals := 100 } s m args below meth c H locs 0 0 Q (F0 m 129 ls [])) (hR : ∀ (r : Int32) (u : XS), q = .inr (.inl (r, u)) → Q = (qV D A (wX cI cZ cQ ad) below args s u)) : W p l e { frames := 4, cells := 0, slots := 0, locals := 100 } s m args below meth c H locs 0 0 Q (F0 m 6 ls []) := by
  unfold f_X2_plotRuns_L6_6 at h
  obtain ⟨hx, hb, -⟩ := id X
  refine lv_iload_n hx hb dX2_plotRuns_6 rfl (lv_at hl 1 rfl) ?_
  refine lv_aload_n hx hb dX2_plotRuns_7 rfl (lv_at hl 0 rfl) ?_
  refine gX_26_0 X K G q_199 dX2_plotRuns_8 ?_
  refine gX_1_5 X K G q_119 dX2_plotRuns_11 ?_
  refine lv_icmp_ge (tgt := 129) hx hb dX2_plotRuns_14 (by decide) (fun c1 => ?_) (fun c1 => ?_)
  · have h := it_at c1 h
    exact hX _ (Option.some.inj h).symm _ _ _ G (lv_sub hl [] rfl)
  · have h := if_at c1 h
    refine lv_aload_n hx hb dX2_plotRuns_17 rfl (lv_at hl 0 rfl) ?_
    refine gX_26_0 X K G q_199 dX2_plotRuns_18 ?_
    refine lv_iload_n hx hb dX2_plotRuns_21 rfl (lv_at hl 1 rfl) ?_
    refine lv_iconst (v := 0) hx hb dX2_plotRuns_22 (by decide) ?_
    obtain ⟨r2, u3, er2, h⟩ := bnd_at h
    refine cvI (rest := []) X K G (c_X5_orderNumber er2) q_704 my_X5_orderNumber ⟨rfl, rfl⟩ ⟨Nat.le_of_ble_eq_true rfl, Nat.le_of_ble_eq_true rfl⟩ ⟨Nat.zero_le _, Nat.zero_le _⟩ 1 5 rfl rfl rfl rfl hl.1 rfl (Nat.le_of_ble_eq_true rfl) dX2_plotRuns_23 (fun H locs G => ?_)
    clear er2
    refine lv_istore_n (lv' := [(2, .int r2), (0, .ref (ad 26)), (1, .int v1)]) hx hb dX2_plotRuns_26 rfl hl (by decide) rfl (fun ls hl => ?_)
    refine lv_iconst (v := 0) hx hb dX2_plotRuns_27 (by decide) ?_
    refine lv_istore_n (lv' := [(3, .int (0 : Int32)), (2, .int r2), (0, .ref (ad 26)), (1, .int v1)]) hx hb dX2_plotRuns_28 rfl hl (by decide) rfl (fun ls hl => ?_)
    obtain ⟨q5, hq5, ha, hb1⟩ := bne_at h
    obtain ⟨n4, hn4⟩ := wl_iff.mp hq5
    refine w_X2_plotRuns_L29_29 X K n4 _ _ _ _ hn4 G (lv_sub hl [2, 3, 1, 0] rfl) (fun y7 u6 ee H locs ls G hl => ?_) (fun r u1 ee => hR _ _ (Option.some.inj (ha _ ee)).symm)
    have h := hb1 _ ee
    clear ee ha hb1 hq5 hn4
    have h := nm_at (x := y7) rfl h
    have h := nm_at (x := u6) rfl h
    obtain ⟨x8, ex8⟩ : ∃ z : Int32, z = y7 + (1 : Int32) := ⟨_, rfl⟩
    have h := nm_at ex8 h
    refine lv_iinc (v := x8) (lv' := [(1, .int x8), (0, .ref (ad 26))]) hx hb dX2_plotRuns_123 hl (k := 1) rfl (by rw [ex8]; rfl) (by decide) rfl (fun ls hl => ?_)
    refine lv_goto (tgt := 6) hx hb dX2_plotRuns_126 (by decide) ?_
    exact hB _ _ (Option.some.inj h).symm _ _ _ G (lv_sub hl [1, 0] rfl)
noncomputable def f_X2_plotRuns_L6_6s (q : Int32 × XS) : Option ((Int32 × XS) ⊕ ((Int32 × XS) ⊕ (XS))) := f_X2_plotRuns_L6_6 q.1 q.2
set_option maxRecDepth 100000 in
set_option maxHeartbeats 4000000 in
theorem w_X2_plotRuns_L6_6 (X : cx p s m args meth c cX2_plotRuns 6 RX2 none) (K : kx D cI cZ cQ adK adV A s s.heap) {e0 : (Int32 × XS) ⊕ (XS)} : ∀ (n : Nat) (v1 : Int32) (u : XS) {H : Heap} {locs : List Loc} {ls : Array Slot}, wh f_X2_plotRuns_L6_6s n (v1, u) = some e0 → wg D A s.heap H locs (wX cI cZ cQ ad u) → lv_has ls 6 [(0, .ref (ad 26)), (1, .int v1)] → (∀ (u : XS), e0 = .inr u → ∀ (H : Heap) (locs : List Loc) (ls : Array Slot), wg D A s.heap H locs (wX cI cZ cQ ad u) → lv_has ls 6 [] → W p l e { frames := 4, cells := 0, slots := 0, locals := 100 } s m args below meth c H locs 0 0 Q (F0 m 129 ls [])) → (∀ (r : Int32) (u : XS), e0 = .inl (r, u) → Q = (qV D A (wX cI cZ cQ ad) below args s u)) → W p l e { frames := 4, cells := 0, slots := 0, locals := 100 } s m args below meth c H locs 0 0 Q (F0 m 6 ls []) := by
  intro n
  induction n with
  | zero => intro v1 u H locs ls h; cases h
  | succ n ih =>
    intro v1 u H locs ls h G hl hX hR
    obtain ⟨q, h1, h2, h3⟩ := wh_at h
    exact b_X2_plotRuns_L6_6 X K G hl (show f_X2_plotRuns_L6_6 v1 u = some q from h1) (fun b0 b1 ee H locs ls G hl => ih b0 b1 (h2 _ ee) G hl hX hR) (fun z0 ee => hX z0 (h3 _ ee).symm) (fun r u ee => hR r u (h3 _ ee).symm)
noncomputable def f_X2_plotRuns (u0 : XS) : Option (Int32 × XS) :=
  bnd (f_X2_forget  u0) fun r1 u2 =>
  bne (wl f_X2_plotRuns_L6_6s ((0 : Int32), u2)) (fun a => some a) fun b =>
    nmv b fun u5 =>
    some ((0 : Int32), u5)
set_option maxRecDepth 100000 in
set_option maxHeartbeats 4000000 in
theorem c_X2_plotRuns {u0 : XS} {r : Int32} {u' : XS} (h : f_X2_plotRuns  u0 = some (r, u')) : MV l D cI cZ cQ adK adV A yX2_plotRuns cX2_plotRuns 6 { frames := 4, cells := 0, slots := 0, locals := 100 } [.ref (ad 26)] (wX cI cZ cQ ad) u0 u' := by
  unfold f_X2_plotRuns at h
  refine entV (by decide) (Nat.le_of_ble_eq_true rfl) (fun p e s m below meth c ls X K G hl => ?_)
  have hl : lv_has ls 6 [(0, .ref (ad 26))] := hl
  obtain ⟨hx, hb, -⟩ := id X
  generalize hH : s.heap = H at G
  subst hH
  refine lv_aload_n hx hb dX2_plotRuns_0 rfl (lv_at hl 0 rfl) ?_
  obtain ⟨r1, u2, er1, h⟩ := bnd_at h
  refine cvV (rest := []) X K G (c_X2_forget er1) q_700 my_X2_forget ⟨rfl, rfl⟩ ⟨Nat.le_of_ble_eq_true rfl, Nat.le_of_ble_eq_true rfl⟩ ⟨Nat.zero_le _, Nat.zero_le _⟩ 26 2 rfl rfl rfl rfl hl.1 rfl (Nat.le_of_ble_eq_true rfl) dX2_plotRuns_1 (fun H locs G => ?_)
  clear er1
  refine lv_iconst (v := 0) hx hb dX2_plotRuns_4 (by decide) ?_
  refine lv_istore_n (lv' := [(1, .int (0 : Int32)), (0, .ref (ad 26))]) hx hb dX2_plotRuns_5 rfl hl (by decide) rfl (fun ls hl => ?_)
  obtain ⟨q4, hq4, ha, hb1⟩ := bne_at h
  obtain ⟨n3, hn3⟩ := wl_iff.mp hq4
  refine w_X2_plotRuns_L6_6 X K n3 _ _ hn3 G (lv_sub hl [1, 0] rfl) (fun  u5 ee H locs ls G hl => ?_) (fun r u1 ee => by obtain ⟨rfl, rfl⟩ := pair_at (ha _ ee); rfl)
  have h := hb1 _ ee
  clear ee ha hb1 hq4 hn3
  have h := nm_at (x := u5) rfl h
  obtain ⟨rfl, rfl⟩ := pair_at h
  exact reV X G dX2_plotRuns_129
noncomputable def f_X2_takeHours_L14_14 (v2 : Int32) (v3 : Int32) (v4 : Int32) (v5 : Int32) (u0 : XS) : Option ((Int32 × Int32 × Int32 × Int32 × XS) ⊕ ((Int32 × XS) ⊕ (XS))) :=
  if v4 < 0 ∨ 8 ≤ v4.toNatClampNeg then none else
  (if ((tCounts (xT u0)) v4.toNatClampNeg) ≤ v5 then
    some (.inr (.inr u0))
  else
    bnd (f_X2_placeOf v4 v5 v2 v3 u0) fun r3 u4 =>
    bnd (f_X5_stepNumber v4 v5 (1 : Int32) u4) fun r5 u6 =>
    if r3 < 0 ∨ 3200 ≤ r3.toNatClampNeg then none else
    nmv (((h_hoursOn (xH u6)) r3.toNatClampNeg) + r5) fun x8 =>
    if r3 < 0 ∨ 3200 ≤ r3.toNatClampNeg then none else
    nmv (sH u6 (hu_hoursOn (xH u6) (upd (h_hoursOn (xH u6)) r3.toNatClampNeg x8))) fun u10 =>
    bnd (f_X5_stepNumber v4 v5 (0 : Int32) u10) fun r11 u12 =>
    if r11 < 0 ∨ 8 ≤ r11.toNatClampNeg then none else
    nmv (((h_toolHours (xH u12)) r11.toNatClampNeg) + r5) fun x14 =>
    if r11 < 0 ∨ 8 ≤ r11.toNatClampNeg then none else
    nmv (sH u12 (hu_toolHours (xH u12) (upd (h_toolHours (xH u12)) r11.toNatClampNeg x14))) fun u16 =>
    nmv (h_uses (xH u16)) fun x17 =>
    if x17 < 0 ∨ 40 ≤ x17.toNatClampNeg then none else
    nmv (sH u16 (hu_inUse (xH u16) (upd (h_inUse (xH u16)) x17.toNatClampNeg r3))) fun u19 =>
    nmv ((h_uses (xH u19)) + (1 : Int32)) fun x20 =>
    nmv (sH u19 (hu_uses (xH u19) x20)) fun u21 =>
    nmv (v5 + (1 : Int32)) fun x22 =>
    some (.inl (v2, v3, v4, x22, u21)))
set_option maxRecDepth 100000 in
set_option maxHeartbeats 4000000 in
theorem b_X2_takeHours_L14_14 (X : cx p s m args meth c cX2_takeHours 8 RX2 none) (K : kx D cI cZ cQ adK adV A s s.heap) {v2 : Int32} {v3 : Int32} {v4 : Int32} {v5 : Int32} {u0 : XS} (G : wg D A s.heap H locs (wX cI cZ cQ ad u0)) (hl : lv_has ls 8 [(0, .ref (ad 26)), (2, .int v2), (3, .int v3), (4, .int v4), (5, .int v5)]) {q : ((Int32 × Int32 × Int32 × Int32 × XS) ⊕ ((Int32 × XS) ⊕ (XS)))} (h : f_X2_takeHours_L14_14 v2 v3 v4 v5 u0 = some q) (hB : ∀ (v2 : Int32) (v3 : Int32) (v4 : Int32) (v5 : Int32) (u : XS), q = .inl (v2, v3, v4, v5, u) → ∀ (H : Heap) (locs : List Loc) (ls : Array Slot), wg D A s.heap H locs (wX cI cZ cQ ad u) → lv_has ls 8 [(0, .ref (ad 26)), (2, .int v2), (3, .int v3), (4, .int v4), (5, .int v5)] → W p l e { frames := 2, cells := 0, slots := 0, locals := 47 } s m args below meth c H locs 0 0 Q (F0 m 14 ls [])) (hX : ∀ (u : XS), q = .inr (.inr u) → ∀ (H : Heap) (locs : List Loc) (ls : Array Slot), wg D A s.heap H locs (wX cI cZ cQ ad u) → lv_has ls 8 [] → W p l e { frames := 2, cells := 0, slots := 0, locals := 47 } s m args below meth c H locs 0 0 Q (F0 m 116 ls [])) (hR : ∀ (r : Int32) (u : XS), q = .inr (.inl (r, u)) → Q = (qV D A (wX cI cZ cQ ad) below args s u)) : W p l e { frames := 2, cells := 0, slots := 0, locals := 47 } s m args below meth c H locs 0 0 Q (F0 m 14 ls []) := by
  unfold f_X2_takeHours_L14_14 at h
  obtain ⟨hx, hb, -⟩ := id X
  refine lv_iload hx hb dX2_takeHours_14 (lv_at hl 4 rfl) ?_
  refine lv_aload_n hx hb dX2_takeHours_16 rfl (lv_at hl 0 rfl) ?_
  refine gX_26_0 X K G q_199 dX2_takeHours_17 ?_
  refine gX_1_8 X K G q_130 dX2_takeHours_20 ?_
  refine lv_iload hx hb dX2_takeHours_23 (lv_at hl 3 rfl) ?_
  obtain ⟨g1, h⟩ := ck_at h
  refine lX_4 X K G g1 dX2_takeHours_25 ?_
  refine lv_icmp_ge (tgt := 116) hx hb dX2_takeHours_26 (by decide) (fun c2 => ?_) (fun c2 => ?_)
  · have h := it_at c2 h
    exact hX _ (Option.some.inj h).symm _ _ _ G (lv_sub hl [] rfl)
  · have h := if_at c2 h
    refine lv_aload_n hx hb dX2_takeHours_29 rfl (lv_at hl 0 rfl) ?_
    refine lv_iload hx hb dX2_takeHours_30 (lv_at hl 3 rfl) ?_
    refine lv_iload hx hb dX2_takeHours_32 (lv_at hl 4 rfl) ?_
    refine lv_iload_n hx hb dX2_takeHours_34 rfl (lv_at hl 1 rfl) ?_
    refine lv_iload_n hx hb dX2_takeHours_35 rfl (lv_at hl 2 rfl) ?_
    obtain ⟨r3, u4, er3, h⟩ := bnd_at h
    refine cvI (rest := []) X K G (c_X2_placeOf er3) q_711 my_X2_placeOf ⟨rfl, rfl⟩ ⟨Nat.le_of_ble_eq_true rfl, Nat.le_of_ble_eq_true rfl⟩ ⟨Nat.zero_le _, Nat.zero_le _⟩ 26 2 rfl rfl rfl rfl hl.1 rfl (Nat.le_of_ble_eq_true rfl) dX2_takeHours_36 (fun H locs G => ?_)
    clear er3
    refine lv_istore (lv' := [(6, .int r3), (0, .ref (ad 26)), (2, .int v2), (3, .int v3), (4, .int v4), (5, .int v5)]) hx hb dX2_takeHours_39 hl (by decide) rfl (fun ls hl => ?_)
    refine lv_aload_n hx hb dX2_takeHours_41 rfl (lv_at hl 1 rfl) ?_
    refine gX_26_0 X K G q_199 dX2_takeHours_42 ?_
    refine lv_iload hx hb dX2_takeHours_45 (lv_at hl 4 rfl) ?_
    refine lv_iload hx hb dX2_takeHours_47 (lv_at hl 5 rfl) ?_
    refine lv_iconst (v := 1) hx hb dX2_takeHours_49 (by decide) ?_
    obtain ⟨r5, u6, er5, h⟩ := bnd_at h
    refine cvI (rest := []) X K G (c_X5_stepNumber er5) q_715 my_X5_stepNumber ⟨rfl, rfl⟩ ⟨Nat.le_of_ble_eq_true rfl, Nat.le_of_ble_eq_true rfl⟩ ⟨Nat.zero_le _, Nat.zero_le _⟩ 1 5 rfl rfl rfl rfl hl.1 rfl (Nat.le_of_ble_eq_true rfl) dX2_takeHours_50 (fun H locs G => ?_)
    clear er5
    refine lv_istore (lv' := [(7, .int r5), (6, .int r3), (0, .ref (ad 26)), (2, .int v2), (3, .int v3), (4, .int v4), (5, .int v5)]) hx hb dX2_takeHours_53 hl (by decide) rfl (fun ls hl => ?_)
    refine lv_aload_n hx hb dX2_takeHours_55 rfl (lv_at hl 2 rfl) ?_
    refine gX_26_4 X K G q_203 dX2_takeHours_56 ?_
    refine lv_iload hx hb dX2_takeHours_59 (lv_at hl 1 rfl) ?_
    refine lv_dup2_11 hx hb dX2_takeHours_61 rfl rfl ?_
    obtain ⟨g7, h⟩ := ck_at h
    refine lX_29 X K G g7 dX2_takeHours_62 ?_
    refine lv_iload hx hb dX2_takeHours_63 (lv_at hl 0 rfl) ?_
    refine lv_iadd hx hb dX2_takeHours_65 ?_
    refine lv_topi (fun x8 ex8 => ?_)
    have h := nm_at ex8 h
    obtain ⟨g9, h⟩ := ck_at h
    refine aX_29 X K G g9 dX2_takeHours_66 (fun H locs G => ?_)
    obtain ⟨u10, eu10⟩ : ∃ z : XS, z = sH u6 (hu_hoursOn (xH u6) (upd (h_hoursOn (xH u6)) r3.toNatClampNeg x8)) := ⟨_, rfl⟩
    have G : wg D A s.heap H locs (wX cI cZ cQ ad u10) := by rw [eu10]; exact G
    have h := nm_at eu10 h
    clear eu10
    refine lv_aload_n hx hb dX2_takeHours_67 rfl (lv_at hl 2 rfl) ?_
    refine gX_26_8 X K G q_207 dX2_takeHours_68 ?_
    refine lv_aload_n hx hb dX2_takeHours_71 rfl (lv_at hl 2 rfl) ?_
    refine gX_26_0 X K G q_199 dX2_takeHours_72 ?_
    refine lv_iload hx hb dX2_takeHours_75 (lv_at hl 5 rfl) ?_
    refine lv_iload hx hb dX2_takeHours_77 (lv_at hl 6 rfl) ?_
    refine lv_iconst (v := 0) hx hb dX2_takeHours_79 (by decide) ?_
    obtain ⟨r11, u12, er11, h⟩ := bnd_at h
    refine cvI (rest := [.ref (ad 32)]) X K G (c_X5_stepNumber er11) q_715 my_X5_stepNumber ⟨rfl, rfl⟩ ⟨Nat.le_of_ble_eq_true rfl, Nat.le_of_ble_eq_true rfl⟩ ⟨Nat.zero_le _, Nat.zero_le _⟩ 1 5 rfl rfl rfl rfl hl.1 rfl (Nat.le_of_ble_eq_true rfl) dX2_takeHours_80 (fun H locs G => ?_)
    clear er11
    refine lv_dup2_11 hx hb dX2_takeHours_83 rfl rfl ?_
    obtain ⟨g13, h⟩ := ck_at h
    refine lX_32 X K G g13 dX2_takeHours_84 ?_
    refine lv_iload hx hb dX2_takeHours_85 (lv_at hl 0 rfl) ?_
    refine lv_iadd hx hb dX2_takeHours_87 ?_
    refine lv_topi (fun x14 ex14 => ?_)
    have h := nm_at ex14 h
    obtain ⟨g15, h⟩ := ck_at h
    refine aX_32 X K G g15 dX2_takeHours_88 (fun H locs G => ?_)
    obtain ⟨u16, eu16⟩ : ∃ z : XS, z = sH u12 (hu_toolHours (xH u12) (upd (h_toolHours (xH u12)) r11.toNatClampNeg x14)) := ⟨_, rfl⟩
    have G : wg D A s.heap H locs (wX cI cZ cQ ad u16) := by rw [eu16]; exact G
    have h := nm_at eu16 h
    clear eu16
    refine lv_aload_n hx hb dX2_takeHours_89 rfl (lv_at hl 2 rfl) ?_
    refine gX_26_5 X K G q_204 dX2_takeHours_90 ?_
    refine lv_aload_n hx hb dX2_takeHours_93 rfl (lv_at hl 2 rfl) ?_
    refine gX_26_6 X K G q_205 dX2_takeHours_94 ?_
    refine lv_iload hx hb dX2_takeHours_97 (lv_at hl 1 rfl) ?_
    refine nm2 (fun x17 ex17 => ?_)
    have h := nm_at ex17 h
    obtain ⟨g18, h⟩ := ck_at h
    refine aX_30 X K G g18 dX2_takeHours_99 (fun H locs G => ?_)
    obtain ⟨u19, eu19⟩ : ∃ z : XS, z = sH u16 (hu_inUse (xH u16) (upd (h_inUse (xH u16)) x17.toNatClampNeg r3)) := ⟨_, rfl⟩
    have G : wg D A s.heap H locs (wX cI cZ cQ ad u19) := by rw [eu19]; exact G
    have h := nm_at eu19 h
    clear eu19
    refine lv_aload_n hx hb dX2_takeHours_100 rfl (lv_at hl 2 rfl) ?_
    refine lv_dup hx hb dX2_takeHours_101 rfl ?_
    refine gX_26_6 X K G q_205 dX2_takeHours_102 ?_
    refine lv_iconst (v := 1) hx hb dX2_takeHours_105 (by decide) ?_
    refine lv_iadd hx hb dX2_takeHours_106 ?_
    refine lv_topi (fun x20 ex20 => ?_)
    have h := nm_at ex20 h
    refine pX_26_6 X K G q_205 dX2_takeHours_107 (fun H locs G => ?_)
    obtain ⟨u21, eu21⟩ : ∃ z : XS, z = sH u19 (hu_uses (xH u19) x20) := ⟨_, rfl⟩
    have G : wg D A s.heap H locs (wX cI cZ cQ ad u21) := by rw [eu21]; exact G
    have h := nm_at eu21 h
    clear eu21
    obtain ⟨x22, ex22⟩ : ∃ z : Int32, z = v5 + (1 : Int32) := ⟨_, rfl⟩
    have h := nm_at ex22 h
    refine lv_iinc (v := x22) (lv' := [(5, .int x22), (7, .int r5), (6, .int r3), (0, .ref (ad 26)), (2, .int v2), (3, .int v3), (4, .int v4)]) hx hb dX2_takeHours_110 hl (k := 6) rfl (by rw [ex22]; rfl) (by decide) rfl (fun ls hl => ?_)
    refine lv_goto (tgt := 14) hx hb dX2_takeHours_113 (by decide) ?_
    exact hB _ _ _ _ _ (Option.some.inj h).symm _ _ _ G (lv_sub hl [3, 4, 5, 6, 0] rfl)
noncomputable def f_X2_takeHours_L14_14s (q : Int32 × Int32 × Int32 × Int32 × XS) : Option ((Int32 × Int32 × Int32 × Int32 × XS) ⊕ ((Int32 × XS) ⊕ (XS))) := f_X2_takeHours_L14_14 q.1 q.2.1 q.2.2.1 q.2.2.2.1 q.2.2.2.2
set_option maxRecDepth 100000 in
set_option maxHeartbeats 4000000 in
theorem w_X2_takeHours_L14_14 (X : cx p s m args meth c cX2_takeHours 8 RX2 none) (K : kx D cI cZ cQ adK adV A s s.heap) {e0 : (Int32 × XS) ⊕ (XS)} : ∀ (n : Nat) (v2 : Int32) (v3 : Int32) (v4 : Int32) (v5 : Int32) (u : XS) {H : Heap} {locs : List Loc} {ls : Array Slot}, wh f_X2_takeHours_L14_14s n (v2, v3, v4, v5, u) = some e0 → wg D A s.heap H locs (wX cI cZ cQ ad u) → lv_has ls 8 [(0, .ref (ad 26)), (2, .int v2), (3, .int v3), (4, .int v4), (5, .int v5)] → (∀ (u : XS), e0 = .inr u → ∀ (H : Heap) (locs : List Loc) (ls : Array Slot), wg D A s.heap H locs (wX cI cZ cQ ad u) → lv_has ls 8 [] → W p l e { frames := 2, cells := 0, slots := 0, locals := 47 } s m args below meth c H locs 0 0 Q (F0 m 116 ls [])) → (∀ (r : Int32) (u : XS), e0 = .inl (r, u) → Q = (qV D A (wX cI cZ cQ ad) below args s u)) → W p l e { frames := 2, cells := 0, slots := 0, locals := 47 } s m args below meth c H locs 0 0 Q (F0 m 14 ls []) := by
  intro n
  induction n with
  | zero => intro v2 v3 v4 v5 u H locs ls h; cases h
  | succ n ih =>
    intro v2 v3 v4 v5 u H locs ls h G hl hX hR
    obtain ⟨q, h1, h2, h3⟩ := wh_at h
    exact b_X2_takeHours_L14_14 X K G hl (show f_X2_takeHours_L14_14 v2 v3 v4 v5 u = some q from h1) (fun b0 b1 b2 b3 b4 ee H locs ls G hl => ih b0 b1 b2 b3 b4 (h2 _ ee) G hl hX hR) (fun z0 ee => hX z0 (h3 _ ee).symm) (fun r u ee => hR r u (h3 _ ee).symm)
noncomputable def f_X2_takeHours (a1 : Int32) (a2 : Int32) (a3 : Int32) (u0 : XS) : Option (Int32 × XS) :=
  bnd (f_X5_orderNumber a1 (0 : Int32) u0) fun r1 u2 =>
  bne (wl f_X2_takeHours_L14_14s (a2, a3, r1, (0 : Int32), u2)) (fun a => some a) fun b =>
    nmv b fun u5 =>
    some ((0 : Int32), u5)
set_option maxRecDepth 100000 in
set_option maxHeartbeats 4000000 in
theorem c_X2_takeHours {a1 : Int32} {a2 : Int32} {a3 : Int32} {u0 : XS} {r : Int32} {u' : XS} (h : f_X2_takeHours a1 a2 a3 u0 = some (r, u')) : MV l D cI cZ cQ adK adV A yX2_takeHours cX2_takeHours 8 { frames := 2, cells := 0, slots := 0, locals := 47 } [.ref (ad 26), .int a1, .int a2, .int a3] (wX cI cZ cQ ad) u0 u' := by
  unfold f_X2_takeHours at h
  refine entV (by decide) (Nat.le_of_ble_eq_true rfl) (fun p e s m below meth c ls X K G hl => ?_)
  have hl : lv_has ls 8 [(0, .ref (ad 26)), (1, .int a1), (2, .int a2), (3, .int a3)] := hl
  obtain ⟨hx, hb, -⟩ := id X
  generalize hH : s.heap = H at G
  subst hH
  refine lv_aload_n hx hb dX2_takeHours_0 rfl (lv_at hl 0 rfl) ?_
  refine gX_26_0 X K G q_199 dX2_takeHours_1 ?_
  refine lv_iload_n hx hb dX2_takeHours_4 rfl (lv_at hl 1 rfl) ?_
  refine lv_iconst (v := 0) hx hb dX2_takeHours_5 (by decide) ?_
  obtain ⟨r1, u2, er1, h⟩ := bnd_at h
  refine cvI (rest := []) X K G (c_X5_orderNumber er1) q_704 my_X5_orderNumber ⟨rfl, rfl⟩ ⟨Nat.le_of_ble_eq_true rfl, Nat.le_of_ble_eq_true rfl⟩ ⟨Nat.zero_le _, Nat.zero_le _⟩ 1 5 rfl rfl rfl rfl hl.1 rfl (Nat.le_of_ble_eq_true rfl) dX2_takeHours_6 (fun H locs G => ?_)
  clear er1
  refine lv_istore (lv' := [(4, .int r1), (0, .ref (ad 26)), (1, .int a1), (2, .int a2), (3, .int a3)]) hx hb dX2_takeHours_9 hl (by decide) rfl (fun ls hl => ?_)
  refine lv_iconst (v := 0) hx hb dX2_takeHours_11 (by decide) ?_
  refine lv_istore (lv' := [(5, .int (0 : Int32)), (4, .int r1), (0, .ref (ad 26)), (1, .int a1), (2, .int a2), (3, .int a3)]) hx hb dX2_takeHours_12 hl (by decide) rfl (fun ls hl => ?_)
  obtain ⟨q4, hq4, ha, hb1⟩ := bne_at h
  obtain ⟨n3, hn3⟩ := wl_iff.mp hq4
  refine w_X2_takeHours_L14_14 X K n3 _ _ _ _ _ hn3 G (lv_sub hl [2, 4, 5, 1, 0] rfl) (fun  u5 ee H locs ls G hl => ?_) (fun r u1 ee => by obtain ⟨rfl, rfl⟩ := pair_at (ha _ ee); rfl)
  have h := hb1 _ ee
  clear ee ha hb1 hq4 hn3
  have h := nm_at (x := u5) rfl h
  obtain ⟨rfl, rfl⟩ := pair_at h
  exact reV X G dX2_takeHours_116
noncomputable def f_X2_make_L25_67 (v1 : Int32) (v2 : Int32) (v4 : Int32) (v5 : Int32) (v6 : Int32) (k0 : Int32) (u0 : XS) : Option ((Int32 × Int32 × Int32 × Int32 × XS) ⊕ ((Int32 × XS) ⊕ (XS))) :=
  if v5 < 0 ∨ 60 ≤ v5.toNatClampNeg then none else
  (if ((h_isGood (xH u0)) v5.toNatClampNeg) = 0 then
    nmv (v4 + (1 : Int32)) fun x17 =>
    some (.inl (v1, v2, k0, x17, u0))
  else
    nmv ((v5 * (8 : Int32)) + v2) fun x3 =>
    if x3 < 0 ∨ 480 ≤ x3.toNatClampNeg then none else
    nmv (((h_plotted (xH u0)) x3.toNatClampNeg) + v6) fun x5 =>
    (if (399 : Int32) < x5 then
      nmv (v4 + (1 : Int32)) fun x7 =>
      some (.inl (v1, v2, k0, x7, u0))
    else
      bnd (f_X2_hasHours v1 v5 v6 u0) fun r8 u9 =>
      (if r8 = 0 then
        nmv (v4 + (1 : Int32)) fun x16 =>
        some (.inl (v1, v2, k0, x16, u9))
      else
        bnd (f_X5_orderNumber v1 (1 : Int32) u9) fun r11 u12 =>
        (if x5 ≤ r11 then
          bnd (f_X2_takeHours v1 v5 v6 u12) fun r14 u15 =>
          some (.inr (.inl (x5, u15)))
        else
          some (.inr (.inl ((-1 : Int32), u12)))))))
set_option maxRecDepth 100000 in
set_option maxHeartbeats 4000000 in
theorem b_X2_make_L25_67 (X : cx p s m args meth c cX2_make 8 RX2 (some .int)) (K : kx D cI cZ cQ adK adV A s s.heap) {v1 : Int32} {v2 : Int32} {v4 : Int32} {v5 : Int32} {v6 : Int32} {k0 : Int32} {u0 : XS} (G : wg D A s.heap H locs (wX cI cZ cQ ad u0)) (hl : lv_has ls 8 [(0, .ref (ad 26)), (1, .int v1), (2, .int v2), (4, .int v4), (5, .int v5), (6, .int v6)]) {q : ((Int32 × Int32 × Int32 × Int32 × XS) ⊕ ((Int32 × XS) ⊕ (XS)))} (h : f_X2_make_L25_67 v1 v2 v4 v5 v6 k0 u0 = some q) (hB : ∀ (v1 : Int32) (v2 : Int32) (v3 : Int32) (v4 : Int32) (u : XS), q = .inl (v1, v2, v3, v4, u) → ∀ (H : Heap) (locs : List Loc) (ls : Array Slot), wg D A s.heap H locs (wX cI cZ cQ ad u) → lv_has ls 8 [(0, .ref (ad 26)), (1, .int v1), (2, .int v2), (3, .int v3), (4, .int v4)] → W p l e { frames := 3, cells := 0, slots := 0, locals := 75 } s m args below meth c H locs 0 0 Q (F0 m 25 ls [])) (hX : ∀ (u : XS), q = .inr (.inr u) → ∀ (H : Heap) (locs : List Loc) (ls : Array Slot), wg D A s.heap H locs (wX cI cZ cQ ad u) → lv_has ls 8 [] → W p l e { frames := 3, cells := 0, slots := 0, locals := 75 } s m args below meth c H locs 0 0 Q (F0 m 155 ls [])) (hR : ∀ (r : Int32) (u : XS), q = .inr (.inl (r, u)) → Q = (qI D A (wX cI cZ cQ ad) below args s r u)) : W p l e { frames := 3, cells := 0, slots := 0, locals := 75 } s m args below meth c H locs 0 0 Q (F0 m 67 ls [.int k0]) := by
  unfold f_X2_make_L25_67 at h
  obtain ⟨hx, hb, -⟩ := id X
  refine lv_istore_n (lv' := [(3, .int k0), (0, .ref (ad 26)), (1, .int v1), (2, .int v2), (4, .int v4), (5, .int v5), (6, .int v6)]) hx hb dX2_make_67 rfl hl (by decide) rfl (fun ls hl => ?_)
  refine lv_aload_n hx hb dX2_make_68 rfl (lv_at hl 1 rfl) ?_
  refine gX_26_2 X K G q_201 dX2_make_69 ?_
  refine lv_iload hx hb dX2_make_72 (lv_at hl 5 rfl) ?_
  obtain ⟨g1, h⟩ := ck_at h
  refine lX_27 X K G g1 dX2_make_74 ?_
  refine lv_if_ne (tgt := 81) hx hb dX2_make_75 (by decide) (fun c2 => ?_) (fun c2 => ?_)
  · have h := if_at c2 h
    refine lv_aload_n hx hb dX2_make_81 rfl (lv_at hl 1 rfl) ?_
    refine gX_26_3 X K G q_202 dX2_make_82 ?_
    refine lv_iload hx hb dX2_make_85 (lv_at hl 5 rfl) ?_
    refine lv_bipush (v := 8) hx hb dX2_make_87 (by decide) ?_
    refine lv_imul hx hb dX2_make_89 ?_
    refine lv_iload_n hx hb dX2_make_90 rfl (lv_at hl 3 rfl) ?_
    refine lv_iadd hx hb dX2_make_91 ?_
    refine lv_topi (fun x3 ex3 => ?_)
    have h := nm_at ex3 h
    obtain ⟨g4, h⟩ := ck_at h
    refine lX_28 X K G g4 dX2_make_92 ?_
    refine lv_iload hx hb dX2_make_93 (lv_at hl 6 rfl) ?_
    refine lv_iadd hx hb dX2_make_95 ?_
    refine lv_topi (fun x5 ex5 => ?_)
    have h := nm_at ex5 h
    refine lv_istore (lv' := [(7, .int x5), (3, .int k0), (0, .ref (ad 26)), (1, .int v1), (2, .int v2), (4, .int v4), (5, .int v5), (6, .int v6)]) hx hb dX2_make_96 hl (by decide) rfl (fun ls hl => ?_)
    refine lv_iload hx hb dX2_make_98 (lv_at hl 0 rfl) ?_
    refine lv_sipush (v := 399) hx hb dX2_make_100 (by decide) ?_
    refine lv_icmp_gt (tgt := 149) hx hb dX2_make_103 (by decide) (fun c6 => ?_) (fun c6 => ?_)
    · have h := it_at c6 h
      obtain ⟨x7, ex7⟩ : ∃ z : Int32, z = v4 + (1 : Int32) := ⟨_, rfl⟩
      have h := nm_at ex7 h
      refine lv_iinc (v := x7) (lv' := [(4, .int x7), (7, .int x5), (3, .int k0), (0, .ref (ad 26)), (1, .int v1), (2, .int v2), (5, .int v5), (6, .int v6)]) hx hb dX2_make_149 hl (k := 5) rfl (by rw [ex7]; rfl) (by decide) rfl (fun ls hl => ?_)
      refine lv_goto (tgt := 25) hx hb dX2_make_152 (by decide) ?_
      exact hB _ _ _ _ _ (Option.some.inj h).symm _ _ _ G (lv_sub hl [3, 4, 5, 2, 0] rfl)
    · have h := if_at c6 h
      refine lv_aload_n hx hb dX2_make_106 rfl (lv_at hl 2 rfl) ?_
      refine lv_iload_n hx hb dX2_make_107 rfl (lv_at hl 3 rfl) ?_
      refine lv_iload hx hb dX2_make_108 (lv_at hl 6 rfl) ?_
      refine lv_iload hx hb dX2_make_110 (lv_at hl 7 rfl) ?_
      obtain ⟨r8, u9, er8, h⟩ := bnd_at h
      refine cvI (rest := []) X K G (c_X2_hasHours er8) q_707 my_X2_hasHours ⟨rfl, rfl⟩ ⟨Nat.le_of_ble_eq_true rfl, Nat.le_of_ble_eq_true rfl⟩ ⟨Nat.zero_le _, Nat.zero_le _⟩ 26 2 rfl rfl rfl rfl hl.1 rfl (Nat.le_of_ble_eq_true rfl) dX2_make_112 (fun H locs G => ?_)
      clear er8
      refine lv_if_ne (tgt := 121) hx hb dX2_make_115 (by decide) (fun c10 => ?_) (fun c10 => ?_)
      · have h := if_at c10 h
        refine lv_iload hx hb dX2_make_121 (lv_at hl 0 rfl) ?_
        refine lv_aload_n hx hb dX2_make_123 rfl (lv_at hl 2 rfl) ?_
        refine gX_26_0 X K G q_199 dX2_make_124 ?_
        refine lv_iload_n hx hb dX2_make_127 rfl (lv_at hl 3 rfl) ?_
        refine lv_iconst (v := 1) hx hb dX2_make_128 (by decide) ?_
        obtain ⟨r11, u12, er11, h⟩ := bnd_at h
        refine cvI (rest := [.int x5]) X K G (c_X5_orderNumber er11) q_704 my_X5_orderNumber ⟨rfl, rfl⟩ ⟨Nat.le_of_ble_eq_true rfl, Nat.le_of_ble_eq_true rfl⟩ ⟨Nat.zero_le _, Nat.zero_le _⟩ 1 5 rfl rfl rfl rfl hl.1 rfl (Nat.le_of_ble_eq_true rfl) dX2_make_129 (fun H locs G => ?_)
        clear er11
        refine lv_icmp_le (tgt := 137) hx hb dX2_make_132 (by decide) (fun c13 => ?_) (fun c13 => ?_)
        · have h := it_at c13 h
          refine lv_aload_n hx hb dX2_make_137 rfl (lv_at hl 2 rfl) ?_
          refine lv_iload_n hx hb dX2_make_138 rfl (lv_at hl 3 rfl) ?_
          refine lv_iload hx hb dX2_make_139 (lv_at hl 6 rfl) ?_
          refine lv_iload hx hb dX2_make_141 (lv_at hl 7 rfl) ?_
          obtain ⟨r14, u15, er14, h⟩ := bnd_at h
          refine cvV (rest := []) X K G (c_X2_takeHours er14) q_724 my_X2_takeHours ⟨rfl, rfl⟩ ⟨Nat.le_of_ble_eq_true rfl, Nat.le_of_ble_eq_true rfl⟩ ⟨Nat.zero_le _, Nat.zero_le _⟩ 26 2 rfl rfl rfl rfl hl.1 rfl (Nat.le_of_ble_eq_true rfl) dX2_make_143 (fun H locs G => ?_)
          clear er14
          refine lv_iload hx hb dX2_make_146 (lv_at hl 0 rfl) ?_
          rw [hR _ _ (Option.some.inj h).symm]
          exact reI X G dX2_make_148
        · have h := if_at c13 h
          refine lv_iconst (v := -1) hx hb dX2_make_135 (by decide) ?_
          rw [hR _ _ (Option.some.inj h).symm]
          exact reI X G dX2_make_136
      · have h := it_at c10 h
        refine lv_goto (tgt := 149) hx hb dX2_make_118 (by decide) ?_
        obtain ⟨x16, ex16⟩ : ∃ z : Int32, z = v4 + (1 : Int32) := ⟨_, rfl⟩
        have h := nm_at ex16 h
        refine lv_iinc (v := x16) (lv' := [(4, .int x16), (7, .int x5), (3, .int k0), (0, .ref (ad 26)), (1, .int v1), (2, .int v2), (5, .int v5), (6, .int v6)]) hx hb dX2_make_149 hl (k := 5) rfl (by rw [ex16]; rfl) (by decide) rfl (fun ls hl => ?_)
        refine lv_goto (tgt := 25) hx hb dX2_make_152 (by decide) ?_
        exact hB _ _ _ _ _ (Option.some.inj h).symm _ _ _ G (lv_sub hl [3, 4, 5, 2, 0] rfl)
  · have h := it_at c2 h
    refine lv_goto (tgt := 149) hx hb dX2_make_78 (by decide) ?_
    obtain ⟨x17, ex17⟩ : ∃ z : Int32, z = v4 + (1 : Int32) := ⟨_, rfl⟩
    have h := nm_at ex17 h
    refine lv_iinc (v := x17) (lv' := [(4, .int x17), (3, .int k0), (0, .ref (ad 26)), (1, .int v1), (2, .int v2), (5, .int v5), (6, .int v6)]) hx hb dX2_make_149 hl (k := 4) rfl (by rw [ex17]; rfl) (by decide) rfl (fun ls hl => ?_)
    refine lv_goto (tgt := 25) hx hb dX2_make_152 (by decide) ?_
    exact hB _ _ _ _ _ (Option.some.inj h).symm _ _ _ G (lv_sub hl [2, 3, 4, 1, 0] rfl)
noncomputable def f_X2_make_L25_25 (v1 : Int32) (v2 : Int32) (v3 : Int32) (v4 : Int32) (u0 : XS) : Option ((Int32 × Int32 × Int32 × Int32 × XS) ⊕ ((Int32 × XS) ⊕ (XS))) :=
  (if (200 : Int32) < v4 then
    some (.inr (.inr u0))
  else
    nmv ((v1 * (12 : Int32)) + v3) fun x2 =>
    nmv (v4 - v3) fun x3 =>
    (if (v3 + (1 : Int32)) = (tRound (xT u0)) then
      f_X2_make_L25_67 v1 v2 v4 x2 x3 (0 : Int32) u0
    else
      f_X2_make_L25_67 v1 v2 v4 x2 x3 (v3 + (1 : Int32)) u0))
set_option maxRecDepth 100000 in
set_option maxHeartbeats 4000000 in
theorem b_X2_make_L25_25 (X : cx p s m args meth c cX2_make 8 RX2 (some .int)) (K : kx D cI cZ cQ adK adV A s s.heap) {v1 : Int32} {v2 : Int32} {v3 : Int32} {v4 : Int32} {u0 : XS} (G : wg D A s.heap H locs (wX cI cZ cQ ad u0)) (hl : lv_has ls 8 [(0, .ref (ad 26)), (1, .int v1), (2, .int v2), (3, .int v3), (4, .int v4)]) {q : ((Int32 × Int32 × Int32 × Int32 × XS) ⊕ ((Int32 × XS) ⊕ (XS)))} (h : f_X2_make_L25_25 v1 v2 v3 v4 u0 = some q) (hB : ∀ (v1 : Int32) (v2 : Int32) (v3 : Int32) (v4 : Int32) (u : XS), q = .inl (v1, v2, v3, v4, u) → ∀ (H : Heap) (locs : List Loc) (ls : Array Slot), wg D A s.heap H locs (wX cI cZ cQ ad u) → lv_has ls 8 [(0, .ref (ad 26)), (1, .int v1), (2, .int v2), (3, .int v3), (4, .int v4)] → W p l e { frames := 3, cells := 0, slots := 0, locals := 75 } s m args below meth c H locs 0 0 Q (F0 m 25 ls [])) (hX : ∀ (u : XS), q = .inr (.inr u) → ∀ (H : Heap) (locs : List Loc) (ls : Array Slot), wg D A s.heap H locs (wX cI cZ cQ ad u) → lv_has ls 8 [] → W p l e { frames := 3, cells := 0, slots := 0, locals := 75 } s m args below meth c H locs 0 0 Q (F0 m 155 ls [])) (hR : ∀ (r : Int32) (u : XS), q = .inr (.inl (r, u)) → Q = (qI D A (wX cI cZ cQ ad) below args s r u)) : W p l e { frames := 3, cells := 0, slots := 0, locals := 75 } s m args below meth c H locs 0 0 Q (F0 m 25 ls []) := by
  unfold f_X2_make_L25_25 at h
  obtain ⟨hx, hb, -⟩ := id X
  refine lv_iload hx hb dX2_make_25 (lv_at hl 4 rfl) ?_
  refine lv_sipush (v := 200) hx hb dX2_make_27 (by decide) ?_
  refine lv_icmp_gt (tgt := 155) hx hb dX2_make_30 (by decide) (fun c1 => ?_) (fun c1 => ?_)
  · have h := it_at c1 h
    exact hX _ (Option.some.inj h).symm _ _ _ G (lv_sub hl [] rfl)
  · have h := if_at c1 h
    refine lv_iload_n hx hb dX2_make_33 rfl (lv_at hl 1 rfl) ?_
    refine lv_bipush (v := 12) hx hb dX2_make_34 (by decide) ?_
    refine lv_imul hx hb dX2_make_36 ?_
    refine lv_iload_n hx hb dX2_make_37 rfl (lv_at hl 3 rfl) ?_
    refine lv_iadd hx hb dX2_make_38 ?_
    refine lv_topi (fun x2 ex2 => ?_)
    have h := nm_at ex2 h
    refine lv_istore (lv' := [(5, .int x2), (0, .ref (ad 26)), (1, .int v1), (2, .int v2), (3, .int v3), (4, .int v4)]) hx hb dX2_make_39 hl (by decide) rfl (fun ls hl => ?_)
    refine lv_iload hx hb dX2_make_41 (lv_at hl 5 rfl) ?_
    refine lv_iload_n hx hb dX2_make_43 rfl (lv_at hl 4 rfl) ?_
    refine lv_isub hx hb dX2_make_44 ?_
    refine lv_topi (fun x3 ex3 => ?_)
    have h := nm_at ex3 h
    refine lv_istore (lv' := [(6, .int x3), (5, .int x2), (0, .ref (ad 26)), (1, .int v1), (2, .int v2), (3, .int v3), (4, .int v4)]) hx hb dX2_make_45 hl (by decide) rfl (fun ls hl => ?_)
    refine lv_iload_n hx hb dX2_make_47 rfl (lv_at hl 5 rfl) ?_
    refine lv_iconst (v := 1) hx hb dX2_make_48 (by decide) ?_
    refine lv_iadd hx hb dX2_make_49 ?_
    refine lv_aload_n hx hb dX2_make_50 rfl (lv_at hl 2 rfl) ?_
    refine gX_26_0 X K G q_199 dX2_make_51 ?_
    refine gX_1_0 X K G q_103 dX2_make_54 ?_
    refine lv_icmp_ne (tgt := 64) hx hb dX2_make_57 (by decide) (fun c4 => ?_) (fun c4 => ?_)
    · have h := if_at c4 h
      refine lv_iload_n hx hb dX2_make_64 rfl (lv_at hl 5 rfl) ?_
      refine lv_iconst (v := 1) hx hb dX2_make_65 (by decide) ?_
      refine lv_iadd hx hb dX2_make_66 ?_
      exact b_X2_make_L25_67 X K G (lv_sub hl [2, 3, 4, 6, 1, 0] rfl) h hB hX hR
    · have h := it_at c4 h
      refine lv_iconst (v := 0) hx hb dX2_make_60 (by decide) ?_
      refine lv_goto (tgt := 67) hx hb dX2_make_61 (by decide) ?_
      exact b_X2_make_L25_67 X K G (lv_sub hl [2, 3, 4, 6, 1, 0] rfl) h hB hX hR
noncomputable def f_X2_make_L25_25s (q : Int32 × Int32 × Int32 × Int32 × XS) : Option ((Int32 × Int32 × Int32 × Int32 × XS) ⊕ ((Int32 × XS) ⊕ (XS))) := f_X2_make_L25_25 q.1 q.2.1 q.2.2.1 q.2.2.2.1 q.2.2.2.2
set_option maxRecDepth 100000 in
set_option maxHeartbeats 4000000 in
theorem w_X2_make_L25_25 (X : cx p s m args meth c cX2_make 8 RX2 (some .int)) (K : kx D cI cZ cQ adK adV A s s.heap) {e0 : (Int32 × XS) ⊕ (XS)} : ∀ (n : Nat) (v1 : Int32) (v2 : Int32) (v3 : Int32) (v4 : Int32) (u : XS) {H : Heap} {locs : List Loc} {ls : Array Slot}, wh f_X2_make_L25_25s n (v1, v2, v3, v4, u) = some e0 → wg D A s.heap H locs (wX cI cZ cQ ad u) → lv_has ls 8 [(0, .ref (ad 26)), (1, .int v1), (2, .int v2), (3, .int v3), (4, .int v4)] → (∀ (u : XS), e0 = .inr u → ∀ (H : Heap) (locs : List Loc) (ls : Array Slot), wg D A s.heap H locs (wX cI cZ cQ ad u) → lv_has ls 8 [] → W p l e { frames := 3, cells := 0, slots := 0, locals := 75 } s m args below meth c H locs 0 0 Q (F0 m 155 ls [])) → (∀ (r : Int32) (u : XS), e0 = .inl (r, u) → Q = (qI D A (wX cI cZ cQ ad) below args s r u)) → W p l e { frames := 3, cells := 0, slots := 0, locals := 75 } s m args below meth c H locs 0 0 Q (F0 m 25 ls []) := by
  intro n
  induction n with
  | zero => intro v1 v2 v3 v4 u H locs ls h; cases h
  | succ n ih =>
    intro v1 v2 v3 v4 u H locs ls h G hl hX hR
    obtain ⟨q, h1, h2, h3⟩ := wh_at h
    exact b_X2_make_L25_25 X K G hl (show f_X2_make_L25_25 v1 v2 v3 v4 u = some q from h1) (fun b0 b1 b2 b3 b4 ee H locs ls G hl => ih b0 b1 b2 b3 b4 (h2 _ ee) G hl hX hR) (fun z0 ee => hX z0 (h3 _ ee).symm) (fun r u ee => hR r u (h3 _ ee).symm)
noncomputable def f_X2_make (a1 : Int32) (u0 : XS) : Option (Int32 × XS) :=
  bnd (f_X5_orderNumber a1 (0 : Int32) u0) fun r1 u2 =>
  if r1 < 0 ∨ 8 ≤ r1.toNatClampNeg then none else
  nmv (((tCounts (xT u2)) r1.toNatClampNeg) - (1 : Int32)) fun x4 =>
  bne (wl f_X2_make_L25_25s (a1, x4, (0 : Int32), (0 : Int32), u2)) (fun a => some a) fun b =>
    nmv b fun u7 =>
    some ((-1 : Int32), u7)
set_option maxRecDepth 100000 in
set_option maxHeartbeats 4000000 in
theorem c_X2_make {a1 : Int32} {u0 : XS} {r : Int32} {u' : XS} (h : f_X2_make a1 u0 = some (r, u')) : MI l D cI cZ cQ adK adV A yX2_make cX2_make 8 (some .int) { frames := 3, cells := 0, slots := 0, locals := 75 } [.ref (ad 26), .int a1] (wX cI cZ cQ ad) u0 r u' := by
  unfold f_X2_make at h
  refine entI (by decide) (Nat.le_of_ble_eq_true rfl) (fun p e s m below meth c ls X K G hl => ?_)
  have hl : lv_has ls 8 [(0, .ref (ad 26)), (1, .int a1)] := hl
  obtain ⟨hx, hb, -⟩ := id X
  generalize hH : s.heap = H at G
  subst hH
  refine lv_aload_n hx hb dX2_make_0 rfl (lv_at hl 0 rfl) ?_
  refine gX_26_0 X K G q_199 dX2_make_1 ?_
  refine gX_1_8 X K G q_130 dX2_make_4 ?_
  refine lv_aload_n hx hb dX2_make_7 rfl (lv_at hl 0 rfl) ?_
  refine gX_26_0 X K G q_199 dX2_make_8 ?_
  refine lv_iload_n hx hb dX2_make_11 rfl (lv_at hl 1 rfl) ?_
  refine lv_iconst (v := 0) hx hb dX2_make_12 (by decide) ?_
  obtain ⟨r1, u2, er1, h⟩ := bnd_at h
  refine cvI (rest := [.ref (ad 4)]) X K G (c_X5_orderNumber er1) q_704 my_X5_orderNumber ⟨rfl, rfl⟩ ⟨Nat.le_of_ble_eq_true rfl, Nat.le_of_ble_eq_true rfl⟩ ⟨Nat.zero_le _, Nat.zero_le _⟩ 1 5 rfl rfl rfl rfl hl.1 rfl (Nat.le_of_ble_eq_true rfl) dX2_make_13 (fun H locs G => ?_)
  clear er1
  obtain ⟨g3, h⟩ := ck_at h
  refine lX_4 X K G g3 dX2_make_16 ?_
  refine lv_iconst (v := 1) hx hb dX2_make_17 (by decide) ?_
  refine lv_isub hx hb dX2_make_18 ?_
  refine lv_topi (fun x4 ex4 => ?_)
  have h := nm_at ex4 h
  refine lv_istore_n (lv' := [(2, .int x4), (0, .ref (ad 26)), (1, .int a1)]) hx hb dX2_make_19 rfl hl (by decide) rfl (fun ls hl => ?_)
  refine lv_iconst (v := 0) hx hb dX2_make_20 (by decide) ?_
  refine lv_istore_n (lv' := [(3, .int (0 : Int32)), (2, .int x4), (0, .ref (ad 26)), (1, .int a1)]) hx hb dX2_make_21 rfl hl (by decide) rfl (fun ls hl => ?_)
  refine lv_iconst (v := 0) hx hb dX2_make_22 (by decide) ?_
  refine lv_istore (lv' := [(4, .int (0 : Int32)), (3, .int (0 : Int32)), (2, .int x4), (0, .ref (ad 26)), (1, .int a1)]) hx hb dX2_make_23 hl (by decide) rfl (fun ls hl => ?_)
  obtain ⟨q6, hq6, ha, hb1⟩ := bne_at h
  obtain ⟨n5, hn5⟩ := wl_iff.mp hq6
  refine w_X2_make_L25_25 X K n5 _ _ _ _ _ hn5 G (lv_sub hl [3, 4, 2, 1, 0] rfl) (fun  u7 ee H locs ls G hl => ?_) (fun r u1 ee => by obtain ⟨rfl, rfl⟩ := pair_at (ha _ ee); rfl)
  have h := hb1 _ ee
  clear ee ha hb1 hq6 hn5
  have h := nm_at (x := u7) rfl h
  refine lv_iconst (v := -1) hx hb dX2_make_155 (by decide) ?_
  obtain ⟨rfl, rfl⟩ := pair_at h
  exact reI X G dX2_make_156
noncomputable def f_X2_takeInSequence_L6_6 (v1 : Int32) (v2 : Int32) (u0 : XS) : Option ((Int32 × Int32 × XS) ⊕ ((Int32 × XS) ⊕ (XS))) :=
  (if v1 ≤ v2 then
    some (.inr (.inr u0))
  else
    if v2 < 0 ∨ 5 ≤ v2.toNatClampNeg then none else
    nmv ((h_sequence (xH u0)) v2.toNatClampNeg) fun x3 =>
    bnd (f_X2_make x3 u0) fun r4 u5 =>
    (if r4 < 0 then
      nmv (v2 + (1 : Int32)) fun x7 =>
      some (.inl (v1, x7, u5))
    else
      bnd (f_X5_orderNumber x3 (2 : Int32) u5) fun r8 u9 =>
      nmv ((h_worth (xH u5)) + r8) fun x10 =>
      nmv (sH u9 (hu_worth (xH u9) x10)) fun u11 =>
      nmv ((h_inTime (xH u11)) ||| ((1 : Int32) <<< (x3 &&& 31))) fun x12 =>
      nmv (sH u11 (hu_inTime (xH u11) x12)) fun u13 =>
      nmv (if (h_lastDay (xH u13)) < r4 then r4 else (h_lastDay (xH u13))) fun x14 =>
      nmv (sH u13 (hu_lastDay (xH u13) x14)) fun u15 =>
      nmv (v2 + (1 : Int32)) fun x16 =>
      some (.inl (v1, x16, u15))))
set_option maxRecDepth 100000 in
set_option maxHeartbeats 4000000 in
theorem b_X2_takeInSequence_L6_6 (X : cx p s m args meth c cX2_takeInSequence 5 RX2 none) (K : kx D cI cZ cQ adK adV A s s.heap) {v1 : Int32} {v2 : Int32} {u0 : XS} (G : wg D A s.heap H locs (wX cI cZ cQ ad u0)) (hl : lv_has ls 5 [(0, .ref (ad 26)), (1, .int v1), (2, .int v2)]) {q : ((Int32 × Int32 × XS) ⊕ ((Int32 × XS) ⊕ (XS)))} (h : f_X2_takeInSequence_L6_6 v1 v2 u0 = some q) (hB : ∀ (v1 : Int32) (v2 : Int32) (u : XS), q = .inl (v1, v2, u) → ∀ (H : Heap) (locs : List Loc) (ls : Array Slot), wg D A s.heap H locs (wX cI cZ cQ ad u) → lv_has ls 5 [(0, .ref (ad 26)), (1, .int v1), (2, .int v2)] → W p l e { frames := 4, cells := 0, slots := 0, locals := 102 } s m args below meth c H locs 0 0 Q (F0 m 6 ls [])) (hX : ∀ (u : XS), q = .inr (.inr u) → ∀ (H : Heap) (locs : List Loc) (ls : Array Slot), wg D A s.heap H locs (wX cI cZ cQ ad u) → lv_has ls 5 [] → W p l e { frames := 4, cells := 0, slots := 0, locals := 102 } s m args below meth c H locs 0 0 Q (F0 m 79 ls [])) (hR : ∀ (r : Int32) (u : XS), q = .inr (.inl (r, u)) → Q = (qV D A (wX cI cZ cQ ad) below args s u)) : W p l e { frames := 4, cells := 0, slots := 0, locals := 102 } s m args below meth c H locs 0 0 Q (F0 m 6 ls []) := by
  unfold f_X2_takeInSequence_L6_6 at h
  obtain ⟨hx, hb, -⟩ := id X
  refine lv_iload_n hx hb dX2_takeInSequence_6 rfl (lv_at hl 2 rfl) ?_
  refine lv_iload_n hx hb dX2_takeInSequence_7 rfl (lv_at hl 1 rfl) ?_
  refine lv_icmp_ge (tgt := 79) hx hb dX2_takeInSequence_8 (by decide) (fun c1 => ?_) (fun c1 => ?_)
  · have h := it_at c1 h
    exact hX _ (Option.some.inj h).symm _ _ _ G (lv_sub hl [] rfl)
  · have h := if_at c1 h
    refine lv_aload_n hx hb dX2_takeInSequence_11 rfl (lv_at hl 0 rfl) ?_
    refine gX_26_7 X K G q_206 dX2_takeInSequence_12 ?_
    refine lv_iload_n hx hb dX2_takeInSequence_15 rfl (lv_at hl 2 rfl) ?_
    obtain ⟨g2, h⟩ := ck_at h
    refine lX_31 X K G g2 dX2_takeInSequence_16 ?_
    refine lv_topi (fun x3 ex3 => ?_)
    have h := nm_at ex3 h
    refine lv_istore_n (lv' := [(3, .int x3), (0, .ref (ad 26)), (1, .int v1), (2, .int v2)]) hx hb dX2_takeInSequence_17 rfl hl (by decide) rfl (fun ls hl => ?_)
    refine lv_aload_n hx hb dX2_takeInSequence_18 rfl (lv_at hl 1 rfl) ?_
    refine lv_iload_n hx hb dX2_takeInSequence_19 rfl (lv_at hl 0 rfl) ?_
    obtain ⟨r4, u5, er4, h⟩ := bnd_at h
    refine cvI (rest := []) X K G (c_X2_make er4) q_720 my_X2_make ⟨rfl, rfl⟩ ⟨Nat.le_of_ble_eq_true rfl, Nat.le_of_ble_eq_true rfl⟩ ⟨Nat.zero_le _, Nat.zero_le _⟩ 26 2 rfl rfl rfl rfl hl.1 rfl (Nat.le_of_ble_eq_true rfl) dX2_takeInSequence_20 (fun H locs G => ?_)
    clear er4
    refine lv_istore (lv' := [(4, .int r4), (3, .int x3), (0, .ref (ad 26)), (1, .int v1), (2, .int v2)]) hx hb dX2_takeInSequence_23 hl (by decide) rfl (fun ls hl => ?_)
    refine lv_iload hx hb dX2_takeInSequence_25 (lv_at hl 0 rfl) ?_
    refine lv_if_lt (tgt := 73) hx hb dX2_takeInSequence_27 (by decide) (fun c6 => ?_) (fun c6 => ?_)
    · have h := it_at c6 h
      obtain ⟨x7, ex7⟩ : ∃ z : Int32, z = v2 + (1 : Int32) := ⟨_, rfl⟩
      have h := nm_at ex7 h
      refine lv_iinc (v := x7) (lv' := [(2, .int x7), (4, .int r4), (3, .int x3), (0, .ref (ad 26)), (1, .int v1)]) hx hb dX2_takeInSequence_73 hl (k := 4) rfl (by rw [ex7]; rfl) (by decide) rfl (fun ls hl => ?_)
      refine lv_goto (tgt := 6) hx hb dX2_takeInSequence_76 (by decide) ?_
      exact hB _ _ _ (Option.some.inj h).symm _ _ _ G (lv_sub hl [3, 4, 0] rfl)
    · have h := if_at c6 h
      refine lv_aload_n hx hb dX2_takeInSequence_30 rfl (lv_at hl 2 rfl) ?_
      refine lv_dup hx hb dX2_takeInSequence_31 rfl ?_
      refine gX_26_9 X K G q_209 dX2_takeInSequence_32 ?_
      refine lv_aload_n hx hb dX2_takeInSequence_35 rfl (lv_at hl 2 rfl) ?_
      refine gX_26_0 X K G q_199 dX2_takeInSequence_36 ?_
      refine lv_iload_n hx hb dX2_takeInSequence_39 rfl (lv_at hl 1 rfl) ?_
      refine lv_iconst (v := 2) hx hb dX2_takeInSequence_40 (by decide) ?_
      obtain ⟨r8, u9, er8, h⟩ := bnd_at h
      refine cvI (rest := [.int (h_worth (xH u5)), .ref (ad 26)]) X K G (c_X5_orderNumber er8) q_704 my_X5_orderNumber ⟨rfl, rfl⟩ ⟨Nat.le_of_ble_eq_true rfl, Nat.le_of_ble_eq_true rfl⟩ ⟨Nat.zero_le _, Nat.zero_le _⟩ 1 5 rfl rfl rfl rfl hl.1 rfl (Nat.le_of_ble_eq_true rfl) dX2_takeInSequence_41 (fun H locs G => ?_)
      clear er8
      refine lv_iadd hx hb dX2_takeInSequence_44 ?_
      refine lv_topi (fun x10 ex10 => ?_)
      have h := nm_at ex10 h
      refine pX_26_9 X K G q_209 dX2_takeInSequence_45 (fun H locs G => ?_)
      obtain ⟨u11, eu11⟩ : ∃ z : XS, z = sH u9 (hu_worth (xH u9) x10) := ⟨_, rfl⟩
      have G : wg D A s.heap H locs (wX cI cZ cQ ad u11) := by rw [eu11]; exact G
      have h := nm_at eu11 h
      clear eu11
      refine lv_aload_n hx hb dX2_takeInSequence_48 rfl (lv_at hl 2 rfl) ?_
      refine lv_dup hx hb dX2_takeInSequence_49 rfl ?_
      refine gX_26_10 X K G q_211 dX2_takeInSequence_50 ?_
      refine lv_iconst (v := 1) hx hb dX2_takeInSequence_53 (by decide) ?_
      refine lv_iload_n hx hb dX2_takeInSequence_54 rfl (lv_at hl 1 rfl) ?_
      refine lv_ishl hx hb dX2_takeInSequence_55 ?_
      refine lv_ior hx hb dX2_takeInSequence_56 ?_
      refine lv_topi (fun x12 ex12 => ?_)
      have h := nm_at ex12 h
      refine pX_26_10 X K G q_211 dX2_takeInSequence_57 (fun H locs G => ?_)
      obtain ⟨u13, eu13⟩ : ∃ z : XS, z = sH u11 (hu_inTime (xH u11) x12) := ⟨_, rfl⟩
      have G : wg D A s.heap H locs (wX cI cZ cQ ad u13) := by rw [eu13]; exact G
      have h := nm_at eu13 h
      clear eu13
      refine lv_aload_n hx hb dX2_takeInSequence_60 rfl (lv_at hl 2 rfl) ?_
      refine lv_aload_n hx hb dX2_takeInSequence_61 rfl (lv_at hl 2 rfl) ?_
      refine gX_26_11 X K G q_213 dX2_takeInSequence_62 ?_
      refine lv_iload hx hb dX2_takeInSequence_65 (lv_at hl 0 rfl) ?_
      refine va_mmax hx hb (by rw [X.2.2.1]; exact hl.1.symm) X.2.2.2.1 (X.2.2.2.2.1 _ q_728) (X.2.2.2.2.1 _ my_J9_max_7cf53.1) (X.2.2.2.2.1 _ my_J9_max_7cf53.2.1) (X.2.2.2.2.1 _ my_J9_max_7cf53.2.2.1) (Nat.le_of_ble_eq_true rfl) (Nat.le_of_ble_eq_true rfl) (Nat.zero_le _) (Nat.zero_le _) dX2_takeInSequence_67 ?_
      refine lv_topi (fun x14 ex14 => ?_)
      have h := nm_at ex14 h
      refine pX_26_11 X K G q_213 dX2_takeInSequence_70 (fun H locs G => ?_)
      obtain ⟨u15, eu15⟩ : ∃ z : XS, z = sH u13 (hu_lastDay (xH u13) x14) := ⟨_, rfl⟩
      have G : wg D A s.heap H locs (wX cI cZ cQ ad u15) := by rw [eu15]; exact G
      have h := nm_at eu15 h
      clear eu15
      obtain ⟨x16, ex16⟩ : ∃ z : Int32, z = v2 + (1 : Int32) := ⟨_, rfl⟩
      have h := nm_at ex16 h
      refine lv_iinc (v := x16) (lv' := [(2, .int x16), (4, .int r4), (3, .int x3), (0, .ref (ad 26)), (1, .int v1)]) hx hb dX2_takeInSequence_73 hl (k := 4) rfl (by rw [ex16]; rfl) (by decide) rfl (fun ls hl => ?_)
      refine lv_goto (tgt := 6) hx hb dX2_takeInSequence_76 (by decide) ?_
      exact hB _ _ _ (Option.some.inj h).symm _ _ _ G (lv_sub hl [3, 4, 0] rfl)
noncomputable def f_X2_takeInSequence_L6_6s (q : Int32 × Int32 × XS) : Option ((Int32 × Int32 × XS) ⊕ ((Int32 × XS) ⊕ (XS))) := f_X2_takeInSequence_L6_6 q.1 q.2.1 q.2.2
set_option maxRecDepth 100000 in
set_option maxHeartbeats 4000000 in
theorem w_X2_takeInSequence_L6_6 (X : cx p s m args meth c cX2_takeInSequence 5 RX2 none) (K : kx D cI cZ cQ adK adV A s s.heap) {e0 : (Int32 × XS) ⊕ (XS)} : ∀ (n : Nat) (v1 : Int32) (v2 : Int32) (u : XS) {H : Heap} {locs : List Loc} {ls : Array Slot}, wh f_X2_takeInSequence_L6_6s n (v1, v2, u) = some e0 → wg D A s.heap H locs (wX cI cZ cQ ad u) → lv_has ls 5 [(0, .ref (ad 26)), (1, .int v1), (2, .int v2)] → (∀ (u : XS), e0 = .inr u → ∀ (H : Heap) (locs : List Loc) (ls : Array Slot), wg D A s.heap H locs (wX cI cZ cQ ad u) → lv_has ls 5 [] → W p l e { frames := 4, cells := 0, slots := 0, locals := 102 } s m args below meth c H locs 0 0 Q (F0 m 79 ls [])) → (∀ (r : Int32) (u : XS), e0 = .inl (r, u) → Q = (qV D A (wX cI cZ cQ ad) below args s u)) → W p l e { frames := 4, cells := 0, slots := 0, locals := 102 } s m args below meth c H locs 0 0 Q (F0 m 6 ls []) := by
  intro n
  induction n with
  | zero => intro v1 v2 u H locs ls h; cases h
  | succ n ih =>
    intro v1 v2 u H locs ls h G hl hX hR
    obtain ⟨q, h1, h2, h3⟩ := wh_at h
    exact b_X2_takeInSequence_L6_6 X K G hl (show f_X2_takeInSequence_L6_6 v1 v2 u = some q from h1) (fun b0 b1 b2 ee H locs ls G hl => ih b0 b1 b2 (h2 _ ee) G hl hX hR) (fun z0 ee => hX z0 (h3 _ ee).symm) (fun r u ee => hR r u (h3 _ ee).symm)
noncomputable def f_X2_takeInSequence (a1 : Int32) (u0 : XS) : Option (Int32 × XS) :=
  bnd (f_X2_forget  u0) fun r1 u2 =>
  bne (wl f_X2_takeInSequence_L6_6s (a1, (0 : Int32), u2)) (fun a => some a) fun b =>
    nmv b fun u5 =>
    some ((0 : Int32), u5)
set_option maxRecDepth 100000 in
set_option maxHeartbeats 4000000 in
theorem c_X2_takeInSequence {a1 : Int32} {u0 : XS} {r : Int32} {u' : XS} (h : f_X2_takeInSequence a1 u0 = some (r, u')) : MV l D cI cZ cQ adK adV A yX2_takeInSequence cX2_takeInSequence 5 { frames := 4, cells := 0, slots := 0, locals := 102 } [.ref (ad 26), .int a1] (wX cI cZ cQ ad) u0 u' := by
  unfold f_X2_takeInSequence at h
  refine entV (by decide) (Nat.le_of_ble_eq_true rfl) (fun p e s m below meth c ls X K G hl => ?_)
  have hl : lv_has ls 5 [(0, .ref (ad 26)), (1, .int a1)] := hl
  obtain ⟨hx, hb, -⟩ := id X
  generalize hH : s.heap = H at G
  subst hH
  refine lv_aload_n hx hb dX2_takeInSequence_0 rfl (lv_at hl 0 rfl) ?_
  obtain ⟨r1, u2, er1, h⟩ := bnd_at h
  refine cvV (rest := []) X K G (c_X2_forget er1) q_700 my_X2_forget ⟨rfl, rfl⟩ ⟨Nat.le_of_ble_eq_true rfl, Nat.le_of_ble_eq_true rfl⟩ ⟨Nat.zero_le _, Nat.zero_le _⟩ 26 2 rfl rfl rfl rfl hl.1 rfl (Nat.le_of_ble_eq_true rfl) dX2_takeInSequence_1 (fun H locs G => ?_)
  clear er1
  refine lv_iconst (v := 0) hx hb dX2_takeInSequence_4 (by decide) ?_
  refine lv_istore_n (lv' := [(2, .int (0 : Int32)), (0, .ref (ad 26)), (1, .int a1)]) hx hb dX2_takeInSequence_5 rfl hl (by decide) rfl (fun ls hl => ?_)
  obtain ⟨q4, hq4, ha, hb1⟩ := bne_at h
  obtain ⟨n3, hn3⟩ := wl_iff.mp hq4
  refine w_X2_takeInSequence_L6_6 X K n3 _ _ _ hn3 G (lv_sub hl [1, 2, 0] rfl) (fun  u5 ee H locs ls G hl => ?_) (fun r u1 ee => by obtain ⟨rfl, rfl⟩ := pair_at (ha _ ee); rfl)
  have h := hb1 _ ee
  clear ee ha hb1 hq4 hn3
  have h := nm_at (x := u5) rfl h
  obtain ⟨rfl, rfl⟩ := pair_at h
  exact reV X G dX2_takeInSequence_79
end WALK_cls3
