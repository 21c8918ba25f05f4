section WALK_cls5
variable {p : Program} {l : Launch} {e : Env} {s : State} {m : MethodId} {args : Array Value} {below : List Frame} {meth : Method} {c : Code} {H : Heap} {locs : List Loc} {Q : State → Prop} {D : va_G} {cI cZ cQ : ClassId} {adK adV ad : Nat → Nat} {A : Nat → Prop} {ls : Array Slot}
noncomputable def f_X6_nearFor_L45_45 (v1 : Int32) (v2 : Int32) (v3 : Int32) (v4 : Int32) (v5 : Int32) (v6 : Int32) (u0 : XS) : Option ((Int32 × Int32 × Int32 × Int32 × Int32 × Int32 × XS) ⊕ ((Int32 × XS) ⊕ (Int32 × Int32 × Int32 × XS))) :=
  (if (11 : Int32) < v6 then
    some (.inr (.inr (v3, v4, v5, u0)))
  else
    nmv (sT u0 (uNear (xT u0) v6)) fun u2 =>
    bnd (f_X0_readyFrom v1 v2 u2) fun r3 u4 =>
    bnd (f_X6_isSooner r3 v4 u4) fun r5 u6 =>
    (if r5 = 0 then
      nmv (v6 + (1 : Int32)) fun x8 =>
      some (.inl (v1, v2, v3, v4, v5, x8, u6))
    else
      nmv (v6 + (1 : Int32)) fun x9 =>
      some (.inl (v1, v2, v3, r3, v6, x9, u6))))
set_option maxRecDepth 100000 in
set_option maxHeartbeats 4000000 in
theorem b_X6_nearFor_L45_45 (X : cx p s m args meth c cX6_nearFor 8 RX6 (some .int)) (K : kx D cI cZ cQ adK adV A s s.heap) {v1 : Int32} {v2 : Int32} {v3 : Int32} {v4 : Int32} {v5 : Int32} {v6 : Int32} {u0 : XS} (G : wg D A s.heap H locs (wX cI cZ cQ ad u0)) (hl : lv_has ls 8 [(0, .ref (ad 0)), (1, .int v1), (2, .int v2), (3, .int v3), (4, .int v4), (5, .int v5), (6, .int v6)]) {q : ((Int32 × Int32 × Int32 × Int32 × Int32 × Int32 × XS) ⊕ ((Int32 × XS) ⊕ (Int32 × Int32 × Int32 × XS)))} (h : f_X6_nearFor_L45_45 v1 v2 v3 v4 v5 v6 u0 = some q) (hB : ∀ (v1 : Int32) (v2 : Int32) (v3 : Int32) (v4 : Int32) (v5 : Int32) (v6 : Int32) (u : XS), q = .inl (v1, v2, v3, v4, v5, v6, u) → ∀ (H : Heap) (locs : List Loc) (ls : Array Slot), wg D A s.heap H locs (wX cI cZ cQ ad u) → lv_has ls 8 [(0, .ref (ad 0)), (1, .int v1), (2, .int v2), (3, .int v3), (4, .int v4), (5, .int v5), (6, .int v6)] → W p l e { frames := 6, cells := 0, slots := 0, locals := 145 } s m args below meth c H locs 0 0 Q (F0 m 45 ls [])) (hX : ∀ (v3 : Int32) (v4 : Int32) (v5 : Int32) (u : XS), q = .inr (.inr (v3, v4, v5, u)) → ∀ (H : Heap) (locs : List Loc) (ls : Array Slot), wg D A s.heap H locs (wX cI cZ cQ ad u) → lv_has ls 8 [(0, .ref (ad 0)), (3, .int v3), (4, .int v4), (5, .int v5)] → W p l e { frames := 6, cells := 0, slots := 0, locals := 145 } s m args below meth c H locs 0 0 Q (F0 m 96 ls [])) (hR : ∀ (r : Int32) (u : XS), q = .inr (.inl (r, u)) → Q = (qI D A (wX cI cZ cQ ad) below args s r u)) : W p l e { frames := 6, cells := 0, slots := 0, locals := 145 } s m args below meth c H locs 0 0 Q (F0 m 45 ls []) := by
  unfold f_X6_nearFor_L45_45 at h
  obtain ⟨hx, hb, -⟩ := id X
  refine lv_iload hx hb dX6_nearFor_45 (lv_at hl 6 rfl) ?_
  refine lv_bipush (v := 11) hx hb dX6_nearFor_47 (by decide) ?_
  refine lv_icmp_gt (tgt := 96) hx hb dX6_nearFor_49 (by decide) (fun c1 => ?_) (fun c1 => ?_)
  · have h := it_at c1 h
    exact hX _ _ _ _ (Option.some.inj h).symm _ _ _ G (lv_sub hl [0, 3, 4, 5] rfl)
  · have h := if_at c1 h
    refine lv_aload_n hx hb dX6_nearFor_52 rfl (lv_at hl 0 rfl) ?_
    refine gX_0_0 X K G q_300 dX6_nearFor_53 ?_
    refine lv_iload hx hb dX6_nearFor_56 (lv_at hl 6 rfl) ?_
    refine pX_1_1 X K G q_109 dX6_nearFor_58 (fun H locs G => ?_)
    obtain ⟨u2, eu2⟩ : ∃ z : XS, z = sT u0 (uNear (xT u0) v6) := ⟨_, rfl⟩
    have G : wg D A s.heap H locs (wX cI cZ cQ ad u2) := by rw [eu2]; exact G
    have h := nm_at eu2 h
    clear eu2
    refine lv_aload_n hx hb dX6_nearFor_61 rfl (lv_at hl 0 rfl) ?_
    refine gX_0_4 X K G q_304 dX6_nearFor_62 ?_
    refine lv_iload_n hx hb dX6_nearFor_65 rfl (lv_at hl 1 rfl) ?_
    refine lv_iload_n hx hb dX6_nearFor_66 rfl (lv_at hl 2 rfl) ?_
    obtain ⟨r3, u4, er3, h⟩ := bnd_at h
    refine cvI (rest := []) X K G (c_X0_readyFrom er3) q_633 my_X0_readyFrom ⟨rfl, rfl⟩ ⟨Nat.le_of_ble_eq_true rfl, Nat.le_of_ble_eq_true rfl⟩ ⟨Nat.zero_le _, Nat.zero_le _⟩ 24 0 rfl rfl rfl rfl hl.1 rfl (Nat.le_of_ble_eq_true rfl) dX6_nearFor_67 (fun H locs G => ?_)
    clear er3
    refine lv_istore (lv' := [(7, .int r3), (0, .ref (ad 0)), (1, .int v1), (2, .int v2), (3, .int v3), (4, .int v4), (5, .int v5), (6, .int v6)]) hx hb dX6_nearFor_70 hl (by decide) rfl (fun ls hl => ?_)
    refine lv_iload hx hb dX6_nearFor_72 (lv_at hl 0 rfl) ?_
    refine lv_iload hx hb dX6_nearFor_74 (lv_at hl 5 rfl) ?_
    obtain ⟨r5, u6, er5, h⟩ := bnd_at h
    refine csI (rest := []) X K G (c_X6_isSooner er5) q_800 my_X6_isSooner ⟨rfl, rfl⟩ ⟨Nat.le_of_ble_eq_true rfl, Nat.le_of_ble_eq_true rfl⟩ ⟨Nat.zero_le _, Nat.zero_le _⟩ rfl hl.1 rfl (Nat.le_of_ble_eq_true rfl) dX6_nearFor_76 (fun H locs G => ?_)
    clear er5
    refine lv_if_eq (tgt := 90) hx hb dX6_nearFor_79 (by decide) (fun c7 => ?_) (fun c7 => ?_)
    · have h := it_at c7 h
      obtain ⟨x8, ex8⟩ : ∃ z : Int32, z = v6 + (1 : Int32) := ⟨_, rfl⟩
      have h := nm_at ex8 h
      refine lv_iinc (v := x8) (lv' := [(6, .int x8), (7, .int r3), (0, .ref (ad 0)), (1, .int v1), (2, .int v2), (3, .int v3), (4, .int v4), (5, .int v5)]) hx hb dX6_nearFor_90 hl (k := 7) rfl (by rw [ex8]; rfl) (by decide) rfl (fun ls hl => ?_)
      refine lv_goto (tgt := 45) hx hb dX6_nearFor_93 (by decide) ?_
      exact hB _ _ _ _ _ _ _ (Option.some.inj h).symm _ _ _ G (lv_sub hl [2, 3, 4, 5, 6, 7, 0] rfl)
    · have h := if_at c7 h
      refine lv_iload hx hb dX6_nearFor_82 (lv_at hl 0 rfl) ?_
      refine lv_istore (lv' := [(4, .int r3), (7, .int r3), (0, .ref (ad 0)), (1, .int v1), (2, .int v2), (3, .int v3), (5, .int v5), (6, .int v6)]) hx hb dX6_nearFor_84 hl (by decide) rfl (fun ls hl => ?_)
      refine lv_iload hx hb dX6_nearFor_86 (lv_at hl 7 rfl) ?_
      refine lv_istore (lv' := [(5, .int v6), (4, .int r3), (7, .int r3), (0, .ref (ad 0)), (1, .int v1), (2, .int v2), (3, .int v3), (6, .int v6)]) hx hb dX6_nearFor_88 hl (by decide) rfl (fun ls hl => ?_)
      obtain ⟨x9, ex9⟩ : ∃ z : Int32, z = v6 + (1 : Int32) := ⟨_, rfl⟩
      have h := nm_at ex9 h
      refine lv_iinc (v := x9) (lv' := [(6, .int x9), (5, .int v6), (4, .int r3), (7, .int r3), (0, .ref (ad 0)), (1, .int v1), (2, .int v2), (3, .int v3)]) hx hb dX6_nearFor_90 hl (k := 7) rfl (by rw [ex9]; rfl) (by decide) rfl (fun ls hl => ?_)
      refine lv_goto (tgt := 45) hx hb dX6_nearFor_93 (by decide) ?_
      exact hB _ _ _ _ _ _ _ (Option.some.inj h).symm _ _ _ G (lv_sub hl [4, 5, 6, 7, 2, 1, 0] rfl)
noncomputable def f_X6_nearFor_L45_45s (q : Int32 × Int32 × Int32 × Int32 × Int32 × Int32 × XS) : Option ((Int32 × Int32 × Int32 × Int32 × Int32 × Int32 × XS) ⊕ ((Int32 × XS) ⊕ (Int32 × Int32 × Int32 × XS))) := f_X6_nearFor_L45_45 q.1 q.2.1 q.2.2.1 q.2.2.2.1 q.2.2.2.2.1 q.2.2.2.2.2.1 q.2.2.2.2.2.2
set_option maxRecDepth 100000 in
set_option maxHeartbeats 4000000 in
theorem w_X6_nearFor_L45_45 (X : cx p s m args meth c cX6_nearFor 8 RX6 (some .int)) (K : kx D cI cZ cQ adK adV A s s.heap) {e0 : (Int32 × XS) ⊕ (Int32 × Int32 × Int32 × XS)} : ∀ (n : Nat) (v1 : Int32) (v2 : Int32) (v3 : Int32) (v4 : Int32) (v5 : Int32) (v6 : Int32) (u : XS) {H : Heap} {locs : List Loc} {ls : Array Slot}, wh f_X6_nearFor_L45_45s n (v1, v2, v3, v4, v5, v6, u) = some e0 → wg D A s.heap H locs (wX cI cZ cQ ad u) → lv_has ls 8 [(0, .ref (ad 0)), (1, .int v1), (2, .int v2), (3, .int v3), (4, .int v4), (5, .int v5), (6, .int v6)] → (∀ (v3 : Int32) (v4 : Int32) (v5 : Int32) (u : XS), e0 = .inr (v3, v4, v5, u) → ∀ (H : Heap) (locs : List Loc) (ls : Array Slot), wg D A s.heap H locs (wX cI cZ cQ ad u) → lv_has ls 8 [(0, .ref (ad 0)), (3, .int v3), (4, .int v4), (5, .int v5)] → W p l e { frames := 6, cells := 0, slots := 0, locals := 145 } s m args below meth c H locs 0 0 Q (F0 m 96 ls [])) → (∀ (r : Int32) (u : XS), e0 = .inl (r, u) → Q = (qI D A (wX cI cZ cQ ad) below args s r u)) → W p l e { frames := 6, cells := 0, slots := 0, locals := 145 } s m args below meth c H locs 0 0 Q (F0 m 45 ls []) := by
  intro n
  induction n with
  | zero => intro v1 v2 v3 v4 v5 v6 u H locs ls h; cases h
  | succ n ih =>
    intro v1 v2 v3 v4 v5 v6 u H locs ls h G hl hX hR
    obtain ⟨q, h1, h2, h3⟩ := wh_at h
    exact b_X6_nearFor_L45_45 X K G hl (show f_X6_nearFor_L45_45 v1 v2 v3 v4 v5 v6 u = some q from h1) (fun b0 b1 b2 b3 b4 b5 b6 ee H locs ls G hl => ih b0 b1 b2 b3 b4 b5 b6 (h2 _ ee) G hl hX hR) (fun z0 z1 z2 z3 ee => hX z0 z1 z2 z3 (h3 _ ee).symm) (fun r u ee => hR r u (h3 _ ee).symm)
noncomputable def f_X6_nearFor (a1 : Int32) (a2 : Int32) (u0 : XS) : Option (Int32 × XS) :=
  bnd (f_X5_hasThing a1 u0) fun r1 u2 =>
  (if r1 = 0 then
    bnd (f_X6_found (0 : Int32) u2) fun r4 u5 =>
    some (r4, u5)
  else
    bnd (f_X6_within a2 (0 : Int32) (999 : Int32) u2) fun r6 u7 =>
    (if r6 = 0 then
      bnd (f_X6_found (0 : Int32) u7) fun r20 u21 =>
      some (r20, u21)
    else
      nmv (tNear (xT u7)) fun x9 =>
      bne (wl f_X6_nearFor_L45_45s (a1, a2, x9, (-1 : Int32), (-1 : Int32), (-1 : Int32), u7)) (fun a => some a) fun b =>
        nmv b.1 fun y13 =>
        nmv b.2.1 fun y14 =>
        nmv b.2.2.1 fun y15 =>
        nmv b.2.2.2 fun u12 =>
        nmv (sT u12 (uNear (xT u12) y13)) fun u16 =>
        (if 0 ≤ y14 then
          some (y15, u16)
        else
          bnd (f_X6_found (3 : Int32) u16) fun r18 u19 =>
          some (r18, u19))))
set_option maxRecDepth 100000 in
set_option maxHeartbeats 4000000 in
theorem c_X6_nearFor {a1 : Int32} {a2 : Int32} {u0 : XS} {r : Int32} {u' : XS} (h : f_X6_nearFor a1 a2 u0 = some (r, u')) : MI l D cI cZ cQ adK adV A yX6_nearFor cX6_nearFor 8 (some .int) { frames := 6, cells := 0, slots := 0, locals := 145 } [.ref (ad 0), .int a1, .int a2] (wX cI cZ cQ ad) u0 r u' := by
  unfold f_X6_nearFor at h
  refine entI (by decide) (Nat.le_of_ble_eq_true rfl) (fun p e s m below meth c ls X K G hl => ?_)
  have hl : lv_has ls 8 [(0, .ref (ad 0)), (1, .int a1), (2, .int a2)] := hl
  obtain ⟨hx, hb, -⟩ := id X
  generalize hH : s.heap = H at G
  subst hH
  refine lv_aload_n hx hb dX6_nearFor_0 rfl (lv_at hl 0 rfl) ?_
  refine gX_0_0 X K G q_300 dX6_nearFor_1 ?_
  refine lv_iload_n hx hb dX6_nearFor_4 rfl (lv_at hl 1 rfl) ?_
  obtain ⟨r1, u2, er1, h⟩ := bnd_at h
  refine cvI (rest := []) X K G (c_X5_hasThing er1) q_553 my_X5_hasThing ⟨rfl, rfl⟩ ⟨Nat.le_of_ble_eq_true rfl, Nat.le_of_ble_eq_true rfl⟩ ⟨Nat.zero_le _, Nat.zero_le _⟩ 1 5 rfl rfl rfl rfl hl.1 rfl (Nat.le_of_ble_eq_true rfl) dX6_nearFor_5 (fun H locs G => ?_)
  clear er1
  refine lv_if_eq (tgt := 22) hx hb dX6_nearFor_8 (by decide) (fun c3 => ?_) (fun c3 => ?_)
  · have h := it_at c3 h
    refine lv_aload_n hx hb dX6_nearFor_22 rfl (lv_at hl 0 rfl) ?_
    refine lv_iconst (v := 0) hx hb dX6_nearFor_23 (by decide) ?_
    obtain ⟨r4, u5, er4, h⟩ := bnd_at h
    refine cvI (rest := []) X K G (c_X6_found er4) q_338 my_X6_found ⟨rfl, rfl⟩ ⟨Nat.le_of_ble_eq_true rfl, Nat.le_of_ble_eq_true rfl⟩ ⟨Nat.zero_le _, Nat.zero_le _⟩ 0 6 rfl rfl rfl rfl hl.1 rfl (Nat.le_of_ble_eq_true rfl) dX6_nearFor_24 (fun H locs G => ?_)
    clear er4
    obtain ⟨rfl, rfl⟩ := pair_at h
    exact reI X G dX6_nearFor_27
  · have h := if_at c3 h
    refine lv_iload_n hx hb dX6_nearFor_11 rfl (lv_at hl 2 rfl) ?_
    refine lv_iconst (v := 0) hx hb dX6_nearFor_12 (by decide) ?_
    refine lv_sipush (v := 999) hx hb dX6_nearFor_13 (by decide) ?_
    obtain ⟨r6, u7, er6, h⟩ := bnd_at h
    refine csI (rest := []) X K G (c_X6_within er6) q_335 my_X6_within ⟨rfl, rfl⟩ ⟨Nat.le_of_ble_eq_true rfl, Nat.le_of_ble_eq_true rfl⟩ ⟨Nat.zero_le _, Nat.zero_le _⟩ rfl hl.1 rfl (Nat.le_of_ble_eq_true rfl) dX6_nearFor_16 (fun H locs G => ?_)
    clear er6
    refine lv_if_ne (tgt := 28) hx hb dX6_nearFor_19 (by decide) (fun c8 => ?_) (fun c8 => ?_)
    · have h := if_at c8 h
      refine lv_aload_n hx hb dX6_nearFor_28 rfl (lv_at hl 0 rfl) ?_
      refine gX_0_0 X K G q_300 dX6_nearFor_29 ?_
      refine gX_1_1 X K G q_109 dX6_nearFor_32 ?_
      refine lv_topi (fun x9 ex9 => ?_)
      have h := nm_at ex9 h
      refine lv_istore_n (lv' := [(3, .int x9), (0, .ref (ad 0)), (1, .int a1), (2, .int a2)]) hx hb dX6_nearFor_35 rfl hl (by decide) rfl (fun ls hl => ?_)
      refine lv_iconst (v := -1) hx hb dX6_nearFor_36 (by decide) ?_
      refine lv_istore (lv' := [(4, .int (-1 : Int32)), (3, .int x9), (0, .ref (ad 0)), (1, .int a1), (2, .int a2)]) hx hb dX6_nearFor_37 hl (by decide) rfl (fun ls hl => ?_)
      refine lv_iconst (v := -1) hx hb dX6_nearFor_39 (by decide) ?_
      refine lv_istore (lv' := [(5, .int (-1 : Int32)), (4, .int (-1 : Int32)), (3, .int x9), (0, .ref (ad 0)), (1, .int a1), (2, .int a2)]) hx hb dX6_nearFor_40 hl (by decide) rfl (fun ls hl => ?_)
      refine lv_iconst (v := -1) hx hb dX6_nearFor_42 (by decide) ?_
      refine lv_istore (lv' := [(6, .int (-1 : Int32)), (5, .int (-1 : Int32)), (4, .int (-1 : Int32)), (3, .int x9), (0, .ref (ad 0)), (1, .int a1), (2, .int a2)]) hx hb dX6_nearFor_43 hl (by decide) rfl (fun ls hl => ?_)
      obtain ⟨q11, hq11, ha, hb1⟩ := bne_at h
      obtain ⟨n10, hn10⟩ := wl_iff.mp hq11
      refine w_X6_nearFor_L45_45 X K n10 _ _ _ _ _ _ _ hn10 G (lv_sub hl [4, 5, 6, 3, 2, 1, 0] rfl) (fun y13 y14 y15 u12 ee H locs ls G hl => ?_) (fun r u1 ee => by obtain ⟨rfl, rfl⟩ := pair_at (ha _ ee); rfl)
      have h := hb1 _ ee
      clear ee ha hb1 hq11 hn10
      have h := nm_at (x := y13) rfl h
      have h := nm_at (x := y14) rfl h
      have h := nm_at (x := y15) rfl h
      have h := nm_at (x := u12) rfl h
      refine lv_aload_n hx hb dX6_nearFor_96 rfl (lv_at hl 0 rfl) ?_
      refine gX_0_0 X K G q_300 dX6_nearFor_97 ?_
      refine lv_iload_n hx hb dX6_nearFor_100 rfl (lv_at hl 1 rfl) ?_
      refine pX_1_1 X K G q_109 dX6_nearFor_101 (fun H locs G => ?_)
      obtain ⟨u16, eu16⟩ : ∃ z : XS, z = sT u12 (uNear (xT u12) y13) := ⟨_, rfl⟩
      have G : wg D A s.heap H locs (wX cI cZ cQ ad u16) := by rw [eu16]; exact G
      have h := nm_at eu16 h
      clear eu16
      refine lv_iload hx hb dX6_nearFor_104 (lv_at hl 2 rfl) ?_
      refine lv_if_ge (tgt := 117) hx hb dX6_nearFor_106 (by decide) (fun c17 => ?_) (fun c17 => ?_)
      · have h := it_at c17 h
        refine lv_iload hx hb dX6_nearFor_117 (lv_at hl 3 rfl) ?_
        obtain ⟨rfl, rfl⟩ := pair_at h
        exact reI X G dX6_nearFor_119
      · have h := if_at c17 h
        refine lv_aload_n hx hb dX6_nearFor_109 rfl (lv_at hl 0 rfl) ?_
        refine lv_iconst (v := 3) hx hb dX6_nearFor_110 (by decide) ?_
        obtain ⟨r18, u19, er18, h⟩ := bnd_at h
        refine cvI (rest := []) X K G (c_X6_found er18) q_338 my_X6_found ⟨rfl, rfl⟩ ⟨Nat.le_of_ble_eq_true rfl, Nat.le_of_ble_eq_true rfl⟩ ⟨Nat.zero_le _, Nat.zero_le _⟩ 0 6 rfl rfl rfl rfl hl.1 rfl (Nat.le_of_ble_eq_true rfl) dX6_nearFor_111 (fun H locs G => ?_)
        clear er18
        refine lv_goto (tgt := 119) hx hb dX6_nearFor_114 (by decide) ?_
        obtain ⟨rfl, rfl⟩ := pair_at h
        exact reI X G dX6_nearFor_119
    · have h := it_at c8 h
      refine lv_aload_n hx hb dX6_nearFor_22 rfl (lv_at hl 0 rfl) ?_
      refine lv_iconst (v := 0) hx hb dX6_nearFor_23 (by decide) ?_
      obtain ⟨r20, u21, er20, h⟩ := bnd_at h
      refine cvI (rest := []) X K G (c_X6_found er20) q_338 my_X6_found ⟨rfl, rfl⟩ ⟨Nat.le_of_ble_eq_true rfl, Nat.le_of_ble_eq_true rfl⟩ ⟨Nat.zero_le _, Nat.zero_le _⟩ 0 6 rfl rfl rfl rfl hl.1 rfl (Nat.le_of_ble_eq_true rfl) dX6_nearFor_24 (fun H locs G => ?_)
      clear er20
      obtain ⟨rfl, rfl⟩ := pair_at h
      exact reI X G dX6_nearFor_27
noncomputable def f_X5_draw (u0 : XS) : Option (Int32 × XS) :=
  nmv (((tZ (xT u0)) * (1103515245 : Int32)) + (12345 : Int32)) fun x1 =>
  nmv (sT u0 (uZ (xT u0) x1)) fun u2 =>
  some (((tZ (xT u2)).toUInt32 >>> ((8 : Int32).toUInt32 &&& Int32.toUInt32 31)).toInt32, u2)
set_option maxRecDepth 100000 in
set_option maxHeartbeats 4000000 in
theorem c_X5_draw {u0 : XS} {r : Int32} {u' : XS} (h : f_X5_draw  u0 = some (r, u')) : MI l D cI cZ cQ adK adV A yX5_draw cX5_draw 1 (some .int) { frames := 0, cells := 0, slots := 0, locals := 0 } [.ref (ad 1)] (wX cI cZ cQ ad) u0 r u' := by
  unfold f_X5_draw at h
  refine entI (by decide) (Nat.le_of_ble_eq_true rfl) (fun p e s m below meth c ls X K G hl => ?_)
  have hl : lv_has ls 1 [(0, .ref (ad 1))] := hl
  obtain ⟨hx, hb, -⟩ := id X
  generalize hH : s.heap = H at G
  subst hH
  refine lv_aload_n hx hb dX5_draw_0 rfl (lv_at hl 0 rfl) ?_
  refine lv_aload_n hx hb dX5_draw_1 rfl (lv_at hl 0 rfl) ?_
  refine gX_1_2 X K G q_110 dX5_draw_2 ?_
  refine lv_ldc (v := 1103515245) hx hb X.2.2.2.1 (X.2.2.2.2.1 _ q_817) dX5_draw_5 ?_
  refine lv_imul hx hb dX5_draw_7 ?_
  refine lv_sipush (v := 12345) hx hb dX5_draw_8 (by decide) ?_
  refine lv_iadd hx hb dX5_draw_11 ?_
  refine lv_topi (fun x1 ex1 => ?_)
  have h := nm_at ex1 h
  refine pX_1_2 X K G q_110 dX5_draw_12 (fun H locs G => ?_)
  obtain ⟨u2, eu2⟩ : ∃ z : XS, z = sT u0 (uZ (xT u0) x1) := ⟨_, rfl⟩
  have G : wg D A s.heap H locs (wX cI cZ cQ ad u2) := by rw [eu2]; exact G
  have h := nm_at eu2 h
  clear eu2
  refine lv_aload_n hx hb dX5_draw_15 rfl (lv_at hl 0 rfl) ?_
  refine gX_1_2 X K G q_110 dX5_draw_16 ?_
  refine lv_bipush (v := 8) hx hb dX5_draw_19 (by decide) ?_
  refine lv_iushr hx hb dX5_draw_21 rfl ?_
  obtain ⟨rfl, rfl⟩ := pair_at h
  exact reI X G dX5_draw_22
noncomputable def f_X6_chance_L32_32 (v1 : Int32) (v2 : Int32) (v3 : Int32) (v4 : Int32) (u0 : XS) : Option ((Int32 × Int32 × Int32 × Int32 × XS) ⊕ ((Int32 × XS) ⊕ (Int32 × XS))) :=
  (if v2 ≤ v4 then
    some (.inr (.inr (v3, u0)))
  else
    bnd (f_X5_draw  u0) fun r2 u3 =>
    bnd (f_X0_goThrough v1 (r2 - r2 / (60 : Int32) * (60 : Int32)) u3) fun r4 u5 =>
    (if 0 ≤ r4 then
      nmv (v4 + (1 : Int32)) fun x7 =>
      some (.inl (v1, v2, v3, x7, u5))
    else
      nmv (v3 + (1 : Int32)) fun x8 =>
      nmv (v4 + (1 : Int32)) fun x9 =>
      some (.inl (v1, v2, x8, x9, u5))))
set_option maxRecDepth 100000 in
set_option maxHeartbeats 4000000 in
theorem b_X6_chance_L32_32 (X : cx p s m args meth c cX6_chance 5 RX6 (some .int)) (K : kx D cI cZ cQ adK adV A s s.heap) {v1 : Int32} {v2 : Int32} {v3 : Int32} {v4 : Int32} {u0 : XS} (G : wg D A s.heap H locs (wX cI cZ cQ ad u0)) (hl : lv_has ls 5 [(0, .ref (ad 0)), (1, .int v1), (2, .int v2), (3, .int v3), (4, .int v4)]) {q : ((Int32 × Int32 × Int32 × Int32 × XS) ⊕ ((Int32 × XS) ⊕ (Int32 × XS)))} (h : f_X6_chance_L32_32 v1 v2 v3 v4 u0 = some q) (hB : ∀ (v1 : Int32) (v2 : Int32) (v3 : Int32) (v4 : Int32) (u : XS), q = .inl (v1, v2, v3, v4, u) → ∀ (H : Heap) (locs : List Loc) (ls : Array Slot), wg D A s.heap H locs (wX cI cZ cQ ad u) → lv_has ls 5 [(0, .ref (ad 0)), (1, .int v1), (2, .int v2), (3, .int v3), (4, .int v4)] → W p l e { frames := 4, cells := 0, slots := 0, locals := 100 } s m args below meth c H locs 0 0 Q (F0 m 32 ls [])) (hX : ∀ (v3 : Int32) (u : XS), q = .inr (.inr (v3, u)) → ∀ (H : Heap) (locs : List Loc) (ls : Array Slot), wg D A s.heap H locs (wX cI cZ cQ ad u) → lv_has ls 5 [(3, .int v3)] → W p l e { frames := 4, cells := 0, slots := 0, locals := 100 } s m args below meth c H locs 0 0 Q (F0 m 68 ls [])) (hR : ∀ (r : Int32) (u : XS), q = .inr (.inl (r, u)) → Q = (qI D A (wX cI cZ cQ ad) below args s r u)) : W p l e { frames := 4, cells := 0, slots := 0, locals := 100 } s m args below meth c H locs 0 0 Q (F0 m 32 ls []) := by
  unfold f_X6_chance_L32_32 at h
  obtain ⟨hx, hb, -⟩ := id X
  refine lv_iload hx hb dX6_chance_32 (lv_at hl 4 rfl) ?_
  refine lv_iload_n hx hb dX6_chance_34 rfl (lv_at hl 2 rfl) ?_
  refine lv_icmp_ge (tgt := 68) hx hb dX6_chance_35 (by decide) (fun c1 => ?_) (fun c1 => ?_)
  · have h := it_at c1 h
    exact hX _ _ (Option.some.inj h).symm _ _ _ G (lv_sub hl [3] rfl)
  · have h := if_at c1 h
    refine lv_aload_n hx hb dX6_chance_38 rfl (lv_at hl 0 rfl) ?_
    refine gX_0_4 X K G q_304 dX6_chance_39 ?_
    refine lv_iload_n hx hb dX6_chance_42 rfl (lv_at hl 1 rfl) ?_
    refine lv_aload_n hx hb dX6_chance_43 rfl (lv_at hl 0 rfl) ?_
    refine gX_0_0 X K G q_300 dX6_chance_44 ?_
    obtain ⟨r2, u3, er2, h⟩ := bnd_at h
    refine cvI (rest := [.int v1, .ref (ad 24)]) X K G (c_X5_draw er2) q_813 my_X5_draw ⟨rfl, rfl⟩ ⟨Nat.le_of_ble_eq_true rfl, Nat.le_of_ble_eq_true rfl⟩ ⟨Nat.zero_le _, Nat.zero_le _⟩ 1 5 rfl rfl rfl rfl hl.1 rfl (Nat.le_of_ble_eq_true rfl) dX6_chance_47 (fun H locs G => ?_)
    clear er2
    refine lv_bipush (v := 60) hx hb dX6_chance_50 (by decide) ?_
    refine lv_irem hx hb dX6_chance_52 (by decide) ?_
    obtain ⟨r4, u5, er4, h⟩ := bnd_at h
    refine cvI (rest := []) X K G (c_X0_goThrough er4) q_620 my_X0_goThrough ⟨rfl, rfl⟩ ⟨Nat.le_of_ble_eq_true rfl, Nat.le_of_ble_eq_true rfl⟩ ⟨Nat.zero_le _, Nat.zero_le _⟩ 24 0 rfl rfl rfl rfl hl.1 rfl (Nat.le_of_ble_eq_true rfl) dX6_chance_53 (fun H locs G => ?_)
    clear er4
    refine lv_if_ge (tgt := 62) hx hb dX6_chance_56 (by decide) (fun c6 => ?_) (fun c6 => ?_)
    · have h := it_at c6 h
      obtain ⟨x7, ex7⟩ : ∃ z : Int32, z = v4 + (1 : Int32) := ⟨_, rfl⟩
      have h := nm_at ex7 h
      refine lv_iinc (v := x7) (lv' := [(4, .int x7), (0, .ref (ad 0)), (1, .int v1), (2, .int v2), (3, .int v3)]) hx hb dX6_chance_62 hl (k := 4) rfl (by rw [ex7]; rfl) (by decide) rfl (fun ls hl => ?_)
      refine lv_goto (tgt := 32) hx hb dX6_chance_65 (by decide) ?_
      exact hB _ _ _ _ _ (Option.some.inj h).symm _ _ _ G (lv_sub hl [1, 2, 3, 4, 0] rfl)
    · have h := if_at c6 h
      obtain ⟨x8, ex8⟩ : ∃ z : Int32, z = v3 + (1 : Int32) := ⟨_, rfl⟩
      have h := nm_at ex8 h
      refine lv_iinc (v := x8) (lv' := [(3, .int x8), (0, .ref (ad 0)), (1, .int v1), (2, .int v2), (4, .int v4)]) hx hb dX6_chance_59 hl (k := 3) rfl (by rw [ex8]; rfl) (by decide) rfl (fun ls hl => ?_)
      obtain ⟨x9, ex9⟩ : ∃ z : Int32, z = v4 + (1 : Int32) := ⟨_, rfl⟩
      have h := nm_at ex9 h
      refine lv_iinc (v := x9) (lv' := [(4, .int x9), (3, .int x8), (0, .ref (ad 0)), (1, .int v1), (2, .int v2)]) hx hb dX6_chance_62 hl (k := 4) rfl (by rw [ex9]; rfl) (by decide) rfl (fun ls hl => ?_)
      refine lv_goto (tgt := 32) hx hb dX6_chance_65 (by decide) ?_
      exact hB _ _ _ _ _ (Option.some.inj h).symm _ _ _ G (lv_sub hl [2, 3, 4, 1, 0] rfl)
noncomputable def f_X6_chance_L32_32s (q : Int32 × Int32 × Int32 × Int32 × XS) : Option ((Int32 × Int32 × Int32 × Int32 × XS) ⊕ ((Int32 × XS) ⊕ (Int32 × XS))) := f_X6_chance_L32_32 q.1 q.2.1 q.2.2.1 q.2.2.2.1 q.2.2.2.2
set_option maxRecDepth 100000 in
set_option maxHeartbeats 4000000 in
theorem w_X6_chance_L32_32 (X : cx p s m args meth c cX6_chance 5 RX6 (some .int)) (K : kx D cI cZ cQ adK adV A s s.heap) {e0 : (Int32 × XS) ⊕ (Int32 × XS)} : ∀ (n : Nat) (v1 : Int32) (v2 : Int32) (v3 : Int32) (v4 : Int32) (u : XS) {H : Heap} {locs : List Loc} {ls : Array Slot}, wh f_X6_chance_L32_32s n (v1, v2, v3, v4, u) = some e0 → wg D A s.heap H locs (wX cI cZ cQ ad u) → lv_has ls 5 [(0, .ref (ad 0)), (1, .int v1), (2, .int v2), (3, .int v3), (4, .int v4)] → (∀ (v3 : Int32) (u : XS), e0 = .inr (v3, u) → ∀ (H : Heap) (locs : List Loc) (ls : Array Slot), wg D A s.heap H locs (wX cI cZ cQ ad u) → lv_has ls 5 [(3, .int v3)] → W p l e { frames := 4, cells := 0, slots := 0, locals := 100 } s m args below meth c H locs 0 0 Q (F0 m 68 ls [])) → (∀ (r : Int32) (u : XS), e0 = .inl (r, u) → Q = (qI D A (wX cI cZ cQ ad) below args s r u)) → W p l e { frames := 4, cells := 0, slots := 0, locals := 100 } s m args below meth c H locs 0 0 Q (F0 m 32 ls []) := by
  intro n
  induction n with
  | zero => intro v1 v2 v3 v4 u H locs ls h; cases h
  | succ n ih =>
    intro v1 v2 v3 v4 u H locs ls h G hl hX hR
    obtain ⟨q, h1, h2, h3⟩ := wh_at h
    exact b_X6_chance_L32_32 X K G hl (show f_X6_chance_L32_32 v1 v2 v3 v4 u = some q from h1) (fun b0 b1 b2 b3 b4 ee H locs ls G hl => ih b0 b1 b2 b3 b4 (h2 _ ee) G hl hX hR) (fun z0 z1 ee => hX z0 z1 (h3 _ ee).symm) (fun r u ee => hR r u (h3 _ ee).symm)
noncomputable def f_X6_chance (a1 : Int32) (a2 : Int32) (u0 : XS) : Option (Int32 × XS) :=
  bnd (f_X5_hasThing a1 u0) fun r1 u2 =>
  (if r1 = 0 then
    bnd (f_X6_found (0 : Int32) u2) fun r4 u5 =>
    some (r4, u5)
  else
    bnd (f_X6_within a2 (1 : Int32) (40 : Int32) u2) fun r6 u7 =>
    (if r6 = 0 then
      bnd (f_X6_found (0 : Int32) u7) fun r13 u14 =>
      some (r13, u14)
    else
      bne (wl f_X6_chance_L32_32s (a1, a2, (0 : Int32), (0 : Int32), u7)) (fun a => some a) fun b =>
        nmv b.1 fun y12 =>
        nmv b.2 fun u11 =>
        some (y12, u11)))
set_option maxRecDepth 100000 in
set_option maxHeartbeats 4000000 in
theorem c_X6_chance {a1 : Int32} {a2 : Int32} {u0 : XS} {r : Int32} {u' : XS} (h : f_X6_chance a1 a2 u0 = some (r, u')) : MI l D cI cZ cQ adK adV A yX6_chance cX6_chance 5 (some .int) { frames := 4, cells := 0, slots := 0, locals := 100 } [.ref (ad 0), .int a1, .int a2] (wX cI cZ cQ ad) u0 r u' := by
  unfold f_X6_chance at h
  refine entI (by decide) (Nat.le_of_ble_eq_true rfl) (fun p e s m below meth c ls X K G hl => ?_)
  have hl : lv_has ls 5 [(0, .ref (ad 0)), (1, .int a1), (2, .int a2)] := hl
  obtain ⟨hx, hb, -⟩ := id X
  generalize hH : s.heap = H at G
  subst hH
  refine lv_aload_n hx hb dX6_chance_0 rfl (lv_at hl 0 rfl) ?_
  refine gX_0_0 X K G q_300 dX6_chance_1 ?_
  refine lv_iload_n hx hb dX6_chance_4 rfl (lv_at hl 1 rfl) ?_
  obtain ⟨r1, u2, er1, h⟩ := bnd_at h
  refine cvI (rest := []) X K G (c_X5_hasThing er1) q_553 my_X5_hasThing ⟨rfl, rfl⟩ ⟨Nat.le_of_ble_eq_true rfl, Nat.le_of_ble_eq_true rfl⟩ ⟨Nat.zero_le _, Nat.zero_le _⟩ 1 5 rfl rfl rfl rfl hl.1 rfl (Nat.le_of_ble_eq_true rfl) dX6_chance_5 (fun H locs G => ?_)
  clear er1
  refine lv_if_eq (tgt := 21) hx hb dX6_chance_8 (by decide) (fun c3 => ?_) (fun c3 => ?_)
  · have h := it_at c3 h
    refine lv_aload_n hx hb dX6_chance_21 rfl (lv_at hl 0 rfl) ?_
    refine lv_iconst (v := 0) hx hb dX6_chance_22 (by decide) ?_
    obtain ⟨r4, u5, er4, h⟩ := bnd_at h
    refine cvI (rest := []) X K G (c_X6_found er4) q_338 my_X6_found ⟨rfl, rfl⟩ ⟨Nat.le_of_ble_eq_true rfl, Nat.le_of_ble_eq_true rfl⟩ ⟨Nat.zero_le _, Nat.zero_le _⟩ 0 6 rfl rfl rfl rfl hl.1 rfl (Nat.le_of_ble_eq_true rfl) dX6_chance_23 (fun H locs G => ?_)
    clear er4
    obtain ⟨rfl, rfl⟩ := pair_at h
    exact reI X G dX6_chance_26
  · have h := if_at c3 h
    refine lv_iload_n hx hb dX6_chance_11 rfl (lv_at hl 2 rfl) ?_
    refine lv_iconst (v := 1) hx hb dX6_chance_12 (by decide) ?_
    refine lv_bipush (v := 40) hx hb dX6_chance_13 (by decide) ?_
    obtain ⟨r6, u7, er6, h⟩ := bnd_at h
    refine csI (rest := []) X K G (c_X6_within er6) q_335 my_X6_within ⟨rfl, rfl⟩ ⟨Nat.le_of_ble_eq_true rfl, Nat.le_of_ble_eq_true rfl⟩ ⟨Nat.zero_le _, Nat.zero_le _⟩ rfl hl.1 rfl (Nat.le_of_ble_eq_true rfl) dX6_chance_15 (fun H locs G => ?_)
    clear er6
    refine lv_if_ne (tgt := 27) hx hb dX6_chance_18 (by decide) (fun c8 => ?_) (fun c8 => ?_)
    · have h := if_at c8 h
      refine lv_iconst (v := 0) hx hb dX6_chance_27 (by decide) ?_
      refine lv_istore_n (lv' := [(3, .int (0 : Int32)), (0, .ref (ad 0)), (1, .int a1), (2, .int a2)]) hx hb dX6_chance_28 rfl hl (by decide) rfl (fun ls hl => ?_)
      refine lv_iconst (v := 0) hx hb dX6_chance_29 (by decide) ?_
      refine lv_istore (lv' := [(4, .int (0 : Int32)), (3, .int (0 : Int32)), (0, .ref (ad 0)), (1, .int a1), (2, .int a2)]) hx hb dX6_chance_30 hl (by decide) rfl (fun ls hl => ?_)
      obtain ⟨q10, hq10, ha, hb1⟩ := bne_at h
      obtain ⟨n9, hn9⟩ := wl_iff.mp hq10
      refine w_X6_chance_L32_32 X K n9 _ _ _ _ _ hn9 G (lv_sub hl [2, 3, 4, 1, 0] rfl) (fun y12 u11 ee H locs ls G hl => ?_) (fun r u1 ee => by obtain ⟨rfl, rfl⟩ := pair_at (ha _ ee); rfl)
      have h := hb1 _ ee
      clear ee ha hb1 hq10 hn9
      have h := nm_at (x := y12) rfl h
      have h := nm_at (x := u11) rfl h
      refine lv_iload_n hx hb dX6_chance_68 rfl (lv_at hl 0 rfl) ?_
      obtain ⟨rfl, rfl⟩ := pair_at h
      exact reI X G dX6_chance_69
    · have h := it_at c8 h
      refine lv_aload_n hx hb dX6_chance_21 rfl (lv_at hl 0 rfl) ?_
      refine lv_iconst (v := 0) hx hb dX6_chance_22 (by decide) ?_
      obtain ⟨r13, u14, er13, h⟩ := bnd_at h
      refine cvI (rest := []) X K G (c_X6_found er13) q_338 my_X6_found ⟨rfl, rfl⟩ ⟨Nat.le_of_ble_eq_true rfl, Nat.le_of_ble_eq_true rfl⟩ ⟨Nat.zero_le _, Nat.zero_le _⟩ 0 6 rfl rfl rfl rfl hl.1 rfl (Nat.le_of_ble_eq_true rfl) dX6_chance_23 (fun H locs G => ?_)
      clear er13
      obtain ⟨rfl, rfl⟩ := pair_at h
      exact reI X G dX6_chance_26
noncomputable def f_X6_seed (a1 : Int32) (u0 : XS) : Option (Int32 × XS) :=
  nmv (tZ (xT u0)) fun x1 =>
  nmv (sT u0 (uZ (xT u0) a1)) fun u2 =>
  some (x1, u2)
set_option maxRecDepth 100000 in
set_option maxHeartbeats 4000000 in
theorem c_X6_seed {a1 : Int32} {u0 : XS} {r : Int32} {u' : XS} (h : f_X6_seed a1 u0 = some (r, u')) : MI l D cI cZ cQ adK adV A yX6_seed cX6_seed 3 (some .int) { frames := 0, cells := 0, slots := 0, locals := 0 } [.ref (ad 0), .int a1] (wX cI cZ cQ ad) u0 r u' := by
  unfold f_X6_seed at h
  refine entI (by decide) (Nat.le_of_ble_eq_true rfl) (fun p e s m below meth c ls X K G hl => ?_)
  have hl : lv_has ls 3 [(0, .ref (ad 0)), (1, .int a1)] := hl
  obtain ⟨hx, hb, -⟩ := id X
  generalize hH : s.heap = H at G
  subst hH
  refine lv_aload_n hx hb dX6_seed_0 rfl (lv_at hl 0 rfl) ?_
  refine gX_0_0 X K G q_300 dX6_seed_1 ?_
  refine gX_1_2 X K G q_111 dX6_seed_4 ?_
  refine lv_topi (fun x1 ex1 => ?_)
  have h := nm_at ex1 h
  refine lv_istore_n (lv' := [(2, .int x1), (0, .ref (ad 0)), (1, .int a1)]) hx hb dX6_seed_7 rfl hl (by decide) rfl (fun ls hl => ?_)
  refine lv_aload_n hx hb dX6_seed_8 rfl (lv_at hl 1 rfl) ?_
  refine gX_0_0 X K G q_300 dX6_seed_9 ?_
  refine lv_iload_n hx hb dX6_seed_12 rfl (lv_at hl 2 rfl) ?_
  refine pX_1_2 X K G q_111 dX6_seed_13 (fun H locs G => ?_)
  obtain ⟨u2, eu2⟩ : ∃ z : XS, z = sT u0 (uZ (xT u0) a1) := ⟨_, rfl⟩
  have G : wg D A s.heap H locs (wX cI cZ cQ ad u2) := by rw [eu2]; exact G
  have h := nm_at eu2 h
  clear eu2
  refine lv_iload_n hx hb dX6_seed_16 rfl (lv_at hl 0 rfl) ?_
  obtain ⟨rfl, rfl⟩ := pair_at h
  exact reI X G dX6_seed_17
noncomputable def f_X6_hold (a1 : Int32) (a2 : Int32) (u0 : XS) : Option (Int32 × XS) :=
  bnd (f_X6_within a1 (0 : Int32) (9 : Int32) u0) fun r1 u2 =>
  (if r1 = 0 then
    bnd (f_X6_found (0 : Int32) u2) fun r4 u5 =>
    some (r4, u5)
  else
    bnd (f_X6_within a2 (-1 : Int32) ((tThings (xT u2)) - (1 : Int32)) u2) fun r6 u7 =>
    (if r6 = 0 then
      bnd (f_X6_found (0 : Int32) u7) fun r11 u12 =>
      some (r11, u12)
    else
      if a1 < 0 ∨ 10 ≤ a1.toNatClampNeg then none else
      nmv (sT u7 (uSpots (xT u7) (upd (tSpots (xT u7)) a1.toNatClampNeg a2))) fun u10 =>
      some ((1 : Int32), u10)))
set_option maxRecDepth 100000 in
set_option maxHeartbeats 4000000 in
theorem c_X6_hold {a1 : Int32} {a2 : Int32} {u0 : XS} {r : Int32} {u' : XS} (h : f_X6_hold a1 a2 u0 = some (r, u')) : MI l D cI cZ cQ adK adV A yX6_hold cX6_hold 3 (some .int) { frames := 2, cells := 0, slots := 0, locals := 43 } [.ref (ad 0), .int a1, .int a2] (wX cI cZ cQ ad) u0 r u' := by
  unfold f_X6_hold at h
  refine entI (by decide) (Nat.le_of_ble_eq_true rfl) (fun p e s m below meth c ls X K G hl => ?_)
  have hl : lv_has ls 3 [(0, .ref (ad 0)), (1, .int a1), (2, .int a2)] := hl
  obtain ⟨hx, hb, -⟩ := id X
  generalize hH : s.heap = H at G
  subst hH
  refine lv_iload_n hx hb dX6_hold_0 rfl (lv_at hl 1 rfl) ?_
  refine lv_iconst (v := 0) hx hb dX6_hold_1 (by decide) ?_
  refine lv_bipush (v := 9) hx hb dX6_hold_2 (by decide) ?_
  obtain ⟨r1, u2, er1, h⟩ := bnd_at h
  refine csI (rest := []) X K G (c_X6_within er1) q_335 my_X6_within ⟨rfl, rfl⟩ ⟨Nat.le_of_ble_eq_true rfl, Nat.le_of_ble_eq_true rfl⟩ ⟨Nat.zero_le _, Nat.zero_le _⟩ rfl hl.1 rfl (Nat.le_of_ble_eq_true rfl) dX6_hold_4 (fun H locs G => ?_)
  clear er1
  refine lv_if_eq (tgt := 27) hx hb dX6_hold_7 (by decide) (fun c3 => ?_) (fun c3 => ?_)
  · have h := it_at c3 h
    refine lv_aload_n hx hb dX6_hold_27 rfl (lv_at hl 0 rfl) ?_
    refine lv_iconst (v := 0) hx hb dX6_hold_28 (by decide) ?_
    obtain ⟨r4, u5, er4, h⟩ := bnd_at h
    refine cvI (rest := []) X K G (c_X6_found er4) q_338 my_X6_found ⟨rfl, rfl⟩ ⟨Nat.le_of_ble_eq_true rfl, Nat.le_of_ble_eq_true rfl⟩ ⟨Nat.zero_le _, Nat.zero_le _⟩ 0 6 rfl rfl rfl rfl hl.1 rfl (Nat.le_of_ble_eq_true rfl) dX6_hold_29 (fun H locs G => ?_)
    clear er4
    obtain ⟨rfl, rfl⟩ := pair_at h
    exact reI X G dX6_hold_32
  · have h := if_at c3 h
    refine lv_iload_n hx hb dX6_hold_10 rfl (lv_at hl 2 rfl) ?_
    refine lv_iconst (v := -1) hx hb dX6_hold_11 (by decide) ?_
    refine lv_aload_n hx hb dX6_hold_12 rfl (lv_at hl 0 rfl) ?_
    refine gX_0_0 X K G q_300 dX6_hold_13 ?_
    refine gX_1_4 X K G q_117 dX6_hold_16 ?_
    refine lv_iconst (v := 1) hx hb dX6_hold_19 (by decide) ?_
    refine lv_isub hx hb dX6_hold_20 ?_
    obtain ⟨r6, u7, er6, h⟩ := bnd_at h
    refine csI (rest := []) X K G (c_X6_within er6) q_335 my_X6_within ⟨rfl, rfl⟩ ⟨Nat.le_of_ble_eq_true rfl, Nat.le_of_ble_eq_true rfl⟩ ⟨Nat.zero_le _, Nat.zero_le _⟩ rfl hl.1 rfl (Nat.le_of_ble_eq_true rfl) dX6_hold_21 (fun H locs G => ?_)
    clear er6
    refine lv_if_ne (tgt := 33) hx hb dX6_hold_24 (by decide) (fun c8 => ?_) (fun c8 => ?_)
    · have h := if_at c8 h
      refine lv_aload_n hx hb dX6_hold_33 rfl (lv_at hl 0 rfl) ?_
      refine gX_0_0 X K G q_300 dX6_hold_34 ?_
      refine gX_1_11 X K G q_135 dX6_hold_37 ?_
      refine lv_iload_n hx hb dX6_hold_40 rfl (lv_at hl 1 rfl) ?_
      refine lv_iload_n hx hb dX6_hold_41 rfl (lv_at hl 2 rfl) ?_
      obtain ⟨g9, h⟩ := ck_at h
      refine aX_7 X K G g9 dX6_hold_42 (fun H locs G => ?_)
      obtain ⟨u10, eu10⟩ : ∃ z : XS, z = sT u7 (uSpots (xT u7) (upd (tSpots (xT u7)) a1.toNatClampNeg a2)) := ⟨_, rfl⟩
      have G : wg D A s.heap H locs (wX cI cZ cQ ad u10) := by rw [eu10]; exact G
      have h := nm_at eu10 h
      clear eu10
      refine lv_iconst (v := 1) hx hb dX6_hold_43 (by decide) ?_
      obtain ⟨rfl, rfl⟩ := pair_at h
      exact reI X G dX6_hold_44
    · have h := it_at c8 h
      refine lv_aload_n hx hb dX6_hold_27 rfl (lv_at hl 0 rfl) ?_
      refine lv_iconst (v := 0) hx hb dX6_hold_28 (by decide) ?_
      obtain ⟨r11, u12, er11, h⟩ := bnd_at h
      refine cvI (rest := []) X K G (c_X6_found er11) q_338 my_X6_found ⟨rfl, rfl⟩ ⟨Nat.le_of_ble_eq_true rfl, Nat.le_of_ble_eq_true rfl⟩ ⟨Nat.zero_le _, Nat.zero_le _⟩ 0 6 rfl rfl rfl rfl hl.1 rfl (Nat.le_of_ble_eq_true rfl) dX6_hold_29 (fun H locs G => ?_)
      clear er11
      obtain ⟨rfl, rfl⟩ := pair_at h
      exact reI X G dX6_hold_32
noncomputable def f_X6_kindAbove (a0 : Int32) (u0 : XS) : Option (Int32 × XS) :=
  (if a0 = (1 : Int32) then
    some ((0 : Int32), u0)
  else
  (if a0 = (2 : Int32) then
    some ((0 : Int32), u0)
  else
  (if a0 = (3 : Int32) then
    some ((0 : Int32), u0)
  else
  (if a0 = (4 : Int32) then
    some ((1 : Int32), u0)
  else
  (if a0 = (5 : Int32) then
    some ((4 : Int32), u0)
  else
  (if a0 = (6 : Int32) then
    some ((3 : Int32), u0)
  else
  some ((-1 : Int32), u0)))))))
set_option maxRecDepth 100000 in
set_option maxHeartbeats 4000000 in
theorem c_X6_kindAbove {a0 : Int32} {u0 : XS} {r : Int32} {u' : XS} (h : f_X6_kindAbove a0 u0 = some (r, u')) : MI l D cI cZ cQ adK adV A yX6_kindAbove cX6_kindAbove 1 (some .int) { frames := 0, cells := 0, slots := 0, locals := 0 } [.int a0] (wX cI cZ cQ ad) u0 r u' := by
  unfold f_X6_kindAbove at h
  refine entI (by decide) (Nat.le_of_ble_eq_true rfl) (fun p e s m below meth c ls X K G hl => ?_)
  have hl : lv_has ls 1 [(0, .int a0)] := hl
  obtain ⟨hx, hb, -⟩ := id X
  generalize hH : s.heap = H at G
  subst hH
  refine lv_iload_n hx hb dX6_kindAbove_0 rfl (lv_at hl 0 rfl) ?_
  by_cases c1 : a0 = (1 : Int32)
  · have h := it_at c1 h
    refine tswI X (1 : Int32) c1 dX6_kindAbove_1 (off := 39) (tgt := 40) (by decide) ?_
    refine lv_iconst (v := 0) hx hb dX6_kindAbove_40 (by decide) ?_
    obtain ⟨rfl, rfl⟩ := pair_at h
    exact reI X G dX6_kindAbove_41
  have h := if_at c1 h
  by_cases c2 : a0 = (2 : Int32)
  · have h := it_at c2 h
    refine tswI X (2 : Int32) c2 dX6_kindAbove_1 (off := 39) (tgt := 40) (by decide) ?_
    refine lv_iconst (v := 0) hx hb dX6_kindAbove_40 (by decide) ?_
    obtain ⟨rfl, rfl⟩ := pair_at h
    exact reI X G dX6_kindAbove_41
  have h := if_at c2 h
  by_cases c3 : a0 = (3 : Int32)
  · have h := it_at c3 h
    refine tswI X (3 : Int32) c3 dX6_kindAbove_1 (off := 39) (tgt := 40) (by decide) ?_
    refine lv_iconst (v := 0) hx hb dX6_kindAbove_40 (by decide) ?_
    obtain ⟨rfl, rfl⟩ := pair_at h
    exact reI X G dX6_kindAbove_41
  have h := if_at c3 h
  by_cases c4 : a0 = (4 : Int32)
  · have h := it_at c4 h
    refine tswI X (4 : Int32) c4 dX6_kindAbove_1 (off := 41) (tgt := 42) (by decide) ?_
    refine lv_iconst (v := 1) hx hb dX6_kindAbove_42 (by decide) ?_
    obtain ⟨rfl, rfl⟩ := pair_at h
    exact reI X G dX6_kindAbove_43
  have h := if_at c4 h
  by_cases c5 : a0 = (5 : Int32)
  · have h := it_at c5 h
    refine tswI X (5 : Int32) c5 dX6_kindAbove_1 (off := 43) (tgt := 44) (by decide) ?_
    refine lv_iconst (v := 4) hx hb dX6_kindAbove_44 (by decide) ?_
    obtain ⟨rfl, rfl⟩ := pair_at h
    exact reI X G dX6_kindAbove_45
  have h := if_at c5 h
  by_cases c6 : a0 = (6 : Int32)
  · have h := it_at c6 h
    refine tswI X (6 : Int32) c6 dX6_kindAbove_1 (off := 45) (tgt := 46) (by decide) ?_
    refine lv_iconst (v := 3) hx hb dX6_kindAbove_46 (by decide) ?_
    obtain ⟨rfl, rfl⟩ := pair_at h
    exact reI X G dX6_kindAbove_47
  have h := if_at c6 h
  have tc1 := lv_neT (a := 1) c1 rfl
  have tc2 := lv_neT (a := 2) c2 rfl
  have tc3 := lv_neT (a := 3) c3 rfl
  have tc4 := lv_neT (a := 4) c4 rfl
  have tc5 := lv_neT (a := 5) c5 rfl
  have tc6 := lv_neT (a := 6) c6 rfl
  refine tswO X (by omega) dX6_kindAbove_1 (tgt := 48) (by decide) ?_
  refine lv_iconst (v := -1) hx hb dX6_kindAbove_48 (by decide) ?_
  obtain ⟨rfl, rfl⟩ := pair_at h
  exact reI X G dX6_kindAbove_49
noncomputable def f_X6_isUnder_L4_4 (v1 : Int32) (v2 : Int32) (v3 : Int32) (u0 : XS) : Option ((Int32 × Int32 × Int32 × XS) ⊕ ((Int32 × XS) ⊕ (Int32 × Int32 × XS))) :=
  (if (7 : Int32) ≤ v3 then
    some (.inr (.inr (v1, v2, u0)))
  else
    (if v2 = v1 then
      some (.inr (.inr (v1, v2, u0)))
    else
      (if v2 < 0 then
        some (.inr (.inr (v1, v2, u0)))
      else
        bnd (f_X6_kindAbove v2 u0) fun r4 u5 =>
        nmv (v3 + (1 : Int32)) fun x6 =>
        some (.inl (v1, r4, x6, u5)))))
set_option maxRecDepth 100000 in
set_option maxHeartbeats 4000000 in
theorem b_X6_isUnder_L4_4 (X : cx p s m args meth c cX6_isUnder 4 RX6 (some .boolean)) (K : kx D cI cZ cQ adK adV A s s.heap) {v1 : Int32} {v2 : Int32} {v3 : Int32} {u0 : XS} (G : wg D A s.heap H locs (wX cI cZ cQ ad u0)) (hl : lv_has ls 4 [(1, .int v1), (2, .int v2), (3, .int v3)]) {q : ((Int32 × Int32 × Int32 × XS) ⊕ ((Int32 × XS) ⊕ (Int32 × Int32 × XS)))} (h : f_X6_isUnder_L4_4 v1 v2 v3 u0 = some q) (hB : ∀ (v1 : Int32) (v2 : Int32) (v3 : Int32) (u : XS), q = .inl (v1, v2, v3, u) → ∀ (H : Heap) (locs : List Loc) (ls : Array Slot), wg D A s.heap H locs (wX cI cZ cQ ad u) → lv_has ls 4 [(1, .int v1), (2, .int v2), (3, .int v3)] → W p l e { frames := 1, cells := 0, slots := 0, locals := 20 } s m args below meth c H locs 0 0 Q (F0 m 4 ls [])) (hX : ∀ (v1 : Int32) (v2 : Int32) (u : XS), q = .inr (.inr (v1, v2, u)) → ∀ (H : Heap) (locs : List Loc) (ls : Array Slot), wg D A s.heap H locs (wX cI cZ cQ ad u) → lv_has ls 4 [(1, .int v1), (2, .int v2)] → W p l e { frames := 1, cells := 0, slots := 0, locals := 20 } s m args below meth c H locs 0 0 Q (F0 m 30 ls [])) (hR : ∀ (r : Int32) (u : XS), q = .inr (.inl (r, u)) → Q = (qI D A (wX cI cZ cQ ad) below args s r u)) : W p l e { frames := 1, cells := 0, slots := 0, locals := 20 } s m args below meth c H locs 0 0 Q (F0 m 4 ls []) := by
  unfold f_X6_isUnder_L4_4 at h
  obtain ⟨hx, hb, -⟩ := id X
  refine lv_iload_n hx hb dX6_isUnder_4 rfl (lv_at hl 2 rfl) ?_
  refine lv_bipush (v := 7) hx hb dX6_isUnder_5 (by decide) ?_
  refine lv_icmp_ge (tgt := 30) hx hb dX6_isUnder_7 (by decide) (fun c1 => ?_) (fun c1 => ?_)
  · have h := it_at c1 h
    exact hX _ _ _ (Option.some.inj h).symm _ _ _ G (lv_sub hl [0, 1] rfl)
  · have h := if_at c1 h
    refine lv_iload_n hx hb dX6_isUnder_10 rfl (lv_at hl 1 rfl) ?_
    refine lv_iload_n hx hb dX6_isUnder_11 rfl (lv_at hl 0 rfl) ?_
    refine lv_icmp_eq (tgt := 30) hx hb dX6_isUnder_12 (by decide) (fun c2 => ?_) (fun c2 => ?_)
    · have h := it_at c2 h
      exact hX _ _ _ (Option.some.inj h).symm _ _ _ G (lv_sub hl [0, 1] rfl)
    · have h := if_at c2 h
      refine lv_iload_n hx hb dX6_isUnder_15 rfl (lv_at hl 1 rfl) ?_
      refine lv_if_lt (tgt := 30) hx hb dX6_isUnder_16 (by decide) (fun c3 => ?_) (fun c3 => ?_)
      · have h := it_at c3 h
        exact hX _ _ _ (Option.some.inj h).symm _ _ _ G (lv_sub hl [0, 1] rfl)
      · have h := if_at c3 h
        refine lv_iload_n hx hb dX6_isUnder_19 rfl (lv_at hl 1 rfl) ?_
        obtain ⟨r4, u5, er4, h⟩ := bnd_at h
        refine csI (rest := []) X K G (c_X6_kindAbove er4) q_833 my_X6_kindAbove ⟨rfl, rfl⟩ ⟨Nat.le_of_ble_eq_true rfl, Nat.le_of_ble_eq_true rfl⟩ ⟨Nat.zero_le _, Nat.zero_le _⟩ rfl hl.1 rfl (Nat.le_of_ble_eq_true rfl) dX6_isUnder_20 (fun H locs G => ?_)
        clear er4
        refine lv_istore_n (lv' := [(2, .int r4), (1, .int v1), (3, .int v3)]) hx hb dX6_isUnder_23 rfl hl (by decide) rfl (fun ls hl => ?_)
        obtain ⟨x6, ex6⟩ : ∃ z : Int32, z = v3 + (1 : Int32) := ⟨_, rfl⟩
        have h := nm_at ex6 h
        refine lv_iinc (v := x6) (lv' := [(3, .int x6), (2, .int r4), (1, .int v1)]) hx hb dX6_isUnder_24 hl (k := 2) rfl (by rw [ex6]; rfl) (by decide) rfl (fun ls hl => ?_)
        refine lv_goto (tgt := 4) hx hb dX6_isUnder_27 (by decide) ?_
        exact hB _ _ _ _ (Option.some.inj h).symm _ _ _ G (lv_sub hl [2, 1, 0] rfl)
noncomputable def f_X6_isUnder_L4_4s (q : Int32 × Int32 × Int32 × XS) : Option ((Int32 × Int32 × Int32 × XS) ⊕ ((Int32 × XS) ⊕ (Int32 × Int32 × XS))) := f_X6_isUnder_L4_4 q.1 q.2.1 q.2.2.1 q.2.2.2
set_option maxRecDepth 100000 in
set_option maxHeartbeats 4000000 in
theorem w_X6_isUnder_L4_4 (X : cx p s m args meth c cX6_isUnder 4 RX6 (some .boolean)) (K : kx D cI cZ cQ adK adV A s s.heap) {e0 : (Int32 × XS) ⊕ (Int32 × Int32 × XS)} : ∀ (n : Nat) (v1 : Int32) (v2 : Int32) (v3 : Int32) (u : XS) {H : Heap} {locs : List Loc} {ls : Array Slot}, wh f_X6_isUnder_L4_4s n (v1, v2, v3, u) = some e0 → wg D A s.heap H locs (wX cI cZ cQ ad u) → lv_has ls 4 [(1, .int v1), (2, .int v2), (3, .int v3)] → (∀ (v1 : Int32) (v2 : Int32) (u : XS), e0 = .inr (v1, v2, u) → ∀ (H : Heap) (locs : List Loc) (ls : Array Slot), wg D A s.heap H locs (wX cI cZ cQ ad u) → lv_has ls 4 [(1, .int v1), (2, .int v2)] → W p l e { frames := 1, cells := 0, slots := 0, locals := 20 } s m args below meth c H locs 0 0 Q (F0 m 30 ls [])) → (∀ (r : Int32) (u : XS), e0 = .inl (r, u) → Q = (qI D A (wX cI cZ cQ ad) below args s r u)) → W p l e { frames := 1, cells := 0, slots := 0, locals := 20 } s m args below meth c H locs 0 0 Q (F0 m 4 ls []) := by
  intro n
  induction n with
  | zero => intro v1 v2 v3 u H locs ls h; cases h
  | succ n ih =>
    intro v1 v2 v3 u H locs ls h G hl hX hR
    obtain ⟨q, h1, h2, h3⟩ := wh_at h
    exact b_X6_isUnder_L4_4 X K G hl (show f_X6_isUnder_L4_4 v1 v2 v3 u = some q from h1) (fun b0 b1 b2 b3 ee H locs ls G hl => ih b0 b1 b2 b3 (h2 _ ee) G hl hX hR) (fun z0 z1 z2 ee => hX z0 z1 z2 (h3 _ ee).symm) (fun r u ee => hR r u (h3 _ ee).symm)
noncomputable def f_X6_isUnder (a0 : Int32) (a1 : Int32) (u0 : XS) : Option (Int32 × XS) :=
  bne (wl f_X6_isUnder_L4_4s (a1, a0, (0 : Int32), u0)) (fun a => some a) fun b =>
    nmv b.1 fun y4 =>
    nmv b.2.1 fun y5 =>
    nmv b.2.2 fun u3 =>
    (if y5 = y4 then
      some ((1 : Int32), u3)
    else
      some ((0 : Int32), u3))
set_option maxRecDepth 100000 in
set_option maxHeartbeats 4000000 in
theorem c_X6_isUnder {a0 : Int32} {a1 : Int32} {u0 : XS} {r : Int32} {u' : XS} (h : f_X6_isUnder a0 a1 u0 = some (r, u')) : MI l D cI cZ cQ adK adV A yX6_isUnder cX6_isUnder 4 (some .boolean) { frames := 1, cells := 0, slots := 0, locals := 20 } [.int a0, .int a1] (wX cI cZ cQ ad) u0 r u' := by
  unfold f_X6_isUnder at h
  refine entI (by decide) (Nat.le_of_ble_eq_true rfl) (fun p e s m below meth c ls X K G hl => ?_)
  have hl : lv_has ls 4 [(0, .int a0), (1, .int a1)] := hl
  obtain ⟨hx, hb, -⟩ := id X
  generalize hH : s.heap = H at G
  subst hH
  refine lv_iload_n hx hb dX6_isUnder_0 rfl (lv_at hl 0 rfl) ?_
  refine lv_istore_n (lv' := [(2, .int a0), (0, .int a0), (1, .int a1)]) hx hb dX6_isUnder_1 rfl hl (by decide) rfl (fun ls hl => ?_)
  refine lv_iconst (v := 0) hx hb dX6_isUnder_2 (by decide) ?_
  refine lv_istore_n (lv' := [(3, .int (0 : Int32)), (2, .int a0), (0, .int a0), (1, .int a1)]) hx hb dX6_isUnder_3 rfl hl (by decide) rfl (fun ls hl => ?_)
  obtain ⟨q2, hq2, ha, hb1⟩ := bne_at h
  obtain ⟨n1, hn1⟩ := wl_iff.mp hq2
  refine w_X6_isUnder_L4_4 X K n1 _ _ _ _ hn1 G (lv_sub hl [3, 1, 0] rfl) (fun y4 y5 u3 ee H locs ls G hl => ?_) (fun r u1 ee => by obtain ⟨rfl, rfl⟩ := pair_at (ha _ ee); rfl)
  have h := hb1 _ ee
  clear ee ha hb1 hq2 hn1
  have h := nm_at (x := y4) rfl h
  have h := nm_at (x := y5) rfl h
  have h := nm_at (x := u3) rfl h
  refine lv_iload_n hx hb dX6_isUnder_30 rfl (lv_at hl 1 rfl) ?_
  refine lv_iload_n hx hb dX6_isUnder_31 rfl (lv_at hl 0 rfl) ?_
  refine lv_icmp_ne (tgt := 39) hx hb dX6_isUnder_32 (by decide) (fun c6 => ?_) (fun c6 => ?_)
  · have h := if_at c6 h
    refine lv_iconst (v := 0) hx hb dX6_isUnder_39 (by decide) ?_
    obtain ⟨rfl, rfl⟩ := pair_at h
    exact reZ X G (Or.inl rfl) dX6_isUnder_40
  · have h := it_at c6 h
    refine lv_iconst (v := 1) hx hb dX6_isUnder_35 (by decide) ?_
    refine lv_goto (tgt := 40) hx hb dX6_isUnder_36 (by decide) ?_
    obtain ⟨rfl, rfl⟩ := pair_at h
    exact reZ X G (Or.inr rfl) dX6_isUnder_40
noncomputable def f_X6_as (a1 : Int32) (a2 : Int32) (u0 : XS) : Option (Int32 × XS) :=
  bnd (f_X6_within a1 (0 : Int32) (9 : Int32) u0) fun r1 u2 =>
  (if r1 = 0 then
    bnd (f_X6_found (0 : Int32) u2) fun r4 u5 =>
    some (r4, u5)
  else
    bnd (f_X6_within a2 (0 : Int32) (6 : Int32) u2) fun r6 u7 =>
    (if r6 = 0 then
      bnd (f_X6_found (0 : Int32) u7) fun r22 u23 =>
      some (r22, u23)
    else
      if a1 < 0 ∨ 10 ≤ a1.toNatClampNeg then none else
      nmv ((tSpots (xT u7)) a1.toNatClampNeg) fun x10 =>
      bnd (f_X5_hasThing x10 u7) fun r11 u12 =>
      (if r11 = 0 then
        bnd (f_X6_found (5 : Int32) u12) fun r20 u21 =>
        some (r20, u21)
      else
        if x10 < 0 ∨ 8 ≤ x10.toNatClampNeg then none else
        bnd (f_X6_isUnder ((tKinds (xT u12)) x10.toNatClampNeg) a2 u12) fun r15 u16 =>
        (if r15 = 0 then
          bnd (f_X6_found (2 : Int32) u16) fun r18 u19 =>
          some (r18, u19)
        else
          some (x10, u16)))))
set_option maxRecDepth 100000 in
set_option maxHeartbeats 4000000 in
theorem c_X6_as {a1 : Int32} {a2 : Int32} {u0 : XS} {r : Int32} {u' : XS} (h : f_X6_as a1 a2 u0 = some (r, u')) : MI l D cI cZ cQ adK adV A yX6_as cX6_as 4 (some .int) { frames := 2, cells := 0, slots := 0, locals := 43 } [.ref (ad 0), .int a1, .int a2] (wX cI cZ cQ ad) u0 r u' := by
  unfold f_X6_as at h
  refine entI (by decide) (Nat.le_of_ble_eq_true rfl) (fun p e s m below meth c ls X K G hl => ?_)
  have hl : lv_has ls 4 [(0, .ref (ad 0)), (1, .int a1), (2, .int a2)] := hl
  obtain ⟨hx, hb, -⟩ := id X
  generalize hH : s.heap = H at G
  subst hH
  refine lv_iload_n hx hb dX6_as_0 rfl (lv_at hl 1 rfl) ?_
  refine lv_iconst (v := 0) hx hb dX6_as_1 (by decide) ?_
  refine lv_bipush (v := 9) hx hb dX6_as_2 (by decide) ?_
  obtain ⟨r1, u2, er1, h⟩ := bnd_at h
  refine csI (rest := []) X K G (c_X6_within er1) q_335 my_X6_within ⟨rfl, rfl⟩ ⟨Nat.le_of_ble_eq_true rfl, Nat.le_of_ble_eq_true rfl⟩ ⟨Nat.zero_le _, Nat.zero_le _⟩ rfl hl.1 rfl (Nat.le_of_ble_eq_true rfl) dX6_as_4 (fun H locs G => ?_)
  clear er1
  refine lv_if_eq (tgt := 20) hx hb dX6_as_7 (by decide) (fun c3 => ?_) (fun c3 => ?_)
  · have h := it_at c3 h
    refine lv_aload_n hx hb dX6_as_20 rfl (lv_at hl 0 rfl) ?_
    refine lv_iconst (v := 0) hx hb dX6_as_21 (by decide) ?_
    obtain ⟨r4, u5, er4, h⟩ := bnd_at h
    refine cvI (rest := []) X K G (c_X6_found er4) q_338 my_X6_found ⟨rfl, rfl⟩ ⟨Nat.le_of_ble_eq_true rfl, Nat.le_of_ble_eq_true rfl⟩ ⟨Nat.zero_le _, Nat.zero_le _⟩ 0 6 rfl rfl rfl rfl hl.1 rfl (Nat.le_of_ble_eq_true rfl) dX6_as_22 (fun H locs G => ?_)
    clear er4
    obtain ⟨rfl, rfl⟩ := pair_at h
    exact reI X G dX6_as_25
  · have h := if_at c3 h
    refine lv_iload_n hx hb dX6_as_10 rfl (lv_at hl 2 rfl) ?_
    refine lv_iconst (v := 0) hx hb dX6_as_11 (by decide) ?_
    refine lv_bipush (v := 6) hx hb dX6_as_12 (by decide) ?_
    obtain ⟨r6, u7, er6, h⟩ := bnd_at h
    refine csI (rest := []) X K G (c_X6_within er6) q_335 my_X6_within ⟨rfl, rfl⟩ ⟨Nat.le_of_ble_eq_true rfl, Nat.le_of_ble_eq_true rfl⟩ ⟨Nat.zero_le _, Nat.zero_le _⟩ rfl hl.1 rfl (Nat.le_of_ble_eq_true rfl) dX6_as_14 (fun H locs G => ?_)
    clear er6
    refine lv_if_ne (tgt := 26) hx hb dX6_as_17 (by decide) (fun c8 => ?_) (fun c8 => ?_)
    · have h := if_at c8 h
      refine lv_aload_n hx hb dX6_as_26 rfl (lv_at hl 0 rfl) ?_
      refine gX_0_0 X K G q_300 dX6_as_27 ?_
      refine gX_1_11 X K G q_135 dX6_as_30 ?_
      refine lv_iload_n hx hb dX6_as_33 rfl (lv_at hl 1 rfl) ?_
      obtain ⟨g9, h⟩ := ck_at h
      refine lX_7 X K G g9 dX6_as_34 ?_
      refine lv_topi (fun x10 ex10 => ?_)
      have h := nm_at ex10 h
      refine lv_istore_n (lv' := [(3, .int x10), (0, .ref (ad 0)), (1, .int a1), (2, .int a2)]) hx hb dX6_as_35 rfl hl (by decide) rfl (fun ls hl => ?_)
      refine lv_aload_n hx hb dX6_as_36 rfl (lv_at hl 1 rfl) ?_
      refine gX_0_0 X K G q_300 dX6_as_37 ?_
      refine lv_iload_n hx hb dX6_as_40 rfl (lv_at hl 0 rfl) ?_
      obtain ⟨r11, u12, er11, h⟩ := bnd_at h
      refine cvI (rest := []) X K G (c_X5_hasThing er11) q_553 my_X5_hasThing ⟨rfl, rfl⟩ ⟨Nat.le_of_ble_eq_true rfl, Nat.le_of_ble_eq_true rfl⟩ ⟨Nat.zero_le _, Nat.zero_le _⟩ 1 5 rfl rfl rfl rfl hl.1 rfl (Nat.le_of_ble_eq_true rfl) dX6_as_41 (fun H locs G => ?_)
      clear er11
      refine lv_if_ne (tgt := 53) hx hb dX6_as_44 (by decide) (fun c13 => ?_) (fun c13 => ?_)
      · have h := if_at c13 h
        refine lv_aload_n hx hb dX6_as_53 rfl (lv_at hl 1 rfl) ?_
        refine gX_0_0 X K G q_300 dX6_as_54 ?_
        refine gX_1_7 X K G q_127 dX6_as_57 ?_
        refine lv_iload_n hx hb dX6_as_60 rfl (lv_at hl 0 rfl) ?_
        obtain ⟨g14, h⟩ := ck_at h
        refine lX_3 X K G g14 dX6_as_61 ?_
        refine lv_iload_n hx hb dX6_as_62 rfl (lv_at hl 3 rfl) ?_
        obtain ⟨r15, u16, er15, h⟩ := bnd_at h
        refine csI (rest := []) X K G (c_X6_isUnder er15) q_830 my_X6_isUnder ⟨rfl, rfl⟩ ⟨Nat.le_of_ble_eq_true rfl, Nat.le_of_ble_eq_true rfl⟩ ⟨Nat.zero_le _, Nat.zero_le _⟩ rfl hl.1 rfl (Nat.le_of_ble_eq_true rfl) dX6_as_63 (fun H locs G => ?_)
        clear er15
        refine lv_if_ne (tgt := 75) hx hb dX6_as_66 (by decide) (fun c17 => ?_) (fun c17 => ?_)
        · have h := if_at c17 h
          refine lv_iload_n hx hb dX6_as_75 rfl (lv_at hl 0 rfl) ?_
          obtain ⟨rfl, rfl⟩ := pair_at h
          exact reI X G dX6_as_76
        · have h := it_at c17 h
          refine lv_aload_n hx hb dX6_as_69 rfl (lv_at hl 1 rfl) ?_
          refine lv_iconst (v := 2) hx hb dX6_as_70 (by decide) ?_
          obtain ⟨r18, u19, er18, h⟩ := bnd_at h
          refine cvI (rest := []) X K G (c_X6_found er18) q_338 my_X6_found ⟨rfl, rfl⟩ ⟨Nat.le_of_ble_eq_true rfl, Nat.le_of_ble_eq_true rfl⟩ ⟨Nat.zero_le _, Nat.zero_le _⟩ 0 6 rfl rfl rfl rfl hl.1 rfl (Nat.le_of_ble_eq_true rfl) dX6_as_71 (fun H locs G => ?_)
          clear er18
          obtain ⟨rfl, rfl⟩ := pair_at h
          exact reI X G dX6_as_74
      · have h := it_at c13 h
        refine lv_aload_n hx hb dX6_as_47 rfl (lv_at hl 1 rfl) ?_
        refine lv_iconst (v := 5) hx hb dX6_as_48 (by decide) ?_
        obtain ⟨r20, u21, er20, h⟩ := bnd_at h
        refine cvI (rest := []) X K G (c_X6_found er20) q_338 my_X6_found ⟨rfl, rfl⟩ ⟨Nat.le_of_ble_eq_true rfl, Nat.le_of_ble_eq_true rfl⟩ ⟨Nat.zero_le _, Nat.zero_le _⟩ 0 6 rfl rfl rfl rfl hl.1 rfl (Nat.le_of_ble_eq_true rfl) dX6_as_49 (fun H locs G => ?_)
        clear er20
        obtain ⟨rfl, rfl⟩ := pair_at h
        exact reI X G dX6_as_52
    · have h := it_at c8 h
      refine lv_aload_n hx hb dX6_as_20 rfl (lv_at hl 0 rfl) ?_
      refine lv_iconst (v := 0) hx hb dX6_as_21 (by decide) ?_
      obtain ⟨r22, u23, er22, h⟩ := bnd_at h
      refine cvI (rest := []) X K G (c_X6_found er22) q_338 my_X6_found ⟨rfl, rfl⟩ ⟨Nat.le_of_ble_eq_true rfl, Nat.le_of_ble_eq_true rfl⟩ ⟨Nat.zero_le _, Nat.zero_le _⟩ 0 6 rfl rfl rfl rfl hl.1 rfl (Nat.le_of_ble_eq_true rfl) dX6_as_22 (fun H locs G => ?_)
      clear er22
      obtain ⟨rfl, rfl⟩ := pair_at h
      exact reI X G dX6_as_25
noncomputable def f_X6_isSheet (a0 : Int32) (u0 : XS) : Option (Int32 × XS) :=
  bnd (f_X6_within a0 (0 : Int32) (3 : Int32) u0) fun r1 u2 =>
  if ¬ (r1 = 0 ∨ r1 = 1) then none else
  some (r1, u2)
set_option maxRecDepth 100000 in
set_option maxHeartbeats 4000000 in
theorem c_X6_isSheet {a0 : Int32} {u0 : XS} {r : Int32} {u' : XS} (h : f_X6_isSheet a0 u0 = some (r, u')) : MI l D cI cZ cQ adK adV A yX6_isSheet cX6_isSheet 1 (some .boolean) { frames := 1, cells := 0, slots := 0, locals := 22 } [.int a0] (wX cI cZ cQ ad) u0 r u' := by
  unfold f_X6_isSheet at h
  refine entI (by decide) (Nat.le_of_ble_eq_true rfl) (fun p e s m below meth c ls X K G hl => ?_)
  have hl : lv_has ls 1 [(0, .int a0)] := hl
  obtain ⟨hx, hb, -⟩ := id X
  generalize hH : s.heap = H at G
  subst hH
  refine lv_iload_n hx hb dX6_isSheet_0 rfl (lv_at hl 0 rfl) ?_
  refine lv_iconst (v := 0) hx hb dX6_isSheet_1 (by decide) ?_
  refine lv_iconst (v := 3) hx hb dX6_isSheet_2 (by decide) ?_
  obtain ⟨r1, u2, er1, h⟩ := bnd_at h
  refine csI (rest := []) X K G (c_X6_within er1) q_335 my_X6_within ⟨rfl, rfl⟩ ⟨Nat.le_of_ble_eq_true rfl, Nat.le_of_ble_eq_true rfl⟩ ⟨Nat.zero_le _, Nat.zero_le _⟩ rfl hl.1 rfl (Nat.le_of_ble_eq_true rfl) dX6_isSheet_3 (fun H locs G => ?_)
  clear er1
  obtain ⟨g3, h⟩ := ck_at h
  obtain ⟨rfl, rfl⟩ := pair_at h
  exact reZ X G (Decidable.not_not.mp g3) dX6_isSheet_6
noncomputable def f_X1_layOut_L20_20 (n0 : Nat) (v3 : Int32) (u0 : XS) : Option ((Nat × Int32 × XS) ⊕ ((Int32 × XS) ⊕ (XS))) :=
  if 4 ≤ n0 then none else
  (if (40 : Int32) ≤ v3 then
    some (.inr (.inr u0))
  else
    if v3 < 0 ∨ 40 ≤ v3.toNatClampNeg then none else
    nmv (sB u0 ((xB u0).1, (xB u0).2.1, va_up (xB u0).2.2 n0 (upd ((xB u0).2.2 n0) v3.toNatClampNeg (0 : Int32)))) fun u3 =>
    nmv (v3 + (1 : Int32)) fun x4 =>
    some (.inl (n0, x4, u3)))
set_option maxRecDepth 100000 in
set_option maxHeartbeats 4000000 in
theorem b_X1_layOut_L20_20 (X : cx p s m args meth c cX1_layOut 4 RX1 none) (K : kx D cI cZ cQ adK adV A s s.heap) {n0 : Nat} {v3 : Int32} {u0 : XS} (G : wg D A s.heap H locs (wX cI cZ cQ ad u0)) (hl : lv_has ls 4 [(0, .ref (ad (35 + 2 * n0))), (3, .int v3)]) {q : ((Nat × Int32 × XS) ⊕ ((Int32 × XS) ⊕ (XS)))} (h : f_X1_layOut_L20_20 n0 v3 u0 = some q) (hB : ∀ (n0 : Nat) (v3 : Int32) (u : XS), q = .inl (n0, v3, u) → ∀ (H : Heap) (locs : List Loc) (ls : Array Slot), wg D A s.heap H locs (wX cI cZ cQ ad u) → lv_has ls 4 [(0, .ref (ad (35 + 2 * n0))), (3, .int v3)] → W p l e { frames := 0, cells := 0, slots := 0, locals := 0 } s m args below meth c H locs 0 0 Q (F0 m 20 ls [])) (hX : ∀ (u : XS), q = .inr (.inr u) → ∀ (H : Heap) (locs : List Loc) (ls : Array Slot), wg D A s.heap H locs (wX cI cZ cQ ad u) → lv_has ls 4 [] → W p l e { frames := 0, cells := 0, slots := 0, locals := 0 } s m args below meth c H locs 0 0 Q (F0 m 39 ls [])) (hR : ∀ (r : Int32) (u : XS), q = .inr (.inl (r, u)) → Q = (qV D A (wX cI cZ cQ ad) below args s u)) : W p l e { frames := 0, cells := 0, slots := 0, locals := 0 } s m args below meth c H locs 0 0 Q (F0 m 20 ls []) := by
  unfold f_X1_layOut_L20_20 at h
  obtain ⟨hn0, h⟩ := ck_at h
  have hn0 := Nat.not_le.mp hn0
  obtain ⟨hx, hb, -⟩ := id X
  refine lv_iload_n hx hb dX1_layOut_20 rfl (lv_at hl 1 rfl) ?_
  refine lv_bipush (v := 40) hx hb dX1_layOut_21 (by decide) ?_
  refine lv_icmp_ge (tgt := 39) hx hb dX1_layOut_23 (by decide) (fun c1 => ?_) (fun c1 => ?_)
  · have h := it_at c1 h
    exact hX _ (Option.some.inj h).symm _ _ _ G (lv_sub hl [] rfl)
  · have h := if_at c1 h
    refine lv_aload_n hx hb dX1_layOut_26 rfl (lv_at hl 0 rfl) ?_
    refine gS_numbers X K G hn0 q_290 dX1_layOut_27 ?_
    refine lv_iload_n hx hb dX1_layOut_30 rfl (lv_at hl 1 rfl) ?_
    refine lv_iconst (v := 0) hx hb dX1_layOut_31 (by decide) ?_
    obtain ⟨g2, h⟩ := ck_at h
    refine aS_numbers X K G hn0 g2 dX1_layOut_32 (fun H locs G => ?_)
    obtain ⟨u3, eu3⟩ : ∃ z : XS, z = sB u0 ((xB u0).1, (xB u0).2.1, va_up (xB u0).2.2 n0 (upd ((xB u0).2.2 n0) v3.toNatClampNeg (0 : Int32))) := ⟨_, rfl⟩
    have G : wg D A s.heap H locs (wX cI cZ cQ ad u3) := by rw [eu3]; exact G
    have h := nm_at eu3 h
    clear eu3
    obtain ⟨x4, ex4⟩ : ∃ z : Int32, z = v3 + (1 : Int32) := ⟨_, rfl⟩
    have h := nm_at ex4 h
    refine lv_iinc (v := x4) (lv' := [(3, .int x4), (0, .ref (ad (35 + 2 * n0)))]) hx hb dX1_layOut_33 hl (k := 1) rfl (by rw [ex4]; rfl) (by decide) rfl (fun ls hl => ?_)
    refine lv_goto (tgt := 20) hx hb dX1_layOut_36 (by decide) ?_
    exact hB _ _ _ (Option.some.inj h).symm _ _ _ G (lv_sub hl [1, 0] rfl)
noncomputable def f_X1_layOut_L20_20s (q : Nat × Int32 × XS) : Option ((Nat × Int32 × XS) ⊕ ((Int32 × XS) ⊕ (XS))) := f_X1_layOut_L20_20 q.1 q.2.1 q.2.2
set_option maxRecDepth 100000 in
set_option maxHeartbeats 4000000 in
theorem w_X1_layOut_L20_20 (X : cx p s m args meth c cX1_layOut 4 RX1 none) (K : kx D cI cZ cQ adK adV A s s.heap) {e0 : (Int32 × XS) ⊕ (XS)} : ∀ (n : Nat) (n0 : Nat) (v3 : Int32) (u : XS) {H : Heap} {locs : List Loc} {ls : Array Slot}, wh f_X1_layOut_L20_20s n (n0, v3, u) = some e0 → wg D A s.heap H locs (wX cI cZ cQ ad u) → lv_has ls 4 [(0, .ref (ad (35 + 2 * n0))), (3, .int v3)] → (∀ (u : XS), e0 = .inr u → ∀ (H : Heap) (locs : List Loc) (ls : Array Slot), wg D A s.heap H locs (wX cI cZ cQ ad u) → lv_has ls 4 [] → W p l e { frames := 0, cells := 0, slots := 0, locals := 0 } s m args below meth c H locs 0 0 Q (F0 m 39 ls [])) → (∀ (r : Int32) (u : XS), e0 = .inl (r, u) → Q = (qV D A (wX cI cZ cQ ad) below args s u)) → W p l e { frames := 0, cells := 0, slots := 0, locals := 0 } s m args below meth c H locs 0 0 Q (F0 m 20 ls []) := by
  intro n
  induction n with
  | zero => intro n0 v3 u H locs ls h; cases h
  | succ n ih =>
    intro n0 v3 u H locs ls h G hl hX hR
    obtain ⟨q, h1, h2, h3⟩ := wh_at h
    exact b_X1_layOut_L20_20 X K G hl (show f_X1_layOut_L20_20 n0 v3 u = some q from h1) (fun b0 b1 b2 ee H locs ls G hl => ih b0 b1 b2 (h2 _ ee) G hl hX hR) (fun z0 ee => hX z0 (h3 _ ee).symm) (fun r u ee => hR r u (h3 _ ee).symm)
noncomputable def f_X1_layOut (j0 : Nat) (a1 : Int32) (a2 : Int32) (u0 : XS) : Option (Int32 × XS) :=
  nmv (sB u0 (upd (xB u0).1 j0 a1, (xB u0).2.1, (xB u0).2.2)) fun u1 =>
  (if a1 = 0 then
    nmv (sB u1 ((xB u1).1, upd (xB u1).2.1 j0 (0 : Int32), (xB u1).2.2)) fun u7 =>
    bne (wl f_X1_layOut_L20_20s (j0, (0 : Int32), u7)) (fun a => some a) fun b =>
      nmv b fun u10 =>
      some ((0 : Int32), u10)
  else
    nmv (sB u1 ((xB u1).1, upd (xB u1).2.1 j0 a2, (xB u1).2.2)) fun u3 =>
    bne (wl f_X1_layOut_L20_20s (j0, (0 : Int32), u3)) (fun a => some a) fun b =>
      nmv b fun u6 =>
      some ((0 : Int32), u6))
set_option maxRecDepth 100000 in
set_option maxHeartbeats 4000000 in
theorem c_X1_layOut {j0 : Nat} {a1 : Int32} {a2 : Int32} {u0 : XS} {r : Int32} {u' : XS} (hj0 : j0 < 4) (h : f_X1_layOut j0 a1 a2 u0 = some (r, u')) : MV l D cI cZ cQ adK adV A yX1_layOut cX1_layOut 4 { frames := 0, cells := 0, slots := 0, locals := 0 } [.ref (ad (35 + 2 * j0)), .int a1, .int a2] (wX cI cZ cQ ad) u0 u' := by
  unfold f_X1_layOut at h
  refine entV (by decide) (Nat.le_of_ble_eq_true rfl) (fun p e s m below meth c ls X K G hl => ?_)
  have hl : lv_has ls 4 [(0, .ref (ad (35 + 2 * j0))), (1, .int a1), (2, .int a2)] := hl
  obtain ⟨hx, hb, -⟩ := id X
  generalize hH : s.heap = H at G
  subst hH
  refine lv_aload_n hx hb dX1_layOut_0 rfl (lv_at hl 0 rfl) ?_
  refine lv_iload_n hx hb dX1_layOut_1 rfl (lv_at hl 1 rfl) ?_
  refine pS_bits X K G hj0 q_285 dX1_layOut_2 (fun H locs G => ?_)
  obtain ⟨u1, eu1⟩ : ∃ z : XS, z = sB u0 (upd (xB u0).1 j0 a1, (xB u0).2.1, (xB u0).2.2) := ⟨_, rfl⟩
  have G : wg D A s.heap H locs (wX cI cZ cQ ad u1) := by rw [eu1]; exact G
  have h := nm_at eu1 h
  clear eu1
  refine lv_aload_n hx hb dX1_layOut_5 rfl (lv_at hl 0 rfl) ?_
  refine lv_iload_n hx hb dX1_layOut_6 rfl (lv_at hl 1 rfl) ?_
  refine lv_if_ne (tgt := 14) hx hb dX1_layOut_7 (by decide) (fun c2 => ?_) (fun c2 => ?_)
  · have h := if_at c2 h
    refine lv_iload_n hx hb dX1_layOut_14 rfl (lv_at hl 2 rfl) ?_
    refine pS_size X K G hj0 q_287 dX1_layOut_15 (fun H locs G => ?_)
    obtain ⟨u3, eu3⟩ : ∃ z : XS, z = sB u1 ((xB u1).1, upd (xB u1).2.1 j0 a2, (xB u1).2.2) := ⟨_, rfl⟩
    have G : wg D A s.heap H locs (wX cI cZ cQ ad u3) := by rw [eu3]; exact G
    have h := nm_at eu3 h
    clear eu3
    refine lv_iconst (v := 0) hx hb dX1_layOut_18 (by decide) ?_
    refine lv_istore_n (lv' := [(3, .int (0 : Int32)), (0, .ref (ad (35 + 2 * j0))), (1, .int a1), (2, .int a2)]) hx hb dX1_layOut_19 rfl hl (by decide) rfl (fun ls hl => ?_)
    obtain ⟨q5, hq5, ha, hb1⟩ := bne_at h
    obtain ⟨n4, hn4⟩ := wl_iff.mp hq5
    refine w_X1_layOut_L20_20 X K n4 _ _ _ hn4 G (lv_sub hl [1, 0] rfl) (fun  u6 ee H locs ls G hl => ?_) (fun r u1 ee => by obtain ⟨rfl, rfl⟩ := pair_at (ha _ ee); rfl)
    have h := hb1 _ ee
    clear ee ha hb1 hq5 hn4
    have h := nm_at (x := u6) rfl h
    obtain ⟨rfl, rfl⟩ := pair_at h
    exact reV X G dX1_layOut_39
  · have h := it_at c2 h
    refine lv_iconst (v := 0) hx hb dX1_layOut_10 (by decide) ?_
    refine lv_goto (tgt := 15) hx hb dX1_layOut_11 (by decide) ?_
    refine pS_size X K G hj0 q_287 dX1_layOut_15 (fun H locs G => ?_)
    obtain ⟨u7, eu7⟩ : ∃ z : XS, z = sB u1 ((xB u1).1, upd (xB u1).2.1 j0 (0 : Int32), (xB u1).2.2) := ⟨_, rfl⟩
    have G : wg D A s.heap H locs (wX cI cZ cQ ad u7) := by rw [eu7]; exact G
    have h := nm_at eu7 h
    clear eu7
    refine lv_iconst (v := 0) hx hb dX1_layOut_18 (by decide) ?_
    refine lv_istore_n (lv' := [(3, .int (0 : Int32)), (0, .ref (ad (35 + 2 * j0))), (1, .int a1), (2, .int a2)]) hx hb dX1_layOut_19 rfl hl (by decide) rfl (fun ls hl => ?_)
    obtain ⟨q9, hq9, ha, hb1⟩ := bne_at h
    obtain ⟨n8, hn8⟩ := wl_iff.mp hq9
    refine w_X1_layOut_L20_20 X K n8 _ _ _ hn8 G (lv_sub hl [1, 0] rfl) (fun  u10 ee H locs ls G hl => ?_) (fun r u1 ee => by obtain ⟨rfl, rfl⟩ := pair_at (ha _ ee); rfl)
    have h := hb1 _ ee
    clear ee ha hb1 hq9 hn8
    have h := nm_at (x := u10) rfl h
    obtain ⟨rfl, rfl⟩ := pair_at h
    exact reV X G dX1_layOut_39
noncomputable def f_X6_sheet_35 (v1 : Int32) (v2 : Int32) (v3 : Int32) (u0 : XS) : Option (Int32 × XS) :=
  (if 0 ≤ v3 then
    (if v3 ≤ (40 : Int32) then
      if v1 < 0 ∨ 4 ≤ v1.toNatClampNeg then none else
      bnd (f_X1_layOut (v1.toNatClampNeg) v2 v3 u0) fun r4 u5 =>
      if v1 < 0 ∨ 4 ≤ v1.toNatClampNeg then none else
      some ((xB u5).2.1 (v1.toNatClampNeg), u5)
    else
      bnd (f_X6_found (0 : Int32) u0) fun r7 u8 =>
      some (r7, u8))
  else
    bnd (f_X6_found (6 : Int32) u0) fun r9 u10 =>
    some (r9, u10))
set_option maxRecDepth 100000 in
set_option maxHeartbeats 4000000 in
theorem b_X6_sheet_35 (X : cx p s m args meth c cX6_sheet 4 RX6 (some .int)) (K : kx D cI cZ cQ adK adV A s s.heap) {v1 : Int32} {v2 : Int32} {v3 : Int32} {u0 : XS} (G : wg D A s.heap H locs (wX cI cZ cQ ad u0)) (hl : lv_has ls 4 [(0, .ref (ad 0)), (1, .int v1), (2, .int v2), (3, .int v3)]) {r : Int32} {u' : XS} (h : f_X6_sheet_35 v1 v2 v3 u0 = some (r, u')) : W p l e { frames := 2, cells := 0, slots := 0, locals := 43 } s m args below meth c H locs 0 0 (qI D A (wX cI cZ cQ ad) below args s r u') (F0 m 35 ls []) := by
  unfold f_X6_sheet_35 at h
  obtain ⟨hx, hb, -⟩ := id X
  refine lv_iload_n hx hb dX6_sheet_35 rfl (lv_at hl 3 rfl) ?_
  refine lv_if_ge (tgt := 46) hx hb dX6_sheet_36 (by decide) (fun c1 => ?_) (fun c1 => ?_)
  · have h := it_at c1 h
    refine lv_iload_n hx hb dX6_sheet_46 rfl (lv_at hl 3 rfl) ?_
    refine lv_bipush (v := 40) hx hb dX6_sheet_47 (by decide) ?_
    refine lv_icmp_le (tgt := 58) hx hb dX6_sheet_49 (by decide) (fun c2 => ?_) (fun c2 => ?_)
    · have h := it_at c2 h
      refine lv_aload_n hx hb dX6_sheet_58 rfl (lv_at hl 0 rfl) ?_
      refine gX_0_7 X K G q_307 dX6_sheet_59 ?_
      refine lv_iload_n hx hb dX6_sheet_62 rfl (lv_at hl 1 rfl) ?_
      obtain ⟨g3, h⟩ := ck_at h
      refine lX_34 X K G g3 dX6_sheet_63 ?_
      refine lv_iload_n hx hb dX6_sheet_64 rfl (lv_at hl 2 rfl) ?_
      refine lv_iload_n hx hb dX6_sheet_65 rfl (lv_at hl 3 rfl) ?_
      obtain ⟨r4, u5, er4, h⟩ := bnd_at h
      refine cvV (rest := []) X K G (c_X1_layOut (idx_lt g3) er4) q_843 my_X1_layOut ⟨rfl, rfl⟩ ⟨Nat.le_of_ble_eq_true rfl, Nat.le_of_ble_eq_true rfl⟩ ⟨Nat.zero_le _, Nat.zero_le _⟩ (35 + 2 * (v1.toNatClampNeg)) 1 (eS_obj (idx_lt g3)) rfl rfl rfl hl.1 rfl (Nat.le_of_ble_eq_true rfl) dX6_sheet_66 (fun H locs G => ?_)
      clear er4
      refine lv_aload_n hx hb dX6_sheet_69 rfl (lv_at hl 0 rfl) ?_
      refine gX_0_7 X K G q_307 dX6_sheet_70 ?_
      refine lv_iload_n hx hb dX6_sheet_73 rfl (lv_at hl 1 rfl) ?_
      obtain ⟨g6, h⟩ := ck_at h
      refine lX_34 X K G g6 dX6_sheet_74 ?_
      refine gS_size X K G (idx_lt g6) q_289 dX6_sheet_75 ?_
      obtain ⟨rfl, rfl⟩ := pair_at h
      exact reI X G dX6_sheet_78
    · have h := if_at c2 h
      refine lv_aload_n hx hb dX6_sheet_52 rfl (lv_at hl 0 rfl) ?_
      refine lv_iconst (v := 0) hx hb dX6_sheet_53 (by decide) ?_
      obtain ⟨r7, u8, er7, h⟩ := bnd_at h
      refine cvI (rest := []) X K G (c_X6_found er7) q_338 my_X6_found ⟨rfl, rfl⟩ ⟨Nat.le_of_ble_eq_true rfl, Nat.le_of_ble_eq_true rfl⟩ ⟨Nat.zero_le _, Nat.zero_le _⟩ 0 6 rfl rfl rfl rfl hl.1 rfl (Nat.le_of_ble_eq_true rfl) dX6_sheet_54 (fun H locs G => ?_)
      clear er7
      obtain ⟨rfl, rfl⟩ := pair_at h
      exact reI X G dX6_sheet_57
  · have h := if_at c1 h
    refine lv_aload_n hx hb dX6_sheet_39 rfl (lv_at hl 0 rfl) ?_
    refine lv_bipush (v := 6) hx hb dX6_sheet_40 (by decide) ?_
    obtain ⟨r9, u10, er9, h⟩ := bnd_at h
    refine cvI (rest := []) X K G (c_X6_found er9) q_338 my_X6_found ⟨rfl, rfl⟩ ⟨Nat.le_of_ble_eq_true rfl, Nat.le_of_ble_eq_true rfl⟩ ⟨Nat.zero_le _, Nat.zero_le _⟩ 0 6 rfl rfl rfl rfl hl.1 rfl (Nat.le_of_ble_eq_true rfl) dX6_sheet_42 (fun H locs G => ?_)
    clear er9
    obtain ⟨rfl, rfl⟩ := pair_at h
    exact reI X G dX6_sheet_45
noncomputable def f_X6_sheet (a1 : Int32) (a2 : Int32) (a3 : Int32) (u0 : XS) : Option (Int32 × XS) :=
  bnd (f_X6_isSheet a1 u0) fun r1 u2 =>
  (if r1 = 0 then
    bnd (f_X6_found (0 : Int32) u2) fun r4 u5 =>
    some (r4, u5)
  else
    (if a2 = 0 then
      f_X6_sheet_35 a1 a2 a3 u2
    else
      (if a2 = (8 : Int32) then
        f_X6_sheet_35 a1 a2 a3 u2
      else
        (if a2 = (16 : Int32) then
          f_X6_sheet_35 a1 a2 a3 u2
        else
          (if a2 = (32 : Int32) then
            f_X6_sheet_35 a1 a2 a3 u2
          else
            bnd (f_X6_found (0 : Int32) u2) fun r10 u11 =>
            some (r10, u11))))))
set_option maxRecDepth 100000 in
set_option maxHeartbeats 4000000 in
theorem c_X6_sheet {a1 : Int32} {a2 : Int32} {a3 : Int32} {u0 : XS} {r : Int32} {u' : XS} (h : f_X6_sheet a1 a2 a3 u0 = some (r, u')) : MI l D cI cZ cQ adK adV A yX6_sheet cX6_sheet 4 (some .int) { frames := 2, cells := 0, slots := 0, locals := 43 } [.ref (ad 0), .int a1, .int a2, .int a3] (wX cI cZ cQ ad) u0 r u' := by
  unfold f_X6_sheet at h
  refine entI (by decide) (Nat.le_of_ble_eq_true rfl) (fun p e s m below meth c ls X K G hl => ?_)
  have hl : lv_has ls 4 [(0, .ref (ad 0)), (1, .int a1), (2, .int a2), (3, .int a3)] := hl
  obtain ⟨hx, hb, -⟩ := id X
  generalize hH : s.heap = H at G
  subst hH
  refine lv_iload_n hx hb dX6_sheet_0 rfl (lv_at hl 1 rfl) ?_
  obtain ⟨r1, u2, er1, h⟩ := bnd_at h
  refine csI (rest := []) X K G (c_X6_isSheet er1) q_840 my_X6_isSheet ⟨rfl, rfl⟩ ⟨Nat.le_of_ble_eq_true rfl, Nat.le_of_ble_eq_true rfl⟩ ⟨Nat.zero_le _, Nat.zero_le _⟩ rfl hl.1 rfl (Nat.le_of_ble_eq_true rfl) dX6_sheet_1 (fun H locs G => ?_)
  clear er1
  refine lv_if_eq (tgt := 29) hx hb dX6_sheet_4 (by decide) (fun c3 => ?_) (fun c3 => ?_)
  · have h := it_at c3 h
    refine lv_aload_n hx hb dX6_sheet_29 rfl (lv_at hl 0 rfl) ?_
    refine lv_iconst (v := 0) hx hb dX6_sheet_30 (by decide) ?_
    obtain ⟨r4, u5, er4, h⟩ := bnd_at h
    refine cvI (rest := []) X K G (c_X6_found er4) q_338 my_X6_found ⟨rfl, rfl⟩ ⟨Nat.le_of_ble_eq_true rfl, Nat.le_of_ble_eq_true rfl⟩ ⟨Nat.zero_le _, Nat.zero_le _⟩ 0 6 rfl rfl rfl rfl hl.1 rfl (Nat.le_of_ble_eq_true rfl) dX6_sheet_31 (fun H locs G => ?_)
    clear er4
    obtain ⟨rfl, rfl⟩ := pair_at h
    exact reI X G dX6_sheet_34
  · have h := if_at c3 h
    refine lv_iload_n hx hb dX6_sheet_7 rfl (lv_at hl 2 rfl) ?_
    refine lv_if_eq (tgt := 35) hx hb dX6_sheet_8 (by decide) (fun c6 => ?_) (fun c6 => ?_)
    · have h := it_at c6 h
      exact b_X6_sheet_35 X K G (lv_sub hl [0, 1, 2, 3] rfl) h
    · have h := if_at c6 h
      refine lv_iload_n hx hb dX6_sheet_11 rfl (lv_at hl 2 rfl) ?_
      refine lv_bipush (v := 8) hx hb dX6_sheet_12 (by decide) ?_
      refine lv_icmp_eq (tgt := 35) hx hb dX6_sheet_14 (by decide) (fun c7 => ?_) (fun c7 => ?_)
      · have h := it_at c7 h
        exact b_X6_sheet_35 X K G (lv_sub hl [0, 1, 2, 3] rfl) h
      · have h := if_at c7 h
        refine lv_iload_n hx hb dX6_sheet_17 rfl (lv_at hl 2 rfl) ?_
        refine lv_bipush (v := 16) hx hb dX6_sheet_18 (by decide) ?_
        refine lv_icmp_eq (tgt := 35) hx hb dX6_sheet_20 (by decide) (fun c8 => ?_) (fun c8 => ?_)
        · have h := it_at c8 h
          exact b_X6_sheet_35 X K G (lv_sub hl [0, 1, 2, 3] rfl) h
        · have h := if_at c8 h
          refine lv_iload_n hx hb dX6_sheet_23 rfl (lv_at hl 2 rfl) ?_
          refine lv_bipush (v := 32) hx hb dX6_sheet_24 (by decide) ?_
          refine lv_icmp_eq (tgt := 35) hx hb dX6_sheet_26 (by decide) (fun c9 => ?_) (fun c9 => ?_)
          · have h := it_at c9 h
            exact b_X6_sheet_35 X K G (lv_sub hl [0, 1, 2, 3] rfl) h
          · have h := if_at c9 h
            refine lv_aload_n hx hb dX6_sheet_29 rfl (lv_at hl 0 rfl) ?_
            refine lv_iconst (v := 0) hx hb dX6_sheet_30 (by decide) ?_
            obtain ⟨r10, u11, er10, h⟩ := bnd_at h
            refine cvI (rest := []) X K G (c_X6_found er10) q_338 my_X6_found ⟨rfl, rfl⟩ ⟨Nat.le_of_ble_eq_true rfl, Nat.le_of_ble_eq_true rfl⟩ ⟨Nat.zero_le _, Nat.zero_le _⟩ 0 6 rfl rfl rfl rfl hl.1 rfl (Nat.le_of_ble_eq_true rfl) dX6_sheet_31 (fun H locs G => ?_)
            clear er10
            obtain ⟨rfl, rfl⟩ := pair_at h
            exact reI X G dX6_sheet_34
noncomputable def f_X1_put (j0 : Nat) (a1 : Int32) (a2 : Int32) (u0 : XS) : Option (Int32 × XS) :=
  nmv ((32 : Int32) - ((xB u0).1 j0)) fun x1 =>
  nmv ((a2 <<< (x1 &&& 31)) >>> (x1 &&& 31)) fun x2 =>
  if a1 < 0 ∨ 40 ≤ a1.toNatClampNeg then none else
  nmv (sB u0 ((xB u0).1, (xB u0).2.1, va_up (xB u0).2.2 j0 (upd ((xB u0).2.2 j0) a1.toNatClampNeg x2))) fun u4 =>
  some ((0 : Int32), u4)
set_option maxRecDepth 100000 in
set_option maxHeartbeats 4000000 in
theorem c_X1_put {j0 : Nat} {a1 : Int32} {a2 : Int32} {u0 : XS} {r : Int32} {u' : XS} (hj0 : j0 < 4) (h : f_X1_put j0 a1 a2 u0 = some (r, u')) : MV l D cI cZ cQ adK adV A yX1_put cX1_put 4 { frames := 0, cells := 0, slots := 0, locals := 0 } [.ref (ad (35 + 2 * j0)), .int a1, .int a2] (wX cI cZ cQ ad) u0 u' := by
  unfold f_X1_put at h
  refine entV (by decide) (Nat.le_of_ble_eq_true rfl) (fun p e s m below meth c ls X K G hl => ?_)
  have hl : lv_has ls 4 [(0, .ref (ad (35 + 2 * j0))), (1, .int a1), (2, .int a2)] := hl
  obtain ⟨hx, hb, -⟩ := id X
  generalize hH : s.heap = H at G
  subst hH
  refine lv_bipush (v := 32) hx hb dX1_put_0 (by decide) ?_
  refine lv_aload_n hx hb dX1_put_2 rfl (lv_at hl 0 rfl) ?_
  refine gS_bits X K G hj0 q_285 dX1_put_3 ?_
  refine lv_isub hx hb dX1_put_6 ?_
  refine lv_topi (fun x1 ex1 => ?_)
  have h := nm_at ex1 h
  refine lv_istore_n (lv' := [(3, .int x1), (0, .ref (ad (35 + 2 * j0))), (1, .int a1), (2, .int a2)]) hx hb dX1_put_7 rfl hl (by decide) rfl (fun ls hl => ?_)
  refine lv_aload_n hx hb dX1_put_8 rfl (lv_at hl 1 rfl) ?_
  refine gS_numbers X K G hj0 q_290 dX1_put_9 ?_
  refine lv_iload_n hx hb dX1_put_12 rfl (lv_at hl 2 rfl) ?_
  refine lv_iload_n hx hb dX1_put_13 rfl (lv_at hl 3 rfl) ?_
  refine lv_iload_n hx hb dX1_put_14 rfl (lv_at hl 0 rfl) ?_
  refine lv_ishl hx hb dX1_put_15 ?_
  refine lv_iload_n hx hb dX1_put_16 rfl (lv_at hl 0 rfl) ?_
  refine lv_ishr hx hb dX1_put_17 ?_
  refine lv_topi (fun x2 ex2 => ?_)
  have h := nm_at ex2 h
  obtain ⟨g3, h⟩ := ck_at h
  refine aS_numbers X K G hj0 g3 dX1_put_18 (fun H locs G => ?_)
  obtain ⟨u4, eu4⟩ : ∃ z : XS, z = sB u0 ((xB u0).1, (xB u0).2.1, va_up (xB u0).2.2 j0 (upd ((xB u0).2.2 j0) a1.toNatClampNeg x2)) := ⟨_, rfl⟩
  have G : wg D A s.heap H locs (wX cI cZ cQ ad u4) := by rw [eu4]; exact G
  have h := nm_at eu4 h
  clear eu4
  obtain ⟨rfl, rfl⟩ := pair_at h
  exact reV X G dX1_put_19
noncomputable def f_X6_write (a1 : Int32) (a2 : Int32) (a3 : Int32) (u0 : XS) : Option (Int32 × XS) :=
  bnd (f_X6_isSheet a1 u0) fun r1 u2 =>
  (if r1 = 0 then
    bnd (f_X6_found (0 : Int32) u2) fun r17 u18 =>
    some (r17, u18)
  else
    if a1 < 0 ∨ 4 ≤ a1.toNatClampNeg then none else
    (if ((xB u2).1 (a1.toNatClampNeg)) = 0 then
      bnd (f_X6_found (5 : Int32) u2) fun r15 u16 =>
      some (r15, u16)
    else
      if a1 < 0 ∨ 4 ≤ a1.toNatClampNeg then none else
      bnd (f_X6_within a2 (0 : Int32) (((xB u2).2.1 (a1.toNatClampNeg)) - (1 : Int32)) u2) fun r7 u8 =>
      (if r7 = 0 then
        bnd (f_X6_found (0 : Int32) u8) fun r13 u14 =>
        some (r13, u14)
      else
        if a1 < 0 ∨ 4 ≤ a1.toNatClampNeg then none else
        bnd (f_X1_put (a1.toNatClampNeg) a2 a3 u8) fun r11 u12 =>
        some ((1 : Int32), u12))))
set_option maxRecDepth 100000 in
set_option maxHeartbeats 4000000 in
theorem c_X6_write {a1 : Int32} {a2 : Int32} {a3 : Int32} {u0 : XS} {r : Int32} {u' : XS} (h : f_X6_write a1 a2 a3 u0 = some (r, u')) : MI l D cI cZ cQ adK adV A yX6_write cX6_write 4 (some .int) { frames := 2, cells := 0, slots := 0, locals := 43 } [.ref (ad 0), .int a1, .int a2, .int a3] (wX cI cZ cQ ad) u0 r u' := by
  unfold f_X6_write at h
  refine entI (by decide) (Nat.le_of_ble_eq_true rfl) (fun p e s m below meth c ls X K G hl => ?_)
  have hl : lv_has ls 4 [(0, .ref (ad 0)), (1, .int a1), (2, .int a2), (3, .int a3)] := hl
  obtain ⟨hx, hb, -⟩ := id X
  generalize hH : s.heap = H at G
  subst hH
  refine lv_iload_n hx hb dX6_write_0 rfl (lv_at hl 1 rfl) ?_
  obtain ⟨r1, u2, er1, h⟩ := bnd_at h
  refine csI (rest := []) X K G (c_X6_isSheet er1) q_840 my_X6_isSheet ⟨rfl, rfl⟩ ⟨Nat.le_of_ble_eq_true rfl, Nat.le_of_ble_eq_true rfl⟩ ⟨Nat.zero_le _, Nat.zero_le _⟩ rfl hl.1 rfl (Nat.le_of_ble_eq_true rfl) dX6_write_1 (fun H locs G => ?_)
  clear er1
  refine lv_if_ne (tgt := 13) hx hb dX6_write_4 (by decide) (fun c3 => ?_) (fun c3 => ?_)
  · have h := if_at c3 h
    refine lv_aload_n hx hb dX6_write_13 rfl (lv_at hl 0 rfl) ?_
    refine gX_0_7 X K G q_307 dX6_write_14 ?_
    refine lv_iload_n hx hb dX6_write_17 rfl (lv_at hl 1 rfl) ?_
    obtain ⟨g4, h⟩ := ck_at h
    refine lX_34 X K G g4 dX6_write_18 ?_
    refine gS_bits X K G (idx_lt g4) q_286 dX6_write_19 ?_
    refine lv_if_ne (tgt := 31) hx hb dX6_write_22 (by decide) (fun c5 => ?_) (fun c5 => ?_)
    · have h := if_at c5 h
      refine lv_iload_n hx hb dX6_write_31 rfl (lv_at hl 2 rfl) ?_
      refine lv_iconst (v := 0) hx hb dX6_write_32 (by decide) ?_
      refine lv_aload_n hx hb dX6_write_33 rfl (lv_at hl 0 rfl) ?_
      refine gX_0_7 X K G q_307 dX6_write_34 ?_
      refine lv_iload_n hx hb dX6_write_37 rfl (lv_at hl 1 rfl) ?_
      obtain ⟨g6, h⟩ := ck_at h
      refine lX_34 X K G g6 dX6_write_38 ?_
      refine gS_size X K G (idx_lt g6) q_289 dX6_write_39 ?_
      refine lv_iconst (v := 1) hx hb dX6_write_42 (by decide) ?_
      refine lv_isub hx hb dX6_write_43 ?_
      obtain ⟨r7, u8, er7, h⟩ := bnd_at h
      refine csI (rest := []) X K G (c_X6_within er7) q_335 my_X6_within ⟨rfl, rfl⟩ ⟨Nat.le_of_ble_eq_true rfl, Nat.le_of_ble_eq_true rfl⟩ ⟨Nat.zero_le _, Nat.zero_le _⟩ rfl hl.1 rfl (Nat.le_of_ble_eq_true rfl) dX6_write_44 (fun H locs G => ?_)
      clear er7
      refine lv_if_ne (tgt := 56) hx hb dX6_write_47 (by decide) (fun c9 => ?_) (fun c9 => ?_)
      · have h := if_at c9 h
        refine lv_aload_n hx hb dX6_write_56 rfl (lv_at hl 0 rfl) ?_
        refine gX_0_7 X K G q_307 dX6_write_57 ?_
        refine lv_iload_n hx hb dX6_write_60 rfl (lv_at hl 1 rfl) ?_
        obtain ⟨g10, h⟩ := ck_at h
        refine lX_34 X K G g10 dX6_write_61 ?_
        refine lv_iload_n hx hb dX6_write_62 rfl (lv_at hl 2 rfl) ?_
        refine lv_iload_n hx hb dX6_write_63 rfl (lv_at hl 3 rfl) ?_
        obtain ⟨r11, u12, er11, h⟩ := bnd_at h
        refine cvV (rest := []) X K G (c_X1_put (idx_lt g10) er11) q_851 my_X1_put ⟨rfl, rfl⟩ ⟨Nat.le_of_ble_eq_true rfl, Nat.le_of_ble_eq_true rfl⟩ ⟨Nat.zero_le _, Nat.zero_le _⟩ (35 + 2 * (a1.toNatClampNeg)) 1 (eS_obj (idx_lt g10)) rfl rfl rfl hl.1 rfl (Nat.le_of_ble_eq_true rfl) dX6_write_64 (fun H locs G => ?_)
        clear er11
        refine lv_iconst (v := 1) hx hb dX6_write_67 (by decide) ?_
        obtain ⟨rfl, rfl⟩ := pair_at h
        exact reI X G dX6_write_68
      · have h := it_at c9 h
        refine lv_aload_n hx hb dX6_write_50 rfl (lv_at hl 0 rfl) ?_
        refine lv_iconst (v := 0) hx hb dX6_write_51 (by decide) ?_
        obtain ⟨r13, u14, er13, h⟩ := bnd_at h
        refine cvI (rest := []) X K G (c_X6_found er13) q_338 my_X6_found ⟨rfl, rfl⟩ ⟨Nat.le_of_ble_eq_true rfl, Nat.le_of_ble_eq_true rfl⟩ ⟨Nat.zero_le _, Nat.zero_le _⟩ 0 6 rfl rfl rfl rfl hl.1 rfl (Nat.le_of_ble_eq_true rfl) dX6_write_52 (fun H locs G => ?_)
        clear er13
        obtain ⟨rfl, rfl⟩ := pair_at h
        exact reI X G dX6_write_55
    · have h := it_at c5 h
      refine lv_aload_n hx hb dX6_write_25 rfl (lv_at hl 0 rfl) ?_
      refine lv_iconst (v := 5) hx hb dX6_write_26 (by decide) ?_
      obtain ⟨r15, u16, er15, h⟩ := bnd_at h
      refine cvI (rest := []) X K G (c_X6_found er15) q_338 my_X6_found ⟨rfl, rfl⟩ ⟨Nat.le_of_ble_eq_true rfl, Nat.le_of_ble_eq_true rfl⟩ ⟨Nat.zero_le _, Nat.zero_le _⟩ 0 6 rfl rfl rfl rfl hl.1 rfl (Nat.le_of_ble_eq_true rfl) dX6_write_27 (fun H locs G => ?_)
      clear er15
      obtain ⟨rfl, rfl⟩ := pair_at h
      exact reI X G dX6_write_30
  · have h := it_at c3 h
    refine lv_aload_n hx hb dX6_write_7 rfl (lv_at hl 0 rfl) ?_
    refine lv_iconst (v := 0) hx hb dX6_write_8 (by decide) ?_
    obtain ⟨r17, u18, er17, h⟩ := bnd_at h
    refine cvI (rest := []) X K G (c_X6_found er17) q_338 my_X6_found ⟨rfl, rfl⟩ ⟨Nat.le_of_ble_eq_true rfl, Nat.le_of_ble_eq_true rfl⟩ ⟨Nat.zero_le _, Nat.zero_le _⟩ 0 6 rfl rfl rfl rfl hl.1 rfl (Nat.le_of_ble_eq_true rfl) dX6_write_9 (fun H locs G => ?_)
    clear er17
    obtain ⟨rfl, rfl⟩ := pair_at h
    exact reI X G dX6_write_12
noncomputable def f_X1_hasStretch (j0 : Nat) (a1 : Int32) (a2 : Int32) (u0 : XS) : Option (Int32 × XS) :=
  (if a1 < 0 then
    some ((0 : Int32), u0)
  else
    (if a2 < 0 then
      some ((0 : Int32), u0)
    else
      (if ((xB u0).2.1 j0) < a1 then
        some ((0 : Int32), u0)
      else
        (if (((xB u0).2.1 j0) - a1) < a2 then
          some ((0 : Int32), u0)
        else
          some ((1 : Int32), u0)))))
set_option maxRecDepth 100000 in
set_option maxHeartbeats 4000000 in
theorem c_X1_hasStretch {j0 : Nat} {a1 : Int32} {a2 : Int32} {u0 : XS} {r : Int32} {u' : XS} (hj0 : j0 < 4) (h : f_X1_hasStretch j0 a1 a2 u0 = some (r, u')) : MI l D cI cZ cQ adK adV A yX1_hasStretch cX1_hasStretch 3 (some .boolean) { frames := 0, cells := 0, slots := 0, locals := 0 } [.ref (ad (35 + 2 * j0)), .int a1, .int a2] (wX cI cZ cQ ad) u0 r u' := by
  unfold f_X1_hasStretch at h
  refine entI (by decide) (Nat.le_of_ble_eq_true rfl) (fun p e s m below meth c ls X K G hl => ?_)
  have hl : lv_has ls 3 [(0, .ref (ad (35 + 2 * j0))), (1, .int a1), (2, .int a2)] := hl
  obtain ⟨hx, hb, -⟩ := id X
  generalize hH : s.heap = H at G
  subst hH
  refine lv_iload_n hx hb dX1_hasStretch_0 rfl (lv_at hl 1 rfl) ?_
  refine lv_if_lt (tgt := 30) hx hb dX1_hasStretch_1 (by decide) (fun c1 => ?_) (fun c1 => ?_)
  · have h := it_at c1 h
    refine lv_iconst (v := 0) hx hb dX1_hasStretch_30 (by decide) ?_
    obtain ⟨rfl, rfl⟩ := pair_at h
    exact reZ X G (Or.inl rfl) dX1_hasStretch_31
  · have h := if_at c1 h
    refine lv_iload_n hx hb dX1_hasStretch_4 rfl (lv_at hl 2 rfl) ?_
    refine lv_if_lt (tgt := 30) hx hb dX1_hasStretch_5 (by decide) (fun c2 => ?_) (fun c2 => ?_)
    · have h := it_at c2 h
      refine lv_iconst (v := 0) hx hb dX1_hasStretch_30 (by decide) ?_
      obtain ⟨rfl, rfl⟩ := pair_at h
      exact reZ X G (Or.inl rfl) dX1_hasStretch_31
    · have h := if_at c2 h
      refine lv_iload_n hx hb dX1_hasStretch_8 rfl (lv_at hl 1 rfl) ?_
      refine lv_aload_n hx hb dX1_hasStretch_9 rfl (lv_at hl 0 rfl) ?_
      refine gS_size X K G hj0 q_287 dX1_hasStretch_10 ?_
      refine lv_icmp_gt (tgt := 30) hx hb dX1_hasStretch_13 (by decide) (fun c3 => ?_) (fun c3 => ?_)
      · have h := it_at c3 h
        refine lv_iconst (v := 0) hx hb dX1_hasStretch_30 (by decide) ?_
        obtain ⟨rfl, rfl⟩ := pair_at h
        exact reZ X G (Or.inl rfl) dX1_hasStretch_31
      · have h := if_at c3 h
        refine lv_iload_n hx hb dX1_hasStretch_16 rfl (lv_at hl 2 rfl) ?_
        refine lv_aload_n hx hb dX1_hasStretch_17 rfl (lv_at hl 0 rfl) ?_
        refine gS_size X K G hj0 q_287 dX1_hasStretch_18 ?_
        refine lv_iload_n hx hb dX1_hasStretch_21 rfl (lv_at hl 1 rfl) ?_
        refine lv_isub hx hb dX1_hasStretch_22 ?_
        refine lv_icmp_gt (tgt := 30) hx hb dX1_hasStretch_23 (by decide) (fun c4 => ?_) (fun c4 => ?_)
        · have h := it_at c4 h
          refine lv_iconst (v := 0) hx hb dX1_hasStretch_30 (by decide) ?_
          obtain ⟨rfl, rfl⟩ := pair_at h
          exact reZ X G (Or.inl rfl) dX1_hasStretch_31
        · have h := if_at c4 h
          refine lv_iconst (v := 1) hx hb dX1_hasStretch_26 (by decide) ?_
          refine lv_goto (tgt := 31) hx hb dX1_hasStretch_27 (by decide) ?_
          obtain ⟨rfl, rfl⟩ := pair_at h
          exact reZ X G (Or.inr rfl) dX1_hasStretch_31
noncomputable def f_X6_copy (a1 : Int32) (a2 : Int32) (a3 : Int32) (a4 : Int32) (a5 : Int32) (u0 : XS) : Option (Int32 × XS) :=
  bnd (f_X6_isSheet a1 u0) fun r1 u2 =>
  (if r1 = 0 then
    bnd (f_X6_found (0 : Int32) u2) fun r4 u5 =>
    some (r4, u5)
  else
    bnd (f_X6_isSheet a3 u2) fun r6 u7 =>
    (if r6 = 0 then
      bnd (f_X6_found (0 : Int32) u7) fun r38 u39 =>
      some (r38, u39)
    else
      if a1 < 0 ∨ 4 ≤ a1.toNatClampNeg then none else
      (if ((xB u7).1 (a1.toNatClampNeg)) = 0 then
        bnd (f_X6_found (5 : Int32) u7) fun r11 u12 =>
        some (r11, u12)
      else
        if a3 < 0 ∨ 4 ≤ a3.toNatClampNeg then none else
        (if ((xB u7).1 (a3.toNatClampNeg)) = 0 then
          bnd (f_X6_found (5 : Int32) u7) fun r36 u37 =>
          some (r36, u37)
        else
          if a1 < 0 ∨ 4 ≤ a1.toNatClampNeg then none else
          if a3 < 0 ∨ 4 ≤ a3.toNatClampNeg then none else
          (if ((xB u7).1 (a1.toNatClampNeg)) = ((xB u7).1 (a3.toNatClampNeg)) then
            if a1 < 0 ∨ 4 ≤ a1.toNatClampNeg then none else
            bnd (f_X1_hasStretch (a1.toNatClampNeg) a2 a5 u7) fun r19 u20 =>
            (if r19 = 0 then
              bnd (f_X6_found (0 : Int32) u20) fun r22 u23 =>
              some (r22, u23)
            else
              if a3 < 0 ∨ 4 ≤ a3.toNatClampNeg then none else
              bnd (f_X1_hasStretch (a3.toNatClampNeg) a4 a5 u20) fun r25 u26 =>
              (if r25 = 0 then
                bnd (f_X6_found (0 : Int32) u26) fun r32 u33 =>
                some (r32, u33)
              else
                if a1 < 0 ∨ 4 ≤ a1.toNatClampNeg then none else
                if a3 < 0 ∨ 4 ≤ a3.toNatClampNeg then none else
                if a2 < 0 ∨ a4 < 0 ∨ a5 < 0 ∨ 40 < a2.toNatClampNeg + a5.toNatClampNeg ∨ 40 < a4.toNatClampNeg + a5.toNatClampNeg then none else
                nmv (sB u26 ((xB u26).1, (xB u26).2.1, va_up (xB u26).2.2 (a3.toNatClampNeg) (va_cpy ((xB u26).2.2 (a1.toNatClampNeg)) ((xB u26).2.2 (a3.toNatClampNeg)) a2.toNatClampNeg a4.toNatClampNeg a5.toNatClampNeg))) fun u31 =>
                some (a5, u31)))
          else
            bnd (f_X6_found (2 : Int32) u7) fun r34 u35 =>
            some (r34, u35))))))
set_option maxRecDepth 100000 in
set_option maxHeartbeats 4000000 in
theorem c_X6_copy {a1 : Int32} {a2 : Int32} {a3 : Int32} {a4 : Int32} {a5 : Int32} {u0 : XS} {r : Int32} {u' : XS} (h : f_X6_copy a1 a2 a3 a4 a5 u0 = some (r, u')) : MI l D cI cZ cQ adK adV A yX6_copy cX6_copy 6 (some .int) { frames := 2, cells := 0, slots := 0, locals := 43 } [.ref (ad 0), .int a1, .int a2, .int a3, .int a4, .int a5] (wX cI cZ cQ ad) u0 r u' := by
  unfold f_X6_copy at h
  refine entI (by decide) (Nat.le_of_ble_eq_true rfl) (fun p e s m below meth c ls X K G hl => ?_)
  have hl : lv_has ls 6 [(0, .ref (ad 0)), (1, .int a1), (2, .int a2), (3, .int a3), (4, .int a4), (5, .int a5)] := hl
  obtain ⟨hx, hb, -⟩ := id X
  generalize hH : s.heap = H at G
  subst hH
  refine lv_iload_n hx hb dX6_copy_0 rfl (lv_at hl 1 rfl) ?_
  obtain ⟨r1, u2, er1, h⟩ := bnd_at h
  refine csI (rest := []) X K G (c_X6_isSheet er1) q_840 my_X6_isSheet ⟨rfl, rfl⟩ ⟨Nat.le_of_ble_eq_true rfl, Nat.le_of_ble_eq_true rfl⟩ ⟨Nat.zero_le _, Nat.zero_le _⟩ rfl hl.1 rfl (Nat.le_of_ble_eq_true rfl) dX6_copy_1 (fun H locs G => ?_)
  clear er1
  refine lv_if_eq (tgt := 14) hx hb dX6_copy_4 (by decide) (fun c3 => ?_) (fun c3 => ?_)
  · have h := it_at c3 h
    refine lv_aload_n hx hb dX6_copy_14 rfl (lv_at hl 0 rfl) ?_
    refine lv_iconst (v := 0) hx hb dX6_copy_15 (by decide) ?_
    obtain ⟨r4, u5, er4, h⟩ := bnd_at h
    refine cvI (rest := []) X K G (c_X6_found er4) q_338 my_X6_found ⟨rfl, rfl⟩ ⟨Nat.le_of_ble_eq_true rfl, Nat.le_of_ble_eq_true rfl⟩ ⟨Nat.zero_le _, Nat.zero_le _⟩ 0 6 rfl rfl rfl rfl hl.1 rfl (Nat.le_of_ble_eq_true rfl) dX6_copy_16 (fun H locs G => ?_)
    clear er4
    obtain ⟨rfl, rfl⟩ := pair_at h
    exact reI X G dX6_copy_19
  · have h := if_at c3 h
    refine lv_iload_n hx hb dX6_copy_7 rfl (lv_at hl 3 rfl) ?_
    obtain ⟨r6, u7, er6, h⟩ := bnd_at h
    refine csI (rest := []) X K G (c_X6_isSheet er6) q_840 my_X6_isSheet ⟨rfl, rfl⟩ ⟨Nat.le_of_ble_eq_true rfl, Nat.le_of_ble_eq_true rfl⟩ ⟨Nat.zero_le _, Nat.zero_le _⟩ rfl hl.1 rfl (Nat.le_of_ble_eq_true rfl) dX6_copy_8 (fun H locs G => ?_)
    clear er6
    refine lv_if_ne (tgt := 20) hx hb dX6_copy_11 (by decide) (fun c8 => ?_) (fun c8 => ?_)
    · have h := if_at c8 h
      refine lv_aload_n hx hb dX6_copy_20 rfl (lv_at hl 0 rfl) ?_
      refine gX_0_7 X K G q_307 dX6_copy_21 ?_
      refine lv_iload_n hx hb dX6_copy_24 rfl (lv_at hl 1 rfl) ?_
      obtain ⟨g9, h⟩ := ck_at h
      refine lX_34 X K G g9 dX6_copy_25 ?_
      refine gS_bits X K G (idx_lt g9) q_286 dX6_copy_26 ?_
      refine lv_if_eq (tgt := 44) hx hb dX6_copy_29 (by decide) (fun c10 => ?_) (fun c10 => ?_)
      · have h := it_at c10 h
        refine lv_aload_n hx hb dX6_copy_44 rfl (lv_at hl 0 rfl) ?_
        refine lv_iconst (v := 5) hx hb dX6_copy_45 (by decide) ?_
        obtain ⟨r11, u12, er11, h⟩ := bnd_at h
        refine cvI (rest := []) X K G (c_X6_found er11) q_338 my_X6_found ⟨rfl, rfl⟩ ⟨Nat.le_of_ble_eq_true rfl, Nat.le_of_ble_eq_true rfl⟩ ⟨Nat.zero_le _, Nat.zero_le _⟩ 0 6 rfl rfl rfl rfl hl.1 rfl (Nat.le_of_ble_eq_true rfl) dX6_copy_46 (fun H locs G => ?_)
        clear er11
        obtain ⟨rfl, rfl⟩ := pair_at h
        exact reI X G dX6_copy_49
      · have h := if_at c10 h
        refine lv_aload_n hx hb dX6_copy_32 rfl (lv_at hl 0 rfl) ?_
        refine gX_0_7 X K G q_307 dX6_copy_33 ?_
        refine lv_iload_n hx hb dX6_copy_36 rfl (lv_at hl 3 rfl) ?_
        obtain ⟨g13, h⟩ := ck_at h
        refine lX_34 X K G g13 dX6_copy_37 ?_
        refine gS_bits X K G (idx_lt g13) q_286 dX6_copy_38 ?_
        refine lv_if_ne (tgt := 50) hx hb dX6_copy_41 (by decide) (fun c14 => ?_) (fun c14 => ?_)
        · have h := if_at c14 h
          refine lv_aload_n hx hb dX6_copy_50 rfl (lv_at hl 0 rfl) ?_
          refine gX_0_7 X K G q_307 dX6_copy_51 ?_
          refine lv_iload_n hx hb dX6_copy_54 rfl (lv_at hl 1 rfl) ?_
          obtain ⟨g15, h⟩ := ck_at h
          refine lX_34 X K G g15 dX6_copy_55 ?_
          refine gS_bits X K G (idx_lt g15) q_286 dX6_copy_56 ?_
          refine lv_aload_n hx hb dX6_copy_59 rfl (lv_at hl 0 rfl) ?_
          refine gX_0_7 X K G q_307 dX6_copy_60 ?_
          refine lv_iload_n hx hb dX6_copy_63 rfl (lv_at hl 3 rfl) ?_
          obtain ⟨g16, h⟩ := ck_at h
          refine lX_34 X K G g16 dX6_copy_64 ?_
          refine gS_bits X K G (idx_lt g16) q_286 dX6_copy_65 ?_
          refine lv_icmp_eq (tgt := 77) hx hb dX6_copy_68 (by decide) (fun c17 => ?_) (fun c17 => ?_)
          · have h := it_at c17 h
            refine lv_aload_n hx hb dX6_copy_77 rfl (lv_at hl 0 rfl) ?_
            refine gX_0_7 X K G q_307 dX6_copy_78 ?_
            refine lv_iload_n hx hb dX6_copy_81 rfl (lv_at hl 1 rfl) ?_
            obtain ⟨g18, h⟩ := ck_at h
            refine lX_34 X K G g18 dX6_copy_82 ?_
            refine lv_iload_n hx hb dX6_copy_83 rfl (lv_at hl 2 rfl) ?_
            refine lv_iload hx hb dX6_copy_84 (lv_at hl 5 rfl) ?_
            obtain ⟨r19, u20, er19, h⟩ := bnd_at h
            refine cvI (rest := []) X K G (c_X1_hasStretch (idx_lt g18) er19) q_859 my_X1_hasStretch ⟨rfl, rfl⟩ ⟨Nat.le_of_ble_eq_true rfl, Nat.le_of_ble_eq_true rfl⟩ ⟨Nat.zero_le _, Nat.zero_le _⟩ (35 + 2 * (a1.toNatClampNeg)) 1 (eS_obj (idx_lt g18)) rfl rfl rfl hl.1 rfl (Nat.le_of_ble_eq_true rfl) dX6_copy_86 (fun H locs G => ?_)
            clear er19
            refine lv_if_eq (tgt := 108) hx hb dX6_copy_89 (by decide) (fun c21 => ?_) (fun c21 => ?_)
            · have h := it_at c21 h
              refine lv_aload_n hx hb dX6_copy_108 rfl (lv_at hl 0 rfl) ?_
              refine lv_iconst (v := 0) hx hb dX6_copy_109 (by decide) ?_
              obtain ⟨r22, u23, er22, h⟩ := bnd_at h
              refine cvI (rest := []) X K G (c_X6_found er22) q_338 my_X6_found ⟨rfl, rfl⟩ ⟨Nat.le_of_ble_eq_true rfl, Nat.le_of_ble_eq_true rfl⟩ ⟨Nat.zero_le _, Nat.zero_le _⟩ 0 6 rfl rfl rfl rfl hl.1 rfl (Nat.le_of_ble_eq_true rfl) dX6_copy_110 (fun H locs G => ?_)
              clear er22
              obtain ⟨rfl, rfl⟩ := pair_at h
              exact reI X G dX6_copy_113
            · have h := if_at c21 h
              refine lv_aload_n hx hb dX6_copy_92 rfl (lv_at hl 0 rfl) ?_
              refine gX_0_7 X K G q_307 dX6_copy_93 ?_
              refine lv_iload_n hx hb dX6_copy_96 rfl (lv_at hl 3 rfl) ?_
              obtain ⟨g24, h⟩ := ck_at h
              refine lX_34 X K G g24 dX6_copy_97 ?_
              refine lv_iload hx hb dX6_copy_98 (lv_at hl 4 rfl) ?_
              refine lv_iload hx hb dX6_copy_100 (lv_at hl 5 rfl) ?_
              obtain ⟨r25, u26, er25, h⟩ := bnd_at h
              refine cvI (rest := []) X K G (c_X1_hasStretch (idx_lt g24) er25) q_859 my_X1_hasStretch ⟨rfl, rfl⟩ ⟨Nat.le_of_ble_eq_true rfl, Nat.le_of_ble_eq_true rfl⟩ ⟨Nat.zero_le _, Nat.zero_le _⟩ (35 + 2 * (a3.toNatClampNeg)) 1 (eS_obj (idx_lt g24)) rfl rfl rfl hl.1 rfl (Nat.le_of_ble_eq_true rfl) dX6_copy_102 (fun H locs G => ?_)
              clear er25
              refine lv_if_ne (tgt := 114) hx hb dX6_copy_105 (by decide) (fun c27 => ?_) (fun c27 => ?_)
              · have h := if_at c27 h
                refine lv_aload_n hx hb dX6_copy_114 rfl (lv_at hl 0 rfl) ?_
                refine gX_0_7 X K G q_307 dX6_copy_115 ?_
                refine lv_iload_n hx hb dX6_copy_118 rfl (lv_at hl 1 rfl) ?_
                obtain ⟨g28, h⟩ := ck_at h
                refine lX_34 X K G g28 dX6_copy_119 ?_
                refine gS_numbers X K G (idx_lt g28) q_292 dX6_copy_120 ?_
                refine lv_iload_n hx hb dX6_copy_123 rfl (lv_at hl 2 rfl) ?_
                refine lv_aload_n hx hb dX6_copy_124 rfl (lv_at hl 0 rfl) ?_
                refine gX_0_7 X K G q_307 dX6_copy_125 ?_
                refine lv_iload_n hx hb dX6_copy_128 rfl (lv_at hl 3 rfl) ?_
                obtain ⟨g29, h⟩ := ck_at h
                refine lX_34 X K G g29 dX6_copy_129 ?_
                refine gS_numbers X K G (idx_lt g29) q_292 dX6_copy_130 ?_
                refine lv_iload hx hb dX6_copy_133 (lv_at hl 4 rfl) ?_
                refine lv_iload hx hb dX6_copy_135 (lv_at hl 5 rfl) ?_
                obtain ⟨g30, h⟩ := ck_at h
                refine gcpyS X K G hl.1 q_863 (idx_lt g28) (idx_lt g29) cp_w g30 (Nat.le_of_ble_eq_true rfl) (Nat.le_of_ble_eq_true rfl) dX6_copy_137 (fun H locs G => ?_)
                obtain ⟨u31, eu31⟩ : ∃ z : XS, z = sB u26 ((xB u26).1, (xB u26).2.1, va_up (xB u26).2.2 (a3.toNatClampNeg) (va_cpy ((xB u26).2.2 (a1.toNatClampNeg)) ((xB u26).2.2 (a3.toNatClampNeg)) a2.toNatClampNeg a4.toNatClampNeg a5.toNatClampNeg)) := ⟨_, rfl⟩
                have G : wg D A s.heap H locs (wX cI cZ cQ ad u31) := by rw [eu31]; exact G
                have h := nm_at eu31 h
                clear eu31
                refine lv_iload hx hb dX6_copy_140 (lv_at hl 5 rfl) ?_
                obtain ⟨rfl, rfl⟩ := pair_at h
                exact reI X G dX6_copy_142
              · have h := it_at c27 h
                refine lv_aload_n hx hb dX6_copy_108 rfl (lv_at hl 0 rfl) ?_
                refine lv_iconst (v := 0) hx hb dX6_copy_109 (by decide) ?_
                obtain ⟨r32, u33, er32, h⟩ := bnd_at h
                refine cvI (rest := []) X K G (c_X6_found er32) q_338 my_X6_found ⟨rfl, rfl⟩ ⟨Nat.le_of_ble_eq_true rfl, Nat.le_of_ble_eq_true rfl⟩ ⟨Nat.zero_le _, Nat.zero_le _⟩ 0 6 rfl rfl rfl rfl hl.1 rfl (Nat.le_of_ble_eq_true rfl) dX6_copy_110 (fun H locs G => ?_)
                clear er32
                obtain ⟨rfl, rfl⟩ := pair_at h
                exact reI X G dX6_copy_113
          · have h := if_at c17 h
            refine lv_aload_n hx hb dX6_copy_71 rfl (lv_at hl 0 rfl) ?_
            refine lv_iconst (v := 2) hx hb dX6_copy_72 (by decide) ?_
            obtain ⟨r34, u35, er34, h⟩ := bnd_at h
            refine cvI (rest := []) X K G (c_X6_found er34) q_338 my_X6_found ⟨rfl, rfl⟩ ⟨Nat.le_of_ble_eq_true rfl, Nat.le_of_ble_eq_true rfl⟩ ⟨Nat.zero_le _, Nat.zero_le _⟩ 0 6 rfl rfl rfl rfl hl.1 rfl (Nat.le_of_ble_eq_true rfl) dX6_copy_73 (fun H locs G => ?_)
            clear er34
            obtain ⟨rfl, rfl⟩ := pair_at h
            exact reI X G dX6_copy_76
        · have h := it_at c14 h
          refine lv_aload_n hx hb dX6_copy_44 rfl (lv_at hl 0 rfl) ?_
          refine lv_iconst (v := 5) hx hb dX6_copy_45 (by decide) ?_
          obtain ⟨r36, u37, er36, h⟩ := bnd_at h
          refine cvI (rest := []) X K G (c_X6_found er36) q_338 my_X6_found ⟨rfl, rfl⟩ ⟨Nat.le_of_ble_eq_true rfl, Nat.le_of_ble_eq_true rfl⟩ ⟨Nat.zero_le _, Nat.zero_le _⟩ 0 6 rfl rfl rfl rfl hl.1 rfl (Nat.le_of_ble_eq_true rfl) dX6_copy_46 (fun H locs G => ?_)
          clear er36
          obtain ⟨rfl, rfl⟩ := pair_at h
          exact reI X G dX6_copy_49
    · have h := it_at c8 h
      refine lv_aload_n hx hb dX6_copy_14 rfl (lv_at hl 0 rfl) ?_
      refine lv_iconst (v := 0) hx hb dX6_copy_15 (by decide) ?_
      obtain ⟨r38, u39, er38, h⟩ := bnd_at h
      refine cvI (rest := []) X K G (c_X6_found er38) q_338 my_X6_found ⟨rfl, rfl⟩ ⟨Nat.le_of_ble_eq_true rfl, Nat.le_of_ble_eq_true rfl⟩ ⟨Nat.zero_le _, Nat.zero_le _⟩ 0 6 rfl rfl rfl rfl hl.1 rfl (Nat.le_of_ble_eq_true rfl) dX6_copy_16 (fun H locs G => ?_)
      clear er38
      obtain ⟨rfl, rfl⟩ := pair_at h
      exact reI X G dX6_copy_19
noncomputable def f_X6_load_L35_35 (n2 : Nat) (v3 : Int32) (u0 : XS) : Option ((Nat × Int32 × XS) ⊕ ((Int32 × XS) ⊕ (Int32 × XS))) :=
  if 4 ≤ n2 then none else
  (if ((xB u0).2.1 n2) ≤ v3 then
    some (.inr (.inr (v3, u0)))
  else
    (if (tTools (xT u0)) ≤ v3 then
      some (.inr (.inr (v3, u0)))
    else
      if v3 < 0 ∨ 40 ≤ v3.toNatClampNeg then none else
      bnd (f_X6_within ((xB u0).2.2 n2 v3.toNatClampNeg) (0 : Int32) (4095 : Int32) u0) fun r4 u5 =>
      (if r4 = 0 then
        some (.inr (.inr (v3, u5)))
      else
        if v3 < 0 ∨ 40 ≤ v3.toNatClampNeg then none else
        nmv ((xB u5).2.2 n2 v3.toNatClampNeg) fun x8 =>
        if v3 < 0 ∨ 8 ≤ v3.toNatClampNeg then none else
        nmv (sT u5 (uDays (xT u5) (upd (tDays (xT u5)) v3.toNatClampNeg x8))) fun u10 =>
        nmv (v3 + (1 : Int32)) fun x11 =>
        some (.inl (n2, x11, u10)))))
set_option maxRecDepth 100000 in
set_option maxHeartbeats 4000000 in
theorem b_X6_load_L35_35 (X : cx p s m args meth c cX6_load 4 RX6 (some .int)) (K : kx D cI cZ cQ adK adV A s s.heap) {n2 : Nat} {v3 : Int32} {u0 : XS} (G : wg D A s.heap H locs (wX cI cZ cQ ad u0)) (hl : lv_has ls 4 [(0, .ref (ad 0)), (2, .ref (ad (35 + 2 * n2))), (3, .int v3)]) {q : ((Nat × Int32 × XS) ⊕ ((Int32 × XS) ⊕ (Int32 × XS)))} (h : f_X6_load_L35_35 n2 v3 u0 = some q) (hB : ∀ (n2 : Nat) (v3 : Int32) (u : XS), q = .inl (n2, v3, u) → ∀ (H : Heap) (locs : List Loc) (ls : Array Slot), wg D A s.heap H locs (wX cI cZ cQ ad u) → lv_has ls 4 [(0, .ref (ad 0)), (2, .ref (ad (35 + 2 * n2))), (3, .int v3)] → W p l e { frames := 2, cells := 0, slots := 0, locals := 43 } s m args below meth c H locs 0 0 Q (F0 m 35 ls [])) (hX : ∀ (v3 : Int32) (u : XS), q = .inr (.inr (v3, u)) → ∀ (H : Heap) (locs : List Loc) (ls : Array Slot), wg D A s.heap H locs (wX cI cZ cQ ad u) → lv_has ls 4 [(3, .int v3)] → W p l e { frames := 2, cells := 0, slots := 0, locals := 43 } s m args below meth c H locs 0 0 Q (F0 m 91 ls [])) (hR : ∀ (r : Int32) (u : XS), q = .inr (.inl (r, u)) → Q = (qI D A (wX cI cZ cQ ad) below args s r u)) : W p l e { frames := 2, cells := 0, slots := 0, locals := 43 } s m args below meth c H locs 0 0 Q (F0 m 35 ls []) := by
  unfold f_X6_load_L35_35 at h
  obtain ⟨hn2, h⟩ := ck_at h
  have hn2 := Nat.not_le.mp hn2
  obtain ⟨hx, hb, -⟩ := id X
  refine lv_iload_n hx hb dX6_load_35 rfl (lv_at hl 2 rfl) ?_
  refine lv_aload_n hx hb dX6_load_36 rfl (lv_at hl 1 rfl) ?_
  refine gS_size X K G hn2 q_289 dX6_load_37 ?_
  refine lv_icmp_ge (tgt := 91) hx hb dX6_load_40 (by decide) (fun c1 => ?_) (fun c1 => ?_)
  · have h := it_at c1 h
    exact hX _ _ (Option.some.inj h).symm _ _ _ G (lv_sub hl [2] rfl)
  · have h := if_at c1 h
    refine lv_iload_n hx hb dX6_load_43 rfl (lv_at hl 2 rfl) ?_
    refine lv_aload_n hx hb dX6_load_44 rfl (lv_at hl 0 rfl) ?_
    refine gX_0_0 X K G q_300 dX6_load_45 ?_
    refine gX_1_3 X K G q_114 dX6_load_48 ?_
    refine lv_icmp_ge (tgt := 91) hx hb dX6_load_51 (by decide) (fun c2 => ?_) (fun c2 => ?_)
    · have h := it_at c2 h
      exact hX _ _ (Option.some.inj h).symm _ _ _ G (lv_sub hl [2] rfl)
    · have h := if_at c2 h
      refine lv_aload_n hx hb dX6_load_54 rfl (lv_at hl 1 rfl) ?_
      refine gS_numbers X K G hn2 q_292 dX6_load_55 ?_
      refine lv_iload_n hx hb dX6_load_58 rfl (lv_at hl 2 rfl) ?_
      obtain ⟨g3, h⟩ := ck_at h
      refine lS_numbers X K G hn2 g3 dX6_load_59 ?_
      refine lv_iconst (v := 0) hx hb dX6_load_60 (by decide) ?_
      refine lv_sipush (v := 4095) hx hb dX6_load_61 (by decide) ?_
      obtain ⟨r4, u5, er4, h⟩ := bnd_at h
      refine csI (rest := []) X K G (c_X6_within er4) q_335 my_X6_within ⟨rfl, rfl⟩ ⟨Nat.le_of_ble_eq_true rfl, Nat.le_of_ble_eq_true rfl⟩ ⟨Nat.zero_le _, Nat.zero_le _⟩ rfl hl.1 rfl (Nat.le_of_ble_eq_true rfl) dX6_load_64 (fun H locs G => ?_)
      clear er4
      refine lv_if_eq (tgt := 91) hx hb dX6_load_67 (by decide) (fun c6 => ?_) (fun c6 => ?_)
      · have h := it_at c6 h
        exact hX _ _ (Option.some.inj h).symm _ _ _ G (lv_sub hl [2] rfl)
      · have h := if_at c6 h
        refine lv_aload_n hx hb dX6_load_70 rfl (lv_at hl 0 rfl) ?_
        refine gX_0_0 X K G q_300 dX6_load_71 ?_
        refine gX_1_6 X K G q_124 dX6_load_74 ?_
        refine lv_iload_n hx hb dX6_load_77 rfl (lv_at hl 2 rfl) ?_
        refine lv_aload_n hx hb dX6_load_78 rfl (lv_at hl 1 rfl) ?_
        refine gS_numbers X K G hn2 q_292 dX6_load_79 ?_
        refine lv_iload_n hx hb dX6_load_82 rfl (lv_at hl 2 rfl) ?_
        obtain ⟨g7, h⟩ := ck_at h
        refine lS_numbers X K G hn2 g7 dX6_load_83 ?_
        refine lv_topi (fun x8 ex8 => ?_)
        have h := nm_at ex8 h
        obtain ⟨g9, h⟩ := ck_at h
        refine aX_2 X K G g9 dX6_load_84 (fun H locs G => ?_)
        obtain ⟨u10, eu10⟩ : ∃ z : XS, z = sT u5 (uDays (xT u5) (upd (tDays (xT u5)) v3.toNatClampNeg x8)) := ⟨_, rfl⟩
        have G : wg D A s.heap H locs (wX cI cZ cQ ad u10) := by rw [eu10]; exact G
        have h := nm_at eu10 h
        clear eu10
        obtain ⟨x11, ex11⟩ : ∃ z : Int32, z = v3 + (1 : Int32) := ⟨_, rfl⟩
        have h := nm_at ex11 h
        refine lv_iinc (v := x11) (lv' := [(3, .int x11), (0, .ref (ad 0)), (2, .ref (ad (35 + 2 * n2)))]) hx hb dX6_load_85 hl (k := 2) rfl (by rw [ex11]; rfl) (by decide) rfl (fun ls hl => ?_)
        refine lv_goto (tgt := 35) hx hb dX6_load_88 (by decide) ?_
        exact hB _ _ _ (Option.some.inj h).symm _ _ _ G (lv_sub hl [1, 2, 0] rfl)
noncomputable def f_X6_load_L35_35s (q : Nat × Int32 × XS) : Option ((Nat × Int32 × XS) ⊕ ((Int32 × XS) ⊕ (Int32 × XS))) := f_X6_load_L35_35 q.1 q.2.1 q.2.2
set_option maxRecDepth 100000 in
set_option maxHeartbeats 4000000 in
theorem w_X6_load_L35_35 (X : cx p s m args meth c cX6_load 4 RX6 (some .int)) (K : kx D cI cZ cQ adK adV A s s.heap) {e0 : (Int32 × XS) ⊕ (Int32 × XS)} : ∀ (n : Nat) (n2 : Nat) (v3 : Int32) (u : XS) {H : Heap} {locs : List Loc} {ls : Array Slot}, wh f_X6_load_L35_35s n (n2, v3, u) = some e0 → wg D A s.heap H locs (wX cI cZ cQ ad u) → lv_has ls 4 [(0, .ref (ad 0)), (2, .ref (ad (35 + 2 * n2))), (3, .int v3)] → (∀ (v3 : Int32) (u : XS), e0 = .inr (v3, u) → ∀ (H : Heap) (locs : List Loc) (ls : Array Slot), wg D A s.heap H locs (wX cI cZ cQ ad u) → lv_has ls 4 [(3, .int v3)] → W p l e { frames := 2, cells := 0, slots := 0, locals := 43 } s m args below meth c H locs 0 0 Q (F0 m 91 ls [])) → (∀ (r : Int32) (u : XS), e0 = .inl (r, u) → Q = (qI D A (wX cI cZ cQ ad) below args s r u)) → W p l e { frames := 2, cells := 0, slots := 0, locals := 43 } s m args below meth c H locs 0 0 Q (F0 m 35 ls []) := by
  intro n
  induction n with
  | zero => intro n2 v3 u H locs ls h; cases h
  | succ n ih =>
    intro n2 v3 u H locs ls h G hl hX hR
    obtain ⟨q, h1, h2, h3⟩ := wh_at h
    exact b_X6_load_L35_35 X K G hl (show f_X6_load_L35_35 n2 v3 u = some q from h1) (fun b0 b1 b2 ee H locs ls G hl => ih b0 b1 b2 (h2 _ ee) G hl hX hR) (fun z0 z1 ee => hX z0 z1 (h3 _ ee).symm) (fun r u ee => hR r u (h3 _ ee).symm)
noncomputable def f_X6_load (a1 : Int32) (u0 : XS) : Option (Int32 × XS) :=
  bnd (f_X6_isSheet a1 u0) fun r1 u2 =>
  (if r1 = 0 then
    bnd (f_X6_found (0 : Int32) u2) fun r12 u13 =>
    some (r12, u13)
  else
    if a1 < 0 ∨ 4 ≤ a1.toNatClampNeg then none else
    (if ((xB u2).1 (a1.toNatClampNeg)) = 0 then
      bnd (f_X6_found (5 : Int32) u2) fun r10 u11 =>
      some (r10, u11)
    else
      bne (wl f_X6_load_L35_35s (a1.toNatClampNeg, (0 : Int32), u2)) (fun a => some a) fun b =>
        nmv b.1 fun y9 =>
        nmv b.2 fun u8 =>
        some (y9, u8)))
set_option maxRecDepth 100000 in
set_option maxHeartbeats 4000000 in
theorem c_X6_load {a1 : Int32} {u0 : XS} {r : Int32} {u' : XS} (h : f_X6_load a1 u0 = some (r, u')) : MI l D cI cZ cQ adK adV A yX6_load cX6_load 4 (some .int) { frames := 2, cells := 0, slots := 0, locals := 43 } [.ref (ad 0), .int a1] (wX cI cZ cQ ad) u0 r u' := by
  unfold f_X6_load at h
  refine entI (by decide) (Nat.le_of_ble_eq_true rfl) (fun p e s m below meth c ls X K G hl => ?_)
  have hl : lv_has ls 4 [(0, .ref (ad 0)), (1, .int a1)] := hl
  obtain ⟨hx, hb, -⟩ := id X
  generalize hH : s.heap = H at G
  subst hH
  refine lv_iload_n hx hb dX6_load_0 rfl (lv_at hl 1 rfl) ?_
  obtain ⟨r1, u2, er1, h⟩ := bnd_at h
  refine csI (rest := []) X K G (c_X6_isSheet er1) q_840 my_X6_isSheet ⟨rfl, rfl⟩ ⟨Nat.le_of_ble_eq_true rfl, Nat.le_of_ble_eq_true rfl⟩ ⟨Nat.zero_le _, Nat.zero_le _⟩ rfl hl.1 rfl (Nat.le_of_ble_eq_true rfl) dX6_load_1 (fun H locs G => ?_)
  clear er1
  refine lv_if_ne (tgt := 13) hx hb dX6_load_4 (by decide) (fun c3 => ?_) (fun c3 => ?_)
  · have h := if_at c3 h
    refine lv_aload_n hx hb dX6_load_13 rfl (lv_at hl 0 rfl) ?_
    refine gX_0_7 X K G q_307 dX6_load_14 ?_
    refine lv_iload_n hx hb dX6_load_17 rfl (lv_at hl 1 rfl) ?_
    obtain ⟨g4, h⟩ := ck_at h
    refine lX_34 X K G g4 dX6_load_18 ?_
    refine lv_astore_n (lv' := [(2, .ref (ad (35 + 2 * (a1.toNatClampNeg)))), (0, .ref (ad 0)), (1, .int a1)]) hx hb dX6_load_19 rfl hl (by decide) rfl (fun ls hl => ?_)
    refine lv_aload_n hx hb dX6_load_20 rfl (lv_at hl 0 rfl) ?_
    refine gS_bits X K G (idx_lt g4) q_286 dX6_load_21 ?_
    refine lv_if_ne (tgt := 33) hx hb dX6_load_24 (by decide) (fun c5 => ?_) (fun c5 => ?_)
    · have h := if_at c5 h
      refine lv_iconst (v := 0) hx hb dX6_load_33 (by decide) ?_
      refine lv_istore_n (lv' := [(3, .int (0 : Int32)), (2, .ref (ad (35 + 2 * (a1.toNatClampNeg)))), (0, .ref (ad 0)), (1, .int a1)]) hx hb dX6_load_34 rfl hl (by decide) rfl (fun ls hl => ?_)
      obtain ⟨q7, hq7, ha, hb1⟩ := bne_at h
      obtain ⟨n6, hn6⟩ := wl_iff.mp hq7
      refine w_X6_load_L35_35 X K n6 _ _ _ hn6 G (lv_sub hl [2, 1, 0] rfl) (fun y9 u8 ee H locs ls G hl => ?_) (fun r u1 ee => by obtain ⟨rfl, rfl⟩ := pair_at (ha _ ee); rfl)
      have h := hb1 _ ee
      clear ee ha hb1 hq7 hn6
      have h := nm_at (x := y9) rfl h
      have h := nm_at (x := u8) rfl h
      refine lv_iload_n hx hb dX6_load_91 rfl (lv_at hl 0 rfl) ?_
      obtain ⟨rfl, rfl⟩ := pair_at h
      exact reI X G dX6_load_92
    · have h := it_at c5 h
      refine lv_aload_n hx hb dX6_load_27 rfl (lv_at hl 1 rfl) ?_
      refine lv_iconst (v := 5) hx hb dX6_load_28 (by decide) ?_
      obtain ⟨r10, u11, er10, h⟩ := bnd_at h
      refine cvI (rest := []) X K G (c_X6_found er10) q_338 my_X6_found ⟨rfl, rfl⟩ ⟨Nat.le_of_ble_eq_true rfl, Nat.le_of_ble_eq_true rfl⟩ ⟨Nat.zero_le _, Nat.zero_le _⟩ 0 6 rfl rfl rfl rfl hl.1 rfl (Nat.le_of_ble_eq_true rfl) dX6_load_29 (fun H locs G => ?_)
      clear er10
      obtain ⟨rfl, rfl⟩ := pair_at h
      exact reI X G dX6_load_32
  · have h := it_at c3 h
    refine lv_aload_n hx hb dX6_load_7 rfl (lv_at hl 0 rfl) ?_
    refine lv_iconst (v := 0) hx hb dX6_load_8 (by decide) ?_
    obtain ⟨r12, u13, er12, h⟩ := bnd_at h
    refine cvI (rest := []) X K G (c_X6_found er12) q_338 my_X6_found ⟨rfl, rfl⟩ ⟨Nat.le_of_ble_eq_true rfl, Nat.le_of_ble_eq_true rfl⟩ ⟨Nat.zero_le _, Nat.zero_le _⟩ 0 6 rfl rfl rfl rfl hl.1 rfl (Nat.le_of_ble_eq_true rfl) dX6_load_9 (fun H locs G => ?_)
    clear er12
    obtain ⟨rfl, rfl⟩ := pair_at h
    exact reI X G dX6_load_12
noncomputable def f_X0_rightDays_L20_75 (v1 : Int32) (n2 : Nat) (v3 : Int32) (v4 : Int32) (v5 : Int32) (k0 : Int32) (u0 : XS) : Option ((Int32 × Nat × Int32 × Int32 × XS) ⊕ ((Int32 × XS) ⊕ (Int32 × XS))) :=
  if 4 ≤ n2 then none else
  bnd (f_X0_dayBehind v1 v4 k0 u0) fun r1 u2 =>
  (if r1 = v5 then
    (if v4 ≤ 0 then
      nmv (v4 + (1 : Int32)) fun x5 =>
      some (.inl (v1, n2, v3, x5, u2))
    else
      bnd (f_X5_stepNumber v1 v4 (2 : Int32) u2) fun r6 u7 =>
      (if (v5 - k0) ≤ r6 then
        nmv (v4 + (1 : Int32)) fun x9 =>
        some (.inl (v1, n2, v3, x9, u7))
      else
        some (.inr (.inl (v4, u7)))))
  else
    some (.inr (.inl (v4, u2))))
set_option maxRecDepth 100000 in
set_option maxHeartbeats 4000000 in
theorem b_X0_rightDays_L20_75 (X : cx p s m args meth c cX0_rightDays 7 RX0 (some .int)) (K : kx D cI cZ cQ adK adV A s s.heap) {v1 : Int32} {n2 : Nat} {v3 : Int32} {v4 : Int32} {v5 : Int32} {k0 : Int32} {u0 : XS} (G : wg D A s.heap H locs (wX cI cZ cQ ad u0)) (hl : lv_has ls 7 [(0, .ref (ad 24)), (1, .int v1), (2, .ref (ad (35 + 2 * n2))), (3, .int v3), (4, .int v4), (5, .int v5)]) {q : ((Int32 × Nat × Int32 × Int32 × XS) ⊕ ((Int32 × XS) ⊕ (Int32 × XS)))} (h : f_X0_rightDays_L20_75 v1 n2 v3 v4 v5 k0 u0 = some q) (hB : ∀ (v1 : Int32) (n2 : Nat) (v3 : Int32) (v4 : Int32) (u : XS), q = .inl (v1, n2, v3, v4, u) → ∀ (H : Heap) (locs : List Loc) (ls : Array Slot), wg D A s.heap H locs (wX cI cZ cQ ad u) → lv_has ls 7 [(0, .ref (ad 24)), (1, .int v1), (2, .ref (ad (35 + 2 * n2))), (3, .int v3), (4, .int v4)] → W p l e { frames := 3, cells := 0, slots := 0, locals := 74 } s m args below meth c H locs 0 0 Q (F0 m 20 ls [])) (hX : ∀ (v3 : Int32) (u : XS), q = .inr (.inr (v3, u)) → ∀ (H : Heap) (locs : List Loc) (ls : Array Slot), wg D A s.heap H locs (wX cI cZ cQ ad u) → lv_has ls 7 [(3, .int v3)] → W p l e { frames := 3, cells := 0, slots := 0, locals := 74 } s m args below meth c H locs 0 0 Q (F0 m 127 ls [])) (hR : ∀ (r : Int32) (u : XS), q = .inr (.inl (r, u)) → Q = (qI D A (wX cI cZ cQ ad) below args s r u)) : W p l e { frames := 3, cells := 0, slots := 0, locals := 74 } s m args below meth c H locs 0 0 Q (F0 m 75 ls [.int k0]) := by
  unfold f_X0_rightDays_L20_75 at h
  obtain ⟨hn2, h⟩ := ck_at h
  have hn2 := Nat.not_le.mp hn2
  obtain ⟨hx, hb, -⟩ := id X
  refine lv_istore (lv' := [(6, .int k0), (0, .ref (ad 24)), (1, .int v1), (2, .ref (ad (35 + 2 * n2))), (3, .int v3), (4, .int v4), (5, .int v5)]) hx hb dX0_rightDays_75 hl (by decide) rfl (fun ls hl => ?_)
  refine lv_aload_n hx hb dX0_rightDays_77 rfl (lv_at hl 1 rfl) ?_
  refine lv_iload_n hx hb dX0_rightDays_78 rfl (lv_at hl 2 rfl) ?_
  refine lv_iload hx hb dX0_rightDays_79 (lv_at hl 5 rfl) ?_
  refine lv_iload hx hb dX0_rightDays_81 (lv_at hl 0 rfl) ?_
  obtain ⟨r1, u2, er1, h⟩ := bnd_at h
  refine cvI (rest := []) X K G (c_X0_dayBehind er1) q_624 my_X0_dayBehind ⟨rfl, rfl⟩ ⟨Nat.le_of_ble_eq_true rfl, Nat.le_of_ble_eq_true rfl⟩ ⟨Nat.zero_le _, Nat.zero_le _⟩ 24 0 rfl rfl rfl rfl hl.1 rfl (Nat.le_of_ble_eq_true rfl) dX0_rightDays_83 (fun H locs G => ?_)
  clear er1
  refine lv_iload hx hb dX0_rightDays_86 (lv_at hl 6 rfl) ?_
  refine lv_icmp_eq (tgt := 94) hx hb dX0_rightDays_88 (by decide) (fun c3 => ?_) (fun c3 => ?_)
  · have h := it_at c3 h
    refine lv_iload hx hb dX0_rightDays_94 (lv_at hl 5 rfl) ?_
    refine lv_if_le (tgt := 121) hx hb dX0_rightDays_96 (by decide) (fun c4 => ?_) (fun c4 => ?_)
    · have h := it_at c4 h
      obtain ⟨x5, ex5⟩ : ∃ z : Int32, z = v4 + (1 : Int32) := ⟨_, rfl⟩
      have h := nm_at ex5 h
      refine lv_iinc (v := x5) (lv' := [(4, .int x5), (6, .int k0), (0, .ref (ad 24)), (1, .int v1), (2, .ref (ad (35 + 2 * n2))), (3, .int v3), (5, .int v5)]) hx hb dX0_rightDays_121 hl (k := 5) rfl (by rw [ex5]; rfl) (by decide) rfl (fun ls hl => ?_)
      refine lv_goto (tgt := 20) hx hb dX0_rightDays_124 (by decide) ?_
      exact hB _ _ _ _ _ (Option.some.inj h).symm _ _ _ G (lv_sub hl [2, 3, 4, 5, 0] rfl)
    · have h := if_at c4 h
      refine lv_iload hx hb dX0_rightDays_99 (lv_at hl 6 rfl) ?_
      refine lv_iload hx hb dX0_rightDays_101 (lv_at hl 0 rfl) ?_
      refine lv_isub hx hb dX0_rightDays_103 ?_
      refine lv_aload_n hx hb dX0_rightDays_104 rfl (lv_at hl 1 rfl) ?_
      refine gX_24_0 X K G q_184 dX0_rightDays_105 ?_
      refine lv_iload_n hx hb dX0_rightDays_108 rfl (lv_at hl 2 rfl) ?_
      refine lv_iload hx hb dX0_rightDays_109 (lv_at hl 5 rfl) ?_
      refine lv_iconst (v := 2) hx hb dX0_rightDays_111 (by decide) ?_
      obtain ⟨r6, u7, er6, h⟩ := bnd_at h
      refine cvI (rest := [.int (v5 - k0)]) X K G (c_X5_stepNumber er6) q_588 my_X5_stepNumber ⟨rfl, rfl⟩ ⟨Nat.le_of_ble_eq_true rfl, Nat.le_of_ble_eq_true rfl⟩ ⟨Nat.zero_le _, Nat.zero_le _⟩ 1 5 rfl rfl rfl rfl hl.1 rfl (Nat.le_of_ble_eq_true rfl) dX0_rightDays_112 (fun H locs G => ?_)
      clear er6
      refine lv_icmp_le (tgt := 121) hx hb dX0_rightDays_115 (by decide) (fun c8 => ?_) (fun c8 => ?_)
      · have h := it_at c8 h
        obtain ⟨x9, ex9⟩ : ∃ z : Int32, z = v4 + (1 : Int32) := ⟨_, rfl⟩
        have h := nm_at ex9 h
        refine lv_iinc (v := x9) (lv' := [(4, .int x9), (6, .int k0), (0, .ref (ad 24)), (1, .int v1), (2, .ref (ad (35 + 2 * n2))), (3, .int v3), (5, .int v5)]) hx hb dX0_rightDays_121 hl (k := 5) rfl (by rw [ex9]; rfl) (by decide) rfl (fun ls hl => ?_)
        refine lv_goto (tgt := 20) hx hb dX0_rightDays_124 (by decide) ?_
        exact hB _ _ _ _ _ (Option.some.inj h).symm _ _ _ G (lv_sub hl [2, 3, 4, 5, 0] rfl)
      · have h := if_at c8 h
        refine lv_iload hx hb dX0_rightDays_118 (lv_at hl 5 rfl) ?_
        rw [hR _ _ (Option.some.inj h).symm]
        exact reI X G dX0_rightDays_120
  · have h := if_at c3 h
    refine lv_iload hx hb dX0_rightDays_91 (lv_at hl 5 rfl) ?_
    rw [hR _ _ (Option.some.inj h).symm]
    exact reI X G dX0_rightDays_93
noncomputable def f_X0_rightDays_L20_56 (v1 : Int32) (n2 : Nat) (v3 : Int32) (v4 : Int32) (v5 : Int32) (u0 : XS) : Option ((Int32 × Nat × Int32 × Int32 × XS) ⊕ ((Int32 × XS) ⊕ (Int32 × XS))) :=
  if 4 ≤ n2 then none else
  (if v4 = 0 then
    f_X0_rightDays_L20_75 v1 n2 v3 v4 v5 v5 u0
  else
    nmv (v4 - (1 : Int32)) fun x2 =>
    if x2 < 0 ∨ 40 ≤ x2.toNatClampNeg then none else
    f_X0_rightDays_L20_75 v1 n2 v3 v4 v5 ((xB u0).2.2 n2 x2.toNatClampNeg) u0)
set_option maxRecDepth 100000 in
set_option maxHeartbeats 4000000 in
theorem b_X0_rightDays_L20_56 (X : cx p s m args meth c cX0_rightDays 7 RX0 (some .int)) (K : kx D cI cZ cQ adK adV A s s.heap) {v1 : Int32} {n2 : Nat} {v3 : Int32} {v4 : Int32} {v5 : Int32} {u0 : XS} (G : wg D A s.heap H locs (wX cI cZ cQ ad u0)) (hl : lv_has ls 7 [(0, .ref (ad 24)), (1, .int v1), (2, .ref (ad (35 + 2 * n2))), (3, .int v3), (4, .int v4), (5, .int v5)]) {q : ((Int32 × Nat × Int32 × Int32 × XS) ⊕ ((Int32 × XS) ⊕ (Int32 × XS)))} (h : f_X0_rightDays_L20_56 v1 n2 v3 v4 v5 u0 = some q) (hB : ∀ (v1 : Int32) (n2 : Nat) (v3 : Int32) (v4 : Int32) (u : XS), q = .inl (v1, n2, v3, v4, u) → ∀ (H : Heap) (locs : List Loc) (ls : Array Slot), wg D A s.heap H locs (wX cI cZ cQ ad u) → lv_has ls 7 [(0, .ref (ad 24)), (1, .int v1), (2, .ref (ad (35 + 2 * n2))), (3, .int v3), (4, .int v4)] → W p l e { frames := 3, cells := 0, slots := 0, locals := 74 } s m args below meth c H locs 0 0 Q (F0 m 20 ls [])) (hX : ∀ (v3 : Int32) (u : XS), q = .inr (.inr (v3, u)) → ∀ (H : Heap) (locs : List Loc) (ls : Array Slot), wg D A s.heap H locs (wX cI cZ cQ ad u) → lv_has ls 7 [(3, .int v3)] → W p l e { frames := 3, cells := 0, slots := 0, locals := 74 } s m args below meth c H locs 0 0 Q (F0 m 127 ls [])) (hR : ∀ (r : Int32) (u : XS), q = .inr (.inl (r, u)) → Q = (qI D A (wX cI cZ cQ ad) below args s r u)) : W p l e { frames := 3, cells := 0, slots := 0, locals := 74 } s m args below meth c H locs 0 0 Q (F0 m 56 ls []) := by
  unfold f_X0_rightDays_L20_56 at h
  obtain ⟨hn2, h⟩ := ck_at h
  have hn2 := Nat.not_le.mp hn2
  obtain ⟨hx, hb, -⟩ := id X
  refine lv_iload hx hb dX0_rightDays_56 (lv_at hl 4 rfl) ?_
  refine lv_if_ne (tgt := 66) hx hb dX0_rightDays_58 (by decide) (fun c1 => ?_) (fun c1 => ?_)
  · have h := if_at c1 h
    refine lv_aload_n hx hb dX0_rightDays_66 rfl (lv_at hl 2 rfl) ?_
    refine gS_numbers X K G hn2 q_291 dX0_rightDays_67 ?_
    refine lv_iload hx hb dX0_rightDays_70 (lv_at hl 4 rfl) ?_
    refine lv_iconst (v := 1) hx hb dX0_rightDays_72 (by decide) ?_
    refine lv_isub hx hb dX0_rightDays_73 ?_
    refine lv_topi (fun x2 ex2 => ?_)
    have h := nm_at ex2 h
    obtain ⟨g3, h⟩ := ck_at h
    refine lS_numbers X K G hn2 g3 dX0_rightDays_74 ?_
    exact b_X0_rightDays_L20_75 X K G (lv_sub hl [0, 1, 2, 3, 4, 5] rfl) h hB hX hR
  · have h := it_at c1 h
    refine lv_iload hx hb dX0_rightDays_61 (lv_at hl 5 rfl) ?_
    refine lv_goto (tgt := 75) hx hb dX0_rightDays_63 (by decide) ?_
    exact b_X0_rightDays_L20_75 X K G (lv_sub hl [0, 1, 2, 3, 4, 5] rfl) h hB hX hR
noncomputable def f_X0_rightDays_L20_20 (v1 : Int32) (n2 : Nat) (v3 : Int32) (v4 : Int32) (u0 : XS) : Option ((Int32 × Nat × Int32 × Int32 × XS) ⊕ ((Int32 × XS) ⊕ (Int32 × XS))) :=
  if 4 ≤ n2 then none else
  (if v3 ≤ v4 then
    some (.inr (.inr (v3, u0)))
  else
    if v4 < 0 ∨ 40 ≤ v4.toNatClampNeg then none else
    nmv ((xB u0).2.2 n2 v4.toNatClampNeg) fun x3 =>
    (if x3 < 0 then
      some (.inr (.inl (v4, u0)))
    else
      (if v4 = 0 then
        (if x3 ≤ (999 : Int32) then
          f_X0_rightDays_L20_56 v1 n2 v3 v4 x3 u0
        else
          some (.inr (.inl (v4, u0))))
      else
        f_X0_rightDays_L20_56 v1 n2 v3 v4 x3 u0)))
set_option maxRecDepth 100000 in
set_option maxHeartbeats 4000000 in
theorem b_X0_rightDays_L20_20 (X : cx p s m args meth c cX0_rightDays 7 RX0 (some .int)) (K : kx D cI cZ cQ adK adV A s s.heap) {v1 : Int32} {n2 : Nat} {v3 : Int32} {v4 : Int32} {u0 : XS} (G : wg D A s.heap H locs (wX cI cZ cQ ad u0)) (hl : lv_has ls 7 [(0, .ref (ad 24)), (1, .int v1), (2, .ref (ad (35 + 2 * n2))), (3, .int v3), (4, .int v4)]) {q : ((Int32 × Nat × Int32 × Int32 × XS) ⊕ ((Int32 × XS) ⊕ (Int32 × XS)))} (h : f_X0_rightDays_L20_20 v1 n2 v3 v4 u0 = some q) (hB : ∀ (v1 : Int32) (n2 : Nat) (v3 : Int32) (v4 : Int32) (u : XS), q = .inl (v1, n2, v3, v4, u) → ∀ (H : Heap) (locs : List Loc) (ls : Array Slot), wg D A s.heap H locs (wX cI cZ cQ ad u) → lv_has ls 7 [(0, .ref (ad 24)), (1, .int v1), (2, .ref (ad (35 + 2 * n2))), (3, .int v3), (4, .int v4)] → W p l e { frames := 3, cells := 0, slots := 0, locals := 74 } s m args below meth c H locs 0 0 Q (F0 m 20 ls [])) (hX : ∀ (v3 : Int32) (u : XS), q = .inr (.inr (v3, u)) → ∀ (H : Heap) (locs : List Loc) (ls : Array Slot), wg D A s.heap H locs (wX cI cZ cQ ad u) → lv_has ls 7 [(3, .int v3)] → W p l e { frames := 3, cells := 0, slots := 0, locals := 74 } s m args below meth c H locs 0 0 Q (F0 m 127 ls [])) (hR : ∀ (r : Int32) (u : XS), q = .inr (.inl (r, u)) → Q = (qI D A (wX cI cZ cQ ad) below args s r u)) : W p l e { frames := 3, cells := 0, slots := 0, locals := 74 } s m args below meth c H locs 0 0 Q (F0 m 20 ls []) := by
  unfold f_X0_rightDays_L20_20 at h
  obtain ⟨hn2, h⟩ := ck_at h
  have hn2 := Nat.not_le.mp hn2
  obtain ⟨hx, hb, -⟩ := id X
  refine lv_iload hx hb dX0_rightDays_20 (lv_at hl 4 rfl) ?_
  refine lv_iload_n hx hb dX0_rightDays_22 rfl (lv_at hl 3 rfl) ?_
  refine lv_icmp_ge (tgt := 127) hx hb dX0_rightDays_23 (by decide) (fun c1 => ?_) (fun c1 => ?_)
  · have h := it_at c1 h
    exact hX _ _ (Option.some.inj h).symm _ _ _ G (lv_sub hl [3] rfl)
  · have h := if_at c1 h
    refine lv_aload_n hx hb dX0_rightDays_26 rfl (lv_at hl 2 rfl) ?_
    refine gS_numbers X K G hn2 q_291 dX0_rightDays_27 ?_
    refine lv_iload hx hb dX0_rightDays_30 (lv_at hl 4 rfl) ?_
    obtain ⟨g2, h⟩ := ck_at h
    refine lS_numbers X K G hn2 g2 dX0_rightDays_32 ?_
    refine lv_topi (fun x3 ex3 => ?_)
    have h := nm_at ex3 h
    refine lv_istore (lv' := [(5, .int x3), (0, .ref (ad 24)), (1, .int v1), (2, .ref (ad (35 + 2 * n2))), (3, .int v3), (4, .int v4)]) hx hb dX0_rightDays_33 hl (by decide) rfl (fun ls hl => ?_)
    refine lv_iload hx hb dX0_rightDays_35 (lv_at hl 0 rfl) ?_
    refine lv_if_lt (tgt := 53) hx hb dX0_rightDays_37 (by decide) (fun c4 => ?_) (fun c4 => ?_)
    · have h := it_at c4 h
      refine lv_iload hx hb dX0_rightDays_53 (lv_at hl 5 rfl) ?_
      rw [hR _ _ (Option.some.inj h).symm]
      exact reI X G dX0_rightDays_55
    · have h := if_at c4 h
      refine lv_iload hx hb dX0_rightDays_40 (lv_at hl 5 rfl) ?_
      refine lv_if_ne (tgt := 56) hx hb dX0_rightDays_42 (by decide) (fun c5 => ?_) (fun c5 => ?_)
      · have h := if_at c5 h
        exact b_X0_rightDays_L20_56 X K G (lv_sub hl [1, 2, 3, 4, 5, 0] rfl) h hB hX hR
      · have h := it_at c5 h
        refine lv_iload hx hb dX0_rightDays_45 (lv_at hl 0 rfl) ?_
        refine lv_sipush (v := 999) hx hb dX0_rightDays_47 (by decide) ?_
        refine lv_icmp_le (tgt := 56) hx hb dX0_rightDays_50 (by decide) (fun c6 => ?_) (fun c6 => ?_)
        · have h := it_at c6 h
          exact b_X0_rightDays_L20_56 X K G (lv_sub hl [1, 2, 3, 4, 5, 0] rfl) h hB hX hR
        · have h := if_at c6 h
          refine lv_iload hx hb dX0_rightDays_53 (lv_at hl 5 rfl) ?_
          rw [hR _ _ (Option.some.inj h).symm]
          exact reI X G dX0_rightDays_55
noncomputable def f_X0_rightDays_L20_20s (q : Int32 × Nat × Int32 × Int32 × XS) : Option ((Int32 × Nat × Int32 × Int32 × XS) ⊕ ((Int32 × XS) ⊕ (Int32 × XS))) := f_X0_rightDays_L20_20 q.1 q.2.1 q.2.2.1 q.2.2.2.1 q.2.2.2.2
set_option maxRecDepth 100000 in
set_option maxHeartbeats 4000000 in
theorem w_X0_rightDays_L20_20 (X : cx p s m args meth c cX0_rightDays 7 RX0 (some .int)) (K : kx D cI cZ cQ adK adV A s s.heap) {e0 : (Int32 × XS) ⊕ (Int32 × XS)} : ∀ (n : Nat) (v1 : Int32) (n2 : Nat) (v3 : Int32) (v4 : Int32) (u : XS) {H : Heap} {locs : List Loc} {ls : Array Slot}, wh f_X0_rightDays_L20_20s n (v1, n2, v3, v4, u) = some e0 → wg D A s.heap H locs (wX cI cZ cQ ad u) → lv_has ls 7 [(0, .ref (ad 24)), (1, .int v1), (2, .ref (ad (35 + 2 * n2))), (3, .int v3), (4, .int v4)] → (∀ (v3 : Int32) (u : XS), e0 = .inr (v3, u) → ∀ (H : Heap) (locs : List Loc) (ls : Array Slot), wg D A s.heap H locs (wX cI cZ cQ ad u) → lv_has ls 7 [(3, .int v3)] → W p l e { frames := 3, cells := 0, slots := 0, locals := 74 } s m args below meth c H locs 0 0 Q (F0 m 127 ls [])) → (∀ (r : Int32) (u : XS), e0 = .inl (r, u) → Q = (qI D A (wX cI cZ cQ ad) below args s r u)) → W p l e { frames := 3, cells := 0, slots := 0, locals := 74 } s m args below meth c H locs 0 0 Q (F0 m 20 ls []) := by
  intro n
  induction n with
  | zero => intro v1 n2 v3 v4 u H locs ls h; cases h
  | succ n ih =>
    intro v1 n2 v3 v4 u H locs ls h G hl hX hR
    obtain ⟨q, h1, h2, h3⟩ := wh_at h
    exact b_X0_rightDays_L20_20 X K G hl (show f_X0_rightDays_L20_20 v1 n2 v3 v4 u = some q from h1) (fun b0 b1 b2 b3 b4 ee H locs ls G hl => ih b0 b1 b2 b3 b4 (h2 _ ee) G hl hX hR) (fun z0 z1 ee => hX z0 z1 (h3 _ ee).symm) (fun r u ee => hR r u (h3 _ ee).symm)
noncomputable def f_X0_rightDays (a1 : Int32) (j2 : Nat) (u0 : XS) : Option (Int32 × XS) :=
  if a1 < 0 ∨ 8 ≤ a1.toNatClampNeg then none else
  nmv (if ((tCounts (xT u0)) a1.toNatClampNeg) < ((xB u0).2.1 j2) then ((tCounts (xT u0)) a1.toNatClampNeg) else ((xB u0).2.1 j2)) fun x2 =>
  bne (wl f_X0_rightDays_L20_20s (a1, j2, x2, (0 : Int32), u0)) (fun a => some a) fun b =>
    nmv b.1 fun y6 =>
    nmv b.2 fun u5 =>
    some (y6, u5)
set_option maxRecDepth 100000 in
set_option maxHeartbeats 4000000 in
theorem c_X0_rightDays {a1 : Int32} {j2 : Nat} {u0 : XS} {r : Int32} {u' : XS} (hj2 : j2 < 4) (h : f_X0_rightDays a1 j2 u0 = some (r, u')) : MI l D cI cZ cQ adK adV A yX0_rightDays cX0_rightDays 7 (some .int) { frames := 3, cells := 0, slots := 0, locals := 74 } [.ref (ad 24), .int a1, .ref (ad (35 + 2 * j2))] (wX cI cZ cQ ad) u0 r u' := by
  unfold f_X0_rightDays at h
  refine entI (by decide) (Nat.le_of_ble_eq_true rfl) (fun p e s m below meth c ls X K G hl => ?_)
  have hl : lv_has ls 7 [(0, .ref (ad 24)), (1, .int a1), (2, .ref (ad (35 + 2 * j2)))] := hl
  obtain ⟨hx, hb, -⟩ := id X
  generalize hH : s.heap = H at G
  subst hH
  refine lv_aload_n hx hb dX0_rightDays_0 rfl (lv_at hl 2 rfl) ?_
  refine gS_size X K G hj2 q_288 dX0_rightDays_1 ?_
  refine lv_aload_n hx hb dX0_rightDays_4 rfl (lv_at hl 0 rfl) ?_
  refine gX_24_0 X K G q_184 dX0_rightDays_5 ?_
  refine gX_1_8 X K G q_129 dX0_rightDays_8 ?_
  refine lv_iload_n hx hb dX0_rightDays_11 rfl (lv_at hl 1 rfl) ?_
  obtain ⟨g1, h⟩ := ck_at h
  refine lX_4 X K G g1 dX0_rightDays_12 ?_
  refine va_mmin hx hb (by rw [X.2.2.1]; exact hl.1.symm) X.2.2.2.1 (X.2.2.2.2.1 _ q_602) (X.2.2.2.2.1 _ my_J9_min_7cf53.1) (X.2.2.2.2.1 _ my_J9_min_7cf53.2.1) (X.2.2.2.2.1 _ my_J9_min_7cf53.2.2.1) (Nat.le_of_ble_eq_true rfl) (Nat.le_of_ble_eq_true rfl) (Nat.zero_le _) (Nat.zero_le _) dX0_rightDays_13 ?_
  refine lv_topi (fun x2 ex2 => ?_)
  have h := nm_at ex2 h
  refine lv_istore_n (lv' := [(3, .int x2), (0, .ref (ad 24)), (1, .int a1), (2, .ref (ad (35 + 2 * j2)))]) hx hb dX0_rightDays_16 rfl hl (by decide) rfl (fun ls hl => ?_)
  refine lv_iconst (v := 0) hx hb dX0_rightDays_17 (by decide) ?_
  refine lv_istore (lv' := [(4, .int (0 : Int32)), (3, .int x2), (0, .ref (ad 24)), (1, .int a1), (2, .ref (ad (35 + 2 * j2)))]) hx hb dX0_rightDays_18 hl (by decide) rfl (fun ls hl => ?_)
  obtain ⟨q4, hq4, ha, hb1⟩ := bne_at h
  obtain ⟨n3, hn3⟩ := wl_iff.mp hq4
  refine w_X0_rightDays_L20_20 X K n3 _ _ _ _ _ hn3 G (lv_sub hl [2, 3, 4, 1, 0] rfl) (fun y6 u5 ee H locs ls G hl => ?_) (fun r u1 ee => by obtain ⟨rfl, rfl⟩ := pair_at (ha _ ee); rfl)
  have h := hb1 _ ee
  clear ee ha hb1 hq4 hn3
  have h := nm_at (x := y6) rfl h
  have h := nm_at (x := u5) rfl h
  refine lv_iload_n hx hb dX0_rightDays_127 rfl (lv_at hl 0 rfl) ?_
  obtain ⟨rfl, rfl⟩ := pair_at h
  exact reI X G dX0_rightDays_128
noncomputable def f_X6_judge (a1 : Int32) (a2 : Int32) (u0 : XS) : Option (Int32 × XS) :=
  bnd (f_X6_isSheet a1 u0) fun r1 u2 =>
  (if r1 = 0 then
    bnd (f_X6_found (0 : Int32) u2) fun r21 u22 =>
    some (r21, u22)
  else
    if a1 < 0 ∨ 4 ≤ a1.toNatClampNeg then none else
    (if ((xB u2).1 (a1.toNatClampNeg)) = 0 then
      bnd (f_X6_found (5 : Int32) u2) fun r19 u20 =>
      some (r19, u20)
    else
      bnd (f_X5_hasThing a2 u2) fun r6 u7 =>
      (if r6 = 0 then
        bnd (f_X6_found (0 : Int32) u7) fun r17 u18 =>
        some (r17, u18)
      else
        if a2 < 0 ∨ 8 ≤ a2.toNatClampNeg then none else
        nmv ((tCounts (xT u7)) a2.toNatClampNeg) fun x10 =>
        if a1 < 0 ∨ 4 ≤ a1.toNatClampNeg then none else
        bnd (f_X0_rightDays a2 (a1.toNatClampNeg) u7) fun r12 u13 =>
        (if r12 = x10 then
          if a1 < 0 ∨ 4 ≤ a1.toNatClampNeg then none else
          (if ((xB u13).2.1 (a1.toNatClampNeg)) = x10 then
            some ((0 : Int32), u13)
          else
            some (r12 + (1 : Int32), u13))
        else
          some (r12 + (1 : Int32), u13)))))
set_option maxRecDepth 100000 in
set_option maxHeartbeats 4000000 in
theorem c_X6_judge {a1 : Int32} {a2 : Int32} {u0 : XS} {r : Int32} {u' : XS} (h : f_X6_judge a1 a2 u0 = some (r, u')) : MI l D cI cZ cQ adK adV A yX6_judge cX6_judge 5 (some .int) { frames := 4, cells := 0, slots := 0, locals := 100 } [.ref (ad 0), .int a1, .int a2] (wX cI cZ cQ ad) u0 r u' := by
  unfold f_X6_judge at h
  refine entI (by decide) (Nat.le_of_ble_eq_true rfl) (fun p e s m below meth c ls X K G hl => ?_)
  have hl : lv_has ls 5 [(0, .ref (ad 0)), (1, .int a1), (2, .int a2)] := hl
  obtain ⟨hx, hb, -⟩ := id X
  generalize hH : s.heap = H at G
  subst hH
  refine lv_iload_n hx hb dX6_judge_0 rfl (lv_at hl 1 rfl) ?_
  obtain ⟨r1, u2, er1, h⟩ := bnd_at h
  refine csI (rest := []) X K G (c_X6_isSheet er1) q_840 my_X6_isSheet ⟨rfl, rfl⟩ ⟨Nat.le_of_ble_eq_true rfl, Nat.le_of_ble_eq_true rfl⟩ ⟨Nat.zero_le _, Nat.zero_le _⟩ rfl hl.1 rfl (Nat.le_of_ble_eq_true rfl) dX6_judge_1 (fun H locs G => ?_)
  clear er1
  refine lv_if_ne (tgt := 13) hx hb dX6_judge_4 (by decide) (fun c3 => ?_) (fun c3 => ?_)
  · have h := if_at c3 h
    refine lv_aload_n hx hb dX6_judge_13 rfl (lv_at hl 0 rfl) ?_
    refine gX_0_7 X K G q_307 dX6_judge_14 ?_
    refine lv_iload_n hx hb dX6_judge_17 rfl (lv_at hl 1 rfl) ?_
    obtain ⟨g4, h⟩ := ck_at h
    refine lX_34 X K G g4 dX6_judge_18 ?_
    refine gS_bits X K G (idx_lt g4) q_286 dX6_judge_19 ?_
    refine lv_if_ne (tgt := 31) hx hb dX6_judge_22 (by decide) (fun c5 => ?_) (fun c5 => ?_)
    · have h := if_at c5 h
      refine lv_aload_n hx hb dX6_judge_31 rfl (lv_at hl 0 rfl) ?_
      refine gX_0_0 X K G q_300 dX6_judge_32 ?_
      refine lv_iload_n hx hb dX6_judge_35 rfl (lv_at hl 2 rfl) ?_
      obtain ⟨r6, u7, er6, h⟩ := bnd_at h
      refine cvI (rest := []) X K G (c_X5_hasThing er6) q_553 my_X5_hasThing ⟨rfl, rfl⟩ ⟨Nat.le_of_ble_eq_true rfl, Nat.le_of_ble_eq_true rfl⟩ ⟨Nat.zero_le _, Nat.zero_le _⟩ 1 5 rfl rfl rfl rfl hl.1 rfl (Nat.le_of_ble_eq_true rfl) dX6_judge_36 (fun H locs G => ?_)
      clear er6
      refine lv_if_ne (tgt := 48) hx hb dX6_judge_39 (by decide) (fun c8 => ?_) (fun c8 => ?_)
      · have h := if_at c8 h
        refine lv_aload_n hx hb dX6_judge_48 rfl (lv_at hl 0 rfl) ?_
        refine gX_0_0 X K G q_300 dX6_judge_49 ?_
        refine gX_1_8 X K G q_131 dX6_judge_52 ?_
        refine lv_iload_n hx hb dX6_judge_55 rfl (lv_at hl 2 rfl) ?_
        obtain ⟨g9, h⟩ := ck_at h
        refine lX_4 X K G g9 dX6_judge_56 ?_
        refine lv_topi (fun x10 ex10 => ?_)
        have h := nm_at ex10 h
        refine lv_istore_n (lv' := [(3, .int x10), (0, .ref (ad 0)), (1, .int a1), (2, .int a2)]) hx hb dX6_judge_57 rfl hl (by decide) rfl (fun ls hl => ?_)
        refine lv_aload_n hx hb dX6_judge_58 rfl (lv_at hl 1 rfl) ?_
        refine gX_0_4 X K G q_304 dX6_judge_59 ?_
        refine lv_iload_n hx hb dX6_judge_62 rfl (lv_at hl 3 rfl) ?_
        refine lv_aload_n hx hb dX6_judge_63 rfl (lv_at hl 1 rfl) ?_
        refine gX_0_7 X K G q_307 dX6_judge_64 ?_
        refine lv_iload_n hx hb dX6_judge_67 rfl (lv_at hl 2 rfl) ?_
        obtain ⟨g11, h⟩ := ck_at h
        refine lX_34 X K G g11 dX6_judge_68 ?_
        obtain ⟨r12, u13, er12, h⟩ := bnd_at h
        refine cvI (rest := []) X K G (c_X0_rightDays (idx_lt g11) er12) q_872 my_X0_rightDays ⟨rfl, rfl⟩ ⟨Nat.le_of_ble_eq_true rfl, Nat.le_of_ble_eq_true rfl⟩ ⟨Nat.zero_le _, Nat.zero_le _⟩ 24 0 rfl rfl rfl rfl hl.1 rfl (Nat.le_of_ble_eq_true rfl) dX6_judge_69 (fun H locs G => ?_)
        clear er12
        refine lv_istore (lv' := [(4, .int r12), (3, .int x10), (0, .ref (ad 0)), (1, .int a1), (2, .int a2)]) hx hb dX6_judge_72 hl (by decide) rfl (fun ls hl => ?_)
        refine lv_iload hx hb dX6_judge_74 (lv_at hl 0 rfl) ?_
        refine lv_iload_n hx hb dX6_judge_76 rfl (lv_at hl 1 rfl) ?_
        refine lv_icmp_ne (tgt := 97) hx hb dX6_judge_77 (by decide) (fun c14 => ?_) (fun c14 => ?_)
        · have h := if_at c14 h
          refine lv_iload hx hb dX6_judge_97 (lv_at hl 0 rfl) ?_
          refine lv_iconst (v := 1) hx hb dX6_judge_99 (by decide) ?_
          refine lv_iadd hx hb dX6_judge_100 ?_
          obtain ⟨rfl, rfl⟩ := pair_at h
          exact reI X G dX6_judge_101
        · have h := it_at c14 h
          refine lv_aload_n hx hb dX6_judge_80 rfl (lv_at hl 2 rfl) ?_
          refine gX_0_7 X K G q_307 dX6_judge_81 ?_
          refine lv_iload_n hx hb dX6_judge_84 rfl (lv_at hl 3 rfl) ?_
          obtain ⟨g15, h⟩ := ck_at h
          refine lX_34 X K G g15 dX6_judge_85 ?_
          refine gS_size X K G (idx_lt g15) q_289 dX6_judge_86 ?_
          refine lv_iload_n hx hb dX6_judge_89 rfl (lv_at hl 1 rfl) ?_
          refine lv_icmp_ne (tgt := 97) hx hb dX6_judge_90 (by decide) (fun c16 => ?_) (fun c16 => ?_)
          · have h := if_at c16 h
            refine lv_iload hx hb dX6_judge_97 (lv_at hl 0 rfl) ?_
            refine lv_iconst (v := 1) hx hb dX6_judge_99 (by decide) ?_
            refine lv_iadd hx hb dX6_judge_100 ?_
            obtain ⟨rfl, rfl⟩ := pair_at h
            exact reI X G dX6_judge_101
          · have h := it_at c16 h
            refine lv_iconst (v := 0) hx hb dX6_judge_93 (by decide) ?_
            refine lv_goto (tgt := 101) hx hb dX6_judge_94 (by decide) ?_
            obtain ⟨rfl, rfl⟩ := pair_at h
            exact reI X G dX6_judge_101
      · have h := it_at c8 h
        refine lv_aload_n hx hb dX6_judge_42 rfl (lv_at hl 0 rfl) ?_
        refine lv_iconst (v := 0) hx hb dX6_judge_43 (by decide) ?_
        obtain ⟨r17, u18, er17, h⟩ := bnd_at h
        refine cvI (rest := []) X K G (c_X6_found er17) q_338 my_X6_found ⟨rfl, rfl⟩ ⟨Nat.le_of_ble_eq_true rfl, Nat.le_of_ble_eq_true rfl⟩ ⟨Nat.zero_le _, Nat.zero_le _⟩ 0 6 rfl rfl rfl rfl hl.1 rfl (Nat.le_of_ble_eq_true rfl) dX6_judge_44 (fun H locs G => ?_)
        clear er17
        obtain ⟨rfl, rfl⟩ := pair_at h
        exact reI X G dX6_judge_47
    · have h := it_at c5 h
      refine lv_aload_n hx hb dX6_judge_25 rfl (lv_at hl 0 rfl) ?_
      refine lv_iconst (v := 5) hx hb dX6_judge_26 (by decide) ?_
      obtain ⟨r19, u20, er19, h⟩ := bnd_at h
      refine cvI (rest := []) X K G (c_X6_found er19) q_338 my_X6_found ⟨rfl, rfl⟩ ⟨Nat.le_of_ble_eq_true rfl, Nat.le_of_ble_eq_true rfl⟩ ⟨Nat.zero_le _, Nat.zero_le _⟩ 0 6 rfl rfl rfl rfl hl.1 rfl (Nat.le_of_ble_eq_true rfl) dX6_judge_27 (fun H locs G => ?_)
      clear er19
      obtain ⟨rfl, rfl⟩ := pair_at h
      exact reI X G dX6_judge_30
  · have h := it_at c3 h
    refine lv_aload_n hx hb dX6_judge_7 rfl (lv_at hl 0 rfl) ?_
    refine lv_iconst (v := 0) hx hb dX6_judge_8 (by decide) ?_
    obtain ⟨r21, u22, er21, h⟩ := bnd_at h
    refine cvI (rest := []) X K G (c_X6_found er21) q_338 my_X6_found ⟨rfl, rfl⟩ ⟨Nat.le_of_ble_eq_true rfl, Nat.le_of_ble_eq_true rfl⟩ ⟨Nat.zero_le _, Nat.zero_le _⟩ 0 6 rfl rfl rfl rfl hl.1 rfl (Nat.le_of_ble_eq_true rfl) dX6_judge_9 (fun H locs G => ?_)
    clear er21
    obtain ⟨rfl, rfl⟩ := pair_at h
    exact reI X G dX6_judge_12
end WALK_cls5
