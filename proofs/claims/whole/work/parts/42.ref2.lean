section WALK_ref2
variable {p : Program} {l : Launch} {e : Env} {s : State} {m : MethodId} {args : Array Value} {below : List Frame} {meth : Method} {c : Code} {H : Heap} {locs : List Loc} {Q : State → Prop} {D : va_G} {cI cZ cQ : ClassId} {adK adV ad : Nat → Nat} {A : Nat → Prop} {ls : Array Slot}
noncomputable def f_X7_change_54 (v1 : Int32) (v2 : Int32) (v3 : Int32) (v4 : Int32) (k0 : Int32) (u0 : MS) : Option (Int32 × MS) :=
  bnd (f_X7_isStep v1 v2 u0) fun r1 u2 =>
  (if r1 = 0 then
    bnd (f_X7_finds (-1000001 : Int32) u2) fun r4 u5 =>
    some (r4, u5)
  else
    (if k0 = 0 then
      bnd (f_X7_finds (-1000001 : Int32) u2) fun r7 u8 =>
      some (r7, u8)
    else
      bnd (f_X7_at v1 v2 v3 u2) fun r9 u10 =>
      bnd (f_X7_becomes r9 v4 u10) fun r11 u12 =>
      some (r11, u12)))
set_option maxRecDepth 100000 in
set_option maxHeartbeats 4000000 in
theorem b_X7_change_54 (X : cx p s m args meth c cX7_change 6 RX7 (some .int)) (K : kx D cI cZ cQ adK adV A s s.heap) {v1 : Int32} {v2 : Int32} {v3 : Int32} {v4 : Int32} {k0 : Int32} {u0 : MS} (G : wg D A s.heap H locs (wM cI ad u0)) (hl : lv_has ls 6 [(0, .ref (ad 0)), (1, .int v1), (2, .int v2), (3, .int v3), (4, .int v4)]) {r : Int32} {u' : MS} (h : f_X7_change_54 v1 v2 v3 v4 k0 u0 = some (r, u')) : W p l e { frames := 3, cells := 0, slots := 0, locals := 68 } s m args below meth c H locs 0 0 (qI D A (wM cI ad) below args s r u') (F0 m 54 ls [.int k0]) := by
  unfold f_X7_change_54 at h
  obtain ⟨hx, hb, -⟩ := id X
  refine lv_istore (lv' := [(5, .int k0), (0, .ref (ad 0)), (1, .int v1), (2, .int v2), (3, .int v3), (4, .int v4)]) hx hb dX7_change_54 hl (by decide) rfl (fun ls hl => ?_)
  refine lv_aload_n hx hb dX7_change_56 rfl (lv_at hl 1 rfl) ?_
  refine lv_iload_n hx hb dX7_change_57 rfl (lv_at hl 2 rfl) ?_
  refine lv_iload_n hx hb dX7_change_58 rfl (lv_at hl 3 rfl) ?_
  obtain ⟨r1, u2, er1, h⟩ := bnd_at h
  refine cvI (rest := []) X K G (c_X7_isStep er1) q_1134 my_X7_isStep ⟨rfl, rfl⟩ ⟨Nat.le_of_ble_eq_true rfl, Nat.le_of_ble_eq_true rfl⟩ ⟨Nat.zero_le _, Nat.zero_le _⟩ 0 7 rfl rfl rfl rfl hl.1 rfl (Nat.le_of_ble_eq_true rfl) dX7_change_59 (fun H locs G => ?_)
  clear er1
  refine lv_if_eq (tgt := 85) hx hb dX7_change_62 (by decide) (fun c3 => ?_) (fun c3 => ?_)
  · have h := it_at c3 h
    refine lv_aload_n hx hb dX7_change_85 rfl (lv_at hl 1 rfl) ?_
    refine lv_ldc (v := -1000001) hx hb X.2.2.2.1 (X.2.2.2.2.1 _ q_975) dX7_change_86 ?_
    obtain ⟨r4, u5, er4, h⟩ := bnd_at h
    refine cvI (rest := []) X K G (c_X7_finds er4) q_976 my_X7_finds ⟨rfl, rfl⟩ ⟨Nat.le_of_ble_eq_true rfl, Nat.le_of_ble_eq_true rfl⟩ ⟨Nat.zero_le _, Nat.zero_le _⟩ 0 7 rfl rfl rfl rfl hl.1 rfl (Nat.le_of_ble_eq_true rfl) dX7_change_88 (fun H locs G => ?_)
    clear er4
    obtain ⟨rfl, rfl⟩ := pair_at h
    exact reI X G dX7_change_91
  · have h := if_at c3 h
    refine lv_iload hx hb dX7_change_65 (lv_at hl 0 rfl) ?_
    refine lv_if_eq (tgt := 85) hx hb dX7_change_67 (by decide) (fun c6 => ?_) (fun c6 => ?_)
    · have h := it_at c6 h
      refine lv_aload_n hx hb dX7_change_85 rfl (lv_at hl 1 rfl) ?_
      refine lv_ldc (v := -1000001) hx hb X.2.2.2.1 (X.2.2.2.2.1 _ q_975) dX7_change_86 ?_
      obtain ⟨r7, u8, er7, h⟩ := bnd_at h
      refine cvI (rest := []) X K G (c_X7_finds er7) q_976 my_X7_finds ⟨rfl, rfl⟩ ⟨Nat.le_of_ble_eq_true rfl, Nat.le_of_ble_eq_true rfl⟩ ⟨Nat.zero_le _, Nat.zero_le _⟩ 0 7 rfl rfl rfl rfl hl.1 rfl (Nat.le_of_ble_eq_true rfl) dX7_change_88 (fun H locs G => ?_)
      clear er7
      obtain ⟨rfl, rfl⟩ := pair_at h
      exact reI X G dX7_change_91
    · have h := if_at c6 h
      refine lv_aload_n hx hb dX7_change_70 rfl (lv_at hl 1 rfl) ?_
      refine lv_iload_n hx hb dX7_change_71 rfl (lv_at hl 2 rfl) ?_
      refine lv_iload_n hx hb dX7_change_72 rfl (lv_at hl 3 rfl) ?_
      refine lv_iload_n hx hb dX7_change_73 rfl (lv_at hl 4 rfl) ?_
      obtain ⟨r9, u10, er9, h⟩ := bnd_at h
      refine csI (rest := [.ref (ad 0)]) X K G (c_X7_at er9) q_1048 my_X7_at ⟨rfl, rfl⟩ ⟨Nat.le_of_ble_eq_true rfl, Nat.le_of_ble_eq_true rfl⟩ ⟨Nat.zero_le _, Nat.zero_le _⟩ rfl hl.1 rfl (Nat.le_of_ble_eq_true rfl) dX7_change_74 (fun H locs G => ?_)
      clear er9
      refine lv_iload hx hb dX7_change_77 (lv_at hl 5 rfl) ?_
      obtain ⟨r11, u12, er11, h⟩ := bnd_at h
      refine cvI (rest := []) X K G (c_X7_becomes er11) q_1061 my_X7_becomes ⟨rfl, rfl⟩ ⟨Nat.le_of_ble_eq_true rfl, Nat.le_of_ble_eq_true rfl⟩ ⟨Nat.zero_le _, Nat.zero_le _⟩ 0 7 rfl rfl rfl rfl hl.1 rfl (Nat.le_of_ble_eq_true rfl) dX7_change_79 (fun H locs G => ?_)
      clear er11
      refine lv_goto (tgt := 91) hx hb dX7_change_82 (by decide) ?_
      obtain ⟨rfl, rfl⟩ := pair_at h
      exact reI X G dX7_change_91
noncomputable def f_X7_change (a1 : Int32) (a2 : Int32) (a3 : Int32) (a4 : Int32) (u0 : MS) : Option (Int32 × MS) :=
  (if a3 = 0 then
    bnd (f_X7_isTool a4 u0) fun r9 u10 =>
    f_X7_change_54 a1 a2 a3 a4 r9 u10
  else
    (if a3 = (1 : Int32) then
      bnd (f_X7_in (a4.toInt64) (1 : Int64) (8 : Int64) u0) fun r7 u8 =>
      f_X7_change_54 a1 a2 a3 a4 r7 u8
    else
      (if a3 = (2 : Int32) then
        bnd (f_X7_in (a4.toInt64) (0 : Int64) (99 : Int64) u0) fun r4 u5 =>
        (if r4 = 0 then
          f_X7_change_54 a1 a2 a3 a4 (0 : Int32) u5
        else
          f_X7_change_54 a1 a2 a3 a4 (1 : Int32) u5)
      else
        f_X7_change_54 a1 a2 a3 a4 (0 : Int32) u0)))
set_option maxRecDepth 100000 in
set_option maxHeartbeats 4000000 in
theorem c_X7_change {a1 : Int32} {a2 : Int32} {a3 : Int32} {a4 : Int32} {u0 : MS} {r : Int32} {u' : MS} (h : f_X7_change a1 a2 a3 a4 u0 = some (r, u')) : MI l D cI cZ cQ adK adV A yX7_change cX7_change 6 (some .int) { frames := 3, cells := 0, slots := 0, locals := 68 } [.ref (ad 0), .int a1, .int a2, .int a3, .int a4] (wM cI ad) u0 r u' := by
  unfold f_X7_change at h
  refine entI (by decide) (Nat.le_of_ble_eq_true rfl) (fun p e s m below meth c ls X K G hl => ?_)
  have hl : lv_has ls 6 [(0, .ref (ad 0)), (1, .int a1), (2, .int a2), (3, .int a3), (4, .int a4)] := hl
  obtain ⟨hx, hb, -⟩ := id X
  generalize hH : s.heap = H at G
  subst hH
  refine lv_iload_n hx hb dX7_change_0 rfl (lv_at hl 3 rfl) ?_
  refine lv_if_ne (tgt := 13) hx hb dX7_change_1 (by decide) (fun c1 => ?_) (fun c1 => ?_)
  · have h := if_at c1 h
    refine lv_iload_n hx hb dX7_change_13 rfl (lv_at hl 3 rfl) ?_
    refine lv_iconst (v := 1) hx hb dX7_change_14 (by decide) ?_
    refine lv_icmp_ne (tgt := 31) hx hb dX7_change_15 (by decide) (fun c2 => ?_) (fun c2 => ?_)
    · have h := if_at c2 h
      refine lv_iload_n hx hb dX7_change_31 rfl (lv_at hl 3 rfl) ?_
      refine lv_iconst (v := 2) hx hb dX7_change_32 (by decide) ?_
      refine lv_icmp_ne (tgt := 53) hx hb dX7_change_33 (by decide) (fun c3 => ?_) (fun c3 => ?_)
      · have h := if_at c3 h
        refine lv_iconst (v := 0) hx hb dX7_change_53 (by decide) ?_
        exact b_X7_change_54 X K G (lv_sub hl [0, 1, 2, 3, 4] rfl) h
      · have h := it_at c3 h
        refine lv_iload hx hb dX7_change_36 (lv_at hl 4 rfl) ?_
        refine lv_i2l hx hb dX7_change_38 rfl ?_
        refine lv_lconst (v := 0) hx hb dX7_change_39 (by decide) ?_
        refine lv_ldc2 (v := 99) hx hb X.2.2.2.1 (X.2.2.2.2.1 _ q_1120) dX7_change_40 ?_
        obtain ⟨r4, u5, er4, h⟩ := bnd_at h
        refine csI (rest := []) X K G (c_X7_in er4) q_972 my_X7_in ⟨rfl, rfl⟩ ⟨Nat.le_of_ble_eq_true rfl, Nat.le_of_ble_eq_true rfl⟩ ⟨Nat.zero_le _, Nat.zero_le _⟩ rfl hl.1 rfl (Nat.le_of_ble_eq_true rfl) dX7_change_43 (fun H locs G => ?_)
        clear er4
        refine lv_if_eq (tgt := 53) hx hb dX7_change_46 (by decide) (fun c6 => ?_) (fun c6 => ?_)
        · have h := it_at c6 h
          refine lv_iconst (v := 0) hx hb dX7_change_53 (by decide) ?_
          exact b_X7_change_54 X K G (lv_sub hl [0, 1, 2, 3, 4] rfl) h
        · have h := if_at c6 h
          refine lv_iconst (v := 1) hx hb dX7_change_49 (by decide) ?_
          refine lv_goto (tgt := 54) hx hb dX7_change_50 (by decide) ?_
          exact b_X7_change_54 X K G (lv_sub hl [0, 1, 2, 3, 4] rfl) h
    · have h := it_at c2 h
      refine lv_iload hx hb dX7_change_18 (lv_at hl 4 rfl) ?_
      refine lv_i2l hx hb dX7_change_20 rfl ?_
      refine lv_lconst (v := 1) hx hb dX7_change_21 (by decide) ?_
      refine lv_ldc2 (v := 8) hx hb X.2.2.2.1 (X.2.2.2.2.1 _ q_1111) dX7_change_22 ?_
      obtain ⟨r7, u8, er7, h⟩ := bnd_at h
      refine csI (rest := []) X K G (c_X7_in er7) q_972 my_X7_in ⟨rfl, rfl⟩ ⟨Nat.le_of_ble_eq_true rfl, Nat.le_of_ble_eq_true rfl⟩ ⟨Nat.zero_le _, Nat.zero_le _⟩ rfl hl.1 rfl (Nat.le_of_ble_eq_true rfl) dX7_change_25 (fun H locs G => ?_)
      clear er7
      refine lv_goto (tgt := 54) hx hb dX7_change_28 (by decide) ?_
      exact b_X7_change_54 X K G (lv_sub hl [0, 1, 2, 3, 4] rfl) h
  · have h := it_at c1 h
    refine lv_aload_n hx hb dX7_change_4 rfl (lv_at hl 0 rfl) ?_
    refine lv_iload hx hb dX7_change_5 (lv_at hl 4 rfl) ?_
    obtain ⟨r9, u10, er9, h⟩ := bnd_at h
    refine cvI (rest := []) X K G (c_X7_isTool er9) q_1080 my_X7_isTool ⟨rfl, rfl⟩ ⟨Nat.le_of_ble_eq_true rfl, Nat.le_of_ble_eq_true rfl⟩ ⟨Nat.zero_le _, Nat.zero_le _⟩ 0 7 rfl rfl rfl rfl hl.1 rfl (Nat.le_of_ble_eq_true rfl) dX7_change_7 (fun H locs G => ?_)
    clear er9
    refine lv_goto (tgt := 54) hx hb dX7_change_10 (by decide) ?_
    exact b_X7_change_54 X K G (lv_sub hl [0, 1, 2, 3, 4] rfl) h
noncomputable def f_X7_firstFrom_L2_2 (v1 : Int32) (v2 : Int32) (v3 : Int32) (u0 : MS) : Option ((Int32 × Int32 × Int32 × MS) ⊕ ((Int32 × MS) ⊕ (MS))) :=
  (if (v2 + (12 : Int32)) ≤ v3 then
    some (.inr (.inr u0))
  else
    bnd (f_X7_mayBe v1 v3 u0) fun r2 u3 =>
    (if r2 = 0 then
      nmv (v3 + (1 : Int32)) fun x5 =>
      some (.inl (v1, v2, x5, u3))
    else
      some (.inr (.inl (v3, u3)))))
set_option maxRecDepth 100000 in
set_option maxHeartbeats 4000000 in
theorem b_X7_firstFrom_L2_2 (X : cx p s m args meth c cX7_firstFrom 4 RX7 (some .int)) (K : kx D cI cZ cQ adK adV A s s.heap) {v1 : Int32} {v2 : Int32} {v3 : Int32} {u0 : MS} (G : wg D A s.heap H locs (wM cI ad u0)) (hl : lv_has ls 4 [(0, .ref (ad 0)), (1, .int v1), (2, .int v2), (3, .int v3)]) {q : ((Int32 × Int32 × Int32 × MS) ⊕ ((Int32 × MS) ⊕ (MS)))} (h : f_X7_firstFrom_L2_2 v1 v2 v3 u0 = some q) (hB : ∀ (v1 : Int32) (v2 : Int32) (v3 : Int32) (u : MS), q = .inl (v1, v2, v3, u) → ∀ (H : Heap) (locs : List Loc) (ls : Array Slot), wg D A s.heap H locs (wM cI ad u) → lv_has ls 4 [(0, .ref (ad 0)), (1, .int v1), (2, .int v2), (3, .int v3)] → W p l e { frames := 2, cells := 0, slots := 0, locals := 43 } s m args below meth c H locs 0 0 Q (F0 m 2 ls [])) (hX : ∀ (u : MS), q = .inr (.inr u) → ∀ (H : Heap) (locs : List Loc) (ls : Array Slot), wg D A s.heap H locs (wM cI ad u) → lv_has ls 4 [] → W p l e { frames := 2, cells := 0, slots := 0, locals := 43 } s m args below meth c H locs 0 0 Q (F0 m 27 ls [])) (hR : ∀ (r : Int32) (u : MS), q = .inr (.inl (r, u)) → Q = (qI D A (wM cI ad) below args s r u)) : W p l e { frames := 2, cells := 0, slots := 0, locals := 43 } s m args below meth c H locs 0 0 Q (F0 m 2 ls []) := by
  unfold f_X7_firstFrom_L2_2 at h
  obtain ⟨hx, hb, -⟩ := id X
  refine lv_iload_n hx hb dX7_firstFrom_2 rfl (lv_at hl 3 rfl) ?_
  refine lv_iload_n hx hb dX7_firstFrom_3 rfl (lv_at hl 2 rfl) ?_
  refine lv_bipush (v := 12) hx hb dX7_firstFrom_4 (by decide) ?_
  refine lv_iadd hx hb dX7_firstFrom_6 ?_
  refine lv_icmp_ge (tgt := 27) hx hb dX7_firstFrom_7 (by decide) (fun c1 => ?_) (fun c1 => ?_)
  · have h := it_at c1 h
    exact hX _ (Option.some.inj h).symm _ _ _ G (lv_sub hl [] rfl)
  · have h := if_at c1 h
    refine lv_aload_n hx hb dX7_firstFrom_10 rfl (lv_at hl 0 rfl) ?_
    refine lv_iload_n hx hb dX7_firstFrom_11 rfl (lv_at hl 1 rfl) ?_
    refine lv_iload_n hx hb dX7_firstFrom_12 rfl (lv_at hl 3 rfl) ?_
    obtain ⟨r2, u3, er2, h⟩ := bnd_at h
    refine cvI (rest := []) X K G (c_X7_mayBe er2) q_1092 my_X7_mayBe ⟨rfl, rfl⟩ ⟨Nat.le_of_ble_eq_true rfl, Nat.le_of_ble_eq_true rfl⟩ ⟨Nat.zero_le _, Nat.zero_le _⟩ 0 7 rfl rfl rfl rfl hl.1 rfl (Nat.le_of_ble_eq_true rfl) dX7_firstFrom_13 (fun H locs G => ?_)
    clear er2
    refine lv_if_eq (tgt := 21) hx hb dX7_firstFrom_16 (by decide) (fun c4 => ?_) (fun c4 => ?_)
    · have h := it_at c4 h
      obtain ⟨x5, ex5⟩ : ∃ z : Int32, z = v3 + (1 : Int32) := ⟨_, rfl⟩
      have h := nm_at ex5 h
      refine lv_iinc (v := x5) (lv' := [(3, .int x5), (0, .ref (ad 0)), (1, .int v1), (2, .int v2)]) hx hb dX7_firstFrom_21 hl (k := 3) rfl (by rw [ex5]; rfl) (by decide) rfl (fun ls hl => ?_)
      refine lv_goto (tgt := 2) hx hb dX7_firstFrom_24 (by decide) ?_
      exact hB _ _ _ _ (Option.some.inj h).symm _ _ _ G (lv_sub hl [1, 2, 3, 0] rfl)
    · have h := if_at c4 h
      refine lv_iload_n hx hb dX7_firstFrom_19 rfl (lv_at hl 3 rfl) ?_
      rw [hR _ _ (Option.some.inj h).symm]
      exact reI X G dX7_firstFrom_20
noncomputable def f_X7_firstFrom_L2_2s (q : Int32 × Int32 × Int32 × MS) : Option ((Int32 × Int32 × Int32 × MS) ⊕ ((Int32 × MS) ⊕ (MS))) := f_X7_firstFrom_L2_2 q.1 q.2.1 q.2.2.1 q.2.2.2
set_option maxRecDepth 100000 in
set_option maxHeartbeats 4000000 in
theorem w_X7_firstFrom_L2_2 (X : cx p s m args meth c cX7_firstFrom 4 RX7 (some .int)) (K : kx D cI cZ cQ adK adV A s s.heap) {e0 : (Int32 × MS) ⊕ (MS)} : ∀ (n : Nat) (v1 : Int32) (v2 : Int32) (v3 : Int32) (u : MS) {H : Heap} {locs : List Loc} {ls : Array Slot}, wh f_X7_firstFrom_L2_2s n (v1, v2, v3, u) = some e0 → wg D A s.heap H locs (wM cI ad u) → lv_has ls 4 [(0, .ref (ad 0)), (1, .int v1), (2, .int v2), (3, .int v3)] → (∀ (u : MS), e0 = .inr u → ∀ (H : Heap) (locs : List Loc) (ls : Array Slot), wg D A s.heap H locs (wM cI ad u) → lv_has ls 4 [] → W p l e { frames := 2, cells := 0, slots := 0, locals := 43 } s m args below meth c H locs 0 0 Q (F0 m 27 ls [])) → (∀ (r : Int32) (u : MS), e0 = .inl (r, u) → Q = (qI D A (wM cI ad) below args s r u)) → W p l e { frames := 2, cells := 0, slots := 0, locals := 43 } s m args below meth c H locs 0 0 Q (F0 m 2 ls []) := by
  intro n
  induction n with
  | zero => intro v1 v2 v3 u H locs ls h; cases h
  | succ n ih =>
    intro v1 v2 v3 u H locs ls h G hl hX hR
    obtain ⟨q, h1, h2, h3⟩ := wh_at h
    exact b_X7_firstFrom_L2_2 X K G hl (show f_X7_firstFrom_L2_2 v1 v2 v3 u = some q from h1) (fun b0 b1 b2 b3 ee H locs ls G hl => ih b0 b1 b2 b3 (h2 _ ee) G hl hX hR) (fun z0 ee => hX z0 (h3 _ ee).symm) (fun r u ee => hR r u (h3 _ ee).symm)
noncomputable def f_X7_firstFrom (a1 : Int32) (a2 : Int32) (u0 : MS) : Option (Int32 × MS) :=
  bne (wl f_X7_firstFrom_L2_2s (a1, a2, a2, u0)) (fun a => some a) fun b =>
    nmv b fun u3 =>
    some ((-1 : Int32), u3)
set_option maxRecDepth 100000 in
set_option maxHeartbeats 4000000 in
theorem c_X7_firstFrom {a1 : Int32} {a2 : Int32} {u0 : MS} {r : Int32} {u' : MS} (h : f_X7_firstFrom a1 a2 u0 = some (r, u')) : MI l D cI cZ cQ adK adV A yX7_firstFrom cX7_firstFrom 4 (some .int) { frames := 2, cells := 0, slots := 0, locals := 43 } [.ref (ad 0), .int a1, .int a2] (wM cI ad) u0 r u' := by
  unfold f_X7_firstFrom at h
  refine entI (by decide) (Nat.le_of_ble_eq_true rfl) (fun p e s m below meth c ls X K G hl => ?_)
  have hl : lv_has ls 4 [(0, .ref (ad 0)), (1, .int a1), (2, .int a2)] := hl
  obtain ⟨hx, hb, -⟩ := id X
  generalize hH : s.heap = H at G
  subst hH
  refine lv_iload_n hx hb dX7_firstFrom_0 rfl (lv_at hl 2 rfl) ?_
  refine lv_istore_n (lv' := [(3, .int a2), (0, .ref (ad 0)), (1, .int a1), (2, .int a2)]) hx hb dX7_firstFrom_1 rfl hl (by decide) rfl (fun ls hl => ?_)
  obtain ⟨q2, hq2, ha, hb1⟩ := bne_at h
  obtain ⟨n1, hn1⟩ := wl_iff.mp hq2
  refine w_X7_firstFrom_L2_2 X K n1 _ _ _ _ hn1 G (lv_sub hl [1, 2, 3, 0] rfl) (fun  u3 ee H locs ls G hl => ?_) (fun r u1 ee => by obtain ⟨rfl, rfl⟩ := pair_at (ha _ ee); rfl)
  have h := hb1 _ ee
  clear ee ha hb1 hq2 hn1
  have h := nm_at (x := u3) rfl h
  refine lv_iconst (v := -1) hx hb dX7_firstFrom_27 (by decide) ?_
  obtain ⟨rfl, rfl⟩ := pair_at h
  exact reI X G dX7_firstFrom_28
noncomputable def f_X7_firstNear_L2_2 (v1 : Int32) (v2 : Int32) (v3 : Int32) (u0 : MS) : Option ((Int32 × Int32 × Int32 × MS) ⊕ ((Int32 × MS) ⊕ (MS))) :=
  (if (v2 + (12 : Int32)) ≤ v3 then
    some (.inr (.inr u0))
  else
    bnd (f_X7_mayNear v1 v3 u0) fun r2 u3 =>
    (if r2 = 0 then
      nmv (v3 + (1 : Int32)) fun x5 =>
      some (.inl (v1, v2, x5, u3))
    else
      some (.inr (.inl (v3, u3)))))
set_option maxRecDepth 100000 in
set_option maxHeartbeats 4000000 in
theorem b_X7_firstNear_L2_2 (X : cx p s m args meth c cX7_firstNear 4 RX7 (some .int)) (K : kx D cI cZ cQ adK adV A s s.heap) {v1 : Int32} {v2 : Int32} {v3 : Int32} {u0 : MS} (G : wg D A s.heap H locs (wM cI ad u0)) (hl : lv_has ls 4 [(0, .ref (ad 0)), (1, .int v1), (2, .int v2), (3, .int v3)]) {q : ((Int32 × Int32 × Int32 × MS) ⊕ ((Int32 × MS) ⊕ (MS)))} (h : f_X7_firstNear_L2_2 v1 v2 v3 u0 = some q) (hB : ∀ (v1 : Int32) (v2 : Int32) (v3 : Int32) (u : MS), q = .inl (v1, v2, v3, u) → ∀ (H : Heap) (locs : List Loc) (ls : Array Slot), wg D A s.heap H locs (wM cI ad u) → lv_has ls 4 [(0, .ref (ad 0)), (1, .int v1), (2, .int v2), (3, .int v3)] → W p l e { frames := 3, cells := 0, slots := 0, locals := 65 } s m args below meth c H locs 0 0 Q (F0 m 2 ls [])) (hX : ∀ (u : MS), q = .inr (.inr u) → ∀ (H : Heap) (locs : List Loc) (ls : Array Slot), wg D A s.heap H locs (wM cI ad u) → lv_has ls 4 [] → W p l e { frames := 3, cells := 0, slots := 0, locals := 65 } s m args below meth c H locs 0 0 Q (F0 m 27 ls [])) (hR : ∀ (r : Int32) (u : MS), q = .inr (.inl (r, u)) → Q = (qI D A (wM cI ad) below args s r u)) : W p l e { frames := 3, cells := 0, slots := 0, locals := 65 } s m args below meth c H locs 0 0 Q (F0 m 2 ls []) := by
  unfold f_X7_firstNear_L2_2 at h
  obtain ⟨hx, hb, -⟩ := id X
  refine lv_iload_n hx hb dX7_firstNear_2 rfl (lv_at hl 3 rfl) ?_
  refine lv_iload_n hx hb dX7_firstNear_3 rfl (lv_at hl 2 rfl) ?_
  refine lv_bipush (v := 12) hx hb dX7_firstNear_4 (by decide) ?_
  refine lv_iadd hx hb dX7_firstNear_6 ?_
  refine lv_icmp_ge (tgt := 27) hx hb dX7_firstNear_7 (by decide) (fun c1 => ?_) (fun c1 => ?_)
  · have h := it_at c1 h
    exact hX _ (Option.some.inj h).symm _ _ _ G (lv_sub hl [] rfl)
  · have h := if_at c1 h
    refine lv_aload_n hx hb dX7_firstNear_10 rfl (lv_at hl 0 rfl) ?_
    refine lv_iload_n hx hb dX7_firstNear_11 rfl (lv_at hl 1 rfl) ?_
    refine lv_iload_n hx hb dX7_firstNear_12 rfl (lv_at hl 3 rfl) ?_
    obtain ⟨r2, u3, er2, h⟩ := bnd_at h
    refine cvI (rest := []) X K G (c_X7_mayNear er2) q_1099 my_X7_mayNear ⟨rfl, rfl⟩ ⟨Nat.le_of_ble_eq_true rfl, Nat.le_of_ble_eq_true rfl⟩ ⟨Nat.zero_le _, Nat.zero_le _⟩ 0 7 rfl rfl rfl rfl hl.1 rfl (Nat.le_of_ble_eq_true rfl) dX7_firstNear_13 (fun H locs G => ?_)
    clear er2
    refine lv_if_eq (tgt := 21) hx hb dX7_firstNear_16 (by decide) (fun c4 => ?_) (fun c4 => ?_)
    · have h := it_at c4 h
      obtain ⟨x5, ex5⟩ : ∃ z : Int32, z = v3 + (1 : Int32) := ⟨_, rfl⟩
      have h := nm_at ex5 h
      refine lv_iinc (v := x5) (lv' := [(3, .int x5), (0, .ref (ad 0)), (1, .int v1), (2, .int v2)]) hx hb dX7_firstNear_21 hl (k := 3) rfl (by rw [ex5]; rfl) (by decide) rfl (fun ls hl => ?_)
      refine lv_goto (tgt := 2) hx hb dX7_firstNear_24 (by decide) ?_
      exact hB _ _ _ _ (Option.some.inj h).symm _ _ _ G (lv_sub hl [1, 2, 3, 0] rfl)
    · have h := if_at c4 h
      refine lv_iload_n hx hb dX7_firstNear_19 rfl (lv_at hl 3 rfl) ?_
      rw [hR _ _ (Option.some.inj h).symm]
      exact reI X G dX7_firstNear_20
noncomputable def f_X7_firstNear_L2_2s (q : Int32 × Int32 × Int32 × MS) : Option ((Int32 × Int32 × Int32 × MS) ⊕ ((Int32 × MS) ⊕ (MS))) := f_X7_firstNear_L2_2 q.1 q.2.1 q.2.2.1 q.2.2.2
set_option maxRecDepth 100000 in
set_option maxHeartbeats 4000000 in
theorem w_X7_firstNear_L2_2 (X : cx p s m args meth c cX7_firstNear 4 RX7 (some .int)) (K : kx D cI cZ cQ adK adV A s s.heap) {e0 : (Int32 × MS) ⊕ (MS)} : ∀ (n : Nat) (v1 : Int32) (v2 : Int32) (v3 : Int32) (u : MS) {H : Heap} {locs : List Loc} {ls : Array Slot}, wh f_X7_firstNear_L2_2s n (v1, v2, v3, u) = some e0 → wg D A s.heap H locs (wM cI ad u) → lv_has ls 4 [(0, .ref (ad 0)), (1, .int v1), (2, .int v2), (3, .int v3)] → (∀ (u : MS), e0 = .inr u → ∀ (H : Heap) (locs : List Loc) (ls : Array Slot), wg D A s.heap H locs (wM cI ad u) → lv_has ls 4 [] → W p l e { frames := 3, cells := 0, slots := 0, locals := 65 } s m args below meth c H locs 0 0 Q (F0 m 27 ls [])) → (∀ (r : Int32) (u : MS), e0 = .inl (r, u) → Q = (qI D A (wM cI ad) below args s r u)) → W p l e { frames := 3, cells := 0, slots := 0, locals := 65 } s m args below meth c H locs 0 0 Q (F0 m 2 ls []) := by
  intro n
  induction n with
  | zero => intro v1 v2 v3 u H locs ls h; cases h
  | succ n ih =>
    intro v1 v2 v3 u H locs ls h G hl hX hR
    obtain ⟨q, h1, h2, h3⟩ := wh_at h
    exact b_X7_firstNear_L2_2 X K G hl (show f_X7_firstNear_L2_2 v1 v2 v3 u = some q from h1) (fun b0 b1 b2 b3 ee H locs ls G hl => ih b0 b1 b2 b3 (h2 _ ee) G hl hX hR) (fun z0 ee => hX z0 (h3 _ ee).symm) (fun r u ee => hR r u (h3 _ ee).symm)
noncomputable def f_X7_firstNear (a1 : Int32) (a2 : Int32) (u0 : MS) : Option (Int32 × MS) :=
  bne (wl f_X7_firstNear_L2_2s (a1, a2, a2, u0)) (fun a => some a) fun b =>
    nmv b fun u3 =>
    some ((-1 : Int32), u3)
set_option maxRecDepth 100000 in
set_option maxHeartbeats 4000000 in
theorem c_X7_firstNear {a1 : Int32} {a2 : Int32} {u0 : MS} {r : Int32} {u' : MS} (h : f_X7_firstNear a1 a2 u0 = some (r, u')) : MI l D cI cZ cQ adK adV A yX7_firstNear cX7_firstNear 4 (some .int) { frames := 3, cells := 0, slots := 0, locals := 65 } [.ref (ad 0), .int a1, .int a2] (wM cI ad) u0 r u' := by
  unfold f_X7_firstNear at h
  refine entI (by decide) (Nat.le_of_ble_eq_true rfl) (fun p e s m below meth c ls X K G hl => ?_)
  have hl : lv_has ls 4 [(0, .ref (ad 0)), (1, .int a1), (2, .int a2)] := hl
  obtain ⟨hx, hb, -⟩ := id X
  generalize hH : s.heap = H at G
  subst hH
  refine lv_iload_n hx hb dX7_firstNear_0 rfl (lv_at hl 2 rfl) ?_
  refine lv_istore_n (lv' := [(3, .int a2), (0, .ref (ad 0)), (1, .int a1), (2, .int a2)]) hx hb dX7_firstNear_1 rfl hl (by decide) rfl (fun ls hl => ?_)
  obtain ⟨q2, hq2, ha, hb1⟩ := bne_at h
  obtain ⟨n1, hn1⟩ := wl_iff.mp hq2
  refine w_X7_firstNear_L2_2 X K n1 _ _ _ _ hn1 G (lv_sub hl [1, 2, 3, 0] rfl) (fun  u3 ee H locs ls G hl => ?_) (fun r u1 ee => by obtain ⟨rfl, rfl⟩ := pair_at (ha _ ee); rfl)
  have h := hb1 _ ee
  clear ee ha hb1 hq2 hn1
  have h := nm_at (x := u3) rfl h
  refine lv_iconst (v := -1) hx hb dX7_firstNear_27 (by decide) ?_
  obtain ⟨rfl, rfl⟩ := pair_at h
  exact reI X G dX7_firstNear_28
noncomputable def f_X7_lesser (a0 : Int32) (a1 : Int32) (u0 : MS) : Option (Int32 × MS) :=
  (if 0 ≤ a0 then
    (if a1 < 0 then
      some (a0, u0)
    else
      (if a1 ≤ a0 then
        some (a1, u0)
      else
        some (a0, u0)))
  else
    some (a1, u0))
set_option maxRecDepth 100000 in
set_option maxHeartbeats 4000000 in
theorem c_X7_lesser {a0 : Int32} {a1 : Int32} {u0 : MS} {r : Int32} {u' : MS} (h : f_X7_lesser a0 a1 u0 = some (r, u')) : MI l D cI cZ cQ adK adV A yX7_lesser cX7_lesser 2 (some .int) { frames := 0, cells := 0, slots := 0, locals := 0 } [.int a0, .int a1] (wM cI ad) u0 r u' := by
  unfold f_X7_lesser at h
  refine entI (by decide) (Nat.le_of_ble_eq_true rfl) (fun p e s m below meth c ls X K G hl => ?_)
  have hl : lv_has ls 2 [(0, .int a0), (1, .int a1)] := hl
  obtain ⟨hx, hb, -⟩ := id X
  generalize hH : s.heap = H at G
  subst hH
  refine lv_iload_n hx hb dX7_lesser_0 rfl (lv_at hl 0 rfl) ?_
  refine lv_if_ge (tgt := 8) hx hb dX7_lesser_1 (by decide) (fun c1 => ?_) (fun c1 => ?_)
  · have h := it_at c1 h
    refine lv_iload_n hx hb dX7_lesser_8 rfl (lv_at hl 1 rfl) ?_
    refine lv_if_lt (tgt := 17) hx hb dX7_lesser_9 (by decide) (fun c2 => ?_) (fun c2 => ?_)
    · have h := it_at c2 h
      refine lv_iload_n hx hb dX7_lesser_17 rfl (lv_at hl 0 rfl) ?_
      refine lv_goto (tgt := 22) hx hb dX7_lesser_18 (by decide) ?_
      obtain ⟨rfl, rfl⟩ := pair_at h
      exact reI X G dX7_lesser_22
    · have h := if_at c2 h
      refine lv_iload_n hx hb dX7_lesser_12 rfl (lv_at hl 0 rfl) ?_
      refine lv_iload_n hx hb dX7_lesser_13 rfl (lv_at hl 1 rfl) ?_
      refine lv_icmp_ge (tgt := 21) hx hb dX7_lesser_14 (by decide) (fun c3 => ?_) (fun c3 => ?_)
      · have h := it_at c3 h
        refine lv_iload_n hx hb dX7_lesser_21 rfl (lv_at hl 1 rfl) ?_
        obtain ⟨rfl, rfl⟩ := pair_at h
        exact reI X G dX7_lesser_22
      · have h := if_at c3 h
        refine lv_iload_n hx hb dX7_lesser_17 rfl (lv_at hl 0 rfl) ?_
        refine lv_goto (tgt := 22) hx hb dX7_lesser_18 (by decide) ?_
        obtain ⟨rfl, rfl⟩ := pair_at h
        exact reI X G dX7_lesser_22
  · have h := if_at c1 h
    refine lv_iload_n hx hb dX7_lesser_4 rfl (lv_at hl 1 rfl) ?_
    refine lv_goto (tgt := 22) hx hb dX7_lesser_5 (by decide) ?_
    obtain ⟨rfl, rfl⟩ := pair_at h
    exact reI X G dX7_lesser_22
noncomputable def f_X7_begin (a1 : Int32) (u0 : MS) : Option (Int32 × MS) :=
  nmv ((m_m u0) (0 : Int32).toNatClampNeg) fun x1 =>
  nmv ((a1 + ((m_m u0) (0 : Int32).toNatClampNeg)) - (1 : Int32)) fun x2 =>
  if x1 = 0 then none else
  some ((x2 / x1) * ((m_m u0) (0 : Int32).toNatClampNeg), u0)
set_option maxRecDepth 100000 in
set_option maxHeartbeats 4000000 in
theorem c_X7_begin {a1 : Int32} {u0 : MS} {r : Int32} {u' : MS} (h : f_X7_begin a1 u0 = some (r, u')) : MI l D cI cZ cQ adK adV A yX7_begin cX7_begin 2 (some .int) { frames := 0, cells := 0, slots := 0, locals := 0 } [.ref (ad 0), .int a1] (wM cI ad) u0 r u' := by
  unfold f_X7_begin at h
  refine entI (by decide) (Nat.le_of_ble_eq_true rfl) (fun p e s m below meth c ls X K G hl => ?_)
  have hl : lv_has ls 2 [(0, .ref (ad 0)), (1, .int a1)] := hl
  obtain ⟨hx, hb, -⟩ := id X
  generalize hH : s.heap = H at G
  subst hH
  refine lv_iload_n hx hb dX7_begin_0 rfl (lv_at hl 1 rfl) ?_
  refine lv_aload_n hx hb dX7_begin_1 rfl (lv_at hl 0 rfl) ?_
  refine gM_0_0 X K G q_906 dX7_begin_2 ?_
  refine lv_iconst (v := 0) hx hb dX7_begin_5 (by decide) ?_
  refine lM_1 X K G (by decide) dX7_begin_6 ?_
  refine lv_iadd hx hb dX7_begin_7 ?_
  refine lv_iconst (v := 1) hx hb dX7_begin_8 (by decide) ?_
  refine lv_isub hx hb dX7_begin_9 ?_
  refine lv_aload_n hx hb dX7_begin_10 rfl (lv_at hl 0 rfl) ?_
  refine gM_0_0 X K G q_906 dX7_begin_11 ?_
  refine lv_iconst (v := 0) hx hb dX7_begin_14 (by decide) ?_
  refine lM_1 X K G (by decide) dX7_begin_15 ?_
  refine lv_topi (fun x1 ex1 => ?_)
  have h := nm_at ex1 h
  refine nm2 (fun x2 ex2 => ?_)
  have h := nm_at ex2 h
  obtain ⟨g3, h⟩ := ck_at h
  refine lv_idiv hx hb dX7_begin_16 g3 ?_
  refine lv_aload_n hx hb dX7_begin_17 rfl (lv_at hl 0 rfl) ?_
  refine gM_0_0 X K G q_906 dX7_begin_18 ?_
  refine lv_iconst (v := 0) hx hb dX7_begin_21 (by decide) ?_
  refine lM_1 X K G (by decide) dX7_begin_22 ?_
  refine lv_imul hx hb dX7_begin_23 ?_
  obtain ⟨rfl, rfl⟩ := pair_at h
  exact reI X G dX7_begin_24
noncomputable def f_X7_nextOf_23 (v1 : Int32) (v2 : Int32) (v3 : Int32) (v4 : Int32) (k1 : Int32) (k2 : Int32) (u0 : MS) : Option (Int32 × MS) :=
  bnd (f_X7_firstFrom k1 k2 u0) fun r1 u2 =>
  bnd (f_X7_firstFrom v4 v3 u2) fun r3 u4 =>
  bnd (f_X7_firstNear v4 (v3 + (1 : Int32)) u4) fun r5 u6 =>
  bnd (f_X7_lesser r3 r5 u6) fun r7 u8 =>
  bnd (f_X7_kindOf v1 u8) fun r9 u10 =>
  (if r9 = (1 : Int32) then
    bnd (f_X7_firstFrom v4 v3 u10) fun r17 u18 =>
    some (r17, u18)
  else
  (if r9 = (2 : Int32) then
    (if v2 = 0 then
      bnd (f_X7_begin v3 u10) fun r20 u21 =>
      bnd (f_X7_firstFrom v4 r20 u21) fun r22 u23 =>
      some (r22, u23)
    else
      some (r1, u10))
  else
  (if r9 = (3 : Int32) then
    (if v2 ≤ 0 then
      some (r1, u10)
    else
      bnd (f_X7_of v1 (v2 - (1 : Int32)) (0 : Int32) u10) fun r25 u26 =>
      (if r25 = v4 then
        some (v3, u26)
      else
        some (r1, u26)))
  else
  (if r9 = (4 : Int32) then
    some (r7, u10)
  else
  (if r9 = (5 : Int32) then
    bnd (f_X7_steps v1 u10) fun r28 u29 =>
    (if v2 = (r28 - (1 : Int32)) then
      bnd (f_X7_begin v3 u29) fun r31 u32 =>
      bnd (f_X7_lesser r7 r31 u32) fun r33 u34 =>
      some (r33, u34)
    else
      some (r7, u29))
  else
  (if r9 = (6 : Int32) then
    (if v2 = 0 then
      some (r1, u10)
    else
      bnd (f_X7_firstFrom v4 (v3 + (2 : Int32)) u10) fun r36 u37 =>
      some (r36, u37))
  else
  some (r1, u10)))))))
set_option maxRecDepth 100000 in
set_option maxHeartbeats 4000000 in
theorem b_X7_nextOf_23 (X : cx p s m args meth c cX7_nextOf 7 RX7 (some .int)) (K : kx D cI cZ cQ adK adV A s s.heap) {v1 : Int32} {v2 : Int32} {v3 : Int32} {v4 : Int32} {k1 : Int32} {k2 : Int32} {u0 : MS} (G : wg D A s.heap H locs (wM cI ad u0)) (hl : lv_has ls 7 [(0, .ref (ad 0)), (1, .int v1), (2, .int v2), (3, .int v3), (4, .int v4)]) {r : Int32} {u' : MS} (h : f_X7_nextOf_23 v1 v2 v3 v4 k1 k2 u0 = some (r, u')) : W p l e { frames := 4, cells := 0, slots := 0, locals := 88 } s m args below meth c H locs 0 0 (qI D A (wM cI ad) below args s r u') (F0 m 23 ls [.int k2, .int k1, .ref (ad 0)]) := by
  unfold f_X7_nextOf_23 at h
  obtain ⟨hx, hb, -⟩ := id X
  obtain ⟨r1, u2, er1, h⟩ := bnd_at h
  refine cvI (rest := []) X K G (c_X7_firstFrom er1) q_1159 my_X7_firstFrom ⟨rfl, rfl⟩ ⟨Nat.le_of_ble_eq_true rfl, Nat.le_of_ble_eq_true rfl⟩ ⟨Nat.zero_le _, Nat.zero_le _⟩ 0 7 rfl rfl rfl rfl hl.1 rfl (Nat.le_of_ble_eq_true rfl) dX7_nextOf_23 (fun H locs G => ?_)
  clear er1
  refine lv_istore (lv' := [(5, .int r1), (0, .ref (ad 0)), (1, .int v1), (2, .int v2), (3, .int v3), (4, .int v4)]) hx hb dX7_nextOf_26 hl (by decide) rfl (fun ls hl => ?_)
  refine lv_aload_n hx hb dX7_nextOf_28 rfl (lv_at hl 1 rfl) ?_
  refine lv_iload hx hb dX7_nextOf_29 (lv_at hl 5 rfl) ?_
  refine lv_iload_n hx hb dX7_nextOf_31 rfl (lv_at hl 4 rfl) ?_
  obtain ⟨r3, u4, er3, h⟩ := bnd_at h
  refine cvI (rest := []) X K G (c_X7_firstFrom er3) q_1159 my_X7_firstFrom ⟨rfl, rfl⟩ ⟨Nat.le_of_ble_eq_true rfl, Nat.le_of_ble_eq_true rfl⟩ ⟨Nat.zero_le _, Nat.zero_le _⟩ 0 7 rfl rfl rfl rfl hl.1 rfl (Nat.le_of_ble_eq_true rfl) dX7_nextOf_32 (fun H locs G => ?_)
  clear er3
  refine lv_aload_n hx hb dX7_nextOf_35 rfl (lv_at hl 1 rfl) ?_
  refine lv_iload hx hb dX7_nextOf_36 (lv_at hl 5 rfl) ?_
  refine lv_iload_n hx hb dX7_nextOf_38 rfl (lv_at hl 4 rfl) ?_
  refine lv_iconst (v := 1) hx hb dX7_nextOf_39 (by decide) ?_
  refine lv_iadd hx hb dX7_nextOf_40 ?_
  obtain ⟨r5, u6, er5, h⟩ := bnd_at h
  refine cvI (rest := [.int r3]) X K G (c_X7_firstNear er5) q_1163 my_X7_firstNear ⟨rfl, rfl⟩ ⟨Nat.le_of_ble_eq_true rfl, Nat.le_of_ble_eq_true rfl⟩ ⟨Nat.zero_le _, Nat.zero_le _⟩ 0 7 rfl rfl rfl rfl hl.1 rfl (Nat.le_of_ble_eq_true rfl) dX7_nextOf_41 (fun H locs G => ?_)
  clear er5
  obtain ⟨r7, u8, er7, h⟩ := bnd_at h
  refine csI (rest := []) X K G (c_X7_lesser er7) q_1167 my_X7_lesser ⟨rfl, rfl⟩ ⟨Nat.le_of_ble_eq_true rfl, Nat.le_of_ble_eq_true rfl⟩ ⟨Nat.zero_le _, Nat.zero_le _⟩ rfl hl.1 rfl (Nat.le_of_ble_eq_true rfl) dX7_nextOf_44 (fun H locs G => ?_)
  clear er7
  refine lv_istore (lv' := [(6, .int r7), (5, .int r1), (0, .ref (ad 0)), (1, .int v1), (2, .int v2), (3, .int v3), (4, .int v4)]) hx hb dX7_nextOf_47 hl (by decide) rfl (fun ls hl => ?_)
  refine lv_aload_n hx hb dX7_nextOf_49 rfl (lv_at hl 2 rfl) ?_
  refine lv_iload_n hx hb dX7_nextOf_50 rfl (lv_at hl 3 rfl) ?_
  obtain ⟨r9, u10, er9, h⟩ := bnd_at h
  refine cvI (rest := []) X K G (c_X7_kindOf er9) q_1130 my_X7_kindOf ⟨rfl, rfl⟩ ⟨Nat.le_of_ble_eq_true rfl, Nat.le_of_ble_eq_true rfl⟩ ⟨Nat.zero_le _, Nat.zero_le _⟩ 0 7 rfl rfl rfl rfl hl.1 rfl (Nat.le_of_ble_eq_true rfl) dX7_nextOf_51 (fun H locs G => ?_)
  clear er9
  by_cases c11 : r9 = (1 : Int32)
  · have h := it_at c11 h
    refine tswI X (1 : Int32) c11 dX7_nextOf_54 (off := 38) (tgt := 92) (by decide) ?_
    refine lv_aload_n hx hb dX7_nextOf_92 rfl (lv_at hl 2 rfl) ?_
    refine lv_iload hx hb dX7_nextOf_93 (lv_at hl 6 rfl) ?_
    refine lv_iload_n hx hb dX7_nextOf_95 rfl (lv_at hl 5 rfl) ?_
    obtain ⟨r17, u18, er17, h⟩ := bnd_at h
    refine cvI (rest := []) X K G (c_X7_firstFrom er17) q_1159 my_X7_firstFrom ⟨rfl, rfl⟩ ⟨Nat.le_of_ble_eq_true rfl, Nat.le_of_ble_eq_true rfl⟩ ⟨Nat.zero_le _, Nat.zero_le _⟩ 0 7 rfl rfl rfl rfl hl.1 rfl (Nat.le_of_ble_eq_true rfl) dX7_nextOf_96 (fun H locs G => ?_)
    clear er17
    obtain ⟨rfl, rfl⟩ := pair_at h
    exact reI X G dX7_nextOf_99
  have h := if_at c11 h
  by_cases c12 : r9 = (2 : Int32)
  · have h := it_at c12 h
    refine tswI X (2 : Int32) c12 dX7_nextOf_54 (off := 46) (tgt := 100) (by decide) ?_
    refine lv_iload_n hx hb dX7_nextOf_100 rfl (lv_at hl 4 rfl) ?_
    refine lv_if_ne (tgt := 118) hx hb dX7_nextOf_101 (by decide) (fun c19 => ?_) (fun c19 => ?_)
    · have h := if_at c19 h
      refine lv_iload hx hb dX7_nextOf_118 (lv_at hl 1 rfl) ?_
      obtain ⟨rfl, rfl⟩ := pair_at h
      exact reI X G dX7_nextOf_120
    · have h := it_at c19 h
      refine lv_aload_n hx hb dX7_nextOf_104 rfl (lv_at hl 2 rfl) ?_
      refine lv_iload hx hb dX7_nextOf_105 (lv_at hl 6 rfl) ?_
      refine lv_aload_n hx hb dX7_nextOf_107 rfl (lv_at hl 2 rfl) ?_
      refine lv_iload_n hx hb dX7_nextOf_108 rfl (lv_at hl 5 rfl) ?_
      obtain ⟨r20, u21, er20, h⟩ := bnd_at h
      refine cvI (rest := [.int v4, .ref (ad 0)]) X K G (c_X7_begin er20) q_1170 my_X7_begin ⟨rfl, rfl⟩ ⟨Nat.le_of_ble_eq_true rfl, Nat.le_of_ble_eq_true rfl⟩ ⟨Nat.zero_le _, Nat.zero_le _⟩ 0 7 rfl rfl rfl rfl hl.1 rfl (Nat.le_of_ble_eq_true rfl) dX7_nextOf_109 (fun H locs G => ?_)
      clear er20
      obtain ⟨r22, u23, er22, h⟩ := bnd_at h
      refine cvI (rest := []) X K G (c_X7_firstFrom er22) q_1159 my_X7_firstFrom ⟨rfl, rfl⟩ ⟨Nat.le_of_ble_eq_true rfl, Nat.le_of_ble_eq_true rfl⟩ ⟨Nat.zero_le _, Nat.zero_le _⟩ 0 7 rfl rfl rfl rfl hl.1 rfl (Nat.le_of_ble_eq_true rfl) dX7_nextOf_112 (fun H locs G => ?_)
      clear er22
      refine lv_goto (tgt := 120) hx hb dX7_nextOf_115 (by decide) ?_
      obtain ⟨rfl, rfl⟩ := pair_at h
      exact reI X G dX7_nextOf_120
  have h := if_at c12 h
  by_cases c13 : r9 = (3 : Int32)
  · have h := it_at c13 h
    refine tswI X (3 : Int32) c13 dX7_nextOf_54 (off := 67) (tgt := 121) (by decide) ?_
    refine lv_iload_n hx hb dX7_nextOf_121 rfl (lv_at hl 4 rfl) ?_
    refine lv_if_le (tgt := 143) hx hb dX7_nextOf_122 (by decide) (fun c24 => ?_) (fun c24 => ?_)
    · have h := it_at c24 h
      refine lv_iload hx hb dX7_nextOf_143 (lv_at hl 1 rfl) ?_
      obtain ⟨rfl, rfl⟩ := pair_at h
      exact reI X G dX7_nextOf_145
    · have h := if_at c24 h
      refine lv_aload_n hx hb dX7_nextOf_125 rfl (lv_at hl 2 rfl) ?_
      refine lv_iload_n hx hb dX7_nextOf_126 rfl (lv_at hl 3 rfl) ?_
      refine lv_iload_n hx hb dX7_nextOf_127 rfl (lv_at hl 4 rfl) ?_
      refine lv_iconst (v := 1) hx hb dX7_nextOf_128 (by decide) ?_
      refine lv_isub hx hb dX7_nextOf_129 ?_
      refine lv_iconst (v := 0) hx hb dX7_nextOf_130 (by decide) ?_
      obtain ⟨r25, u26, er25, h⟩ := bnd_at h
      refine cvI (rest := []) X K G (c_X7_of er25) q_1139 my_X7_of ⟨rfl, rfl⟩ ⟨Nat.le_of_ble_eq_true rfl, Nat.le_of_ble_eq_true rfl⟩ ⟨Nat.zero_le _, Nat.zero_le _⟩ 0 7 rfl rfl rfl rfl hl.1 rfl (Nat.le_of_ble_eq_true rfl) dX7_nextOf_131 (fun H locs G => ?_)
      clear er25
      refine lv_iload hx hb dX7_nextOf_134 (lv_at hl 6 rfl) ?_
      refine lv_icmp_ne (tgt := 143) hx hb dX7_nextOf_136 (by decide) (fun c27 => ?_) (fun c27 => ?_)
      · have h := if_at c27 h
        refine lv_iload hx hb dX7_nextOf_143 (lv_at hl 1 rfl) ?_
        obtain ⟨rfl, rfl⟩ := pair_at h
        exact reI X G dX7_nextOf_145
      · have h := it_at c27 h
        refine lv_iload_n hx hb dX7_nextOf_139 rfl (lv_at hl 5 rfl) ?_
        refine lv_goto (tgt := 145) hx hb dX7_nextOf_140 (by decide) ?_
        obtain ⟨rfl, rfl⟩ := pair_at h
        exact reI X G dX7_nextOf_145
  have h := if_at c13 h
  by_cases c14 : r9 = (4 : Int32)
  · have h := it_at c14 h
    refine tswI X (4 : Int32) c14 dX7_nextOf_54 (off := 92) (tgt := 146) (by decide) ?_
    refine lv_iload hx hb dX7_nextOf_146 (lv_at hl 0 rfl) ?_
    obtain ⟨rfl, rfl⟩ := pair_at h
    exact reI X G dX7_nextOf_148
  have h := if_at c14 h
  by_cases c15 : r9 = (5 : Int32)
  · have h := it_at c15 h
    refine tswI X (5 : Int32) c15 dX7_nextOf_54 (off := 95) (tgt := 149) (by decide) ?_
    refine lv_iload_n hx hb dX7_nextOf_149 rfl (lv_at hl 4 rfl) ?_
    refine lv_aload_n hx hb dX7_nextOf_150 rfl (lv_at hl 2 rfl) ?_
    refine lv_iload_n hx hb dX7_nextOf_151 rfl (lv_at hl 3 rfl) ?_
    obtain ⟨r28, u29, er28, h⟩ := bnd_at h
    refine cvI (rest := [.int v2]) X K G (c_X7_steps er28) q_1121 my_X7_steps ⟨rfl, rfl⟩ ⟨Nat.le_of_ble_eq_true rfl, Nat.le_of_ble_eq_true rfl⟩ ⟨Nat.zero_le _, Nat.zero_le _⟩ 0 7 rfl rfl rfl rfl hl.1 rfl (Nat.le_of_ble_eq_true rfl) dX7_nextOf_152 (fun H locs G => ?_)
    clear er28
    refine lv_iconst (v := 1) hx hb dX7_nextOf_155 (by decide) ?_
    refine lv_isub hx hb dX7_nextOf_156 ?_
    refine lv_icmp_ne (tgt := 173) hx hb dX7_nextOf_157 (by decide) (fun c30 => ?_) (fun c30 => ?_)
    · have h := if_at c30 h
      refine lv_iload hx hb dX7_nextOf_173 (lv_at hl 0 rfl) ?_
      obtain ⟨rfl, rfl⟩ := pair_at h
      exact reI X G dX7_nextOf_175
    · have h := it_at c30 h
      refine lv_iload hx hb dX7_nextOf_160 (lv_at hl 0 rfl) ?_
      refine lv_aload_n hx hb dX7_nextOf_162 rfl (lv_at hl 2 rfl) ?_
      refine lv_iload_n hx hb dX7_nextOf_163 rfl (lv_at hl 5 rfl) ?_
      obtain ⟨r31, u32, er31, h⟩ := bnd_at h
      refine cvI (rest := [.int r7]) X K G (c_X7_begin er31) q_1170 my_X7_begin ⟨rfl, rfl⟩ ⟨Nat.le_of_ble_eq_true rfl, Nat.le_of_ble_eq_true rfl⟩ ⟨Nat.zero_le _, Nat.zero_le _⟩ 0 7 rfl rfl rfl rfl hl.1 rfl (Nat.le_of_ble_eq_true rfl) dX7_nextOf_164 (fun H locs G => ?_)
      clear er31
      obtain ⟨r33, u34, er33, h⟩ := bnd_at h
      refine csI (rest := []) X K G (c_X7_lesser er33) q_1167 my_X7_lesser ⟨rfl, rfl⟩ ⟨Nat.le_of_ble_eq_true rfl, Nat.le_of_ble_eq_true rfl⟩ ⟨Nat.zero_le _, Nat.zero_le _⟩ rfl hl.1 rfl (Nat.le_of_ble_eq_true rfl) dX7_nextOf_167 (fun H locs G => ?_)
      clear er33
      refine lv_goto (tgt := 175) hx hb dX7_nextOf_170 (by decide) ?_
      obtain ⟨rfl, rfl⟩ := pair_at h
      exact reI X G dX7_nextOf_175
  have h := if_at c15 h
  by_cases c16 : r9 = (6 : Int32)
  · have h := it_at c16 h
    refine tswI X (6 : Int32) c16 dX7_nextOf_54 (off := 122) (tgt := 176) (by decide) ?_
    refine lv_iload_n hx hb dX7_nextOf_176 rfl (lv_at hl 4 rfl) ?_
    refine lv_if_ne (tgt := 185) hx hb dX7_nextOf_177 (by decide) (fun c35 => ?_) (fun c35 => ?_)
    · have h := if_at c35 h
      refine lv_aload_n hx hb dX7_nextOf_185 rfl (lv_at hl 2 rfl) ?_
      refine lv_iload hx hb dX7_nextOf_186 (lv_at hl 6 rfl) ?_
      refine lv_iload_n hx hb dX7_nextOf_188 rfl (lv_at hl 5 rfl) ?_
      refine lv_iconst (v := 2) hx hb dX7_nextOf_189 (by decide) ?_
      refine lv_iadd hx hb dX7_nextOf_190 ?_
      obtain ⟨r36, u37, er36, h⟩ := bnd_at h
      refine cvI (rest := []) X K G (c_X7_firstFrom er36) q_1159 my_X7_firstFrom ⟨rfl, rfl⟩ ⟨Nat.le_of_ble_eq_true rfl, Nat.le_of_ble_eq_true rfl⟩ ⟨Nat.zero_le _, Nat.zero_le _⟩ 0 7 rfl rfl rfl rfl hl.1 rfl (Nat.le_of_ble_eq_true rfl) dX7_nextOf_191 (fun H locs G => ?_)
      clear er36
      obtain ⟨rfl, rfl⟩ := pair_at h
      exact reI X G dX7_nextOf_194
    · have h := it_at c35 h
      refine lv_iload hx hb dX7_nextOf_180 (lv_at hl 1 rfl) ?_
      refine lv_goto (tgt := 194) hx hb dX7_nextOf_182 (by decide) ?_
      obtain ⟨rfl, rfl⟩ := pair_at h
      exact reI X G dX7_nextOf_194
  have h := if_at c16 h
  have tc11 := lv_neT (a := 1) c11 rfl
  have tc12 := lv_neT (a := 2) c12 rfl
  have tc13 := lv_neT (a := 3) c13 rfl
  have tc14 := lv_neT (a := 4) c14 rfl
  have tc15 := lv_neT (a := 5) c15 rfl
  have tc16 := lv_neT (a := 6) c16 rfl
  refine tswO X (by omega) dX7_nextOf_54 (tgt := 195) (by decide) ?_
  refine lv_iload hx hb dX7_nextOf_195 (lv_at hl 1 rfl) ?_
  obtain ⟨rfl, rfl⟩ := pair_at h
  exact reI X G dX7_nextOf_197
noncomputable def f_X7_nextOf (a1 : Int32) (a2 : Int32) (a3 : Int32) (u0 : MS) : Option (Int32 × MS) :=
  bnd (f_X7_of a1 a2 (0 : Int32) u0) fun r1 u2 =>
  (if a2 = 0 then
    f_X7_nextOf_23 a1 a2 a3 r1 r1 a3 u2
  else
    f_X7_nextOf_23 a1 a2 a3 r1 r1 (a3 + (1 : Int32)) u2)
set_option maxRecDepth 100000 in
set_option maxHeartbeats 4000000 in
theorem c_X7_nextOf {a1 : Int32} {a2 : Int32} {a3 : Int32} {u0 : MS} {r : Int32} {u' : MS} (h : f_X7_nextOf a1 a2 a3 u0 = some (r, u')) : MI l D cI cZ cQ adK adV A yX7_nextOf cX7_nextOf 7 (some .int) { frames := 4, cells := 0, slots := 0, locals := 88 } [.ref (ad 0), .int a1, .int a2, .int a3] (wM cI ad) u0 r u' := by
  unfold f_X7_nextOf at h
  refine entI (by decide) (Nat.le_of_ble_eq_true rfl) (fun p e s m below meth c ls X K G hl => ?_)
  have hl : lv_has ls 7 [(0, .ref (ad 0)), (1, .int a1), (2, .int a2), (3, .int a3)] := hl
  obtain ⟨hx, hb, -⟩ := id X
  generalize hH : s.heap = H at G
  subst hH
  refine lv_aload_n hx hb dX7_nextOf_0 rfl (lv_at hl 0 rfl) ?_
  refine lv_iload_n hx hb dX7_nextOf_1 rfl (lv_at hl 1 rfl) ?_
  refine lv_iload_n hx hb dX7_nextOf_2 rfl (lv_at hl 2 rfl) ?_
  refine lv_iconst (v := 0) hx hb dX7_nextOf_3 (by decide) ?_
  obtain ⟨r1, u2, er1, h⟩ := bnd_at h
  refine cvI (rest := []) X K G (c_X7_of er1) q_1139 my_X7_of ⟨rfl, rfl⟩ ⟨Nat.le_of_ble_eq_true rfl, Nat.le_of_ble_eq_true rfl⟩ ⟨Nat.zero_le _, Nat.zero_le _⟩ 0 7 rfl rfl rfl rfl hl.1 rfl (Nat.le_of_ble_eq_true rfl) dX7_nextOf_4 (fun H locs G => ?_)
  clear er1
  refine lv_istore (lv' := [(4, .int r1), (0, .ref (ad 0)), (1, .int a1), (2, .int a2), (3, .int a3)]) hx hb dX7_nextOf_7 hl (by decide) rfl (fun ls hl => ?_)
  refine lv_aload_n hx hb dX7_nextOf_9 rfl (lv_at hl 1 rfl) ?_
  refine lv_iload hx hb dX7_nextOf_10 (lv_at hl 0 rfl) ?_
  refine lv_iload_n hx hb dX7_nextOf_12 rfl (lv_at hl 3 rfl) ?_
  refine lv_if_ne (tgt := 20) hx hb dX7_nextOf_13 (by decide) (fun c3 => ?_) (fun c3 => ?_)
  · have h := if_at c3 h
    refine lv_iload_n hx hb dX7_nextOf_20 rfl (lv_at hl 4 rfl) ?_
    refine lv_iconst (v := 1) hx hb dX7_nextOf_21 (by decide) ?_
    refine lv_iadd hx hb dX7_nextOf_22 ?_
    exact b_X7_nextOf_23 X K G (lv_sub hl [1, 2, 3, 4, 0] rfl) h
  · have h := it_at c3 h
    refine lv_iload_n hx hb dX7_nextOf_16 rfl (lv_at hl 4 rfl) ?_
    refine lv_goto (tgt := 23) hx hb dX7_nextOf_17 (by decide) ?_
    exact b_X7_nextOf_23 X K G (lv_sub hl [1, 2, 3, 4, 0] rfl) h
noncomputable def f_X7_orNone (a1 : Int32) (u0 : MS) : Option (Int32 × MS) :=
  (if 0 ≤ a1 then
    some (a1, u0)
  else
    bnd (f_X7_finds (-1000004 : Int32) u0) fun r2 u3 =>
    some (r2, u3))
set_option maxRecDepth 100000 in
set_option maxHeartbeats 4000000 in
theorem c_X7_orNone {a1 : Int32} {u0 : MS} {r : Int32} {u' : MS} (h : f_X7_orNone a1 u0 = some (r, u')) : MI l D cI cZ cQ adK adV A yX7_orNone cX7_orNone 2 (some .int) { frames := 1, cells := 0, slots := 0, locals := 21 } [.ref (ad 0), .int a1] (wM cI ad) u0 r u' := by
  unfold f_X7_orNone at h
  refine entI (by decide) (Nat.le_of_ble_eq_true rfl) (fun p e s m below meth c ls X K G hl => ?_)
  have hl : lv_has ls 2 [(0, .ref (ad 0)), (1, .int a1)] := hl
  obtain ⟨hx, hb, -⟩ := id X
  generalize hH : s.heap = H at G
  subst hH
  refine lv_iload_n hx hb dX7_orNone_0 rfl (lv_at hl 1 rfl) ?_
  refine lv_if_ge (tgt := 13) hx hb dX7_orNone_1 (by decide) (fun c1 => ?_) (fun c1 => ?_)
  · have h := it_at c1 h
    refine lv_iload_n hx hb dX7_orNone_13 rfl (lv_at hl 1 rfl) ?_
    obtain ⟨rfl, rfl⟩ := pair_at h
    exact reI X G dX7_orNone_14
  · have h := if_at c1 h
    refine lv_aload_n hx hb dX7_orNone_4 rfl (lv_at hl 0 rfl) ?_
    refine lv_ldc (v := -1000004) hx hb X.2.2.2.1 (X.2.2.2.2.1 _ q_1178) dX7_orNone_5 ?_
    obtain ⟨r2, u3, er2, h⟩ := bnd_at h
    refine cvI (rest := []) X K G (c_X7_finds er2) q_976 my_X7_finds ⟨rfl, rfl⟩ ⟨Nat.le_of_ble_eq_true rfl, Nat.le_of_ble_eq_true rfl⟩ ⟨Nat.zero_le _, Nat.zero_le _⟩ 0 7 rfl rfl rfl rfl hl.1 rfl (Nat.le_of_ble_eq_true rfl) dX7_orNone_7 (fun H locs G => ?_)
    clear er2
    refine lv_goto (tgt := 14) hx hb dX7_orNone_10 (by decide) ?_
    obtain ⟨rfl, rfl⟩ := pair_at h
    exact reI X G dX7_orNone_14
noncomputable def f_X7_next (a1 : Int32) (a2 : Int32) (a3 : Int32) (u0 : MS) : Option (Int32 × MS) :=
  bnd (f_X7_isStep a1 a2 u0) fun r1 u2 =>
  (if r1 = 0 then
    bnd (f_X7_finds (-1000001 : Int32) u2) fun r4 u5 =>
    some (r4, u5)
  else
    bnd (f_X7_isDay a3 u2) fun r6 u7 =>
    (if r6 = 0 then
      bnd (f_X7_finds (-1000001 : Int32) u7) fun r9 u10 =>
      some (r9, u10)
    else
      bnd (f_X7_nextOf a1 a2 a3 u7) fun r11 u12 =>
      bnd (f_X7_orNone r11 u12) fun r13 u14 =>
      some (r13, u14)))
set_option maxRecDepth 100000 in
set_option maxHeartbeats 4000000 in
theorem c_X7_next {a1 : Int32} {a2 : Int32} {a3 : Int32} {u0 : MS} {r : Int32} {u' : MS} (h : f_X7_next a1 a2 a3 u0 = some (r, u')) : MI l D cI cZ cQ adK adV A yX7_next cX7_next 4 (some .int) { frames := 5, cells := 0, slots := 0, locals := 114 } [.ref (ad 0), .int a1, .int a2, .int a3] (wM cI ad) u0 r u' := by
  unfold f_X7_next at h
  refine entI (by decide) (Nat.le_of_ble_eq_true rfl) (fun p e s m below meth c ls X K G hl => ?_)
  have hl : lv_has ls 4 [(0, .ref (ad 0)), (1, .int a1), (2, .int a2), (3, .int a3)] := hl
  obtain ⟨hx, hb, -⟩ := id X
  generalize hH : s.heap = H at G
  subst hH
  refine lv_aload_n hx hb dX7_next_0 rfl (lv_at hl 0 rfl) ?_
  refine lv_iload_n hx hb dX7_next_1 rfl (lv_at hl 1 rfl) ?_
  refine lv_iload_n hx hb dX7_next_2 rfl (lv_at hl 2 rfl) ?_
  obtain ⟨r1, u2, er1, h⟩ := bnd_at h
  refine cvI (rest := []) X K G (c_X7_isStep er1) q_1134 my_X7_isStep ⟨rfl, rfl⟩ ⟨Nat.le_of_ble_eq_true rfl, Nat.le_of_ble_eq_true rfl⟩ ⟨Nat.zero_le _, Nat.zero_le _⟩ 0 7 rfl rfl rfl rfl hl.1 rfl (Nat.le_of_ble_eq_true rfl) dX7_next_3 (fun H locs G => ?_)
  clear er1
  refine lv_if_eq (tgt := 30) hx hb dX7_next_6 (by decide) (fun c3 => ?_) (fun c3 => ?_)
  · have h := it_at c3 h
    refine lv_aload_n hx hb dX7_next_30 rfl (lv_at hl 0 rfl) ?_
    refine lv_ldc (v := -1000001) hx hb X.2.2.2.1 (X.2.2.2.2.1 _ q_975) dX7_next_31 ?_
    obtain ⟨r4, u5, er4, h⟩ := bnd_at h
    refine cvI (rest := []) X K G (c_X7_finds er4) q_976 my_X7_finds ⟨rfl, rfl⟩ ⟨Nat.le_of_ble_eq_true rfl, Nat.le_of_ble_eq_true rfl⟩ ⟨Nat.zero_le _, Nat.zero_le _⟩ 0 7 rfl rfl rfl rfl hl.1 rfl (Nat.le_of_ble_eq_true rfl) dX7_next_33 (fun H locs G => ?_)
    clear er4
    obtain ⟨rfl, rfl⟩ := pair_at h
    exact reI X G dX7_next_36
  · have h := if_at c3 h
    refine lv_iload_n hx hb dX7_next_9 rfl (lv_at hl 3 rfl) ?_
    obtain ⟨r6, u7, er6, h⟩ := bnd_at h
    refine csI (rest := []) X K G (c_X7_isDay er6) q_1088 my_X7_isDay ⟨rfl, rfl⟩ ⟨Nat.le_of_ble_eq_true rfl, Nat.le_of_ble_eq_true rfl⟩ ⟨Nat.zero_le _, Nat.zero_le _⟩ rfl hl.1 rfl (Nat.le_of_ble_eq_true rfl) dX7_next_10 (fun H locs G => ?_)
    clear er6
    refine lv_if_eq (tgt := 30) hx hb dX7_next_13 (by decide) (fun c8 => ?_) (fun c8 => ?_)
    · have h := it_at c8 h
      refine lv_aload_n hx hb dX7_next_30 rfl (lv_at hl 0 rfl) ?_
      refine lv_ldc (v := -1000001) hx hb X.2.2.2.1 (X.2.2.2.2.1 _ q_975) dX7_next_31 ?_
      obtain ⟨r9, u10, er9, h⟩ := bnd_at h
      refine cvI (rest := []) X K G (c_X7_finds er9) q_976 my_X7_finds ⟨rfl, rfl⟩ ⟨Nat.le_of_ble_eq_true rfl, Nat.le_of_ble_eq_true rfl⟩ ⟨Nat.zero_le _, Nat.zero_le _⟩ 0 7 rfl rfl rfl rfl hl.1 rfl (Nat.le_of_ble_eq_true rfl) dX7_next_33 (fun H locs G => ?_)
      clear er9
      obtain ⟨rfl, rfl⟩ := pair_at h
      exact reI X G dX7_next_36
    · have h := if_at c8 h
      refine lv_aload_n hx hb dX7_next_16 rfl (lv_at hl 0 rfl) ?_
      refine lv_aload_n hx hb dX7_next_17 rfl (lv_at hl 0 rfl) ?_
      refine lv_iload_n hx hb dX7_next_18 rfl (lv_at hl 1 rfl) ?_
      refine lv_iload_n hx hb dX7_next_19 rfl (lv_at hl 2 rfl) ?_
      refine lv_iload_n hx hb dX7_next_20 rfl (lv_at hl 3 rfl) ?_
      obtain ⟨r11, u12, er11, h⟩ := bnd_at h
      refine cvI (rest := [.ref (ad 0)]) X K G (c_X7_nextOf er11) q_1155 my_X7_nextOf ⟨rfl, rfl⟩ ⟨Nat.le_of_ble_eq_true rfl, Nat.le_of_ble_eq_true rfl⟩ ⟨Nat.zero_le _, Nat.zero_le _⟩ 0 7 rfl rfl rfl rfl hl.1 rfl (Nat.le_of_ble_eq_true rfl) dX7_next_21 (fun H locs G => ?_)
      clear er11
      obtain ⟨r13, u14, er13, h⟩ := bnd_at h
      refine cvI (rest := []) X K G (c_X7_orNone er13) q_1174 my_X7_orNone ⟨rfl, rfl⟩ ⟨Nat.le_of_ble_eq_true rfl, Nat.le_of_ble_eq_true rfl⟩ ⟨Nat.zero_le _, Nat.zero_le _⟩ 0 7 rfl rfl rfl rfl hl.1 rfl (Nat.le_of_ble_eq_true rfl) dX7_next_24 (fun H locs G => ?_)
      clear er13
      refine lv_goto (tgt := 36) hx hb dX7_next_27 (by decide) ?_
      obtain ⟨rfl, rfl⟩ := pair_at h
      exact reI X G dX7_next_36
noncomputable def f_X7_runs_L5_53 (v1 : Int32) (v4 : Int32) (v5 : Int32) (u0 : MS) : Option ((Int32 × Int32 × Int32 × MS) ⊕ ((Int32 × MS) ⊕ (MS))) :=
  if v4 < 0 ∨ 8 ≤ v4.toNatClampNeg then none else
  nmv (mu_on u0 (upd (m_on u0) v4.toNatClampNeg v5)) fun u2 =>
  nmv (v4 + (1 : Int32)) fun x3 =>
  some (.inl (v1, v5, x3, u2))
set_option maxRecDepth 100000 in
set_option maxHeartbeats 4000000 in
theorem b_X7_runs_L5_53 (X : cx p s m args meth c cX7_runs 6 RX7 (some .int)) (K : kx D cI cZ cQ adK adV A s s.heap) {v1 : Int32} {v4 : Int32} {v5 : Int32} {u0 : MS} (G : wg D A s.heap H locs (wM cI ad u0)) (hl : lv_has ls 6 [(0, .ref (ad 0)), (1, .int v1), (4, .int v4), (5, .int v5)]) {q : ((Int32 × Int32 × Int32 × MS) ⊕ ((Int32 × MS) ⊕ (MS)))} (h : f_X7_runs_L5_53 v1 v4 v5 u0 = some q) (hB : ∀ (v1 : Int32) (v3 : Int32) (v4 : Int32) (u : MS), q = .inl (v1, v3, v4, u) → ∀ (H : Heap) (locs : List Loc) (ls : Array Slot), wg D A s.heap H locs (wM cI ad u) → lv_has ls 6 [(0, .ref (ad 0)), (1, .int v1), (3, .int v3), (4, .int v4)] → W p l e { frames := 5, cells := 0, slots := 0, locals := 114 } s m args below meth c H locs 0 0 Q (F0 m 5 ls [])) (hX : ∀ (u : MS), q = .inr (.inr u) → ∀ (H : Heap) (locs : List Loc) (ls : Array Slot), wg D A s.heap H locs (wM cI ad u) → lv_has ls 6 [] → W p l e { frames := 5, cells := 0, slots := 0, locals := 114 } s m args below meth c H locs 0 0 Q (F0 m 71 ls [])) (hR : ∀ (r : Int32) (u : MS), q = .inr (.inl (r, u)) → Q = (qI D A (wM cI ad) below args s r u)) : W p l e { frames := 5, cells := 0, slots := 0, locals := 114 } s m args below meth c H locs 0 0 Q (F0 m 53 ls []) := by
  unfold f_X7_runs_L5_53 at h
  obtain ⟨hx, hb, -⟩ := id X
  refine lv_aload_n hx hb dX7_runs_53 rfl (lv_at hl 0 rfl) ?_
  refine gM_0_12 X K G q_918 dX7_runs_54 ?_
  refine lv_iload hx hb dX7_runs_57 (lv_at hl 2 rfl) ?_
  refine lv_iload hx hb dX7_runs_59 (lv_at hl 3 rfl) ?_
  obtain ⟨g1, h⟩ := ck_at h
  refine aM_6 X K G g1 dX7_runs_61 (fun H locs G => ?_)
  obtain ⟨u2, eu2⟩ : ∃ z : MS, z = mu_on u0 (upd (m_on u0) v4.toNatClampNeg v5) := ⟨_, rfl⟩
  have G : wg D A s.heap H locs (wM cI ad u2) := by rw [eu2]; exact G
  have h := nm_at eu2 h
  clear eu2
  refine lv_iload hx hb dX7_runs_62 (lv_at hl 3 rfl) ?_
  refine lv_istore_n (lv' := [(3, .int v5), (0, .ref (ad 0)), (1, .int v1), (4, .int v4), (5, .int v5)]) hx hb dX7_runs_64 rfl hl (by decide) rfl (fun ls hl => ?_)
  obtain ⟨x3, ex3⟩ : ∃ z : Int32, z = v4 + (1 : Int32) := ⟨_, rfl⟩
  have h := nm_at ex3 h
  refine lv_iinc (v := x3) (lv' := [(4, .int x3), (3, .int v5), (0, .ref (ad 0)), (1, .int v1), (5, .int v5)]) hx hb dX7_runs_65 hl (k := 3) rfl (by rw [ex3]; rfl) (by decide) rfl (fun ls hl => ?_)
  refine lv_goto (tgt := 5) hx hb dX7_runs_68 (by decide) ?_
  exact hB _ _ _ _ (Option.some.inj h).symm _ _ _ G (lv_sub hl [2, 3, 1, 0] rfl)
noncomputable def f_X7_runs_L5_5 (v1 : Int32) (v3 : Int32) (v4 : Int32) (u0 : MS) : Option ((Int32 × Int32 × Int32 × MS) ⊕ ((Int32 × MS) ⊕ (MS))) :=
  bnd (f_X7_steps v1 u0) fun r1 u2 =>
  (if r1 ≤ v4 then
    some (.inr (.inr u2))
  else
    bnd (f_X7_nextOf v1 v4 v3 u2) fun r4 u5 =>
    (if r4 < 0 then
      some (.inr (.inl (v4, u5)))
    else
      (if v4 ≤ 0 then
        f_X7_runs_L5_53 v1 v4 r4 u5
      else
        bnd (f_X7_of v1 v4 (2 : Int32) u5) fun r8 u9 =>
        (if (r4 - v3) ≤ r8 then
          f_X7_runs_L5_53 v1 v4 r4 u9
        else
          some (.inr (.inl (v4, u9)))))))
set_option maxRecDepth 100000 in
set_option maxHeartbeats 4000000 in
theorem b_X7_runs_L5_5 (X : cx p s m args meth c cX7_runs 6 RX7 (some .int)) (K : kx D cI cZ cQ adK adV A s s.heap) {v1 : Int32} {v3 : Int32} {v4 : Int32} {u0 : MS} (G : wg D A s.heap H locs (wM cI ad u0)) (hl : lv_has ls 6 [(0, .ref (ad 0)), (1, .int v1), (3, .int v3), (4, .int v4)]) {q : ((Int32 × Int32 × Int32 × MS) ⊕ ((Int32 × MS) ⊕ (MS)))} (h : f_X7_runs_L5_5 v1 v3 v4 u0 = some q) (hB : ∀ (v1 : Int32) (v3 : Int32) (v4 : Int32) (u : MS), q = .inl (v1, v3, v4, u) → ∀ (H : Heap) (locs : List Loc) (ls : Array Slot), wg D A s.heap H locs (wM cI ad u) → lv_has ls 6 [(0, .ref (ad 0)), (1, .int v1), (3, .int v3), (4, .int v4)] → W p l e { frames := 5, cells := 0, slots := 0, locals := 114 } s m args below meth c H locs 0 0 Q (F0 m 5 ls [])) (hX : ∀ (u : MS), q = .inr (.inr u) → ∀ (H : Heap) (locs : List Loc) (ls : Array Slot), wg D A s.heap H locs (wM cI ad u) → lv_has ls 6 [] → W p l e { frames := 5, cells := 0, slots := 0, locals := 114 } s m args below meth c H locs 0 0 Q (F0 m 71 ls [])) (hR : ∀ (r : Int32) (u : MS), q = .inr (.inl (r, u)) → Q = (qI D A (wM cI ad) below args s r u)) : W p l e { frames := 5, cells := 0, slots := 0, locals := 114 } s m args below meth c H locs 0 0 Q (F0 m 5 ls []) := by
  unfold f_X7_runs_L5_5 at h
  obtain ⟨hx, hb, -⟩ := id X
  refine lv_iload hx hb dX7_runs_5 (lv_at hl 3 rfl) ?_
  refine lv_aload_n hx hb dX7_runs_7 rfl (lv_at hl 0 rfl) ?_
  refine lv_iload_n hx hb dX7_runs_8 rfl (lv_at hl 1 rfl) ?_
  obtain ⟨r1, u2, er1, h⟩ := bnd_at h
  refine cvI (rest := [.int v4]) X K G (c_X7_steps er1) q_1121 my_X7_steps ⟨rfl, rfl⟩ ⟨Nat.le_of_ble_eq_true rfl, Nat.le_of_ble_eq_true rfl⟩ ⟨Nat.zero_le _, Nat.zero_le _⟩ 0 7 rfl rfl rfl rfl hl.1 rfl (Nat.le_of_ble_eq_true rfl) dX7_runs_9 (fun H locs G => ?_)
  clear er1
  refine lv_icmp_ge (tgt := 71) hx hb dX7_runs_12 (by decide) (fun c3 => ?_) (fun c3 => ?_)
  · have h := it_at c3 h
    exact hX _ (Option.some.inj h).symm _ _ _ G (lv_sub hl [] rfl)
  · have h := if_at c3 h
    refine lv_aload_n hx hb dX7_runs_15 rfl (lv_at hl 0 rfl) ?_
    refine lv_iload_n hx hb dX7_runs_16 rfl (lv_at hl 1 rfl) ?_
    refine lv_iload hx hb dX7_runs_17 (lv_at hl 3 rfl) ?_
    refine lv_iload_n hx hb dX7_runs_19 rfl (lv_at hl 2 rfl) ?_
    obtain ⟨r4, u5, er4, h⟩ := bnd_at h
    refine cvI (rest := []) X K G (c_X7_nextOf er4) q_1155 my_X7_nextOf ⟨rfl, rfl⟩ ⟨Nat.le_of_ble_eq_true rfl, Nat.le_of_ble_eq_true rfl⟩ ⟨Nat.zero_le _, Nat.zero_le _⟩ 0 7 rfl rfl rfl rfl hl.1 rfl (Nat.le_of_ble_eq_true rfl) dX7_runs_20 (fun H locs G => ?_)
    clear er4
    refine lv_istore (lv' := [(5, .int r4), (0, .ref (ad 0)), (1, .int v1), (3, .int v3), (4, .int v4)]) hx hb dX7_runs_23 hl (by decide) rfl (fun ls hl => ?_)
    refine lv_iload hx hb dX7_runs_25 (lv_at hl 0 rfl) ?_
    refine lv_if_lt (tgt := 50) hx hb dX7_runs_27 (by decide) (fun c6 => ?_) (fun c6 => ?_)
    · have h := it_at c6 h
      refine lv_iload hx hb dX7_runs_50 (lv_at hl 4 rfl) ?_
      rw [hR _ _ (Option.some.inj h).symm]
      exact reI X G dX7_runs_52
    · have h := if_at c6 h
      refine lv_iload hx hb dX7_runs_30 (lv_at hl 4 rfl) ?_
      refine lv_if_le (tgt := 53) hx hb dX7_runs_32 (by decide) (fun c7 => ?_) (fun c7 => ?_)
      · have h := it_at c7 h
        exact b_X7_runs_L5_53 X K G (lv_sub hl [1, 2, 4, 0] rfl) h hB hX hR
      · have h := if_at c7 h
        refine lv_iload hx hb dX7_runs_35 (lv_at hl 0 rfl) ?_
        refine lv_iload_n hx hb dX7_runs_37 rfl (lv_at hl 3 rfl) ?_
        refine lv_isub hx hb dX7_runs_38 ?_
        refine lv_aload_n hx hb dX7_runs_39 rfl (lv_at hl 1 rfl) ?_
        refine lv_iload_n hx hb dX7_runs_40 rfl (lv_at hl 2 rfl) ?_
        refine lv_iload hx hb dX7_runs_41 (lv_at hl 4 rfl) ?_
        refine lv_iconst (v := 2) hx hb dX7_runs_43 (by decide) ?_
        obtain ⟨r8, u9, er8, h⟩ := bnd_at h
        refine cvI (rest := [.int (r4 - v3)]) X K G (c_X7_of er8) q_1139 my_X7_of ⟨rfl, rfl⟩ ⟨Nat.le_of_ble_eq_true rfl, Nat.le_of_ble_eq_true rfl⟩ ⟨Nat.zero_le _, Nat.zero_le _⟩ 0 7 rfl rfl rfl rfl hl.1 rfl (Nat.le_of_ble_eq_true rfl) dX7_runs_44 (fun H locs G => ?_)
        clear er8
        refine lv_icmp_le (tgt := 53) hx hb dX7_runs_47 (by decide) (fun c10 => ?_) (fun c10 => ?_)
        · have h := it_at c10 h
          exact b_X7_runs_L5_53 X K G (lv_sub hl [1, 2, 4, 0] rfl) h hB hX hR
        · have h := if_at c10 h
          refine lv_iload hx hb dX7_runs_50 (lv_at hl 4 rfl) ?_
          rw [hR _ _ (Option.some.inj h).symm]
          exact reI X G dX7_runs_52
noncomputable def f_X7_runs_L5_5s (q : Int32 × Int32 × Int32 × MS) : Option ((Int32 × Int32 × Int32 × MS) ⊕ ((Int32 × MS) ⊕ (MS))) := f_X7_runs_L5_5 q.1 q.2.1 q.2.2.1 q.2.2.2
set_option maxRecDepth 100000 in
set_option maxHeartbeats 4000000 in
theorem w_X7_runs_L5_5 (X : cx p s m args meth c cX7_runs 6 RX7 (some .int)) (K : kx D cI cZ cQ adK adV A s s.heap) {e0 : (Int32 × MS) ⊕ (MS)} : ∀ (n : Nat) (v1 : Int32) (v3 : Int32) (v4 : Int32) (u : MS) {H : Heap} {locs : List Loc} {ls : Array Slot}, wh f_X7_runs_L5_5s n (v1, v3, v4, u) = some e0 → wg D A s.heap H locs (wM cI ad u) → lv_has ls 6 [(0, .ref (ad 0)), (1, .int v1), (3, .int v3), (4, .int v4)] → (∀ (u : MS), e0 = .inr u → ∀ (H : Heap) (locs : List Loc) (ls : Array Slot), wg D A s.heap H locs (wM cI ad u) → lv_has ls 6 [] → W p l e { frames := 5, cells := 0, slots := 0, locals := 114 } s m args below meth c H locs 0 0 Q (F0 m 71 ls [])) → (∀ (r : Int32) (u : MS), e0 = .inl (r, u) → Q = (qI D A (wM cI ad) below args s r u)) → W p l e { frames := 5, cells := 0, slots := 0, locals := 114 } s m args below meth c H locs 0 0 Q (F0 m 5 ls []) := by
  intro n
  induction n with
  | zero => intro v1 v3 v4 u H locs ls h; cases h
  | succ n ih =>
    intro v1 v3 v4 u H locs ls h G hl hX hR
    obtain ⟨q, h1, h2, h3⟩ := wh_at h
    exact b_X7_runs_L5_5 X K G hl (show f_X7_runs_L5_5 v1 v3 v4 u = some q from h1) (fun b0 b1 b2 b3 ee H locs ls G hl => ih b0 b1 b2 b3 (h2 _ ee) G hl hX hR) (fun z0 ee => hX z0 (h3 _ ee).symm) (fun r u ee => hR r u (h3 _ ee).symm)
noncomputable def f_X7_runs (a1 : Int32) (a2 : Int32) (u0 : MS) : Option (Int32 × MS) :=
  bne (wl f_X7_runs_L5_5s (a1, a2, (0 : Int32), u0)) (fun a => some a) fun b =>
    nmv b fun u3 =>
    some ((-1 : Int32), u3)
set_option maxRecDepth 100000 in
set_option maxHeartbeats 4000000 in
theorem c_X7_runs {a1 : Int32} {a2 : Int32} {u0 : MS} {r : Int32} {u' : MS} (h : f_X7_runs a1 a2 u0 = some (r, u')) : MI l D cI cZ cQ adK adV A yX7_runs cX7_runs 6 (some .int) { frames := 5, cells := 0, slots := 0, locals := 114 } [.ref (ad 0), .int a1, .int a2] (wM cI ad) u0 r u' := by
  unfold f_X7_runs at h
  refine entI (by decide) (Nat.le_of_ble_eq_true rfl) (fun p e s m below meth c ls X K G hl => ?_)
  have hl : lv_has ls 6 [(0, .ref (ad 0)), (1, .int a1), (2, .int a2)] := hl
  obtain ⟨hx, hb, -⟩ := id X
  generalize hH : s.heap = H at G
  subst hH
  refine lv_iload_n hx hb dX7_runs_0 rfl (lv_at hl 2 rfl) ?_
  refine lv_istore_n (lv' := [(3, .int a2), (0, .ref (ad 0)), (1, .int a1), (2, .int a2)]) hx hb dX7_runs_1 rfl hl (by decide) rfl (fun ls hl => ?_)
  refine lv_iconst (v := 0) hx hb dX7_runs_2 (by decide) ?_
  refine lv_istore (lv' := [(4, .int (0 : Int32)), (3, .int a2), (0, .ref (ad 0)), (1, .int a1), (2, .int a2)]) hx hb dX7_runs_3 hl (by decide) rfl (fun ls hl => ?_)
  obtain ⟨q2, hq2, ha, hb1⟩ := bne_at h
  obtain ⟨n1, hn1⟩ := wl_iff.mp hq2
  refine w_X7_runs_L5_5 X K n1 _ _ _ _ hn1 G (lv_sub hl [2, 3, 1, 0] rfl) (fun  u3 ee H locs ls G hl => ?_) (fun r u1 ee => by obtain ⟨rfl, rfl⟩ := pair_at (ha _ ee); rfl)
  have h := hb1 _ ee
  clear ee ha hb1 hq2 hn1
  have h := nm_at (x := u3) rfl h
  refine lv_iconst (v := -1) hx hb dX7_runs_71 (by decide) ?_
  obtain ⟨rfl, rfl⟩ := pair_at h
  exact reI X G dX7_runs_72
noncomputable def f_X7_run (a1 : Int32) (a2 : Int32) (a3 : Int32) (u0 : MS) : Option (Int32 × MS) :=
  bnd (f_X7_isStep a1 a3 u0) fun r1 u2 =>
  (if r1 = 0 then
    bnd (f_X7_finds (-1000001 : Int32) u2) fun r4 u5 =>
    some (r4, u5)
  else
    bnd (f_X7_isDay a2 u2) fun r6 u7 =>
    (if r6 = 0 then
      bnd (f_X7_finds (-1000001 : Int32) u7) fun r15 u16 =>
      some (r15, u16)
    else
      bnd (f_X7_runs a1 a2 u7) fun r9 u10 =>
      (if r9 < 0 then
        if a3 < 0 ∨ 8 ≤ a3.toNatClampNeg then none else
        some ((m_on u10) a3.toNatClampNeg, u10)
      else
        bnd (f_X7_finds (-1000004 : Int32) u10) fun r13 u14 =>
        some (r13, u14))))
set_option maxRecDepth 100000 in
set_option maxHeartbeats 4000000 in
theorem c_X7_run {a1 : Int32} {a2 : Int32} {a3 : Int32} {u0 : MS} {r : Int32} {u' : MS} (h : f_X7_run a1 a2 a3 u0 = some (r, u')) : MI l D cI cZ cQ adK adV A yX7_run cX7_run 4 (some .int) { frames := 6, cells := 0, slots := 0, locals := 139 } [.ref (ad 0), .int a1, .int a2, .int a3] (wM cI ad) u0 r u' := by
  unfold f_X7_run at h
  refine entI (by decide) (Nat.le_of_ble_eq_true rfl) (fun p e s m below meth c ls X K G hl => ?_)
  have hl : lv_has ls 4 [(0, .ref (ad 0)), (1, .int a1), (2, .int a2), (3, .int a3)] := hl
  obtain ⟨hx, hb, -⟩ := id X
  generalize hH : s.heap = H at G
  subst hH
  refine lv_aload_n hx hb dX7_run_0 rfl (lv_at hl 0 rfl) ?_
  refine lv_iload_n hx hb dX7_run_1 rfl (lv_at hl 1 rfl) ?_
  refine lv_iload_n hx hb dX7_run_2 rfl (lv_at hl 3 rfl) ?_
  obtain ⟨r1, u2, er1, h⟩ := bnd_at h
  refine cvI (rest := []) X K G (c_X7_isStep er1) q_1134 my_X7_isStep ⟨rfl, rfl⟩ ⟨Nat.le_of_ble_eq_true rfl, Nat.le_of_ble_eq_true rfl⟩ ⟨Nat.zero_le _, Nat.zero_le _⟩ 0 7 rfl rfl rfl rfl hl.1 rfl (Nat.le_of_ble_eq_true rfl) dX7_run_3 (fun H locs G => ?_)
  clear er1
  refine lv_if_eq (tgt := 16) hx hb dX7_run_6 (by decide) (fun c3 => ?_) (fun c3 => ?_)
  · have h := it_at c3 h
    refine lv_aload_n hx hb dX7_run_16 rfl (lv_at hl 0 rfl) ?_
    refine lv_ldc (v := -1000001) hx hb X.2.2.2.1 (X.2.2.2.2.1 _ q_975) dX7_run_17 ?_
    obtain ⟨r4, u5, er4, h⟩ := bnd_at h
    refine cvI (rest := []) X K G (c_X7_finds er4) q_976 my_X7_finds ⟨rfl, rfl⟩ ⟨Nat.le_of_ble_eq_true rfl, Nat.le_of_ble_eq_true rfl⟩ ⟨Nat.zero_le _, Nat.zero_le _⟩ 0 7 rfl rfl rfl rfl hl.1 rfl (Nat.le_of_ble_eq_true rfl) dX7_run_19 (fun H locs G => ?_)
    clear er4
    obtain ⟨rfl, rfl⟩ := pair_at h
    exact reI X G dX7_run_22
  · have h := if_at c3 h
    refine lv_iload_n hx hb dX7_run_9 rfl (lv_at hl 2 rfl) ?_
    obtain ⟨r6, u7, er6, h⟩ := bnd_at h
    refine csI (rest := []) X K G (c_X7_isDay er6) q_1088 my_X7_isDay ⟨rfl, rfl⟩ ⟨Nat.le_of_ble_eq_true rfl, Nat.le_of_ble_eq_true rfl⟩ ⟨Nat.zero_le _, Nat.zero_le _⟩ rfl hl.1 rfl (Nat.le_of_ble_eq_true rfl) dX7_run_10 (fun H locs G => ?_)
    clear er6
    refine lv_if_ne (tgt := 23) hx hb dX7_run_13 (by decide) (fun c8 => ?_) (fun c8 => ?_)
    · have h := if_at c8 h
      refine lv_aload_n hx hb dX7_run_23 rfl (lv_at hl 0 rfl) ?_
      refine lv_iload_n hx hb dX7_run_24 rfl (lv_at hl 1 rfl) ?_
      refine lv_iload_n hx hb dX7_run_25 rfl (lv_at hl 2 rfl) ?_
      obtain ⟨r9, u10, er9, h⟩ := bnd_at h
      refine cvI (rest := []) X K G (c_X7_runs er9) q_1183 my_X7_runs ⟨rfl, rfl⟩ ⟨Nat.le_of_ble_eq_true rfl, Nat.le_of_ble_eq_true rfl⟩ ⟨Nat.zero_le _, Nat.zero_le _⟩ 0 7 rfl rfl rfl rfl hl.1 rfl (Nat.le_of_ble_eq_true rfl) dX7_run_26 (fun H locs G => ?_)
      clear er9
      refine lv_if_lt (tgt := 41) hx hb dX7_run_29 (by decide) (fun c11 => ?_) (fun c11 => ?_)
      · have h := it_at c11 h
        refine lv_aload_n hx hb dX7_run_41 rfl (lv_at hl 0 rfl) ?_
        refine gM_0_12 X K G q_918 dX7_run_42 ?_
        refine lv_iload_n hx hb dX7_run_45 rfl (lv_at hl 3 rfl) ?_
        obtain ⟨g12, h⟩ := ck_at h
        refine lM_6 X K G g12 dX7_run_46 ?_
        obtain ⟨rfl, rfl⟩ := pair_at h
        exact reI X G dX7_run_47
      · have h := if_at c11 h
        refine lv_aload_n hx hb dX7_run_32 rfl (lv_at hl 0 rfl) ?_
        refine lv_ldc (v := -1000004) hx hb X.2.2.2.1 (X.2.2.2.2.1 _ q_1178) dX7_run_33 ?_
        obtain ⟨r13, u14, er13, h⟩ := bnd_at h
        refine cvI (rest := []) X K G (c_X7_finds er13) q_976 my_X7_finds ⟨rfl, rfl⟩ ⟨Nat.le_of_ble_eq_true rfl, Nat.le_of_ble_eq_true rfl⟩ ⟨Nat.zero_le _, Nat.zero_le _⟩ 0 7 rfl rfl rfl rfl hl.1 rfl (Nat.le_of_ble_eq_true rfl) dX7_run_35 (fun H locs G => ?_)
        clear er13
        refine lv_goto (tgt := 47) hx hb dX7_run_38 (by decide) ?_
        obtain ⟨rfl, rfl⟩ := pair_at h
        exact reI X G dX7_run_47
    · have h := it_at c8 h
      refine lv_aload_n hx hb dX7_run_16 rfl (lv_at hl 0 rfl) ?_
      refine lv_ldc (v := -1000001) hx hb X.2.2.2.1 (X.2.2.2.2.1 _ q_975) dX7_run_17 ?_
      obtain ⟨r15, u16, er15, h⟩ := bnd_at h
      refine cvI (rest := []) X K G (c_X7_finds er15) q_976 my_X7_finds ⟨rfl, rfl⟩ ⟨Nat.le_of_ble_eq_true rfl, Nat.le_of_ble_eq_true rfl⟩ ⟨Nat.zero_le _, Nat.zero_le _⟩ 0 7 rfl rfl rfl rfl hl.1 rfl (Nat.le_of_ble_eq_true rfl) dX7_run_19 (fun H locs G => ?_)
      clear er15
      obtain ⟨rfl, rfl⟩ := pair_at h
      exact reI X G dX7_run_22
noncomputable def f_X7_spoils (a1 : Int32) (a2 : Int32) (u0 : MS) : Option (Int32 × MS) :=
  bnd (f_X7_isThing a1 u0) fun r1 u2 =>
  (if r1 = 0 then
    bnd (f_X7_finds (-1000001 : Int32) u2) fun r4 u5 =>
    some (r4, u5)
  else
    bnd (f_X7_isDay a2 u2) fun r6 u7 =>
    (if r6 = 0 then
      bnd (f_X7_finds (-1000001 : Int32) u7) fun r9 u10 =>
      some (r9, u10)
    else
      bnd (f_X7_runs a1 a2 u7) fun r11 u12 =>
      bnd (f_X7_orNone r11 u12) fun r13 u14 =>
      some (r13, u14)))
set_option maxRecDepth 100000 in
set_option maxHeartbeats 4000000 in
theorem c_X7_spoils {a1 : Int32} {a2 : Int32} {u0 : MS} {r : Int32} {u' : MS} (h : f_X7_spoils a1 a2 u0 = some (r, u')) : MI l D cI cZ cQ adK adV A yX7_spoils cX7_spoils 3 (some .int) { frames := 6, cells := 0, slots := 0, locals := 139 } [.ref (ad 0), .int a1, .int a2] (wM cI ad) u0 r u' := by
  unfold f_X7_spoils at h
  refine entI (by decide) (Nat.le_of_ble_eq_true rfl) (fun p e s m below meth c ls X K G hl => ?_)
  have hl : lv_has ls 3 [(0, .ref (ad 0)), (1, .int a1), (2, .int a2)] := hl
  obtain ⟨hx, hb, -⟩ := id X
  generalize hH : s.heap = H at G
  subst hH
  refine lv_aload_n hx hb dX7_spoils_0 rfl (lv_at hl 0 rfl) ?_
  refine lv_iload_n hx hb dX7_spoils_1 rfl (lv_at hl 1 rfl) ?_
  obtain ⟨r1, u2, er1, h⟩ := bnd_at h
  refine cvI (rest := []) X K G (c_X7_isThing er1) q_1116 my_X7_isThing ⟨rfl, rfl⟩ ⟨Nat.le_of_ble_eq_true rfl, Nat.le_of_ble_eq_true rfl⟩ ⟨Nat.zero_le _, Nat.zero_le _⟩ 0 7 rfl rfl rfl rfl hl.1 rfl (Nat.le_of_ble_eq_true rfl) dX7_spoils_2 (fun H locs G => ?_)
  clear er1
  refine lv_if_eq (tgt := 28) hx hb dX7_spoils_5 (by decide) (fun c3 => ?_) (fun c3 => ?_)
  · have h := it_at c3 h
    refine lv_aload_n hx hb dX7_spoils_28 rfl (lv_at hl 0 rfl) ?_
    refine lv_ldc (v := -1000001) hx hb X.2.2.2.1 (X.2.2.2.2.1 _ q_975) dX7_spoils_29 ?_
    obtain ⟨r4, u5, er4, h⟩ := bnd_at h
    refine cvI (rest := []) X K G (c_X7_finds er4) q_976 my_X7_finds ⟨rfl, rfl⟩ ⟨Nat.le_of_ble_eq_true rfl, Nat.le_of_ble_eq_true rfl⟩ ⟨Nat.zero_le _, Nat.zero_le _⟩ 0 7 rfl rfl rfl rfl hl.1 rfl (Nat.le_of_ble_eq_true rfl) dX7_spoils_31 (fun H locs G => ?_)
    clear er4
    obtain ⟨rfl, rfl⟩ := pair_at h
    exact reI X G dX7_spoils_34
  · have h := if_at c3 h
    refine lv_iload_n hx hb dX7_spoils_8 rfl (lv_at hl 2 rfl) ?_
    obtain ⟨r6, u7, er6, h⟩ := bnd_at h
    refine csI (rest := []) X K G (c_X7_isDay er6) q_1088 my_X7_isDay ⟨rfl, rfl⟩ ⟨Nat.le_of_ble_eq_true rfl, Nat.le_of_ble_eq_true rfl⟩ ⟨Nat.zero_le _, Nat.zero_le _⟩ rfl hl.1 rfl (Nat.le_of_ble_eq_true rfl) dX7_spoils_9 (fun H locs G => ?_)
    clear er6
    refine lv_if_eq (tgt := 28) hx hb dX7_spoils_12 (by decide) (fun c8 => ?_) (fun c8 => ?_)
    · have h := it_at c8 h
      refine lv_aload_n hx hb dX7_spoils_28 rfl (lv_at hl 0 rfl) ?_
      refine lv_ldc (v := -1000001) hx hb X.2.2.2.1 (X.2.2.2.2.1 _ q_975) dX7_spoils_29 ?_
      obtain ⟨r9, u10, er9, h⟩ := bnd_at h
      refine cvI (rest := []) X K G (c_X7_finds er9) q_976 my_X7_finds ⟨rfl, rfl⟩ ⟨Nat.le_of_ble_eq_true rfl, Nat.le_of_ble_eq_true rfl⟩ ⟨Nat.zero_le _, Nat.zero_le _⟩ 0 7 rfl rfl rfl rfl hl.1 rfl (Nat.le_of_ble_eq_true rfl) dX7_spoils_31 (fun H locs G => ?_)
      clear er9
      obtain ⟨rfl, rfl⟩ := pair_at h
      exact reI X G dX7_spoils_34
    · have h := if_at c8 h
      refine lv_aload_n hx hb dX7_spoils_15 rfl (lv_at hl 0 rfl) ?_
      refine lv_aload_n hx hb dX7_spoils_16 rfl (lv_at hl 0 rfl) ?_
      refine lv_iload_n hx hb dX7_spoils_17 rfl (lv_at hl 1 rfl) ?_
      refine lv_iload_n hx hb dX7_spoils_18 rfl (lv_at hl 2 rfl) ?_
      obtain ⟨r11, u12, er11, h⟩ := bnd_at h
      refine cvI (rest := [.ref (ad 0)]) X K G (c_X7_runs er11) q_1183 my_X7_runs ⟨rfl, rfl⟩ ⟨Nat.le_of_ble_eq_true rfl, Nat.le_of_ble_eq_true rfl⟩ ⟨Nat.zero_le _, Nat.zero_le _⟩ 0 7 rfl rfl rfl rfl hl.1 rfl (Nat.le_of_ble_eq_true rfl) dX7_spoils_19 (fun H locs G => ?_)
      clear er11
      obtain ⟨r13, u14, er13, h⟩ := bnd_at h
      refine cvI (rest := []) X K G (c_X7_orNone er13) q_1174 my_X7_orNone ⟨rfl, rfl⟩ ⟨Nat.le_of_ble_eq_true rfl, Nat.le_of_ble_eq_true rfl⟩ ⟨Nat.zero_le _, Nat.zero_le _⟩ 0 7 rfl rfl rfl rfl hl.1 rfl (Nat.le_of_ble_eq_true rfl) dX7_spoils_22 (fun H locs G => ?_)
      clear er13
      refine lv_goto (tgt := 34) hx hb dX7_spoils_25 (by decide) ?_
      obtain ⟨rfl, rfl⟩ := pair_at h
      exact reI X G dX7_spoils_34
noncomputable def f_X7_beginsAt_L2_2 (v1 : Int32) (v2 : Int32) (v3 : Int32) (u0 : MS) : Option ((Int32 × Int32 × Int32 × MS) ⊕ ((Int32 × MS) ⊕ (MS))) :=
  (if (v2 + (200 : Int32)) < v3 then
    some (.inr (.inr u0))
  else
    bnd (f_X7_runs v1 v3 u0) fun r2 u3 =>
    (if 0 ≤ r2 then
      nmv (v3 + (1 : Int32)) fun x5 =>
      some (.inl (v1, v2, x5, u3))
    else
      some (.inr (.inl (v3, u3)))))
set_option maxRecDepth 100000 in
set_option maxHeartbeats 4000000 in
theorem b_X7_beginsAt_L2_2 (X : cx p s m args meth c cX7_beginsAt 4 RX7 (some .int)) (K : kx D cI cZ cQ adK adV A s s.heap) {v1 : Int32} {v2 : Int32} {v3 : Int32} {u0 : MS} (G : wg D A s.heap H locs (wM cI ad u0)) (hl : lv_has ls 4 [(0, .ref (ad 0)), (1, .int v1), (2, .int v2), (3, .int v3)]) {q : ((Int32 × Int32 × Int32 × MS) ⊕ ((Int32 × MS) ⊕ (MS)))} (h : f_X7_beginsAt_L2_2 v1 v2 v3 u0 = some q) (hB : ∀ (v1 : Int32) (v2 : Int32) (v3 : Int32) (u : MS), q = .inl (v1, v2, v3, u) → ∀ (H : Heap) (locs : List Loc) (ls : Array Slot), wg D A s.heap H locs (wM cI ad u) → lv_has ls 4 [(0, .ref (ad 0)), (1, .int v1), (2, .int v2), (3, .int v3)] → W p l e { frames := 6, cells := 0, slots := 0, locals := 139 } s m args below meth c H locs 0 0 Q (F0 m 2 ls [])) (hX : ∀ (u : MS), q = .inr (.inr u) → ∀ (H : Heap) (locs : List Loc) (ls : Array Slot), wg D A s.heap H locs (wM cI ad u) → lv_has ls 4 [] → W p l e { frames := 6, cells := 0, slots := 0, locals := 139 } s m args below meth c H locs 0 0 Q (F0 m 28 ls [])) (hR : ∀ (r : Int32) (u : MS), q = .inr (.inl (r, u)) → Q = (qI D A (wM cI ad) below args s r u)) : W p l e { frames := 6, cells := 0, slots := 0, locals := 139 } s m args below meth c H locs 0 0 Q (F0 m 2 ls []) := by
  unfold f_X7_beginsAt_L2_2 at h
  obtain ⟨hx, hb, -⟩ := id X
  refine lv_iload_n hx hb dX7_beginsAt_2 rfl (lv_at hl 3 rfl) ?_
  refine lv_iload_n hx hb dX7_beginsAt_3 rfl (lv_at hl 2 rfl) ?_
  refine lv_sipush (v := 200) hx hb dX7_beginsAt_4 (by decide) ?_
  refine lv_iadd hx hb dX7_beginsAt_7 ?_
  refine lv_icmp_gt (tgt := 28) hx hb dX7_beginsAt_8 (by decide) (fun c1 => ?_) (fun c1 => ?_)
  · have h := it_at c1 h
    exact hX _ (Option.some.inj h).symm _ _ _ G (lv_sub hl [] rfl)
  · have h := if_at c1 h
    refine lv_aload_n hx hb dX7_beginsAt_11 rfl (lv_at hl 0 rfl) ?_
    refine lv_iload_n hx hb dX7_beginsAt_12 rfl (lv_at hl 1 rfl) ?_
    refine lv_iload_n hx hb dX7_beginsAt_13 rfl (lv_at hl 3 rfl) ?_
    obtain ⟨r2, u3, er2, h⟩ := bnd_at h
    refine cvI (rest := []) X K G (c_X7_runs er2) q_1183 my_X7_runs ⟨rfl, rfl⟩ ⟨Nat.le_of_ble_eq_true rfl, Nat.le_of_ble_eq_true rfl⟩ ⟨Nat.zero_le _, Nat.zero_le _⟩ 0 7 rfl rfl rfl rfl hl.1 rfl (Nat.le_of_ble_eq_true rfl) dX7_beginsAt_14 (fun H locs G => ?_)
    clear er2
    refine lv_if_ge (tgt := 22) hx hb dX7_beginsAt_17 (by decide) (fun c4 => ?_) (fun c4 => ?_)
    · have h := it_at c4 h
      obtain ⟨x5, ex5⟩ : ∃ z : Int32, z = v3 + (1 : Int32) := ⟨_, rfl⟩
      have h := nm_at ex5 h
      refine lv_iinc (v := x5) (lv' := [(3, .int x5), (0, .ref (ad 0)), (1, .int v1), (2, .int v2)]) hx hb dX7_beginsAt_22 hl (k := 3) rfl (by rw [ex5]; rfl) (by decide) rfl (fun ls hl => ?_)
      refine lv_goto (tgt := 2) hx hb dX7_beginsAt_25 (by decide) ?_
      exact hB _ _ _ _ (Option.some.inj h).symm _ _ _ G (lv_sub hl [1, 2, 3, 0] rfl)
    · have h := if_at c4 h
      refine lv_iload_n hx hb dX7_beginsAt_20 rfl (lv_at hl 3 rfl) ?_
      rw [hR _ _ (Option.some.inj h).symm]
      exact reI X G dX7_beginsAt_21
noncomputable def f_X7_beginsAt_L2_2s (q : Int32 × Int32 × Int32 × MS) : Option ((Int32 × Int32 × Int32 × MS) ⊕ ((Int32 × MS) ⊕ (MS))) := f_X7_beginsAt_L2_2 q.1 q.2.1 q.2.2.1 q.2.2.2
set_option maxRecDepth 100000 in
set_option maxHeartbeats 4000000 in
theorem w_X7_beginsAt_L2_2 (X : cx p s m args meth c cX7_beginsAt 4 RX7 (some .int)) (K : kx D cI cZ cQ adK adV A s s.heap) {e0 : (Int32 × MS) ⊕ (MS)} : ∀ (n : Nat) (v1 : Int32) (v2 : Int32) (v3 : Int32) (u : MS) {H : Heap} {locs : List Loc} {ls : Array Slot}, wh f_X7_beginsAt_L2_2s n (v1, v2, v3, u) = some e0 → wg D A s.heap H locs (wM cI ad u) → lv_has ls 4 [(0, .ref (ad 0)), (1, .int v1), (2, .int v2), (3, .int v3)] → (∀ (u : MS), e0 = .inr u → ∀ (H : Heap) (locs : List Loc) (ls : Array Slot), wg D A s.heap H locs (wM cI ad u) → lv_has ls 4 [] → W p l e { frames := 6, cells := 0, slots := 0, locals := 139 } s m args below meth c H locs 0 0 Q (F0 m 28 ls [])) → (∀ (r : Int32) (u : MS), e0 = .inl (r, u) → Q = (qI D A (wM cI ad) below args s r u)) → W p l e { frames := 6, cells := 0, slots := 0, locals := 139 } s m args below meth c H locs 0 0 Q (F0 m 2 ls []) := by
  intro n
  induction n with
  | zero => intro v1 v2 v3 u H locs ls h; cases h
  | succ n ih =>
    intro v1 v2 v3 u H locs ls h G hl hX hR
    obtain ⟨q, h1, h2, h3⟩ := wh_at h
    exact b_X7_beginsAt_L2_2 X K G hl (show f_X7_beginsAt_L2_2 v1 v2 v3 u = some q from h1) (fun b0 b1 b2 b3 ee H locs ls G hl => ih b0 b1 b2 b3 (h2 _ ee) G hl hX hR) (fun z0 ee => hX z0 (h3 _ ee).symm) (fun r u ee => hR r u (h3 _ ee).symm)
noncomputable def f_X7_beginsAt (a1 : Int32) (a2 : Int32) (u0 : MS) : Option (Int32 × MS) :=
  bne (wl f_X7_beginsAt_L2_2s (a1, a2, a2, u0)) (fun a => some a) fun b =>
    nmv b fun u3 =>
    some ((-1 : Int32), u3)
set_option maxRecDepth 100000 in
set_option maxHeartbeats 4000000 in
theorem c_X7_beginsAt {a1 : Int32} {a2 : Int32} {u0 : MS} {r : Int32} {u' : MS} (h : f_X7_beginsAt a1 a2 u0 = some (r, u')) : MI l D cI cZ cQ adK adV A yX7_beginsAt cX7_beginsAt 4 (some .int) { frames := 6, cells := 0, slots := 0, locals := 139 } [.ref (ad 0), .int a1, .int a2] (wM cI ad) u0 r u' := by
  unfold f_X7_beginsAt at h
  refine entI (by decide) (Nat.le_of_ble_eq_true rfl) (fun p e s m below meth c ls X K G hl => ?_)
  have hl : lv_has ls 4 [(0, .ref (ad 0)), (1, .int a1), (2, .int a2)] := hl
  obtain ⟨hx, hb, -⟩ := id X
  generalize hH : s.heap = H at G
  subst hH
  refine lv_iload_n hx hb dX7_beginsAt_0 rfl (lv_at hl 2 rfl) ?_
  refine lv_istore_n (lv' := [(3, .int a2), (0, .ref (ad 0)), (1, .int a1), (2, .int a2)]) hx hb dX7_beginsAt_1 rfl hl (by decide) rfl (fun ls hl => ?_)
  obtain ⟨q2, hq2, ha, hb1⟩ := bne_at h
  obtain ⟨n1, hn1⟩ := wl_iff.mp hq2
  refine w_X7_beginsAt_L2_2 X K n1 _ _ _ _ hn1 G (lv_sub hl [1, 2, 3, 0] rfl) (fun  u3 ee H locs ls G hl => ?_) (fun r u1 ee => by obtain ⟨rfl, rfl⟩ := pair_at (ha _ ee); rfl)
  have h := hb1 _ ee
  clear ee ha hb1 hq2 hn1
  have h := nm_at (x := u3) rfl h
  refine lv_iconst (v := -1) hx hb dX7_beginsAt_28 (by decide) ?_
  obtain ⟨rfl, rfl⟩ := pair_at h
  exact reI X G dX7_beginsAt_29
noncomputable def f_X7_lastDay (a1 : Int32) (u0 : MS) : Option (Int32 × MS) :=
  bnd (f_X7_steps a1 u0) fun r1 u2 =>
  nmv (r1 - (1 : Int32)) fun x3 =>
  if x3 < 0 ∨ 8 ≤ x3.toNatClampNeg then none else
  some ((m_on u2) x3.toNatClampNeg, u2)
set_option maxRecDepth 100000 in
set_option maxHeartbeats 4000000 in
theorem c_X7_lastDay {a1 : Int32} {u0 : MS} {r : Int32} {u' : MS} (h : f_X7_lastDay a1 u0 = some (r, u')) : MI l D cI cZ cQ adK adV A yX7_lastDay cX7_lastDay 2 (some .int) { frames := 1, cells := 0, slots := 0, locals := 21 } [.ref (ad 0), .int a1] (wM cI ad) u0 r u' := by
  unfold f_X7_lastDay at h
  refine entI (by decide) (Nat.le_of_ble_eq_true rfl) (fun p e s m below meth c ls X K G hl => ?_)
  have hl : lv_has ls 2 [(0, .ref (ad 0)), (1, .int a1)] := hl
  obtain ⟨hx, hb, -⟩ := id X
  generalize hH : s.heap = H at G
  subst hH
  refine lv_aload_n hx hb dX7_lastDay_0 rfl (lv_at hl 0 rfl) ?_
  refine gM_0_12 X K G q_918 dX7_lastDay_1 ?_
  refine lv_aload_n hx hb dX7_lastDay_4 rfl (lv_at hl 0 rfl) ?_
  refine lv_iload_n hx hb dX7_lastDay_5 rfl (lv_at hl 1 rfl) ?_
  obtain ⟨r1, u2, er1, h⟩ := bnd_at h
  refine cvI (rest := [.ref (ad 6)]) X K G (c_X7_steps er1) q_1121 my_X7_steps ⟨rfl, rfl⟩ ⟨Nat.le_of_ble_eq_true rfl, Nat.le_of_ble_eq_true rfl⟩ ⟨Nat.zero_le _, Nat.zero_le _⟩ 0 7 rfl rfl rfl rfl hl.1 rfl (Nat.le_of_ble_eq_true rfl) dX7_lastDay_6 (fun H locs G => ?_)
  clear er1
  refine lv_iconst (v := 1) hx hb dX7_lastDay_9 (by decide) ?_
  refine lv_isub hx hb dX7_lastDay_10 ?_
  refine lv_topi (fun x3 ex3 => ?_)
  have h := nm_at ex3 h
  obtain ⟨g4, h⟩ := ck_at h
  refine lM_6 X K G g4 dX7_lastDay_11 ?_
  obtain ⟨rfl, rfl⟩ := pair_at h
  exact reI X G dX7_lastDay_12
noncomputable def f_X7_readyAt (a1 : Int32) (a2 : Int32) (u0 : MS) : Option (Int32 × MS) :=
  bnd (f_X7_beginsAt a1 a2 u0) fun r1 u2 =>
  (if 0 ≤ r1 then
    bnd (f_X7_lastDay a1 u2) fun r4 u5 =>
    some (r4, u5)
  else
    some ((-1 : Int32), u2))
set_option maxRecDepth 100000 in
set_option maxHeartbeats 4000000 in
theorem c_X7_readyAt {a1 : Int32} {a2 : Int32} {u0 : MS} {r : Int32} {u' : MS} (h : f_X7_readyAt a1 a2 u0 = some (r, u')) : MI l D cI cZ cQ adK adV A yX7_readyAt cX7_readyAt 3 (some .int) { frames := 7, cells := 0, slots := 0, locals := 162 } [.ref (ad 0), .int a1, .int a2] (wM cI ad) u0 r u' := by
  unfold f_X7_readyAt at h
  refine entI (by decide) (Nat.le_of_ble_eq_true rfl) (fun p e s m below meth c ls X K G hl => ?_)
  have hl : lv_has ls 3 [(0, .ref (ad 0)), (1, .int a1), (2, .int a2)] := hl
  obtain ⟨hx, hb, -⟩ := id X
  generalize hH : s.heap = H at G
  subst hH
  refine lv_aload_n hx hb dX7_readyAt_0 rfl (lv_at hl 0 rfl) ?_
  refine lv_iload_n hx hb dX7_readyAt_1 rfl (lv_at hl 1 rfl) ?_
  refine lv_iload_n hx hb dX7_readyAt_2 rfl (lv_at hl 2 rfl) ?_
  obtain ⟨r1, u2, er1, h⟩ := bnd_at h
  refine cvI (rest := []) X K G (c_X7_beginsAt er1) q_1199 my_X7_beginsAt ⟨rfl, rfl⟩ ⟨Nat.le_of_ble_eq_true rfl, Nat.le_of_ble_eq_true rfl⟩ ⟨Nat.zero_le _, Nat.zero_le _⟩ 0 7 rfl rfl rfl rfl hl.1 rfl (Nat.le_of_ble_eq_true rfl) dX7_readyAt_3 (fun H locs G => ?_)
  clear er1
  refine lv_if_ge (tgt := 13) hx hb dX7_readyAt_6 (by decide) (fun c3 => ?_) (fun c3 => ?_)
  · have h := it_at c3 h
    refine lv_aload_n hx hb dX7_readyAt_13 rfl (lv_at hl 0 rfl) ?_
    refine lv_iload_n hx hb dX7_readyAt_14 rfl (lv_at hl 1 rfl) ?_
    obtain ⟨r4, u5, er4, h⟩ := bnd_at h
    refine cvI (rest := []) X K G (c_X7_lastDay er4) q_1203 my_X7_lastDay ⟨rfl, rfl⟩ ⟨Nat.le_of_ble_eq_true rfl, Nat.le_of_ble_eq_true rfl⟩ ⟨Nat.zero_le _, Nat.zero_le _⟩ 0 7 rfl rfl rfl rfl hl.1 rfl (Nat.le_of_ble_eq_true rfl) dX7_readyAt_15 (fun H locs G => ?_)
    clear er4
    obtain ⟨rfl, rfl⟩ := pair_at h
    exact reI X G dX7_readyAt_18
  · have h := if_at c3 h
    refine lv_iconst (v := -1) hx hb dX7_readyAt_9 (by decide) ?_
    refine lv_goto (tgt := 18) hx hb dX7_readyAt_10 (by decide) ?_
    obtain ⟨rfl, rfl⟩ := pair_at h
    exact reI X G dX7_readyAt_18
noncomputable def f_X7_ready (a1 : Int32) (a2 : Int32) (u0 : MS) : Option (Int32 × MS) :=
  bnd (f_X7_isThing a1 u0) fun r1 u2 =>
  (if r1 = 0 then
    bnd (f_X7_finds (-1000001 : Int32) u2) fun r4 u5 =>
    some (r4, u5)
  else
    bnd (f_X7_isDay a2 u2) fun r6 u7 =>
    (if r6 = 0 then
      bnd (f_X7_finds (-1000001 : Int32) u7) fun r9 u10 =>
      some (r9, u10)
    else
      bnd (f_X7_readyAt a1 a2 u7) fun r11 u12 =>
      bnd (f_X7_orNone r11 u12) fun r13 u14 =>
      some (r13, u14)))
set_option maxRecDepth 100000 in
set_option maxHeartbeats 4000000 in
theorem c_X7_ready {a1 : Int32} {a2 : Int32} {u0 : MS} {r : Int32} {u' : MS} (h : f_X7_ready a1 a2 u0 = some (r, u')) : MI l D cI cZ cQ adK adV A yX7_ready cX7_ready 3 (some .int) { frames := 8, cells := 0, slots := 0, locals := 184 } [.ref (ad 0), .int a1, .int a2] (wM cI ad) u0 r u' := by
  unfold f_X7_ready at h
  refine entI (by decide) (Nat.le_of_ble_eq_true rfl) (fun p e s m below meth c ls X K G hl => ?_)
  have hl : lv_has ls 3 [(0, .ref (ad 0)), (1, .int a1), (2, .int a2)] := hl
  obtain ⟨hx, hb, -⟩ := id X
  generalize hH : s.heap = H at G
  subst hH
  refine lv_aload_n hx hb dX7_ready_0 rfl (lv_at hl 0 rfl) ?_
  refine lv_iload_n hx hb dX7_ready_1 rfl (lv_at hl 1 rfl) ?_
  obtain ⟨r1, u2, er1, h⟩ := bnd_at h
  refine cvI (rest := []) X K G (c_X7_isThing er1) q_1116 my_X7_isThing ⟨rfl, rfl⟩ ⟨Nat.le_of_ble_eq_true rfl, Nat.le_of_ble_eq_true rfl⟩ ⟨Nat.zero_le _, Nat.zero_le _⟩ 0 7 rfl rfl rfl rfl hl.1 rfl (Nat.le_of_ble_eq_true rfl) dX7_ready_2 (fun H locs G => ?_)
  clear er1
  refine lv_if_eq (tgt := 28) hx hb dX7_ready_5 (by decide) (fun c3 => ?_) (fun c3 => ?_)
  · have h := it_at c3 h
    refine lv_aload_n hx hb dX7_ready_28 rfl (lv_at hl 0 rfl) ?_
    refine lv_ldc (v := -1000001) hx hb X.2.2.2.1 (X.2.2.2.2.1 _ q_975) dX7_ready_29 ?_
    obtain ⟨r4, u5, er4, h⟩ := bnd_at h
    refine cvI (rest := []) X K G (c_X7_finds er4) q_976 my_X7_finds ⟨rfl, rfl⟩ ⟨Nat.le_of_ble_eq_true rfl, Nat.le_of_ble_eq_true rfl⟩ ⟨Nat.zero_le _, Nat.zero_le _⟩ 0 7 rfl rfl rfl rfl hl.1 rfl (Nat.le_of_ble_eq_true rfl) dX7_ready_31 (fun H locs G => ?_)
    clear er4
    obtain ⟨rfl, rfl⟩ := pair_at h
    exact reI X G dX7_ready_34
  · have h := if_at c3 h
    refine lv_iload_n hx hb dX7_ready_8 rfl (lv_at hl 2 rfl) ?_
    obtain ⟨r6, u7, er6, h⟩ := bnd_at h
    refine csI (rest := []) X K G (c_X7_isDay er6) q_1088 my_X7_isDay ⟨rfl, rfl⟩ ⟨Nat.le_of_ble_eq_true rfl, Nat.le_of_ble_eq_true rfl⟩ ⟨Nat.zero_le _, Nat.zero_le _⟩ rfl hl.1 rfl (Nat.le_of_ble_eq_true rfl) dX7_ready_9 (fun H locs G => ?_)
    clear er6
    refine lv_if_eq (tgt := 28) hx hb dX7_ready_12 (by decide) (fun c8 => ?_) (fun c8 => ?_)
    · have h := it_at c8 h
      refine lv_aload_n hx hb dX7_ready_28 rfl (lv_at hl 0 rfl) ?_
      refine lv_ldc (v := -1000001) hx hb X.2.2.2.1 (X.2.2.2.2.1 _ q_975) dX7_ready_29 ?_
      obtain ⟨r9, u10, er9, h⟩ := bnd_at h
      refine cvI (rest := []) X K G (c_X7_finds er9) q_976 my_X7_finds ⟨rfl, rfl⟩ ⟨Nat.le_of_ble_eq_true rfl, Nat.le_of_ble_eq_true rfl⟩ ⟨Nat.zero_le _, Nat.zero_le _⟩ 0 7 rfl rfl rfl rfl hl.1 rfl (Nat.le_of_ble_eq_true rfl) dX7_ready_31 (fun H locs G => ?_)
      clear er9
      obtain ⟨rfl, rfl⟩ := pair_at h
      exact reI X G dX7_ready_34
    · have h := if_at c8 h
      refine lv_aload_n hx hb dX7_ready_15 rfl (lv_at hl 0 rfl) ?_
      refine lv_aload_n hx hb dX7_ready_16 rfl (lv_at hl 0 rfl) ?_
      refine lv_iload_n hx hb dX7_ready_17 rfl (lv_at hl 1 rfl) ?_
      refine lv_iload_n hx hb dX7_ready_18 rfl (lv_at hl 2 rfl) ?_
      obtain ⟨r11, u12, er11, h⟩ := bnd_at h
      refine cvI (rest := [.ref (ad 0)]) X K G (c_X7_readyAt er11) q_1195 my_X7_readyAt ⟨rfl, rfl⟩ ⟨Nat.le_of_ble_eq_true rfl, Nat.le_of_ble_eq_true rfl⟩ ⟨Nat.zero_le _, Nat.zero_le _⟩ 0 7 rfl rfl rfl rfl hl.1 rfl (Nat.le_of_ble_eq_true rfl) dX7_ready_19 (fun H locs G => ?_)
      clear er11
      obtain ⟨r13, u14, er13, h⟩ := bnd_at h
      refine cvI (rest := []) X K G (c_X7_orNone er13) q_1174 my_X7_orNone ⟨rfl, rfl⟩ ⟨Nat.le_of_ble_eq_true rfl, Nat.le_of_ble_eq_true rfl⟩ ⟨Nat.zero_le _, Nat.zero_le _⟩ 0 7 rfl rfl rfl rfl hl.1 rfl (Nat.le_of_ble_eq_true rfl) dX7_ready_22 (fun H locs G => ?_)
      clear er13
      refine lv_goto (tgt := 34) hx hb dX7_ready_25 (by decide) ?_
      obtain ⟨rfl, rfl⟩ := pair_at h
      exact reI X G dX7_ready_34
noncomputable def f_X7_begun (a1 : Int32) (a2 : Int32) (u0 : MS) : Option (Int32 × MS) :=
  bnd (f_X7_isThing a1 u0) fun r1 u2 =>
  (if r1 = 0 then
    bnd (f_X7_finds (-1000001 : Int32) u2) fun r4 u5 =>
    some (r4, u5)
  else
    bnd (f_X7_isDay a2 u2) fun r6 u7 =>
    (if r6 = 0 then
      bnd (f_X7_finds (-1000001 : Int32) u7) fun r9 u10 =>
      some (r9, u10)
    else
      bnd (f_X7_beginsAt a1 a2 u7) fun r11 u12 =>
      bnd (f_X7_orNone r11 u12) fun r13 u14 =>
      some (r13, u14)))
set_option maxRecDepth 100000 in
set_option maxHeartbeats 4000000 in
theorem c_X7_begun {a1 : Int32} {a2 : Int32} {u0 : MS} {r : Int32} {u' : MS} (h : f_X7_begun a1 a2 u0 = some (r, u')) : MI l D cI cZ cQ adK adV A yX7_begun cX7_begun 3 (some .int) { frames := 7, cells := 0, slots := 0, locals := 162 } [.ref (ad 0), .int a1, .int a2] (wM cI ad) u0 r u' := by
  unfold f_X7_begun at h
  refine entI (by decide) (Nat.le_of_ble_eq_true rfl) (fun p e s m below meth c ls X K G hl => ?_)
  have hl : lv_has ls 3 [(0, .ref (ad 0)), (1, .int a1), (2, .int a2)] := hl
  obtain ⟨hx, hb, -⟩ := id X
  generalize hH : s.heap = H at G
  subst hH
  refine lv_aload_n hx hb dX7_begun_0 rfl (lv_at hl 0 rfl) ?_
  refine lv_iload_n hx hb dX7_begun_1 rfl (lv_at hl 1 rfl) ?_
  obtain ⟨r1, u2, er1, h⟩ := bnd_at h
  refine cvI (rest := []) X K G (c_X7_isThing er1) q_1116 my_X7_isThing ⟨rfl, rfl⟩ ⟨Nat.le_of_ble_eq_true rfl, Nat.le_of_ble_eq_true rfl⟩ ⟨Nat.zero_le _, Nat.zero_le _⟩ 0 7 rfl rfl rfl rfl hl.1 rfl (Nat.le_of_ble_eq_true rfl) dX7_begun_2 (fun H locs G => ?_)
  clear er1
  refine lv_if_eq (tgt := 28) hx hb dX7_begun_5 (by decide) (fun c3 => ?_) (fun c3 => ?_)
  · have h := it_at c3 h
    refine lv_aload_n hx hb dX7_begun_28 rfl (lv_at hl 0 rfl) ?_
    refine lv_ldc (v := -1000001) hx hb X.2.2.2.1 (X.2.2.2.2.1 _ q_975) dX7_begun_29 ?_
    obtain ⟨r4, u5, er4, h⟩ := bnd_at h
    refine cvI (rest := []) X K G (c_X7_finds er4) q_976 my_X7_finds ⟨rfl, rfl⟩ ⟨Nat.le_of_ble_eq_true rfl, Nat.le_of_ble_eq_true rfl⟩ ⟨Nat.zero_le _, Nat.zero_le _⟩ 0 7 rfl rfl rfl rfl hl.1 rfl (Nat.le_of_ble_eq_true rfl) dX7_begun_31 (fun H locs G => ?_)
    clear er4
    obtain ⟨rfl, rfl⟩ := pair_at h
    exact reI X G dX7_begun_34
  · have h := if_at c3 h
    refine lv_iload_n hx hb dX7_begun_8 rfl (lv_at hl 2 rfl) ?_
    obtain ⟨r6, u7, er6, h⟩ := bnd_at h
    refine csI (rest := []) X K G (c_X7_isDay er6) q_1088 my_X7_isDay ⟨rfl, rfl⟩ ⟨Nat.le_of_ble_eq_true rfl, Nat.le_of_ble_eq_true rfl⟩ ⟨Nat.zero_le _, Nat.zero_le _⟩ rfl hl.1 rfl (Nat.le_of_ble_eq_true rfl) dX7_begun_9 (fun H locs G => ?_)
    clear er6
    refine lv_if_eq (tgt := 28) hx hb dX7_begun_12 (by decide) (fun c8 => ?_) (fun c8 => ?_)
    · have h := it_at c8 h
      refine lv_aload_n hx hb dX7_begun_28 rfl (lv_at hl 0 rfl) ?_
      refine lv_ldc (v := -1000001) hx hb X.2.2.2.1 (X.2.2.2.2.1 _ q_975) dX7_begun_29 ?_
      obtain ⟨r9, u10, er9, h⟩ := bnd_at h
      refine cvI (rest := []) X K G (c_X7_finds er9) q_976 my_X7_finds ⟨rfl, rfl⟩ ⟨Nat.le_of_ble_eq_true rfl, Nat.le_of_ble_eq_true rfl⟩ ⟨Nat.zero_le _, Nat.zero_le _⟩ 0 7 rfl rfl rfl rfl hl.1 rfl (Nat.le_of_ble_eq_true rfl) dX7_begun_31 (fun H locs G => ?_)
      clear er9
      obtain ⟨rfl, rfl⟩ := pair_at h
      exact reI X G dX7_begun_34
    · have h := if_at c8 h
      refine lv_aload_n hx hb dX7_begun_15 rfl (lv_at hl 0 rfl) ?_
      refine lv_aload_n hx hb dX7_begun_16 rfl (lv_at hl 0 rfl) ?_
      refine lv_iload_n hx hb dX7_begun_17 rfl (lv_at hl 1 rfl) ?_
      refine lv_iload_n hx hb dX7_begun_18 rfl (lv_at hl 2 rfl) ?_
      obtain ⟨r11, u12, er11, h⟩ := bnd_at h
      refine cvI (rest := [.ref (ad 0)]) X K G (c_X7_beginsAt er11) q_1199 my_X7_beginsAt ⟨rfl, rfl⟩ ⟨Nat.le_of_ble_eq_true rfl, Nat.le_of_ble_eq_true rfl⟩ ⟨Nat.zero_le _, Nat.zero_le _⟩ 0 7 rfl rfl rfl rfl hl.1 rfl (Nat.le_of_ble_eq_true rfl) dX7_begun_19 (fun H locs G => ?_)
      clear er11
      obtain ⟨r13, u14, er13, h⟩ := bnd_at h
      refine cvI (rest := []) X K G (c_X7_orNone er13) q_1174 my_X7_orNone ⟨rfl, rfl⟩ ⟨Nat.le_of_ble_eq_true rfl, Nat.le_of_ble_eq_true rfl⟩ ⟨Nat.zero_le _, Nat.zero_le _⟩ 0 7 rfl rfl rfl rfl hl.1 rfl (Nat.le_of_ble_eq_true rfl) dX7_begun_22 (fun H locs G => ?_)
      clear er13
      refine lv_goto (tgt := 34) hx hb dX7_begun_25 (by decide) ?_
      obtain ⟨rfl, rfl⟩ := pair_at h
      exact reI X G dX7_begun_34
noncomputable def f_X7_latest_L32_32 (v1 : Int32) (v2 : Int32) (v3 : Int32) (v4 : Int32) (u0 : MS) : Option ((Int32 × Int32 × Int32 × Int32 × MS) ⊕ ((Int32 × MS) ⊕ (Int32 × MS))) :=
  (if v2 < v4 then
    some (.inr (.inr (v3, u0)))
  else
    bnd (f_X7_runs v1 v4 u0) fun r2 u3 =>
    (if 0 ≤ r2 then
      nmv (v4 + (1 : Int32)) fun x5 =>
      some (.inl (v1, v2, v3, x5, u3))
    else
      bnd (f_X7_lastDay v1 u3) fun r6 u7 =>
      (if v2 < r6 then
        nmv (v4 + (1 : Int32)) fun x9 =>
        some (.inl (v1, v2, v3, x9, u7))
      else
        nmv (v4 + (1 : Int32)) fun x10 =>
        some (.inl (v1, v2, v4, x10, u7)))))
set_option maxRecDepth 100000 in
set_option maxHeartbeats 4000000 in
theorem b_X7_latest_L32_32 (X : cx p s m args meth c cX7_latest 5 RX7 (some .int)) (K : kx D cI cZ cQ adK adV A s s.heap) {v1 : Int32} {v2 : Int32} {v3 : Int32} {v4 : Int32} {u0 : MS} (G : wg D A s.heap H locs (wM cI ad u0)) (hl : lv_has ls 5 [(0, .ref (ad 0)), (1, .int v1), (2, .int v2), (3, .int v3), (4, .int v4)]) {q : ((Int32 × Int32 × Int32 × Int32 × MS) ⊕ ((Int32 × MS) ⊕ (Int32 × MS)))} (h : f_X7_latest_L32_32 v1 v2 v3 v4 u0 = some q) (hB : ∀ (v1 : Int32) (v2 : Int32) (v3 : Int32) (v4 : Int32) (u : MS), q = .inl (v1, v2, v3, v4, u) → ∀ (H : Heap) (locs : List Loc) (ls : Array Slot), wg D A s.heap H locs (wM cI ad u) → lv_has ls 5 [(0, .ref (ad 0)), (1, .int v1), (2, .int v2), (3, .int v3), (4, .int v4)] → W p l e { frames := 6, cells := 0, slots := 0, locals := 139 } s m args below meth c H locs 0 0 Q (F0 m 32 ls [])) (hX : ∀ (v3 : Int32) (u : MS), q = .inr (.inr (v3, u)) → ∀ (H : Heap) (locs : List Loc) (ls : Array Slot), wg D A s.heap H locs (wM cI ad u) → lv_has ls 5 [(0, .ref (ad 0)), (3, .int v3)] → W p l e { frames := 6, cells := 0, slots := 0, locals := 139 } s m args below meth c H locs 0 0 Q (F0 m 70 ls [])) (hR : ∀ (r : Int32) (u : MS), q = .inr (.inl (r, u)) → Q = (qI D A (wM cI ad) below args s r u)) : W p l e { frames := 6, cells := 0, slots := 0, locals := 139 } s m args below meth c H locs 0 0 Q (F0 m 32 ls []) := by
  unfold f_X7_latest_L32_32 at h
  obtain ⟨hx, hb, -⟩ := id X
  refine lv_iload hx hb dX7_latest_32 (lv_at hl 4 rfl) ?_
  refine lv_iload_n hx hb dX7_latest_34 rfl (lv_at hl 2 rfl) ?_
  refine lv_icmp_gt (tgt := 70) hx hb dX7_latest_35 (by decide) (fun c1 => ?_) (fun c1 => ?_)
  · have h := it_at c1 h
    exact hX _ _ (Option.some.inj h).symm _ _ _ G (lv_sub hl [0, 3] rfl)
  · have h := if_at c1 h
    refine lv_aload_n hx hb dX7_latest_38 rfl (lv_at hl 0 rfl) ?_
    refine lv_iload_n hx hb dX7_latest_39 rfl (lv_at hl 1 rfl) ?_
    refine lv_iload hx hb dX7_latest_40 (lv_at hl 4 rfl) ?_
    obtain ⟨r2, u3, er2, h⟩ := bnd_at h
    refine cvI (rest := []) X K G (c_X7_runs er2) q_1183 my_X7_runs ⟨rfl, rfl⟩ ⟨Nat.le_of_ble_eq_true rfl, Nat.le_of_ble_eq_true rfl⟩ ⟨Nat.zero_le _, Nat.zero_le _⟩ 0 7 rfl rfl rfl rfl hl.1 rfl (Nat.le_of_ble_eq_true rfl) dX7_latest_42 (fun H locs G => ?_)
    clear er2
    refine lv_if_ge (tgt := 62) hx hb dX7_latest_45 (by decide) (fun c4 => ?_) (fun c4 => ?_)
    · have h := it_at c4 h
      refine lv_iload_n hx hb dX7_latest_62 rfl (lv_at hl 3 rfl) ?_
      refine lv_istore_n (lv' := [(3, .int v3), (0, .ref (ad 0)), (1, .int v1), (2, .int v2), (4, .int v4)]) hx hb dX7_latest_63 rfl hl (by decide) rfl (fun ls hl => ?_)
      obtain ⟨x5, ex5⟩ : ∃ z : Int32, z = v4 + (1 : Int32) := ⟨_, rfl⟩
      have h := nm_at ex5 h
      refine lv_iinc (v := x5) (lv' := [(4, .int x5), (3, .int v3), (0, .ref (ad 0)), (1, .int v1), (2, .int v2)]) hx hb dX7_latest_64 hl (k := 4) rfl (by rw [ex5]; rfl) (by decide) rfl (fun ls hl => ?_)
      refine lv_goto (tgt := 32) hx hb dX7_latest_67 (by decide) ?_
      exact hB _ _ _ _ _ (Option.some.inj h).symm _ _ _ G (lv_sub hl [2, 3, 4, 1, 0] rfl)
    · have h := if_at c4 h
      refine lv_aload_n hx hb dX7_latest_48 rfl (lv_at hl 0 rfl) ?_
      refine lv_iload_n hx hb dX7_latest_49 rfl (lv_at hl 1 rfl) ?_
      obtain ⟨r6, u7, er6, h⟩ := bnd_at h
      refine cvI (rest := []) X K G (c_X7_lastDay er6) q_1203 my_X7_lastDay ⟨rfl, rfl⟩ ⟨Nat.le_of_ble_eq_true rfl, Nat.le_of_ble_eq_true rfl⟩ ⟨Nat.zero_le _, Nat.zero_le _⟩ 0 7 rfl rfl rfl rfl hl.1 rfl (Nat.le_of_ble_eq_true rfl) dX7_latest_50 (fun H locs G => ?_)
      clear er6
      refine lv_iload_n hx hb dX7_latest_53 rfl (lv_at hl 2 rfl) ?_
      refine lv_icmp_gt (tgt := 62) hx hb dX7_latest_54 (by decide) (fun c8 => ?_) (fun c8 => ?_)
      · have h := it_at c8 h
        refine lv_iload_n hx hb dX7_latest_62 rfl (lv_at hl 3 rfl) ?_
        refine lv_istore_n (lv' := [(3, .int v3), (0, .ref (ad 0)), (1, .int v1), (2, .int v2), (4, .int v4)]) hx hb dX7_latest_63 rfl hl (by decide) rfl (fun ls hl => ?_)
        obtain ⟨x9, ex9⟩ : ∃ z : Int32, z = v4 + (1 : Int32) := ⟨_, rfl⟩
        have h := nm_at ex9 h
        refine lv_iinc (v := x9) (lv' := [(4, .int x9), (3, .int v3), (0, .ref (ad 0)), (1, .int v1), (2, .int v2)]) hx hb dX7_latest_64 hl (k := 4) rfl (by rw [ex9]; rfl) (by decide) rfl (fun ls hl => ?_)
        refine lv_goto (tgt := 32) hx hb dX7_latest_67 (by decide) ?_
        exact hB _ _ _ _ _ (Option.some.inj h).symm _ _ _ G (lv_sub hl [2, 3, 4, 1, 0] rfl)
      · have h := if_at c8 h
        refine lv_iload hx hb dX7_latest_57 (lv_at hl 4 rfl) ?_
        refine lv_goto (tgt := 63) hx hb dX7_latest_59 (by decide) ?_
        refine lv_istore_n (lv' := [(3, .int v4), (0, .ref (ad 0)), (1, .int v1), (2, .int v2), (4, .int v4)]) hx hb dX7_latest_63 rfl hl (by decide) rfl (fun ls hl => ?_)
        obtain ⟨x10, ex10⟩ : ∃ z : Int32, z = v4 + (1 : Int32) := ⟨_, rfl⟩
        have h := nm_at ex10 h
        refine lv_iinc (v := x10) (lv' := [(4, .int x10), (3, .int v4), (0, .ref (ad 0)), (1, .int v1), (2, .int v2)]) hx hb dX7_latest_64 hl (k := 4) rfl (by rw [ex10]; rfl) (by decide) rfl (fun ls hl => ?_)
        refine lv_goto (tgt := 32) hx hb dX7_latest_67 (by decide) ?_
        exact hB _ _ _ _ _ (Option.some.inj h).symm _ _ _ G (lv_sub hl [2, 3, 4, 1, 0] rfl)
noncomputable def f_X7_latest_L32_32s (q : Int32 × Int32 × Int32 × Int32 × MS) : Option ((Int32 × Int32 × Int32 × Int32 × MS) ⊕ ((Int32 × MS) ⊕ (Int32 × MS))) := f_X7_latest_L32_32 q.1 q.2.1 q.2.2.1 q.2.2.2.1 q.2.2.2.2
set_option maxRecDepth 100000 in
set_option maxHeartbeats 4000000 in
theorem w_X7_latest_L32_32 (X : cx p s m args meth c cX7_latest 5 RX7 (some .int)) (K : kx D cI cZ cQ adK adV A s s.heap) {e0 : (Int32 × MS) ⊕ (Int32 × MS)} : ∀ (n : Nat) (v1 : Int32) (v2 : Int32) (v3 : Int32) (v4 : Int32) (u : MS) {H : Heap} {locs : List Loc} {ls : Array Slot}, wh f_X7_latest_L32_32s n (v1, v2, v3, v4, u) = some e0 → wg D A s.heap H locs (wM cI ad u) → lv_has ls 5 [(0, .ref (ad 0)), (1, .int v1), (2, .int v2), (3, .int v3), (4, .int v4)] → (∀ (v3 : Int32) (u : MS), e0 = .inr (v3, u) → ∀ (H : Heap) (locs : List Loc) (ls : Array Slot), wg D A s.heap H locs (wM cI ad u) → lv_has ls 5 [(0, .ref (ad 0)), (3, .int v3)] → W p l e { frames := 6, cells := 0, slots := 0, locals := 139 } s m args below meth c H locs 0 0 Q (F0 m 70 ls [])) → (∀ (r : Int32) (u : MS), e0 = .inl (r, u) → Q = (qI D A (wM cI ad) below args s r u)) → W p l e { frames := 6, cells := 0, slots := 0, locals := 139 } s m args below meth c H locs 0 0 Q (F0 m 32 ls []) := by
  intro n
  induction n with
  | zero => intro v1 v2 v3 v4 u H locs ls h; cases h
  | succ n ih =>
    intro v1 v2 v3 v4 u H locs ls h G hl hX hR
    obtain ⟨q, h1, h2, h3⟩ := wh_at h
    exact b_X7_latest_L32_32 X K G hl (show f_X7_latest_L32_32 v1 v2 v3 v4 u = some q from h1) (fun b0 b1 b2 b3 b4 ee H locs ls G hl => ih b0 b1 b2 b3 b4 (h2 _ ee) G hl hX hR) (fun z0 z1 ee => hX z0 z1 (h3 _ ee).symm) (fun r u ee => hR r u (h3 _ ee).symm)
noncomputable def f_X7_latest (a1 : Int32) (a2 : Int32) (u0 : MS) : Option (Int32 × MS) :=
  bnd (f_X7_isThing a1 u0) fun r1 u2 =>
  (if r1 = 0 then
    bnd (f_X7_finds (-1000001 : Int32) u2) fun r4 u5 =>
    some (r4, u5)
  else
    bnd (f_X7_in (a2.toInt64) (0 : Int64) (400 : Int64) u2) fun r6 u7 =>
    (if r6 = 0 then
      bnd (f_X7_finds (-1000001 : Int32) u7) fun r15 u16 =>
      some (r15, u16)
    else
      bne (wl f_X7_latest_L32_32s (a1, a2, (-1 : Int32), (0 : Int32), u7)) (fun a => some a) fun b =>
        nmv b.1 fun y12 =>
        nmv b.2 fun u11 =>
        bnd (f_X7_orNone y12 u11) fun r13 u14 =>
        some (r13, u14)))
set_option maxRecDepth 100000 in
set_option maxHeartbeats 4000000 in
theorem c_X7_latest {a1 : Int32} {a2 : Int32} {u0 : MS} {r : Int32} {u' : MS} (h : f_X7_latest a1 a2 u0 = some (r, u')) : MI l D cI cZ cQ adK adV A yX7_latest cX7_latest 5 (some .int) { frames := 6, cells := 0, slots := 0, locals := 139 } [.ref (ad 0), .int a1, .int a2] (wM cI ad) u0 r u' := by
  unfold f_X7_latest at h
  refine entI (by decide) (Nat.le_of_ble_eq_true rfl) (fun p e s m below meth c ls X K G hl => ?_)
  have hl : lv_has ls 5 [(0, .ref (ad 0)), (1, .int a1), (2, .int a2)] := hl
  obtain ⟨hx, hb, -⟩ := id X
  generalize hH : s.heap = H at G
  subst hH
  refine lv_aload_n hx hb dX7_latest_0 rfl (lv_at hl 0 rfl) ?_
  refine lv_iload_n hx hb dX7_latest_1 rfl (lv_at hl 1 rfl) ?_
  obtain ⟨r1, u2, er1, h⟩ := bnd_at h
  refine cvI (rest := []) X K G (c_X7_isThing er1) q_1116 my_X7_isThing ⟨rfl, rfl⟩ ⟨Nat.le_of_ble_eq_true rfl, Nat.le_of_ble_eq_true rfl⟩ ⟨Nat.zero_le _, Nat.zero_le _⟩ 0 7 rfl rfl rfl rfl hl.1 rfl (Nat.le_of_ble_eq_true rfl) dX7_latest_2 (fun H locs G => ?_)
  clear er1
  refine lv_if_eq (tgt := 20) hx hb dX7_latest_5 (by decide) (fun c3 => ?_) (fun c3 => ?_)
  · have h := it_at c3 h
    refine lv_aload_n hx hb dX7_latest_20 rfl (lv_at hl 0 rfl) ?_
    refine lv_ldc (v := -1000001) hx hb X.2.2.2.1 (X.2.2.2.2.1 _ q_975) dX7_latest_21 ?_
    obtain ⟨r4, u5, er4, h⟩ := bnd_at h
    refine cvI (rest := []) X K G (c_X7_finds er4) q_976 my_X7_finds ⟨rfl, rfl⟩ ⟨Nat.le_of_ble_eq_true rfl, Nat.le_of_ble_eq_true rfl⟩ ⟨Nat.zero_le _, Nat.zero_le _⟩ 0 7 rfl rfl rfl rfl hl.1 rfl (Nat.le_of_ble_eq_true rfl) dX7_latest_23 (fun H locs G => ?_)
    clear er4
    obtain ⟨rfl, rfl⟩ := pair_at h
    exact reI X G dX7_latest_26
  · have h := if_at c3 h
    refine lv_iload_n hx hb dX7_latest_8 rfl (lv_at hl 2 rfl) ?_
    refine lv_i2l hx hb dX7_latest_9 rfl ?_
    refine lv_lconst (v := 0) hx hb dX7_latest_10 (by decide) ?_
    refine lv_ldc2 (v := 400) hx hb X.2.2.2.1 (X.2.2.2.2.1 _ q_1215) dX7_latest_11 ?_
    obtain ⟨r6, u7, er6, h⟩ := bnd_at h
    refine csI (rest := []) X K G (c_X7_in er6) q_972 my_X7_in ⟨rfl, rfl⟩ ⟨Nat.le_of_ble_eq_true rfl, Nat.le_of_ble_eq_true rfl⟩ ⟨Nat.zero_le _, Nat.zero_le _⟩ rfl hl.1 rfl (Nat.le_of_ble_eq_true rfl) dX7_latest_14 (fun H locs G => ?_)
    clear er6
    refine lv_if_ne (tgt := 27) hx hb dX7_latest_17 (by decide) (fun c8 => ?_) (fun c8 => ?_)
    · have h := if_at c8 h
      refine lv_iconst (v := -1) hx hb dX7_latest_27 (by decide) ?_
      refine lv_istore_n (lv' := [(3, .int (-1 : Int32)), (0, .ref (ad 0)), (1, .int a1), (2, .int a2)]) hx hb dX7_latest_28 rfl hl (by decide) rfl (fun ls hl => ?_)
      refine lv_iconst (v := 0) hx hb dX7_latest_29 (by decide) ?_
      refine lv_istore (lv' := [(4, .int (0 : Int32)), (3, .int (-1 : Int32)), (0, .ref (ad 0)), (1, .int a1), (2, .int a2)]) hx hb dX7_latest_30 hl (by decide) rfl (fun ls hl => ?_)
      obtain ⟨q10, hq10, ha, hb1⟩ := bne_at h
      obtain ⟨n9, hn9⟩ := wl_iff.mp hq10
      refine w_X7_latest_L32_32 X K n9 _ _ _ _ _ hn9 G (lv_sub hl [2, 3, 4, 1, 0] rfl) (fun y12 u11 ee H locs ls G hl => ?_) (fun r u1 ee => by obtain ⟨rfl, rfl⟩ := pair_at (ha _ ee); rfl)
      have h := hb1 _ ee
      clear ee ha hb1 hq10 hn9
      have h := nm_at (x := y12) rfl h
      have h := nm_at (x := u11) rfl h
      refine lv_aload_n hx hb dX7_latest_70 rfl (lv_at hl 0 rfl) ?_
      refine lv_iload_n hx hb dX7_latest_71 rfl (lv_at hl 1 rfl) ?_
      obtain ⟨r13, u14, er13, h⟩ := bnd_at h
      refine cvI (rest := []) X K G (c_X7_orNone er13) q_1174 my_X7_orNone ⟨rfl, rfl⟩ ⟨Nat.le_of_ble_eq_true rfl, Nat.le_of_ble_eq_true rfl⟩ ⟨Nat.zero_le _, Nat.zero_le _⟩ 0 7 rfl rfl rfl rfl hl.1 rfl (Nat.le_of_ble_eq_true rfl) dX7_latest_72 (fun H locs G => ?_)
      clear er13
      obtain ⟨rfl, rfl⟩ := pair_at h
      exact reI X G dX7_latest_75
    · have h := it_at c8 h
      refine lv_aload_n hx hb dX7_latest_20 rfl (lv_at hl 0 rfl) ?_
      refine lv_ldc (v := -1000001) hx hb X.2.2.2.1 (X.2.2.2.2.1 _ q_975) dX7_latest_21 ?_
      obtain ⟨r15, u16, er15, h⟩ := bnd_at h
      refine cvI (rest := []) X K G (c_X7_finds er15) q_976 my_X7_finds ⟨rfl, rfl⟩ ⟨Nat.le_of_ble_eq_true rfl, Nat.le_of_ble_eq_true rfl⟩ ⟨Nat.zero_le _, Nat.zero_le _⟩ 0 7 rfl rfl rfl rfl hl.1 rfl (Nat.le_of_ble_eq_true rfl) dX7_latest_23 (fun H locs G => ?_)
      clear er15
      obtain ⟨rfl, rfl⟩ := pair_at h
      exact reI X G dX7_latest_26
noncomputable def f_X7_waits_L43_43 (v1 : Int32) (v3 : Int32) (v4 : Int32) (u0 : MS) : Option ((Int32 × Int32 × Int32 × MS) ⊕ ((Int32 × MS) ⊕ (Int32 × MS))) :=
  bnd (f_X7_steps v1 u0) fun r1 u2 =>
  (if r1 ≤ v4 then
    some (.inr (.inr (v3, u2)))
  else
    if v4 < 0 ∨ 8 ≤ v4.toNatClampNeg then none else
    nmv (v4 - (1 : Int32)) fun x5 =>
    if x5 < 0 ∨ 8 ≤ x5.toNatClampNeg then none else
    (if (((m_on u2) v4.toNatClampNeg) - ((m_on u2) x5.toNatClampNeg)) ≤ v3 then
      nmv (v4 + (1 : Int32)) fun x8 =>
      some (.inl (v1, v3, x8, u2))
    else
      if v4 < 0 ∨ 8 ≤ v4.toNatClampNeg then none else
      nmv (v4 - (1 : Int32)) fun x10 =>
      if x10 < 0 ∨ 8 ≤ x10.toNatClampNeg then none else
      nmv (((m_on u2) v4.toNatClampNeg) - ((m_on u2) x10.toNatClampNeg)) fun x12 =>
      nmv (v4 + (1 : Int32)) fun x13 =>
      some (.inl (v1, x12, x13, u2))))
set_option maxRecDepth 100000 in
set_option maxHeartbeats 4000000 in
theorem b_X7_waits_L43_43 (X : cx p s m args meth c cX7_waits 5 RX7 (some .int)) (K : kx D cI cZ cQ adK adV A s s.heap) {v1 : Int32} {v3 : Int32} {v4 : Int32} {u0 : MS} (G : wg D A s.heap H locs (wM cI ad u0)) (hl : lv_has ls 5 [(0, .ref (ad 0)), (1, .int v1), (3, .int v3), (4, .int v4)]) {q : ((Int32 × Int32 × Int32 × MS) ⊕ ((Int32 × MS) ⊕ (Int32 × MS)))} (h : f_X7_waits_L43_43 v1 v3 v4 u0 = some q) (hB : ∀ (v1 : Int32) (v3 : Int32) (v4 : Int32) (u : MS), q = .inl (v1, v3, v4, u) → ∀ (H : Heap) (locs : List Loc) (ls : Array Slot), wg D A s.heap H locs (wM cI ad u) → lv_has ls 5 [(0, .ref (ad 0)), (1, .int v1), (3, .int v3), (4, .int v4)] → W p l e { frames := 7, cells := 0, slots := 0, locals := 162 } s m args below meth c H locs 0 0 Q (F0 m 43 ls [])) (hX : ∀ (v3 : Int32) (u : MS), q = .inr (.inr (v3, u)) → ∀ (H : Heap) (locs : List Loc) (ls : Array Slot), wg D A s.heap H locs (wM cI ad u) → lv_has ls 5 [(3, .int v3)] → W p l e { frames := 7, cells := 0, slots := 0, locals := 162 } s m args below meth c H locs 0 0 Q (F0 m 102 ls [])) (hR : ∀ (r : Int32) (u : MS), q = .inr (.inl (r, u)) → Q = (qI D A (wM cI ad) below args s r u)) : W p l e { frames := 7, cells := 0, slots := 0, locals := 162 } s m args below meth c H locs 0 0 Q (F0 m 43 ls []) := by
  unfold f_X7_waits_L43_43 at h
  obtain ⟨hx, hb, -⟩ := id X
  refine lv_iload hx hb dX7_waits_43 (lv_at hl 3 rfl) ?_
  refine lv_aload_n hx hb dX7_waits_45 rfl (lv_at hl 0 rfl) ?_
  refine lv_iload_n hx hb dX7_waits_46 rfl (lv_at hl 1 rfl) ?_
  obtain ⟨r1, u2, er1, h⟩ := bnd_at h
  refine cvI (rest := [.int v4]) X K G (c_X7_steps er1) q_1121 my_X7_steps ⟨rfl, rfl⟩ ⟨Nat.le_of_ble_eq_true rfl, Nat.le_of_ble_eq_true rfl⟩ ⟨Nat.zero_le _, Nat.zero_le _⟩ 0 7 rfl rfl rfl rfl hl.1 rfl (Nat.le_of_ble_eq_true rfl) dX7_waits_47 (fun H locs G => ?_)
  clear er1
  refine lv_icmp_ge (tgt := 102) hx hb dX7_waits_50 (by decide) (fun c3 => ?_) (fun c3 => ?_)
  · have h := it_at c3 h
    exact hX _ _ (Option.some.inj h).symm _ _ _ G (lv_sub hl [2] rfl)
  · have h := if_at c3 h
    refine lv_aload_n hx hb dX7_waits_53 rfl (lv_at hl 0 rfl) ?_
    refine gM_0_12 X K G q_918 dX7_waits_54 ?_
    refine lv_iload hx hb dX7_waits_57 (lv_at hl 3 rfl) ?_
    obtain ⟨g4, h⟩ := ck_at h
    refine lM_6 X K G g4 dX7_waits_59 ?_
    refine lv_aload_n hx hb dX7_waits_60 rfl (lv_at hl 0 rfl) ?_
    refine gM_0_12 X K G q_918 dX7_waits_61 ?_
    refine lv_iload hx hb dX7_waits_64 (lv_at hl 3 rfl) ?_
    refine lv_iconst (v := 1) hx hb dX7_waits_66 (by decide) ?_
    refine lv_isub hx hb dX7_waits_67 ?_
    refine lv_topi (fun x5 ex5 => ?_)
    have h := nm_at ex5 h
    obtain ⟨g6, h⟩ := ck_at h
    refine lM_6 X K G g6 dX7_waits_68 ?_
    refine lv_isub hx hb dX7_waits_69 ?_
    refine lv_iload_n hx hb dX7_waits_70 rfl (lv_at hl 2 rfl) ?_
    refine lv_icmp_le (tgt := 94) hx hb dX7_waits_71 (by decide) (fun c7 => ?_) (fun c7 => ?_)
    · have h := it_at c7 h
      refine lv_iload_n hx hb dX7_waits_94 rfl (lv_at hl 2 rfl) ?_
      refine lv_istore_n (lv' := [(3, .int v3), (0, .ref (ad 0)), (1, .int v1), (4, .int v4)]) hx hb dX7_waits_95 rfl hl (by decide) rfl (fun ls hl => ?_)
      obtain ⟨x8, ex8⟩ : ∃ z : Int32, z = v4 + (1 : Int32) := ⟨_, rfl⟩
      have h := nm_at ex8 h
      refine lv_iinc (v := x8) (lv' := [(4, .int x8), (3, .int v3), (0, .ref (ad 0)), (1, .int v1)]) hx hb dX7_waits_96 hl (k := 3) rfl (by rw [ex8]; rfl) (by decide) rfl (fun ls hl => ?_)
      refine lv_goto (tgt := 43) hx hb dX7_waits_99 (by decide) ?_
      exact hB _ _ _ _ (Option.some.inj h).symm _ _ _ G (lv_sub hl [2, 3, 1, 0] rfl)
    · have h := if_at c7 h
      refine lv_aload_n hx hb dX7_waits_74 rfl (lv_at hl 0 rfl) ?_
      refine gM_0_12 X K G q_918 dX7_waits_75 ?_
      refine lv_iload hx hb dX7_waits_78 (lv_at hl 3 rfl) ?_
      obtain ⟨g9, h⟩ := ck_at h
      refine lM_6 X K G g9 dX7_waits_80 ?_
      refine lv_aload_n hx hb dX7_waits_81 rfl (lv_at hl 0 rfl) ?_
      refine gM_0_12 X K G q_918 dX7_waits_82 ?_
      refine lv_iload hx hb dX7_waits_85 (lv_at hl 3 rfl) ?_
      refine lv_iconst (v := 1) hx hb dX7_waits_87 (by decide) ?_
      refine lv_isub hx hb dX7_waits_88 ?_
      refine lv_topi (fun x10 ex10 => ?_)
      have h := nm_at ex10 h
      obtain ⟨g11, h⟩ := ck_at h
      refine lM_6 X K G g11 dX7_waits_89 ?_
      refine lv_isub hx hb dX7_waits_90 ?_
      refine lv_goto (tgt := 95) hx hb dX7_waits_91 (by decide) ?_
      refine lv_topi (fun x12 ex12 => ?_)
      have h := nm_at ex12 h
      refine lv_istore_n (lv' := [(3, .int x12), (0, .ref (ad 0)), (1, .int v1), (4, .int v4)]) hx hb dX7_waits_95 rfl hl (by decide) rfl (fun ls hl => ?_)
      obtain ⟨x13, ex13⟩ : ∃ z : Int32, z = v4 + (1 : Int32) := ⟨_, rfl⟩
      have h := nm_at ex13 h
      refine lv_iinc (v := x13) (lv' := [(4, .int x13), (3, .int x12), (0, .ref (ad 0)), (1, .int v1)]) hx hb dX7_waits_96 hl (k := 3) rfl (by rw [ex13]; rfl) (by decide) rfl (fun ls hl => ?_)
      refine lv_goto (tgt := 43) hx hb dX7_waits_99 (by decide) ?_
      exact hB _ _ _ _ (Option.some.inj h).symm _ _ _ G (lv_sub hl [2, 3, 1, 0] rfl)
noncomputable def f_X7_waits_L43_43s (q : Int32 × Int32 × Int32 × MS) : Option ((Int32 × Int32 × Int32 × MS) ⊕ ((Int32 × MS) ⊕ (Int32 × MS))) := f_X7_waits_L43_43 q.1 q.2.1 q.2.2.1 q.2.2.2
set_option maxRecDepth 100000 in
set_option maxHeartbeats 4000000 in
theorem w_X7_waits_L43_43 (X : cx p s m args meth c cX7_waits 5 RX7 (some .int)) (K : kx D cI cZ cQ adK adV A s s.heap) {e0 : (Int32 × MS) ⊕ (Int32 × MS)} : ∀ (n : Nat) (v1 : Int32) (v3 : Int32) (v4 : Int32) (u : MS) {H : Heap} {locs : List Loc} {ls : Array Slot}, wh f_X7_waits_L43_43s n (v1, v3, v4, u) = some e0 → wg D A s.heap H locs (wM cI ad u) → lv_has ls 5 [(0, .ref (ad 0)), (1, .int v1), (3, .int v3), (4, .int v4)] → (∀ (v3 : Int32) (u : MS), e0 = .inr (v3, u) → ∀ (H : Heap) (locs : List Loc) (ls : Array Slot), wg D A s.heap H locs (wM cI ad u) → lv_has ls 5 [(3, .int v3)] → W p l e { frames := 7, cells := 0, slots := 0, locals := 162 } s m args below meth c H locs 0 0 Q (F0 m 102 ls [])) → (∀ (r : Int32) (u : MS), e0 = .inl (r, u) → Q = (qI D A (wM cI ad) below args s r u)) → W p l e { frames := 7, cells := 0, slots := 0, locals := 162 } s m args below meth c H locs 0 0 Q (F0 m 43 ls []) := by
  intro n
  induction n with
  | zero => intro v1 v3 v4 u H locs ls h; cases h
  | succ n ih =>
    intro v1 v3 v4 u H locs ls h G hl hX hR
    obtain ⟨q, h1, h2, h3⟩ := wh_at h
    exact b_X7_waits_L43_43 X K G hl (show f_X7_waits_L43_43 v1 v3 v4 u = some q from h1) (fun b0 b1 b2 b3 ee H locs ls G hl => ih b0 b1 b2 b3 (h2 _ ee) G hl hX hR) (fun z0 z1 ee => hX z0 z1 (h3 _ ee).symm) (fun r u ee => hR r u (h3 _ ee).symm)
noncomputable def f_X7_waits (a1 : Int32) (a2 : Int32) (u0 : MS) : Option (Int32 × MS) :=
  bnd (f_X7_isThing a1 u0) fun r1 u2 =>
  (if r1 = 0 then
    bnd (f_X7_finds (-1000001 : Int32) u2) fun r4 u5 =>
    some (r4, u5)
  else
    bnd (f_X7_isDay a2 u2) fun r6 u7 =>
    (if r6 = 0 then
      bnd (f_X7_finds (-1000001 : Int32) u7) fun r18 u19 =>
      some (r18, u19)
    else
      bnd (f_X7_beginsAt a1 a2 u7) fun r9 u10 =>
      (if 0 ≤ r9 then
        bne (wl f_X7_waits_L43_43s (a1, (0 : Int32), (1 : Int32), u10)) (fun a => some a) fun b =>
          nmv b.1 fun y15 =>
          nmv b.2 fun u14 =>
          some (y15, u14)
      else
        bnd (f_X7_finds (-1000004 : Int32) u10) fun r16 u17 =>
        some (r16, u17))))
set_option maxRecDepth 100000 in
set_option maxHeartbeats 4000000 in
theorem c_X7_waits {a1 : Int32} {a2 : Int32} {u0 : MS} {r : Int32} {u' : MS} (h : f_X7_waits a1 a2 u0 = some (r, u')) : MI l D cI cZ cQ adK adV A yX7_waits cX7_waits 5 (some .int) { frames := 7, cells := 0, slots := 0, locals := 162 } [.ref (ad 0), .int a1, .int a2] (wM cI ad) u0 r u' := by
  unfold f_X7_waits at h
  refine entI (by decide) (Nat.le_of_ble_eq_true rfl) (fun p e s m below meth c ls X K G hl => ?_)
  have hl : lv_has ls 5 [(0, .ref (ad 0)), (1, .int a1), (2, .int a2)] := hl
  obtain ⟨hx, hb, -⟩ := id X
  generalize hH : s.heap = H at G
  subst hH
  refine lv_aload_n hx hb dX7_waits_0 rfl (lv_at hl 0 rfl) ?_
  refine lv_iload_n hx hb dX7_waits_1 rfl (lv_at hl 1 rfl) ?_
  obtain ⟨r1, u2, er1, h⟩ := bnd_at h
  refine cvI (rest := []) X K G (c_X7_isThing er1) q_1116 my_X7_isThing ⟨rfl, rfl⟩ ⟨Nat.le_of_ble_eq_true rfl, Nat.le_of_ble_eq_true rfl⟩ ⟨Nat.zero_le _, Nat.zero_le _⟩ 0 7 rfl rfl rfl rfl hl.1 rfl (Nat.le_of_ble_eq_true rfl) dX7_waits_2 (fun H locs G => ?_)
  clear er1
  refine lv_if_eq (tgt := 15) hx hb dX7_waits_5 (by decide) (fun c3 => ?_) (fun c3 => ?_)
  · have h := it_at c3 h
    refine lv_aload_n hx hb dX7_waits_15 rfl (lv_at hl 0 rfl) ?_
    refine lv_ldc (v := -1000001) hx hb X.2.2.2.1 (X.2.2.2.2.1 _ q_975) dX7_waits_16 ?_
    obtain ⟨r4, u5, er4, h⟩ := bnd_at h
    refine cvI (rest := []) X K G (c_X7_finds er4) q_976 my_X7_finds ⟨rfl, rfl⟩ ⟨Nat.le_of_ble_eq_true rfl, Nat.le_of_ble_eq_true rfl⟩ ⟨Nat.zero_le _, Nat.zero_le _⟩ 0 7 rfl rfl rfl rfl hl.1 rfl (Nat.le_of_ble_eq_true rfl) dX7_waits_18 (fun H locs G => ?_)
    clear er4
    obtain ⟨rfl, rfl⟩ := pair_at h
    exact reI X G dX7_waits_21
  · have h := if_at c3 h
    refine lv_iload_n hx hb dX7_waits_8 rfl (lv_at hl 2 rfl) ?_
    obtain ⟨r6, u7, er6, h⟩ := bnd_at h
    refine csI (rest := []) X K G (c_X7_isDay er6) q_1088 my_X7_isDay ⟨rfl, rfl⟩ ⟨Nat.le_of_ble_eq_true rfl, Nat.le_of_ble_eq_true rfl⟩ ⟨Nat.zero_le _, Nat.zero_le _⟩ rfl hl.1 rfl (Nat.le_of_ble_eq_true rfl) dX7_waits_9 (fun H locs G => ?_)
    clear er6
    refine lv_if_ne (tgt := 22) hx hb dX7_waits_12 (by decide) (fun c8 => ?_) (fun c8 => ?_)
    · have h := if_at c8 h
      refine lv_aload_n hx hb dX7_waits_22 rfl (lv_at hl 0 rfl) ?_
      refine lv_iload_n hx hb dX7_waits_23 rfl (lv_at hl 1 rfl) ?_
      refine lv_iload_n hx hb dX7_waits_24 rfl (lv_at hl 2 rfl) ?_
      obtain ⟨r9, u10, er9, h⟩ := bnd_at h
      refine cvI (rest := []) X K G (c_X7_beginsAt er9) q_1199 my_X7_beginsAt ⟨rfl, rfl⟩ ⟨Nat.le_of_ble_eq_true rfl, Nat.le_of_ble_eq_true rfl⟩ ⟨Nat.zero_le _, Nat.zero_le _⟩ 0 7 rfl rfl rfl rfl hl.1 rfl (Nat.le_of_ble_eq_true rfl) dX7_waits_25 (fun H locs G => ?_)
      clear er9
      refine lv_if_ge (tgt := 38) hx hb dX7_waits_28 (by decide) (fun c11 => ?_) (fun c11 => ?_)
      · have h := it_at c11 h
        refine lv_iconst (v := 0) hx hb dX7_waits_38 (by decide) ?_
        refine lv_istore_n (lv' := [(3, .int (0 : Int32)), (0, .ref (ad 0)), (1, .int a1), (2, .int a2)]) hx hb dX7_waits_39 rfl hl (by decide) rfl (fun ls hl => ?_)
        refine lv_iconst (v := 1) hx hb dX7_waits_40 (by decide) ?_
        refine lv_istore (lv' := [(4, .int (1 : Int32)), (3, .int (0 : Int32)), (0, .ref (ad 0)), (1, .int a1), (2, .int a2)]) hx hb dX7_waits_41 hl (by decide) rfl (fun ls hl => ?_)
        obtain ⟨q13, hq13, ha, hb1⟩ := bne_at h
        obtain ⟨n12, hn12⟩ := wl_iff.mp hq13
        refine w_X7_waits_L43_43 X K n12 _ _ _ _ hn12 G (lv_sub hl [2, 3, 1, 0] rfl) (fun y15 u14 ee H locs ls G hl => ?_) (fun r u1 ee => by obtain ⟨rfl, rfl⟩ := pair_at (ha _ ee); rfl)
        have h := hb1 _ ee
        clear ee ha hb1 hq13 hn12
        have h := nm_at (x := y15) rfl h
        have h := nm_at (x := u14) rfl h
        refine lv_iload_n hx hb dX7_waits_102 rfl (lv_at hl 0 rfl) ?_
        obtain ⟨rfl, rfl⟩ := pair_at h
        exact reI X G dX7_waits_103
      · have h := if_at c11 h
        refine lv_aload_n hx hb dX7_waits_31 rfl (lv_at hl 0 rfl) ?_
        refine lv_ldc (v := -1000004) hx hb X.2.2.2.1 (X.2.2.2.2.1 _ q_1178) dX7_waits_32 ?_
        obtain ⟨r16, u17, er16, h⟩ := bnd_at h
        refine cvI (rest := []) X K G (c_X7_finds er16) q_976 my_X7_finds ⟨rfl, rfl⟩ ⟨Nat.le_of_ble_eq_true rfl, Nat.le_of_ble_eq_true rfl⟩ ⟨Nat.zero_le _, Nat.zero_le _⟩ 0 7 rfl rfl rfl rfl hl.1 rfl (Nat.le_of_ble_eq_true rfl) dX7_waits_34 (fun H locs G => ?_)
        clear er16
        obtain ⟨rfl, rfl⟩ := pair_at h
        exact reI X G dX7_waits_37
    · have h := it_at c8 h
      refine lv_aload_n hx hb dX7_waits_15 rfl (lv_at hl 0 rfl) ?_
      refine lv_ldc (v := -1000001) hx hb X.2.2.2.1 (X.2.2.2.2.1 _ q_975) dX7_waits_16 ?_
      obtain ⟨r18, u19, er18, h⟩ := bnd_at h
      refine cvI (rest := []) X K G (c_X7_finds er18) q_976 my_X7_finds ⟨rfl, rfl⟩ ⟨Nat.le_of_ble_eq_true rfl, Nat.le_of_ble_eq_true rfl⟩ ⟨Nat.zero_le _, Nat.zero_le _⟩ 0 7 rfl rfl rfl rfl hl.1 rfl (Nat.le_of_ble_eq_true rfl) dX7_waits_18 (fun H locs G => ?_)
      clear er18
      obtain ⟨rfl, rfl⟩ := pair_at h
      exact reI X G dX7_waits_21
noncomputable def f_X7_order (a1 : Int32) (a2 : Int32) (a3 : Int32) (u0 : MS) : Option (Int32 × MS) :=
  bnd (f_X7_isThing a1 u0) fun r1 u2 =>
  (if r1 = 0 then
    bnd (f_X7_finds (-1000001 : Int32) u2) fun r4 u5 =>
    some (r4, u5)
  else
    bnd (f_X7_in (a2.toInt64) (0 : Int64) (399 : Int64) u2) fun r6 u7 =>
    (if r6 = 0 then
      bnd (f_X7_finds (-1000001 : Int32) u7) fun r9 u10 =>
      some (r9, u10)
    else
      bnd (f_X7_in (a3.toInt64) (1 : Int64) (99 : Int64) u7) fun r11 u12 =>
      (if r11 = 0 then
        bnd (f_X7_finds (-1000001 : Int32) u12) fun r28 u29 =>
        some (r28, u29)
      else
        (if ((m_m u12) (4 : Int32).toNatClampNeg) = (5 : Int32) then
          bnd (f_X7_finds (-1000002 : Int32) u12) fun r26 u27 =>
          some (r26, u27)
        else
          nmv ((222 : Int32) + ((3 : Int32) * ((m_m u12) (4 : Int32).toNatClampNeg))) fun x15 =>
          if x15 < 0 ∨ 247 ≤ x15.toNatClampNeg then none else
          nmv (mu_m u12 (upd (m_m u12) x15.toNatClampNeg a1)) fun u17 =>
          nmv (x15 + (1 : Int32)) fun x18 =>
          if x18 < 0 ∨ 247 ≤ x18.toNatClampNeg then none else
          nmv (mu_m u17 (upd (m_m u17) x18.toNatClampNeg a2)) fun u20 =>
          nmv (x15 + (2 : Int32)) fun x21 =>
          if x21 < 0 ∨ 247 ≤ x21.toNatClampNeg then none else
          nmv (mu_m u20 (upd (m_m u20) x21.toNatClampNeg a3)) fun u23 =>
          nmv (((m_m u23) (4 : Int32).toNatClampNeg) + (1 : Int32)) fun x24 =>
          nmv (mu_m u23 (upd (m_m u23) (4 : Int32).toNatClampNeg x24)) fun u25 =>
          some (((m_m u25) (4 : Int32).toNatClampNeg) - (1 : Int32), u25)))))
set_option maxRecDepth 100000 in
set_option maxHeartbeats 4000000 in
theorem c_X7_order {a1 : Int32} {a2 : Int32} {a3 : Int32} {u0 : MS} {r : Int32} {u' : MS} (h : f_X7_order a1 a2 a3 u0 = some (r, u')) : MI l D cI cZ cQ adK adV A yX7_order cX7_order 5 (some .int) { frames := 2, cells := 0, slots := 0, locals := 46 } [.ref (ad 0), .int a1, .int a2, .int a3] (wM cI ad) u0 r u' := by
  unfold f_X7_order at h
  refine entI (by decide) (Nat.le_of_ble_eq_true rfl) (fun p e s m below meth c ls X K G hl => ?_)
  have hl : lv_has ls 5 [(0, .ref (ad 0)), (1, .int a1), (2, .int a2), (3, .int a3)] := hl
  obtain ⟨hx, hb, -⟩ := id X
  generalize hH : s.heap = H at G
  subst hH
  refine lv_aload_n hx hb dX7_order_0 rfl (lv_at hl 0 rfl) ?_
  refine lv_iload_n hx hb dX7_order_1 rfl (lv_at hl 1 rfl) ?_
  obtain ⟨r1, u2, er1, h⟩ := bnd_at h
  refine cvI (rest := []) X K G (c_X7_isThing er1) q_1116 my_X7_isThing ⟨rfl, rfl⟩ ⟨Nat.le_of_ble_eq_true rfl, Nat.le_of_ble_eq_true rfl⟩ ⟨Nat.zero_le _, Nat.zero_le _⟩ 0 7 rfl rfl rfl rfl hl.1 rfl (Nat.le_of_ble_eq_true rfl) dX7_order_2 (fun H locs G => ?_)
  clear er1
  refine lv_if_eq (tgt := 32) hx hb dX7_order_5 (by decide) (fun c3 => ?_) (fun c3 => ?_)
  · have h := it_at c3 h
    refine lv_aload_n hx hb dX7_order_32 rfl (lv_at hl 0 rfl) ?_
    refine lv_ldc (v := -1000001) hx hb X.2.2.2.1 (X.2.2.2.2.1 _ q_975) dX7_order_33 ?_
    obtain ⟨r4, u5, er4, h⟩ := bnd_at h
    refine cvI (rest := []) X K G (c_X7_finds er4) q_976 my_X7_finds ⟨rfl, rfl⟩ ⟨Nat.le_of_ble_eq_true rfl, Nat.le_of_ble_eq_true rfl⟩ ⟨Nat.zero_le _, Nat.zero_le _⟩ 0 7 rfl rfl rfl rfl hl.1 rfl (Nat.le_of_ble_eq_true rfl) dX7_order_35 (fun H locs G => ?_)
    clear er4
    obtain ⟨rfl, rfl⟩ := pair_at h
    exact reI X G dX7_order_38
  · have h := if_at c3 h
    refine lv_iload_n hx hb dX7_order_8 rfl (lv_at hl 2 rfl) ?_
    refine lv_i2l hx hb dX7_order_9 rfl ?_
    refine lv_lconst (v := 0) hx hb dX7_order_10 (by decide) ?_
    refine lv_ldc2 (v := 399) hx hb X.2.2.2.1 (X.2.2.2.2.1 _ q_1224) dX7_order_11 ?_
    obtain ⟨r6, u7, er6, h⟩ := bnd_at h
    refine csI (rest := []) X K G (c_X7_in er6) q_972 my_X7_in ⟨rfl, rfl⟩ ⟨Nat.le_of_ble_eq_true rfl, Nat.le_of_ble_eq_true rfl⟩ ⟨Nat.zero_le _, Nat.zero_le _⟩ rfl hl.1 rfl (Nat.le_of_ble_eq_true rfl) dX7_order_14 (fun H locs G => ?_)
    clear er6
    refine lv_if_eq (tgt := 32) hx hb dX7_order_17 (by decide) (fun c8 => ?_) (fun c8 => ?_)
    · have h := it_at c8 h
      refine lv_aload_n hx hb dX7_order_32 rfl (lv_at hl 0 rfl) ?_
      refine lv_ldc (v := -1000001) hx hb X.2.2.2.1 (X.2.2.2.2.1 _ q_975) dX7_order_33 ?_
      obtain ⟨r9, u10, er9, h⟩ := bnd_at h
      refine cvI (rest := []) X K G (c_X7_finds er9) q_976 my_X7_finds ⟨rfl, rfl⟩ ⟨Nat.le_of_ble_eq_true rfl, Nat.le_of_ble_eq_true rfl⟩ ⟨Nat.zero_le _, Nat.zero_le _⟩ 0 7 rfl rfl rfl rfl hl.1 rfl (Nat.le_of_ble_eq_true rfl) dX7_order_35 (fun H locs G => ?_)
      clear er9
      obtain ⟨rfl, rfl⟩ := pair_at h
      exact reI X G dX7_order_38
    · have h := if_at c8 h
      refine lv_iload_n hx hb dX7_order_20 rfl (lv_at hl 3 rfl) ?_
      refine lv_i2l hx hb dX7_order_21 rfl ?_
      refine lv_lconst (v := 1) hx hb dX7_order_22 (by decide) ?_
      refine lv_ldc2 (v := 99) hx hb X.2.2.2.1 (X.2.2.2.2.1 _ q_1120) dX7_order_23 ?_
      obtain ⟨r11, u12, er11, h⟩ := bnd_at h
      refine csI (rest := []) X K G (c_X7_in er11) q_972 my_X7_in ⟨rfl, rfl⟩ ⟨Nat.le_of_ble_eq_true rfl, Nat.le_of_ble_eq_true rfl⟩ ⟨Nat.zero_le _, Nat.zero_le _⟩ rfl hl.1 rfl (Nat.le_of_ble_eq_true rfl) dX7_order_26 (fun H locs G => ?_)
      clear er11
      refine lv_if_ne (tgt := 39) hx hb dX7_order_29 (by decide) (fun c13 => ?_) (fun c13 => ?_)
      · have h := if_at c13 h
        refine lv_aload_n hx hb dX7_order_39 rfl (lv_at hl 0 rfl) ?_
        refine gM_0_0 X K G q_906 dX7_order_40 ?_
        refine lv_iconst (v := 4) hx hb dX7_order_43 (by decide) ?_
        refine lM_1 X K G (by decide) dX7_order_44 ?_
        refine lv_iconst (v := 5) hx hb dX7_order_45 (by decide) ?_
        refine lv_icmp_ne (tgt := 56) hx hb dX7_order_46 (by decide) (fun c14 => ?_) (fun c14 => ?_)
        · have h := if_at c14 h
          refine lv_sipush (v := 222) hx hb dX7_order_56 (by decide) ?_
          refine lv_iconst (v := 3) hx hb dX7_order_59 (by decide) ?_
          refine lv_aload_n hx hb dX7_order_60 rfl (lv_at hl 0 rfl) ?_
          refine gM_0_0 X K G q_906 dX7_order_61 ?_
          refine lv_iconst (v := 4) hx hb dX7_order_64 (by decide) ?_
          refine lM_1 X K G (by decide) dX7_order_65 ?_
          refine lv_imul hx hb dX7_order_66 ?_
          refine lv_iadd hx hb dX7_order_67 ?_
          refine lv_topi (fun x15 ex15 => ?_)
          have h := nm_at ex15 h
          refine lv_istore (lv' := [(4, .int x15), (0, .ref (ad 0)), (1, .int a1), (2, .int a2), (3, .int a3)]) hx hb dX7_order_68 hl (by decide) rfl (fun ls hl => ?_)
          refine lv_aload_n hx hb dX7_order_70 rfl (lv_at hl 1 rfl) ?_
          refine gM_0_0 X K G q_906 dX7_order_71 ?_
          refine lv_iload hx hb dX7_order_74 (lv_at hl 0 rfl) ?_
          refine lv_iload_n hx hb dX7_order_76 rfl (lv_at hl 2 rfl) ?_
          obtain ⟨g16, h⟩ := ck_at h
          refine aM_1 X K G g16 dX7_order_77 (fun H locs G => ?_)
          obtain ⟨u17, eu17⟩ : ∃ z : MS, z = mu_m u12 (upd (m_m u12) x15.toNatClampNeg a1) := ⟨_, rfl⟩
          have G : wg D A s.heap H locs (wM cI ad u17) := by rw [eu17]; exact G
          have h := nm_at eu17 h
          clear eu17
          refine lv_aload_n hx hb dX7_order_78 rfl (lv_at hl 1 rfl) ?_
          refine gM_0_0 X K G q_906 dX7_order_79 ?_
          refine lv_iload hx hb dX7_order_82 (lv_at hl 0 rfl) ?_
          refine lv_iconst (v := 1) hx hb dX7_order_84 (by decide) ?_
          refine lv_iadd hx hb dX7_order_85 ?_
          refine lv_iload_n hx hb dX7_order_86 rfl (lv_at hl 3 rfl) ?_
          refine nm2 (fun x18 ex18 => ?_)
          have h := nm_at ex18 h
          obtain ⟨g19, h⟩ := ck_at h
          refine aM_1 X K G g19 dX7_order_87 (fun H locs G => ?_)
          obtain ⟨u20, eu20⟩ : ∃ z : MS, z = mu_m u17 (upd (m_m u17) x18.toNatClampNeg a2) := ⟨_, rfl⟩
          have G : wg D A s.heap H locs (wM cI ad u20) := by rw [eu20]; exact G
          have h := nm_at eu20 h
          clear eu20
          refine lv_aload_n hx hb dX7_order_88 rfl (lv_at hl 1 rfl) ?_
          refine gM_0_0 X K G q_906 dX7_order_89 ?_
          refine lv_iload hx hb dX7_order_92 (lv_at hl 0 rfl) ?_
          refine lv_iconst (v := 2) hx hb dX7_order_94 (by decide) ?_
          refine lv_iadd hx hb dX7_order_95 ?_
          refine lv_iload_n hx hb dX7_order_96 rfl (lv_at hl 4 rfl) ?_
          refine nm2 (fun x21 ex21 => ?_)
          have h := nm_at ex21 h
          obtain ⟨g22, h⟩ := ck_at h
          refine aM_1 X K G g22 dX7_order_97 (fun H locs G => ?_)
          obtain ⟨u23, eu23⟩ : ∃ z : MS, z = mu_m u20 (upd (m_m u20) x21.toNatClampNeg a3) := ⟨_, rfl⟩
          have G : wg D A s.heap H locs (wM cI ad u23) := by rw [eu23]; exact G
          have h := nm_at eu23 h
          clear eu23
          refine lv_aload_n hx hb dX7_order_98 rfl (lv_at hl 1 rfl) ?_
          refine gM_0_0 X K G q_906 dX7_order_99 ?_
          refine lv_iconst (v := 4) hx hb dX7_order_102 (by decide) ?_
          refine lv_dup2_11 hx hb dX7_order_103 rfl rfl ?_
          refine lM_1 X K G (by decide) dX7_order_104 ?_
          refine lv_iconst (v := 1) hx hb dX7_order_105 (by decide) ?_
          refine lv_iadd hx hb dX7_order_106 ?_
          refine lv_topi (fun x24 ex24 => ?_)
          have h := nm_at ex24 h
          refine aM_1 X K G (by decide) dX7_order_107 (fun H locs G => ?_)
          obtain ⟨u25, eu25⟩ : ∃ z : MS, z = mu_m u23 (upd (m_m u23) (4 : Int32).toNatClampNeg x24) := ⟨_, rfl⟩
          have G : wg D A s.heap H locs (wM cI ad u25) := by rw [eu25]; exact G
          have h := nm_at eu25 h
          clear eu25
          refine lv_aload_n hx hb dX7_order_108 rfl (lv_at hl 1 rfl) ?_
          refine gM_0_0 X K G q_906 dX7_order_109 ?_
          refine lv_iconst (v := 4) hx hb dX7_order_112 (by decide) ?_
          refine lM_1 X K G (by decide) dX7_order_113 ?_
          refine lv_iconst (v := 1) hx hb dX7_order_114 (by decide) ?_
          refine lv_isub hx hb dX7_order_115 ?_
          obtain ⟨rfl, rfl⟩ := pair_at h
          exact reI X G dX7_order_116
        · have h := it_at c14 h
          refine lv_aload_n hx hb dX7_order_49 rfl (lv_at hl 0 rfl) ?_
          refine lv_ldc (v := -1000002) hx hb X.2.2.2.1 (X.2.2.2.2.1 _ q_980) dX7_order_50 ?_
          obtain ⟨r26, u27, er26, h⟩ := bnd_at h
          refine cvI (rest := []) X K G (c_X7_finds er26) q_976 my_X7_finds ⟨rfl, rfl⟩ ⟨Nat.le_of_ble_eq_true rfl, Nat.le_of_ble_eq_true rfl⟩ ⟨Nat.zero_le _, Nat.zero_le _⟩ 0 7 rfl rfl rfl rfl hl.1 rfl (Nat.le_of_ble_eq_true rfl) dX7_order_52 (fun H locs G => ?_)
          clear er26
          obtain ⟨rfl, rfl⟩ := pair_at h
          exact reI X G dX7_order_55
      · have h := it_at c13 h
        refine lv_aload_n hx hb dX7_order_32 rfl (lv_at hl 0 rfl) ?_
        refine lv_ldc (v := -1000001) hx hb X.2.2.2.1 (X.2.2.2.2.1 _ q_975) dX7_order_33 ?_
        obtain ⟨r28, u29, er28, h⟩ := bnd_at h
        refine cvI (rest := []) X K G (c_X7_finds er28) q_976 my_X7_finds ⟨rfl, rfl⟩ ⟨Nat.le_of_ble_eq_true rfl, Nat.le_of_ble_eq_true rfl⟩ ⟨Nat.zero_le _, Nat.zero_le _⟩ 0 7 rfl rfl rfl rfl hl.1 rfl (Nat.le_of_ble_eq_true rfl) dX7_order_35 (fun H locs G => ?_)
        clear er28
        obtain ⟨rfl, rfl⟩ := pair_at h
        exact reI X G dX7_order_38
noncomputable def f_X7_orderOf (a1 : Int32) (a2 : Int32) (u0 : MS) : Option (Int32 × MS) :=
  bnd (f_X7_in (a1.toInt64) (0 : Int64) ((((m_m u0) (4 : Int32).toNatClampNeg) - (1 : Int32)).toInt64) u0) fun r1 u2 =>
  (if r1 = 0 then
    bnd (f_X7_finds (-1000001 : Int32) u2) fun r4 u5 =>
    some (r4, u5)
  else
    bnd (f_X7_in (a2.toInt64) (0 : Int64) (2 : Int64) u2) fun r6 u7 =>
    (if r6 = 0 then
      bnd (f_X7_finds (-1000001 : Int32) u7) fun r9 u10 =>
      some (r9, u10)
    else
      nmv (((222 : Int32) + ((3 : Int32) * a1)) + a2) fun x11 =>
      if x11 < 0 ∨ 247 ≤ x11.toNatClampNeg then none else
      some ((m_m u7) x11.toNatClampNeg, u7)))
set_option maxRecDepth 100000 in
set_option maxHeartbeats 4000000 in
theorem c_X7_orderOf {a1 : Int32} {a2 : Int32} {u0 : MS} {r : Int32} {u' : MS} (h : f_X7_orderOf a1 a2 u0 = some (r, u')) : MI l D cI cZ cQ adK adV A yX7_orderOf cX7_orderOf 3 (some .int) { frames := 1, cells := 0, slots := 0, locals := 25 } [.ref (ad 0), .int a1, .int a2] (wM cI ad) u0 r u' := by
  unfold f_X7_orderOf at h
  refine entI (by decide) (Nat.le_of_ble_eq_true rfl) (fun p e s m below meth c ls X K G hl => ?_)
  have hl : lv_has ls 3 [(0, .ref (ad 0)), (1, .int a1), (2, .int a2)] := hl
  obtain ⟨hx, hb, -⟩ := id X
  generalize hH : s.heap = H at G
  subst hH
  refine lv_iload_n hx hb dX7_orderOf_0 rfl (lv_at hl 1 rfl) ?_
  refine lv_i2l hx hb dX7_orderOf_1 rfl ?_
  refine lv_lconst (v := 0) hx hb dX7_orderOf_2 (by decide) ?_
  refine lv_aload_n hx hb dX7_orderOf_3 rfl (lv_at hl 0 rfl) ?_
  refine gM_0_0 X K G q_906 dX7_orderOf_4 ?_
  refine lv_iconst (v := 4) hx hb dX7_orderOf_7 (by decide) ?_
  refine lM_1 X K G (by decide) dX7_orderOf_8 ?_
  refine lv_iconst (v := 1) hx hb dX7_orderOf_9 (by decide) ?_
  refine lv_isub hx hb dX7_orderOf_10 ?_
  refine lv_i2l hx hb dX7_orderOf_11 rfl ?_
  obtain ⟨r1, u2, er1, h⟩ := bnd_at h
  refine csI (rest := []) X K G (c_X7_in er1) q_972 my_X7_in ⟨rfl, rfl⟩ ⟨Nat.le_of_ble_eq_true rfl, Nat.le_of_ble_eq_true rfl⟩ ⟨Nat.zero_le _, Nat.zero_le _⟩ rfl hl.1 rfl (Nat.le_of_ble_eq_true rfl) dX7_orderOf_12 (fun H locs G => ?_)
  clear er1
  refine lv_if_eq (tgt := 47) hx hb dX7_orderOf_15 (by decide) (fun c3 => ?_) (fun c3 => ?_)
  · have h := it_at c3 h
    refine lv_aload_n hx hb dX7_orderOf_47 rfl (lv_at hl 0 rfl) ?_
    refine lv_ldc (v := -1000001) hx hb X.2.2.2.1 (X.2.2.2.2.1 _ q_975) dX7_orderOf_48 ?_
    obtain ⟨r4, u5, er4, h⟩ := bnd_at h
    refine cvI (rest := []) X K G (c_X7_finds er4) q_976 my_X7_finds ⟨rfl, rfl⟩ ⟨Nat.le_of_ble_eq_true rfl, Nat.le_of_ble_eq_true rfl⟩ ⟨Nat.zero_le _, Nat.zero_le _⟩ 0 7 rfl rfl rfl rfl hl.1 rfl (Nat.le_of_ble_eq_true rfl) dX7_orderOf_50 (fun H locs G => ?_)
    clear er4
    obtain ⟨rfl, rfl⟩ := pair_at h
    exact reI X G dX7_orderOf_53
  · have h := if_at c3 h
    refine lv_iload_n hx hb dX7_orderOf_18 rfl (lv_at hl 2 rfl) ?_
    refine lv_i2l hx hb dX7_orderOf_19 rfl ?_
    refine lv_lconst (v := 0) hx hb dX7_orderOf_20 (by decide) ?_
    refine lv_ldc2 (v := 2) hx hb X.2.2.2.1 (X.2.2.2.2.1 _ q_1138) dX7_orderOf_21 ?_
    obtain ⟨r6, u7, er6, h⟩ := bnd_at h
    refine csI (rest := []) X K G (c_X7_in er6) q_972 my_X7_in ⟨rfl, rfl⟩ ⟨Nat.le_of_ble_eq_true rfl, Nat.le_of_ble_eq_true rfl⟩ ⟨Nat.zero_le _, Nat.zero_le _⟩ rfl hl.1 rfl (Nat.le_of_ble_eq_true rfl) dX7_orderOf_24 (fun H locs G => ?_)
    clear er6
    refine lv_if_eq (tgt := 47) hx hb dX7_orderOf_27 (by decide) (fun c8 => ?_) (fun c8 => ?_)
    · have h := it_at c8 h
      refine lv_aload_n hx hb dX7_orderOf_47 rfl (lv_at hl 0 rfl) ?_
      refine lv_ldc (v := -1000001) hx hb X.2.2.2.1 (X.2.2.2.2.1 _ q_975) dX7_orderOf_48 ?_
      obtain ⟨r9, u10, er9, h⟩ := bnd_at h
      refine cvI (rest := []) X K G (c_X7_finds er9) q_976 my_X7_finds ⟨rfl, rfl⟩ ⟨Nat.le_of_ble_eq_true rfl, Nat.le_of_ble_eq_true rfl⟩ ⟨Nat.zero_le _, Nat.zero_le _⟩ 0 7 rfl rfl rfl rfl hl.1 rfl (Nat.le_of_ble_eq_true rfl) dX7_orderOf_50 (fun H locs G => ?_)
      clear er9
      obtain ⟨rfl, rfl⟩ := pair_at h
      exact reI X G dX7_orderOf_53
    · have h := if_at c8 h
      refine lv_aload_n hx hb dX7_orderOf_30 rfl (lv_at hl 0 rfl) ?_
      refine gM_0_0 X K G q_906 dX7_orderOf_31 ?_
      refine lv_sipush (v := 222) hx hb dX7_orderOf_34 (by decide) ?_
      refine lv_iconst (v := 3) hx hb dX7_orderOf_37 (by decide) ?_
      refine lv_iload_n hx hb dX7_orderOf_38 rfl (lv_at hl 1 rfl) ?_
      refine lv_imul hx hb dX7_orderOf_39 ?_
      refine lv_iadd hx hb dX7_orderOf_40 ?_
      refine lv_iload_n hx hb dX7_orderOf_41 rfl (lv_at hl 2 rfl) ?_
      refine lv_iadd hx hb dX7_orderOf_42 ?_
      refine lv_topi (fun x11 ex11 => ?_)
      have h := nm_at ex11 h
      obtain ⟨g12, h⟩ := ck_at h
      refine lM_1 X K G g12 dX7_orderOf_43 ?_
      refine lv_goto (tgt := 53) hx hb dX7_orderOf_44 (by decide) ?_
      obtain ⟨rfl, rfl⟩ := pair_at h
      exact reI X G dX7_orderOf_53
end WALK_ref2
