section WALK_ref5
variable {p : Program} {l : Launch} {e : Env} {s : State} {m : MethodId} {args : Array Value} {below : List Frame} {meth : Method} {c : Code} {H : Heap} {locs : List Loc} {Q : State → Prop} {D : va_G} {cI cZ cQ : ClassId} {adK adV ad : Nat → Nat} {A : Nat → Prop} {ls : Array Slot}
noncomputable def f_X7_isRight_17 (v1 : Int32) (v2 : Int32) (v3 : Int32) (v4 : Int32) (u0 : MS) : Option (Int32 × MS) :=
  bnd (f_X7_nextOf v1 v2 v4 u0) fun r1 u2 =>
  (if r1 = v3 then
    (if v2 = 0 then
      some ((1 : Int32), u2)
    else
      bnd (f_X7_of v1 v2 (2 : Int32) u2) fun r5 u6 =>
      (if r5 < (v3 - v4) then
        some ((0 : Int32), u6)
      else
        some ((1 : Int32), u6)))
  else
    some ((0 : Int32), u2))
set_option maxRecDepth 100000 in
set_option maxHeartbeats 4000000 in
theorem b_X7_isRight_17 (X : cx p s m args meth c cX7_isRight 5 RX7 (some .boolean)) (K : kx D cI cZ cQ adK adV A s s.heap) {v1 : Int32} {v2 : Int32} {v3 : Int32} {v4 : Int32} {u0 : MS} (G : wg D A s.heap H locs (wM cI ad u0)) (hl : lv_has ls 5 [(0, .ref (ad 0)), (1, .int v1), (2, .int v2), (3, .int v3), (4, .int v4)]) {r : Int32} {u' : MS} (h : f_X7_isRight_17 v1 v2 v3 v4 u0 = some (r, u')) : W p l e { frames := 5, cells := 0, slots := 0, locals := 114 } s m args below meth c H locs 0 0 (qI D A (wM cI ad) below args s r u') (F0 m 17 ls []) := by
  unfold f_X7_isRight_17 at h
  obtain ⟨hx, hb, -⟩ := id X
  refine lv_aload_n hx hb dX7_isRight_17 rfl (lv_at hl 0 rfl) ?_
  refine lv_iload_n hx hb dX7_isRight_18 rfl (lv_at hl 1 rfl) ?_
  refine lv_iload_n hx hb dX7_isRight_19 rfl (lv_at hl 2 rfl) ?_
  refine lv_iload hx hb dX7_isRight_20 (lv_at hl 4 rfl) ?_
  obtain ⟨r1, u2, er1, h⟩ := bnd_at h
  refine cvI (rest := []) X K G (c_X7_nextOf er1) q_1155 my_X7_nextOf ⟨rfl, rfl⟩ ⟨Nat.le_of_ble_eq_true rfl, Nat.le_of_ble_eq_true rfl⟩ ⟨Nat.zero_le _, Nat.zero_le _⟩ 0 7 rfl rfl rfl rfl hl.1 rfl (Nat.le_of_ble_eq_true rfl) dX7_isRight_22 (fun H locs G => ?_)
  clear er1
  refine lv_iload_n hx hb dX7_isRight_25 rfl (lv_at hl 3 rfl) ?_
  refine lv_icmp_ne (tgt := 51) hx hb dX7_isRight_26 (by decide) (fun c3 => ?_) (fun c3 => ?_)
  · have h := if_at c3 h
    refine lv_iconst (v := 0) hx hb dX7_isRight_51 (by decide) ?_
    obtain ⟨rfl, rfl⟩ := pair_at h
    exact reZ X G (Or.inl rfl) dX7_isRight_52
  · have h := it_at c3 h
    refine lv_iload_n hx hb dX7_isRight_29 rfl (lv_at hl 2 rfl) ?_
    refine lv_if_eq (tgt := 47) hx hb dX7_isRight_30 (by decide) (fun c4 => ?_) (fun c4 => ?_)
    · have h := it_at c4 h
      refine lv_iconst (v := 1) hx hb dX7_isRight_47 (by decide) ?_
      refine lv_goto (tgt := 52) hx hb dX7_isRight_48 (by decide) ?_
      obtain ⟨rfl, rfl⟩ := pair_at h
      exact reZ X G (Or.inr rfl) dX7_isRight_52
    · have h := if_at c4 h
      refine lv_iload_n hx hb dX7_isRight_33 rfl (lv_at hl 3 rfl) ?_
      refine lv_iload hx hb dX7_isRight_34 (lv_at hl 4 rfl) ?_
      refine lv_isub hx hb dX7_isRight_36 ?_
      refine lv_aload_n hx hb dX7_isRight_37 rfl (lv_at hl 0 rfl) ?_
      refine lv_iload_n hx hb dX7_isRight_38 rfl (lv_at hl 1 rfl) ?_
      refine lv_iload_n hx hb dX7_isRight_39 rfl (lv_at hl 2 rfl) ?_
      refine lv_iconst (v := 2) hx hb dX7_isRight_40 (by decide) ?_
      obtain ⟨r5, u6, er5, h⟩ := bnd_at h
      refine cvI (rest := [.int (v3 - v4)]) X K G (c_X7_of er5) q_1139 my_X7_of ⟨rfl, rfl⟩ ⟨Nat.le_of_ble_eq_true rfl, Nat.le_of_ble_eq_true rfl⟩ ⟨Nat.zero_le _, Nat.zero_le _⟩ 0 7 rfl rfl rfl rfl hl.1 rfl (Nat.le_of_ble_eq_true rfl) dX7_isRight_41 (fun H locs G => ?_)
      clear er5
      refine lv_icmp_gt (tgt := 51) hx hb dX7_isRight_44 (by decide) (fun c7 => ?_) (fun c7 => ?_)
      · have h := it_at c7 h
        refine lv_iconst (v := 0) hx hb dX7_isRight_51 (by decide) ?_
        obtain ⟨rfl, rfl⟩ := pair_at h
        exact reZ X G (Or.inl rfl) dX7_isRight_52
      · have h := if_at c7 h
        refine lv_iconst (v := 1) hx hb dX7_isRight_47 (by decide) ?_
        refine lv_goto (tgt := 52) hx hb dX7_isRight_48 (by decide) ?_
        obtain ⟨rfl, rfl⟩ := pair_at h
        exact reZ X G (Or.inr rfl) dX7_isRight_52
noncomputable def f_X7_isRight (a1 : Int32) (a2 : Int32) (a3 : Int32) (a4 : Int32) (u0 : MS) : Option (Int32 × MS) :=
  (if a3 < 0 then
    some ((0 : Int32), u0)
  else
    (if a2 = 0 then
      bnd (f_X7_isDay a3 u0) fun r3 u4 =>
      (if r3 = 0 then
        some ((0 : Int32), u4)
      else
        f_X7_isRight_17 a1 a2 a3 a4 u4)
    else
      f_X7_isRight_17 a1 a2 a3 a4 u0))
set_option maxRecDepth 100000 in
set_option maxHeartbeats 4000000 in
theorem c_X7_isRight {a1 : Int32} {a2 : Int32} {a3 : Int32} {a4 : Int32} {u0 : MS} {r : Int32} {u' : MS} (h : f_X7_isRight a1 a2 a3 a4 u0 = some (r, u')) : MI l D cI cZ cQ adK adV A yX7_isRight cX7_isRight 5 (some .boolean) { frames := 5, cells := 0, slots := 0, locals := 114 } [.ref (ad 0), .int a1, .int a2, .int a3, .int a4] (wM cI ad) u0 r u' := by
  unfold f_X7_isRight at h
  refine entI (by decide) (Nat.le_of_ble_eq_true rfl) (fun p e s m below meth c ls X K G hl => ?_)
  have hl : lv_has ls 5 [(0, .ref (ad 0)), (1, .int a1), (2, .int a2), (3, .int a3), (4, .int a4)] := hl
  obtain ⟨hx, hb, -⟩ := id X
  generalize hH : s.heap = H at G
  subst hH
  refine lv_iload_n hx hb dX7_isRight_0 rfl (lv_at hl 3 rfl) ?_
  refine lv_if_lt (tgt := 15) hx hb dX7_isRight_1 (by decide) (fun c1 => ?_) (fun c1 => ?_)
  · have h := it_at c1 h
    refine lv_iconst (v := 0) hx hb dX7_isRight_15 (by decide) ?_
    obtain ⟨rfl, rfl⟩ := pair_at h
    exact reZ X G (Or.inl rfl) dX7_isRight_16
  · have h := if_at c1 h
    refine lv_iload_n hx hb dX7_isRight_4 rfl (lv_at hl 2 rfl) ?_
    refine lv_if_ne (tgt := 17) hx hb dX7_isRight_5 (by decide) (fun c2 => ?_) (fun c2 => ?_)
    · have h := if_at c2 h
      exact b_X7_isRight_17 X K G (lv_sub hl [0, 1, 2, 3, 4] rfl) h
    · have h := it_at c2 h
      refine lv_iload_n hx hb dX7_isRight_8 rfl (lv_at hl 3 rfl) ?_
      obtain ⟨r3, u4, er3, h⟩ := bnd_at h
      refine csI (rest := []) X K G (c_X7_isDay er3) q_1088 my_X7_isDay ⟨rfl, rfl⟩ ⟨Nat.le_of_ble_eq_true rfl, Nat.le_of_ble_eq_true rfl⟩ ⟨Nat.zero_le _, Nat.zero_le _⟩ rfl hl.1 rfl (Nat.le_of_ble_eq_true rfl) dX7_isRight_9 (fun H locs G => ?_)
      clear er3
      refine lv_if_ne (tgt := 17) hx hb dX7_isRight_12 (by decide) (fun c5 => ?_) (fun c5 => ?_)
      · have h := if_at c5 h
        exact b_X7_isRight_17 X K G (lv_sub hl [0, 1, 2, 3, 4] rfl) h
      · have h := it_at c5 h
        refine lv_iconst (v := 0) hx hb dX7_isRight_15 (by decide) ?_
        obtain ⟨rfl, rfl⟩ := pair_at h
        exact reZ X G (Or.inl rfl) dX7_isRight_16
noncomputable def f_X7_judge_L48_100 (v1 : Int32) (v2 : Int32) (v3 : Int32) (k1 : Int32) (k2 : Int32) (k3 : Int32) (k5 : Int32) (k6 : Int32) (u0 : MS) : Option ((Int32 × Int32 × Int32 × MS) ⊕ ((Int32 × MS) ⊕ (Int32 × Int32 × Int32 × MS))) :=
  nmv (k5 + k6) fun x1 =>
  if x1 < 0 ∨ 160 ≤ x1.toNatClampNeg then none else
  bnd (f_X7_isRight k1 k2 k3 ((m_number u0) x1.toNatClampNeg) u0) fun r3 u4 =>
  (if r3 = 0 then
    some (.inr (.inr (v1, v2, v3, u4)))
  else
    nmv (v3 + (1 : Int32)) fun x6 =>
    some (.inl (v1, v2, x6, u4)))
set_option maxRecDepth 100000 in
set_option maxHeartbeats 4000000 in
theorem b_X7_judge_L48_100 (X : cx p s m args meth c cX7_judge 4 RX7 (some .int)) (K : kx D cI cZ cQ adK adV A s s.heap) {v1 : Int32} {v2 : Int32} {v3 : Int32} {k1 : Int32} {k2 : Int32} {k3 : Int32} {k5 : Int32} {k6 : Int32} {u0 : MS} (G : wg D A s.heap H locs (wM cI ad u0)) (hl : lv_has ls 4 [(0, .ref (ad 0)), (1, .int v1), (2, .int v2), (3, .int v3)]) {q : ((Int32 × Int32 × Int32 × MS) ⊕ ((Int32 × MS) ⊕ (Int32 × Int32 × Int32 × MS)))} (h : f_X7_judge_L48_100 v1 v2 v3 k1 k2 k3 k5 k6 u0 = some q) (hB : ∀ (v1 : Int32) (v2 : Int32) (v3 : Int32) (u : MS), q = .inl (v1, v2, v3, u) → ∀ (H : Heap) (locs : List Loc) (ls : Array Slot), wg D A s.heap H locs (wM cI ad u) → lv_has ls 4 [(0, .ref (ad 0)), (1, .int v1), (2, .int v2), (3, .int v3)] → W p l e { frames := 6, cells := 0, slots := 0, locals := 138 } s m args below meth c H locs 0 0 Q (F0 m 48 ls [])) (hX : ∀ (v1 : Int32) (v2 : Int32) (v3 : Int32) (u : MS), q = .inr (.inr (v1, v2, v3, u)) → ∀ (H : Heap) (locs : List Loc) (ls : Array Slot), wg D A s.heap H locs (wM cI ad u) → lv_has ls 4 [(0, .ref (ad 0)), (1, .int v1), (2, .int v2), (3, .int v3)] → W p l e { frames := 6, cells := 0, slots := 0, locals := 138 } s m args below meth c H locs 0 0 Q (F0 m 114 ls [])) (hR : ∀ (r : Int32) (u : MS), q = .inr (.inl (r, u)) → Q = (qI D A (wM cI ad) below args s r u)) : W p l e { frames := 6, cells := 0, slots := 0, locals := 138 } s m args below meth c H locs 0 0 Q (F0 m 100 ls [.int k6, .int k5, .ref (ad 10), .int k3, .int k2, .int k1, .ref (ad 0)]) := by
  unfold f_X7_judge_L48_100 at h
  obtain ⟨hx, hb, -⟩ := id X
  refine lv_iadd hx hb dX7_judge_100 ?_
  refine lv_topi (fun x1 ex1 => ?_)
  have h := nm_at ex1 h
  obtain ⟨g2, h⟩ := ck_at h
  refine lM_10 X K G g2 dX7_judge_101 ?_
  obtain ⟨r3, u4, er3, h⟩ := bnd_at h
  refine cvI (rest := []) X K G (c_X7_isRight er3) q_1358 my_X7_isRight ⟨rfl, rfl⟩ ⟨Nat.le_of_ble_eq_true rfl, Nat.le_of_ble_eq_true rfl⟩ ⟨Nat.zero_le _, Nat.zero_le _⟩ 0 7 rfl rfl rfl rfl hl.1 rfl (Nat.le_of_ble_eq_true rfl) dX7_judge_102 (fun H locs G => ?_)
  clear er3
  refine lv_if_eq (tgt := 114) hx hb dX7_judge_105 (by decide) (fun c5 => ?_) (fun c5 => ?_)
  · have h := it_at c5 h
    exact hX _ _ _ _ (Option.some.inj h).symm _ _ _ G (lv_sub hl [0, 1, 2, 3] rfl)
  · have h := if_at c5 h
    obtain ⟨x6, ex6⟩ : ∃ z : Int32, z = v3 + (1 : Int32) := ⟨_, rfl⟩
    have h := nm_at ex6 h
    refine lv_iinc (v := x6) (lv' := [(3, .int x6), (0, .ref (ad 0)), (1, .int v1), (2, .int v2)]) hx hb dX7_judge_108 hl (k := 3) rfl (by rw [ex6]; rfl) (by decide) rfl (fun ls hl => ?_)
    refine lv_goto (tgt := 48) hx hb dX7_judge_111 (by decide) ?_
    exact hB _ _ _ _ (Option.some.inj h).symm _ _ _ G (lv_sub hl [1, 2, 3, 0] rfl)
noncomputable def f_X7_judge_L48_48 (v1 : Int32) (v2 : Int32) (v3 : Int32) (u0 : MS) : Option ((Int32 × Int32 × Int32 × MS) ⊕ ((Int32 × MS) ⊕ (Int32 × Int32 × Int32 × MS))) :=
  if v1 < 0 ∨ 4 ≤ v1.toNatClampNeg then none else
  (if ((m_size u0) v1.toNatClampNeg) ≤ v3 then
    some (.inr (.inr (v1, v2, v3, u0)))
  else
    bnd (f_X7_steps v2 u0) fun r3 u4 =>
    (if r3 ≤ v3 then
      some (.inr (.inr (v1, v2, v3, u4)))
    else
      nmv (((40 : Int32) * v1) + v3) fun x6 =>
      if x6 < 0 ∨ 160 ≤ x6.toNatClampNeg then none else
      (if v3 = 0 then
        f_X7_judge_L48_100 v1 v2 v3 v2 v3 ((m_number u4) x6.toNatClampNeg) ((40 : Int32) * v1) (0 : Int32) u4
      else
        f_X7_judge_L48_100 v1 v2 v3 v2 v3 ((m_number u4) x6.toNatClampNeg) ((40 : Int32) * v1) (v3 - (1 : Int32)) u4)))
set_option maxRecDepth 100000 in
set_option maxHeartbeats 4000000 in
theorem b_X7_judge_L48_48 (X : cx p s m args meth c cX7_judge 4 RX7 (some .int)) (K : kx D cI cZ cQ adK adV A s s.heap) {v1 : Int32} {v2 : Int32} {v3 : Int32} {u0 : MS} (G : wg D A s.heap H locs (wM cI ad u0)) (hl : lv_has ls 4 [(0, .ref (ad 0)), (1, .int v1), (2, .int v2), (3, .int v3)]) {q : ((Int32 × Int32 × Int32 × MS) ⊕ ((Int32 × MS) ⊕ (Int32 × Int32 × Int32 × MS)))} (h : f_X7_judge_L48_48 v1 v2 v3 u0 = some q) (hB : ∀ (v1 : Int32) (v2 : Int32) (v3 : Int32) (u : MS), q = .inl (v1, v2, v3, u) → ∀ (H : Heap) (locs : List Loc) (ls : Array Slot), wg D A s.heap H locs (wM cI ad u) → lv_has ls 4 [(0, .ref (ad 0)), (1, .int v1), (2, .int v2), (3, .int v3)] → W p l e { frames := 6, cells := 0, slots := 0, locals := 138 } s m args below meth c H locs 0 0 Q (F0 m 48 ls [])) (hX : ∀ (v1 : Int32) (v2 : Int32) (v3 : Int32) (u : MS), q = .inr (.inr (v1, v2, v3, u)) → ∀ (H : Heap) (locs : List Loc) (ls : Array Slot), wg D A s.heap H locs (wM cI ad u) → lv_has ls 4 [(0, .ref (ad 0)), (1, .int v1), (2, .int v2), (3, .int v3)] → W p l e { frames := 6, cells := 0, slots := 0, locals := 138 } s m args below meth c H locs 0 0 Q (F0 m 114 ls [])) (hR : ∀ (r : Int32) (u : MS), q = .inr (.inl (r, u)) → Q = (qI D A (wM cI ad) below args s r u)) : W p l e { frames := 6, cells := 0, slots := 0, locals := 138 } s m args below meth c H locs 0 0 Q (F0 m 48 ls []) := by
  unfold f_X7_judge_L48_48 at h
  obtain ⟨hx, hb, -⟩ := id X
  refine lv_iload_n hx hb dX7_judge_48 rfl (lv_at hl 3 rfl) ?_
  refine lv_aload_n hx hb dX7_judge_49 rfl (lv_at hl 0 rfl) ?_
  refine gM_0_18 X K G q_924 dX7_judge_50 ?_
  refine lv_iload_n hx hb dX7_judge_53 rfl (lv_at hl 1 rfl) ?_
  obtain ⟨g1, h⟩ := ck_at h
  refine lM_9 X K G g1 dX7_judge_54 ?_
  refine lv_icmp_ge (tgt := 114) hx hb dX7_judge_55 (by decide) (fun c2 => ?_) (fun c2 => ?_)
  · have h := it_at c2 h
    exact hX _ _ _ _ (Option.some.inj h).symm _ _ _ G (lv_sub hl [0, 1, 2, 3] rfl)
  · have h := if_at c2 h
    refine lv_iload_n hx hb dX7_judge_58 rfl (lv_at hl 3 rfl) ?_
    refine lv_aload_n hx hb dX7_judge_59 rfl (lv_at hl 0 rfl) ?_
    refine lv_iload_n hx hb dX7_judge_60 rfl (lv_at hl 2 rfl) ?_
    obtain ⟨r3, u4, er3, h⟩ := bnd_at h
    refine cvI (rest := [.int v3]) X K G (c_X7_steps er3) q_1121 my_X7_steps ⟨rfl, rfl⟩ ⟨Nat.le_of_ble_eq_true rfl, Nat.le_of_ble_eq_true rfl⟩ ⟨Nat.zero_le _, Nat.zero_le _⟩ 0 7 rfl rfl rfl rfl hl.1 rfl (Nat.le_of_ble_eq_true rfl) dX7_judge_61 (fun H locs G => ?_)
    clear er3
    refine lv_icmp_ge (tgt := 114) hx hb dX7_judge_64 (by decide) (fun c5 => ?_) (fun c5 => ?_)
    · have h := it_at c5 h
      exact hX _ _ _ _ (Option.some.inj h).symm _ _ _ G (lv_sub hl [0, 1, 2, 3] rfl)
    · have h := if_at c5 h
      refine lv_aload_n hx hb dX7_judge_67 rfl (lv_at hl 0 rfl) ?_
      refine lv_iload_n hx hb dX7_judge_68 rfl (lv_at hl 2 rfl) ?_
      refine lv_iload_n hx hb dX7_judge_69 rfl (lv_at hl 3 rfl) ?_
      refine lv_aload_n hx hb dX7_judge_70 rfl (lv_at hl 0 rfl) ?_
      refine gM_0_19 X K G q_925 dX7_judge_71 ?_
      refine lv_bipush (v := 40) hx hb dX7_judge_74 (by decide) ?_
      refine lv_iload_n hx hb dX7_judge_76 rfl (lv_at hl 1 rfl) ?_
      refine lv_imul hx hb dX7_judge_77 ?_
      refine lv_iload_n hx hb dX7_judge_78 rfl (lv_at hl 3 rfl) ?_
      refine lv_iadd hx hb dX7_judge_79 ?_
      refine lv_topi (fun x6 ex6 => ?_)
      have h := nm_at ex6 h
      obtain ⟨g7, h⟩ := ck_at h
      refine lM_10 X K G g7 dX7_judge_80 ?_
      refine lv_aload_n hx hb dX7_judge_81 rfl (lv_at hl 0 rfl) ?_
      refine gM_0_19 X K G q_925 dX7_judge_82 ?_
      refine lv_bipush (v := 40) hx hb dX7_judge_85 (by decide) ?_
      refine lv_iload_n hx hb dX7_judge_87 rfl (lv_at hl 1 rfl) ?_
      refine lv_imul hx hb dX7_judge_88 ?_
      refine lv_iload_n hx hb dX7_judge_89 rfl (lv_at hl 3 rfl) ?_
      refine lv_if_ne (tgt := 97) hx hb dX7_judge_90 (by decide) (fun c8 => ?_) (fun c8 => ?_)
      · have h := if_at c8 h
        refine lv_iload_n hx hb dX7_judge_97 rfl (lv_at hl 3 rfl) ?_
        refine lv_iconst (v := 1) hx hb dX7_judge_98 (by decide) ?_
        refine lv_isub hx hb dX7_judge_99 ?_
        exact b_X7_judge_L48_100 X K G (lv_sub hl [0, 1, 2, 3] rfl) h hB hX hR
      · have h := it_at c8 h
        refine lv_iconst (v := 0) hx hb dX7_judge_93 (by decide) ?_
        refine lv_goto (tgt := 100) hx hb dX7_judge_94 (by decide) ?_
        exact b_X7_judge_L48_100 X K G (lv_sub hl [0, 1, 2, 3] rfl) h hB hX hR
noncomputable def f_X7_judge_L48_48s (q : Int32 × Int32 × Int32 × MS) : Option ((Int32 × Int32 × Int32 × MS) ⊕ ((Int32 × MS) ⊕ (Int32 × Int32 × Int32 × MS))) := f_X7_judge_L48_48 q.1 q.2.1 q.2.2.1 q.2.2.2
set_option maxRecDepth 100000 in
set_option maxHeartbeats 4000000 in
theorem w_X7_judge_L48_48 (X : cx p s m args meth c cX7_judge 4 RX7 (some .int)) (K : kx D cI cZ cQ adK adV A s s.heap) {e0 : (Int32 × MS) ⊕ (Int32 × Int32 × Int32 × MS)} : ∀ (n : Nat) (v1 : Int32) (v2 : Int32) (v3 : Int32) (u : MS) {H : Heap} {locs : List Loc} {ls : Array Slot}, wh f_X7_judge_L48_48s n (v1, v2, v3, u) = some e0 → wg D A s.heap H locs (wM cI ad u) → lv_has ls 4 [(0, .ref (ad 0)), (1, .int v1), (2, .int v2), (3, .int v3)] → (∀ (v1 : Int32) (v2 : Int32) (v3 : Int32) (u : MS), e0 = .inr (v1, v2, v3, u) → ∀ (H : Heap) (locs : List Loc) (ls : Array Slot), wg D A s.heap H locs (wM cI ad u) → lv_has ls 4 [(0, .ref (ad 0)), (1, .int v1), (2, .int v2), (3, .int v3)] → W p l e { frames := 6, cells := 0, slots := 0, locals := 138 } s m args below meth c H locs 0 0 Q (F0 m 114 ls [])) → (∀ (r : Int32) (u : MS), e0 = .inl (r, u) → Q = (qI D A (wM cI ad) below args s r u)) → W p l e { frames := 6, cells := 0, slots := 0, locals := 138 } s m args below meth c H locs 0 0 Q (F0 m 48 ls []) := by
  intro n
  induction n with
  | zero => intro v1 v2 v3 u H locs ls h; cases h
  | succ n ih =>
    intro v1 v2 v3 u H locs ls h G hl hX hR
    obtain ⟨q, h1, h2, h3⟩ := wh_at h
    exact b_X7_judge_L48_48 X K G hl (show f_X7_judge_L48_48 v1 v2 v3 u = some q from h1) (fun b0 b1 b2 b3 ee H locs ls G hl => ih b0 b1 b2 b3 (h2 _ ee) G hl hX hR) (fun z0 z1 z2 z3 ee => hX z0 z1 z2 z3 (h3 _ ee).symm) (fun r u ee => hR r u (h3 _ ee).symm)
noncomputable def f_X7_judge_114 (v1 : Int32) (v2 : Int32) (v3 : Int32) (u0 : MS) : Option (Int32 × MS) :=
  if v1 < 0 ∨ 4 ≤ v1.toNatClampNeg then none else
  (if v3 = ((m_size u0) v1.toNatClampNeg) then
    bnd (f_X7_steps v2 u0) fun r3 u4 =>
    (if v3 = r3 then
      some ((0 : Int32), u4)
    else
      some ((1 : Int32) + v3, u4))
  else
    some ((1 : Int32) + v3, u0))
set_option maxRecDepth 100000 in
set_option maxHeartbeats 4000000 in
theorem b_X7_judge_114 (X : cx p s m args meth c cX7_judge 4 RX7 (some .int)) (K : kx D cI cZ cQ adK adV A s s.heap) {v1 : Int32} {v2 : Int32} {v3 : Int32} {u0 : MS} (G : wg D A s.heap H locs (wM cI ad u0)) (hl : lv_has ls 4 [(0, .ref (ad 0)), (1, .int v1), (2, .int v2), (3, .int v3)]) {r : Int32} {u' : MS} (h : f_X7_judge_114 v1 v2 v3 u0 = some (r, u')) : W p l e { frames := 6, cells := 0, slots := 0, locals := 138 } s m args below meth c H locs 0 0 (qI D A (wM cI ad) below args s r u') (F0 m 114 ls []) := by
  unfold f_X7_judge_114 at h
  obtain ⟨hx, hb, -⟩ := id X
  refine lv_iload_n hx hb dX7_judge_114 rfl (lv_at hl 3 rfl) ?_
  refine lv_aload_n hx hb dX7_judge_115 rfl (lv_at hl 0 rfl) ?_
  refine gM_0_18 X K G q_924 dX7_judge_116 ?_
  refine lv_iload_n hx hb dX7_judge_119 rfl (lv_at hl 1 rfl) ?_
  obtain ⟨g1, h⟩ := ck_at h
  refine lM_9 X K G g1 dX7_judge_120 ?_
  refine lv_icmp_ne (tgt := 137) hx hb dX7_judge_121 (by decide) (fun c2 => ?_) (fun c2 => ?_)
  · have h := if_at c2 h
    refine lv_iconst (v := 1) hx hb dX7_judge_137 (by decide) ?_
    refine lv_iload_n hx hb dX7_judge_138 rfl (lv_at hl 3 rfl) ?_
    refine lv_iadd hx hb dX7_judge_139 ?_
    obtain ⟨rfl, rfl⟩ := pair_at h
    exact reI X G dX7_judge_140
  · have h := it_at c2 h
    refine lv_iload_n hx hb dX7_judge_124 rfl (lv_at hl 3 rfl) ?_
    refine lv_aload_n hx hb dX7_judge_125 rfl (lv_at hl 0 rfl) ?_
    refine lv_iload_n hx hb dX7_judge_126 rfl (lv_at hl 2 rfl) ?_
    obtain ⟨r3, u4, er3, h⟩ := bnd_at h
    refine cvI (rest := [.int v3]) X K G (c_X7_steps er3) q_1121 my_X7_steps ⟨rfl, rfl⟩ ⟨Nat.le_of_ble_eq_true rfl, Nat.le_of_ble_eq_true rfl⟩ ⟨Nat.zero_le _, Nat.zero_le _⟩ 0 7 rfl rfl rfl rfl hl.1 rfl (Nat.le_of_ble_eq_true rfl) dX7_judge_127 (fun H locs G => ?_)
    clear er3
    refine lv_icmp_ne (tgt := 137) hx hb dX7_judge_130 (by decide) (fun c5 => ?_) (fun c5 => ?_)
    · have h := if_at c5 h
      refine lv_iconst (v := 1) hx hb dX7_judge_137 (by decide) ?_
      refine lv_iload_n hx hb dX7_judge_138 rfl (lv_at hl 3 rfl) ?_
      refine lv_iadd hx hb dX7_judge_139 ?_
      obtain ⟨rfl, rfl⟩ := pair_at h
      exact reI X G dX7_judge_140
    · have h := it_at c5 h
      refine lv_iconst (v := 0) hx hb dX7_judge_133 (by decide) ?_
      refine lv_goto (tgt := 140) hx hb dX7_judge_134 (by decide) ?_
      obtain ⟨rfl, rfl⟩ := pair_at h
      exact reI X G dX7_judge_140
noncomputable def f_X7_judge (a1 : Int32) (a2 : Int32) (u0 : MS) : Option (Int32 × MS) :=
  bnd (f_X7_isSheet a1 u0) fun r1 u2 =>
  (if r1 = 0 then
    bnd (f_X7_finds (-1000001 : Int32) u2) fun r19 u20 =>
    some (r19, u20)
  else
    if a1 < 0 ∨ 4 ≤ a1.toNatClampNeg then none else
    (if ((m_bits u2) a1.toNatClampNeg) = 0 then
      bnd (f_X7_finds (-1000006 : Int32) u2) fun r17 u18 =>
      some (r17, u18)
    else
      bnd (f_X7_isThing a2 u2) fun r6 u7 =>
      (if r6 = 0 then
        bnd (f_X7_finds (-1000001 : Int32) u7) fun r15 u16 =>
        some (r15, u16)
      else
        bne (wl f_X7_judge_L48_48s (a1, a2, (0 : Int32), u7)) (fun a => some a) fun b =>
          nmv b.1 fun y12 =>
          nmv b.2.1 fun y13 =>
          nmv b.2.2.1 fun y14 =>
          nmv b.2.2.2 fun u11 =>
          f_X7_judge_114 y12 y13 y14 u11)))
set_option maxRecDepth 100000 in
set_option maxHeartbeats 4000000 in
theorem c_X7_judge {a1 : Int32} {a2 : Int32} {u0 : MS} {r : Int32} {u' : MS} (h : f_X7_judge a1 a2 u0 = some (r, u')) : MI l D cI cZ cQ adK adV A yX7_judge cX7_judge 4 (some .int) { frames := 6, cells := 0, slots := 0, locals := 138 } [.ref (ad 0), .int a1, .int a2] (wM cI ad) u0 r u' := by
  unfold f_X7_judge at h
  refine entI (by decide) (Nat.le_of_ble_eq_true rfl) (fun p e s m below meth c ls X K G hl => ?_)
  have hl : lv_has ls 4 [(0, .ref (ad 0)), (1, .int a1), (2, .int a2)] := hl
  obtain ⟨hx, hb, -⟩ := id X
  generalize hH : s.heap = H at G
  subst hH
  refine lv_iload_n hx hb dX7_judge_0 rfl (lv_at hl 1 rfl) ?_
  obtain ⟨r1, u2, er1, h⟩ := bnd_at h
  refine csI (rest := []) X K G (c_X7_isSheet er1) q_1337 my_X7_isSheet ⟨rfl, rfl⟩ ⟨Nat.le_of_ble_eq_true rfl, Nat.le_of_ble_eq_true rfl⟩ ⟨Nat.zero_le _, Nat.zero_le _⟩ rfl hl.1 rfl (Nat.le_of_ble_eq_true rfl) dX7_judge_1 (fun H locs G => ?_)
  clear er1
  refine lv_if_ne (tgt := 14) hx hb dX7_judge_4 (by decide) (fun c3 => ?_) (fun c3 => ?_)
  · have h := if_at c3 h
    refine lv_aload_n hx hb dX7_judge_14 rfl (lv_at hl 0 rfl) ?_
    refine gM_0_17 X K G q_923 dX7_judge_15 ?_
    refine lv_iload_n hx hb dX7_judge_18 rfl (lv_at hl 1 rfl) ?_
    obtain ⟨g4, h⟩ := ck_at h
    refine lM_8 X K G g4 dX7_judge_19 ?_
    refine lv_if_ne (tgt := 31) hx hb dX7_judge_20 (by decide) (fun c5 => ?_) (fun c5 => ?_)
    · have h := if_at c5 h
      refine lv_aload_n hx hb dX7_judge_31 rfl (lv_at hl 0 rfl) ?_
      refine lv_iload_n hx hb dX7_judge_32 rfl (lv_at hl 2 rfl) ?_
      obtain ⟨r6, u7, er6, h⟩ := bnd_at h
      refine cvI (rest := []) X K G (c_X7_isThing er6) q_1116 my_X7_isThing ⟨rfl, rfl⟩ ⟨Nat.le_of_ble_eq_true rfl, Nat.le_of_ble_eq_true rfl⟩ ⟨Nat.zero_le _, Nat.zero_le _⟩ 0 7 rfl rfl rfl rfl hl.1 rfl (Nat.le_of_ble_eq_true rfl) dX7_judge_33 (fun H locs G => ?_)
      clear er6
      refine lv_if_ne (tgt := 46) hx hb dX7_judge_36 (by decide) (fun c8 => ?_) (fun c8 => ?_)
      · have h := if_at c8 h
        refine lv_iconst (v := 0) hx hb dX7_judge_46 (by decide) ?_
        refine lv_istore_n (lv' := [(3, .int (0 : Int32)), (0, .ref (ad 0)), (1, .int a1), (2, .int a2)]) hx hb dX7_judge_47 rfl hl (by decide) rfl (fun ls hl => ?_)
        obtain ⟨q10, hq10, ha, hb1⟩ := bne_at h
        obtain ⟨n9, hn9⟩ := wl_iff.mp hq10
        refine w_X7_judge_L48_48 X K n9 _ _ _ _ hn9 G (lv_sub hl [1, 2, 3, 0] rfl) (fun y12 y13 y14 u11 ee H locs ls G hl => ?_) (fun r u1 ee => by obtain ⟨rfl, rfl⟩ := pair_at (ha _ ee); rfl)
        have h := hb1 _ ee
        clear ee ha hb1 hq10 hn9
        have h := nm_at (x := y12) rfl h
        have h := nm_at (x := y13) rfl h
        have h := nm_at (x := y14) rfl h
        have h := nm_at (x := u11) rfl h
        exact b_X7_judge_114 X K G (lv_sub hl [0, 1, 2, 3] rfl) h
      · have h := it_at c8 h
        refine lv_aload_n hx hb dX7_judge_39 rfl (lv_at hl 0 rfl) ?_
        refine lv_ldc (v := -1000001) hx hb X.2.2.2.1 (X.2.2.2.2.1 _ q_975) dX7_judge_40 ?_
        obtain ⟨r15, u16, er15, h⟩ := bnd_at h
        refine cvI (rest := []) X K G (c_X7_finds er15) q_976 my_X7_finds ⟨rfl, rfl⟩ ⟨Nat.le_of_ble_eq_true rfl, Nat.le_of_ble_eq_true rfl⟩ ⟨Nat.zero_le _, Nat.zero_le _⟩ 0 7 rfl rfl rfl rfl hl.1 rfl (Nat.le_of_ble_eq_true rfl) dX7_judge_42 (fun H locs G => ?_)
        clear er15
        obtain ⟨rfl, rfl⟩ := pair_at h
        exact reI X G dX7_judge_45
    · have h := it_at c5 h
      refine lv_aload_n hx hb dX7_judge_23 rfl (lv_at hl 0 rfl) ?_
      refine lv_ldcw (v := -1000006) hx hb X.2.2.2.1 (X.2.2.2.2.1 _ q_1328) dX7_judge_24 ?_
      obtain ⟨r17, u18, er17, h⟩ := bnd_at h
      refine cvI (rest := []) X K G (c_X7_finds er17) q_976 my_X7_finds ⟨rfl, rfl⟩ ⟨Nat.le_of_ble_eq_true rfl, Nat.le_of_ble_eq_true rfl⟩ ⟨Nat.zero_le _, Nat.zero_le _⟩ 0 7 rfl rfl rfl rfl hl.1 rfl (Nat.le_of_ble_eq_true rfl) dX7_judge_27 (fun H locs G => ?_)
      clear er17
      obtain ⟨rfl, rfl⟩ := pair_at h
      exact reI X G dX7_judge_30
  · have h := it_at c3 h
    refine lv_aload_n hx hb dX7_judge_7 rfl (lv_at hl 0 rfl) ?_
    refine lv_ldc (v := -1000001) hx hb X.2.2.2.1 (X.2.2.2.2.1 _ q_975) dX7_judge_8 ?_
    obtain ⟨r19, u20, er19, h⟩ := bnd_at h
    refine cvI (rest := []) X K G (c_X7_finds er19) q_976 my_X7_finds ⟨rfl, rfl⟩ ⟨Nat.le_of_ble_eq_true rfl, Nat.le_of_ble_eq_true rfl⟩ ⟨Nat.zero_le _, Nat.zero_le _⟩ 0 7 rfl rfl rfl rfl hl.1 rfl (Nat.le_of_ble_eq_true rfl) dX7_judge_10 (fun H locs G => ?_)
    clear er19
    obtain ⟨rfl, rfl⟩ := pair_at h
    exact reI X G dX7_judge_13
noncomputable def f_X7_image_L2_2 (v1 : Int32) (u0 : MS) : Option ((Int32 × MS) ⊕ ((Int32 × MS) ⊕ (MS))) :=
  (if (247 : Int32) ≤ v1 then
    some (.inr (.inr u0))
  else
    if v1 < 0 ∨ 247 ≤ v1.toNatClampNeg then none else
    nmv ((m_m u0) v1.toNatClampNeg) fun x3 =>
    if v1 < 0 ∨ 247 ≤ v1.toNatClampNeg then none else
    nmv (mu_kept u0 (upd (m_kept u0) v1.toNatClampNeg x3)) fun u5 =>
    nmv (v1 + (1 : Int32)) fun x6 =>
    some (.inl (x6, u5)))
set_option maxRecDepth 100000 in
set_option maxHeartbeats 4000000 in
theorem b_X7_image_L2_2 (X : cx p s m args meth c cX7_image 2 RX7 (some .int)) (K : kx D cI cZ cQ adK adV A s s.heap) {v1 : Int32} {u0 : MS} (G : wg D A s.heap H locs (wM cI ad u0)) (hl : lv_has ls 2 [(0, .ref (ad 0)), (1, .int v1)]) {q : ((Int32 × MS) ⊕ ((Int32 × MS) ⊕ (MS)))} (h : f_X7_image_L2_2 v1 u0 = some q) (hB : ∀ (v1 : Int32) (u : MS), q = .inl (v1, u) → ∀ (H : Heap) (locs : List Loc) (ls : Array Slot), wg D A s.heap H locs (wM cI ad u) → lv_has ls 2 [(0, .ref (ad 0)), (1, .int v1)] → W p l e { frames := 0, cells := 0, slots := 0, locals := 0 } s m args below meth c H locs 0 0 Q (F0 m 2 ls [])) (hX : ∀ (u : MS), q = .inr (.inr u) → ∀ (H : Heap) (locs : List Loc) (ls : Array Slot), wg D A s.heap H locs (wM cI ad u) → lv_has ls 2 [(0, .ref (ad 0))] → W p l e { frames := 0, cells := 0, slots := 0, locals := 0 } s m args below meth c H locs 0 0 Q (F0 m 27 ls [])) (hR : ∀ (r : Int32) (u : MS), q = .inr (.inl (r, u)) → Q = (qI D A (wM cI ad) below args s r u)) : W p l e { frames := 0, cells := 0, slots := 0, locals := 0 } s m args below meth c H locs 0 0 Q (F0 m 2 ls []) := by
  unfold f_X7_image_L2_2 at h
  obtain ⟨hx, hb, -⟩ := id X
  refine lv_iload_n hx hb dX7_image_2 rfl (lv_at hl 1 rfl) ?_
  refine lv_sipush (v := 247) hx hb dX7_image_3 (by decide) ?_
  refine lv_icmp_ge (tgt := 27) hx hb dX7_image_6 (by decide) (fun c1 => ?_) (fun c1 => ?_)
  · have h := it_at c1 h
    exact hX _ (Option.some.inj h).symm _ _ _ G (lv_sub hl [0] rfl)
  · have h := if_at c1 h
    refine lv_aload_n hx hb dX7_image_9 rfl (lv_at hl 0 rfl) ?_
    refine gM_0_1 X K G q_907 dX7_image_10 ?_
    refine lv_iload_n hx hb dX7_image_13 rfl (lv_at hl 1 rfl) ?_
    refine lv_aload_n hx hb dX7_image_14 rfl (lv_at hl 0 rfl) ?_
    refine gM_0_0 X K G q_906 dX7_image_15 ?_
    refine lv_iload_n hx hb dX7_image_18 rfl (lv_at hl 1 rfl) ?_
    obtain ⟨g2, h⟩ := ck_at h
    refine lM_1 X K G g2 dX7_image_19 ?_
    refine lv_topi (fun x3 ex3 => ?_)
    have h := nm_at ex3 h
    obtain ⟨g4, h⟩ := ck_at h
    refine aM_2 X K G g4 dX7_image_20 (fun H locs G => ?_)
    obtain ⟨u5, eu5⟩ : ∃ z : MS, z = mu_kept u0 (upd (m_kept u0) v1.toNatClampNeg x3) := ⟨_, rfl⟩
    have G : wg D A s.heap H locs (wM cI ad u5) := by rw [eu5]; exact G
    have h := nm_at eu5 h
    clear eu5
    obtain ⟨x6, ex6⟩ : ∃ z : Int32, z = v1 + (1 : Int32) := ⟨_, rfl⟩
    have h := nm_at ex6 h
    refine lv_iinc (v := x6) (lv' := [(1, .int x6), (0, .ref (ad 0))]) hx hb dX7_image_21 hl (k := 1) rfl (by rw [ex6]; rfl) (by decide) rfl (fun ls hl => ?_)
    refine lv_goto (tgt := 2) hx hb dX7_image_24 (by decide) ?_
    exact hB _ _ (Option.some.inj h).symm _ _ _ G (lv_sub hl [1, 0] rfl)
noncomputable def f_X7_image_L2_2s (q : Int32 × MS) : Option ((Int32 × MS) ⊕ ((Int32 × MS) ⊕ (MS))) := f_X7_image_L2_2 q.1 q.2
set_option maxRecDepth 100000 in
set_option maxHeartbeats 4000000 in
theorem w_X7_image_L2_2 (X : cx p s m args meth c cX7_image 2 RX7 (some .int)) (K : kx D cI cZ cQ adK adV A s s.heap) {e0 : (Int32 × MS) ⊕ (MS)} : ∀ (n : Nat) (v1 : Int32) (u : MS) {H : Heap} {locs : List Loc} {ls : Array Slot}, wh f_X7_image_L2_2s n (v1, u) = some e0 → wg D A s.heap H locs (wM cI ad u) → lv_has ls 2 [(0, .ref (ad 0)), (1, .int v1)] → (∀ (u : MS), e0 = .inr u → ∀ (H : Heap) (locs : List Loc) (ls : Array Slot), wg D A s.heap H locs (wM cI ad u) → lv_has ls 2 [(0, .ref (ad 0))] → W p l e { frames := 0, cells := 0, slots := 0, locals := 0 } s m args below meth c H locs 0 0 Q (F0 m 27 ls [])) → (∀ (r : Int32) (u : MS), e0 = .inl (r, u) → Q = (qI D A (wM cI ad) below args s r u)) → W p l e { frames := 0, cells := 0, slots := 0, locals := 0 } s m args below meth c H locs 0 0 Q (F0 m 2 ls []) := by
  intro n
  induction n with
  | zero => intro v1 u H locs ls h; cases h
  | succ n ih =>
    intro v1 u H locs ls h G hl hX hR
    obtain ⟨q, h1, h2, h3⟩ := wh_at h
    exact b_X7_image_L2_2 X K G hl (show f_X7_image_L2_2 v1 u = some q from h1) (fun b0 b1 ee H locs ls G hl => ih b0 b1 (h2 _ ee) G hl hX hR) (fun z0 ee => hX z0 (h3 _ ee).symm) (fun r u ee => hR r u (h3 _ ee).symm)
noncomputable def f_X7_image (u0 : MS) : Option (Int32 × MS) :=
  bne (wl f_X7_image_L2_2s ((0 : Int32), u0)) (fun a => some a) fun b =>
    nmv b fun u3 =>
    nmv (mu_isKept u3 (1 : Int32)) fun u4 =>
    some ((1 : Int32), u4)
set_option maxRecDepth 100000 in
set_option maxHeartbeats 4000000 in
theorem c_X7_image {u0 : MS} {r : Int32} {u' : MS} (h : f_X7_image  u0 = some (r, u')) : MI l D cI cZ cQ adK adV A yX7_image cX7_image 2 (some .int) { frames := 0, cells := 0, slots := 0, locals := 0 } [.ref (ad 0)] (wM cI ad) u0 r u' := by
  unfold f_X7_image at h
  refine entI (by decide) (Nat.le_of_ble_eq_true rfl) (fun p e s m below meth c ls X K G hl => ?_)
  have hl : lv_has ls 2 [(0, .ref (ad 0))] := hl
  obtain ⟨hx, hb, -⟩ := id X
  generalize hH : s.heap = H at G
  subst hH
  refine lv_iconst (v := 0) hx hb dX7_image_0 (by decide) ?_
  refine lv_istore_n (lv' := [(1, .int (0 : Int32)), (0, .ref (ad 0))]) hx hb dX7_image_1 rfl hl (by decide) rfl (fun ls hl => ?_)
  obtain ⟨q2, hq2, ha, hb1⟩ := bne_at h
  obtain ⟨n1, hn1⟩ := wl_iff.mp hq2
  refine w_X7_image_L2_2 X K n1 _ _ hn1 G (lv_sub hl [1, 0] rfl) (fun  u3 ee H locs ls G hl => ?_) (fun r u1 ee => by obtain ⟨rfl, rfl⟩ := pair_at (ha _ ee); rfl)
  have h := hb1 _ ee
  clear ee ha hb1 hq2 hn1
  have h := nm_at (x := u3) rfl h
  refine lv_aload_n hx hb dX7_image_27 rfl (lv_at hl 0 rfl) ?_
  refine lv_iconst (v := 1) hx hb dX7_image_28 (by decide) ?_
  refine pM_0_2 X K G (Or.inr rfl) q_908 dX7_image_29 (fun H locs G => ?_)
  obtain ⟨u4, eu4⟩ : ∃ z : MS, z = mu_isKept u3 (1 : Int32) := ⟨_, rfl⟩
  have G : wg D A s.heap H locs (wM cI ad u4) := by rw [eu4]; exact G
  have h := nm_at eu4 h
  clear eu4
  refine lv_iconst (v := 1) hx hb dX7_image_32 (by decide) ?_
  obtain ⟨rfl, rfl⟩ := pair_at h
  exact reI X G dX7_image_33
noncomputable def f_X7_undo_L16_16 (v1 : Int32) (u0 : MS) : Option ((Int32 × MS) ⊕ ((Int32 × MS) ⊕ (MS))) :=
  (if (247 : Int32) ≤ v1 then
    some (.inr (.inr u0))
  else
    if v1 < 0 ∨ 247 ≤ v1.toNatClampNeg then none else
    nmv ((m_kept u0) v1.toNatClampNeg) fun x3 =>
    if v1 < 0 ∨ 247 ≤ v1.toNatClampNeg then none else
    nmv (mu_m u0 (upd (m_m u0) v1.toNatClampNeg x3)) fun u5 =>
    nmv (v1 + (1 : Int32)) fun x6 =>
    some (.inl (x6, u5)))
set_option maxRecDepth 100000 in
set_option maxHeartbeats 4000000 in
theorem b_X7_undo_L16_16 (X : cx p s m args meth c cX7_undo 2 RX7 (some .int)) (K : kx D cI cZ cQ adK adV A s s.heap) {v1 : Int32} {u0 : MS} (G : wg D A s.heap H locs (wM cI ad u0)) (hl : lv_has ls 2 [(0, .ref (ad 0)), (1, .int v1)]) {q : ((Int32 × MS) ⊕ ((Int32 × MS) ⊕ (MS)))} (h : f_X7_undo_L16_16 v1 u0 = some q) (hB : ∀ (v1 : Int32) (u : MS), q = .inl (v1, u) → ∀ (H : Heap) (locs : List Loc) (ls : Array Slot), wg D A s.heap H locs (wM cI ad u) → lv_has ls 2 [(0, .ref (ad 0)), (1, .int v1)] → W p l e { frames := 1, cells := 0, slots := 0, locals := 21 } s m args below meth c H locs 0 0 Q (F0 m 16 ls [])) (hX : ∀ (u : MS), q = .inr (.inr u) → ∀ (H : Heap) (locs : List Loc) (ls : Array Slot), wg D A s.heap H locs (wM cI ad u) → lv_has ls 2 [(0, .ref (ad 0))] → W p l e { frames := 1, cells := 0, slots := 0, locals := 21 } s m args below meth c H locs 0 0 Q (F0 m 41 ls [])) (hR : ∀ (r : Int32) (u : MS), q = .inr (.inl (r, u)) → Q = (qI D A (wM cI ad) below args s r u)) : W p l e { frames := 1, cells := 0, slots := 0, locals := 21 } s m args below meth c H locs 0 0 Q (F0 m 16 ls []) := by
  unfold f_X7_undo_L16_16 at h
  obtain ⟨hx, hb, -⟩ := id X
  refine lv_iload_n hx hb dX7_undo_16 rfl (lv_at hl 1 rfl) ?_
  refine lv_sipush (v := 247) hx hb dX7_undo_17 (by decide) ?_
  refine lv_icmp_ge (tgt := 41) hx hb dX7_undo_20 (by decide) (fun c1 => ?_) (fun c1 => ?_)
  · have h := it_at c1 h
    exact hX _ (Option.some.inj h).symm _ _ _ G (lv_sub hl [0] rfl)
  · have h := if_at c1 h
    refine lv_aload_n hx hb dX7_undo_23 rfl (lv_at hl 0 rfl) ?_
    refine gM_0_0 X K G q_906 dX7_undo_24 ?_
    refine lv_iload_n hx hb dX7_undo_27 rfl (lv_at hl 1 rfl) ?_
    refine lv_aload_n hx hb dX7_undo_28 rfl (lv_at hl 0 rfl) ?_
    refine gM_0_1 X K G q_907 dX7_undo_29 ?_
    refine lv_iload_n hx hb dX7_undo_32 rfl (lv_at hl 1 rfl) ?_
    obtain ⟨g2, h⟩ := ck_at h
    refine lM_2 X K G g2 dX7_undo_33 ?_
    refine lv_topi (fun x3 ex3 => ?_)
    have h := nm_at ex3 h
    obtain ⟨g4, h⟩ := ck_at h
    refine aM_1 X K G g4 dX7_undo_34 (fun H locs G => ?_)
    obtain ⟨u5, eu5⟩ : ∃ z : MS, z = mu_m u0 (upd (m_m u0) v1.toNatClampNeg x3) := ⟨_, rfl⟩
    have G : wg D A s.heap H locs (wM cI ad u5) := by rw [eu5]; exact G
    have h := nm_at eu5 h
    clear eu5
    obtain ⟨x6, ex6⟩ : ∃ z : Int32, z = v1 + (1 : Int32) := ⟨_, rfl⟩
    have h := nm_at ex6 h
    refine lv_iinc (v := x6) (lv' := [(1, .int x6), (0, .ref (ad 0))]) hx hb dX7_undo_35 hl (k := 1) rfl (by rw [ex6]; rfl) (by decide) rfl (fun ls hl => ?_)
    refine lv_goto (tgt := 16) hx hb dX7_undo_38 (by decide) ?_
    exact hB _ _ (Option.some.inj h).symm _ _ _ G (lv_sub hl [1, 0] rfl)
noncomputable def f_X7_undo_L16_16s (q : Int32 × MS) : Option ((Int32 × MS) ⊕ ((Int32 × MS) ⊕ (MS))) := f_X7_undo_L16_16 q.1 q.2
set_option maxRecDepth 100000 in
set_option maxHeartbeats 4000000 in
theorem w_X7_undo_L16_16 (X : cx p s m args meth c cX7_undo 2 RX7 (some .int)) (K : kx D cI cZ cQ adK adV A s s.heap) {e0 : (Int32 × MS) ⊕ (MS)} : ∀ (n : Nat) (v1 : Int32) (u : MS) {H : Heap} {locs : List Loc} {ls : Array Slot}, wh f_X7_undo_L16_16s n (v1, u) = some e0 → wg D A s.heap H locs (wM cI ad u) → lv_has ls 2 [(0, .ref (ad 0)), (1, .int v1)] → (∀ (u : MS), e0 = .inr u → ∀ (H : Heap) (locs : List Loc) (ls : Array Slot), wg D A s.heap H locs (wM cI ad u) → lv_has ls 2 [(0, .ref (ad 0))] → W p l e { frames := 1, cells := 0, slots := 0, locals := 21 } s m args below meth c H locs 0 0 Q (F0 m 41 ls [])) → (∀ (r : Int32) (u : MS), e0 = .inl (r, u) → Q = (qI D A (wM cI ad) below args s r u)) → W p l e { frames := 1, cells := 0, slots := 0, locals := 21 } s m args below meth c H locs 0 0 Q (F0 m 16 ls []) := by
  intro n
  induction n with
  | zero => intro v1 u H locs ls h; cases h
  | succ n ih =>
    intro v1 u H locs ls h G hl hX hR
    obtain ⟨q, h1, h2, h3⟩ := wh_at h
    exact b_X7_undo_L16_16 X K G hl (show f_X7_undo_L16_16 v1 u = some q from h1) (fun b0 b1 ee H locs ls G hl => ih b0 b1 (h2 _ ee) G hl hX hR) (fun z0 ee => hX z0 (h3 _ ee).symm) (fun r u ee => hR r u (h3 _ ee).symm)
noncomputable def f_X7_undo (u0 : MS) : Option (Int32 × MS) :=
  (if (m_isKept u0) = 0 then
    bnd (f_X7_finds (-1000004 : Int32) u0) fun r5 u6 =>
    some (r5, u6)
  else
    bne (wl f_X7_undo_L16_16s ((0 : Int32), u0)) (fun a => some a) fun b =>
      nmv b fun u4 =>
      some ((m_m u4) (3 : Int32).toNatClampNeg, u4))
set_option maxRecDepth 100000 in
set_option maxHeartbeats 4000000 in
theorem c_X7_undo {u0 : MS} {r : Int32} {u' : MS} (h : f_X7_undo  u0 = some (r, u')) : MI l D cI cZ cQ adK adV A yX7_undo cX7_undo 2 (some .int) { frames := 1, cells := 0, slots := 0, locals := 21 } [.ref (ad 0)] (wM cI ad) u0 r u' := by
  unfold f_X7_undo at h
  refine entI (by decide) (Nat.le_of_ble_eq_true rfl) (fun p e s m below meth c ls X K G hl => ?_)
  have hl : lv_has ls 2 [(0, .ref (ad 0))] := hl
  obtain ⟨hx, hb, -⟩ := id X
  generalize hH : s.heap = H at G
  subst hH
  refine lv_aload_n hx hb dX7_undo_0 rfl (lv_at hl 0 rfl) ?_
  refine gM_0_2 X K G q_908 dX7_undo_1 ?_
  refine lv_if_ne (tgt := 14) hx hb dX7_undo_4 (by decide) (fun c1 => ?_) (fun c1 => ?_)
  · have h := if_at c1 h
    refine lv_iconst (v := 0) hx hb dX7_undo_14 (by decide) ?_
    refine lv_istore_n (lv' := [(1, .int (0 : Int32)), (0, .ref (ad 0))]) hx hb dX7_undo_15 rfl hl (by decide) rfl (fun ls hl => ?_)
    obtain ⟨q3, hq3, ha, hb1⟩ := bne_at h
    obtain ⟨n2, hn2⟩ := wl_iff.mp hq3
    refine w_X7_undo_L16_16 X K n2 _ _ hn2 G (lv_sub hl [1, 0] rfl) (fun  u4 ee H locs ls G hl => ?_) (fun r u1 ee => by obtain ⟨rfl, rfl⟩ := pair_at (ha _ ee); rfl)
    have h := hb1 _ ee
    clear ee ha hb1 hq3 hn2
    have h := nm_at (x := u4) rfl h
    refine lv_aload_n hx hb dX7_undo_41 rfl (lv_at hl 0 rfl) ?_
    refine gM_0_0 X K G q_906 dX7_undo_42 ?_
    refine lv_iconst (v := 3) hx hb dX7_undo_45 (by decide) ?_
    refine lM_1 X K G (by decide) dX7_undo_46 ?_
    obtain ⟨rfl, rfl⟩ := pair_at h
    exact reI X G dX7_undo_47
  · have h := it_at c1 h
    refine lv_aload_n hx hb dX7_undo_7 rfl (lv_at hl 0 rfl) ?_
    refine lv_ldc (v := -1000004) hx hb X.2.2.2.1 (X.2.2.2.2.1 _ q_1178) dX7_undo_8 ?_
    obtain ⟨r5, u6, er5, h⟩ := bnd_at h
    refine cvI (rest := []) X K G (c_X7_finds er5) q_976 my_X7_finds ⟨rfl, rfl⟩ ⟨Nat.le_of_ble_eq_true rfl, Nat.le_of_ble_eq_true rfl⟩ ⟨Nat.zero_le _, Nat.zero_le _⟩ 0 7 rfl rfl rfl rfl hl.1 rfl (Nat.le_of_ble_eq_true rfl) dX7_undo_10 (fun H locs G => ?_)
    clear er5
    obtain ⟨rfl, rfl⟩ := pair_at h
    exact reI X G dX7_undo_13
noncomputable def f_X7_tear (u0 : MS) : Option (Int32 × MS) :=
  (if (m_isKept u0) = 0 then
    nmv (mu_isKept u0 (0 : Int32)) fun u2 =>
    some ((0 : Int32), u2)
  else
    nmv (mu_isKept u0 (0 : Int32)) fun u3 =>
    some ((1 : Int32), u3))
set_option maxRecDepth 100000 in
set_option maxHeartbeats 4000000 in
theorem c_X7_tear {u0 : MS} {r : Int32} {u' : MS} (h : f_X7_tear  u0 = some (r, u')) : MI l D cI cZ cQ adK adV A yX7_tear cX7_tear 2 (some .int) { frames := 0, cells := 0, slots := 0, locals := 0 } [.ref (ad 0)] (wM cI ad) u0 r u' := by
  unfold f_X7_tear at h
  refine entI (by decide) (Nat.le_of_ble_eq_true rfl) (fun p e s m below meth c ls X K G hl => ?_)
  have hl : lv_has ls 2 [(0, .ref (ad 0))] := hl
  obtain ⟨hx, hb, -⟩ := id X
  generalize hH : s.heap = H at G
  subst hH
  refine lv_aload_n hx hb dX7_tear_0 rfl (lv_at hl 0 rfl) ?_
  refine gM_0_2 X K G q_908 dX7_tear_1 ?_
  refine lv_if_eq (tgt := 11) hx hb dX7_tear_4 (by decide) (fun c1 => ?_) (fun c1 => ?_)
  · have h := it_at c1 h
    refine lv_iconst (v := 0) hx hb dX7_tear_11 (by decide) ?_
    refine lv_istore_n (lv' := [(1, .int (0 : Int32)), (0, .ref (ad 0))]) hx hb dX7_tear_12 rfl hl (by decide) rfl (fun ls hl => ?_)
    refine lv_aload_n hx hb dX7_tear_13 rfl (lv_at hl 1 rfl) ?_
    refine lv_iconst (v := 0) hx hb dX7_tear_14 (by decide) ?_
    refine pM_0_2 X K G (Or.inl rfl) q_908 dX7_tear_15 (fun H locs G => ?_)
    obtain ⟨u2, eu2⟩ : ∃ z : MS, z = mu_isKept u0 (0 : Int32) := ⟨_, rfl⟩
    have G : wg D A s.heap H locs (wM cI ad u2) := by rw [eu2]; exact G
    have h := nm_at eu2 h
    clear eu2
    refine lv_iload_n hx hb dX7_tear_18 rfl (lv_at hl 0 rfl) ?_
    obtain ⟨rfl, rfl⟩ := pair_at h
    exact reI X G dX7_tear_19
  · have h := if_at c1 h
    refine lv_iconst (v := 1) hx hb dX7_tear_7 (by decide) ?_
    refine lv_goto (tgt := 12) hx hb dX7_tear_8 (by decide) ?_
    refine lv_istore_n (lv' := [(1, .int (1 : Int32)), (0, .ref (ad 0))]) hx hb dX7_tear_12 rfl hl (by decide) rfl (fun ls hl => ?_)
    refine lv_aload_n hx hb dX7_tear_13 rfl (lv_at hl 1 rfl) ?_
    refine lv_iconst (v := 0) hx hb dX7_tear_14 (by decide) ?_
    refine pM_0_2 X K G (Or.inl rfl) q_908 dX7_tear_15 (fun H locs G => ?_)
    obtain ⟨u3, eu3⟩ : ∃ z : MS, z = mu_isKept u0 (0 : Int32) := ⟨_, rfl⟩
    have G : wg D A s.heap H locs (wM cI ad u3) := by rw [eu3]; exact G
    have h := nm_at eu3 h
    clear eu3
    refine lv_iload_n hx hb dX7_tear_18 rfl (lv_at hl 0 rfl) ?_
    obtain ⟨rfl, rfl⟩ := pair_at h
    exact reI X G dX7_tear_19
noncomputable def f_X7_count_L69_69 (v2 : Int32) (v3 : Int32) (u0 : MS) : Option ((Int32 × Int32 × MS) ⊕ ((Int32 × MS) ⊕ (Int32 × MS))) :=
  (if (10 : Int32) ≤ v3 then
    some (.inr (.inr (v2, u0)))
  else
    nmv ((237 : Int32) + v3) fun x2 =>
    if x2 < 0 ∨ 247 ≤ x2.toNatClampNeg then none else
    (if 0 ≤ ((m_m u0) x2.toNatClampNeg) then
      nmv (v2 + (1 : Int32)) fun x5 =>
      nmv (v3 + (1 : Int32)) fun x6 =>
      some (.inl (x5, x6, u0))
    else
      nmv (v2 + (0 : Int32)) fun x7 =>
      nmv (v3 + (1 : Int32)) fun x8 =>
      some (.inl (x7, x8, u0))))
set_option maxRecDepth 100000 in
set_option maxHeartbeats 4000000 in
theorem b_X7_count_L69_69 (X : cx p s m args meth c cX7_count 4 RX7 (some .int)) (K : kx D cI cZ cQ adK adV A s s.heap) {v2 : Int32} {v3 : Int32} {u0 : MS} (G : wg D A s.heap H locs (wM cI ad u0)) (hl : lv_has ls 4 [(0, .ref (ad 0)), (2, .int v2), (3, .int v3)]) {q : ((Int32 × Int32 × MS) ⊕ ((Int32 × MS) ⊕ (Int32 × MS)))} (h : f_X7_count_L69_69 v2 v3 u0 = some q) (hB : ∀ (v2 : Int32) (v3 : Int32) (u : MS), q = .inl (v2, v3, u) → ∀ (H : Heap) (locs : List Loc) (ls : Array Slot), wg D A s.heap H locs (wM cI ad u) → lv_has ls 4 [(0, .ref (ad 0)), (2, .int v2), (3, .int v3)] → W p l e { frames := 1, cells := 0, slots := 0, locals := 21 } s m args below meth c H locs 0 0 Q (F0 m 69 ls [])) (hX : ∀ (v2 : Int32) (u : MS), q = .inr (.inr (v2, u)) → ∀ (H : Heap) (locs : List Loc) (ls : Array Slot), wg D A s.heap H locs (wM cI ad u) → lv_has ls 4 [(2, .int v2)] → W p l e { frames := 1, cells := 0, slots := 0, locals := 21 } s m args below meth c H locs 0 0 Q (F0 m 102 ls [])) (hR : ∀ (r : Int32) (u : MS), q = .inr (.inl (r, u)) → Q = (qI D A (wM cI ad) below args s r u)) : W p l e { frames := 1, cells := 0, slots := 0, locals := 21 } s m args below meth c H locs 0 0 Q (F0 m 69 ls []) := by
  unfold f_X7_count_L69_69 at h
  obtain ⟨hx, hb, -⟩ := id X
  refine lv_iload_n hx hb dX7_count_69 rfl (lv_at hl 2 rfl) ?_
  refine lv_bipush (v := 10) hx hb dX7_count_70 (by decide) ?_
  refine lv_icmp_ge (tgt := 102) hx hb dX7_count_72 (by decide) (fun c1 => ?_) (fun c1 => ?_)
  · have h := it_at c1 h
    exact hX _ _ (Option.some.inj h).symm _ _ _ G (lv_sub hl [1] rfl)
  · have h := if_at c1 h
    refine lv_iload_n hx hb dX7_count_75 rfl (lv_at hl 1 rfl) ?_
    refine lv_aload_n hx hb dX7_count_76 rfl (lv_at hl 0 rfl) ?_
    refine gM_0_0 X K G q_906 dX7_count_77 ?_
    refine lv_sipush (v := 237) hx hb dX7_count_80 (by decide) ?_
    refine lv_iload_n hx hb dX7_count_83 rfl (lv_at hl 2 rfl) ?_
    refine lv_iadd hx hb dX7_count_84 ?_
    refine lv_topi (fun x2 ex2 => ?_)
    have h := nm_at ex2 h
    obtain ⟨g3, h⟩ := ck_at h
    refine lM_1 X K G g3 dX7_count_85 ?_
    refine lv_if_ge (tgt := 93) hx hb dX7_count_86 (by decide) (fun c4 => ?_) (fun c4 => ?_)
    · have h := it_at c4 h
      refine lv_iconst (v := 1) hx hb dX7_count_93 (by decide) ?_
      refine lv_iadd hx hb dX7_count_94 ?_
      refine lv_topi (fun x5 ex5 => ?_)
      have h := nm_at ex5 h
      refine lv_istore_n (lv' := [(2, .int x5), (0, .ref (ad 0)), (3, .int v3)]) hx hb dX7_count_95 rfl hl (by decide) rfl (fun ls hl => ?_)
      obtain ⟨x6, ex6⟩ : ∃ z : Int32, z = v3 + (1 : Int32) := ⟨_, rfl⟩
      have h := nm_at ex6 h
      refine lv_iinc (v := x6) (lv' := [(3, .int x6), (2, .int x5), (0, .ref (ad 0))]) hx hb dX7_count_96 hl (k := 2) rfl (by rw [ex6]; rfl) (by decide) rfl (fun ls hl => ?_)
      refine lv_goto (tgt := 69) hx hb dX7_count_99 (by decide) ?_
      exact hB _ _ _ (Option.some.inj h).symm _ _ _ G (lv_sub hl [2, 1, 0] rfl)
    · have h := if_at c4 h
      refine lv_iconst (v := 0) hx hb dX7_count_89 (by decide) ?_
      refine lv_goto (tgt := 94) hx hb dX7_count_90 (by decide) ?_
      refine lv_iadd hx hb dX7_count_94 ?_
      refine lv_topi (fun x7 ex7 => ?_)
      have h := nm_at ex7 h
      refine lv_istore_n (lv' := [(2, .int x7), (0, .ref (ad 0)), (3, .int v3)]) hx hb dX7_count_95 rfl hl (by decide) rfl (fun ls hl => ?_)
      obtain ⟨x8, ex8⟩ : ∃ z : Int32, z = v3 + (1 : Int32) := ⟨_, rfl⟩
      have h := nm_at ex8 h
      refine lv_iinc (v := x8) (lv' := [(3, .int x8), (2, .int x7), (0, .ref (ad 0))]) hx hb dX7_count_96 hl (k := 2) rfl (by rw [ex8]; rfl) (by decide) rfl (fun ls hl => ?_)
      refine lv_goto (tgt := 69) hx hb dX7_count_99 (by decide) ?_
      exact hB _ _ _ (Option.some.inj h).symm _ _ _ G (lv_sub hl [2, 1, 0] rfl)
noncomputable def f_X7_count_L69_69s (q : Int32 × Int32 × MS) : Option ((Int32 × Int32 × MS) ⊕ ((Int32 × MS) ⊕ (Int32 × MS))) := f_X7_count_L69_69 q.1 q.2.1 q.2.2
set_option maxRecDepth 100000 in
set_option maxHeartbeats 4000000 in
theorem w_X7_count_L69_69 (X : cx p s m args meth c cX7_count 4 RX7 (some .int)) (K : kx D cI cZ cQ adK adV A s s.heap) {e0 : (Int32 × MS) ⊕ (Int32 × MS)} : ∀ (n : Nat) (v2 : Int32) (v3 : Int32) (u : MS) {H : Heap} {locs : List Loc} {ls : Array Slot}, wh f_X7_count_L69_69s n (v2, v3, u) = some e0 → wg D A s.heap H locs (wM cI ad u) → lv_has ls 4 [(0, .ref (ad 0)), (2, .int v2), (3, .int v3)] → (∀ (v2 : Int32) (u : MS), e0 = .inr (v2, u) → ∀ (H : Heap) (locs : List Loc) (ls : Array Slot), wg D A s.heap H locs (wM cI ad u) → lv_has ls 4 [(2, .int v2)] → W p l e { frames := 1, cells := 0, slots := 0, locals := 21 } s m args below meth c H locs 0 0 Q (F0 m 102 ls [])) → (∀ (r : Int32) (u : MS), e0 = .inl (r, u) → Q = (qI D A (wM cI ad) below args s r u)) → W p l e { frames := 1, cells := 0, slots := 0, locals := 21 } s m args below meth c H locs 0 0 Q (F0 m 69 ls []) := by
  intro n
  induction n with
  | zero => intro v2 v3 u H locs ls h; cases h
  | succ n ih =>
    intro v2 v3 u H locs ls h G hl hX hR
    obtain ⟨q, h1, h2, h3⟩ := wh_at h
    exact b_X7_count_L69_69 X K G hl (show f_X7_count_L69_69 v2 v3 u = some q from h1) (fun b0 b1 b2 ee H locs ls G hl => ih b0 b1 b2 (h2 _ ee) G hl hX hR) (fun z0 z1 ee => hX z0 z1 (h3 _ ee).symm) (fun r u ee => hR r u (h3 _ ee).symm)
noncomputable def f_X7_count (a1 : Int32) (u0 : MS) : Option (Int32 × MS) :=
  (if a1 = (0 : Int32) then
    if a1 < 0 ∨ 247 ≤ a1.toNatClampNeg then none else
    some ((m_m u0) a1.toNatClampNeg, u0)
  else
  (if a1 = (1 : Int32) then
    if a1 < 0 ∨ 247 ≤ a1.toNatClampNeg then none else
    some ((m_m u0) a1.toNatClampNeg, u0)
  else
  (if a1 = (2 : Int32) then
    if a1 < 0 ∨ 247 ≤ a1.toNatClampNeg then none else
    some ((m_m u0) a1.toNatClampNeg, u0)
  else
  (if a1 = (3 : Int32) then
    if a1 < 0 ∨ 247 ≤ a1.toNatClampNeg then none else
    some ((m_m u0) a1.toNatClampNeg, u0)
  else
  (if a1 = (4 : Int32) then
    if a1 < 0 ∨ 247 ≤ a1.toNatClampNeg then none else
    some ((m_m u0) a1.toNatClampNeg, u0)
  else
  (if a1 = (5 : Int32) then
    some (m_taped u0, u0)
  else
  (if a1 = (6 : Int32) then
    some ((m_m u0) (5 : Int32).toNatClampNeg, u0)
  else
  (if a1 = (7 : Int32) then
    bne (wl f_X7_count_L69_69s ((0 : Int32), (0 : Int32), u0)) (fun a => some a) fun b =>
      nmv b.1 fun y17 =>
      nmv b.2 fun u16 =>
      some (y17, u16)
  else
  bnd (f_X7_finds (-1000001 : Int32) u0) fun r18 u19 =>
  some (r18, u19)))))))))
set_option maxRecDepth 100000 in
set_option maxHeartbeats 4000000 in
theorem c_X7_count {a1 : Int32} {u0 : MS} {r : Int32} {u' : MS} (h : f_X7_count a1 u0 = some (r, u')) : MI l D cI cZ cQ adK adV A yX7_count cX7_count 4 (some .int) { frames := 1, cells := 0, slots := 0, locals := 21 } [.ref (ad 0), .int a1] (wM cI ad) u0 r u' := by
  unfold f_X7_count at h
  refine entI (by decide) (Nat.le_of_ble_eq_true rfl) (fun p e s m below meth c ls X K G hl => ?_)
  have hl : lv_has ls 4 [(0, .ref (ad 0)), (1, .int a1)] := hl
  obtain ⟨hx, hb, -⟩ := id X
  generalize hH : s.heap = H at G
  subst hH
  refine lv_iconst (v := 0) hx hb dX7_count_0 (by decide) ?_
  refine lv_istore_n (lv' := [(2, .int (0 : Int32)), (0, .ref (ad 0)), (1, .int a1)]) hx hb dX7_count_1 rfl hl (by decide) rfl (fun ls hl => ?_)
  refine lv_iload_n hx hb dX7_count_2 rfl (lv_at hl 2 rfl) ?_
  by_cases c1 : a1 = (0 : Int32)
  · have h := it_at c1 h
    refine tswI X (0 : Int32) c1 dX7_count_3 (off := 45) (tgt := 48) (by decide) ?_
    refine lv_aload_n hx hb dX7_count_48 rfl (lv_at hl 1 rfl) ?_
    refine gM_0_0 X K G q_906 dX7_count_49 ?_
    refine lv_iload_n hx hb dX7_count_52 rfl (lv_at hl 2 rfl) ?_
    obtain ⟨g9, h⟩ := ck_at h
    refine lM_1 X K G g9 dX7_count_53 ?_
    obtain ⟨rfl, rfl⟩ := pair_at h
    exact reI X G dX7_count_54
  have h := if_at c1 h
  by_cases c2 : a1 = (1 : Int32)
  · have h := it_at c2 h
    refine tswI X (1 : Int32) c2 dX7_count_3 (off := 45) (tgt := 48) (by decide) ?_
    refine lv_aload_n hx hb dX7_count_48 rfl (lv_at hl 1 rfl) ?_
    refine gM_0_0 X K G q_906 dX7_count_49 ?_
    refine lv_iload_n hx hb dX7_count_52 rfl (lv_at hl 2 rfl) ?_
    obtain ⟨g10, h⟩ := ck_at h
    refine lM_1 X K G g10 dX7_count_53 ?_
    obtain ⟨rfl, rfl⟩ := pair_at h
    exact reI X G dX7_count_54
  have h := if_at c2 h
  by_cases c3 : a1 = (2 : Int32)
  · have h := it_at c3 h
    refine tswI X (2 : Int32) c3 dX7_count_3 (off := 45) (tgt := 48) (by decide) ?_
    refine lv_aload_n hx hb dX7_count_48 rfl (lv_at hl 1 rfl) ?_
    refine gM_0_0 X K G q_906 dX7_count_49 ?_
    refine lv_iload_n hx hb dX7_count_52 rfl (lv_at hl 2 rfl) ?_
    obtain ⟨g11, h⟩ := ck_at h
    refine lM_1 X K G g11 dX7_count_53 ?_
    obtain ⟨rfl, rfl⟩ := pair_at h
    exact reI X G dX7_count_54
  have h := if_at c3 h
  by_cases c4 : a1 = (3 : Int32)
  · have h := it_at c4 h
    refine tswI X (3 : Int32) c4 dX7_count_3 (off := 45) (tgt := 48) (by decide) ?_
    refine lv_aload_n hx hb dX7_count_48 rfl (lv_at hl 1 rfl) ?_
    refine gM_0_0 X K G q_906 dX7_count_49 ?_
    refine lv_iload_n hx hb dX7_count_52 rfl (lv_at hl 2 rfl) ?_
    obtain ⟨g12, h⟩ := ck_at h
    refine lM_1 X K G g12 dX7_count_53 ?_
    obtain ⟨rfl, rfl⟩ := pair_at h
    exact reI X G dX7_count_54
  have h := if_at c4 h
  by_cases c5 : a1 = (4 : Int32)
  · have h := it_at c5 h
    refine tswI X (4 : Int32) c5 dX7_count_3 (off := 45) (tgt := 48) (by decide) ?_
    refine lv_aload_n hx hb dX7_count_48 rfl (lv_at hl 1 rfl) ?_
    refine gM_0_0 X K G q_906 dX7_count_49 ?_
    refine lv_iload_n hx hb dX7_count_52 rfl (lv_at hl 2 rfl) ?_
    obtain ⟨g13, h⟩ := ck_at h
    refine lM_1 X K G g13 dX7_count_53 ?_
    obtain ⟨rfl, rfl⟩ := pair_at h
    exact reI X G dX7_count_54
  have h := if_at c5 h
  by_cases c6 : a1 = (5 : Int32)
  · have h := it_at c6 h
    refine tswI X (5 : Int32) c6 dX7_count_3 (off := 52) (tgt := 55) (by decide) ?_
    refine lv_aload_n hx hb dX7_count_55 rfl (lv_at hl 1 rfl) ?_
    refine gM_0_5 X K G q_911 dX7_count_56 ?_
    obtain ⟨rfl, rfl⟩ := pair_at h
    exact reI X G dX7_count_59
  have h := if_at c6 h
  by_cases c7 : a1 = (6 : Int32)
  · have h := it_at c7 h
    refine tswI X (6 : Int32) c7 dX7_count_3 (off := 57) (tgt := 60) (by decide) ?_
    refine lv_aload_n hx hb dX7_count_60 rfl (lv_at hl 1 rfl) ?_
    refine gM_0_0 X K G q_906 dX7_count_61 ?_
    refine lv_iconst (v := 5) hx hb dX7_count_64 (by decide) ?_
    refine lM_1 X K G (by decide) dX7_count_65 ?_
    obtain ⟨rfl, rfl⟩ := pair_at h
    exact reI X G dX7_count_66
  have h := if_at c7 h
  by_cases c8 : a1 = (7 : Int32)
  · have h := it_at c8 h
    refine tswI X (7 : Int32) c8 dX7_count_3 (off := 64) (tgt := 67) (by decide) ?_
    refine lv_iconst (v := 0) hx hb dX7_count_67 (by decide) ?_
    refine lv_istore_n (lv' := [(3, .int (0 : Int32)), (2, .int (0 : Int32)), (0, .ref (ad 0)), (1, .int a1)]) hx hb dX7_count_68 rfl hl (by decide) rfl (fun ls hl => ?_)
    obtain ⟨q15, hq15, ha, hb1⟩ := bne_at h
    obtain ⟨n14, hn14⟩ := wl_iff.mp hq15
    refine w_X7_count_L69_69 X K n14 _ _ _ hn14 G (lv_sub hl [2, 1, 0] rfl) (fun y17 u16 ee H locs ls G hl => ?_) (fun r u1 ee => by obtain ⟨rfl, rfl⟩ := pair_at (ha _ ee); rfl)
    have h := hb1 _ ee
    clear ee ha hb1 hq15 hn14
    have h := nm_at (x := y17) rfl h
    have h := nm_at (x := u16) rfl h
    refine lv_iload_n hx hb dX7_count_102 rfl (lv_at hl 0 rfl) ?_
    obtain ⟨rfl, rfl⟩ := pair_at h
    exact reI X G dX7_count_103
  have h := if_at c8 h
  have tc1 := lv_neT (a := 0) c1 rfl
  have tc2 := lv_neT (a := 1) c2 rfl
  have tc3 := lv_neT (a := 2) c3 rfl
  have tc4 := lv_neT (a := 3) c4 rfl
  have tc5 := lv_neT (a := 4) c5 rfl
  have tc6 := lv_neT (a := 5) c6 rfl
  have tc7 := lv_neT (a := 6) c7 rfl
  have tc8 := lv_neT (a := 7) c8 rfl
  refine tswO X (by omega) dX7_count_3 (tgt := 104) (by decide) ?_
  refine lv_aload_n hx hb dX7_count_104 rfl (lv_at hl 1 rfl) ?_
  refine lv_ldc (v := -1000001) hx hb X.2.2.2.1 (X.2.2.2.2.1 _ q_975) dX7_count_105 ?_
  obtain ⟨r18, u19, er18, h⟩ := bnd_at h
  refine cvI (rest := []) X K G (c_X7_finds er18) q_976 my_X7_finds ⟨rfl, rfl⟩ ⟨Nat.le_of_ble_eq_true rfl, Nat.le_of_ble_eq_true rfl⟩ ⟨Nat.zero_le _, Nat.zero_le _⟩ 0 7 rfl rfl rfl rfl hl.1 rfl (Nat.le_of_ble_eq_true rfl) dX7_count_107 (fun H locs G => ?_)
  clear er18
  obtain ⟨rfl, rfl⟩ := pair_at h
  exact reI X G dX7_count_110
noncomputable def f_X7_status_L25_41 (v1 : Int32) (v3 : Int32) (k0 : Int32) (u0 : MS) : Option ((Int32 × Int32 × Int32 × MS) ⊕ ((Int32 × MS) ⊕ (Int32 × MS))) :=
  if v3 < 0 ∨ 7 ≤ v3.toNatClampNeg then none else
  nmv (k0 + ((m_found u0) v3.toNatClampNeg)) fun x2 =>
  nmv (v3 + (1 : Int32)) fun x3 =>
  some (.inl (v1, x2, x3, u0))
set_option maxRecDepth 100000 in
set_option maxHeartbeats 4000000 in
theorem b_X7_status_L25_41 (X : cx p s m args meth c cX7_status 4 RX7 (some .int)) (K : kx D cI cZ cQ adK adV A s s.heap) {v1 : Int32} {v3 : Int32} {k0 : Int32} {u0 : MS} (G : wg D A s.heap H locs (wM cI ad u0)) (hl : lv_has ls 4 [(0, .ref (ad 0)), (1, .int v1), (3, .int v3)]) {q : ((Int32 × Int32 × Int32 × MS) ⊕ ((Int32 × MS) ⊕ (Int32 × MS)))} (h : f_X7_status_L25_41 v1 v3 k0 u0 = some q) (hB : ∀ (v1 : Int32) (v2 : Int32) (v3 : Int32) (u : MS), q = .inl (v1, v2, v3, u) → ∀ (H : Heap) (locs : List Loc) (ls : Array Slot), wg D A s.heap H locs (wM cI ad u) → lv_has ls 4 [(0, .ref (ad 0)), (1, .int v1), (2, .int v2), (3, .int v3)] → W p l e { frames := 1, cells := 0, slots := 0, locals := 25 } s m args below meth c H locs 0 0 Q (F0 m 25 ls [])) (hX : ∀ (v2 : Int32) (u : MS), q = .inr (.inr (v2, u)) → ∀ (H : Heap) (locs : List Loc) (ls : Array Slot), wg D A s.heap H locs (wM cI ad u) → lv_has ls 4 [(2, .int v2)] → W p l e { frames := 1, cells := 0, slots := 0, locals := 25 } s m args below meth c H locs 0 0 Q (F0 m 59 ls [])) (hR : ∀ (r : Int32) (u : MS), q = .inr (.inl (r, u)) → Q = (qI D A (wM cI ad) below args s r u)) : W p l e { frames := 1, cells := 0, slots := 0, locals := 25 } s m args below meth c H locs 0 0 Q (F0 m 41 ls [.int k0]) := by
  unfold f_X7_status_L25_41 at h
  obtain ⟨hx, hb, -⟩ := id X
  refine lv_aload_n hx hb dX7_status_41 rfl (lv_at hl 0 rfl) ?_
  refine gM_0_3 X K G q_909 dX7_status_42 ?_
  refine lv_iload_n hx hb dX7_status_45 rfl (lv_at hl 2 rfl) ?_
  obtain ⟨g1, h⟩ := ck_at h
  refine lM_3 X K G g1 dX7_status_46 ?_
  refine lv_goto (tgt := 51) hx hb dX7_status_47 (by decide) ?_
  refine lv_iadd hx hb dX7_status_51 ?_
  refine lv_topi (fun x2 ex2 => ?_)
  have h := nm_at ex2 h
  refine lv_istore_n (lv' := [(2, .int x2), (0, .ref (ad 0)), (1, .int v1), (3, .int v3)]) hx hb dX7_status_52 rfl hl (by decide) rfl (fun ls hl => ?_)
  obtain ⟨x3, ex3⟩ : ∃ z : Int32, z = v3 + (1 : Int32) := ⟨_, rfl⟩
  have h := nm_at ex3 h
  refine lv_iinc (v := x3) (lv' := [(3, .int x3), (2, .int x2), (0, .ref (ad 0)), (1, .int v1)]) hx hb dX7_status_53 hl (k := 3) rfl (by rw [ex3]; rfl) (by decide) rfl (fun ls hl => ?_)
  refine lv_goto (tgt := 25) hx hb dX7_status_56 (by decide) ?_
  exact hB _ _ _ _ (Option.some.inj h).symm _ _ _ G (lv_sub hl [2, 3, 1, 0] rfl)
noncomputable def f_X7_status_L25_25 (v1 : Int32) (v2 : Int32) (v3 : Int32) (u0 : MS) : Option ((Int32 × Int32 × Int32 × MS) ⊕ ((Int32 × MS) ⊕ (Int32 × MS))) :=
  (if (7 : Int32) ≤ v3 then
    some (.inr (.inr (v2, u0)))
  else
    (if v1 < 0 then
      f_X7_status_L25_41 v1 v3 v2 u0
    else
      (if v1 = v3 then
        f_X7_status_L25_41 v1 v3 v2 u0
      else
        nmv (v2 + (0 : Int32)) fun x4 =>
        nmv (v3 + (1 : Int32)) fun x5 =>
        some (.inl (v1, x4, x5, u0)))))
set_option maxRecDepth 100000 in
set_option maxHeartbeats 4000000 in
theorem b_X7_status_L25_25 (X : cx p s m args meth c cX7_status 4 RX7 (some .int)) (K : kx D cI cZ cQ adK adV A s s.heap) {v1 : Int32} {v2 : Int32} {v3 : Int32} {u0 : MS} (G : wg D A s.heap H locs (wM cI ad u0)) (hl : lv_has ls 4 [(0, .ref (ad 0)), (1, .int v1), (2, .int v2), (3, .int v3)]) {q : ((Int32 × Int32 × Int32 × MS) ⊕ ((Int32 × MS) ⊕ (Int32 × MS)))} (h : f_X7_status_L25_25 v1 v2 v3 u0 = some q) (hB : ∀ (v1 : Int32) (v2 : Int32) (v3 : Int32) (u : MS), q = .inl (v1, v2, v3, u) → ∀ (H : Heap) (locs : List Loc) (ls : Array Slot), wg D A s.heap H locs (wM cI ad u) → lv_has ls 4 [(0, .ref (ad 0)), (1, .int v1), (2, .int v2), (3, .int v3)] → W p l e { frames := 1, cells := 0, slots := 0, locals := 25 } s m args below meth c H locs 0 0 Q (F0 m 25 ls [])) (hX : ∀ (v2 : Int32) (u : MS), q = .inr (.inr (v2, u)) → ∀ (H : Heap) (locs : List Loc) (ls : Array Slot), wg D A s.heap H locs (wM cI ad u) → lv_has ls 4 [(2, .int v2)] → W p l e { frames := 1, cells := 0, slots := 0, locals := 25 } s m args below meth c H locs 0 0 Q (F0 m 59 ls [])) (hR : ∀ (r : Int32) (u : MS), q = .inr (.inl (r, u)) → Q = (qI D A (wM cI ad) below args s r u)) : W p l e { frames := 1, cells := 0, slots := 0, locals := 25 } s m args below meth c H locs 0 0 Q (F0 m 25 ls []) := by
  unfold f_X7_status_L25_25 at h
  obtain ⟨hx, hb, -⟩ := id X
  refine lv_iload_n hx hb dX7_status_25 rfl (lv_at hl 3 rfl) ?_
  refine lv_bipush (v := 7) hx hb dX7_status_26 (by decide) ?_
  refine lv_icmp_ge (tgt := 59) hx hb dX7_status_28 (by decide) (fun c1 => ?_) (fun c1 => ?_)
  · have h := it_at c1 h
    exact hX _ _ (Option.some.inj h).symm _ _ _ G (lv_sub hl [2] rfl)
  · have h := if_at c1 h
    refine lv_iload_n hx hb dX7_status_31 rfl (lv_at hl 2 rfl) ?_
    refine lv_iload_n hx hb dX7_status_32 rfl (lv_at hl 1 rfl) ?_
    refine lv_if_lt (tgt := 41) hx hb dX7_status_33 (by decide) (fun c2 => ?_) (fun c2 => ?_)
    · have h := it_at c2 h
      exact b_X7_status_L25_41 X K G (lv_sub hl [0, 1, 3] rfl) h hB hX hR
    · have h := if_at c2 h
      refine lv_iload_n hx hb dX7_status_36 rfl (lv_at hl 1 rfl) ?_
      refine lv_iload_n hx hb dX7_status_37 rfl (lv_at hl 3 rfl) ?_
      refine lv_icmp_ne (tgt := 50) hx hb dX7_status_38 (by decide) (fun c3 => ?_) (fun c3 => ?_)
      · have h := if_at c3 h
        refine lv_iconst (v := 0) hx hb dX7_status_50 (by decide) ?_
        refine lv_iadd hx hb dX7_status_51 ?_
        refine lv_topi (fun x4 ex4 => ?_)
        have h := nm_at ex4 h
        refine lv_istore_n (lv' := [(2, .int x4), (0, .ref (ad 0)), (1, .int v1), (3, .int v3)]) hx hb dX7_status_52 rfl hl (by decide) rfl (fun ls hl => ?_)
        obtain ⟨x5, ex5⟩ : ∃ z : Int32, z = v3 + (1 : Int32) := ⟨_, rfl⟩
        have h := nm_at ex5 h
        refine lv_iinc (v := x5) (lv' := [(3, .int x5), (2, .int x4), (0, .ref (ad 0)), (1, .int v1)]) hx hb dX7_status_53 hl (k := 3) rfl (by rw [ex5]; rfl) (by decide) rfl (fun ls hl => ?_)
        refine lv_goto (tgt := 25) hx hb dX7_status_56 (by decide) ?_
        exact hB _ _ _ _ (Option.some.inj h).symm _ _ _ G (lv_sub hl [2, 3, 1, 0] rfl)
      · have h := it_at c3 h
        exact b_X7_status_L25_41 X K G (lv_sub hl [0, 1, 3] rfl) h hB hX hR
noncomputable def f_X7_status_L25_25s (q : Int32 × Int32 × Int32 × MS) : Option ((Int32 × Int32 × Int32 × MS) ⊕ ((Int32 × MS) ⊕ (Int32 × MS))) := f_X7_status_L25_25 q.1 q.2.1 q.2.2.1 q.2.2.2
set_option maxRecDepth 100000 in
set_option maxHeartbeats 4000000 in
theorem w_X7_status_L25_25 (X : cx p s m args meth c cX7_status 4 RX7 (some .int)) (K : kx D cI cZ cQ adK adV A s s.heap) {e0 : (Int32 × MS) ⊕ (Int32 × MS)} : ∀ (n : Nat) (v1 : Int32) (v2 : Int32) (v3 : Int32) (u : MS) {H : Heap} {locs : List Loc} {ls : Array Slot}, wh f_X7_status_L25_25s n (v1, v2, v3, u) = some e0 → wg D A s.heap H locs (wM cI ad u) → lv_has ls 4 [(0, .ref (ad 0)), (1, .int v1), (2, .int v2), (3, .int v3)] → (∀ (v2 : Int32) (u : MS), e0 = .inr (v2, u) → ∀ (H : Heap) (locs : List Loc) (ls : Array Slot), wg D A s.heap H locs (wM cI ad u) → lv_has ls 4 [(2, .int v2)] → W p l e { frames := 1, cells := 0, slots := 0, locals := 25 } s m args below meth c H locs 0 0 Q (F0 m 59 ls [])) → (∀ (r : Int32) (u : MS), e0 = .inl (r, u) → Q = (qI D A (wM cI ad) below args s r u)) → W p l e { frames := 1, cells := 0, slots := 0, locals := 25 } s m args below meth c H locs 0 0 Q (F0 m 25 ls []) := by
  intro n
  induction n with
  | zero => intro v1 v2 v3 u H locs ls h; cases h
  | succ n ih =>
    intro v1 v2 v3 u H locs ls h G hl hX hR
    obtain ⟨q, h1, h2, h3⟩ := wh_at h
    exact b_X7_status_L25_25 X K G hl (show f_X7_status_L25_25 v1 v2 v3 u = some q from h1) (fun b0 b1 b2 b3 ee H locs ls G hl => ih b0 b1 b2 b3 (h2 _ ee) G hl hX hR) (fun z0 z1 ee => hX z0 z1 (h3 _ ee).symm) (fun r u ee => hR r u (h3 _ ee).symm)
noncomputable def f_X7_status (a1 : Int32) (u0 : MS) : Option (Int32 × MS) :=
  bnd (f_X7_in (a1.toInt64) (-1 : Int64) (6 : Int64) u0) fun r1 u2 =>
  (if r1 = 0 then
    bnd (f_X7_finds (-1000001 : Int32) u2) fun r8 u9 =>
    some (r8, u9)
  else
    bne (wl f_X7_status_L25_25s (a1, (0 : Int32), (0 : Int32), u2)) (fun a => some a) fun b =>
      nmv b.1 fun y7 =>
      nmv b.2 fun u6 =>
      some (y7, u6))
set_option maxRecDepth 100000 in
set_option maxHeartbeats 4000000 in
theorem c_X7_status {a1 : Int32} {u0 : MS} {r : Int32} {u' : MS} (h : f_X7_status a1 u0 = some (r, u')) : MI l D cI cZ cQ adK adV A yX7_status cX7_status 4 (some .int) { frames := 1, cells := 0, slots := 0, locals := 25 } [.ref (ad 0), .int a1] (wM cI ad) u0 r u' := by
  unfold f_X7_status at h
  refine entI (by decide) (Nat.le_of_ble_eq_true rfl) (fun p e s m below meth c ls X K G hl => ?_)
  have hl : lv_has ls 4 [(0, .ref (ad 0)), (1, .int a1)] := hl
  obtain ⟨hx, hb, -⟩ := id X
  generalize hH : s.heap = H at G
  subst hH
  refine lv_iload_n hx hb dX7_status_0 rfl (lv_at hl 1 rfl) ?_
  refine lv_i2l hx hb dX7_status_1 rfl ?_
  refine lv_ldc2 (v := -1) hx hb X.2.2.2.1 (X.2.2.2.2.1 _ q_1069) dX7_status_2 ?_
  refine lv_ldc2 (v := 6) hx hb X.2.2.2.1 (X.2.2.2.2.1 _ q_1110) dX7_status_5 ?_
  obtain ⟨r1, u2, er1, h⟩ := bnd_at h
  refine csI (rest := []) X K G (c_X7_in er1) q_972 my_X7_in ⟨rfl, rfl⟩ ⟨Nat.le_of_ble_eq_true rfl, Nat.le_of_ble_eq_true rfl⟩ ⟨Nat.zero_le _, Nat.zero_le _⟩ rfl hl.1 rfl (Nat.le_of_ble_eq_true rfl) dX7_status_8 (fun H locs G => ?_)
  clear er1
  refine lv_if_ne (tgt := 21) hx hb dX7_status_11 (by decide) (fun c3 => ?_) (fun c3 => ?_)
  · have h := if_at c3 h
    refine lv_iconst (v := 0) hx hb dX7_status_21 (by decide) ?_
    refine lv_istore_n (lv' := [(2, .int (0 : Int32)), (0, .ref (ad 0)), (1, .int a1)]) hx hb dX7_status_22 rfl hl (by decide) rfl (fun ls hl => ?_)
    refine lv_iconst (v := 0) hx hb dX7_status_23 (by decide) ?_
    refine lv_istore_n (lv' := [(3, .int (0 : Int32)), (2, .int (0 : Int32)), (0, .ref (ad 0)), (1, .int a1)]) hx hb dX7_status_24 rfl hl (by decide) rfl (fun ls hl => ?_)
    obtain ⟨q5, hq5, ha, hb1⟩ := bne_at h
    obtain ⟨n4, hn4⟩ := wl_iff.mp hq5
    refine w_X7_status_L25_25 X K n4 _ _ _ _ hn4 G (lv_sub hl [2, 3, 1, 0] rfl) (fun y7 u6 ee H locs ls G hl => ?_) (fun r u1 ee => by obtain ⟨rfl, rfl⟩ := pair_at (ha _ ee); rfl)
    have h := hb1 _ ee
    clear ee ha hb1 hq5 hn4
    have h := nm_at (x := y7) rfl h
    have h := nm_at (x := u6) rfl h
    refine lv_iload_n hx hb dX7_status_59 rfl (lv_at hl 0 rfl) ?_
    obtain ⟨rfl, rfl⟩ := pair_at h
    exact reI X G dX7_status_60
  · have h := it_at c3 h
    refine lv_aload_n hx hb dX7_status_14 rfl (lv_at hl 0 rfl) ?_
    refine lv_ldc (v := -1000001) hx hb X.2.2.2.1 (X.2.2.2.2.1 _ q_975) dX7_status_15 ?_
    obtain ⟨r8, u9, er8, h⟩ := bnd_at h
    refine cvI (rest := []) X K G (c_X7_finds er8) q_976 my_X7_finds ⟨rfl, rfl⟩ ⟨Nat.le_of_ble_eq_true rfl, Nat.le_of_ble_eq_true rfl⟩ ⟨Nat.zero_le _, Nat.zero_le _⟩ 0 7 rfl rfl rfl rfl hl.1 rfl (Nat.le_of_ble_eq_true rfl) dX7_status_17 (fun H locs G => ?_)
    clear er8
    obtain ⟨rfl, rfl⟩ := pair_at h
    exact reI X G dX7_status_20
end WALK_ref5
