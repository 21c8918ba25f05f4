section WALK_ref1
variable {p : Program} {l : Launch} {e : Env} {s : State} {m : MethodId} {args : Array Value} {below : List Frame} {meth : Method} {c : Code} {H : Heap} {locs : List Loc} {Q : State → Prop} {D : va_G} {cI cZ cQ : ClassId} {adK adV ad : Nat → Nat} {A : Nat → Prop} {ls : Array Slot}
noncomputable def f_X7_item (u0 : MS) : Option (Int32 × MS) :=
  bnd (f_X7_takes (0) u0) fun r1 u2 =>
  (if r1 = 0 then
    bnd (f_X7_takes (1) u2) fun r4 u5 =>
    (if r4 = 0 then
      bnd (f_X7_isWord (2) u5) fun r7 u8 =>
      (if r7 = 0 then
        bnd (f_X7_isWord (3) u8) fun r10 u11 =>
        (if r10 = 0 then
          bnd (f_X7_kindHere  u11) fun r13 u14 =>
          bnd (f_X7_thingItem r13 u14) fun r15 u16 =>
          some ((0 : Int32), u16)
        else
          bnd (f_X7_orderItem  u11) fun r17 u18 =>
          some ((0 : Int32), u18))
      else
        bnd (f_X7_toolItem  u8) fun r19 u20 =>
        some ((0 : Int32), u20))
    else
      bnd (f_X7_number (0 : Int32) (11 : Int32) u5) fun r21 u22 =>
      nmv (mu_m u22 (upd (m_m u22) (1 : Int32).toNatClampNeg r21)) fun u23 =>
      some ((0 : Int32), u23))
  else
    bnd (f_X7_number (1 : Int32) (12 : Int32) u2) fun r24 u25 =>
    nmv (mu_m u25 (upd (m_m u25) (0 : Int32).toNatClampNeg r24)) fun u26 =>
    some ((0 : Int32), u26))
set_option maxRecDepth 100000 in
set_option maxHeartbeats 4000000 in
theorem c_X7_item {u0 : MS} {r : Int32} {u' : MS} (h : f_X7_item  u0 = some (r, u')) : MV l D cI cZ cQ adK adV A yX7_item cX7_item 1 { frames := 7, cells := 0, slots := 0, locals := 153 } [.ref (ad 0)] (wM cI ad) u0 u' := by
  unfold f_X7_item at h
  refine entV (by decide) (Nat.le_of_ble_eq_true rfl) (fun p e s m below meth c ls X K G hl => ?_)
  have hl : lv_has ls 1 [(0, .ref (ad 0))] := hl
  obtain ⟨hx, hb, -⟩ := id X
  generalize hH : s.heap = H at G
  subst hH
  refine lv_aload_n hx hb dX7_item_0 rfl (lv_at hl 0 rfl) ?_
  refine va_ldcS (q := adK 0) hx hb X.2.2.2.1 (K.2.2.2.1 0 (by decide)).2 dX7_item_1 ?_
  obtain ⟨r1, u2, er1, h⟩ := bnd_at h
  refine cvI (rest := []) X K G (c_X7_takes er1) q_1002 my_X7_takes ⟨rfl, rfl⟩ ⟨Nat.le_of_ble_eq_true rfl, Nat.le_of_ble_eq_true rfl⟩ ⟨Nat.zero_le _, Nat.zero_le _⟩ 0 7 rfl rfl rfl rfl hl.1 rfl (Nat.le_of_ble_eq_true rfl) dX7_item_3 (fun H locs G => ?_)
  clear er1
  refine lv_if_eq (tgt := 25) hx hb dX7_item_6 (by decide) (fun c3 => ?_) (fun c3 => ?_)
  · have h := it_at c3 h
    refine lv_aload_n hx hb dX7_item_25 rfl (lv_at hl 0 rfl) ?_
    refine va_ldcS (q := adK 1) hx hb X.2.2.2.1 (K.2.2.2.1 1 (by decide)).2 dX7_item_26 ?_
    obtain ⟨r4, u5, er4, h⟩ := bnd_at h
    refine cvI (rest := []) X K G (c_X7_takes er4) q_1002 my_X7_takes ⟨rfl, rfl⟩ ⟨Nat.le_of_ble_eq_true rfl, Nat.le_of_ble_eq_true rfl⟩ ⟨Nat.zero_le _, Nat.zero_le _⟩ 0 7 rfl rfl rfl rfl hl.1 rfl (Nat.le_of_ble_eq_true rfl) dX7_item_28 (fun H locs G => ?_)
    clear er4
    refine lv_if_eq (tgt := 50) hx hb dX7_item_31 (by decide) (fun c6 => ?_) (fun c6 => ?_)
    · have h := it_at c6 h
      refine lv_aload_n hx hb dX7_item_50 rfl (lv_at hl 0 rfl) ?_
      refine va_ldcS (q := adK 2) hx hb X.2.2.2.1 (K.2.2.2.1 2 (by decide)).2 dX7_item_51 ?_
      obtain ⟨r7, u8, er7, h⟩ := bnd_at h
      refine cvI (rest := []) X K G (c_X7_isWord er7) q_1006 my_X7_isWord ⟨rfl, rfl⟩ ⟨Nat.le_of_ble_eq_true rfl, Nat.le_of_ble_eq_true rfl⟩ ⟨Nat.zero_le _, Nat.zero_le _⟩ 0 7 rfl rfl rfl rfl hl.1 rfl (Nat.le_of_ble_eq_true rfl) dX7_item_53 (fun H locs G => ?_)
      clear er7
      refine lv_if_eq (tgt := 66) hx hb dX7_item_56 (by decide) (fun c9 => ?_) (fun c9 => ?_)
      · have h := it_at c9 h
        refine lv_aload_n hx hb dX7_item_66 rfl (lv_at hl 0 rfl) ?_
        refine va_ldcS (q := adK 3) hx hb X.2.2.2.1 (K.2.2.2.1 3 (by decide)).2 dX7_item_67 ?_
        obtain ⟨r10, u11, er10, h⟩ := bnd_at h
        refine cvI (rest := []) X K G (c_X7_isWord er10) q_1006 my_X7_isWord ⟨rfl, rfl⟩ ⟨Nat.le_of_ble_eq_true rfl, Nat.le_of_ble_eq_true rfl⟩ ⟨Nat.zero_le _, Nat.zero_le _⟩ 0 7 rfl rfl rfl rfl hl.1 rfl (Nat.le_of_ble_eq_true rfl) dX7_item_69 (fun H locs G => ?_)
        clear er10
        refine lv_if_eq (tgt := 82) hx hb dX7_item_72 (by decide) (fun c12 => ?_) (fun c12 => ?_)
        · have h := it_at c12 h
          refine lv_aload_n hx hb dX7_item_82 rfl (lv_at hl 0 rfl) ?_
          refine lv_aload_n hx hb dX7_item_83 rfl (lv_at hl 0 rfl) ?_
          obtain ⟨r13, u14, er13, h⟩ := bnd_at h
          refine cvI (rest := [.ref (ad 0)]) X K G (c_X7_kindHere er13) q_1033 my_X7_kindHere ⟨rfl, rfl⟩ ⟨Nat.le_of_ble_eq_true rfl, Nat.le_of_ble_eq_true rfl⟩ ⟨Nat.zero_le _, Nat.zero_le _⟩ 0 7 rfl rfl rfl rfl hl.1 rfl (Nat.le_of_ble_eq_true rfl) dX7_item_84 (fun H locs G => ?_)
          clear er13
          obtain ⟨r15, u16, er15, h⟩ := bnd_at h
          refine cvV (rest := []) X K G (c_X7_thingItem er15) q_1044 my_X7_thingItem ⟨rfl, rfl⟩ ⟨Nat.le_of_ble_eq_true rfl, Nat.le_of_ble_eq_true rfl⟩ ⟨Nat.zero_le _, Nat.zero_le _⟩ 0 7 rfl rfl rfl rfl hl.1 rfl (Nat.le_of_ble_eq_true rfl) dX7_item_87 (fun H locs G => ?_)
          clear er15
          obtain ⟨rfl, rfl⟩ := pair_at h
          exact reV X G dX7_item_90
        · have h := if_at c12 h
          refine lv_aload_n hx hb dX7_item_75 rfl (lv_at hl 0 rfl) ?_
          obtain ⟨r17, u18, er17, h⟩ := bnd_at h
          refine cvV (rest := []) X K G (c_X7_orderItem er17) q_1023 my_X7_orderItem ⟨rfl, rfl⟩ ⟨Nat.le_of_ble_eq_true rfl, Nat.le_of_ble_eq_true rfl⟩ ⟨Nat.zero_le _, Nat.zero_le _⟩ 0 7 rfl rfl rfl rfl hl.1 rfl (Nat.le_of_ble_eq_true rfl) dX7_item_76 (fun H locs G => ?_)
          clear er17
          refine lv_goto (tgt := 90) hx hb dX7_item_79 (by decide) ?_
          obtain ⟨rfl, rfl⟩ := pair_at h
          exact reV X G dX7_item_90
      · have h := if_at c9 h
        refine lv_aload_n hx hb dX7_item_59 rfl (lv_at hl 0 rfl) ?_
        obtain ⟨r19, u20, er19, h⟩ := bnd_at h
        refine cvV (rest := []) X K G (c_X7_toolItem er19) q_1018 my_X7_toolItem ⟨rfl, rfl⟩ ⟨Nat.le_of_ble_eq_true rfl, Nat.le_of_ble_eq_true rfl⟩ ⟨Nat.zero_le _, Nat.zero_le _⟩ 0 7 rfl rfl rfl rfl hl.1 rfl (Nat.le_of_ble_eq_true rfl) dX7_item_60 (fun H locs G => ?_)
        clear er19
        refine lv_goto (tgt := 90) hx hb dX7_item_63 (by decide) ?_
        obtain ⟨rfl, rfl⟩ := pair_at h
        exact reV X G dX7_item_90
    · have h := if_at c6 h
      refine lv_aload_n hx hb dX7_item_34 rfl (lv_at hl 0 rfl) ?_
      refine gM_0_0 X K G q_906 dX7_item_35 ?_
      refine lv_iconst (v := 1) hx hb dX7_item_38 (by decide) ?_
      refine lv_aload_n hx hb dX7_item_39 rfl (lv_at hl 0 rfl) ?_
      refine lv_iconst (v := 0) hx hb dX7_item_40 (by decide) ?_
      refine lv_bipush (v := 11) hx hb dX7_item_41 (by decide) ?_
      obtain ⟨r21, u22, er21, h⟩ := bnd_at h
      refine cvI (rest := [.int (1 : Int32), .ref (ad 1)]) X K G (c_X7_number er21) q_1012 my_X7_number ⟨rfl, rfl⟩ ⟨Nat.le_of_ble_eq_true rfl, Nat.le_of_ble_eq_true rfl⟩ ⟨Nat.zero_le _, Nat.zero_le _⟩ 0 7 rfl rfl rfl rfl hl.1 rfl (Nat.le_of_ble_eq_true rfl) dX7_item_43 (fun H locs G => ?_)
      clear er21
      refine aM_1 X K G (by decide) dX7_item_46 (fun H locs G => ?_)
      obtain ⟨u23, eu23⟩ : ∃ z : MS, z = mu_m u22 (upd (m_m u22) (1 : Int32).toNatClampNeg r21) := ⟨_, rfl⟩
      have G : wg D A s.heap H locs (wM cI ad u23) := by rw [eu23]; exact G
      have h := nm_at eu23 h
      clear eu23
      refine lv_goto (tgt := 90) hx hb dX7_item_47 (by decide) ?_
      obtain ⟨rfl, rfl⟩ := pair_at h
      exact reV X G dX7_item_90
  · have h := if_at c3 h
    refine lv_aload_n hx hb dX7_item_9 rfl (lv_at hl 0 rfl) ?_
    refine gM_0_0 X K G q_906 dX7_item_10 ?_
    refine lv_iconst (v := 0) hx hb dX7_item_13 (by decide) ?_
    refine lv_aload_n hx hb dX7_item_14 rfl (lv_at hl 0 rfl) ?_
    refine lv_iconst (v := 1) hx hb dX7_item_15 (by decide) ?_
    refine lv_bipush (v := 12) hx hb dX7_item_16 (by decide) ?_
    obtain ⟨r24, u25, er24, h⟩ := bnd_at h
    refine cvI (rest := [.int (0 : Int32), .ref (ad 1)]) X K G (c_X7_number er24) q_1012 my_X7_number ⟨rfl, rfl⟩ ⟨Nat.le_of_ble_eq_true rfl, Nat.le_of_ble_eq_true rfl⟩ ⟨Nat.zero_le _, Nat.zero_le _⟩ 0 7 rfl rfl rfl rfl hl.1 rfl (Nat.le_of_ble_eq_true rfl) dX7_item_18 (fun H locs G => ?_)
    clear er24
    refine aM_1 X K G (by decide) dX7_item_21 (fun H locs G => ?_)
    obtain ⟨u26, eu26⟩ : ∃ z : MS, z = mu_m u25 (upd (m_m u25) (0 : Int32).toNatClampNeg r24) := ⟨_, rfl⟩
    have G : wg D A s.heap H locs (wM cI ad u26) := by rw [eu26]; exact G
    have h := nm_at eu26 h
    clear eu26
    refine lv_goto (tgt := 90) hx hb dX7_item_22 (by decide) ?_
    obtain ⟨rfl, rfl⟩ := pair_at h
    exact reV X G dX7_item_90
noncomputable def f_X7_town_L2_2 (v1 : Int32) (u0 : MS) : Option ((Int32 × MS) ⊕ ((Int32 × MS) ⊕ (MS))) :=
  (if (247 : Int32) ≤ v1 then
    some (.inr (.inr u0))
  else
    if v1 < 0 ∨ 247 ≤ v1.toNatClampNeg then none else
    nmv ((m_m u0) v1.toNatClampNeg) fun x3 =>
    if v1 < 0 ∨ 247 ≤ v1.toNatClampNeg then none else
    nmv (mu_ahead u0 (upd (m_ahead u0) v1.toNatClampNeg x3)) fun u5 =>
    nmv (v1 + (1 : Int32)) fun x6 =>
    some (.inl (x6, u5)))
set_option maxRecDepth 100000 in
set_option maxHeartbeats 4000000 in
theorem b_X7_town_L2_2 (X : cx p s m args meth c cX7_town 5 RX7 (some .int)) (K : kx D cI cZ cQ adK adV A s s.heap) {v1 : Int32} {u0 : MS} (G : wg D A s.heap H locs (wM cI ad u0)) (hl : lv_has ls 5 [(0, .ref (ad 0)), (1, .int v1)]) {q : ((Int32 × MS) ⊕ ((Int32 × MS) ⊕ (MS)))} (h : f_X7_town_L2_2 v1 u0 = some q) (hB : ∀ (v1 : Int32) (u : MS), q = .inl (v1, u) → ∀ (H : Heap) (locs : List Loc) (ls : Array Slot), wg D A s.heap H locs (wM cI ad u) → lv_has ls 5 [(0, .ref (ad 0)), (1, .int v1)] → W p l e { frames := 8, cells := 0, slots := 0, locals := 173 } s m args below meth c H locs 0 0 Q (F0 m 2 ls [])) (hX : ∀ (u : MS), q = .inr (.inr u) → ∀ (H : Heap) (locs : List Loc) (ls : Array Slot), wg D A s.heap H locs (wM cI ad u) → lv_has ls 5 [(0, .ref (ad 0))] → W p l e { frames := 8, cells := 0, slots := 0, locals := 173 } s m args below meth c H locs 0 0 Q (F0 m 27 ls [])) (hR : ∀ (r : Int32) (u : MS), q = .inr (.inl (r, u)) → Q = (qI D A (wM cI ad) below args s r u)) : W p l e { frames := 8, cells := 0, slots := 0, locals := 173 } s m args below meth c H locs 0 0 Q (F0 m 2 ls []) := by
  unfold f_X7_town_L2_2 at h
  obtain ⟨hx, hb, -⟩ := id X
  refine lv_iload_n hx hb dX7_town_2 rfl (lv_at hl 1 rfl) ?_
  refine lv_sipush (v := 247) hx hb dX7_town_3 (by decide) ?_
  refine lv_icmp_ge (tgt := 27) hx hb dX7_town_6 (by decide) (fun c1 => ?_) (fun c1 => ?_)
  · have h := it_at c1 h
    exact hX _ (Option.some.inj h).symm _ _ _ G (lv_sub hl [0] rfl)
  · have h := if_at c1 h
    refine lv_aload_n hx hb dX7_town_9 rfl (lv_at hl 0 rfl) ?_
    refine gM_0_11 X K G q_917 dX7_town_10 ?_
    refine lv_iload_n hx hb dX7_town_13 rfl (lv_at hl 1 rfl) ?_
    refine lv_aload_n hx hb dX7_town_14 rfl (lv_at hl 0 rfl) ?_
    refine gM_0_0 X K G q_906 dX7_town_15 ?_
    refine lv_iload_n hx hb dX7_town_18 rfl (lv_at hl 1 rfl) ?_
    obtain ⟨g2, h⟩ := ck_at h
    refine lM_1 X K G g2 dX7_town_19 ?_
    refine lv_topi (fun x3 ex3 => ?_)
    have h := nm_at ex3 h
    obtain ⟨g4, h⟩ := ck_at h
    refine aM_5 X K G g4 dX7_town_20 (fun H locs G => ?_)
    obtain ⟨u5, eu5⟩ : ∃ z : MS, z = mu_ahead u0 (upd (m_ahead u0) v1.toNatClampNeg x3) := ⟨_, rfl⟩
    have G : wg D A s.heap H locs (wM cI ad u5) := by rw [eu5]; exact G
    have h := nm_at eu5 h
    clear eu5
    obtain ⟨x6, ex6⟩ : ∃ z : Int32, z = v1 + (1 : Int32) := ⟨_, rfl⟩
    have h := nm_at ex6 h
    refine lv_iinc (v := x6) (lv' := [(1, .int x6), (0, .ref (ad 0))]) hx hb dX7_town_21 hl (k := 1) rfl (by rw [ex6]; rfl) (by decide) rfl (fun ls hl => ?_)
    refine lv_goto (tgt := 2) hx hb dX7_town_24 (by decide) ?_
    exact hB _ _ (Option.some.inj h).symm _ _ _ G (lv_sub hl [1, 0] rfl)
noncomputable def f_X7_town_L2_2s (q : Int32 × MS) : Option ((Int32 × MS) ⊕ ((Int32 × MS) ⊕ (MS))) := f_X7_town_L2_2 q.1 q.2
set_option maxRecDepth 100000 in
set_option maxHeartbeats 4000000 in
theorem w_X7_town_L2_2 (X : cx p s m args meth c cX7_town 5 RX7 (some .int)) (K : kx D cI cZ cQ adK adV A s s.heap) {e0 : (Int32 × MS) ⊕ (MS)} : ∀ (n : Nat) (v1 : Int32) (u : MS) {H : Heap} {locs : List Loc} {ls : Array Slot}, wh f_X7_town_L2_2s n (v1, u) = some e0 → wg D A s.heap H locs (wM cI ad u) → lv_has ls 5 [(0, .ref (ad 0)), (1, .int v1)] → (∀ (u : MS), e0 = .inr u → ∀ (H : Heap) (locs : List Loc) (ls : Array Slot), wg D A s.heap H locs (wM cI ad u) → lv_has ls 5 [(0, .ref (ad 0))] → W p l e { frames := 8, cells := 0, slots := 0, locals := 173 } s m args below meth c H locs 0 0 Q (F0 m 27 ls [])) → (∀ (r : Int32) (u : MS), e0 = .inl (r, u) → Q = (qI D A (wM cI ad) below args s r u)) → W p l e { frames := 8, cells := 0, slots := 0, locals := 173 } s m args below meth c H locs 0 0 Q (F0 m 2 ls []) := by
  intro n
  induction n with
  | zero => intro v1 u H locs ls h; cases h
  | succ n ih =>
    intro v1 u H locs ls h G hl hX hR
    obtain ⟨q, h1, h2, h3⟩ := wh_at h
    exact b_X7_town_L2_2 X K G hl (show f_X7_town_L2_2 v1 u = some q from h1) (fun b0 b1 ee H locs ls G hl => ih b0 b1 (h2 _ ee) G hl hX hR) (fun z0 ee => hX z0 (h3 _ ee).symm) (fun r u ee => hR r u (h3 _ ee).symm)
noncomputable def f_X7_town_L45_45 (v1 : Int32) (v2 : Int32) (u0 : MS) : Option ((Int32 × Int32 × MS) ⊕ ((Int32 × MS) ⊕ (Int32 × MS))) :=
  (if v2 = 0 then
    some (.inr (.inr (v1, u0)))
  else
    bnd (f_X7_item  u0) fun r2 u3 =>
    nmv (v1 + (1 : Int32)) fun x4 =>
    bnd (f_X7_isSign (59 : Int32) u3) fun r5 u6 =>
    (if r5 = 0 then
      some (.inl (x4, r5, u6))
    else
      bnd (f_X7_token  u6) fun r8 u9 =>
      some (.inl (x4, r5, u9))))
set_option maxRecDepth 100000 in
set_option maxHeartbeats 4000000 in
theorem b_X7_town_L45_45 (X : cx p s m args meth c cX7_town 5 RX7 (some .int)) (K : kx D cI cZ cQ adK adV A s s.heap) {v1 : Int32} {v2 : Int32} {u0 : MS} (G : wg D A s.heap H locs (wM cI ad u0)) (hl : lv_has ls 5 [(0, .ref (ad 0)), (1, .int v1), (2, .int v2)]) {q : ((Int32 × Int32 × MS) ⊕ ((Int32 × MS) ⊕ (Int32 × MS)))} (h : f_X7_town_L45_45 v1 v2 u0 = some q) (hB : ∀ (v1 : Int32) (v2 : Int32) (u : MS), q = .inl (v1, v2, u) → ∀ (H : Heap) (locs : List Loc) (ls : Array Slot), wg D A s.heap H locs (wM cI ad u) → lv_has ls 5 [(0, .ref (ad 0)), (1, .int v1), (2, .int v2)] → W p l e { frames := 8, cells := 0, slots := 0, locals := 173 } s m args below meth c H locs 0 0 Q (F0 m 45 ls [])) (hX : ∀ (v1 : Int32) (u : MS), q = .inr (.inr (v1, u)) → ∀ (H : Heap) (locs : List Loc) (ls : Array Slot), wg D A s.heap H locs (wM cI ad u) → lv_has ls 5 [(0, .ref (ad 0)), (1, .int v1)] → W p l e { frames := 8, cells := 0, slots := 0, locals := 173 } s m args below meth c H locs 0 0 Q (F0 m 74 ls [])) (hR : ∀ (r : Int32) (u : MS), q = .inr (.inl (r, u)) → Q = (qI D A (wM cI ad) below args s r u)) : W p l e { frames := 8, cells := 0, slots := 0, locals := 173 } s m args below meth c H locs 0 0 Q (F0 m 45 ls []) := by
  unfold f_X7_town_L45_45 at h
  obtain ⟨hx, hb, -⟩ := id X
  refine lv_iload_n hx hb dX7_town_45 rfl (lv_at hl 2 rfl) ?_
  refine lv_if_eq (tgt := 74) hx hb dX7_town_46 (by decide) (fun c1 => ?_) (fun c1 => ?_)
  · have h := it_at c1 h
    exact hX _ _ (Option.some.inj h).symm _ _ _ G (lv_sub hl [0, 1] rfl)
  · have h := if_at c1 h
    refine lv_aload_n hx hb dX7_town_49 rfl (lv_at hl 0 rfl) ?_
    obtain ⟨r2, u3, er2, h⟩ := bnd_at h
    refine cvV (rest := []) X K G (c_X7_item er2) q_997 my_X7_item ⟨rfl, rfl⟩ ⟨Nat.le_of_ble_eq_true rfl, Nat.le_of_ble_eq_true rfl⟩ ⟨Nat.zero_le _, Nat.zero_le _⟩ 0 7 rfl rfl rfl rfl hl.1 rfl (Nat.le_of_ble_eq_true rfl) dX7_town_50 (fun H locs G => ?_)
    clear er2
    obtain ⟨x4, ex4⟩ : ∃ z : Int32, z = v1 + (1 : Int32) := ⟨_, rfl⟩
    have h := nm_at ex4 h
    refine lv_iinc (v := x4) (lv' := [(1, .int x4), (0, .ref (ad 0)), (2, .int v2)]) hx hb dX7_town_53 hl (k := 1) rfl (by rw [ex4]; rfl) (by decide) rfl (fun ls hl => ?_)
    refine lv_aload_n hx hb dX7_town_56 rfl (lv_at hl 1 rfl) ?_
    refine lv_bipush (v := 59) hx hb dX7_town_57 (by decide) ?_
    obtain ⟨r5, u6, er5, h⟩ := bnd_at h
    refine cvI (rest := []) X K G (c_X7_isSign er5) q_1052 my_X7_isSign ⟨rfl, rfl⟩ ⟨Nat.le_of_ble_eq_true rfl, Nat.le_of_ble_eq_true rfl⟩ ⟨Nat.zero_le _, Nat.zero_le _⟩ 0 7 rfl rfl rfl rfl hl.1 rfl (Nat.le_of_ble_eq_true rfl) dX7_town_59 (fun H locs G => ?_)
    clear er5
    refine lv_istore_n (lv' := [(2, .int r5), (1, .int x4), (0, .ref (ad 0))]) hx hb dX7_town_62 rfl hl (by decide) rfl (fun ls hl => ?_)
    refine lv_iload_n hx hb dX7_town_63 rfl (lv_at hl 0 rfl) ?_
    refine lv_if_eq (tgt := 45) hx hb dX7_town_64 (by decide) (fun c7 => ?_) (fun c7 => ?_)
    · have h := it_at c7 h
      exact hB _ _ _ (Option.some.inj h).symm _ _ _ G (lv_sub hl [2, 1, 0] rfl)
    · have h := if_at c7 h
      refine lv_aload_n hx hb dX7_town_67 rfl (lv_at hl 2 rfl) ?_
      obtain ⟨r8, u9, er8, h⟩ := bnd_at h
      refine cvV (rest := []) X K G (c_X7_token er8) q_989 my_X7_token ⟨rfl, rfl⟩ ⟨Nat.le_of_ble_eq_true rfl, Nat.le_of_ble_eq_true rfl⟩ ⟨Nat.zero_le _, Nat.zero_le _⟩ 0 7 rfl rfl rfl rfl hl.1 rfl (Nat.le_of_ble_eq_true rfl) dX7_town_68 (fun H locs G => ?_)
      clear er8
      refine lv_goto (tgt := 45) hx hb dX7_town_71 (by decide) ?_
      exact hB _ _ _ (Option.some.inj h).symm _ _ _ G (lv_sub hl [2, 1, 0] rfl)
noncomputable def f_X7_town_L45_45s (q : Int32 × Int32 × MS) : Option ((Int32 × Int32 × MS) ⊕ ((Int32 × MS) ⊕ (Int32 × MS))) := f_X7_town_L45_45 q.1 q.2.1 q.2.2
set_option maxRecDepth 100000 in
set_option maxHeartbeats 4000000 in
theorem w_X7_town_L45_45 (X : cx p s m args meth c cX7_town 5 RX7 (some .int)) (K : kx D cI cZ cQ adK adV A s s.heap) {e0 : (Int32 × MS) ⊕ (Int32 × MS)} : ∀ (n : Nat) (v1 : Int32) (v2 : Int32) (u : MS) {H : Heap} {locs : List Loc} {ls : Array Slot}, wh f_X7_town_L45_45s n (v1, v2, u) = some e0 → wg D A s.heap H locs (wM cI ad u) → lv_has ls 5 [(0, .ref (ad 0)), (1, .int v1), (2, .int v2)] → (∀ (v1 : Int32) (u : MS), e0 = .inr (v1, u) → ∀ (H : Heap) (locs : List Loc) (ls : Array Slot), wg D A s.heap H locs (wM cI ad u) → lv_has ls 5 [(0, .ref (ad 0)), (1, .int v1)] → W p l e { frames := 8, cells := 0, slots := 0, locals := 173 } s m args below meth c H locs 0 0 Q (F0 m 74 ls [])) → (∀ (r : Int32) (u : MS), e0 = .inl (r, u) → Q = (qI D A (wM cI ad) below args s r u)) → W p l e { frames := 8, cells := 0, slots := 0, locals := 173 } s m args below meth c H locs 0 0 Q (F0 m 45 ls []) := by
  intro n
  induction n with
  | zero => intro v1 v2 u H locs ls h; cases h
  | succ n ih =>
    intro v1 v2 u H locs ls h G hl hX hR
    obtain ⟨q, h1, h2, h3⟩ := wh_at h
    exact b_X7_town_L45_45 X K G hl (show f_X7_town_L45_45 v1 v2 u = some q from h1) (fun b0 b1 b2 ee H locs ls G hl => ih b0 b1 b2 (h2 _ ee) G hl hX hR) (fun z0 z1 ee => hX z0 z1 (h3 _ ee).symm) (fun r u ee => hR r u (h3 _ ee).symm)
noncomputable def f_X7_town_L119_119 (v3 : Int32) (v4 : Int32) (u0 : MS) : Option ((Int32 × Int32 × MS) ⊕ ((Int32 × MS) ⊕ (Int32 × MS))) :=
  (if (247 : Int32) ≤ v4 then
    some (.inr (.inr (v3, u0)))
  else
    if v4 < 0 ∨ 247 ≤ v4.toNatClampNeg then none else
    nmv ((m_ahead u0) v4.toNatClampNeg) fun x3 =>
    if v4 < 0 ∨ 247 ≤ v4.toNatClampNeg then none else
    nmv (mu_m u0 (upd (m_m u0) v4.toNatClampNeg x3)) fun u5 =>
    nmv (v4 + (1 : Int32)) fun x6 =>
    some (.inl (v3, x6, u5)))
set_option maxRecDepth 100000 in
set_option maxHeartbeats 4000000 in
theorem b_X7_town_L119_119 (X : cx p s m args meth c cX7_town 5 RX7 (some .int)) (K : kx D cI cZ cQ adK adV A s s.heap) {v3 : Int32} {v4 : Int32} {u0 : MS} (G : wg D A s.heap H locs (wM cI ad u0)) (hl : lv_has ls 5 [(0, .ref (ad 0)), (3, .int v3), (4, .int v4)]) {q : ((Int32 × Int32 × MS) ⊕ ((Int32 × MS) ⊕ (Int32 × MS)))} (h : f_X7_town_L119_119 v3 v4 u0 = some q) (hB : ∀ (v3 : Int32) (v4 : Int32) (u : MS), q = .inl (v3, v4, u) → ∀ (H : Heap) (locs : List Loc) (ls : Array Slot), wg D A s.heap H locs (wM cI ad u) → lv_has ls 5 [(0, .ref (ad 0)), (3, .int v3), (4, .int v4)] → W p l e { frames := 8, cells := 0, slots := 0, locals := 173 } s m args below meth c H locs 0 0 Q (F0 m 119 ls [])) (hX : ∀ (v3 : Int32) (u : MS), q = .inr (.inr (v3, u)) → ∀ (H : Heap) (locs : List Loc) (ls : Array Slot), wg D A s.heap H locs (wM cI ad u) → lv_has ls 5 [(3, .int v3)] → W p l e { frames := 8, cells := 0, slots := 0, locals := 173 } s m args below meth c H locs 0 0 Q (F0 m 147 ls [])) (hR : ∀ (r : Int32) (u : MS), q = .inr (.inl (r, u)) → Q = (qI D A (wM cI ad) below args s r u)) : W p l e { frames := 8, cells := 0, slots := 0, locals := 173 } s m args below meth c H locs 0 0 Q (F0 m 119 ls []) := by
  unfold f_X7_town_L119_119 at h
  obtain ⟨hx, hb, -⟩ := id X
  refine lv_iload hx hb dX7_town_119 (lv_at hl 2 rfl) ?_
  refine lv_sipush (v := 247) hx hb dX7_town_121 (by decide) ?_
  refine lv_icmp_ge (tgt := 147) hx hb dX7_town_124 (by decide) (fun c1 => ?_) (fun c1 => ?_)
  · have h := it_at c1 h
    exact hX _ _ (Option.some.inj h).symm _ _ _ G (lv_sub hl [1] rfl)
  · have h := if_at c1 h
    refine lv_aload_n hx hb dX7_town_127 rfl (lv_at hl 0 rfl) ?_
    refine gM_0_0 X K G q_906 dX7_town_128 ?_
    refine lv_iload hx hb dX7_town_131 (lv_at hl 2 rfl) ?_
    refine lv_aload_n hx hb dX7_town_133 rfl (lv_at hl 0 rfl) ?_
    refine gM_0_11 X K G q_917 dX7_town_134 ?_
    refine lv_iload hx hb dX7_town_137 (lv_at hl 2 rfl) ?_
    obtain ⟨g2, h⟩ := ck_at h
    refine lM_5 X K G g2 dX7_town_139 ?_
    refine lv_topi (fun x3 ex3 => ?_)
    have h := nm_at ex3 h
    obtain ⟨g4, h⟩ := ck_at h
    refine aM_1 X K G g4 dX7_town_140 (fun H locs G => ?_)
    obtain ⟨u5, eu5⟩ : ∃ z : MS, z = mu_m u0 (upd (m_m u0) v4.toNatClampNeg x3) := ⟨_, rfl⟩
    have G : wg D A s.heap H locs (wM cI ad u5) := by rw [eu5]; exact G
    have h := nm_at eu5 h
    clear eu5
    obtain ⟨x6, ex6⟩ : ∃ z : Int32, z = v4 + (1 : Int32) := ⟨_, rfl⟩
    have h := nm_at ex6 h
    refine lv_iinc (v := x6) (lv' := [(4, .int x6), (0, .ref (ad 0)), (3, .int v3)]) hx hb dX7_town_141 hl (k := 2) rfl (by rw [ex6]; rfl) (by decide) rfl (fun ls hl => ?_)
    refine lv_goto (tgt := 119) hx hb dX7_town_144 (by decide) ?_
    exact hB _ _ _ (Option.some.inj h).symm _ _ _ G (lv_sub hl [1, 2, 0] rfl)
noncomputable def f_X7_town_L119_119s (q : Int32 × Int32 × MS) : Option ((Int32 × Int32 × MS) ⊕ ((Int32 × MS) ⊕ (Int32 × MS))) := f_X7_town_L119_119 q.1 q.2.1 q.2.2
set_option maxRecDepth 100000 in
set_option maxHeartbeats 4000000 in
theorem w_X7_town_L119_119 (X : cx p s m args meth c cX7_town 5 RX7 (some .int)) (K : kx D cI cZ cQ adK adV A s s.heap) {e0 : (Int32 × MS) ⊕ (Int32 × MS)} : ∀ (n : Nat) (v3 : Int32) (v4 : Int32) (u : MS) {H : Heap} {locs : List Loc} {ls : Array Slot}, wh f_X7_town_L119_119s n (v3, v4, u) = some e0 → wg D A s.heap H locs (wM cI ad u) → lv_has ls 5 [(0, .ref (ad 0)), (3, .int v3), (4, .int v4)] → (∀ (v3 : Int32) (u : MS), e0 = .inr (v3, u) → ∀ (H : Heap) (locs : List Loc) (ls : Array Slot), wg D A s.heap H locs (wM cI ad u) → lv_has ls 5 [(3, .int v3)] → W p l e { frames := 8, cells := 0, slots := 0, locals := 173 } s m args below meth c H locs 0 0 Q (F0 m 147 ls [])) → (∀ (r : Int32) (u : MS), e0 = .inl (r, u) → Q = (qI D A (wM cI ad) below args s r u)) → W p l e { frames := 8, cells := 0, slots := 0, locals := 173 } s m args below meth c H locs 0 0 Q (F0 m 119 ls []) := by
  intro n
  induction n with
  | zero => intro v3 v4 u H locs ls h; cases h
  | succ n ih =>
    intro v3 v4 u H locs ls h G hl hX hR
    obtain ⟨q, h1, h2, h3⟩ := wh_at h
    exact b_X7_town_L119_119 X K G hl (show f_X7_town_L119_119 v3 v4 u = some q from h1) (fun b0 b1 b2 ee H locs ls G hl => ih b0 b1 b2 (h2 _ ee) G hl hX hR) (fun z0 z1 ee => hX z0 z1 (h3 _ ee).symm) (fun r u ee => hR r u (h3 _ ee).symm)
noncomputable def f_X7_town_94 (v1 : Int32) (k1 : Int32) (u0 : MS) : Option (Int32 × MS) :=
  if ¬ (k1 = 0 ∨ k1 = 1) then none else
  nmv (mu_bad u0 k1) fun u2 =>
  nmv (m_from u2) fun x3 =>
  nmv (mu_taped u2 (0 : Int32)) fun u4 =>
  (if (m_bad u4) = 0 then
    some (v1, u4)
  else
    bne (wl f_X7_town_L119_119s (x3, (0 : Int32), u4)) (fun a => some a) fun b =>
      nmv b.1 fun y9 =>
      nmv b.2 fun u8 =>
      some ((-1 : Int32) - y9, u8))
set_option maxRecDepth 100000 in
set_option maxHeartbeats 4000000 in
theorem b_X7_town_94 (X : cx p s m args meth c cX7_town 5 RX7 (some .int)) (K : kx D cI cZ cQ adK adV A s s.heap) {v1 : Int32} {k1 : Int32} {u0 : MS} (G : wg D A s.heap H locs (wM cI ad u0)) (hl : lv_has ls 5 [(0, .ref (ad 0)), (1, .int v1)]) {r : Int32} {u' : MS} (h : f_X7_town_94 v1 k1 u0 = some (r, u')) : W p l e { frames := 8, cells := 0, slots := 0, locals := 173 } s m args below meth c H locs 0 0 (qI D A (wM cI ad) below args s r u') (F0 m 94 ls [.int k1, .ref (ad 0)]) := by
  unfold f_X7_town_94 at h
  obtain ⟨hx, hb, -⟩ := id X
  obtain ⟨g1, h⟩ := ck_at h
  refine pM_0_10 X K G (Decidable.not_not.mp g1) q_916 dX7_town_94 (fun H locs G => ?_)
  obtain ⟨u2, eu2⟩ : ∃ z : MS, z = mu_bad u0 k1 := ⟨_, rfl⟩
  have G : wg D A s.heap H locs (wM cI ad u2) := by rw [eu2]; exact G
  have h := nm_at eu2 h
  clear eu2
  refine lv_aload_n hx hb dX7_town_97 rfl (lv_at hl 0 rfl) ?_
  refine gM_0_7 X K G q_913 dX7_town_98 ?_
  refine lv_topi (fun x3 ex3 => ?_)
  have h := nm_at ex3 h
  refine lv_istore_n (lv' := [(3, .int x3), (0, .ref (ad 0)), (1, .int v1)]) hx hb dX7_town_101 rfl hl (by decide) rfl (fun ls hl => ?_)
  refine lv_aload_n hx hb dX7_town_102 rfl (lv_at hl 1 rfl) ?_
  refine lv_iconst (v := 0) hx hb dX7_town_103 (by decide) ?_
  refine pM_0_5 X K G q_911 dX7_town_104 (fun H locs G => ?_)
  obtain ⟨u4, eu4⟩ : ∃ z : MS, z = mu_taped u2 (0 : Int32) := ⟨_, rfl⟩
  have G : wg D A s.heap H locs (wM cI ad u4) := by rw [eu4]; exact G
  have h := nm_at eu4 h
  clear eu4
  refine lv_aload_n hx hb dX7_town_107 rfl (lv_at hl 1 rfl) ?_
  refine gM_0_10 X K G q_916 dX7_town_108 ?_
  refine lv_if_ne (tgt := 116) hx hb dX7_town_111 (by decide) (fun c5 => ?_) (fun c5 => ?_)
  · have h := if_at c5 h
    refine lv_iconst (v := 0) hx hb dX7_town_116 (by decide) ?_
    refine lv_istore (lv' := [(4, .int (0 : Int32)), (3, .int x3), (0, .ref (ad 0)), (1, .int v1)]) hx hb dX7_town_117 hl (by decide) rfl (fun ls hl => ?_)
    obtain ⟨q7, hq7, ha, hb1⟩ := bne_at h
    obtain ⟨n6, hn6⟩ := wl_iff.mp hq7
    refine w_X7_town_L119_119 X K n6 _ _ _ hn6 G (lv_sub hl [2, 1, 0] rfl) (fun y9 u8 ee H locs ls G hl => ?_) (fun r u1 ee => by obtain ⟨rfl, rfl⟩ := pair_at (ha _ ee); rfl)
    have h := hb1 _ ee
    clear ee ha hb1 hq7 hn6
    have h := nm_at (x := y9) rfl h
    have h := nm_at (x := u8) rfl h
    refine lv_iconst (v := -1) hx hb dX7_town_147 (by decide) ?_
    refine lv_iload_n hx hb dX7_town_148 rfl (lv_at hl 0 rfl) ?_
    refine lv_isub hx hb dX7_town_149 ?_
    obtain ⟨rfl, rfl⟩ := pair_at h
    exact reI X G dX7_town_150
  · have h := it_at c5 h
    refine lv_iload_n hx hb dX7_town_114 rfl (lv_at hl 2 rfl) ?_
    obtain ⟨rfl, rfl⟩ := pair_at h
    exact reI X G dX7_town_115
noncomputable def f_X7_town (u0 : MS) : Option (Int32 × MS) :=
  bne (wl f_X7_town_L2_2s ((0 : Int32), u0)) (fun a => some a) fun b =>
    nmv b fun u3 =>
    nmv (mu_to u3 (0 : Int32)) fun u4 =>
    nmv (mu_bad u4 (0 : Int32)) fun u5 =>
    bnd (f_X7_token  u5) fun r6 u7 =>
    bne (wl f_X7_town_L45_45s ((0 : Int32), (1 : Int32), u7)) (fun a => some a) fun b =>
      nmv b.1 fun y11 =>
      nmv b.2 fun u10 =>
      (if (m_bad u10) = 0 then
        (if (m_sort u10) = 0 then
          f_X7_town_94 y11 (0 : Int32) u10
        else
          f_X7_town_94 y11 (1 : Int32) u10)
      else
        f_X7_town_94 y11 (1 : Int32) u10)
set_option maxRecDepth 100000 in
set_option maxHeartbeats 4000000 in
theorem c_X7_town {u0 : MS} {r : Int32} {u' : MS} (h : f_X7_town  u0 = some (r, u')) : MI l D cI cZ cQ adK adV A yX7_town cX7_town 5 (some .int) { frames := 8, cells := 0, slots := 0, locals := 173 } [.ref (ad 0)] (wM cI ad) u0 r u' := by
  unfold f_X7_town at h
  refine entI (by decide) (Nat.le_of_ble_eq_true rfl) (fun p e s m below meth c ls X K G hl => ?_)
  have hl : lv_has ls 5 [(0, .ref (ad 0))] := hl
  obtain ⟨hx, hb, -⟩ := id X
  generalize hH : s.heap = H at G
  subst hH
  refine lv_iconst (v := 0) hx hb dX7_town_0 (by decide) ?_
  refine lv_istore_n (lv' := [(1, .int (0 : Int32)), (0, .ref (ad 0))]) hx hb dX7_town_1 rfl hl (by decide) rfl (fun ls hl => ?_)
  obtain ⟨q2, hq2, ha, hb1⟩ := bne_at h
  obtain ⟨n1, hn1⟩ := wl_iff.mp hq2
  refine w_X7_town_L2_2 X K n1 _ _ hn1 G (lv_sub hl [1, 0] rfl) (fun  u3 ee H locs ls G hl => ?_) (fun r u1 ee => by obtain ⟨rfl, rfl⟩ := pair_at (ha _ ee); rfl)
  have h := hb1 _ ee
  clear ee ha hb1 hq2 hn1
  have h := nm_at (x := u3) rfl h
  refine lv_aload_n hx hb dX7_town_27 rfl (lv_at hl 0 rfl) ?_
  refine lv_iconst (v := 0) hx hb dX7_town_28 (by decide) ?_
  refine pM_0_8 X K G q_914 dX7_town_29 (fun H locs G => ?_)
  obtain ⟨u4, eu4⟩ : ∃ z : MS, z = mu_to u3 (0 : Int32) := ⟨_, rfl⟩
  have G : wg D A s.heap H locs (wM cI ad u4) := by rw [eu4]; exact G
  have h := nm_at eu4 h
  clear eu4
  refine lv_aload_n hx hb dX7_town_32 rfl (lv_at hl 0 rfl) ?_
  refine lv_iconst (v := 0) hx hb dX7_town_33 (by decide) ?_
  refine pM_0_10 X K G (Or.inl rfl) q_916 dX7_town_34 (fun H locs G => ?_)
  obtain ⟨u5, eu5⟩ : ∃ z : MS, z = mu_bad u4 (0 : Int32) := ⟨_, rfl⟩
  have G : wg D A s.heap H locs (wM cI ad u5) := by rw [eu5]; exact G
  have h := nm_at eu5 h
  clear eu5
  refine lv_aload_n hx hb dX7_town_37 rfl (lv_at hl 0 rfl) ?_
  obtain ⟨r6, u7, er6, h⟩ := bnd_at h
  refine cvV (rest := []) X K G (c_X7_token er6) q_989 my_X7_token ⟨rfl, rfl⟩ ⟨Nat.le_of_ble_eq_true rfl, Nat.le_of_ble_eq_true rfl⟩ ⟨Nat.zero_le _, Nat.zero_le _⟩ 0 7 rfl rfl rfl rfl hl.1 rfl (Nat.le_of_ble_eq_true rfl) dX7_town_38 (fun H locs G => ?_)
  clear er6
  refine lv_iconst (v := 0) hx hb dX7_town_41 (by decide) ?_
  refine lv_istore_n (lv' := [(1, .int (0 : Int32)), (0, .ref (ad 0))]) hx hb dX7_town_42 rfl hl (by decide) rfl (fun ls hl => ?_)
  refine lv_iconst (v := 1) hx hb dX7_town_43 (by decide) ?_
  refine lv_istore_n (lv' := [(2, .int (1 : Int32)), (1, .int (0 : Int32)), (0, .ref (ad 0))]) hx hb dX7_town_44 rfl hl (by decide) rfl (fun ls hl => ?_)
  obtain ⟨q9, hq9, ha, hb1⟩ := bne_at h
  obtain ⟨n8, hn8⟩ := wl_iff.mp hq9
  refine w_X7_town_L45_45 X K n8 _ _ _ hn8 G (lv_sub hl [2, 1, 0] rfl) (fun y11 u10 ee H locs ls G hl => ?_) (fun r u1 ee => by obtain ⟨rfl, rfl⟩ := pair_at (ha _ ee); rfl)
  have h := hb1 _ ee
  clear ee ha hb1 hq9 hn8
  have h := nm_at (x := y11) rfl h
  have h := nm_at (x := u10) rfl h
  refine lv_aload_n hx hb dX7_town_74 rfl (lv_at hl 0 rfl) ?_
  refine lv_aload_n hx hb dX7_town_75 rfl (lv_at hl 0 rfl) ?_
  refine gM_0_10 X K G q_916 dX7_town_76 ?_
  refine lv_if_ne (tgt := 89) hx hb dX7_town_79 (by decide) (fun c12 => ?_) (fun c12 => ?_)
  · have h := if_at c12 h
    refine lv_iconst (v := 1) hx hb dX7_town_89 (by decide) ?_
    refine lv_goto (tgt := 94) hx hb dX7_town_90 (by decide) ?_
    exact b_X7_town_94 X K G (lv_sub hl [0, 1] rfl) h
  · have h := it_at c12 h
    refine lv_aload_n hx hb dX7_town_82 rfl (lv_at hl 0 rfl) ?_
    refine gM_0_6 X K G q_912 dX7_town_83 ?_
    refine lv_if_eq (tgt := 93) hx hb dX7_town_86 (by decide) (fun c13 => ?_) (fun c13 => ?_)
    · have h := it_at c13 h
      refine lv_iconst (v := 0) hx hb dX7_town_93 (by decide) ?_
      exact b_X7_town_94 X K G (lv_sub hl [0, 1] rfl) h
    · have h := if_at c13 h
      refine lv_iconst (v := 1) hx hb dX7_town_89 (by decide) ?_
      refine lv_goto (tgt := 94) hx hb dX7_town_90 (by decide) ?_
      exact b_X7_town_94 X K G (lv_sub hl [0, 1] rfl) h
noncomputable def f_X7_becomes (a1 : Int32) (a2 : Int32) (u0 : MS) : Option (Int32 × MS) :=
  if a1 < 0 ∨ 247 ≤ a1.toNatClampNeg then none else
  nmv ((m_m u0) a1.toNatClampNeg) fun x2 =>
  if a1 < 0 ∨ 247 ≤ a1.toNatClampNeg then none else
  nmv (mu_m u0 (upd (m_m u0) a1.toNatClampNeg a2)) fun u4 =>
  some (x2, u4)
set_option maxRecDepth 100000 in
set_option maxHeartbeats 4000000 in
theorem c_X7_becomes {a1 : Int32} {a2 : Int32} {u0 : MS} {r : Int32} {u' : MS} (h : f_X7_becomes a1 a2 u0 = some (r, u')) : MI l D cI cZ cQ adK adV A yX7_becomes cX7_becomes 4 (some .int) { frames := 0, cells := 0, slots := 0, locals := 0 } [.ref (ad 0), .int a1, .int a2] (wM cI ad) u0 r u' := by
  unfold f_X7_becomes at h
  refine entI (by decide) (Nat.le_of_ble_eq_true rfl) (fun p e s m below meth c ls X K G hl => ?_)
  have hl : lv_has ls 4 [(0, .ref (ad 0)), (1, .int a1), (2, .int a2)] := hl
  obtain ⟨hx, hb, -⟩ := id X
  generalize hH : s.heap = H at G
  subst hH
  refine lv_aload_n hx hb dX7_becomes_0 rfl (lv_at hl 0 rfl) ?_
  refine gM_0_0 X K G q_906 dX7_becomes_1 ?_
  refine lv_iload_n hx hb dX7_becomes_4 rfl (lv_at hl 1 rfl) ?_
  obtain ⟨g1, h⟩ := ck_at h
  refine lM_1 X K G g1 dX7_becomes_5 ?_
  refine lv_topi (fun x2 ex2 => ?_)
  have h := nm_at ex2 h
  refine lv_istore_n (lv' := [(3, .int x2), (0, .ref (ad 0)), (1, .int a1), (2, .int a2)]) hx hb dX7_becomes_6 rfl hl (by decide) rfl (fun ls hl => ?_)
  refine lv_aload_n hx hb dX7_becomes_7 rfl (lv_at hl 1 rfl) ?_
  refine gM_0_0 X K G q_906 dX7_becomes_8 ?_
  refine lv_iload_n hx hb dX7_becomes_11 rfl (lv_at hl 2 rfl) ?_
  refine lv_iload_n hx hb dX7_becomes_12 rfl (lv_at hl 3 rfl) ?_
  obtain ⟨g3, h⟩ := ck_at h
  refine aM_1 X K G g3 dX7_becomes_13 (fun H locs G => ?_)
  obtain ⟨u4, eu4⟩ : ∃ z : MS, z = mu_m u0 (upd (m_m u0) a1.toNatClampNeg a2) := ⟨_, rfl⟩
  have G : wg D A s.heap H locs (wM cI ad u4) := by rw [eu4]; exact G
  have h := nm_at eu4 h
  clear eu4
  refine lv_iload_n hx hb dX7_becomes_14 rfl (lv_at hl 0 rfl) ?_
  obtain ⟨rfl, rfl⟩ := pair_at h
  exact reI X G dX7_becomes_15
noncomputable def f_X7_round (a1 : Int32) (u0 : MS) : Option (Int32 × MS) :=
  bnd (f_X7_in (a1.toInt64) (1 : Int64) (12 : Int64) u0) fun r1 u2 =>
  (if r1 = 0 then
    bnd (f_X7_finds (-1000001 : Int32) u2) fun r4 u5 =>
    some (r4, u5)
  else
    bnd (f_X7_becomes (0 : Int32) a1 u2) fun r6 u7 =>
    some (r6, u7))
set_option maxRecDepth 100000 in
set_option maxHeartbeats 4000000 in
theorem c_X7_round {a1 : Int32} {u0 : MS} {r : Int32} {u' : MS} (h : f_X7_round a1 u0 = some (r, u')) : MI l D cI cZ cQ adK adV A yX7_round cX7_round 2 (some .int) { frames := 1, cells := 0, slots := 0, locals := 25 } [.ref (ad 0), .int a1] (wM cI ad) u0 r u' := by
  unfold f_X7_round at h
  refine entI (by decide) (Nat.le_of_ble_eq_true rfl) (fun p e s m below meth c ls X K G hl => ?_)
  have hl : lv_has ls 2 [(0, .ref (ad 0)), (1, .int a1)] := hl
  obtain ⟨hx, hb, -⟩ := id X
  generalize hH : s.heap = H at G
  subst hH
  refine lv_iload_n hx hb dX7_round_0 rfl (lv_at hl 1 rfl) ?_
  refine lv_i2l hx hb dX7_round_1 rfl ?_
  refine lv_lconst (v := 1) hx hb dX7_round_2 (by decide) ?_
  refine lv_ldc2 (v := 12) hx hb X.2.2.2.1 (X.2.2.2.2.1 _ q_1060) dX7_round_3 ?_
  obtain ⟨r1, u2, er1, h⟩ := bnd_at h
  refine csI (rest := []) X K G (c_X7_in er1) q_972 my_X7_in ⟨rfl, rfl⟩ ⟨Nat.le_of_ble_eq_true rfl, Nat.le_of_ble_eq_true rfl⟩ ⟨Nat.zero_le _, Nat.zero_le _⟩ rfl hl.1 rfl (Nat.le_of_ble_eq_true rfl) dX7_round_6 (fun H locs G => ?_)
  clear er1
  refine lv_if_eq (tgt := 21) hx hb dX7_round_9 (by decide) (fun c3 => ?_) (fun c3 => ?_)
  · have h := it_at c3 h
    refine lv_aload_n hx hb dX7_round_21 rfl (lv_at hl 0 rfl) ?_
    refine lv_ldc (v := -1000001) hx hb X.2.2.2.1 (X.2.2.2.2.1 _ q_975) dX7_round_22 ?_
    obtain ⟨r4, u5, er4, h⟩ := bnd_at h
    refine cvI (rest := []) X K G (c_X7_finds er4) q_976 my_X7_finds ⟨rfl, rfl⟩ ⟨Nat.le_of_ble_eq_true rfl, Nat.le_of_ble_eq_true rfl⟩ ⟨Nat.zero_le _, Nat.zero_le _⟩ 0 7 rfl rfl rfl rfl hl.1 rfl (Nat.le_of_ble_eq_true rfl) dX7_round_24 (fun H locs G => ?_)
    clear er4
    obtain ⟨rfl, rfl⟩ := pair_at h
    exact reI X G dX7_round_27
  · have h := if_at c3 h
    refine lv_aload_n hx hb dX7_round_12 rfl (lv_at hl 0 rfl) ?_
    refine lv_iconst (v := 0) hx hb dX7_round_13 (by decide) ?_
    refine lv_iload_n hx hb dX7_round_14 rfl (lv_at hl 1 rfl) ?_
    obtain ⟨r6, u7, er6, h⟩ := bnd_at h
    refine cvI (rest := []) X K G (c_X7_becomes er6) q_1061 my_X7_becomes ⟨rfl, rfl⟩ ⟨Nat.le_of_ble_eq_true rfl, Nat.le_of_ble_eq_true rfl⟩ ⟨Nat.zero_le _, Nat.zero_le _⟩ 0 7 rfl rfl rfl rfl hl.1 rfl (Nat.le_of_ble_eq_true rfl) dX7_round_15 (fun H locs G => ?_)
    clear er6
    refine lv_goto (tgt := 27) hx hb dX7_round_18 (by decide) ?_
    obtain ⟨rfl, rfl⟩ := pair_at h
    exact reI X G dX7_round_27
noncomputable def f_X7_near (a1 : Int32) (u0 : MS) : Option (Int32 × MS) :=
  bnd (f_X7_in (a1.toInt64) (-1 : Int64) (11 : Int64) u0) fun r1 u2 =>
  (if r1 = 0 then
    bnd (f_X7_finds (-1000001 : Int32) u2) fun r4 u5 =>
    some (r4, u5)
  else
    bnd (f_X7_becomes (1 : Int32) a1 u2) fun r6 u7 =>
    some (r6, u7))
set_option maxRecDepth 100000 in
set_option maxHeartbeats 4000000 in
theorem c_X7_near {a1 : Int32} {u0 : MS} {r : Int32} {u' : MS} (h : f_X7_near a1 u0 = some (r, u')) : MI l D cI cZ cQ adK adV A yX7_near cX7_near 2 (some .int) { frames := 1, cells := 0, slots := 0, locals := 25 } [.ref (ad 0), .int a1] (wM cI ad) u0 r u' := by
  unfold f_X7_near at h
  refine entI (by decide) (Nat.le_of_ble_eq_true rfl) (fun p e s m below meth c ls X K G hl => ?_)
  have hl : lv_has ls 2 [(0, .ref (ad 0)), (1, .int a1)] := hl
  obtain ⟨hx, hb, -⟩ := id X
  generalize hH : s.heap = H at G
  subst hH
  refine lv_iload_n hx hb dX7_near_0 rfl (lv_at hl 1 rfl) ?_
  refine lv_i2l hx hb dX7_near_1 rfl ?_
  refine lv_ldc2 (v := -1) hx hb X.2.2.2.1 (X.2.2.2.2.1 _ q_1069) dX7_near_2 ?_
  refine lv_ldc2 (v := 11) hx hb X.2.2.2.1 (X.2.2.2.2.1 _ q_1070) dX7_near_5 ?_
  obtain ⟨r1, u2, er1, h⟩ := bnd_at h
  refine csI (rest := []) X K G (c_X7_in er1) q_972 my_X7_in ⟨rfl, rfl⟩ ⟨Nat.le_of_ble_eq_true rfl, Nat.le_of_ble_eq_true rfl⟩ ⟨Nat.zero_le _, Nat.zero_le _⟩ rfl hl.1 rfl (Nat.le_of_ble_eq_true rfl) dX7_near_8 (fun H locs G => ?_)
  clear er1
  refine lv_if_eq (tgt := 23) hx hb dX7_near_11 (by decide) (fun c3 => ?_) (fun c3 => ?_)
  · have h := it_at c3 h
    refine lv_aload_n hx hb dX7_near_23 rfl (lv_at hl 0 rfl) ?_
    refine lv_ldc (v := -1000001) hx hb X.2.2.2.1 (X.2.2.2.2.1 _ q_975) dX7_near_24 ?_
    obtain ⟨r4, u5, er4, h⟩ := bnd_at h
    refine cvI (rest := []) X K G (c_X7_finds er4) q_976 my_X7_finds ⟨rfl, rfl⟩ ⟨Nat.le_of_ble_eq_true rfl, Nat.le_of_ble_eq_true rfl⟩ ⟨Nat.zero_le _, Nat.zero_le _⟩ 0 7 rfl rfl rfl rfl hl.1 rfl (Nat.le_of_ble_eq_true rfl) dX7_near_26 (fun H locs G => ?_)
    clear er4
    obtain ⟨rfl, rfl⟩ := pair_at h
    exact reI X G dX7_near_29
  · have h := if_at c3 h
    refine lv_aload_n hx hb dX7_near_14 rfl (lv_at hl 0 rfl) ?_
    refine lv_iconst (v := 1) hx hb dX7_near_15 (by decide) ?_
    refine lv_iload_n hx hb dX7_near_16 rfl (lv_at hl 1 rfl) ?_
    obtain ⟨r6, u7, er6, h⟩ := bnd_at h
    refine cvI (rest := []) X K G (c_X7_becomes er6) q_1061 my_X7_becomes ⟨rfl, rfl⟩ ⟨Nat.le_of_ble_eq_true rfl, Nat.le_of_ble_eq_true rfl⟩ ⟨Nat.zero_le _, Nat.zero_le _⟩ 0 7 rfl rfl rfl rfl hl.1 rfl (Nat.le_of_ble_eq_true rfl) dX7_near_17 (fun H locs G => ?_)
    clear er6
    refine lv_goto (tgt := 29) hx hb dX7_near_20 (by decide) ?_
    obtain ⟨rfl, rfl⟩ := pair_at h
    exact reI X G dX7_near_29
noncomputable def f_X7_tool (a1 : Int32) (u0 : MS) : Option (Int32 × MS) :=
  bnd (f_X7_in (a1.toInt64) (0 : Int64) (4095 : Int64) u0) fun r1 u2 =>
  (if r1 = 0 then
    bnd (f_X7_finds (-1000001 : Int32) u2) fun r12 u13 =>
    some (r12, u13)
  else
    (if ((m_m u2) (2 : Int32).toNatClampNeg) = (8 : Int32) then
      bnd (f_X7_finds (-1000002 : Int32) u2) fun r10 u11 =>
      some (r10, u11)
    else
      nmv ((6 : Int32) + ((m_m u2) (2 : Int32).toNatClampNeg)) fun x5 =>
      if x5 < 0 ∨ 247 ≤ x5.toNatClampNeg then none else
      nmv (mu_m u2 (upd (m_m u2) x5.toNatClampNeg a1)) fun u7 =>
      nmv (((m_m u7) (2 : Int32).toNatClampNeg) + (1 : Int32)) fun x8 =>
      nmv (mu_m u7 (upd (m_m u7) (2 : Int32).toNatClampNeg x8)) fun u9 =>
      some (((m_m u9) (2 : Int32).toNatClampNeg) - (1 : Int32), u9)))
set_option maxRecDepth 100000 in
set_option maxHeartbeats 4000000 in
theorem c_X7_tool {a1 : Int32} {u0 : MS} {r : Int32} {u' : MS} (h : f_X7_tool a1 u0 = some (r, u')) : MI l D cI cZ cQ adK adV A yX7_tool cX7_tool 2 (some .int) { frames := 1, cells := 0, slots := 0, locals := 25 } [.ref (ad 0), .int a1] (wM cI ad) u0 r u' := by
  unfold f_X7_tool at h
  refine entI (by decide) (Nat.le_of_ble_eq_true rfl) (fun p e s m below meth c ls X K G hl => ?_)
  have hl : lv_has ls 2 [(0, .ref (ad 0)), (1, .int a1)] := hl
  obtain ⟨hx, hb, -⟩ := id X
  generalize hH : s.heap = H at G
  subst hH
  refine lv_iload_n hx hb dX7_tool_0 rfl (lv_at hl 1 rfl) ?_
  refine lv_i2l hx hb dX7_tool_1 rfl ?_
  refine lv_lconst (v := 0) hx hb dX7_tool_2 (by decide) ?_
  refine lv_ldc2 (v := 4095) hx hb X.2.2.2.1 (X.2.2.2.2.1 _ q_1075) dX7_tool_3 ?_
  obtain ⟨r1, u2, er1, h⟩ := bnd_at h
  refine csI (rest := []) X K G (c_X7_in er1) q_972 my_X7_in ⟨rfl, rfl⟩ ⟨Nat.le_of_ble_eq_true rfl, Nat.le_of_ble_eq_true rfl⟩ ⟨Nat.zero_le _, Nat.zero_le _⟩ rfl hl.1 rfl (Nat.le_of_ble_eq_true rfl) dX7_tool_6 (fun H locs G => ?_)
  clear er1
  refine lv_if_ne (tgt := 19) hx hb dX7_tool_9 (by decide) (fun c3 => ?_) (fun c3 => ?_)
  · have h := if_at c3 h
    refine lv_aload_n hx hb dX7_tool_19 rfl (lv_at hl 0 rfl) ?_
    refine gM_0_0 X K G q_906 dX7_tool_20 ?_
    refine lv_iconst (v := 2) hx hb dX7_tool_23 (by decide) ?_
    refine lM_1 X K G (by decide) dX7_tool_24 ?_
    refine lv_bipush (v := 8) hx hb dX7_tool_25 (by decide) ?_
    refine lv_icmp_ne (tgt := 37) hx hb dX7_tool_27 (by decide) (fun c4 => ?_) (fun c4 => ?_)
    · have h := if_at c4 h
      refine lv_aload_n hx hb dX7_tool_37 rfl (lv_at hl 0 rfl) ?_
      refine gM_0_0 X K G q_906 dX7_tool_38 ?_
      refine lv_bipush (v := 6) hx hb dX7_tool_41 (by decide) ?_
      refine lv_aload_n hx hb dX7_tool_43 rfl (lv_at hl 0 rfl) ?_
      refine gM_0_0 X K G q_906 dX7_tool_44 ?_
      refine lv_iconst (v := 2) hx hb dX7_tool_47 (by decide) ?_
      refine lM_1 X K G (by decide) dX7_tool_48 ?_
      refine lv_iadd hx hb dX7_tool_49 ?_
      refine lv_iload_n hx hb dX7_tool_50 rfl (lv_at hl 1 rfl) ?_
      refine nm2 (fun x5 ex5 => ?_)
      have h := nm_at ex5 h
      obtain ⟨g6, h⟩ := ck_at h
      refine aM_1 X K G g6 dX7_tool_51 (fun H locs G => ?_)
      obtain ⟨u7, eu7⟩ : ∃ z : MS, z = mu_m u2 (upd (m_m u2) x5.toNatClampNeg a1) := ⟨_, rfl⟩
      have G : wg D A s.heap H locs (wM cI ad u7) := by rw [eu7]; exact G
      have h := nm_at eu7 h
      clear eu7
      refine lv_aload_n hx hb dX7_tool_52 rfl (lv_at hl 0 rfl) ?_
      refine gM_0_0 X K G q_906 dX7_tool_53 ?_
      refine lv_iconst (v := 2) hx hb dX7_tool_56 (by decide) ?_
      refine lv_dup2_11 hx hb dX7_tool_57 rfl rfl ?_
      refine lM_1 X K G (by decide) dX7_tool_58 ?_
      refine lv_iconst (v := 1) hx hb dX7_tool_59 (by decide) ?_
      refine lv_iadd hx hb dX7_tool_60 ?_
      refine lv_topi (fun x8 ex8 => ?_)
      have h := nm_at ex8 h
      refine aM_1 X K G (by decide) dX7_tool_61 (fun H locs G => ?_)
      obtain ⟨u9, eu9⟩ : ∃ z : MS, z = mu_m u7 (upd (m_m u7) (2 : Int32).toNatClampNeg x8) := ⟨_, rfl⟩
      have G : wg D A s.heap H locs (wM cI ad u9) := by rw [eu9]; exact G
      have h := nm_at eu9 h
      clear eu9
      refine lv_aload_n hx hb dX7_tool_62 rfl (lv_at hl 0 rfl) ?_
      refine gM_0_0 X K G q_906 dX7_tool_63 ?_
      refine lv_iconst (v := 2) hx hb dX7_tool_66 (by decide) ?_
      refine lM_1 X K G (by decide) dX7_tool_67 ?_
      refine lv_iconst (v := 1) hx hb dX7_tool_68 (by decide) ?_
      refine lv_isub hx hb dX7_tool_69 ?_
      obtain ⟨rfl, rfl⟩ := pair_at h
      exact reI X G dX7_tool_70
    · have h := it_at c4 h
      refine lv_aload_n hx hb dX7_tool_30 rfl (lv_at hl 0 rfl) ?_
      refine lv_ldc (v := -1000002) hx hb X.2.2.2.1 (X.2.2.2.2.1 _ q_980) dX7_tool_31 ?_
      obtain ⟨r10, u11, er10, h⟩ := bnd_at h
      refine cvI (rest := []) X K G (c_X7_finds er10) q_976 my_X7_finds ⟨rfl, rfl⟩ ⟨Nat.le_of_ble_eq_true rfl, Nat.le_of_ble_eq_true rfl⟩ ⟨Nat.zero_le _, Nat.zero_le _⟩ 0 7 rfl rfl rfl rfl hl.1 rfl (Nat.le_of_ble_eq_true rfl) dX7_tool_33 (fun H locs G => ?_)
      clear er10
      obtain ⟨rfl, rfl⟩ := pair_at h
      exact reI X G dX7_tool_36
  · have h := it_at c3 h
    refine lv_aload_n hx hb dX7_tool_12 rfl (lv_at hl 0 rfl) ?_
    refine lv_ldc (v := -1000001) hx hb X.2.2.2.1 (X.2.2.2.2.1 _ q_975) dX7_tool_13 ?_
    obtain ⟨r12, u13, er12, h⟩ := bnd_at h
    refine cvI (rest := []) X K G (c_X7_finds er12) q_976 my_X7_finds ⟨rfl, rfl⟩ ⟨Nat.le_of_ble_eq_true rfl, Nat.le_of_ble_eq_true rfl⟩ ⟨Nat.zero_le _, Nat.zero_le _⟩ 0 7 rfl rfl rfl rfl hl.1 rfl (Nat.le_of_ble_eq_true rfl) dX7_tool_15 (fun H locs G => ?_)
    clear er12
    obtain ⟨rfl, rfl⟩ := pair_at h
    exact reI X G dX7_tool_18
noncomputable def f_X7_isTool (a1 : Int32) (u0 : MS) : Option (Int32 × MS) :=
  bnd (f_X7_in (a1.toInt64) (0 : Int64) ((((m_m u0) (2 : Int32).toNatClampNeg) - (1 : Int32)).toInt64) u0) fun r1 u2 =>
  if ¬ (r1 = 0 ∨ r1 = 1) then none else
  some (r1, u2)
set_option maxRecDepth 100000 in
set_option maxHeartbeats 4000000 in
theorem c_X7_isTool {a1 : Int32} {u0 : MS} {r : Int32} {u' : MS} (h : f_X7_isTool a1 u0 = some (r, u')) : MI l D cI cZ cQ adK adV A yX7_isTool cX7_isTool 2 (some .boolean) { frames := 1, cells := 0, slots := 0, locals := 25 } [.ref (ad 0), .int a1] (wM cI ad) u0 r u' := by
  unfold f_X7_isTool at h
  refine entI (by decide) (Nat.le_of_ble_eq_true rfl) (fun p e s m below meth c ls X K G hl => ?_)
  have hl : lv_has ls 2 [(0, .ref (ad 0)), (1, .int a1)] := hl
  obtain ⟨hx, hb, -⟩ := id X
  generalize hH : s.heap = H at G
  subst hH
  refine lv_iload_n hx hb dX7_isTool_0 rfl (lv_at hl 1 rfl) ?_
  refine lv_i2l hx hb dX7_isTool_1 rfl ?_
  refine lv_lconst (v := 0) hx hb dX7_isTool_2 (by decide) ?_
  refine lv_aload_n hx hb dX7_isTool_3 rfl (lv_at hl 0 rfl) ?_
  refine gM_0_0 X K G q_906 dX7_isTool_4 ?_
  refine lv_iconst (v := 2) hx hb dX7_isTool_7 (by decide) ?_
  refine lM_1 X K G (by decide) dX7_isTool_8 ?_
  refine lv_iconst (v := 1) hx hb dX7_isTool_9 (by decide) ?_
  refine lv_isub hx hb dX7_isTool_10 ?_
  refine lv_i2l hx hb dX7_isTool_11 rfl ?_
  obtain ⟨r1, u2, er1, h⟩ := bnd_at h
  refine csI (rest := []) X K G (c_X7_in er1) q_972 my_X7_in ⟨rfl, rfl⟩ ⟨Nat.le_of_ble_eq_true rfl, Nat.le_of_ble_eq_true rfl⟩ ⟨Nat.zero_le _, Nat.zero_le _⟩ rfl hl.1 rfl (Nat.le_of_ble_eq_true rfl) dX7_isTool_12 (fun H locs G => ?_)
  clear er1
  obtain ⟨g3, h⟩ := ck_at h
  obtain ⟨rfl, rfl⟩ := pair_at h
  exact reZ X G (Decidable.not_not.mp g3) dX7_isTool_15
noncomputable def f_X7_days (a1 : Int32) (a2 : Int32) (u0 : MS) : Option (Int32 × MS) :=
  bnd (f_X7_isTool a1 u0) fun r1 u2 =>
  (if r1 = 0 then
    bnd (f_X7_finds (-1000001 : Int32) u2) fun r4 u5 =>
    some (r4, u5)
  else
    bnd (f_X7_in (a2.toInt64) (0 : Int64) (4095 : Int64) u2) fun r6 u7 =>
    (if r6 = 0 then
      bnd (f_X7_finds (-1000001 : Int32) u7) fun r9 u10 =>
      some (r9, u10)
    else
      bnd (f_X7_becomes ((6 : Int32) + a1) a2 u7) fun r11 u12 =>
      some (r11, u12)))
set_option maxRecDepth 100000 in
set_option maxHeartbeats 4000000 in
theorem c_X7_days {a1 : Int32} {a2 : Int32} {u0 : MS} {r : Int32} {u' : MS} (h : f_X7_days a1 a2 u0 = some (r, u')) : MI l D cI cZ cQ adK adV A yX7_days cX7_days 3 (some .int) { frames := 2, cells := 0, slots := 0, locals := 46 } [.ref (ad 0), .int a1, .int a2] (wM cI ad) u0 r u' := by
  unfold f_X7_days at h
  refine entI (by decide) (Nat.le_of_ble_eq_true rfl) (fun p e s m below meth c ls X K G hl => ?_)
  have hl : lv_has ls 3 [(0, .ref (ad 0)), (1, .int a1), (2, .int a2)] := hl
  obtain ⟨hx, hb, -⟩ := id X
  generalize hH : s.heap = H at G
  subst hH
  refine lv_aload_n hx hb dX7_days_0 rfl (lv_at hl 0 rfl) ?_
  refine lv_iload_n hx hb dX7_days_1 rfl (lv_at hl 1 rfl) ?_
  obtain ⟨r1, u2, er1, h⟩ := bnd_at h
  refine cvI (rest := []) X K G (c_X7_isTool er1) q_1080 my_X7_isTool ⟨rfl, rfl⟩ ⟨Nat.le_of_ble_eq_true rfl, Nat.le_of_ble_eq_true rfl⟩ ⟨Nat.zero_le _, Nat.zero_le _⟩ 0 7 rfl rfl rfl rfl hl.1 rfl (Nat.le_of_ble_eq_true rfl) dX7_days_2 (fun H locs G => ?_)
  clear er1
  refine lv_if_eq (tgt := 32) hx hb dX7_days_5 (by decide) (fun c3 => ?_) (fun c3 => ?_)
  · have h := it_at c3 h
    refine lv_aload_n hx hb dX7_days_32 rfl (lv_at hl 0 rfl) ?_
    refine lv_ldc (v := -1000001) hx hb X.2.2.2.1 (X.2.2.2.2.1 _ q_975) dX7_days_33 ?_
    obtain ⟨r4, u5, er4, h⟩ := bnd_at h
    refine cvI (rest := []) X K G (c_X7_finds er4) q_976 my_X7_finds ⟨rfl, rfl⟩ ⟨Nat.le_of_ble_eq_true rfl, Nat.le_of_ble_eq_true rfl⟩ ⟨Nat.zero_le _, Nat.zero_le _⟩ 0 7 rfl rfl rfl rfl hl.1 rfl (Nat.le_of_ble_eq_true rfl) dX7_days_35 (fun H locs G => ?_)
    clear er4
    obtain ⟨rfl, rfl⟩ := pair_at h
    exact reI X G dX7_days_38
  · have h := if_at c3 h
    refine lv_iload_n hx hb dX7_days_8 rfl (lv_at hl 2 rfl) ?_
    refine lv_i2l hx hb dX7_days_9 rfl ?_
    refine lv_lconst (v := 0) hx hb dX7_days_10 (by decide) ?_
    refine lv_ldc2 (v := 4095) hx hb X.2.2.2.1 (X.2.2.2.2.1 _ q_1075) dX7_days_11 ?_
    obtain ⟨r6, u7, er6, h⟩ := bnd_at h
    refine csI (rest := []) X K G (c_X7_in er6) q_972 my_X7_in ⟨rfl, rfl⟩ ⟨Nat.le_of_ble_eq_true rfl, Nat.le_of_ble_eq_true rfl⟩ ⟨Nat.zero_le _, Nat.zero_le _⟩ rfl hl.1 rfl (Nat.le_of_ble_eq_true rfl) dX7_days_14 (fun H locs G => ?_)
    clear er6
    refine lv_if_eq (tgt := 32) hx hb dX7_days_17 (by decide) (fun c8 => ?_) (fun c8 => ?_)
    · have h := it_at c8 h
      refine lv_aload_n hx hb dX7_days_32 rfl (lv_at hl 0 rfl) ?_
      refine lv_ldc (v := -1000001) hx hb X.2.2.2.1 (X.2.2.2.2.1 _ q_975) dX7_days_33 ?_
      obtain ⟨r9, u10, er9, h⟩ := bnd_at h
      refine cvI (rest := []) X K G (c_X7_finds er9) q_976 my_X7_finds ⟨rfl, rfl⟩ ⟨Nat.le_of_ble_eq_true rfl, Nat.le_of_ble_eq_true rfl⟩ ⟨Nat.zero_le _, Nat.zero_le _⟩ 0 7 rfl rfl rfl rfl hl.1 rfl (Nat.le_of_ble_eq_true rfl) dX7_days_35 (fun H locs G => ?_)
      clear er9
      obtain ⟨rfl, rfl⟩ := pair_at h
      exact reI X G dX7_days_38
    · have h := if_at c8 h
      refine lv_aload_n hx hb dX7_days_20 rfl (lv_at hl 0 rfl) ?_
      refine lv_bipush (v := 6) hx hb dX7_days_21 (by decide) ?_
      refine lv_iload_n hx hb dX7_days_23 rfl (lv_at hl 1 rfl) ?_
      refine lv_iadd hx hb dX7_days_24 ?_
      refine lv_iload_n hx hb dX7_days_25 rfl (lv_at hl 2 rfl) ?_
      obtain ⟨r11, u12, er11, h⟩ := bnd_at h
      refine cvI (rest := []) X K G (c_X7_becomes er11) q_1061 my_X7_becomes ⟨rfl, rfl⟩ ⟨Nat.le_of_ble_eq_true rfl, Nat.le_of_ble_eq_true rfl⟩ ⟨Nat.zero_le _, Nat.zero_le _⟩ 0 7 rfl rfl rfl rfl hl.1 rfl (Nat.le_of_ble_eq_true rfl) dX7_days_26 (fun H locs G => ?_)
      clear er11
      refine lv_goto (tgt := 38) hx hb dX7_days_29 (by decide) ?_
      obtain ⟨rfl, rfl⟩ := pair_at h
      exact reI X G dX7_days_38
noncomputable def f_X7_isDay (a0 : Int32) (u0 : MS) : Option (Int32 × MS) :=
  bnd (f_X7_in (a0.toInt64) (0 : Int64) (999 : Int64) u0) fun r1 u2 =>
  if ¬ (r1 = 0 ∨ r1 = 1) then none else
  some (r1, u2)
set_option maxRecDepth 100000 in
set_option maxHeartbeats 4000000 in
theorem c_X7_isDay {a0 : Int32} {u0 : MS} {r : Int32} {u' : MS} (h : f_X7_isDay a0 u0 = some (r, u')) : MI l D cI cZ cQ adK adV A yX7_isDay cX7_isDay 1 (some .boolean) { frames := 1, cells := 0, slots := 0, locals := 25 } [.int a0] (wM cI ad) u0 r u' := by
  unfold f_X7_isDay at h
  refine entI (by decide) (Nat.le_of_ble_eq_true rfl) (fun p e s m below meth c ls X K G hl => ?_)
  have hl : lv_has ls 1 [(0, .int a0)] := hl
  obtain ⟨hx, hb, -⟩ := id X
  generalize hH : s.heap = H at G
  subst hH
  refine lv_iload_n hx hb dX7_isDay_0 rfl (lv_at hl 0 rfl) ?_
  refine lv_i2l hx hb dX7_isDay_1 rfl ?_
  refine lv_lconst (v := 0) hx hb dX7_isDay_2 (by decide) ?_
  refine lv_ldc2 (v := 999) hx hb X.2.2.2.1 (X.2.2.2.2.1 _ q_1091) dX7_isDay_3 ?_
  obtain ⟨r1, u2, er1, h⟩ := bnd_at h
  refine csI (rest := []) X K G (c_X7_in er1) q_972 my_X7_in ⟨rfl, rfl⟩ ⟨Nat.le_of_ble_eq_true rfl, Nat.le_of_ble_eq_true rfl⟩ ⟨Nat.zero_le _, Nat.zero_le _⟩ rfl hl.1 rfl (Nat.le_of_ble_eq_true rfl) dX7_isDay_6 (fun H locs G => ?_)
  clear er1
  obtain ⟨g3, h⟩ := ck_at h
  obtain ⟨rfl, rfl⟩ := pair_at h
  exact reZ X G (Decidable.not_not.mp g3) dX7_isDay_9
noncomputable def f_X7_has (a0 : Int32) (a1 : Int32) (u0 : MS) : Option (Int32 × MS) :=
  (if ((a0 >>> (a1 &&& 31)) &&& (1 : Int32)) = (1 : Int32) then
    some ((1 : Int32), u0)
  else
    some ((0 : Int32), u0))
set_option maxRecDepth 100000 in
set_option maxHeartbeats 4000000 in
theorem c_X7_has {a0 : Int32} {a1 : Int32} {u0 : MS} {r : Int32} {u' : MS} (h : f_X7_has a0 a1 u0 = some (r, u')) : MI l D cI cZ cQ adK adV A yX7_has cX7_has 2 (some .boolean) { frames := 0, cells := 0, slots := 0, locals := 0 } [.int a0, .int a1] (wM cI ad) u0 r u' := by
  unfold f_X7_has at h
  refine entI (by decide) (Nat.le_of_ble_eq_true rfl) (fun p e s m below meth c ls X K G hl => ?_)
  have hl : lv_has ls 2 [(0, .int a0), (1, .int a1)] := hl
  obtain ⟨hx, hb, -⟩ := id X
  generalize hH : s.heap = H at G
  subst hH
  refine lv_iload_n hx hb dX7_has_0 rfl (lv_at hl 0 rfl) ?_
  refine lv_iload_n hx hb dX7_has_1 rfl (lv_at hl 1 rfl) ?_
  refine lv_ishr hx hb dX7_has_2 ?_
  refine lv_iconst (v := 1) hx hb dX7_has_3 (by decide) ?_
  refine lv_iand hx hb dX7_has_4 ?_
  refine lv_iconst (v := 1) hx hb dX7_has_5 (by decide) ?_
  refine lv_icmp_ne (tgt := 13) hx hb dX7_has_6 (by decide) (fun c1 => ?_) (fun c1 => ?_)
  · have h := if_at c1 h
    refine lv_iconst (v := 0) hx hb dX7_has_13 (by decide) ?_
    obtain ⟨rfl, rfl⟩ := pair_at h
    exact reZ X G (Or.inl rfl) dX7_has_14
  · have h := it_at c1 h
    refine lv_iconst (v := 1) hx hb dX7_has_9 (by decide) ?_
    refine lv_goto (tgt := 14) hx hb dX7_has_10 (by decide) ?_
    obtain ⟨rfl, rfl⟩ := pair_at h
    exact reZ X G (Or.inr rfl) dX7_has_14
noncomputable def f_X7_mayBe (a1 : Int32) (a2 : Int32) (u0 : MS) : Option (Int32 × MS) :=
  nmv ((6 : Int32) + a1) fun x1 =>
  if x1 < 0 ∨ 247 ≤ x1.toNatClampNeg then none else
  nmv ((m_m u0) (0 : Int32).toNatClampNeg) fun x3 =>
  if x3 = 0 then none else
  bnd (f_X7_has ((m_m u0) x1.toNatClampNeg) (a2 - a2 / x3 * x3) u0) fun r4 u5 =>
  if ¬ (r4 = 0 ∨ r4 = 1) then none else
  some (r4, u5)
set_option maxRecDepth 100000 in
set_option maxHeartbeats 4000000 in
theorem c_X7_mayBe {a1 : Int32} {a2 : Int32} {u0 : MS} {r : Int32} {u' : MS} (h : f_X7_mayBe a1 a2 u0 = some (r, u')) : MI l D cI cZ cQ adK adV A yX7_mayBe cX7_mayBe 3 (some .boolean) { frames := 1, cells := 0, slots := 0, locals := 21 } [.ref (ad 0), .int a1, .int a2] (wM cI ad) u0 r u' := by
  unfold f_X7_mayBe at h
  refine entI (by decide) (Nat.le_of_ble_eq_true rfl) (fun p e s m below meth c ls X K G hl => ?_)
  have hl : lv_has ls 3 [(0, .ref (ad 0)), (1, .int a1), (2, .int a2)] := hl
  obtain ⟨hx, hb, -⟩ := id X
  generalize hH : s.heap = H at G
  subst hH
  refine lv_aload_n hx hb dX7_mayBe_0 rfl (lv_at hl 0 rfl) ?_
  refine gM_0_0 X K G q_906 dX7_mayBe_1 ?_
  refine lv_bipush (v := 6) hx hb dX7_mayBe_4 (by decide) ?_
  refine lv_iload_n hx hb dX7_mayBe_6 rfl (lv_at hl 1 rfl) ?_
  refine lv_iadd hx hb dX7_mayBe_7 ?_
  refine lv_topi (fun x1 ex1 => ?_)
  have h := nm_at ex1 h
  obtain ⟨g2, h⟩ := ck_at h
  refine lM_1 X K G g2 dX7_mayBe_8 ?_
  refine lv_iload_n hx hb dX7_mayBe_9 rfl (lv_at hl 2 rfl) ?_
  refine lv_aload_n hx hb dX7_mayBe_10 rfl (lv_at hl 0 rfl) ?_
  refine gM_0_0 X K G q_906 dX7_mayBe_11 ?_
  refine lv_iconst (v := 0) hx hb dX7_mayBe_14 (by decide) ?_
  refine lM_1 X K G (by decide) dX7_mayBe_15 ?_
  refine lv_topi (fun x3 ex3 => ?_)
  have h := nm_at ex3 h
  obtain ⟨g7, h⟩ := ck_at h
  refine lv_irem hx hb dX7_mayBe_16 g7 ?_
  obtain ⟨r4, u5, er4, h⟩ := bnd_at h
  refine csI (rest := []) X K G (c_X7_has er4) q_1096 my_X7_has ⟨rfl, rfl⟩ ⟨Nat.le_of_ble_eq_true rfl, Nat.le_of_ble_eq_true rfl⟩ ⟨Nat.zero_le _, Nat.zero_le _⟩ rfl hl.1 rfl (Nat.le_of_ble_eq_true rfl) dX7_mayBe_17 (fun H locs G => ?_)
  clear er4
  obtain ⟨g6, h⟩ := ck_at h
  obtain ⟨rfl, rfl⟩ := pair_at h
  exact reZ X G (Decidable.not_not.mp g6) dX7_mayBe_20
noncomputable def f_X7_mayNear (a1 : Int32) (a2 : Int32) (u0 : MS) : Option (Int32 × MS) :=
  (if ((m_m u0) (1 : Int32).toNatClampNeg) < 0 then
    some ((0 : Int32), u0)
  else
    bnd (f_X7_mayBe a1 (a2 + ((m_m u0) (1 : Int32).toNatClampNeg)) u0) fun r2 u3 =>
    (if r2 = 0 then
      some ((0 : Int32), u3)
    else
      some ((1 : Int32), u3)))
set_option maxRecDepth 100000 in
set_option maxHeartbeats 4000000 in
theorem c_X7_mayNear {a1 : Int32} {a2 : Int32} {u0 : MS} {r : Int32} {u' : MS} (h : f_X7_mayNear a1 a2 u0 = some (r, u')) : MI l D cI cZ cQ adK adV A yX7_mayNear cX7_mayNear 3 (some .boolean) { frames := 2, cells := 0, slots := 0, locals := 43 } [.ref (ad 0), .int a1, .int a2] (wM cI ad) u0 r u' := by
  unfold f_X7_mayNear at h
  refine entI (by decide) (Nat.le_of_ble_eq_true rfl) (fun p e s m below meth c ls X K G hl => ?_)
  have hl : lv_has ls 3 [(0, .ref (ad 0)), (1, .int a1), (2, .int a2)] := hl
  obtain ⟨hx, hb, -⟩ := id X
  generalize hH : s.heap = H at G
  subst hH
  refine lv_aload_n hx hb dX7_mayNear_0 rfl (lv_at hl 0 rfl) ?_
  refine gM_0_0 X K G q_906 dX7_mayNear_1 ?_
  refine lv_iconst (v := 1) hx hb dX7_mayNear_4 (by decide) ?_
  refine lM_1 X K G (by decide) dX7_mayNear_5 ?_
  refine lv_if_lt (tgt := 29) hx hb dX7_mayNear_6 (by decide) (fun c1 => ?_) (fun c1 => ?_)
  · have h := it_at c1 h
    refine lv_iconst (v := 0) hx hb dX7_mayNear_29 (by decide) ?_
    obtain ⟨rfl, rfl⟩ := pair_at h
    exact reZ X G (Or.inl rfl) dX7_mayNear_30
  · have h := if_at c1 h
    refine lv_aload_n hx hb dX7_mayNear_9 rfl (lv_at hl 0 rfl) ?_
    refine lv_iload_n hx hb dX7_mayNear_10 rfl (lv_at hl 1 rfl) ?_
    refine lv_iload_n hx hb dX7_mayNear_11 rfl (lv_at hl 2 rfl) ?_
    refine lv_aload_n hx hb dX7_mayNear_12 rfl (lv_at hl 0 rfl) ?_
    refine gM_0_0 X K G q_906 dX7_mayNear_13 ?_
    refine lv_iconst (v := 1) hx hb dX7_mayNear_16 (by decide) ?_
    refine lM_1 X K G (by decide) dX7_mayNear_17 ?_
    refine lv_iadd hx hb dX7_mayNear_18 ?_
    obtain ⟨r2, u3, er2, h⟩ := bnd_at h
    refine cvI (rest := []) X K G (c_X7_mayBe er2) q_1092 my_X7_mayBe ⟨rfl, rfl⟩ ⟨Nat.le_of_ble_eq_true rfl, Nat.le_of_ble_eq_true rfl⟩ ⟨Nat.zero_le _, Nat.zero_le _⟩ 0 7 rfl rfl rfl rfl hl.1 rfl (Nat.le_of_ble_eq_true rfl) dX7_mayNear_19 (fun H locs G => ?_)
    clear er2
    refine lv_if_eq (tgt := 29) hx hb dX7_mayNear_22 (by decide) (fun c4 => ?_) (fun c4 => ?_)
    · have h := it_at c4 h
      refine lv_iconst (v := 0) hx hb dX7_mayNear_29 (by decide) ?_
      obtain ⟨rfl, rfl⟩ := pair_at h
      exact reZ X G (Or.inl rfl) dX7_mayNear_30
    · have h := if_at c4 h
      refine lv_iconst (v := 1) hx hb dX7_mayNear_25 (by decide) ?_
      refine lv_goto (tgt := 30) hx hb dX7_mayNear_26 (by decide) ?_
      obtain ⟨rfl, rfl⟩ := pair_at h
      exact reZ X G (Or.inr rfl) dX7_mayNear_30
noncomputable def f_X7_may (a1 : Int32) (a2 : Int32) (u0 : MS) : Option (Int32 × MS) :=
  bnd (f_X7_isTool a1 u0) fun r1 u2 =>
  (if r1 = 0 then
    bnd (f_X7_finds (-1000001 : Int32) u2) fun r4 u5 =>
    some (r4, u5)
  else
    bnd (f_X7_isDay a2 u2) fun r6 u7 =>
    (if r6 = 0 then
      bnd (f_X7_finds (-1000001 : Int32) u7) fun r15 u16 =>
      some (r15, u16)
    else
      bnd (f_X7_mayBe a1 a2 u7) fun r9 u10 =>
      (if r9 = 0 then
        bnd (f_X7_mayNear a1 a2 u10) fun r12 u13 =>
        (if r12 = 0 then
          some ((0 : Int32), u13)
        else
          some ((1 : Int32), u13))
      else
        some ((2 : Int32), u10))))
set_option maxRecDepth 100000 in
set_option maxHeartbeats 4000000 in
theorem c_X7_may {a1 : Int32} {a2 : Int32} {u0 : MS} {r : Int32} {u' : MS} (h : f_X7_may a1 a2 u0 = some (r, u')) : MI l D cI cZ cQ adK adV A yX7_may cX7_may 3 (some .int) { frames := 3, cells := 0, slots := 0, locals := 65 } [.ref (ad 0), .int a1, .int a2] (wM cI ad) u0 r u' := by
  unfold f_X7_may at h
  refine entI (by decide) (Nat.le_of_ble_eq_true rfl) (fun p e s m below meth c ls X K G hl => ?_)
  have hl : lv_has ls 3 [(0, .ref (ad 0)), (1, .int a1), (2, .int a2)] := hl
  obtain ⟨hx, hb, -⟩ := id X
  generalize hH : s.heap = H at G
  subst hH
  refine lv_aload_n hx hb dX7_may_0 rfl (lv_at hl 0 rfl) ?_
  refine lv_iload_n hx hb dX7_may_1 rfl (lv_at hl 1 rfl) ?_
  obtain ⟨r1, u2, er1, h⟩ := bnd_at h
  refine cvI (rest := []) X K G (c_X7_isTool er1) q_1080 my_X7_isTool ⟨rfl, rfl⟩ ⟨Nat.le_of_ble_eq_true rfl, Nat.le_of_ble_eq_true rfl⟩ ⟨Nat.zero_le _, Nat.zero_le _⟩ 0 7 rfl rfl rfl rfl hl.1 rfl (Nat.le_of_ble_eq_true rfl) dX7_may_2 (fun H locs G => ?_)
  clear er1
  refine lv_if_eq (tgt := 15) hx hb dX7_may_5 (by decide) (fun c3 => ?_) (fun c3 => ?_)
  · have h := it_at c3 h
    refine lv_aload_n hx hb dX7_may_15 rfl (lv_at hl 0 rfl) ?_
    refine lv_ldc (v := -1000001) hx hb X.2.2.2.1 (X.2.2.2.2.1 _ q_975) dX7_may_16 ?_
    obtain ⟨r4, u5, er4, h⟩ := bnd_at h
    refine cvI (rest := []) X K G (c_X7_finds er4) q_976 my_X7_finds ⟨rfl, rfl⟩ ⟨Nat.le_of_ble_eq_true rfl, Nat.le_of_ble_eq_true rfl⟩ ⟨Nat.zero_le _, Nat.zero_le _⟩ 0 7 rfl rfl rfl rfl hl.1 rfl (Nat.le_of_ble_eq_true rfl) dX7_may_18 (fun H locs G => ?_)
    clear er4
    obtain ⟨rfl, rfl⟩ := pair_at h
    exact reI X G dX7_may_21
  · have h := if_at c3 h
    refine lv_iload_n hx hb dX7_may_8 rfl (lv_at hl 2 rfl) ?_
    obtain ⟨r6, u7, er6, h⟩ := bnd_at h
    refine csI (rest := []) X K G (c_X7_isDay er6) q_1088 my_X7_isDay ⟨rfl, rfl⟩ ⟨Nat.le_of_ble_eq_true rfl, Nat.le_of_ble_eq_true rfl⟩ ⟨Nat.zero_le _, Nat.zero_le _⟩ rfl hl.1 rfl (Nat.le_of_ble_eq_true rfl) dX7_may_9 (fun H locs G => ?_)
    clear er6
    refine lv_if_ne (tgt := 22) hx hb dX7_may_12 (by decide) (fun c8 => ?_) (fun c8 => ?_)
    · have h := if_at c8 h
      refine lv_aload_n hx hb dX7_may_22 rfl (lv_at hl 0 rfl) ?_
      refine lv_iload_n hx hb dX7_may_23 rfl (lv_at hl 1 rfl) ?_
      refine lv_iload_n hx hb dX7_may_24 rfl (lv_at hl 2 rfl) ?_
      obtain ⟨r9, u10, er9, h⟩ := bnd_at h
      refine cvI (rest := []) X K G (c_X7_mayBe er9) q_1092 my_X7_mayBe ⟨rfl, rfl⟩ ⟨Nat.le_of_ble_eq_true rfl, Nat.le_of_ble_eq_true rfl⟩ ⟨Nat.zero_le _, Nat.zero_le _⟩ 0 7 rfl rfl rfl rfl hl.1 rfl (Nat.le_of_ble_eq_true rfl) dX7_may_25 (fun H locs G => ?_)
      clear er9
      refine lv_if_eq (tgt := 35) hx hb dX7_may_28 (by decide) (fun c11 => ?_) (fun c11 => ?_)
      · have h := it_at c11 h
        refine lv_aload_n hx hb dX7_may_35 rfl (lv_at hl 0 rfl) ?_
        refine lv_iload_n hx hb dX7_may_36 rfl (lv_at hl 1 rfl) ?_
        refine lv_iload_n hx hb dX7_may_37 rfl (lv_at hl 2 rfl) ?_
        obtain ⟨r12, u13, er12, h⟩ := bnd_at h
        refine cvI (rest := []) X K G (c_X7_mayNear er12) q_1099 my_X7_mayNear ⟨rfl, rfl⟩ ⟨Nat.le_of_ble_eq_true rfl, Nat.le_of_ble_eq_true rfl⟩ ⟨Nat.zero_le _, Nat.zero_le _⟩ 0 7 rfl rfl rfl rfl hl.1 rfl (Nat.le_of_ble_eq_true rfl) dX7_may_38 (fun H locs G => ?_)
        clear er12
        refine lv_if_eq (tgt := 48) hx hb dX7_may_41 (by decide) (fun c14 => ?_) (fun c14 => ?_)
        · have h := it_at c14 h
          refine lv_iconst (v := 0) hx hb dX7_may_48 (by decide) ?_
          obtain ⟨rfl, rfl⟩ := pair_at h
          exact reI X G dX7_may_49
        · have h := if_at c14 h
          refine lv_iconst (v := 1) hx hb dX7_may_44 (by decide) ?_
          refine lv_goto (tgt := 49) hx hb dX7_may_45 (by decide) ?_
          obtain ⟨rfl, rfl⟩ := pair_at h
          exact reI X G dX7_may_49
      · have h := if_at c11 h
        refine lv_iconst (v := 2) hx hb dX7_may_31 (by decide) ?_
        refine lv_goto (tgt := 49) hx hb dX7_may_32 (by decide) ?_
        obtain ⟨rfl, rfl⟩ := pair_at h
        exact reI X G dX7_may_49
    · have h := it_at c8 h
      refine lv_aload_n hx hb dX7_may_15 rfl (lv_at hl 0 rfl) ?_
      refine lv_ldc (v := -1000001) hx hb X.2.2.2.1 (X.2.2.2.2.1 _ q_975) dX7_may_16 ?_
      obtain ⟨r15, u16, er15, h⟩ := bnd_at h
      refine cvI (rest := []) X K G (c_X7_finds er15) q_976 my_X7_finds ⟨rfl, rfl⟩ ⟨Nat.le_of_ble_eq_true rfl, Nat.le_of_ble_eq_true rfl⟩ ⟨Nat.zero_le _, Nat.zero_le _⟩ 0 7 rfl rfl rfl rfl hl.1 rfl (Nat.le_of_ble_eq_true rfl) dX7_may_18 (fun H locs G => ?_)
      clear er15
      obtain ⟨rfl, rfl⟩ := pair_at h
      exact reI X G dX7_may_21
noncomputable def f_X7_isKind (a0 : Int32) (u0 : MS) : Option (Int32 × MS) :=
  bnd (f_X7_in (a0.toInt64) (0 : Int64) (6 : Int64) u0) fun r1 u2 =>
  if ¬ (r1 = 0 ∨ r1 = 1) then none else
  some (r1, u2)
set_option maxRecDepth 100000 in
set_option maxHeartbeats 4000000 in
theorem c_X7_isKind {a0 : Int32} {u0 : MS} {r : Int32} {u' : MS} (h : f_X7_isKind a0 u0 = some (r, u')) : MI l D cI cZ cQ adK adV A yX7_isKind cX7_isKind 1 (some .boolean) { frames := 1, cells := 0, slots := 0, locals := 25 } [.int a0] (wM cI ad) u0 r u' := by
  unfold f_X7_isKind at h
  refine entI (by decide) (Nat.le_of_ble_eq_true rfl) (fun p e s m below meth c ls X K G hl => ?_)
  have hl : lv_has ls 1 [(0, .int a0)] := hl
  obtain ⟨hx, hb, -⟩ := id X
  generalize hH : s.heap = H at G
  subst hH
  refine lv_iload_n hx hb dX7_isKind_0 rfl (lv_at hl 0 rfl) ?_
  refine lv_i2l hx hb dX7_isKind_1 rfl ?_
  refine lv_lconst (v := 0) hx hb dX7_isKind_2 (by decide) ?_
  refine lv_ldc2 (v := 6) hx hb X.2.2.2.1 (X.2.2.2.2.1 _ q_1110) dX7_isKind_3 ?_
  obtain ⟨r1, u2, er1, h⟩ := bnd_at h
  refine csI (rest := []) X K G (c_X7_in er1) q_972 my_X7_in ⟨rfl, rfl⟩ ⟨Nat.le_of_ble_eq_true rfl, Nat.le_of_ble_eq_true rfl⟩ ⟨Nat.zero_le _, Nat.zero_le _⟩ rfl hl.1 rfl (Nat.le_of_ble_eq_true rfl) dX7_isKind_6 (fun H locs G => ?_)
  clear er1
  obtain ⟨g3, h⟩ := ck_at h
  obtain ⟨rfl, rfl⟩ := pair_at h
  exact reZ X G (Decidable.not_not.mp g3) dX7_isKind_9
noncomputable def f_X7_thing (a1 : Int32) (a2 : Int32) (a3 : Int32) (u0 : MS) : Option (Int32 × MS) :=
  bnd (f_X7_isKind a1 u0) fun r1 u2 =>
  (if r1 = 0 then
    bnd (f_X7_finds (-1000001 : Int32) u2) fun r4 u5 =>
    some (r4, u5)
  else
    bnd (f_X7_isTool a2 u2) fun r6 u7 =>
    (if r6 = 0 then
      bnd (f_X7_finds (-1000001 : Int32) u7) fun r9 u10 =>
      some (r9, u10)
    else
      bnd (f_X7_in (a3.toInt64) (1 : Int64) (8 : Int64) u7) fun r11 u12 =>
      (if r11 = 0 then
        bnd (f_X7_finds (-1000001 : Int32) u12) fun r38 u39 =>
        some (r38, u39)
      else
        (if ((m_m u12) (3 : Int32).toNatClampNeg) = (8 : Int32) then
          bnd (f_X7_finds (-1000002 : Int32) u12) fun r36 u37 =>
          some (r36, u37)
        else
          nmv ((m_m u12) (3 : Int32).toNatClampNeg) fun x15 =>
          nmv ((14 : Int32) + ((26 : Int32) * x15)) fun x16 =>
          if x16 < 0 ∨ 247 ≤ x16.toNatClampNeg then none else
          nmv (mu_m u12 (upd (m_m u12) x16.toNatClampNeg a1)) fun u18 =>
          nmv (((14 : Int32) + ((26 : Int32) * x15)) + (1 : Int32)) fun x19 =>
          if x19 < 0 ∨ 247 ≤ x19.toNatClampNeg then none else
          nmv (mu_m u18 (upd (m_m u18) x19.toNatClampNeg (1 : Int32))) fun u21 =>
          bnd (f_X7_at x15 (0 : Int32) (0 : Int32) u21) fun r22 u23 =>
          if r22 < 0 ∨ 247 ≤ r22.toNatClampNeg then none else
          nmv (mu_m u23 (upd (m_m u23) r22.toNatClampNeg a2)) fun u25 =>
          bnd (f_X7_at x15 (0 : Int32) (1 : Int32) u25) fun r26 u27 =>
          if r26 < 0 ∨ 247 ≤ r26.toNatClampNeg then none else
          nmv (mu_m u27 (upd (m_m u27) r26.toNatClampNeg a3)) fun u29 =>
          bnd (f_X7_at x15 (0 : Int32) (2 : Int32) u29) fun r30 u31 =>
          if r30 < 0 ∨ 247 ≤ r30.toNatClampNeg then none else
          nmv (mu_m u31 (upd (m_m u31) r30.toNatClampNeg (99 : Int32))) fun u33 =>
          nmv (((m_m u33) (3 : Int32).toNatClampNeg) + (1 : Int32)) fun x34 =>
          nmv (mu_m u33 (upd (m_m u33) (3 : Int32).toNatClampNeg x34)) fun u35 =>
          some (x15, u35)))))
set_option maxRecDepth 100000 in
set_option maxHeartbeats 4000000 in
theorem c_X7_thing {a1 : Int32} {a2 : Int32} {a3 : Int32} {u0 : MS} {r : Int32} {u' : MS} (h : f_X7_thing a1 a2 a3 u0 = some (r, u')) : MI l D cI cZ cQ adK adV A yX7_thing cX7_thing 5 (some .int) { frames := 2, cells := 0, slots := 0, locals := 46 } [.ref (ad 0), .int a1, .int a2, .int a3] (wM cI ad) u0 r u' := by
  unfold f_X7_thing at h
  refine entI (by decide) (Nat.le_of_ble_eq_true rfl) (fun p e s m below meth c ls X K G hl => ?_)
  have hl : lv_has ls 5 [(0, .ref (ad 0)), (1, .int a1), (2, .int a2), (3, .int a3)] := hl
  obtain ⟨hx, hb, -⟩ := id X
  generalize hH : s.heap = H at G
  subst hH
  refine lv_iload_n hx hb dX7_thing_0 rfl (lv_at hl 1 rfl) ?_
  obtain ⟨r1, u2, er1, h⟩ := bnd_at h
  refine csI (rest := []) X K G (c_X7_isKind er1) q_1107 my_X7_isKind ⟨rfl, rfl⟩ ⟨Nat.le_of_ble_eq_true rfl, Nat.le_of_ble_eq_true rfl⟩ ⟨Nat.zero_le _, Nat.zero_le _⟩ rfl hl.1 rfl (Nat.le_of_ble_eq_true rfl) dX7_thing_1 (fun H locs G => ?_)
  clear er1
  refine lv_if_eq (tgt := 27) hx hb dX7_thing_4 (by decide) (fun c3 => ?_) (fun c3 => ?_)
  · have h := it_at c3 h
    refine lv_aload_n hx hb dX7_thing_27 rfl (lv_at hl 0 rfl) ?_
    refine lv_ldc (v := -1000001) hx hb X.2.2.2.1 (X.2.2.2.2.1 _ q_975) dX7_thing_28 ?_
    obtain ⟨r4, u5, er4, h⟩ := bnd_at h
    refine cvI (rest := []) X K G (c_X7_finds er4) q_976 my_X7_finds ⟨rfl, rfl⟩ ⟨Nat.le_of_ble_eq_true rfl, Nat.le_of_ble_eq_true rfl⟩ ⟨Nat.zero_le _, Nat.zero_le _⟩ 0 7 rfl rfl rfl rfl hl.1 rfl (Nat.le_of_ble_eq_true rfl) dX7_thing_30 (fun H locs G => ?_)
    clear er4
    obtain ⟨rfl, rfl⟩ := pair_at h
    exact reI X G dX7_thing_33
  · have h := if_at c3 h
    refine lv_aload_n hx hb dX7_thing_7 rfl (lv_at hl 0 rfl) ?_
    refine lv_iload_n hx hb dX7_thing_8 rfl (lv_at hl 2 rfl) ?_
    obtain ⟨r6, u7, er6, h⟩ := bnd_at h
    refine cvI (rest := []) X K G (c_X7_isTool er6) q_1080 my_X7_isTool ⟨rfl, rfl⟩ ⟨Nat.le_of_ble_eq_true rfl, Nat.le_of_ble_eq_true rfl⟩ ⟨Nat.zero_le _, Nat.zero_le _⟩ 0 7 rfl rfl rfl rfl hl.1 rfl (Nat.le_of_ble_eq_true rfl) dX7_thing_9 (fun H locs G => ?_)
    clear er6
    refine lv_if_eq (tgt := 27) hx hb dX7_thing_12 (by decide) (fun c8 => ?_) (fun c8 => ?_)
    · have h := it_at c8 h
      refine lv_aload_n hx hb dX7_thing_27 rfl (lv_at hl 0 rfl) ?_
      refine lv_ldc (v := -1000001) hx hb X.2.2.2.1 (X.2.2.2.2.1 _ q_975) dX7_thing_28 ?_
      obtain ⟨r9, u10, er9, h⟩ := bnd_at h
      refine cvI (rest := []) X K G (c_X7_finds er9) q_976 my_X7_finds ⟨rfl, rfl⟩ ⟨Nat.le_of_ble_eq_true rfl, Nat.le_of_ble_eq_true rfl⟩ ⟨Nat.zero_le _, Nat.zero_le _⟩ 0 7 rfl rfl rfl rfl hl.1 rfl (Nat.le_of_ble_eq_true rfl) dX7_thing_30 (fun H locs G => ?_)
      clear er9
      obtain ⟨rfl, rfl⟩ := pair_at h
      exact reI X G dX7_thing_33
    · have h := if_at c8 h
      refine lv_iload_n hx hb dX7_thing_15 rfl (lv_at hl 3 rfl) ?_
      refine lv_i2l hx hb dX7_thing_16 rfl ?_
      refine lv_lconst (v := 1) hx hb dX7_thing_17 (by decide) ?_
      refine lv_ldc2 (v := 8) hx hb X.2.2.2.1 (X.2.2.2.2.1 _ q_1111) dX7_thing_18 ?_
      obtain ⟨r11, u12, er11, h⟩ := bnd_at h
      refine csI (rest := []) X K G (c_X7_in er11) q_972 my_X7_in ⟨rfl, rfl⟩ ⟨Nat.le_of_ble_eq_true rfl, Nat.le_of_ble_eq_true rfl⟩ ⟨Nat.zero_le _, Nat.zero_le _⟩ rfl hl.1 rfl (Nat.le_of_ble_eq_true rfl) dX7_thing_21 (fun H locs G => ?_)
      clear er11
      refine lv_if_ne (tgt := 34) hx hb dX7_thing_24 (by decide) (fun c13 => ?_) (fun c13 => ?_)
      · have h := if_at c13 h
        refine lv_aload_n hx hb dX7_thing_34 rfl (lv_at hl 0 rfl) ?_
        refine gM_0_0 X K G q_906 dX7_thing_35 ?_
        refine lv_iconst (v := 3) hx hb dX7_thing_38 (by decide) ?_
        refine lM_1 X K G (by decide) dX7_thing_39 ?_
        refine lv_bipush (v := 8) hx hb dX7_thing_40 (by decide) ?_
        refine lv_icmp_ne (tgt := 52) hx hb dX7_thing_42 (by decide) (fun c14 => ?_) (fun c14 => ?_)
        · have h := if_at c14 h
          refine lv_aload_n hx hb dX7_thing_52 rfl (lv_at hl 0 rfl) ?_
          refine gM_0_0 X K G q_906 dX7_thing_53 ?_
          refine lv_iconst (v := 3) hx hb dX7_thing_56 (by decide) ?_
          refine lM_1 X K G (by decide) dX7_thing_57 ?_
          refine lv_topi (fun x15 ex15 => ?_)
          have h := nm_at ex15 h
          refine lv_istore (lv' := [(4, .int x15), (0, .ref (ad 0)), (1, .int a1), (2, .int a2), (3, .int a3)]) hx hb dX7_thing_58 hl (by decide) rfl (fun ls hl => ?_)
          refine lv_aload_n hx hb dX7_thing_60 rfl (lv_at hl 1 rfl) ?_
          refine gM_0_0 X K G q_906 dX7_thing_61 ?_
          refine lv_bipush (v := 14) hx hb dX7_thing_64 (by decide) ?_
          refine lv_bipush (v := 26) hx hb dX7_thing_66 (by decide) ?_
          refine lv_iload hx hb dX7_thing_68 (lv_at hl 0 rfl) ?_
          refine lv_imul hx hb dX7_thing_70 ?_
          refine lv_iadd hx hb dX7_thing_71 ?_
          refine lv_iload_n hx hb dX7_thing_72 rfl (lv_at hl 2 rfl) ?_
          refine nm2 (fun x16 ex16 => ?_)
          have h := nm_at ex16 h
          obtain ⟨g17, h⟩ := ck_at h
          refine aM_1 X K G g17 dX7_thing_73 (fun H locs G => ?_)
          obtain ⟨u18, eu18⟩ : ∃ z : MS, z = mu_m u12 (upd (m_m u12) x16.toNatClampNeg a1) := ⟨_, rfl⟩
          have G : wg D A s.heap H locs (wM cI ad u18) := by rw [eu18]; exact G
          have h := nm_at eu18 h
          clear eu18
          refine lv_aload_n hx hb dX7_thing_74 rfl (lv_at hl 1 rfl) ?_
          refine gM_0_0 X K G q_906 dX7_thing_75 ?_
          refine lv_bipush (v := 14) hx hb dX7_thing_78 (by decide) ?_
          refine lv_bipush (v := 26) hx hb dX7_thing_80 (by decide) ?_
          refine lv_iload hx hb dX7_thing_82 (lv_at hl 0 rfl) ?_
          refine lv_imul hx hb dX7_thing_84 ?_
          refine lv_iadd hx hb dX7_thing_85 ?_
          refine lv_iconst (v := 1) hx hb dX7_thing_86 (by decide) ?_
          refine lv_iadd hx hb dX7_thing_87 ?_
          refine lv_iconst (v := 1) hx hb dX7_thing_88 (by decide) ?_
          refine nm2 (fun x19 ex19 => ?_)
          have h := nm_at ex19 h
          obtain ⟨g20, h⟩ := ck_at h
          refine aM_1 X K G g20 dX7_thing_89 (fun H locs G => ?_)
          obtain ⟨u21, eu21⟩ : ∃ z : MS, z = mu_m u18 (upd (m_m u18) x19.toNatClampNeg (1 : Int32)) := ⟨_, rfl⟩
          have G : wg D A s.heap H locs (wM cI ad u21) := by rw [eu21]; exact G
          have h := nm_at eu21 h
          clear eu21
          refine lv_aload_n hx hb dX7_thing_90 rfl (lv_at hl 1 rfl) ?_
          refine gM_0_0 X K G q_906 dX7_thing_91 ?_
          refine lv_iload hx hb dX7_thing_94 (lv_at hl 0 rfl) ?_
          refine lv_iconst (v := 0) hx hb dX7_thing_96 (by decide) ?_
          refine lv_iconst (v := 0) hx hb dX7_thing_97 (by decide) ?_
          obtain ⟨r22, u23, er22, h⟩ := bnd_at h
          refine csI (rest := [.ref (ad 1)]) X K G (c_X7_at er22) q_1048 my_X7_at ⟨rfl, rfl⟩ ⟨Nat.le_of_ble_eq_true rfl, Nat.le_of_ble_eq_true rfl⟩ ⟨Nat.zero_le _, Nat.zero_le _⟩ rfl hl.1 rfl (Nat.le_of_ble_eq_true rfl) dX7_thing_98 (fun H locs G => ?_)
          clear er22
          refine lv_iload_n hx hb dX7_thing_101 rfl (lv_at hl 3 rfl) ?_
          obtain ⟨g24, h⟩ := ck_at h
          refine aM_1 X K G g24 dX7_thing_102 (fun H locs G => ?_)
          obtain ⟨u25, eu25⟩ : ∃ z : MS, z = mu_m u23 (upd (m_m u23) r22.toNatClampNeg a2) := ⟨_, rfl⟩
          have G : wg D A s.heap H locs (wM cI ad u25) := by rw [eu25]; exact G
          have h := nm_at eu25 h
          clear eu25
          refine lv_aload_n hx hb dX7_thing_103 rfl (lv_at hl 1 rfl) ?_
          refine gM_0_0 X K G q_906 dX7_thing_104 ?_
          refine lv_iload hx hb dX7_thing_107 (lv_at hl 0 rfl) ?_
          refine lv_iconst (v := 0) hx hb dX7_thing_109 (by decide) ?_
          refine lv_iconst (v := 1) hx hb dX7_thing_110 (by decide) ?_
          obtain ⟨r26, u27, er26, h⟩ := bnd_at h
          refine csI (rest := [.ref (ad 1)]) X K G (c_X7_at er26) q_1048 my_X7_at ⟨rfl, rfl⟩ ⟨Nat.le_of_ble_eq_true rfl, Nat.le_of_ble_eq_true rfl⟩ ⟨Nat.zero_le _, Nat.zero_le _⟩ rfl hl.1 rfl (Nat.le_of_ble_eq_true rfl) dX7_thing_111 (fun H locs G => ?_)
          clear er26
          refine lv_iload_n hx hb dX7_thing_114 rfl (lv_at hl 4 rfl) ?_
          obtain ⟨g28, h⟩ := ck_at h
          refine aM_1 X K G g28 dX7_thing_115 (fun H locs G => ?_)
          obtain ⟨u29, eu29⟩ : ∃ z : MS, z = mu_m u27 (upd (m_m u27) r26.toNatClampNeg a3) := ⟨_, rfl⟩
          have G : wg D A s.heap H locs (wM cI ad u29) := by rw [eu29]; exact G
          have h := nm_at eu29 h
          clear eu29
          refine lv_aload_n hx hb dX7_thing_116 rfl (lv_at hl 1 rfl) ?_
          refine gM_0_0 X K G q_906 dX7_thing_117 ?_
          refine lv_iload hx hb dX7_thing_120 (lv_at hl 0 rfl) ?_
          refine lv_iconst (v := 0) hx hb dX7_thing_122 (by decide) ?_
          refine lv_iconst (v := 2) hx hb dX7_thing_123 (by decide) ?_
          obtain ⟨r30, u31, er30, h⟩ := bnd_at h
          refine csI (rest := [.ref (ad 1)]) X K G (c_X7_at er30) q_1048 my_X7_at ⟨rfl, rfl⟩ ⟨Nat.le_of_ble_eq_true rfl, Nat.le_of_ble_eq_true rfl⟩ ⟨Nat.zero_le _, Nat.zero_le _⟩ rfl hl.1 rfl (Nat.le_of_ble_eq_true rfl) dX7_thing_124 (fun H locs G => ?_)
          clear er30
          refine lv_bipush (v := 99) hx hb dX7_thing_127 (by decide) ?_
          obtain ⟨g32, h⟩ := ck_at h
          refine aM_1 X K G g32 dX7_thing_129 (fun H locs G => ?_)
          obtain ⟨u33, eu33⟩ : ∃ z : MS, z = mu_m u31 (upd (m_m u31) r30.toNatClampNeg (99 : Int32)) := ⟨_, rfl⟩
          have G : wg D A s.heap H locs (wM cI ad u33) := by rw [eu33]; exact G
          have h := nm_at eu33 h
          clear eu33
          refine lv_aload_n hx hb dX7_thing_130 rfl (lv_at hl 1 rfl) ?_
          refine gM_0_0 X K G q_906 dX7_thing_131 ?_
          refine lv_iconst (v := 3) hx hb dX7_thing_134 (by decide) ?_
          refine lv_dup2_11 hx hb dX7_thing_135 rfl rfl ?_
          refine lM_1 X K G (by decide) dX7_thing_136 ?_
          refine lv_iconst (v := 1) hx hb dX7_thing_137 (by decide) ?_
          refine lv_iadd hx hb dX7_thing_138 ?_
          refine lv_topi (fun x34 ex34 => ?_)
          have h := nm_at ex34 h
          refine aM_1 X K G (by decide) dX7_thing_139 (fun H locs G => ?_)
          obtain ⟨u35, eu35⟩ : ∃ z : MS, z = mu_m u33 (upd (m_m u33) (3 : Int32).toNatClampNeg x34) := ⟨_, rfl⟩
          have G : wg D A s.heap H locs (wM cI ad u35) := by rw [eu35]; exact G
          have h := nm_at eu35 h
          clear eu35
          refine lv_iload hx hb dX7_thing_140 (lv_at hl 0 rfl) ?_
          obtain ⟨rfl, rfl⟩ := pair_at h
          exact reI X G dX7_thing_142
        · have h := it_at c14 h
          refine lv_aload_n hx hb dX7_thing_45 rfl (lv_at hl 0 rfl) ?_
          refine lv_ldc (v := -1000002) hx hb X.2.2.2.1 (X.2.2.2.2.1 _ q_980) dX7_thing_46 ?_
          obtain ⟨r36, u37, er36, h⟩ := bnd_at h
          refine cvI (rest := []) X K G (c_X7_finds er36) q_976 my_X7_finds ⟨rfl, rfl⟩ ⟨Nat.le_of_ble_eq_true rfl, Nat.le_of_ble_eq_true rfl⟩ ⟨Nat.zero_le _, Nat.zero_le _⟩ 0 7 rfl rfl rfl rfl hl.1 rfl (Nat.le_of_ble_eq_true rfl) dX7_thing_48 (fun H locs G => ?_)
          clear er36
          obtain ⟨rfl, rfl⟩ := pair_at h
          exact reI X G dX7_thing_51
      · have h := it_at c13 h
        refine lv_aload_n hx hb dX7_thing_27 rfl (lv_at hl 0 rfl) ?_
        refine lv_ldc (v := -1000001) hx hb X.2.2.2.1 (X.2.2.2.2.1 _ q_975) dX7_thing_28 ?_
        obtain ⟨r38, u39, er38, h⟩ := bnd_at h
        refine cvI (rest := []) X K G (c_X7_finds er38) q_976 my_X7_finds ⟨rfl, rfl⟩ ⟨Nat.le_of_ble_eq_true rfl, Nat.le_of_ble_eq_true rfl⟩ ⟨Nat.zero_le _, Nat.zero_le _⟩ 0 7 rfl rfl rfl rfl hl.1 rfl (Nat.le_of_ble_eq_true rfl) dX7_thing_30 (fun H locs G => ?_)
        clear er38
        obtain ⟨rfl, rfl⟩ := pair_at h
        exact reI X G dX7_thing_33
noncomputable def f_X7_isThing (a1 : Int32) (u0 : MS) : Option (Int32 × MS) :=
  bnd (f_X7_in (a1.toInt64) (0 : Int64) ((((m_m u0) (3 : Int32).toNatClampNeg) - (1 : Int32)).toInt64) u0) fun r1 u2 =>
  if ¬ (r1 = 0 ∨ r1 = 1) then none else
  some (r1, u2)
set_option maxRecDepth 100000 in
set_option maxHeartbeats 4000000 in
theorem c_X7_isThing {a1 : Int32} {u0 : MS} {r : Int32} {u' : MS} (h : f_X7_isThing a1 u0 = some (r, u')) : MI l D cI cZ cQ adK adV A yX7_isThing cX7_isThing 2 (some .boolean) { frames := 1, cells := 0, slots := 0, locals := 25 } [.ref (ad 0), .int a1] (wM cI ad) u0 r u' := by
  unfold f_X7_isThing at h
  refine entI (by decide) (Nat.le_of_ble_eq_true rfl) (fun p e s m below meth c ls X K G hl => ?_)
  have hl : lv_has ls 2 [(0, .ref (ad 0)), (1, .int a1)] := hl
  obtain ⟨hx, hb, -⟩ := id X
  generalize hH : s.heap = H at G
  subst hH
  refine lv_iload_n hx hb dX7_isThing_0 rfl (lv_at hl 1 rfl) ?_
  refine lv_i2l hx hb dX7_isThing_1 rfl ?_
  refine lv_lconst (v := 0) hx hb dX7_isThing_2 (by decide) ?_
  refine lv_aload_n hx hb dX7_isThing_3 rfl (lv_at hl 0 rfl) ?_
  refine gM_0_0 X K G q_906 dX7_isThing_4 ?_
  refine lv_iconst (v := 3) hx hb dX7_isThing_7 (by decide) ?_
  refine lM_1 X K G (by decide) dX7_isThing_8 ?_
  refine lv_iconst (v := 1) hx hb dX7_isThing_9 (by decide) ?_
  refine lv_isub hx hb dX7_isThing_10 ?_
  refine lv_i2l hx hb dX7_isThing_11 rfl ?_
  obtain ⟨r1, u2, er1, h⟩ := bnd_at h
  refine csI (rest := []) X K G (c_X7_in er1) q_972 my_X7_in ⟨rfl, rfl⟩ ⟨Nat.le_of_ble_eq_true rfl, Nat.le_of_ble_eq_true rfl⟩ ⟨Nat.zero_le _, Nat.zero_le _⟩ rfl hl.1 rfl (Nat.le_of_ble_eq_true rfl) dX7_isThing_12 (fun H locs G => ?_)
  clear er1
  obtain ⟨g3, h⟩ := ck_at h
  obtain ⟨rfl, rfl⟩ := pair_at h
  exact reZ X G (Decidable.not_not.mp g3) dX7_isThing_15
noncomputable def f_X7_steps (a1 : Int32) (u0 : MS) : Option (Int32 × MS) :=
  nmv (((14 : Int32) + ((26 : Int32) * a1)) + (1 : Int32)) fun x1 =>
  if x1 < 0 ∨ 247 ≤ x1.toNatClampNeg then none else
  some ((m_m u0) x1.toNatClampNeg, u0)
set_option maxRecDepth 100000 in
set_option maxHeartbeats 4000000 in
theorem c_X7_steps {a1 : Int32} {u0 : MS} {r : Int32} {u' : MS} (h : f_X7_steps a1 u0 = some (r, u')) : MI l D cI cZ cQ adK adV A yX7_steps cX7_steps 2 (some .int) { frames := 0, cells := 0, slots := 0, locals := 0 } [.ref (ad 0), .int a1] (wM cI ad) u0 r u' := by
  unfold f_X7_steps at h
  refine entI (by decide) (Nat.le_of_ble_eq_true rfl) (fun p e s m below meth c ls X K G hl => ?_)
  have hl : lv_has ls 2 [(0, .ref (ad 0)), (1, .int a1)] := hl
  obtain ⟨hx, hb, -⟩ := id X
  generalize hH : s.heap = H at G
  subst hH
  refine lv_aload_n hx hb dX7_steps_0 rfl (lv_at hl 0 rfl) ?_
  refine gM_0_0 X K G q_906 dX7_steps_1 ?_
  refine lv_bipush (v := 14) hx hb dX7_steps_4 (by decide) ?_
  refine lv_bipush (v := 26) hx hb dX7_steps_6 (by decide) ?_
  refine lv_iload_n hx hb dX7_steps_8 rfl (lv_at hl 1 rfl) ?_
  refine lv_imul hx hb dX7_steps_9 ?_
  refine lv_iadd hx hb dX7_steps_10 ?_
  refine lv_iconst (v := 1) hx hb dX7_steps_11 (by decide) ?_
  refine lv_iadd hx hb dX7_steps_12 ?_
  refine lv_topi (fun x1 ex1 => ?_)
  have h := nm_at ex1 h
  obtain ⟨g2, h⟩ := ck_at h
  refine lM_1 X K G g2 dX7_steps_13 ?_
  obtain ⟨rfl, rfl⟩ := pair_at h
  exact reI X G dX7_steps_14
noncomputable def f_X7_step (a1 : Int32) (a2 : Int32) (a3 : Int32) (a4 : Int32) (u0 : MS) : Option (Int32 × MS) :=
  bnd (f_X7_isThing a1 u0) fun r1 u2 =>
  (if r1 = 0 then
    bnd (f_X7_finds (-1000001 : Int32) u2) fun r4 u5 =>
    some (r4, u5)
  else
    bnd (f_X7_isTool a2 u2) fun r6 u7 =>
    (if r6 = 0 then
      bnd (f_X7_finds (-1000001 : Int32) u7) fun r9 u10 =>
      some (r9, u10)
    else
      bnd (f_X7_in (a3.toInt64) (1 : Int64) (8 : Int64) u7) fun r11 u12 =>
      (if r11 = 0 then
        bnd (f_X7_finds (-1000001 : Int32) u12) fun r14 u15 =>
        some (r14, u15)
      else
        bnd (f_X7_in (a4.toInt64) (0 : Int64) (99 : Int64) u12) fun r16 u17 =>
        (if r16 = 0 then
          bnd (f_X7_finds (-1000001 : Int32) u17) fun r40 u41 =>
          some (r40, u41)
        else
          bnd (f_X7_steps a1 u17) fun r19 u20 =>
          (if r19 = (8 : Int32) then
            bnd (f_X7_finds (-1000002 : Int32) u20) fun r38 u39 =>
            some (r38, u39)
          else
            bnd (f_X7_at a1 r19 (0 : Int32) u20) fun r22 u23 =>
            if r22 < 0 ∨ 247 ≤ r22.toNatClampNeg then none else
            nmv (mu_m u23 (upd (m_m u23) r22.toNatClampNeg a2)) fun u25 =>
            bnd (f_X7_at a1 r19 (1 : Int32) u25) fun r26 u27 =>
            if r26 < 0 ∨ 247 ≤ r26.toNatClampNeg then none else
            nmv (mu_m u27 (upd (m_m u27) r26.toNatClampNeg a3)) fun u29 =>
            bnd (f_X7_at a1 r19 (2 : Int32) u29) fun r30 u31 =>
            if r30 < 0 ∨ 247 ≤ r30.toNatClampNeg then none else
            nmv (mu_m u31 (upd (m_m u31) r30.toNatClampNeg a4)) fun u33 =>
            nmv (r19 + (1 : Int32)) fun x34 =>
            nmv (((14 : Int32) + ((26 : Int32) * a1)) + (1 : Int32)) fun x35 =>
            if x35 < 0 ∨ 247 ≤ x35.toNatClampNeg then none else
            nmv (mu_m u33 (upd (m_m u33) x35.toNatClampNeg x34)) fun u37 =>
            some (r19 + (1 : Int32), u37))))))
set_option maxRecDepth 100000 in
set_option maxHeartbeats 4000000 in
theorem c_X7_step {a1 : Int32} {a2 : Int32} {a3 : Int32} {a4 : Int32} {u0 : MS} {r : Int32} {u' : MS} (h : f_X7_step a1 a2 a3 a4 u0 = some (r, u')) : MI l D cI cZ cQ adK adV A yX7_step cX7_step 6 (some .int) { frames := 2, cells := 0, slots := 0, locals := 46 } [.ref (ad 0), .int a1, .int a2, .int a3, .int a4] (wM cI ad) u0 r u' := by
  unfold f_X7_step at h
  refine entI (by decide) (Nat.le_of_ble_eq_true rfl) (fun p e s m below meth c ls X K G hl => ?_)
  have hl : lv_has ls 6 [(0, .ref (ad 0)), (1, .int a1), (2, .int a2), (3, .int a3), (4, .int a4)] := hl
  obtain ⟨hx, hb, -⟩ := id X
  generalize hH : s.heap = H at G
  subst hH
  refine lv_aload_n hx hb dX7_step_0 rfl (lv_at hl 0 rfl) ?_
  refine lv_iload_n hx hb dX7_step_1 rfl (lv_at hl 1 rfl) ?_
  obtain ⟨r1, u2, er1, h⟩ := bnd_at h
  refine cvI (rest := []) X K G (c_X7_isThing er1) q_1116 my_X7_isThing ⟨rfl, rfl⟩ ⟨Nat.le_of_ble_eq_true rfl, Nat.le_of_ble_eq_true rfl⟩ ⟨Nat.zero_le _, Nat.zero_le _⟩ 0 7 rfl rfl rfl rfl hl.1 rfl (Nat.le_of_ble_eq_true rfl) dX7_step_2 (fun H locs G => ?_)
  clear er1
  refine lv_if_eq (tgt := 41) hx hb dX7_step_5 (by decide) (fun c3 => ?_) (fun c3 => ?_)
  · have h := it_at c3 h
    refine lv_aload_n hx hb dX7_step_41 rfl (lv_at hl 0 rfl) ?_
    refine lv_ldc (v := -1000001) hx hb X.2.2.2.1 (X.2.2.2.2.1 _ q_975) dX7_step_42 ?_
    obtain ⟨r4, u5, er4, h⟩ := bnd_at h
    refine cvI (rest := []) X K G (c_X7_finds er4) q_976 my_X7_finds ⟨rfl, rfl⟩ ⟨Nat.le_of_ble_eq_true rfl, Nat.le_of_ble_eq_true rfl⟩ ⟨Nat.zero_le _, Nat.zero_le _⟩ 0 7 rfl rfl rfl rfl hl.1 rfl (Nat.le_of_ble_eq_true rfl) dX7_step_44 (fun H locs G => ?_)
    clear er4
    obtain ⟨rfl, rfl⟩ := pair_at h
    exact reI X G dX7_step_47
  · have h := if_at c3 h
    refine lv_aload_n hx hb dX7_step_8 rfl (lv_at hl 0 rfl) ?_
    refine lv_iload_n hx hb dX7_step_9 rfl (lv_at hl 2 rfl) ?_
    obtain ⟨r6, u7, er6, h⟩ := bnd_at h
    refine cvI (rest := []) X K G (c_X7_isTool er6) q_1080 my_X7_isTool ⟨rfl, rfl⟩ ⟨Nat.le_of_ble_eq_true rfl, Nat.le_of_ble_eq_true rfl⟩ ⟨Nat.zero_le _, Nat.zero_le _⟩ 0 7 rfl rfl rfl rfl hl.1 rfl (Nat.le_of_ble_eq_true rfl) dX7_step_10 (fun H locs G => ?_)
    clear er6
    refine lv_if_eq (tgt := 41) hx hb dX7_step_13 (by decide) (fun c8 => ?_) (fun c8 => ?_)
    · have h := it_at c8 h
      refine lv_aload_n hx hb dX7_step_41 rfl (lv_at hl 0 rfl) ?_
      refine lv_ldc (v := -1000001) hx hb X.2.2.2.1 (X.2.2.2.2.1 _ q_975) dX7_step_42 ?_
      obtain ⟨r9, u10, er9, h⟩ := bnd_at h
      refine cvI (rest := []) X K G (c_X7_finds er9) q_976 my_X7_finds ⟨rfl, rfl⟩ ⟨Nat.le_of_ble_eq_true rfl, Nat.le_of_ble_eq_true rfl⟩ ⟨Nat.zero_le _, Nat.zero_le _⟩ 0 7 rfl rfl rfl rfl hl.1 rfl (Nat.le_of_ble_eq_true rfl) dX7_step_44 (fun H locs G => ?_)
      clear er9
      obtain ⟨rfl, rfl⟩ := pair_at h
      exact reI X G dX7_step_47
    · have h := if_at c8 h
      refine lv_iload_n hx hb dX7_step_16 rfl (lv_at hl 3 rfl) ?_
      refine lv_i2l hx hb dX7_step_17 rfl ?_
      refine lv_lconst (v := 1) hx hb dX7_step_18 (by decide) ?_
      refine lv_ldc2 (v := 8) hx hb X.2.2.2.1 (X.2.2.2.2.1 _ q_1111) dX7_step_19 ?_
      obtain ⟨r11, u12, er11, h⟩ := bnd_at h
      refine csI (rest := []) X K G (c_X7_in er11) q_972 my_X7_in ⟨rfl, rfl⟩ ⟨Nat.le_of_ble_eq_true rfl, Nat.le_of_ble_eq_true rfl⟩ ⟨Nat.zero_le _, Nat.zero_le _⟩ rfl hl.1 rfl (Nat.le_of_ble_eq_true rfl) dX7_step_22 (fun H locs G => ?_)
      clear er11
      refine lv_if_eq (tgt := 41) hx hb dX7_step_25 (by decide) (fun c13 => ?_) (fun c13 => ?_)
      · have h := it_at c13 h
        refine lv_aload_n hx hb dX7_step_41 rfl (lv_at hl 0 rfl) ?_
        refine lv_ldc (v := -1000001) hx hb X.2.2.2.1 (X.2.2.2.2.1 _ q_975) dX7_step_42 ?_
        obtain ⟨r14, u15, er14, h⟩ := bnd_at h
        refine cvI (rest := []) X K G (c_X7_finds er14) q_976 my_X7_finds ⟨rfl, rfl⟩ ⟨Nat.le_of_ble_eq_true rfl, Nat.le_of_ble_eq_true rfl⟩ ⟨Nat.zero_le _, Nat.zero_le _⟩ 0 7 rfl rfl rfl rfl hl.1 rfl (Nat.le_of_ble_eq_true rfl) dX7_step_44 (fun H locs G => ?_)
        clear er14
        obtain ⟨rfl, rfl⟩ := pair_at h
        exact reI X G dX7_step_47
      · have h := if_at c13 h
        refine lv_iload hx hb dX7_step_28 (lv_at hl 4 rfl) ?_
        refine lv_i2l hx hb dX7_step_30 rfl ?_
        refine lv_lconst (v := 0) hx hb dX7_step_31 (by decide) ?_
        refine lv_ldc2 (v := 99) hx hb X.2.2.2.1 (X.2.2.2.2.1 _ q_1120) dX7_step_32 ?_
        obtain ⟨r16, u17, er16, h⟩ := bnd_at h
        refine csI (rest := []) X K G (c_X7_in er16) q_972 my_X7_in ⟨rfl, rfl⟩ ⟨Nat.le_of_ble_eq_true rfl, Nat.le_of_ble_eq_true rfl⟩ ⟨Nat.zero_le _, Nat.zero_le _⟩ rfl hl.1 rfl (Nat.le_of_ble_eq_true rfl) dX7_step_35 (fun H locs G => ?_)
        clear er16
        refine lv_if_ne (tgt := 48) hx hb dX7_step_38 (by decide) (fun c18 => ?_) (fun c18 => ?_)
        · have h := if_at c18 h
          refine lv_aload_n hx hb dX7_step_48 rfl (lv_at hl 0 rfl) ?_
          refine lv_iload_n hx hb dX7_step_49 rfl (lv_at hl 1 rfl) ?_
          obtain ⟨r19, u20, er19, h⟩ := bnd_at h
          refine cvI (rest := []) X K G (c_X7_steps er19) q_1121 my_X7_steps ⟨rfl, rfl⟩ ⟨Nat.le_of_ble_eq_true rfl, Nat.le_of_ble_eq_true rfl⟩ ⟨Nat.zero_le _, Nat.zero_le _⟩ 0 7 rfl rfl rfl rfl hl.1 rfl (Nat.le_of_ble_eq_true rfl) dX7_step_50 (fun H locs G => ?_)
          clear er19
          refine lv_istore (lv' := [(5, .int r19), (0, .ref (ad 0)), (1, .int a1), (2, .int a2), (3, .int a3), (4, .int a4)]) hx hb dX7_step_53 hl (by decide) rfl (fun ls hl => ?_)
          refine lv_iload hx hb dX7_step_55 (lv_at hl 0 rfl) ?_
          refine lv_bipush (v := 8) hx hb dX7_step_57 (by decide) ?_
          refine lv_icmp_ne (tgt := 69) hx hb dX7_step_59 (by decide) (fun c21 => ?_) (fun c21 => ?_)
          · have h := if_at c21 h
            refine lv_aload_n hx hb dX7_step_69 rfl (lv_at hl 1 rfl) ?_
            refine gM_0_0 X K G q_906 dX7_step_70 ?_
            refine lv_iload_n hx hb dX7_step_73 rfl (lv_at hl 2 rfl) ?_
            refine lv_iload hx hb dX7_step_74 (lv_at hl 0 rfl) ?_
            refine lv_iconst (v := 0) hx hb dX7_step_76 (by decide) ?_
            obtain ⟨r22, u23, er22, h⟩ := bnd_at h
            refine csI (rest := [.ref (ad 1)]) X K G (c_X7_at er22) q_1048 my_X7_at ⟨rfl, rfl⟩ ⟨Nat.le_of_ble_eq_true rfl, Nat.le_of_ble_eq_true rfl⟩ ⟨Nat.zero_le _, Nat.zero_le _⟩ rfl hl.1 rfl (Nat.le_of_ble_eq_true rfl) dX7_step_77 (fun H locs G => ?_)
            clear er22
            refine lv_iload_n hx hb dX7_step_80 rfl (lv_at hl 3 rfl) ?_
            obtain ⟨g24, h⟩ := ck_at h
            refine aM_1 X K G g24 dX7_step_81 (fun H locs G => ?_)
            obtain ⟨u25, eu25⟩ : ∃ z : MS, z = mu_m u23 (upd (m_m u23) r22.toNatClampNeg a2) := ⟨_, rfl⟩
            have G : wg D A s.heap H locs (wM cI ad u25) := by rw [eu25]; exact G
            have h := nm_at eu25 h
            clear eu25
            refine lv_aload_n hx hb dX7_step_82 rfl (lv_at hl 1 rfl) ?_
            refine gM_0_0 X K G q_906 dX7_step_83 ?_
            refine lv_iload_n hx hb dX7_step_86 rfl (lv_at hl 2 rfl) ?_
            refine lv_iload hx hb dX7_step_87 (lv_at hl 0 rfl) ?_
            refine lv_iconst (v := 1) hx hb dX7_step_89 (by decide) ?_
            obtain ⟨r26, u27, er26, h⟩ := bnd_at h
            refine csI (rest := [.ref (ad 1)]) X K G (c_X7_at er26) q_1048 my_X7_at ⟨rfl, rfl⟩ ⟨Nat.le_of_ble_eq_true rfl, Nat.le_of_ble_eq_true rfl⟩ ⟨Nat.zero_le _, Nat.zero_le _⟩ rfl hl.1 rfl (Nat.le_of_ble_eq_true rfl) dX7_step_90 (fun H locs G => ?_)
            clear er26
            refine lv_iload_n hx hb dX7_step_93 rfl (lv_at hl 4 rfl) ?_
            obtain ⟨g28, h⟩ := ck_at h
            refine aM_1 X K G g28 dX7_step_94 (fun H locs G => ?_)
            obtain ⟨u29, eu29⟩ : ∃ z : MS, z = mu_m u27 (upd (m_m u27) r26.toNatClampNeg a3) := ⟨_, rfl⟩
            have G : wg D A s.heap H locs (wM cI ad u29) := by rw [eu29]; exact G
            have h := nm_at eu29 h
            clear eu29
            refine lv_aload_n hx hb dX7_step_95 rfl (lv_at hl 1 rfl) ?_
            refine gM_0_0 X K G q_906 dX7_step_96 ?_
            refine lv_iload_n hx hb dX7_step_99 rfl (lv_at hl 2 rfl) ?_
            refine lv_iload hx hb dX7_step_100 (lv_at hl 0 rfl) ?_
            refine lv_iconst (v := 2) hx hb dX7_step_102 (by decide) ?_
            obtain ⟨r30, u31, er30, h⟩ := bnd_at h
            refine csI (rest := [.ref (ad 1)]) X K G (c_X7_at er30) q_1048 my_X7_at ⟨rfl, rfl⟩ ⟨Nat.le_of_ble_eq_true rfl, Nat.le_of_ble_eq_true rfl⟩ ⟨Nat.zero_le _, Nat.zero_le _⟩ rfl hl.1 rfl (Nat.le_of_ble_eq_true rfl) dX7_step_103 (fun H locs G => ?_)
            clear er30
            refine lv_iload hx hb dX7_step_106 (lv_at hl 5 rfl) ?_
            obtain ⟨g32, h⟩ := ck_at h
            refine aM_1 X K G g32 dX7_step_108 (fun H locs G => ?_)
            obtain ⟨u33, eu33⟩ : ∃ z : MS, z = mu_m u31 (upd (m_m u31) r30.toNatClampNeg a4) := ⟨_, rfl⟩
            have G : wg D A s.heap H locs (wM cI ad u33) := by rw [eu33]; exact G
            have h := nm_at eu33 h
            clear eu33
            refine lv_aload_n hx hb dX7_step_109 rfl (lv_at hl 1 rfl) ?_
            refine gM_0_0 X K G q_906 dX7_step_110 ?_
            refine lv_bipush (v := 14) hx hb dX7_step_113 (by decide) ?_
            refine lv_bipush (v := 26) hx hb dX7_step_115 (by decide) ?_
            refine lv_iload_n hx hb dX7_step_117 rfl (lv_at hl 2 rfl) ?_
            refine lv_imul hx hb dX7_step_118 ?_
            refine lv_iadd hx hb dX7_step_119 ?_
            refine lv_iconst (v := 1) hx hb dX7_step_120 (by decide) ?_
            refine lv_iadd hx hb dX7_step_121 ?_
            refine lv_iload hx hb dX7_step_122 (lv_at hl 0 rfl) ?_
            refine lv_iconst (v := 1) hx hb dX7_step_124 (by decide) ?_
            refine lv_iadd hx hb dX7_step_125 ?_
            refine lv_topi (fun x34 ex34 => ?_)
            have h := nm_at ex34 h
            refine nm2 (fun x35 ex35 => ?_)
            have h := nm_at ex35 h
            obtain ⟨g36, h⟩ := ck_at h
            refine aM_1 X K G g36 dX7_step_126 (fun H locs G => ?_)
            obtain ⟨u37, eu37⟩ : ∃ z : MS, z = mu_m u33 (upd (m_m u33) x35.toNatClampNeg x34) := ⟨_, rfl⟩
            have G : wg D A s.heap H locs (wM cI ad u37) := by rw [eu37]; exact G
            have h := nm_at eu37 h
            clear eu37
            refine lv_iload hx hb dX7_step_127 (lv_at hl 0 rfl) ?_
            refine lv_iconst (v := 1) hx hb dX7_step_129 (by decide) ?_
            refine lv_iadd hx hb dX7_step_130 ?_
            obtain ⟨rfl, rfl⟩ := pair_at h
            exact reI X G dX7_step_131
          · have h := it_at c21 h
            refine lv_aload_n hx hb dX7_step_62 rfl (lv_at hl 1 rfl) ?_
            refine lv_ldc (v := -1000002) hx hb X.2.2.2.1 (X.2.2.2.2.1 _ q_980) dX7_step_63 ?_
            obtain ⟨r38, u39, er38, h⟩ := bnd_at h
            refine cvI (rest := []) X K G (c_X7_finds er38) q_976 my_X7_finds ⟨rfl, rfl⟩ ⟨Nat.le_of_ble_eq_true rfl, Nat.le_of_ble_eq_true rfl⟩ ⟨Nat.zero_le _, Nat.zero_le _⟩ 0 7 rfl rfl rfl rfl hl.1 rfl (Nat.le_of_ble_eq_true rfl) dX7_step_65 (fun H locs G => ?_)
            clear er38
            obtain ⟨rfl, rfl⟩ := pair_at h
            exact reI X G dX7_step_68
        · have h := it_at c18 h
          refine lv_aload_n hx hb dX7_step_41 rfl (lv_at hl 0 rfl) ?_
          refine lv_ldc (v := -1000001) hx hb X.2.2.2.1 (X.2.2.2.2.1 _ q_975) dX7_step_42 ?_
          obtain ⟨r40, u41, er40, h⟩ := bnd_at h
          refine cvI (rest := []) X K G (c_X7_finds er40) q_976 my_X7_finds ⟨rfl, rfl⟩ ⟨Nat.le_of_ble_eq_true rfl, Nat.le_of_ble_eq_true rfl⟩ ⟨Nat.zero_le _, Nat.zero_le _⟩ 0 7 rfl rfl rfl rfl hl.1 rfl (Nat.le_of_ble_eq_true rfl) dX7_step_44 (fun H locs G => ?_)
          clear er40
          obtain ⟨rfl, rfl⟩ := pair_at h
          exact reI X G dX7_step_47
noncomputable def f_X7_isStep (a1 : Int32) (a2 : Int32) (u0 : MS) : Option (Int32 × MS) :=
  bnd (f_X7_isThing a1 u0) fun r1 u2 =>
  (if r1 = 0 then
    some ((0 : Int32), u2)
  else
    bnd (f_X7_steps a1 u2) fun r4 u5 =>
    bnd (f_X7_in (a2.toInt64) (0 : Int64) ((r4 - (1 : Int32)).toInt64) u5) fun r6 u7 =>
    (if r6 = 0 then
      some ((0 : Int32), u7)
    else
      some ((1 : Int32), u7)))
set_option maxRecDepth 100000 in
set_option maxHeartbeats 4000000 in
theorem c_X7_isStep {a1 : Int32} {a2 : Int32} {u0 : MS} {r : Int32} {u' : MS} (h : f_X7_isStep a1 a2 u0 = some (r, u')) : MI l D cI cZ cQ adK adV A yX7_isStep cX7_isStep 3 (some .boolean) { frames := 2, cells := 0, slots := 0, locals := 46 } [.ref (ad 0), .int a1, .int a2] (wM cI ad) u0 r u' := by
  unfold f_X7_isStep at h
  refine entI (by decide) (Nat.le_of_ble_eq_true rfl) (fun p e s m below meth c ls X K G hl => ?_)
  have hl : lv_has ls 3 [(0, .ref (ad 0)), (1, .int a1), (2, .int a2)] := hl
  obtain ⟨hx, hb, -⟩ := id X
  generalize hH : s.heap = H at G
  subst hH
  refine lv_aload_n hx hb dX7_isStep_0 rfl (lv_at hl 0 rfl) ?_
  refine lv_iload_n hx hb dX7_isStep_1 rfl (lv_at hl 1 rfl) ?_
  obtain ⟨r1, u2, er1, h⟩ := bnd_at h
  refine cvI (rest := []) X K G (c_X7_isThing er1) q_1116 my_X7_isThing ⟨rfl, rfl⟩ ⟨Nat.le_of_ble_eq_true rfl, Nat.le_of_ble_eq_true rfl⟩ ⟨Nat.zero_le _, Nat.zero_le _⟩ 0 7 rfl rfl rfl rfl hl.1 rfl (Nat.le_of_ble_eq_true rfl) dX7_isStep_2 (fun H locs G => ?_)
  clear er1
  refine lv_if_eq (tgt := 29) hx hb dX7_isStep_5 (by decide) (fun c3 => ?_) (fun c3 => ?_)
  · have h := it_at c3 h
    refine lv_iconst (v := 0) hx hb dX7_isStep_29 (by decide) ?_
    obtain ⟨rfl, rfl⟩ := pair_at h
    exact reZ X G (Or.inl rfl) dX7_isStep_30
  · have h := if_at c3 h
    refine lv_iload_n hx hb dX7_isStep_8 rfl (lv_at hl 2 rfl) ?_
    refine lv_i2l hx hb dX7_isStep_9 rfl ?_
    refine lv_lconst (v := 0) hx hb dX7_isStep_10 (by decide) ?_
    refine lv_aload_n hx hb dX7_isStep_11 rfl (lv_at hl 0 rfl) ?_
    refine lv_iload_n hx hb dX7_isStep_12 rfl (lv_at hl 1 rfl) ?_
    obtain ⟨r4, u5, er4, h⟩ := bnd_at h
    refine cvI (rest := [.long (0 : Int64), .long (a2.toInt64)]) X K G (c_X7_steps er4) q_1121 my_X7_steps ⟨rfl, rfl⟩ ⟨Nat.le_of_ble_eq_true rfl, Nat.le_of_ble_eq_true rfl⟩ ⟨Nat.zero_le _, Nat.zero_le _⟩ 0 7 rfl rfl rfl rfl hl.1 rfl (Nat.le_of_ble_eq_true rfl) dX7_isStep_13 (fun H locs G => ?_)
    clear er4
    refine lv_iconst (v := 1) hx hb dX7_isStep_16 (by decide) ?_
    refine lv_isub hx hb dX7_isStep_17 ?_
    refine lv_i2l hx hb dX7_isStep_18 rfl ?_
    obtain ⟨r6, u7, er6, h⟩ := bnd_at h
    refine csI (rest := []) X K G (c_X7_in er6) q_972 my_X7_in ⟨rfl, rfl⟩ ⟨Nat.le_of_ble_eq_true rfl, Nat.le_of_ble_eq_true rfl⟩ ⟨Nat.zero_le _, Nat.zero_le _⟩ rfl hl.1 rfl (Nat.le_of_ble_eq_true rfl) dX7_isStep_19 (fun H locs G => ?_)
    clear er6
    refine lv_if_eq (tgt := 29) hx hb dX7_isStep_22 (by decide) (fun c8 => ?_) (fun c8 => ?_)
    · have h := it_at c8 h
      refine lv_iconst (v := 0) hx hb dX7_isStep_29 (by decide) ?_
      obtain ⟨rfl, rfl⟩ := pair_at h
      exact reZ X G (Or.inl rfl) dX7_isStep_30
    · have h := if_at c8 h
      refine lv_iconst (v := 1) hx hb dX7_isStep_25 (by decide) ?_
      refine lv_goto (tgt := 30) hx hb dX7_isStep_26 (by decide) ?_
      obtain ⟨rfl, rfl⟩ := pair_at h
      exact reZ X G (Or.inr rfl) dX7_isStep_30
noncomputable def f_X7_of (a1 : Int32) (a2 : Int32) (a3 : Int32) (u0 : MS) : Option (Int32 × MS) :=
  bnd (f_X7_at a1 a2 a3 u0) fun r1 u2 =>
  if r1 < 0 ∨ 247 ≤ r1.toNatClampNeg then none else
  some ((m_m u2) r1.toNatClampNeg, u2)
set_option maxRecDepth 100000 in
set_option maxHeartbeats 4000000 in
theorem c_X7_of {a1 : Int32} {a2 : Int32} {a3 : Int32} {u0 : MS} {r : Int32} {u' : MS} (h : f_X7_of a1 a2 a3 u0 = some (r, u')) : MI l D cI cZ cQ adK adV A yX7_of cX7_of 4 (some .int) { frames := 1, cells := 0, slots := 0, locals := 22 } [.ref (ad 0), .int a1, .int a2, .int a3] (wM cI ad) u0 r u' := by
  unfold f_X7_of at h
  refine entI (by decide) (Nat.le_of_ble_eq_true rfl) (fun p e s m below meth c ls X K G hl => ?_)
  have hl : lv_has ls 4 [(0, .ref (ad 0)), (1, .int a1), (2, .int a2), (3, .int a3)] := hl
  obtain ⟨hx, hb, -⟩ := id X
  generalize hH : s.heap = H at G
  subst hH
  refine lv_aload_n hx hb dX7_of_0 rfl (lv_at hl 0 rfl) ?_
  refine gM_0_0 X K G q_906 dX7_of_1 ?_
  refine lv_iload_n hx hb dX7_of_4 rfl (lv_at hl 1 rfl) ?_
  refine lv_iload_n hx hb dX7_of_5 rfl (lv_at hl 2 rfl) ?_
  refine lv_iload_n hx hb dX7_of_6 rfl (lv_at hl 3 rfl) ?_
  obtain ⟨r1, u2, er1, h⟩ := bnd_at h
  refine csI (rest := [.ref (ad 1)]) X K G (c_X7_at er1) q_1048 my_X7_at ⟨rfl, rfl⟩ ⟨Nat.le_of_ble_eq_true rfl, Nat.le_of_ble_eq_true rfl⟩ ⟨Nat.zero_le _, Nat.zero_le _⟩ rfl hl.1 rfl (Nat.le_of_ble_eq_true rfl) dX7_of_7 (fun H locs G => ?_)
  clear er1
  obtain ⟨g3, h⟩ := ck_at h
  refine lM_1 X K G g3 dX7_of_10 ?_
  obtain ⟨rfl, rfl⟩ := pair_at h
  exact reI X G dX7_of_11
noncomputable def f_X7_kindOf (a1 : Int32) (u0 : MS) : Option (Int32 × MS) :=
  nmv ((14 : Int32) + ((26 : Int32) * a1)) fun x1 =>
  if x1 < 0 ∨ 247 ≤ x1.toNatClampNeg then none else
  some ((m_m u0) x1.toNatClampNeg, u0)
set_option maxRecDepth 100000 in
set_option maxHeartbeats 4000000 in
theorem c_X7_kindOf {a1 : Int32} {u0 : MS} {r : Int32} {u' : MS} (h : f_X7_kindOf a1 u0 = some (r, u')) : MI l D cI cZ cQ adK adV A yX7_kindOf cX7_kindOf 2 (some .int) { frames := 0, cells := 0, slots := 0, locals := 0 } [.ref (ad 0), .int a1] (wM cI ad) u0 r u' := by
  unfold f_X7_kindOf at h
  refine entI (by decide) (Nat.le_of_ble_eq_true rfl) (fun p e s m below meth c ls X K G hl => ?_)
  have hl : lv_has ls 2 [(0, .ref (ad 0)), (1, .int a1)] := hl
  obtain ⟨hx, hb, -⟩ := id X
  generalize hH : s.heap = H at G
  subst hH
  refine lv_aload_n hx hb dX7_kindOf_0 rfl (lv_at hl 0 rfl) ?_
  refine gM_0_0 X K G q_906 dX7_kindOf_1 ?_
  refine lv_bipush (v := 14) hx hb dX7_kindOf_4 (by decide) ?_
  refine lv_bipush (v := 26) hx hb dX7_kindOf_6 (by decide) ?_
  refine lv_iload_n hx hb dX7_kindOf_8 rfl (lv_at hl 1 rfl) ?_
  refine lv_imul hx hb dX7_kindOf_9 ?_
  refine lv_iadd hx hb dX7_kindOf_10 ?_
  refine lv_topi (fun x1 ex1 => ?_)
  have h := nm_at ex1 h
  obtain ⟨g2, h⟩ := ck_at h
  refine lM_1 X K G g2 dX7_kindOf_11 ?_
  obtain ⟨rfl, rfl⟩ := pair_at h
  exact reI X G dX7_kindOf_12
noncomputable def f_X7_thingOf_41 (v1 : Int32) (v2 : Int32) (v3 : Int32) (u0 : MS) : Option (Int32 × MS) :=
  bnd (f_X7_isStep v1 v2 u0) fun r1 u2 =>
  (if r1 = 0 then
    bnd (f_X7_finds (-1000001 : Int32) u2) fun r4 u5 =>
    some (r4, u5)
  else
    bnd (f_X7_in (v3.toInt64) (0 : Int64) (2 : Int64) u2) fun r6 u7 =>
    (if r6 = 0 then
      bnd (f_X7_finds (-1000001 : Int32) u7) fun r9 u10 =>
      some (r9, u10)
    else
      bnd (f_X7_of v1 v2 v3 u7) fun r11 u12 =>
      some (r11, u12)))
set_option maxRecDepth 100000 in
set_option maxHeartbeats 4000000 in
theorem b_X7_thingOf_41 (X : cx p s m args meth c cX7_thingOf 4 RX7 (some .int)) (K : kx D cI cZ cQ adK adV A s s.heap) {v1 : Int32} {v2 : Int32} {v3 : Int32} {u0 : MS} (G : wg D A s.heap H locs (wM cI ad u0)) (hl : lv_has ls 4 [(0, .ref (ad 0)), (1, .int v1), (2, .int v2), (3, .int v3)]) {r : Int32} {u' : MS} (h : f_X7_thingOf_41 v1 v2 v3 u0 = some (r, u')) : W p l e { frames := 3, cells := 0, slots := 0, locals := 68 } s m args below meth c H locs 0 0 (qI D A (wM cI ad) below args s r u') (F0 m 41 ls []) := by
  unfold f_X7_thingOf_41 at h
  obtain ⟨hx, hb, -⟩ := id X
  refine lv_aload_n hx hb dX7_thingOf_41 rfl (lv_at hl 0 rfl) ?_
  refine lv_iload_n hx hb dX7_thingOf_42 rfl (lv_at hl 1 rfl) ?_
  refine lv_iload_n hx hb dX7_thingOf_43 rfl (lv_at hl 2 rfl) ?_
  obtain ⟨r1, u2, er1, h⟩ := bnd_at h
  refine cvI (rest := []) X K G (c_X7_isStep er1) q_1134 my_X7_isStep ⟨rfl, rfl⟩ ⟨Nat.le_of_ble_eq_true rfl, Nat.le_of_ble_eq_true rfl⟩ ⟨Nat.zero_le _, Nat.zero_le _⟩ 0 7 rfl rfl rfl rfl hl.1 rfl (Nat.le_of_ble_eq_true rfl) dX7_thingOf_44 (fun H locs G => ?_)
  clear er1
  refine lv_if_eq (tgt := 72) hx hb dX7_thingOf_47 (by decide) (fun c3 => ?_) (fun c3 => ?_)
  · have h := it_at c3 h
    refine lv_aload_n hx hb dX7_thingOf_72 rfl (lv_at hl 0 rfl) ?_
    refine lv_ldc (v := -1000001) hx hb X.2.2.2.1 (X.2.2.2.2.1 _ q_975) dX7_thingOf_73 ?_
    obtain ⟨r4, u5, er4, h⟩ := bnd_at h
    refine cvI (rest := []) X K G (c_X7_finds er4) q_976 my_X7_finds ⟨rfl, rfl⟩ ⟨Nat.le_of_ble_eq_true rfl, Nat.le_of_ble_eq_true rfl⟩ ⟨Nat.zero_le _, Nat.zero_le _⟩ 0 7 rfl rfl rfl rfl hl.1 rfl (Nat.le_of_ble_eq_true rfl) dX7_thingOf_75 (fun H locs G => ?_)
    clear er4
    obtain ⟨rfl, rfl⟩ := pair_at h
    exact reI X G dX7_thingOf_78
  · have h := if_at c3 h
    refine lv_iload_n hx hb dX7_thingOf_50 rfl (lv_at hl 3 rfl) ?_
    refine lv_i2l hx hb dX7_thingOf_51 rfl ?_
    refine lv_lconst (v := 0) hx hb dX7_thingOf_52 (by decide) ?_
    refine lv_ldc2 (v := 2) hx hb X.2.2.2.1 (X.2.2.2.2.1 _ q_1138) dX7_thingOf_53 ?_
    obtain ⟨r6, u7, er6, h⟩ := bnd_at h
    refine csI (rest := []) X K G (c_X7_in er6) q_972 my_X7_in ⟨rfl, rfl⟩ ⟨Nat.le_of_ble_eq_true rfl, Nat.le_of_ble_eq_true rfl⟩ ⟨Nat.zero_le _, Nat.zero_le _⟩ rfl hl.1 rfl (Nat.le_of_ble_eq_true rfl) dX7_thingOf_56 (fun H locs G => ?_)
    clear er6
    refine lv_if_eq (tgt := 72) hx hb dX7_thingOf_59 (by decide) (fun c8 => ?_) (fun c8 => ?_)
    · have h := it_at c8 h
      refine lv_aload_n hx hb dX7_thingOf_72 rfl (lv_at hl 0 rfl) ?_
      refine lv_ldc (v := -1000001) hx hb X.2.2.2.1 (X.2.2.2.2.1 _ q_975) dX7_thingOf_73 ?_
      obtain ⟨r9, u10, er9, h⟩ := bnd_at h
      refine cvI (rest := []) X K G (c_X7_finds er9) q_976 my_X7_finds ⟨rfl, rfl⟩ ⟨Nat.le_of_ble_eq_true rfl, Nat.le_of_ble_eq_true rfl⟩ ⟨Nat.zero_le _, Nat.zero_le _⟩ 0 7 rfl rfl rfl rfl hl.1 rfl (Nat.le_of_ble_eq_true rfl) dX7_thingOf_75 (fun H locs G => ?_)
      clear er9
      obtain ⟨rfl, rfl⟩ := pair_at h
      exact reI X G dX7_thingOf_78
    · have h := if_at c8 h
      refine lv_aload_n hx hb dX7_thingOf_62 rfl (lv_at hl 0 rfl) ?_
      refine lv_iload_n hx hb dX7_thingOf_63 rfl (lv_at hl 1 rfl) ?_
      refine lv_iload_n hx hb dX7_thingOf_64 rfl (lv_at hl 2 rfl) ?_
      refine lv_iload_n hx hb dX7_thingOf_65 rfl (lv_at hl 3 rfl) ?_
      obtain ⟨r11, u12, er11, h⟩ := bnd_at h
      refine cvI (rest := []) X K G (c_X7_of er11) q_1139 my_X7_of ⟨rfl, rfl⟩ ⟨Nat.le_of_ble_eq_true rfl, Nat.le_of_ble_eq_true rfl⟩ ⟨Nat.zero_le _, Nat.zero_le _⟩ 0 7 rfl rfl rfl rfl hl.1 rfl (Nat.le_of_ble_eq_true rfl) dX7_thingOf_66 (fun H locs G => ?_)
      clear er11
      refine lv_goto (tgt := 78) hx hb dX7_thingOf_69 (by decide) ?_
      obtain ⟨rfl, rfl⟩ := pair_at h
      exact reI X G dX7_thingOf_78
noncomputable def f_X7_thingOf (a1 : Int32) (a2 : Int32) (a3 : Int32) (u0 : MS) : Option (Int32 × MS) :=
  bnd (f_X7_isThing a1 u0) fun r1 u2 =>
  (if r1 = 0 then
    f_X7_thingOf_41 a1 a2 a3 u2
  else
    bnd (f_X7_in (a2.toInt64) (-2 : Int64) (-1 : Int64) u2) fun r4 u5 =>
    (if r4 = 0 then
      f_X7_thingOf_41 a1 a2 a3 u5
    else
      (if a2 = (-1 : Int32) then
        bnd (f_X7_kindOf a1 u5) fun r10 u11 =>
        some (r10, u11)
      else
        bnd (f_X7_steps a1 u5) fun r8 u9 =>
        some (r8, u9))))
set_option maxRecDepth 100000 in
set_option maxHeartbeats 4000000 in
theorem c_X7_thingOf {a1 : Int32} {a2 : Int32} {a3 : Int32} {u0 : MS} {r : Int32} {u' : MS} (h : f_X7_thingOf a1 a2 a3 u0 = some (r, u')) : MI l D cI cZ cQ adK adV A yX7_thingOf cX7_thingOf 4 (some .int) { frames := 3, cells := 0, slots := 0, locals := 68 } [.ref (ad 0), .int a1, .int a2, .int a3] (wM cI ad) u0 r u' := by
  unfold f_X7_thingOf at h
  refine entI (by decide) (Nat.le_of_ble_eq_true rfl) (fun p e s m below meth c ls X K G hl => ?_)
  have hl : lv_has ls 4 [(0, .ref (ad 0)), (1, .int a1), (2, .int a2), (3, .int a3)] := hl
  obtain ⟨hx, hb, -⟩ := id X
  generalize hH : s.heap = H at G
  subst hH
  refine lv_aload_n hx hb dX7_thingOf_0 rfl (lv_at hl 0 rfl) ?_
  refine lv_iload_n hx hb dX7_thingOf_1 rfl (lv_at hl 1 rfl) ?_
  obtain ⟨r1, u2, er1, h⟩ := bnd_at h
  refine cvI (rest := []) X K G (c_X7_isThing er1) q_1116 my_X7_isThing ⟨rfl, rfl⟩ ⟨Nat.le_of_ble_eq_true rfl, Nat.le_of_ble_eq_true rfl⟩ ⟨Nat.zero_le _, Nat.zero_le _⟩ 0 7 rfl rfl rfl rfl hl.1 rfl (Nat.le_of_ble_eq_true rfl) dX7_thingOf_2 (fun H locs G => ?_)
  clear er1
  refine lv_if_eq (tgt := 41) hx hb dX7_thingOf_5 (by decide) (fun c3 => ?_) (fun c3 => ?_)
  · have h := it_at c3 h
    exact b_X7_thingOf_41 X K G (lv_sub hl [0, 1, 2, 3] rfl) h
  · have h := if_at c3 h
    refine lv_iload_n hx hb dX7_thingOf_8 rfl (lv_at hl 2 rfl) ?_
    refine lv_i2l hx hb dX7_thingOf_9 rfl ?_
    refine lv_ldc2 (v := -2) hx hb X.2.2.2.1 (X.2.2.2.2.1 _ q_1129) dX7_thingOf_10 ?_
    refine lv_ldc2 (v := -1) hx hb X.2.2.2.1 (X.2.2.2.2.1 _ q_1069) dX7_thingOf_13 ?_
    obtain ⟨r4, u5, er4, h⟩ := bnd_at h
    refine csI (rest := []) X K G (c_X7_in er4) q_972 my_X7_in ⟨rfl, rfl⟩ ⟨Nat.le_of_ble_eq_true rfl, Nat.le_of_ble_eq_true rfl⟩ ⟨Nat.zero_le _, Nat.zero_le _⟩ rfl hl.1 rfl (Nat.le_of_ble_eq_true rfl) dX7_thingOf_16 (fun H locs G => ?_)
    clear er4
    refine lv_if_eq (tgt := 41) hx hb dX7_thingOf_19 (by decide) (fun c6 => ?_) (fun c6 => ?_)
    · have h := it_at c6 h
      exact b_X7_thingOf_41 X K G (lv_sub hl [0, 1, 2, 3] rfl) h
    · have h := if_at c6 h
      refine lv_iload_n hx hb dX7_thingOf_22 rfl (lv_at hl 2 rfl) ?_
      refine lv_iconst (v := -1) hx hb dX7_thingOf_23 (by decide) ?_
      refine lv_icmp_ne (tgt := 35) hx hb dX7_thingOf_24 (by decide) (fun c7 => ?_) (fun c7 => ?_)
      · have h := if_at c7 h
        refine lv_aload_n hx hb dX7_thingOf_35 rfl (lv_at hl 0 rfl) ?_
        refine lv_iload_n hx hb dX7_thingOf_36 rfl (lv_at hl 1 rfl) ?_
        obtain ⟨r8, u9, er8, h⟩ := bnd_at h
        refine cvI (rest := []) X K G (c_X7_steps er8) q_1121 my_X7_steps ⟨rfl, rfl⟩ ⟨Nat.le_of_ble_eq_true rfl, Nat.le_of_ble_eq_true rfl⟩ ⟨Nat.zero_le _, Nat.zero_le _⟩ 0 7 rfl rfl rfl rfl hl.1 rfl (Nat.le_of_ble_eq_true rfl) dX7_thingOf_37 (fun H locs G => ?_)
        clear er8
        obtain ⟨rfl, rfl⟩ := pair_at h
        exact reI X G dX7_thingOf_40
      · have h := it_at c7 h
        refine lv_aload_n hx hb dX7_thingOf_27 rfl (lv_at hl 0 rfl) ?_
        refine lv_iload_n hx hb dX7_thingOf_28 rfl (lv_at hl 1 rfl) ?_
        obtain ⟨r10, u11, er10, h⟩ := bnd_at h
        refine cvI (rest := []) X K G (c_X7_kindOf er10) q_1130 my_X7_kindOf ⟨rfl, rfl⟩ ⟨Nat.le_of_ble_eq_true rfl, Nat.le_of_ble_eq_true rfl⟩ ⟨Nat.zero_le _, Nat.zero_le _⟩ 0 7 rfl rfl rfl rfl hl.1 rfl (Nat.le_of_ble_eq_true rfl) dX7_thingOf_29 (fun H locs G => ?_)
        clear er10
        refine lv_goto (tgt := 40) hx hb dX7_thingOf_32 (by decide) ?_
        obtain ⟨rfl, rfl⟩ := pair_at h
        exact reI X G dX7_thingOf_40
noncomputable def f_X7_turn (a1 : Int32) (a2 : Int32) (u0 : MS) : Option (Int32 × MS) :=
  bnd (f_X7_isThing a1 u0) fun r1 u2 =>
  (if r1 = 0 then
    bnd (f_X7_finds (-1000001 : Int32) u2) fun r4 u5 =>
    some (r4, u5)
  else
    bnd (f_X7_isKind a2 u2) fun r6 u7 =>
    (if r6 = 0 then
      bnd (f_X7_finds (-1000001 : Int32) u7) fun r9 u10 =>
      some (r9, u10)
    else
      bnd (f_X7_becomes ((14 : Int32) + ((26 : Int32) * a1)) a2 u7) fun r11 u12 =>
      some (r11, u12)))
set_option maxRecDepth 100000 in
set_option maxHeartbeats 4000000 in
theorem c_X7_turn {a1 : Int32} {a2 : Int32} {u0 : MS} {r : Int32} {u' : MS} (h : f_X7_turn a1 a2 u0 = some (r, u')) : MI l D cI cZ cQ adK adV A yX7_turn cX7_turn 3 (some .int) { frames := 2, cells := 0, slots := 0, locals := 46 } [.ref (ad 0), .int a1, .int a2] (wM cI ad) u0 r u' := by
  unfold f_X7_turn at h
  refine entI (by decide) (Nat.le_of_ble_eq_true rfl) (fun p e s m below meth c ls X K G hl => ?_)
  have hl : lv_has ls 3 [(0, .ref (ad 0)), (1, .int a1), (2, .int a2)] := hl
  obtain ⟨hx, hb, -⟩ := id X
  generalize hH : s.heap = H at G
  subst hH
  refine lv_aload_n hx hb dX7_turn_0 rfl (lv_at hl 0 rfl) ?_
  refine lv_iload_n hx hb dX7_turn_1 rfl (lv_at hl 1 rfl) ?_
  obtain ⟨r1, u2, er1, h⟩ := bnd_at h
  refine cvI (rest := []) X K G (c_X7_isThing er1) q_1116 my_X7_isThing ⟨rfl, rfl⟩ ⟨Nat.le_of_ble_eq_true rfl, Nat.le_of_ble_eq_true rfl⟩ ⟨Nat.zero_le _, Nat.zero_le _⟩ 0 7 rfl rfl rfl rfl hl.1 rfl (Nat.le_of_ble_eq_true rfl) dX7_turn_2 (fun H locs G => ?_)
  clear er1
  refine lv_if_eq (tgt := 30) hx hb dX7_turn_5 (by decide) (fun c3 => ?_) (fun c3 => ?_)
  · have h := it_at c3 h
    refine lv_aload_n hx hb dX7_turn_30 rfl (lv_at hl 0 rfl) ?_
    refine lv_ldc (v := -1000001) hx hb X.2.2.2.1 (X.2.2.2.2.1 _ q_975) dX7_turn_31 ?_
    obtain ⟨r4, u5, er4, h⟩ := bnd_at h
    refine cvI (rest := []) X K G (c_X7_finds er4) q_976 my_X7_finds ⟨rfl, rfl⟩ ⟨Nat.le_of_ble_eq_true rfl, Nat.le_of_ble_eq_true rfl⟩ ⟨Nat.zero_le _, Nat.zero_le _⟩ 0 7 rfl rfl rfl rfl hl.1 rfl (Nat.le_of_ble_eq_true rfl) dX7_turn_33 (fun H locs G => ?_)
    clear er4
    obtain ⟨rfl, rfl⟩ := pair_at h
    exact reI X G dX7_turn_36
  · have h := if_at c3 h
    refine lv_iload_n hx hb dX7_turn_8 rfl (lv_at hl 2 rfl) ?_
    obtain ⟨r6, u7, er6, h⟩ := bnd_at h
    refine csI (rest := []) X K G (c_X7_isKind er6) q_1107 my_X7_isKind ⟨rfl, rfl⟩ ⟨Nat.le_of_ble_eq_true rfl, Nat.le_of_ble_eq_true rfl⟩ ⟨Nat.zero_le _, Nat.zero_le _⟩ rfl hl.1 rfl (Nat.le_of_ble_eq_true rfl) dX7_turn_9 (fun H locs G => ?_)
    clear er6
    refine lv_if_eq (tgt := 30) hx hb dX7_turn_12 (by decide) (fun c8 => ?_) (fun c8 => ?_)
    · have h := it_at c8 h
      refine lv_aload_n hx hb dX7_turn_30 rfl (lv_at hl 0 rfl) ?_
      refine lv_ldc (v := -1000001) hx hb X.2.2.2.1 (X.2.2.2.2.1 _ q_975) dX7_turn_31 ?_
      obtain ⟨r9, u10, er9, h⟩ := bnd_at h
      refine cvI (rest := []) X K G (c_X7_finds er9) q_976 my_X7_finds ⟨rfl, rfl⟩ ⟨Nat.le_of_ble_eq_true rfl, Nat.le_of_ble_eq_true rfl⟩ ⟨Nat.zero_le _, Nat.zero_le _⟩ 0 7 rfl rfl rfl rfl hl.1 rfl (Nat.le_of_ble_eq_true rfl) dX7_turn_33 (fun H locs G => ?_)
      clear er9
      obtain ⟨rfl, rfl⟩ := pair_at h
      exact reI X G dX7_turn_36
    · have h := if_at c8 h
      refine lv_aload_n hx hb dX7_turn_15 rfl (lv_at hl 0 rfl) ?_
      refine lv_bipush (v := 14) hx hb dX7_turn_16 (by decide) ?_
      refine lv_bipush (v := 26) hx hb dX7_turn_18 (by decide) ?_
      refine lv_iload_n hx hb dX7_turn_20 rfl (lv_at hl 1 rfl) ?_
      refine lv_imul hx hb dX7_turn_21 ?_
      refine lv_iadd hx hb dX7_turn_22 ?_
      refine lv_iload_n hx hb dX7_turn_23 rfl (lv_at hl 2 rfl) ?_
      obtain ⟨r11, u12, er11, h⟩ := bnd_at h
      refine cvI (rest := []) X K G (c_X7_becomes er11) q_1061 my_X7_becomes ⟨rfl, rfl⟩ ⟨Nat.le_of_ble_eq_true rfl, Nat.le_of_ble_eq_true rfl⟩ ⟨Nat.zero_le _, Nat.zero_le _⟩ 0 7 rfl rfl rfl rfl hl.1 rfl (Nat.le_of_ble_eq_true rfl) dX7_turn_24 (fun H locs G => ?_)
      clear er11
      refine lv_goto (tgt := 36) hx hb dX7_turn_27 (by decide) ?_
      obtain ⟨rfl, rfl⟩ := pair_at h
      exact reI X G dX7_turn_36
end WALK_ref1
