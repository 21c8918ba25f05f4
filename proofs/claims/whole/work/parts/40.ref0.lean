section WALK_ref0
variable {p : Program} {l : Launch} {e : Env} {s : State} {m : MethodId} {args : Array Value} {below : List Frame} {meth : Method} {c : Code} {H : Heap} {locs : List Loc} {Q : State → Prop} {D : va_G} {cI cZ cQ : ClassId} {adK adV ad : Nat → Nat} {A : Nat → Prop} {ls : Array Slot}
noncomputable def f_X7_in (a0 : Int64) (a2 : Int64) (a4 : Int64) (u0 : MS) : Option (Int32 × MS) :=
  (if (lg_cmp a0 a2) < 0 then
    some ((0 : Int32), u0)
  else
    (if 0 < (lg_cmp a0 a4) then
      some ((0 : Int32), u0)
    else
      some ((1 : Int32), u0)))
set_option maxRecDepth 100000 in
set_option maxHeartbeats 4000000 in
theorem c_X7_in {a0 : Int64} {a2 : Int64} {a4 : Int64} {u0 : MS} {r : Int32} {u' : MS} (h : f_X7_in a0 a2 a4 u0 = some (r, u')) : MI l D cI cZ cQ adK adV A yX7_in cX7_in 6 (some .boolean) { frames := 0, cells := 0, slots := 0, locals := 0 } [.long a0, .long a2, .long a4] (wM cI ad) u0 r u' := by
  unfold f_X7_in at h
  refine entI (by decide) (Nat.le_of_ble_eq_true rfl) (fun p e s m below meth c ls X K G hl => ?_)
  have hl : lv_has ls 6 [(0, .long a0), (2, .long a2), (4, .long a4)] := hl
  obtain ⟨hx, hb, -⟩ := id X
  generalize hH : s.heap = H at G
  subst hH
  refine lv_lload_n hx hb dX7_in_0 rfl (lv_at hl 0 rfl) ?_
  refine lv_lload_n hx hb dX7_in_1 rfl (lv_at hl 1 rfl) ?_
  refine W.lcmp hx hb dX7_in_2 ?_
  refine lv_if_lt (tgt := 17) hx hb dX7_in_3 (by decide) (fun c1 => ?_) (fun c1 => ?_)
  · have h := it_at c1 h
    refine lv_iconst (v := 0) hx hb dX7_in_17 (by decide) ?_
    obtain ⟨rfl, rfl⟩ := pair_at h
    exact reZ X G (Or.inl rfl) dX7_in_18
  · have h := if_at c1 h
    refine lv_lload_n hx hb dX7_in_6 rfl (lv_at hl 0 rfl) ?_
    refine lv_lload hx hb dX7_in_7 (lv_at hl 2 rfl) ?_
    refine W.lcmp hx hb dX7_in_9 ?_
    refine lv_if_gt (tgt := 17) hx hb dX7_in_10 (by decide) (fun c2 => ?_) (fun c2 => ?_)
    · have h := it_at c2 h
      refine lv_iconst (v := 0) hx hb dX7_in_17 (by decide) ?_
      obtain ⟨rfl, rfl⟩ := pair_at h
      exact reZ X G (Or.inl rfl) dX7_in_18
    · have h := if_at c2 h
      refine lv_iconst (v := 1) hx hb dX7_in_13 (by decide) ?_
      refine lv_goto (tgt := 18) hx hb dX7_in_14 (by decide) ?_
      obtain ⟨rfl, rfl⟩ := pair_at h
      exact reZ X G (Or.inr rfl) dX7_in_18
noncomputable def f_X7_finds (a1 : Int32) (u0 : MS) : Option (Int32 × MS) :=
  nmv ((-1000001 : Int32) - a1) fun x1 =>
  if x1 < 0 ∨ 7 ≤ x1.toNatClampNeg then none else
  nmv (((m_found u0) x1.toNatClampNeg) + (1 : Int32)) fun x3 =>
  if x1 < 0 ∨ 7 ≤ x1.toNatClampNeg then none else
  nmv (mu_found u0 (upd (m_found u0) x1.toNatClampNeg x3)) fun u5 =>
  some (a1, u5)
set_option maxRecDepth 100000 in
set_option maxHeartbeats 4000000 in
theorem c_X7_finds {a1 : Int32} {u0 : MS} {r : Int32} {u' : MS} (h : f_X7_finds a1 u0 = some (r, u')) : MI l D cI cZ cQ adK adV A yX7_finds cX7_finds 2 (some .int) { frames := 0, cells := 0, slots := 0, locals := 0 } [.ref (ad 0), .int a1] (wM cI ad) u0 r u' := by
  unfold f_X7_finds at h
  refine entI (by decide) (Nat.le_of_ble_eq_true rfl) (fun p e s m below meth c ls X K G hl => ?_)
  have hl : lv_has ls 2 [(0, .ref (ad 0)), (1, .int a1)] := hl
  obtain ⟨hx, hb, -⟩ := id X
  generalize hH : s.heap = H at G
  subst hH
  refine lv_aload_n hx hb dX7_finds_0 rfl (lv_at hl 0 rfl) ?_
  refine gM_0_3 X K G q_909 dX7_finds_1 ?_
  refine lv_ldc (v := -1000001) hx hb X.2.2.2.1 (X.2.2.2.2.1 _ q_975) dX7_finds_4 ?_
  refine lv_iload_n hx hb dX7_finds_6 rfl (lv_at hl 1 rfl) ?_
  refine lv_isub hx hb dX7_finds_7 ?_
  refine lv_topi (fun x1 ex1 => ?_)
  have h := nm_at ex1 h
  refine lv_dup2_11 hx hb dX7_finds_8 rfl rfl ?_
  obtain ⟨g2, h⟩ := ck_at h
  refine lM_3 X K G g2 dX7_finds_9 ?_
  refine lv_iconst (v := 1) hx hb dX7_finds_10 (by decide) ?_
  refine lv_iadd hx hb dX7_finds_11 ?_
  refine lv_topi (fun x3 ex3 => ?_)
  have h := nm_at ex3 h
  obtain ⟨g4, h⟩ := ck_at h
  refine aM_3 X K G g4 dX7_finds_12 (fun H locs G => ?_)
  obtain ⟨u5, eu5⟩ : ∃ z : MS, z = mu_found u0 (upd (m_found u0) x1.toNatClampNeg x3) := ⟨_, rfl⟩
  have G : wg D A s.heap H locs (wM cI ad u5) := by rw [eu5]; exact G
  have h := nm_at eu5 h
  clear eu5
  refine lv_iload_n hx hb dX7_finds_13 rfl (lv_at hl 1 rfl) ?_
  obtain ⟨rfl, rfl⟩ := pair_at h
  exact reI X G dX7_finds_14
noncomputable def f_X7_feed_L41_41 (v1 : Int32) (v3 : Int32) (u0 : MS) : Option ((Int32 × Int32 × MS) ⊕ ((Int32 × MS) ⊕ (MS))) :=
  (if v3 < 0 then
    some (.inr (.inr u0))
  else
    nmv ((v1 >>> (((8 : Int32) * v3) &&& 31)) &&& (255 : Int32)) fun x2 =>
    nmv (m_taped u0) fun x3 =>
    if x3 < 0 ∨ 120 ≤ x3.toNatClampNeg then none else
    nmv (mu_tape u0 (upd (m_tape u0) x3.toNatClampNeg x2)) fun u5 =>
    nmv ((m_taped u5) + (1 : Int32)) fun x6 =>
    nmv (mu_taped u5 x6) fun u7 =>
    nmv (v3 + (-1 : Int32)) fun x8 =>
    some (.inl (v1, x8, u7)))
set_option maxRecDepth 100000 in
set_option maxHeartbeats 4000000 in
theorem b_X7_feed_L41_41 (X : cx p s m args meth c cX7_feed 4 RX7 (some .int)) (K : kx D cI cZ cQ adK adV A s s.heap) {v1 : Int32} {v3 : Int32} {u0 : MS} (G : wg D A s.heap H locs (wM cI ad u0)) (hl : lv_has ls 4 [(0, .ref (ad 0)), (1, .int v1), (3, .int v3)]) {q : ((Int32 × Int32 × MS) ⊕ ((Int32 × MS) ⊕ (MS)))} (h : f_X7_feed_L41_41 v1 v3 u0 = some q) (hB : ∀ (v1 : Int32) (v3 : Int32) (u : MS), q = .inl (v1, v3, u) → ∀ (H : Heap) (locs : List Loc) (ls : Array Slot), wg D A s.heap H locs (wM cI ad u) → lv_has ls 4 [(0, .ref (ad 0)), (1, .int v1), (3, .int v3)] → W p l e { frames := 1, cells := 0, slots := 0, locals := 25 } s m args below meth c H locs 0 0 Q (F0 m 41 ls [])) (hX : ∀ (u : MS), q = .inr (.inr u) → ∀ (H : Heap) (locs : List Loc) (ls : Array Slot), wg D A s.heap H locs (wM cI ad u) → lv_has ls 4 [(0, .ref (ad 0))] → W p l e { frames := 1, cells := 0, slots := 0, locals := 25 } s m args below meth c H locs 0 0 Q (F0 m 80 ls [])) (hR : ∀ (r : Int32) (u : MS), q = .inr (.inl (r, u)) → Q = (qI D A (wM cI ad) below args s r u)) : W p l e { frames := 1, cells := 0, slots := 0, locals := 25 } s m args below meth c H locs 0 0 Q (F0 m 41 ls []) := by
  unfold f_X7_feed_L41_41 at h
  obtain ⟨hx, hb, -⟩ := id X
  refine lv_iload_n hx hb dX7_feed_41 rfl (lv_at hl 2 rfl) ?_
  refine lv_if_lt (tgt := 80) hx hb dX7_feed_42 (by decide) (fun c1 => ?_) (fun c1 => ?_)
  · have h := it_at c1 h
    exact hX _ (Option.some.inj h).symm _ _ _ G (lv_sub hl [0] rfl)
  · have h := if_at c1 h
    refine lv_aload_n hx hb dX7_feed_45 rfl (lv_at hl 0 rfl) ?_
    refine gM_0_4 X K G q_910 dX7_feed_46 ?_
    refine lv_aload_n hx hb dX7_feed_49 rfl (lv_at hl 0 rfl) ?_
    refine gM_0_5 X K G q_911 dX7_feed_50 ?_
    refine lv_iload_n hx hb dX7_feed_53 rfl (lv_at hl 1 rfl) ?_
    refine lv_bipush (v := 8) hx hb dX7_feed_54 (by decide) ?_
    refine lv_iload_n hx hb dX7_feed_56 rfl (lv_at hl 2 rfl) ?_
    refine lv_imul hx hb dX7_feed_57 ?_
    refine lv_ishr hx hb dX7_feed_58 ?_
    refine lv_sipush (v := 255) hx hb dX7_feed_59 (by decide) ?_
    refine lv_iand hx hb dX7_feed_62 ?_
    refine lv_topi (fun x2 ex2 => ?_)
    have h := nm_at ex2 h
    refine nm2 (fun x3 ex3 => ?_)
    have h := nm_at ex3 h
    obtain ⟨g4, h⟩ := ck_at h
    refine aM_4 X K G g4 dX7_feed_63 (fun H locs G => ?_)
    obtain ⟨u5, eu5⟩ : ∃ z : MS, z = mu_tape u0 (upd (m_tape u0) x3.toNatClampNeg x2) := ⟨_, rfl⟩
    have G : wg D A s.heap H locs (wM cI ad u5) := by rw [eu5]; exact G
    have h := nm_at eu5 h
    clear eu5
    refine lv_aload_n hx hb dX7_feed_64 rfl (lv_at hl 0 rfl) ?_
    refine lv_dup hx hb dX7_feed_65 rfl ?_
    refine gM_0_5 X K G q_911 dX7_feed_66 ?_
    refine lv_iconst (v := 1) hx hb dX7_feed_69 (by decide) ?_
    refine lv_iadd hx hb dX7_feed_70 ?_
    refine lv_topi (fun x6 ex6 => ?_)
    have h := nm_at ex6 h
    refine pM_0_5 X K G q_911 dX7_feed_71 (fun H locs G => ?_)
    obtain ⟨u7, eu7⟩ : ∃ z : MS, z = mu_taped u5 x6 := ⟨_, rfl⟩
    have G : wg D A s.heap H locs (wM cI ad u7) := by rw [eu7]; exact G
    have h := nm_at eu7 h
    clear eu7
    obtain ⟨x8, ex8⟩ : ∃ z : Int32, z = v3 + (-1 : Int32) := ⟨_, rfl⟩
    have h := nm_at ex8 h
    refine lv_iinc (v := x8) (lv' := [(3, .int x8), (0, .ref (ad 0)), (1, .int v1)]) hx hb dX7_feed_74 hl (k := 2) rfl (by rw [ex8]; rfl) (by decide) rfl (fun ls hl => ?_)
    refine lv_goto (tgt := 41) hx hb dX7_feed_77 (by decide) ?_
    exact hB _ _ _ (Option.some.inj h).symm _ _ _ G (lv_sub hl [1, 2, 0] rfl)
noncomputable def f_X7_feed_L41_41s (q : Int32 × Int32 × MS) : Option ((Int32 × Int32 × MS) ⊕ ((Int32 × MS) ⊕ (MS))) := f_X7_feed_L41_41 q.1 q.2.1 q.2.2
set_option maxRecDepth 100000 in
set_option maxHeartbeats 4000000 in
theorem w_X7_feed_L41_41 (X : cx p s m args meth c cX7_feed 4 RX7 (some .int)) (K : kx D cI cZ cQ adK adV A s s.heap) {e0 : (Int32 × MS) ⊕ (MS)} : ∀ (n : Nat) (v1 : Int32) (v3 : Int32) (u : MS) {H : Heap} {locs : List Loc} {ls : Array Slot}, wh f_X7_feed_L41_41s n (v1, v3, u) = some e0 → wg D A s.heap H locs (wM cI ad u) → lv_has ls 4 [(0, .ref (ad 0)), (1, .int v1), (3, .int v3)] → (∀ (u : MS), e0 = .inr u → ∀ (H : Heap) (locs : List Loc) (ls : Array Slot), wg D A s.heap H locs (wM cI ad u) → lv_has ls 4 [(0, .ref (ad 0))] → W p l e { frames := 1, cells := 0, slots := 0, locals := 25 } s m args below meth c H locs 0 0 Q (F0 m 80 ls [])) → (∀ (r : Int32) (u : MS), e0 = .inl (r, u) → Q = (qI D A (wM cI ad) below args s r u)) → W p l e { frames := 1, cells := 0, slots := 0, locals := 25 } s m args below meth c H locs 0 0 Q (F0 m 41 ls []) := by
  intro n
  induction n with
  | zero => intro v1 v3 u H locs ls h; cases h
  | succ n ih =>
    intro v1 v3 u H locs ls h G hl hX hR
    obtain ⟨q, h1, h2, h3⟩ := wh_at h
    exact b_X7_feed_L41_41 X K G hl (show f_X7_feed_L41_41 v1 v3 u = some q from h1) (fun b0 b1 b2 ee H locs ls G hl => ih b0 b1 b2 (h2 _ ee) G hl hX hR) (fun z0 ee => hX z0 (h3 _ ee).symm) (fun r u ee => hR r u (h3 _ ee).symm)
noncomputable def f_X7_feed (a1 : Int32) (a2 : Int32) (u0 : MS) : Option (Int32 × MS) :=
  bnd (f_X7_in (a2.toInt64) (1 : Int64) (4 : Int64) u0) fun r1 u2 =>
  (if r1 = 0 then
    bnd (f_X7_finds (-1000001 : Int32) u2) fun r11 u12 =>
    some (r11, u12)
  else
    (if ((m_taped u2) + a2) ≤ (120 : Int32) then
      nmv (a2 - (1 : Int32)) fun x5 =>
      bne (wl f_X7_feed_L41_41s (a1, x5, u2)) (fun a => some a) fun b =>
        nmv b fun u8 =>
        some (m_taped u8, u8)
    else
      bnd (f_X7_finds (-1000002 : Int32) u2) fun r9 u10 =>
      some (r9, u10)))
set_option maxRecDepth 100000 in
set_option maxHeartbeats 4000000 in
theorem c_X7_feed {a1 : Int32} {a2 : Int32} {u0 : MS} {r : Int32} {u' : MS} (h : f_X7_feed a1 a2 u0 = some (r, u')) : MI l D cI cZ cQ adK adV A yX7_feed cX7_feed 4 (some .int) { frames := 1, cells := 0, slots := 0, locals := 25 } [.ref (ad 0), .int a1, .int a2] (wM cI ad) u0 r u' := by
  unfold f_X7_feed at h
  refine entI (by decide) (Nat.le_of_ble_eq_true rfl) (fun p e s m below meth c ls X K G hl => ?_)
  have hl : lv_has ls 4 [(0, .ref (ad 0)), (1, .int a1), (2, .int a2)] := hl
  obtain ⟨hx, hb, -⟩ := id X
  generalize hH : s.heap = H at G
  subst hH
  refine lv_iload_n hx hb dX7_feed_0 rfl (lv_at hl 2 rfl) ?_
  refine lv_i2l hx hb dX7_feed_1 rfl ?_
  refine lv_lconst (v := 1) hx hb dX7_feed_2 (by decide) ?_
  refine lv_ldc2 (v := 4) hx hb X.2.2.2.1 (X.2.2.2.2.1 _ q_971) dX7_feed_3 ?_
  obtain ⟨r1, u2, er1, h⟩ := bnd_at h
  refine csI (rest := []) X K G (c_X7_in er1) q_972 my_X7_in ⟨rfl, rfl⟩ ⟨Nat.le_of_ble_eq_true rfl, Nat.le_of_ble_eq_true rfl⟩ ⟨Nat.zero_le _, Nat.zero_le _⟩ rfl hl.1 rfl (Nat.le_of_ble_eq_true rfl) dX7_feed_6 (fun H locs G => ?_)
  clear er1
  refine lv_if_ne (tgt := 19) hx hb dX7_feed_9 (by decide) (fun c3 => ?_) (fun c3 => ?_)
  · have h := if_at c3 h
    refine lv_aload_n hx hb dX7_feed_19 rfl (lv_at hl 0 rfl) ?_
    refine gM_0_5 X K G q_911 dX7_feed_20 ?_
    refine lv_iload_n hx hb dX7_feed_23 rfl (lv_at hl 2 rfl) ?_
    refine lv_iadd hx hb dX7_feed_24 ?_
    refine lv_bipush (v := 120) hx hb dX7_feed_25 (by decide) ?_
    refine lv_icmp_le (tgt := 37) hx hb dX7_feed_27 (by decide) (fun c4 => ?_) (fun c4 => ?_)
    · have h := it_at c4 h
      refine lv_iload_n hx hb dX7_feed_37 rfl (lv_at hl 2 rfl) ?_
      refine lv_iconst (v := 1) hx hb dX7_feed_38 (by decide) ?_
      refine lv_isub hx hb dX7_feed_39 ?_
      refine lv_topi (fun x5 ex5 => ?_)
      have h := nm_at ex5 h
      refine lv_istore_n (lv' := [(3, .int x5), (0, .ref (ad 0)), (1, .int a1), (2, .int a2)]) hx hb dX7_feed_40 rfl hl (by decide) rfl (fun ls hl => ?_)
      obtain ⟨q7, hq7, ha, hb1⟩ := bne_at h
      obtain ⟨n6, hn6⟩ := wl_iff.mp hq7
      refine w_X7_feed_L41_41 X K n6 _ _ _ hn6 G (lv_sub hl [1, 2, 0] rfl) (fun  u8 ee H locs ls G hl => ?_) (fun r u1 ee => by obtain ⟨rfl, rfl⟩ := pair_at (ha _ ee); rfl)
      have h := hb1 _ ee
      clear ee ha hb1 hq7 hn6
      have h := nm_at (x := u8) rfl h
      refine lv_aload_n hx hb dX7_feed_80 rfl (lv_at hl 0 rfl) ?_
      refine gM_0_5 X K G q_911 dX7_feed_81 ?_
      obtain ⟨rfl, rfl⟩ := pair_at h
      exact reI X G dX7_feed_84
    · have h := if_at c4 h
      refine lv_aload_n hx hb dX7_feed_30 rfl (lv_at hl 0 rfl) ?_
      refine lv_ldc (v := -1000002) hx hb X.2.2.2.1 (X.2.2.2.2.1 _ q_980) dX7_feed_31 ?_
      obtain ⟨r9, u10, er9, h⟩ := bnd_at h
      refine cvI (rest := []) X K G (c_X7_finds er9) q_976 my_X7_finds ⟨rfl, rfl⟩ ⟨Nat.le_of_ble_eq_true rfl, Nat.le_of_ble_eq_true rfl⟩ ⟨Nat.zero_le _, Nat.zero_le _⟩ 0 7 rfl rfl rfl rfl hl.1 rfl (Nat.le_of_ble_eq_true rfl) dX7_feed_33 (fun H locs G => ?_)
      clear er9
      obtain ⟨rfl, rfl⟩ := pair_at h
      exact reI X G dX7_feed_36
  · have h := it_at c3 h
    refine lv_aload_n hx hb dX7_feed_12 rfl (lv_at hl 0 rfl) ?_
    refine lv_ldc (v := -1000001) hx hb X.2.2.2.1 (X.2.2.2.2.1 _ q_975) dX7_feed_13 ?_
    obtain ⟨r11, u12, er11, h⟩ := bnd_at h
    refine cvI (rest := []) X K G (c_X7_finds er11) q_976 my_X7_finds ⟨rfl, rfl⟩ ⟨Nat.le_of_ble_eq_true rfl, Nat.le_of_ble_eq_true rfl⟩ ⟨Nat.zero_le _, Nat.zero_le _⟩ 0 7 rfl rfl rfl rfl hl.1 rfl (Nat.le_of_ble_eq_true rfl) dX7_feed_15 (fun H locs G => ?_)
    clear er11
    obtain ⟨rfl, rfl⟩ := pair_at h
    exact reI X G dX7_feed_18
noncomputable def f_X7_wipe (u0 : MS) : Option (Int32 × MS) :=
  nmv (m_taped u0) fun x1 =>
  nmv (mu_taped u0 (0 : Int32)) fun u2 =>
  some (x1, u2)
set_option maxRecDepth 100000 in
set_option maxHeartbeats 4000000 in
theorem c_X7_wipe {u0 : MS} {r : Int32} {u' : MS} (h : f_X7_wipe  u0 = some (r, u')) : MI l D cI cZ cQ adK adV A yX7_wipe cX7_wipe 2 (some .int) { frames := 0, cells := 0, slots := 0, locals := 0 } [.ref (ad 0)] (wM cI ad) u0 r u' := by
  unfold f_X7_wipe at h
  refine entI (by decide) (Nat.le_of_ble_eq_true rfl) (fun p e s m below meth c ls X K G hl => ?_)
  have hl : lv_has ls 2 [(0, .ref (ad 0))] := hl
  obtain ⟨hx, hb, -⟩ := id X
  generalize hH : s.heap = H at G
  subst hH
  refine lv_aload_n hx hb dX7_wipe_0 rfl (lv_at hl 0 rfl) ?_
  refine gM_0_5 X K G q_911 dX7_wipe_1 ?_
  refine lv_topi (fun x1 ex1 => ?_)
  have h := nm_at ex1 h
  refine lv_istore_n (lv' := [(1, .int x1), (0, .ref (ad 0))]) hx hb dX7_wipe_4 rfl hl (by decide) rfl (fun ls hl => ?_)
  refine lv_aload_n hx hb dX7_wipe_5 rfl (lv_at hl 1 rfl) ?_
  refine lv_iconst (v := 0) hx hb dX7_wipe_6 (by decide) ?_
  refine pM_0_5 X K G q_911 dX7_wipe_7 (fun H locs G => ?_)
  obtain ⟨u2, eu2⟩ : ∃ z : MS, z = mu_taped u0 (0 : Int32) := ⟨_, rfl⟩
  have G : wg D A s.heap H locs (wM cI ad u2) := by rw [eu2]; exact G
  have h := nm_at eu2 h
  clear eu2
  refine lv_iload_n hx hb dX7_wipe_10 rfl (lv_at hl 0 rfl) ?_
  obtain ⟨rfl, rfl⟩ := pair_at h
  exact reI X G dX7_wipe_11
noncomputable def f_X7_becomes (a1 : Int32) (a2 : Int32) (u0 : MS) : Option (Int32 × MS) :=
  if a1 < 0 ∨ 247 ≤ a1.toNatClampNeg then none else
  nmv ((m_m u0) a1.toNatClampNeg) fun x2 =>
  if a1 < 0 ∨ 247 ≤ a1.toNatClampNeg then none else
  nmv (mu_m u0 (upd (m_m u0) a1.toNatClampNeg a2)) fun u4 =>
  some (x2, u4)
set_option maxRecDepth 100000 in
set_option maxHeartbeats 4000000 in
theorem c_X7_becomes {a1 : Int32} {a2 : Int32} {u0 : MS} {r : Int32} {u' : MS} (h : f_X7_becomes a1 a2 u0 = some (r, u')) : MI l D cI cZ cQ adK adV A yX7_becomes cX7_becomes 4 (some .int) { frames := 0, cells := 0, slots := 0, locals := 0 } [.ref (ad 0), .int a1, .int a2] (wM cI ad) u0 r u' := by
  unfold f_X7_becomes at h
  refine entI (by decide) (Nat.le_of_ble_eq_true rfl) (fun p e s m below meth c ls X K G hl => ?_)
  have hl : lv_has ls 4 [(0, .ref (ad 0)), (1, .int a1), (2, .int a2)] := hl
  obtain ⟨hx, hb, -⟩ := id X
  generalize hH : s.heap = H at G
  subst hH
  refine lv_aload_n hx hb dX7_becomes_0 rfl (lv_at hl 0 rfl) ?_
  refine gM_0_0 X K G q_906 dX7_becomes_1 ?_
  refine lv_iload_n hx hb dX7_becomes_4 rfl (lv_at hl 1 rfl) ?_
  obtain ⟨g1, h⟩ := ck_at h
  refine lM_1 X K G g1 dX7_becomes_5 ?_
  refine lv_topi (fun x2 ex2 => ?_)
  have h := nm_at ex2 h
  refine lv_istore_n (lv' := [(3, .int x2), (0, .ref (ad 0)), (1, .int a1), (2, .int a2)]) hx hb dX7_becomes_6 rfl hl (by decide) rfl (fun ls hl => ?_)
  refine lv_aload_n hx hb dX7_becomes_7 rfl (lv_at hl 1 rfl) ?_
  refine gM_0_0 X K G q_906 dX7_becomes_8 ?_
  refine lv_iload_n hx hb dX7_becomes_11 rfl (lv_at hl 2 rfl) ?_
  refine lv_iload_n hx hb dX7_becomes_12 rfl (lv_at hl 3 rfl) ?_
  obtain ⟨g3, h⟩ := ck_at h
  refine aM_1 X K G g3 dX7_becomes_13 (fun H locs G => ?_)
  obtain ⟨u4, eu4⟩ : ∃ z : MS, z = mu_m u0 (upd (m_m u0) a1.toNatClampNeg a2) := ⟨_, rfl⟩
  have G : wg D A s.heap H locs (wM cI ad u4) := by rw [eu4]; exact G
  have h := nm_at eu4 h
  clear eu4
  refine lv_iload_n hx hb dX7_becomes_14 rfl (lv_at hl 0 rfl) ?_
  obtain ⟨rfl, rfl⟩ := pair_at h
  exact reI X G dX7_becomes_15
noncomputable def f_X7_round (a1 : Int32) (u0 : MS) : Option (Int32 × MS) :=
  bnd (f_X7_in (a1.toInt64) (1 : Int64) (12 : Int64) u0) fun r1 u2 =>
  (if r1 = 0 then
    bnd (f_X7_finds (-1000001 : Int32) u2) fun r4 u5 =>
    some (r4, u5)
  else
    bnd (f_X7_becomes (0 : Int32) a1 u2) fun r6 u7 =>
    some (r6, u7))
set_option maxRecDepth 100000 in
set_option maxHeartbeats 4000000 in
theorem c_X7_round {a1 : Int32} {u0 : MS} {r : Int32} {u' : MS} (h : f_X7_round a1 u0 = some (r, u')) : MI l D cI cZ cQ adK adV A yX7_round cX7_round 2 (some .int) { frames := 1, cells := 0, slots := 0, locals := 25 } [.ref (ad 0), .int a1] (wM cI ad) u0 r u' := by
  unfold f_X7_round at h
  refine entI (by decide) (Nat.le_of_ble_eq_true rfl) (fun p e s m below meth c ls X K G hl => ?_)
  have hl : lv_has ls 2 [(0, .ref (ad 0)), (1, .int a1)] := hl
  obtain ⟨hx, hb, -⟩ := id X
  generalize hH : s.heap = H at G
  subst hH
  refine lv_iload_n hx hb dX7_round_0 rfl (lv_at hl 1 rfl) ?_
  refine lv_i2l hx hb dX7_round_1 rfl ?_
  refine lv_lconst (v := 1) hx hb dX7_round_2 (by decide) ?_
  refine lv_ldc2 (v := 12) hx hb X.2.2.2.1 (X.2.2.2.2.1 _ q_1060) dX7_round_3 ?_
  obtain ⟨r1, u2, er1, h⟩ := bnd_at h
  refine csI (rest := []) X K G (c_X7_in er1) q_972 my_X7_in ⟨rfl, rfl⟩ ⟨Nat.le_of_ble_eq_true rfl, Nat.le_of_ble_eq_true rfl⟩ ⟨Nat.zero_le _, Nat.zero_le _⟩ rfl hl.1 rfl (Nat.le_of_ble_eq_true rfl) dX7_round_6 (fun H locs G => ?_)
  clear er1
  refine lv_if_eq (tgt := 21) hx hb dX7_round_9 (by decide) (fun c3 => ?_) (fun c3 => ?_)
  · have h := it_at c3 h
    refine lv_aload_n hx hb dX7_round_21 rfl (lv_at hl 0 rfl) ?_
    refine lv_ldc (v := -1000001) hx hb X.2.2.2.1 (X.2.2.2.2.1 _ q_975) dX7_round_22 ?_
    obtain ⟨r4, u5, er4, h⟩ := bnd_at h
    refine cvI (rest := []) X K G (c_X7_finds er4) q_976 my_X7_finds ⟨rfl, rfl⟩ ⟨Nat.le_of_ble_eq_true rfl, Nat.le_of_ble_eq_true rfl⟩ ⟨Nat.zero_le _, Nat.zero_le _⟩ 0 7 rfl rfl rfl rfl hl.1 rfl (Nat.le_of_ble_eq_true rfl) dX7_round_24 (fun H locs G => ?_)
    clear er4
    obtain ⟨rfl, rfl⟩ := pair_at h
    exact reI X G dX7_round_27
  · have h := if_at c3 h
    refine lv_aload_n hx hb dX7_round_12 rfl (lv_at hl 0 rfl) ?_
    refine lv_iconst (v := 0) hx hb dX7_round_13 (by decide) ?_
    refine lv_iload_n hx hb dX7_round_14 rfl (lv_at hl 1 rfl) ?_
    obtain ⟨r6, u7, er6, h⟩ := bnd_at h
    refine cvI (rest := []) X K G (c_X7_becomes er6) q_1061 my_X7_becomes ⟨rfl, rfl⟩ ⟨Nat.le_of_ble_eq_true rfl, Nat.le_of_ble_eq_true rfl⟩ ⟨Nat.zero_le _, Nat.zero_le _⟩ 0 7 rfl rfl rfl rfl hl.1 rfl (Nat.le_of_ble_eq_true rfl) dX7_round_15 (fun H locs G => ?_)
    clear er6
    refine lv_goto (tgt := 27) hx hb dX7_round_18 (by decide) ?_
    obtain ⟨rfl, rfl⟩ := pair_at h
    exact reI X G dX7_round_27
noncomputable def f_X7_near (a1 : Int32) (u0 : MS) : Option (Int32 × MS) :=
  bnd (f_X7_in (a1.toInt64) (-1 : Int64) (11 : Int64) u0) fun r1 u2 =>
  (if r1 = 0 then
    bnd (f_X7_finds (-1000001 : Int32) u2) fun r4 u5 =>
    some (r4, u5)
  else
    bnd (f_X7_becomes (1 : Int32) a1 u2) fun r6 u7 =>
    some (r6, u7))
set_option maxRecDepth 100000 in
set_option maxHeartbeats 4000000 in
theorem c_X7_near {a1 : Int32} {u0 : MS} {r : Int32} {u' : MS} (h : f_X7_near a1 u0 = some (r, u')) : MI l D cI cZ cQ adK adV A yX7_near cX7_near 2 (some .int) { frames := 1, cells := 0, slots := 0, locals := 25 } [.ref (ad 0), .int a1] (wM cI ad) u0 r u' := by
  unfold f_X7_near at h
  refine entI (by decide) (Nat.le_of_ble_eq_true rfl) (fun p e s m below meth c ls X K G hl => ?_)
  have hl : lv_has ls 2 [(0, .ref (ad 0)), (1, .int a1)] := hl
  obtain ⟨hx, hb, -⟩ := id X
  generalize hH : s.heap = H at G
  subst hH
  refine lv_iload_n hx hb dX7_near_0 rfl (lv_at hl 1 rfl) ?_
  refine lv_i2l hx hb dX7_near_1 rfl ?_
  refine lv_ldc2 (v := -1) hx hb X.2.2.2.1 (X.2.2.2.2.1 _ q_1069) dX7_near_2 ?_
  refine lv_ldc2 (v := 11) hx hb X.2.2.2.1 (X.2.2.2.2.1 _ q_1070) dX7_near_5 ?_
  obtain ⟨r1, u2, er1, h⟩ := bnd_at h
  refine csI (rest := []) X K G (c_X7_in er1) q_972 my_X7_in ⟨rfl, rfl⟩ ⟨Nat.le_of_ble_eq_true rfl, Nat.le_of_ble_eq_true rfl⟩ ⟨Nat.zero_le _, Nat.zero_le _⟩ rfl hl.1 rfl (Nat.le_of_ble_eq_true rfl) dX7_near_8 (fun H locs G => ?_)
  clear er1
  refine lv_if_eq (tgt := 23) hx hb dX7_near_11 (by decide) (fun c3 => ?_) (fun c3 => ?_)
  · have h := it_at c3 h
    refine lv_aload_n hx hb dX7_near_23 rfl (lv_at hl 0 rfl) ?_
    refine lv_ldc (v := -1000001) hx hb X.2.2.2.1 (X.2.2.2.2.1 _ q_975) dX7_near_24 ?_
    obtain ⟨r4, u5, er4, h⟩ := bnd_at h
    refine cvI (rest := []) X K G (c_X7_finds er4) q_976 my_X7_finds ⟨rfl, rfl⟩ ⟨Nat.le_of_ble_eq_true rfl, Nat.le_of_ble_eq_true rfl⟩ ⟨Nat.zero_le _, Nat.zero_le _⟩ 0 7 rfl rfl rfl rfl hl.1 rfl (Nat.le_of_ble_eq_true rfl) dX7_near_26 (fun H locs G => ?_)
    clear er4
    obtain ⟨rfl, rfl⟩ := pair_at h
    exact reI X G dX7_near_29
  · have h := if_at c3 h
    refine lv_aload_n hx hb dX7_near_14 rfl (lv_at hl 0 rfl) ?_
    refine lv_iconst (v := 1) hx hb dX7_near_15 (by decide) ?_
    refine lv_iload_n hx hb dX7_near_16 rfl (lv_at hl 1 rfl) ?_
    obtain ⟨r6, u7, er6, h⟩ := bnd_at h
    refine cvI (rest := []) X K G (c_X7_becomes er6) q_1061 my_X7_becomes ⟨rfl, rfl⟩ ⟨Nat.le_of_ble_eq_true rfl, Nat.le_of_ble_eq_true rfl⟩ ⟨Nat.zero_le _, Nat.zero_le _⟩ 0 7 rfl rfl rfl rfl hl.1 rfl (Nat.le_of_ble_eq_true rfl) dX7_near_17 (fun H locs G => ?_)
    clear er6
    refine lv_goto (tgt := 29) hx hb dX7_near_20 (by decide) ?_
    obtain ⟨rfl, rfl⟩ := pair_at h
    exact reI X G dX7_near_29
noncomputable def f_X7_tool (a1 : Int32) (u0 : MS) : Option (Int32 × MS) :=
  bnd (f_X7_in (a1.toInt64) (0 : Int64) (4095 : Int64) u0) fun r1 u2 =>
  (if r1 = 0 then
    bnd (f_X7_finds (-1000001 : Int32) u2) fun r12 u13 =>
    some (r12, u13)
  else
    (if ((m_m u2) (2 : Int32).toNatClampNeg) = (8 : Int32) then
      bnd (f_X7_finds (-1000002 : Int32) u2) fun r10 u11 =>
      some (r10, u11)
    else
      nmv ((6 : Int32) + ((m_m u2) (2 : Int32).toNatClampNeg)) fun x5 =>
      if x5 < 0 ∨ 247 ≤ x5.toNatClampNeg then none else
      nmv (mu_m u2 (upd (m_m u2) x5.toNatClampNeg a1)) fun u7 =>
      nmv (((m_m u7) (2 : Int32).toNatClampNeg) + (1 : Int32)) fun x8 =>
      nmv (mu_m u7 (upd (m_m u7) (2 : Int32).toNatClampNeg x8)) fun u9 =>
      some (((m_m u9) (2 : Int32).toNatClampNeg) - (1 : Int32), u9)))
set_option maxRecDepth 100000 in
set_option maxHeartbeats 4000000 in
theorem c_X7_tool {a1 : Int32} {u0 : MS} {r : Int32} {u' : MS} (h : f_X7_tool a1 u0 = some (r, u')) : MI l D cI cZ cQ adK adV A yX7_tool cX7_tool 2 (some .int) { frames := 1, cells := 0, slots := 0, locals := 25 } [.ref (ad 0), .int a1] (wM cI ad) u0 r u' := by
  unfold f_X7_tool at h
  refine entI (by decide) (Nat.le_of_ble_eq_true rfl) (fun p e s m below meth c ls X K G hl => ?_)
  have hl : lv_has ls 2 [(0, .ref (ad 0)), (1, .int a1)] := hl
  obtain ⟨hx, hb, -⟩ := id X
  generalize hH : s.heap = H at G
  subst hH
  refine lv_iload_n hx hb dX7_tool_0 rfl (lv_at hl 1 rfl) ?_
  refine lv_i2l hx hb dX7_tool_1 rfl ?_
  refine lv_lconst (v := 0) hx hb dX7_tool_2 (by decide) ?_
  refine lv_ldc2 (v := 4095) hx hb X.2.2.2.1 (X.2.2.2.2.1 _ q_1075) dX7_tool_3 ?_
  obtain ⟨r1, u2, er1, h⟩ := bnd_at h
  refine csI (rest := []) X K G (c_X7_in er1) q_972 my_X7_in ⟨rfl, rfl⟩ ⟨Nat.le_of_ble_eq_true rfl, Nat.le_of_ble_eq_true rfl⟩ ⟨Nat.zero_le _, Nat.zero_le _⟩ rfl hl.1 rfl (Nat.le_of_ble_eq_true rfl) dX7_tool_6 (fun H locs G => ?_)
  clear er1
  refine lv_if_ne (tgt := 19) hx hb dX7_tool_9 (by decide) (fun c3 => ?_) (fun c3 => ?_)
  · have h := if_at c3 h
    refine lv_aload_n hx hb dX7_tool_19 rfl (lv_at hl 0 rfl) ?_
    refine gM_0_0 X K G q_906 dX7_tool_20 ?_
    refine lv_iconst (v := 2) hx hb dX7_tool_23 (by decide) ?_
    refine lM_1 X K G (by decide) dX7_tool_24 ?_
    refine lv_bipush (v := 8) hx hb dX7_tool_25 (by decide) ?_
    refine lv_icmp_ne (tgt := 37) hx hb dX7_tool_27 (by decide) (fun c4 => ?_) (fun c4 => ?_)
    · have h := if_at c4 h
      refine lv_aload_n hx hb dX7_tool_37 rfl (lv_at hl 0 rfl) ?_
      refine gM_0_0 X K G q_906 dX7_tool_38 ?_
      refine lv_bipush (v := 6) hx hb dX7_tool_41 (by decide) ?_
      refine lv_aload_n hx hb dX7_tool_43 rfl (lv_at hl 0 rfl) ?_
      refine gM_0_0 X K G q_906 dX7_tool_44 ?_
      refine lv_iconst (v := 2) hx hb dX7_tool_47 (by decide) ?_
      refine lM_1 X K G (by decide) dX7_tool_48 ?_
      refine lv_iadd hx hb dX7_tool_49 ?_
      refine lv_iload_n hx hb dX7_tool_50 rfl (lv_at hl 1 rfl) ?_
      refine nm2 (fun x5 ex5 => ?_)
      have h := nm_at ex5 h
      obtain ⟨g6, h⟩ := ck_at h
      refine aM_1 X K G g6 dX7_tool_51 (fun H locs G => ?_)
      obtain ⟨u7, eu7⟩ : ∃ z : MS, z = mu_m u2 (upd (m_m u2) x5.toNatClampNeg a1) := ⟨_, rfl⟩
      have G : wg D A s.heap H locs (wM cI ad u7) := by rw [eu7]; exact G
      have h := nm_at eu7 h
      clear eu7
      refine lv_aload_n hx hb dX7_tool_52 rfl (lv_at hl 0 rfl) ?_
      refine gM_0_0 X K G q_906 dX7_tool_53 ?_
      refine lv_iconst (v := 2) hx hb dX7_tool_56 (by decide) ?_
      refine lv_dup2_11 hx hb dX7_tool_57 rfl rfl ?_
      refine lM_1 X K G (by decide) dX7_tool_58 ?_
      refine lv_iconst (v := 1) hx hb dX7_tool_59 (by decide) ?_
      refine lv_iadd hx hb dX7_tool_60 ?_
      refine lv_topi (fun x8 ex8 => ?_)
      have h := nm_at ex8 h
      refine aM_1 X K G (by decide) dX7_tool_61 (fun H locs G => ?_)
      obtain ⟨u9, eu9⟩ : ∃ z : MS, z = mu_m u7 (upd (m_m u7) (2 : Int32).toNatClampNeg x8) := ⟨_, rfl⟩
      have G : wg D A s.heap H locs (wM cI ad u9) := by rw [eu9]; exact G
      have h := nm_at eu9 h
      clear eu9
      refine lv_aload_n hx hb dX7_tool_62 rfl (lv_at hl 0 rfl) ?_
      refine gM_0_0 X K G q_906 dX7_tool_63 ?_
      refine lv_iconst (v := 2) hx hb dX7_tool_66 (by decide) ?_
      refine lM_1 X K G (by decide) dX7_tool_67 ?_
      refine lv_iconst (v := 1) hx hb dX7_tool_68 (by decide) ?_
      refine lv_isub hx hb dX7_tool_69 ?_
      obtain ⟨rfl, rfl⟩ := pair_at h
      exact reI X G dX7_tool_70
    · have h := it_at c4 h
      refine lv_aload_n hx hb dX7_tool_30 rfl (lv_at hl 0 rfl) ?_
      refine lv_ldc (v := -1000002) hx hb X.2.2.2.1 (X.2.2.2.2.1 _ q_980) dX7_tool_31 ?_
      obtain ⟨r10, u11, er10, h⟩ := bnd_at h
      refine cvI (rest := []) X K G (c_X7_finds er10) q_976 my_X7_finds ⟨rfl, rfl⟩ ⟨Nat.le_of_ble_eq_true rfl, Nat.le_of_ble_eq_true rfl⟩ ⟨Nat.zero_le _, Nat.zero_le _⟩ 0 7 rfl rfl rfl rfl hl.1 rfl (Nat.le_of_ble_eq_true rfl) dX7_tool_33 (fun H locs G => ?_)
      clear er10
      obtain ⟨rfl, rfl⟩ := pair_at h
      exact reI X G dX7_tool_36
  · have h := it_at c3 h
    refine lv_aload_n hx hb dX7_tool_12 rfl (lv_at hl 0 rfl) ?_
    refine lv_ldc (v := -1000001) hx hb X.2.2.2.1 (X.2.2.2.2.1 _ q_975) dX7_tool_13 ?_
    obtain ⟨r12, u13, er12, h⟩ := bnd_at h
    refine cvI (rest := []) X K G (c_X7_finds er12) q_976 my_X7_finds ⟨rfl, rfl⟩ ⟨Nat.le_of_ble_eq_true rfl, Nat.le_of_ble_eq_true rfl⟩ ⟨Nat.zero_le _, Nat.zero_le _⟩ 0 7 rfl rfl rfl rfl hl.1 rfl (Nat.le_of_ble_eq_true rfl) dX7_tool_15 (fun H locs G => ?_)
    clear er12
    obtain ⟨rfl, rfl⟩ := pair_at h
    exact reI X G dX7_tool_18
noncomputable def f_X7_isTool (a1 : Int32) (u0 : MS) : Option (Int32 × MS) :=
  bnd (f_X7_in (a1.toInt64) (0 : Int64) ((((m_m u0) (2 : Int32).toNatClampNeg) - (1 : Int32)).toInt64) u0) fun r1 u2 =>
  if ¬ (r1 = 0 ∨ r1 = 1) then none else
  some (r1, u2)
set_option maxRecDepth 100000 in
set_option maxHeartbeats 4000000 in
theorem c_X7_isTool {a1 : Int32} {u0 : MS} {r : Int32} {u' : MS} (h : f_X7_isTool a1 u0 = some (r, u')) : MI l D cI cZ cQ adK adV A yX7_isTool cX7_isTool 2 (some .boolean) { frames := 1, cells := 0, slots := 0, locals := 25 } [.ref (ad 0), .int a1] (wM cI ad) u0 r u' := by
  unfold f_X7_isTool at h
  refine entI (by decide) (Nat.le_of_ble_eq_true rfl) (fun p e s m below meth c ls X K G hl => ?_)
  have hl : lv_has ls 2 [(0, .ref (ad 0)), (1, .int a1)] := hl
  obtain ⟨hx, hb, -⟩ := id X
  generalize hH : s.heap = H at G
  subst hH
  refine lv_iload_n hx hb dX7_isTool_0 rfl (lv_at hl 1 rfl) ?_
  refine lv_i2l hx hb dX7_isTool_1 rfl ?_
  refine lv_lconst (v := 0) hx hb dX7_isTool_2 (by decide) ?_
  refine lv_aload_n hx hb dX7_isTool_3 rfl (lv_at hl 0 rfl) ?_
  refine gM_0_0 X K G q_906 dX7_isTool_4 ?_
  refine lv_iconst (v := 2) hx hb dX7_isTool_7 (by decide) ?_
  refine lM_1 X K G (by decide) dX7_isTool_8 ?_
  refine lv_iconst (v := 1) hx hb dX7_isTool_9 (by decide) ?_
  refine lv_isub hx hb dX7_isTool_10 ?_
  refine lv_i2l hx hb dX7_isTool_11 rfl ?_
  obtain ⟨r1, u2, er1, h⟩ := bnd_at h
  refine csI (rest := []) X K G (c_X7_in er1) q_972 my_X7_in ⟨rfl, rfl⟩ ⟨Nat.le_of_ble_eq_true rfl, Nat.le_of_ble_eq_true rfl⟩ ⟨Nat.zero_le _, Nat.zero_le _⟩ rfl hl.1 rfl (Nat.le_of_ble_eq_true rfl) dX7_isTool_12 (fun H locs G => ?_)
  clear er1
  obtain ⟨g3, h⟩ := ck_at h
  obtain ⟨rfl, rfl⟩ := pair_at h
  exact reZ X G (Decidable.not_not.mp g3) dX7_isTool_15
noncomputable def f_X7_days (a1 : Int32) (a2 : Int32) (u0 : MS) : Option (Int32 × MS) :=
  bnd (f_X7_isTool a1 u0) fun r1 u2 =>
  (if r1 = 0 then
    bnd (f_X7_finds (-1000001 : Int32) u2) fun r4 u5 =>
    some (r4, u5)
  else
    bnd (f_X7_in (a2.toInt64) (0 : Int64) (4095 : Int64) u2) fun r6 u7 =>
    (if r6 = 0 then
      bnd (f_X7_finds (-1000001 : Int32) u7) fun r9 u10 =>
      some (r9, u10)
    else
      bnd (f_X7_becomes ((6 : Int32) + a1) a2 u7) fun r11 u12 =>
      some (r11, u12)))
set_option maxRecDepth 100000 in
set_option maxHeartbeats 4000000 in
theorem c_X7_days {a1 : Int32} {a2 : Int32} {u0 : MS} {r : Int32} {u' : MS} (h : f_X7_days a1 a2 u0 = some (r, u')) : MI l D cI cZ cQ adK adV A yX7_days cX7_days 3 (some .int) { frames := 2, cells := 0, slots := 0, locals := 46 } [.ref (ad 0), .int a1, .int a2] (wM cI ad) u0 r u' := by
  unfold f_X7_days at h
  refine entI (by decide) (Nat.le_of_ble_eq_true rfl) (fun p e s m below meth c ls X K G hl => ?_)
  have hl : lv_has ls 3 [(0, .ref (ad 0)), (1, .int a1), (2, .int a2)] := hl
  obtain ⟨hx, hb, -⟩ := id X
  generalize hH : s.heap = H at G
  subst hH
  refine lv_aload_n hx hb dX7_days_0 rfl (lv_at hl 0 rfl) ?_
  refine lv_iload_n hx hb dX7_days_1 rfl (lv_at hl 1 rfl) ?_
  obtain ⟨r1, u2, er1, h⟩ := bnd_at h
  refine cvI (rest := []) X K G (c_X7_isTool er1) q_1080 my_X7_isTool ⟨rfl, rfl⟩ ⟨Nat.le_of_ble_eq_true rfl, Nat.le_of_ble_eq_true rfl⟩ ⟨Nat.zero_le _, Nat.zero_le _⟩ 0 7 rfl rfl rfl rfl hl.1 rfl (Nat.le_of_ble_eq_true rfl) dX7_days_2 (fun H locs G => ?_)
  clear er1
  refine lv_if_eq (tgt := 32) hx hb dX7_days_5 (by decide) (fun c3 => ?_) (fun c3 => ?_)
  · have h := it_at c3 h
    refine lv_aload_n hx hb dX7_days_32 rfl (lv_at hl 0 rfl) ?_
    refine lv_ldc (v := -1000001) hx hb X.2.2.2.1 (X.2.2.2.2.1 _ q_975) dX7_days_33 ?_
    obtain ⟨r4, u5, er4, h⟩ := bnd_at h
    refine cvI (rest := []) X K G (c_X7_finds er4) q_976 my_X7_finds ⟨rfl, rfl⟩ ⟨Nat.le_of_ble_eq_true rfl, Nat.le_of_ble_eq_true rfl⟩ ⟨Nat.zero_le _, Nat.zero_le _⟩ 0 7 rfl rfl rfl rfl hl.1 rfl (Nat.le_of_ble_eq_true rfl) dX7_days_35 (fun H locs G => ?_)
    clear er4
    obtain ⟨rfl, rfl⟩ := pair_at h
    exact reI X G dX7_days_38
  · have h := if_at c3 h
    refine lv_iload_n hx hb dX7_days_8 rfl (lv_at hl 2 rfl) ?_
    refine lv_i2l hx hb dX7_days_9 rfl ?_
    refine lv_lconst (v := 0) hx hb dX7_days_10 (by decide) ?_
    refine lv_ldc2 (v := 4095) hx hb X.2.2.2.1 (X.2.2.2.2.1 _ q_1075) dX7_days_11 ?_
    obtain ⟨r6, u7, er6, h⟩ := bnd_at h
    refine csI (rest := []) X K G (c_X7_in er6) q_972 my_X7_in ⟨rfl, rfl⟩ ⟨Nat.le_of_ble_eq_true rfl, Nat.le_of_ble_eq_true rfl⟩ ⟨Nat.zero_le _, Nat.zero_le _⟩ rfl hl.1 rfl (Nat.le_of_ble_eq_true rfl) dX7_days_14 (fun H locs G => ?_)
    clear er6
    refine lv_if_eq (tgt := 32) hx hb dX7_days_17 (by decide) (fun c8 => ?_) (fun c8 => ?_)
    · have h := it_at c8 h
      refine lv_aload_n hx hb dX7_days_32 rfl (lv_at hl 0 rfl) ?_
      refine lv_ldc (v := -1000001) hx hb X.2.2.2.1 (X.2.2.2.2.1 _ q_975) dX7_days_33 ?_
      obtain ⟨r9, u10, er9, h⟩ := bnd_at h
      refine cvI (rest := []) X K G (c_X7_finds er9) q_976 my_X7_finds ⟨rfl, rfl⟩ ⟨Nat.le_of_ble_eq_true rfl, Nat.le_of_ble_eq_true rfl⟩ ⟨Nat.zero_le _, Nat.zero_le _⟩ 0 7 rfl rfl rfl rfl hl.1 rfl (Nat.le_of_ble_eq_true rfl) dX7_days_35 (fun H locs G => ?_)
      clear er9
      obtain ⟨rfl, rfl⟩ := pair_at h
      exact reI X G dX7_days_38
    · have h := if_at c8 h
      refine lv_aload_n hx hb dX7_days_20 rfl (lv_at hl 0 rfl) ?_
      refine lv_bipush (v := 6) hx hb dX7_days_21 (by decide) ?_
      refine lv_iload_n hx hb dX7_days_23 rfl (lv_at hl 1 rfl) ?_
      refine lv_iadd hx hb dX7_days_24 ?_
      refine lv_iload_n hx hb dX7_days_25 rfl (lv_at hl 2 rfl) ?_
      obtain ⟨r11, u12, er11, h⟩ := bnd_at h
      refine cvI (rest := []) X K G (c_X7_becomes er11) q_1061 my_X7_becomes ⟨rfl, rfl⟩ ⟨Nat.le_of_ble_eq_true rfl, Nat.le_of_ble_eq_true rfl⟩ ⟨Nat.zero_le _, Nat.zero_le _⟩ 0 7 rfl rfl rfl rfl hl.1 rfl (Nat.le_of_ble_eq_true rfl) dX7_days_26 (fun H locs G => ?_)
      clear er11
      refine lv_goto (tgt := 38) hx hb dX7_days_29 (by decide) ?_
      obtain ⟨rfl, rfl⟩ := pair_at h
      exact reI X G dX7_days_38
noncomputable def f_X7_isDay (a0 : Int32) (u0 : MS) : Option (Int32 × MS) :=
  bnd (f_X7_in (a0.toInt64) (0 : Int64) (999 : Int64) u0) fun r1 u2 =>
  if ¬ (r1 = 0 ∨ r1 = 1) then none else
  some (r1, u2)
set_option maxRecDepth 100000 in
set_option maxHeartbeats 4000000 in
theorem c_X7_isDay {a0 : Int32} {u0 : MS} {r : Int32} {u' : MS} (h : f_X7_isDay a0 u0 = some (r, u')) : MI l D cI cZ cQ adK adV A yX7_isDay cX7_isDay 1 (some .boolean) { frames := 1, cells := 0, slots := 0, locals := 25 } [.int a0] (wM cI ad) u0 r u' := by
  unfold f_X7_isDay at h
  refine entI (by decide) (Nat.le_of_ble_eq_true rfl) (fun p e s m below meth c ls X K G hl => ?_)
  have hl : lv_has ls 1 [(0, .int a0)] := hl
  obtain ⟨hx, hb, -⟩ := id X
  generalize hH : s.heap = H at G
  subst hH
  refine lv_iload_n hx hb dX7_isDay_0 rfl (lv_at hl 0 rfl) ?_
  refine lv_i2l hx hb dX7_isDay_1 rfl ?_
  refine lv_lconst (v := 0) hx hb dX7_isDay_2 (by decide) ?_
  refine lv_ldc2 (v := 999) hx hb X.2.2.2.1 (X.2.2.2.2.1 _ q_1091) dX7_isDay_3 ?_
  obtain ⟨r1, u2, er1, h⟩ := bnd_at h
  refine csI (rest := []) X K G (c_X7_in er1) q_972 my_X7_in ⟨rfl, rfl⟩ ⟨Nat.le_of_ble_eq_true rfl, Nat.le_of_ble_eq_true rfl⟩ ⟨Nat.zero_le _, Nat.zero_le _⟩ rfl hl.1 rfl (Nat.le_of_ble_eq_true rfl) dX7_isDay_6 (fun H locs G => ?_)
  clear er1
  obtain ⟨g3, h⟩ := ck_at h
  obtain ⟨rfl, rfl⟩ := pair_at h
  exact reZ X G (Decidable.not_not.mp g3) dX7_isDay_9
noncomputable def f_X7_has (a0 : Int32) (a1 : Int32) (u0 : MS) : Option (Int32 × MS) :=
  (if ((a0 >>> (a1 &&& 31)) &&& (1 : Int32)) = (1 : Int32) then
    some ((1 : Int32), u0)
  else
    some ((0 : Int32), u0))
set_option maxRecDepth 100000 in
set_option maxHeartbeats 4000000 in
theorem c_X7_has {a0 : Int32} {a1 : Int32} {u0 : MS} {r : Int32} {u' : MS} (h : f_X7_has a0 a1 u0 = some (r, u')) : MI l D cI cZ cQ adK adV A yX7_has cX7_has 2 (some .boolean) { frames := 0, cells := 0, slots := 0, locals := 0 } [.int a0, .int a1] (wM cI ad) u0 r u' := by
  unfold f_X7_has at h
  refine entI (by decide) (Nat.le_of_ble_eq_true rfl) (fun p e s m below meth c ls X K G hl => ?_)
  have hl : lv_has ls 2 [(0, .int a0), (1, .int a1)] := hl
  obtain ⟨hx, hb, -⟩ := id X
  generalize hH : s.heap = H at G
  subst hH
  refine lv_iload_n hx hb dX7_has_0 rfl (lv_at hl 0 rfl) ?_
  refine lv_iload_n hx hb dX7_has_1 rfl (lv_at hl 1 rfl) ?_
  refine lv_ishr hx hb dX7_has_2 ?_
  refine lv_iconst (v := 1) hx hb dX7_has_3 (by decide) ?_
  refine lv_iand hx hb dX7_has_4 ?_
  refine lv_iconst (v := 1) hx hb dX7_has_5 (by decide) ?_
  refine lv_icmp_ne (tgt := 13) hx hb dX7_has_6 (by decide) (fun c1 => ?_) (fun c1 => ?_)
  · have h := if_at c1 h
    refine lv_iconst (v := 0) hx hb dX7_has_13 (by decide) ?_
    obtain ⟨rfl, rfl⟩ := pair_at h
    exact reZ X G (Or.inl rfl) dX7_has_14
  · have h := it_at c1 h
    refine lv_iconst (v := 1) hx hb dX7_has_9 (by decide) ?_
    refine lv_goto (tgt := 14) hx hb dX7_has_10 (by decide) ?_
    obtain ⟨rfl, rfl⟩ := pair_at h
    exact reZ X G (Or.inr rfl) dX7_has_14
noncomputable def f_X7_mayBe (a1 : Int32) (a2 : Int32) (u0 : MS) : Option (Int32 × MS) :=
  nmv ((6 : Int32) + a1) fun x1 =>
  if x1 < 0 ∨ 247 ≤ x1.toNatClampNeg then none else
  nmv ((m_m u0) (0 : Int32).toNatClampNeg) fun x3 =>
  if x3 = 0 then none else
  bnd (f_X7_has ((m_m u0) x1.toNatClampNeg) (a2 - a2 / x3 * x3) u0) fun r4 u5 =>
  if ¬ (r4 = 0 ∨ r4 = 1) then none else
  some (r4, u5)
set_option maxRecDepth 100000 in
set_option maxHeartbeats 4000000 in
theorem c_X7_mayBe {a1 : Int32} {a2 : Int32} {u0 : MS} {r : Int32} {u' : MS} (h : f_X7_mayBe a1 a2 u0 = some (r, u')) : MI l D cI cZ cQ adK adV A yX7_mayBe cX7_mayBe 3 (some .boolean) { frames := 1, cells := 0, slots := 0, locals := 21 } [.ref (ad 0), .int a1, .int a2] (wM cI ad) u0 r u' := by
  unfold f_X7_mayBe at h
  refine entI (by decide) (Nat.le_of_ble_eq_true rfl) (fun p e s m below meth c ls X K G hl => ?_)
  have hl : lv_has ls 3 [(0, .ref (ad 0)), (1, .int a1), (2, .int a2)] := hl
  obtain ⟨hx, hb, -⟩ := id X
  generalize hH : s.heap = H at G
  subst hH
  refine lv_aload_n hx hb dX7_mayBe_0 rfl (lv_at hl 0 rfl) ?_
  refine gM_0_0 X K G q_906 dX7_mayBe_1 ?_
  refine lv_bipush (v := 6) hx hb dX7_mayBe_4 (by decide) ?_
  refine lv_iload_n hx hb dX7_mayBe_6 rfl (lv_at hl 1 rfl) ?_
  refine lv_iadd hx hb dX7_mayBe_7 ?_
  refine lv_topi (fun x1 ex1 => ?_)
  have h := nm_at ex1 h
  obtain ⟨g2, h⟩ := ck_at h
  refine lM_1 X K G g2 dX7_mayBe_8 ?_
  refine lv_iload_n hx hb dX7_mayBe_9 rfl (lv_at hl 2 rfl) ?_
  refine lv_aload_n hx hb dX7_mayBe_10 rfl (lv_at hl 0 rfl) ?_
  refine gM_0_0 X K G q_906 dX7_mayBe_11 ?_
  refine lv_iconst (v := 0) hx hb dX7_mayBe_14 (by decide) ?_
  refine lM_1 X K G (by decide) dX7_mayBe_15 ?_
  refine lv_topi (fun x3 ex3 => ?_)
  have h := nm_at ex3 h
  obtain ⟨g7, h⟩ := ck_at h
  refine lv_irem hx hb dX7_mayBe_16 g7 ?_
  obtain ⟨r4, u5, er4, h⟩ := bnd_at h
  refine csI (rest := []) X K G (c_X7_has er4) q_1096 my_X7_has ⟨rfl, rfl⟩ ⟨Nat.le_of_ble_eq_true rfl, Nat.le_of_ble_eq_true rfl⟩ ⟨Nat.zero_le _, Nat.zero_le _⟩ rfl hl.1 rfl (Nat.le_of_ble_eq_true rfl) dX7_mayBe_17 (fun H locs G => ?_)
  clear er4
  obtain ⟨g6, h⟩ := ck_at h
  obtain ⟨rfl, rfl⟩ := pair_at h
  exact reZ X G (Decidable.not_not.mp g6) dX7_mayBe_20
noncomputable def f_X7_mayNear (a1 : Int32) (a2 : Int32) (u0 : MS) : Option (Int32 × MS) :=
  (if ((m_m u0) (1 : Int32).toNatClampNeg) < 0 then
    some ((0 : Int32), u0)
  else
    bnd (f_X7_mayBe a1 (a2 + ((m_m u0) (1 : Int32).toNatClampNeg)) u0) fun r2 u3 =>
    (if r2 = 0 then
      some ((0 : Int32), u3)
    else
      some ((1 : Int32), u3)))
set_option maxRecDepth 100000 in
set_option maxHeartbeats 4000000 in
theorem c_X7_mayNear {a1 : Int32} {a2 : Int32} {u0 : MS} {r : Int32} {u' : MS} (h : f_X7_mayNear a1 a2 u0 = some (r, u')) : MI l D cI cZ cQ adK adV A yX7_mayNear cX7_mayNear 3 (some .boolean) { frames := 2, cells := 0, slots := 0, locals := 43 } [.ref (ad 0), .int a1, .int a2] (wM cI ad) u0 r u' := by
  unfold f_X7_mayNear at h
  refine entI (by decide) (Nat.le_of_ble_eq_true rfl) (fun p e s m below meth c ls X K G hl => ?_)
  have hl : lv_has ls 3 [(0, .ref (ad 0)), (1, .int a1), (2, .int a2)] := hl
  obtain ⟨hx, hb, -⟩ := id X
  generalize hH : s.heap = H at G
  subst hH
  refine lv_aload_n hx hb dX7_mayNear_0 rfl (lv_at hl 0 rfl) ?_
  refine gM_0_0 X K G q_906 dX7_mayNear_1 ?_
  refine lv_iconst (v := 1) hx hb dX7_mayNear_4 (by decide) ?_
  refine lM_1 X K G (by decide) dX7_mayNear_5 ?_
  refine lv_if_lt (tgt := 29) hx hb dX7_mayNear_6 (by decide) (fun c1 => ?_) (fun c1 => ?_)
  · have h := it_at c1 h
    refine lv_iconst (v := 0) hx hb dX7_mayNear_29 (by decide) ?_
    obtain ⟨rfl, rfl⟩ := pair_at h
    exact reZ X G (Or.inl rfl) dX7_mayNear_30
  · have h := if_at c1 h
    refine lv_aload_n hx hb dX7_mayNear_9 rfl (lv_at hl 0 rfl) ?_
    refine lv_iload_n hx hb dX7_mayNear_10 rfl (lv_at hl 1 rfl) ?_
    refine lv_iload_n hx hb dX7_mayNear_11 rfl (lv_at hl 2 rfl) ?_
    refine lv_aload_n hx hb dX7_mayNear_12 rfl (lv_at hl 0 rfl) ?_
    refine gM_0_0 X K G q_906 dX7_mayNear_13 ?_
    refine lv_iconst (v := 1) hx hb dX7_mayNear_16 (by decide) ?_
    refine lM_1 X K G (by decide) dX7_mayNear_17 ?_
    refine lv_iadd hx hb dX7_mayNear_18 ?_
    obtain ⟨r2, u3, er2, h⟩ := bnd_at h
    refine cvI (rest := []) X K G (c_X7_mayBe er2) q_1092 my_X7_mayBe ⟨rfl, rfl⟩ ⟨Nat.le_of_ble_eq_true rfl, Nat.le_of_ble_eq_true rfl⟩ ⟨Nat.zero_le _, Nat.zero_le _⟩ 0 7 rfl rfl rfl rfl hl.1 rfl (Nat.le_of_ble_eq_true rfl) dX7_mayNear_19 (fun H locs G => ?_)
    clear er2
    refine lv_if_eq (tgt := 29) hx hb dX7_mayNear_22 (by decide) (fun c4 => ?_) (fun c4 => ?_)
    · have h := it_at c4 h
      refine lv_iconst (v := 0) hx hb dX7_mayNear_29 (by decide) ?_
      obtain ⟨rfl, rfl⟩ := pair_at h
      exact reZ X G (Or.inl rfl) dX7_mayNear_30
    · have h := if_at c4 h
      refine lv_iconst (v := 1) hx hb dX7_mayNear_25 (by decide) ?_
      refine lv_goto (tgt := 30) hx hb dX7_mayNear_26 (by decide) ?_
      obtain ⟨rfl, rfl⟩ := pair_at h
      exact reZ X G (Or.inr rfl) dX7_mayNear_30
noncomputable def f_X7_may (a1 : Int32) (a2 : Int32) (u0 : MS) : Option (Int32 × MS) :=
  bnd (f_X7_isTool a1 u0) fun r1 u2 =>
  (if r1 = 0 then
    bnd (f_X7_finds (-1000001 : Int32) u2) fun r4 u5 =>
    some (r4, u5)
  else
    bnd (f_X7_isDay a2 u2) fun r6 u7 =>
    (if r6 = 0 then
      bnd (f_X7_finds (-1000001 : Int32) u7) fun r15 u16 =>
      some (r15, u16)
    else
      bnd (f_X7_mayBe a1 a2 u7) fun r9 u10 =>
      (if r9 = 0 then
        bnd (f_X7_mayNear a1 a2 u10) fun r12 u13 =>
        (if r12 = 0 then
          some ((0 : Int32), u13)
        else
          some ((1 : Int32), u13))
      else
        some ((2 : Int32), u10))))
set_option maxRecDepth 100000 in
set_option maxHeartbeats 4000000 in
theorem c_X7_may {a1 : Int32} {a2 : Int32} {u0 : MS} {r : Int32} {u' : MS} (h : f_X7_may a1 a2 u0 = some (r, u')) : MI l D cI cZ cQ adK adV A yX7_may cX7_may 3 (some .int) { frames := 3, cells := 0, slots := 0, locals := 65 } [.ref (ad 0), .int a1, .int a2] (wM cI ad) u0 r u' := by
  unfold f_X7_may at h
  refine entI (by decide) (Nat.le_of_ble_eq_true rfl) (fun p e s m below meth c ls X K G hl => ?_)
  have hl : lv_has ls 3 [(0, .ref (ad 0)), (1, .int a1), (2, .int a2)] := hl
  obtain ⟨hx, hb, -⟩ := id X
  generalize hH : s.heap = H at G
  subst hH
  refine lv_aload_n hx hb dX7_may_0 rfl (lv_at hl 0 rfl) ?_
  refine lv_iload_n hx hb dX7_may_1 rfl (lv_at hl 1 rfl) ?_
  obtain ⟨r1, u2, er1, h⟩ := bnd_at h
  refine cvI (rest := []) X K G (c_X7_isTool er1) q_1080 my_X7_isTool ⟨rfl, rfl⟩ ⟨Nat.le_of_ble_eq_true rfl, Nat.le_of_ble_eq_true rfl⟩ ⟨Nat.zero_le _, Nat.zero_le _⟩ 0 7 rfl rfl rfl rfl hl.1 rfl (Nat.le_of_ble_eq_true rfl) dX7_may_2 (fun H locs G => ?_)
  clear er1
  refine lv_if_eq (tgt := 15) hx hb dX7_may_5 (by decide) (fun c3 => ?_) (fun c3 => ?_)
  · have h := it_at c3 h
    refine lv_aload_n hx hb dX7_may_15 rfl (lv_at hl 0 rfl) ?_
    refine lv_ldc (v := -1000001) hx hb X.2.2.2.1 (X.2.2.2.2.1 _ q_975) dX7_may_16 ?_
    obtain ⟨r4, u5, er4, h⟩ := bnd_at h
    refine cvI (rest := []) X K G (c_X7_finds er4) q_976 my_X7_finds ⟨rfl, rfl⟩ ⟨Nat.le_of_ble_eq_true rfl, Nat.le_of_ble_eq_true rfl⟩ ⟨Nat.zero_le _, Nat.zero_le _⟩ 0 7 rfl rfl rfl rfl hl.1 rfl (Nat.le_of_ble_eq_true rfl) dX7_may_18 (fun H locs G => ?_)
    clear er4
    obtain ⟨rfl, rfl⟩ := pair_at h
    exact reI X G dX7_may_21
  · have h := if_at c3 h
    refine lv_iload_n hx hb dX7_may_8 rfl (lv_at hl 2 rfl) ?_
    obtain ⟨r6, u7, er6, h⟩ := bnd_at h
    refine csI (rest := []) X K G (c_X7_isDay er6) q_1088 my_X7_isDay ⟨rfl, rfl⟩ ⟨Nat.le_of_ble_eq_true rfl, Nat.le_of_ble_eq_true rfl⟩ ⟨Nat.zero_le _, Nat.zero_le _⟩ rfl hl.1 rfl (Nat.le_of_ble_eq_true rfl) dX7_may_9 (fun H locs G => ?_)
    clear er6
    refine lv_if_ne (tgt := 22) hx hb dX7_may_12 (by decide) (fun c8 => ?_) (fun c8 => ?_)
    · have h := if_at c8 h
      refine lv_aload_n hx hb dX7_may_22 rfl (lv_at hl 0 rfl) ?_
      refine lv_iload_n hx hb dX7_may_23 rfl (lv_at hl 1 rfl) ?_
      refine lv_iload_n hx hb dX7_may_24 rfl (lv_at hl 2 rfl) ?_
      obtain ⟨r9, u10, er9, h⟩ := bnd_at h
      refine cvI (rest := []) X K G (c_X7_mayBe er9) q_1092 my_X7_mayBe ⟨rfl, rfl⟩ ⟨Nat.le_of_ble_eq_true rfl, Nat.le_of_ble_eq_true rfl⟩ ⟨Nat.zero_le _, Nat.zero_le _⟩ 0 7 rfl rfl rfl rfl hl.1 rfl (Nat.le_of_ble_eq_true rfl) dX7_may_25 (fun H locs G => ?_)
      clear er9
      refine lv_if_eq (tgt := 35) hx hb dX7_may_28 (by decide) (fun c11 => ?_) (fun c11 => ?_)
      · have h := it_at c11 h
        refine lv_aload_n hx hb dX7_may_35 rfl (lv_at hl 0 rfl) ?_
        refine lv_iload_n hx hb dX7_may_36 rfl (lv_at hl 1 rfl) ?_
        refine lv_iload_n hx hb dX7_may_37 rfl (lv_at hl 2 rfl) ?_
        obtain ⟨r12, u13, er12, h⟩ := bnd_at h
        refine cvI (rest := []) X K G (c_X7_mayNear er12) q_1099 my_X7_mayNear ⟨rfl, rfl⟩ ⟨Nat.le_of_ble_eq_true rfl, Nat.le_of_ble_eq_true rfl⟩ ⟨Nat.zero_le _, Nat.zero_le _⟩ 0 7 rfl rfl rfl rfl hl.1 rfl (Nat.le_of_ble_eq_true rfl) dX7_may_38 (fun H locs G => ?_)
        clear er12
        refine lv_if_eq (tgt := 48) hx hb dX7_may_41 (by decide) (fun c14 => ?_) (fun c14 => ?_)
        · have h := it_at c14 h
          refine lv_iconst (v := 0) hx hb dX7_may_48 (by decide) ?_
          obtain ⟨rfl, rfl⟩ := pair_at h
          exact reI X G dX7_may_49
        · have h := if_at c14 h
          refine lv_iconst (v := 1) hx hb dX7_may_44 (by decide) ?_
          refine lv_goto (tgt := 49) hx hb dX7_may_45 (by decide) ?_
          obtain ⟨rfl, rfl⟩ := pair_at h
          exact reI X G dX7_may_49
      · have h := if_at c11 h
        refine lv_iconst (v := 2) hx hb dX7_may_31 (by decide) ?_
        refine lv_goto (tgt := 49) hx hb dX7_may_32 (by decide) ?_
        obtain ⟨rfl, rfl⟩ := pair_at h
        exact reI X G dX7_may_49
    · have h := it_at c8 h
      refine lv_aload_n hx hb dX7_may_15 rfl (lv_at hl 0 rfl) ?_
      refine lv_ldc (v := -1000001) hx hb X.2.2.2.1 (X.2.2.2.2.1 _ q_975) dX7_may_16 ?_
      obtain ⟨r15, u16, er15, h⟩ := bnd_at h
      refine cvI (rest := []) X K G (c_X7_finds er15) q_976 my_X7_finds ⟨rfl, rfl⟩ ⟨Nat.le_of_ble_eq_true rfl, Nat.le_of_ble_eq_true rfl⟩ ⟨Nat.zero_le _, Nat.zero_le _⟩ 0 7 rfl rfl rfl rfl hl.1 rfl (Nat.le_of_ble_eq_true rfl) dX7_may_18 (fun H locs G => ?_)
      clear er15
      obtain ⟨rfl, rfl⟩ := pair_at h
      exact reI X G dX7_may_21
noncomputable def f_X7_isKind (a0 : Int32) (u0 : MS) : Option (Int32 × MS) :=
  bnd (f_X7_in (a0.toInt64) (0 : Int64) (6 : Int64) u0) fun r1 u2 =>
  if ¬ (r1 = 0 ∨ r1 = 1) then none else
  some (r1, u2)
set_option maxRecDepth 100000 in
set_option maxHeartbeats 4000000 in
theorem c_X7_isKind {a0 : Int32} {u0 : MS} {r : Int32} {u' : MS} (h : f_X7_isKind a0 u0 = some (r, u')) : MI l D cI cZ cQ adK adV A yX7_isKind cX7_isKind 1 (some .boolean) { frames := 1, cells := 0, slots := 0, locals := 25 } [.int a0] (wM cI ad) u0 r u' := by
  unfold f_X7_isKind at h
  refine entI (by decide) (Nat.le_of_ble_eq_true rfl) (fun p e s m below meth c ls X K G hl => ?_)
  have hl : lv_has ls 1 [(0, .int a0)] := hl
  obtain ⟨hx, hb, -⟩ := id X
  generalize hH : s.heap = H at G
  subst hH
  refine lv_iload_n hx hb dX7_isKind_0 rfl (lv_at hl 0 rfl) ?_
  refine lv_i2l hx hb dX7_isKind_1 rfl ?_
  refine lv_lconst (v := 0) hx hb dX7_isKind_2 (by decide) ?_
  refine lv_ldc2 (v := 6) hx hb X.2.2.2.1 (X.2.2.2.2.1 _ q_1110) dX7_isKind_3 ?_
  obtain ⟨r1, u2, er1, h⟩ := bnd_at h
  refine csI (rest := []) X K G (c_X7_in er1) q_972 my_X7_in ⟨rfl, rfl⟩ ⟨Nat.le_of_ble_eq_true rfl, Nat.le_of_ble_eq_true rfl⟩ ⟨Nat.zero_le _, Nat.zero_le _⟩ rfl hl.1 rfl (Nat.le_of_ble_eq_true rfl) dX7_isKind_6 (fun H locs G => ?_)
  clear er1
  obtain ⟨g3, h⟩ := ck_at h
  obtain ⟨rfl, rfl⟩ := pair_at h
  exact reZ X G (Decidable.not_not.mp g3) dX7_isKind_9
noncomputable def f_X7_at (a0 : Int32) (a1 : Int32) (a2 : Int32) (u0 : MS) : Option (Int32 × MS) :=
  some (((((14 : Int32) + ((26 : Int32) * a0)) + (2 : Int32)) + ((3 : Int32) * a1)) + a2, u0)
set_option maxRecDepth 100000 in
set_option maxHeartbeats 4000000 in
theorem c_X7_at {a0 : Int32} {a1 : Int32} {a2 : Int32} {u0 : MS} {r : Int32} {u' : MS} (h : f_X7_at a0 a1 a2 u0 = some (r, u')) : MI l D cI cZ cQ adK adV A yX7_at cX7_at 3 (some .int) { frames := 0, cells := 0, slots := 0, locals := 0 } [.int a0, .int a1, .int a2] (wM cI ad) u0 r u' := by
  unfold f_X7_at at h
  refine entI (by decide) (Nat.le_of_ble_eq_true rfl) (fun p e s m below meth c ls X K G hl => ?_)
  have hl : lv_has ls 3 [(0, .int a0), (1, .int a1), (2, .int a2)] := hl
  obtain ⟨hx, hb, -⟩ := id X
  generalize hH : s.heap = H at G
  subst hH
  refine lv_bipush (v := 14) hx hb dX7_at_0 (by decide) ?_
  refine lv_bipush (v := 26) hx hb dX7_at_2 (by decide) ?_
  refine lv_iload_n hx hb dX7_at_4 rfl (lv_at hl 0 rfl) ?_
  refine lv_imul hx hb dX7_at_5 ?_
  refine lv_iadd hx hb dX7_at_6 ?_
  refine lv_iconst (v := 2) hx hb dX7_at_7 (by decide) ?_
  refine lv_iadd hx hb dX7_at_8 ?_
  refine lv_iconst (v := 3) hx hb dX7_at_9 (by decide) ?_
  refine lv_iload_n hx hb dX7_at_10 rfl (lv_at hl 1 rfl) ?_
  refine lv_imul hx hb dX7_at_11 ?_
  refine lv_iadd hx hb dX7_at_12 ?_
  refine lv_iload_n hx hb dX7_at_13 rfl (lv_at hl 2 rfl) ?_
  refine lv_iadd hx hb dX7_at_14 ?_
  obtain ⟨rfl, rfl⟩ := pair_at h
  exact reI X G dX7_at_15
noncomputable def f_X7_thing (a1 : Int32) (a2 : Int32) (a3 : Int32) (u0 : MS) : Option (Int32 × MS) :=
  bnd (f_X7_isKind a1 u0) fun r1 u2 =>
  (if r1 = 0 then
    bnd (f_X7_finds (-1000001 : Int32) u2) fun r4 u5 =>
    some (r4, u5)
  else
    bnd (f_X7_isTool a2 u2) fun r6 u7 =>
    (if r6 = 0 then
      bnd (f_X7_finds (-1000001 : Int32) u7) fun r9 u10 =>
      some (r9, u10)
    else
      bnd (f_X7_in (a3.toInt64) (1 : Int64) (8 : Int64) u7) fun r11 u12 =>
      (if r11 = 0 then
        bnd (f_X7_finds (-1000001 : Int32) u12) fun r38 u39 =>
        some (r38, u39)
      else
        (if ((m_m u12) (3 : Int32).toNatClampNeg) = (8 : Int32) then
          bnd (f_X7_finds (-1000002 : Int32) u12) fun r36 u37 =>
          some (r36, u37)
        else
          nmv ((m_m u12) (3 : Int32).toNatClampNeg) fun x15 =>
          nmv ((14 : Int32) + ((26 : Int32) * x15)) fun x16 =>
          if x16 < 0 ∨ 247 ≤ x16.toNatClampNeg then none else
          nmv (mu_m u12 (upd (m_m u12) x16.toNatClampNeg a1)) fun u18 =>
          nmv (((14 : Int32) + ((26 : Int32) * x15)) + (1 : Int32)) fun x19 =>
          if x19 < 0 ∨ 247 ≤ x19.toNatClampNeg then none else
          nmv (mu_m u18 (upd (m_m u18) x19.toNatClampNeg (1 : Int32))) fun u21 =>
          bnd (f_X7_at x15 (0 : Int32) (0 : Int32) u21) fun r22 u23 =>
          if r22 < 0 ∨ 247 ≤ r22.toNatClampNeg then none else
          nmv (mu_m u23 (upd (m_m u23) r22.toNatClampNeg a2)) fun u25 =>
          bnd (f_X7_at x15 (0 : Int32) (1 : Int32) u25) fun r26 u27 =>
          if r26 < 0 ∨ 247 ≤ r26.toNatClampNeg then none else
          nmv (mu_m u27 (upd (m_m u27) r26.toNatClampNeg a3)) fun u29 =>
          bnd (f_X7_at x15 (0 : Int32) (2 : Int32) u29) fun r30 u31 =>
          if r30 < 0 ∨ 247 ≤ r30.toNatClampNeg then none else
          nmv (mu_m u31 (upd (m_m u31) r30.toNatClampNeg (99 : Int32))) fun u33 =>
          nmv (((m_m u33) (3 : Int32).toNatClampNeg) + (1 : Int32)) fun x34 =>
          nmv (mu_m u33 (upd (m_m u33) (3 : Int32).toNatClampNeg x34)) fun u35 =>
          some (x15, u35)))))
set_option maxRecDepth 100000 in
set_option maxHeartbeats 4000000 in
theorem c_X7_thing {a1 : Int32} {a2 : Int32} {a3 : Int32} {u0 : MS} {r : Int32} {u' : MS} (h : f_X7_thing a1 a2 a3 u0 = some (r, u')) : MI l D cI cZ cQ adK adV A yX7_thing cX7_thing 5 (some .int) { frames := 2, cells := 0, slots := 0, locals := 46 } [.ref (ad 0), .int a1, .int a2, .int a3] (wM cI ad) u0 r u' := by
  unfold f_X7_thing at h
  refine entI (by decide) (Nat.le_of_ble_eq_true rfl) (fun p e s m below meth c ls X K G hl => ?_)
  have hl : lv_has ls 5 [(0, .ref (ad 0)), (1, .int a1), (2, .int a2), (3, .int a3)] := hl
  obtain ⟨hx, hb, -⟩ := id X
  generalize hH : s.heap = H at G
  subst hH
  refine lv_iload_n hx hb dX7_thing_0 rfl (lv_at hl 1 rfl) ?_
  obtain ⟨r1, u2, er1, h⟩ := bnd_at h
  refine csI (rest := []) X K G (c_X7_isKind er1) q_1107 my_X7_isKind ⟨rfl, rfl⟩ ⟨Nat.le_of_ble_eq_true rfl, Nat.le_of_ble_eq_true rfl⟩ ⟨Nat.zero_le _, Nat.zero_le _⟩ rfl hl.1 rfl (Nat.le_of_ble_eq_true rfl) dX7_thing_1 (fun H locs G => ?_)
  clear er1
  refine lv_if_eq (tgt := 27) hx hb dX7_thing_4 (by decide) (fun c3 => ?_) (fun c3 => ?_)
  · have h := it_at c3 h
    refine lv_aload_n hx hb dX7_thing_27 rfl (lv_at hl 0 rfl) ?_
    refine lv_ldc (v := -1000001) hx hb X.2.2.2.1 (X.2.2.2.2.1 _ q_975) dX7_thing_28 ?_
    obtain ⟨r4, u5, er4, h⟩ := bnd_at h
    refine cvI (rest := []) X K G (c_X7_finds er4) q_976 my_X7_finds ⟨rfl, rfl⟩ ⟨Nat.le_of_ble_eq_true rfl, Nat.le_of_ble_eq_true rfl⟩ ⟨Nat.zero_le _, Nat.zero_le _⟩ 0 7 rfl rfl rfl rfl hl.1 rfl (Nat.le_of_ble_eq_true rfl) dX7_thing_30 (fun H locs G => ?_)
    clear er4
    obtain ⟨rfl, rfl⟩ := pair_at h
    exact reI X G dX7_thing_33
  · have h := if_at c3 h
    refine lv_aload_n hx hb dX7_thing_7 rfl (lv_at hl 0 rfl) ?_
    refine lv_iload_n hx hb dX7_thing_8 rfl (lv_at hl 2 rfl) ?_
    obtain ⟨r6, u7, er6, h⟩ := bnd_at h
    refine cvI (rest := []) X K G (c_X7_isTool er6) q_1080 my_X7_isTool ⟨rfl, rfl⟩ ⟨Nat.le_of_ble_eq_true rfl, Nat.le_of_ble_eq_true rfl⟩ ⟨Nat.zero_le _, Nat.zero_le _⟩ 0 7 rfl rfl rfl rfl hl.1 rfl (Nat.le_of_ble_eq_true rfl) dX7_thing_9 (fun H locs G => ?_)
    clear er6
    refine lv_if_eq (tgt := 27) hx hb dX7_thing_12 (by decide) (fun c8 => ?_) (fun c8 => ?_)
    · have h := it_at c8 h
      refine lv_aload_n hx hb dX7_thing_27 rfl (lv_at hl 0 rfl) ?_
      refine lv_ldc (v := -1000001) hx hb X.2.2.2.1 (X.2.2.2.2.1 _ q_975) dX7_thing_28 ?_
      obtain ⟨r9, u10, er9, h⟩ := bnd_at h
      refine cvI (rest := []) X K G (c_X7_finds er9) q_976 my_X7_finds ⟨rfl, rfl⟩ ⟨Nat.le_of_ble_eq_true rfl, Nat.le_of_ble_eq_true rfl⟩ ⟨Nat.zero_le _, Nat.zero_le _⟩ 0 7 rfl rfl rfl rfl hl.1 rfl (Nat.le_of_ble_eq_true rfl) dX7_thing_30 (fun H locs G => ?_)
      clear er9
      obtain ⟨rfl, rfl⟩ := pair_at h
      exact reI X G dX7_thing_33
    · have h := if_at c8 h
      refine lv_iload_n hx hb dX7_thing_15 rfl (lv_at hl 3 rfl) ?_
      refine lv_i2l hx hb dX7_thing_16 rfl ?_
      refine lv_lconst (v := 1) hx hb dX7_thing_17 (by decide) ?_
      refine lv_ldc2 (v := 8) hx hb X.2.2.2.1 (X.2.2.2.2.1 _ q_1111) dX7_thing_18 ?_
      obtain ⟨r11, u12, er11, h⟩ := bnd_at h
      refine csI (rest := []) X K G (c_X7_in er11) q_972 my_X7_in ⟨rfl, rfl⟩ ⟨Nat.le_of_ble_eq_true rfl, Nat.le_of_ble_eq_true rfl⟩ ⟨Nat.zero_le _, Nat.zero_le _⟩ rfl hl.1 rfl (Nat.le_of_ble_eq_true rfl) dX7_thing_21 (fun H locs G => ?_)
      clear er11
      refine lv_if_ne (tgt := 34) hx hb dX7_thing_24 (by decide) (fun c13 => ?_) (fun c13 => ?_)
      · have h := if_at c13 h
        refine lv_aload_n hx hb dX7_thing_34 rfl (lv_at hl 0 rfl) ?_
        refine gM_0_0 X K G q_906 dX7_thing_35 ?_
        refine lv_iconst (v := 3) hx hb dX7_thing_38 (by decide) ?_
        refine lM_1 X K G (by decide) dX7_thing_39 ?_
        refine lv_bipush (v := 8) hx hb dX7_thing_40 (by decide) ?_
        refine lv_icmp_ne (tgt := 52) hx hb dX7_thing_42 (by decide) (fun c14 => ?_) (fun c14 => ?_)
        · have h := if_at c14 h
          refine lv_aload_n hx hb dX7_thing_52 rfl (lv_at hl 0 rfl) ?_
          refine gM_0_0 X K G q_906 dX7_thing_53 ?_
          refine lv_iconst (v := 3) hx hb dX7_thing_56 (by decide) ?_
          refine lM_1 X K G (by decide) dX7_thing_57 ?_
          refine lv_topi (fun x15 ex15 => ?_)
          have h := nm_at ex15 h
          refine lv_istore (lv' := [(4, .int x15), (0, .ref (ad 0)), (1, .int a1), (2, .int a2), (3, .int a3)]) hx hb dX7_thing_58 hl (by decide) rfl (fun ls hl => ?_)
          refine lv_aload_n hx hb dX7_thing_60 rfl (lv_at hl 1 rfl) ?_
          refine gM_0_0 X K G q_906 dX7_thing_61 ?_
          refine lv_bipush (v := 14) hx hb dX7_thing_64 (by decide) ?_
          refine lv_bipush (v := 26) hx hb dX7_thing_66 (by decide) ?_
          refine lv_iload hx hb dX7_thing_68 (lv_at hl 0 rfl) ?_
          refine lv_imul hx hb dX7_thing_70 ?_
          refine lv_iadd hx hb dX7_thing_71 ?_
          refine lv_iload_n hx hb dX7_thing_72 rfl (lv_at hl 2 rfl) ?_
          refine nm2 (fun x16 ex16 => ?_)
          have h := nm_at ex16 h
          obtain ⟨g17, h⟩ := ck_at h
          refine aM_1 X K G g17 dX7_thing_73 (fun H locs G => ?_)
          obtain ⟨u18, eu18⟩ : ∃ z : MS, z = mu_m u12 (upd (m_m u12) x16.toNatClampNeg a1) := ⟨_, rfl⟩
          have G : wg D A s.heap H locs (wM cI ad u18) := by rw [eu18]; exact G
          have h := nm_at eu18 h
          clear eu18
          refine lv_aload_n hx hb dX7_thing_74 rfl (lv_at hl 1 rfl) ?_
          refine gM_0_0 X K G q_906 dX7_thing_75 ?_
          refine lv_bipush (v := 14) hx hb dX7_thing_78 (by decide) ?_
          refine lv_bipush (v := 26) hx hb dX7_thing_80 (by decide) ?_
          refine lv_iload hx hb dX7_thing_82 (lv_at hl 0 rfl) ?_
          refine lv_imul hx hb dX7_thing_84 ?_
          refine lv_iadd hx hb dX7_thing_85 ?_
          refine lv_iconst (v := 1) hx hb dX7_thing_86 (by decide) ?_
          refine lv_iadd hx hb dX7_thing_87 ?_
          refine lv_iconst (v := 1) hx hb dX7_thing_88 (by decide) ?_
          refine nm2 (fun x19 ex19 => ?_)
          have h := nm_at ex19 h
          obtain ⟨g20, h⟩ := ck_at h
          refine aM_1 X K G g20 dX7_thing_89 (fun H locs G => ?_)
          obtain ⟨u21, eu21⟩ : ∃ z : MS, z = mu_m u18 (upd (m_m u18) x19.toNatClampNeg (1 : Int32)) := ⟨_, rfl⟩
          have G : wg D A s.heap H locs (wM cI ad u21) := by rw [eu21]; exact G
          have h := nm_at eu21 h
          clear eu21
          refine lv_aload_n hx hb dX7_thing_90 rfl (lv_at hl 1 rfl) ?_
          refine gM_0_0 X K G q_906 dX7_thing_91 ?_
          refine lv_iload hx hb dX7_thing_94 (lv_at hl 0 rfl) ?_
          refine lv_iconst (v := 0) hx hb dX7_thing_96 (by decide) ?_
          refine lv_iconst (v := 0) hx hb dX7_thing_97 (by decide) ?_
          obtain ⟨r22, u23, er22, h⟩ := bnd_at h
          refine csI (rest := [.ref (ad 1)]) X K G (c_X7_at er22) q_1048 my_X7_at ⟨rfl, rfl⟩ ⟨Nat.le_of_ble_eq_true rfl, Nat.le_of_ble_eq_true rfl⟩ ⟨Nat.zero_le _, Nat.zero_le _⟩ rfl hl.1 rfl (Nat.le_of_ble_eq_true rfl) dX7_thing_98 (fun H locs G => ?_)
          clear er22
          refine lv_iload_n hx hb dX7_thing_101 rfl (lv_at hl 3 rfl) ?_
          obtain ⟨g24, h⟩ := ck_at h
          refine aM_1 X K G g24 dX7_thing_102 (fun H locs G => ?_)
          obtain ⟨u25, eu25⟩ : ∃ z : MS, z = mu_m u23 (upd (m_m u23) r22.toNatClampNeg a2) := ⟨_, rfl⟩
          have G : wg D A s.heap H locs (wM cI ad u25) := by rw [eu25]; exact G
          have h := nm_at eu25 h
          clear eu25
          refine lv_aload_n hx hb dX7_thing_103 rfl (lv_at hl 1 rfl) ?_
          refine gM_0_0 X K G q_906 dX7_thing_104 ?_
          refine lv_iload hx hb dX7_thing_107 (lv_at hl 0 rfl) ?_
          refine lv_iconst (v := 0) hx hb dX7_thing_109 (by decide) ?_
          refine lv_iconst (v := 1) hx hb dX7_thing_110 (by decide) ?_
          obtain ⟨r26, u27, er26, h⟩ := bnd_at h
          refine csI (rest := [.ref (ad 1)]) X K G (c_X7_at er26) q_1048 my_X7_at ⟨rfl, rfl⟩ ⟨Nat.le_of_ble_eq_true rfl, Nat.le_of_ble_eq_true rfl⟩ ⟨Nat.zero_le _, Nat.zero_le _⟩ rfl hl.1 rfl (Nat.le_of_ble_eq_true rfl) dX7_thing_111 (fun H locs G => ?_)
          clear er26
          refine lv_iload_n hx hb dX7_thing_114 rfl (lv_at hl 4 rfl) ?_
          obtain ⟨g28, h⟩ := ck_at h
          refine aM_1 X K G g28 dX7_thing_115 (fun H locs G => ?_)
          obtain ⟨u29, eu29⟩ : ∃ z : MS, z = mu_m u27 (upd (m_m u27) r26.toNatClampNeg a3) := ⟨_, rfl⟩
          have G : wg D A s.heap H locs (wM cI ad u29) := by rw [eu29]; exact G
          have h := nm_at eu29 h
          clear eu29
          refine lv_aload_n hx hb dX7_thing_116 rfl (lv_at hl 1 rfl) ?_
          refine gM_0_0 X K G q_906 dX7_thing_117 ?_
          refine lv_iload hx hb dX7_thing_120 (lv_at hl 0 rfl) ?_
          refine lv_iconst (v := 0) hx hb dX7_thing_122 (by decide) ?_
          refine lv_iconst (v := 2) hx hb dX7_thing_123 (by decide) ?_
          obtain ⟨r30, u31, er30, h⟩ := bnd_at h
          refine csI (rest := [.ref (ad 1)]) X K G (c_X7_at er30) q_1048 my_X7_at ⟨rfl, rfl⟩ ⟨Nat.le_of_ble_eq_true rfl, Nat.le_of_ble_eq_true rfl⟩ ⟨Nat.zero_le _, Nat.zero_le _⟩ rfl hl.1 rfl (Nat.le_of_ble_eq_true rfl) dX7_thing_124 (fun H locs G => ?_)
          clear er30
          refine lv_bipush (v := 99) hx hb dX7_thing_127 (by decide) ?_
          obtain ⟨g32, h⟩ := ck_at h
          refine aM_1 X K G g32 dX7_thing_129 (fun H locs G => ?_)
          obtain ⟨u33, eu33⟩ : ∃ z : MS, z = mu_m u31 (upd (m_m u31) r30.toNatClampNeg (99 : Int32)) := ⟨_, rfl⟩
          have G : wg D A s.heap H locs (wM cI ad u33) := by rw [eu33]; exact G
          have h := nm_at eu33 h
          clear eu33
          refine lv_aload_n hx hb dX7_thing_130 rfl (lv_at hl 1 rfl) ?_
          refine gM_0_0 X K G q_906 dX7_thing_131 ?_
          refine lv_iconst (v := 3) hx hb dX7_thing_134 (by decide) ?_
          refine lv_dup2_11 hx hb dX7_thing_135 rfl rfl ?_
          refine lM_1 X K G (by decide) dX7_thing_136 ?_
          refine lv_iconst (v := 1) hx hb dX7_thing_137 (by decide) ?_
          refine lv_iadd hx hb dX7_thing_138 ?_
          refine lv_topi (fun x34 ex34 => ?_)
          have h := nm_at ex34 h
          refine aM_1 X K G (by decide) dX7_thing_139 (fun H locs G => ?_)
          obtain ⟨u35, eu35⟩ : ∃ z : MS, z = mu_m u33 (upd (m_m u33) (3 : Int32).toNatClampNeg x34) := ⟨_, rfl⟩
          have G : wg D A s.heap H locs (wM cI ad u35) := by rw [eu35]; exact G
          have h := nm_at eu35 h
          clear eu35
          refine lv_iload hx hb dX7_thing_140 (lv_at hl 0 rfl) ?_
          obtain ⟨rfl, rfl⟩ := pair_at h
          exact reI X G dX7_thing_142
        · have h := it_at c14 h
          refine lv_aload_n hx hb dX7_thing_45 rfl (lv_at hl 0 rfl) ?_
          refine lv_ldc (v := -1000002) hx hb X.2.2.2.1 (X.2.2.2.2.1 _ q_980) dX7_thing_46 ?_
          obtain ⟨r36, u37, er36, h⟩ := bnd_at h
          refine cvI (rest := []) X K G (c_X7_finds er36) q_976 my_X7_finds ⟨rfl, rfl⟩ ⟨Nat.le_of_ble_eq_true rfl, Nat.le_of_ble_eq_true rfl⟩ ⟨Nat.zero_le _, Nat.zero_le _⟩ 0 7 rfl rfl rfl rfl hl.1 rfl (Nat.le_of_ble_eq_true rfl) dX7_thing_48 (fun H locs G => ?_)
          clear er36
          obtain ⟨rfl, rfl⟩ := pair_at h
          exact reI X G dX7_thing_51
      · have h := it_at c13 h
        refine lv_aload_n hx hb dX7_thing_27 rfl (lv_at hl 0 rfl) ?_
        refine lv_ldc (v := -1000001) hx hb X.2.2.2.1 (X.2.2.2.2.1 _ q_975) dX7_thing_28 ?_
        obtain ⟨r38, u39, er38, h⟩ := bnd_at h
        refine cvI (rest := []) X K G (c_X7_finds er38) q_976 my_X7_finds ⟨rfl, rfl⟩ ⟨Nat.le_of_ble_eq_true rfl, Nat.le_of_ble_eq_true rfl⟩ ⟨Nat.zero_le _, Nat.zero_le _⟩ 0 7 rfl rfl rfl rfl hl.1 rfl (Nat.le_of_ble_eq_true rfl) dX7_thing_30 (fun H locs G => ?_)
        clear er38
        obtain ⟨rfl, rfl⟩ := pair_at h
        exact reI X G dX7_thing_33
noncomputable def f_X7_isThing (a1 : Int32) (u0 : MS) : Option (Int32 × MS) :=
  bnd (f_X7_in (a1.toInt64) (0 : Int64) ((((m_m u0) (3 : Int32).toNatClampNeg) - (1 : Int32)).toInt64) u0) fun r1 u2 =>
  if ¬ (r1 = 0 ∨ r1 = 1) then none else
  some (r1, u2)
set_option maxRecDepth 100000 in
set_option maxHeartbeats 4000000 in
theorem c_X7_isThing {a1 : Int32} {u0 : MS} {r : Int32} {u' : MS} (h : f_X7_isThing a1 u0 = some (r, u')) : MI l D cI cZ cQ adK adV A yX7_isThing cX7_isThing 2 (some .boolean) { frames := 1, cells := 0, slots := 0, locals := 25 } [.ref (ad 0), .int a1] (wM cI ad) u0 r u' := by
  unfold f_X7_isThing at h
  refine entI (by decide) (Nat.le_of_ble_eq_true rfl) (fun p e s m below meth c ls X K G hl => ?_)
  have hl : lv_has ls 2 [(0, .ref (ad 0)), (1, .int a1)] := hl
  obtain ⟨hx, hb, -⟩ := id X
  generalize hH : s.heap = H at G
  subst hH
  refine lv_iload_n hx hb dX7_isThing_0 rfl (lv_at hl 1 rfl) ?_
  refine lv_i2l hx hb dX7_isThing_1 rfl ?_
  refine lv_lconst (v := 0) hx hb dX7_isThing_2 (by decide) ?_
  refine lv_aload_n hx hb dX7_isThing_3 rfl (lv_at hl 0 rfl) ?_
  refine gM_0_0 X K G q_906 dX7_isThing_4 ?_
  refine lv_iconst (v := 3) hx hb dX7_isThing_7 (by decide) ?_
  refine lM_1 X K G (by decide) dX7_isThing_8 ?_
  refine lv_iconst (v := 1) hx hb dX7_isThing_9 (by decide) ?_
  refine lv_isub hx hb dX7_isThing_10 ?_
  refine lv_i2l hx hb dX7_isThing_11 rfl ?_
  obtain ⟨r1, u2, er1, h⟩ := bnd_at h
  refine csI (rest := []) X K G (c_X7_in er1) q_972 my_X7_in ⟨rfl, rfl⟩ ⟨Nat.le_of_ble_eq_true rfl, Nat.le_of_ble_eq_true rfl⟩ ⟨Nat.zero_le _, Nat.zero_le _⟩ rfl hl.1 rfl (Nat.le_of_ble_eq_true rfl) dX7_isThing_12 (fun H locs G => ?_)
  clear er1
  obtain ⟨g3, h⟩ := ck_at h
  obtain ⟨rfl, rfl⟩ := pair_at h
  exact reZ X G (Decidable.not_not.mp g3) dX7_isThing_15
noncomputable def f_X7_steps (a1 : Int32) (u0 : MS) : Option (Int32 × MS) :=
  nmv (((14 : Int32) + ((26 : Int32) * a1)) + (1 : Int32)) fun x1 =>
  if x1 < 0 ∨ 247 ≤ x1.toNatClampNeg then none else
  some ((m_m u0) x1.toNatClampNeg, u0)
set_option maxRecDepth 100000 in
set_option maxHeartbeats 4000000 in
theorem c_X7_steps {a1 : Int32} {u0 : MS} {r : Int32} {u' : MS} (h : f_X7_steps a1 u0 = some (r, u')) : MI l D cI cZ cQ adK adV A yX7_steps cX7_steps 2 (some .int) { frames := 0, cells := 0, slots := 0, locals := 0 } [.ref (ad 0), .int a1] (wM cI ad) u0 r u' := by
  unfold f_X7_steps at h
  refine entI (by decide) (Nat.le_of_ble_eq_true rfl) (fun p e s m below meth c ls X K G hl => ?_)
  have hl : lv_has ls 2 [(0, .ref (ad 0)), (1, .int a1)] := hl
  obtain ⟨hx, hb, -⟩ := id X
  generalize hH : s.heap = H at G
  subst hH
  refine lv_aload_n hx hb dX7_steps_0 rfl (lv_at hl 0 rfl) ?_
  refine gM_0_0 X K G q_906 dX7_steps_1 ?_
  refine lv_bipush (v := 14) hx hb dX7_steps_4 (by decide) ?_
  refine lv_bipush (v := 26) hx hb dX7_steps_6 (by decide) ?_
  refine lv_iload_n hx hb dX7_steps_8 rfl (lv_at hl 1 rfl) ?_
  refine lv_imul hx hb dX7_steps_9 ?_
  refine lv_iadd hx hb dX7_steps_10 ?_
  refine lv_iconst (v := 1) hx hb dX7_steps_11 (by decide) ?_
  refine lv_iadd hx hb dX7_steps_12 ?_
  refine lv_topi (fun x1 ex1 => ?_)
  have h := nm_at ex1 h
  obtain ⟨g2, h⟩ := ck_at h
  refine lM_1 X K G g2 dX7_steps_13 ?_
  obtain ⟨rfl, rfl⟩ := pair_at h
  exact reI X G dX7_steps_14
noncomputable def f_X7_step (a1 : Int32) (a2 : Int32) (a3 : Int32) (a4 : Int32) (u0 : MS) : Option (Int32 × MS) :=
  bnd (f_X7_isThing a1 u0) fun r1 u2 =>
  (if r1 = 0 then
    bnd (f_X7_finds (-1000001 : Int32) u2) fun r4 u5 =>
    some (r4, u5)
  else
    bnd (f_X7_isTool a2 u2) fun r6 u7 =>
    (if r6 = 0 then
      bnd (f_X7_finds (-1000001 : Int32) u7) fun r9 u10 =>
      some (r9, u10)
    else
      bnd (f_X7_in (a3.toInt64) (1 : Int64) (8 : Int64) u7) fun r11 u12 =>
      (if r11 = 0 then
        bnd (f_X7_finds (-1000001 : Int32) u12) fun r14 u15 =>
        some (r14, u15)
      else
        bnd (f_X7_in (a4.toInt64) (0 : Int64) (99 : Int64) u12) fun r16 u17 =>
        (if r16 = 0 then
          bnd (f_X7_finds (-1000001 : Int32) u17) fun r40 u41 =>
          some (r40, u41)
        else
          bnd (f_X7_steps a1 u17) fun r19 u20 =>
          (if r19 = (8 : Int32) then
            bnd (f_X7_finds (-1000002 : Int32) u20) fun r38 u39 =>
            some (r38, u39)
          else
            bnd (f_X7_at a1 r19 (0 : Int32) u20) fun r22 u23 =>
            if r22 < 0 ∨ 247 ≤ r22.toNatClampNeg then none else
            nmv (mu_m u23 (upd (m_m u23) r22.toNatClampNeg a2)) fun u25 =>
            bnd (f_X7_at a1 r19 (1 : Int32) u25) fun r26 u27 =>
            if r26 < 0 ∨ 247 ≤ r26.toNatClampNeg then none else
            nmv (mu_m u27 (upd (m_m u27) r26.toNatClampNeg a3)) fun u29 =>
            bnd (f_X7_at a1 r19 (2 : Int32) u29) fun r30 u31 =>
            if r30 < 0 ∨ 247 ≤ r30.toNatClampNeg then none else
            nmv (mu_m u31 (upd (m_m u31) r30.toNatClampNeg a4)) fun u33 =>
            nmv (r19 + (1 : Int32)) fun x34 =>
            nmv (((14 : Int32) + ((26 : Int32) * a1)) + (1 : Int32)) fun x35 =>
            if x35 < 0 ∨ 247 ≤ x35.toNatClampNeg then none else
            nmv (mu_m u33 (upd (m_m u33) x35.toNatClampNeg x34)) fun u37 =>
            some (r19 + (1 : Int32), u37))))))
set_option maxRecDepth 100000 in
set_option maxHeartbeats 4000000 in
theorem c_X7_step {a1 : Int32} {a2 : Int32} {a3 : Int32} {a4 : Int32} {u0 : MS} {r : Int32} {u' : MS} (h : f_X7_step a1 a2 a3 a4 u0 = some (r, u')) : MI l D cI cZ cQ adK adV A yX7_step cX7_step 6 (some .int) { frames := 2, cells := 0, slots := 0, locals := 46 } [.ref (ad 0), .int a1, .int a2, .int a3, .int a4] (wM cI ad) u0 r u' := by
  unfold f_X7_step at h
  refine entI (by decide) (Nat.le_of_ble_eq_true rfl) (fun p e s m below meth c ls X K G hl => ?_)
  have hl : lv_has ls 6 [(0, .ref (ad 0)), (1, .int a1), (2, .int a2), (3, .int a3), (4, .int a4)] := hl
  obtain ⟨hx, hb, -⟩ := id X
  generalize hH : s.heap = H at G
  subst hH
  refine lv_aload_n hx hb dX7_step_0 rfl (lv_at hl 0 rfl) ?_
  refine lv_iload_n hx hb dX7_step_1 rfl (lv_at hl 1 rfl) ?_
  obtain ⟨r1, u2, er1, h⟩ := bnd_at h
  refine cvI (rest := []) X K G (c_X7_isThing er1) q_1116 my_X7_isThing ⟨rfl, rfl⟩ ⟨Nat.le_of_ble_eq_true rfl, Nat.le_of_ble_eq_true rfl⟩ ⟨Nat.zero_le _, Nat.zero_le _⟩ 0 7 rfl rfl rfl rfl hl.1 rfl (Nat.le_of_ble_eq_true rfl) dX7_step_2 (fun H locs G => ?_)
  clear er1
  refine lv_if_eq (tgt := 41) hx hb dX7_step_5 (by decide) (fun c3 => ?_) (fun c3 => ?_)
  · have h := it_at c3 h
    refine lv_aload_n hx hb dX7_step_41 rfl (lv_at hl 0 rfl) ?_
    refine lv_ldc (v := -1000001) hx hb X.2.2.2.1 (X.2.2.2.2.1 _ q_975) dX7_step_42 ?_
    obtain ⟨r4, u5, er4, h⟩ := bnd_at h
    refine cvI (rest := []) X K G (c_X7_finds er4) q_976 my_X7_finds ⟨rfl, rfl⟩ ⟨Nat.le_of_ble_eq_true rfl, Nat.le_of_ble_eq_true rfl⟩ ⟨Nat.zero_le _, Nat.zero_le _⟩ 0 7 rfl rfl rfl rfl hl.1 rfl (Nat.le_of_ble_eq_true rfl) dX7_step_44 (fun H locs G => ?_)
    clear er4
    obtain ⟨rfl, rfl⟩ := pair_at h
    exact reI X G dX7_step_47
  · have h := if_at c3 h
    refine lv_aload_n hx hb dX7_step_8 rfl (lv_at hl 0 rfl) ?_
    refine lv_iload_n hx hb dX7_step_9 rfl (lv_at hl 2 rfl) ?_
    obtain ⟨r6, u7, er6, h⟩ := bnd_at h
    refine cvI (rest := []) X K G (c_X7_isTool er6) q_1080 my_X7_isTool ⟨rfl, rfl⟩ ⟨Nat.le_of_ble_eq_true rfl, Nat.le_of_ble_eq_true rfl⟩ ⟨Nat.zero_le _, Nat.zero_le _⟩ 0 7 rfl rfl rfl rfl hl.1 rfl (Nat.le_of_ble_eq_true rfl) dX7_step_10 (fun H locs G => ?_)
    clear er6
    refine lv_if_eq (tgt := 41) hx hb dX7_step_13 (by decide) (fun c8 => ?_) (fun c8 => ?_)
    · have h := it_at c8 h
      refine lv_aload_n hx hb dX7_step_41 rfl (lv_at hl 0 rfl) ?_
      refine lv_ldc (v := -1000001) hx hb X.2.2.2.1 (X.2.2.2.2.1 _ q_975) dX7_step_42 ?_
      obtain ⟨r9, u10, er9, h⟩ := bnd_at h
      refine cvI (rest := []) X K G (c_X7_finds er9) q_976 my_X7_finds ⟨rfl, rfl⟩ ⟨Nat.le_of_ble_eq_true rfl, Nat.le_of_ble_eq_true rfl⟩ ⟨Nat.zero_le _, Nat.zero_le _⟩ 0 7 rfl rfl rfl rfl hl.1 rfl (Nat.le_of_ble_eq_true rfl) dX7_step_44 (fun H locs G => ?_)
      clear er9
      obtain ⟨rfl, rfl⟩ := pair_at h
      exact reI X G dX7_step_47
    · have h := if_at c8 h
      refine lv_iload_n hx hb dX7_step_16 rfl (lv_at hl 3 rfl) ?_
      refine lv_i2l hx hb dX7_step_17 rfl ?_
      refine lv_lconst (v := 1) hx hb dX7_step_18 (by decide) ?_
      refine lv_ldc2 (v := 8) hx hb X.2.2.2.1 (X.2.2.2.2.1 _ q_1111) dX7_step_19 ?_
      obtain ⟨r11, u12, er11, h⟩ := bnd_at h
      refine csI (rest := []) X K G (c_X7_in er11) q_972 my_X7_in ⟨rfl, rfl⟩ ⟨Nat.le_of_ble_eq_true rfl, Nat.le_of_ble_eq_true rfl⟩ ⟨Nat.zero_le _, Nat.zero_le _⟩ rfl hl.1 rfl (Nat.le_of_ble_eq_true rfl) dX7_step_22 (fun H locs G => ?_)
      clear er11
      refine lv_if_eq (tgt := 41) hx hb dX7_step_25 (by decide) (fun c13 => ?_) (fun c13 => ?_)
      · have h := it_at c13 h
        refine lv_aload_n hx hb dX7_step_41 rfl (lv_at hl 0 rfl) ?_
        refine lv_ldc (v := -1000001) hx hb X.2.2.2.1 (X.2.2.2.2.1 _ q_975) dX7_step_42 ?_
        obtain ⟨r14, u15, er14, h⟩ := bnd_at h
        refine cvI (rest := []) X K G (c_X7_finds er14) q_976 my_X7_finds ⟨rfl, rfl⟩ ⟨Nat.le_of_ble_eq_true rfl, Nat.le_of_ble_eq_true rfl⟩ ⟨Nat.zero_le _, Nat.zero_le _⟩ 0 7 rfl rfl rfl rfl hl.1 rfl (Nat.le_of_ble_eq_true rfl) dX7_step_44 (fun H locs G => ?_)
        clear er14
        obtain ⟨rfl, rfl⟩ := pair_at h
        exact reI X G dX7_step_47
      · have h := if_at c13 h
        refine lv_iload hx hb dX7_step_28 (lv_at hl 4 rfl) ?_
        refine lv_i2l hx hb dX7_step_30 rfl ?_
        refine lv_lconst (v := 0) hx hb dX7_step_31 (by decide) ?_
        refine lv_ldc2 (v := 99) hx hb X.2.2.2.1 (X.2.2.2.2.1 _ q_1120) dX7_step_32 ?_
        obtain ⟨r16, u17, er16, h⟩ := bnd_at h
        refine csI (rest := []) X K G (c_X7_in er16) q_972 my_X7_in ⟨rfl, rfl⟩ ⟨Nat.le_of_ble_eq_true rfl, Nat.le_of_ble_eq_true rfl⟩ ⟨Nat.zero_le _, Nat.zero_le _⟩ rfl hl.1 rfl (Nat.le_of_ble_eq_true rfl) dX7_step_35 (fun H locs G => ?_)
        clear er16
        refine lv_if_ne (tgt := 48) hx hb dX7_step_38 (by decide) (fun c18 => ?_) (fun c18 => ?_)
        · have h := if_at c18 h
          refine lv_aload_n hx hb dX7_step_48 rfl (lv_at hl 0 rfl) ?_
          refine lv_iload_n hx hb dX7_step_49 rfl (lv_at hl 1 rfl) ?_
          obtain ⟨r19, u20, er19, h⟩ := bnd_at h
          refine cvI (rest := []) X K G (c_X7_steps er19) q_1121 my_X7_steps ⟨rfl, rfl⟩ ⟨Nat.le_of_ble_eq_true rfl, Nat.le_of_ble_eq_true rfl⟩ ⟨Nat.zero_le _, Nat.zero_le _⟩ 0 7 rfl rfl rfl rfl hl.1 rfl (Nat.le_of_ble_eq_true rfl) dX7_step_50 (fun H locs G => ?_)
          clear er19
          refine lv_istore (lv' := [(5, .int r19), (0, .ref (ad 0)), (1, .int a1), (2, .int a2), (3, .int a3), (4, .int a4)]) hx hb dX7_step_53 hl (by decide) rfl (fun ls hl => ?_)
          refine lv_iload hx hb dX7_step_55 (lv_at hl 0 rfl) ?_
          refine lv_bipush (v := 8) hx hb dX7_step_57 (by decide) ?_
          refine lv_icmp_ne (tgt := 69) hx hb dX7_step_59 (by decide) (fun c21 => ?_) (fun c21 => ?_)
          · have h := if_at c21 h
            refine lv_aload_n hx hb dX7_step_69 rfl (lv_at hl 1 rfl) ?_
            refine gM_0_0 X K G q_906 dX7_step_70 ?_
            refine lv_iload_n hx hb dX7_step_73 rfl (lv_at hl 2 rfl) ?_
            refine lv_iload hx hb dX7_step_74 (lv_at hl 0 rfl) ?_
            refine lv_iconst (v := 0) hx hb dX7_step_76 (by decide) ?_
            obtain ⟨r22, u23, er22, h⟩ := bnd_at h
            refine csI (rest := [.ref (ad 1)]) X K G (c_X7_at er22) q_1048 my_X7_at ⟨rfl, rfl⟩ ⟨Nat.le_of_ble_eq_true rfl, Nat.le_of_ble_eq_true rfl⟩ ⟨Nat.zero_le _, Nat.zero_le _⟩ rfl hl.1 rfl (Nat.le_of_ble_eq_true rfl) dX7_step_77 (fun H locs G => ?_)
            clear er22
            refine lv_iload_n hx hb dX7_step_80 rfl (lv_at hl 3 rfl) ?_
            obtain ⟨g24, h⟩ := ck_at h
            refine aM_1 X K G g24 dX7_step_81 (fun H locs G => ?_)
            obtain ⟨u25, eu25⟩ : ∃ z : MS, z = mu_m u23 (upd (m_m u23) r22.toNatClampNeg a2) := ⟨_, rfl⟩
            have G : wg D A s.heap H locs (wM cI ad u25) := by rw [eu25]; exact G
            have h := nm_at eu25 h
            clear eu25
            refine lv_aload_n hx hb dX7_step_82 rfl (lv_at hl 1 rfl) ?_
            refine gM_0_0 X K G q_906 dX7_step_83 ?_
            refine lv_iload_n hx hb dX7_step_86 rfl (lv_at hl 2 rfl) ?_
            refine lv_iload hx hb dX7_step_87 (lv_at hl 0 rfl) ?_
            refine lv_iconst (v := 1) hx hb dX7_step_89 (by decide) ?_
            obtain ⟨r26, u27, er26, h⟩ := bnd_at h
            refine csI (rest := [.ref (ad 1)]) X K G (c_X7_at er26) q_1048 my_X7_at ⟨rfl, rfl⟩ ⟨Nat.le_of_ble_eq_true rfl, Nat.le_of_ble_eq_true rfl⟩ ⟨Nat.zero_le _, Nat.zero_le _⟩ rfl hl.1 rfl (Nat.le_of_ble_eq_true rfl) dX7_step_90 (fun H locs G => ?_)
            clear er26
            refine lv_iload_n hx hb dX7_step_93 rfl (lv_at hl 4 rfl) ?_
            obtain ⟨g28, h⟩ := ck_at h
            refine aM_1 X K G g28 dX7_step_94 (fun H locs G => ?_)
            obtain ⟨u29, eu29⟩ : ∃ z : MS, z = mu_m u27 (upd (m_m u27) r26.toNatClampNeg a3) := ⟨_, rfl⟩
            have G : wg D A s.heap H locs (wM cI ad u29) := by rw [eu29]; exact G
            have h := nm_at eu29 h
            clear eu29
            refine lv_aload_n hx hb dX7_step_95 rfl (lv_at hl 1 rfl) ?_
            refine gM_0_0 X K G q_906 dX7_step_96 ?_
            refine lv_iload_n hx hb dX7_step_99 rfl (lv_at hl 2 rfl) ?_
            refine lv_iload hx hb dX7_step_100 (lv_at hl 0 rfl) ?_
            refine lv_iconst (v := 2) hx hb dX7_step_102 (by decide) ?_
            obtain ⟨r30, u31, er30, h⟩ := bnd_at h
            refine csI (rest := [.ref (ad 1)]) X K G (c_X7_at er30) q_1048 my_X7_at ⟨rfl, rfl⟩ ⟨Nat.le_of_ble_eq_true rfl, Nat.le_of_ble_eq_true rfl⟩ ⟨Nat.zero_le _, Nat.zero_le _⟩ rfl hl.1 rfl (Nat.le_of_ble_eq_true rfl) dX7_step_103 (fun H locs G => ?_)
            clear er30
            refine lv_iload hx hb dX7_step_106 (lv_at hl 5 rfl) ?_
            obtain ⟨g32, h⟩ := ck_at h
            refine aM_1 X K G g32 dX7_step_108 (fun H locs G => ?_)
            obtain ⟨u33, eu33⟩ : ∃ z : MS, z = mu_m u31 (upd (m_m u31) r30.toNatClampNeg a4) := ⟨_, rfl⟩
            have G : wg D A s.heap H locs (wM cI ad u33) := by rw [eu33]; exact G
            have h := nm_at eu33 h
            clear eu33
            refine lv_aload_n hx hb dX7_step_109 rfl (lv_at hl 1 rfl) ?_
            refine gM_0_0 X K G q_906 dX7_step_110 ?_
            refine lv_bipush (v := 14) hx hb dX7_step_113 (by decide) ?_
            refine lv_bipush (v := 26) hx hb dX7_step_115 (by decide) ?_
            refine lv_iload_n hx hb dX7_step_117 rfl (lv_at hl 2 rfl) ?_
            refine lv_imul hx hb dX7_step_118 ?_
            refine lv_iadd hx hb dX7_step_119 ?_
            refine lv_iconst (v := 1) hx hb dX7_step_120 (by decide) ?_
            refine lv_iadd hx hb dX7_step_121 ?_
            refine lv_iload hx hb dX7_step_122 (lv_at hl 0 rfl) ?_
            refine lv_iconst (v := 1) hx hb dX7_step_124 (by decide) ?_
            refine lv_iadd hx hb dX7_step_125 ?_
            refine lv_topi (fun x34 ex34 => ?_)
            have h := nm_at ex34 h
            refine nm2 (fun x35 ex35 => ?_)
            have h := nm_at ex35 h
            obtain ⟨g36, h⟩ := ck_at h
            refine aM_1 X K G g36 dX7_step_126 (fun H locs G => ?_)
            obtain ⟨u37, eu37⟩ : ∃ z : MS, z = mu_m u33 (upd (m_m u33) x35.toNatClampNeg x34) := ⟨_, rfl⟩
            have G : wg D A s.heap H locs (wM cI ad u37) := by rw [eu37]; exact G
            have h := nm_at eu37 h
            clear eu37
            refine lv_iload hx hb dX7_step_127 (lv_at hl 0 rfl) ?_
            refine lv_iconst (v := 1) hx hb dX7_step_129 (by decide) ?_
            refine lv_iadd hx hb dX7_step_130 ?_
            obtain ⟨rfl, rfl⟩ := pair_at h
            exact reI X G dX7_step_131
          · have h := it_at c21 h
            refine lv_aload_n hx hb dX7_step_62 rfl (lv_at hl 1 rfl) ?_
            refine lv_ldc (v := -1000002) hx hb X.2.2.2.1 (X.2.2.2.2.1 _ q_980) dX7_step_63 ?_
            obtain ⟨r38, u39, er38, h⟩ := bnd_at h
            refine cvI (rest := []) X K G (c_X7_finds er38) q_976 my_X7_finds ⟨rfl, rfl⟩ ⟨Nat.le_of_ble_eq_true rfl, Nat.le_of_ble_eq_true rfl⟩ ⟨Nat.zero_le _, Nat.zero_le _⟩ 0 7 rfl rfl rfl rfl hl.1 rfl (Nat.le_of_ble_eq_true rfl) dX7_step_65 (fun H locs G => ?_)
            clear er38
            obtain ⟨rfl, rfl⟩ := pair_at h
            exact reI X G dX7_step_68
        · have h := it_at c18 h
          refine lv_aload_n hx hb dX7_step_41 rfl (lv_at hl 0 rfl) ?_
          refine lv_ldc (v := -1000001) hx hb X.2.2.2.1 (X.2.2.2.2.1 _ q_975) dX7_step_42 ?_
          obtain ⟨r40, u41, er40, h⟩ := bnd_at h
          refine cvI (rest := []) X K G (c_X7_finds er40) q_976 my_X7_finds ⟨rfl, rfl⟩ ⟨Nat.le_of_ble_eq_true rfl, Nat.le_of_ble_eq_true rfl⟩ ⟨Nat.zero_le _, Nat.zero_le _⟩ 0 7 rfl rfl rfl rfl hl.1 rfl (Nat.le_of_ble_eq_true rfl) dX7_step_44 (fun H locs G => ?_)
          clear er40
          obtain ⟨rfl, rfl⟩ := pair_at h
          exact reI X G dX7_step_47
noncomputable def f_X7_isStep (a1 : Int32) (a2 : Int32) (u0 : MS) : Option (Int32 × MS) :=
  bnd (f_X7_isThing a1 u0) fun r1 u2 =>
  (if r1 = 0 then
    some ((0 : Int32), u2)
  else
    bnd (f_X7_steps a1 u2) fun r4 u5 =>
    bnd (f_X7_in (a2.toInt64) (0 : Int64) ((r4 - (1 : Int32)).toInt64) u5) fun r6 u7 =>
    (if r6 = 0 then
      some ((0 : Int32), u7)
    else
      some ((1 : Int32), u7)))
set_option maxRecDepth 100000 in
set_option maxHeartbeats 4000000 in
theorem c_X7_isStep {a1 : Int32} {a2 : Int32} {u0 : MS} {r : Int32} {u' : MS} (h : f_X7_isStep a1 a2 u0 = some (r, u')) : MI l D cI cZ cQ adK adV A yX7_isStep cX7_isStep 3 (some .boolean) { frames := 2, cells := 0, slots := 0, locals := 46 } [.ref (ad 0), .int a1, .int a2] (wM cI ad) u0 r u' := by
  unfold f_X7_isStep at h
  refine entI (by decide) (Nat.le_of_ble_eq_true rfl) (fun p e s m below meth c ls X K G hl => ?_)
  have hl : lv_has ls 3 [(0, .ref (ad 0)), (1, .int a1), (2, .int a2)] := hl
  obtain ⟨hx, hb, -⟩ := id X
  generalize hH : s.heap = H at G
  subst hH
  refine lv_aload_n hx hb dX7_isStep_0 rfl (lv_at hl 0 rfl) ?_
  refine lv_iload_n hx hb dX7_isStep_1 rfl (lv_at hl 1 rfl) ?_
  obtain ⟨r1, u2, er1, h⟩ := bnd_at h
  refine cvI (rest := []) X K G (c_X7_isThing er1) q_1116 my_X7_isThing ⟨rfl, rfl⟩ ⟨Nat.le_of_ble_eq_true rfl, Nat.le_of_ble_eq_true rfl⟩ ⟨Nat.zero_le _, Nat.zero_le _⟩ 0 7 rfl rfl rfl rfl hl.1 rfl (Nat.le_of_ble_eq_true rfl) dX7_isStep_2 (fun H locs G => ?_)
  clear er1
  refine lv_if_eq (tgt := 29) hx hb dX7_isStep_5 (by decide) (fun c3 => ?_) (fun c3 => ?_)
  · have h := it_at c3 h
    refine lv_iconst (v := 0) hx hb dX7_isStep_29 (by decide) ?_
    obtain ⟨rfl, rfl⟩ := pair_at h
    exact reZ X G (Or.inl rfl) dX7_isStep_30
  · have h := if_at c3 h
    refine lv_iload_n hx hb dX7_isStep_8 rfl (lv_at hl 2 rfl) ?_
    refine lv_i2l hx hb dX7_isStep_9 rfl ?_
    refine lv_lconst (v := 0) hx hb dX7_isStep_10 (by decide) ?_
    refine lv_aload_n hx hb dX7_isStep_11 rfl (lv_at hl 0 rfl) ?_
    refine lv_iload_n hx hb dX7_isStep_12 rfl (lv_at hl 1 rfl) ?_
    obtain ⟨r4, u5, er4, h⟩ := bnd_at h
    refine cvI (rest := [.long (0 : Int64), .long (a2.toInt64)]) X K G (c_X7_steps er4) q_1121 my_X7_steps ⟨rfl, rfl⟩ ⟨Nat.le_of_ble_eq_true rfl, Nat.le_of_ble_eq_true rfl⟩ ⟨Nat.zero_le _, Nat.zero_le _⟩ 0 7 rfl rfl rfl rfl hl.1 rfl (Nat.le_of_ble_eq_true rfl) dX7_isStep_13 (fun H locs G => ?_)
    clear er4
    refine lv_iconst (v := 1) hx hb dX7_isStep_16 (by decide) ?_
    refine lv_isub hx hb dX7_isStep_17 ?_
    refine lv_i2l hx hb dX7_isStep_18 rfl ?_
    obtain ⟨r6, u7, er6, h⟩ := bnd_at h
    refine csI (rest := []) X K G (c_X7_in er6) q_972 my_X7_in ⟨rfl, rfl⟩ ⟨Nat.le_of_ble_eq_true rfl, Nat.le_of_ble_eq_true rfl⟩ ⟨Nat.zero_le _, Nat.zero_le _⟩ rfl hl.1 rfl (Nat.le_of_ble_eq_true rfl) dX7_isStep_19 (fun H locs G => ?_)
    clear er6
    refine lv_if_eq (tgt := 29) hx hb dX7_isStep_22 (by decide) (fun c8 => ?_) (fun c8 => ?_)
    · have h := it_at c8 h
      refine lv_iconst (v := 0) hx hb dX7_isStep_29 (by decide) ?_
      obtain ⟨rfl, rfl⟩ := pair_at h
      exact reZ X G (Or.inl rfl) dX7_isStep_30
    · have h := if_at c8 h
      refine lv_iconst (v := 1) hx hb dX7_isStep_25 (by decide) ?_
      refine lv_goto (tgt := 30) hx hb dX7_isStep_26 (by decide) ?_
      obtain ⟨rfl, rfl⟩ := pair_at h
      exact reZ X G (Or.inr rfl) dX7_isStep_30
noncomputable def f_X7_of (a1 : Int32) (a2 : Int32) (a3 : Int32) (u0 : MS) : Option (Int32 × MS) :=
  bnd (f_X7_at a1 a2 a3 u0) fun r1 u2 =>
  if r1 < 0 ∨ 247 ≤ r1.toNatClampNeg then none else
  some ((m_m u2) r1.toNatClampNeg, u2)
set_option maxRecDepth 100000 in
set_option maxHeartbeats 4000000 in
theorem c_X7_of {a1 : Int32} {a2 : Int32} {a3 : Int32} {u0 : MS} {r : Int32} {u' : MS} (h : f_X7_of a1 a2 a3 u0 = some (r, u')) : MI l D cI cZ cQ adK adV A yX7_of cX7_of 4 (some .int) { frames := 1, cells := 0, slots := 0, locals := 22 } [.ref (ad 0), .int a1, .int a2, .int a3] (wM cI ad) u0 r u' := by
  unfold f_X7_of at h
  refine entI (by decide) (Nat.le_of_ble_eq_true rfl) (fun p e s m below meth c ls X K G hl => ?_)
  have hl : lv_has ls 4 [(0, .ref (ad 0)), (1, .int a1), (2, .int a2), (3, .int a3)] := hl
  obtain ⟨hx, hb, -⟩ := id X
  generalize hH : s.heap = H at G
  subst hH
  refine lv_aload_n hx hb dX7_of_0 rfl (lv_at hl 0 rfl) ?_
  refine gM_0_0 X K G q_906 dX7_of_1 ?_
  refine lv_iload_n hx hb dX7_of_4 rfl (lv_at hl 1 rfl) ?_
  refine lv_iload_n hx hb dX7_of_5 rfl (lv_at hl 2 rfl) ?_
  refine lv_iload_n hx hb dX7_of_6 rfl (lv_at hl 3 rfl) ?_
  obtain ⟨r1, u2, er1, h⟩ := bnd_at h
  refine csI (rest := [.ref (ad 1)]) X K G (c_X7_at er1) q_1048 my_X7_at ⟨rfl, rfl⟩ ⟨Nat.le_of_ble_eq_true rfl, Nat.le_of_ble_eq_true rfl⟩ ⟨Nat.zero_le _, Nat.zero_le _⟩ rfl hl.1 rfl (Nat.le_of_ble_eq_true rfl) dX7_of_7 (fun H locs G => ?_)
  clear er1
  obtain ⟨g3, h⟩ := ck_at h
  refine lM_1 X K G g3 dX7_of_10 ?_
  obtain ⟨rfl, rfl⟩ := pair_at h
  exact reI X G dX7_of_11
noncomputable def f_X7_kindOf (a1 : Int32) (u0 : MS) : Option (Int32 × MS) :=
  nmv ((14 : Int32) + ((26 : Int32) * a1)) fun x1 =>
  if x1 < 0 ∨ 247 ≤ x1.toNatClampNeg then none else
  some ((m_m u0) x1.toNatClampNeg, u0)
set_option maxRecDepth 100000 in
set_option maxHeartbeats 4000000 in
theorem c_X7_kindOf {a1 : Int32} {u0 : MS} {r : Int32} {u' : MS} (h : f_X7_kindOf a1 u0 = some (r, u')) : MI l D cI cZ cQ adK adV A yX7_kindOf cX7_kindOf 2 (some .int) { frames := 0, cells := 0, slots := 0, locals := 0 } [.ref (ad 0), .int a1] (wM cI ad) u0 r u' := by
  unfold f_X7_kindOf at h
  refine entI (by decide) (Nat.le_of_ble_eq_true rfl) (fun p e s m below meth c ls X K G hl => ?_)
  have hl : lv_has ls 2 [(0, .ref (ad 0)), (1, .int a1)] := hl
  obtain ⟨hx, hb, -⟩ := id X
  generalize hH : s.heap = H at G
  subst hH
  refine lv_aload_n hx hb dX7_kindOf_0 rfl (lv_at hl 0 rfl) ?_
  refine gM_0_0 X K G q_906 dX7_kindOf_1 ?_
  refine lv_bipush (v := 14) hx hb dX7_kindOf_4 (by decide) ?_
  refine lv_bipush (v := 26) hx hb dX7_kindOf_6 (by decide) ?_
  refine lv_iload_n hx hb dX7_kindOf_8 rfl (lv_at hl 1 rfl) ?_
  refine lv_imul hx hb dX7_kindOf_9 ?_
  refine lv_iadd hx hb dX7_kindOf_10 ?_
  refine lv_topi (fun x1 ex1 => ?_)
  have h := nm_at ex1 h
  obtain ⟨g2, h⟩ := ck_at h
  refine lM_1 X K G g2 dX7_kindOf_11 ?_
  obtain ⟨rfl, rfl⟩ := pair_at h
  exact reI X G dX7_kindOf_12
noncomputable def f_X7_thingOf_41 (v1 : Int32) (v2 : Int32) (v3 : Int32) (u0 : MS) : Option (Int32 × MS) :=
  bnd (f_X7_isStep v1 v2 u0) fun r1 u2 =>
  (if r1 = 0 then
    bnd (f_X7_finds (-1000001 : Int32) u2) fun r4 u5 =>
    some (r4, u5)
  else
    bnd (f_X7_in (v3.toInt64) (0 : Int64) (2 : Int64) u2) fun r6 u7 =>
    (if r6 = 0 then
      bnd (f_X7_finds (-1000001 : Int32) u7) fun r9 u10 =>
      some (r9, u10)
    else
      bnd (f_X7_of v1 v2 v3 u7) fun r11 u12 =>
      some (r11, u12)))
set_option maxRecDepth 100000 in
set_option maxHeartbeats 4000000 in
theorem b_X7_thingOf_41 (X : cx p s m args meth c cX7_thingOf 4 RX7 (some .int)) (K : kx D cI cZ cQ adK adV A s s.heap) {v1 : Int32} {v2 : Int32} {v3 : Int32} {u0 : MS} (G : wg D A s.heap H locs (wM cI ad u0)) (hl : lv_has ls 4 [(0, .ref (ad 0)), (1, .int v1), (2, .int v2), (3, .int v3)]) {r : Int32} {u' : MS} (h : f_X7_thingOf_41 v1 v2 v3 u0 = some (r, u')) : W p l e { frames := 3, cells := 0, slots := 0, locals := 68 } s m args below meth c H locs 0 0 (qI D A (wM cI ad) below args s r u') (F0 m 41 ls []) := by
  unfold f_X7_thingOf_41 at h
  obtain ⟨hx, hb, -⟩ := id X
  refine lv_aload_n hx hb dX7_thingOf_41 rfl (lv_at hl 0 rfl) ?_
  refine lv_iload_n hx hb dX7_thingOf_42 rfl (lv_at hl 1 rfl) ?_
  refine lv_iload_n hx hb dX7_thingOf_43 rfl (lv_at hl 2 rfl) ?_
  obtain ⟨r1, u2, er1, h⟩ := bnd_at h
  refine cvI (rest := []) X K G (c_X7_isStep er1) q_1134 my_X7_isStep ⟨rfl, rfl⟩ ⟨Nat.le_of_ble_eq_true rfl, Nat.le_of_ble_eq_true rfl⟩ ⟨Nat.zero_le _, Nat.zero_le _⟩ 0 7 rfl rfl rfl rfl hl.1 rfl (Nat.le_of_ble_eq_true rfl) dX7_thingOf_44 (fun H locs G => ?_)
  clear er1
  refine lv_if_eq (tgt := 72) hx hb dX7_thingOf_47 (by decide) (fun c3 => ?_) (fun c3 => ?_)
  · have h := it_at c3 h
    refine lv_aload_n hx hb dX7_thingOf_72 rfl (lv_at hl 0 rfl) ?_
    refine lv_ldc (v := -1000001) hx hb X.2.2.2.1 (X.2.2.2.2.1 _ q_975) dX7_thingOf_73 ?_
    obtain ⟨r4, u5, er4, h⟩ := bnd_at h
    refine cvI (rest := []) X K G (c_X7_finds er4) q_976 my_X7_finds ⟨rfl, rfl⟩ ⟨Nat.le_of_ble_eq_true rfl, Nat.le_of_ble_eq_true rfl⟩ ⟨Nat.zero_le _, Nat.zero_le _⟩ 0 7 rfl rfl rfl rfl hl.1 rfl (Nat.le_of_ble_eq_true rfl) dX7_thingOf_75 (fun H locs G => ?_)
    clear er4
    obtain ⟨rfl, rfl⟩ := pair_at h
    exact reI X G dX7_thingOf_78
  · have h := if_at c3 h
    refine lv_iload_n hx hb dX7_thingOf_50 rfl (lv_at hl 3 rfl) ?_
    refine lv_i2l hx hb dX7_thingOf_51 rfl ?_
    refine lv_lconst (v := 0) hx hb dX7_thingOf_52 (by decide) ?_
    refine lv_ldc2 (v := 2) hx hb X.2.2.2.1 (X.2.2.2.2.1 _ q_1138) dX7_thingOf_53 ?_
    obtain ⟨r6, u7, er6, h⟩ := bnd_at h
    refine csI (rest := []) X K G (c_X7_in er6) q_972 my_X7_in ⟨rfl, rfl⟩ ⟨Nat.le_of_ble_eq_true rfl, Nat.le_of_ble_eq_true rfl⟩ ⟨Nat.zero_le _, Nat.zero_le _⟩ rfl hl.1 rfl (Nat.le_of_ble_eq_true rfl) dX7_thingOf_56 (fun H locs G => ?_)
    clear er6
    refine lv_if_eq (tgt := 72) hx hb dX7_thingOf_59 (by decide) (fun c8 => ?_) (fun c8 => ?_)
    · have h := it_at c8 h
      refine lv_aload_n hx hb dX7_thingOf_72 rfl (lv_at hl 0 rfl) ?_
      refine lv_ldc (v := -1000001) hx hb X.2.2.2.1 (X.2.2.2.2.1 _ q_975) dX7_thingOf_73 ?_
      obtain ⟨r9, u10, er9, h⟩ := bnd_at h
      refine cvI (rest := []) X K G (c_X7_finds er9) q_976 my_X7_finds ⟨rfl, rfl⟩ ⟨Nat.le_of_ble_eq_true rfl, Nat.le_of_ble_eq_true rfl⟩ ⟨Nat.zero_le _, Nat.zero_le _⟩ 0 7 rfl rfl rfl rfl hl.1 rfl (Nat.le_of_ble_eq_true rfl) dX7_thingOf_75 (fun H locs G => ?_)
      clear er9
      obtain ⟨rfl, rfl⟩ := pair_at h
      exact reI X G dX7_thingOf_78
    · have h := if_at c8 h
      refine lv_aload_n hx hb dX7_thingOf_62 rfl (lv_at hl 0 rfl) ?_
      refine lv_iload_n hx hb dX7_thingOf_63 rfl (lv_at hl 1 rfl) ?_
      refine lv_iload_n hx hb dX7_thingOf_64 rfl (lv_at hl 2 rfl) ?_
      refine lv_iload_n hx hb dX7_thingOf_65 rfl (lv_at hl 3 rfl) ?_
      obtain ⟨r11, u12, er11, h⟩ := bnd_at h
      refine cvI (rest := []) X K G (c_X7_of er11) q_1139 my_X7_of ⟨rfl, rfl⟩ ⟨Nat.le_of_ble_eq_true rfl, Nat.le_of_ble_eq_true rfl⟩ ⟨Nat.zero_le _, Nat.zero_le _⟩ 0 7 rfl rfl rfl rfl hl.1 rfl (Nat.le_of_ble_eq_true rfl) dX7_thingOf_66 (fun H locs G => ?_)
      clear er11
      refine lv_goto (tgt := 78) hx hb dX7_thingOf_69 (by decide) ?_
      obtain ⟨rfl, rfl⟩ := pair_at h
      exact reI X G dX7_thingOf_78
noncomputable def f_X7_thingOf (a1 : Int32) (a2 : Int32) (a3 : Int32) (u0 : MS) : Option (Int32 × MS) :=
  bnd (f_X7_isThing a1 u0) fun r1 u2 =>
  (if r1 = 0 then
    f_X7_thingOf_41 a1 a2 a3 u2
  else
    bnd (f_X7_in (a2.toInt64) (-2 : Int64) (-1 : Int64) u2) fun r4 u5 =>
    (if r4 = 0 then
      f_X7_thingOf_41 a1 a2 a3 u5
    else
      (if a2 = (-1 : Int32) then
        bnd (f_X7_kindOf a1 u5) fun r10 u11 =>
        some (r10, u11)
      else
        bnd (f_X7_steps a1 u5) fun r8 u9 =>
        some (r8, u9))))
set_option maxRecDepth 100000 in
set_option maxHeartbeats 4000000 in
theorem c_X7_thingOf {a1 : Int32} {a2 : Int32} {a3 : Int32} {u0 : MS} {r : Int32} {u' : MS} (h : f_X7_thingOf a1 a2 a3 u0 = some (r, u')) : MI l D cI cZ cQ adK adV A yX7_thingOf cX7_thingOf 4 (some .int) { frames := 3, cells := 0, slots := 0, locals := 68 } [.ref (ad 0), .int a1, .int a2, .int a3] (wM cI ad) u0 r u' := by
  unfold f_X7_thingOf at h
  refine entI (by decide) (Nat.le_of_ble_eq_true rfl) (fun p e s m below meth c ls X K G hl => ?_)
  have hl : lv_has ls 4 [(0, .ref (ad 0)), (1, .int a1), (2, .int a2), (3, .int a3)] := hl
  obtain ⟨hx, hb, -⟩ := id X
  generalize hH : s.heap = H at G
  subst hH
  refine lv_aload_n hx hb dX7_thingOf_0 rfl (lv_at hl 0 rfl) ?_
  refine lv_iload_n hx hb dX7_thingOf_1 rfl (lv_at hl 1 rfl) ?_
  obtain ⟨r1, u2, er1, h⟩ := bnd_at h
  refine cvI (rest := []) X K G (c_X7_isThing er1) q_1116 my_X7_isThing ⟨rfl, rfl⟩ ⟨Nat.le_of_ble_eq_true rfl, Nat.le_of_ble_eq_true rfl⟩ ⟨Nat.zero_le _, Nat.zero_le _⟩ 0 7 rfl rfl rfl rfl hl.1 rfl (Nat.le_of_ble_eq_true rfl) dX7_thingOf_2 (fun H locs G => ?_)
  clear er1
  refine lv_if_eq (tgt := 41) hx hb dX7_thingOf_5 (by decide) (fun c3 => ?_) (fun c3 => ?_)
  · have h := it_at c3 h
    exact b_X7_thingOf_41 X K G (lv_sub hl [0, 1, 2, 3] rfl) h
  · have h := if_at c3 h
    refine lv_iload_n hx hb dX7_thingOf_8 rfl (lv_at hl 2 rfl) ?_
    refine lv_i2l hx hb dX7_thingOf_9 rfl ?_
    refine lv_ldc2 (v := -2) hx hb X.2.2.2.1 (X.2.2.2.2.1 _ q_1129) dX7_thingOf_10 ?_
    refine lv_ldc2 (v := -1) hx hb X.2.2.2.1 (X.2.2.2.2.1 _ q_1069) dX7_thingOf_13 ?_
    obtain ⟨r4, u5, er4, h⟩ := bnd_at h
    refine csI (rest := []) X K G (c_X7_in er4) q_972 my_X7_in ⟨rfl, rfl⟩ ⟨Nat.le_of_ble_eq_true rfl, Nat.le_of_ble_eq_true rfl⟩ ⟨Nat.zero_le _, Nat.zero_le _⟩ rfl hl.1 rfl (Nat.le_of_ble_eq_true rfl) dX7_thingOf_16 (fun H locs G => ?_)
    clear er4
    refine lv_if_eq (tgt := 41) hx hb dX7_thingOf_19 (by decide) (fun c6 => ?_) (fun c6 => ?_)
    · have h := it_at c6 h
      exact b_X7_thingOf_41 X K G (lv_sub hl [0, 1, 2, 3] rfl) h
    · have h := if_at c6 h
      refine lv_iload_n hx hb dX7_thingOf_22 rfl (lv_at hl 2 rfl) ?_
      refine lv_iconst (v := -1) hx hb dX7_thingOf_23 (by decide) ?_
      refine lv_icmp_ne (tgt := 35) hx hb dX7_thingOf_24 (by decide) (fun c7 => ?_) (fun c7 => ?_)
      · have h := if_at c7 h
        refine lv_aload_n hx hb dX7_thingOf_35 rfl (lv_at hl 0 rfl) ?_
        refine lv_iload_n hx hb dX7_thingOf_36 rfl (lv_at hl 1 rfl) ?_
        obtain ⟨r8, u9, er8, h⟩ := bnd_at h
        refine cvI (rest := []) X K G (c_X7_steps er8) q_1121 my_X7_steps ⟨rfl, rfl⟩ ⟨Nat.le_of_ble_eq_true rfl, Nat.le_of_ble_eq_true rfl⟩ ⟨Nat.zero_le _, Nat.zero_le _⟩ 0 7 rfl rfl rfl rfl hl.1 rfl (Nat.le_of_ble_eq_true rfl) dX7_thingOf_37 (fun H locs G => ?_)
        clear er8
        obtain ⟨rfl, rfl⟩ := pair_at h
        exact reI X G dX7_thingOf_40
      · have h := it_at c7 h
        refine lv_aload_n hx hb dX7_thingOf_27 rfl (lv_at hl 0 rfl) ?_
        refine lv_iload_n hx hb dX7_thingOf_28 rfl (lv_at hl 1 rfl) ?_
        obtain ⟨r10, u11, er10, h⟩ := bnd_at h
        refine cvI (rest := []) X K G (c_X7_kindOf er10) q_1130 my_X7_kindOf ⟨rfl, rfl⟩ ⟨Nat.le_of_ble_eq_true rfl, Nat.le_of_ble_eq_true rfl⟩ ⟨Nat.zero_le _, Nat.zero_le _⟩ 0 7 rfl rfl rfl rfl hl.1 rfl (Nat.le_of_ble_eq_true rfl) dX7_thingOf_29 (fun H locs G => ?_)
        clear er10
        refine lv_goto (tgt := 40) hx hb dX7_thingOf_32 (by decide) ?_
        obtain ⟨rfl, rfl⟩ := pair_at h
        exact reI X G dX7_thingOf_40
noncomputable def f_X7_turn (a1 : Int32) (a2 : Int32) (u0 : MS) : Option (Int32 × MS) :=
  bnd (f_X7_isThing a1 u0) fun r1 u2 =>
  (if r1 = 0 then
    bnd (f_X7_finds (-1000001 : Int32) u2) fun r4 u5 =>
    some (r4, u5)
  else
    bnd (f_X7_isKind a2 u2) fun r6 u7 =>
    (if r6 = 0 then
      bnd (f_X7_finds (-1000001 : Int32) u7) fun r9 u10 =>
      some (r9, u10)
    else
      bnd (f_X7_becomes ((14 : Int32) + ((26 : Int32) * a1)) a2 u7) fun r11 u12 =>
      some (r11, u12)))
set_option maxRecDepth 100000 in
set_option maxHeartbeats 4000000 in
theorem c_X7_turn {a1 : Int32} {a2 : Int32} {u0 : MS} {r : Int32} {u' : MS} (h : f_X7_turn a1 a2 u0 = some (r, u')) : MI l D cI cZ cQ adK adV A yX7_turn cX7_turn 3 (some .int) { frames := 2, cells := 0, slots := 0, locals := 46 } [.ref (ad 0), .int a1, .int a2] (wM cI ad) u0 r u' := by
  unfold f_X7_turn at h
  refine entI (by decide) (Nat.le_of_ble_eq_true rfl) (fun p e s m below meth c ls X K G hl => ?_)
  have hl : lv_has ls 3 [(0, .ref (ad 0)), (1, .int a1), (2, .int a2)] := hl
  obtain ⟨hx, hb, -⟩ := id X
  generalize hH : s.heap = H at G
  subst hH
  refine lv_aload_n hx hb dX7_turn_0 rfl (lv_at hl 0 rfl) ?_
  refine lv_iload_n hx hb dX7_turn_1 rfl (lv_at hl 1 rfl) ?_
  obtain ⟨r1, u2, er1, h⟩ := bnd_at h
  refine cvI (rest := []) X K G (c_X7_isThing er1) q_1116 my_X7_isThing ⟨rfl, rfl⟩ ⟨Nat.le_of_ble_eq_true rfl, Nat.le_of_ble_eq_true rfl⟩ ⟨Nat.zero_le _, Nat.zero_le _⟩ 0 7 rfl rfl rfl rfl hl.1 rfl (Nat.le_of_ble_eq_true rfl) dX7_turn_2 (fun H locs G => ?_)
  clear er1
  refine lv_if_eq (tgt := 30) hx hb dX7_turn_5 (by decide) (fun c3 => ?_) (fun c3 => ?_)
  · have h := it_at c3 h
    refine lv_aload_n hx hb dX7_turn_30 rfl (lv_at hl 0 rfl) ?_
    refine lv_ldc (v := -1000001) hx hb X.2.2.2.1 (X.2.2.2.2.1 _ q_975) dX7_turn_31 ?_
    obtain ⟨r4, u5, er4, h⟩ := bnd_at h
    refine cvI (rest := []) X K G (c_X7_finds er4) q_976 my_X7_finds ⟨rfl, rfl⟩ ⟨Nat.le_of_ble_eq_true rfl, Nat.le_of_ble_eq_true rfl⟩ ⟨Nat.zero_le _, Nat.zero_le _⟩ 0 7 rfl rfl rfl rfl hl.1 rfl (Nat.le_of_ble_eq_true rfl) dX7_turn_33 (fun H locs G => ?_)
    clear er4
    obtain ⟨rfl, rfl⟩ := pair_at h
    exact reI X G dX7_turn_36
  · have h := if_at c3 h
    refine lv_iload_n hx hb dX7_turn_8 rfl (lv_at hl 2 rfl) ?_
    obtain ⟨r6, u7, er6, h⟩ := bnd_at h
    refine csI (rest := []) X K G (c_X7_isKind er6) q_1107 my_X7_isKind ⟨rfl, rfl⟩ ⟨Nat.le_of_ble_eq_true rfl, Nat.le_of_ble_eq_true rfl⟩ ⟨Nat.zero_le _, Nat.zero_le _⟩ rfl hl.1 rfl (Nat.le_of_ble_eq_true rfl) dX7_turn_9 (fun H locs G => ?_)
    clear er6
    refine lv_if_eq (tgt := 30) hx hb dX7_turn_12 (by decide) (fun c8 => ?_) (fun c8 => ?_)
    · have h := it_at c8 h
      refine lv_aload_n hx hb dX7_turn_30 rfl (lv_at hl 0 rfl) ?_
      refine lv_ldc (v := -1000001) hx hb X.2.2.2.1 (X.2.2.2.2.1 _ q_975) dX7_turn_31 ?_
      obtain ⟨r9, u10, er9, h⟩ := bnd_at h
      refine cvI (rest := []) X K G (c_X7_finds er9) q_976 my_X7_finds ⟨rfl, rfl⟩ ⟨Nat.le_of_ble_eq_true rfl, Nat.le_of_ble_eq_true rfl⟩ ⟨Nat.zero_le _, Nat.zero_le _⟩ 0 7 rfl rfl rfl rfl hl.1 rfl (Nat.le_of_ble_eq_true rfl) dX7_turn_33 (fun H locs G => ?_)
      clear er9
      obtain ⟨rfl, rfl⟩ := pair_at h
      exact reI X G dX7_turn_36
    · have h := if_at c8 h
      refine lv_aload_n hx hb dX7_turn_15 rfl (lv_at hl 0 rfl) ?_
      refine lv_bipush (v := 14) hx hb dX7_turn_16 (by decide) ?_
      refine lv_bipush (v := 26) hx hb dX7_turn_18 (by decide) ?_
      refine lv_iload_n hx hb dX7_turn_20 rfl (lv_at hl 1 rfl) ?_
      refine lv_imul hx hb dX7_turn_21 ?_
      refine lv_iadd hx hb dX7_turn_22 ?_
      refine lv_iload_n hx hb dX7_turn_23 rfl (lv_at hl 2 rfl) ?_
      obtain ⟨r11, u12, er11, h⟩ := bnd_at h
      refine cvI (rest := []) X K G (c_X7_becomes er11) q_1061 my_X7_becomes ⟨rfl, rfl⟩ ⟨Nat.le_of_ble_eq_true rfl, Nat.le_of_ble_eq_true rfl⟩ ⟨Nat.zero_le _, Nat.zero_le _⟩ 0 7 rfl rfl rfl rfl hl.1 rfl (Nat.le_of_ble_eq_true rfl) dX7_turn_24 (fun H locs G => ?_)
      clear er11
      refine lv_goto (tgt := 36) hx hb dX7_turn_27 (by decide) ?_
      obtain ⟨rfl, rfl⟩ := pair_at h
      exact reI X G dX7_turn_36
noncomputable def f_X7_change_54 (v1 : Int32) (v2 : Int32) (v3 : Int32) (v4 : Int32) (k0 : Int32) (u0 : MS) : Option (Int32 × MS) :=
  bnd (f_X7_isStep v1 v2 u0) fun r1 u2 =>
  (if r1 = 0 then
    bnd (f_X7_finds (-1000001 : Int32) u2) fun r4 u5 =>
    some (r4, u5)
  else
    (if k0 = 0 then
      bnd (f_X7_finds (-1000001 : Int32) u2) fun r7 u8 =>
      some (r7, u8)
    else
      bnd (f_X7_at v1 v2 v3 u2) fun r9 u10 =>
      bnd (f_X7_becomes r9 v4 u10) fun r11 u12 =>
      some (r11, u12)))
set_option maxRecDepth 100000 in
set_option maxHeartbeats 4000000 in
theorem b_X7_change_54 (X : cx p s m args meth c cX7_change 6 RX7 (some .int)) (K : kx D cI cZ cQ adK adV A s s.heap) {v1 : Int32} {v2 : Int32} {v3 : Int32} {v4 : Int32} {k0 : Int32} {u0 : MS} (G : wg D A s.heap H locs (wM cI ad u0)) (hl : lv_has ls 6 [(0, .ref (ad 0)), (1, .int v1), (2, .int v2), (3, .int v3), (4, .int v4)]) {r : Int32} {u' : MS} (h : f_X7_change_54 v1 v2 v3 v4 k0 u0 = some (r, u')) : W p l e { frames := 3, cells := 0, slots := 0, locals := 68 } s m args below meth c H locs 0 0 (qI D A (wM cI ad) below args s r u') (F0 m 54 ls [.int k0]) := by
  unfold f_X7_change_54 at h
  obtain ⟨hx, hb, -⟩ := id X
  refine lv_istore (lv' := [(5, .int k0), (0, .ref (ad 0)), (1, .int v1), (2, .int v2), (3, .int v3), (4, .int v4)]) hx hb dX7_change_54 hl (by decide) rfl (fun ls hl => ?_)
  refine lv_aload_n hx hb dX7_change_56 rfl (lv_at hl 1 rfl) ?_
  refine lv_iload_n hx hb dX7_change_57 rfl (lv_at hl 2 rfl) ?_
  refine lv_iload_n hx hb dX7_change_58 rfl (lv_at hl 3 rfl) ?_
  obtain ⟨r1, u2, er1, h⟩ := bnd_at h
  refine cvI (rest := []) X K G (c_X7_isStep er1) q_1134 my_X7_isStep ⟨rfl, rfl⟩ ⟨Nat.le_of_ble_eq_true rfl, Nat.le_of_ble_eq_true rfl⟩ ⟨Nat.zero_le _, Nat.zero_le _⟩ 0 7 rfl rfl rfl rfl hl.1 rfl (Nat.le_of_ble_eq_true rfl) dX7_change_59 (fun H locs G => ?_)
  clear er1
  refine lv_if_eq (tgt := 85) hx hb dX7_change_62 (by decide) (fun c3 => ?_) (fun c3 => ?_)
  · have h := it_at c3 h
    refine lv_aload_n hx hb dX7_change_85 rfl (lv_at hl 1 rfl) ?_
    refine lv_ldc (v := -1000001) hx hb X.2.2.2.1 (X.2.2.2.2.1 _ q_975) dX7_change_86 ?_
    obtain ⟨r4, u5, er4, h⟩ := bnd_at h
    refine cvI (rest := []) X K G (c_X7_finds er4) q_976 my_X7_finds ⟨rfl, rfl⟩ ⟨Nat.le_of_ble_eq_true rfl, Nat.le_of_ble_eq_true rfl⟩ ⟨Nat.zero_le _, Nat.zero_le _⟩ 0 7 rfl rfl rfl rfl hl.1 rfl (Nat.le_of_ble_eq_true rfl) dX7_change_88 (fun H locs G => ?_)
    clear er4
    obtain ⟨rfl, rfl⟩ := pair_at h
    exact reI X G dX7_change_91
  · have h := if_at c3 h
    refine lv_iload hx hb dX7_change_65 (lv_at hl 0 rfl) ?_
    refine lv_if_eq (tgt := 85) hx hb dX7_change_67 (by decide) (fun c6 => ?_) (fun c6 => ?_)
    · have h := it_at c6 h
      refine lv_aload_n hx hb dX7_change_85 rfl (lv_at hl 1 rfl) ?_
      refine lv_ldc (v := -1000001) hx hb X.2.2.2.1 (X.2.2.2.2.1 _ q_975) dX7_change_86 ?_
      obtain ⟨r7, u8, er7, h⟩ := bnd_at h
      refine cvI (rest := []) X K G (c_X7_finds er7) q_976 my_X7_finds ⟨rfl, rfl⟩ ⟨Nat.le_of_ble_eq_true rfl, Nat.le_of_ble_eq_true rfl⟩ ⟨Nat.zero_le _, Nat.zero_le _⟩ 0 7 rfl rfl rfl rfl hl.1 rfl (Nat.le_of_ble_eq_true rfl) dX7_change_88 (fun H locs G => ?_)
      clear er7
      obtain ⟨rfl, rfl⟩ := pair_at h
      exact reI X G dX7_change_91
    · have h := if_at c6 h
      refine lv_aload_n hx hb dX7_change_70 rfl (lv_at hl 1 rfl) ?_
      refine lv_iload_n hx hb dX7_change_71 rfl (lv_at hl 2 rfl) ?_
      refine lv_iload_n hx hb dX7_change_72 rfl (lv_at hl 3 rfl) ?_
      refine lv_iload_n hx hb dX7_change_73 rfl (lv_at hl 4 rfl) ?_
      obtain ⟨r9, u10, er9, h⟩ := bnd_at h
      refine csI (rest := [.ref (ad 0)]) X K G (c_X7_at er9) q_1048 my_X7_at ⟨rfl, rfl⟩ ⟨Nat.le_of_ble_eq_true rfl, Nat.le_of_ble_eq_true rfl⟩ ⟨Nat.zero_le _, Nat.zero_le _⟩ rfl hl.1 rfl (Nat.le_of_ble_eq_true rfl) dX7_change_74 (fun H locs G => ?_)
      clear er9
      refine lv_iload hx hb dX7_change_77 (lv_at hl 5 rfl) ?_
      obtain ⟨r11, u12, er11, h⟩ := bnd_at h
      refine cvI (rest := []) X K G (c_X7_becomes er11) q_1061 my_X7_becomes ⟨rfl, rfl⟩ ⟨Nat.le_of_ble_eq_true rfl, Nat.le_of_ble_eq_true rfl⟩ ⟨Nat.zero_le _, Nat.zero_le _⟩ 0 7 rfl rfl rfl rfl hl.1 rfl (Nat.le_of_ble_eq_true rfl) dX7_change_79 (fun H locs G => ?_)
      clear er11
      refine lv_goto (tgt := 91) hx hb dX7_change_82 (by decide) ?_
      obtain ⟨rfl, rfl⟩ := pair_at h
      exact reI X G dX7_change_91
noncomputable def f_X7_change (a1 : Int32) (a2 : Int32) (a3 : Int32) (a4 : Int32) (u0 : MS) : Option (Int32 × MS) :=
  (if a3 = 0 then
    bnd (f_X7_isTool a4 u0) fun r9 u10 =>
    f_X7_change_54 a1 a2 a3 a4 r9 u10
  else
    (if a3 = (1 : Int32) then
      bnd (f_X7_in (a4.toInt64) (1 : Int64) (8 : Int64) u0) fun r7 u8 =>
      f_X7_change_54 a1 a2 a3 a4 r7 u8
    else
      (if a3 = (2 : Int32) then
        bnd (f_X7_in (a4.toInt64) (0 : Int64) (99 : Int64) u0) fun r4 u5 =>
        (if r4 = 0 then
          f_X7_change_54 a1 a2 a3 a4 (0 : Int32) u5
        else
          f_X7_change_54 a1 a2 a3 a4 (1 : Int32) u5)
      else
        f_X7_change_54 a1 a2 a3 a4 (0 : Int32) u0)))
set_option maxRecDepth 100000 in
set_option maxHeartbeats 4000000 in
theorem c_X7_change {a1 : Int32} {a2 : Int32} {a3 : Int32} {a4 : Int32} {u0 : MS} {r : Int32} {u' : MS} (h : f_X7_change a1 a2 a3 a4 u0 = some (r, u')) : MI l D cI cZ cQ adK adV A yX7_change cX7_change 6 (some .int) { frames := 3, cells := 0, slots := 0, locals := 68 } [.ref (ad 0), .int a1, .int a2, .int a3, .int a4] (wM cI ad) u0 r u' := by
  unfold f_X7_change at h
  refine entI (by decide) (Nat.le_of_ble_eq_true rfl) (fun p e s m below meth c ls X K G hl => ?_)
  have hl : lv_has ls 6 [(0, .ref (ad 0)), (1, .int a1), (2, .int a2), (3, .int a3), (4, .int a4)] := hl
  obtain ⟨hx, hb, -⟩ := id X
  generalize hH : s.heap = H at G
  subst hH
  refine lv_iload_n hx hb dX7_change_0 rfl (lv_at hl 3 rfl) ?_
  refine lv_if_ne (tgt := 13) hx hb dX7_change_1 (by decide) (fun c1 => ?_) (fun c1 => ?_)
  · have h := if_at c1 h
    refine lv_iload_n hx hb dX7_change_13 rfl (lv_at hl 3 rfl) ?_
    refine lv_iconst (v := 1) hx hb dX7_change_14 (by decide) ?_
    refine lv_icmp_ne (tgt := 31) hx hb dX7_change_15 (by decide) (fun c2 => ?_) (fun c2 => ?_)
    · have h := if_at c2 h
      refine lv_iload_n hx hb dX7_change_31 rfl (lv_at hl 3 rfl) ?_
      refine lv_iconst (v := 2) hx hb dX7_change_32 (by decide) ?_
      refine lv_icmp_ne (tgt := 53) hx hb dX7_change_33 (by decide) (fun c3 => ?_) (fun c3 => ?_)
      · have h := if_at c3 h
        refine lv_iconst (v := 0) hx hb dX7_change_53 (by decide) ?_
        exact b_X7_change_54 X K G (lv_sub hl [0, 1, 2, 3, 4] rfl) h
      · have h := it_at c3 h
        refine lv_iload hx hb dX7_change_36 (lv_at hl 4 rfl) ?_
        refine lv_i2l hx hb dX7_change_38 rfl ?_
        refine lv_lconst (v := 0) hx hb dX7_change_39 (by decide) ?_
        refine lv_ldc2 (v := 99) hx hb X.2.2.2.1 (X.2.2.2.2.1 _ q_1120) dX7_change_40 ?_
        obtain ⟨r4, u5, er4, h⟩ := bnd_at h
        refine csI (rest := []) X K G (c_X7_in er4) q_972 my_X7_in ⟨rfl, rfl⟩ ⟨Nat.le_of_ble_eq_true rfl, Nat.le_of_ble_eq_true rfl⟩ ⟨Nat.zero_le _, Nat.zero_le _⟩ rfl hl.1 rfl (Nat.le_of_ble_eq_true rfl) dX7_change_43 (fun H locs G => ?_)
        clear er4
        refine lv_if_eq (tgt := 53) hx hb dX7_change_46 (by decide) (fun c6 => ?_) (fun c6 => ?_)
        · have h := it_at c6 h
          refine lv_iconst (v := 0) hx hb dX7_change_53 (by decide) ?_
          exact b_X7_change_54 X K G (lv_sub hl [0, 1, 2, 3, 4] rfl) h
        · have h := if_at c6 h
          refine lv_iconst (v := 1) hx hb dX7_change_49 (by decide) ?_
          refine lv_goto (tgt := 54) hx hb dX7_change_50 (by decide) ?_
          exact b_X7_change_54 X K G (lv_sub hl [0, 1, 2, 3, 4] rfl) h
    · have h := it_at c2 h
      refine lv_iload hx hb dX7_change_18 (lv_at hl 4 rfl) ?_
      refine lv_i2l hx hb dX7_change_20 rfl ?_
      refine lv_lconst (v := 1) hx hb dX7_change_21 (by decide) ?_
      refine lv_ldc2 (v := 8) hx hb X.2.2.2.1 (X.2.2.2.2.1 _ q_1111) dX7_change_22 ?_
      obtain ⟨r7, u8, er7, h⟩ := bnd_at h
      refine csI (rest := []) X K G (c_X7_in er7) q_972 my_X7_in ⟨rfl, rfl⟩ ⟨Nat.le_of_ble_eq_true rfl, Nat.le_of_ble_eq_true rfl⟩ ⟨Nat.zero_le _, Nat.zero_le _⟩ rfl hl.1 rfl (Nat.le_of_ble_eq_true rfl) dX7_change_25 (fun H locs G => ?_)
      clear er7
      refine lv_goto (tgt := 54) hx hb dX7_change_28 (by decide) ?_
      exact b_X7_change_54 X K G (lv_sub hl [0, 1, 2, 3, 4] rfl) h
  · have h := it_at c1 h
    refine lv_aload_n hx hb dX7_change_4 rfl (lv_at hl 0 rfl) ?_
    refine lv_iload hx hb dX7_change_5 (lv_at hl 4 rfl) ?_
    obtain ⟨r9, u10, er9, h⟩ := bnd_at h
    refine cvI (rest := []) X K G (c_X7_isTool er9) q_1080 my_X7_isTool ⟨rfl, rfl⟩ ⟨Nat.le_of_ble_eq_true rfl, Nat.le_of_ble_eq_true rfl⟩ ⟨Nat.zero_le _, Nat.zero_le _⟩ 0 7 rfl rfl rfl rfl hl.1 rfl (Nat.le_of_ble_eq_true rfl) dX7_change_7 (fun H locs G => ?_)
    clear er9
    refine lv_goto (tgt := 54) hx hb dX7_change_10 (by decide) ?_
    exact b_X7_change_54 X K G (lv_sub hl [0, 1, 2, 3, 4] rfl) h
end WALK_ref0
