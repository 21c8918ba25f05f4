section WALK_ref0
variable {p : Program} {l : Launch} {e : Env} {s : State} {m : MethodId} {args : Array Value} {below : List Frame} {meth : Method} {c : Code} {H : Heap} {locs : List Loc} {Q : State → Prop} {D : va_G} {cI cZ cQ : ClassId} {adK adV ad : Nat → Nat} {A : Nat → Prop} {ls : Array Slot}
noncomputable def f_X7_in (a0 : Int64) (a2 : Int64) (a4 : Int64) (u0 : MS) : Option (Int32 × MS) :=
  (if (lg_cmp a0 a2) < 0 then
    some ((0 : Int32), u0)
  else
    (if 0 < (lg_cmp a0 a4) then
      some ((0 : Int32), u0)
    else
      some ((1 : Int32), u0)))
set_option maxRecDepth 100000 in
set_option maxHeartbeats 4000000 in
theorem c_X7_in {a0 : Int64} {a2 : Int64} {a4 : Int64} {u0 : MS} {r : Int32} {u' : MS} (h : f_X7_in a0 a2 a4 u0 = some (r, u')) : MI l D cI cZ cQ adK adV A yX7_in cX7_in 6 (some .boolean) { frames := 0, cells := 0, slots := 0, locals := 0 } [.long a0, .long a2, .long a4] (wM cI ad) u0 r u' := by
  unfold f_X7_in at h
  refine entI (by decide) (Nat.le_of_ble_eq_true rfl) (fun p e s m below meth c ls X K G hl => ?_)
  have hl : lv_has ls 6 [(0, .long a0), (2, .long a2), (4, .long a4)] := hl
  obtain ⟨hx, hb, -⟩ := id X
  generalize hH : s.heap = H at G
  subst hH
  refine lv_lload_n hx hb dX7_in_0 rfl (lv_at hl 0 rfl) ?_
  refine lv_lload_n hx hb dX7_in_1 rfl (lv_at hl 1 rfl) ?_
  refine W.lcmp hx hb dX7_in_2 ?_
  refine lv_if_lt (tgt := 17) hx hb dX7_in_3 (by decide) (fun c1 => ?_) (fun c1 => ?_)
  · have h := it_at c1 h
    refine lv_iconst (v := 0) hx hb dX7_in_17 (by decide) ?_
    obtain ⟨rfl, rfl⟩ := pair_at h
    exact reZ X G (Or.inl rfl) dX7_in_18
  · have h := if_at c1 h
    refine lv_lload_n hx hb dX7_in_6 rfl (lv_at hl 0 rfl) ?_
    refine lv_lload hx hb dX7_in_7 (lv_at hl 2 rfl) ?_
    refine W.lcmp hx hb dX7_in_9 ?_
    refine lv_if_gt (tgt := 17) hx hb dX7_in_10 (by decide) (fun c2 => ?_) (fun c2 => ?_)
    · have h := it_at c2 h
      refine lv_iconst (v := 0) hx hb dX7_in_17 (by decide) ?_
      obtain ⟨rfl, rfl⟩ := pair_at h
      exact reZ X G (Or.inl rfl) dX7_in_18
    · have h := if_at c2 h
      refine lv_iconst (v := 1) hx hb dX7_in_13 (by decide) ?_
      refine lv_goto (tgt := 18) hx hb dX7_in_14 (by decide) ?_
      obtain ⟨rfl, rfl⟩ := pair_at h
      exact reZ X G (Or.inr rfl) dX7_in_18
noncomputable def f_X7_finds (a1 : Int32) (u0 : MS) : Option (Int32 × MS) :=
  nmv ((-1000001 : Int32) - a1) fun x1 =>
  if x1 < 0 ∨ 7 ≤ x1.toNatClampNeg then none else
  nmv (((m_found u0) x1.toNatClampNeg) + (1 : Int32)) fun x3 =>
  if x1 < 0 ∨ 7 ≤ x1.toNatClampNeg then none else
  nmv (mu_found u0 (upd (m_found u0) x1.toNatClampNeg x3)) fun u5 =>
  some (a1, u5)
set_option maxRecDepth 100000 in
set_option maxHeartbeats 4000000 in
theorem c_X7_finds {a1 : Int32} {u0 : MS} {r : Int32} {u' : MS} (h : f_X7_finds a1 u0 = some (r, u')) : MI l D cI cZ cQ adK adV A yX7_finds cX7_finds 2 (some .int) { frames := 0, cells := 0, slots := 0, locals := 0 } [.ref (ad 0), .int a1] (wM cI ad) u0 r u' := by
  unfold f_X7_finds at h
  refine entI (by decide) (Nat.le_of_ble_eq_true rfl) (fun p e s m below meth c ls X K G hl => ?_)
  have hl : lv_has ls 2 [(0, .ref (ad 0)), (1, .int a1)] := hl
  obtain ⟨hx, hb, -⟩ := id X
  generalize hH : s.heap = H at G
  subst hH
  refine lv_aload_n hx hb dX7_finds_0 rfl (lv_at hl 0 rfl) ?_
  refine gM_0_3 X K G q_909 dX7_finds_1 ?_
  refine lv_ldc (v := -1000001) hx hb X.2.2.2.1 (X.2.2.2.2.1 _ q_975) dX7_finds_4 ?_
  refine lv_iload_n hx hb dX7_finds_6 rfl (lv_at hl 1 rfl) ?_
  refine lv_isub hx hb dX7_finds_7 ?_
  refine lv_topi (fun x1 ex1 => ?_)
  have h := nm_at ex1 h
  refine lv_dup2_11 hx hb dX7_finds_8 rfl rfl ?_
  obtain ⟨g2, h⟩ := ck_at h
  refine lM_3 X K G g2 dX7_finds_9 ?_
  refine lv_iconst (v := 1) hx hb dX7_finds_10 (by decide) ?_
  refine lv_iadd hx hb dX7_finds_11 ?_
  refine lv_topi (fun x3 ex3 => ?_)
  have h := nm_at ex3 h
  obtain ⟨g4, h⟩ := ck_at h
  refine aM_3 X K G g4 dX7_finds_12 (fun H locs G => ?_)
  obtain ⟨u5, eu5⟩ : ∃ z : MS, z = mu_found u0 (upd (m_found u0) x1.toNatClampNeg x3) := ⟨_, rfl⟩
  have G : wg D A s.heap H locs (wM cI ad u5) := by rw [eu5]; exact G
  have h := nm_at eu5 h
  clear eu5
  refine lv_iload_n hx hb dX7_finds_13 rfl (lv_at hl 1 rfl) ?_
  obtain ⟨rfl, rfl⟩ := pair_at h
  exact reI X G dX7_finds_14
noncomputable def f_X7_feed_L41_41 (v1 : Int32) (v3 : Int32) (u0 : MS) : Option ((Int32 × Int32 × MS) ⊕ ((Int32 × MS) ⊕ (MS))) :=
  (if v3 < 0 then
    some (.inr (.inr u0))
  else
    nmv ((v1 >>> (((8 : Int32) * v3) &&& 31)) &&& (255 : Int32)) fun x2 =>
    nmv (m_taped u0) fun x3 =>
    if x3 < 0 ∨ 120 ≤ x3.toNatClampNeg then none else
    nmv (mu_tape u0 (upd (m_tape u0) x3.toNatClampNeg x2)) fun u5 =>
    nmv ((m_taped u5) + (1 : Int32)) fun x6 =>
    nmv (mu_taped u5 x6) fun u7 =>
    nmv (v3 + (-1 : Int32)) fun x8 =>
    some (.inl (v1, x8, u7)))
set_option maxRecDepth 100000 in
set_option maxHeartbeats 4000000 in
theorem b_X7_feed_L41_41 (X : cx p s m args meth c cX7_feed 4 RX7 (some .int)) (K : kx D cI cZ cQ adK adV A s s.heap) {v1 : Int32} {v3 : Int32} {u0 : MS} (G : wg D A s.heap H locs (wM cI ad u0)) (hl : lv_has ls 4 [(0, .ref (ad 0)), (1, .int v1), (3, .int v3)]) {q : ((Int32 × Int32 × MS) ⊕ ((Int32 × MS) ⊕ (MS)))} (h : f_X7_feed_L41_41 v1 v3 u0 = some q) (hB : ∀ (v1 : Int32) (v3 : Int32) (u : MS), q = .inl (v1, v3, u) → ∀ (H : Heap) (locs : List Loc) (ls : Array Slot), wg D A s.heap H locs (wM cI ad u) → lv_has ls 4 [(0, .ref (ad 0)), (1, .int v1), (3, .int v3)] → W p l e { frames := 1, cells := 0, slots := 0, locals := 25 } s m args below meth c H locs 0 0 Q (F0 m 41 ls [])) (hX : ∀ (u : MS), q = .inr (.inr u) → ∀ (H : Heap) (locs : List Loc) (ls : Array Slot), wg D A s.heap H locs (wM cI ad u) → lv_has ls 4 [(0, .ref (ad 0))] → W p l e { frames := 1, cells := 0, slots := 0, locals := 25 } s m args below meth c H locs 0 0 Q (F0 m 80 ls [])) (hR : ∀ (r : Int32) (u : MS), q = .inr (.inl (r, u)) → Q = (qI D A (wM cI ad) below args s r u)) : W p l e { frames := 1, cells := 0, slots := 0, locals := 25 } s m args below meth c H locs 0 0 Q (F0 m 41 ls []) := by
  unfold f_X7_feed_L41_41 at h
  obtain ⟨hx, hb, -⟩ := id X
  refine lv_iload_n hx hb dX7_feed_41 rfl (lv_at hl 2 rfl) ?_
  refine lv_if_lt (tgt := 80) hx hb dX7_feed_42 (by decide) (fun c1 => ?_) (fun c1 => ?_)
  · have h := it_at c1 h
    exact hX _ (Option.some.inj h).symm _ _ _ G (lv_sub hl [0] rfl)
  · have h := if_at c1 h
    refine lv_aload_n hx hb dX7_feed_45 rfl (lv_at hl 0 rfl) ?_
    refine gM_0_4 X K G q_910 dX7_feed_46 ?_
    refine lv_aload_n hx hb dX7_feed_49 rfl (lv_at hl 0 rfl) ?_
    refine gM_0_5 X K G q_911 dX7_feed_50 ?_
    refine lv_iload_n hx hb dX7_feed_53 rfl (lv_at hl 1 rfl) ?_
    refine lv_bipush (v := 8) hx hb dX7_feed_54 (by decide) ?_
    refine lv_iload_n hx hb dX7_feed_56 rfl (lv_at hl 2 rfl) ?_
    refine lv_imul hx hb dX7_feed_57 ?_
    refine lv_ishr hx hb dX7_feed_58 ?_
    refine lv_sipush (v := 255) hx hb dX7_feed_59 (by decide) ?_
    refine lv_iand hx hb dX7_feed_62 ?_
    refine lv_topi (fun x2 ex2 => ?_)
    have h := nm_at ex2 h
    refine nm2 (fun x3 ex3 => ?_)
    have h := nm_at ex3 h
    obtain ⟨g4, h⟩ := ck_at h
    refine aM_4 X K G g4 dX7_feed_63 (fun H locs G => ?_)
    obtain ⟨u5, eu5⟩ : ∃ z : MS, z = mu_tape u0 (upd (m_tape u0) x3.toNatClampNeg x2) := ⟨_, rfl⟩
    have G : wg D A s.heap H locs (wM cI ad u5) := by rw [eu5]; exact G
    have h := nm_at eu5 h
    clear eu5
    refine lv_aload_n hx hb dX7_feed_64 rfl (lv_at hl 0 rfl) ?_
    refine lv_dup hx hb dX7_feed_65 rfl ?_
    refine gM_0_5 X K G q_911 dX7_feed_66 ?_
    refine lv_iconst (v := 1) hx hb dX7_feed_69 (by decide) ?_
    refine lv_iadd hx hb dX7_feed_70 ?_
    refine lv_topi (fun x6 ex6 => ?_)
    have h := nm_at ex6 h
    refine pM_0_5 X K G q_911 dX7_feed_71 (fun H locs G => ?_)
    obtain ⟨u7, eu7⟩ : ∃ z : MS, z = mu_taped u5 x6 := ⟨_, rfl⟩
    have G : wg D A s.heap H locs (wM cI ad u7) := by rw [eu7]; exact G
    have h := nm_at eu7 h
    clear eu7
    obtain ⟨x8, ex8⟩ : ∃ z : Int32, z = v3 + (-1 : Int32) := ⟨_, rfl⟩
    have h := nm_at ex8 h
    refine lv_iinc (v := x8) (lv' := [(3, .int x8), (0, .ref (ad 0)), (1, .int v1)]) hx hb dX7_feed_74 hl (k := 2) rfl (by rw [ex8]; rfl) (by decide) rfl (fun ls hl => ?_)
    refine lv_goto (tgt := 41) hx hb dX7_feed_77 (by decide) ?_
    exact hB _ _ _ (Option.some.inj h).symm _ _ _ G (lv_sub hl [1, 2, 0] rfl)
noncomputable def f_X7_feed_L41_41s (q : Int32 × Int32 × MS) : Option ((Int32 × Int32 × MS) ⊕ ((Int32 × MS) ⊕ (MS))) := f_X7_feed_L41_41 q.1 q.2.1 q.2.2
set_option maxRecDepth 100000 in
set_option maxHeartbeats 4000000 in
theorem w_X7_feed_L41_41 (X : cx p s m args meth c cX7_feed 4 RX7 (some .int)) (K : kx D cI cZ cQ adK adV A s s.heap) {e0 : (Int32 × MS) ⊕ (MS)} : ∀ (n : Nat) (v1 : Int32) (v3 : Int32) (u : MS) {H : Heap} {locs : List Loc} {ls : Array Slot}, wh f_X7_feed_L41_41s n (v1, v3, u) = some e0 → wg D A s.heap H locs (wM cI ad u) → lv_has ls 4 [(0, .ref (ad 0)), (1, .int v1), (3, .int v3)] → (∀ (u : MS), e0 = .inr u → ∀ (H : Heap) (locs : List Loc) (ls : Array Slot), wg D A s.heap H locs (wM cI ad u) → lv_has ls 4 [(0, .ref (ad 0))] → W p l e { frames := 1, cells := 0, slots := 0, locals := 25 } s m args below meth c H locs 0 0 Q (F0 m 80 ls [])) → (∀ (r : Int32) (u : MS), e0 = .inl (r, u) → Q = (qI D A (wM cI ad) below args s r u)) → W p l e { frames := 1, cells := 0, slots := 0, locals := 25 } s m args below meth c H locs 0 0 Q (F0 m 41 ls []) := by
  intro n
  induction n with
  | zero => intro v1 v3 u H locs ls h; cases h
  | succ n ih =>
    intro v1 v3 u H locs ls h G hl hX hR
    obtain ⟨q, h1, h2, h3⟩ := wh_at h
    exact b_X7_feed_L41_41 X K G hl (show f_X7_feed_L41_41 v1 v3 u = some q from h1) (fun b0 b1 b2 ee H locs ls G hl => ih b0 b1 b2 (h2 _ ee) G hl hX hR) (fun z0 ee => hX z0 (h3 _ ee).symm) (fun r u ee => hR r u (h3 _ ee).symm)
noncomputable def f_X7_feed (a1 : Int32) (a2 : Int32) (u0 : MS) : Option (Int32 × MS) :=
  bnd (f_X7_in (a2.toInt64) (1 : Int64) (4 : Int64) u0) fun r1 u2 =>
  (if r1 = 0 then
    bnd (f_X7_finds (-1000001 : Int32) u2) fun r11 u12 =>
    some (r11, u12)
  else
    (if ((m_taped u2) + a2) ≤ (120 : Int32) then
      nmv (a2 - (1 : Int32)) fun x5 =>
      bne (wl f_X7_feed_L41_41s (a1, x5, u2)) (fun a => some a) fun b =>
        nmv b fun u8 =>
        some (m_taped u8, u8)
    else
      bnd (f_X7_finds (-1000002 : Int32) u2) fun r9 u10 =>
      some (r9, u10)))
set_option maxRecDepth 100000 in
set_option maxHeartbeats 4000000 in
theorem c_X7_feed {a1 : Int32} {a2 : Int32} {u0 : MS} {r : Int32} {u' : MS} (h : f_X7_feed a1 a2 u0 = some (r, u')) : MI l D cI cZ cQ adK adV A yX7_feed cX7_feed 4 (some .int) { frames := 1, cells := 0, slots := 0, locals := 25 } [.ref (ad 0), .int a1, .int a2] (wM cI ad) u0 r u' := by
  unfold f_X7_feed at h
  refine entI (by decide) (Nat.le_of_ble_eq_true rfl) (fun p e s m below meth c ls X K G hl => ?_)
  have hl : lv_has ls 4 [(0, .ref (ad 0)), (1, .int a1), (2, .int a2)] := hl
  obtain ⟨hx, hb, -⟩ := id X
  generalize hH : s.heap = H at G
  subst hH
  refine lv_iload_n hx hb dX7_feed_0 rfl (lv_at hl 2 rfl) ?_
  refine lv_i2l hx hb dX7_feed_1 rfl ?_
  refine lv_lconst (v := 1) hx hb dX7_feed_2 (by decide) ?_
  refine lv_ldc2 (v := 4) hx hb X.2.2.2.1 (X.2.2.2.2.1 _ q_971) dX7_feed_3 ?_
  obtain ⟨r1, u2, er1, h⟩ := bnd_at h
  refine csI (rest := []) X K G (c_X7_in er1) q_972 my_X7_in ⟨rfl, rfl⟩ ⟨Nat.le_of_ble_eq_true rfl, Nat.le_of_ble_eq_true rfl⟩ ⟨Nat.zero_le _, Nat.zero_le _⟩ rfl hl.1 rfl (Nat.le_of_ble_eq_true rfl) dX7_feed_6 (fun H locs G => ?_)
  clear er1
  refine lv_if_ne (tgt := 19) hx hb dX7_feed_9 (by decide) (fun c3 => ?_) (fun c3 => ?_)
  · have h := if_at c3 h
    refine lv_aload_n hx hb dX7_feed_19 rfl (lv_at hl 0 rfl) ?_
    refine gM_0_5 X K G q_911 dX7_feed_20 ?_
    refine lv_iload_n hx hb dX7_feed_23 rfl (lv_at hl 2 rfl) ?_
    refine lv_iadd hx hb dX7_feed_24 ?_
    refine lv_bipush (v := 120) hx hb dX7_feed_25 (by decide) ?_
    refine lv_icmp_le (tgt := 37) hx hb dX7_feed_27 (by decide) (fun c4 => ?_) (fun c4 => ?_)
    · have h := it_at c4 h
      refine lv_iload_n hx hb dX7_feed_37 rfl (lv_at hl 2 rfl) ?_
      refine lv_iconst (v := 1) hx hb dX7_feed_38 (by decide) ?_
      refine lv_isub hx hb dX7_feed_39 ?_
      refine lv_topi (fun x5 ex5 => ?_)
      have h := nm_at ex5 h
      refine lv_istore_n (lv' := [(3, .int x5), (0, .ref (ad 0)), (1, .int a1), (2, .int a2)]) hx hb dX7_feed_40 rfl hl (by decide) rfl (fun ls hl => ?_)
      obtain ⟨q7, hq7, ha, hb1⟩ := bne_at h
      obtain ⟨n6, hn6⟩ := wl_iff.mp hq7
      refine w_X7_feed_L41_41 X K n6 _ _ _ hn6 G (lv_sub hl [1, 2, 0] rfl) (fun  u8 ee H locs ls G hl => ?_) (fun r u1 ee => by obtain ⟨rfl, rfl⟩ := pair_at (ha _ ee); rfl)
      have h := hb1 _ ee
      clear ee ha hb1 hq7 hn6
      have h := nm_at (x := u8) rfl h
      refine lv_aload_n hx hb dX7_feed_80 rfl (lv_at hl 0 rfl) ?_
      refine gM_0_5 X K G q_911 dX7_feed_81 ?_
      obtain ⟨rfl, rfl⟩ := pair_at h
      exact reI X G dX7_feed_84
    · have h := if_at c4 h
      refine lv_aload_n hx hb dX7_feed_30 rfl (lv_at hl 0 rfl) ?_
      refine lv_ldc (v := -1000002) hx hb X.2.2.2.1 (X.2.2.2.2.1 _ q_980) dX7_feed_31 ?_
      obtain ⟨r9, u10, er9, h⟩ := bnd_at h
      refine cvI (rest := []) X K G (c_X7_finds er9) q_976 my_X7_finds ⟨rfl, rfl⟩ ⟨Nat.le_of_ble_eq_true rfl, Nat.le_of_ble_eq_true rfl⟩ ⟨Nat.zero_le _, Nat.zero_le _⟩ 0 7 rfl rfl rfl rfl hl.1 rfl (Nat.le_of_ble_eq_true rfl) dX7_feed_33 (fun H locs G => ?_)
      clear er9
      obtain ⟨rfl, rfl⟩ := pair_at h
      exact reI X G dX7_feed_36
  · have h := it_at c3 h
    refine lv_aload_n hx hb dX7_feed_12 rfl (lv_at hl 0 rfl) ?_
    refine lv_ldc (v := -1000001) hx hb X.2.2.2.1 (X.2.2.2.2.1 _ q_975) dX7_feed_13 ?_
    obtain ⟨r11, u12, er11, h⟩ := bnd_at h
    refine cvI (rest := []) X K G (c_X7_finds er11) q_976 my_X7_finds ⟨rfl, rfl⟩ ⟨Nat.le_of_ble_eq_true rfl, Nat.le_of_ble_eq_true rfl⟩ ⟨Nat.zero_le _, Nat.zero_le _⟩ 0 7 rfl rfl rfl rfl hl.1 rfl (Nat.le_of_ble_eq_true rfl) dX7_feed_15 (fun H locs G => ?_)
    clear er11
    obtain ⟨rfl, rfl⟩ := pair_at h
    exact reI X G dX7_feed_18
noncomputable def f_X7_wipe (u0 : MS) : Option (Int32 × MS) :=
  nmv (m_taped u0) fun x1 =>
  nmv (mu_taped u0 (0 : Int32)) fun u2 =>
  some (x1, u2)
set_option maxRecDepth 100000 in
set_option maxHeartbeats 4000000 in
theorem c_X7_wipe {u0 : MS} {r : Int32} {u' : MS} (h : f_X7_wipe  u0 = some (r, u')) : MI l D cI cZ cQ adK adV A yX7_wipe cX7_wipe 2 (some .int) { frames := 0, cells := 0, slots := 0, locals := 0 } [.ref (ad 0)] (wM cI ad) u0 r u' := by
  unfold f_X7_wipe at h
  refine entI (by decide) (Nat.le_of_ble_eq_true rfl) (fun p e s m below meth c ls X K G hl => ?_)
  have hl : lv_has ls 2 [(0, .ref (ad 0))] := hl
  obtain ⟨hx, hb, -⟩ := id X
  generalize hH : s.heap = H at G
  subst hH
  refine lv_aload_n hx hb dX7_wipe_0 rfl (lv_at hl 0 rfl) ?_
  refine gM_0_5 X K G q_911 dX7_wipe_1 ?_
  refine lv_topi (fun x1 ex1 => ?_)
  have h := nm_at ex1 h
  refine lv_istore_n (lv' := [(1, .int x1), (0, .ref (ad 0))]) hx hb dX7_wipe_4 rfl hl (by decide) rfl (fun ls hl => ?_)
  refine lv_aload_n hx hb dX7_wipe_5 rfl (lv_at hl 1 rfl) ?_
  refine lv_iconst (v := 0) hx hb dX7_wipe_6 (by decide) ?_
  refine pM_0_5 X K G q_911 dX7_wipe_7 (fun H locs G => ?_)
  obtain ⟨u2, eu2⟩ : ∃ z : MS, z = mu_taped u0 (0 : Int32) := ⟨_, rfl⟩
  have G : wg D A s.heap H locs (wM cI ad u2) := by rw [eu2]; exact G
  have h := nm_at eu2 h
  clear eu2
  refine lv_iload_n hx hb dX7_wipe_10 rfl (lv_at hl 0 rfl) ?_
  obtain ⟨rfl, rfl⟩ := pair_at h
  exact reI X G dX7_wipe_11
noncomputable def f_X7_isByte (a1 : Int32) (a2 : Int32) (a3 : Int32) (u0 : MS) : Option (Int32 × MS) :=
  (if (m_taped u0) ≤ a1 then
    some ((0 : Int32), u0)
  else
    if a1 < 0 ∨ 120 ≤ a1.toNatClampNeg then none else
    bnd (f_X7_in (((m_tape u0) a1.toNatClampNeg).toInt64) (a2.toInt64) (a3.toInt64) u0) fun r3 u4 =>
    (if r3 = 0 then
      some ((0 : Int32), u4)
    else
      some ((1 : Int32), u4)))
set_option maxRecDepth 100000 in
set_option maxHeartbeats 4000000 in
theorem c_X7_isByte {a1 : Int32} {a2 : Int32} {a3 : Int32} {u0 : MS} {r : Int32} {u' : MS} (h : f_X7_isByte a1 a2 a3 u0 = some (r, u')) : MI l D cI cZ cQ adK adV A yX7_isByte cX7_isByte 4 (some .boolean) { frames := 1, cells := 0, slots := 0, locals := 25 } [.ref (ad 0), .int a1, .int a2, .int a3] (wM cI ad) u0 r u' := by
  unfold f_X7_isByte at h
  refine entI (by decide) (Nat.le_of_ble_eq_true rfl) (fun p e s m below meth c ls X K G hl => ?_)
  have hl : lv_has ls 4 [(0, .ref (ad 0)), (1, .int a1), (2, .int a2), (3, .int a3)] := hl
  obtain ⟨hx, hb, -⟩ := id X
  generalize hH : s.heap = H at G
  subst hH
  refine lv_iload_n hx hb dX7_isByte_0 rfl (lv_at hl 1 rfl) ?_
  refine lv_aload_n hx hb dX7_isByte_1 rfl (lv_at hl 0 rfl) ?_
  refine gM_0_5 X K G q_911 dX7_isByte_2 ?_
  refine lv_icmp_ge (tgt := 29) hx hb dX7_isByte_5 (by decide) (fun c1 => ?_) (fun c1 => ?_)
  · have h := it_at c1 h
    refine lv_iconst (v := 0) hx hb dX7_isByte_29 (by decide) ?_
    obtain ⟨rfl, rfl⟩ := pair_at h
    exact reZ X G (Or.inl rfl) dX7_isByte_30
  · have h := if_at c1 h
    refine lv_aload_n hx hb dX7_isByte_8 rfl (lv_at hl 0 rfl) ?_
    refine gM_0_4 X K G q_910 dX7_isByte_9 ?_
    refine lv_iload_n hx hb dX7_isByte_12 rfl (lv_at hl 1 rfl) ?_
    obtain ⟨g2, h⟩ := ck_at h
    refine lM_4 X K G g2 dX7_isByte_13 ?_
    refine lv_i2l hx hb dX7_isByte_14 rfl ?_
    refine lv_iload_n hx hb dX7_isByte_15 rfl (lv_at hl 2 rfl) ?_
    refine lv_i2l hx hb dX7_isByte_16 rfl ?_
    refine lv_iload_n hx hb dX7_isByte_17 rfl (lv_at hl 3 rfl) ?_
    refine lv_i2l hx hb dX7_isByte_18 rfl ?_
    obtain ⟨r3, u4, er3, h⟩ := bnd_at h
    refine csI (rest := []) X K G (c_X7_in er3) q_972 my_X7_in ⟨rfl, rfl⟩ ⟨Nat.le_of_ble_eq_true rfl, Nat.le_of_ble_eq_true rfl⟩ ⟨Nat.zero_le _, Nat.zero_le _⟩ rfl hl.1 rfl (Nat.le_of_ble_eq_true rfl) dX7_isByte_19 (fun H locs G => ?_)
    clear er3
    refine lv_if_eq (tgt := 29) hx hb dX7_isByte_22 (by decide) (fun c5 => ?_) (fun c5 => ?_)
    · have h := it_at c5 h
      refine lv_iconst (v := 0) hx hb dX7_isByte_29 (by decide) ?_
      obtain ⟨rfl, rfl⟩ := pair_at h
      exact reZ X G (Or.inl rfl) dX7_isByte_30
    · have h := if_at c5 h
      refine lv_iconst (v := 1) hx hb dX7_isByte_25 (by decide) ?_
      refine lv_goto (tgt := 30) hx hb dX7_isByte_26 (by decide) ?_
      obtain ⟨rfl, rfl⟩ := pair_at h
      exact reZ X G (Or.inr rfl) dX7_isByte_30
noncomputable def f_X7_token_L8_8 (u0 : MS) : Option ((MS) ⊕ ((Int32 × MS) ⊕ (MS))) :=
  bnd (f_X7_isByte (m_from u0) (32 : Int32) (32 : Int32) u0) fun r1 u2 =>
  (if r1 = 0 then
    some (.inr (.inr u2))
  else
    nmv ((m_from u2) + (1 : Int32)) fun x4 =>
    nmv (mu_from u2 x4) fun u5 =>
    some (.inl u5))
set_option maxRecDepth 100000 in
set_option maxHeartbeats 4000000 in
theorem b_X7_token_L8_8 (X : cx p s m args meth c cX7_token 1 RX7 none) (K : kx D cI cZ cQ adK adV A s s.heap) {u0 : MS} (G : wg D A s.heap H locs (wM cI ad u0)) (hl : lv_has ls 1 [(0, .ref (ad 0))]) {q : ((MS) ⊕ ((Int32 × MS) ⊕ (MS)))} (h : f_X7_token_L8_8  u0 = some q) (hB : ∀ (u : MS), q = .inl u → ∀ (H : Heap) (locs : List Loc) (ls : Array Slot), wg D A s.heap H locs (wM cI ad u) → lv_has ls 1 [(0, .ref (ad 0))] → W p l e { frames := 2, cells := 0, slots := 0, locals := 48 } s m args below meth c H locs 0 0 Q (F0 m 8 ls [])) (hX : ∀ (u : MS), q = .inr (.inr u) → ∀ (H : Heap) (locs : List Loc) (ls : Array Slot), wg D A s.heap H locs (wM cI ad u) → lv_has ls 1 [(0, .ref (ad 0))] → W p l e { frames := 2, cells := 0, slots := 0, locals := 48 } s m args below meth c H locs 0 0 Q (F0 m 36 ls [])) (hR : ∀ (r : Int32) (u : MS), q = .inr (.inl (r, u)) → Q = (qV D A (wM cI ad) below args s u)) : W p l e { frames := 2, cells := 0, slots := 0, locals := 48 } s m args below meth c H locs 0 0 Q (F0 m 8 ls []) := by
  unfold f_X7_token_L8_8 at h
  obtain ⟨hx, hb, -⟩ := id X
  refine lv_aload_n hx hb dX7_token_8 rfl (lv_at hl 0 rfl) ?_
  refine lv_aload_n hx hb dX7_token_9 rfl (lv_at hl 0 rfl) ?_
  refine gM_0_7 X K G q_913 dX7_token_10 ?_
  refine lv_bipush (v := 32) hx hb dX7_token_13 (by decide) ?_
  refine lv_bipush (v := 32) hx hb dX7_token_15 (by decide) ?_
  obtain ⟨r1, u2, er1, h⟩ := bnd_at h
  refine cvI (rest := []) X K G (c_X7_isByte er1) q_993 my_X7_isByte ⟨rfl, rfl⟩ ⟨Nat.le_of_ble_eq_true rfl, Nat.le_of_ble_eq_true rfl⟩ ⟨Nat.zero_le _, Nat.zero_le _⟩ 0 7 rfl rfl rfl rfl hl.1 rfl (Nat.le_of_ble_eq_true rfl) dX7_token_17 (fun H locs G => ?_)
  clear er1
  refine lv_if_eq (tgt := 36) hx hb dX7_token_20 (by decide) (fun c3 => ?_) (fun c3 => ?_)
  · have h := it_at c3 h
    exact hX _ (Option.some.inj h).symm _ _ _ G (lv_sub hl [0] rfl)
  · have h := if_at c3 h
    refine lv_aload_n hx hb dX7_token_23 rfl (lv_at hl 0 rfl) ?_
    refine lv_dup hx hb dX7_token_24 rfl ?_
    refine gM_0_7 X K G q_913 dX7_token_25 ?_
    refine lv_iconst (v := 1) hx hb dX7_token_28 (by decide) ?_
    refine lv_iadd hx hb dX7_token_29 ?_
    refine lv_topi (fun x4 ex4 => ?_)
    have h := nm_at ex4 h
    refine pM_0_7 X K G q_913 dX7_token_30 (fun H locs G => ?_)
    obtain ⟨u5, eu5⟩ : ∃ z : MS, z = mu_from u2 x4 := ⟨_, rfl⟩
    have G : wg D A s.heap H locs (wM cI ad u5) := by rw [eu5]; exact G
    have h := nm_at eu5 h
    clear eu5
    refine lv_goto (tgt := 8) hx hb dX7_token_33 (by decide) ?_
    exact hB _ (Option.some.inj h).symm _ _ _ G (lv_sub hl [0] rfl)
noncomputable def f_X7_token_L8_8s (q : MS) : Option ((MS) ⊕ ((Int32 × MS) ⊕ (MS))) := f_X7_token_L8_8 q
set_option maxRecDepth 100000 in
set_option maxHeartbeats 4000000 in
theorem w_X7_token_L8_8 (X : cx p s m args meth c cX7_token 1 RX7 none) (K : kx D cI cZ cQ adK adV A s s.heap) {e0 : (Int32 × MS) ⊕ (MS)} : ∀ (n : Nat) (u : MS) {H : Heap} {locs : List Loc} {ls : Array Slot}, wh f_X7_token_L8_8s n u = some e0 → wg D A s.heap H locs (wM cI ad u) → lv_has ls 1 [(0, .ref (ad 0))] → (∀ (u : MS), e0 = .inr u → ∀ (H : Heap) (locs : List Loc) (ls : Array Slot), wg D A s.heap H locs (wM cI ad u) → lv_has ls 1 [(0, .ref (ad 0))] → W p l e { frames := 2, cells := 0, slots := 0, locals := 48 } s m args below meth c H locs 0 0 Q (F0 m 36 ls [])) → (∀ (r : Int32) (u : MS), e0 = .inl (r, u) → Q = (qV D A (wM cI ad) below args s u)) → W p l e { frames := 2, cells := 0, slots := 0, locals := 48 } s m args below meth c H locs 0 0 Q (F0 m 8 ls []) := by
  intro n
  induction n with
  | zero => intro  u H locs ls h; cases h
  | succ n ih =>
    intro  u H locs ls h G hl hX hR
    obtain ⟨q, h1, h2, h3⟩ := wh_at h
    exact b_X7_token_L8_8 X K G hl (show f_X7_token_L8_8  u = some q from h1) (fun b0 ee H locs ls G hl => ih b0 (h2 _ ee) G hl hX hR) (fun z0 ee => hX z0 (h3 _ ee).symm) (fun r u ee => hR r u (h3 _ ee).symm)
noncomputable def f_X7_token_L125_125 (u0 : MS) : Option ((MS) ⊕ ((Int32 × MS) ⊕ (MS))) :=
  (if (m_sort u0) = (1 : Int32) then
    bnd (f_X7_isByte (m_to u0) (97 : Int32) (122 : Int32) u0) fun r2 u3 =>
    (if r2 = 0 then
      some (.inr (.inr u3))
    else
      nmv ((m_to u3) + (1 : Int32)) fun x5 =>
      nmv (mu_to u3 x5) fun u6 =>
      some (.inl u6))
  else
    some (.inr (.inr u0)))
set_option maxRecDepth 100000 in
set_option maxHeartbeats 4000000 in
theorem b_X7_token_L125_125 (X : cx p s m args meth c cX7_token 1 RX7 none) (K : kx D cI cZ cQ adK adV A s s.heap) {u0 : MS} (G : wg D A s.heap H locs (wM cI ad u0)) (hl : lv_has ls 1 [(0, .ref (ad 0))]) {q : ((MS) ⊕ ((Int32 × MS) ⊕ (MS)))} (h : f_X7_token_L125_125  u0 = some q) (hB : ∀ (u : MS), q = .inl u → ∀ (H : Heap) (locs : List Loc) (ls : Array Slot), wg D A s.heap H locs (wM cI ad u) → lv_has ls 1 [(0, .ref (ad 0))] → W p l e { frames := 2, cells := 0, slots := 0, locals := 48 } s m args below meth c H locs 0 0 Q (F0 m 125 ls [])) (hX : ∀ (u : MS), q = .inr (.inr u) → ∀ (H : Heap) (locs : List Loc) (ls : Array Slot), wg D A s.heap H locs (wM cI ad u) → lv_has ls 1 [(0, .ref (ad 0))] → W p l e { frames := 2, cells := 0, slots := 0, locals := 48 } s m args below meth c H locs 0 0 Q (F0 m 161 ls [])) (hR : ∀ (r : Int32) (u : MS), q = .inr (.inl (r, u)) → Q = (qV D A (wM cI ad) below args s u)) : W p l e { frames := 2, cells := 0, slots := 0, locals := 48 } s m args below meth c H locs 0 0 Q (F0 m 125 ls []) := by
  unfold f_X7_token_L125_125 at h
  obtain ⟨hx, hb, -⟩ := id X
  refine lv_aload_n hx hb dX7_token_125 rfl (lv_at hl 0 rfl) ?_
  refine gM_0_6 X K G q_912 dX7_token_126 ?_
  refine lv_iconst (v := 1) hx hb dX7_token_129 (by decide) ?_
  refine lv_icmp_ne (tgt := 161) hx hb dX7_token_130 (by decide) (fun c1 => ?_) (fun c1 => ?_)
  · have h := if_at c1 h
    exact hX _ (Option.some.inj h).symm _ _ _ G (lv_sub hl [0] rfl)
  · have h := it_at c1 h
    refine lv_aload_n hx hb dX7_token_133 rfl (lv_at hl 0 rfl) ?_
    refine lv_aload_n hx hb dX7_token_134 rfl (lv_at hl 0 rfl) ?_
    refine gM_0_8 X K G q_914 dX7_token_135 ?_
    refine lv_bipush (v := 97) hx hb dX7_token_138 (by decide) ?_
    refine lv_bipush (v := 122) hx hb dX7_token_140 (by decide) ?_
    obtain ⟨r2, u3, er2, h⟩ := bnd_at h
    refine cvI (rest := []) X K G (c_X7_isByte er2) q_993 my_X7_isByte ⟨rfl, rfl⟩ ⟨Nat.le_of_ble_eq_true rfl, Nat.le_of_ble_eq_true rfl⟩ ⟨Nat.zero_le _, Nat.zero_le _⟩ 0 7 rfl rfl rfl rfl hl.1 rfl (Nat.le_of_ble_eq_true rfl) dX7_token_142 (fun H locs G => ?_)
    clear er2
    refine lv_if_eq (tgt := 161) hx hb dX7_token_145 (by decide) (fun c4 => ?_) (fun c4 => ?_)
    · have h := it_at c4 h
      exact hX _ (Option.some.inj h).symm _ _ _ G (lv_sub hl [0] rfl)
    · have h := if_at c4 h
      refine lv_aload_n hx hb dX7_token_148 rfl (lv_at hl 0 rfl) ?_
      refine lv_dup hx hb dX7_token_149 rfl ?_
      refine gM_0_8 X K G q_914 dX7_token_150 ?_
      refine lv_iconst (v := 1) hx hb dX7_token_153 (by decide) ?_
      refine lv_iadd hx hb dX7_token_154 ?_
      refine lv_topi (fun x5 ex5 => ?_)
      have h := nm_at ex5 h
      refine pM_0_8 X K G q_914 dX7_token_155 (fun H locs G => ?_)
      obtain ⟨u6, eu6⟩ : ∃ z : MS, z = mu_to u3 x5 := ⟨_, rfl⟩
      have G : wg D A s.heap H locs (wM cI ad u6) := by rw [eu6]; exact G
      have h := nm_at eu6 h
      clear eu6
      refine lv_goto (tgt := 125) hx hb dX7_token_158 (by decide) ?_
      exact hB _ (Option.some.inj h).symm _ _ _ G (lv_sub hl [0] rfl)
noncomputable def f_X7_token_L125_125s (q : MS) : Option ((MS) ⊕ ((Int32 × MS) ⊕ (MS))) := f_X7_token_L125_125 q
set_option maxRecDepth 100000 in
set_option maxHeartbeats 4000000 in
theorem w_X7_token_L125_125 (X : cx p s m args meth c cX7_token 1 RX7 none) (K : kx D cI cZ cQ adK adV A s s.heap) {e0 : (Int32 × MS) ⊕ (MS)} : ∀ (n : Nat) (u : MS) {H : Heap} {locs : List Loc} {ls : Array Slot}, wh f_X7_token_L125_125s n u = some e0 → wg D A s.heap H locs (wM cI ad u) → lv_has ls 1 [(0, .ref (ad 0))] → (∀ (u : MS), e0 = .inr u → ∀ (H : Heap) (locs : List Loc) (ls : Array Slot), wg D A s.heap H locs (wM cI ad u) → lv_has ls 1 [(0, .ref (ad 0))] → W p l e { frames := 2, cells := 0, slots := 0, locals := 48 } s m args below meth c H locs 0 0 Q (F0 m 161 ls [])) → (∀ (r : Int32) (u : MS), e0 = .inl (r, u) → Q = (qV D A (wM cI ad) below args s u)) → W p l e { frames := 2, cells := 0, slots := 0, locals := 48 } s m args below meth c H locs 0 0 Q (F0 m 125 ls []) := by
  intro n
  induction n with
  | zero => intro  u H locs ls h; cases h
  | succ n ih =>
    intro  u H locs ls h G hl hX hR
    obtain ⟨q, h1, h2, h3⟩ := wh_at h
    exact b_X7_token_L125_125 X K G hl (show f_X7_token_L125_125  u = some q from h1) (fun b0 ee H locs ls G hl => ih b0 (h2 _ ee) G hl hX hR) (fun z0 ee => hX z0 (h3 _ ee).symm) (fun r u ee => hR r u (h3 _ ee).symm)
noncomputable def f_X7_token_L161_222 (k1 : Int32) (u0 : MS) : Option ((MS) ⊕ ((Int32 × MS) ⊕ (MS))) :=
  nmv (mu_value u0 k1) fun u1 =>
  nmv ((m_to u1) + (1 : Int32)) fun x2 =>
  nmv (mu_to u1 x2) fun u3 =>
  some (.inl u3)
set_option maxRecDepth 100000 in
set_option maxHeartbeats 4000000 in
theorem b_X7_token_L161_222 (X : cx p s m args meth c cX7_token 1 RX7 none) (K : kx D cI cZ cQ adK adV A s s.heap) {k1 : Int32} {u0 : MS} (G : wg D A s.heap H locs (wM cI ad u0)) (hl : lv_has ls 1 [(0, .ref (ad 0))]) {q : ((MS) ⊕ ((Int32 × MS) ⊕ (MS)))} (h : f_X7_token_L161_222 k1 u0 = some q) (hB : ∀ (u : MS), q = .inl u → ∀ (H : Heap) (locs : List Loc) (ls : Array Slot), wg D A s.heap H locs (wM cI ad u) → lv_has ls 1 [(0, .ref (ad 0))] → W p l e { frames := 2, cells := 0, slots := 0, locals := 48 } s m args below meth c H locs 0 0 Q (F0 m 161 ls [])) (hX : ∀ (u : MS), q = .inr (.inr u) → ∀ (H : Heap) (locs : List Loc) (ls : Array Slot), wg D A s.heap H locs (wM cI ad u) → lv_has ls 1 [] → W p l e { frames := 2, cells := 0, slots := 0, locals := 48 } s m args below meth c H locs 0 0 Q (F0 m 238 ls [])) (hR : ∀ (r : Int32) (u : MS), q = .inr (.inl (r, u)) → Q = (qV D A (wM cI ad) below args s u)) : W p l e { frames := 2, cells := 0, slots := 0, locals := 48 } s m args below meth c H locs 0 0 Q (F0 m 222 ls [.int k1, .ref (ad 0)]) := by
  unfold f_X7_token_L161_222 at h
  obtain ⟨hx, hb, -⟩ := id X
  refine pM_0_9 X K G q_915 dX7_token_222 (fun H locs G => ?_)
  obtain ⟨u1, eu1⟩ : ∃ z : MS, z = mu_value u0 k1 := ⟨_, rfl⟩
  have G : wg D A s.heap H locs (wM cI ad u1) := by rw [eu1]; exact G
  have h := nm_at eu1 h
  clear eu1
  refine lv_aload_n hx hb dX7_token_225 rfl (lv_at hl 0 rfl) ?_
  refine lv_dup hx hb dX7_token_226 rfl ?_
  refine gM_0_8 X K G q_914 dX7_token_227 ?_
  refine lv_iconst (v := 1) hx hb dX7_token_230 (by decide) ?_
  refine lv_iadd hx hb dX7_token_231 ?_
  refine lv_topi (fun x2 ex2 => ?_)
  have h := nm_at ex2 h
  refine pM_0_8 X K G q_914 dX7_token_232 (fun H locs G => ?_)
  obtain ⟨u3, eu3⟩ : ∃ z : MS, z = mu_to u1 x2 := ⟨_, rfl⟩
  have G : wg D A s.heap H locs (wM cI ad u3) := by rw [eu3]; exact G
  have h := nm_at eu3 h
  clear eu3
  refine lv_goto (tgt := 161) hx hb dX7_token_235 (by decide) ?_
  exact hB _ (Option.some.inj h).symm _ _ _ G (lv_sub hl [0] rfl)
noncomputable def f_X7_token_L161_161 (u0 : MS) : Option ((MS) ⊕ ((Int32 × MS) ⊕ (MS))) :=
  (if (m_sort u0) = (2 : Int32) then
    bnd (f_X7_isByte (m_to u0) (48 : Int32) (57 : Int32) u0) fun r2 u3 =>
    (if r2 = 0 then
      some (.inr (.inr u3))
    else
      (if (m_value u3) ≤ (999 : Int32) then
        nmv (m_to u3) fun x6 =>
        if x6 < 0 ∨ 120 ≤ x6.toNatClampNeg then none else
        f_X7_token_L161_222 ((((10 : Int32) * (m_value u3)) + ((m_tape u3) x6.toNatClampNeg)) - (48 : Int32)) u3
      else
        f_X7_token_L161_222 (m_value u3) u3))
  else
    some (.inr (.inr u0)))
set_option maxRecDepth 100000 in
set_option maxHeartbeats 4000000 in
theorem b_X7_token_L161_161 (X : cx p s m args meth c cX7_token 1 RX7 none) (K : kx D cI cZ cQ adK adV A s s.heap) {u0 : MS} (G : wg D A s.heap H locs (wM cI ad u0)) (hl : lv_has ls 1 [(0, .ref (ad 0))]) {q : ((MS) ⊕ ((Int32 × MS) ⊕ (MS)))} (h : f_X7_token_L161_161  u0 = some q) (hB : ∀ (u : MS), q = .inl u → ∀ (H : Heap) (locs : List Loc) (ls : Array Slot), wg D A s.heap H locs (wM cI ad u) → lv_has ls 1 [(0, .ref (ad 0))] → W p l e { frames := 2, cells := 0, slots := 0, locals := 48 } s m args below meth c H locs 0 0 Q (F0 m 161 ls [])) (hX : ∀ (u : MS), q = .inr (.inr u) → ∀ (H : Heap) (locs : List Loc) (ls : Array Slot), wg D A s.heap H locs (wM cI ad u) → lv_has ls 1 [] → W p l e { frames := 2, cells := 0, slots := 0, locals := 48 } s m args below meth c H locs 0 0 Q (F0 m 238 ls [])) (hR : ∀ (r : Int32) (u : MS), q = .inr (.inl (r, u)) → Q = (qV D A (wM cI ad) below args s u)) : W p l e { frames := 2, cells := 0, slots := 0, locals := 48 } s m args below meth c H locs 0 0 Q (F0 m 161 ls []) := by
  unfold f_X7_token_L161_161 at h
  obtain ⟨hx, hb, -⟩ := id X
  refine lv_aload_n hx hb dX7_token_161 rfl (lv_at hl 0 rfl) ?_
  refine gM_0_6 X K G q_912 dX7_token_162 ?_
  refine lv_iconst (v := 2) hx hb dX7_token_165 (by decide) ?_
  refine lv_icmp_ne (tgt := 238) hx hb dX7_token_166 (by decide) (fun c1 => ?_) (fun c1 => ?_)
  · have h := if_at c1 h
    exact hX _ (Option.some.inj h).symm _ _ _ G (lv_sub hl [] rfl)
  · have h := it_at c1 h
    refine lv_aload_n hx hb dX7_token_169 rfl (lv_at hl 0 rfl) ?_
    refine lv_aload_n hx hb dX7_token_170 rfl (lv_at hl 0 rfl) ?_
    refine gM_0_8 X K G q_914 dX7_token_171 ?_
    refine lv_bipush (v := 48) hx hb dX7_token_174 (by decide) ?_
    refine lv_bipush (v := 57) hx hb dX7_token_176 (by decide) ?_
    obtain ⟨r2, u3, er2, h⟩ := bnd_at h
    refine cvI (rest := []) X K G (c_X7_isByte er2) q_993 my_X7_isByte ⟨rfl, rfl⟩ ⟨Nat.le_of_ble_eq_true rfl, Nat.le_of_ble_eq_true rfl⟩ ⟨Nat.zero_le _, Nat.zero_le _⟩ 0 7 rfl rfl rfl rfl hl.1 rfl (Nat.le_of_ble_eq_true rfl) dX7_token_178 (fun H locs G => ?_)
    clear er2
    refine lv_if_eq (tgt := 238) hx hb dX7_token_181 (by decide) (fun c4 => ?_) (fun c4 => ?_)
    · have h := it_at c4 h
      exact hX _ (Option.some.inj h).symm _ _ _ G (lv_sub hl [] rfl)
    · have h := if_at c4 h
      refine lv_aload_n hx hb dX7_token_184 rfl (lv_at hl 0 rfl) ?_
      refine lv_aload_n hx hb dX7_token_185 rfl (lv_at hl 0 rfl) ?_
      refine gM_0_9 X K G q_915 dX7_token_186 ?_
      refine lv_sipush (v := 999) hx hb dX7_token_189 (by decide) ?_
      refine lv_icmp_le (tgt := 202) hx hb dX7_token_192 (by decide) (fun c5 => ?_) (fun c5 => ?_)
      · have h := it_at c5 h
        refine lv_bipush (v := 10) hx hb dX7_token_202 (by decide) ?_
        refine lv_aload_n hx hb dX7_token_204 rfl (lv_at hl 0 rfl) ?_
        refine gM_0_9 X K G q_915 dX7_token_205 ?_
        refine lv_imul hx hb dX7_token_208 ?_
        refine lv_aload_n hx hb dX7_token_209 rfl (lv_at hl 0 rfl) ?_
        refine gM_0_4 X K G q_910 dX7_token_210 ?_
        refine lv_aload_n hx hb dX7_token_213 rfl (lv_at hl 0 rfl) ?_
        refine gM_0_8 X K G q_914 dX7_token_214 ?_
        refine lv_topi (fun x6 ex6 => ?_)
        have h := nm_at ex6 h
        obtain ⟨g7, h⟩ := ck_at h
        refine lM_4 X K G g7 dX7_token_217 ?_
        refine lv_iadd hx hb dX7_token_218 ?_
        refine lv_bipush (v := 48) hx hb dX7_token_219 (by decide) ?_
        refine lv_isub hx hb dX7_token_221 ?_
        exact b_X7_token_L161_222 X K G (lv_sub hl [0] rfl) h hB hX hR
      · have h := if_at c5 h
        refine lv_aload_n hx hb dX7_token_195 rfl (lv_at hl 0 rfl) ?_
        refine gM_0_9 X K G q_915 dX7_token_196 ?_
        refine lv_goto (tgt := 222) hx hb dX7_token_199 (by decide) ?_
        exact b_X7_token_L161_222 X K G (lv_sub hl [0] rfl) h hB hX hR
noncomputable def f_X7_token_L161_161s (q : MS) : Option ((MS) ⊕ ((Int32 × MS) ⊕ (MS))) := f_X7_token_L161_161 q
set_option maxRecDepth 100000 in
set_option maxHeartbeats 4000000 in
theorem w_X7_token_L161_161 (X : cx p s m args meth c cX7_token 1 RX7 none) (K : kx D cI cZ cQ adK adV A s s.heap) {e0 : (Int32 × MS) ⊕ (MS)} : ∀ (n : Nat) (u : MS) {H : Heap} {locs : List Loc} {ls : Array Slot}, wh f_X7_token_L161_161s n u = some e0 → wg D A s.heap H locs (wM cI ad u) → lv_has ls 1 [(0, .ref (ad 0))] → (∀ (u : MS), e0 = .inr u → ∀ (H : Heap) (locs : List Loc) (ls : Array Slot), wg D A s.heap H locs (wM cI ad u) → lv_has ls 1 [] → W p l e { frames := 2, cells := 0, slots := 0, locals := 48 } s m args below meth c H locs 0 0 Q (F0 m 238 ls [])) → (∀ (r : Int32) (u : MS), e0 = .inl (r, u) → Q = (qV D A (wM cI ad) below args s u)) → W p l e { frames := 2, cells := 0, slots := 0, locals := 48 } s m args below meth c H locs 0 0 Q (F0 m 161 ls []) := by
  intro n
  induction n with
  | zero => intro  u H locs ls h; cases h
  | succ n ih =>
    intro  u H locs ls h G hl hX hR
    obtain ⟨q, h1, h2, h3⟩ := wh_at h
    exact b_X7_token_L161_161 X K G hl (show f_X7_token_L161_161  u = some q from h1) (fun b0 ee H locs ls G hl => ih b0 (h2 _ ee) G hl hX hR) (fun z0 ee => hX z0 (h3 _ ee).symm) (fun r u ee => hR r u (h3 _ ee).symm)
noncomputable def f_X7_token_104 (k1 : Int32) (u0 : MS) : Option (Int32 × MS) :=
  nmv (mu_sort u0 k1) fun u1 =>
  (if (m_sort u1) = (3 : Int32) then
    nmv ((m_to u1) + (1 : Int32)) fun x9 =>
    nmv (mu_to u1 x9) fun u10 =>
    bne (wl f_X7_token_L125_125s u10) (fun a => some a) fun b =>
      nmv b fun u13 =>
      bne (wl f_X7_token_L161_161s u13) (fun a => some a) fun b =>
        nmv b fun u16 =>
        some ((0 : Int32), u16)
  else
    bne (wl f_X7_token_L125_125s u1) (fun a => some a) fun b =>
      nmv b fun u5 =>
      bne (wl f_X7_token_L161_161s u5) (fun a => some a) fun b =>
        nmv b fun u8 =>
        some ((0 : Int32), u8))
set_option maxRecDepth 100000 in
set_option maxHeartbeats 4000000 in
theorem b_X7_token_104 (X : cx p s m args meth c cX7_token 1 RX7 none) (K : kx D cI cZ cQ adK adV A s s.heap) {k1 : Int32} {u0 : MS} (G : wg D A s.heap H locs (wM cI ad u0)) (hl : lv_has ls 1 [(0, .ref (ad 0))]) {r : Int32} {u' : MS} (h : f_X7_token_104 k1 u0 = some (r, u')) : W p l e { frames := 2, cells := 0, slots := 0, locals := 48 } s m args below meth c H locs 0 0 (qV D A (wM cI ad) below args s u') (F0 m 104 ls [.int k1, .ref (ad 0)]) := by
  unfold f_X7_token_104 at h
  obtain ⟨hx, hb, -⟩ := id X
  refine pM_0_6 X K G q_912 dX7_token_104 (fun H locs G => ?_)
  obtain ⟨u1, eu1⟩ : ∃ z : MS, z = mu_sort u0 k1 := ⟨_, rfl⟩
  have G : wg D A s.heap H locs (wM cI ad u1) := by rw [eu1]; exact G
  have h := nm_at eu1 h
  clear eu1
  refine lv_aload_n hx hb dX7_token_107 rfl (lv_at hl 0 rfl) ?_
  refine gM_0_6 X K G q_912 dX7_token_108 ?_
  refine lv_iconst (v := 3) hx hb dX7_token_111 (by decide) ?_
  refine lv_icmp_ne (tgt := 125) hx hb dX7_token_112 (by decide) (fun c2 => ?_) (fun c2 => ?_)
  · have h := if_at c2 h
    obtain ⟨q4, hq4, ha, hb1⟩ := bne_at h
    obtain ⟨n3, hn3⟩ := wl_iff.mp hq4
    refine w_X7_token_L125_125 X K n3 _ hn3 G (lv_sub hl [0] rfl) (fun  u5 ee H locs ls G hl => ?_) (fun r u1 ee => by obtain ⟨rfl, rfl⟩ := pair_at (ha _ ee); rfl)
    have h := hb1 _ ee
    clear ee ha hb1 hq4 hn3
    have h := nm_at (x := u5) rfl h
    obtain ⟨q7, hq7, ha, hb1⟩ := bne_at h
    obtain ⟨n6, hn6⟩ := wl_iff.mp hq7
    refine w_X7_token_L161_161 X K n6 _ hn6 G (lv_sub hl [0] rfl) (fun  u8 ee H locs ls G hl => ?_) (fun r u1 ee => by obtain ⟨rfl, rfl⟩ := pair_at (ha _ ee); rfl)
    have h := hb1 _ ee
    clear ee ha hb1 hq7 hn6
    have h := nm_at (x := u8) rfl h
    obtain ⟨rfl, rfl⟩ := pair_at h
    exact reV X G dX7_token_238
  · have h := it_at c2 h
    refine lv_aload_n hx hb dX7_token_115 rfl (lv_at hl 0 rfl) ?_
    refine lv_dup hx hb dX7_token_116 rfl ?_
    refine gM_0_8 X K G q_914 dX7_token_117 ?_
    refine lv_iconst (v := 1) hx hb dX7_token_120 (by decide) ?_
    refine lv_iadd hx hb dX7_token_121 ?_
    refine lv_topi (fun x9 ex9 => ?_)
    have h := nm_at ex9 h
    refine pM_0_8 X K G q_914 dX7_token_122 (fun H locs G => ?_)
    obtain ⟨u10, eu10⟩ : ∃ z : MS, z = mu_to u1 x9 := ⟨_, rfl⟩
    have G : wg D A s.heap H locs (wM cI ad u10) := by rw [eu10]; exact G
    have h := nm_at eu10 h
    clear eu10
    obtain ⟨q12, hq12, ha, hb1⟩ := bne_at h
    obtain ⟨n11, hn11⟩ := wl_iff.mp hq12
    refine w_X7_token_L125_125 X K n11 _ hn11 G (lv_sub hl [0] rfl) (fun  u13 ee H locs ls G hl => ?_) (fun r u1 ee => by obtain ⟨rfl, rfl⟩ := pair_at (ha _ ee); rfl)
    have h := hb1 _ ee
    clear ee ha hb1 hq12 hn11
    have h := nm_at (x := u13) rfl h
    obtain ⟨q15, hq15, ha, hb1⟩ := bne_at h
    obtain ⟨n14, hn14⟩ := wl_iff.mp hq15
    refine w_X7_token_L161_161 X K n14 _ hn14 G (lv_sub hl [0] rfl) (fun  u16 ee H locs ls G hl => ?_) (fun r u1 ee => by obtain ⟨rfl, rfl⟩ := pair_at (ha _ ee); rfl)
    have h := hb1 _ ee
    clear ee ha hb1 hq15 hn14
    have h := nm_at (x := u16) rfl h
    obtain ⟨rfl, rfl⟩ := pair_at h
    exact reV X G dX7_token_238
noncomputable def f_X7_token (u0 : MS) : Option (Int32 × MS) :=
  nmv (m_to u0) fun x1 =>
  nmv (mu_from u0 x1) fun u2 =>
  bne (wl f_X7_token_L8_8s u2) (fun a => some a) fun b =>
    nmv b fun u5 =>
    nmv (m_from u5) fun x6 =>
    nmv (mu_to u5 x6) fun u7 =>
    nmv (mu_value u7 (0 : Int32)) fun u8 =>
    (if (m_from u8) = (m_taped u8) then
      f_X7_token_104 (0 : Int32) u8
    else
      bnd (f_X7_isByte (m_from u8) (97 : Int32) (122 : Int32) u8) fun r10 u11 =>
      (if r10 = 0 then
        bnd (f_X7_isByte (m_from u11) (48 : Int32) (57 : Int32) u11) fun r13 u14 =>
        (if r13 = 0 then
          f_X7_token_104 (3 : Int32) u14
        else
          f_X7_token_104 (2 : Int32) u14)
      else
        f_X7_token_104 (1 : Int32) u11))
set_option maxRecDepth 100000 in
set_option maxHeartbeats 4000000 in
theorem c_X7_token {u0 : MS} {r : Int32} {u' : MS} (h : f_X7_token  u0 = some (r, u')) : MV l D cI cZ cQ adK adV A yX7_token cX7_token 1 { frames := 2, cells := 0, slots := 0, locals := 48 } [.ref (ad 0)] (wM cI ad) u0 u' := by
  unfold f_X7_token at h
  refine entV (by decide) (Nat.le_of_ble_eq_true rfl) (fun p e s m below meth c ls X K G hl => ?_)
  have hl : lv_has ls 1 [(0, .ref (ad 0))] := hl
  obtain ⟨hx, hb, -⟩ := id X
  generalize hH : s.heap = H at G
  subst hH
  refine lv_aload_n hx hb dX7_token_0 rfl (lv_at hl 0 rfl) ?_
  refine lv_aload_n hx hb dX7_token_1 rfl (lv_at hl 0 rfl) ?_
  refine gM_0_8 X K G q_914 dX7_token_2 ?_
  refine lv_topi (fun x1 ex1 => ?_)
  have h := nm_at ex1 h
  refine pM_0_7 X K G q_913 dX7_token_5 (fun H locs G => ?_)
  obtain ⟨u2, eu2⟩ : ∃ z : MS, z = mu_from u0 x1 := ⟨_, rfl⟩
  have G : wg D A s.heap H locs (wM cI ad u2) := by rw [eu2]; exact G
  have h := nm_at eu2 h
  clear eu2
  obtain ⟨q4, hq4, ha, hb1⟩ := bne_at h
  obtain ⟨n3, hn3⟩ := wl_iff.mp hq4
  refine w_X7_token_L8_8 X K n3 _ hn3 G (lv_sub hl [0] rfl) (fun  u5 ee H locs ls G hl => ?_) (fun r u1 ee => by obtain ⟨rfl, rfl⟩ := pair_at (ha _ ee); rfl)
  have h := hb1 _ ee
  clear ee ha hb1 hq4 hn3
  have h := nm_at (x := u5) rfl h
  refine lv_aload_n hx hb dX7_token_36 rfl (lv_at hl 0 rfl) ?_
  refine lv_aload_n hx hb dX7_token_37 rfl (lv_at hl 0 rfl) ?_
  refine gM_0_7 X K G q_913 dX7_token_38 ?_
  refine lv_topi (fun x6 ex6 => ?_)
  have h := nm_at ex6 h
  refine pM_0_8 X K G q_914 dX7_token_41 (fun H locs G => ?_)
  obtain ⟨u7, eu7⟩ : ∃ z : MS, z = mu_to u5 x6 := ⟨_, rfl⟩
  have G : wg D A s.heap H locs (wM cI ad u7) := by rw [eu7]; exact G
  have h := nm_at eu7 h
  clear eu7
  refine lv_aload_n hx hb dX7_token_44 rfl (lv_at hl 0 rfl) ?_
  refine lv_iconst (v := 0) hx hb dX7_token_45 (by decide) ?_
  refine pM_0_9 X K G q_915 dX7_token_46 (fun H locs G => ?_)
  obtain ⟨u8, eu8⟩ : ∃ z : MS, z = mu_value u7 (0 : Int32) := ⟨_, rfl⟩
  have G : wg D A s.heap H locs (wM cI ad u8) := by rw [eu8]; exact G
  have h := nm_at eu8 h
  clear eu8
  refine lv_aload_n hx hb dX7_token_49 rfl (lv_at hl 0 rfl) ?_
  refine lv_aload_n hx hb dX7_token_50 rfl (lv_at hl 0 rfl) ?_
  refine gM_0_7 X K G q_913 dX7_token_51 ?_
  refine lv_aload_n hx hb dX7_token_54 rfl (lv_at hl 0 rfl) ?_
  refine gM_0_5 X K G q_911 dX7_token_55 ?_
  refine lv_icmp_ne (tgt := 65) hx hb dX7_token_58 (by decide) (fun c9 => ?_) (fun c9 => ?_)
  · have h := if_at c9 h
    refine lv_aload_n hx hb dX7_token_65 rfl (lv_at hl 0 rfl) ?_
    refine lv_aload_n hx hb dX7_token_66 rfl (lv_at hl 0 rfl) ?_
    refine gM_0_7 X K G q_913 dX7_token_67 ?_
    refine lv_bipush (v := 97) hx hb dX7_token_70 (by decide) ?_
    refine lv_bipush (v := 122) hx hb dX7_token_72 (by decide) ?_
    obtain ⟨r10, u11, er10, h⟩ := bnd_at h
    refine cvI (rest := [.ref (ad 0)]) X K G (c_X7_isByte er10) q_993 my_X7_isByte ⟨rfl, rfl⟩ ⟨Nat.le_of_ble_eq_true rfl, Nat.le_of_ble_eq_true rfl⟩ ⟨Nat.zero_le _, Nat.zero_le _⟩ 0 7 rfl rfl rfl rfl hl.1 rfl (Nat.le_of_ble_eq_true rfl) dX7_token_74 (fun H locs G => ?_)
    clear er10
    refine lv_if_eq (tgt := 84) hx hb dX7_token_77 (by decide) (fun c12 => ?_) (fun c12 => ?_)
    · have h := it_at c12 h
      refine lv_aload_n hx hb dX7_token_84 rfl (lv_at hl 0 rfl) ?_
      refine lv_aload_n hx hb dX7_token_85 rfl (lv_at hl 0 rfl) ?_
      refine gM_0_7 X K G q_913 dX7_token_86 ?_
      refine lv_bipush (v := 48) hx hb dX7_token_89 (by decide) ?_
      refine lv_bipush (v := 57) hx hb dX7_token_91 (by decide) ?_
      obtain ⟨r13, u14, er13, h⟩ := bnd_at h
      refine cvI (rest := [.ref (ad 0)]) X K G (c_X7_isByte er13) q_993 my_X7_isByte ⟨rfl, rfl⟩ ⟨Nat.le_of_ble_eq_true rfl, Nat.le_of_ble_eq_true rfl⟩ ⟨Nat.zero_le _, Nat.zero_le _⟩ 0 7 rfl rfl rfl rfl hl.1 rfl (Nat.le_of_ble_eq_true rfl) dX7_token_93 (fun H locs G => ?_)
      clear er13
      refine lv_if_eq (tgt := 103) hx hb dX7_token_96 (by decide) (fun c15 => ?_) (fun c15 => ?_)
      · have h := it_at c15 h
        refine lv_iconst (v := 3) hx hb dX7_token_103 (by decide) ?_
        exact b_X7_token_104 X K G (lv_sub hl [0] rfl) h
      · have h := if_at c15 h
        refine lv_iconst (v := 2) hx hb dX7_token_99 (by decide) ?_
        refine lv_goto (tgt := 104) hx hb dX7_token_100 (by decide) ?_
        exact b_X7_token_104 X K G (lv_sub hl [0] rfl) h
    · have h := if_at c12 h
      refine lv_iconst (v := 1) hx hb dX7_token_80 (by decide) ?_
      refine lv_goto (tgt := 104) hx hb dX7_token_81 (by decide) ?_
      exact b_X7_token_104 X K G (lv_sub hl [0] rfl) h
  · have h := it_at c9 h
    refine lv_iconst (v := 0) hx hb dX7_token_61 (by decide) ?_
    refine lv_goto (tgt := 104) hx hb dX7_token_62 (by decide) ?_
    exact b_X7_token_104 X K G (lv_sub hl [0] rfl) h
noncomputable def f_X7_isWord_L39_39 (n1 : Nat) (v2 : Int32) (v3 : Int32) (u0 : MS) : Option ((Nat × Int32 × Int32 × MS) ⊕ ((Int32 × MS) ⊕ (Int32 × MS))) :=
  (if v2 = 0 then
    some (.inr (.inr (v2, u0)))
  else
    if 14 ≤ n1 then none else
    (if (nI (tx_len n1)) ≤ v3 then
      some (.inr (.inr (v2, u0)))
    else
      nmv ((m_from u0) + v3) fun x4 =>
      if x4 < 0 ∨ 120 ≤ x4.toNatClampNeg then none else
      if 14 ≤ n1 then none else
      if v3 < 0 ∨ tx_len n1 ≤ v3.toNatClampNeg then none else
      (if ((m_tape u0) x4.toNatClampNeg) = (tx_chr n1 v3.toNatClampNeg) then
        nmv (v3 + (1 : Int32)) fun x10 =>
        some (.inl (n1, (1 : Int32), x10, u0))
      else
        nmv (v3 + (1 : Int32)) fun x9 =>
        some (.inl (n1, (0 : Int32), x9, u0)))))
set_option maxRecDepth 100000 in
set_option maxHeartbeats 4000000 in
theorem b_X7_isWord_L39_39 (X : cx p s m args meth c cX7_isWord 4 RX7 (some .boolean)) (K : kx D cI cZ cQ adK adV A s s.heap) {n1 : Nat} {v2 : Int32} {v3 : Int32} {u0 : MS} (G : wg D A s.heap H locs (wM cI ad u0)) (hl : lv_has ls 4 [(0, .ref (ad 0)), (1, .ref (adK n1)), (2, .int v2), (3, .int v3)]) {q : ((Nat × Int32 × Int32 × MS) ⊕ ((Int32 × MS) ⊕ (Int32 × MS)))} (h : f_X7_isWord_L39_39 n1 v2 v3 u0 = some q) (hB : ∀ (n1 : Nat) (v2 : Int32) (v3 : Int32) (u : MS), q = .inl (n1, v2, v3, u) → ∀ (H : Heap) (locs : List Loc) (ls : Array Slot), wg D A s.heap H locs (wM cI ad u) → lv_has ls 4 [(0, .ref (ad 0)), (1, .ref (adK n1)), (2, .int v2), (3, .int v3)] → W p l e { frames := 4, cells := 0, slots := 0, locals := 85 } s m args below meth c H locs 0 0 Q (F0 m 39 ls [])) (hX : ∀ (v2 : Int32) (u : MS), q = .inr (.inr (v2, u)) → ∀ (H : Heap) (locs : List Loc) (ls : Array Slot), wg D A s.heap H locs (wM cI ad u) → lv_has ls 4 [(2, .int v2)] → W p l e { frames := 4, cells := 0, slots := 0, locals := 85 } s m args below meth c H locs 0 0 Q (F0 m 82 ls [])) (hR : ∀ (r : Int32) (u : MS), q = .inr (.inl (r, u)) → Q = (qI D A (wM cI ad) below args s r u)) : W p l e { frames := 4, cells := 0, slots := 0, locals := 85 } s m args below meth c H locs 0 0 Q (F0 m 39 ls []) := by
  unfold f_X7_isWord_L39_39 at h
  obtain ⟨hx, hb, -⟩ := id X
  refine lv_iload_n hx hb dX7_isWord_39 rfl (lv_at hl 2 rfl) ?_
  refine lv_if_eq (tgt := 82) hx hb dX7_isWord_40 (by decide) (fun c1 => ?_) (fun c1 => ?_)
  · have h := it_at c1 h
    exact hX _ _ (Option.some.inj h).symm _ _ _ G (lv_sub hl [2] rfl)
  · have h := if_at c1 h
    refine lv_iload_n hx hb dX7_isWord_43 rfl (lv_at hl 3 rfl) ?_
    refine lv_aload_n hx hb dX7_isWord_44 rfl (lv_at hl 1 rfl) ?_
    obtain ⟨g2, h⟩ := ck_at h
    refine cLen (rest := [.int v3]) X K G (Nat.not_le.mp g2) q_1010 hl.1 rfl (Nat.le_of_ble_eq_true rfl) ⟨Nat.le_of_ble_eq_true rfl, Nat.le_of_ble_eq_true rfl⟩ dX7_isWord_45 (fun H locs G => ?_)
    refine lv_icmp_ge (tgt := 82) hx hb dX7_isWord_48 (by decide) (fun c3 => ?_) (fun c3 => ?_)
    · have h := it_at c3 h
      exact hX _ _ (Option.some.inj h).symm _ _ _ G (lv_sub hl [2] rfl)
    · have h := if_at c3 h
      refine lv_aload_n hx hb dX7_isWord_51 rfl (lv_at hl 0 rfl) ?_
      refine gM_0_4 X K G q_910 dX7_isWord_52 ?_
      refine lv_aload_n hx hb dX7_isWord_55 rfl (lv_at hl 0 rfl) ?_
      refine gM_0_7 X K G q_913 dX7_isWord_56 ?_
      refine lv_iload_n hx hb dX7_isWord_59 rfl (lv_at hl 3 rfl) ?_
      refine lv_iadd hx hb dX7_isWord_60 ?_
      refine lv_topi (fun x4 ex4 => ?_)
      have h := nm_at ex4 h
      obtain ⟨g5, h⟩ := ck_at h
      refine lM_4 X K G g5 dX7_isWord_61 ?_
      refine lv_aload_n hx hb dX7_isWord_62 rfl (lv_at hl 1 rfl) ?_
      refine lv_iload_n hx hb dX7_isWord_63 rfl (lv_at hl 3 rfl) ?_
      obtain ⟨g6, h⟩ := ck_at h
      obtain ⟨g7, h⟩ := ck_at h
      refine cChr (rest := [.int ((m_tape u0) x4.toNatClampNeg)]) X K G (Nat.not_le.mp g6) g7 q_1011 hl.1 rfl (Nat.le_of_ble_eq_true rfl) ⟨Nat.le_of_ble_eq_true rfl, Nat.le_of_ble_eq_true rfl⟩ dX7_isWord_64 (fun H locs G => ?_)
      refine lv_icmp_ne (tgt := 74) hx hb dX7_isWord_67 (by decide) (fun c8 => ?_) (fun c8 => ?_)
      · have h := if_at c8 h
        refine lv_iconst (v := 0) hx hb dX7_isWord_74 (by decide) ?_
        refine lv_istore_n (lv' := [(2, .int (0 : Int32)), (0, .ref (ad 0)), (1, .ref (adK n1)), (3, .int v3)]) hx hb dX7_isWord_75 rfl hl (by decide) rfl (fun ls hl => ?_)
        obtain ⟨x9, ex9⟩ : ∃ z : Int32, z = v3 + (1 : Int32) := ⟨_, rfl⟩
        have h := nm_at ex9 h
        refine lv_iinc (v := x9) (lv' := [(3, .int x9), (2, .int (0 : Int32)), (0, .ref (ad 0)), (1, .ref (adK n1))]) hx hb dX7_isWord_76 hl (k := 3) rfl (by rw [ex9]; rfl) (by decide) rfl (fun ls hl => ?_)
        refine lv_goto (tgt := 39) hx hb dX7_isWord_79 (by decide) ?_
        exact hB _ _ _ _ (Option.some.inj h).symm _ _ _ G (lv_sub hl [2, 3, 1, 0] rfl)
      · have h := it_at c8 h
        refine lv_iconst (v := 1) hx hb dX7_isWord_70 (by decide) ?_
        refine lv_goto (tgt := 75) hx hb dX7_isWord_71 (by decide) ?_
        refine lv_istore_n (lv' := [(2, .int (1 : Int32)), (0, .ref (ad 0)), (1, .ref (adK n1)), (3, .int v3)]) hx hb dX7_isWord_75 rfl hl (by decide) rfl (fun ls hl => ?_)
        obtain ⟨x10, ex10⟩ : ∃ z : Int32, z = v3 + (1 : Int32) := ⟨_, rfl⟩
        have h := nm_at ex10 h
        refine lv_iinc (v := x10) (lv' := [(3, .int x10), (2, .int (1 : Int32)), (0, .ref (ad 0)), (1, .ref (adK n1))]) hx hb dX7_isWord_76 hl (k := 3) rfl (by rw [ex10]; rfl) (by decide) rfl (fun ls hl => ?_)
        refine lv_goto (tgt := 39) hx hb dX7_isWord_79 (by decide) ?_
        exact hB _ _ _ _ (Option.some.inj h).symm _ _ _ G (lv_sub hl [2, 3, 1, 0] rfl)
noncomputable def f_X7_isWord_L39_39s (q : Nat × Int32 × Int32 × MS) : Option ((Nat × Int32 × Int32 × MS) ⊕ ((Int32 × MS) ⊕ (Int32 × MS))) := f_X7_isWord_L39_39 q.1 q.2.1 q.2.2.1 q.2.2.2
set_option maxRecDepth 100000 in
set_option maxHeartbeats 4000000 in
theorem w_X7_isWord_L39_39 (X : cx p s m args meth c cX7_isWord 4 RX7 (some .boolean)) (K : kx D cI cZ cQ adK adV A s s.heap) {e0 : (Int32 × MS) ⊕ (Int32 × MS)} : ∀ (n : Nat) (n1 : Nat) (v2 : Int32) (v3 : Int32) (u : MS) {H : Heap} {locs : List Loc} {ls : Array Slot}, wh f_X7_isWord_L39_39s n (n1, v2, v3, u) = some e0 → wg D A s.heap H locs (wM cI ad u) → lv_has ls 4 [(0, .ref (ad 0)), (1, .ref (adK n1)), (2, .int v2), (3, .int v3)] → (∀ (v2 : Int32) (u : MS), e0 = .inr (v2, u) → ∀ (H : Heap) (locs : List Loc) (ls : Array Slot), wg D A s.heap H locs (wM cI ad u) → lv_has ls 4 [(2, .int v2)] → W p l e { frames := 4, cells := 0, slots := 0, locals := 85 } s m args below meth c H locs 0 0 Q (F0 m 82 ls [])) → (∀ (r : Int32) (u : MS), e0 = .inl (r, u) → Q = (qI D A (wM cI ad) below args s r u)) → W p l e { frames := 4, cells := 0, slots := 0, locals := 85 } s m args below meth c H locs 0 0 Q (F0 m 39 ls []) := by
  intro n
  induction n with
  | zero => intro n1 v2 v3 u H locs ls h; cases h
  | succ n ih =>
    intro n1 v2 v3 u H locs ls h G hl hX hR
    obtain ⟨q, h1, h2, h3⟩ := wh_at h
    exact b_X7_isWord_L39_39 X K G hl (show f_X7_isWord_L39_39 n1 v2 v3 u = some q from h1) (fun b0 b1 b2 b3 ee H locs ls G hl => ih b0 b1 b2 b3 (h2 _ ee) G hl hX hR) (fun z0 z1 ee => hX z0 z1 (h3 _ ee).symm) (fun r u ee => hR r u (h3 _ ee).symm)
noncomputable def f_X7_isWord (j1 : Nat) (u0 : MS) : Option (Int32 × MS) :=
  (if (m_bad u0) = 0 then
    (if (m_sort u0) = (1 : Int32) then
      if 14 ≤ j1 then none else
      (if ((m_to u0) - (m_from u0)) = (nI (tx_len j1)) then
        bne (wl f_X7_isWord_L39_39s (j1, (1 : Int32), (0 : Int32), u0)) (fun a => some a) fun b =>
          nmv b.1 fun y23 =>
          nmv b.2 fun u22 =>
          if ¬ (y23 = 0 ∨ y23 = 1) then none else
          some (y23, u22)
      else
        bne (wl f_X7_isWord_L39_39s (j1, (0 : Int32), (0 : Int32), u0)) (fun a => some a) fun b =>
          nmv b.1 fun y18 =>
          nmv b.2 fun u17 =>
          if ¬ (y18 = 0 ∨ y18 = 1) then none else
          some (y18, u17))
    else
      bne (wl f_X7_isWord_L39_39s (j1, (0 : Int32), (0 : Int32), u0)) (fun a => some a) fun b =>
        nmv b.1 fun y11 =>
        nmv b.2 fun u10 =>
        if ¬ (y11 = 0 ∨ y11 = 1) then none else
        some (y11, u10))
  else
    bne (wl f_X7_isWord_L39_39s (j1, (0 : Int32), (0 : Int32), u0)) (fun a => some a) fun b =>
      nmv b.1 fun y5 =>
      nmv b.2 fun u4 =>
      if ¬ (y5 = 0 ∨ y5 = 1) then none else
      some (y5, u4))
set_option maxRecDepth 100000 in
set_option maxHeartbeats 4000000 in
theorem c_X7_isWord {j1 : Nat} {u0 : MS} {r : Int32} {u' : MS} (h : f_X7_isWord j1 u0 = some (r, u')) : MI l D cI cZ cQ adK adV A yX7_isWord cX7_isWord 4 (some .boolean) { frames := 4, cells := 0, slots := 0, locals := 85 } [.ref (ad 0), .ref (adK j1)] (wM cI ad) u0 r u' := by
  unfold f_X7_isWord at h
  refine entI (by decide) (Nat.le_of_ble_eq_true rfl) (fun p e s m below meth c ls X K G hl => ?_)
  have hl : lv_has ls 4 [(0, .ref (ad 0)), (1, .ref (adK j1))] := hl
  obtain ⟨hx, hb, -⟩ := id X
  generalize hH : s.heap = H at G
  subst hH
  refine lv_aload_n hx hb dX7_isWord_0 rfl (lv_at hl 0 rfl) ?_
  refine gM_0_10 X K G q_916 dX7_isWord_1 ?_
  refine lv_if_ne (tgt := 35) hx hb dX7_isWord_4 (by decide) (fun c1 => ?_) (fun c1 => ?_)
  · have h := if_at c1 h
    refine lv_iconst (v := 0) hx hb dX7_isWord_35 (by decide) ?_
    refine lv_istore_n (lv' := [(2, .int (0 : Int32)), (0, .ref (ad 0)), (1, .ref (adK j1))]) hx hb dX7_isWord_36 rfl hl (by decide) rfl (fun ls hl => ?_)
    refine lv_iconst (v := 0) hx hb dX7_isWord_37 (by decide) ?_
    refine lv_istore_n (lv' := [(3, .int (0 : Int32)), (2, .int (0 : Int32)), (0, .ref (ad 0)), (1, .ref (adK j1))]) hx hb dX7_isWord_38 rfl hl (by decide) rfl (fun ls hl => ?_)
    obtain ⟨q3, hq3, ha, hb1⟩ := bne_at h
    obtain ⟨n2, hn2⟩ := wl_iff.mp hq3
    refine w_X7_isWord_L39_39 X K n2 _ _ _ _ hn2 G (lv_sub hl [2, 3, 1, 0] rfl) (fun y5 u4 ee H locs ls G hl => ?_) (fun r u1 ee => by obtain ⟨rfl, rfl⟩ := pair_at (ha _ ee); rfl)
    have h := hb1 _ ee
    clear ee ha hb1 hq3 hn2
    have h := nm_at (x := y5) rfl h
    have h := nm_at (x := u4) rfl h
    refine lv_iload_n hx hb dX7_isWord_82 rfl (lv_at hl 0 rfl) ?_
    obtain ⟨g6, h⟩ := ck_at h
    obtain ⟨rfl, rfl⟩ := pair_at h
    exact reZ X G (Decidable.not_not.mp g6) dX7_isWord_83
  · have h := it_at c1 h
    refine lv_aload_n hx hb dX7_isWord_7 rfl (lv_at hl 0 rfl) ?_
    refine gM_0_6 X K G q_912 dX7_isWord_8 ?_
    refine lv_iconst (v := 1) hx hb dX7_isWord_11 (by decide) ?_
    refine lv_icmp_ne (tgt := 35) hx hb dX7_isWord_12 (by decide) (fun c7 => ?_) (fun c7 => ?_)
    · have h := if_at c7 h
      refine lv_iconst (v := 0) hx hb dX7_isWord_35 (by decide) ?_
      refine lv_istore_n (lv' := [(2, .int (0 : Int32)), (0, .ref (ad 0)), (1, .ref (adK j1))]) hx hb dX7_isWord_36 rfl hl (by decide) rfl (fun ls hl => ?_)
      refine lv_iconst (v := 0) hx hb dX7_isWord_37 (by decide) ?_
      refine lv_istore_n (lv' := [(3, .int (0 : Int32)), (2, .int (0 : Int32)), (0, .ref (ad 0)), (1, .ref (adK j1))]) hx hb dX7_isWord_38 rfl hl (by decide) rfl (fun ls hl => ?_)
      obtain ⟨q9, hq9, ha, hb1⟩ := bne_at h
      obtain ⟨n8, hn8⟩ := wl_iff.mp hq9
      refine w_X7_isWord_L39_39 X K n8 _ _ _ _ hn8 G (lv_sub hl [2, 3, 1, 0] rfl) (fun y11 u10 ee H locs ls G hl => ?_) (fun r u1 ee => by obtain ⟨rfl, rfl⟩ := pair_at (ha _ ee); rfl)
      have h := hb1 _ ee
      clear ee ha hb1 hq9 hn8
      have h := nm_at (x := y11) rfl h
      have h := nm_at (x := u10) rfl h
      refine lv_iload_n hx hb dX7_isWord_82 rfl (lv_at hl 0 rfl) ?_
      obtain ⟨g12, h⟩ := ck_at h
      obtain ⟨rfl, rfl⟩ := pair_at h
      exact reZ X G (Decidable.not_not.mp g12) dX7_isWord_83
    · have h := it_at c7 h
      refine lv_aload_n hx hb dX7_isWord_15 rfl (lv_at hl 0 rfl) ?_
      refine gM_0_8 X K G q_914 dX7_isWord_16 ?_
      refine lv_aload_n hx hb dX7_isWord_19 rfl (lv_at hl 0 rfl) ?_
      refine gM_0_7 X K G q_913 dX7_isWord_20 ?_
      refine lv_isub hx hb dX7_isWord_23 ?_
      refine lv_aload_n hx hb dX7_isWord_24 rfl (lv_at hl 1 rfl) ?_
      obtain ⟨g13, h⟩ := ck_at h
      refine cLen (rest := [.int ((m_to u0) - (m_from u0))]) X K G (Nat.not_le.mp g13) q_1010 hl.1 rfl (Nat.le_of_ble_eq_true rfl) ⟨Nat.le_of_ble_eq_true rfl, Nat.le_of_ble_eq_true rfl⟩ dX7_isWord_25 (fun H locs G => ?_)
      refine lv_icmp_ne (tgt := 35) hx hb dX7_isWord_28 (by decide) (fun c14 => ?_) (fun c14 => ?_)
      · have h := if_at c14 h
        refine lv_iconst (v := 0) hx hb dX7_isWord_35 (by decide) ?_
        refine lv_istore_n (lv' := [(2, .int (0 : Int32)), (0, .ref (ad 0)), (1, .ref (adK j1))]) hx hb dX7_isWord_36 rfl hl (by decide) rfl (fun ls hl => ?_)
        refine lv_iconst (v := 0) hx hb dX7_isWord_37 (by decide) ?_
        refine lv_istore_n (lv' := [(3, .int (0 : Int32)), (2, .int (0 : Int32)), (0, .ref (ad 0)), (1, .ref (adK j1))]) hx hb dX7_isWord_38 rfl hl (by decide) rfl (fun ls hl => ?_)
        obtain ⟨q16, hq16, ha, hb1⟩ := bne_at h
        obtain ⟨n15, hn15⟩ := wl_iff.mp hq16
        refine w_X7_isWord_L39_39 X K n15 _ _ _ _ hn15 G (lv_sub hl [2, 3, 1, 0] rfl) (fun y18 u17 ee H locs ls G hl => ?_) (fun r u1 ee => by obtain ⟨rfl, rfl⟩ := pair_at (ha _ ee); rfl)
        have h := hb1 _ ee
        clear ee ha hb1 hq16 hn15
        have h := nm_at (x := y18) rfl h
        have h := nm_at (x := u17) rfl h
        refine lv_iload_n hx hb dX7_isWord_82 rfl (lv_at hl 0 rfl) ?_
        obtain ⟨g19, h⟩ := ck_at h
        obtain ⟨rfl, rfl⟩ := pair_at h
        exact reZ X G (Decidable.not_not.mp g19) dX7_isWord_83
      · have h := it_at c14 h
        refine lv_iconst (v := 1) hx hb dX7_isWord_31 (by decide) ?_
        refine lv_goto (tgt := 36) hx hb dX7_isWord_32 (by decide) ?_
        refine lv_istore_n (lv' := [(2, .int (1 : Int32)), (0, .ref (ad 0)), (1, .ref (adK j1))]) hx hb dX7_isWord_36 rfl hl (by decide) rfl (fun ls hl => ?_)
        refine lv_iconst (v := 0) hx hb dX7_isWord_37 (by decide) ?_
        refine lv_istore_n (lv' := [(3, .int (0 : Int32)), (2, .int (1 : Int32)), (0, .ref (ad 0)), (1, .ref (adK j1))]) hx hb dX7_isWord_38 rfl hl (by decide) rfl (fun ls hl => ?_)
        obtain ⟨q21, hq21, ha, hb1⟩ := bne_at h
        obtain ⟨n20, hn20⟩ := wl_iff.mp hq21
        refine w_X7_isWord_L39_39 X K n20 _ _ _ _ hn20 G (lv_sub hl [2, 3, 1, 0] rfl) (fun y23 u22 ee H locs ls G hl => ?_) (fun r u1 ee => by obtain ⟨rfl, rfl⟩ := pair_at (ha _ ee); rfl)
        have h := hb1 _ ee
        clear ee ha hb1 hq21 hn20
        have h := nm_at (x := y23) rfl h
        have h := nm_at (x := u22) rfl h
        refine lv_iload_n hx hb dX7_isWord_82 rfl (lv_at hl 0 rfl) ?_
        obtain ⟨g24, h⟩ := ck_at h
        obtain ⟨rfl, rfl⟩ := pair_at h
        exact reZ X G (Decidable.not_not.mp g24) dX7_isWord_83
noncomputable def f_X7_takes (j1 : Nat) (u0 : MS) : Option (Int32 × MS) :=
  bnd (f_X7_isWord j1 u0) fun r1 u2 =>
  (if r1 = 0 then
    some ((0 : Int32), u2)
  else
    bnd (f_X7_token  u2) fun r4 u5 =>
    some ((1 : Int32), u5))
set_option maxRecDepth 100000 in
set_option maxHeartbeats 4000000 in
theorem c_X7_takes {j1 : Nat} {u0 : MS} {r : Int32} {u' : MS} (h : f_X7_takes j1 u0 = some (r, u')) : MI l D cI cZ cQ adK adV A yX7_takes cX7_takes 2 (some .boolean) { frames := 5, cells := 0, slots := 0, locals := 108 } [.ref (ad 0), .ref (adK j1)] (wM cI ad) u0 r u' := by
  unfold f_X7_takes at h
  refine entI (by decide) (Nat.le_of_ble_eq_true rfl) (fun p e s m below meth c ls X K G hl => ?_)
  have hl : lv_has ls 2 [(0, .ref (ad 0)), (1, .ref (adK j1))] := hl
  obtain ⟨hx, hb, -⟩ := id X
  generalize hH : s.heap = H at G
  subst hH
  refine lv_aload_n hx hb dX7_takes_0 rfl (lv_at hl 0 rfl) ?_
  refine lv_aload_n hx hb dX7_takes_1 rfl (lv_at hl 1 rfl) ?_
  obtain ⟨r1, u2, er1, h⟩ := bnd_at h
  refine cvI (rest := []) X K G (c_X7_isWord er1) q_1006 my_X7_isWord ⟨rfl, rfl⟩ ⟨Nat.le_of_ble_eq_true rfl, Nat.le_of_ble_eq_true rfl⟩ ⟨Nat.zero_le _, Nat.zero_le _⟩ 0 7 rfl rfl rfl rfl hl.1 rfl (Nat.le_of_ble_eq_true rfl) dX7_takes_2 (fun H locs G => ?_)
  clear er1
  refine lv_if_ne (tgt := 10) hx hb dX7_takes_5 (by decide) (fun c3 => ?_) (fun c3 => ?_)
  · have h := if_at c3 h
    refine lv_aload_n hx hb dX7_takes_10 rfl (lv_at hl 0 rfl) ?_
    obtain ⟨r4, u5, er4, h⟩ := bnd_at h
    refine cvV (rest := []) X K G (c_X7_token er4) q_989 my_X7_token ⟨rfl, rfl⟩ ⟨Nat.le_of_ble_eq_true rfl, Nat.le_of_ble_eq_true rfl⟩ ⟨Nat.zero_le _, Nat.zero_le _⟩ 0 7 rfl rfl rfl rfl hl.1 rfl (Nat.le_of_ble_eq_true rfl) dX7_takes_11 (fun H locs G => ?_)
    clear er4
    refine lv_iconst (v := 1) hx hb dX7_takes_14 (by decide) ?_
    obtain ⟨rfl, rfl⟩ := pair_at h
    exact reZ X G (Or.inr rfl) dX7_takes_15
  · have h := it_at c3 h
    refine lv_iconst (v := 0) hx hb dX7_takes_8 (by decide) ?_
    obtain ⟨rfl, rfl⟩ := pair_at h
    exact reZ X G (Or.inl rfl) dX7_takes_9
noncomputable def f_X7_kindHere (u0 : MS) : Option (Int32 × MS) :=
  bnd (f_X7_isWord (13) u0) fun r1 u2 =>
  (if r1 = 0 then
    bnd (f_X7_isWord (7) u2) fun r4 u5 =>
    (if r4 = 0 then
      bnd (f_X7_isWord (8) u5) fun r7 u8 =>
      (if r7 = 0 then
        bnd (f_X7_isWord (9) u8) fun r10 u11 =>
        (if r10 = 0 then
          bnd (f_X7_isWord (10) u11) fun r13 u14 =>
          (if r13 = 0 then
            bnd (f_X7_isWord (11) u14) fun r16 u17 =>
            (if r16 = 0 then
              bnd (f_X7_isWord (12) u17) fun r19 u20 =>
              (if r19 = 0 then
                some ((-1 : Int32), u20)
              else
                some ((6 : Int32), u20))
            else
              some ((5 : Int32), u17))
          else
            some ((4 : Int32), u14))
        else
          some ((3 : Int32), u11))
      else
        some ((2 : Int32), u8))
    else
      some ((1 : Int32), u5))
  else
    some ((0 : Int32), u2))
set_option maxRecDepth 100000 in
set_option maxHeartbeats 4000000 in
theorem c_X7_kindHere {u0 : MS} {r : Int32} {u' : MS} (h : f_X7_kindHere  u0 = some (r, u')) : MI l D cI cZ cQ adK adV A yX7_kindHere cX7_kindHere 1 (some .int) { frames := 5, cells := 0, slots := 0, locals := 108 } [.ref (ad 0)] (wM cI ad) u0 r u' := by
  unfold f_X7_kindHere at h
  refine entI (by decide) (Nat.le_of_ble_eq_true rfl) (fun p e s m below meth c ls X K G hl => ?_)
  have hl : lv_has ls 1 [(0, .ref (ad 0))] := hl
  obtain ⟨hx, hb, -⟩ := id X
  generalize hH : s.heap = H at G
  subst hH
  refine lv_aload_n hx hb dX7_kindHere_0 rfl (lv_at hl 0 rfl) ?_
  refine va_ldcS (q := adK 13) hx hb X.2.2.2.1 (K.2.2.2.1 13 (by decide)).2 dX7_kindHere_1 ?_
  obtain ⟨r1, u2, er1, h⟩ := bnd_at h
  refine cvI (rest := []) X K G (c_X7_isWord er1) q_1006 my_X7_isWord ⟨rfl, rfl⟩ ⟨Nat.le_of_ble_eq_true rfl, Nat.le_of_ble_eq_true rfl⟩ ⟨Nat.zero_le _, Nat.zero_le _⟩ 0 7 rfl rfl rfl rfl hl.1 rfl (Nat.le_of_ble_eq_true rfl) dX7_kindHere_3 (fun H locs G => ?_)
  clear er1
  refine lv_if_eq (tgt := 11) hx hb dX7_kindHere_6 (by decide) (fun c3 => ?_) (fun c3 => ?_)
  · have h := it_at c3 h
    refine lv_aload_n hx hb dX7_kindHere_11 rfl (lv_at hl 0 rfl) ?_
    refine va_ldcS (q := adK 7) hx hb X.2.2.2.1 (K.2.2.2.1 7 (by decide)).2 dX7_kindHere_12 ?_
    obtain ⟨r4, u5, er4, h⟩ := bnd_at h
    refine cvI (rest := []) X K G (c_X7_isWord er4) q_1006 my_X7_isWord ⟨rfl, rfl⟩ ⟨Nat.le_of_ble_eq_true rfl, Nat.le_of_ble_eq_true rfl⟩ ⟨Nat.zero_le _, Nat.zero_le _⟩ 0 7 rfl rfl rfl rfl hl.1 rfl (Nat.le_of_ble_eq_true rfl) dX7_kindHere_14 (fun H locs G => ?_)
    clear er4
    refine lv_if_eq (tgt := 22) hx hb dX7_kindHere_17 (by decide) (fun c6 => ?_) (fun c6 => ?_)
    · have h := it_at c6 h
      refine lv_aload_n hx hb dX7_kindHere_22 rfl (lv_at hl 0 rfl) ?_
      refine va_ldcS (q := adK 8) hx hb X.2.2.2.1 (K.2.2.2.1 8 (by decide)).2 dX7_kindHere_23 ?_
      obtain ⟨r7, u8, er7, h⟩ := bnd_at h
      refine cvI (rest := []) X K G (c_X7_isWord er7) q_1006 my_X7_isWord ⟨rfl, rfl⟩ ⟨Nat.le_of_ble_eq_true rfl, Nat.le_of_ble_eq_true rfl⟩ ⟨Nat.zero_le _, Nat.zero_le _⟩ 0 7 rfl rfl rfl rfl hl.1 rfl (Nat.le_of_ble_eq_true rfl) dX7_kindHere_25 (fun H locs G => ?_)
      clear er7
      refine lv_if_eq (tgt := 33) hx hb dX7_kindHere_28 (by decide) (fun c9 => ?_) (fun c9 => ?_)
      · have h := it_at c9 h
        refine lv_aload_n hx hb dX7_kindHere_33 rfl (lv_at hl 0 rfl) ?_
        refine va_ldcS (q := adK 9) hx hb X.2.2.2.1 (K.2.2.2.1 9 (by decide)).2 dX7_kindHere_34 ?_
        obtain ⟨r10, u11, er10, h⟩ := bnd_at h
        refine cvI (rest := []) X K G (c_X7_isWord er10) q_1006 my_X7_isWord ⟨rfl, rfl⟩ ⟨Nat.le_of_ble_eq_true rfl, Nat.le_of_ble_eq_true rfl⟩ ⟨Nat.zero_le _, Nat.zero_le _⟩ 0 7 rfl rfl rfl rfl hl.1 rfl (Nat.le_of_ble_eq_true rfl) dX7_kindHere_36 (fun H locs G => ?_)
        clear er10
        refine lv_if_eq (tgt := 44) hx hb dX7_kindHere_39 (by decide) (fun c12 => ?_) (fun c12 => ?_)
        · have h := it_at c12 h
          refine lv_aload_n hx hb dX7_kindHere_44 rfl (lv_at hl 0 rfl) ?_
          refine va_ldcS (q := adK 10) hx hb X.2.2.2.1 (K.2.2.2.1 10 (by decide)).2 dX7_kindHere_45 ?_
          obtain ⟨r13, u14, er13, h⟩ := bnd_at h
          refine cvI (rest := []) X K G (c_X7_isWord er13) q_1006 my_X7_isWord ⟨rfl, rfl⟩ ⟨Nat.le_of_ble_eq_true rfl, Nat.le_of_ble_eq_true rfl⟩ ⟨Nat.zero_le _, Nat.zero_le _⟩ 0 7 rfl rfl rfl rfl hl.1 rfl (Nat.le_of_ble_eq_true rfl) dX7_kindHere_47 (fun H locs G => ?_)
          clear er13
          refine lv_if_eq (tgt := 55) hx hb dX7_kindHere_50 (by decide) (fun c15 => ?_) (fun c15 => ?_)
          · have h := it_at c15 h
            refine lv_aload_n hx hb dX7_kindHere_55 rfl (lv_at hl 0 rfl) ?_
            refine va_ldcS (q := adK 11) hx hb X.2.2.2.1 (K.2.2.2.1 11 (by decide)).2 dX7_kindHere_56 ?_
            obtain ⟨r16, u17, er16, h⟩ := bnd_at h
            refine cvI (rest := []) X K G (c_X7_isWord er16) q_1006 my_X7_isWord ⟨rfl, rfl⟩ ⟨Nat.le_of_ble_eq_true rfl, Nat.le_of_ble_eq_true rfl⟩ ⟨Nat.zero_le _, Nat.zero_le _⟩ 0 7 rfl rfl rfl rfl hl.1 rfl (Nat.le_of_ble_eq_true rfl) dX7_kindHere_58 (fun H locs G => ?_)
            clear er16
            refine lv_if_eq (tgt := 68) hx hb dX7_kindHere_61 (by decide) (fun c18 => ?_) (fun c18 => ?_)
            · have h := it_at c18 h
              refine lv_aload_n hx hb dX7_kindHere_68 rfl (lv_at hl 0 rfl) ?_
              refine va_ldcS (q := adK 12) hx hb X.2.2.2.1 (K.2.2.2.1 12 (by decide)).2 dX7_kindHere_69 ?_
              obtain ⟨r19, u20, er19, h⟩ := bnd_at h
              refine cvI (rest := []) X K G (c_X7_isWord er19) q_1006 my_X7_isWord ⟨rfl, rfl⟩ ⟨Nat.le_of_ble_eq_true rfl, Nat.le_of_ble_eq_true rfl⟩ ⟨Nat.zero_le _, Nat.zero_le _⟩ 0 7 rfl rfl rfl rfl hl.1 rfl (Nat.le_of_ble_eq_true rfl) dX7_kindHere_71 (fun H locs G => ?_)
              clear er19
              refine lv_if_eq (tgt := 82) hx hb dX7_kindHere_74 (by decide) (fun c21 => ?_) (fun c21 => ?_)
              · have h := it_at c21 h
                refine lv_iconst (v := -1) hx hb dX7_kindHere_82 (by decide) ?_
                obtain ⟨rfl, rfl⟩ := pair_at h
                exact reI X G dX7_kindHere_83
              · have h := if_at c21 h
                refine lv_bipush (v := 6) hx hb dX7_kindHere_77 (by decide) ?_
                refine lv_goto (tgt := 83) hx hb dX7_kindHere_79 (by decide) ?_
                obtain ⟨rfl, rfl⟩ := pair_at h
                exact reI X G dX7_kindHere_83
            · have h := if_at c18 h
              refine lv_iconst (v := 5) hx hb dX7_kindHere_64 (by decide) ?_
              refine lv_goto (tgt := 83) hx hb dX7_kindHere_65 (by decide) ?_
              obtain ⟨rfl, rfl⟩ := pair_at h
              exact reI X G dX7_kindHere_83
          · have h := if_at c15 h
            refine lv_iconst (v := 4) hx hb dX7_kindHere_53 (by decide) ?_
            obtain ⟨rfl, rfl⟩ := pair_at h
            exact reI X G dX7_kindHere_54
        · have h := if_at c12 h
          refine lv_iconst (v := 3) hx hb dX7_kindHere_42 (by decide) ?_
          obtain ⟨rfl, rfl⟩ := pair_at h
          exact reI X G dX7_kindHere_43
      · have h := if_at c9 h
        refine lv_iconst (v := 2) hx hb dX7_kindHere_31 (by decide) ?_
        obtain ⟨rfl, rfl⟩ := pair_at h
        exact reI X G dX7_kindHere_32
    · have h := if_at c6 h
      refine lv_iconst (v := 1) hx hb dX7_kindHere_20 (by decide) ?_
      obtain ⟨rfl, rfl⟩ := pair_at h
      exact reI X G dX7_kindHere_21
  · have h := if_at c3 h
    refine lv_iconst (v := 0) hx hb dX7_kindHere_9 (by decide) ?_
    obtain ⟨rfl, rfl⟩ := pair_at h
    exact reI X G dX7_kindHere_10
noncomputable def f_X7_at (a0 : Int32) (a1 : Int32) (a2 : Int32) (u0 : MS) : Option (Int32 × MS) :=
  some (((((14 : Int32) + ((26 : Int32) * a0)) + (2 : Int32)) + ((3 : Int32) * a1)) + a2, u0)
set_option maxRecDepth 100000 in
set_option maxHeartbeats 4000000 in
theorem c_X7_at {a0 : Int32} {a1 : Int32} {a2 : Int32} {u0 : MS} {r : Int32} {u' : MS} (h : f_X7_at a0 a1 a2 u0 = some (r, u')) : MI l D cI cZ cQ adK adV A yX7_at cX7_at 3 (some .int) { frames := 0, cells := 0, slots := 0, locals := 0 } [.int a0, .int a1, .int a2] (wM cI ad) u0 r u' := by
  unfold f_X7_at at h
  refine entI (by decide) (Nat.le_of_ble_eq_true rfl) (fun p e s m below meth c ls X K G hl => ?_)
  have hl : lv_has ls 3 [(0, .int a0), (1, .int a1), (2, .int a2)] := hl
  obtain ⟨hx, hb, -⟩ := id X
  generalize hH : s.heap = H at G
  subst hH
  refine lv_bipush (v := 14) hx hb dX7_at_0 (by decide) ?_
  refine lv_bipush (v := 26) hx hb dX7_at_2 (by decide) ?_
  refine lv_iload_n hx hb dX7_at_4 rfl (lv_at hl 0 rfl) ?_
  refine lv_imul hx hb dX7_at_5 ?_
  refine lv_iadd hx hb dX7_at_6 ?_
  refine lv_iconst (v := 2) hx hb dX7_at_7 (by decide) ?_
  refine lv_iadd hx hb dX7_at_8 ?_
  refine lv_iconst (v := 3) hx hb dX7_at_9 (by decide) ?_
  refine lv_iload_n hx hb dX7_at_10 rfl (lv_at hl 1 rfl) ?_
  refine lv_imul hx hb dX7_at_11 ?_
  refine lv_iadd hx hb dX7_at_12 ?_
  refine lv_iload_n hx hb dX7_at_13 rfl (lv_at hl 2 rfl) ?_
  refine lv_iadd hx hb dX7_at_14 ?_
  obtain ⟨rfl, rfl⟩ := pair_at h
  exact reI X G dX7_at_15
noncomputable def f_X7_number_36 (k1 : Int32) (u0 : MS) : Option (Int32 × MS) :=
  if ¬ (k1 = 0 ∨ k1 = 1) then none else
  nmv (mu_bad u0 k1) fun u2 =>
  nmv (m_value u2) fun x3 =>
  (if (m_bad u2) = 0 then
    bnd (f_X7_token  u2) fun r5 u6 =>
    some (x3, u6)
  else
    some (x3, u2))
set_option maxRecDepth 100000 in
set_option maxHeartbeats 4000000 in
theorem b_X7_number_36 (X : cx p s m args meth c cX7_number 4 RX7 (some .int)) (K : kx D cI cZ cQ adK adV A s s.heap) {k1 : Int32} {u0 : MS} (G : wg D A s.heap H locs (wM cI ad u0)) (hl : lv_has ls 4 [(0, .ref (ad 0))]) {r : Int32} {u' : MS} (h : f_X7_number_36 k1 u0 = some (r, u')) : W p l e { frames := 3, cells := 0, slots := 0, locals := 68 } s m args below meth c H locs 0 0 (qI D A (wM cI ad) below args s r u') (F0 m 36 ls [.int k1, .ref (ad 0)]) := by
  unfold f_X7_number_36 at h
  obtain ⟨hx, hb, -⟩ := id X
  obtain ⟨g1, h⟩ := ck_at h
  refine pM_0_10 X K G (Decidable.not_not.mp g1) q_916 dX7_number_36 (fun H locs G => ?_)
  obtain ⟨u2, eu2⟩ : ∃ z : MS, z = mu_bad u0 k1 := ⟨_, rfl⟩
  have G : wg D A s.heap H locs (wM cI ad u2) := by rw [eu2]; exact G
  have h := nm_at eu2 h
  clear eu2
  refine lv_aload_n hx hb dX7_number_39 rfl (lv_at hl 0 rfl) ?_
  refine gM_0_9 X K G q_915 dX7_number_40 ?_
  refine lv_topi (fun x3 ex3 => ?_)
  have h := nm_at ex3 h
  refine lv_istore_n (lv' := [(3, .int x3), (0, .ref (ad 0))]) hx hb dX7_number_43 rfl hl (by decide) rfl (fun ls hl => ?_)
  refine lv_aload_n hx hb dX7_number_44 rfl (lv_at hl 1 rfl) ?_
  refine gM_0_10 X K G q_916 dX7_number_45 ?_
  refine lv_if_ne (tgt := 55) hx hb dX7_number_48 (by decide) (fun c4 => ?_) (fun c4 => ?_)
  · have h := if_at c4 h
    refine lv_iload_n hx hb dX7_number_55 rfl (lv_at hl 0 rfl) ?_
    obtain ⟨rfl, rfl⟩ := pair_at h
    exact reI X G dX7_number_56
  · have h := it_at c4 h
    refine lv_aload_n hx hb dX7_number_51 rfl (lv_at hl 1 rfl) ?_
    obtain ⟨r5, u6, er5, h⟩ := bnd_at h
    refine cvV (rest := []) X K G (c_X7_token er5) q_989 my_X7_token ⟨rfl, rfl⟩ ⟨Nat.le_of_ble_eq_true rfl, Nat.le_of_ble_eq_true rfl⟩ ⟨Nat.zero_le _, Nat.zero_le _⟩ 0 7 rfl rfl rfl rfl hl.1 rfl (Nat.le_of_ble_eq_true rfl) dX7_number_52 (fun H locs G => ?_)
    clear er5
    refine lv_iload_n hx hb dX7_number_55 rfl (lv_at hl 0 rfl) ?_
    obtain ⟨rfl, rfl⟩ := pair_at h
    exact reI X G dX7_number_56
noncomputable def f_X7_number (a1 : Int32) (a2 : Int32) (u0 : MS) : Option (Int32 × MS) :=
  (if (m_bad u0) = 0 then
    (if (m_sort u0) = (2 : Int32) then
      bnd (f_X7_in ((m_value u0).toInt64) (a1.toInt64) (a2.toInt64) u0) fun r3 u4 =>
      (if r3 = 0 then
        f_X7_number_36 (1 : Int32) u4
      else
        f_X7_number_36 (0 : Int32) u4)
    else
      f_X7_number_36 (1 : Int32) u0)
  else
    f_X7_number_36 (1 : Int32) u0)
set_option maxRecDepth 100000 in
set_option maxHeartbeats 4000000 in
theorem c_X7_number {a1 : Int32} {a2 : Int32} {u0 : MS} {r : Int32} {u' : MS} (h : f_X7_number a1 a2 u0 = some (r, u')) : MI l D cI cZ cQ adK adV A yX7_number cX7_number 4 (some .int) { frames := 3, cells := 0, slots := 0, locals := 68 } [.ref (ad 0), .int a1, .int a2] (wM cI ad) u0 r u' := by
  unfold f_X7_number at h
  refine entI (by decide) (Nat.le_of_ble_eq_true rfl) (fun p e s m below meth c ls X K G hl => ?_)
  have hl : lv_has ls 4 [(0, .ref (ad 0)), (1, .int a1), (2, .int a2)] := hl
  obtain ⟨hx, hb, -⟩ := id X
  generalize hH : s.heap = H at G
  subst hH
  refine lv_aload_n hx hb dX7_number_0 rfl (lv_at hl 0 rfl) ?_
  refine lv_aload_n hx hb dX7_number_1 rfl (lv_at hl 0 rfl) ?_
  refine gM_0_10 X K G q_916 dX7_number_2 ?_
  refine lv_if_ne (tgt := 31) hx hb dX7_number_5 (by decide) (fun c1 => ?_) (fun c1 => ?_)
  · have h := if_at c1 h
    refine lv_iconst (v := 1) hx hb dX7_number_31 (by decide) ?_
    refine lv_goto (tgt := 36) hx hb dX7_number_32 (by decide) ?_
    exact b_X7_number_36 X K G (lv_sub hl [0] rfl) h
  · have h := it_at c1 h
    refine lv_aload_n hx hb dX7_number_8 rfl (lv_at hl 0 rfl) ?_
    refine gM_0_6 X K G q_912 dX7_number_9 ?_
    refine lv_iconst (v := 2) hx hb dX7_number_12 (by decide) ?_
    refine lv_icmp_ne (tgt := 31) hx hb dX7_number_13 (by decide) (fun c2 => ?_) (fun c2 => ?_)
    · have h := if_at c2 h
      refine lv_iconst (v := 1) hx hb dX7_number_31 (by decide) ?_
      refine lv_goto (tgt := 36) hx hb dX7_number_32 (by decide) ?_
      exact b_X7_number_36 X K G (lv_sub hl [0] rfl) h
    · have h := it_at c2 h
      refine lv_aload_n hx hb dX7_number_16 rfl (lv_at hl 0 rfl) ?_
      refine gM_0_9 X K G q_915 dX7_number_17 ?_
      refine lv_i2l hx hb dX7_number_20 rfl ?_
      refine lv_iload_n hx hb dX7_number_21 rfl (lv_at hl 1 rfl) ?_
      refine lv_i2l hx hb dX7_number_22 rfl ?_
      refine lv_iload_n hx hb dX7_number_23 rfl (lv_at hl 2 rfl) ?_
      refine lv_i2l hx hb dX7_number_24 rfl ?_
      obtain ⟨r3, u4, er3, h⟩ := bnd_at h
      refine csI (rest := [.ref (ad 0)]) X K G (c_X7_in er3) q_972 my_X7_in ⟨rfl, rfl⟩ ⟨Nat.le_of_ble_eq_true rfl, Nat.le_of_ble_eq_true rfl⟩ ⟨Nat.zero_le _, Nat.zero_le _⟩ rfl hl.1 rfl (Nat.le_of_ble_eq_true rfl) dX7_number_25 (fun H locs G => ?_)
      clear er3
      refine lv_if_ne (tgt := 35) hx hb dX7_number_28 (by decide) (fun c5 => ?_) (fun c5 => ?_)
      · have h := if_at c5 h
        refine lv_iconst (v := 0) hx hb dX7_number_35 (by decide) ?_
        exact b_X7_number_36 X K G (lv_sub hl [0] rfl) h
      · have h := it_at c5 h
        refine lv_iconst (v := 1) hx hb dX7_number_31 (by decide) ?_
        refine lv_goto (tgt := 36) hx hb dX7_number_32 (by decide) ?_
        exact b_X7_number_36 X K G (lv_sub hl [0] rfl) h
noncomputable def f_X7_isSign (a1 : Int32) (u0 : MS) : Option (Int32 × MS) :=
  (if (m_bad u0) = 0 then
    (if (m_sort u0) = (3 : Int32) then
      nmv (m_from u0) fun x3 =>
      if x3 < 0 ∨ 120 ≤ x3.toNatClampNeg then none else
      (if ((m_tape u0) x3.toNatClampNeg) = a1 then
        some ((1 : Int32), u0)
      else
        some ((0 : Int32), u0))
    else
      some ((0 : Int32), u0))
  else
    some ((0 : Int32), u0))
set_option maxRecDepth 100000 in
set_option maxHeartbeats 4000000 in
theorem c_X7_isSign {a1 : Int32} {u0 : MS} {r : Int32} {u' : MS} (h : f_X7_isSign a1 u0 = some (r, u')) : MI l D cI cZ cQ adK adV A yX7_isSign cX7_isSign 2 (some .boolean) { frames := 0, cells := 0, slots := 0, locals := 0 } [.ref (ad 0), .int a1] (wM cI ad) u0 r u' := by
  unfold f_X7_isSign at h
  refine entI (by decide) (Nat.le_of_ble_eq_true rfl) (fun p e s m below meth c ls X K G hl => ?_)
  have hl : lv_has ls 2 [(0, .ref (ad 0)), (1, .int a1)] := hl
  obtain ⟨hx, hb, -⟩ := id X
  generalize hH : s.heap = H at G
  subst hH
  refine lv_aload_n hx hb dX7_isSign_0 rfl (lv_at hl 0 rfl) ?_
  refine gM_0_10 X K G q_916 dX7_isSign_1 ?_
  refine lv_if_ne (tgt := 32) hx hb dX7_isSign_4 (by decide) (fun c1 => ?_) (fun c1 => ?_)
  · have h := if_at c1 h
    refine lv_iconst (v := 0) hx hb dX7_isSign_32 (by decide) ?_
    obtain ⟨rfl, rfl⟩ := pair_at h
    exact reZ X G (Or.inl rfl) dX7_isSign_33
  · have h := it_at c1 h
    refine lv_aload_n hx hb dX7_isSign_7 rfl (lv_at hl 0 rfl) ?_
    refine gM_0_6 X K G q_912 dX7_isSign_8 ?_
    refine lv_iconst (v := 3) hx hb dX7_isSign_11 (by decide) ?_
    refine lv_icmp_ne (tgt := 32) hx hb dX7_isSign_12 (by decide) (fun c2 => ?_) (fun c2 => ?_)
    · have h := if_at c2 h
      refine lv_iconst (v := 0) hx hb dX7_isSign_32 (by decide) ?_
      obtain ⟨rfl, rfl⟩ := pair_at h
      exact reZ X G (Or.inl rfl) dX7_isSign_33
    · have h := it_at c2 h
      refine lv_aload_n hx hb dX7_isSign_15 rfl (lv_at hl 0 rfl) ?_
      refine gM_0_4 X K G q_910 dX7_isSign_16 ?_
      refine lv_aload_n hx hb dX7_isSign_19 rfl (lv_at hl 0 rfl) ?_
      refine gM_0_7 X K G q_913 dX7_isSign_20 ?_
      refine lv_topi (fun x3 ex3 => ?_)
      have h := nm_at ex3 h
      obtain ⟨g4, h⟩ := ck_at h
      refine lM_4 X K G g4 dX7_isSign_23 ?_
      refine lv_iload_n hx hb dX7_isSign_24 rfl (lv_at hl 1 rfl) ?_
      refine lv_icmp_ne (tgt := 32) hx hb dX7_isSign_25 (by decide) (fun c5 => ?_) (fun c5 => ?_)
      · have h := if_at c5 h
        refine lv_iconst (v := 0) hx hb dX7_isSign_32 (by decide) ?_
        obtain ⟨rfl, rfl⟩ := pair_at h
        exact reZ X G (Or.inl rfl) dX7_isSign_33
      · have h := it_at c5 h
        refine lv_iconst (v := 1) hx hb dX7_isSign_28 (by decide) ?_
        refine lv_goto (tgt := 33) hx hb dX7_isSign_29 (by decide) ?_
        obtain ⟨rfl, rfl⟩ := pair_at h
        exact reZ X G (Or.inr rfl) dX7_isSign_33
noncomputable def f_X7_thingItem_L48_126 (v1 : Int32) (v2 : Int32) (v3 : Int32) (k1 : Int32) (k2 : Int32) (u0 : MS) : Option ((Int32 × Int32 × Int32 × Int32 × MS) ⊕ ((Int32 × MS) ⊕ (Int32 × Int32 × Int32 × MS))) :=
  if k1 < 0 ∨ 247 ≤ k1.toNatClampNeg then none else
  nmv (mu_m u0 (upd (m_m u0) k1.toNatClampNeg k2)) fun u2 =>
  nmv (v3 + (1 : Int32)) fun x3 =>
  bnd (f_X7_isSign (44 : Int32) u2) fun r4 u5 =>
  (if r4 = 0 then
    (if r4 = 0 then
      some (.inl (v1, v2, x3, r4, u5))
    else
      bnd (f_X7_token  u5) fun r8 u9 =>
      some (.inl (v1, v2, x3, r4, u9)))
  else
    (if x3 = (8 : Int32) then
      nmv (mu_bad u5 (1 : Int32)) fun u14 =>
      (if (0 : Int32) = 0 then
        some (.inl (v1, v2, x3, (0 : Int32), u14))
      else
        bnd (f_X7_token  u14) fun r16 u17 =>
        some (.inl (v1, v2, x3, (0 : Int32), u17)))
    else
      (if r4 = 0 then
        some (.inl (v1, v2, x3, r4, u5))
      else
        bnd (f_X7_token  u5) fun r12 u13 =>
        some (.inl (v1, v2, x3, r4, u13)))))
set_option maxRecDepth 100000 in
set_option maxHeartbeats 4000000 in
theorem b_X7_thingItem_L48_126 (X : cx p s m args meth c cX7_thingItem 5 RX7 none) (K : kx D cI cZ cQ adK adV A s s.heap) {v1 : Int32} {v2 : Int32} {v3 : Int32} {k1 : Int32} {k2 : Int32} {u0 : MS} (G : wg D A s.heap H locs (wM cI ad u0)) (hl : lv_has ls 5 [(0, .ref (ad 0)), (1, .int v1), (2, .int v2), (3, .int v3)]) {q : ((Int32 × Int32 × Int32 × Int32 × MS) ⊕ ((Int32 × MS) ⊕ (Int32 × Int32 × Int32 × MS)))} (h : f_X7_thingItem_L48_126 v1 v2 v3 k1 k2 u0 = some q) (hB : ∀ (v1 : Int32) (v2 : Int32) (v3 : Int32) (v4 : Int32) (u : MS), q = .inl (v1, v2, v3, v4, u) → ∀ (H : Heap) (locs : List Loc) (ls : Array Slot), wg D A s.heap H locs (wM cI ad u) → lv_has ls 5 [(0, .ref (ad 0)), (1, .int v1), (2, .int v2), (3, .int v3), (4, .int v4)] → W p l e { frames := 6, cells := 0, slots := 0, locals := 129 } s m args below meth c H locs 0 0 Q (F0 m 48 ls [])) (hX : ∀ (v1 : Int32) (v2 : Int32) (v3 : Int32) (u : MS), q = .inr (.inr (v1, v2, v3, u)) → ∀ (H : Heap) (locs : List Loc) (ls : Array Slot), wg D A s.heap H locs (wM cI ad u) → lv_has ls 5 [(0, .ref (ad 0)), (1, .int v1), (2, .int v2), (3, .int v3)] → W p l e { frames := 6, cells := 0, slots := 0, locals := 129 } s m args below meth c H locs 0 0 Q (F0 m 169 ls [])) (hR : ∀ (r : Int32) (u : MS), q = .inr (.inl (r, u)) → Q = (qV D A (wM cI ad) below args s u)) : W p l e { frames := 6, cells := 0, slots := 0, locals := 129 } s m args below meth c H locs 0 0 Q (F0 m 126 ls [.int k2, .int k1, .ref (ad 1)]) := by
  unfold f_X7_thingItem_L48_126 at h
  obtain ⟨hx, hb, -⟩ := id X
  obtain ⟨g1, h⟩ := ck_at h
  refine aM_1 X K G g1 dX7_thingItem_126 (fun H locs G => ?_)
  obtain ⟨u2, eu2⟩ : ∃ z : MS, z = mu_m u0 (upd (m_m u0) k1.toNatClampNeg k2) := ⟨_, rfl⟩
  have G : wg D A s.heap H locs (wM cI ad u2) := by rw [eu2]; exact G
  have h := nm_at eu2 h
  clear eu2
  obtain ⟨x3, ex3⟩ : ∃ z : Int32, z = v3 + (1 : Int32) := ⟨_, rfl⟩
  have h := nm_at ex3 h
  refine lv_iinc (v := x3) (lv' := [(3, .int x3), (0, .ref (ad 0)), (1, .int v1), (2, .int v2)]) hx hb dX7_thingItem_127 hl (k := 3) rfl (by rw [ex3]; rfl) (by decide) rfl (fun ls hl => ?_)
  refine lv_aload_n hx hb dX7_thingItem_130 rfl (lv_at hl 1 rfl) ?_
  refine lv_bipush (v := 44) hx hb dX7_thingItem_131 (by decide) ?_
  obtain ⟨r4, u5, er4, h⟩ := bnd_at h
  refine cvI (rest := []) X K G (c_X7_isSign er4) q_1052 my_X7_isSign ⟨rfl, rfl⟩ ⟨Nat.le_of_ble_eq_true rfl, Nat.le_of_ble_eq_true rfl⟩ ⟨Nat.zero_le _, Nat.zero_le _⟩ 0 7 rfl rfl rfl rfl hl.1 rfl (Nat.le_of_ble_eq_true rfl) dX7_thingItem_133 (fun H locs G => ?_)
  clear er4
  refine lv_istore (lv' := [(4, .int r4), (3, .int x3), (0, .ref (ad 0)), (1, .int v1), (2, .int v2)]) hx hb dX7_thingItem_136 hl (by decide) rfl (fun ls hl => ?_)
  refine lv_iload hx hb dX7_thingItem_138 (lv_at hl 0 rfl) ?_
  refine lv_if_eq (tgt := 157) hx hb dX7_thingItem_140 (by decide) (fun c6 => ?_) (fun c6 => ?_)
  · have h := it_at c6 h
    refine lv_iload hx hb dX7_thingItem_157 (lv_at hl 0 rfl) ?_
    refine lv_if_eq (tgt := 48) hx hb dX7_thingItem_159 (by decide) (fun c7 => ?_) (fun c7 => ?_)
    · have h := it_at c7 h
      exact hB _ _ _ _ _ (Option.some.inj h).symm _ _ _ G (lv_sub hl [2, 3, 4, 1, 0] rfl)
    · have h := if_at c7 h
      refine lv_aload_n hx hb dX7_thingItem_162 rfl (lv_at hl 2 rfl) ?_
      obtain ⟨r8, u9, er8, h⟩ := bnd_at h
      refine cvV (rest := []) X K G (c_X7_token er8) q_989 my_X7_token ⟨rfl, rfl⟩ ⟨Nat.le_of_ble_eq_true rfl, Nat.le_of_ble_eq_true rfl⟩ ⟨Nat.zero_le _, Nat.zero_le _⟩ 0 7 rfl rfl rfl rfl hl.1 rfl (Nat.le_of_ble_eq_true rfl) dX7_thingItem_163 (fun H locs G => ?_)
      clear er8
      refine lv_goto (tgt := 48) hx hb dX7_thingItem_166 (by decide) ?_
      exact hB _ _ _ _ _ (Option.some.inj h).symm _ _ _ G (lv_sub hl [2, 3, 4, 1, 0] rfl)
  · have h := if_at c6 h
    refine lv_iload_n hx hb dX7_thingItem_143 rfl (lv_at hl 1 rfl) ?_
    refine lv_bipush (v := 8) hx hb dX7_thingItem_144 (by decide) ?_
    refine lv_icmp_ne (tgt := 157) hx hb dX7_thingItem_146 (by decide) (fun c10 => ?_) (fun c10 => ?_)
    · have h := if_at c10 h
      refine lv_iload hx hb dX7_thingItem_157 (lv_at hl 0 rfl) ?_
      refine lv_if_eq (tgt := 48) hx hb dX7_thingItem_159 (by decide) (fun c11 => ?_) (fun c11 => ?_)
      · have h := it_at c11 h
        exact hB _ _ _ _ _ (Option.some.inj h).symm _ _ _ G (lv_sub hl [2, 3, 4, 1, 0] rfl)
      · have h := if_at c11 h
        refine lv_aload_n hx hb dX7_thingItem_162 rfl (lv_at hl 2 rfl) ?_
        obtain ⟨r12, u13, er12, h⟩ := bnd_at h
        refine cvV (rest := []) X K G (c_X7_token er12) q_989 my_X7_token ⟨rfl, rfl⟩ ⟨Nat.le_of_ble_eq_true rfl, Nat.le_of_ble_eq_true rfl⟩ ⟨Nat.zero_le _, Nat.zero_le _⟩ 0 7 rfl rfl rfl rfl hl.1 rfl (Nat.le_of_ble_eq_true rfl) dX7_thingItem_163 (fun H locs G => ?_)
        clear er12
        refine lv_goto (tgt := 48) hx hb dX7_thingItem_166 (by decide) ?_
        exact hB _ _ _ _ _ (Option.some.inj h).symm _ _ _ G (lv_sub hl [2, 3, 4, 1, 0] rfl)
    · have h := it_at c10 h
      refine lv_aload_n hx hb dX7_thingItem_149 rfl (lv_at hl 2 rfl) ?_
      refine lv_iconst (v := 1) hx hb dX7_thingItem_150 (by decide) ?_
      refine pM_0_10 X K G (Or.inr rfl) q_916 dX7_thingItem_151 (fun H locs G => ?_)
      obtain ⟨u14, eu14⟩ : ∃ z : MS, z = mu_bad u5 (1 : Int32) := ⟨_, rfl⟩
      have G : wg D A s.heap H locs (wM cI ad u14) := by rw [eu14]; exact G
      have h := nm_at eu14 h
      clear eu14
      refine lv_iconst (v := 0) hx hb dX7_thingItem_154 (by decide) ?_
      refine lv_istore (lv' := [(4, .int (0 : Int32)), (3, .int x3), (0, .ref (ad 0)), (1, .int v1), (2, .int v2)]) hx hb dX7_thingItem_155 hl (by decide) rfl (fun ls hl => ?_)
      refine lv_iload hx hb dX7_thingItem_157 (lv_at hl 0 rfl) ?_
      refine lv_if_eq (tgt := 48) hx hb dX7_thingItem_159 (by decide) (fun c15 => ?_) (fun c15 => ?_)
      · have h := it_at c15 h
        exact hB _ _ _ _ _ (Option.some.inj h).symm _ _ _ G (lv_sub hl [2, 3, 4, 1, 0] rfl)
      · have h := if_at c15 h
        refine lv_aload_n hx hb dX7_thingItem_162 rfl (lv_at hl 2 rfl) ?_
        obtain ⟨r16, u17, er16, h⟩ := bnd_at h
        refine cvV (rest := []) X K G (c_X7_token er16) q_989 my_X7_token ⟨rfl, rfl⟩ ⟨Nat.le_of_ble_eq_true rfl, Nat.le_of_ble_eq_true rfl⟩ ⟨Nat.zero_le _, Nat.zero_le _⟩ 0 7 rfl rfl rfl rfl hl.1 rfl (Nat.le_of_ble_eq_true rfl) dX7_thingItem_163 (fun H locs G => ?_)
        clear er16
        refine lv_goto (tgt := 48) hx hb dX7_thingItem_166 (by decide) ?_
        exact hB _ _ _ _ _ (Option.some.inj h).symm _ _ _ G (lv_sub hl [2, 3, 4, 1, 0] rfl)
noncomputable def f_X7_thingItem_L48_48 (v1 : Int32) (v2 : Int32) (v3 : Int32) (v4 : Int32) (u0 : MS) : Option ((Int32 × Int32 × Int32 × Int32 × MS) ⊕ ((Int32 × MS) ⊕ (Int32 × Int32 × Int32 × MS))) :=
  (if v4 = 0 then
    some (.inr (.inr (v1, v2, v3, u0)))
  else
    bnd (f_X7_at v2 v3 (0 : Int32) u0) fun r2 u3 =>
    bnd (f_X7_number (0 : Int32) (((m_m u3) (2 : Int32).toNatClampNeg) - (1 : Int32)) u3) fun r4 u5 =>
    if r2 < 0 ∨ 247 ≤ r2.toNatClampNeg then none else
    nmv (mu_m u5 (upd (m_m u5) r2.toNatClampNeg r4)) fun u7 =>
    bnd (f_X7_at v2 v3 (1 : Int32) u7) fun r8 u9 =>
    bnd (f_X7_number (1 : Int32) (8 : Int32) u9) fun r10 u11 =>
    if r8 < 0 ∨ 247 ≤ r8.toNatClampNeg then none else
    nmv (mu_m u11 (upd (m_m u11) r8.toNatClampNeg r10)) fun u13 =>
    bnd (f_X7_at v2 v3 (2 : Int32) u13) fun r14 u15 =>
    bnd (f_X7_takes (4) u15) fun r16 u17 =>
    (if r16 = 0 then
      f_X7_thingItem_L48_126 v1 v2 v3 r14 (99 : Int32) u17
    else
      bnd (f_X7_number (0 : Int32) (99 : Int32) u17) fun r19 u20 =>
      f_X7_thingItem_L48_126 v1 v2 v3 r14 r19 u20))
set_option maxRecDepth 100000 in
set_option maxHeartbeats 4000000 in
theorem b_X7_thingItem_L48_48 (X : cx p s m args meth c cX7_thingItem 5 RX7 none) (K : kx D cI cZ cQ adK adV A s s.heap) {v1 : Int32} {v2 : Int32} {v3 : Int32} {v4 : Int32} {u0 : MS} (G : wg D A s.heap H locs (wM cI ad u0)) (hl : lv_has ls 5 [(0, .ref (ad 0)), (1, .int v1), (2, .int v2), (3, .int v3), (4, .int v4)]) {q : ((Int32 × Int32 × Int32 × Int32 × MS) ⊕ ((Int32 × MS) ⊕ (Int32 × Int32 × Int32 × MS)))} (h : f_X7_thingItem_L48_48 v1 v2 v3 v4 u0 = some q) (hB : ∀ (v1 : Int32) (v2 : Int32) (v3 : Int32) (v4 : Int32) (u : MS), q = .inl (v1, v2, v3, v4, u) → ∀ (H : Heap) (locs : List Loc) (ls : Array Slot), wg D A s.heap H locs (wM cI ad u) → lv_has ls 5 [(0, .ref (ad 0)), (1, .int v1), (2, .int v2), (3, .int v3), (4, .int v4)] → W p l e { frames := 6, cells := 0, slots := 0, locals := 129 } s m args below meth c H locs 0 0 Q (F0 m 48 ls [])) (hX : ∀ (v1 : Int32) (v2 : Int32) (v3 : Int32) (u : MS), q = .inr (.inr (v1, v2, v3, u)) → ∀ (H : Heap) (locs : List Loc) (ls : Array Slot), wg D A s.heap H locs (wM cI ad u) → lv_has ls 5 [(0, .ref (ad 0)), (1, .int v1), (2, .int v2), (3, .int v3)] → W p l e { frames := 6, cells := 0, slots := 0, locals := 129 } s m args below meth c H locs 0 0 Q (F0 m 169 ls [])) (hR : ∀ (r : Int32) (u : MS), q = .inr (.inl (r, u)) → Q = (qV D A (wM cI ad) below args s u)) : W p l e { frames := 6, cells := 0, slots := 0, locals := 129 } s m args below meth c H locs 0 0 Q (F0 m 48 ls []) := by
  unfold f_X7_thingItem_L48_48 at h
  obtain ⟨hx, hb, -⟩ := id X
  refine lv_iload hx hb dX7_thingItem_48 (lv_at hl 4 rfl) ?_
  refine lv_if_eq (tgt := 169) hx hb dX7_thingItem_50 (by decide) (fun c1 => ?_) (fun c1 => ?_)
  · have h := it_at c1 h
    exact hX _ _ _ _ (Option.some.inj h).symm _ _ _ G (lv_sub hl [0, 1, 2, 3] rfl)
  · have h := if_at c1 h
    refine lv_aload_n hx hb dX7_thingItem_53 rfl (lv_at hl 0 rfl) ?_
    refine gM_0_0 X K G q_906 dX7_thingItem_54 ?_
    refine lv_iload_n hx hb dX7_thingItem_57 rfl (lv_at hl 2 rfl) ?_
    refine lv_iload_n hx hb dX7_thingItem_58 rfl (lv_at hl 3 rfl) ?_
    refine lv_iconst (v := 0) hx hb dX7_thingItem_59 (by decide) ?_
    obtain ⟨r2, u3, er2, h⟩ := bnd_at h
    refine csI (rest := [.ref (ad 1)]) X K G (c_X7_at er2) q_1048 my_X7_at ⟨rfl, rfl⟩ ⟨Nat.le_of_ble_eq_true rfl, Nat.le_of_ble_eq_true rfl⟩ ⟨Nat.zero_le _, Nat.zero_le _⟩ rfl hl.1 rfl (Nat.le_of_ble_eq_true rfl) dX7_thingItem_60 (fun H locs G => ?_)
    clear er2
    refine lv_aload_n hx hb dX7_thingItem_63 rfl (lv_at hl 0 rfl) ?_
    refine lv_iconst (v := 0) hx hb dX7_thingItem_64 (by decide) ?_
    refine lv_aload_n hx hb dX7_thingItem_65 rfl (lv_at hl 0 rfl) ?_
    refine gM_0_0 X K G q_906 dX7_thingItem_66 ?_
    refine lv_iconst (v := 2) hx hb dX7_thingItem_69 (by decide) ?_
    refine lM_1 X K G (by decide) dX7_thingItem_70 ?_
    refine lv_iconst (v := 1) hx hb dX7_thingItem_71 (by decide) ?_
    refine lv_isub hx hb dX7_thingItem_72 ?_
    obtain ⟨r4, u5, er4, h⟩ := bnd_at h
    refine cvI (rest := [.int r2, .ref (ad 1)]) X K G (c_X7_number er4) q_1012 my_X7_number ⟨rfl, rfl⟩ ⟨Nat.le_of_ble_eq_true rfl, Nat.le_of_ble_eq_true rfl⟩ ⟨Nat.zero_le _, Nat.zero_le _⟩ 0 7 rfl rfl rfl rfl hl.1 rfl (Nat.le_of_ble_eq_true rfl) dX7_thingItem_73 (fun H locs G => ?_)
    clear er4
    obtain ⟨g6, h⟩ := ck_at h
    refine aM_1 X K G g6 dX7_thingItem_76 (fun H locs G => ?_)
    obtain ⟨u7, eu7⟩ : ∃ z : MS, z = mu_m u5 (upd (m_m u5) r2.toNatClampNeg r4) := ⟨_, rfl⟩
    have G : wg D A s.heap H locs (wM cI ad u7) := by rw [eu7]; exact G
    have h := nm_at eu7 h
    clear eu7
    refine lv_aload_n hx hb dX7_thingItem_77 rfl (lv_at hl 0 rfl) ?_
    refine gM_0_0 X K G q_906 dX7_thingItem_78 ?_
    refine lv_iload_n hx hb dX7_thingItem_81 rfl (lv_at hl 2 rfl) ?_
    refine lv_iload_n hx hb dX7_thingItem_82 rfl (lv_at hl 3 rfl) ?_
    refine lv_iconst (v := 1) hx hb dX7_thingItem_83 (by decide) ?_
    obtain ⟨r8, u9, er8, h⟩ := bnd_at h
    refine csI (rest := [.ref (ad 1)]) X K G (c_X7_at er8) q_1048 my_X7_at ⟨rfl, rfl⟩ ⟨Nat.le_of_ble_eq_true rfl, Nat.le_of_ble_eq_true rfl⟩ ⟨Nat.zero_le _, Nat.zero_le _⟩ rfl hl.1 rfl (Nat.le_of_ble_eq_true rfl) dX7_thingItem_84 (fun H locs G => ?_)
    clear er8
    refine lv_aload_n hx hb dX7_thingItem_87 rfl (lv_at hl 0 rfl) ?_
    refine lv_iconst (v := 1) hx hb dX7_thingItem_88 (by decide) ?_
    refine lv_bipush (v := 8) hx hb dX7_thingItem_89 (by decide) ?_
    obtain ⟨r10, u11, er10, h⟩ := bnd_at h
    refine cvI (rest := [.int r8, .ref (ad 1)]) X K G (c_X7_number er10) q_1012 my_X7_number ⟨rfl, rfl⟩ ⟨Nat.le_of_ble_eq_true rfl, Nat.le_of_ble_eq_true rfl⟩ ⟨Nat.zero_le _, Nat.zero_le _⟩ 0 7 rfl rfl rfl rfl hl.1 rfl (Nat.le_of_ble_eq_true rfl) dX7_thingItem_91 (fun H locs G => ?_)
    clear er10
    obtain ⟨g12, h⟩ := ck_at h
    refine aM_1 X K G g12 dX7_thingItem_94 (fun H locs G => ?_)
    obtain ⟨u13, eu13⟩ : ∃ z : MS, z = mu_m u11 (upd (m_m u11) r8.toNatClampNeg r10) := ⟨_, rfl⟩
    have G : wg D A s.heap H locs (wM cI ad u13) := by rw [eu13]; exact G
    have h := nm_at eu13 h
    clear eu13
    refine lv_aload_n hx hb dX7_thingItem_95 rfl (lv_at hl 0 rfl) ?_
    refine gM_0_0 X K G q_906 dX7_thingItem_96 ?_
    refine lv_iload_n hx hb dX7_thingItem_99 rfl (lv_at hl 2 rfl) ?_
    refine lv_iload_n hx hb dX7_thingItem_100 rfl (lv_at hl 3 rfl) ?_
    refine lv_iconst (v := 2) hx hb dX7_thingItem_101 (by decide) ?_
    obtain ⟨r14, u15, er14, h⟩ := bnd_at h
    refine csI (rest := [.ref (ad 1)]) X K G (c_X7_at er14) q_1048 my_X7_at ⟨rfl, rfl⟩ ⟨Nat.le_of_ble_eq_true rfl, Nat.le_of_ble_eq_true rfl⟩ ⟨Nat.zero_le _, Nat.zero_le _⟩ rfl hl.1 rfl (Nat.le_of_ble_eq_true rfl) dX7_thingItem_102 (fun H locs G => ?_)
    clear er14
    refine lv_aload_n hx hb dX7_thingItem_105 rfl (lv_at hl 0 rfl) ?_
    refine va_ldcS (q := adK 4) hx hb X.2.2.2.1 (K.2.2.2.1 4 (by decide)).2 dX7_thingItem_106 ?_
    obtain ⟨r16, u17, er16, h⟩ := bnd_at h
    refine cvI (rest := [.int r14, .ref (ad 1)]) X K G (c_X7_takes er16) q_1002 my_X7_takes ⟨rfl, rfl⟩ ⟨Nat.le_of_ble_eq_true rfl, Nat.le_of_ble_eq_true rfl⟩ ⟨Nat.zero_le _, Nat.zero_le _⟩ 0 7 rfl rfl rfl rfl hl.1 rfl (Nat.le_of_ble_eq_true rfl) dX7_thingItem_108 (fun H locs G => ?_)
    clear er16
    refine lv_if_eq (tgt := 124) hx hb dX7_thingItem_111 (by decide) (fun c18 => ?_) (fun c18 => ?_)
    · have h := it_at c18 h
      refine lv_bipush (v := 99) hx hb dX7_thingItem_124 (by decide) ?_
      exact b_X7_thingItem_L48_126 X K G (lv_sub hl [0, 1, 2, 3] rfl) h hB hX hR
    · have h := if_at c18 h
      refine lv_aload_n hx hb dX7_thingItem_114 rfl (lv_at hl 0 rfl) ?_
      refine lv_iconst (v := 0) hx hb dX7_thingItem_115 (by decide) ?_
      refine lv_bipush (v := 99) hx hb dX7_thingItem_116 (by decide) ?_
      obtain ⟨r19, u20, er19, h⟩ := bnd_at h
      refine cvI (rest := [.int r14, .ref (ad 1)]) X K G (c_X7_number er19) q_1012 my_X7_number ⟨rfl, rfl⟩ ⟨Nat.le_of_ble_eq_true rfl, Nat.le_of_ble_eq_true rfl⟩ ⟨Nat.zero_le _, Nat.zero_le _⟩ 0 7 rfl rfl rfl rfl hl.1 rfl (Nat.le_of_ble_eq_true rfl) dX7_thingItem_118 (fun H locs G => ?_)
      clear er19
      refine lv_goto (tgt := 126) hx hb dX7_thingItem_121 (by decide) ?_
      exact b_X7_thingItem_L48_126 X K G (lv_sub hl [0, 1, 2, 3] rfl) h hB hX hR
noncomputable def f_X7_thingItem_L48_48s (q : Int32 × Int32 × Int32 × Int32 × MS) : Option ((Int32 × Int32 × Int32 × Int32 × MS) ⊕ ((Int32 × MS) ⊕ (Int32 × Int32 × Int32 × MS))) := f_X7_thingItem_L48_48 q.1 q.2.1 q.2.2.1 q.2.2.2.1 q.2.2.2.2
set_option maxRecDepth 100000 in
set_option maxHeartbeats 4000000 in
theorem w_X7_thingItem_L48_48 (X : cx p s m args meth c cX7_thingItem 5 RX7 none) (K : kx D cI cZ cQ adK adV A s s.heap) {e0 : (Int32 × MS) ⊕ (Int32 × Int32 × Int32 × MS)} : ∀ (n : Nat) (v1 : Int32) (v2 : Int32) (v3 : Int32) (v4 : Int32) (u : MS) {H : Heap} {locs : List Loc} {ls : Array Slot}, wh f_X7_thingItem_L48_48s n (v1, v2, v3, v4, u) = some e0 → wg D A s.heap H locs (wM cI ad u) → lv_has ls 5 [(0, .ref (ad 0)), (1, .int v1), (2, .int v2), (3, .int v3), (4, .int v4)] → (∀ (v1 : Int32) (v2 : Int32) (v3 : Int32) (u : MS), e0 = .inr (v1, v2, v3, u) → ∀ (H : Heap) (locs : List Loc) (ls : Array Slot), wg D A s.heap H locs (wM cI ad u) → lv_has ls 5 [(0, .ref (ad 0)), (1, .int v1), (2, .int v2), (3, .int v3)] → W p l e { frames := 6, cells := 0, slots := 0, locals := 129 } s m args below meth c H locs 0 0 Q (F0 m 169 ls [])) → (∀ (r : Int32) (u : MS), e0 = .inl (r, u) → Q = (qV D A (wM cI ad) below args s u)) → W p l e { frames := 6, cells := 0, slots := 0, locals := 129 } s m args below meth c H locs 0 0 Q (F0 m 48 ls []) := by
  intro n
  induction n with
  | zero => intro v1 v2 v3 v4 u H locs ls h; cases h
  | succ n ih =>
    intro v1 v2 v3 v4 u H locs ls h G hl hX hR
    obtain ⟨q, h1, h2, h3⟩ := wh_at h
    exact b_X7_thingItem_L48_48 X K G hl (show f_X7_thingItem_L48_48 v1 v2 v3 v4 u = some q from h1) (fun b0 b1 b2 b3 b4 ee H locs ls G hl => ih b0 b1 b2 b3 b4 (h2 _ ee) G hl hX hR) (fun z0 z1 z2 z3 ee => hX z0 z1 z2 z3 (h3 _ ee).symm) (fun r u ee => hR r u (h3 _ ee).symm)
noncomputable def f_X7_thingItem_21 (v1 : Int32) (k1 : Int32) (u0 : MS) : Option (Int32 × MS) :=
  if ¬ (k1 = 0 ∨ k1 = 1) then none else
  nmv (mu_bad u0 k1) fun u2 =>
  (if (m_bad u2) = 0 then
    bnd (f_X7_token  u2) fun r4 u5 =>
    nmv ((m_m u5) (3 : Int32).toNatClampNeg) fun x6 =>
    bne (wl f_X7_thingItem_L48_48s (v1, x6, (0 : Int32), (1 : Int32), u5)) (fun a => some a) fun b =>
      nmv b.1 fun y10 =>
      nmv b.2.1 fun y11 =>
      nmv b.2.2.1 fun y12 =>
      nmv b.2.2.2 fun u9 =>
      nmv ((14 : Int32) + ((26 : Int32) * y11)) fun x13 =>
      if x13 < 0 ∨ 247 ≤ x13.toNatClampNeg then none else
      nmv (mu_m u9 (upd (m_m u9) x13.toNatClampNeg y10)) fun u15 =>
      nmv (((14 : Int32) + ((26 : Int32) * y11)) + (1 : Int32)) fun x16 =>
      if x16 < 0 ∨ 247 ≤ x16.toNatClampNeg then none else
      nmv (mu_m u15 (upd (m_m u15) x16.toNatClampNeg y12)) fun u18 =>
      nmv (((m_m u18) (3 : Int32).toNatClampNeg) + (1 : Int32)) fun x19 =>
      nmv (mu_m u18 (upd (m_m u18) (3 : Int32).toNatClampNeg x19)) fun u20 =>
      some ((0 : Int32), u20)
  else
    some ((0 : Int32), u2))
set_option maxRecDepth 100000 in
set_option maxHeartbeats 4000000 in
theorem b_X7_thingItem_21 (X : cx p s m args meth c cX7_thingItem 5 RX7 none) (K : kx D cI cZ cQ adK adV A s s.heap) {v1 : Int32} {k1 : Int32} {u0 : MS} (G : wg D A s.heap H locs (wM cI ad u0)) (hl : lv_has ls 5 [(0, .ref (ad 0)), (1, .int v1)]) {r : Int32} {u' : MS} (h : f_X7_thingItem_21 v1 k1 u0 = some (r, u')) : W p l e { frames := 6, cells := 0, slots := 0, locals := 129 } s m args below meth c H locs 0 0 (qV D A (wM cI ad) below args s u') (F0 m 21 ls [.int k1, .ref (ad 0)]) := by
  unfold f_X7_thingItem_21 at h
  obtain ⟨hx, hb, -⟩ := id X
  obtain ⟨g1, h⟩ := ck_at h
  refine pM_0_10 X K G (Decidable.not_not.mp g1) q_916 dX7_thingItem_21 (fun H locs G => ?_)
  obtain ⟨u2, eu2⟩ : ∃ z : MS, z = mu_bad u0 k1 := ⟨_, rfl⟩
  have G : wg D A s.heap H locs (wM cI ad u2) := by rw [eu2]; exact G
  have h := nm_at eu2 h
  clear eu2
  refine lv_aload_n hx hb dX7_thingItem_24 rfl (lv_at hl 0 rfl) ?_
  refine gM_0_10 X K G q_916 dX7_thingItem_25 ?_
  refine lv_if_eq (tgt := 32) hx hb dX7_thingItem_28 (by decide) (fun c3 => ?_) (fun c3 => ?_)
  · have h := it_at c3 h
    refine lv_aload_n hx hb dX7_thingItem_32 rfl (lv_at hl 0 rfl) ?_
    obtain ⟨r4, u5, er4, h⟩ := bnd_at h
    refine cvV (rest := []) X K G (c_X7_token er4) q_989 my_X7_token ⟨rfl, rfl⟩ ⟨Nat.le_of_ble_eq_true rfl, Nat.le_of_ble_eq_true rfl⟩ ⟨Nat.zero_le _, Nat.zero_le _⟩ 0 7 rfl rfl rfl rfl hl.1 rfl (Nat.le_of_ble_eq_true rfl) dX7_thingItem_33 (fun H locs G => ?_)
    clear er4
    refine lv_aload_n hx hb dX7_thingItem_36 rfl (lv_at hl 0 rfl) ?_
    refine gM_0_0 X K G q_906 dX7_thingItem_37 ?_
    refine lv_iconst (v := 3) hx hb dX7_thingItem_40 (by decide) ?_
    refine lM_1 X K G (by decide) dX7_thingItem_41 ?_
    refine lv_topi (fun x6 ex6 => ?_)
    have h := nm_at ex6 h
    refine lv_istore_n (lv' := [(2, .int x6), (0, .ref (ad 0)), (1, .int v1)]) hx hb dX7_thingItem_42 rfl hl (by decide) rfl (fun ls hl => ?_)
    refine lv_iconst (v := 0) hx hb dX7_thingItem_43 (by decide) ?_
    refine lv_istore_n (lv' := [(3, .int (0 : Int32)), (2, .int x6), (0, .ref (ad 0)), (1, .int v1)]) hx hb dX7_thingItem_44 rfl hl (by decide) rfl (fun ls hl => ?_)
    refine lv_iconst (v := 1) hx hb dX7_thingItem_45 (by decide) ?_
    refine lv_istore (lv' := [(4, .int (1 : Int32)), (3, .int (0 : Int32)), (2, .int x6), (0, .ref (ad 0)), (1, .int v1)]) hx hb dX7_thingItem_46 hl (by decide) rfl (fun ls hl => ?_)
    obtain ⟨q8, hq8, ha, hb1⟩ := bne_at h
    obtain ⟨n7, hn7⟩ := wl_iff.mp hq8
    refine w_X7_thingItem_L48_48 X K n7 _ _ _ _ _ hn7 G (lv_sub hl [3, 4, 2, 1, 0] rfl) (fun y10 y11 y12 u9 ee H locs ls G hl => ?_) (fun r u1 ee => by obtain ⟨rfl, rfl⟩ := pair_at (ha _ ee); rfl)
    have h := hb1 _ ee
    clear ee ha hb1 hq8 hn7
    have h := nm_at (x := y10) rfl h
    have h := nm_at (x := y11) rfl h
    have h := nm_at (x := y12) rfl h
    have h := nm_at (x := u9) rfl h
    refine lv_aload_n hx hb dX7_thingItem_169 rfl (lv_at hl 0 rfl) ?_
    refine gM_0_0 X K G q_906 dX7_thingItem_170 ?_
    refine lv_bipush (v := 14) hx hb dX7_thingItem_173 (by decide) ?_
    refine lv_bipush (v := 26) hx hb dX7_thingItem_175 (by decide) ?_
    refine lv_iload_n hx hb dX7_thingItem_177 rfl (lv_at hl 2 rfl) ?_
    refine lv_imul hx hb dX7_thingItem_178 ?_
    refine lv_iadd hx hb dX7_thingItem_179 ?_
    refine lv_iload_n hx hb dX7_thingItem_180 rfl (lv_at hl 1 rfl) ?_
    refine nm2 (fun x13 ex13 => ?_)
    have h := nm_at ex13 h
    obtain ⟨g14, h⟩ := ck_at h
    refine aM_1 X K G g14 dX7_thingItem_181 (fun H locs G => ?_)
    obtain ⟨u15, eu15⟩ : ∃ z : MS, z = mu_m u9 (upd (m_m u9) x13.toNatClampNeg y10) := ⟨_, rfl⟩
    have G : wg D A s.heap H locs (wM cI ad u15) := by rw [eu15]; exact G
    have h := nm_at eu15 h
    clear eu15
    refine lv_aload_n hx hb dX7_thingItem_182 rfl (lv_at hl 0 rfl) ?_
    refine gM_0_0 X K G q_906 dX7_thingItem_183 ?_
    refine lv_bipush (v := 14) hx hb dX7_thingItem_186 (by decide) ?_
    refine lv_bipush (v := 26) hx hb dX7_thingItem_188 (by decide) ?_
    refine lv_iload_n hx hb dX7_thingItem_190 rfl (lv_at hl 2 rfl) ?_
    refine lv_imul hx hb dX7_thingItem_191 ?_
    refine lv_iadd hx hb dX7_thingItem_192 ?_
    refine lv_iconst (v := 1) hx hb dX7_thingItem_193 (by decide) ?_
    refine lv_iadd hx hb dX7_thingItem_194 ?_
    refine lv_iload_n hx hb dX7_thingItem_195 rfl (lv_at hl 3 rfl) ?_
    refine nm2 (fun x16 ex16 => ?_)
    have h := nm_at ex16 h
    obtain ⟨g17, h⟩ := ck_at h
    refine aM_1 X K G g17 dX7_thingItem_196 (fun H locs G => ?_)
    obtain ⟨u18, eu18⟩ : ∃ z : MS, z = mu_m u15 (upd (m_m u15) x16.toNatClampNeg y12) := ⟨_, rfl⟩
    have G : wg D A s.heap H locs (wM cI ad u18) := by rw [eu18]; exact G
    have h := nm_at eu18 h
    clear eu18
    refine lv_aload_n hx hb dX7_thingItem_197 rfl (lv_at hl 0 rfl) ?_
    refine gM_0_0 X K G q_906 dX7_thingItem_198 ?_
    refine lv_iconst (v := 3) hx hb dX7_thingItem_201 (by decide) ?_
    refine lv_dup2_11 hx hb dX7_thingItem_202 rfl rfl ?_
    refine lM_1 X K G (by decide) dX7_thingItem_203 ?_
    refine lv_iconst (v := 1) hx hb dX7_thingItem_204 (by decide) ?_
    refine lv_iadd hx hb dX7_thingItem_205 ?_
    refine lv_topi (fun x19 ex19 => ?_)
    have h := nm_at ex19 h
    refine aM_1 X K G (by decide) dX7_thingItem_206 (fun H locs G => ?_)
    obtain ⟨u20, eu20⟩ : ∃ z : MS, z = mu_m u18 (upd (m_m u18) (3 : Int32).toNatClampNeg x19) := ⟨_, rfl⟩
    have G : wg D A s.heap H locs (wM cI ad u20) := by rw [eu20]; exact G
    have h := nm_at eu20 h
    clear eu20
    obtain ⟨rfl, rfl⟩ := pair_at h
    exact reV X G dX7_thingItem_207
  · have h := if_at c3 h
    obtain ⟨rfl, rfl⟩ := pair_at h
    exact reV X G dX7_thingItem_31
noncomputable def f_X7_thingItem (a1 : Int32) (u0 : MS) : Option (Int32 × MS) :=
  (if a1 < 0 then
    f_X7_thingItem_21 a1 (1 : Int32) u0
  else
    (if ((m_m u0) (3 : Int32).toNatClampNeg) = (8 : Int32) then
      f_X7_thingItem_21 a1 (1 : Int32) u0
    else
      f_X7_thingItem_21 a1 (0 : Int32) u0))
set_option maxRecDepth 100000 in
set_option maxHeartbeats 4000000 in
theorem c_X7_thingItem {a1 : Int32} {u0 : MS} {r : Int32} {u' : MS} (h : f_X7_thingItem a1 u0 = some (r, u')) : MV l D cI cZ cQ adK adV A yX7_thingItem cX7_thingItem 5 { frames := 6, cells := 0, slots := 0, locals := 129 } [.ref (ad 0), .int a1] (wM cI ad) u0 u' := by
  unfold f_X7_thingItem at h
  refine entV (by decide) (Nat.le_of_ble_eq_true rfl) (fun p e s m below meth c ls X K G hl => ?_)
  have hl : lv_has ls 5 [(0, .ref (ad 0)), (1, .int a1)] := hl
  obtain ⟨hx, hb, -⟩ := id X
  generalize hH : s.heap = H at G
  subst hH
  refine lv_aload_n hx hb dX7_thingItem_0 rfl (lv_at hl 0 rfl) ?_
  refine lv_iload_n hx hb dX7_thingItem_1 rfl (lv_at hl 1 rfl) ?_
  refine lv_if_lt (tgt := 16) hx hb dX7_thingItem_2 (by decide) (fun c1 => ?_) (fun c1 => ?_)
  · have h := it_at c1 h
    refine lv_iconst (v := 1) hx hb dX7_thingItem_16 (by decide) ?_
    refine lv_goto (tgt := 21) hx hb dX7_thingItem_17 (by decide) ?_
    exact b_X7_thingItem_21 X K G (lv_sub hl [0, 1] rfl) h
  · have h := if_at c1 h
    refine lv_aload_n hx hb dX7_thingItem_5 rfl (lv_at hl 0 rfl) ?_
    refine gM_0_0 X K G q_906 dX7_thingItem_6 ?_
    refine lv_iconst (v := 3) hx hb dX7_thingItem_9 (by decide) ?_
    refine lM_1 X K G (by decide) dX7_thingItem_10 ?_
    refine lv_bipush (v := 8) hx hb dX7_thingItem_11 (by decide) ?_
    refine lv_icmp_ne (tgt := 20) hx hb dX7_thingItem_13 (by decide) (fun c2 => ?_) (fun c2 => ?_)
    · have h := if_at c2 h
      refine lv_iconst (v := 0) hx hb dX7_thingItem_20 (by decide) ?_
      exact b_X7_thingItem_21 X K G (lv_sub hl [0, 1] rfl) h
    · have h := it_at c2 h
      refine lv_iconst (v := 1) hx hb dX7_thingItem_16 (by decide) ?_
      refine lv_goto (tgt := 21) hx hb dX7_thingItem_17 (by decide) ?_
      exact b_X7_thingItem_21 X K G (lv_sub hl [0, 1] rfl) h
noncomputable def f_X7_word_16 (u0 : MS) : Option (Int32 × MS) :=
  nmv (mu_bad u0 (1 : Int32)) fun u1 =>
  (if (m_bad u1) = 0 then
    bnd (f_X7_token  u1) fun r3 u4 =>
    some ((0 : Int32), u4)
  else
    some ((0 : Int32), u1))
set_option maxRecDepth 100000 in
set_option maxHeartbeats 4000000 in
theorem b_X7_word_16 (X : cx p s m args meth c cX7_word 2 RX7 none) (K : kx D cI cZ cQ adK adV A s s.heap) {u0 : MS} (G : wg D A s.heap H locs (wM cI ad u0)) (hl : lv_has ls 2 [(0, .ref (ad 0))]) {r : Int32} {u' : MS} (h : f_X7_word_16  u0 = some (r, u')) : W p l e { frames := 5, cells := 0, slots := 0, locals := 108 } s m args below meth c H locs 0 0 (qV D A (wM cI ad) below args s u') (F0 m 16 ls [.ref (ad 0)]) := by
  unfold f_X7_word_16 at h
  obtain ⟨hx, hb, -⟩ := id X
  refine lv_iconst (v := 1) hx hb dX7_word_16 (by decide) ?_
  refine lv_goto (tgt := 21) hx hb dX7_word_17 (by decide) ?_
  refine pM_0_10 X K G (Or.inr rfl) q_916 dX7_word_21 (fun H locs G => ?_)
  obtain ⟨u1, eu1⟩ : ∃ z : MS, z = mu_bad u0 (1 : Int32) := ⟨_, rfl⟩
  have G : wg D A s.heap H locs (wM cI ad u1) := by rw [eu1]; exact G
  have h := nm_at eu1 h
  clear eu1
  refine lv_aload_n hx hb dX7_word_24 rfl (lv_at hl 0 rfl) ?_
  refine gM_0_10 X K G q_916 dX7_word_25 ?_
  refine lv_if_ne (tgt := 35) hx hb dX7_word_28 (by decide) (fun c2 => ?_) (fun c2 => ?_)
  · have h := if_at c2 h
    obtain ⟨rfl, rfl⟩ := pair_at h
    exact reV X G dX7_word_35
  · have h := it_at c2 h
    refine lv_aload_n hx hb dX7_word_31 rfl (lv_at hl 0 rfl) ?_
    obtain ⟨r3, u4, er3, h⟩ := bnd_at h
    refine cvV (rest := []) X K G (c_X7_token er3) q_989 my_X7_token ⟨rfl, rfl⟩ ⟨Nat.le_of_ble_eq_true rfl, Nat.le_of_ble_eq_true rfl⟩ ⟨Nat.zero_le _, Nat.zero_le _⟩ 0 7 rfl rfl rfl rfl hl.1 rfl (Nat.le_of_ble_eq_true rfl) dX7_word_32 (fun H locs G => ?_)
    clear er3
    obtain ⟨rfl, rfl⟩ := pair_at h
    exact reV X G dX7_word_35
noncomputable def f_X7_word (j1 : Nat) (u0 : MS) : Option (Int32 × MS) :=
  (if (m_bad u0) = 0 then
    bnd (f_X7_isWord j1 u0) fun r2 u3 =>
    (if r2 = 0 then
      f_X7_word_16  u3
    else
      nmv (mu_bad u3 (0 : Int32)) fun u5 =>
      (if (m_bad u5) = 0 then
        bnd (f_X7_token  u5) fun r7 u8 =>
        some ((0 : Int32), u8)
      else
        some ((0 : Int32), u5)))
  else
    f_X7_word_16  u0)
set_option maxRecDepth 100000 in
set_option maxHeartbeats 4000000 in
theorem c_X7_word {j1 : Nat} {u0 : MS} {r : Int32} {u' : MS} (h : f_X7_word j1 u0 = some (r, u')) : MV l D cI cZ cQ adK adV A yX7_word cX7_word 2 { frames := 5, cells := 0, slots := 0, locals := 108 } [.ref (ad 0), .ref (adK j1)] (wM cI ad) u0 u' := by
  unfold f_X7_word at h
  refine entV (by decide) (Nat.le_of_ble_eq_true rfl) (fun p e s m below meth c ls X K G hl => ?_)
  have hl : lv_has ls 2 [(0, .ref (ad 0)), (1, .ref (adK j1))] := hl
  obtain ⟨hx, hb, -⟩ := id X
  generalize hH : s.heap = H at G
  subst hH
  refine lv_aload_n hx hb dX7_word_0 rfl (lv_at hl 0 rfl) ?_
  refine lv_aload_n hx hb dX7_word_1 rfl (lv_at hl 0 rfl) ?_
  refine gM_0_10 X K G q_916 dX7_word_2 ?_
  refine lv_if_ne (tgt := 16) hx hb dX7_word_5 (by decide) (fun c1 => ?_) (fun c1 => ?_)
  · have h := if_at c1 h
    exact b_X7_word_16 X K G (lv_sub hl [0] rfl) h
  · have h := it_at c1 h
    refine lv_aload_n hx hb dX7_word_8 rfl (lv_at hl 0 rfl) ?_
    refine lv_aload_n hx hb dX7_word_9 rfl (lv_at hl 1 rfl) ?_
    obtain ⟨r2, u3, er2, h⟩ := bnd_at h
    refine cvI (rest := [.ref (ad 0)]) X K G (c_X7_isWord er2) q_1006 my_X7_isWord ⟨rfl, rfl⟩ ⟨Nat.le_of_ble_eq_true rfl, Nat.le_of_ble_eq_true rfl⟩ ⟨Nat.zero_le _, Nat.zero_le _⟩ 0 7 rfl rfl rfl rfl hl.1 rfl (Nat.le_of_ble_eq_true rfl) dX7_word_10 (fun H locs G => ?_)
    clear er2
    refine lv_if_ne (tgt := 20) hx hb dX7_word_13 (by decide) (fun c4 => ?_) (fun c4 => ?_)
    · have h := if_at c4 h
      refine lv_iconst (v := 0) hx hb dX7_word_20 (by decide) ?_
      refine pM_0_10 X K G (Or.inl rfl) q_916 dX7_word_21 (fun H locs G => ?_)
      obtain ⟨u5, eu5⟩ : ∃ z : MS, z = mu_bad u3 (0 : Int32) := ⟨_, rfl⟩
      have G : wg D A s.heap H locs (wM cI ad u5) := by rw [eu5]; exact G
      have h := nm_at eu5 h
      clear eu5
      refine lv_aload_n hx hb dX7_word_24 rfl (lv_at hl 0 rfl) ?_
      refine gM_0_10 X K G q_916 dX7_word_25 ?_
      refine lv_if_ne (tgt := 35) hx hb dX7_word_28 (by decide) (fun c6 => ?_) (fun c6 => ?_)
      · have h := if_at c6 h
        obtain ⟨rfl, rfl⟩ := pair_at h
        exact reV X G dX7_word_35
      · have h := it_at c6 h
        refine lv_aload_n hx hb dX7_word_31 rfl (lv_at hl 0 rfl) ?_
        obtain ⟨r7, u8, er7, h⟩ := bnd_at h
        refine cvV (rest := []) X K G (c_X7_token er7) q_989 my_X7_token ⟨rfl, rfl⟩ ⟨Nat.le_of_ble_eq_true rfl, Nat.le_of_ble_eq_true rfl⟩ ⟨Nat.zero_le _, Nat.zero_le _⟩ 0 7 rfl rfl rfl rfl hl.1 rfl (Nat.le_of_ble_eq_true rfl) dX7_word_32 (fun H locs G => ?_)
        clear er7
        obtain ⟨rfl, rfl⟩ := pair_at h
        exact reV X G dX7_word_35
    · have h := it_at c4 h
      exact b_X7_word_16 X K G (lv_sub hl [0] rfl) h
noncomputable def f_X7_orderItem_16 (k1 : Int32) (u0 : MS) : Option (Int32 × MS) :=
  if ¬ (k1 = 0 ∨ k1 = 1) then none else
  nmv (mu_bad u0 k1) fun u2 =>
  (if (m_bad u2) = 0 then
    bnd (f_X7_token  u2) fun r4 u5 =>
    nmv ((222 : Int32) + ((3 : Int32) * ((m_m u5) (4 : Int32).toNatClampNeg))) fun x6 =>
    bnd (f_X7_number (0 : Int32) (((m_m u5) (3 : Int32).toNatClampNeg) - (1 : Int32)) u5) fun r7 u8 =>
    if x6 < 0 ∨ 247 ≤ x6.toNatClampNeg then none else
    nmv (mu_m u8 (upd (m_m u8) x6.toNatClampNeg r7)) fun u10 =>
    bnd (f_X7_word (5) u10) fun r11 u12 =>
    bnd (f_X7_number (0 : Int32) (399 : Int32) u12) fun r13 u14 =>
    nmv (x6 + (1 : Int32)) fun x15 =>
    if x15 < 0 ∨ 247 ≤ x15.toNatClampNeg then none else
    nmv (mu_m u14 (upd (m_m u14) x15.toNatClampNeg r13)) fun u17 =>
    bnd (f_X7_word (6) u17) fun r18 u19 =>
    bnd (f_X7_number (1 : Int32) (99 : Int32) u19) fun r20 u21 =>
    nmv (x6 + (2 : Int32)) fun x22 =>
    if x22 < 0 ∨ 247 ≤ x22.toNatClampNeg then none else
    nmv (mu_m u21 (upd (m_m u21) x22.toNatClampNeg r20)) fun u24 =>
    nmv (((m_m u24) (4 : Int32).toNatClampNeg) + (1 : Int32)) fun x25 =>
    nmv (mu_m u24 (upd (m_m u24) (4 : Int32).toNatClampNeg x25)) fun u26 =>
    some ((0 : Int32), u26)
  else
    some ((0 : Int32), u2))
set_option maxRecDepth 100000 in
set_option maxHeartbeats 4000000 in
theorem b_X7_orderItem_16 (X : cx p s m args meth c cX7_orderItem 2 RX7 none) (K : kx D cI cZ cQ adK adV A s s.heap) {k1 : Int32} {u0 : MS} (G : wg D A s.heap H locs (wM cI ad u0)) (hl : lv_has ls 2 [(0, .ref (ad 0))]) {r : Int32} {u' : MS} (h : f_X7_orderItem_16 k1 u0 = some (r, u')) : W p l e { frames := 6, cells := 0, slots := 0, locals := 129 } s m args below meth c H locs 0 0 (qV D A (wM cI ad) below args s u') (F0 m 16 ls [.int k1, .ref (ad 0)]) := by
  unfold f_X7_orderItem_16 at h
  obtain ⟨hx, hb, -⟩ := id X
  obtain ⟨g1, h⟩ := ck_at h
  refine pM_0_10 X K G (Decidable.not_not.mp g1) q_916 dX7_orderItem_16 (fun H locs G => ?_)
  obtain ⟨u2, eu2⟩ : ∃ z : MS, z = mu_bad u0 k1 := ⟨_, rfl⟩
  have G : wg D A s.heap H locs (wM cI ad u2) := by rw [eu2]; exact G
  have h := nm_at eu2 h
  clear eu2
  refine lv_aload_n hx hb dX7_orderItem_19 rfl (lv_at hl 0 rfl) ?_
  refine gM_0_10 X K G q_916 dX7_orderItem_20 ?_
  refine lv_if_eq (tgt := 27) hx hb dX7_orderItem_23 (by decide) (fun c3 => ?_) (fun c3 => ?_)
  · have h := it_at c3 h
    refine lv_aload_n hx hb dX7_orderItem_27 rfl (lv_at hl 0 rfl) ?_
    obtain ⟨r4, u5, er4, h⟩ := bnd_at h
    refine cvV (rest := []) X K G (c_X7_token er4) q_989 my_X7_token ⟨rfl, rfl⟩ ⟨Nat.le_of_ble_eq_true rfl, Nat.le_of_ble_eq_true rfl⟩ ⟨Nat.zero_le _, Nat.zero_le _⟩ 0 7 rfl rfl rfl rfl hl.1 rfl (Nat.le_of_ble_eq_true rfl) dX7_orderItem_28 (fun H locs G => ?_)
    clear er4
    refine lv_sipush (v := 222) hx hb dX7_orderItem_31 (by decide) ?_
    refine lv_iconst (v := 3) hx hb dX7_orderItem_34 (by decide) ?_
    refine lv_aload_n hx hb dX7_orderItem_35 rfl (lv_at hl 0 rfl) ?_
    refine gM_0_0 X K G q_906 dX7_orderItem_36 ?_
    refine lv_iconst (v := 4) hx hb dX7_orderItem_39 (by decide) ?_
    refine lM_1 X K G (by decide) dX7_orderItem_40 ?_
    refine lv_imul hx hb dX7_orderItem_41 ?_
    refine lv_iadd hx hb dX7_orderItem_42 ?_
    refine lv_topi (fun x6 ex6 => ?_)
    have h := nm_at ex6 h
    refine lv_istore_n (lv' := [(1, .int x6), (0, .ref (ad 0))]) hx hb dX7_orderItem_43 rfl hl (by decide) rfl (fun ls hl => ?_)
    refine lv_aload_n hx hb dX7_orderItem_44 rfl (lv_at hl 1 rfl) ?_
    refine gM_0_0 X K G q_906 dX7_orderItem_45 ?_
    refine lv_iload_n hx hb dX7_orderItem_48 rfl (lv_at hl 0 rfl) ?_
    refine lv_aload_n hx hb dX7_orderItem_49 rfl (lv_at hl 1 rfl) ?_
    refine lv_iconst (v := 0) hx hb dX7_orderItem_50 (by decide) ?_
    refine lv_aload_n hx hb dX7_orderItem_51 rfl (lv_at hl 1 rfl) ?_
    refine gM_0_0 X K G q_906 dX7_orderItem_52 ?_
    refine lv_iconst (v := 3) hx hb dX7_orderItem_55 (by decide) ?_
    refine lM_1 X K G (by decide) dX7_orderItem_56 ?_
    refine lv_iconst (v := 1) hx hb dX7_orderItem_57 (by decide) ?_
    refine lv_isub hx hb dX7_orderItem_58 ?_
    obtain ⟨r7, u8, er7, h⟩ := bnd_at h
    refine cvI (rest := [.int x6, .ref (ad 1)]) X K G (c_X7_number er7) q_1012 my_X7_number ⟨rfl, rfl⟩ ⟨Nat.le_of_ble_eq_true rfl, Nat.le_of_ble_eq_true rfl⟩ ⟨Nat.zero_le _, Nat.zero_le _⟩ 0 7 rfl rfl rfl rfl hl.1 rfl (Nat.le_of_ble_eq_true rfl) dX7_orderItem_59 (fun H locs G => ?_)
    clear er7
    obtain ⟨g9, h⟩ := ck_at h
    refine aM_1 X K G g9 dX7_orderItem_62 (fun H locs G => ?_)
    obtain ⟨u10, eu10⟩ : ∃ z : MS, z = mu_m u8 (upd (m_m u8) x6.toNatClampNeg r7) := ⟨_, rfl⟩
    have G : wg D A s.heap H locs (wM cI ad u10) := by rw [eu10]; exact G
    have h := nm_at eu10 h
    clear eu10
    refine lv_aload_n hx hb dX7_orderItem_63 rfl (lv_at hl 1 rfl) ?_
    refine va_ldcS (q := adK 5) hx hb X.2.2.2.1 (K.2.2.2.1 5 (by decide)).2 dX7_orderItem_64 ?_
    obtain ⟨r11, u12, er11, h⟩ := bnd_at h
    refine cvV (rest := []) X K G (c_X7_word er11) q_1028 my_X7_word ⟨rfl, rfl⟩ ⟨Nat.le_of_ble_eq_true rfl, Nat.le_of_ble_eq_true rfl⟩ ⟨Nat.zero_le _, Nat.zero_le _⟩ 0 7 rfl rfl rfl rfl hl.1 rfl (Nat.le_of_ble_eq_true rfl) dX7_orderItem_66 (fun H locs G => ?_)
    clear er11
    refine lv_aload_n hx hb dX7_orderItem_69 rfl (lv_at hl 1 rfl) ?_
    refine gM_0_0 X K G q_906 dX7_orderItem_70 ?_
    refine lv_iload_n hx hb dX7_orderItem_73 rfl (lv_at hl 0 rfl) ?_
    refine lv_iconst (v := 1) hx hb dX7_orderItem_74 (by decide) ?_
    refine lv_iadd hx hb dX7_orderItem_75 ?_
    refine lv_aload_n hx hb dX7_orderItem_76 rfl (lv_at hl 1 rfl) ?_
    refine lv_iconst (v := 0) hx hb dX7_orderItem_77 (by decide) ?_
    refine lv_sipush (v := 399) hx hb dX7_orderItem_78 (by decide) ?_
    obtain ⟨r13, u14, er13, h⟩ := bnd_at h
    refine cvI (rest := [.int (x6 + (1 : Int32)), .ref (ad 1)]) X K G (c_X7_number er13) q_1012 my_X7_number ⟨rfl, rfl⟩ ⟨Nat.le_of_ble_eq_true rfl, Nat.le_of_ble_eq_true rfl⟩ ⟨Nat.zero_le _, Nat.zero_le _⟩ 0 7 rfl rfl rfl rfl hl.1 rfl (Nat.le_of_ble_eq_true rfl) dX7_orderItem_81 (fun H locs G => ?_)
    clear er13
    refine nm2 (fun x15 ex15 => ?_)
    have h := nm_at ex15 h
    obtain ⟨g16, h⟩ := ck_at h
    refine aM_1 X K G g16 dX7_orderItem_84 (fun H locs G => ?_)
    obtain ⟨u17, eu17⟩ : ∃ z : MS, z = mu_m u14 (upd (m_m u14) x15.toNatClampNeg r13) := ⟨_, rfl⟩
    have G : wg D A s.heap H locs (wM cI ad u17) := by rw [eu17]; exact G
    have h := nm_at eu17 h
    clear eu17
    refine lv_aload_n hx hb dX7_orderItem_85 rfl (lv_at hl 1 rfl) ?_
    refine va_ldcS (q := adK 6) hx hb X.2.2.2.1 (K.2.2.2.1 6 (by decide)).2 dX7_orderItem_86 ?_
    obtain ⟨r18, u19, er18, h⟩ := bnd_at h
    refine cvV (rest := []) X K G (c_X7_word er18) q_1028 my_X7_word ⟨rfl, rfl⟩ ⟨Nat.le_of_ble_eq_true rfl, Nat.le_of_ble_eq_true rfl⟩ ⟨Nat.zero_le _, Nat.zero_le _⟩ 0 7 rfl rfl rfl rfl hl.1 rfl (Nat.le_of_ble_eq_true rfl) dX7_orderItem_88 (fun H locs G => ?_)
    clear er18
    refine lv_aload_n hx hb dX7_orderItem_91 rfl (lv_at hl 1 rfl) ?_
    refine gM_0_0 X K G q_906 dX7_orderItem_92 ?_
    refine lv_iload_n hx hb dX7_orderItem_95 rfl (lv_at hl 0 rfl) ?_
    refine lv_iconst (v := 2) hx hb dX7_orderItem_96 (by decide) ?_
    refine lv_iadd hx hb dX7_orderItem_97 ?_
    refine lv_aload_n hx hb dX7_orderItem_98 rfl (lv_at hl 1 rfl) ?_
    refine lv_iconst (v := 1) hx hb dX7_orderItem_99 (by decide) ?_
    refine lv_bipush (v := 99) hx hb dX7_orderItem_100 (by decide) ?_
    obtain ⟨r20, u21, er20, h⟩ := bnd_at h
    refine cvI (rest := [.int (x6 + (2 : Int32)), .ref (ad 1)]) X K G (c_X7_number er20) q_1012 my_X7_number ⟨rfl, rfl⟩ ⟨Nat.le_of_ble_eq_true rfl, Nat.le_of_ble_eq_true rfl⟩ ⟨Nat.zero_le _, Nat.zero_le _⟩ 0 7 rfl rfl rfl rfl hl.1 rfl (Nat.le_of_ble_eq_true rfl) dX7_orderItem_102 (fun H locs G => ?_)
    clear er20
    refine nm2 (fun x22 ex22 => ?_)
    have h := nm_at ex22 h
    obtain ⟨g23, h⟩ := ck_at h
    refine aM_1 X K G g23 dX7_orderItem_105 (fun H locs G => ?_)
    obtain ⟨u24, eu24⟩ : ∃ z : MS, z = mu_m u21 (upd (m_m u21) x22.toNatClampNeg r20) := ⟨_, rfl⟩
    have G : wg D A s.heap H locs (wM cI ad u24) := by rw [eu24]; exact G
    have h := nm_at eu24 h
    clear eu24
    refine lv_aload_n hx hb dX7_orderItem_106 rfl (lv_at hl 1 rfl) ?_
    refine gM_0_0 X K G q_906 dX7_orderItem_107 ?_
    refine lv_iconst (v := 4) hx hb dX7_orderItem_110 (by decide) ?_
    refine lv_dup2_11 hx hb dX7_orderItem_111 rfl rfl ?_
    refine lM_1 X K G (by decide) dX7_orderItem_112 ?_
    refine lv_iconst (v := 1) hx hb dX7_orderItem_113 (by decide) ?_
    refine lv_iadd hx hb dX7_orderItem_114 ?_
    refine lv_topi (fun x25 ex25 => ?_)
    have h := nm_at ex25 h
    refine aM_1 X K G (by decide) dX7_orderItem_115 (fun H locs G => ?_)
    obtain ⟨u26, eu26⟩ : ∃ z : MS, z = mu_m u24 (upd (m_m u24) (4 : Int32).toNatClampNeg x25) := ⟨_, rfl⟩
    have G : wg D A s.heap H locs (wM cI ad u26) := by rw [eu26]; exact G
    have h := nm_at eu26 h
    clear eu26
    obtain ⟨rfl, rfl⟩ := pair_at h
    exact reV X G dX7_orderItem_116
  · have h := if_at c3 h
    obtain ⟨rfl, rfl⟩ := pair_at h
    exact reV X G dX7_orderItem_26
noncomputable def f_X7_orderItem (u0 : MS) : Option (Int32 × MS) :=
  (if ((m_m u0) (4 : Int32).toNatClampNeg) = (5 : Int32) then
    f_X7_orderItem_16 (1 : Int32) u0
  else
    f_X7_orderItem_16 (0 : Int32) u0)
set_option maxRecDepth 100000 in
set_option maxHeartbeats 4000000 in
theorem c_X7_orderItem {u0 : MS} {r : Int32} {u' : MS} (h : f_X7_orderItem  u0 = some (r, u')) : MV l D cI cZ cQ adK adV A yX7_orderItem cX7_orderItem 2 { frames := 6, cells := 0, slots := 0, locals := 129 } [.ref (ad 0)] (wM cI ad) u0 u' := by
  unfold f_X7_orderItem at h
  refine entV (by decide) (Nat.le_of_ble_eq_true rfl) (fun p e s m below meth c ls X K G hl => ?_)
  have hl : lv_has ls 2 [(0, .ref (ad 0))] := hl
  obtain ⟨hx, hb, -⟩ := id X
  generalize hH : s.heap = H at G
  subst hH
  refine lv_aload_n hx hb dX7_orderItem_0 rfl (lv_at hl 0 rfl) ?_
  refine lv_aload_n hx hb dX7_orderItem_1 rfl (lv_at hl 0 rfl) ?_
  refine gM_0_0 X K G q_906 dX7_orderItem_2 ?_
  refine lv_iconst (v := 4) hx hb dX7_orderItem_5 (by decide) ?_
  refine lM_1 X K G (by decide) dX7_orderItem_6 ?_
  refine lv_iconst (v := 5) hx hb dX7_orderItem_7 (by decide) ?_
  refine lv_icmp_ne (tgt := 15) hx hb dX7_orderItem_8 (by decide) (fun c1 => ?_) (fun c1 => ?_)
  · have h := if_at c1 h
    refine lv_iconst (v := 0) hx hb dX7_orderItem_15 (by decide) ?_
    exact b_X7_orderItem_16 X K G (lv_sub hl [0] rfl) h
  · have h := it_at c1 h
    refine lv_iconst (v := 1) hx hb dX7_orderItem_11 (by decide) ?_
    refine lv_goto (tgt := 16) hx hb dX7_orderItem_12 (by decide) ?_
    exact b_X7_orderItem_16 X K G (lv_sub hl [0] rfl) h
noncomputable def f_X7_toolItem_L36_74 (v3 : Int32) (k0 : Int32) (k1 : Int32) (u0 : MS) : Option ((Int32 × Int32 × MS) ⊕ ((Int32 × MS) ⊕ (Int32 × MS))) :=
  nmv (k0 ||| k1) fun x1 =>
  nmv (v3 + (1 : Int32)) fun x2 =>
  some (.inl (x1, x2, u0))
set_option maxRecDepth 100000 in
set_option maxHeartbeats 4000000 in
theorem b_X7_toolItem_L36_74 (X : cx p s m args meth c cX7_toolItem 4 RX7 none) (K : kx D cI cZ cQ adK adV A s s.heap) {v3 : Int32} {k0 : Int32} {k1 : Int32} {u0 : MS} (G : wg D A s.heap H locs (wM cI ad u0)) (hl : lv_has ls 4 [(0, .ref (ad 0)), (3, .int v3)]) {q : ((Int32 × Int32 × MS) ⊕ ((Int32 × MS) ⊕ (Int32 × MS)))} (h : f_X7_toolItem_L36_74 v3 k0 k1 u0 = some q) (hB : ∀ (v1 : Int32) (v2 : Int32) (u : MS), q = .inl (v1, v2, u) → ∀ (H : Heap) (locs : List Loc) (ls : Array Slot), wg D A s.heap H locs (wM cI ad u) → lv_has ls 4 [(0, .ref (ad 0)), (1, .int v1), (2, .int v2)] → W p l e { frames := 4, cells := 0, slots := 0, locals := 91 } s m args below meth c H locs 0 0 Q (F0 m 36 ls [])) (hX : ∀ (v1 : Int32) (u : MS), q = .inr (.inr (v1, u)) → ∀ (H : Heap) (locs : List Loc) (ls : Array Slot), wg D A s.heap H locs (wM cI ad u) → lv_has ls 4 [(0, .ref (ad 0)), (1, .int v1)] → W p l e { frames := 4, cells := 0, slots := 0, locals := 91 } s m args below meth c H locs 0 0 Q (F0 m 83 ls [])) (hR : ∀ (r : Int32) (u : MS), q = .inr (.inl (r, u)) → Q = (qV D A (wM cI ad) below args s u)) : W p l e { frames := 4, cells := 0, slots := 0, locals := 91 } s m args below meth c H locs 0 0 Q (F0 m 74 ls [.int k1, .int k0]) := by
  unfold f_X7_toolItem_L36_74 at h
  obtain ⟨hx, hb, -⟩ := id X
  refine lv_ior hx hb dX7_toolItem_74 ?_
  refine lv_topi (fun x1 ex1 => ?_)
  have h := nm_at ex1 h
  refine lv_istore_n (lv' := [(1, .int x1), (0, .ref (ad 0)), (3, .int v3)]) hx hb dX7_toolItem_75 rfl hl (by decide) rfl (fun ls hl => ?_)
  refine lv_iload_n hx hb dX7_toolItem_76 rfl (lv_at hl 2 rfl) ?_
  refine lv_iconst (v := 1) hx hb dX7_toolItem_77 (by decide) ?_
  refine lv_iadd hx hb dX7_toolItem_78 ?_
  refine lv_topi (fun x2 ex2 => ?_)
  have h := nm_at ex2 h
  refine lv_istore_n (lv' := [(2, .int x2), (1, .int x1), (0, .ref (ad 0)), (3, .int v3)]) hx hb dX7_toolItem_79 rfl hl (by decide) rfl (fun ls hl => ?_)
  refine lv_goto (tgt := 36) hx hb dX7_toolItem_80 (by decide) ?_
  exact hB _ _ _ (Option.some.inj h).symm _ _ _ G (lv_sub hl [2, 1, 0] rfl)
noncomputable def f_X7_toolItem_L36_36 (v1 : Int32) (v2 : Int32) (u0 : MS) : Option ((Int32 × Int32 × MS) ⊕ ((Int32 × MS) ⊕ (Int32 × MS))) :=
  (if (m_bad u0) = 0 then
    (if (m_sort u0) = (2 : Int32) then
      bnd (f_X7_number v2 (11 : Int32) u0) fun r3 u4 =>
      (if (m_bad u4) = 0 then
        f_X7_toolItem_L36_74 r3 v1 ((1 : Int32) <<< (r3 &&& 31)) u4
      else
        f_X7_toolItem_L36_74 r3 v1 (0 : Int32) u4)
    else
      some (.inr (.inr (v1, u0))))
  else
    some (.inr (.inr (v1, u0))))
set_option maxRecDepth 100000 in
set_option maxHeartbeats 4000000 in
theorem b_X7_toolItem_L36_36 (X : cx p s m args meth c cX7_toolItem 4 RX7 none) (K : kx D cI cZ cQ adK adV A s s.heap) {v1 : Int32} {v2 : Int32} {u0 : MS} (G : wg D A s.heap H locs (wM cI ad u0)) (hl : lv_has ls 4 [(0, .ref (ad 0)), (1, .int v1), (2, .int v2)]) {q : ((Int32 × Int32 × MS) ⊕ ((Int32 × MS) ⊕ (Int32 × MS)))} (h : f_X7_toolItem_L36_36 v1 v2 u0 = some q) (hB : ∀ (v1 : Int32) (v2 : Int32) (u : MS), q = .inl (v1, v2, u) → ∀ (H : Heap) (locs : List Loc) (ls : Array Slot), wg D A s.heap H locs (wM cI ad u) → lv_has ls 4 [(0, .ref (ad 0)), (1, .int v1), (2, .int v2)] → W p l e { frames := 4, cells := 0, slots := 0, locals := 91 } s m args below meth c H locs 0 0 Q (F0 m 36 ls [])) (hX : ∀ (v1 : Int32) (u : MS), q = .inr (.inr (v1, u)) → ∀ (H : Heap) (locs : List Loc) (ls : Array Slot), wg D A s.heap H locs (wM cI ad u) → lv_has ls 4 [(0, .ref (ad 0)), (1, .int v1)] → W p l e { frames := 4, cells := 0, slots := 0, locals := 91 } s m args below meth c H locs 0 0 Q (F0 m 83 ls [])) (hR : ∀ (r : Int32) (u : MS), q = .inr (.inl (r, u)) → Q = (qV D A (wM cI ad) below args s u)) : W p l e { frames := 4, cells := 0, slots := 0, locals := 91 } s m args below meth c H locs 0 0 Q (F0 m 36 ls []) := by
  unfold f_X7_toolItem_L36_36 at h
  obtain ⟨hx, hb, -⟩ := id X
  refine lv_aload_n hx hb dX7_toolItem_36 rfl (lv_at hl 0 rfl) ?_
  refine gM_0_10 X K G q_916 dX7_toolItem_37 ?_
  refine lv_if_ne (tgt := 83) hx hb dX7_toolItem_40 (by decide) (fun c1 => ?_) (fun c1 => ?_)
  · have h := if_at c1 h
    exact hX _ _ (Option.some.inj h).symm _ _ _ G (lv_sub hl [0, 1] rfl)
  · have h := it_at c1 h
    refine lv_aload_n hx hb dX7_toolItem_43 rfl (lv_at hl 0 rfl) ?_
    refine gM_0_6 X K G q_912 dX7_toolItem_44 ?_
    refine lv_iconst (v := 2) hx hb dX7_toolItem_47 (by decide) ?_
    refine lv_icmp_ne (tgt := 83) hx hb dX7_toolItem_48 (by decide) (fun c2 => ?_) (fun c2 => ?_)
    · have h := if_at c2 h
      exact hX _ _ (Option.some.inj h).symm _ _ _ G (lv_sub hl [0, 1] rfl)
    · have h := it_at c2 h
      refine lv_aload_n hx hb dX7_toolItem_51 rfl (lv_at hl 0 rfl) ?_
      refine lv_iload_n hx hb dX7_toolItem_52 rfl (lv_at hl 2 rfl) ?_
      refine lv_bipush (v := 11) hx hb dX7_toolItem_53 (by decide) ?_
      obtain ⟨r3, u4, er3, h⟩ := bnd_at h
      refine cvI (rest := []) X K G (c_X7_number er3) q_1012 my_X7_number ⟨rfl, rfl⟩ ⟨Nat.le_of_ble_eq_true rfl, Nat.le_of_ble_eq_true rfl⟩ ⟨Nat.zero_le _, Nat.zero_le _⟩ 0 7 rfl rfl rfl rfl hl.1 rfl (Nat.le_of_ble_eq_true rfl) dX7_toolItem_55 (fun H locs G => ?_)
      clear er3
      refine lv_istore_n (lv' := [(3, .int r3), (0, .ref (ad 0)), (1, .int v1), (2, .int v2)]) hx hb dX7_toolItem_58 rfl hl (by decide) rfl (fun ls hl => ?_)
      refine lv_iload_n hx hb dX7_toolItem_59 rfl (lv_at hl 2 rfl) ?_
      refine lv_aload_n hx hb dX7_toolItem_60 rfl (lv_at hl 1 rfl) ?_
      refine gM_0_10 X K G q_916 dX7_toolItem_61 ?_
      refine lv_if_eq (tgt := 71) hx hb dX7_toolItem_64 (by decide) (fun c5 => ?_) (fun c5 => ?_)
      · have h := it_at c5 h
        refine lv_iconst (v := 1) hx hb dX7_toolItem_71 (by decide) ?_
        refine lv_iload_n hx hb dX7_toolItem_72 rfl (lv_at hl 0 rfl) ?_
        refine lv_ishl hx hb dX7_toolItem_73 ?_
        exact b_X7_toolItem_L36_74 X K G (lv_sub hl [1, 0] rfl) h hB hX hR
      · have h := if_at c5 h
        refine lv_iconst (v := 0) hx hb dX7_toolItem_67 (by decide) ?_
        refine lv_goto (tgt := 74) hx hb dX7_toolItem_68 (by decide) ?_
        exact b_X7_toolItem_L36_74 X K G (lv_sub hl [1, 0] rfl) h hB hX hR
noncomputable def f_X7_toolItem_L36_36s (q : Int32 × Int32 × MS) : Option ((Int32 × Int32 × MS) ⊕ ((Int32 × MS) ⊕ (Int32 × MS))) := f_X7_toolItem_L36_36 q.1 q.2.1 q.2.2
set_option maxRecDepth 100000 in
set_option maxHeartbeats 4000000 in
theorem w_X7_toolItem_L36_36 (X : cx p s m args meth c cX7_toolItem 4 RX7 none) (K : kx D cI cZ cQ adK adV A s s.heap) {e0 : (Int32 × MS) ⊕ (Int32 × MS)} : ∀ (n : Nat) (v1 : Int32) (v2 : Int32) (u : MS) {H : Heap} {locs : List Loc} {ls : Array Slot}, wh f_X7_toolItem_L36_36s n (v1, v2, u) = some e0 → wg D A s.heap H locs (wM cI ad u) → lv_has ls 4 [(0, .ref (ad 0)), (1, .int v1), (2, .int v2)] → (∀ (v1 : Int32) (u : MS), e0 = .inr (v1, u) → ∀ (H : Heap) (locs : List Loc) (ls : Array Slot), wg D A s.heap H locs (wM cI ad u) → lv_has ls 4 [(0, .ref (ad 0)), (1, .int v1)] → W p l e { frames := 4, cells := 0, slots := 0, locals := 91 } s m args below meth c H locs 0 0 Q (F0 m 83 ls [])) → (∀ (r : Int32) (u : MS), e0 = .inl (r, u) → Q = (qV D A (wM cI ad) below args s u)) → W p l e { frames := 4, cells := 0, slots := 0, locals := 91 } s m args below meth c H locs 0 0 Q (F0 m 36 ls []) := by
  intro n
  induction n with
  | zero => intro v1 v2 u H locs ls h; cases h
  | succ n ih =>
    intro v1 v2 u H locs ls h G hl hX hR
    obtain ⟨q, h1, h2, h3⟩ := wh_at h
    exact b_X7_toolItem_L36_36 X K G hl (show f_X7_toolItem_L36_36 v1 v2 u = some q from h1) (fun b0 b1 b2 ee H locs ls G hl => ih b0 b1 b2 (h2 _ ee) G hl hX hR) (fun z0 z1 ee => hX z0 z1 (h3 _ ee).symm) (fun r u ee => hR r u (h3 _ ee).symm)
noncomputable def f_X7_toolItem_83 (v1 : Int32) (u0 : MS) : Option (Int32 × MS) :=
  nmv ((6 : Int32) + ((m_m u0) (2 : Int32).toNatClampNeg)) fun x1 =>
  if x1 < 0 ∨ 247 ≤ x1.toNatClampNeg then none else
  nmv (mu_m u0 (upd (m_m u0) x1.toNatClampNeg v1)) fun u3 =>
  nmv (((m_m u3) (2 : Int32).toNatClampNeg) + (1 : Int32)) fun x4 =>
  nmv (mu_m u3 (upd (m_m u3) (2 : Int32).toNatClampNeg x4)) fun u5 =>
  some ((0 : Int32), u5)
set_option maxRecDepth 100000 in
set_option maxHeartbeats 4000000 in
theorem b_X7_toolItem_83 (X : cx p s m args meth c cX7_toolItem 4 RX7 none) (K : kx D cI cZ cQ adK adV A s s.heap) {v1 : Int32} {u0 : MS} (G : wg D A s.heap H locs (wM cI ad u0)) (hl : lv_has ls 4 [(0, .ref (ad 0)), (1, .int v1)]) {r : Int32} {u' : MS} (h : f_X7_toolItem_83 v1 u0 = some (r, u')) : W p l e { frames := 4, cells := 0, slots := 0, locals := 91 } s m args below meth c H locs 0 0 (qV D A (wM cI ad) below args s u') (F0 m 83 ls []) := by
  unfold f_X7_toolItem_83 at h
  obtain ⟨hx, hb, -⟩ := id X
  refine lv_aload_n hx hb dX7_toolItem_83 rfl (lv_at hl 0 rfl) ?_
  refine gM_0_0 X K G q_906 dX7_toolItem_84 ?_
  refine lv_bipush (v := 6) hx hb dX7_toolItem_87 (by decide) ?_
  refine lv_aload_n hx hb dX7_toolItem_89 rfl (lv_at hl 0 rfl) ?_
  refine gM_0_0 X K G q_906 dX7_toolItem_90 ?_
  refine lv_iconst (v := 2) hx hb dX7_toolItem_93 (by decide) ?_
  refine lM_1 X K G (by decide) dX7_toolItem_94 ?_
  refine lv_iadd hx hb dX7_toolItem_95 ?_
  refine lv_iload_n hx hb dX7_toolItem_96 rfl (lv_at hl 1 rfl) ?_
  refine nm2 (fun x1 ex1 => ?_)
  have h := nm_at ex1 h
  obtain ⟨g2, h⟩ := ck_at h
  refine aM_1 X K G g2 dX7_toolItem_97 (fun H locs G => ?_)
  obtain ⟨u3, eu3⟩ : ∃ z : MS, z = mu_m u0 (upd (m_m u0) x1.toNatClampNeg v1) := ⟨_, rfl⟩
  have G : wg D A s.heap H locs (wM cI ad u3) := by rw [eu3]; exact G
  have h := nm_at eu3 h
  clear eu3
  refine lv_aload_n hx hb dX7_toolItem_98 rfl (lv_at hl 0 rfl) ?_
  refine gM_0_0 X K G q_906 dX7_toolItem_99 ?_
  refine lv_iconst (v := 2) hx hb dX7_toolItem_102 (by decide) ?_
  refine lv_dup2_11 hx hb dX7_toolItem_103 rfl rfl ?_
  refine lM_1 X K G (by decide) dX7_toolItem_104 ?_
  refine lv_iconst (v := 1) hx hb dX7_toolItem_105 (by decide) ?_
  refine lv_iadd hx hb dX7_toolItem_106 ?_
  refine lv_topi (fun x4 ex4 => ?_)
  have h := nm_at ex4 h
  refine aM_1 X K G (by decide) dX7_toolItem_107 (fun H locs G => ?_)
  obtain ⟨u5, eu5⟩ : ∃ z : MS, z = mu_m u3 (upd (m_m u3) (2 : Int32).toNatClampNeg x4) := ⟨_, rfl⟩
  have G : wg D A s.heap H locs (wM cI ad u5) := by rw [eu5]; exact G
  have h := nm_at eu5 h
  clear eu5
  obtain ⟨rfl, rfl⟩ := pair_at h
  exact reV X G dX7_toolItem_108
noncomputable def f_X7_toolItem_17 (k1 : Int32) (u0 : MS) : Option (Int32 × MS) :=
  if ¬ (k1 = 0 ∨ k1 = 1) then none else
  nmv (mu_bad u0 k1) fun u2 =>
  (if (m_bad u2) = 0 then
    bnd (f_X7_token  u2) fun r4 u5 =>
    bne (wl f_X7_toolItem_L36_36s ((0 : Int32), (0 : Int32), u5)) (fun a => some a) fun b =>
      nmv b.1 fun y9 =>
      nmv b.2 fun u8 =>
      f_X7_toolItem_83 y9 u8
  else
    some ((0 : Int32), u2))
set_option maxRecDepth 100000 in
set_option maxHeartbeats 4000000 in
theorem b_X7_toolItem_17 (X : cx p s m args meth c cX7_toolItem 4 RX7 none) (K : kx D cI cZ cQ adK adV A s s.heap) {k1 : Int32} {u0 : MS} (G : wg D A s.heap H locs (wM cI ad u0)) (hl : lv_has ls 4 [(0, .ref (ad 0))]) {r : Int32} {u' : MS} (h : f_X7_toolItem_17 k1 u0 = some (r, u')) : W p l e { frames := 4, cells := 0, slots := 0, locals := 91 } s m args below meth c H locs 0 0 (qV D A (wM cI ad) below args s u') (F0 m 17 ls [.int k1, .ref (ad 0)]) := by
  unfold f_X7_toolItem_17 at h
  obtain ⟨hx, hb, -⟩ := id X
  obtain ⟨g1, h⟩ := ck_at h
  refine pM_0_10 X K G (Decidable.not_not.mp g1) q_916 dX7_toolItem_17 (fun H locs G => ?_)
  obtain ⟨u2, eu2⟩ : ∃ z : MS, z = mu_bad u0 k1 := ⟨_, rfl⟩
  have G : wg D A s.heap H locs (wM cI ad u2) := by rw [eu2]; exact G
  have h := nm_at eu2 h
  clear eu2
  refine lv_aload_n hx hb dX7_toolItem_20 rfl (lv_at hl 0 rfl) ?_
  refine gM_0_10 X K G q_916 dX7_toolItem_21 ?_
  refine lv_if_eq (tgt := 28) hx hb dX7_toolItem_24 (by decide) (fun c3 => ?_) (fun c3 => ?_)
  · have h := it_at c3 h
    refine lv_aload_n hx hb dX7_toolItem_28 rfl (lv_at hl 0 rfl) ?_
    obtain ⟨r4, u5, er4, h⟩ := bnd_at h
    refine cvV (rest := []) X K G (c_X7_token er4) q_989 my_X7_token ⟨rfl, rfl⟩ ⟨Nat.le_of_ble_eq_true rfl, Nat.le_of_ble_eq_true rfl⟩ ⟨Nat.zero_le _, Nat.zero_le _⟩ 0 7 rfl rfl rfl rfl hl.1 rfl (Nat.le_of_ble_eq_true rfl) dX7_toolItem_29 (fun H locs G => ?_)
    clear er4
    refine lv_iconst (v := 0) hx hb dX7_toolItem_32 (by decide) ?_
    refine lv_istore_n (lv' := [(1, .int (0 : Int32)), (0, .ref (ad 0))]) hx hb dX7_toolItem_33 rfl hl (by decide) rfl (fun ls hl => ?_)
    refine lv_iconst (v := 0) hx hb dX7_toolItem_34 (by decide) ?_
    refine lv_istore_n (lv' := [(2, .int (0 : Int32)), (1, .int (0 : Int32)), (0, .ref (ad 0))]) hx hb dX7_toolItem_35 rfl hl (by decide) rfl (fun ls hl => ?_)
    obtain ⟨q7, hq7, ha, hb1⟩ := bne_at h
    obtain ⟨n6, hn6⟩ := wl_iff.mp hq7
    refine w_X7_toolItem_L36_36 X K n6 _ _ _ hn6 G (lv_sub hl [2, 1, 0] rfl) (fun y9 u8 ee H locs ls G hl => ?_) (fun r u1 ee => by obtain ⟨rfl, rfl⟩ := pair_at (ha _ ee); rfl)
    have h := hb1 _ ee
    clear ee ha hb1 hq7 hn6
    have h := nm_at (x := y9) rfl h
    have h := nm_at (x := u8) rfl h
    exact b_X7_toolItem_83 X K G (lv_sub hl [0, 1] rfl) h
  · have h := if_at c3 h
    obtain ⟨rfl, rfl⟩ := pair_at h
    exact reV X G dX7_toolItem_27
noncomputable def f_X7_toolItem (u0 : MS) : Option (Int32 × MS) :=
  (if ((m_m u0) (2 : Int32).toNatClampNeg) = (8 : Int32) then
    f_X7_toolItem_17 (1 : Int32) u0
  else
    f_X7_toolItem_17 (0 : Int32) u0)
set_option maxRecDepth 100000 in
set_option maxHeartbeats 4000000 in
theorem c_X7_toolItem {u0 : MS} {r : Int32} {u' : MS} (h : f_X7_toolItem  u0 = some (r, u')) : MV l D cI cZ cQ adK adV A yX7_toolItem cX7_toolItem 4 { frames := 4, cells := 0, slots := 0, locals := 91 } [.ref (ad 0)] (wM cI ad) u0 u' := by
  unfold f_X7_toolItem at h
  refine entV (by decide) (Nat.le_of_ble_eq_true rfl) (fun p e s m below meth c ls X K G hl => ?_)
  have hl : lv_has ls 4 [(0, .ref (ad 0))] := hl
  obtain ⟨hx, hb, -⟩ := id X
  generalize hH : s.heap = H at G
  subst hH
  refine lv_aload_n hx hb dX7_toolItem_0 rfl (lv_at hl 0 rfl) ?_
  refine lv_aload_n hx hb dX7_toolItem_1 rfl (lv_at hl 0 rfl) ?_
  refine gM_0_0 X K G q_906 dX7_toolItem_2 ?_
  refine lv_iconst (v := 2) hx hb dX7_toolItem_5 (by decide) ?_
  refine lM_1 X K G (by decide) dX7_toolItem_6 ?_
  refine lv_bipush (v := 8) hx hb dX7_toolItem_7 (by decide) ?_
  refine lv_icmp_ne (tgt := 16) hx hb dX7_toolItem_9 (by decide) (fun c1 => ?_) (fun c1 => ?_)
  · have h := if_at c1 h
    refine lv_iconst (v := 0) hx hb dX7_toolItem_16 (by decide) ?_
    exact b_X7_toolItem_17 X K G (lv_sub hl [0] rfl) h
  · have h := it_at c1 h
    refine lv_iconst (v := 1) hx hb dX7_toolItem_12 (by decide) ?_
    refine lv_goto (tgt := 17) hx hb dX7_toolItem_13 (by decide) ?_
    exact b_X7_toolItem_17 X K G (lv_sub hl [0] rfl) h
end WALK_ref0
