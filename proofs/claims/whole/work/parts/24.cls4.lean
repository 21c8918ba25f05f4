section WALK_cls4
variable {p : Program} {l : Launch} {e : Env} {s : State} {m : MethodId} {args : Array Value} {below : List Frame} {meth : Method} {c : Code} {H : Heap} {locs : List Loc} {Q : State → Prop} {D : va_G} {cI cZ cQ : ClassId} {adK adV ad : Nat → Nat} {A : Nat → Prop} {ls : Array Slot}
noncomputable def f_X6_taken (a1 : Int32) (a2 : Int32) (a3 : Int32) (u0 : XS) : Option (Int32 × XS) :=
  bnd (f_X2_readSequence a1 a2 u0) fun r1 u2 =>
  (if r1 = 0 then
    bnd (f_X6_found (0 : Int32) u2) fun r4 u5 =>
    some (r4, u5)
  else
    bnd (f_X6_within a3 (0 : Int32) ((2 : Int32) + (tTools (xT u2))) u2) fun r6 u7 =>
    (if r6 = 0 then
      bnd (f_X6_found (0 : Int32) u7) fun r18 u19 =>
      some (r18, u19)
    else
      bnd (f_X2_plotRuns  u7) fun r9 u10 =>
      bnd (f_X2_takeInSequence a2 u10) fun r11 u12 =>
      (if a3 = (0 : Int32) then
        some (h_worth (xH u12), u12)
      else
      (if a3 = (1 : Int32) then
        some (h_inTime (xH u12), u12)
      else
      (if a3 = (2 : Int32) then
        some (h_lastDay (xH u12), u12)
      else
      nmv (a3 - (3 : Int32)) fun x16 =>
      if x16 < 0 ∨ 8 ≤ x16.toNatClampNeg then none else
      some ((h_toolHours (xH u12)) x16.toNatClampNeg, u12))))))
set_option maxRecDepth 100000 in
set_option maxHeartbeats 4000000 in
theorem c_X6_taken {a1 : Int32} {a2 : Int32} {a3 : Int32} {u0 : XS} {r : Int32} {u' : XS} (h : f_X6_taken a1 a2 a3 u0 = some (r, u')) : MI l D cI cZ cQ adK adV A yX6_taken cX6_taken 4 (some .int) { frames := 5, cells := 0, slots := 0, locals := 126 } [.ref (ad 0), .int a1, .int a2, .int a3] (wX cI cZ cQ ad) u0 r u' := by
  unfold f_X6_taken at h
  refine entI (by decide) (Nat.le_of_ble_eq_true rfl) (fun p e s m below meth c ls X K G hl => ?_)
  have hl : lv_has ls 4 [(0, .ref (ad 0)), (1, .int a1), (2, .int a2), (3, .int a3)] := hl
  obtain ⟨hx, hb, -⟩ := id X
  generalize hH : s.heap = H at G
  subst hH
  refine lv_aload_n hx hb dX6_taken_0 rfl (lv_at hl 0 rfl) ?_
  refine gX_0_5 X K G q_305 dX6_taken_1 ?_
  refine lv_iload_n hx hb dX6_taken_4 rfl (lv_at hl 1 rfl) ?_
  refine lv_iload_n hx hb dX6_taken_5 rfl (lv_at hl 2 rfl) ?_
  obtain ⟨r1, u2, er1, h⟩ := bnd_at h
  refine cvI (rest := []) X K G (c_X2_readSequence er1) q_691 my_X2_readSequence ⟨rfl, rfl⟩ ⟨Nat.le_of_ble_eq_true rfl, Nat.le_of_ble_eq_true rfl⟩ ⟨Nat.zero_le _, Nat.zero_le _⟩ 26 2 rfl rfl rfl rfl hl.1 rfl (Nat.le_of_ble_eq_true rfl) dX6_taken_6 (fun H locs G => ?_)
  clear er1
  refine lv_if_eq (tgt := 29) hx hb dX6_taken_9 (by decide) (fun c3 => ?_) (fun c3 => ?_)
  · have h := it_at c3 h
    refine lv_aload_n hx hb dX6_taken_29 rfl (lv_at hl 0 rfl) ?_
    refine lv_iconst (v := 0) hx hb dX6_taken_30 (by decide) ?_
    obtain ⟨r4, u5, er4, h⟩ := bnd_at h
    refine cvI (rest := []) X K G (c_X6_found er4) q_338 my_X6_found ⟨rfl, rfl⟩ ⟨Nat.le_of_ble_eq_true rfl, Nat.le_of_ble_eq_true rfl⟩ ⟨Nat.zero_le _, Nat.zero_le _⟩ 0 6 rfl rfl rfl rfl hl.1 rfl (Nat.le_of_ble_eq_true rfl) dX6_taken_31 (fun H locs G => ?_)
    clear er4
    obtain ⟨rfl, rfl⟩ := pair_at h
    exact reI X G dX6_taken_34
  · have h := if_at c3 h
    refine lv_iload_n hx hb dX6_taken_12 rfl (lv_at hl 3 rfl) ?_
    refine lv_iconst (v := 0) hx hb dX6_taken_13 (by decide) ?_
    refine lv_iconst (v := 2) hx hb dX6_taken_14 (by decide) ?_
    refine lv_aload_n hx hb dX6_taken_15 rfl (lv_at hl 0 rfl) ?_
    refine gX_0_0 X K G q_300 dX6_taken_16 ?_
    refine gX_1_3 X K G q_114 dX6_taken_19 ?_
    refine lv_iadd hx hb dX6_taken_22 ?_
    obtain ⟨r6, u7, er6, h⟩ := bnd_at h
    refine csI (rest := []) X K G (c_X6_within er6) q_335 my_X6_within ⟨rfl, rfl⟩ ⟨Nat.le_of_ble_eq_true rfl, Nat.le_of_ble_eq_true rfl⟩ ⟨Nat.zero_le _, Nat.zero_le _⟩ rfl hl.1 rfl (Nat.le_of_ble_eq_true rfl) dX6_taken_23 (fun H locs G => ?_)
    clear er6
    refine lv_if_ne (tgt := 35) hx hb dX6_taken_26 (by decide) (fun c8 => ?_) (fun c8 => ?_)
    · have h := if_at c8 h
      refine lv_aload_n hx hb dX6_taken_35 rfl (lv_at hl 0 rfl) ?_
      refine gX_0_5 X K G q_305 dX6_taken_36 ?_
      obtain ⟨r9, u10, er9, h⟩ := bnd_at h
      refine cvV (rest := []) X K G (c_X2_plotRuns er9) q_696 my_X2_plotRuns ⟨rfl, rfl⟩ ⟨Nat.le_of_ble_eq_true rfl, Nat.le_of_ble_eq_true rfl⟩ ⟨Nat.zero_le _, Nat.zero_le _⟩ 26 2 rfl rfl rfl rfl hl.1 rfl (Nat.le_of_ble_eq_true rfl) dX6_taken_39 (fun H locs G => ?_)
      clear er9
      refine lv_aload_n hx hb dX6_taken_42 rfl (lv_at hl 0 rfl) ?_
      refine gX_0_5 X K G q_305 dX6_taken_43 ?_
      refine lv_iload_n hx hb dX6_taken_46 rfl (lv_at hl 2 rfl) ?_
      obtain ⟨r11, u12, er11, h⟩ := bnd_at h
      refine cvV (rest := []) X K G (c_X2_takeInSequence er11) q_716 my_X2_takeInSequence ⟨rfl, rfl⟩ ⟨Nat.le_of_ble_eq_true rfl, Nat.le_of_ble_eq_true rfl⟩ ⟨Nat.zero_le _, Nat.zero_le _⟩ 26 2 rfl rfl rfl rfl hl.1 rfl (Nat.le_of_ble_eq_true rfl) dX6_taken_47 (fun H locs G => ?_)
      clear er11
      refine lv_iload_n hx hb dX6_taken_50 rfl (lv_at hl 3 rfl) ?_
      by_cases c13 : a3 = (0 : Int32)
      · have h := it_at c13 h
        refine tswI X (0 : Int32) c13 dX6_taken_51 (off := 25) (tgt := 76) (by decide) ?_
        refine lv_aload_n hx hb dX6_taken_76 rfl (lv_at hl 0 rfl) ?_
        refine gX_0_5 X K G q_305 dX6_taken_77 ?_
        refine gX_26_9 X K G q_210 dX6_taken_80 ?_
        obtain ⟨rfl, rfl⟩ := pair_at h
        exact reI X G dX6_taken_83
      have h := if_at c13 h
      by_cases c14 : a3 = (1 : Int32)
      · have h := it_at c14 h
        refine tswI X (1 : Int32) c14 dX6_taken_51 (off := 33) (tgt := 84) (by decide) ?_
        refine lv_aload_n hx hb dX6_taken_84 rfl (lv_at hl 0 rfl) ?_
        refine gX_0_5 X K G q_305 dX6_taken_85 ?_
        refine gX_26_10 X K G q_212 dX6_taken_88 ?_
        obtain ⟨rfl, rfl⟩ := pair_at h
        exact reI X G dX6_taken_91
      have h := if_at c14 h
      by_cases c15 : a3 = (2 : Int32)
      · have h := it_at c15 h
        refine tswI X (2 : Int32) c15 dX6_taken_51 (off := 41) (tgt := 92) (by decide) ?_
        refine lv_aload_n hx hb dX6_taken_92 rfl (lv_at hl 0 rfl) ?_
        refine gX_0_5 X K G q_305 dX6_taken_93 ?_
        refine gX_26_11 X K G q_214 dX6_taken_96 ?_
        obtain ⟨rfl, rfl⟩ := pair_at h
        exact reI X G dX6_taken_99
      have h := if_at c15 h
      have tc13 := lv_neT (a := 0) c13 rfl
      have tc14 := lv_neT (a := 1) c14 rfl
      have tc15 := lv_neT (a := 2) c15 rfl
      refine tswO X (by omega) dX6_taken_51 (tgt := 100) (by decide) ?_
      refine lv_aload_n hx hb dX6_taken_100 rfl (lv_at hl 0 rfl) ?_
      refine gX_0_5 X K G q_305 dX6_taken_101 ?_
      refine gX_26_8 X K G q_208 dX6_taken_104 ?_
      refine lv_iload_n hx hb dX6_taken_107 rfl (lv_at hl 3 rfl) ?_
      refine lv_iconst (v := 3) hx hb dX6_taken_108 (by decide) ?_
      refine lv_isub hx hb dX6_taken_109 ?_
      refine lv_topi (fun x16 ex16 => ?_)
      have h := nm_at ex16 h
      obtain ⟨g17, h⟩ := ck_at h
      refine lX_32 X K G g17 dX6_taken_110 ?_
      obtain ⟨rfl, rfl⟩ := pair_at h
      exact reI X G dX6_taken_111
    · have h := it_at c8 h
      refine lv_aload_n hx hb dX6_taken_29 rfl (lv_at hl 0 rfl) ?_
      refine lv_iconst (v := 0) hx hb dX6_taken_30 (by decide) ?_
      obtain ⟨r18, u19, er18, h⟩ := bnd_at h
      refine cvI (rest := []) X K G (c_X6_found er18) q_338 my_X6_found ⟨rfl, rfl⟩ ⟨Nat.le_of_ble_eq_true rfl, Nat.le_of_ble_eq_true rfl⟩ ⟨Nat.zero_le _, Nat.zero_le _⟩ 0 6 rfl rfl rfl rfl hl.1 rfl (Nat.le_of_ble_eq_true rfl) dX6_taken_31 (fun H locs G => ?_)
      clear er18
      obtain ⟨rfl, rfl⟩ := pair_at h
      exact reI X G dX6_taken_34
noncomputable def f_X2_allWorths_L4_4 (v1 : Int32) (v2 : Int32) (u0 : XS) : Option ((Int32 × Int32 × XS) ⊕ ((Int32 × XS) ⊕ (Int32 × XS))) :=
  (if (tOrders (xT u0)) ≤ v2 then
    some (.inr (.inr (v1, u0)))
  else
    bnd (f_X5_orderNumber v2 (2 : Int32) u0) fun r2 u3 =>
    nmv (v1 + r2) fun x4 =>
    nmv (v2 + (1 : Int32)) fun x5 =>
    some (.inl (x4, x5, u3)))
set_option maxRecDepth 100000 in
set_option maxHeartbeats 4000000 in
theorem b_X2_allWorths_L4_4 (X : cx p s m args meth c cX2_allWorths 3 RX2 (some .int)) (K : kx D cI cZ cQ adK adV A s s.heap) {v1 : Int32} {v2 : Int32} {u0 : XS} (G : wg D A s.heap H locs (wX cI cZ cQ ad u0)) (hl : lv_has ls 3 [(0, .ref (ad 26)), (1, .int v1), (2, .int v2)]) {q : ((Int32 × Int32 × XS) ⊕ ((Int32 × XS) ⊕ (Int32 × XS)))} (h : f_X2_allWorths_L4_4 v1 v2 u0 = some q) (hB : ∀ (v1 : Int32) (v2 : Int32) (u : XS), q = .inl (v1, v2, u) → ∀ (H : Heap) (locs : List Loc) (ls : Array Slot), wg D A s.heap H locs (wX cI cZ cQ ad u) → lv_has ls 3 [(0, .ref (ad 26)), (1, .int v1), (2, .int v2)] → W p l e { frames := 1, cells := 0, slots := 0, locals := 22 } s m args below meth c H locs 0 0 Q (F0 m 4 ls [])) (hX : ∀ (v1 : Int32) (u : XS), q = .inr (.inr (v1, u)) → ∀ (H : Heap) (locs : List Loc) (ls : Array Slot), wg D A s.heap H locs (wX cI cZ cQ ad u) → lv_has ls 3 [(1, .int v1)] → W p l e { frames := 1, cells := 0, slots := 0, locals := 22 } s m args below meth c H locs 0 0 Q (F0 m 33 ls [])) (hR : ∀ (r : Int32) (u : XS), q = .inr (.inl (r, u)) → Q = (qI D A (wX cI cZ cQ ad) below args s r u)) : W p l e { frames := 1, cells := 0, slots := 0, locals := 22 } s m args below meth c H locs 0 0 Q (F0 m 4 ls []) := by
  unfold f_X2_allWorths_L4_4 at h
  obtain ⟨hx, hb, -⟩ := id X
  refine lv_iload_n hx hb dX2_allWorths_4 rfl (lv_at hl 2 rfl) ?_
  refine lv_aload_n hx hb dX2_allWorths_5 rfl (lv_at hl 0 rfl) ?_
  refine gX_26_0 X K G q_199 dX2_allWorths_6 ?_
  refine gX_1_5 X K G q_119 dX2_allWorths_9 ?_
  refine lv_icmp_ge (tgt := 33) hx hb dX2_allWorths_12 (by decide) (fun c1 => ?_) (fun c1 => ?_)
  · have h := it_at c1 h
    exact hX _ _ (Option.some.inj h).symm _ _ _ G (lv_sub hl [1] rfl)
  · have h := if_at c1 h
    refine lv_iload_n hx hb dX2_allWorths_15 rfl (lv_at hl 1 rfl) ?_
    refine lv_aload_n hx hb dX2_allWorths_16 rfl (lv_at hl 0 rfl) ?_
    refine gX_26_0 X K G q_199 dX2_allWorths_17 ?_
    refine lv_iload_n hx hb dX2_allWorths_20 rfl (lv_at hl 2 rfl) ?_
    refine lv_iconst (v := 2) hx hb dX2_allWorths_21 (by decide) ?_
    obtain ⟨r2, u3, er2, h⟩ := bnd_at h
    refine cvI (rest := [.int v1]) X K G (c_X5_orderNumber er2) q_704 my_X5_orderNumber ⟨rfl, rfl⟩ ⟨Nat.le_of_ble_eq_true rfl, Nat.le_of_ble_eq_true rfl⟩ ⟨Nat.zero_le _, Nat.zero_le _⟩ 1 5 rfl rfl rfl rfl hl.1 rfl (Nat.le_of_ble_eq_true rfl) dX2_allWorths_22 (fun H locs G => ?_)
    clear er2
    refine lv_iadd hx hb dX2_allWorths_25 ?_
    refine lv_topi (fun x4 ex4 => ?_)
    have h := nm_at ex4 h
    refine lv_istore_n (lv' := [(1, .int x4), (0, .ref (ad 26)), (2, .int v2)]) hx hb dX2_allWorths_26 rfl hl (by decide) rfl (fun ls hl => ?_)
    obtain ⟨x5, ex5⟩ : ∃ z : Int32, z = v2 + (1 : Int32) := ⟨_, rfl⟩
    have h := nm_at ex5 h
    refine lv_iinc (v := x5) (lv' := [(2, .int x5), (1, .int x4), (0, .ref (ad 26))]) hx hb dX2_allWorths_27 hl (k := 2) rfl (by rw [ex5]; rfl) (by decide) rfl (fun ls hl => ?_)
    refine lv_goto (tgt := 4) hx hb dX2_allWorths_30 (by decide) ?_
    exact hB _ _ _ (Option.some.inj h).symm _ _ _ G (lv_sub hl [2, 1, 0] rfl)
noncomputable def f_X2_allWorths_L4_4s (q : Int32 × Int32 × XS) : Option ((Int32 × Int32 × XS) ⊕ ((Int32 × XS) ⊕ (Int32 × XS))) := f_X2_allWorths_L4_4 q.1 q.2.1 q.2.2
set_option maxRecDepth 100000 in
set_option maxHeartbeats 4000000 in
theorem w_X2_allWorths_L4_4 (X : cx p s m args meth c cX2_allWorths 3 RX2 (some .int)) (K : kx D cI cZ cQ adK adV A s s.heap) {e0 : (Int32 × XS) ⊕ (Int32 × XS)} : ∀ (n : Nat) (v1 : Int32) (v2 : Int32) (u : XS) {H : Heap} {locs : List Loc} {ls : Array Slot}, wh f_X2_allWorths_L4_4s n (v1, v2, u) = some e0 → wg D A s.heap H locs (wX cI cZ cQ ad u) → lv_has ls 3 [(0, .ref (ad 26)), (1, .int v1), (2, .int v2)] → (∀ (v1 : Int32) (u : XS), e0 = .inr (v1, u) → ∀ (H : Heap) (locs : List Loc) (ls : Array Slot), wg D A s.heap H locs (wX cI cZ cQ ad u) → lv_has ls 3 [(1, .int v1)] → W p l e { frames := 1, cells := 0, slots := 0, locals := 22 } s m args below meth c H locs 0 0 Q (F0 m 33 ls [])) → (∀ (r : Int32) (u : XS), e0 = .inl (r, u) → Q = (qI D A (wX cI cZ cQ ad) below args s r u)) → W p l e { frames := 1, cells := 0, slots := 0, locals := 22 } s m args below meth c H locs 0 0 Q (F0 m 4 ls []) := by
  intro n
  induction n with
  | zero => intro v1 v2 u H locs ls h; cases h
  | succ n ih =>
    intro v1 v2 u H locs ls h G hl hX hR
    obtain ⟨q, h1, h2, h3⟩ := wh_at h
    exact b_X2_allWorths_L4_4 X K G hl (show f_X2_allWorths_L4_4 v1 v2 u = some q from h1) (fun b0 b1 b2 ee H locs ls G hl => ih b0 b1 b2 (h2 _ ee) G hl hX hR) (fun z0 z1 ee => hX z0 z1 (h3 _ ee).symm) (fun r u ee => hR r u (h3 _ ee).symm)
noncomputable def f_X2_allWorths (u0 : XS) : Option (Int32 × XS) :=
  bne (wl f_X2_allWorths_L4_4s ((0 : Int32), (0 : Int32), u0)) (fun a => some a) fun b =>
    nmv b.1 fun y4 =>
    nmv b.2 fun u3 =>
    some (y4, u3)
set_option maxRecDepth 100000 in
set_option maxHeartbeats 4000000 in
theorem c_X2_allWorths {u0 : XS} {r : Int32} {u' : XS} (h : f_X2_allWorths  u0 = some (r, u')) : MI l D cI cZ cQ adK adV A yX2_allWorths cX2_allWorths 3 (some .int) { frames := 1, cells := 0, slots := 0, locals := 22 } [.ref (ad 26)] (wX cI cZ cQ ad) u0 r u' := by
  unfold f_X2_allWorths at h
  refine entI (by decide) (Nat.le_of_ble_eq_true rfl) (fun p e s m below meth c ls X K G hl => ?_)
  have hl : lv_has ls 3 [(0, .ref (ad 26))] := hl
  obtain ⟨hx, hb, -⟩ := id X
  generalize hH : s.heap = H at G
  subst hH
  refine lv_iconst (v := 0) hx hb dX2_allWorths_0 (by decide) ?_
  refine lv_istore_n (lv' := [(1, .int (0 : Int32)), (0, .ref (ad 26))]) hx hb dX2_allWorths_1 rfl hl (by decide) rfl (fun ls hl => ?_)
  refine lv_iconst (v := 0) hx hb dX2_allWorths_2 (by decide) ?_
  refine lv_istore_n (lv' := [(2, .int (0 : Int32)), (1, .int (0 : Int32)), (0, .ref (ad 26))]) hx hb dX2_allWorths_3 rfl hl (by decide) rfl (fun ls hl => ?_)
  obtain ⟨q2, hq2, ha, hb1⟩ := bne_at h
  obtain ⟨n1, hn1⟩ := wl_iff.mp hq2
  refine w_X2_allWorths_L4_4 X K n1 _ _ _ hn1 G (lv_sub hl [2, 1, 0] rfl) (fun y4 u3 ee H locs ls G hl => ?_) (fun r u1 ee => by obtain ⟨rfl, rfl⟩ := pair_at (ha _ ee); rfl)
  have h := hb1 _ ee
  clear ee ha hb1 hq2 hn1
  have h := nm_at (x := y4) rfl h
  have h := nm_at (x := u3) rfl h
  refine lv_iload_n hx hb dX2_allWorths_33 rfl (lv_at hl 0 rfl) ?_
  obtain ⟨rfl, rfl⟩ := pair_at h
  exact reI X G dX2_allWorths_34
noncomputable def f_X2_swap (a1 : Int32) (a2 : Int32) (u0 : XS) : Option (Int32 × XS) :=
  if a1 < 0 ∨ 5 ≤ a1.toNatClampNeg then none else
  nmv ((h_sequence (xH u0)) a1.toNatClampNeg) fun x2 =>
  if a2 < 0 ∨ 5 ≤ a2.toNatClampNeg then none else
  nmv ((h_sequence (xH u0)) a2.toNatClampNeg) fun x4 =>
  if a1 < 0 ∨ 5 ≤ a1.toNatClampNeg then none else
  nmv (sH u0 (hu_sequence (xH u0) (upd (h_sequence (xH u0)) a1.toNatClampNeg x4))) fun u6 =>
  if a2 < 0 ∨ 5 ≤ a2.toNatClampNeg then none else
  nmv (sH u6 (hu_sequence (xH u6) (upd (h_sequence (xH u6)) a2.toNatClampNeg x2))) fun u8 =>
  some ((0 : Int32), u8)
set_option maxRecDepth 100000 in
set_option maxHeartbeats 4000000 in
theorem c_X2_swap {a1 : Int32} {a2 : Int32} {u0 : XS} {r : Int32} {u' : XS} (h : f_X2_swap a1 a2 u0 = some (r, u')) : MV l D cI cZ cQ adK adV A yX2_swap cX2_swap 4 { frames := 0, cells := 0, slots := 0, locals := 0 } [.ref (ad 26), .int a1, .int a2] (wX cI cZ cQ ad) u0 u' := by
  unfold f_X2_swap at h
  refine entV (by decide) (Nat.le_of_ble_eq_true rfl) (fun p e s m below meth c ls X K G hl => ?_)
  have hl : lv_has ls 4 [(0, .ref (ad 26)), (1, .int a1), (2, .int a2)] := hl
  obtain ⟨hx, hb, -⟩ := id X
  generalize hH : s.heap = H at G
  subst hH
  refine lv_aload_n hx hb dX2_swap_0 rfl (lv_at hl 0 rfl) ?_
  refine gX_26_7 X K G q_206 dX2_swap_1 ?_
  refine lv_iload_n hx hb dX2_swap_4 rfl (lv_at hl 1 rfl) ?_
  obtain ⟨g1, h⟩ := ck_at h
  refine lX_31 X K G g1 dX2_swap_5 ?_
  refine lv_topi (fun x2 ex2 => ?_)
  have h := nm_at ex2 h
  refine lv_istore_n (lv' := [(3, .int x2), (0, .ref (ad 26)), (1, .int a1), (2, .int a2)]) hx hb dX2_swap_6 rfl hl (by decide) rfl (fun ls hl => ?_)
  refine lv_aload_n hx hb dX2_swap_7 rfl (lv_at hl 1 rfl) ?_
  refine gX_26_7 X K G q_206 dX2_swap_8 ?_
  refine lv_iload_n hx hb dX2_swap_11 rfl (lv_at hl 2 rfl) ?_
  refine lv_aload_n hx hb dX2_swap_12 rfl (lv_at hl 1 rfl) ?_
  refine gX_26_7 X K G q_206 dX2_swap_13 ?_
  refine lv_iload_n hx hb dX2_swap_16 rfl (lv_at hl 3 rfl) ?_
  obtain ⟨g3, h⟩ := ck_at h
  refine lX_31 X K G g3 dX2_swap_17 ?_
  refine lv_topi (fun x4 ex4 => ?_)
  have h := nm_at ex4 h
  obtain ⟨g5, h⟩ := ck_at h
  refine aX_31 X K G g5 dX2_swap_18 (fun H locs G => ?_)
  obtain ⟨u6, eu6⟩ : ∃ z : XS, z = sH u0 (hu_sequence (xH u0) (upd (h_sequence (xH u0)) a1.toNatClampNeg x4)) := ⟨_, rfl⟩
  have G : wg D A s.heap H locs (wX cI cZ cQ ad u6) := by rw [eu6]; exact G
  have h := nm_at eu6 h
  clear eu6
  refine lv_aload_n hx hb dX2_swap_19 rfl (lv_at hl 1 rfl) ?_
  refine gX_26_7 X K G q_206 dX2_swap_20 ?_
  refine lv_iload_n hx hb dX2_swap_23 rfl (lv_at hl 3 rfl) ?_
  refine lv_iload_n hx hb dX2_swap_24 rfl (lv_at hl 0 rfl) ?_
  obtain ⟨g7, h⟩ := ck_at h
  refine aX_31 X K G g7 dX2_swap_25 (fun H locs G => ?_)
  obtain ⟨u8, eu8⟩ : ∃ z : XS, z = sH u6 (hu_sequence (xH u6) (upd (h_sequence (xH u6)) a2.toNatClampNeg x2)) := ⟨_, rfl⟩
  have G : wg D A s.heap H locs (wX cI cZ cQ ad u8) := by rw [eu8]; exact G
  have h := nm_at eu8 h
  clear eu8
  obtain ⟨rfl, rfl⟩ := pair_at h
  exact reV X G dX2_swap_26
noncomputable def f_X2_goToNextSequence_L10_10 (v1 : Int32) (u0 : XS) : Option ((Int32 × XS) ⊕ ((Int32 × XS) ⊕ (Int32 × XS))) :=
  (if v1 < 0 then
    some (.inr (.inr (v1, u0)))
  else
    if v1 < 0 ∨ 5 ≤ v1.toNatClampNeg then none else
    nmv (v1 + (1 : Int32)) fun x3 =>
    if x3 < 0 ∨ 5 ≤ x3.toNatClampNeg then none else
    (if ((h_sequence (xH u0)) v1.toNatClampNeg) ≤ ((h_sequence (xH u0)) x3.toNatClampNeg) then
      some (.inr (.inr (v1, u0)))
    else
      nmv (v1 + (-1 : Int32)) fun x6 =>
      some (.inl (x6, u0))))
set_option maxRecDepth 100000 in
set_option maxHeartbeats 4000000 in
theorem b_X2_goToNextSequence_L10_10 (X : cx p s m args meth c cX2_goToNextSequence 5 RX2 (some .boolean)) (K : kx D cI cZ cQ adK adV A s s.heap) {v1 : Int32} {u0 : XS} (G : wg D A s.heap H locs (wX cI cZ cQ ad u0)) (hl : lv_has ls 5 [(0, .ref (ad 26)), (1, .int v1)]) {q : ((Int32 × XS) ⊕ ((Int32 × XS) ⊕ (Int32 × XS)))} (h : f_X2_goToNextSequence_L10_10 v1 u0 = some q) (hB : ∀ (v1 : Int32) (u : XS), q = .inl (v1, u) → ∀ (H : Heap) (locs : List Loc) (ls : Array Slot), wg D A s.heap H locs (wX cI cZ cQ ad u) → lv_has ls 5 [(0, .ref (ad 26)), (1, .int v1)] → W p l e { frames := 1, cells := 0, slots := 0, locals := 23 } s m args below meth c H locs 0 0 Q (F0 m 10 ls [])) (hX : ∀ (v1 : Int32) (u : XS), q = .inr (.inr (v1, u)) → ∀ (H : Heap) (locs : List Loc) (ls : Array Slot), wg D A s.heap H locs (wX cI cZ cQ ad u) → lv_has ls 5 [(0, .ref (ad 26)), (1, .int v1)] → W p l e { frames := 1, cells := 0, slots := 0, locals := 23 } s m args below meth c H locs 0 0 Q (F0 m 37 ls [])) (hR : ∀ (r : Int32) (u : XS), q = .inr (.inl (r, u)) → Q = (qI D A (wX cI cZ cQ ad) below args s r u)) : W p l e { frames := 1, cells := 0, slots := 0, locals := 23 } s m args below meth c H locs 0 0 Q (F0 m 10 ls []) := by
  unfold f_X2_goToNextSequence_L10_10 at h
  obtain ⟨hx, hb, -⟩ := id X
  refine lv_iload_n hx hb dX2_goToNextSequence_10 rfl (lv_at hl 1 rfl) ?_
  refine lv_if_lt (tgt := 37) hx hb dX2_goToNextSequence_11 (by decide) (fun c1 => ?_) (fun c1 => ?_)
  · have h := it_at c1 h
    exact hX _ _ (Option.some.inj h).symm _ _ _ G (lv_sub hl [0, 1] rfl)
  · have h := if_at c1 h
    refine lv_aload_n hx hb dX2_goToNextSequence_14 rfl (lv_at hl 0 rfl) ?_
    refine gX_26_7 X K G q_206 dX2_goToNextSequence_15 ?_
    refine lv_iload_n hx hb dX2_goToNextSequence_18 rfl (lv_at hl 1 rfl) ?_
    obtain ⟨g2, h⟩ := ck_at h
    refine lX_31 X K G g2 dX2_goToNextSequence_19 ?_
    refine lv_aload_n hx hb dX2_goToNextSequence_20 rfl (lv_at hl 0 rfl) ?_
    refine gX_26_7 X K G q_206 dX2_goToNextSequence_21 ?_
    refine lv_iload_n hx hb dX2_goToNextSequence_24 rfl (lv_at hl 1 rfl) ?_
    refine lv_iconst (v := 1) hx hb dX2_goToNextSequence_25 (by decide) ?_
    refine lv_iadd hx hb dX2_goToNextSequence_26 ?_
    refine lv_topi (fun x3 ex3 => ?_)
    have h := nm_at ex3 h
    obtain ⟨g4, h⟩ := ck_at h
    refine lX_31 X K G g4 dX2_goToNextSequence_27 ?_
    refine lv_icmp_le (tgt := 37) hx hb dX2_goToNextSequence_28 (by decide) (fun c5 => ?_) (fun c5 => ?_)
    · have h := it_at c5 h
      exact hX _ _ (Option.some.inj h).symm _ _ _ G (lv_sub hl [0, 1] rfl)
    · have h := if_at c5 h
      obtain ⟨x6, ex6⟩ : ∃ z : Int32, z = v1 + (-1 : Int32) := ⟨_, rfl⟩
      have h := nm_at ex6 h
      refine lv_iinc (v := x6) (lv' := [(1, .int x6), (0, .ref (ad 26))]) hx hb dX2_goToNextSequence_31 hl (k := 1) rfl (by rw [ex6]; rfl) (by decide) rfl (fun ls hl => ?_)
      refine lv_goto (tgt := 10) hx hb dX2_goToNextSequence_34 (by decide) ?_
      exact hB _ _ (Option.some.inj h).symm _ _ _ G (lv_sub hl [1, 0] rfl)
noncomputable def f_X2_goToNextSequence_L10_10s (q : Int32 × XS) : Option ((Int32 × XS) ⊕ ((Int32 × XS) ⊕ (Int32 × XS))) := f_X2_goToNextSequence_L10_10 q.1 q.2
set_option maxRecDepth 100000 in
set_option maxHeartbeats 4000000 in
theorem w_X2_goToNextSequence_L10_10 (X : cx p s m args meth c cX2_goToNextSequence 5 RX2 (some .boolean)) (K : kx D cI cZ cQ adK adV A s s.heap) {e0 : (Int32 × XS) ⊕ (Int32 × XS)} : ∀ (n : Nat) (v1 : Int32) (u : XS) {H : Heap} {locs : List Loc} {ls : Array Slot}, wh f_X2_goToNextSequence_L10_10s n (v1, u) = some e0 → wg D A s.heap H locs (wX cI cZ cQ ad u) → lv_has ls 5 [(0, .ref (ad 26)), (1, .int v1)] → (∀ (v1 : Int32) (u : XS), e0 = .inr (v1, u) → ∀ (H : Heap) (locs : List Loc) (ls : Array Slot), wg D A s.heap H locs (wX cI cZ cQ ad u) → lv_has ls 5 [(0, .ref (ad 26)), (1, .int v1)] → W p l e { frames := 1, cells := 0, slots := 0, locals := 23 } s m args below meth c H locs 0 0 Q (F0 m 37 ls [])) → (∀ (r : Int32) (u : XS), e0 = .inl (r, u) → Q = (qI D A (wX cI cZ cQ ad) below args s r u)) → W p l e { frames := 1, cells := 0, slots := 0, locals := 23 } s m args below meth c H locs 0 0 Q (F0 m 10 ls []) := by
  intro n
  induction n with
  | zero => intro v1 u H locs ls h; cases h
  | succ n ih =>
    intro v1 u H locs ls h G hl hX hR
    obtain ⟨q, h1, h2, h3⟩ := wh_at h
    exact b_X2_goToNextSequence_L10_10 X K G hl (show f_X2_goToNextSequence_L10_10 v1 u = some q from h1) (fun b0 b1 ee H locs ls G hl => ih b0 b1 (h2 _ ee) G hl hX hR) (fun z0 z1 ee => hX z0 z1 (h3 _ ee).symm) (fun r u ee => hR r u (h3 _ ee).symm)
noncomputable def f_X2_goToNextSequence_L53_53 (v1 : Int32) (v2 : Int32) (u0 : XS) : Option ((Int32 × Int32 × XS) ⊕ ((Int32 × XS) ⊕ (Int32 × Int32 × XS))) :=
  (if v2 ≤ v1 then
    some (.inr (.inr (v1, v2, u0)))
  else
    if v2 < 0 ∨ 5 ≤ v2.toNatClampNeg then none else
    if v1 < 0 ∨ 5 ≤ v1.toNatClampNeg then none else
    (if ((h_sequence (xH u0)) v1.toNatClampNeg) ≤ ((h_sequence (xH u0)) v2.toNatClampNeg) then
      some (.inr (.inr (v1, v2, u0)))
    else
      nmv (v2 + (-1 : Int32)) fun x5 =>
      some (.inl (v1, x5, u0))))
set_option maxRecDepth 100000 in
set_option maxHeartbeats 4000000 in
theorem b_X2_goToNextSequence_L53_53 (X : cx p s m args meth c cX2_goToNextSequence 5 RX2 (some .boolean)) (K : kx D cI cZ cQ adK adV A s s.heap) {v1 : Int32} {v2 : Int32} {u0 : XS} (G : wg D A s.heap H locs (wX cI cZ cQ ad u0)) (hl : lv_has ls 5 [(0, .ref (ad 26)), (1, .int v1), (2, .int v2)]) {q : ((Int32 × Int32 × XS) ⊕ ((Int32 × XS) ⊕ (Int32 × Int32 × XS)))} (h : f_X2_goToNextSequence_L53_53 v1 v2 u0 = some q) (hB : ∀ (v1 : Int32) (v2 : Int32) (u : XS), q = .inl (v1, v2, u) → ∀ (H : Heap) (locs : List Loc) (ls : Array Slot), wg D A s.heap H locs (wX cI cZ cQ ad u) → lv_has ls 5 [(0, .ref (ad 26)), (1, .int v1), (2, .int v2)] → W p l e { frames := 1, cells := 0, slots := 0, locals := 23 } s m args below meth c H locs 0 0 Q (F0 m 53 ls [])) (hX : ∀ (v1 : Int32) (v2 : Int32) (u : XS), q = .inr (.inr (v1, v2, u)) → ∀ (H : Heap) (locs : List Loc) (ls : Array Slot), wg D A s.heap H locs (wX cI cZ cQ ad u) → lv_has ls 5 [(0, .ref (ad 26)), (1, .int v1), (2, .int v2)] → W p l e { frames := 1, cells := 0, slots := 0, locals := 23 } s m args below meth c H locs 0 0 Q (F0 m 79 ls [])) (hR : ∀ (r : Int32) (u : XS), q = .inr (.inl (r, u)) → Q = (qI D A (wX cI cZ cQ ad) below args s r u)) : W p l e { frames := 1, cells := 0, slots := 0, locals := 23 } s m args below meth c H locs 0 0 Q (F0 m 53 ls []) := by
  unfold f_X2_goToNextSequence_L53_53 at h
  obtain ⟨hx, hb, -⟩ := id X
  refine lv_iload_n hx hb dX2_goToNextSequence_53 rfl (lv_at hl 2 rfl) ?_
  refine lv_iload_n hx hb dX2_goToNextSequence_54 rfl (lv_at hl 1 rfl) ?_
  refine lv_icmp_le (tgt := 79) hx hb dX2_goToNextSequence_55 (by decide) (fun c1 => ?_) (fun c1 => ?_)
  · have h := it_at c1 h
    exact hX _ _ _ (Option.some.inj h).symm _ _ _ G (lv_sub hl [0, 1, 2] rfl)
  · have h := if_at c1 h
    refine lv_aload_n hx hb dX2_goToNextSequence_58 rfl (lv_at hl 0 rfl) ?_
    refine gX_26_7 X K G q_206 dX2_goToNextSequence_59 ?_
    refine lv_iload_n hx hb dX2_goToNextSequence_62 rfl (lv_at hl 2 rfl) ?_
    obtain ⟨g2, h⟩ := ck_at h
    refine lX_31 X K G g2 dX2_goToNextSequence_63 ?_
    refine lv_aload_n hx hb dX2_goToNextSequence_64 rfl (lv_at hl 0 rfl) ?_
    refine gX_26_7 X K G q_206 dX2_goToNextSequence_65 ?_
    refine lv_iload_n hx hb dX2_goToNextSequence_68 rfl (lv_at hl 1 rfl) ?_
    obtain ⟨g3, h⟩ := ck_at h
    refine lX_31 X K G g3 dX2_goToNextSequence_69 ?_
    refine lv_icmp_ge (tgt := 79) hx hb dX2_goToNextSequence_70 (by decide) (fun c4 => ?_) (fun c4 => ?_)
    · have h := it_at c4 h
      exact hX _ _ _ (Option.some.inj h).symm _ _ _ G (lv_sub hl [0, 1, 2] rfl)
    · have h := if_at c4 h
      obtain ⟨x5, ex5⟩ : ∃ z : Int32, z = v2 + (-1 : Int32) := ⟨_, rfl⟩
      have h := nm_at ex5 h
      refine lv_iinc (v := x5) (lv' := [(2, .int x5), (0, .ref (ad 26)), (1, .int v1)]) hx hb dX2_goToNextSequence_73 hl (k := 2) rfl (by rw [ex5]; rfl) (by decide) rfl (fun ls hl => ?_)
      refine lv_goto (tgt := 53) hx hb dX2_goToNextSequence_76 (by decide) ?_
      exact hB _ _ _ (Option.some.inj h).symm _ _ _ G (lv_sub hl [1, 2, 0] rfl)
noncomputable def f_X2_goToNextSequence_L53_53s (q : Int32 × Int32 × XS) : Option ((Int32 × Int32 × XS) ⊕ ((Int32 × XS) ⊕ (Int32 × Int32 × XS))) := f_X2_goToNextSequence_L53_53 q.1 q.2.1 q.2.2
set_option maxRecDepth 100000 in
set_option maxHeartbeats 4000000 in
theorem w_X2_goToNextSequence_L53_53 (X : cx p s m args meth c cX2_goToNextSequence 5 RX2 (some .boolean)) (K : kx D cI cZ cQ adK adV A s s.heap) {e0 : (Int32 × XS) ⊕ (Int32 × Int32 × XS)} : ∀ (n : Nat) (v1 : Int32) (v2 : Int32) (u : XS) {H : Heap} {locs : List Loc} {ls : Array Slot}, wh f_X2_goToNextSequence_L53_53s n (v1, v2, u) = some e0 → wg D A s.heap H locs (wX cI cZ cQ ad u) → lv_has ls 5 [(0, .ref (ad 26)), (1, .int v1), (2, .int v2)] → (∀ (v1 : Int32) (v2 : Int32) (u : XS), e0 = .inr (v1, v2, u) → ∀ (H : Heap) (locs : List Loc) (ls : Array Slot), wg D A s.heap H locs (wX cI cZ cQ ad u) → lv_has ls 5 [(0, .ref (ad 26)), (1, .int v1), (2, .int v2)] → W p l e { frames := 1, cells := 0, slots := 0, locals := 23 } s m args below meth c H locs 0 0 Q (F0 m 79 ls [])) → (∀ (r : Int32) (u : XS), e0 = .inl (r, u) → Q = (qI D A (wX cI cZ cQ ad) below args s r u)) → W p l e { frames := 1, cells := 0, slots := 0, locals := 23 } s m args below meth c H locs 0 0 Q (F0 m 53 ls []) := by
  intro n
  induction n with
  | zero => intro v1 v2 u H locs ls h; cases h
  | succ n ih =>
    intro v1 v2 u H locs ls h G hl hX hR
    obtain ⟨q, h1, h2, h3⟩ := wh_at h
    exact b_X2_goToNextSequence_L53_53 X K G hl (show f_X2_goToNextSequence_L53_53 v1 v2 u = some q from h1) (fun b0 b1 b2 ee H locs ls G hl => ih b0 b1 b2 (h2 _ ee) G hl hX hR) (fun z0 z1 z2 ee => hX z0 z1 z2 (h3 _ ee).symm) (fun r u ee => hR r u (h3 _ ee).symm)
noncomputable def f_X2_goToNextSequence_L100_100 (v3 : Int32) (v4 : Int32) (u0 : XS) : Option ((Int32 × Int32 × XS) ⊕ ((Int32 × XS) ⊕ (XS))) :=
  (if v4 ≤ v3 then
    some (.inr (.inr u0))
  else
    bnd (f_X2_swap v3 v4 u0) fun r2 u3 =>
    nmv (v3 + (1 : Int32)) fun x4 =>
    nmv (v4 + (-1 : Int32)) fun x5 =>
    some (.inl (x4, x5, u3)))
set_option maxRecDepth 100000 in
set_option maxHeartbeats 4000000 in
theorem b_X2_goToNextSequence_L100_100 (X : cx p s m args meth c cX2_goToNextSequence 5 RX2 (some .boolean)) (K : kx D cI cZ cQ adK adV A s s.heap) {v3 : Int32} {v4 : Int32} {u0 : XS} (G : wg D A s.heap H locs (wX cI cZ cQ ad u0)) (hl : lv_has ls 5 [(0, .ref (ad 26)), (3, .int v3), (4, .int v4)]) {q : ((Int32 × Int32 × XS) ⊕ ((Int32 × XS) ⊕ (XS)))} (h : f_X2_goToNextSequence_L100_100 v3 v4 u0 = some q) (hB : ∀ (v3 : Int32) (v4 : Int32) (u : XS), q = .inl (v3, v4, u) → ∀ (H : Heap) (locs : List Loc) (ls : Array Slot), wg D A s.heap H locs (wX cI cZ cQ ad u) → lv_has ls 5 [(0, .ref (ad 26)), (3, .int v3), (4, .int v4)] → W p l e { frames := 1, cells := 0, slots := 0, locals := 23 } s m args below meth c H locs 0 0 Q (F0 m 100 ls [])) (hX : ∀ (u : XS), q = .inr (.inr u) → ∀ (H : Heap) (locs : List Loc) (ls : Array Slot), wg D A s.heap H locs (wX cI cZ cQ ad u) → lv_has ls 5 [] → W p l e { frames := 1, cells := 0, slots := 0, locals := 23 } s m args below meth c H locs 0 0 Q (F0 m 122 ls [])) (hR : ∀ (r : Int32) (u : XS), q = .inr (.inl (r, u)) → Q = (qI D A (wX cI cZ cQ ad) below args s r u)) : W p l e { frames := 1, cells := 0, slots := 0, locals := 23 } s m args below meth c H locs 0 0 Q (F0 m 100 ls []) := by
  unfold f_X2_goToNextSequence_L100_100 at h
  obtain ⟨hx, hb, -⟩ := id X
  refine lv_iload_n hx hb dX2_goToNextSequence_100 rfl (lv_at hl 1 rfl) ?_
  refine lv_iload hx hb dX2_goToNextSequence_101 (lv_at hl 2 rfl) ?_
  refine lv_icmp_ge (tgt := 122) hx hb dX2_goToNextSequence_103 (by decide) (fun c1 => ?_) (fun c1 => ?_)
  · have h := it_at c1 h
    exact hX _ (Option.some.inj h).symm _ _ _ G (lv_sub hl [] rfl)
  · have h := if_at c1 h
    refine lv_aload_n hx hb dX2_goToNextSequence_106 rfl (lv_at hl 0 rfl) ?_
    refine lv_iload_n hx hb dX2_goToNextSequence_107 rfl (lv_at hl 1 rfl) ?_
    refine lv_iload hx hb dX2_goToNextSequence_108 (lv_at hl 2 rfl) ?_
    obtain ⟨r2, u3, er2, h⟩ := bnd_at h
    refine cvV (rest := []) X K G (c_X2_swap er2) q_750 my_X2_swap ⟨rfl, rfl⟩ ⟨Nat.le_of_ble_eq_true rfl, Nat.le_of_ble_eq_true rfl⟩ ⟨Nat.zero_le _, Nat.zero_le _⟩ 26 2 rfl rfl rfl rfl hl.1 rfl (Nat.le_of_ble_eq_true rfl) dX2_goToNextSequence_110 (fun H locs G => ?_)
    clear er2
    obtain ⟨x4, ex4⟩ : ∃ z : Int32, z = v3 + (1 : Int32) := ⟨_, rfl⟩
    have h := nm_at ex4 h
    refine lv_iinc (v := x4) (lv' := [(3, .int x4), (0, .ref (ad 26)), (4, .int v4)]) hx hb dX2_goToNextSequence_113 hl (k := 1) rfl (by rw [ex4]; rfl) (by decide) rfl (fun ls hl => ?_)
    obtain ⟨x5, ex5⟩ : ∃ z : Int32, z = v4 + (-1 : Int32) := ⟨_, rfl⟩
    have h := nm_at ex5 h
    refine lv_iinc (v := x5) (lv' := [(4, .int x5), (3, .int x4), (0, .ref (ad 26))]) hx hb dX2_goToNextSequence_116 hl (k := 2) rfl (by rw [ex5]; rfl) (by decide) rfl (fun ls hl => ?_)
    refine lv_goto (tgt := 100) hx hb dX2_goToNextSequence_119 (by decide) ?_
    exact hB _ _ _ (Option.some.inj h).symm _ _ _ G (lv_sub hl [2, 1, 0] rfl)
noncomputable def f_X2_goToNextSequence_L100_100s (q : Int32 × Int32 × XS) : Option ((Int32 × Int32 × XS) ⊕ ((Int32 × XS) ⊕ (XS))) := f_X2_goToNextSequence_L100_100 q.1 q.2.1 q.2.2
set_option maxRecDepth 100000 in
set_option maxHeartbeats 4000000 in
theorem w_X2_goToNextSequence_L100_100 (X : cx p s m args meth c cX2_goToNextSequence 5 RX2 (some .boolean)) (K : kx D cI cZ cQ adK adV A s s.heap) {e0 : (Int32 × XS) ⊕ (XS)} : ∀ (n : Nat) (v3 : Int32) (v4 : Int32) (u : XS) {H : Heap} {locs : List Loc} {ls : Array Slot}, wh f_X2_goToNextSequence_L100_100s n (v3, v4, u) = some e0 → wg D A s.heap H locs (wX cI cZ cQ ad u) → lv_has ls 5 [(0, .ref (ad 26)), (3, .int v3), (4, .int v4)] → (∀ (u : XS), e0 = .inr u → ∀ (H : Heap) (locs : List Loc) (ls : Array Slot), wg D A s.heap H locs (wX cI cZ cQ ad u) → lv_has ls 5 [] → W p l e { frames := 1, cells := 0, slots := 0, locals := 23 } s m args below meth c H locs 0 0 Q (F0 m 122 ls [])) → (∀ (r : Int32) (u : XS), e0 = .inl (r, u) → Q = (qI D A (wX cI cZ cQ ad) below args s r u)) → W p l e { frames := 1, cells := 0, slots := 0, locals := 23 } s m args below meth c H locs 0 0 Q (F0 m 100 ls []) := by
  intro n
  induction n with
  | zero => intro v3 v4 u H locs ls h; cases h
  | succ n ih =>
    intro v3 v4 u H locs ls h G hl hX hR
    obtain ⟨q, h1, h2, h3⟩ := wh_at h
    exact b_X2_goToNextSequence_L100_100 X K G hl (show f_X2_goToNextSequence_L100_100 v3 v4 u = some q from h1) (fun b0 b1 b2 ee H locs ls G hl => ih b0 b1 b2 (h2 _ ee) G hl hX hR) (fun z0 ee => hX z0 (h3 _ ee).symm) (fun r u ee => hR r u (h3 _ ee).symm)
noncomputable def f_X2_goToNextSequence_79 (v1 : Int32) (v2 : Int32) (u0 : XS) : Option (Int32 × XS) :=
  bnd (f_X2_swap v1 v2 u0) fun r1 u2 =>
  nmv (v1 + (1 : Int32)) fun x3 =>
  nmv ((tOrders (xT u2)) - (1 : Int32)) fun x4 =>
  bne (wl f_X2_goToNextSequence_L100_100s (x3, x4, u2)) (fun a => some a) fun b =>
    nmv b fun u7 =>
    some ((1 : Int32), u7)
set_option maxRecDepth 100000 in
set_option maxHeartbeats 4000000 in
theorem b_X2_goToNextSequence_79 (X : cx p s m args meth c cX2_goToNextSequence 5 RX2 (some .boolean)) (K : kx D cI cZ cQ adK adV A s s.heap) {v1 : Int32} {v2 : Int32} {u0 : XS} (G : wg D A s.heap H locs (wX cI cZ cQ ad u0)) (hl : lv_has ls 5 [(0, .ref (ad 26)), (1, .int v1), (2, .int v2)]) {r : Int32} {u' : XS} (h : f_X2_goToNextSequence_79 v1 v2 u0 = some (r, u')) : W p l e { frames := 1, cells := 0, slots := 0, locals := 23 } s m args below meth c H locs 0 0 (qI D A (wX cI cZ cQ ad) below args s r u') (F0 m 79 ls []) := by
  unfold f_X2_goToNextSequence_79 at h
  obtain ⟨hx, hb, -⟩ := id X
  refine lv_aload_n hx hb dX2_goToNextSequence_79 rfl (lv_at hl 0 rfl) ?_
  refine lv_iload_n hx hb dX2_goToNextSequence_80 rfl (lv_at hl 1 rfl) ?_
  refine lv_iload_n hx hb dX2_goToNextSequence_81 rfl (lv_at hl 2 rfl) ?_
  obtain ⟨r1, u2, er1, h⟩ := bnd_at h
  refine cvV (rest := []) X K G (c_X2_swap er1) q_750 my_X2_swap ⟨rfl, rfl⟩ ⟨Nat.le_of_ble_eq_true rfl, Nat.le_of_ble_eq_true rfl⟩ ⟨Nat.zero_le _, Nat.zero_le _⟩ 26 2 rfl rfl rfl rfl hl.1 rfl (Nat.le_of_ble_eq_true rfl) dX2_goToNextSequence_82 (fun H locs G => ?_)
  clear er1
  refine lv_iload_n hx hb dX2_goToNextSequence_85 rfl (lv_at hl 1 rfl) ?_
  refine lv_iconst (v := 1) hx hb dX2_goToNextSequence_86 (by decide) ?_
  refine lv_iadd hx hb dX2_goToNextSequence_87 ?_
  refine lv_topi (fun x3 ex3 => ?_)
  have h := nm_at ex3 h
  refine lv_istore_n (lv' := [(3, .int x3), (0, .ref (ad 26)), (1, .int v1), (2, .int v2)]) hx hb dX2_goToNextSequence_88 rfl hl (by decide) rfl (fun ls hl => ?_)
  refine lv_aload_n hx hb dX2_goToNextSequence_89 rfl (lv_at hl 1 rfl) ?_
  refine gX_26_0 X K G q_199 dX2_goToNextSequence_90 ?_
  refine gX_1_5 X K G q_119 dX2_goToNextSequence_93 ?_
  refine lv_iconst (v := 1) hx hb dX2_goToNextSequence_96 (by decide) ?_
  refine lv_isub hx hb dX2_goToNextSequence_97 ?_
  refine lv_topi (fun x4 ex4 => ?_)
  have h := nm_at ex4 h
  refine lv_istore (lv' := [(4, .int x4), (3, .int x3), (0, .ref (ad 26)), (1, .int v1), (2, .int v2)]) hx hb dX2_goToNextSequence_98 hl (by decide) rfl (fun ls hl => ?_)
  obtain ⟨q6, hq6, ha, hb1⟩ := bne_at h
  obtain ⟨n5, hn5⟩ := wl_iff.mp hq6
  refine w_X2_goToNextSequence_L100_100 X K n5 _ _ _ hn5 G (lv_sub hl [2, 1, 0] rfl) (fun  u7 ee H locs ls G hl => ?_) (fun r u1 ee => by obtain ⟨rfl, rfl⟩ := pair_at (ha _ ee); rfl)
  have h := hb1 _ ee
  clear ee ha hb1 hq6 hn5
  have h := nm_at (x := u7) rfl h
  refine lv_iconst (v := 1) hx hb dX2_goToNextSequence_122 (by decide) ?_
  obtain ⟨rfl, rfl⟩ := pair_at h
  exact reZ X G (Or.inr rfl) dX2_goToNextSequence_123
noncomputable def f_X2_goToNextSequence_37 (v1 : Int32) (u0 : XS) : Option (Int32 × XS) :=
  (if 0 ≤ v1 then
    nmv ((tOrders (xT u0)) - (1 : Int32)) fun x2 =>
    bne (wl f_X2_goToNextSequence_L53_53s (v1, x2, u0)) (fun a => some a) fun b =>
      nmv b.1 fun y6 =>
      nmv b.2.1 fun y7 =>
      nmv b.2.2 fun u5 =>
      f_X2_goToNextSequence_79 y6 y7 u5
  else
    some ((0 : Int32), u0))
set_option maxRecDepth 100000 in
set_option maxHeartbeats 4000000 in
theorem b_X2_goToNextSequence_37 (X : cx p s m args meth c cX2_goToNextSequence 5 RX2 (some .boolean)) (K : kx D cI cZ cQ adK adV A s s.heap) {v1 : Int32} {u0 : XS} (G : wg D A s.heap H locs (wX cI cZ cQ ad u0)) (hl : lv_has ls 5 [(0, .ref (ad 26)), (1, .int v1)]) {r : Int32} {u' : XS} (h : f_X2_goToNextSequence_37 v1 u0 = some (r, u')) : W p l e { frames := 1, cells := 0, slots := 0, locals := 23 } s m args below meth c H locs 0 0 (qI D A (wX cI cZ cQ ad) below args s r u') (F0 m 37 ls []) := by
  unfold f_X2_goToNextSequence_37 at h
  obtain ⟨hx, hb, -⟩ := id X
  refine lv_iload_n hx hb dX2_goToNextSequence_37 rfl (lv_at hl 1 rfl) ?_
  refine lv_if_ge (tgt := 43) hx hb dX2_goToNextSequence_38 (by decide) (fun c1 => ?_) (fun c1 => ?_)
  · have h := it_at c1 h
    refine lv_aload_n hx hb dX2_goToNextSequence_43 rfl (lv_at hl 0 rfl) ?_
    refine gX_26_0 X K G q_199 dX2_goToNextSequence_44 ?_
    refine gX_1_5 X K G q_119 dX2_goToNextSequence_47 ?_
    refine lv_iconst (v := 1) hx hb dX2_goToNextSequence_50 (by decide) ?_
    refine lv_isub hx hb dX2_goToNextSequence_51 ?_
    refine lv_topi (fun x2 ex2 => ?_)
    have h := nm_at ex2 h
    refine lv_istore_n (lv' := [(2, .int x2), (0, .ref (ad 26)), (1, .int v1)]) hx hb dX2_goToNextSequence_52 rfl hl (by decide) rfl (fun ls hl => ?_)
    obtain ⟨q4, hq4, ha, hb1⟩ := bne_at h
    obtain ⟨n3, hn3⟩ := wl_iff.mp hq4
    refine w_X2_goToNextSequence_L53_53 X K n3 _ _ _ hn3 G (lv_sub hl [1, 2, 0] rfl) (fun y6 y7 u5 ee H locs ls G hl => ?_) (fun r u1 ee => by obtain ⟨rfl, rfl⟩ := pair_at (ha _ ee); rfl)
    have h := hb1 _ ee
    clear ee ha hb1 hq4 hn3
    have h := nm_at (x := y6) rfl h
    have h := nm_at (x := y7) rfl h
    have h := nm_at (x := u5) rfl h
    exact b_X2_goToNextSequence_79 X K G (lv_sub hl [0, 1, 2] rfl) h
  · have h := if_at c1 h
    refine lv_iconst (v := 0) hx hb dX2_goToNextSequence_41 (by decide) ?_
    obtain ⟨rfl, rfl⟩ := pair_at h
    exact reZ X G (Or.inl rfl) dX2_goToNextSequence_42
noncomputable def f_X2_goToNextSequence (u0 : XS) : Option (Int32 × XS) :=
  nmv ((tOrders (xT u0)) - (2 : Int32)) fun x1 =>
  bne (wl f_X2_goToNextSequence_L10_10s (x1, u0)) (fun a => some a) fun b =>
    nmv b.1 fun y5 =>
    nmv b.2 fun u4 =>
    f_X2_goToNextSequence_37 y5 u4
set_option maxRecDepth 100000 in
set_option maxHeartbeats 4000000 in
theorem c_X2_goToNextSequence {u0 : XS} {r : Int32} {u' : XS} (h : f_X2_goToNextSequence  u0 = some (r, u')) : MI l D cI cZ cQ adK adV A yX2_goToNextSequence cX2_goToNextSequence 5 (some .boolean) { frames := 1, cells := 0, slots := 0, locals := 23 } [.ref (ad 26)] (wX cI cZ cQ ad) u0 r u' := by
  unfold f_X2_goToNextSequence at h
  refine entI (by decide) (Nat.le_of_ble_eq_true rfl) (fun p e s m below meth c ls X K G hl => ?_)
  have hl : lv_has ls 5 [(0, .ref (ad 26))] := hl
  obtain ⟨hx, hb, -⟩ := id X
  generalize hH : s.heap = H at G
  subst hH
  refine lv_aload_n hx hb dX2_goToNextSequence_0 rfl (lv_at hl 0 rfl) ?_
  refine gX_26_0 X K G q_199 dX2_goToNextSequence_1 ?_
  refine gX_1_5 X K G q_119 dX2_goToNextSequence_4 ?_
  refine lv_iconst (v := 2) hx hb dX2_goToNextSequence_7 (by decide) ?_
  refine lv_isub hx hb dX2_goToNextSequence_8 ?_
  refine lv_topi (fun x1 ex1 => ?_)
  have h := nm_at ex1 h
  refine lv_istore_n (lv' := [(1, .int x1), (0, .ref (ad 26))]) hx hb dX2_goToNextSequence_9 rfl hl (by decide) rfl (fun ls hl => ?_)
  obtain ⟨q3, hq3, ha, hb1⟩ := bne_at h
  obtain ⟨n2, hn2⟩ := wl_iff.mp hq3
  refine w_X2_goToNextSequence_L10_10 X K n2 _ _ hn2 G (lv_sub hl [1, 0] rfl) (fun y5 u4 ee H locs ls G hl => ?_) (fun r u1 ee => by obtain ⟨rfl, rfl⟩ := pair_at (ha _ ee); rfl)
  have h := hb1 _ ee
  clear ee ha hb1 hq3 hn2
  have h := nm_at (x := y5) rfl h
  have h := nm_at (x := u4) rfl h
  exact b_X2_goToNextSequence_37 X K G (lv_sub hl [0, 1] rfl) h
noncomputable def f_X2_sequenceDigits_L4_4 (v1 : Int32) (v2 : Int32) (u0 : XS) : Option ((Int32 × Int32 × XS) ⊕ ((Int32 × XS) ⊕ (Int32 × XS))) :=
  (if (tOrders (xT u0)) ≤ v2 then
    some (.inr (.inr (v1, u0)))
  else
    if v2 < 0 ∨ 5 ≤ v2.toNatClampNeg then none else
    nmv ((v1 * (10 : Int32)) + ((h_sequence (xH u0)) v2.toNatClampNeg)) fun x3 =>
    nmv (v2 + (1 : Int32)) fun x4 =>
    some (.inl (x3, x4, u0)))
set_option maxRecDepth 100000 in
set_option maxHeartbeats 4000000 in
theorem b_X2_sequenceDigits_L4_4 (X : cx p s m args meth c cX2_sequenceDigits 3 RX2 (some .int)) (K : kx D cI cZ cQ adK adV A s s.heap) {v1 : Int32} {v2 : Int32} {u0 : XS} (G : wg D A s.heap H locs (wX cI cZ cQ ad u0)) (hl : lv_has ls 3 [(0, .ref (ad 26)), (1, .int v1), (2, .int v2)]) {q : ((Int32 × Int32 × XS) ⊕ ((Int32 × XS) ⊕ (Int32 × XS)))} (h : f_X2_sequenceDigits_L4_4 v1 v2 u0 = some q) (hB : ∀ (v1 : Int32) (v2 : Int32) (u : XS), q = .inl (v1, v2, u) → ∀ (H : Heap) (locs : List Loc) (ls : Array Slot), wg D A s.heap H locs (wX cI cZ cQ ad u) → lv_has ls 3 [(0, .ref (ad 26)), (1, .int v1), (2, .int v2)] → W p l e { frames := 0, cells := 0, slots := 0, locals := 0 } s m args below meth c H locs 0 0 Q (F0 m 4 ls [])) (hX : ∀ (v1 : Int32) (u : XS), q = .inr (.inr (v1, u)) → ∀ (H : Heap) (locs : List Loc) (ls : Array Slot), wg D A s.heap H locs (wX cI cZ cQ ad u) → lv_has ls 3 [(1, .int v1)] → W p l e { frames := 0, cells := 0, slots := 0, locals := 0 } s m args below meth c H locs 0 0 Q (F0 m 33 ls [])) (hR : ∀ (r : Int32) (u : XS), q = .inr (.inl (r, u)) → Q = (qI D A (wX cI cZ cQ ad) below args s r u)) : W p l e { frames := 0, cells := 0, slots := 0, locals := 0 } s m args below meth c H locs 0 0 Q (F0 m 4 ls []) := by
  unfold f_X2_sequenceDigits_L4_4 at h
  obtain ⟨hx, hb, -⟩ := id X
  refine lv_iload_n hx hb dX2_sequenceDigits_4 rfl (lv_at hl 2 rfl) ?_
  refine lv_aload_n hx hb dX2_sequenceDigits_5 rfl (lv_at hl 0 rfl) ?_
  refine gX_26_0 X K G q_199 dX2_sequenceDigits_6 ?_
  refine gX_1_5 X K G q_119 dX2_sequenceDigits_9 ?_
  refine lv_icmp_ge (tgt := 33) hx hb dX2_sequenceDigits_12 (by decide) (fun c1 => ?_) (fun c1 => ?_)
  · have h := it_at c1 h
    exact hX _ _ (Option.some.inj h).symm _ _ _ G (lv_sub hl [1] rfl)
  · have h := if_at c1 h
    refine lv_iload_n hx hb dX2_sequenceDigits_15 rfl (lv_at hl 1 rfl) ?_
    refine lv_bipush (v := 10) hx hb dX2_sequenceDigits_16 (by decide) ?_
    refine lv_imul hx hb dX2_sequenceDigits_18 ?_
    refine lv_aload_n hx hb dX2_sequenceDigits_19 rfl (lv_at hl 0 rfl) ?_
    refine gX_26_7 X K G q_206 dX2_sequenceDigits_20 ?_
    refine lv_iload_n hx hb dX2_sequenceDigits_23 rfl (lv_at hl 2 rfl) ?_
    obtain ⟨g2, h⟩ := ck_at h
    refine lX_31 X K G g2 dX2_sequenceDigits_24 ?_
    refine lv_iadd hx hb dX2_sequenceDigits_25 ?_
    refine lv_topi (fun x3 ex3 => ?_)
    have h := nm_at ex3 h
    refine lv_istore_n (lv' := [(1, .int x3), (0, .ref (ad 26)), (2, .int v2)]) hx hb dX2_sequenceDigits_26 rfl hl (by decide) rfl (fun ls hl => ?_)
    obtain ⟨x4, ex4⟩ : ∃ z : Int32, z = v2 + (1 : Int32) := ⟨_, rfl⟩
    have h := nm_at ex4 h
    refine lv_iinc (v := x4) (lv' := [(2, .int x4), (1, .int x3), (0, .ref (ad 26))]) hx hb dX2_sequenceDigits_27 hl (k := 2) rfl (by rw [ex4]; rfl) (by decide) rfl (fun ls hl => ?_)
    refine lv_goto (tgt := 4) hx hb dX2_sequenceDigits_30 (by decide) ?_
    exact hB _ _ _ (Option.some.inj h).symm _ _ _ G (lv_sub hl [2, 1, 0] rfl)
noncomputable def f_X2_sequenceDigits_L4_4s (q : Int32 × Int32 × XS) : Option ((Int32 × Int32 × XS) ⊕ ((Int32 × XS) ⊕ (Int32 × XS))) := f_X2_sequenceDigits_L4_4 q.1 q.2.1 q.2.2
set_option maxRecDepth 100000 in
set_option maxHeartbeats 4000000 in
theorem w_X2_sequenceDigits_L4_4 (X : cx p s m args meth c cX2_sequenceDigits 3 RX2 (some .int)) (K : kx D cI cZ cQ adK adV A s s.heap) {e0 : (Int32 × XS) ⊕ (Int32 × XS)} : ∀ (n : Nat) (v1 : Int32) (v2 : Int32) (u : XS) {H : Heap} {locs : List Loc} {ls : Array Slot}, wh f_X2_sequenceDigits_L4_4s n (v1, v2, u) = some e0 → wg D A s.heap H locs (wX cI cZ cQ ad u) → lv_has ls 3 [(0, .ref (ad 26)), (1, .int v1), (2, .int v2)] → (∀ (v1 : Int32) (u : XS), e0 = .inr (v1, u) → ∀ (H : Heap) (locs : List Loc) (ls : Array Slot), wg D A s.heap H locs (wX cI cZ cQ ad u) → lv_has ls 3 [(1, .int v1)] → W p l e { frames := 0, cells := 0, slots := 0, locals := 0 } s m args below meth c H locs 0 0 Q (F0 m 33 ls [])) → (∀ (r : Int32) (u : XS), e0 = .inl (r, u) → Q = (qI D A (wX cI cZ cQ ad) below args s r u)) → W p l e { frames := 0, cells := 0, slots := 0, locals := 0 } s m args below meth c H locs 0 0 Q (F0 m 4 ls []) := by
  intro n
  induction n with
  | zero => intro v1 v2 u H locs ls h; cases h
  | succ n ih =>
    intro v1 v2 u H locs ls h G hl hX hR
    obtain ⟨q, h1, h2, h3⟩ := wh_at h
    exact b_X2_sequenceDigits_L4_4 X K G hl (show f_X2_sequenceDigits_L4_4 v1 v2 u = some q from h1) (fun b0 b1 b2 ee H locs ls G hl => ih b0 b1 b2 (h2 _ ee) G hl hX hR) (fun z0 z1 ee => hX z0 z1 (h3 _ ee).symm) (fun r u ee => hR r u (h3 _ ee).symm)
noncomputable def f_X2_sequenceDigits (u0 : XS) : Option (Int32 × XS) :=
  bne (wl f_X2_sequenceDigits_L4_4s ((0 : Int32), (0 : Int32), u0)) (fun a => some a) fun b =>
    nmv b.1 fun y4 =>
    nmv b.2 fun u3 =>
    some (y4, u3)
set_option maxRecDepth 100000 in
set_option maxHeartbeats 4000000 in
theorem c_X2_sequenceDigits {u0 : XS} {r : Int32} {u' : XS} (h : f_X2_sequenceDigits  u0 = some (r, u')) : MI l D cI cZ cQ adK adV A yX2_sequenceDigits cX2_sequenceDigits 3 (some .int) { frames := 0, cells := 0, slots := 0, locals := 0 } [.ref (ad 26)] (wX cI cZ cQ ad) u0 r u' := by
  unfold f_X2_sequenceDigits at h
  refine entI (by decide) (Nat.le_of_ble_eq_true rfl) (fun p e s m below meth c ls X K G hl => ?_)
  have hl : lv_has ls 3 [(0, .ref (ad 26))] := hl
  obtain ⟨hx, hb, -⟩ := id X
  generalize hH : s.heap = H at G
  subst hH
  refine lv_iconst (v := 0) hx hb dX2_sequenceDigits_0 (by decide) ?_
  refine lv_istore_n (lv' := [(1, .int (0 : Int32)), (0, .ref (ad 26))]) hx hb dX2_sequenceDigits_1 rfl hl (by decide) rfl (fun ls hl => ?_)
  refine lv_iconst (v := 0) hx hb dX2_sequenceDigits_2 (by decide) ?_
  refine lv_istore_n (lv' := [(2, .int (0 : Int32)), (1, .int (0 : Int32)), (0, .ref (ad 26))]) hx hb dX2_sequenceDigits_3 rfl hl (by decide) rfl (fun ls hl => ?_)
  obtain ⟨q2, hq2, ha, hb1⟩ := bne_at h
  obtain ⟨n1, hn1⟩ := wl_iff.mp hq2
  refine w_X2_sequenceDigits_L4_4 X K n1 _ _ _ hn1 G (lv_sub hl [2, 1, 0] rfl) (fun y4 u3 ee H locs ls G hl => ?_) (fun r u1 ee => by obtain ⟨rfl, rfl⟩ := pair_at (ha _ ee); rfl)
  have h := hb1 _ ee
  clear ee ha hb1 hq2 hn1
  have h := nm_at (x := y4) rfl h
  have h := nm_at (x := u3) rfl h
  refine lv_iload_n hx hb dX2_sequenceDigits_33 rfl (lv_at hl 0 rfl) ?_
  obtain ⟨rfl, rfl⟩ := pair_at h
  exact reI X G dX2_sequenceDigits_34
noncomputable def f_X2_findBest_L2_2 (v1 : Int32) (u0 : XS) : Option ((Int32 × XS) ⊕ ((Int32 × XS) ⊕ (XS))) :=
  (if (tOrders (xT u0)) ≤ v1 then
    some (.inr (.inr u0))
  else
    if v1 < 0 ∨ 5 ≤ v1.toNatClampNeg then none else
    nmv (sH u0 (hu_sequence (xH u0) (upd (h_sequence (xH u0)) v1.toNatClampNeg v1))) fun u3 =>
    nmv (v1 + (1 : Int32)) fun x4 =>
    some (.inl (x4, u3)))
set_option maxRecDepth 100000 in
set_option maxHeartbeats 4000000 in
theorem b_X2_findBest_L2_2 (X : cx p s m args meth c cX2_findBest 3 RX2 none) (K : kx D cI cZ cQ adK adV A s s.heap) {v1 : Int32} {u0 : XS} (G : wg D A s.heap H locs (wX cI cZ cQ ad u0)) (hl : lv_has ls 3 [(0, .ref (ad 26)), (1, .int v1)]) {q : ((Int32 × XS) ⊕ ((Int32 × XS) ⊕ (XS)))} (h : f_X2_findBest_L2_2 v1 u0 = some q) (hB : ∀ (v1 : Int32) (u : XS), q = .inl (v1, u) → ∀ (H : Heap) (locs : List Loc) (ls : Array Slot), wg D A s.heap H locs (wX cI cZ cQ ad u) → lv_has ls 3 [(0, .ref (ad 26)), (1, .int v1)] → W p l e { frames := 5, cells := 0, slots := 0, locals := 126 } s m args below meth c H locs 0 0 Q (F0 m 2 ls [])) (hX : ∀ (u : XS), q = .inr (.inr u) → ∀ (H : Heap) (locs : List Loc) (ls : Array Slot), wg D A s.heap H locs (wX cI cZ cQ ad u) → lv_has ls 3 [(0, .ref (ad 26))] → W p l e { frames := 5, cells := 0, slots := 0, locals := 126 } s m args below meth c H locs 0 0 Q (F0 m 26 ls [])) (hR : ∀ (r : Int32) (u : XS), q = .inr (.inl (r, u)) → Q = (qV D A (wX cI cZ cQ ad) below args s u)) : W p l e { frames := 5, cells := 0, slots := 0, locals := 126 } s m args below meth c H locs 0 0 Q (F0 m 2 ls []) := by
  unfold f_X2_findBest_L2_2 at h
  obtain ⟨hx, hb, -⟩ := id X
  refine lv_iload_n hx hb dX2_findBest_2 rfl (lv_at hl 1 rfl) ?_
  refine lv_aload_n hx hb dX2_findBest_3 rfl (lv_at hl 0 rfl) ?_
  refine gX_26_0 X K G q_199 dX2_findBest_4 ?_
  refine gX_1_5 X K G q_119 dX2_findBest_7 ?_
  refine lv_icmp_ge (tgt := 26) hx hb dX2_findBest_10 (by decide) (fun c1 => ?_) (fun c1 => ?_)
  · have h := it_at c1 h
    exact hX _ (Option.some.inj h).symm _ _ _ G (lv_sub hl [0] rfl)
  · have h := if_at c1 h
    refine lv_aload_n hx hb dX2_findBest_13 rfl (lv_at hl 0 rfl) ?_
    refine gX_26_7 X K G q_206 dX2_findBest_14 ?_
    refine lv_iload_n hx hb dX2_findBest_17 rfl (lv_at hl 1 rfl) ?_
    refine lv_iload_n hx hb dX2_findBest_18 rfl (lv_at hl 1 rfl) ?_
    obtain ⟨g2, h⟩ := ck_at h
    refine aX_31 X K G g2 dX2_findBest_19 (fun H locs G => ?_)
    obtain ⟨u3, eu3⟩ : ∃ z : XS, z = sH u0 (hu_sequence (xH u0) (upd (h_sequence (xH u0)) v1.toNatClampNeg v1)) := ⟨_, rfl⟩
    have G : wg D A s.heap H locs (wX cI cZ cQ ad u3) := by rw [eu3]; exact G
    have h := nm_at eu3 h
    clear eu3
    obtain ⟨x4, ex4⟩ : ∃ z : Int32, z = v1 + (1 : Int32) := ⟨_, rfl⟩
    have h := nm_at ex4 h
    refine lv_iinc (v := x4) (lv' := [(1, .int x4), (0, .ref (ad 26))]) hx hb dX2_findBest_20 hl (k := 1) rfl (by rw [ex4]; rfl) (by decide) rfl (fun ls hl => ?_)
    refine lv_goto (tgt := 2) hx hb dX2_findBest_23 (by decide) ?_
    exact hB _ _ (Option.some.inj h).symm _ _ _ G (lv_sub hl [1, 0] rfl)
noncomputable def f_X2_findBest_L2_2s (q : Int32 × XS) : Option ((Int32 × XS) ⊕ ((Int32 × XS) ⊕ (XS))) := f_X2_findBest_L2_2 q.1 q.2
set_option maxRecDepth 100000 in
set_option maxHeartbeats 4000000 in
theorem w_X2_findBest_L2_2 (X : cx p s m args meth c cX2_findBest 3 RX2 none) (K : kx D cI cZ cQ adK adV A s s.heap) {e0 : (Int32 × XS) ⊕ (XS)} : ∀ (n : Nat) (v1 : Int32) (u : XS) {H : Heap} {locs : List Loc} {ls : Array Slot}, wh f_X2_findBest_L2_2s n (v1, u) = some e0 → wg D A s.heap H locs (wX cI cZ cQ ad u) → lv_has ls 3 [(0, .ref (ad 26)), (1, .int v1)] → (∀ (u : XS), e0 = .inr u → ∀ (H : Heap) (locs : List Loc) (ls : Array Slot), wg D A s.heap H locs (wX cI cZ cQ ad u) → lv_has ls 3 [(0, .ref (ad 26))] → W p l e { frames := 5, cells := 0, slots := 0, locals := 126 } s m args below meth c H locs 0 0 Q (F0 m 26 ls [])) → (∀ (r : Int32) (u : XS), e0 = .inl (r, u) → Q = (qV D A (wX cI cZ cQ ad) below args s u)) → W p l e { frames := 5, cells := 0, slots := 0, locals := 126 } s m args below meth c H locs 0 0 Q (F0 m 2 ls []) := by
  intro n
  induction n with
  | zero => intro v1 u H locs ls h; cases h
  | succ n ih =>
    intro v1 u H locs ls h G hl hX hR
    obtain ⟨q, h1, h2, h3⟩ := wh_at h
    exact b_X2_findBest_L2_2 X K G hl (show f_X2_findBest_L2_2 v1 u = some q from h1) (fun b0 b1 ee H locs ls G hl => ih b0 b1 (h2 _ ee) G hl hX hR) (fun z0 ee => hX z0 (h3 _ ee).symm) (fun r u ee => hR r u (h3 _ ee).symm)
noncomputable def f_X2_findBest_L38_90 (v1 : Int32) (v2 : Int32) (u0 : XS) : Option ((Int32 × Int32 × XS) ⊕ ((Int32 × XS) ⊕ (XS))) :=
  (if (h_bestWorth (xH u0)) = v1 then
    some (.inr (.inr u0))
  else
    bnd (f_X2_goToNextSequence  u0) fun r2 u3 =>
    (if r2 = 0 then
      some (.inr (.inr u3))
    else
      nmv (v2 + (1 : Int32)) fun x5 =>
      some (.inl (v1, x5, u3))))
set_option maxRecDepth 100000 in
set_option maxHeartbeats 4000000 in
theorem b_X2_findBest_L38_90 (X : cx p s m args meth c cX2_findBest 3 RX2 none) (K : kx D cI cZ cQ adK adV A s s.heap) {v1 : Int32} {v2 : Int32} {u0 : XS} (G : wg D A s.heap H locs (wX cI cZ cQ ad u0)) (hl : lv_has ls 3 [(0, .ref (ad 26)), (1, .int v1), (2, .int v2)]) {q : ((Int32 × Int32 × XS) ⊕ ((Int32 × XS) ⊕ (XS)))} (h : f_X2_findBest_L38_90 v1 v2 u0 = some q) (hB : ∀ (v1 : Int32) (v2 : Int32) (u : XS), q = .inl (v1, v2, u) → ∀ (H : Heap) (locs : List Loc) (ls : Array Slot), wg D A s.heap H locs (wX cI cZ cQ ad u) → lv_has ls 3 [(0, .ref (ad 26)), (1, .int v1), (2, .int v2)] → W p l e { frames := 5, cells := 0, slots := 0, locals := 126 } s m args below meth c H locs 0 0 Q (F0 m 38 ls [])) (hX : ∀ (u : XS), q = .inr (.inr u) → ∀ (H : Heap) (locs : List Loc) (ls : Array Slot), wg D A s.heap H locs (wX cI cZ cQ ad u) → lv_has ls 3 [] → W p l e { frames := 5, cells := 0, slots := 0, locals := 126 } s m args below meth c H locs 0 0 Q (F0 m 114 ls [])) (hR : ∀ (r : Int32) (u : XS), q = .inr (.inl (r, u)) → Q = (qV D A (wX cI cZ cQ ad) below args s u)) : W p l e { frames := 5, cells := 0, slots := 0, locals := 126 } s m args below meth c H locs 0 0 Q (F0 m 90 ls []) := by
  unfold f_X2_findBest_L38_90 at h
  obtain ⟨hx, hb, -⟩ := id X
  refine lv_aload_n hx hb dX2_findBest_90 rfl (lv_at hl 0 rfl) ?_
  refine gX_26_12 X K G q_215 dX2_findBest_91 ?_
  refine lv_iload_n hx hb dX2_findBest_94 rfl (lv_at hl 1 rfl) ?_
  refine lv_icmp_eq (tgt := 114) hx hb dX2_findBest_95 (by decide) (fun c1 => ?_) (fun c1 => ?_)
  · have h := it_at c1 h
    exact hX _ (Option.some.inj h).symm _ _ _ G (lv_sub hl [] rfl)
  · have h := if_at c1 h
    refine lv_aload_n hx hb dX2_findBest_98 rfl (lv_at hl 0 rfl) ?_
    obtain ⟨r2, u3, er2, h⟩ := bnd_at h
    refine cvI (rest := []) X K G (c_X2_goToNextSequence er2) q_746 my_X2_goToNextSequence ⟨rfl, rfl⟩ ⟨Nat.le_of_ble_eq_true rfl, Nat.le_of_ble_eq_true rfl⟩ ⟨Nat.zero_le _, Nat.zero_le _⟩ 26 2 rfl rfl rfl rfl hl.1 rfl (Nat.le_of_ble_eq_true rfl) dX2_findBest_99 (fun H locs G => ?_)
    clear er2
    refine lv_if_ne (tgt := 108) hx hb dX2_findBest_102 (by decide) (fun c4 => ?_) (fun c4 => ?_)
    · have h := if_at c4 h
      obtain ⟨x5, ex5⟩ : ∃ z : Int32, z = v2 + (1 : Int32) := ⟨_, rfl⟩
      have h := nm_at ex5 h
      refine lv_iinc (v := x5) (lv' := [(2, .int x5), (0, .ref (ad 26)), (1, .int v1)]) hx hb dX2_findBest_108 hl (k := 2) rfl (by rw [ex5]; rfl) (by decide) rfl (fun ls hl => ?_)
      refine lv_goto (tgt := 38) hx hb dX2_findBest_111 (by decide) ?_
      exact hB _ _ _ (Option.some.inj h).symm _ _ _ G (lv_sub hl [1, 2, 0] rfl)
    · have h := it_at c4 h
      refine lv_goto (tgt := 114) hx hb dX2_findBest_105 (by decide) ?_
      exact hX _ (Option.some.inj h).symm _ _ _ G (lv_sub hl [] rfl)
noncomputable def f_X2_findBest_L38_38 (v1 : Int32) (v2 : Int32) (u0 : XS) : Option ((Int32 × Int32 × XS) ⊕ ((Int32 × XS) ⊕ (XS))) :=
  (if (120 : Int32) ≤ v2 then
    some (.inr (.inr u0))
  else
    bnd (f_X2_takeInSequence (tOrders (xT u0)) u0) fun r2 u3 =>
    (if (h_worth (xH u3)) ≤ (h_bestWorth (xH u3)) then
      f_X2_findBest_L38_90 v1 v2 u3
    else
      nmv (h_worth (xH u3)) fun x5 =>
      nmv (sH u3 (hu_bestWorth (xH u3) x5)) fun u6 =>
      nmv (h_inTime (xH u6)) fun x7 =>
      nmv (sH u6 (hu_bestInTime (xH u6) x7)) fun u8 =>
      bnd (f_X2_sequenceDigits  u8) fun r9 u10 =>
      nmv (sH u10 (hu_bestDigits (xH u10) r9)) fun u11 =>
      f_X2_findBest_L38_90 v1 v2 u11))
set_option maxRecDepth 100000 in
set_option maxHeartbeats 4000000 in
theorem b_X2_findBest_L38_38 (X : cx p s m args meth c cX2_findBest 3 RX2 none) (K : kx D cI cZ cQ adK adV A s s.heap) {v1 : Int32} {v2 : Int32} {u0 : XS} (G : wg D A s.heap H locs (wX cI cZ cQ ad u0)) (hl : lv_has ls 3 [(0, .ref (ad 26)), (1, .int v1), (2, .int v2)]) {q : ((Int32 × Int32 × XS) ⊕ ((Int32 × XS) ⊕ (XS)))} (h : f_X2_findBest_L38_38 v1 v2 u0 = some q) (hB : ∀ (v1 : Int32) (v2 : Int32) (u : XS), q = .inl (v1, v2, u) → ∀ (H : Heap) (locs : List Loc) (ls : Array Slot), wg D A s.heap H locs (wX cI cZ cQ ad u) → lv_has ls 3 [(0, .ref (ad 26)), (1, .int v1), (2, .int v2)] → W p l e { frames := 5, cells := 0, slots := 0, locals := 126 } s m args below meth c H locs 0 0 Q (F0 m 38 ls [])) (hX : ∀ (u : XS), q = .inr (.inr u) → ∀ (H : Heap) (locs : List Loc) (ls : Array Slot), wg D A s.heap H locs (wX cI cZ cQ ad u) → lv_has ls 3 [] → W p l e { frames := 5, cells := 0, slots := 0, locals := 126 } s m args below meth c H locs 0 0 Q (F0 m 114 ls [])) (hR : ∀ (r : Int32) (u : XS), q = .inr (.inl (r, u)) → Q = (qV D A (wX cI cZ cQ ad) below args s u)) : W p l e { frames := 5, cells := 0, slots := 0, locals := 126 } s m args below meth c H locs 0 0 Q (F0 m 38 ls []) := by
  unfold f_X2_findBest_L38_38 at h
  obtain ⟨hx, hb, -⟩ := id X
  refine lv_iload_n hx hb dX2_findBest_38 rfl (lv_at hl 2 rfl) ?_
  refine lv_bipush (v := 120) hx hb dX2_findBest_39 (by decide) ?_
  refine lv_icmp_ge (tgt := 114) hx hb dX2_findBest_41 (by decide) (fun c1 => ?_) (fun c1 => ?_)
  · have h := it_at c1 h
    exact hX _ (Option.some.inj h).symm _ _ _ G (lv_sub hl [] rfl)
  · have h := if_at c1 h
    refine lv_aload_n hx hb dX2_findBest_44 rfl (lv_at hl 0 rfl) ?_
    refine lv_aload_n hx hb dX2_findBest_45 rfl (lv_at hl 0 rfl) ?_
    refine gX_26_0 X K G q_199 dX2_findBest_46 ?_
    refine gX_1_5 X K G q_119 dX2_findBest_49 ?_
    obtain ⟨r2, u3, er2, h⟩ := bnd_at h
    refine cvV (rest := []) X K G (c_X2_takeInSequence er2) q_741 my_X2_takeInSequence ⟨rfl, rfl⟩ ⟨Nat.le_of_ble_eq_true rfl, Nat.le_of_ble_eq_true rfl⟩ ⟨Nat.zero_le _, Nat.zero_le _⟩ 26 2 rfl rfl rfl rfl hl.1 rfl (Nat.le_of_ble_eq_true rfl) dX2_findBest_52 (fun H locs G => ?_)
    clear er2
    refine lv_aload_n hx hb dX2_findBest_55 rfl (lv_at hl 0 rfl) ?_
    refine gX_26_9 X K G q_209 dX2_findBest_56 ?_
    refine lv_aload_n hx hb dX2_findBest_59 rfl (lv_at hl 0 rfl) ?_
    refine gX_26_12 X K G q_215 dX2_findBest_60 ?_
    refine lv_icmp_le (tgt := 90) hx hb dX2_findBest_63 (by decide) (fun c4 => ?_) (fun c4 => ?_)
    · have h := it_at c4 h
      exact b_X2_findBest_L38_90 X K G (lv_sub hl [0, 1, 2] rfl) h hB hX hR
    · have h := if_at c4 h
      refine lv_aload_n hx hb dX2_findBest_66 rfl (lv_at hl 0 rfl) ?_
      refine lv_aload_n hx hb dX2_findBest_67 rfl (lv_at hl 0 rfl) ?_
      refine gX_26_9 X K G q_209 dX2_findBest_68 ?_
      refine lv_topi (fun x5 ex5 => ?_)
      have h := nm_at ex5 h
      refine pX_26_12 X K G q_215 dX2_findBest_71 (fun H locs G => ?_)
      obtain ⟨u6, eu6⟩ : ∃ z : XS, z = sH u3 (hu_bestWorth (xH u3) x5) := ⟨_, rfl⟩
      have G : wg D A s.heap H locs (wX cI cZ cQ ad u6) := by rw [eu6]; exact G
      have h := nm_at eu6 h
      clear eu6
      refine lv_aload_n hx hb dX2_findBest_74 rfl (lv_at hl 0 rfl) ?_
      refine lv_aload_n hx hb dX2_findBest_75 rfl (lv_at hl 0 rfl) ?_
      refine gX_26_10 X K G q_211 dX2_findBest_76 ?_
      refine lv_topi (fun x7 ex7 => ?_)
      have h := nm_at ex7 h
      refine pX_26_13 X K G q_217 dX2_findBest_79 (fun H locs G => ?_)
      obtain ⟨u8, eu8⟩ : ∃ z : XS, z = sH u6 (hu_bestInTime (xH u6) x7) := ⟨_, rfl⟩
      have G : wg D A s.heap H locs (wX cI cZ cQ ad u8) := by rw [eu8]; exact G
      have h := nm_at eu8 h
      clear eu8
      refine lv_aload_n hx hb dX2_findBest_82 rfl (lv_at hl 0 rfl) ?_
      refine lv_aload_n hx hb dX2_findBest_83 rfl (lv_at hl 0 rfl) ?_
      obtain ⟨r9, u10, er9, h⟩ := bnd_at h
      refine cvI (rest := [.ref (ad 26)]) X K G (c_X2_sequenceDigits er9) q_742 my_X2_sequenceDigits ⟨rfl, rfl⟩ ⟨Nat.le_of_ble_eq_true rfl, Nat.le_of_ble_eq_true rfl⟩ ⟨Nat.zero_le _, Nat.zero_le _⟩ 26 2 rfl rfl rfl rfl hl.1 rfl (Nat.le_of_ble_eq_true rfl) dX2_findBest_84 (fun H locs G => ?_)
      clear er9
      refine pX_26_14 X K G q_219 dX2_findBest_87 (fun H locs G => ?_)
      obtain ⟨u11, eu11⟩ : ∃ z : XS, z = sH u10 (hu_bestDigits (xH u10) r9) := ⟨_, rfl⟩
      have G : wg D A s.heap H locs (wX cI cZ cQ ad u11) := by rw [eu11]; exact G
      have h := nm_at eu11 h
      clear eu11
      exact b_X2_findBest_L38_90 X K G (lv_sub hl [0, 1, 2] rfl) h hB hX hR
noncomputable def f_X2_findBest_L38_38s (q : Int32 × Int32 × XS) : Option ((Int32 × Int32 × XS) ⊕ ((Int32 × XS) ⊕ (XS))) := f_X2_findBest_L38_38 q.1 q.2.1 q.2.2
set_option maxRecDepth 100000 in
set_option maxHeartbeats 4000000 in
theorem w_X2_findBest_L38_38 (X : cx p s m args meth c cX2_findBest 3 RX2 none) (K : kx D cI cZ cQ adK adV A s s.heap) {e0 : (Int32 × XS) ⊕ (XS)} : ∀ (n : Nat) (v1 : Int32) (v2 : Int32) (u : XS) {H : Heap} {locs : List Loc} {ls : Array Slot}, wh f_X2_findBest_L38_38s n (v1, v2, u) = some e0 → wg D A s.heap H locs (wX cI cZ cQ ad u) → lv_has ls 3 [(0, .ref (ad 26)), (1, .int v1), (2, .int v2)] → (∀ (u : XS), e0 = .inr u → ∀ (H : Heap) (locs : List Loc) (ls : Array Slot), wg D A s.heap H locs (wX cI cZ cQ ad u) → lv_has ls 3 [] → W p l e { frames := 5, cells := 0, slots := 0, locals := 126 } s m args below meth c H locs 0 0 Q (F0 m 114 ls [])) → (∀ (r : Int32) (u : XS), e0 = .inl (r, u) → Q = (qV D A (wX cI cZ cQ ad) below args s u)) → W p l e { frames := 5, cells := 0, slots := 0, locals := 126 } s m args below meth c H locs 0 0 Q (F0 m 38 ls []) := by
  intro n
  induction n with
  | zero => intro v1 v2 u H locs ls h; cases h
  | succ n ih =>
    intro v1 v2 u H locs ls h G hl hX hR
    obtain ⟨q, h1, h2, h3⟩ := wh_at h
    exact b_X2_findBest_L38_38 X K G hl (show f_X2_findBest_L38_38 v1 v2 u = some q from h1) (fun b0 b1 b2 ee H locs ls G hl => ih b0 b1 b2 (h2 _ ee) G hl hX hR) (fun z0 ee => hX z0 (h3 _ ee).symm) (fun r u ee => hR r u (h3 _ ee).symm)
noncomputable def f_X2_findBest (u0 : XS) : Option (Int32 × XS) :=
  bne (wl f_X2_findBest_L2_2s ((0 : Int32), u0)) (fun a => some a) fun b =>
    nmv b fun u3 =>
    nmv (sH u3 (hu_bestWorth (xH u3) (-1 : Int32))) fun u4 =>
    bnd (f_X2_allWorths  u4) fun r5 u6 =>
    bne (wl f_X2_findBest_L38_38s (r5, (0 : Int32), u6)) (fun a => some a) fun b =>
      nmv b fun u9 =>
      some ((0 : Int32), u9)
set_option maxRecDepth 100000 in
set_option maxHeartbeats 4000000 in
theorem c_X2_findBest {u0 : XS} {r : Int32} {u' : XS} (h : f_X2_findBest  u0 = some (r, u')) : MV l D cI cZ cQ adK adV A yX2_findBest cX2_findBest 3 { frames := 5, cells := 0, slots := 0, locals := 126 } [.ref (ad 26)] (wX cI cZ cQ ad) u0 u' := by
  unfold f_X2_findBest at h
  refine entV (by decide) (Nat.le_of_ble_eq_true rfl) (fun p e s m below meth c ls X K G hl => ?_)
  have hl : lv_has ls 3 [(0, .ref (ad 26))] := hl
  obtain ⟨hx, hb, -⟩ := id X
  generalize hH : s.heap = H at G
  subst hH
  refine lv_iconst (v := 0) hx hb dX2_findBest_0 (by decide) ?_
  refine lv_istore_n (lv' := [(1, .int (0 : Int32)), (0, .ref (ad 26))]) hx hb dX2_findBest_1 rfl hl (by decide) rfl (fun ls hl => ?_)
  obtain ⟨q2, hq2, ha, hb1⟩ := bne_at h
  obtain ⟨n1, hn1⟩ := wl_iff.mp hq2
  refine w_X2_findBest_L2_2 X K n1 _ _ hn1 G (lv_sub hl [1, 0] rfl) (fun  u3 ee H locs ls G hl => ?_) (fun r u1 ee => by obtain ⟨rfl, rfl⟩ := pair_at (ha _ ee); rfl)
  have h := hb1 _ ee
  clear ee ha hb1 hq2 hn1
  have h := nm_at (x := u3) rfl h
  refine lv_aload_n hx hb dX2_findBest_26 rfl (lv_at hl 0 rfl) ?_
  refine lv_iconst (v := -1) hx hb dX2_findBest_27 (by decide) ?_
  refine pX_26_12 X K G q_215 dX2_findBest_28 (fun H locs G => ?_)
  obtain ⟨u4, eu4⟩ : ∃ z : XS, z = sH u3 (hu_bestWorth (xH u3) (-1 : Int32)) := ⟨_, rfl⟩
  have G : wg D A s.heap H locs (wX cI cZ cQ ad u4) := by rw [eu4]; exact G
  have h := nm_at eu4 h
  clear eu4
  refine lv_aload_n hx hb dX2_findBest_31 rfl (lv_at hl 0 rfl) ?_
  obtain ⟨r5, u6, er5, h⟩ := bnd_at h
  refine cvI (rest := []) X K G (c_X2_allWorths er5) q_737 my_X2_allWorths ⟨rfl, rfl⟩ ⟨Nat.le_of_ble_eq_true rfl, Nat.le_of_ble_eq_true rfl⟩ ⟨Nat.zero_le _, Nat.zero_le _⟩ 26 2 rfl rfl rfl rfl hl.1 rfl (Nat.le_of_ble_eq_true rfl) dX2_findBest_32 (fun H locs G => ?_)
  clear er5
  refine lv_istore_n (lv' := [(1, .int r5), (0, .ref (ad 26))]) hx hb dX2_findBest_35 rfl hl (by decide) rfl (fun ls hl => ?_)
  refine lv_iconst (v := 0) hx hb dX2_findBest_36 (by decide) ?_
  refine lv_istore_n (lv' := [(2, .int (0 : Int32)), (1, .int r5), (0, .ref (ad 26))]) hx hb dX2_findBest_37 rfl hl (by decide) rfl (fun ls hl => ?_)
  obtain ⟨q8, hq8, ha, hb1⟩ := bne_at h
  obtain ⟨n7, hn7⟩ := wl_iff.mp hq8
  refine w_X2_findBest_L38_38 X K n7 _ _ _ hn7 G (lv_sub hl [2, 1, 0] rfl) (fun  u9 ee H locs ls G hl => ?_) (fun r u1 ee => by obtain ⟨rfl, rfl⟩ := pair_at (ha _ ee); rfl)
  have h := hb1 _ ee
  clear ee ha hb1 hq8 hn7
  have h := nm_at (x := u9) rfl h
  obtain ⟨rfl, rfl⟩ := pair_at h
  exact reV X G dX2_findBest_114
noncomputable def f_X6_best (a1 : Int32) (u0 : XS) : Option (Int32 × XS) :=
  bnd (f_X6_within a1 (0 : Int32) (2 : Int32) u0) fun r1 u2 =>
  (if r1 = 0 then
    bnd (f_X6_found (0 : Int32) u2) fun r10 u11 =>
    some (r10, u11)
  else
    bnd (f_X2_plotRuns  u2) fun r4 u5 =>
    bnd (f_X2_findBest  u5) fun r6 u7 =>
    (if a1 = 0 then
      some (h_bestWorth (xH u7), u7)
    else
      (if a1 = (1 : Int32) then
        some (h_bestInTime (xH u7), u7)
      else
        some (h_bestDigits (xH u7), u7))))
set_option maxRecDepth 100000 in
set_option maxHeartbeats 4000000 in
theorem c_X6_best {a1 : Int32} {u0 : XS} {r : Int32} {u' : XS} (h : f_X6_best a1 u0 = some (r, u')) : MI l D cI cZ cQ adK adV A yX6_best cX6_best 2 (some .int) { frames := 6, cells := 0, slots := 0, locals := 148 } [.ref (ad 0), .int a1] (wX cI cZ cQ ad) u0 r u' := by
  unfold f_X6_best at h
  refine entI (by decide) (Nat.le_of_ble_eq_true rfl) (fun p e s m below meth c ls X K G hl => ?_)
  have hl : lv_has ls 2 [(0, .ref (ad 0)), (1, .int a1)] := hl
  obtain ⟨hx, hb, -⟩ := id X
  generalize hH : s.heap = H at G
  subst hH
  refine lv_iload_n hx hb dX6_best_0 rfl (lv_at hl 1 rfl) ?_
  refine lv_iconst (v := 0) hx hb dX6_best_1 (by decide) ?_
  refine lv_iconst (v := 2) hx hb dX6_best_2 (by decide) ?_
  obtain ⟨r1, u2, er1, h⟩ := bnd_at h
  refine csI (rest := []) X K G (c_X6_within er1) q_335 my_X6_within ⟨rfl, rfl⟩ ⟨Nat.le_of_ble_eq_true rfl, Nat.le_of_ble_eq_true rfl⟩ ⟨Nat.zero_le _, Nat.zero_le _⟩ rfl hl.1 rfl (Nat.le_of_ble_eq_true rfl) dX6_best_3 (fun H locs G => ?_)
  clear er1
  refine lv_if_ne (tgt := 15) hx hb dX6_best_6 (by decide) (fun c3 => ?_) (fun c3 => ?_)
  · have h := if_at c3 h
    refine lv_aload_n hx hb dX6_best_15 rfl (lv_at hl 0 rfl) ?_
    refine gX_0_5 X K G q_305 dX6_best_16 ?_
    obtain ⟨r4, u5, er4, h⟩ := bnd_at h
    refine cvV (rest := []) X K G (c_X2_plotRuns er4) q_696 my_X2_plotRuns ⟨rfl, rfl⟩ ⟨Nat.le_of_ble_eq_true rfl, Nat.le_of_ble_eq_true rfl⟩ ⟨Nat.zero_le _, Nat.zero_le _⟩ 26 2 rfl rfl rfl rfl hl.1 rfl (Nat.le_of_ble_eq_true rfl) dX6_best_19 (fun H locs G => ?_)
    clear er4
    refine lv_aload_n hx hb dX6_best_22 rfl (lv_at hl 0 rfl) ?_
    refine gX_0_5 X K G q_305 dX6_best_23 ?_
    obtain ⟨r6, u7, er6, h⟩ := bnd_at h
    refine cvV (rest := []) X K G (c_X2_findBest er6) q_733 my_X2_findBest ⟨rfl, rfl⟩ ⟨Nat.le_of_ble_eq_true rfl, Nat.le_of_ble_eq_true rfl⟩ ⟨Nat.zero_le _, Nat.zero_le _⟩ 26 2 rfl rfl rfl rfl hl.1 rfl (Nat.le_of_ble_eq_true rfl) dX6_best_26 (fun H locs G => ?_)
    clear er6
    refine lv_iload_n hx hb dX6_best_29 rfl (lv_at hl 1 rfl) ?_
    refine lv_if_ne (tgt := 41) hx hb dX6_best_30 (by decide) (fun c8 => ?_) (fun c8 => ?_)
    · have h := if_at c8 h
      refine lv_iload_n hx hb dX6_best_41 rfl (lv_at hl 1 rfl) ?_
      refine lv_iconst (v := 1) hx hb dX6_best_42 (by decide) ?_
      refine lv_icmp_ne (tgt := 56) hx hb dX6_best_43 (by decide) (fun c9 => ?_) (fun c9 => ?_)
      · have h := if_at c9 h
        refine lv_aload_n hx hb dX6_best_56 rfl (lv_at hl 0 rfl) ?_
        refine gX_0_5 X K G q_305 dX6_best_57 ?_
        refine gX_26_14 X K G q_220 dX6_best_60 ?_
        obtain ⟨rfl, rfl⟩ := pair_at h
        exact reI X G dX6_best_63
      · have h := it_at c9 h
        refine lv_aload_n hx hb dX6_best_46 rfl (lv_at hl 0 rfl) ?_
        refine gX_0_5 X K G q_305 dX6_best_47 ?_
        refine gX_26_13 X K G q_218 dX6_best_50 ?_
        refine lv_goto (tgt := 63) hx hb dX6_best_53 (by decide) ?_
        obtain ⟨rfl, rfl⟩ := pair_at h
        exact reI X G dX6_best_63
    · have h := it_at c8 h
      refine lv_aload_n hx hb dX6_best_33 rfl (lv_at hl 0 rfl) ?_
      refine gX_0_5 X K G q_305 dX6_best_34 ?_
      refine gX_26_12 X K G q_216 dX6_best_37 ?_
      obtain ⟨rfl, rfl⟩ := pair_at h
      exact reI X G dX6_best_40
  · have h := it_at c3 h
    refine lv_aload_n hx hb dX6_best_9 rfl (lv_at hl 0 rfl) ?_
    refine lv_iconst (v := 0) hx hb dX6_best_10 (by decide) ?_
    obtain ⟨r10, u11, er10, h⟩ := bnd_at h
    refine cvI (rest := []) X K G (c_X6_found er10) q_338 my_X6_found ⟨rfl, rfl⟩ ⟨Nat.le_of_ble_eq_true rfl, Nat.le_of_ble_eq_true rfl⟩ ⟨Nat.zero_le _, Nat.zero_le _⟩ 0 6 rfl rfl rfl rfl hl.1 rfl (Nat.le_of_ble_eq_true rfl) dX6_best_11 (fun H locs G => ?_)
    clear er10
    obtain ⟨rfl, rfl⟩ := pair_at h
    exact reI X G dX6_best_14
noncomputable def f_X5_hoursWith_L5_5 (v1 : Int32) (v2 : Int32) (v3 : Int32) (v4 : Int32) (u0 : XS) : Option ((Int32 × Int32 × Int32 × Int32 × XS) ⊕ ((Int32 × XS) ⊕ (Int32 × XS))) :=
  if v1 < 0 ∨ 8 ≤ v1.toNatClampNeg then none else
  (if ((tCounts (xT u0)) v1.toNatClampNeg) ≤ v4 then
    some (.inr (.inr (v3, u0)))
  else
    bnd (f_X5_stepNumber v1 v4 (0 : Int32) u0) fun r3 u4 =>
    (if r3 = v2 then
      bnd (f_X5_stepNumber v1 v4 (1 : Int32) u4) fun r7 u8 =>
      nmv (v3 + r7) fun x9 =>
      nmv (v4 + (1 : Int32)) fun x10 =>
      some (.inl (v1, v2, x9, x10, u8))
    else
      nmv (v4 + (1 : Int32)) fun x6 =>
      some (.inl (v1, v2, v3, x6, u4))))
set_option maxRecDepth 100000 in
set_option maxHeartbeats 4000000 in
theorem b_X5_hoursWith_L5_5 (X : cx p s m args meth c cX5_hoursWith 5 RX5 (some .int)) (K : kx D cI cZ cQ adK adV A s s.heap) {v1 : Int32} {v2 : Int32} {v3 : Int32} {v4 : Int32} {u0 : XS} (G : wg D A s.heap H locs (wX cI cZ cQ ad u0)) (hl : lv_has ls 5 [(0, .ref (ad 1)), (1, .int v1), (2, .int v2), (3, .int v3), (4, .int v4)]) {q : ((Int32 × Int32 × Int32 × Int32 × XS) ⊕ ((Int32 × XS) ⊕ (Int32 × XS)))} (h : f_X5_hoursWith_L5_5 v1 v2 v3 v4 u0 = some q) (hB : ∀ (v1 : Int32) (v2 : Int32) (v3 : Int32) (v4 : Int32) (u : XS), q = .inl (v1, v2, v3, v4, u) → ∀ (H : Heap) (locs : List Loc) (ls : Array Slot), wg D A s.heap H locs (wX cI cZ cQ ad u) → lv_has ls 5 [(0, .ref (ad 1)), (1, .int v1), (2, .int v2), (3, .int v3), (4, .int v4)] → W p l e { frames := 1, cells := 0, slots := 0, locals := 23 } s m args below meth c H locs 0 0 Q (F0 m 5 ls [])) (hX : ∀ (v3 : Int32) (u : XS), q = .inr (.inr (v3, u)) → ∀ (H : Heap) (locs : List Loc) (ls : Array Slot), wg D A s.heap H locs (wX cI cZ cQ ad u) → lv_has ls 5 [(3, .int v3)] → W p l e { frames := 1, cells := 0, slots := 0, locals := 23 } s m args below meth c H locs 0 0 Q (F0 m 45 ls [])) (hR : ∀ (r : Int32) (u : XS), q = .inr (.inl (r, u)) → Q = (qI D A (wX cI cZ cQ ad) below args s r u)) : W p l e { frames := 1, cells := 0, slots := 0, locals := 23 } s m args below meth c H locs 0 0 Q (F0 m 5 ls []) := by
  unfold f_X5_hoursWith_L5_5 at h
  obtain ⟨hx, hb, -⟩ := id X
  refine lv_iload hx hb dX5_hoursWith_5 (lv_at hl 4 rfl) ?_
  refine lv_aload_n hx hb dX5_hoursWith_7 rfl (lv_at hl 0 rfl) ?_
  refine gX_1_8 X K G q_128 dX5_hoursWith_8 ?_
  refine lv_iload_n hx hb dX5_hoursWith_11 rfl (lv_at hl 1 rfl) ?_
  obtain ⟨g1, h⟩ := ck_at h
  refine lX_4 X K G g1 dX5_hoursWith_12 ?_
  refine lv_icmp_ge (tgt := 45) hx hb dX5_hoursWith_13 (by decide) (fun c2 => ?_) (fun c2 => ?_)
  · have h := it_at c2 h
    exact hX _ _ (Option.some.inj h).symm _ _ _ G (lv_sub hl [3] rfl)
  · have h := if_at c2 h
    refine lv_aload_n hx hb dX5_hoursWith_16 rfl (lv_at hl 0 rfl) ?_
    refine lv_iload_n hx hb dX5_hoursWith_17 rfl (lv_at hl 1 rfl) ?_
    refine lv_iload hx hb dX5_hoursWith_18 (lv_at hl 4 rfl) ?_
    refine lv_iconst (v := 0) hx hb dX5_hoursWith_20 (by decide) ?_
    obtain ⟨r3, u4, er3, h⟩ := bnd_at h
    refine cvI (rest := []) X K G (c_X5_stepNumber er3) q_766 my_X5_stepNumber ⟨rfl, rfl⟩ ⟨Nat.le_of_ble_eq_true rfl, Nat.le_of_ble_eq_true rfl⟩ ⟨Nat.zero_le _, Nat.zero_le _⟩ 1 5 rfl rfl rfl rfl hl.1 rfl (Nat.le_of_ble_eq_true rfl) dX5_hoursWith_21 (fun H locs G => ?_)
    clear er3
    refine lv_iload_n hx hb dX5_hoursWith_24 rfl (lv_at hl 2 rfl) ?_
    refine lv_icmp_ne (tgt := 39) hx hb dX5_hoursWith_25 (by decide) (fun c5 => ?_) (fun c5 => ?_)
    · have h := if_at c5 h
      obtain ⟨x6, ex6⟩ : ∃ z : Int32, z = v4 + (1 : Int32) := ⟨_, rfl⟩
      have h := nm_at ex6 h
      refine lv_iinc (v := x6) (lv' := [(4, .int x6), (0, .ref (ad 1)), (1, .int v1), (2, .int v2), (3, .int v3)]) hx hb dX5_hoursWith_39 hl (k := 4) rfl (by rw [ex6]; rfl) (by decide) rfl (fun ls hl => ?_)
      refine lv_goto (tgt := 5) hx hb dX5_hoursWith_42 (by decide) ?_
      exact hB _ _ _ _ _ (Option.some.inj h).symm _ _ _ G (lv_sub hl [1, 2, 3, 4, 0] rfl)
    · have h := it_at c5 h
      refine lv_iload_n hx hb dX5_hoursWith_28 rfl (lv_at hl 3 rfl) ?_
      refine lv_aload_n hx hb dX5_hoursWith_29 rfl (lv_at hl 0 rfl) ?_
      refine lv_iload_n hx hb dX5_hoursWith_30 rfl (lv_at hl 1 rfl) ?_
      refine lv_iload hx hb dX5_hoursWith_31 (lv_at hl 4 rfl) ?_
      refine lv_iconst (v := 1) hx hb dX5_hoursWith_33 (by decide) ?_
      obtain ⟨r7, u8, er7, h⟩ := bnd_at h
      refine cvI (rest := [.int v3]) X K G (c_X5_stepNumber er7) q_766 my_X5_stepNumber ⟨rfl, rfl⟩ ⟨Nat.le_of_ble_eq_true rfl, Nat.le_of_ble_eq_true rfl⟩ ⟨Nat.zero_le _, Nat.zero_le _⟩ 1 5 rfl rfl rfl rfl hl.1 rfl (Nat.le_of_ble_eq_true rfl) dX5_hoursWith_34 (fun H locs G => ?_)
      clear er7
      refine lv_iadd hx hb dX5_hoursWith_37 ?_
      refine lv_topi (fun x9 ex9 => ?_)
      have h := nm_at ex9 h
      refine lv_istore_n (lv' := [(3, .int x9), (0, .ref (ad 1)), (1, .int v1), (2, .int v2), (4, .int v4)]) hx hb dX5_hoursWith_38 rfl hl (by decide) rfl (fun ls hl => ?_)
      obtain ⟨x10, ex10⟩ : ∃ z : Int32, z = v4 + (1 : Int32) := ⟨_, rfl⟩
      have h := nm_at ex10 h
      refine lv_iinc (v := x10) (lv' := [(4, .int x10), (3, .int x9), (0, .ref (ad 1)), (1, .int v1), (2, .int v2)]) hx hb dX5_hoursWith_39 hl (k := 4) rfl (by rw [ex10]; rfl) (by decide) rfl (fun ls hl => ?_)
      refine lv_goto (tgt := 5) hx hb dX5_hoursWith_42 (by decide) ?_
      exact hB _ _ _ _ _ (Option.some.inj h).symm _ _ _ G (lv_sub hl [2, 3, 4, 1, 0] rfl)
noncomputable def f_X5_hoursWith_L5_5s (q : Int32 × Int32 × Int32 × Int32 × XS) : Option ((Int32 × Int32 × Int32 × Int32 × XS) ⊕ ((Int32 × XS) ⊕ (Int32 × XS))) := f_X5_hoursWith_L5_5 q.1 q.2.1 q.2.2.1 q.2.2.2.1 q.2.2.2.2
set_option maxRecDepth 100000 in
set_option maxHeartbeats 4000000 in
theorem w_X5_hoursWith_L5_5 (X : cx p s m args meth c cX5_hoursWith 5 RX5 (some .int)) (K : kx D cI cZ cQ adK adV A s s.heap) {e0 : (Int32 × XS) ⊕ (Int32 × XS)} : ∀ (n : Nat) (v1 : Int32) (v2 : Int32) (v3 : Int32) (v4 : Int32) (u : XS) {H : Heap} {locs : List Loc} {ls : Array Slot}, wh f_X5_hoursWith_L5_5s n (v1, v2, v3, v4, u) = some e0 → wg D A s.heap H locs (wX cI cZ cQ ad u) → lv_has ls 5 [(0, .ref (ad 1)), (1, .int v1), (2, .int v2), (3, .int v3), (4, .int v4)] → (∀ (v3 : Int32) (u : XS), e0 = .inr (v3, u) → ∀ (H : Heap) (locs : List Loc) (ls : Array Slot), wg D A s.heap H locs (wX cI cZ cQ ad u) → lv_has ls 5 [(3, .int v3)] → W p l e { frames := 1, cells := 0, slots := 0, locals := 23 } s m args below meth c H locs 0 0 Q (F0 m 45 ls [])) → (∀ (r : Int32) (u : XS), e0 = .inl (r, u) → Q = (qI D A (wX cI cZ cQ ad) below args s r u)) → W p l e { frames := 1, cells := 0, slots := 0, locals := 23 } s m args below meth c H locs 0 0 Q (F0 m 5 ls []) := by
  intro n
  induction n with
  | zero => intro v1 v2 v3 v4 u H locs ls h; cases h
  | succ n ih =>
    intro v1 v2 v3 v4 u H locs ls h G hl hX hR
    obtain ⟨q, h1, h2, h3⟩ := wh_at h
    exact b_X5_hoursWith_L5_5 X K G hl (show f_X5_hoursWith_L5_5 v1 v2 v3 v4 u = some q from h1) (fun b0 b1 b2 b3 b4 ee H locs ls G hl => ih b0 b1 b2 b3 b4 (h2 _ ee) G hl hX hR) (fun z0 z1 ee => hX z0 z1 (h3 _ ee).symm) (fun r u ee => hR r u (h3 _ ee).symm)
noncomputable def f_X5_hoursWith (a1 : Int32) (a2 : Int32) (u0 : XS) : Option (Int32 × XS) :=
  bne (wl f_X5_hoursWith_L5_5s (a1, a2, (0 : Int32), (0 : Int32), u0)) (fun a => some a) fun b =>
    nmv b.1 fun y4 =>
    nmv b.2 fun u3 =>
    some (y4, u3)
set_option maxRecDepth 100000 in
set_option maxHeartbeats 4000000 in
theorem c_X5_hoursWith {a1 : Int32} {a2 : Int32} {u0 : XS} {r : Int32} {u' : XS} (h : f_X5_hoursWith a1 a2 u0 = some (r, u')) : MI l D cI cZ cQ adK adV A yX5_hoursWith cX5_hoursWith 5 (some .int) { frames := 1, cells := 0, slots := 0, locals := 23 } [.ref (ad 1), .int a1, .int a2] (wX cI cZ cQ ad) u0 r u' := by
  unfold f_X5_hoursWith at h
  refine entI (by decide) (Nat.le_of_ble_eq_true rfl) (fun p e s m below meth c ls X K G hl => ?_)
  have hl : lv_has ls 5 [(0, .ref (ad 1)), (1, .int a1), (2, .int a2)] := hl
  obtain ⟨hx, hb, -⟩ := id X
  generalize hH : s.heap = H at G
  subst hH
  refine lv_iconst (v := 0) hx hb dX5_hoursWith_0 (by decide) ?_
  refine lv_istore_n (lv' := [(3, .int (0 : Int32)), (0, .ref (ad 1)), (1, .int a1), (2, .int a2)]) hx hb dX5_hoursWith_1 rfl hl (by decide) rfl (fun ls hl => ?_)
  refine lv_iconst (v := 0) hx hb dX5_hoursWith_2 (by decide) ?_
  refine lv_istore (lv' := [(4, .int (0 : Int32)), (3, .int (0 : Int32)), (0, .ref (ad 1)), (1, .int a1), (2, .int a2)]) hx hb dX5_hoursWith_3 hl (by decide) rfl (fun ls hl => ?_)
  obtain ⟨q2, hq2, ha, hb1⟩ := bne_at h
  obtain ⟨n1, hn1⟩ := wl_iff.mp hq2
  refine w_X5_hoursWith_L5_5 X K n1 _ _ _ _ _ hn1 G (lv_sub hl [2, 3, 4, 1, 0] rfl) (fun y4 u3 ee H locs ls G hl => ?_) (fun r u1 ee => by obtain ⟨rfl, rfl⟩ := pair_at (ha _ ee); rfl)
  have h := hb1 _ ee
  clear ee ha hb1 hq2 hn1
  have h := nm_at (x := y4) rfl h
  have h := nm_at (x := u3) rfl h
  refine lv_iload_n hx hb dX5_hoursWith_45 rfl (lv_at hl 0 rfl) ?_
  obtain ⟨rfl, rfl⟩ := pair_at h
  exact reI X G dX5_hoursWith_46
noncomputable def f_X5_wholeRound (u0 : XS) : Option (Int32 × XS) :=
  some (((1 : Int32) <<< ((tRound (xT u0)) &&& 31)) - (1 : Int32), u0)
set_option maxRecDepth 100000 in
set_option maxHeartbeats 4000000 in
theorem c_X5_wholeRound {u0 : XS} {r : Int32} {u' : XS} (h : f_X5_wholeRound  u0 = some (r, u')) : MI l D cI cZ cQ adK adV A yX5_wholeRound cX5_wholeRound 1 (some .int) { frames := 0, cells := 0, slots := 0, locals := 0 } [.ref (ad 1)] (wX cI cZ cQ ad) u0 r u' := by
  unfold f_X5_wholeRound at h
  refine entI (by decide) (Nat.le_of_ble_eq_true rfl) (fun p e s m below meth c ls X K G hl => ?_)
  have hl : lv_has ls 1 [(0, .ref (ad 1))] := hl
  obtain ⟨hx, hb, -⟩ := id X
  generalize hH : s.heap = H at G
  subst hH
  refine lv_iconst (v := 1) hx hb dX5_wholeRound_0 (by decide) ?_
  refine lv_aload_n hx hb dX5_wholeRound_1 rfl (lv_at hl 0 rfl) ?_
  refine gX_1_0 X K G q_101 dX5_wholeRound_2 ?_
  refine lv_ishl hx hb dX5_wholeRound_5 ?_
  refine lv_iconst (v := 1) hx hb dX5_wholeRound_6 (by decide) ?_
  refine lv_isub hx hb dX5_wholeRound_7 ?_
  obtain ⟨rfl, rfl⟩ := pair_at h
  exact reI X G dX5_wholeRound_8
noncomputable def f_J6_bitCount_0f7a4 (a0 : Int32) (u0 : XS) : Option (Int32 × XS) :=
  nmv (a0 - (((a0.toUInt32 >>> ((1 : Int32).toUInt32 &&& Int32.toUInt32 31)).toInt32) &&& (1431655765 : Int32))) fun x1 =>
  nmv ((x1 &&& (858993459 : Int32)) + (((x1.toUInt32 >>> ((2 : Int32).toUInt32 &&& Int32.toUInt32 31)).toInt32) &&& (858993459 : Int32))) fun x2 =>
  nmv ((x2 + ((x2.toUInt32 >>> ((4 : Int32).toUInt32 &&& Int32.toUInt32 31)).toInt32)) &&& (252645135 : Int32)) fun x3 =>
  nmv (x3 + ((x3.toUInt32 >>> ((8 : Int32).toUInt32 &&& Int32.toUInt32 31)).toInt32)) fun x4 =>
  nmv (x4 + ((x4.toUInt32 >>> ((16 : Int32).toUInt32 &&& Int32.toUInt32 31)).toInt32)) fun x5 =>
  some (x5 &&& (63 : Int32), u0)
set_option maxRecDepth 100000 in
set_option maxHeartbeats 4000000 in
theorem c_J6_bitCount_0f7a4 {a0 : Int32} {u0 : XS} {r : Int32} {u' : XS} (h : f_J6_bitCount_0f7a4 a0 u0 = some (r, u')) : MI l D cI cZ cQ adK adV A yJ6_bitCount_0f7a4 cJ6_bitCount_0f7a4 1 (some .int) { frames := 0, cells := 0, slots := 0, locals := 0 } [.int a0] (wX cI cZ cQ ad) u0 r u' := by
  unfold f_J6_bitCount_0f7a4 at h
  refine entI (by decide) (Nat.le_of_ble_eq_true rfl) (fun p e s m below meth c ls X K G hl => ?_)
  have hl : lv_has ls 1 [(0, .int a0)] := hl
  obtain ⟨hx, hb, -⟩ := id X
  generalize hH : s.heap = H at G
  subst hH
  refine lv_iload_n hx hb dJ6_bitCount_0f7a4_0 rfl (lv_at hl 0 rfl) ?_
  refine lv_iload_n hx hb dJ6_bitCount_0f7a4_1 rfl (lv_at hl 0 rfl) ?_
  refine lv_iconst (v := 1) hx hb dJ6_bitCount_0f7a4_2 (by decide) ?_
  refine lv_iushr hx hb dJ6_bitCount_0f7a4_3 rfl ?_
  refine lv_ldcw (v := 1431655765) hx hb X.2.2.2.1 (X.2.2.2.2.1 _ q_778) dJ6_bitCount_0f7a4_4 ?_
  refine lv_iand hx hb dJ6_bitCount_0f7a4_7 ?_
  refine lv_isub hx hb dJ6_bitCount_0f7a4_8 ?_
  refine lv_topi (fun x1 ex1 => ?_)
  have h := nm_at ex1 h
  refine lv_istore_n (lv' := [(0, .int x1)]) hx hb dJ6_bitCount_0f7a4_9 rfl hl (by decide) rfl (fun ls hl => ?_)
  refine lv_iload_n hx hb dJ6_bitCount_0f7a4_10 rfl (lv_at hl 0 rfl) ?_
  refine lv_ldcw (v := 858993459) hx hb X.2.2.2.1 (X.2.2.2.2.1 _ q_779) dJ6_bitCount_0f7a4_11 ?_
  refine lv_iand hx hb dJ6_bitCount_0f7a4_14 ?_
  refine lv_iload_n hx hb dJ6_bitCount_0f7a4_15 rfl (lv_at hl 0 rfl) ?_
  refine lv_iconst (v := 2) hx hb dJ6_bitCount_0f7a4_16 (by decide) ?_
  refine lv_iushr hx hb dJ6_bitCount_0f7a4_17 rfl ?_
  refine lv_ldcw (v := 858993459) hx hb X.2.2.2.1 (X.2.2.2.2.1 _ q_779) dJ6_bitCount_0f7a4_18 ?_
  refine lv_iand hx hb dJ6_bitCount_0f7a4_21 ?_
  refine lv_iadd hx hb dJ6_bitCount_0f7a4_22 ?_
  refine lv_topi (fun x2 ex2 => ?_)
  have h := nm_at ex2 h
  refine lv_istore_n (lv' := [(0, .int x2)]) hx hb dJ6_bitCount_0f7a4_23 rfl hl (by decide) rfl (fun ls hl => ?_)
  refine lv_iload_n hx hb dJ6_bitCount_0f7a4_24 rfl (lv_at hl 0 rfl) ?_
  refine lv_iload_n hx hb dJ6_bitCount_0f7a4_25 rfl (lv_at hl 0 rfl) ?_
  refine lv_iconst (v := 4) hx hb dJ6_bitCount_0f7a4_26 (by decide) ?_
  refine lv_iushr hx hb dJ6_bitCount_0f7a4_27 rfl ?_
  refine lv_iadd hx hb dJ6_bitCount_0f7a4_28 ?_
  refine lv_ldcw (v := 252645135) hx hb X.2.2.2.1 (X.2.2.2.2.1 _ q_780) dJ6_bitCount_0f7a4_29 ?_
  refine lv_iand hx hb dJ6_bitCount_0f7a4_32 ?_
  refine lv_topi (fun x3 ex3 => ?_)
  have h := nm_at ex3 h
  refine lv_istore_n (lv' := [(0, .int x3)]) hx hb dJ6_bitCount_0f7a4_33 rfl hl (by decide) rfl (fun ls hl => ?_)
  refine lv_iload_n hx hb dJ6_bitCount_0f7a4_34 rfl (lv_at hl 0 rfl) ?_
  refine lv_iload_n hx hb dJ6_bitCount_0f7a4_35 rfl (lv_at hl 0 rfl) ?_
  refine lv_bipush (v := 8) hx hb dJ6_bitCount_0f7a4_36 (by decide) ?_
  refine lv_iushr hx hb dJ6_bitCount_0f7a4_38 rfl ?_
  refine lv_iadd hx hb dJ6_bitCount_0f7a4_39 ?_
  refine lv_topi (fun x4 ex4 => ?_)
  have h := nm_at ex4 h
  refine lv_istore_n (lv' := [(0, .int x4)]) hx hb dJ6_bitCount_0f7a4_40 rfl hl (by decide) rfl (fun ls hl => ?_)
  refine lv_iload_n hx hb dJ6_bitCount_0f7a4_41 rfl (lv_at hl 0 rfl) ?_
  refine lv_iload_n hx hb dJ6_bitCount_0f7a4_42 rfl (lv_at hl 0 rfl) ?_
  refine lv_bipush (v := 16) hx hb dJ6_bitCount_0f7a4_43 (by decide) ?_
  refine lv_iushr hx hb dJ6_bitCount_0f7a4_45 rfl ?_
  refine lv_iadd hx hb dJ6_bitCount_0f7a4_46 ?_
  refine lv_topi (fun x5 ex5 => ?_)
  have h := nm_at ex5 h
  refine lv_istore_n (lv' := [(0, .int x5)]) hx hb dJ6_bitCount_0f7a4_47 rfl hl (by decide) rfl (fun ls hl => ?_)
  refine lv_iload_n hx hb dJ6_bitCount_0f7a4_48 rfl (lv_at hl 0 rfl) ?_
  refine lv_bipush (v := 63) hx hb dJ6_bitCount_0f7a4_49 (by decide) ?_
  refine lv_iand hx hb dJ6_bitCount_0f7a4_51 ?_
  obtain ⟨rfl, rfl⟩ := pair_at h
  exact reI X G dJ6_bitCount_0f7a4_52
noncomputable def f_X5_mostBy (a1 : Int32) (a2 : Int32) (u0 : XS) : Option (Int32 × XS) :=
  bnd (f_X5_hoursWith a1 a2 u0) fun r1 u2 =>
  (if 0 < r1 then
    if a2 < 0 ∨ 8 ≤ a2.toNatClampNeg then none else
    bnd (f_X5_wholeRound  u2) fun r5 u6 =>
    bnd (f_J6_bitCount_0f7a4 (((tDays (xT u2)) a2.toNatClampNeg) &&& r5) u6) fun r7 u8 =>
    nmv ((8 : Int32) * r7) fun x9 =>
    if r1 = 0 then none else
    some (x9 / r1, u8)
  else
    some ((0 : Int32), u2))
set_option maxRecDepth 100000 in
set_option maxHeartbeats 4000000 in
theorem c_X5_mostBy {a1 : Int32} {a2 : Int32} {u0 : XS} {r : Int32} {u' : XS} (h : f_X5_mostBy a1 a2 u0 = some (r, u')) : MI l D cI cZ cQ adK adV A yX5_mostBy cX5_mostBy 4 (some .int) { frames := 2, cells := 0, slots := 0, locals := 47 } [.ref (ad 1), .int a1, .int a2] (wX cI cZ cQ ad) u0 r u' := by
  unfold f_X5_mostBy at h
  refine entI (by decide) (Nat.le_of_ble_eq_true rfl) (fun p e s m below meth c ls X K G hl => ?_)
  have hl : lv_has ls 4 [(0, .ref (ad 1)), (1, .int a1), (2, .int a2)] := hl
  obtain ⟨hx, hb, -⟩ := id X
  generalize hH : s.heap = H at G
  subst hH
  refine lv_aload_n hx hb dX5_mostBy_0 rfl (lv_at hl 0 rfl) ?_
  refine lv_iload_n hx hb dX5_mostBy_1 rfl (lv_at hl 1 rfl) ?_
  refine lv_iload_n hx hb dX5_mostBy_2 rfl (lv_at hl 2 rfl) ?_
  obtain ⟨r1, u2, er1, h⟩ := bnd_at h
  refine cvI (rest := []) X K G (c_X5_hoursWith er1) q_762 my_X5_hoursWith ⟨rfl, rfl⟩ ⟨Nat.le_of_ble_eq_true rfl, Nat.le_of_ble_eq_true rfl⟩ ⟨Nat.zero_le _, Nat.zero_le _⟩ 1 5 rfl rfl rfl rfl hl.1 rfl (Nat.le_of_ble_eq_true rfl) dX5_mostBy_3 (fun H locs G => ?_)
  clear er1
  refine lv_istore_n (lv' := [(3, .int r1), (0, .ref (ad 1)), (1, .int a1), (2, .int a2)]) hx hb dX5_mostBy_6 rfl hl (by decide) rfl (fun ls hl => ?_)
  refine lv_iload_n hx hb dX5_mostBy_7 rfl (lv_at hl 0 rfl) ?_
  refine lv_if_gt (tgt := 13) hx hb dX5_mostBy_8 (by decide) (fun c3 => ?_) (fun c3 => ?_)
  · have h := it_at c3 h
    refine lv_bipush (v := 8) hx hb dX5_mostBy_13 (by decide) ?_
    refine lv_aload_n hx hb dX5_mostBy_15 rfl (lv_at hl 1 rfl) ?_
    refine gX_1_6 X K G q_122 dX5_mostBy_16 ?_
    refine lv_iload_n hx hb dX5_mostBy_19 rfl (lv_at hl 3 rfl) ?_
    obtain ⟨g4, h⟩ := ck_at h
    refine lX_2 X K G g4 dX5_mostBy_20 ?_
    refine lv_aload_n hx hb dX5_mostBy_21 rfl (lv_at hl 1 rfl) ?_
    obtain ⟨r5, u6, er5, h⟩ := bnd_at h
    refine cvI (rest := [.int ((tDays (xT u2)) a2.toNatClampNeg), .int (8 : Int32)]) X K G (c_X5_wholeRound er5) q_771 my_X5_wholeRound ⟨rfl, rfl⟩ ⟨Nat.le_of_ble_eq_true rfl, Nat.le_of_ble_eq_true rfl⟩ ⟨Nat.zero_le _, Nat.zero_le _⟩ 1 5 rfl rfl rfl rfl hl.1 rfl (Nat.le_of_ble_eq_true rfl) dX5_mostBy_22 (fun H locs G => ?_)
    clear er5
    refine lv_iand hx hb dX5_mostBy_25 ?_
    obtain ⟨r7, u8, er7, h⟩ := bnd_at h
    refine csI (rest := [.int (8 : Int32)]) X K G (c_J6_bitCount_0f7a4 er7) q_775 my_J6_bitCount_0f7a4 ⟨rfl, rfl⟩ ⟨Nat.le_of_ble_eq_true rfl, Nat.le_of_ble_eq_true rfl⟩ ⟨Nat.zero_le _, Nat.zero_le _⟩ rfl hl.1 rfl (Nat.le_of_ble_eq_true rfl) dX5_mostBy_26 (fun H locs G => ?_)
    clear er7
    refine lv_imul hx hb dX5_mostBy_29 ?_
    refine lv_iload_n hx hb dX5_mostBy_30 rfl (lv_at hl 0 rfl) ?_
    refine nm2 (fun x9 ex9 => ?_)
    have h := nm_at ex9 h
    obtain ⟨g10, h⟩ := ck_at h
    refine lv_idiv hx hb dX5_mostBy_31 g10 ?_
    obtain ⟨rfl, rfl⟩ := pair_at h
    exact reI X G dX5_mostBy_32
  · have h := if_at c3 h
    refine lv_iconst (v := 0) hx hb dX5_mostBy_11 (by decide) ?_
    obtain ⟨rfl, rfl⟩ := pair_at h
    exact reI X G dX5_mostBy_12
noncomputable def f_X5_chokingTool_L7_7 (v1 : Int32) (v2 : Int32) (v3 : Int32) (v4 : Int32) (u0 : XS) : Option ((Int32 × Int32 × Int32 × Int32 × XS) ⊕ ((Int32 × XS) ⊕ (Int32 × XS))) :=
  (if (tTools (xT u0)) ≤ v4 then
    some (.inr (.inr (v2, u0)))
  else
    bnd (f_X5_hoursWith v1 v4 u0) fun r2 u3 =>
    (if r2 = 0 then
      nmv (v4 + (1 : Int32)) fun x12 =>
      some (.inl (v1, v2, v3, x12, u3))
    else
      bnd (f_X5_mostBy v1 v4 u3) fun r5 u6 =>
      (if v2 < 0 then
        nmv (v4 + (1 : Int32)) fun x8 =>
        some (.inl (v1, v4, r5, x8, u6))
      else
        (if v3 ≤ r5 then
          nmv (v4 + (1 : Int32)) fun x10 =>
          some (.inl (v1, v2, v3, x10, u6))
        else
          nmv (v4 + (1 : Int32)) fun x11 =>
          some (.inl (v1, v4, r5, x11, u6))))))
set_option maxRecDepth 100000 in
set_option maxHeartbeats 4000000 in
theorem b_X5_chokingTool_L7_7 (X : cx p s m args meth c cX5_chokingTool 6 RX5 (some .int)) (K : kx D cI cZ cQ adK adV A s s.heap) {v1 : Int32} {v2 : Int32} {v3 : Int32} {v4 : Int32} {u0 : XS} (G : wg D A s.heap H locs (wX cI cZ cQ ad u0)) (hl : lv_has ls 6 [(0, .ref (ad 1)), (1, .int v1), (2, .int v2), (3, .int v3), (4, .int v4)]) {q : ((Int32 × Int32 × Int32 × Int32 × XS) ⊕ ((Int32 × XS) ⊕ (Int32 × XS)))} (h : f_X5_chokingTool_L7_7 v1 v2 v3 v4 u0 = some q) (hB : ∀ (v1 : Int32) (v2 : Int32) (v3 : Int32) (v4 : Int32) (u : XS), q = .inl (v1, v2, v3, v4, u) → ∀ (H : Heap) (locs : List Loc) (ls : Array Slot), wg D A s.heap H locs (wX cI cZ cQ ad u) → lv_has ls 6 [(0, .ref (ad 1)), (1, .int v1), (2, .int v2), (3, .int v3), (4, .int v4)] → W p l e { frames := 3, cells := 0, slots := 0, locals := 70 } s m args below meth c H locs 0 0 Q (F0 m 7 ls [])) (hX : ∀ (v2 : Int32) (u : XS), q = .inr (.inr (v2, u)) → ∀ (H : Heap) (locs : List Loc) (ls : Array Slot), wg D A s.heap H locs (wX cI cZ cQ ad u) → lv_has ls 6 [(2, .int v2)] → W p l e { frames := 3, cells := 0, slots := 0, locals := 70 } s m args below meth c H locs 0 0 Q (F0 m 60 ls [])) (hR : ∀ (r : Int32) (u : XS), q = .inr (.inl (r, u)) → Q = (qI D A (wX cI cZ cQ ad) below args s r u)) : W p l e { frames := 3, cells := 0, slots := 0, locals := 70 } s m args below meth c H locs 0 0 Q (F0 m 7 ls []) := by
  unfold f_X5_chokingTool_L7_7 at h
  obtain ⟨hx, hb, -⟩ := id X
  refine lv_iload hx hb dX5_chokingTool_7 (lv_at hl 4 rfl) ?_
  refine lv_aload_n hx hb dX5_chokingTool_9 rfl (lv_at hl 0 rfl) ?_
  refine gX_1_3 X K G q_112 dX5_chokingTool_10 ?_
  refine lv_icmp_ge (tgt := 60) hx hb dX5_chokingTool_13 (by decide) (fun c1 => ?_) (fun c1 => ?_)
  · have h := it_at c1 h
    exact hX _ _ (Option.some.inj h).symm _ _ _ G (lv_sub hl [2] rfl)
  · have h := if_at c1 h
    refine lv_aload_n hx hb dX5_chokingTool_16 rfl (lv_at hl 0 rfl) ?_
    refine lv_iload_n hx hb dX5_chokingTool_17 rfl (lv_at hl 1 rfl) ?_
    refine lv_iload hx hb dX5_chokingTool_18 (lv_at hl 4 rfl) ?_
    obtain ⟨r2, u3, er2, h⟩ := bnd_at h
    refine cvI (rest := []) X K G (c_X5_hoursWith er2) q_762 my_X5_hoursWith ⟨rfl, rfl⟩ ⟨Nat.le_of_ble_eq_true rfl, Nat.le_of_ble_eq_true rfl⟩ ⟨Nat.zero_le _, Nat.zero_le _⟩ 1 5 rfl rfl rfl rfl hl.1 rfl (Nat.le_of_ble_eq_true rfl) dX5_chokingTool_20 (fun H locs G => ?_)
    clear er2
    refine lv_if_ne (tgt := 29) hx hb dX5_chokingTool_23 (by decide) (fun c4 => ?_) (fun c4 => ?_)
    · have h := if_at c4 h
      refine lv_aload_n hx hb dX5_chokingTool_29 rfl (lv_at hl 0 rfl) ?_
      refine lv_iload_n hx hb dX5_chokingTool_30 rfl (lv_at hl 1 rfl) ?_
      refine lv_iload hx hb dX5_chokingTool_31 (lv_at hl 4 rfl) ?_
      obtain ⟨r5, u6, er5, h⟩ := bnd_at h
      refine cvI (rest := []) X K G (c_X5_mostBy er5) q_767 my_X5_mostBy ⟨rfl, rfl⟩ ⟨Nat.le_of_ble_eq_true rfl, Nat.le_of_ble_eq_true rfl⟩ ⟨Nat.zero_le _, Nat.zero_le _⟩ 1 5 rfl rfl rfl rfl hl.1 rfl (Nat.le_of_ble_eq_true rfl) dX5_chokingTool_33 (fun H locs G => ?_)
      clear er5
      refine lv_istore (lv' := [(5, .int r5), (0, .ref (ad 1)), (1, .int v1), (2, .int v2), (3, .int v3), (4, .int v4)]) hx hb dX5_chokingTool_36 hl (by decide) rfl (fun ls hl => ?_)
      refine lv_iload_n hx hb dX5_chokingTool_38 rfl (lv_at hl 3 rfl) ?_
      refine lv_if_lt (tgt := 48) hx hb dX5_chokingTool_39 (by decide) (fun c7 => ?_) (fun c7 => ?_)
      · have h := it_at c7 h
        refine lv_iload hx hb dX5_chokingTool_48 (lv_at hl 5 rfl) ?_
        refine lv_istore_n (lv' := [(2, .int v4), (5, .int r5), (0, .ref (ad 1)), (1, .int v1), (3, .int v3), (4, .int v4)]) hx hb dX5_chokingTool_50 rfl hl (by decide) rfl (fun ls hl => ?_)
        refine lv_iload hx hb dX5_chokingTool_51 (lv_at hl 1 rfl) ?_
        refine lv_istore_n (lv' := [(3, .int r5), (2, .int v4), (5, .int r5), (0, .ref (ad 1)), (1, .int v1), (4, .int v4)]) hx hb dX5_chokingTool_53 rfl hl (by decide) rfl (fun ls hl => ?_)
        obtain ⟨x8, ex8⟩ : ∃ z : Int32, z = v4 + (1 : Int32) := ⟨_, rfl⟩
        have h := nm_at ex8 h
        refine lv_iinc (v := x8) (lv' := [(4, .int x8), (3, .int r5), (2, .int v4), (5, .int r5), (0, .ref (ad 1)), (1, .int v1)]) hx hb dX5_chokingTool_54 hl (k := 5) rfl (by rw [ex8]; rfl) (by decide) rfl (fun ls hl => ?_)
        refine lv_goto (tgt := 7) hx hb dX5_chokingTool_57 (by decide) ?_
        exact hB _ _ _ _ _ (Option.some.inj h).symm _ _ _ G (lv_sub hl [4, 5, 2, 1, 0] rfl)
      · have h := if_at c7 h
        refine lv_iload hx hb dX5_chokingTool_42 (lv_at hl 0 rfl) ?_
        refine lv_iload_n hx hb dX5_chokingTool_44 rfl (lv_at hl 4 rfl) ?_
        refine lv_icmp_ge (tgt := 54) hx hb dX5_chokingTool_45 (by decide) (fun c9 => ?_) (fun c9 => ?_)
        · have h := it_at c9 h
          obtain ⟨x10, ex10⟩ : ∃ z : Int32, z = v4 + (1 : Int32) := ⟨_, rfl⟩
          have h := nm_at ex10 h
          refine lv_iinc (v := x10) (lv' := [(4, .int x10), (5, .int r5), (0, .ref (ad 1)), (1, .int v1), (2, .int v2), (3, .int v3)]) hx hb dX5_chokingTool_54 hl (k := 5) rfl (by rw [ex10]; rfl) (by decide) rfl (fun ls hl => ?_)
          refine lv_goto (tgt := 7) hx hb dX5_chokingTool_57 (by decide) ?_
          exact hB _ _ _ _ _ (Option.some.inj h).symm _ _ _ G (lv_sub hl [2, 3, 4, 5, 0] rfl)
        · have h := if_at c9 h
          refine lv_iload hx hb dX5_chokingTool_48 (lv_at hl 5 rfl) ?_
          refine lv_istore_n (lv' := [(2, .int v4), (5, .int r5), (0, .ref (ad 1)), (1, .int v1), (3, .int v3), (4, .int v4)]) hx hb dX5_chokingTool_50 rfl hl (by decide) rfl (fun ls hl => ?_)
          refine lv_iload hx hb dX5_chokingTool_51 (lv_at hl 1 rfl) ?_
          refine lv_istore_n (lv' := [(3, .int r5), (2, .int v4), (5, .int r5), (0, .ref (ad 1)), (1, .int v1), (4, .int v4)]) hx hb dX5_chokingTool_53 rfl hl (by decide) rfl (fun ls hl => ?_)
          obtain ⟨x11, ex11⟩ : ∃ z : Int32, z = v4 + (1 : Int32) := ⟨_, rfl⟩
          have h := nm_at ex11 h
          refine lv_iinc (v := x11) (lv' := [(4, .int x11), (3, .int r5), (2, .int v4), (5, .int r5), (0, .ref (ad 1)), (1, .int v1)]) hx hb dX5_chokingTool_54 hl (k := 5) rfl (by rw [ex11]; rfl) (by decide) rfl (fun ls hl => ?_)
          refine lv_goto (tgt := 7) hx hb dX5_chokingTool_57 (by decide) ?_
          exact hB _ _ _ _ _ (Option.some.inj h).symm _ _ _ G (lv_sub hl [4, 5, 2, 1, 0] rfl)
    · have h := it_at c4 h
      refine lv_goto (tgt := 54) hx hb dX5_chokingTool_26 (by decide) ?_
      obtain ⟨x12, ex12⟩ : ∃ z : Int32, z = v4 + (1 : Int32) := ⟨_, rfl⟩
      have h := nm_at ex12 h
      refine lv_iinc (v := x12) (lv' := [(4, .int x12), (0, .ref (ad 1)), (1, .int v1), (2, .int v2), (3, .int v3)]) hx hb dX5_chokingTool_54 hl (k := 4) rfl (by rw [ex12]; rfl) (by decide) rfl (fun ls hl => ?_)
      refine lv_goto (tgt := 7) hx hb dX5_chokingTool_57 (by decide) ?_
      exact hB _ _ _ _ _ (Option.some.inj h).symm _ _ _ G (lv_sub hl [1, 2, 3, 4, 0] rfl)
noncomputable def f_X5_chokingTool_L7_7s (q : Int32 × Int32 × Int32 × Int32 × XS) : Option ((Int32 × Int32 × Int32 × Int32 × XS) ⊕ ((Int32 × XS) ⊕ (Int32 × XS))) := f_X5_chokingTool_L7_7 q.1 q.2.1 q.2.2.1 q.2.2.2.1 q.2.2.2.2
set_option maxRecDepth 100000 in
set_option maxHeartbeats 4000000 in
theorem w_X5_chokingTool_L7_7 (X : cx p s m args meth c cX5_chokingTool 6 RX5 (some .int)) (K : kx D cI cZ cQ adK adV A s s.heap) {e0 : (Int32 × XS) ⊕ (Int32 × XS)} : ∀ (n : Nat) (v1 : Int32) (v2 : Int32) (v3 : Int32) (v4 : Int32) (u : XS) {H : Heap} {locs : List Loc} {ls : Array Slot}, wh f_X5_chokingTool_L7_7s n (v1, v2, v3, v4, u) = some e0 → wg D A s.heap H locs (wX cI cZ cQ ad u) → lv_has ls 6 [(0, .ref (ad 1)), (1, .int v1), (2, .int v2), (3, .int v3), (4, .int v4)] → (∀ (v2 : Int32) (u : XS), e0 = .inr (v2, u) → ∀ (H : Heap) (locs : List Loc) (ls : Array Slot), wg D A s.heap H locs (wX cI cZ cQ ad u) → lv_has ls 6 [(2, .int v2)] → W p l e { frames := 3, cells := 0, slots := 0, locals := 70 } s m args below meth c H locs 0 0 Q (F0 m 60 ls [])) → (∀ (r : Int32) (u : XS), e0 = .inl (r, u) → Q = (qI D A (wX cI cZ cQ ad) below args s r u)) → W p l e { frames := 3, cells := 0, slots := 0, locals := 70 } s m args below meth c H locs 0 0 Q (F0 m 7 ls []) := by
  intro n
  induction n with
  | zero => intro v1 v2 v3 v4 u H locs ls h; cases h
  | succ n ih =>
    intro v1 v2 v3 v4 u H locs ls h G hl hX hR
    obtain ⟨q, h1, h2, h3⟩ := wh_at h
    exact b_X5_chokingTool_L7_7 X K G hl (show f_X5_chokingTool_L7_7 v1 v2 v3 v4 u = some q from h1) (fun b0 b1 b2 b3 b4 ee H locs ls G hl => ih b0 b1 b2 b3 b4 (h2 _ ee) G hl hX hR) (fun z0 z1 ee => hX z0 z1 (h3 _ ee).symm) (fun r u ee => hR r u (h3 _ ee).symm)
noncomputable def f_X5_chokingTool (a1 : Int32) (u0 : XS) : Option (Int32 × XS) :=
  bne (wl f_X5_chokingTool_L7_7s (a1, (-1 : Int32), (0 : Int32), (0 : Int32), u0)) (fun a => some a) fun b =>
    nmv b.1 fun y4 =>
    nmv b.2 fun u3 =>
    some (y4, u3)
set_option maxRecDepth 100000 in
set_option maxHeartbeats 4000000 in
theorem c_X5_chokingTool {a1 : Int32} {u0 : XS} {r : Int32} {u' : XS} (h : f_X5_chokingTool a1 u0 = some (r, u')) : MI l D cI cZ cQ adK adV A yX5_chokingTool cX5_chokingTool 6 (some .int) { frames := 3, cells := 0, slots := 0, locals := 70 } [.ref (ad 1), .int a1] (wX cI cZ cQ ad) u0 r u' := by
  unfold f_X5_chokingTool at h
  refine entI (by decide) (Nat.le_of_ble_eq_true rfl) (fun p e s m below meth c ls X K G hl => ?_)
  have hl : lv_has ls 6 [(0, .ref (ad 1)), (1, .int a1)] := hl
  obtain ⟨hx, hb, -⟩ := id X
  generalize hH : s.heap = H at G
  subst hH
  refine lv_iconst (v := -1) hx hb dX5_chokingTool_0 (by decide) ?_
  refine lv_istore_n (lv' := [(2, .int (-1 : Int32)), (0, .ref (ad 1)), (1, .int a1)]) hx hb dX5_chokingTool_1 rfl hl (by decide) rfl (fun ls hl => ?_)
  refine lv_iconst (v := 0) hx hb dX5_chokingTool_2 (by decide) ?_
  refine lv_istore_n (lv' := [(3, .int (0 : Int32)), (2, .int (-1 : Int32)), (0, .ref (ad 1)), (1, .int a1)]) hx hb dX5_chokingTool_3 rfl hl (by decide) rfl (fun ls hl => ?_)
  refine lv_iconst (v := 0) hx hb dX5_chokingTool_4 (by decide) ?_
  refine lv_istore (lv' := [(4, .int (0 : Int32)), (3, .int (0 : Int32)), (2, .int (-1 : Int32)), (0, .ref (ad 1)), (1, .int a1)]) hx hb dX5_chokingTool_5 hl (by decide) rfl (fun ls hl => ?_)
  obtain ⟨q2, hq2, ha, hb1⟩ := bne_at h
  obtain ⟨n1, hn1⟩ := wl_iff.mp hq2
  refine w_X5_chokingTool_L7_7 X K n1 _ _ _ _ _ hn1 G (lv_sub hl [3, 4, 2, 1, 0] rfl) (fun y4 u3 ee H locs ls G hl => ?_) (fun r u1 ee => by obtain ⟨rfl, rfl⟩ := pair_at (ha _ ee); rfl)
  have h := hb1 _ ee
  clear ee ha hb1 hq2 hn1
  have h := nm_at (x := y4) rfl h
  have h := nm_at (x := u3) rfl h
  refine lv_iload_n hx hb dX5_chokingTool_60 rfl (lv_at hl 0 rfl) ?_
  obtain ⟨rfl, rfl⟩ := pair_at h
  exact reI X G dX5_chokingTool_61
noncomputable def f_X6_most (a1 : Int32) (u0 : XS) : Option (Int32 × XS) :=
  bnd (f_X5_hasThing a1 u0) fun r1 u2 =>
  (if r1 = 0 then
    bnd (f_X6_found (0 : Int32) u2) fun r9 u10 =>
    some (r9, u10)
  else
    bnd (f_X5_chokingTool a1 u2) fun r4 u5 =>
    (if 0 ≤ r4 then
      bnd (f_X5_mostBy a1 r4 u5) fun r7 u8 =>
      some (r7, u8)
    else
      some ((0 : Int32), u5)))
set_option maxRecDepth 100000 in
set_option maxHeartbeats 4000000 in
theorem c_X6_most {a1 : Int32} {u0 : XS} {r : Int32} {u' : XS} (h : f_X6_most a1 u0 = some (r, u')) : MI l D cI cZ cQ adK adV A yX6_most cX6_most 3 (some .int) { frames := 4, cells := 0, slots := 0, locals := 95 } [.ref (ad 0), .int a1] (wX cI cZ cQ ad) u0 r u' := by
  unfold f_X6_most at h
  refine entI (by decide) (Nat.le_of_ble_eq_true rfl) (fun p e s m below meth c ls X K G hl => ?_)
  have hl : lv_has ls 3 [(0, .ref (ad 0)), (1, .int a1)] := hl
  obtain ⟨hx, hb, -⟩ := id X
  generalize hH : s.heap = H at G
  subst hH
  refine lv_aload_n hx hb dX6_most_0 rfl (lv_at hl 0 rfl) ?_
  refine gX_0_0 X K G q_300 dX6_most_1 ?_
  refine lv_iload_n hx hb dX6_most_4 rfl (lv_at hl 1 rfl) ?_
  obtain ⟨r1, u2, er1, h⟩ := bnd_at h
  refine cvI (rest := []) X K G (c_X5_hasThing er1) q_553 my_X5_hasThing ⟨rfl, rfl⟩ ⟨Nat.le_of_ble_eq_true rfl, Nat.le_of_ble_eq_true rfl⟩ ⟨Nat.zero_le _, Nat.zero_le _⟩ 1 5 rfl rfl rfl rfl hl.1 rfl (Nat.le_of_ble_eq_true rfl) dX6_most_5 (fun H locs G => ?_)
  clear er1
  refine lv_if_ne (tgt := 17) hx hb dX6_most_8 (by decide) (fun c3 => ?_) (fun c3 => ?_)
  · have h := if_at c3 h
    refine lv_aload_n hx hb dX6_most_17 rfl (lv_at hl 0 rfl) ?_
    refine gX_0_0 X K G q_300 dX6_most_18 ?_
    refine lv_iload_n hx hb dX6_most_21 rfl (lv_at hl 1 rfl) ?_
    obtain ⟨r4, u5, er4, h⟩ := bnd_at h
    refine cvI (rest := []) X K G (c_X5_chokingTool er4) q_758 my_X5_chokingTool ⟨rfl, rfl⟩ ⟨Nat.le_of_ble_eq_true rfl, Nat.le_of_ble_eq_true rfl⟩ ⟨Nat.zero_le _, Nat.zero_le _⟩ 1 5 rfl rfl rfl rfl hl.1 rfl (Nat.le_of_ble_eq_true rfl) dX6_most_22 (fun H locs G => ?_)
    clear er4
    refine lv_istore_n (lv' := [(2, .int r4), (0, .ref (ad 0)), (1, .int a1)]) hx hb dX6_most_25 rfl hl (by decide) rfl (fun ls hl => ?_)
    refine lv_iload_n hx hb dX6_most_26 rfl (lv_at hl 0 rfl) ?_
    refine lv_if_ge (tgt := 34) hx hb dX6_most_27 (by decide) (fun c6 => ?_) (fun c6 => ?_)
    · have h := it_at c6 h
      refine lv_aload_n hx hb dX6_most_34 rfl (lv_at hl 1 rfl) ?_
      refine gX_0_0 X K G q_300 dX6_most_35 ?_
      refine lv_iload_n hx hb dX6_most_38 rfl (lv_at hl 2 rfl) ?_
      refine lv_iload_n hx hb dX6_most_39 rfl (lv_at hl 0 rfl) ?_
      obtain ⟨r7, u8, er7, h⟩ := bnd_at h
      refine cvI (rest := []) X K G (c_X5_mostBy er7) q_781 my_X5_mostBy ⟨rfl, rfl⟩ ⟨Nat.le_of_ble_eq_true rfl, Nat.le_of_ble_eq_true rfl⟩ ⟨Nat.zero_le _, Nat.zero_le _⟩ 1 5 rfl rfl rfl rfl hl.1 rfl (Nat.le_of_ble_eq_true rfl) dX6_most_40 (fun H locs G => ?_)
      clear er7
      obtain ⟨rfl, rfl⟩ := pair_at h
      exact reI X G dX6_most_43
    · have h := if_at c6 h
      refine lv_iconst (v := 0) hx hb dX6_most_30 (by decide) ?_
      refine lv_goto (tgt := 43) hx hb dX6_most_31 (by decide) ?_
      obtain ⟨rfl, rfl⟩ := pair_at h
      exact reI X G dX6_most_43
  · have h := it_at c3 h
    refine lv_aload_n hx hb dX6_most_11 rfl (lv_at hl 0 rfl) ?_
    refine lv_iconst (v := 0) hx hb dX6_most_12 (by decide) ?_
    obtain ⟨r9, u10, er9, h⟩ := bnd_at h
    refine cvI (rest := []) X K G (c_X6_found er9) q_338 my_X6_found ⟨rfl, rfl⟩ ⟨Nat.le_of_ble_eq_true rfl, Nat.le_of_ble_eq_true rfl⟩ ⟨Nat.zero_le _, Nat.zero_le _⟩ 0 6 rfl rfl rfl rfl hl.1 rfl (Nat.le_of_ble_eq_true rfl) dX6_most_13 (fun H locs G => ?_)
    clear er9
    obtain ⟨rfl, rfl⟩ := pair_at h
    exact reI X G dX6_most_16
noncomputable def f_X6_chokes (a1 : Int32) (u0 : XS) : Option (Int32 × XS) :=
  bnd (f_X5_hasThing a1 u0) fun r1 u2 =>
  (if r1 = 0 then
    bnd (f_X6_found (0 : Int32) u2) fun r6 u7 =>
    some (r6, u7)
  else
    bnd (f_X5_chokingTool a1 u2) fun r4 u5 =>
    some (r4, u5))
set_option maxRecDepth 100000 in
set_option maxHeartbeats 4000000 in
theorem c_X6_chokes {a1 : Int32} {u0 : XS} {r : Int32} {u' : XS} (h : f_X6_chokes a1 u0 = some (r, u')) : MI l D cI cZ cQ adK adV A yX6_chokes cX6_chokes 2 (some .int) { frames := 4, cells := 0, slots := 0, locals := 95 } [.ref (ad 0), .int a1] (wX cI cZ cQ ad) u0 r u' := by
  unfold f_X6_chokes at h
  refine entI (by decide) (Nat.le_of_ble_eq_true rfl) (fun p e s m below meth c ls X K G hl => ?_)
  have hl : lv_has ls 2 [(0, .ref (ad 0)), (1, .int a1)] := hl
  obtain ⟨hx, hb, -⟩ := id X
  generalize hH : s.heap = H at G
  subst hH
  refine lv_aload_n hx hb dX6_chokes_0 rfl (lv_at hl 0 rfl) ?_
  refine gX_0_0 X K G q_300 dX6_chokes_1 ?_
  refine lv_iload_n hx hb dX6_chokes_4 rfl (lv_at hl 1 rfl) ?_
  obtain ⟨r1, u2, er1, h⟩ := bnd_at h
  refine cvI (rest := []) X K G (c_X5_hasThing er1) q_553 my_X5_hasThing ⟨rfl, rfl⟩ ⟨Nat.le_of_ble_eq_true rfl, Nat.le_of_ble_eq_true rfl⟩ ⟨Nat.zero_le _, Nat.zero_le _⟩ 1 5 rfl rfl rfl rfl hl.1 rfl (Nat.le_of_ble_eq_true rfl) dX6_chokes_5 (fun H locs G => ?_)
  clear er1
  refine lv_if_ne (tgt := 17) hx hb dX6_chokes_8 (by decide) (fun c3 => ?_) (fun c3 => ?_)
  · have h := if_at c3 h
    refine lv_aload_n hx hb dX6_chokes_17 rfl (lv_at hl 0 rfl) ?_
    refine gX_0_0 X K G q_300 dX6_chokes_18 ?_
    refine lv_iload_n hx hb dX6_chokes_21 rfl (lv_at hl 1 rfl) ?_
    obtain ⟨r4, u5, er4, h⟩ := bnd_at h
    refine cvI (rest := []) X K G (c_X5_chokingTool er4) q_758 my_X5_chokingTool ⟨rfl, rfl⟩ ⟨Nat.le_of_ble_eq_true rfl, Nat.le_of_ble_eq_true rfl⟩ ⟨Nat.zero_le _, Nat.zero_le _⟩ 1 5 rfl rfl rfl rfl hl.1 rfl (Nat.le_of_ble_eq_true rfl) dX6_chokes_22 (fun H locs G => ?_)
    clear er4
    obtain ⟨rfl, rfl⟩ := pair_at h
    exact reI X G dX6_chokes_25
  · have h := it_at c3 h
    refine lv_aload_n hx hb dX6_chokes_11 rfl (lv_at hl 0 rfl) ?_
    refine lv_iconst (v := 0) hx hb dX6_chokes_12 (by decide) ?_
    obtain ⟨r6, u7, er6, h⟩ := bnd_at h
    refine cvI (rest := []) X K G (c_X6_found er6) q_338 my_X6_found ⟨rfl, rfl⟩ ⟨Nat.le_of_ble_eq_true rfl, Nat.le_of_ble_eq_true rfl⟩ ⟨Nat.zero_le _, Nat.zero_le _⟩ 0 6 rfl rfl rfl rfl hl.1 rfl (Nat.le_of_ble_eq_true rfl) dX6_chokes_13 (fun H locs G => ?_)
    clear er6
    obtain ⟨rfl, rfl⟩ := pair_at h
    exact reI X G dX6_chokes_16
noncomputable def f_X6_idle_L29_29 (v1 : Int32) (v2 : Int32) (v3 : Int32) (u0 : XS) : Option ((Int32 × Int32 × Int32 × XS) ⊕ ((Int32 × XS) ⊕ (Int32 × XS))) :=
  (if (tTools (xT u0)) ≤ v3 then
    some (.inr (.inr (v2, u0)))
  else
    (if ((v1 >>> (v3 &&& 31)) &&& (1 : Int32)) = 0 then
      nmv (v3 + (1 : Int32)) fun x3 =>
      some (.inl (v1, v2, x3, u0))
    else
      if v3 < 0 ∨ 8 ≤ v3.toNatClampNeg then none else
      nmv (v2 ||| ((tDays (xT u0)) v3.toNatClampNeg)) fun x5 =>
      nmv (v3 + (1 : Int32)) fun x6 =>
      some (.inl (v1, x5, x6, u0))))
set_option maxRecDepth 100000 in
set_option maxHeartbeats 4000000 in
theorem b_X6_idle_L29_29 (X : cx p s m args meth c cX6_idle 4 RX6 (some .int)) (K : kx D cI cZ cQ adK adV A s s.heap) {v1 : Int32} {v2 : Int32} {v3 : Int32} {u0 : XS} (G : wg D A s.heap H locs (wX cI cZ cQ ad u0)) (hl : lv_has ls 4 [(0, .ref (ad 0)), (1, .int v1), (2, .int v2), (3, .int v3)]) {q : ((Int32 × Int32 × Int32 × XS) ⊕ ((Int32 × XS) ⊕ (Int32 × XS)))} (h : f_X6_idle_L29_29 v1 v2 v3 u0 = some q) (hB : ∀ (v1 : Int32) (v2 : Int32) (v3 : Int32) (u : XS), q = .inl (v1, v2, v3, u) → ∀ (H : Heap) (locs : List Loc) (ls : Array Slot), wg D A s.heap H locs (wX cI cZ cQ ad u) → lv_has ls 4 [(0, .ref (ad 0)), (1, .int v1), (2, .int v2), (3, .int v3)] → W p l e { frames := 2, cells := 0, slots := 0, locals := 43 } s m args below meth c H locs 0 0 Q (F0 m 29 ls [])) (hX : ∀ (v2 : Int32) (u : XS), q = .inr (.inr (v2, u)) → ∀ (H : Heap) (locs : List Loc) (ls : Array Slot), wg D A s.heap H locs (wX cI cZ cQ ad u) → lv_has ls 4 [(0, .ref (ad 0)), (2, .int v2)] → W p l e { frames := 2, cells := 0, slots := 0, locals := 43 } s m args below meth c H locs 0 0 Q (F0 m 66 ls [])) (hR : ∀ (r : Int32) (u : XS), q = .inr (.inl (r, u)) → Q = (qI D A (wX cI cZ cQ ad) below args s r u)) : W p l e { frames := 2, cells := 0, slots := 0, locals := 43 } s m args below meth c H locs 0 0 Q (F0 m 29 ls []) := by
  unfold f_X6_idle_L29_29 at h
  obtain ⟨hx, hb, -⟩ := id X
  refine lv_iload_n hx hb dX6_idle_29 rfl (lv_at hl 3 rfl) ?_
  refine lv_aload_n hx hb dX6_idle_30 rfl (lv_at hl 0 rfl) ?_
  refine gX_0_0 X K G q_300 dX6_idle_31 ?_
  refine gX_1_3 X K G q_114 dX6_idle_34 ?_
  refine lv_icmp_ge (tgt := 66) hx hb dX6_idle_37 (by decide) (fun c1 => ?_) (fun c1 => ?_)
  · have h := it_at c1 h
    exact hX _ _ (Option.some.inj h).symm _ _ _ G (lv_sub hl [0, 2] rfl)
  · have h := if_at c1 h
    refine lv_iload_n hx hb dX6_idle_40 rfl (lv_at hl 1 rfl) ?_
    refine lv_iload_n hx hb dX6_idle_41 rfl (lv_at hl 3 rfl) ?_
    refine lv_ishr hx hb dX6_idle_42 ?_
    refine lv_iconst (v := 1) hx hb dX6_idle_43 (by decide) ?_
    refine lv_iand hx hb dX6_idle_44 ?_
    refine lv_if_eq (tgt := 60) hx hb dX6_idle_45 (by decide) (fun c2 => ?_) (fun c2 => ?_)
    · have h := it_at c2 h
      obtain ⟨x3, ex3⟩ : ∃ z : Int32, z = v3 + (1 : Int32) := ⟨_, rfl⟩
      have h := nm_at ex3 h
      refine lv_iinc (v := x3) (lv' := [(3, .int x3), (0, .ref (ad 0)), (1, .int v1), (2, .int v2)]) hx hb dX6_idle_60 hl (k := 3) rfl (by rw [ex3]; rfl) (by decide) rfl (fun ls hl => ?_)
      refine lv_goto (tgt := 29) hx hb dX6_idle_63 (by decide) ?_
      exact hB _ _ _ _ (Option.some.inj h).symm _ _ _ G (lv_sub hl [1, 2, 3, 0] rfl)
    · have h := if_at c2 h
      refine lv_iload_n hx hb dX6_idle_48 rfl (lv_at hl 2 rfl) ?_
      refine lv_aload_n hx hb dX6_idle_49 rfl (lv_at hl 0 rfl) ?_
      refine gX_0_0 X K G q_300 dX6_idle_50 ?_
      refine gX_1_6 X K G q_124 dX6_idle_53 ?_
      refine lv_iload_n hx hb dX6_idle_56 rfl (lv_at hl 3 rfl) ?_
      obtain ⟨g4, h⟩ := ck_at h
      refine lX_2 X K G g4 dX6_idle_57 ?_
      refine lv_ior hx hb dX6_idle_58 ?_
      refine lv_topi (fun x5 ex5 => ?_)
      have h := nm_at ex5 h
      refine lv_istore_n (lv' := [(2, .int x5), (0, .ref (ad 0)), (1, .int v1), (3, .int v3)]) hx hb dX6_idle_59 rfl hl (by decide) rfl (fun ls hl => ?_)
      obtain ⟨x6, ex6⟩ : ∃ z : Int32, z = v3 + (1 : Int32) := ⟨_, rfl⟩
      have h := nm_at ex6 h
      refine lv_iinc (v := x6) (lv' := [(3, .int x6), (2, .int x5), (0, .ref (ad 0)), (1, .int v1)]) hx hb dX6_idle_60 hl (k := 3) rfl (by rw [ex6]; rfl) (by decide) rfl (fun ls hl => ?_)
      refine lv_goto (tgt := 29) hx hb dX6_idle_63 (by decide) ?_
      exact hB _ _ _ _ (Option.some.inj h).symm _ _ _ G (lv_sub hl [2, 3, 1, 0] rfl)
noncomputable def f_X6_idle_L29_29s (q : Int32 × Int32 × Int32 × XS) : Option ((Int32 × Int32 × Int32 × XS) ⊕ ((Int32 × XS) ⊕ (Int32 × XS))) := f_X6_idle_L29_29 q.1 q.2.1 q.2.2.1 q.2.2.2
set_option maxRecDepth 100000 in
set_option maxHeartbeats 4000000 in
theorem w_X6_idle_L29_29 (X : cx p s m args meth c cX6_idle 4 RX6 (some .int)) (K : kx D cI cZ cQ adK adV A s s.heap) {e0 : (Int32 × XS) ⊕ (Int32 × XS)} : ∀ (n : Nat) (v1 : Int32) (v2 : Int32) (v3 : Int32) (u : XS) {H : Heap} {locs : List Loc} {ls : Array Slot}, wh f_X6_idle_L29_29s n (v1, v2, v3, u) = some e0 → wg D A s.heap H locs (wX cI cZ cQ ad u) → lv_has ls 4 [(0, .ref (ad 0)), (1, .int v1), (2, .int v2), (3, .int v3)] → (∀ (v2 : Int32) (u : XS), e0 = .inr (v2, u) → ∀ (H : Heap) (locs : List Loc) (ls : Array Slot), wg D A s.heap H locs (wX cI cZ cQ ad u) → lv_has ls 4 [(0, .ref (ad 0)), (2, .int v2)] → W p l e { frames := 2, cells := 0, slots := 0, locals := 43 } s m args below meth c H locs 0 0 Q (F0 m 66 ls [])) → (∀ (r : Int32) (u : XS), e0 = .inl (r, u) → Q = (qI D A (wX cI cZ cQ ad) below args s r u)) → W p l e { frames := 2, cells := 0, slots := 0, locals := 43 } s m args below meth c H locs 0 0 Q (F0 m 29 ls []) := by
  intro n
  induction n with
  | zero => intro v1 v2 v3 u H locs ls h; cases h
  | succ n ih =>
    intro v1 v2 v3 u H locs ls h G hl hX hR
    obtain ⟨q, h1, h2, h3⟩ := wh_at h
    exact b_X6_idle_L29_29 X K G hl (show f_X6_idle_L29_29 v1 v2 v3 u = some q from h1) (fun b0 b1 b2 b3 ee H locs ls G hl => ih b0 b1 b2 b3 (h2 _ ee) G hl hX hR) (fun z0 z1 ee => hX z0 z1 (h3 _ ee).symm) (fun r u ee => hR r u (h3 _ ee).symm)
noncomputable def f_X6_idle (a1 : Int32) (u0 : XS) : Option (Int32 × XS) :=
  bnd (f_X6_within a1 (0 : Int32) (((1 : Int32) <<< ((tTools (xT u0)) &&& 31)) - (1 : Int32)) u0) fun r1 u2 =>
  (if r1 = 0 then
    bnd (f_X6_found (0 : Int32) u2) fun r10 u11 =>
    some (r10, u11)
  else
    bne (wl f_X6_idle_L29_29s (a1, (0 : Int32), (0 : Int32), u2)) (fun a => some a) fun b =>
      nmv b.1 fun y7 =>
      nmv b.2 fun u6 =>
      bnd (f_X5_wholeRound  u6) fun r8 u9 =>
      some (r8 &&& (y7 ^^^ (-1 : Int32)), u9))
set_option maxRecDepth 100000 in
set_option maxHeartbeats 4000000 in
theorem c_X6_idle {a1 : Int32} {u0 : XS} {r : Int32} {u' : XS} (h : f_X6_idle a1 u0 = some (r, u')) : MI l D cI cZ cQ adK adV A yX6_idle cX6_idle 4 (some .int) { frames := 2, cells := 0, slots := 0, locals := 43 } [.ref (ad 0), .int a1] (wX cI cZ cQ ad) u0 r u' := by
  unfold f_X6_idle at h
  refine entI (by decide) (Nat.le_of_ble_eq_true rfl) (fun p e s m below meth c ls X K G hl => ?_)
  have hl : lv_has ls 4 [(0, .ref (ad 0)), (1, .int a1)] := hl
  obtain ⟨hx, hb, -⟩ := id X
  generalize hH : s.heap = H at G
  subst hH
  refine lv_iload_n hx hb dX6_idle_0 rfl (lv_at hl 1 rfl) ?_
  refine lv_iconst (v := 0) hx hb dX6_idle_1 (by decide) ?_
  refine lv_iconst (v := 1) hx hb dX6_idle_2 (by decide) ?_
  refine lv_aload_n hx hb dX6_idle_3 rfl (lv_at hl 0 rfl) ?_
  refine gX_0_0 X K G q_300 dX6_idle_4 ?_
  refine gX_1_3 X K G q_114 dX6_idle_7 ?_
  refine lv_ishl hx hb dX6_idle_10 ?_
  refine lv_iconst (v := 1) hx hb dX6_idle_11 (by decide) ?_
  refine lv_isub hx hb dX6_idle_12 ?_
  obtain ⟨r1, u2, er1, h⟩ := bnd_at h
  refine csI (rest := []) X K G (c_X6_within er1) q_335 my_X6_within ⟨rfl, rfl⟩ ⟨Nat.le_of_ble_eq_true rfl, Nat.le_of_ble_eq_true rfl⟩ ⟨Nat.zero_le _, Nat.zero_le _⟩ rfl hl.1 rfl (Nat.le_of_ble_eq_true rfl) dX6_idle_13 (fun H locs G => ?_)
  clear er1
  refine lv_if_ne (tgt := 25) hx hb dX6_idle_16 (by decide) (fun c3 => ?_) (fun c3 => ?_)
  · have h := if_at c3 h
    refine lv_iconst (v := 0) hx hb dX6_idle_25 (by decide) ?_
    refine lv_istore_n (lv' := [(2, .int (0 : Int32)), (0, .ref (ad 0)), (1, .int a1)]) hx hb dX6_idle_26 rfl hl (by decide) rfl (fun ls hl => ?_)
    refine lv_iconst (v := 0) hx hb dX6_idle_27 (by decide) ?_
    refine lv_istore_n (lv' := [(3, .int (0 : Int32)), (2, .int (0 : Int32)), (0, .ref (ad 0)), (1, .int a1)]) hx hb dX6_idle_28 rfl hl (by decide) rfl (fun ls hl => ?_)
    obtain ⟨q5, hq5, ha, hb1⟩ := bne_at h
    obtain ⟨n4, hn4⟩ := wl_iff.mp hq5
    refine w_X6_idle_L29_29 X K n4 _ _ _ _ hn4 G (lv_sub hl [2, 3, 1, 0] rfl) (fun y7 u6 ee H locs ls G hl => ?_) (fun r u1 ee => by obtain ⟨rfl, rfl⟩ := pair_at (ha _ ee); rfl)
    have h := hb1 _ ee
    clear ee ha hb1 hq5 hn4
    have h := nm_at (x := y7) rfl h
    have h := nm_at (x := u6) rfl h
    refine lv_aload_n hx hb dX6_idle_66 rfl (lv_at hl 0 rfl) ?_
    refine gX_0_0 X K G q_300 dX6_idle_67 ?_
    obtain ⟨r8, u9, er8, h⟩ := bnd_at h
    refine cvI (rest := []) X K G (c_X5_wholeRound er8) q_790 my_X5_wholeRound ⟨rfl, rfl⟩ ⟨Nat.le_of_ble_eq_true rfl, Nat.le_of_ble_eq_true rfl⟩ ⟨Nat.zero_le _, Nat.zero_le _⟩ 1 5 rfl rfl rfl rfl hl.1 rfl (Nat.le_of_ble_eq_true rfl) dX6_idle_70 (fun H locs G => ?_)
    clear er8
    refine lv_iload_n hx hb dX6_idle_73 rfl (lv_at hl 1 rfl) ?_
    refine lv_iconst (v := -1) hx hb dX6_idle_74 (by decide) ?_
    refine lv_ixor hx hb dX6_idle_75 ?_
    refine lv_iand hx hb dX6_idle_76 ?_
    obtain ⟨rfl, rfl⟩ := pair_at h
    exact reI X G dX6_idle_77
  · have h := it_at c3 h
    refine lv_aload_n hx hb dX6_idle_19 rfl (lv_at hl 0 rfl) ?_
    refine lv_iconst (v := 0) hx hb dX6_idle_20 (by decide) ?_
    obtain ⟨r10, u11, er10, h⟩ := bnd_at h
    refine cvI (rest := []) X K G (c_X6_found er10) q_338 my_X6_found ⟨rfl, rfl⟩ ⟨Nat.le_of_ble_eq_true rfl, Nat.le_of_ble_eq_true rfl⟩ ⟨Nat.zero_le _, Nat.zero_le _⟩ 0 6 rfl rfl rfl rfl hl.1 rfl (Nat.le_of_ble_eq_true rfl) dX6_idle_21 (fun H locs G => ?_)
    clear er10
    obtain ⟨rfl, rfl⟩ := pair_at h
    exact reI X G dX6_idle_24
noncomputable def f_X5_goneOn (a1 : Int32) (a2 : Int32) (u0 : XS) : Option (Int32 × XS) :=
  bnd (f_X5_wholeRound  u0) fun r1 u2 =>
  nmv (a1 &&& r1) fun x3 =>
  bnd (f_X5_wholeRound  u2) fun r4 u5 =>
  some (((x3 <<< (a2 &&& 31)) ||| (x3 >>> (((tRound (xT u2)) - a2) &&& 31))) &&& r4, u5)
set_option maxRecDepth 100000 in
set_option maxHeartbeats 4000000 in
theorem c_X5_goneOn {a1 : Int32} {a2 : Int32} {u0 : XS} {r : Int32} {u' : XS} (h : f_X5_goneOn a1 a2 u0 = some (r, u')) : MI l D cI cZ cQ adK adV A yX5_goneOn cX5_goneOn 4 (some .int) { frames := 1, cells := 0, slots := 0, locals := 20 } [.ref (ad 1), .int a1, .int a2] (wX cI cZ cQ ad) u0 r u' := by
  unfold f_X5_goneOn at h
  refine entI (by decide) (Nat.le_of_ble_eq_true rfl) (fun p e s m below meth c ls X K G hl => ?_)
  have hl : lv_has ls 4 [(0, .ref (ad 1)), (1, .int a1), (2, .int a2)] := hl
  obtain ⟨hx, hb, -⟩ := id X
  generalize hH : s.heap = H at G
  subst hH
  refine lv_iload_n hx hb dX5_goneOn_0 rfl (lv_at hl 1 rfl) ?_
  refine lv_aload_n hx hb dX5_goneOn_1 rfl (lv_at hl 0 rfl) ?_
  obtain ⟨r1, u2, er1, h⟩ := bnd_at h
  refine cvI (rest := [.int a1]) X K G (c_X5_wholeRound er1) q_771 my_X5_wholeRound ⟨rfl, rfl⟩ ⟨Nat.le_of_ble_eq_true rfl, Nat.le_of_ble_eq_true rfl⟩ ⟨Nat.zero_le _, Nat.zero_le _⟩ 1 5 rfl rfl rfl rfl hl.1 rfl (Nat.le_of_ble_eq_true rfl) dX5_goneOn_2 (fun H locs G => ?_)
  clear er1
  refine lv_iand hx hb dX5_goneOn_5 ?_
  refine lv_topi (fun x3 ex3 => ?_)
  have h := nm_at ex3 h
  refine lv_istore_n (lv' := [(3, .int x3), (0, .ref (ad 1)), (1, .int a1), (2, .int a2)]) hx hb dX5_goneOn_6 rfl hl (by decide) rfl (fun ls hl => ?_)
  refine lv_iload_n hx hb dX5_goneOn_7 rfl (lv_at hl 0 rfl) ?_
  refine lv_iload_n hx hb dX5_goneOn_8 rfl (lv_at hl 3 rfl) ?_
  refine lv_ishl hx hb dX5_goneOn_9 ?_
  refine lv_iload_n hx hb dX5_goneOn_10 rfl (lv_at hl 0 rfl) ?_
  refine lv_aload_n hx hb dX5_goneOn_11 rfl (lv_at hl 1 rfl) ?_
  refine gX_1_0 X K G q_101 dX5_goneOn_12 ?_
  refine lv_iload_n hx hb dX5_goneOn_15 rfl (lv_at hl 3 rfl) ?_
  refine lv_isub hx hb dX5_goneOn_16 ?_
  refine lv_ishr hx hb dX5_goneOn_17 ?_
  refine lv_ior hx hb dX5_goneOn_18 ?_
  refine lv_aload_n hx hb dX5_goneOn_19 rfl (lv_at hl 1 rfl) ?_
  obtain ⟨r4, u5, er4, h⟩ := bnd_at h
  refine cvI (rest := [.int ((x3 <<< (a2 &&& 31)) ||| (x3 >>> (((tRound (xT u2)) - a2) &&& 31)))]) X K G (c_X5_wholeRound er4) q_771 my_X5_wholeRound ⟨rfl, rfl⟩ ⟨Nat.le_of_ble_eq_true rfl, Nat.le_of_ble_eq_true rfl⟩ ⟨Nat.zero_le _, Nat.zero_le _⟩ 1 5 rfl rfl rfl rfl hl.1 rfl (Nat.le_of_ble_eq_true rfl) dX5_goneOn_20 (fun H locs G => ?_)
  clear er4
  refine lv_iand hx hb dX5_goneOn_23 ?_
  obtain ⟨rfl, rfl⟩ := pair_at h
  exact reI X G dX5_goneOn_24
noncomputable def f_X6_turned_L75_75 (v1 : Int32) (v2 : Int32) (v3 : Int32) (v4 : Int32) (v5 : Int32) (v6 : Int32) (u0 : XS) : Option ((Int32 × Int32 × Int32 × Int32 × Int32 × Int32 × XS) ⊕ ((Int32 × XS) ⊕ (Int32 × Int32 × Int32 × Int32 × Int32 × XS))) :=
  (if (tRound (xT u0)) ≤ v6 then
    some (.inr (.inr (v1, v2, v3, v4, v5, u0)))
  else
    bnd (f_X5_goneOn v5 v6 u0) fun r2 u3 =>
    if v4 < 0 ∨ 8 ≤ v4.toNatClampNeg then none else
    nmv (sT u3 (uDays (xT u3) (upd (tDays (xT u3)) v4.toNatClampNeg r2))) fun u5 =>
    bnd (f_X0_readyFrom v1 (0 : Int32) u5) fun r6 u7 =>
    bnd (f_X6_isSooner r6 v2 u7) fun r8 u9 =>
    (if r8 = 0 then
      nmv (v6 + (1 : Int32)) fun x11 =>
      some (.inl (v1, v2, v3, v4, v5, x11, u9))
    else
      nmv (((100 : Int32) * v4) + v6) fun x12 =>
      nmv (v6 + (1 : Int32)) fun x13 =>
      some (.inl (v1, r6, x12, v4, v5, x13, u9))))
set_option maxRecDepth 100000 in
set_option maxHeartbeats 4000000 in
theorem b_X6_turned_L75_75 (X : cx p s m args meth c cX6_turned 8 RX6 (some .int)) (K : kx D cI cZ cQ adK adV A s s.heap) {v1 : Int32} {v2 : Int32} {v3 : Int32} {v4 : Int32} {v5 : Int32} {v6 : Int32} {u0 : XS} (G : wg D A s.heap H locs (wX cI cZ cQ ad u0)) (hl : lv_has ls 8 [(0, .ref (ad 0)), (1, .int v1), (2, .int v2), (3, .int v3), (4, .int v4), (5, .int v5), (6, .int v6)]) {q : ((Int32 × Int32 × Int32 × Int32 × Int32 × Int32 × XS) ⊕ ((Int32 × XS) ⊕ (Int32 × Int32 × Int32 × Int32 × Int32 × XS)))} (h : f_X6_turned_L75_75 v1 v2 v3 v4 v5 v6 u0 = some q) (hB : ∀ (v1 : Int32) (v2 : Int32) (v3 : Int32) (v4 : Int32) (v5 : Int32) (v6 : Int32) (u : XS), q = .inl (v1, v2, v3, v4, v5, v6, u) → ∀ (H : Heap) (locs : List Loc) (ls : Array Slot), wg D A s.heap H locs (wX cI cZ cQ ad u) → lv_has ls 8 [(0, .ref (ad 0)), (1, .int v1), (2, .int v2), (3, .int v3), (4, .int v4), (5, .int v5), (6, .int v6)] → W p l e { frames := 6, cells := 0, slots := 0, locals := 145 } s m args below meth c H locs 0 0 Q (F0 m 75 ls [])) (hX : ∀ (v1 : Int32) (v2 : Int32) (v3 : Int32) (v4 : Int32) (v5 : Int32) (u : XS), q = .inr (.inr (v1, v2, v3, v4, v5, u)) → ∀ (H : Heap) (locs : List Loc) (ls : Array Slot), wg D A s.heap H locs (wX cI cZ cQ ad u) → lv_has ls 8 [(0, .ref (ad 0)), (1, .int v1), (2, .int v2), (3, .int v3), (4, .int v4), (5, .int v5)] → W p l e { frames := 6, cells := 0, slots := 0, locals := 145 } s m args below meth c H locs 0 0 Q (F0 m 146 ls [])) (hR : ∀ (r : Int32) (u : XS), q = .inr (.inl (r, u)) → Q = (qI D A (wX cI cZ cQ ad) below args s r u)) : W p l e { frames := 6, cells := 0, slots := 0, locals := 145 } s m args below meth c H locs 0 0 Q (F0 m 75 ls []) := by
  unfold f_X6_turned_L75_75 at h
  obtain ⟨hx, hb, -⟩ := id X
  refine lv_iload hx hb dX6_turned_75 (lv_at hl 6 rfl) ?_
  refine lv_aload_n hx hb dX6_turned_77 rfl (lv_at hl 0 rfl) ?_
  refine gX_0_0 X K G q_300 dX6_turned_78 ?_
  refine gX_1_0 X K G q_105 dX6_turned_81 ?_
  refine lv_icmp_ge (tgt := 146) hx hb dX6_turned_84 (by decide) (fun c1 => ?_) (fun c1 => ?_)
  · have h := it_at c1 h
    exact hX _ _ _ _ _ _ (Option.some.inj h).symm _ _ _ G (lv_sub hl [0, 1, 2, 3, 4, 5] rfl)
  · have h := if_at c1 h
    refine lv_aload_n hx hb dX6_turned_87 rfl (lv_at hl 0 rfl) ?_
    refine gX_0_0 X K G q_300 dX6_turned_88 ?_
    refine gX_1_6 X K G q_124 dX6_turned_91 ?_
    refine lv_iload hx hb dX6_turned_94 (lv_at hl 4 rfl) ?_
    refine lv_aload_n hx hb dX6_turned_96 rfl (lv_at hl 0 rfl) ?_
    refine gX_0_0 X K G q_300 dX6_turned_97 ?_
    refine lv_iload hx hb dX6_turned_100 (lv_at hl 5 rfl) ?_
    refine lv_iload hx hb dX6_turned_102 (lv_at hl 6 rfl) ?_
    obtain ⟨r2, u3, er2, h⟩ := bnd_at h
    refine cvI (rest := [.int v4, .ref (ad 2)]) X K G (c_X5_goneOn er2) q_796 my_X5_goneOn ⟨rfl, rfl⟩ ⟨Nat.le_of_ble_eq_true rfl, Nat.le_of_ble_eq_true rfl⟩ ⟨Nat.zero_le _, Nat.zero_le _⟩ 1 5 rfl rfl rfl rfl hl.1 rfl (Nat.le_of_ble_eq_true rfl) dX6_turned_104 (fun H locs G => ?_)
    clear er2
    obtain ⟨g4, h⟩ := ck_at h
    refine aX_2 X K G g4 dX6_turned_107 (fun H locs G => ?_)
    obtain ⟨u5, eu5⟩ : ∃ z : XS, z = sT u3 (uDays (xT u3) (upd (tDays (xT u3)) v4.toNatClampNeg r2)) := ⟨_, rfl⟩
    have G : wg D A s.heap H locs (wX cI cZ cQ ad u5) := by rw [eu5]; exact G
    have h := nm_at eu5 h
    clear eu5
    refine lv_aload_n hx hb dX6_turned_108 rfl (lv_at hl 0 rfl) ?_
    refine gX_0_4 X K G q_304 dX6_turned_109 ?_
    refine lv_iload_n hx hb dX6_turned_112 rfl (lv_at hl 1 rfl) ?_
    refine lv_iconst (v := 0) hx hb dX6_turned_113 (by decide) ?_
    obtain ⟨r6, u7, er6, h⟩ := bnd_at h
    refine cvI (rest := []) X K G (c_X0_readyFrom er6) q_633 my_X0_readyFrom ⟨rfl, rfl⟩ ⟨Nat.le_of_ble_eq_true rfl, Nat.le_of_ble_eq_true rfl⟩ ⟨Nat.zero_le _, Nat.zero_le _⟩ 24 0 rfl rfl rfl rfl hl.1 rfl (Nat.le_of_ble_eq_true rfl) dX6_turned_114 (fun H locs G => ?_)
    clear er6
    refine lv_istore (lv' := [(7, .int r6), (0, .ref (ad 0)), (1, .int v1), (2, .int v2), (3, .int v3), (4, .int v4), (5, .int v5), (6, .int v6)]) hx hb dX6_turned_117 hl (by decide) rfl (fun ls hl => ?_)
    refine lv_iload hx hb dX6_turned_119 (lv_at hl 0 rfl) ?_
    refine lv_iload_n hx hb dX6_turned_121 rfl (lv_at hl 3 rfl) ?_
    obtain ⟨r8, u9, er8, h⟩ := bnd_at h
    refine csI (rest := []) X K G (c_X6_isSooner er8) q_800 my_X6_isSooner ⟨rfl, rfl⟩ ⟨Nat.le_of_ble_eq_true rfl, Nat.le_of_ble_eq_true rfl⟩ ⟨Nat.zero_le _, Nat.zero_le _⟩ rfl hl.1 rfl (Nat.le_of_ble_eq_true rfl) dX6_turned_122 (fun H locs G => ?_)
    clear er8
    refine lv_if_eq (tgt := 140) hx hb dX6_turned_125 (by decide) (fun c10 => ?_) (fun c10 => ?_)
    · have h := it_at c10 h
      obtain ⟨x11, ex11⟩ : ∃ z : Int32, z = v6 + (1 : Int32) := ⟨_, rfl⟩
      have h := nm_at ex11 h
      refine lv_iinc (v := x11) (lv' := [(6, .int x11), (7, .int r6), (0, .ref (ad 0)), (1, .int v1), (2, .int v2), (3, .int v3), (4, .int v4), (5, .int v5)]) hx hb dX6_turned_140 hl (k := 7) rfl (by rw [ex11]; rfl) (by decide) rfl (fun ls hl => ?_)
      refine lv_goto (tgt := 75) hx hb dX6_turned_143 (by decide) ?_
      exact hB _ _ _ _ _ _ _ (Option.some.inj h).symm _ _ _ G (lv_sub hl [2, 3, 4, 5, 6, 7, 0] rfl)
    · have h := if_at c10 h
      refine lv_iload hx hb dX6_turned_128 (lv_at hl 0 rfl) ?_
      refine lv_istore_n (lv' := [(2, .int r6), (7, .int r6), (0, .ref (ad 0)), (1, .int v1), (3, .int v3), (4, .int v4), (5, .int v5), (6, .int v6)]) hx hb dX6_turned_130 rfl hl (by decide) rfl (fun ls hl => ?_)
      refine lv_bipush (v := 100) hx hb dX6_turned_131 (by decide) ?_
      refine lv_iload hx hb dX6_turned_133 (lv_at hl 5 rfl) ?_
      refine lv_imul hx hb dX6_turned_135 ?_
      refine lv_iload hx hb dX6_turned_136 (lv_at hl 7 rfl) ?_
      refine lv_iadd hx hb dX6_turned_138 ?_
      refine lv_topi (fun x12 ex12 => ?_)
      have h := nm_at ex12 h
      refine lv_istore_n (lv' := [(3, .int x12), (2, .int r6), (7, .int r6), (0, .ref (ad 0)), (1, .int v1), (4, .int v4), (5, .int v5), (6, .int v6)]) hx hb dX6_turned_139 rfl hl (by decide) rfl (fun ls hl => ?_)
      obtain ⟨x13, ex13⟩ : ∃ z : Int32, z = v6 + (1 : Int32) := ⟨_, rfl⟩
      have h := nm_at ex13 h
      refine lv_iinc (v := x13) (lv' := [(6, .int x13), (3, .int x12), (2, .int r6), (7, .int r6), (0, .ref (ad 0)), (1, .int v1), (4, .int v4), (5, .int v5)]) hx hb dX6_turned_140 hl (k := 7) rfl (by rw [ex13]; rfl) (by decide) rfl (fun ls hl => ?_)
      refine lv_goto (tgt := 75) hx hb dX6_turned_143 (by decide) ?_
      exact hB _ _ _ _ _ _ _ (Option.some.inj h).symm _ _ _ G (lv_sub hl [4, 5, 2, 1, 6, 7, 0] rfl)
noncomputable def f_X6_turned_L75_75s (q : Int32 × Int32 × Int32 × Int32 × Int32 × Int32 × XS) : Option ((Int32 × Int32 × Int32 × Int32 × Int32 × Int32 × XS) ⊕ ((Int32 × XS) ⊕ (Int32 × Int32 × Int32 × Int32 × Int32 × XS))) := f_X6_turned_L75_75 q.1 q.2.1 q.2.2.1 q.2.2.2.1 q.2.2.2.2.1 q.2.2.2.2.2.1 q.2.2.2.2.2.2
set_option maxRecDepth 100000 in
set_option maxHeartbeats 4000000 in
theorem w_X6_turned_L75_75 (X : cx p s m args meth c cX6_turned 8 RX6 (some .int)) (K : kx D cI cZ cQ adK adV A s s.heap) {e0 : (Int32 × XS) ⊕ (Int32 × Int32 × Int32 × Int32 × Int32 × XS)} : ∀ (n : Nat) (v1 : Int32) (v2 : Int32) (v3 : Int32) (v4 : Int32) (v5 : Int32) (v6 : Int32) (u : XS) {H : Heap} {locs : List Loc} {ls : Array Slot}, wh f_X6_turned_L75_75s n (v1, v2, v3, v4, v5, v6, u) = some e0 → wg D A s.heap H locs (wX cI cZ cQ ad u) → lv_has ls 8 [(0, .ref (ad 0)), (1, .int v1), (2, .int v2), (3, .int v3), (4, .int v4), (5, .int v5), (6, .int v6)] → (∀ (v1 : Int32) (v2 : Int32) (v3 : Int32) (v4 : Int32) (v5 : Int32) (u : XS), e0 = .inr (v1, v2, v3, v4, v5, u) → ∀ (H : Heap) (locs : List Loc) (ls : Array Slot), wg D A s.heap H locs (wX cI cZ cQ ad u) → lv_has ls 8 [(0, .ref (ad 0)), (1, .int v1), (2, .int v2), (3, .int v3), (4, .int v4), (5, .int v5)] → W p l e { frames := 6, cells := 0, slots := 0, locals := 145 } s m args below meth c H locs 0 0 Q (F0 m 146 ls [])) → (∀ (r : Int32) (u : XS), e0 = .inl (r, u) → Q = (qI D A (wX cI cZ cQ ad) below args s r u)) → W p l e { frames := 6, cells := 0, slots := 0, locals := 145 } s m args below meth c H locs 0 0 Q (F0 m 75 ls []) := by
  intro n
  induction n with
  | zero => intro v1 v2 v3 v4 v5 v6 u H locs ls h; cases h
  | succ n ih =>
    intro v1 v2 v3 v4 v5 v6 u H locs ls h G hl hX hR
    obtain ⟨q, h1, h2, h3⟩ := wh_at h
    exact b_X6_turned_L75_75 X K G hl (show f_X6_turned_L75_75 v1 v2 v3 v4 v5 v6 u = some q from h1) (fun b0 b1 b2 b3 b4 b5 b6 ee H locs ls G hl => ih b0 b1 b2 b3 b4 b5 b6 (h2 _ ee) G hl hX hR) (fun z0 z1 z2 z3 z4 z5 ee => hX z0 z1 z2 z3 z4 z5 (h3 _ ee).symm) (fun r u ee => hR r u (h3 _ ee).symm)
noncomputable def f_X6_turned_L32_32 (v1 : Int32) (v2 : Int32) (v3 : Int32) (v4 : Int32) (u0 : XS) : Option ((Int32 × Int32 × Int32 × Int32 × XS) ⊕ ((Int32 × XS) ⊕ (Int32 × XS))) :=
  (if (tTools (xT u0)) ≤ v4 then
    some (.inr (.inr (v3, u0)))
  else
    bnd (f_X5_hoursWith v1 v4 u0) fun r2 u3 =>
    (if r2 = 0 then
      nmv (v4 + (1 : Int32)) fun x18 =>
      some (.inl (v1, v2, v3, x18, u3))
    else
      if v4 < 0 ∨ 8 ≤ v4.toNatClampNeg then none else
      nmv ((tDays (xT u3)) v4.toNatClampNeg) fun x6 =>
      bne (wl f_X6_turned_L75_75s (v1, v2, v3, v4, x6, (1 : Int32), u3)) (fun a => some (.inr (.inl a))) fun b =>
        nmv b.1 fun y10 =>
        nmv b.2.1 fun y11 =>
        nmv b.2.2.1 fun y12 =>
        nmv b.2.2.2.1 fun y13 =>
        nmv b.2.2.2.2.1 fun y14 =>
        nmv b.2.2.2.2.2 fun u9 =>
        if y13 < 0 ∨ 8 ≤ y13.toNatClampNeg then none else
        nmv (sT u9 (uDays (xT u9) (upd (tDays (xT u9)) y13.toNatClampNeg y14))) fun u16 =>
        nmv (y13 + (1 : Int32)) fun x17 =>
        some (.inl (y10, y11, y12, x17, u16))))
set_option maxRecDepth 100000 in
set_option maxHeartbeats 4000000 in
theorem b_X6_turned_L32_32 (X : cx p s m args meth c cX6_turned 8 RX6 (some .int)) (K : kx D cI cZ cQ adK adV A s s.heap) {v1 : Int32} {v2 : Int32} {v3 : Int32} {v4 : Int32} {u0 : XS} (G : wg D A s.heap H locs (wX cI cZ cQ ad u0)) (hl : lv_has ls 8 [(0, .ref (ad 0)), (1, .int v1), (2, .int v2), (3, .int v3), (4, .int v4)]) {q : ((Int32 × Int32 × Int32 × Int32 × XS) ⊕ ((Int32 × XS) ⊕ (Int32 × XS)))} (h : f_X6_turned_L32_32 v1 v2 v3 v4 u0 = some q) (hB : ∀ (v1 : Int32) (v2 : Int32) (v3 : Int32) (v4 : Int32) (u : XS), q = .inl (v1, v2, v3, v4, u) → ∀ (H : Heap) (locs : List Loc) (ls : Array Slot), wg D A s.heap H locs (wX cI cZ cQ ad u) → lv_has ls 8 [(0, .ref (ad 0)), (1, .int v1), (2, .int v2), (3, .int v3), (4, .int v4)] → W p l e { frames := 6, cells := 0, slots := 0, locals := 145 } s m args below meth c H locs 0 0 Q (F0 m 32 ls [])) (hX : ∀ (v3 : Int32) (u : XS), q = .inr (.inr (v3, u)) → ∀ (H : Heap) (locs : List Loc) (ls : Array Slot), wg D A s.heap H locs (wX cI cZ cQ ad u) → lv_has ls 8 [(3, .int v3)] → W p l e { frames := 6, cells := 0, slots := 0, locals := 145 } s m args below meth c H locs 0 0 Q (F0 m 164 ls [])) (hR : ∀ (r : Int32) (u : XS), q = .inr (.inl (r, u)) → Q = (qI D A (wX cI cZ cQ ad) below args s r u)) : W p l e { frames := 6, cells := 0, slots := 0, locals := 145 } s m args below meth c H locs 0 0 Q (F0 m 32 ls []) := by
  unfold f_X6_turned_L32_32 at h
  obtain ⟨hx, hb, -⟩ := id X
  refine lv_iload hx hb dX6_turned_32 (lv_at hl 4 rfl) ?_
  refine lv_aload_n hx hb dX6_turned_34 rfl (lv_at hl 0 rfl) ?_
  refine gX_0_0 X K G q_300 dX6_turned_35 ?_
  refine gX_1_3 X K G q_114 dX6_turned_38 ?_
  refine lv_icmp_ge (tgt := 164) hx hb dX6_turned_41 (by decide) (fun c1 => ?_) (fun c1 => ?_)
  · have h := it_at c1 h
    exact hX _ _ (Option.some.inj h).symm _ _ _ G (lv_sub hl [3] rfl)
  · have h := if_at c1 h
    refine lv_aload_n hx hb dX6_turned_44 rfl (lv_at hl 0 rfl) ?_
    refine gX_0_0 X K G q_300 dX6_turned_45 ?_
    refine lv_iload_n hx hb dX6_turned_48 rfl (lv_at hl 1 rfl) ?_
    refine lv_iload hx hb dX6_turned_49 (lv_at hl 4 rfl) ?_
    obtain ⟨r2, u3, er2, h⟩ := bnd_at h
    refine cvI (rest := []) X K G (c_X5_hoursWith er2) q_795 my_X5_hoursWith ⟨rfl, rfl⟩ ⟨Nat.le_of_ble_eq_true rfl, Nat.le_of_ble_eq_true rfl⟩ ⟨Nat.zero_le _, Nat.zero_le _⟩ 1 5 rfl rfl rfl rfl hl.1 rfl (Nat.le_of_ble_eq_true rfl) dX6_turned_51 (fun H locs G => ?_)
    clear er2
    refine lv_if_ne (tgt := 60) hx hb dX6_turned_54 (by decide) (fun c4 => ?_) (fun c4 => ?_)
    · have h := if_at c4 h
      refine lv_aload_n hx hb dX6_turned_60 rfl (lv_at hl 0 rfl) ?_
      refine gX_0_0 X K G q_300 dX6_turned_61 ?_
      refine gX_1_6 X K G q_124 dX6_turned_64 ?_
      refine lv_iload hx hb dX6_turned_67 (lv_at hl 4 rfl) ?_
      obtain ⟨g5, h⟩ := ck_at h
      refine lX_2 X K G g5 dX6_turned_69 ?_
      refine lv_topi (fun x6 ex6 => ?_)
      have h := nm_at ex6 h
      refine lv_istore (lv' := [(5, .int x6), (0, .ref (ad 0)), (1, .int v1), (2, .int v2), (3, .int v3), (4, .int v4)]) hx hb dX6_turned_70 hl (by decide) rfl (fun ls hl => ?_)
      refine lv_iconst (v := 1) hx hb dX6_turned_72 (by decide) ?_
      refine lv_istore (lv' := [(6, .int (1 : Int32)), (5, .int x6), (0, .ref (ad 0)), (1, .int v1), (2, .int v2), (3, .int v3), (4, .int v4)]) hx hb dX6_turned_73 hl (by decide) rfl (fun ls hl => ?_)
      obtain ⟨q8, hq8, ha, hb1⟩ := bne_at h
      obtain ⟨n7, hn7⟩ := wl_iff.mp hq8
      refine w_X6_turned_L75_75 X K n7 _ _ _ _ _ _ _ hn7 G (lv_sub hl [2, 3, 4, 5, 6, 1, 0] rfl) (fun y10 y11 y12 y13 y14 u9 ee H locs ls G hl => ?_) (fun r u1 ee => hR _ _ (Option.some.inj (ha _ ee)).symm)
      have h := hb1 _ ee
      clear ee ha hb1 hq8 hn7
      have h := nm_at (x := y10) rfl h
      have h := nm_at (x := y11) rfl h
      have h := nm_at (x := y12) rfl h
      have h := nm_at (x := y13) rfl h
      have h := nm_at (x := y14) rfl h
      have h := nm_at (x := u9) rfl h
      refine lv_aload_n hx hb dX6_turned_146 rfl (lv_at hl 0 rfl) ?_
      refine gX_0_0 X K G q_300 dX6_turned_147 ?_
      refine gX_1_6 X K G q_124 dX6_turned_150 ?_
      refine lv_iload hx hb dX6_turned_153 (lv_at hl 4 rfl) ?_
      refine lv_iload hx hb dX6_turned_155 (lv_at hl 5 rfl) ?_
      obtain ⟨g15, h⟩ := ck_at h
      refine aX_2 X K G g15 dX6_turned_157 (fun H locs G => ?_)
      obtain ⟨u16, eu16⟩ : ∃ z : XS, z = sT u9 (uDays (xT u9) (upd (tDays (xT u9)) y13.toNatClampNeg y14)) := ⟨_, rfl⟩
      have G : wg D A s.heap H locs (wX cI cZ cQ ad u16) := by rw [eu16]; exact G
      have h := nm_at eu16 h
      clear eu16
      obtain ⟨x17, ex17⟩ : ∃ z : Int32, z = y13 + (1 : Int32) := ⟨_, rfl⟩
      have h := nm_at ex17 h
      refine lv_iinc (v := x17) (lv' := [(4, .int x17), (0, .ref (ad 0)), (1, .int y10), (2, .int y11), (3, .int y12), (5, .int y14)]) hx hb dX6_turned_158 hl (k := 4) rfl (by rw [ex17]; rfl) (by decide) rfl (fun ls hl => ?_)
      refine lv_goto (tgt := 32) hx hb dX6_turned_161 (by decide) ?_
      exact hB _ _ _ _ _ (Option.some.inj h).symm _ _ _ G (lv_sub hl [1, 2, 3, 4, 0] rfl)
    · have h := it_at c4 h
      refine lv_goto (tgt := 158) hx hb dX6_turned_57 (by decide) ?_
      obtain ⟨x18, ex18⟩ : ∃ z : Int32, z = v4 + (1 : Int32) := ⟨_, rfl⟩
      have h := nm_at ex18 h
      refine lv_iinc (v := x18) (lv' := [(4, .int x18), (0, .ref (ad 0)), (1, .int v1), (2, .int v2), (3, .int v3)]) hx hb dX6_turned_158 hl (k := 4) rfl (by rw [ex18]; rfl) (by decide) rfl (fun ls hl => ?_)
      refine lv_goto (tgt := 32) hx hb dX6_turned_161 (by decide) ?_
      exact hB _ _ _ _ _ (Option.some.inj h).symm _ _ _ G (lv_sub hl [1, 2, 3, 4, 0] rfl)
noncomputable def f_X6_turned_L32_32s (q : Int32 × Int32 × Int32 × Int32 × XS) : Option ((Int32 × Int32 × Int32 × Int32 × XS) ⊕ ((Int32 × XS) ⊕ (Int32 × XS))) := f_X6_turned_L32_32 q.1 q.2.1 q.2.2.1 q.2.2.2.1 q.2.2.2.2
set_option maxRecDepth 100000 in
set_option maxHeartbeats 4000000 in
theorem w_X6_turned_L32_32 (X : cx p s m args meth c cX6_turned 8 RX6 (some .int)) (K : kx D cI cZ cQ adK adV A s s.heap) {e0 : (Int32 × XS) ⊕ (Int32 × XS)} : ∀ (n : Nat) (v1 : Int32) (v2 : Int32) (v3 : Int32) (v4 : Int32) (u : XS) {H : Heap} {locs : List Loc} {ls : Array Slot}, wh f_X6_turned_L32_32s n (v1, v2, v3, v4, u) = some e0 → wg D A s.heap H locs (wX cI cZ cQ ad u) → lv_has ls 8 [(0, .ref (ad 0)), (1, .int v1), (2, .int v2), (3, .int v3), (4, .int v4)] → (∀ (v3 : Int32) (u : XS), e0 = .inr (v3, u) → ∀ (H : Heap) (locs : List Loc) (ls : Array Slot), wg D A s.heap H locs (wX cI cZ cQ ad u) → lv_has ls 8 [(3, .int v3)] → W p l e { frames := 6, cells := 0, slots := 0, locals := 145 } s m args below meth c H locs 0 0 Q (F0 m 164 ls [])) → (∀ (r : Int32) (u : XS), e0 = .inl (r, u) → Q = (qI D A (wX cI cZ cQ ad) below args s r u)) → W p l e { frames := 6, cells := 0, slots := 0, locals := 145 } s m args below meth c H locs 0 0 Q (F0 m 32 ls []) := by
  intro n
  induction n with
  | zero => intro v1 v2 v3 v4 u H locs ls h; cases h
  | succ n ih =>
    intro v1 v2 v3 v4 u H locs ls h G hl hX hR
    obtain ⟨q, h1, h2, h3⟩ := wh_at h
    exact b_X6_turned_L32_32 X K G hl (show f_X6_turned_L32_32 v1 v2 v3 v4 u = some q from h1) (fun b0 b1 b2 b3 b4 ee H locs ls G hl => ih b0 b1 b2 b3 b4 (h2 _ ee) G hl hX hR) (fun z0 z1 ee => hX z0 z1 (h3 _ ee).symm) (fun r u ee => hR r u (h3 _ ee).symm)
noncomputable def f_X6_turned (a1 : Int32) (u0 : XS) : Option (Int32 × XS) :=
  bnd (f_X5_hasThing a1 u0) fun r1 u2 =>
  (if r1 = 0 then
    bnd (f_X6_found (0 : Int32) u2) fun r10 u11 =>
    some (r10, u11)
  else
    bnd (f_X0_readyFrom a1 (0 : Int32) u2) fun r4 u5 =>
    bne (wl f_X6_turned_L32_32s (a1, r4, (0 : Int32), (0 : Int32), u5)) (fun a => some a) fun b =>
      nmv b.1 fun y9 =>
      nmv b.2 fun u8 =>
      some (y9, u8))
set_option maxRecDepth 100000 in
set_option maxHeartbeats 4000000 in
theorem c_X6_turned {a1 : Int32} {u0 : XS} {r : Int32} {u' : XS} (h : f_X6_turned a1 u0 = some (r, u')) : MI l D cI cZ cQ adK adV A yX6_turned cX6_turned 8 (some .int) { frames := 6, cells := 0, slots := 0, locals := 145 } [.ref (ad 0), .int a1] (wX cI cZ cQ ad) u0 r u' := by
  unfold f_X6_turned at h
  refine entI (by decide) (Nat.le_of_ble_eq_true rfl) (fun p e s m below meth c ls X K G hl => ?_)
  have hl : lv_has ls 8 [(0, .ref (ad 0)), (1, .int a1)] := hl
  obtain ⟨hx, hb, -⟩ := id X
  generalize hH : s.heap = H at G
  subst hH
  refine lv_aload_n hx hb dX6_turned_0 rfl (lv_at hl 0 rfl) ?_
  refine gX_0_0 X K G q_300 dX6_turned_1 ?_
  refine lv_iload_n hx hb dX6_turned_4 rfl (lv_at hl 1 rfl) ?_
  obtain ⟨r1, u2, er1, h⟩ := bnd_at h
  refine cvI (rest := []) X K G (c_X5_hasThing er1) q_553 my_X5_hasThing ⟨rfl, rfl⟩ ⟨Nat.le_of_ble_eq_true rfl, Nat.le_of_ble_eq_true rfl⟩ ⟨Nat.zero_le _, Nat.zero_le _⟩ 1 5 rfl rfl rfl rfl hl.1 rfl (Nat.le_of_ble_eq_true rfl) dX6_turned_5 (fun H locs G => ?_)
  clear er1
  refine lv_if_ne (tgt := 17) hx hb dX6_turned_8 (by decide) (fun c3 => ?_) (fun c3 => ?_)
  · have h := if_at c3 h
    refine lv_aload_n hx hb dX6_turned_17 rfl (lv_at hl 0 rfl) ?_
    refine gX_0_4 X K G q_304 dX6_turned_18 ?_
    refine lv_iload_n hx hb dX6_turned_21 rfl (lv_at hl 1 rfl) ?_
    refine lv_iconst (v := 0) hx hb dX6_turned_22 (by decide) ?_
    obtain ⟨r4, u5, er4, h⟩ := bnd_at h
    refine cvI (rest := []) X K G (c_X0_readyFrom er4) q_633 my_X0_readyFrom ⟨rfl, rfl⟩ ⟨Nat.le_of_ble_eq_true rfl, Nat.le_of_ble_eq_true rfl⟩ ⟨Nat.zero_le _, Nat.zero_le _⟩ 24 0 rfl rfl rfl rfl hl.1 rfl (Nat.le_of_ble_eq_true rfl) dX6_turned_23 (fun H locs G => ?_)
    clear er4
    refine lv_istore_n (lv' := [(2, .int r4), (0, .ref (ad 0)), (1, .int a1)]) hx hb dX6_turned_26 rfl hl (by decide) rfl (fun ls hl => ?_)
    refine lv_iconst (v := 0) hx hb dX6_turned_27 (by decide) ?_
    refine lv_istore_n (lv' := [(3, .int (0 : Int32)), (2, .int r4), (0, .ref (ad 0)), (1, .int a1)]) hx hb dX6_turned_28 rfl hl (by decide) rfl (fun ls hl => ?_)
    refine lv_iconst (v := 0) hx hb dX6_turned_29 (by decide) ?_
    refine lv_istore (lv' := [(4, .int (0 : Int32)), (3, .int (0 : Int32)), (2, .int r4), (0, .ref (ad 0)), (1, .int a1)]) hx hb dX6_turned_30 hl (by decide) rfl (fun ls hl => ?_)
    obtain ⟨q7, hq7, ha, hb1⟩ := bne_at h
    obtain ⟨n6, hn6⟩ := wl_iff.mp hq7
    refine w_X6_turned_L32_32 X K n6 _ _ _ _ _ hn6 G (lv_sub hl [3, 4, 2, 1, 0] rfl) (fun y9 u8 ee H locs ls G hl => ?_) (fun r u1 ee => by obtain ⟨rfl, rfl⟩ := pair_at (ha _ ee); rfl)
    have h := hb1 _ ee
    clear ee ha hb1 hq7 hn6
    have h := nm_at (x := y9) rfl h
    have h := nm_at (x := u8) rfl h
    refine lv_iload_n hx hb dX6_turned_164 rfl (lv_at hl 0 rfl) ?_
    obtain ⟨rfl, rfl⟩ := pair_at h
    exact reI X G dX6_turned_165
  · have h := it_at c3 h
    refine lv_aload_n hx hb dX6_turned_11 rfl (lv_at hl 0 rfl) ?_
    refine lv_iconst (v := 0) hx hb dX6_turned_12 (by decide) ?_
    obtain ⟨r10, u11, er10, h⟩ := bnd_at h
    refine cvI (rest := []) X K G (c_X6_found er10) q_338 my_X6_found ⟨rfl, rfl⟩ ⟨Nat.le_of_ble_eq_true rfl, Nat.le_of_ble_eq_true rfl⟩ ⟨Nat.zero_le _, Nat.zero_le _⟩ 0 6 rfl rfl rfl rfl hl.1 rfl (Nat.le_of_ble_eq_true rfl) dX6_turned_13 (fun H locs G => ?_)
    clear er10
    obtain ⟨rfl, rfl⟩ := pair_at h
    exact reI X G dX6_turned_16
noncomputable def f_X6_roundFor_L45_45 (v1 : Int32) (v2 : Int32) (v3 : Int32) (v4 : Int32) (v5 : Int32) (v6 : Int32) (u0 : XS) : Option ((Int32 × Int32 × Int32 × Int32 × Int32 × Int32 × XS) ⊕ ((Int32 × XS) ⊕ (Int32 × Int32 × Int32 × XS))) :=
  (if (12 : Int32) < v6 then
    some (.inr (.inr (v3, v4, v5, u0)))
  else
    nmv (sT u0 (uRound (xT u0) v6)) fun u2 =>
    bnd (f_X0_readyFrom v1 v2 u2) fun r3 u4 =>
    bnd (f_X6_isSooner r3 v4 u4) fun r5 u6 =>
    (if r5 = 0 then
      nmv (v6 + (1 : Int32)) fun x8 =>
      some (.inl (v1, v2, v3, v4, v5, x8, u6))
    else
      nmv (v6 + (1 : Int32)) fun x9 =>
      some (.inl (v1, v2, v3, r3, v6, x9, u6))))
set_option maxRecDepth 100000 in
set_option maxHeartbeats 4000000 in
theorem b_X6_roundFor_L45_45 (X : cx p s m args meth c cX6_roundFor 8 RX6 (some .int)) (K : kx D cI cZ cQ adK adV A s s.heap) {v1 : Int32} {v2 : Int32} {v3 : Int32} {v4 : Int32} {v5 : Int32} {v6 : Int32} {u0 : XS} (G : wg D A s.heap H locs (wX cI cZ cQ ad u0)) (hl : lv_has ls 8 [(0, .ref (ad 0)), (1, .int v1), (2, .int v2), (3, .int v3), (4, .int v4), (5, .int v5), (6, .int v6)]) {q : ((Int32 × Int32 × Int32 × Int32 × Int32 × Int32 × XS) ⊕ ((Int32 × XS) ⊕ (Int32 × Int32 × Int32 × XS)))} (h : f_X6_roundFor_L45_45 v1 v2 v3 v4 v5 v6 u0 = some q) (hB : ∀ (v1 : Int32) (v2 : Int32) (v3 : Int32) (v4 : Int32) (v5 : Int32) (v6 : Int32) (u : XS), q = .inl (v1, v2, v3, v4, v5, v6, u) → ∀ (H : Heap) (locs : List Loc) (ls : Array Slot), wg D A s.heap H locs (wX cI cZ cQ ad u) → lv_has ls 8 [(0, .ref (ad 0)), (1, .int v1), (2, .int v2), (3, .int v3), (4, .int v4), (5, .int v5), (6, .int v6)] → W p l e { frames := 6, cells := 0, slots := 0, locals := 145 } s m args below meth c H locs 0 0 Q (F0 m 45 ls [])) (hX : ∀ (v3 : Int32) (v4 : Int32) (v5 : Int32) (u : XS), q = .inr (.inr (v3, v4, v5, u)) → ∀ (H : Heap) (locs : List Loc) (ls : Array Slot), wg D A s.heap H locs (wX cI cZ cQ ad u) → lv_has ls 8 [(0, .ref (ad 0)), (3, .int v3), (4, .int v4), (5, .int v5)] → W p l e { frames := 6, cells := 0, slots := 0, locals := 145 } s m args below meth c H locs 0 0 Q (F0 m 96 ls [])) (hR : ∀ (r : Int32) (u : XS), q = .inr (.inl (r, u)) → Q = (qI D A (wX cI cZ cQ ad) below args s r u)) : W p l e { frames := 6, cells := 0, slots := 0, locals := 145 } s m args below meth c H locs 0 0 Q (F0 m 45 ls []) := by
  unfold f_X6_roundFor_L45_45 at h
  obtain ⟨hx, hb, -⟩ := id X
  refine lv_iload hx hb dX6_roundFor_45 (lv_at hl 6 rfl) ?_
  refine lv_bipush (v := 12) hx hb dX6_roundFor_47 (by decide) ?_
  refine lv_icmp_gt (tgt := 96) hx hb dX6_roundFor_49 (by decide) (fun c1 => ?_) (fun c1 => ?_)
  · have h := it_at c1 h
    exact hX _ _ _ _ (Option.some.inj h).symm _ _ _ G (lv_sub hl [0, 3, 4, 5] rfl)
  · have h := if_at c1 h
    refine lv_aload_n hx hb dX6_roundFor_52 rfl (lv_at hl 0 rfl) ?_
    refine gX_0_0 X K G q_300 dX6_roundFor_53 ?_
    refine lv_iload hx hb dX6_roundFor_56 (lv_at hl 6 rfl) ?_
    refine pX_1_0 X K G q_105 dX6_roundFor_58 (fun H locs G => ?_)
    obtain ⟨u2, eu2⟩ : ∃ z : XS, z = sT u0 (uRound (xT u0) v6) := ⟨_, rfl⟩
    have G : wg D A s.heap H locs (wX cI cZ cQ ad u2) := by rw [eu2]; exact G
    have h := nm_at eu2 h
    clear eu2
    refine lv_aload_n hx hb dX6_roundFor_61 rfl (lv_at hl 0 rfl) ?_
    refine gX_0_4 X K G q_304 dX6_roundFor_62 ?_
    refine lv_iload_n hx hb dX6_roundFor_65 rfl (lv_at hl 1 rfl) ?_
    refine lv_iload_n hx hb dX6_roundFor_66 rfl (lv_at hl 2 rfl) ?_
    obtain ⟨r3, u4, er3, h⟩ := bnd_at h
    refine cvI (rest := []) X K G (c_X0_readyFrom er3) q_633 my_X0_readyFrom ⟨rfl, rfl⟩ ⟨Nat.le_of_ble_eq_true rfl, Nat.le_of_ble_eq_true rfl⟩ ⟨Nat.zero_le _, Nat.zero_le _⟩ 24 0 rfl rfl rfl rfl hl.1 rfl (Nat.le_of_ble_eq_true rfl) dX6_roundFor_67 (fun H locs G => ?_)
    clear er3
    refine lv_istore (lv' := [(7, .int r3), (0, .ref (ad 0)), (1, .int v1), (2, .int v2), (3, .int v3), (4, .int v4), (5, .int v5), (6, .int v6)]) hx hb dX6_roundFor_70 hl (by decide) rfl (fun ls hl => ?_)
    refine lv_iload hx hb dX6_roundFor_72 (lv_at hl 0 rfl) ?_
    refine lv_iload hx hb dX6_roundFor_74 (lv_at hl 5 rfl) ?_
    obtain ⟨r5, u6, er5, h⟩ := bnd_at h
    refine csI (rest := []) X K G (c_X6_isSooner er5) q_800 my_X6_isSooner ⟨rfl, rfl⟩ ⟨Nat.le_of_ble_eq_true rfl, Nat.le_of_ble_eq_true rfl⟩ ⟨Nat.zero_le _, Nat.zero_le _⟩ rfl hl.1 rfl (Nat.le_of_ble_eq_true rfl) dX6_roundFor_76 (fun H locs G => ?_)
    clear er5
    refine lv_if_eq (tgt := 90) hx hb dX6_roundFor_79 (by decide) (fun c7 => ?_) (fun c7 => ?_)
    · have h := it_at c7 h
      obtain ⟨x8, ex8⟩ : ∃ z : Int32, z = v6 + (1 : Int32) := ⟨_, rfl⟩
      have h := nm_at ex8 h
      refine lv_iinc (v := x8) (lv' := [(6, .int x8), (7, .int r3), (0, .ref (ad 0)), (1, .int v1), (2, .int v2), (3, .int v3), (4, .int v4), (5, .int v5)]) hx hb dX6_roundFor_90 hl (k := 7) rfl (by rw [ex8]; rfl) (by decide) rfl (fun ls hl => ?_)
      refine lv_goto (tgt := 45) hx hb dX6_roundFor_93 (by decide) ?_
      exact hB _ _ _ _ _ _ _ (Option.some.inj h).symm _ _ _ G (lv_sub hl [2, 3, 4, 5, 6, 7, 0] rfl)
    · have h := if_at c7 h
      refine lv_iload hx hb dX6_roundFor_82 (lv_at hl 0 rfl) ?_
      refine lv_istore (lv' := [(4, .int r3), (7, .int r3), (0, .ref (ad 0)), (1, .int v1), (2, .int v2), (3, .int v3), (5, .int v5), (6, .int v6)]) hx hb dX6_roundFor_84 hl (by decide) rfl (fun ls hl => ?_)
      refine lv_iload hx hb dX6_roundFor_86 (lv_at hl 7 rfl) ?_
      refine lv_istore (lv' := [(5, .int v6), (4, .int r3), (7, .int r3), (0, .ref (ad 0)), (1, .int v1), (2, .int v2), (3, .int v3), (6, .int v6)]) hx hb dX6_roundFor_88 hl (by decide) rfl (fun ls hl => ?_)
      obtain ⟨x9, ex9⟩ : ∃ z : Int32, z = v6 + (1 : Int32) := ⟨_, rfl⟩
      have h := nm_at ex9 h
      refine lv_iinc (v := x9) (lv' := [(6, .int x9), (5, .int v6), (4, .int r3), (7, .int r3), (0, .ref (ad 0)), (1, .int v1), (2, .int v2), (3, .int v3)]) hx hb dX6_roundFor_90 hl (k := 7) rfl (by rw [ex9]; rfl) (by decide) rfl (fun ls hl => ?_)
      refine lv_goto (tgt := 45) hx hb dX6_roundFor_93 (by decide) ?_
      exact hB _ _ _ _ _ _ _ (Option.some.inj h).symm _ _ _ G (lv_sub hl [4, 5, 6, 7, 2, 1, 0] rfl)
noncomputable def f_X6_roundFor_L45_45s (q : Int32 × Int32 × Int32 × Int32 × Int32 × Int32 × XS) : Option ((Int32 × Int32 × Int32 × Int32 × Int32 × Int32 × XS) ⊕ ((Int32 × XS) ⊕ (Int32 × Int32 × Int32 × XS))) := f_X6_roundFor_L45_45 q.1 q.2.1 q.2.2.1 q.2.2.2.1 q.2.2.2.2.1 q.2.2.2.2.2.1 q.2.2.2.2.2.2
set_option maxRecDepth 100000 in
set_option maxHeartbeats 4000000 in
theorem w_X6_roundFor_L45_45 (X : cx p s m args meth c cX6_roundFor 8 RX6 (some .int)) (K : kx D cI cZ cQ adK adV A s s.heap) {e0 : (Int32 × XS) ⊕ (Int32 × Int32 × Int32 × XS)} : ∀ (n : Nat) (v1 : Int32) (v2 : Int32) (v3 : Int32) (v4 : Int32) (v5 : Int32) (v6 : Int32) (u : XS) {H : Heap} {locs : List Loc} {ls : Array Slot}, wh f_X6_roundFor_L45_45s n (v1, v2, v3, v4, v5, v6, u) = some e0 → wg D A s.heap H locs (wX cI cZ cQ ad u) → lv_has ls 8 [(0, .ref (ad 0)), (1, .int v1), (2, .int v2), (3, .int v3), (4, .int v4), (5, .int v5), (6, .int v6)] → (∀ (v3 : Int32) (v4 : Int32) (v5 : Int32) (u : XS), e0 = .inr (v3, v4, v5, u) → ∀ (H : Heap) (locs : List Loc) (ls : Array Slot), wg D A s.heap H locs (wX cI cZ cQ ad u) → lv_has ls 8 [(0, .ref (ad 0)), (3, .int v3), (4, .int v4), (5, .int v5)] → W p l e { frames := 6, cells := 0, slots := 0, locals := 145 } s m args below meth c H locs 0 0 Q (F0 m 96 ls [])) → (∀ (r : Int32) (u : XS), e0 = .inl (r, u) → Q = (qI D A (wX cI cZ cQ ad) below args s r u)) → W p l e { frames := 6, cells := 0, slots := 0, locals := 145 } s m args below meth c H locs 0 0 Q (F0 m 45 ls []) := by
  intro n
  induction n with
  | zero => intro v1 v2 v3 v4 v5 v6 u H locs ls h; cases h
  | succ n ih =>
    intro v1 v2 v3 v4 v5 v6 u H locs ls h G hl hX hR
    obtain ⟨q, h1, h2, h3⟩ := wh_at h
    exact b_X6_roundFor_L45_45 X K G hl (show f_X6_roundFor_L45_45 v1 v2 v3 v4 v5 v6 u = some q from h1) (fun b0 b1 b2 b3 b4 b5 b6 ee H locs ls G hl => ih b0 b1 b2 b3 b4 b5 b6 (h2 _ ee) G hl hX hR) (fun z0 z1 z2 z3 ee => hX z0 z1 z2 z3 (h3 _ ee).symm) (fun r u ee => hR r u (h3 _ ee).symm)
noncomputable def f_X6_roundFor (a1 : Int32) (a2 : Int32) (u0 : XS) : Option (Int32 × XS) :=
  bnd (f_X5_hasThing a1 u0) fun r1 u2 =>
  (if r1 = 0 then
    bnd (f_X6_found (0 : Int32) u2) fun r4 u5 =>
    some (r4, u5)
  else
    bnd (f_X6_within a2 (0 : Int32) (999 : Int32) u2) fun r6 u7 =>
    (if r6 = 0 then
      bnd (f_X6_found (0 : Int32) u7) fun r20 u21 =>
      some (r20, u21)
    else
      nmv (tRound (xT u7)) fun x9 =>
      bne (wl f_X6_roundFor_L45_45s (a1, a2, x9, (-1 : Int32), (0 : Int32), (1 : Int32), u7)) (fun a => some a) fun b =>
        nmv b.1 fun y13 =>
        nmv b.2.1 fun y14 =>
        nmv b.2.2.1 fun y15 =>
        nmv b.2.2.2 fun u12 =>
        nmv (sT u12 (uRound (xT u12) y13)) fun u16 =>
        (if 0 ≤ y14 then
          some (y15, u16)
        else
          bnd (f_X6_found (3 : Int32) u16) fun r18 u19 =>
          some (r18, u19))))
set_option maxRecDepth 100000 in
set_option maxHeartbeats 4000000 in
theorem c_X6_roundFor {a1 : Int32} {a2 : Int32} {u0 : XS} {r : Int32} {u' : XS} (h : f_X6_roundFor a1 a2 u0 = some (r, u')) : MI l D cI cZ cQ adK adV A yX6_roundFor cX6_roundFor 8 (some .int) { frames := 6, cells := 0, slots := 0, locals := 145 } [.ref (ad 0), .int a1, .int a2] (wX cI cZ cQ ad) u0 r u' := by
  unfold f_X6_roundFor at h
  refine entI (by decide) (Nat.le_of_ble_eq_true rfl) (fun p e s m below meth c ls X K G hl => ?_)
  have hl : lv_has ls 8 [(0, .ref (ad 0)), (1, .int a1), (2, .int a2)] := hl
  obtain ⟨hx, hb, -⟩ := id X
  generalize hH : s.heap = H at G
  subst hH
  refine lv_aload_n hx hb dX6_roundFor_0 rfl (lv_at hl 0 rfl) ?_
  refine gX_0_0 X K G q_300 dX6_roundFor_1 ?_
  refine lv_iload_n hx hb dX6_roundFor_4 rfl (lv_at hl 1 rfl) ?_
  obtain ⟨r1, u2, er1, h⟩ := bnd_at h
  refine cvI (rest := []) X K G (c_X5_hasThing er1) q_553 my_X5_hasThing ⟨rfl, rfl⟩ ⟨Nat.le_of_ble_eq_true rfl, Nat.le_of_ble_eq_true rfl⟩ ⟨Nat.zero_le _, Nat.zero_le _⟩ 1 5 rfl rfl rfl rfl hl.1 rfl (Nat.le_of_ble_eq_true rfl) dX6_roundFor_5 (fun H locs G => ?_)
  clear er1
  refine lv_if_eq (tgt := 22) hx hb dX6_roundFor_8 (by decide) (fun c3 => ?_) (fun c3 => ?_)
  · have h := it_at c3 h
    refine lv_aload_n hx hb dX6_roundFor_22 rfl (lv_at hl 0 rfl) ?_
    refine lv_iconst (v := 0) hx hb dX6_roundFor_23 (by decide) ?_
    obtain ⟨r4, u5, er4, h⟩ := bnd_at h
    refine cvI (rest := []) X K G (c_X6_found er4) q_338 my_X6_found ⟨rfl, rfl⟩ ⟨Nat.le_of_ble_eq_true rfl, Nat.le_of_ble_eq_true rfl⟩ ⟨Nat.zero_le _, Nat.zero_le _⟩ 0 6 rfl rfl rfl rfl hl.1 rfl (Nat.le_of_ble_eq_true rfl) dX6_roundFor_24 (fun H locs G => ?_)
    clear er4
    obtain ⟨rfl, rfl⟩ := pair_at h
    exact reI X G dX6_roundFor_27
  · have h := if_at c3 h
    refine lv_iload_n hx hb dX6_roundFor_11 rfl (lv_at hl 2 rfl) ?_
    refine lv_iconst (v := 0) hx hb dX6_roundFor_12 (by decide) ?_
    refine lv_sipush (v := 999) hx hb dX6_roundFor_13 (by decide) ?_
    obtain ⟨r6, u7, er6, h⟩ := bnd_at h
    refine csI (rest := []) X K G (c_X6_within er6) q_335 my_X6_within ⟨rfl, rfl⟩ ⟨Nat.le_of_ble_eq_true rfl, Nat.le_of_ble_eq_true rfl⟩ ⟨Nat.zero_le _, Nat.zero_le _⟩ rfl hl.1 rfl (Nat.le_of_ble_eq_true rfl) dX6_roundFor_16 (fun H locs G => ?_)
    clear er6
    refine lv_if_ne (tgt := 28) hx hb dX6_roundFor_19 (by decide) (fun c8 => ?_) (fun c8 => ?_)
    · have h := if_at c8 h
      refine lv_aload_n hx hb dX6_roundFor_28 rfl (lv_at hl 0 rfl) ?_
      refine gX_0_0 X K G q_300 dX6_roundFor_29 ?_
      refine gX_1_0 X K G q_105 dX6_roundFor_32 ?_
      refine lv_topi (fun x9 ex9 => ?_)
      have h := nm_at ex9 h
      refine lv_istore_n (lv' := [(3, .int x9), (0, .ref (ad 0)), (1, .int a1), (2, .int a2)]) hx hb dX6_roundFor_35 rfl hl (by decide) rfl (fun ls hl => ?_)
      refine lv_iconst (v := -1) hx hb dX6_roundFor_36 (by decide) ?_
      refine lv_istore (lv' := [(4, .int (-1 : Int32)), (3, .int x9), (0, .ref (ad 0)), (1, .int a1), (2, .int a2)]) hx hb dX6_roundFor_37 hl (by decide) rfl (fun ls hl => ?_)
      refine lv_iconst (v := 0) hx hb dX6_roundFor_39 (by decide) ?_
      refine lv_istore (lv' := [(5, .int (0 : Int32)), (4, .int (-1 : Int32)), (3, .int x9), (0, .ref (ad 0)), (1, .int a1), (2, .int a2)]) hx hb dX6_roundFor_40 hl (by decide) rfl (fun ls hl => ?_)
      refine lv_iconst (v := 1) hx hb dX6_roundFor_42 (by decide) ?_
      refine lv_istore (lv' := [(6, .int (1 : Int32)), (5, .int (0 : Int32)), (4, .int (-1 : Int32)), (3, .int x9), (0, .ref (ad 0)), (1, .int a1), (2, .int a2)]) hx hb dX6_roundFor_43 hl (by decide) rfl (fun ls hl => ?_)
      obtain ⟨q11, hq11, ha, hb1⟩ := bne_at h
      obtain ⟨n10, hn10⟩ := wl_iff.mp hq11
      refine w_X6_roundFor_L45_45 X K n10 _ _ _ _ _ _ _ hn10 G (lv_sub hl [4, 5, 6, 3, 2, 1, 0] rfl) (fun y13 y14 y15 u12 ee H locs ls G hl => ?_) (fun r u1 ee => by obtain ⟨rfl, rfl⟩ := pair_at (ha _ ee); rfl)
      have h := hb1 _ ee
      clear ee ha hb1 hq11 hn10
      have h := nm_at (x := y13) rfl h
      have h := nm_at (x := y14) rfl h
      have h := nm_at (x := y15) rfl h
      have h := nm_at (x := u12) rfl h
      refine lv_aload_n hx hb dX6_roundFor_96 rfl (lv_at hl 0 rfl) ?_
      refine gX_0_0 X K G q_300 dX6_roundFor_97 ?_
      refine lv_iload_n hx hb dX6_roundFor_100 rfl (lv_at hl 1 rfl) ?_
      refine pX_1_0 X K G q_105 dX6_roundFor_101 (fun H locs G => ?_)
      obtain ⟨u16, eu16⟩ : ∃ z : XS, z = sT u12 (uRound (xT u12) y13) := ⟨_, rfl⟩
      have G : wg D A s.heap H locs (wX cI cZ cQ ad u16) := by rw [eu16]; exact G
      have h := nm_at eu16 h
      clear eu16
      refine lv_iload hx hb dX6_roundFor_104 (lv_at hl 2 rfl) ?_
      refine lv_if_ge (tgt := 117) hx hb dX6_roundFor_106 (by decide) (fun c17 => ?_) (fun c17 => ?_)
      · have h := it_at c17 h
        refine lv_iload hx hb dX6_roundFor_117 (lv_at hl 3 rfl) ?_
        obtain ⟨rfl, rfl⟩ := pair_at h
        exact reI X G dX6_roundFor_119
      · have h := if_at c17 h
        refine lv_aload_n hx hb dX6_roundFor_109 rfl (lv_at hl 0 rfl) ?_
        refine lv_iconst (v := 3) hx hb dX6_roundFor_110 (by decide) ?_
        obtain ⟨r18, u19, er18, h⟩ := bnd_at h
        refine cvI (rest := []) X K G (c_X6_found er18) q_338 my_X6_found ⟨rfl, rfl⟩ ⟨Nat.le_of_ble_eq_true rfl, Nat.le_of_ble_eq_true rfl⟩ ⟨Nat.zero_le _, Nat.zero_le _⟩ 0 6 rfl rfl rfl rfl hl.1 rfl (Nat.le_of_ble_eq_true rfl) dX6_roundFor_111 (fun H locs G => ?_)
        clear er18
        refine lv_goto (tgt := 119) hx hb dX6_roundFor_114 (by decide) ?_
        obtain ⟨rfl, rfl⟩ := pair_at h
        exact reI X G dX6_roundFor_119
    · have h := it_at c8 h
      refine lv_aload_n hx hb dX6_roundFor_22 rfl (lv_at hl 0 rfl) ?_
      refine lv_iconst (v := 0) hx hb dX6_roundFor_23 (by decide) ?_
      obtain ⟨r20, u21, er20, h⟩ := bnd_at h
      refine cvI (rest := []) X K G (c_X6_found er20) q_338 my_X6_found ⟨rfl, rfl⟩ ⟨Nat.le_of_ble_eq_true rfl, Nat.le_of_ble_eq_true rfl⟩ ⟨Nat.zero_le _, Nat.zero_le _⟩ 0 6 rfl rfl rfl rfl hl.1 rfl (Nat.le_of_ble_eq_true rfl) dX6_roundFor_24 (fun H locs G => ?_)
      clear er20
      obtain ⟨rfl, rfl⟩ := pair_at h
      exact reI X G dX6_roundFor_27
end WALK_cls4
