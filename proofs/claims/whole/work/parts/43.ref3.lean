section WALK_ref3
variable {p : Program} {l : Launch} {e : Env} {s : State} {m : MethodId} {args : Array Value} {below : List Frame} {meth : Method} {c : Code} {H : Heap} {locs : List Loc} {Q : State → Prop} {D : va_G} {cI cZ cQ : ClassId} {adK adV ad : Nat → Nat} {A : Nat → Prop} {ls : Array Slot}
noncomputable def f_X7_clear (u0 : MS) : Option (Int32 × MS) :=
  bnd (f_X7_becomes (4 : Int32) (0 : Int32) u0) fun r1 u2 =>
  some (r1, u2)
set_option maxRecDepth 100000 in
set_option maxHeartbeats 4000000 in
theorem c_X7_clear {u0 : MS} {r : Int32} {u' : MS} (h : f_X7_clear  u0 = some (r, u')) : MI l D cI cZ cQ adK adV A yX7_clear cX7_clear 1 (some .int) { frames := 1, cells := 0, slots := 0, locals := 23 } [.ref (ad 0)] (wM cI ad) u0 r u' := by
  unfold f_X7_clear at h
  refine entI (by decide) (Nat.le_of_ble_eq_true rfl) (fun p e s m below meth c ls X K G hl => ?_)
  have hl : lv_has ls 1 [(0, .ref (ad 0))] := hl
  obtain ⟨hx, hb, -⟩ := id X
  generalize hH : s.heap = H at G
  subst hH
  refine lv_aload_n hx hb dX7_clear_0 rfl (lv_at hl 0 rfl) ?_
  refine lv_iconst (v := 4) hx hb dX7_clear_1 (by decide) ?_
  refine lv_iconst (v := 0) hx hb dX7_clear_2 (by decide) ?_
  obtain ⟨r1, u2, er1, h⟩ := bnd_at h
  refine cvI (rest := []) X K G (c_X7_becomes er1) q_1061 my_X7_becomes ⟨rfl, rfl⟩ ⟨Nat.le_of_ble_eq_true rfl, Nat.le_of_ble_eq_true rfl⟩ ⟨Nat.zero_le _, Nat.zero_le _⟩ 0 7 rfl rfl rfl rfl hl.1 rfl (Nat.le_of_ble_eq_true rfl) dX7_clear_3 (fun H locs G => ?_)
  clear er1
  obtain ⟨rfl, rfl⟩ := pair_at h
  exact reI X G dX7_clear_6
noncomputable def f_X7_areOrders_L8_8 (v2 : Int32) (v3 : Int32) (v4 : Int32) (v5 : Int32) (u0 : MS) : Option ((Int32 × Int32 × Int32 × Int32 × MS) ⊕ ((Int32 × MS) ⊕ (Int32 × MS))) :=
  (if v2 ≤ v5 then
    some (.inr (.inr (v3, u0)))
  else
    nmv (v3 - v3 / (10 : Int32) * (10 : Int32)) fun x2 =>
    (if ((m_m u0) (4 : Int32).toNatClampNeg) ≤ x2 then
      some (.inr (.inl ((0 : Int32), u0)))
    else
      bnd (f_X7_has v4 x2 u0) fun r4 u5 =>
      (if r4 = 0 then
        nmv (v4 ||| ((1 : Int32) <<< (x2 &&& 31))) fun x7 =>
        nmv (v3 / (10 : Int32)) fun x8 =>
        nmv (v5 + (1 : Int32)) fun x9 =>
        some (.inl (v2, x8, x7, x9, u5))
      else
        some (.inr (.inl ((0 : Int32), u5))))))
set_option maxRecDepth 100000 in
set_option maxHeartbeats 4000000 in
theorem b_X7_areOrders_L8_8 (X : cx p s m args meth c cX7_areOrders 7 RX7 (some .boolean)) (K : kx D cI cZ cQ adK adV A s s.heap) {v2 : Int32} {v3 : Int32} {v4 : Int32} {v5 : Int32} {u0 : MS} (G : wg D A s.heap H locs (wM cI ad u0)) (hl : lv_has ls 7 [(0, .ref (ad 0)), (2, .int v2), (3, .int v3), (4, .int v4), (5, .int v5)]) {q : ((Int32 × Int32 × Int32 × Int32 × MS) ⊕ ((Int32 × MS) ⊕ (Int32 × MS)))} (h : f_X7_areOrders_L8_8 v2 v3 v4 v5 u0 = some q) (hB : ∀ (v2 : Int32) (v3 : Int32) (v4 : Int32) (v5 : Int32) (u : MS), q = .inl (v2, v3, v4, v5, u) → ∀ (H : Heap) (locs : List Loc) (ls : Array Slot), wg D A s.heap H locs (wM cI ad u) → lv_has ls 7 [(0, .ref (ad 0)), (2, .int v2), (3, .int v3), (4, .int v4), (5, .int v5)] → W p l e { frames := 1, cells := 0, slots := 0, locals := 21 } s m args below meth c H locs 0 0 Q (F0 m 8 ls [])) (hX : ∀ (v3 : Int32) (u : MS), q = .inr (.inr (v3, u)) → ∀ (H : Heap) (locs : List Loc) (ls : Array Slot), wg D A s.heap H locs (wM cI ad u) → lv_has ls 7 [(3, .int v3)] → W p l e { frames := 1, cells := 0, slots := 0, locals := 21 } s m args below meth c H locs 0 0 Q (F0 m 63 ls [])) (hR : ∀ (r : Int32) (u : MS), q = .inr (.inl (r, u)) → Q = (qI D A (wM cI ad) below args s r u)) : W p l e { frames := 1, cells := 0, slots := 0, locals := 21 } s m args below meth c H locs 0 0 Q (F0 m 8 ls []) := by
  unfold f_X7_areOrders_L8_8 at h
  obtain ⟨hx, hb, -⟩ := id X
  refine lv_iload hx hb dX7_areOrders_8 (lv_at hl 4 rfl) ?_
  refine lv_iload_n hx hb dX7_areOrders_10 rfl (lv_at hl 1 rfl) ?_
  refine lv_icmp_ge (tgt := 63) hx hb dX7_areOrders_11 (by decide) (fun c1 => ?_) (fun c1 => ?_)
  · have h := it_at c1 h
    exact hX _ _ (Option.some.inj h).symm _ _ _ G (lv_sub hl [2] rfl)
  · have h := if_at c1 h
    refine lv_iload_n hx hb dX7_areOrders_14 rfl (lv_at hl 2 rfl) ?_
    refine lv_bipush (v := 10) hx hb dX7_areOrders_15 (by decide) ?_
    refine lv_irem hx hb dX7_areOrders_17 (by decide) ?_
    refine lv_topi (fun x2 ex2 => ?_)
    have h := nm_at ex2 h
    refine lv_istore (lv' := [(6, .int x2), (0, .ref (ad 0)), (2, .int v2), (3, .int v3), (4, .int v4), (5, .int v5)]) hx hb dX7_areOrders_18 hl (by decide) rfl (fun ls hl => ?_)
    refine lv_iload hx hb dX7_areOrders_20 (lv_at hl 0 rfl) ?_
    refine lv_aload_n hx hb dX7_areOrders_22 rfl (lv_at hl 1 rfl) ?_
    refine gM_0_0 X K G q_906 dX7_areOrders_23 ?_
    refine lv_iconst (v := 4) hx hb dX7_areOrders_26 (by decide) ?_
    refine lM_1 X K G (by decide) dX7_areOrders_27 ?_
    refine lv_icmp_ge (tgt := 41) hx hb dX7_areOrders_28 (by decide) (fun c3 => ?_) (fun c3 => ?_)
    · have h := it_at c3 h
      refine lv_iconst (v := 0) hx hb dX7_areOrders_41 (by decide) ?_
      rw [hR _ _ (Option.some.inj h).symm]
      exact reZ X G (Or.inl rfl) dX7_areOrders_42
    · have h := if_at c3 h
      refine lv_iload hx hb dX7_areOrders_31 (lv_at hl 4 rfl) ?_
      refine lv_iload hx hb dX7_areOrders_33 (lv_at hl 0 rfl) ?_
      obtain ⟨r4, u5, er4, h⟩ := bnd_at h
      refine csI (rest := []) X K G (c_X7_has er4) q_1096 my_X7_has ⟨rfl, rfl⟩ ⟨Nat.le_of_ble_eq_true rfl, Nat.le_of_ble_eq_true rfl⟩ ⟨Nat.zero_le _, Nat.zero_le _⟩ rfl hl.1 rfl (Nat.le_of_ble_eq_true rfl) dX7_areOrders_35 (fun H locs G => ?_)
      clear er4
      refine lv_if_eq (tgt := 43) hx hb dX7_areOrders_38 (by decide) (fun c6 => ?_) (fun c6 => ?_)
      · have h := it_at c6 h
        refine lv_iload hx hb dX7_areOrders_43 (lv_at hl 4 rfl) ?_
        refine lv_iconst (v := 1) hx hb dX7_areOrders_45 (by decide) ?_
        refine lv_iload hx hb dX7_areOrders_46 (lv_at hl 0 rfl) ?_
        refine lv_ishl hx hb dX7_areOrders_48 ?_
        refine lv_ior hx hb dX7_areOrders_49 ?_
        refine lv_topi (fun x7 ex7 => ?_)
        have h := nm_at ex7 h
        refine lv_istore (lv' := [(4, .int x7), (6, .int x2), (0, .ref (ad 0)), (2, .int v2), (3, .int v3), (5, .int v5)]) hx hb dX7_areOrders_50 hl (by decide) rfl (fun ls hl => ?_)
        refine lv_iload_n hx hb dX7_areOrders_52 rfl (lv_at hl 4 rfl) ?_
        refine lv_bipush (v := 10) hx hb dX7_areOrders_53 (by decide) ?_
        refine lv_idiv hx hb dX7_areOrders_55 (by decide) ?_
        refine lv_topi (fun x8 ex8 => ?_)
        have h := nm_at ex8 h
        refine lv_istore_n (lv' := [(3, .int x8), (4, .int x7), (6, .int x2), (0, .ref (ad 0)), (2, .int v2), (5, .int v5)]) hx hb dX7_areOrders_56 rfl hl (by decide) rfl (fun ls hl => ?_)
        obtain ⟨x9, ex9⟩ : ∃ z : Int32, z = v5 + (1 : Int32) := ⟨_, rfl⟩
        have h := nm_at ex9 h
        refine lv_iinc (v := x9) (lv' := [(5, .int x9), (3, .int x8), (4, .int x7), (6, .int x2), (0, .ref (ad 0)), (2, .int v2)]) hx hb dX7_areOrders_57 hl (k := 5) rfl (by rw [ex9]; rfl) (by decide) rfl (fun ls hl => ?_)
        refine lv_goto (tgt := 8) hx hb dX7_areOrders_60 (by decide) ?_
        exact hB _ _ _ _ _ (Option.some.inj h).symm _ _ _ G (lv_sub hl [4, 5, 1, 2, 0] rfl)
      · have h := if_at c6 h
        refine lv_iconst (v := 0) hx hb dX7_areOrders_41 (by decide) ?_
        rw [hR _ _ (Option.some.inj h).symm]
        exact reZ X G (Or.inl rfl) dX7_areOrders_42
noncomputable def f_X7_areOrders_L8_8s (q : Int32 × Int32 × Int32 × Int32 × MS) : Option ((Int32 × Int32 × Int32 × Int32 × MS) ⊕ ((Int32 × MS) ⊕ (Int32 × MS))) := f_X7_areOrders_L8_8 q.1 q.2.1 q.2.2.1 q.2.2.2.1 q.2.2.2.2
set_option maxRecDepth 100000 in
set_option maxHeartbeats 4000000 in
theorem w_X7_areOrders_L8_8 (X : cx p s m args meth c cX7_areOrders 7 RX7 (some .boolean)) (K : kx D cI cZ cQ adK adV A s s.heap) {e0 : (Int32 × MS) ⊕ (Int32 × MS)} : ∀ (n : Nat) (v2 : Int32) (v3 : Int32) (v4 : Int32) (v5 : Int32) (u : MS) {H : Heap} {locs : List Loc} {ls : Array Slot}, wh f_X7_areOrders_L8_8s n (v2, v3, v4, v5, u) = some e0 → wg D A s.heap H locs (wM cI ad u) → lv_has ls 7 [(0, .ref (ad 0)), (2, .int v2), (3, .int v3), (4, .int v4), (5, .int v5)] → (∀ (v3 : Int32) (u : MS), e0 = .inr (v3, u) → ∀ (H : Heap) (locs : List Loc) (ls : Array Slot), wg D A s.heap H locs (wM cI ad u) → lv_has ls 7 [(3, .int v3)] → W p l e { frames := 1, cells := 0, slots := 0, locals := 21 } s m args below meth c H locs 0 0 Q (F0 m 63 ls [])) → (∀ (r : Int32) (u : MS), e0 = .inl (r, u) → Q = (qI D A (wM cI ad) below args s r u)) → W p l e { frames := 1, cells := 0, slots := 0, locals := 21 } s m args below meth c H locs 0 0 Q (F0 m 8 ls []) := by
  intro n
  induction n with
  | zero => intro v2 v3 v4 v5 u H locs ls h; cases h
  | succ n ih =>
    intro v2 v3 v4 v5 u H locs ls h G hl hX hR
    obtain ⟨q, h1, h2, h3⟩ := wh_at h
    exact b_X7_areOrders_L8_8 X K G hl (show f_X7_areOrders_L8_8 v2 v3 v4 v5 u = some q from h1) (fun b0 b1 b2 b3 b4 ee H locs ls G hl => ih b0 b1 b2 b3 b4 (h2 _ ee) G hl hX hR) (fun z0 z1 ee => hX z0 z1 (h3 _ ee).symm) (fun r u ee => hR r u (h3 _ ee).symm)
noncomputable def f_X7_areOrders (a1 : Int32) (a2 : Int32) (u0 : MS) : Option (Int32 × MS) :=
  bne (wl f_X7_areOrders_L8_8s (a2, a1, (0 : Int32), (0 : Int32), u0)) (fun a => some a) fun b =>
    nmv b.1 fun y4 =>
    nmv b.2 fun u3 =>
    (if y4 = 0 then
      some ((1 : Int32), u3)
    else
      some ((0 : Int32), u3))
set_option maxRecDepth 100000 in
set_option maxHeartbeats 4000000 in
theorem c_X7_areOrders {a1 : Int32} {a2 : Int32} {u0 : MS} {r : Int32} {u' : MS} (h : f_X7_areOrders a1 a2 u0 = some (r, u')) : MI l D cI cZ cQ adK adV A yX7_areOrders cX7_areOrders 7 (some .boolean) { frames := 1, cells := 0, slots := 0, locals := 21 } [.ref (ad 0), .int a1, .int a2] (wM cI ad) u0 r u' := by
  unfold f_X7_areOrders at h
  refine entI (by decide) (Nat.le_of_ble_eq_true rfl) (fun p e s m below meth c ls X K G hl => ?_)
  have hl : lv_has ls 7 [(0, .ref (ad 0)), (1, .int a1), (2, .int a2)] := hl
  obtain ⟨hx, hb, -⟩ := id X
  generalize hH : s.heap = H at G
  subst hH
  refine lv_iload_n hx hb dX7_areOrders_0 rfl (lv_at hl 1 rfl) ?_
  refine lv_istore_n (lv' := [(3, .int a1), (0, .ref (ad 0)), (1, .int a1), (2, .int a2)]) hx hb dX7_areOrders_1 rfl hl (by decide) rfl (fun ls hl => ?_)
  refine lv_iconst (v := 0) hx hb dX7_areOrders_2 (by decide) ?_
  refine lv_istore (lv' := [(4, .int (0 : Int32)), (3, .int a1), (0, .ref (ad 0)), (1, .int a1), (2, .int a2)]) hx hb dX7_areOrders_3 hl (by decide) rfl (fun ls hl => ?_)
  refine lv_iconst (v := 0) hx hb dX7_areOrders_5 (by decide) ?_
  refine lv_istore (lv' := [(5, .int (0 : Int32)), (4, .int (0 : Int32)), (3, .int a1), (0, .ref (ad 0)), (1, .int a1), (2, .int a2)]) hx hb dX7_areOrders_6 hl (by decide) rfl (fun ls hl => ?_)
  obtain ⟨q2, hq2, ha, hb1⟩ := bne_at h
  obtain ⟨n1, hn1⟩ := wl_iff.mp hq2
  refine w_X7_areOrders_L8_8 X K n1 _ _ _ _ _ hn1 G (lv_sub hl [3, 5, 2, 1, 0] rfl) (fun y4 u3 ee H locs ls G hl => ?_) (fun r u1 ee => by obtain ⟨rfl, rfl⟩ := pair_at (ha _ ee); rfl)
  have h := hb1 _ ee
  clear ee ha hb1 hq2 hn1
  have h := nm_at (x := y4) rfl h
  have h := nm_at (x := u3) rfl h
  refine lv_iload_n hx hb dX7_areOrders_63 rfl (lv_at hl 0 rfl) ?_
  refine lv_if_ne (tgt := 71) hx hb dX7_areOrders_64 (by decide) (fun c5 => ?_) (fun c5 => ?_)
  · have h := if_at c5 h
    refine lv_iconst (v := 0) hx hb dX7_areOrders_71 (by decide) ?_
    obtain ⟨rfl, rfl⟩ := pair_at h
    exact reZ X G (Or.inl rfl) dX7_areOrders_72
  · have h := it_at c5 h
    refine lv_iconst (v := 1) hx hb dX7_areOrders_67 (by decide) ?_
    refine lv_goto (tgt := 72) hx hb dX7_areOrders_68 (by decide) ?_
    obtain ⟨rfl, rfl⟩ := pair_at h
    exact reZ X G (Or.inr rfl) dX7_areOrders_72
noncomputable def f_X7_noOrders_L2_2 (v1 : Int32) (u0 : MS) : Option ((Int32 × MS) ⊕ ((Int32 × MS) ⊕ (MS))) :=
  (if (3200 : Int32) ≤ v1 then
    some (.inr (.inr u0))
  else
    if v1 < 0 ∨ 3200 ≤ v1.toNatClampNeg then none else
    nmv (mu_hours u0 (upd (m_hours u0) v1.toNatClampNeg (0 : Int32))) fun u3 =>
    nmv (v1 + (1 : Int32)) fun x4 =>
    some (.inl (x4, u3)))
set_option maxRecDepth 100000 in
set_option maxHeartbeats 4000000 in
theorem b_X7_noOrders_L2_2 (X : cx p s m args meth c cX7_noOrders 2 RX7 none) (K : kx D cI cZ cQ adK adV A s s.heap) {v1 : Int32} {u0 : MS} (G : wg D A s.heap H locs (wM cI ad u0)) (hl : lv_has ls 2 [(0, .ref (ad 0)), (1, .int v1)]) {q : ((Int32 × MS) ⊕ ((Int32 × MS) ⊕ (MS)))} (h : f_X7_noOrders_L2_2 v1 u0 = some q) (hB : ∀ (v1 : Int32) (u : MS), q = .inl (v1, u) → ∀ (H : Heap) (locs : List Loc) (ls : Array Slot), wg D A s.heap H locs (wM cI ad u) → lv_has ls 2 [(0, .ref (ad 0)), (1, .int v1)] → W p l e { frames := 0, cells := 0, slots := 0, locals := 0 } s m args below meth c H locs 0 0 Q (F0 m 2 ls [])) (hX : ∀ (u : MS), q = .inr (.inr u) → ∀ (H : Heap) (locs : List Loc) (ls : Array Slot), wg D A s.heap H locs (wM cI ad u) → lv_has ls 2 [(0, .ref (ad 0))] → W p l e { frames := 0, cells := 0, slots := 0, locals := 0 } s m args below meth c H locs 0 0 Q (F0 m 22 ls [])) (hR : ∀ (r : Int32) (u : MS), q = .inr (.inl (r, u)) → Q = (qV D A (wM cI ad) below args s u)) : W p l e { frames := 0, cells := 0, slots := 0, locals := 0 } s m args below meth c H locs 0 0 Q (F0 m 2 ls []) := by
  unfold f_X7_noOrders_L2_2 at h
  obtain ⟨hx, hb, -⟩ := id X
  refine lv_iload_n hx hb dX7_noOrders_2 rfl (lv_at hl 1 rfl) ?_
  refine lv_sipush (v := 3200) hx hb dX7_noOrders_3 (by decide) ?_
  refine lv_icmp_ge (tgt := 22) hx hb dX7_noOrders_6 (by decide) (fun c1 => ?_) (fun c1 => ?_)
  · have h := it_at c1 h
    exact hX _ (Option.some.inj h).symm _ _ _ G (lv_sub hl [0] rfl)
  · have h := if_at c1 h
    refine lv_aload_n hx hb dX7_noOrders_9 rfl (lv_at hl 0 rfl) ?_
    refine gM_0_13 X K G q_919 dX7_noOrders_10 ?_
    refine lv_iload_n hx hb dX7_noOrders_13 rfl (lv_at hl 1 rfl) ?_
    refine lv_iconst (v := 0) hx hb dX7_noOrders_14 (by decide) ?_
    obtain ⟨g2, h⟩ := ck_at h
    refine aM_7 X K G g2 dX7_noOrders_15 (fun H locs G => ?_)
    obtain ⟨u3, eu3⟩ : ∃ z : MS, z = mu_hours u0 (upd (m_hours u0) v1.toNatClampNeg (0 : Int32)) := ⟨_, rfl⟩
    have G : wg D A s.heap H locs (wM cI ad u3) := by rw [eu3]; exact G
    have h := nm_at eu3 h
    clear eu3
    obtain ⟨x4, ex4⟩ : ∃ z : Int32, z = v1 + (1 : Int32) := ⟨_, rfl⟩
    have h := nm_at ex4 h
    refine lv_iinc (v := x4) (lv' := [(1, .int x4), (0, .ref (ad 0))]) hx hb dX7_noOrders_16 hl (k := 1) rfl (by rw [ex4]; rfl) (by decide) rfl (fun ls hl => ?_)
    refine lv_goto (tgt := 2) hx hb dX7_noOrders_19 (by decide) ?_
    exact hB _ _ (Option.some.inj h).symm _ _ _ G (lv_sub hl [1, 0] rfl)
noncomputable def f_X7_noOrders_L2_2s (q : Int32 × MS) : Option ((Int32 × MS) ⊕ ((Int32 × MS) ⊕ (MS))) := f_X7_noOrders_L2_2 q.1 q.2
set_option maxRecDepth 100000 in
set_option maxHeartbeats 4000000 in
theorem w_X7_noOrders_L2_2 (X : cx p s m args meth c cX7_noOrders 2 RX7 none) (K : kx D cI cZ cQ adK adV A s s.heap) {e0 : (Int32 × MS) ⊕ (MS)} : ∀ (n : Nat) (v1 : Int32) (u : MS) {H : Heap} {locs : List Loc} {ls : Array Slot}, wh f_X7_noOrders_L2_2s n (v1, u) = some e0 → wg D A s.heap H locs (wM cI ad u) → lv_has ls 2 [(0, .ref (ad 0)), (1, .int v1)] → (∀ (u : MS), e0 = .inr u → ∀ (H : Heap) (locs : List Loc) (ls : Array Slot), wg D A s.heap H locs (wM cI ad u) → lv_has ls 2 [(0, .ref (ad 0))] → W p l e { frames := 0, cells := 0, slots := 0, locals := 0 } s m args below meth c H locs 0 0 Q (F0 m 22 ls [])) → (∀ (r : Int32) (u : MS), e0 = .inl (r, u) → Q = (qV D A (wM cI ad) below args s u)) → W p l e { frames := 0, cells := 0, slots := 0, locals := 0 } s m args below meth c H locs 0 0 Q (F0 m 2 ls []) := by
  intro n
  induction n with
  | zero => intro v1 u H locs ls h; cases h
  | succ n ih =>
    intro v1 u H locs ls h G hl hX hR
    obtain ⟨q, h1, h2, h3⟩ := wh_at h
    exact b_X7_noOrders_L2_2 X K G hl (show f_X7_noOrders_L2_2 v1 u = some q from h1) (fun b0 b1 ee H locs ls G hl => ih b0 b1 (h2 _ ee) G hl hX hR) (fun z0 ee => hX z0 (h3 _ ee).symm) (fun r u ee => hR r u (h3 _ ee).symm)
noncomputable def f_X7_noOrders (u0 : MS) : Option (Int32 × MS) :=
  bne (wl f_X7_noOrders_L2_2s ((0 : Int32), u0)) (fun a => some a) fun b =>
    nmv b fun u3 =>
    nmv (mu_worth u3 (0 : Int32)) fun u4 =>
    nmv (mu_inTime u4 (0 : Int32)) fun u5 =>
    nmv (mu_lastOf u5 (-1 : Int32)) fun u6 =>
    some ((0 : Int32), u6)
set_option maxRecDepth 100000 in
set_option maxHeartbeats 4000000 in
theorem c_X7_noOrders {u0 : MS} {r : Int32} {u' : MS} (h : f_X7_noOrders  u0 = some (r, u')) : MV l D cI cZ cQ adK adV A yX7_noOrders cX7_noOrders 2 { frames := 0, cells := 0, slots := 0, locals := 0 } [.ref (ad 0)] (wM cI ad) u0 u' := by
  unfold f_X7_noOrders at h
  refine entV (by decide) (Nat.le_of_ble_eq_true rfl) (fun p e s m below meth c ls X K G hl => ?_)
  have hl : lv_has ls 2 [(0, .ref (ad 0))] := hl
  obtain ⟨hx, hb, -⟩ := id X
  generalize hH : s.heap = H at G
  subst hH
  refine lv_iconst (v := 0) hx hb dX7_noOrders_0 (by decide) ?_
  refine lv_istore_n (lv' := [(1, .int (0 : Int32)), (0, .ref (ad 0))]) hx hb dX7_noOrders_1 rfl hl (by decide) rfl (fun ls hl => ?_)
  obtain ⟨q2, hq2, ha, hb1⟩ := bne_at h
  obtain ⟨n1, hn1⟩ := wl_iff.mp hq2
  refine w_X7_noOrders_L2_2 X K n1 _ _ hn1 G (lv_sub hl [1, 0] rfl) (fun  u3 ee H locs ls G hl => ?_) (fun r u1 ee => by obtain ⟨rfl, rfl⟩ := pair_at (ha _ ee); rfl)
  have h := hb1 _ ee
  clear ee ha hb1 hq2 hn1
  have h := nm_at (x := u3) rfl h
  refine lv_aload_n hx hb dX7_noOrders_22 rfl (lv_at hl 0 rfl) ?_
  refine lv_iconst (v := 0) hx hb dX7_noOrders_23 (by decide) ?_
  refine pM_0_14 X K G q_920 dX7_noOrders_24 (fun H locs G => ?_)
  obtain ⟨u4, eu4⟩ : ∃ z : MS, z = mu_worth u3 (0 : Int32) := ⟨_, rfl⟩
  have G : wg D A s.heap H locs (wM cI ad u4) := by rw [eu4]; exact G
  have h := nm_at eu4 h
  clear eu4
  refine lv_aload_n hx hb dX7_noOrders_27 rfl (lv_at hl 0 rfl) ?_
  refine lv_iconst (v := 0) hx hb dX7_noOrders_28 (by decide) ?_
  refine pM_0_15 X K G q_921 dX7_noOrders_29 (fun H locs G => ?_)
  obtain ⟨u5, eu5⟩ : ∃ z : MS, z = mu_inTime u4 (0 : Int32) := ⟨_, rfl⟩
  have G : wg D A s.heap H locs (wM cI ad u5) := by rw [eu5]; exact G
  have h := nm_at eu5 h
  clear eu5
  refine lv_aload_n hx hb dX7_noOrders_32 rfl (lv_at hl 0 rfl) ?_
  refine lv_iconst (v := -1) hx hb dX7_noOrders_33 (by decide) ?_
  refine pM_0_16 X K G q_922 dX7_noOrders_34 (fun H locs G => ?_)
  obtain ⟨u6, eu6⟩ : ∃ z : MS, z = mu_lastOf u5 (-1 : Int32) := ⟨_, rfl⟩
  have G : wg D A s.heap H locs (wM cI ad u6) := by rw [eu6]; exact G
  have h := nm_at eu6 h
  clear eu6
  obtain ⟨rfl, rfl⟩ := pair_at h
  exact reV X G dX7_noOrders_37
noncomputable def f_X7_slot (a0 : Int32) (a1 : Int32) (u0 : MS) : Option (Int32 × MS) :=
  some (((400 : Int32) * a0) + a1, u0)
set_option maxRecDepth 100000 in
set_option maxHeartbeats 4000000 in
theorem c_X7_slot {a0 : Int32} {a1 : Int32} {u0 : MS} {r : Int32} {u' : MS} (h : f_X7_slot a0 a1 u0 = some (r, u')) : MI l D cI cZ cQ adK adV A yX7_slot cX7_slot 2 (some .int) { frames := 0, cells := 0, slots := 0, locals := 0 } [.int a0, .int a1] (wM cI ad) u0 r u' := by
  unfold f_X7_slot at h
  refine entI (by decide) (Nat.le_of_ble_eq_true rfl) (fun p e s m below meth c ls X K G hl => ?_)
  have hl : lv_has ls 2 [(0, .int a0), (1, .int a1)] := hl
  obtain ⟨hx, hb, -⟩ := id X
  generalize hH : s.heap = H at G
  subst hH
  refine lv_sipush (v := 400) hx hb dX7_slot_0 (by decide) ?_
  refine lv_iload_n hx hb dX7_slot_3 rfl (lv_at hl 0 rfl) ?_
  refine lv_imul hx hb dX7_slot_4 ?_
  refine lv_iload_n hx hb dX7_slot_5 rfl (lv_at hl 1 rfl) ?_
  refine lv_iadd hx hb dX7_slot_6 ?_
  obtain ⟨rfl, rfl⟩ := pair_at h
  exact reI X G dX7_slot_7
noncomputable def f_X7_gets_L2_2 (v1 : Int32) (v2 : Int32) (v3 : Int32) (u0 : MS) : Option ((Int32 × Int32 × Int32 × MS) ⊕ ((Int32 × MS) ⊕ (MS))) :=
  bnd (f_X7_steps v1 u0) fun r1 u2 =>
  (if r1 ≤ v3 then
    some (.inr (.inr u2))
  else
    bnd (f_X7_of v1 v3 (0 : Int32) u2) fun r4 u5 =>
    if v3 < 0 ∨ 8 ≤ v3.toNatClampNeg then none else
    bnd (f_X7_slot r4 ((m_on u5) v3.toNatClampNeg) u5) fun r7 u8 =>
    if r7 < 0 ∨ 3200 ≤ r7.toNatClampNeg then none else
    bnd (f_X7_of v1 v3 (1 : Int32) u8) fun r10 u11 =>
    nmv (((m_hours u8) r7.toNatClampNeg) + (v2 * r10)) fun x12 =>
    if r7 < 0 ∨ 3200 ≤ r7.toNatClampNeg then none else
    nmv (mu_hours u11 (upd (m_hours u11) r7.toNatClampNeg x12)) fun u14 =>
    nmv (v3 + (1 : Int32)) fun x15 =>
    some (.inl (v1, v2, x15, u14)))
set_option maxRecDepth 100000 in
set_option maxHeartbeats 4000000 in
theorem b_X7_gets_L2_2 (X : cx p s m args meth c cX7_gets 4 RX7 none) (K : kx D cI cZ cQ adK adV A s s.heap) {v1 : Int32} {v2 : Int32} {v3 : Int32} {u0 : MS} (G : wg D A s.heap H locs (wM cI ad u0)) (hl : lv_has ls 4 [(0, .ref (ad 0)), (1, .int v1), (2, .int v2), (3, .int v3)]) {q : ((Int32 × Int32 × Int32 × MS) ⊕ ((Int32 × MS) ⊕ (MS)))} (h : f_X7_gets_L2_2 v1 v2 v3 u0 = some q) (hB : ∀ (v1 : Int32) (v2 : Int32) (v3 : Int32) (u : MS), q = .inl (v1, v2, v3, u) → ∀ (H : Heap) (locs : List Loc) (ls : Array Slot), wg D A s.heap H locs (wM cI ad u) → lv_has ls 4 [(0, .ref (ad 0)), (1, .int v1), (2, .int v2), (3, .int v3)] → W p l e { frames := 2, cells := 0, slots := 0, locals := 45 } s m args below meth c H locs 0 0 Q (F0 m 2 ls [])) (hX : ∀ (u : MS), q = .inr (.inr u) → ∀ (H : Heap) (locs : List Loc) (ls : Array Slot), wg D A s.heap H locs (wM cI ad u) → lv_has ls 4 [] → W p l e { frames := 2, cells := 0, slots := 0, locals := 45 } s m args below meth c H locs 0 0 Q (F0 m 50 ls [])) (hR : ∀ (r : Int32) (u : MS), q = .inr (.inl (r, u)) → Q = (qV D A (wM cI ad) below args s u)) : W p l e { frames := 2, cells := 0, slots := 0, locals := 45 } s m args below meth c H locs 0 0 Q (F0 m 2 ls []) := by
  unfold f_X7_gets_L2_2 at h
  obtain ⟨hx, hb, -⟩ := id X
  refine lv_iload_n hx hb dX7_gets_2 rfl (lv_at hl 3 rfl) ?_
  refine lv_aload_n hx hb dX7_gets_3 rfl (lv_at hl 0 rfl) ?_
  refine lv_iload_n hx hb dX7_gets_4 rfl (lv_at hl 1 rfl) ?_
  obtain ⟨r1, u2, er1, h⟩ := bnd_at h
  refine cvI (rest := [.int v3]) X K G (c_X7_steps er1) q_1121 my_X7_steps ⟨rfl, rfl⟩ ⟨Nat.le_of_ble_eq_true rfl, Nat.le_of_ble_eq_true rfl⟩ ⟨Nat.zero_le _, Nat.zero_le _⟩ 0 7 rfl rfl rfl rfl hl.1 rfl (Nat.le_of_ble_eq_true rfl) dX7_gets_5 (fun H locs G => ?_)
  clear er1
  refine lv_icmp_ge (tgt := 50) hx hb dX7_gets_8 (by decide) (fun c3 => ?_) (fun c3 => ?_)
  · have h := it_at c3 h
    exact hX _ (Option.some.inj h).symm _ _ _ G (lv_sub hl [] rfl)
  · have h := if_at c3 h
    refine lv_aload_n hx hb dX7_gets_11 rfl (lv_at hl 0 rfl) ?_
    refine gM_0_13 X K G q_919 dX7_gets_12 ?_
    refine lv_aload_n hx hb dX7_gets_15 rfl (lv_at hl 0 rfl) ?_
    refine lv_iload_n hx hb dX7_gets_16 rfl (lv_at hl 1 rfl) ?_
    refine lv_iload_n hx hb dX7_gets_17 rfl (lv_at hl 3 rfl) ?_
    refine lv_iconst (v := 0) hx hb dX7_gets_18 (by decide) ?_
    obtain ⟨r4, u5, er4, h⟩ := bnd_at h
    refine cvI (rest := [.ref (ad 7)]) X K G (c_X7_of er4) q_1139 my_X7_of ⟨rfl, rfl⟩ ⟨Nat.le_of_ble_eq_true rfl, Nat.le_of_ble_eq_true rfl⟩ ⟨Nat.zero_le _, Nat.zero_le _⟩ 0 7 rfl rfl rfl rfl hl.1 rfl (Nat.le_of_ble_eq_true rfl) dX7_gets_19 (fun H locs G => ?_)
    clear er4
    refine lv_aload_n hx hb dX7_gets_22 rfl (lv_at hl 0 rfl) ?_
    refine gM_0_12 X K G q_918 dX7_gets_23 ?_
    refine lv_iload_n hx hb dX7_gets_26 rfl (lv_at hl 3 rfl) ?_
    obtain ⟨g6, h⟩ := ck_at h
    refine lM_6 X K G g6 dX7_gets_27 ?_
    obtain ⟨r7, u8, er7, h⟩ := bnd_at h
    refine csI (rest := [.ref (ad 7)]) X K G (c_X7_slot er7) q_1262 my_X7_slot ⟨rfl, rfl⟩ ⟨Nat.le_of_ble_eq_true rfl, Nat.le_of_ble_eq_true rfl⟩ ⟨Nat.zero_le _, Nat.zero_le _⟩ rfl hl.1 rfl (Nat.le_of_ble_eq_true rfl) dX7_gets_28 (fun H locs G => ?_)
    clear er7
    refine lv_dup2_11 hx hb dX7_gets_31 rfl rfl ?_
    obtain ⟨g9, h⟩ := ck_at h
    refine lM_7 X K G g9 dX7_gets_32 ?_
    refine lv_iload_n hx hb dX7_gets_33 rfl (lv_at hl 2 rfl) ?_
    refine lv_aload_n hx hb dX7_gets_34 rfl (lv_at hl 0 rfl) ?_
    refine lv_iload_n hx hb dX7_gets_35 rfl (lv_at hl 1 rfl) ?_
    refine lv_iload_n hx hb dX7_gets_36 rfl (lv_at hl 3 rfl) ?_
    refine lv_iconst (v := 1) hx hb dX7_gets_37 (by decide) ?_
    obtain ⟨r10, u11, er10, h⟩ := bnd_at h
    refine cvI (rest := [.int v2, .int ((m_hours u8) r7.toNatClampNeg), .int r7, .ref (ad 7)]) X K G (c_X7_of er10) q_1139 my_X7_of ⟨rfl, rfl⟩ ⟨Nat.le_of_ble_eq_true rfl, Nat.le_of_ble_eq_true rfl⟩ ⟨Nat.zero_le _, Nat.zero_le _⟩ 0 7 rfl rfl rfl rfl hl.1 rfl (Nat.le_of_ble_eq_true rfl) dX7_gets_38 (fun H locs G => ?_)
    clear er10
    refine lv_imul hx hb dX7_gets_41 ?_
    refine lv_iadd hx hb dX7_gets_42 ?_
    refine lv_topi (fun x12 ex12 => ?_)
    have h := nm_at ex12 h
    obtain ⟨g13, h⟩ := ck_at h
    refine aM_7 X K G g13 dX7_gets_43 (fun H locs G => ?_)
    obtain ⟨u14, eu14⟩ : ∃ z : MS, z = mu_hours u11 (upd (m_hours u11) r7.toNatClampNeg x12) := ⟨_, rfl⟩
    have G : wg D A s.heap H locs (wM cI ad u14) := by rw [eu14]; exact G
    have h := nm_at eu14 h
    clear eu14
    obtain ⟨x15, ex15⟩ : ∃ z : Int32, z = v3 + (1 : Int32) := ⟨_, rfl⟩
    have h := nm_at ex15 h
    refine lv_iinc (v := x15) (lv' := [(3, .int x15), (0, .ref (ad 0)), (1, .int v1), (2, .int v2)]) hx hb dX7_gets_44 hl (k := 3) rfl (by rw [ex15]; rfl) (by decide) rfl (fun ls hl => ?_)
    refine lv_goto (tgt := 2) hx hb dX7_gets_47 (by decide) ?_
    exact hB _ _ _ _ (Option.some.inj h).symm _ _ _ G (lv_sub hl [1, 2, 3, 0] rfl)
noncomputable def f_X7_gets_L2_2s (q : Int32 × Int32 × Int32 × MS) : Option ((Int32 × Int32 × Int32 × MS) ⊕ ((Int32 × MS) ⊕ (MS))) := f_X7_gets_L2_2 q.1 q.2.1 q.2.2.1 q.2.2.2
set_option maxRecDepth 100000 in
set_option maxHeartbeats 4000000 in
theorem w_X7_gets_L2_2 (X : cx p s m args meth c cX7_gets 4 RX7 none) (K : kx D cI cZ cQ adK adV A s s.heap) {e0 : (Int32 × MS) ⊕ (MS)} : ∀ (n : Nat) (v1 : Int32) (v2 : Int32) (v3 : Int32) (u : MS) {H : Heap} {locs : List Loc} {ls : Array Slot}, wh f_X7_gets_L2_2s n (v1, v2, v3, u) = some e0 → wg D A s.heap H locs (wM cI ad u) → lv_has ls 4 [(0, .ref (ad 0)), (1, .int v1), (2, .int v2), (3, .int v3)] → (∀ (u : MS), e0 = .inr u → ∀ (H : Heap) (locs : List Loc) (ls : Array Slot), wg D A s.heap H locs (wM cI ad u) → lv_has ls 4 [] → W p l e { frames := 2, cells := 0, slots := 0, locals := 45 } s m args below meth c H locs 0 0 Q (F0 m 50 ls [])) → (∀ (r : Int32) (u : MS), e0 = .inl (r, u) → Q = (qV D A (wM cI ad) below args s u)) → W p l e { frames := 2, cells := 0, slots := 0, locals := 45 } s m args below meth c H locs 0 0 Q (F0 m 2 ls []) := by
  intro n
  induction n with
  | zero => intro v1 v2 v3 u H locs ls h; cases h
  | succ n ih =>
    intro v1 v2 v3 u H locs ls h G hl hX hR
    obtain ⟨q, h1, h2, h3⟩ := wh_at h
    exact b_X7_gets_L2_2 X K G hl (show f_X7_gets_L2_2 v1 v2 v3 u = some q from h1) (fun b0 b1 b2 b3 ee H locs ls G hl => ih b0 b1 b2 b3 (h2 _ ee) G hl hX hR) (fun z0 ee => hX z0 (h3 _ ee).symm) (fun r u ee => hR r u (h3 _ ee).symm)
noncomputable def f_X7_gets (a1 : Int32) (a2 : Int32) (u0 : MS) : Option (Int32 × MS) :=
  bne (wl f_X7_gets_L2_2s (a1, a2, (0 : Int32), u0)) (fun a => some a) fun b =>
    nmv b fun u3 =>
    some ((0 : Int32), u3)
set_option maxRecDepth 100000 in
set_option maxHeartbeats 4000000 in
theorem c_X7_gets {a1 : Int32} {a2 : Int32} {u0 : MS} {r : Int32} {u' : MS} (h : f_X7_gets a1 a2 u0 = some (r, u')) : MV l D cI cZ cQ adK adV A yX7_gets cX7_gets 4 { frames := 2, cells := 0, slots := 0, locals := 45 } [.ref (ad 0), .int a1, .int a2] (wM cI ad) u0 u' := by
  unfold f_X7_gets at h
  refine entV (by decide) (Nat.le_of_ble_eq_true rfl) (fun p e s m below meth c ls X K G hl => ?_)
  have hl : lv_has ls 4 [(0, .ref (ad 0)), (1, .int a1), (2, .int a2)] := hl
  obtain ⟨hx, hb, -⟩ := id X
  generalize hH : s.heap = H at G
  subst hH
  refine lv_iconst (v := 0) hx hb dX7_gets_0 (by decide) ?_
  refine lv_istore_n (lv' := [(3, .int (0 : Int32)), (0, .ref (ad 0)), (1, .int a1), (2, .int a2)]) hx hb dX7_gets_1 rfl hl (by decide) rfl (fun ls hl => ?_)
  obtain ⟨q2, hq2, ha, hb1⟩ := bne_at h
  obtain ⟨n1, hn1⟩ := wl_iff.mp hq2
  refine w_X7_gets_L2_2 X K n1 _ _ _ _ hn1 G (lv_sub hl [1, 2, 3, 0] rfl) (fun  u3 ee H locs ls G hl => ?_) (fun r u1 ee => by obtain ⟨rfl, rfl⟩ := pair_at (ha _ ee); rfl)
  have h := hb1 _ ee
  clear ee ha hb1 hq2 hn1
  have h := nm_at (x := u3) rfl h
  obtain ⟨rfl, rfl⟩ := pair_at h
  exact reV X G dX7_gets_50
noncomputable def f_X7_areFree_L10_10 (v1 : Int32) (v2 : Int32) (v3 : Int32) (u0 : MS) : Option ((Int32 × Int32 × Int32 × MS) ⊕ ((Int32 × MS) ⊕ (Int32 × Int32 × MS))) :=
  bnd (f_X7_steps v1 u0) fun r1 u2 =>
  (if r1 ≤ v3 then
    some (.inr (.inr (v1, v2, u2)))
  else
    (if v2 = 0 then
      nmv (v3 + (1 : Int32)) fun x5 =>
      some (.inl (v1, (0 : Int32), x5, u2))
    else
      bnd (f_X7_of v1 v3 (0 : Int32) u2) fun r6 u7 =>
      if v3 < 0 ∨ 8 ≤ v3.toNatClampNeg then none else
      bnd (f_X7_slot r6 ((m_on u7) v3.toNatClampNeg) u7) fun r9 u10 =>
      if r9 < 0 ∨ 3200 ≤ r9.toNatClampNeg then none else
      (if (8 : Int32) < ((m_hours u10) r9.toNatClampNeg) then
        nmv (v3 + (1 : Int32)) fun x13 =>
        some (.inl (v1, (0 : Int32), x13, u10))
      else
        nmv (v3 + (1 : Int32)) fun x14 =>
        some (.inl (v1, (1 : Int32), x14, u10)))))
set_option maxRecDepth 100000 in
set_option maxHeartbeats 4000000 in
theorem b_X7_areFree_L10_10 (X : cx p s m args meth c cX7_areFree 4 RX7 (some .boolean)) (K : kx D cI cZ cQ adK adV A s s.heap) {v1 : Int32} {v2 : Int32} {v3 : Int32} {u0 : MS} (G : wg D A s.heap H locs (wM cI ad u0)) (hl : lv_has ls 4 [(0, .ref (ad 0)), (1, .int v1), (2, .int v2), (3, .int v3)]) {q : ((Int32 × Int32 × Int32 × MS) ⊕ ((Int32 × MS) ⊕ (Int32 × Int32 × MS)))} (h : f_X7_areFree_L10_10 v1 v2 v3 u0 = some q) (hB : ∀ (v1 : Int32) (v2 : Int32) (v3 : Int32) (u : MS), q = .inl (v1, v2, v3, u) → ∀ (H : Heap) (locs : List Loc) (ls : Array Slot), wg D A s.heap H locs (wM cI ad u) → lv_has ls 4 [(0, .ref (ad 0)), (1, .int v1), (2, .int v2), (3, .int v3)] → W p l e { frames := 3, cells := 0, slots := 0, locals := 68 } s m args below meth c H locs 0 0 Q (F0 m 10 ls [])) (hX : ∀ (v1 : Int32) (v2 : Int32) (u : MS), q = .inr (.inr (v1, v2, u)) → ∀ (H : Heap) (locs : List Loc) (ls : Array Slot), wg D A s.heap H locs (wM cI ad u) → lv_has ls 4 [(0, .ref (ad 0)), (1, .int v1), (2, .int v2)] → W p l e { frames := 3, cells := 0, slots := 0, locals := 68 } s m args below meth c H locs 0 0 Q (F0 m 61 ls [])) (hR : ∀ (r : Int32) (u : MS), q = .inr (.inl (r, u)) → Q = (qI D A (wM cI ad) below args s r u)) : W p l e { frames := 3, cells := 0, slots := 0, locals := 68 } s m args below meth c H locs 0 0 Q (F0 m 10 ls []) := by
  unfold f_X7_areFree_L10_10 at h
  obtain ⟨hx, hb, -⟩ := id X
  refine lv_iload_n hx hb dX7_areFree_10 rfl (lv_at hl 3 rfl) ?_
  refine lv_aload_n hx hb dX7_areFree_11 rfl (lv_at hl 0 rfl) ?_
  refine lv_iload_n hx hb dX7_areFree_12 rfl (lv_at hl 1 rfl) ?_
  obtain ⟨r1, u2, er1, h⟩ := bnd_at h
  refine cvI (rest := [.int v3]) X K G (c_X7_steps er1) q_1121 my_X7_steps ⟨rfl, rfl⟩ ⟨Nat.le_of_ble_eq_true rfl, Nat.le_of_ble_eq_true rfl⟩ ⟨Nat.zero_le _, Nat.zero_le _⟩ 0 7 rfl rfl rfl rfl hl.1 rfl (Nat.le_of_ble_eq_true rfl) dX7_areFree_13 (fun H locs G => ?_)
  clear er1
  refine lv_icmp_ge (tgt := 61) hx hb dX7_areFree_16 (by decide) (fun c3 => ?_) (fun c3 => ?_)
  · have h := it_at c3 h
    exact hX _ _ _ (Option.some.inj h).symm _ _ _ G (lv_sub hl [0, 1, 2] rfl)
  · have h := if_at c3 h
    refine lv_iload_n hx hb dX7_areFree_19 rfl (lv_at hl 2 rfl) ?_
    refine lv_if_eq (tgt := 53) hx hb dX7_areFree_20 (by decide) (fun c4 => ?_) (fun c4 => ?_)
    · have h := it_at c4 h
      refine lv_iconst (v := 0) hx hb dX7_areFree_53 (by decide) ?_
      refine lv_istore_n (lv' := [(2, .int (0 : Int32)), (0, .ref (ad 0)), (1, .int v1), (3, .int v3)]) hx hb dX7_areFree_54 rfl hl (by decide) rfl (fun ls hl => ?_)
      obtain ⟨x5, ex5⟩ : ∃ z : Int32, z = v3 + (1 : Int32) := ⟨_, rfl⟩
      have h := nm_at ex5 h
      refine lv_iinc (v := x5) (lv' := [(3, .int x5), (2, .int (0 : Int32)), (0, .ref (ad 0)), (1, .int v1)]) hx hb dX7_areFree_55 hl (k := 3) rfl (by rw [ex5]; rfl) (by decide) rfl (fun ls hl => ?_)
      refine lv_goto (tgt := 10) hx hb dX7_areFree_58 (by decide) ?_
      exact hB _ _ _ _ (Option.some.inj h).symm _ _ _ G (lv_sub hl [2, 3, 1, 0] rfl)
    · have h := if_at c4 h
      refine lv_aload_n hx hb dX7_areFree_23 rfl (lv_at hl 0 rfl) ?_
      refine gM_0_13 X K G q_919 dX7_areFree_24 ?_
      refine lv_aload_n hx hb dX7_areFree_27 rfl (lv_at hl 0 rfl) ?_
      refine lv_iload_n hx hb dX7_areFree_28 rfl (lv_at hl 1 rfl) ?_
      refine lv_iload_n hx hb dX7_areFree_29 rfl (lv_at hl 3 rfl) ?_
      refine lv_iconst (v := 0) hx hb dX7_areFree_30 (by decide) ?_
      obtain ⟨r6, u7, er6, h⟩ := bnd_at h
      refine cvI (rest := [.ref (ad 7)]) X K G (c_X7_of er6) q_1139 my_X7_of ⟨rfl, rfl⟩ ⟨Nat.le_of_ble_eq_true rfl, Nat.le_of_ble_eq_true rfl⟩ ⟨Nat.zero_le _, Nat.zero_le _⟩ 0 7 rfl rfl rfl rfl hl.1 rfl (Nat.le_of_ble_eq_true rfl) dX7_areFree_31 (fun H locs G => ?_)
      clear er6
      refine lv_aload_n hx hb dX7_areFree_34 rfl (lv_at hl 0 rfl) ?_
      refine gM_0_12 X K G q_918 dX7_areFree_35 ?_
      refine lv_iload_n hx hb dX7_areFree_38 rfl (lv_at hl 3 rfl) ?_
      obtain ⟨g8, h⟩ := ck_at h
      refine lM_6 X K G g8 dX7_areFree_39 ?_
      obtain ⟨r9, u10, er9, h⟩ := bnd_at h
      refine csI (rest := [.ref (ad 7)]) X K G (c_X7_slot er9) q_1262 my_X7_slot ⟨rfl, rfl⟩ ⟨Nat.le_of_ble_eq_true rfl, Nat.le_of_ble_eq_true rfl⟩ ⟨Nat.zero_le _, Nat.zero_le _⟩ rfl hl.1 rfl (Nat.le_of_ble_eq_true rfl) dX7_areFree_40 (fun H locs G => ?_)
      clear er9
      obtain ⟨g11, h⟩ := ck_at h
      refine lM_7 X K G g11 dX7_areFree_43 ?_
      refine lv_bipush (v := 8) hx hb dX7_areFree_44 (by decide) ?_
      refine lv_icmp_gt (tgt := 53) hx hb dX7_areFree_46 (by decide) (fun c12 => ?_) (fun c12 => ?_)
      · have h := it_at c12 h
        refine lv_iconst (v := 0) hx hb dX7_areFree_53 (by decide) ?_
        refine lv_istore_n (lv' := [(2, .int (0 : Int32)), (0, .ref (ad 0)), (1, .int v1), (3, .int v3)]) hx hb dX7_areFree_54 rfl hl (by decide) rfl (fun ls hl => ?_)
        obtain ⟨x13, ex13⟩ : ∃ z : Int32, z = v3 + (1 : Int32) := ⟨_, rfl⟩
        have h := nm_at ex13 h
        refine lv_iinc (v := x13) (lv' := [(3, .int x13), (2, .int (0 : Int32)), (0, .ref (ad 0)), (1, .int v1)]) hx hb dX7_areFree_55 hl (k := 3) rfl (by rw [ex13]; rfl) (by decide) rfl (fun ls hl => ?_)
        refine lv_goto (tgt := 10) hx hb dX7_areFree_58 (by decide) ?_
        exact hB _ _ _ _ (Option.some.inj h).symm _ _ _ G (lv_sub hl [2, 3, 1, 0] rfl)
      · have h := if_at c12 h
        refine lv_iconst (v := 1) hx hb dX7_areFree_49 (by decide) ?_
        refine lv_goto (tgt := 54) hx hb dX7_areFree_50 (by decide) ?_
        refine lv_istore_n (lv' := [(2, .int (1 : Int32)), (0, .ref (ad 0)), (1, .int v1), (3, .int v3)]) hx hb dX7_areFree_54 rfl hl (by decide) rfl (fun ls hl => ?_)
        obtain ⟨x14, ex14⟩ : ∃ z : Int32, z = v3 + (1 : Int32) := ⟨_, rfl⟩
        have h := nm_at ex14 h
        refine lv_iinc (v := x14) (lv' := [(3, .int x14), (2, .int (1 : Int32)), (0, .ref (ad 0)), (1, .int v1)]) hx hb dX7_areFree_55 hl (k := 3) rfl (by rw [ex14]; rfl) (by decide) rfl (fun ls hl => ?_)
        refine lv_goto (tgt := 10) hx hb dX7_areFree_58 (by decide) ?_
        exact hB _ _ _ _ (Option.some.inj h).symm _ _ _ G (lv_sub hl [2, 3, 1, 0] rfl)
noncomputable def f_X7_areFree_L10_10s (q : Int32 × Int32 × Int32 × MS) : Option ((Int32 × Int32 × Int32 × MS) ⊕ ((Int32 × MS) ⊕ (Int32 × Int32 × MS))) := f_X7_areFree_L10_10 q.1 q.2.1 q.2.2.1 q.2.2.2
set_option maxRecDepth 100000 in
set_option maxHeartbeats 4000000 in
theorem w_X7_areFree_L10_10 (X : cx p s m args meth c cX7_areFree 4 RX7 (some .boolean)) (K : kx D cI cZ cQ adK adV A s s.heap) {e0 : (Int32 × MS) ⊕ (Int32 × Int32 × MS)} : ∀ (n : Nat) (v1 : Int32) (v2 : Int32) (v3 : Int32) (u : MS) {H : Heap} {locs : List Loc} {ls : Array Slot}, wh f_X7_areFree_L10_10s n (v1, v2, v3, u) = some e0 → wg D A s.heap H locs (wM cI ad u) → lv_has ls 4 [(0, .ref (ad 0)), (1, .int v1), (2, .int v2), (3, .int v3)] → (∀ (v1 : Int32) (v2 : Int32) (u : MS), e0 = .inr (v1, v2, u) → ∀ (H : Heap) (locs : List Loc) (ls : Array Slot), wg D A s.heap H locs (wM cI ad u) → lv_has ls 4 [(0, .ref (ad 0)), (1, .int v1), (2, .int v2)] → W p l e { frames := 3, cells := 0, slots := 0, locals := 68 } s m args below meth c H locs 0 0 Q (F0 m 61 ls [])) → (∀ (r : Int32) (u : MS), e0 = .inl (r, u) → Q = (qI D A (wM cI ad) below args s r u)) → W p l e { frames := 3, cells := 0, slots := 0, locals := 68 } s m args below meth c H locs 0 0 Q (F0 m 10 ls []) := by
  intro n
  induction n with
  | zero => intro v1 v2 v3 u H locs ls h; cases h
  | succ n ih =>
    intro v1 v2 v3 u H locs ls h G hl hX hR
    obtain ⟨q, h1, h2, h3⟩ := wh_at h
    exact b_X7_areFree_L10_10 X K G hl (show f_X7_areFree_L10_10 v1 v2 v3 u = some q from h1) (fun b0 b1 b2 b3 ee H locs ls G hl => ih b0 b1 b2 b3 (h2 _ ee) G hl hX hR) (fun z0 z1 z2 ee => hX z0 z1 z2 (h3 _ ee).symm) (fun r u ee => hR r u (h3 _ ee).symm)
noncomputable def f_X7_areFree (a1 : Int32) (u0 : MS) : Option (Int32 × MS) :=
  bnd (f_X7_gets a1 (1 : Int32) u0) fun r1 u2 =>
  bne (wl f_X7_areFree_L10_10s (a1, (1 : Int32), (0 : Int32), u2)) (fun a => some a) fun b =>
    nmv b.1 fun y6 =>
    nmv b.2.1 fun y7 =>
    nmv b.2.2 fun u5 =>
    bnd (f_X7_gets y6 (-1 : Int32) u5) fun r8 u9 =>
    if ¬ (y7 = 0 ∨ y7 = 1) then none else
    some (y7, u9)
set_option maxRecDepth 100000 in
set_option maxHeartbeats 4000000 in
theorem c_X7_areFree {a1 : Int32} {u0 : MS} {r : Int32} {u' : MS} (h : f_X7_areFree a1 u0 = some (r, u')) : MI l D cI cZ cQ adK adV A yX7_areFree cX7_areFree 4 (some .boolean) { frames := 3, cells := 0, slots := 0, locals := 68 } [.ref (ad 0), .int a1] (wM cI ad) u0 r u' := by
  unfold f_X7_areFree at h
  refine entI (by decide) (Nat.le_of_ble_eq_true rfl) (fun p e s m below meth c ls X K G hl => ?_)
  have hl : lv_has ls 4 [(0, .ref (ad 0)), (1, .int a1)] := hl
  obtain ⟨hx, hb, -⟩ := id X
  generalize hH : s.heap = H at G
  subst hH
  refine lv_aload_n hx hb dX7_areFree_0 rfl (lv_at hl 0 rfl) ?_
  refine lv_iload_n hx hb dX7_areFree_1 rfl (lv_at hl 1 rfl) ?_
  refine lv_iconst (v := 1) hx hb dX7_areFree_2 (by decide) ?_
  obtain ⟨r1, u2, er1, h⟩ := bnd_at h
  refine cvV (rest := []) X K G (c_X7_gets er1) q_1258 my_X7_gets ⟨rfl, rfl⟩ ⟨Nat.le_of_ble_eq_true rfl, Nat.le_of_ble_eq_true rfl⟩ ⟨Nat.zero_le _, Nat.zero_le _⟩ 0 7 rfl rfl rfl rfl hl.1 rfl (Nat.le_of_ble_eq_true rfl) dX7_areFree_3 (fun H locs G => ?_)
  clear er1
  refine lv_iconst (v := 1) hx hb dX7_areFree_6 (by decide) ?_
  refine lv_istore_n (lv' := [(2, .int (1 : Int32)), (0, .ref (ad 0)), (1, .int a1)]) hx hb dX7_areFree_7 rfl hl (by decide) rfl (fun ls hl => ?_)
  refine lv_iconst (v := 0) hx hb dX7_areFree_8 (by decide) ?_
  refine lv_istore_n (lv' := [(3, .int (0 : Int32)), (2, .int (1 : Int32)), (0, .ref (ad 0)), (1, .int a1)]) hx hb dX7_areFree_9 rfl hl (by decide) rfl (fun ls hl => ?_)
  obtain ⟨q4, hq4, ha, hb1⟩ := bne_at h
  obtain ⟨n3, hn3⟩ := wl_iff.mp hq4
  refine w_X7_areFree_L10_10 X K n3 _ _ _ _ hn3 G (lv_sub hl [2, 3, 1, 0] rfl) (fun y6 y7 u5 ee H locs ls G hl => ?_) (fun r u1 ee => by obtain ⟨rfl, rfl⟩ := pair_at (ha _ ee); rfl)
  have h := hb1 _ ee
  clear ee ha hb1 hq4 hn3
  have h := nm_at (x := y6) rfl h
  have h := nm_at (x := y7) rfl h
  have h := nm_at (x := u5) rfl h
  refine lv_aload_n hx hb dX7_areFree_61 rfl (lv_at hl 0 rfl) ?_
  refine lv_iload_n hx hb dX7_areFree_62 rfl (lv_at hl 1 rfl) ?_
  refine lv_iconst (v := -1) hx hb dX7_areFree_63 (by decide) ?_
  obtain ⟨r8, u9, er8, h⟩ := bnd_at h
  refine cvV (rest := []) X K G (c_X7_gets er8) q_1258 my_X7_gets ⟨rfl, rfl⟩ ⟨Nat.le_of_ble_eq_true rfl, Nat.le_of_ble_eq_true rfl⟩ ⟨Nat.zero_le _, Nat.zero_le _⟩ 0 7 rfl rfl rfl rfl hl.1 rfl (Nat.le_of_ble_eq_true rfl) dX7_areFree_64 (fun H locs G => ?_)
  clear er8
  refine lv_iload_n hx hb dX7_areFree_67 rfl (lv_at hl 2 rfl) ?_
  obtain ⟨g10, h⟩ := ck_at h
  obtain ⟨rfl, rfl⟩ := pair_at h
  exact reZ X G (Decidable.not_not.mp g10) dX7_areFree_68
noncomputable def f_X7_takesOrder_L15_15 (v1 : Int32) (v2 : Int32) (v3 : Int32) (u0 : MS) : Option ((Int32 × Int32 × Int32 × MS) ⊕ ((Int32 × MS) ⊕ (MS))) :=
  (if (200 : Int32) < v3 then
    some (.inr (.inr u0))
  else
    bnd (f_X7_runs v2 v3 u0) fun r2 u3 =>
    (if 0 ≤ r2 then
      nmv (v3 + (1 : Int32)) fun x5 =>
      some (.inl (v1, v2, x5, u3))
    else
      bnd (f_X7_lastDay v2 u3) fun r6 u7 =>
      (if (399 : Int32) < r6 then
        nmv (v3 + (1 : Int32)) fun x9 =>
        some (.inl (v1, v2, x9, u7))
      else
        bnd (f_X7_areFree v2 u7) fun r10 u11 =>
        (if r10 = 0 then
          nmv (v3 + (1 : Int32)) fun x34 =>
          some (.inl (v1, v2, x34, u11))
        else
          bnd (f_X7_lastDay v2 u11) fun r13 u14 =>
          nmv (((222 : Int32) + ((3 : Int32) * v1)) + (1 : Int32)) fun x15 =>
          if x15 < 0 ∨ 247 ≤ x15.toNatClampNeg then none else
          (if r13 ≤ ((m_m u14) x15.toNatClampNeg) then
            bnd (f_X7_gets v2 (1 : Int32) u14) fun r18 u19 =>
            nmv (((222 : Int32) + ((3 : Int32) * v1)) + (2 : Int32)) fun x20 =>
            if x20 < 0 ∨ 247 ≤ x20.toNatClampNeg then none else
            nmv ((m_worth u19) + ((m_m u19) x20.toNatClampNeg)) fun x22 =>
            nmv (mu_worth u19 x22) fun u23 =>
            nmv ((m_inTime u23) ||| ((1 : Int32) <<< (v1 &&& 31))) fun x24 =>
            nmv (mu_inTime u23 x24) fun u25 =>
            bnd (f_X7_lastDay v2 u25) fun r26 u27 =>
            (if r26 ≤ (m_lastOf u27) then
              nmv (m_lastOf u27) fun x29 =>
              nmv (mu_lastOf u27 x29) fun u30 =>
              some (.inr (.inl ((0 : Int32), u30)))
            else
              bnd (f_X7_lastDay v2 u27) fun r31 u32 =>
              nmv (mu_lastOf u32 r31) fun u33 =>
              some (.inr (.inl ((0 : Int32), u33))))
          else
            some (.inr (.inl ((0 : Int32), u14))))))))
set_option maxRecDepth 100000 in
set_option maxHeartbeats 4000000 in
theorem b_X7_takesOrder_L15_15 (X : cx p s m args meth c cX7_takesOrder 4 RX7 none) (K : kx D cI cZ cQ adK adV A s s.heap) {v1 : Int32} {v2 : Int32} {v3 : Int32} {u0 : MS} (G : wg D A s.heap H locs (wM cI ad u0)) (hl : lv_has ls 4 [(0, .ref (ad 0)), (1, .int v1), (2, .int v2), (3, .int v3)]) {q : ((Int32 × Int32 × Int32 × MS) ⊕ ((Int32 × MS) ⊕ (MS)))} (h : f_X7_takesOrder_L15_15 v1 v2 v3 u0 = some q) (hB : ∀ (v1 : Int32) (v2 : Int32) (v3 : Int32) (u : MS), q = .inl (v1, v2, v3, u) → ∀ (H : Heap) (locs : List Loc) (ls : Array Slot), wg D A s.heap H locs (wM cI ad u) → lv_has ls 4 [(0, .ref (ad 0)), (1, .int v1), (2, .int v2), (3, .int v3)] → W p l e { frames := 6, cells := 0, slots := 0, locals := 139 } s m args below meth c H locs 0 0 Q (F0 m 15 ls [])) (hX : ∀ (u : MS), q = .inr (.inr u) → ∀ (H : Heap) (locs : List Loc) (ls : Array Slot), wg D A s.heap H locs (wM cI ad u) → lv_has ls 4 [] → W p l e { frames := 6, cells := 0, slots := 0, locals := 139 } s m args below meth c H locs 0 0 Q (F0 m 152 ls [])) (hR : ∀ (r : Int32) (u : MS), q = .inr (.inl (r, u)) → Q = (qV D A (wM cI ad) below args s u)) : W p l e { frames := 6, cells := 0, slots := 0, locals := 139 } s m args below meth c H locs 0 0 Q (F0 m 15 ls []) := by
  unfold f_X7_takesOrder_L15_15 at h
  obtain ⟨hx, hb, -⟩ := id X
  refine lv_iload_n hx hb dX7_takesOrder_15 rfl (lv_at hl 3 rfl) ?_
  refine lv_sipush (v := 200) hx hb dX7_takesOrder_16 (by decide) ?_
  refine lv_icmp_gt (tgt := 152) hx hb dX7_takesOrder_19 (by decide) (fun c1 => ?_) (fun c1 => ?_)
  · have h := it_at c1 h
    exact hX _ (Option.some.inj h).symm _ _ _ G (lv_sub hl [] rfl)
  · have h := if_at c1 h
    refine lv_aload_n hx hb dX7_takesOrder_22 rfl (lv_at hl 0 rfl) ?_
    refine lv_iload_n hx hb dX7_takesOrder_23 rfl (lv_at hl 2 rfl) ?_
    refine lv_iload_n hx hb dX7_takesOrder_24 rfl (lv_at hl 3 rfl) ?_
    obtain ⟨r2, u3, er2, h⟩ := bnd_at h
    refine cvI (rest := []) X K G (c_X7_runs er2) q_1183 my_X7_runs ⟨rfl, rfl⟩ ⟨Nat.le_of_ble_eq_true rfl, Nat.le_of_ble_eq_true rfl⟩ ⟨Nat.zero_le _, Nat.zero_le _⟩ 0 7 rfl rfl rfl rfl hl.1 rfl (Nat.le_of_ble_eq_true rfl) dX7_takesOrder_25 (fun H locs G => ?_)
    clear er2
    refine lv_if_ge (tgt := 146) hx hb dX7_takesOrder_28 (by decide) (fun c4 => ?_) (fun c4 => ?_)
    · have h := it_at c4 h
      obtain ⟨x5, ex5⟩ : ∃ z : Int32, z = v3 + (1 : Int32) := ⟨_, rfl⟩
      have h := nm_at ex5 h
      refine lv_iinc (v := x5) (lv' := [(3, .int x5), (0, .ref (ad 0)), (1, .int v1), (2, .int v2)]) hx hb dX7_takesOrder_146 hl (k := 3) rfl (by rw [ex5]; rfl) (by decide) rfl (fun ls hl => ?_)
      refine lv_goto (tgt := 15) hx hb dX7_takesOrder_149 (by decide) ?_
      exact hB _ _ _ _ (Option.some.inj h).symm _ _ _ G (lv_sub hl [1, 2, 3, 0] rfl)
    · have h := if_at c4 h
      refine lv_aload_n hx hb dX7_takesOrder_31 rfl (lv_at hl 0 rfl) ?_
      refine lv_iload_n hx hb dX7_takesOrder_32 rfl (lv_at hl 2 rfl) ?_
      obtain ⟨r6, u7, er6, h⟩ := bnd_at h
      refine cvI (rest := []) X K G (c_X7_lastDay er6) q_1203 my_X7_lastDay ⟨rfl, rfl⟩ ⟨Nat.le_of_ble_eq_true rfl, Nat.le_of_ble_eq_true rfl⟩ ⟨Nat.zero_le _, Nat.zero_le _⟩ 0 7 rfl rfl rfl rfl hl.1 rfl (Nat.le_of_ble_eq_true rfl) dX7_takesOrder_33 (fun H locs G => ?_)
      clear er6
      refine lv_sipush (v := 399) hx hb dX7_takesOrder_36 (by decide) ?_
      refine lv_icmp_gt (tgt := 146) hx hb dX7_takesOrder_39 (by decide) (fun c8 => ?_) (fun c8 => ?_)
      · have h := it_at c8 h
        obtain ⟨x9, ex9⟩ : ∃ z : Int32, z = v3 + (1 : Int32) := ⟨_, rfl⟩
        have h := nm_at ex9 h
        refine lv_iinc (v := x9) (lv' := [(3, .int x9), (0, .ref (ad 0)), (1, .int v1), (2, .int v2)]) hx hb dX7_takesOrder_146 hl (k := 3) rfl (by rw [ex9]; rfl) (by decide) rfl (fun ls hl => ?_)
        refine lv_goto (tgt := 15) hx hb dX7_takesOrder_149 (by decide) ?_
        exact hB _ _ _ _ (Option.some.inj h).symm _ _ _ G (lv_sub hl [1, 2, 3, 0] rfl)
      · have h := if_at c8 h
        refine lv_aload_n hx hb dX7_takesOrder_42 rfl (lv_at hl 0 rfl) ?_
        refine lv_iload_n hx hb dX7_takesOrder_43 rfl (lv_at hl 2 rfl) ?_
        obtain ⟨r10, u11, er10, h⟩ := bnd_at h
        refine cvI (rest := []) X K G (c_X7_areFree er10) q_1254 my_X7_areFree ⟨rfl, rfl⟩ ⟨Nat.le_of_ble_eq_true rfl, Nat.le_of_ble_eq_true rfl⟩ ⟨Nat.zero_le _, Nat.zero_le _⟩ 0 7 rfl rfl rfl rfl hl.1 rfl (Nat.le_of_ble_eq_true rfl) dX7_takesOrder_44 (fun H locs G => ?_)
        clear er10
        refine lv_if_ne (tgt := 53) hx hb dX7_takesOrder_47 (by decide) (fun c12 => ?_) (fun c12 => ?_)
        · have h := if_at c12 h
          refine lv_aload_n hx hb dX7_takesOrder_53 rfl (lv_at hl 0 rfl) ?_
          refine lv_iload_n hx hb dX7_takesOrder_54 rfl (lv_at hl 2 rfl) ?_
          obtain ⟨r13, u14, er13, h⟩ := bnd_at h
          refine cvI (rest := []) X K G (c_X7_lastDay er13) q_1203 my_X7_lastDay ⟨rfl, rfl⟩ ⟨Nat.le_of_ble_eq_true rfl, Nat.le_of_ble_eq_true rfl⟩ ⟨Nat.zero_le _, Nat.zero_le _⟩ 0 7 rfl rfl rfl rfl hl.1 rfl (Nat.le_of_ble_eq_true rfl) dX7_takesOrder_55 (fun H locs G => ?_)
          clear er13
          refine lv_aload_n hx hb dX7_takesOrder_58 rfl (lv_at hl 0 rfl) ?_
          refine gM_0_0 X K G q_906 dX7_takesOrder_59 ?_
          refine lv_sipush (v := 222) hx hb dX7_takesOrder_62 (by decide) ?_
          refine lv_iconst (v := 3) hx hb dX7_takesOrder_65 (by decide) ?_
          refine lv_iload_n hx hb dX7_takesOrder_66 rfl (lv_at hl 1 rfl) ?_
          refine lv_imul hx hb dX7_takesOrder_67 ?_
          refine lv_iadd hx hb dX7_takesOrder_68 ?_
          refine lv_iconst (v := 1) hx hb dX7_takesOrder_69 (by decide) ?_
          refine lv_iadd hx hb dX7_takesOrder_70 ?_
          refine lv_topi (fun x15 ex15 => ?_)
          have h := nm_at ex15 h
          obtain ⟨g16, h⟩ := ck_at h
          refine lM_1 X K G g16 dX7_takesOrder_71 ?_
          refine lv_icmp_le (tgt := 76) hx hb dX7_takesOrder_72 (by decide) (fun c17 => ?_) (fun c17 => ?_)
          · have h := it_at c17 h
            refine lv_aload_n hx hb dX7_takesOrder_76 rfl (lv_at hl 0 rfl) ?_
            refine lv_iload_n hx hb dX7_takesOrder_77 rfl (lv_at hl 2 rfl) ?_
            refine lv_iconst (v := 1) hx hb dX7_takesOrder_78 (by decide) ?_
            obtain ⟨r18, u19, er18, h⟩ := bnd_at h
            refine cvV (rest := []) X K G (c_X7_gets er18) q_1258 my_X7_gets ⟨rfl, rfl⟩ ⟨Nat.le_of_ble_eq_true rfl, Nat.le_of_ble_eq_true rfl⟩ ⟨Nat.zero_le _, Nat.zero_le _⟩ 0 7 rfl rfl rfl rfl hl.1 rfl (Nat.le_of_ble_eq_true rfl) dX7_takesOrder_79 (fun H locs G => ?_)
            clear er18
            refine lv_aload_n hx hb dX7_takesOrder_82 rfl (lv_at hl 0 rfl) ?_
            refine lv_dup hx hb dX7_takesOrder_83 rfl ?_
            refine gM_0_14 X K G q_920 dX7_takesOrder_84 ?_
            refine lv_aload_n hx hb dX7_takesOrder_87 rfl (lv_at hl 0 rfl) ?_
            refine gM_0_0 X K G q_906 dX7_takesOrder_88 ?_
            refine lv_sipush (v := 222) hx hb dX7_takesOrder_91 (by decide) ?_
            refine lv_iconst (v := 3) hx hb dX7_takesOrder_94 (by decide) ?_
            refine lv_iload_n hx hb dX7_takesOrder_95 rfl (lv_at hl 1 rfl) ?_
            refine lv_imul hx hb dX7_takesOrder_96 ?_
            refine lv_iadd hx hb dX7_takesOrder_97 ?_
            refine lv_iconst (v := 2) hx hb dX7_takesOrder_98 (by decide) ?_
            refine lv_iadd hx hb dX7_takesOrder_99 ?_
            refine lv_topi (fun x20 ex20 => ?_)
            have h := nm_at ex20 h
            obtain ⟨g21, h⟩ := ck_at h
            refine lM_1 X K G g21 dX7_takesOrder_100 ?_
            refine lv_iadd hx hb dX7_takesOrder_101 ?_
            refine lv_topi (fun x22 ex22 => ?_)
            have h := nm_at ex22 h
            refine pM_0_14 X K G q_920 dX7_takesOrder_102 (fun H locs G => ?_)
            obtain ⟨u23, eu23⟩ : ∃ z : MS, z = mu_worth u19 x22 := ⟨_, rfl⟩
            have G : wg D A s.heap H locs (wM cI ad u23) := by rw [eu23]; exact G
            have h := nm_at eu23 h
            clear eu23
            refine lv_aload_n hx hb dX7_takesOrder_105 rfl (lv_at hl 0 rfl) ?_
            refine lv_dup hx hb dX7_takesOrder_106 rfl ?_
            refine gM_0_15 X K G q_921 dX7_takesOrder_107 ?_
            refine lv_iconst (v := 1) hx hb dX7_takesOrder_110 (by decide) ?_
            refine lv_iload_n hx hb dX7_takesOrder_111 rfl (lv_at hl 1 rfl) ?_
            refine lv_ishl hx hb dX7_takesOrder_112 ?_
            refine lv_ior hx hb dX7_takesOrder_113 ?_
            refine lv_topi (fun x24 ex24 => ?_)
            have h := nm_at ex24 h
            refine pM_0_15 X K G q_921 dX7_takesOrder_114 (fun H locs G => ?_)
            obtain ⟨u25, eu25⟩ : ∃ z : MS, z = mu_inTime u23 x24 := ⟨_, rfl⟩
            have G : wg D A s.heap H locs (wM cI ad u25) := by rw [eu25]; exact G
            have h := nm_at eu25 h
            clear eu25
            refine lv_aload_n hx hb dX7_takesOrder_117 rfl (lv_at hl 0 rfl) ?_
            refine lv_aload_n hx hb dX7_takesOrder_118 rfl (lv_at hl 0 rfl) ?_
            refine lv_iload_n hx hb dX7_takesOrder_119 rfl (lv_at hl 2 rfl) ?_
            obtain ⟨r26, u27, er26, h⟩ := bnd_at h
            refine cvI (rest := [.ref (ad 0)]) X K G (c_X7_lastDay er26) q_1203 my_X7_lastDay ⟨rfl, rfl⟩ ⟨Nat.le_of_ble_eq_true rfl, Nat.le_of_ble_eq_true rfl⟩ ⟨Nat.zero_le _, Nat.zero_le _⟩ 0 7 rfl rfl rfl rfl hl.1 rfl (Nat.le_of_ble_eq_true rfl) dX7_takesOrder_120 (fun H locs G => ?_)
            clear er26
            refine lv_aload_n hx hb dX7_takesOrder_123 rfl (lv_at hl 0 rfl) ?_
            refine gM_0_16 X K G q_922 dX7_takesOrder_124 ?_
            refine lv_icmp_le (tgt := 138) hx hb dX7_takesOrder_127 (by decide) (fun c28 => ?_) (fun c28 => ?_)
            · have h := it_at c28 h
              refine lv_aload_n hx hb dX7_takesOrder_138 rfl (lv_at hl 0 rfl) ?_
              refine gM_0_16 X K G q_922 dX7_takesOrder_139 ?_
              refine lv_topi (fun x29 ex29 => ?_)
              have h := nm_at ex29 h
              refine pM_0_16 X K G q_922 dX7_takesOrder_142 (fun H locs G => ?_)
              obtain ⟨u30, eu30⟩ : ∃ z : MS, z = mu_lastOf u27 x29 := ⟨_, rfl⟩
              have G : wg D A s.heap H locs (wM cI ad u30) := by rw [eu30]; exact G
              have h := nm_at eu30 h
              clear eu30
              rw [hR _ _ (Option.some.inj h).symm]
              exact reV X G dX7_takesOrder_145
            · have h := if_at c28 h
              refine lv_aload_n hx hb dX7_takesOrder_130 rfl (lv_at hl 0 rfl) ?_
              refine lv_iload_n hx hb dX7_takesOrder_131 rfl (lv_at hl 2 rfl) ?_
              obtain ⟨r31, u32, er31, h⟩ := bnd_at h
              refine cvI (rest := [.ref (ad 0)]) X K G (c_X7_lastDay er31) q_1203 my_X7_lastDay ⟨rfl, rfl⟩ ⟨Nat.le_of_ble_eq_true rfl, Nat.le_of_ble_eq_true rfl⟩ ⟨Nat.zero_le _, Nat.zero_le _⟩ 0 7 rfl rfl rfl rfl hl.1 rfl (Nat.le_of_ble_eq_true rfl) dX7_takesOrder_132 (fun H locs G => ?_)
              clear er31
              refine lv_goto (tgt := 142) hx hb dX7_takesOrder_135 (by decide) ?_
              refine pM_0_16 X K G q_922 dX7_takesOrder_142 (fun H locs G => ?_)
              obtain ⟨u33, eu33⟩ : ∃ z : MS, z = mu_lastOf u32 r31 := ⟨_, rfl⟩
              have G : wg D A s.heap H locs (wM cI ad u33) := by rw [eu33]; exact G
              have h := nm_at eu33 h
              clear eu33
              rw [hR _ _ (Option.some.inj h).symm]
              exact reV X G dX7_takesOrder_145
          · have h := if_at c17 h
            rw [hR _ _ (Option.some.inj h).symm]
            exact reV X G dX7_takesOrder_75
        · have h := it_at c12 h
          refine lv_goto (tgt := 146) hx hb dX7_takesOrder_50 (by decide) ?_
          obtain ⟨x34, ex34⟩ : ∃ z : Int32, z = v3 + (1 : Int32) := ⟨_, rfl⟩
          have h := nm_at ex34 h
          refine lv_iinc (v := x34) (lv' := [(3, .int x34), (0, .ref (ad 0)), (1, .int v1), (2, .int v2)]) hx hb dX7_takesOrder_146 hl (k := 3) rfl (by rw [ex34]; rfl) (by decide) rfl (fun ls hl => ?_)
          refine lv_goto (tgt := 15) hx hb dX7_takesOrder_149 (by decide) ?_
          exact hB _ _ _ _ (Option.some.inj h).symm _ _ _ G (lv_sub hl [1, 2, 3, 0] rfl)
noncomputable def f_X7_takesOrder_L15_15s (q : Int32 × Int32 × Int32 × MS) : Option ((Int32 × Int32 × Int32 × MS) ⊕ ((Int32 × MS) ⊕ (MS))) := f_X7_takesOrder_L15_15 q.1 q.2.1 q.2.2.1 q.2.2.2
set_option maxRecDepth 100000 in
set_option maxHeartbeats 4000000 in
theorem w_X7_takesOrder_L15_15 (X : cx p s m args meth c cX7_takesOrder 4 RX7 none) (K : kx D cI cZ cQ adK adV A s s.heap) {e0 : (Int32 × MS) ⊕ (MS)} : ∀ (n : Nat) (v1 : Int32) (v2 : Int32) (v3 : Int32) (u : MS) {H : Heap} {locs : List Loc} {ls : Array Slot}, wh f_X7_takesOrder_L15_15s n (v1, v2, v3, u) = some e0 → wg D A s.heap H locs (wM cI ad u) → lv_has ls 4 [(0, .ref (ad 0)), (1, .int v1), (2, .int v2), (3, .int v3)] → (∀ (u : MS), e0 = .inr u → ∀ (H : Heap) (locs : List Loc) (ls : Array Slot), wg D A s.heap H locs (wM cI ad u) → lv_has ls 4 [] → W p l e { frames := 6, cells := 0, slots := 0, locals := 139 } s m args below meth c H locs 0 0 Q (F0 m 152 ls [])) → (∀ (r : Int32) (u : MS), e0 = .inl (r, u) → Q = (qV D A (wM cI ad) below args s u)) → W p l e { frames := 6, cells := 0, slots := 0, locals := 139 } s m args below meth c H locs 0 0 Q (F0 m 15 ls []) := by
  intro n
  induction n with
  | zero => intro v1 v2 v3 u H locs ls h; cases h
  | succ n ih =>
    intro v1 v2 v3 u H locs ls h G hl hX hR
    obtain ⟨q, h1, h2, h3⟩ := wh_at h
    exact b_X7_takesOrder_L15_15 X K G hl (show f_X7_takesOrder_L15_15 v1 v2 v3 u = some q from h1) (fun b0 b1 b2 b3 ee H locs ls G hl => ih b0 b1 b2 b3 (h2 _ ee) G hl hX hR) (fun z0 ee => hX z0 (h3 _ ee).symm) (fun r u ee => hR r u (h3 _ ee).symm)
noncomputable def f_X7_takesOrder (a1 : Int32) (u0 : MS) : Option (Int32 × MS) :=
  nmv ((222 : Int32) + ((3 : Int32) * a1)) fun x1 =>
  if x1 < 0 ∨ 247 ≤ x1.toNatClampNeg then none else
  nmv ((m_m u0) x1.toNatClampNeg) fun x3 =>
  bne (wl f_X7_takesOrder_L15_15s (a1, x3, (0 : Int32), u0)) (fun a => some a) fun b =>
    nmv b fun u6 =>
    some ((0 : Int32), u6)
set_option maxRecDepth 100000 in
set_option maxHeartbeats 4000000 in
theorem c_X7_takesOrder {a1 : Int32} {u0 : MS} {r : Int32} {u' : MS} (h : f_X7_takesOrder a1 u0 = some (r, u')) : MV l D cI cZ cQ adK adV A yX7_takesOrder cX7_takesOrder 4 { frames := 6, cells := 0, slots := 0, locals := 139 } [.ref (ad 0), .int a1] (wM cI ad) u0 u' := by
  unfold f_X7_takesOrder at h
  refine entV (by decide) (Nat.le_of_ble_eq_true rfl) (fun p e s m below meth c ls X K G hl => ?_)
  have hl : lv_has ls 4 [(0, .ref (ad 0)), (1, .int a1)] := hl
  obtain ⟨hx, hb, -⟩ := id X
  generalize hH : s.heap = H at G
  subst hH
  refine lv_aload_n hx hb dX7_takesOrder_0 rfl (lv_at hl 0 rfl) ?_
  refine gM_0_0 X K G q_906 dX7_takesOrder_1 ?_
  refine lv_sipush (v := 222) hx hb dX7_takesOrder_4 (by decide) ?_
  refine lv_iconst (v := 3) hx hb dX7_takesOrder_7 (by decide) ?_
  refine lv_iload_n hx hb dX7_takesOrder_8 rfl (lv_at hl 1 rfl) ?_
  refine lv_imul hx hb dX7_takesOrder_9 ?_
  refine lv_iadd hx hb dX7_takesOrder_10 ?_
  refine lv_topi (fun x1 ex1 => ?_)
  have h := nm_at ex1 h
  obtain ⟨g2, h⟩ := ck_at h
  refine lM_1 X K G g2 dX7_takesOrder_11 ?_
  refine lv_topi (fun x3 ex3 => ?_)
  have h := nm_at ex3 h
  refine lv_istore_n (lv' := [(2, .int x3), (0, .ref (ad 0)), (1, .int a1)]) hx hb dX7_takesOrder_12 rfl hl (by decide) rfl (fun ls hl => ?_)
  refine lv_iconst (v := 0) hx hb dX7_takesOrder_13 (by decide) ?_
  refine lv_istore_n (lv' := [(3, .int (0 : Int32)), (2, .int x3), (0, .ref (ad 0)), (1, .int a1)]) hx hb dX7_takesOrder_14 rfl hl (by decide) rfl (fun ls hl => ?_)
  obtain ⟨q5, hq5, ha, hb1⟩ := bne_at h
  obtain ⟨n4, hn4⟩ := wl_iff.mp hq5
  refine w_X7_takesOrder_L15_15 X K n4 _ _ _ _ hn4 G (lv_sub hl [2, 3, 1, 0] rfl) (fun  u6 ee H locs ls G hl => ?_) (fun r u1 ee => by obtain ⟨rfl, rfl⟩ := pair_at (ha _ ee); rfl)
  have h := hb1 _ ee
  clear ee ha hb1 hq5 hn4
  have h := nm_at (x := u6) rfl h
  obtain ⟨rfl, rfl⟩ := pair_at h
  exact reV X G dX7_takesOrder_152
noncomputable def f_X7_takesAll_L9_9 (v1 : Int32) (v2 : Int32) (v3 : Int32) (v4 : Int32) (u0 : MS) : Option ((Int32 × Int32 × Int32 × Int32 × MS) ⊕ ((Int32 × MS) ⊕ (Int32 × Int32 × Int32 × MS))) :=
  (if v2 ≤ v4 then
    some (.inr (.inr (v1, v2, v3, u0)))
  else
    nmv (v3 * (10 : Int32)) fun x2 =>
    nmv (v4 + (1 : Int32)) fun x3 =>
    some (.inl (v1, v2, x2, x3, u0)))
set_option maxRecDepth 100000 in
set_option maxHeartbeats 4000000 in
theorem b_X7_takesAll_L9_9 (X : cx p s m args meth c cX7_takesAll 5 RX7 none) (K : kx D cI cZ cQ adK adV A s s.heap) {v1 : Int32} {v2 : Int32} {v3 : Int32} {v4 : Int32} {u0 : MS} (G : wg D A s.heap H locs (wM cI ad u0)) (hl : lv_has ls 5 [(0, .ref (ad 0)), (1, .int v1), (2, .int v2), (3, .int v3), (4, .int v4)]) {q : ((Int32 × Int32 × Int32 × Int32 × MS) ⊕ ((Int32 × MS) ⊕ (Int32 × Int32 × Int32 × MS)))} (h : f_X7_takesAll_L9_9 v1 v2 v3 v4 u0 = some q) (hB : ∀ (v1 : Int32) (v2 : Int32) (v3 : Int32) (v4 : Int32) (u : MS), q = .inl (v1, v2, v3, v4, u) → ∀ (H : Heap) (locs : List Loc) (ls : Array Slot), wg D A s.heap H locs (wM cI ad u) → lv_has ls 5 [(0, .ref (ad 0)), (1, .int v1), (2, .int v2), (3, .int v3), (4, .int v4)] → W p l e { frames := 7, cells := 0, slots := 0, locals := 162 } s m args below meth c H locs 0 0 Q (F0 m 9 ls [])) (hX : ∀ (v1 : Int32) (v2 : Int32) (v3 : Int32) (u : MS), q = .inr (.inr (v1, v2, v3, u)) → ∀ (H : Heap) (locs : List Loc) (ls : Array Slot), wg D A s.heap H locs (wM cI ad u) → lv_has ls 5 [(0, .ref (ad 0)), (1, .int v1), (2, .int v2), (3, .int v3)] → W p l e { frames := 7, cells := 0, slots := 0, locals := 162 } s m args below meth c H locs 0 0 Q (F0 m 26 ls [])) (hR : ∀ (r : Int32) (u : MS), q = .inr (.inl (r, u)) → Q = (qV D A (wM cI ad) below args s u)) : W p l e { frames := 7, cells := 0, slots := 0, locals := 162 } s m args below meth c H locs 0 0 Q (F0 m 9 ls []) := by
  unfold f_X7_takesAll_L9_9 at h
  obtain ⟨hx, hb, -⟩ := id X
  refine lv_iload hx hb dX7_takesAll_9 (lv_at hl 4 rfl) ?_
  refine lv_iload_n hx hb dX7_takesAll_11 rfl (lv_at hl 2 rfl) ?_
  refine lv_icmp_ge (tgt := 26) hx hb dX7_takesAll_12 (by decide) (fun c1 => ?_) (fun c1 => ?_)
  · have h := it_at c1 h
    exact hX _ _ _ _ (Option.some.inj h).symm _ _ _ G (lv_sub hl [0, 1, 2, 3] rfl)
  · have h := if_at c1 h
    refine lv_iload_n hx hb dX7_takesAll_15 rfl (lv_at hl 3 rfl) ?_
    refine lv_bipush (v := 10) hx hb dX7_takesAll_16 (by decide) ?_
    refine lv_imul hx hb dX7_takesAll_18 ?_
    refine lv_topi (fun x2 ex2 => ?_)
    have h := nm_at ex2 h
    refine lv_istore_n (lv' := [(3, .int x2), (0, .ref (ad 0)), (1, .int v1), (2, .int v2), (4, .int v4)]) hx hb dX7_takesAll_19 rfl hl (by decide) rfl (fun ls hl => ?_)
    obtain ⟨x3, ex3⟩ : ∃ z : Int32, z = v4 + (1 : Int32) := ⟨_, rfl⟩
    have h := nm_at ex3 h
    refine lv_iinc (v := x3) (lv' := [(4, .int x3), (3, .int x2), (0, .ref (ad 0)), (1, .int v1), (2, .int v2)]) hx hb dX7_takesAll_20 hl (k := 4) rfl (by rw [ex3]; rfl) (by decide) rfl (fun ls hl => ?_)
    refine lv_goto (tgt := 9) hx hb dX7_takesAll_23 (by decide) ?_
    exact hB _ _ _ _ _ (Option.some.inj h).symm _ _ _ G (lv_sub hl [2, 3, 4, 1, 0] rfl)
noncomputable def f_X7_takesAll_L9_9s (q : Int32 × Int32 × Int32 × Int32 × MS) : Option ((Int32 × Int32 × Int32 × Int32 × MS) ⊕ ((Int32 × MS) ⊕ (Int32 × Int32 × Int32 × MS))) := f_X7_takesAll_L9_9 q.1 q.2.1 q.2.2.1 q.2.2.2.1 q.2.2.2.2
set_option maxRecDepth 100000 in
set_option maxHeartbeats 4000000 in
theorem w_X7_takesAll_L9_9 (X : cx p s m args meth c cX7_takesAll 5 RX7 none) (K : kx D cI cZ cQ adK adV A s s.heap) {e0 : (Int32 × MS) ⊕ (Int32 × Int32 × Int32 × MS)} : ∀ (n : Nat) (v1 : Int32) (v2 : Int32) (v3 : Int32) (v4 : Int32) (u : MS) {H : Heap} {locs : List Loc} {ls : Array Slot}, wh f_X7_takesAll_L9_9s n (v1, v2, v3, v4, u) = some e0 → wg D A s.heap H locs (wM cI ad u) → lv_has ls 5 [(0, .ref (ad 0)), (1, .int v1), (2, .int v2), (3, .int v3), (4, .int v4)] → (∀ (v1 : Int32) (v2 : Int32) (v3 : Int32) (u : MS), e0 = .inr (v1, v2, v3, u) → ∀ (H : Heap) (locs : List Loc) (ls : Array Slot), wg D A s.heap H locs (wM cI ad u) → lv_has ls 5 [(0, .ref (ad 0)), (1, .int v1), (2, .int v2), (3, .int v3)] → W p l e { frames := 7, cells := 0, slots := 0, locals := 162 } s m args below meth c H locs 0 0 Q (F0 m 26 ls [])) → (∀ (r : Int32) (u : MS), e0 = .inl (r, u) → Q = (qV D A (wM cI ad) below args s u)) → W p l e { frames := 7, cells := 0, slots := 0, locals := 162 } s m args below meth c H locs 0 0 Q (F0 m 9 ls []) := by
  intro n
  induction n with
  | zero => intro v1 v2 v3 v4 u H locs ls h; cases h
  | succ n ih =>
    intro v1 v2 v3 v4 u H locs ls h G hl hX hR
    obtain ⟨q, h1, h2, h3⟩ := wh_at h
    exact b_X7_takesAll_L9_9 X K G hl (show f_X7_takesAll_L9_9 v1 v2 v3 v4 u = some q from h1) (fun b0 b1 b2 b3 b4 ee H locs ls G hl => ih b0 b1 b2 b3 b4 (h2 _ ee) G hl hX hR) (fun z0 z1 z2 z3 ee => hX z0 z1 z2 z3 (h3 _ ee).symm) (fun r u ee => hR r u (h3 _ ee).symm)
noncomputable def f_X7_takesAll_L29_29 (v1 : Int32) (v2 : Int32) (v3 : Int32) (v4 : Int32) (u0 : MS) : Option ((Int32 × Int32 × Int32 × Int32 × MS) ⊕ ((Int32 × MS) ⊕ (MS))) :=
  (if v2 ≤ v4 then
    some (.inr (.inr u0))
  else
    if v3 = 0 then none else
    nmv (v1 / v3) fun x2 =>
    bnd (f_X7_takesOrder (x2 - x2 / (10 : Int32) * (10 : Int32)) u0) fun r3 u4 =>
    nmv (v3 / (10 : Int32)) fun x5 =>
    nmv (v4 + (1 : Int32)) fun x6 =>
    some (.inl (v1, v2, x5, x6, u4)))
set_option maxRecDepth 100000 in
set_option maxHeartbeats 4000000 in
theorem b_X7_takesAll_L29_29 (X : cx p s m args meth c cX7_takesAll 5 RX7 none) (K : kx D cI cZ cQ adK adV A s s.heap) {v1 : Int32} {v2 : Int32} {v3 : Int32} {v4 : Int32} {u0 : MS} (G : wg D A s.heap H locs (wM cI ad u0)) (hl : lv_has ls 5 [(0, .ref (ad 0)), (1, .int v1), (2, .int v2), (3, .int v3), (4, .int v4)]) {q : ((Int32 × Int32 × Int32 × Int32 × MS) ⊕ ((Int32 × MS) ⊕ (MS)))} (h : f_X7_takesAll_L29_29 v1 v2 v3 v4 u0 = some q) (hB : ∀ (v1 : Int32) (v2 : Int32) (v3 : Int32) (v4 : Int32) (u : MS), q = .inl (v1, v2, v3, v4, u) → ∀ (H : Heap) (locs : List Loc) (ls : Array Slot), wg D A s.heap H locs (wM cI ad u) → lv_has ls 5 [(0, .ref (ad 0)), (1, .int v1), (2, .int v2), (3, .int v3), (4, .int v4)] → W p l e { frames := 7, cells := 0, slots := 0, locals := 162 } s m args below meth c H locs 0 0 Q (F0 m 29 ls [])) (hX : ∀ (u : MS), q = .inr (.inr u) → ∀ (H : Heap) (locs : List Loc) (ls : Array Slot), wg D A s.heap H locs (wM cI ad u) → lv_has ls 5 [] → W p l e { frames := 7, cells := 0, slots := 0, locals := 162 } s m args below meth c H locs 0 0 Q (F0 m 56 ls [])) (hR : ∀ (r : Int32) (u : MS), q = .inr (.inl (r, u)) → Q = (qV D A (wM cI ad) below args s u)) : W p l e { frames := 7, cells := 0, slots := 0, locals := 162 } s m args below meth c H locs 0 0 Q (F0 m 29 ls []) := by
  unfold f_X7_takesAll_L29_29 at h
  obtain ⟨hx, hb, -⟩ := id X
  refine lv_iload hx hb dX7_takesAll_29 (lv_at hl 4 rfl) ?_
  refine lv_iload_n hx hb dX7_takesAll_31 rfl (lv_at hl 2 rfl) ?_
  refine lv_icmp_ge (tgt := 56) hx hb dX7_takesAll_32 (by decide) (fun c1 => ?_) (fun c1 => ?_)
  · have h := it_at c1 h
    exact hX _ (Option.some.inj h).symm _ _ _ G (lv_sub hl [] rfl)
  · have h := if_at c1 h
    refine lv_aload_n hx hb dX7_takesAll_35 rfl (lv_at hl 0 rfl) ?_
    refine lv_iload_n hx hb dX7_takesAll_36 rfl (lv_at hl 1 rfl) ?_
    refine lv_iload_n hx hb dX7_takesAll_37 rfl (lv_at hl 3 rfl) ?_
    obtain ⟨g7, h⟩ := ck_at h
    refine lv_idiv hx hb dX7_takesAll_38 g7 ?_
    refine lv_bipush (v := 10) hx hb dX7_takesAll_39 (by decide) ?_
    refine nm2 (fun x2 ex2 => ?_)
    have h := nm_at ex2 h
    refine lv_irem hx hb dX7_takesAll_41 (by decide) ?_
    obtain ⟨r3, u4, er3, h⟩ := bnd_at h
    refine cvV (rest := []) X K G (c_X7_takesOrder er3) q_1250 my_X7_takesOrder ⟨rfl, rfl⟩ ⟨Nat.le_of_ble_eq_true rfl, Nat.le_of_ble_eq_true rfl⟩ ⟨Nat.zero_le _, Nat.zero_le _⟩ 0 7 rfl rfl rfl rfl hl.1 rfl (Nat.le_of_ble_eq_true rfl) dX7_takesAll_42 (fun H locs G => ?_)
    clear er3
    refine lv_iload_n hx hb dX7_takesAll_45 rfl (lv_at hl 3 rfl) ?_
    refine lv_bipush (v := 10) hx hb dX7_takesAll_46 (by decide) ?_
    refine lv_idiv hx hb dX7_takesAll_48 (by decide) ?_
    refine lv_topi (fun x5 ex5 => ?_)
    have h := nm_at ex5 h
    refine lv_istore_n (lv' := [(3, .int x5), (0, .ref (ad 0)), (1, .int v1), (2, .int v2), (4, .int v4)]) hx hb dX7_takesAll_49 rfl hl (by decide) rfl (fun ls hl => ?_)
    obtain ⟨x6, ex6⟩ : ∃ z : Int32, z = v4 + (1 : Int32) := ⟨_, rfl⟩
    have h := nm_at ex6 h
    refine lv_iinc (v := x6) (lv' := [(4, .int x6), (3, .int x5), (0, .ref (ad 0)), (1, .int v1), (2, .int v2)]) hx hb dX7_takesAll_50 hl (k := 4) rfl (by rw [ex6]; rfl) (by decide) rfl (fun ls hl => ?_)
    refine lv_goto (tgt := 29) hx hb dX7_takesAll_53 (by decide) ?_
    exact hB _ _ _ _ _ (Option.some.inj h).symm _ _ _ G (lv_sub hl [2, 3, 4, 1, 0] rfl)
noncomputable def f_X7_takesAll_L29_29s (q : Int32 × Int32 × Int32 × Int32 × MS) : Option ((Int32 × Int32 × Int32 × Int32 × MS) ⊕ ((Int32 × MS) ⊕ (MS))) := f_X7_takesAll_L29_29 q.1 q.2.1 q.2.2.1 q.2.2.2.1 q.2.2.2.2
set_option maxRecDepth 100000 in
set_option maxHeartbeats 4000000 in
theorem w_X7_takesAll_L29_29 (X : cx p s m args meth c cX7_takesAll 5 RX7 none) (K : kx D cI cZ cQ adK adV A s s.heap) {e0 : (Int32 × MS) ⊕ (MS)} : ∀ (n : Nat) (v1 : Int32) (v2 : Int32) (v3 : Int32) (v4 : Int32) (u : MS) {H : Heap} {locs : List Loc} {ls : Array Slot}, wh f_X7_takesAll_L29_29s n (v1, v2, v3, v4, u) = some e0 → wg D A s.heap H locs (wM cI ad u) → lv_has ls 5 [(0, .ref (ad 0)), (1, .int v1), (2, .int v2), (3, .int v3), (4, .int v4)] → (∀ (u : MS), e0 = .inr u → ∀ (H : Heap) (locs : List Loc) (ls : Array Slot), wg D A s.heap H locs (wM cI ad u) → lv_has ls 5 [] → W p l e { frames := 7, cells := 0, slots := 0, locals := 162 } s m args below meth c H locs 0 0 Q (F0 m 56 ls [])) → (∀ (r : Int32) (u : MS), e0 = .inl (r, u) → Q = (qV D A (wM cI ad) below args s u)) → W p l e { frames := 7, cells := 0, slots := 0, locals := 162 } s m args below meth c H locs 0 0 Q (F0 m 29 ls []) := by
  intro n
  induction n with
  | zero => intro v1 v2 v3 v4 u H locs ls h; cases h
  | succ n ih =>
    intro v1 v2 v3 v4 u H locs ls h G hl hX hR
    obtain ⟨q, h1, h2, h3⟩ := wh_at h
    exact b_X7_takesAll_L29_29 X K G hl (show f_X7_takesAll_L29_29 v1 v2 v3 v4 u = some q from h1) (fun b0 b1 b2 b3 b4 ee H locs ls G hl => ih b0 b1 b2 b3 b4 (h2 _ ee) G hl hX hR) (fun z0 ee => hX z0 (h3 _ ee).symm) (fun r u ee => hR r u (h3 _ ee).symm)
noncomputable def f_X7_takesAll (a1 : Int32) (a2 : Int32) (u0 : MS) : Option (Int32 × MS) :=
  bnd (f_X7_noOrders  u0) fun r1 u2 =>
  bne (wl f_X7_takesAll_L9_9s (a1, a2, (1 : Int32), (1 : Int32), u2)) (fun a => some a) fun b =>
    nmv b.1 fun y6 =>
    nmv b.2.1 fun y7 =>
    nmv b.2.2.1 fun y8 =>
    nmv b.2.2.2 fun u5 =>
    bne (wl f_X7_takesAll_L29_29s (y6, y7, y8, (0 : Int32), u5)) (fun a => some a) fun b =>
      nmv b fun u11 =>
      some ((0 : Int32), u11)
set_option maxRecDepth 100000 in
set_option maxHeartbeats 4000000 in
theorem c_X7_takesAll {a1 : Int32} {a2 : Int32} {u0 : MS} {r : Int32} {u' : MS} (h : f_X7_takesAll a1 a2 u0 = some (r, u')) : MV l D cI cZ cQ adK adV A yX7_takesAll cX7_takesAll 5 { frames := 7, cells := 0, slots := 0, locals := 162 } [.ref (ad 0), .int a1, .int a2] (wM cI ad) u0 u' := by
  unfold f_X7_takesAll at h
  refine entV (by decide) (Nat.le_of_ble_eq_true rfl) (fun p e s m below meth c ls X K G hl => ?_)
  have hl : lv_has ls 5 [(0, .ref (ad 0)), (1, .int a1), (2, .int a2)] := hl
  obtain ⟨hx, hb, -⟩ := id X
  generalize hH : s.heap = H at G
  subst hH
  refine lv_aload_n hx hb dX7_takesAll_0 rfl (lv_at hl 0 rfl) ?_
  obtain ⟨r1, u2, er1, h⟩ := bnd_at h
  refine cvV (rest := []) X K G (c_X7_noOrders er1) q_1246 my_X7_noOrders ⟨rfl, rfl⟩ ⟨Nat.le_of_ble_eq_true rfl, Nat.le_of_ble_eq_true rfl⟩ ⟨Nat.zero_le _, Nat.zero_le _⟩ 0 7 rfl rfl rfl rfl hl.1 rfl (Nat.le_of_ble_eq_true rfl) dX7_takesAll_1 (fun H locs G => ?_)
  clear er1
  refine lv_iconst (v := 1) hx hb dX7_takesAll_4 (by decide) ?_
  refine lv_istore_n (lv' := [(3, .int (1 : Int32)), (0, .ref (ad 0)), (1, .int a1), (2, .int a2)]) hx hb dX7_takesAll_5 rfl hl (by decide) rfl (fun ls hl => ?_)
  refine lv_iconst (v := 1) hx hb dX7_takesAll_6 (by decide) ?_
  refine lv_istore (lv' := [(4, .int (1 : Int32)), (3, .int (1 : Int32)), (0, .ref (ad 0)), (1, .int a1), (2, .int a2)]) hx hb dX7_takesAll_7 hl (by decide) rfl (fun ls hl => ?_)
  obtain ⟨q4, hq4, ha, hb1⟩ := bne_at h
  obtain ⟨n3, hn3⟩ := wl_iff.mp hq4
  refine w_X7_takesAll_L9_9 X K n3 _ _ _ _ _ hn3 G (lv_sub hl [2, 3, 4, 1, 0] rfl) (fun y6 y7 y8 u5 ee H locs ls G hl => ?_) (fun r u1 ee => by obtain ⟨rfl, rfl⟩ := pair_at (ha _ ee); rfl)
  have h := hb1 _ ee
  clear ee ha hb1 hq4 hn3
  have h := nm_at (x := y6) rfl h
  have h := nm_at (x := y7) rfl h
  have h := nm_at (x := y8) rfl h
  have h := nm_at (x := u5) rfl h
  refine lv_iconst (v := 0) hx hb dX7_takesAll_26 (by decide) ?_
  refine lv_istore (lv' := [(4, .int (0 : Int32)), (0, .ref (ad 0)), (1, .int y6), (2, .int y7), (3, .int y8)]) hx hb dX7_takesAll_27 hl (by decide) rfl (fun ls hl => ?_)
  obtain ⟨q10, hq10, ha, hb1⟩ := bne_at h
  obtain ⟨n9, hn9⟩ := wl_iff.mp hq10
  refine w_X7_takesAll_L29_29 X K n9 _ _ _ _ _ hn9 G (lv_sub hl [1, 2, 3, 4, 0] rfl) (fun  u11 ee H locs ls G hl => ?_) (fun r u1 ee => by obtain ⟨rfl, rfl⟩ := pair_at (ha _ ee); rfl)
  have h := hb1 _ ee
  clear ee ha hb1 hq10 hn9
  have h := nm_at (x := u11) rfl h
  obtain ⟨rfl, rfl⟩ := pair_at h
  exact reV X G dX7_takesAll_56
noncomputable def f_X7_taken_L95_95 (v3 : Int32) (v4 : Int32) (v5 : Int32) (u0 : MS) : Option ((Int32 × Int32 × Int32 × MS) ⊕ ((Int32 × MS) ⊕ (Int32 × MS))) :=
  (if (400 : Int32) ≤ v5 then
    some (.inr (.inr (v4, u0)))
  else
    bnd (f_X7_slot (v3 - (3 : Int32)) v5 u0) fun r2 u3 =>
    if r2 < 0 ∨ 3200 ≤ r2.toNatClampNeg then none else
    nmv (v4 + ((m_hours u3) r2.toNatClampNeg)) fun x5 =>
    nmv (v5 + (1 : Int32)) fun x6 =>
    some (.inl (v3, x5, x6, u3)))
set_option maxRecDepth 100000 in
set_option maxHeartbeats 4000000 in
theorem b_X7_taken_L95_95 (X : cx p s m args meth c cX7_taken 6 RX7 (some .int)) (K : kx D cI cZ cQ adK adV A s s.heap) {v3 : Int32} {v4 : Int32} {v5 : Int32} {u0 : MS} (G : wg D A s.heap H locs (wM cI ad u0)) (hl : lv_has ls 6 [(0, .ref (ad 0)), (3, .int v3), (4, .int v4), (5, .int v5)]) {q : ((Int32 × Int32 × Int32 × MS) ⊕ ((Int32 × MS) ⊕ (Int32 × MS)))} (h : f_X7_taken_L95_95 v3 v4 v5 u0 = some q) (hB : ∀ (v3 : Int32) (v4 : Int32) (v5 : Int32) (u : MS), q = .inl (v3, v4, v5, u) → ∀ (H : Heap) (locs : List Loc) (ls : Array Slot), wg D A s.heap H locs (wM cI ad u) → lv_has ls 6 [(0, .ref (ad 0)), (3, .int v3), (4, .int v4), (5, .int v5)] → W p l e { frames := 8, cells := 0, slots := 0, locals := 186 } s m args below meth c H locs 0 0 Q (F0 m 95 ls [])) (hX : ∀ (v4 : Int32) (u : MS), q = .inr (.inr (v4, u)) → ∀ (H : Heap) (locs : List Loc) (ls : Array Slot), wg D A s.heap H locs (wM cI ad u) → lv_has ls 6 [(4, .int v4)] → W p l e { frames := 8, cells := 0, slots := 0, locals := 186 } s m args below meth c H locs 0 0 Q (F0 m 127 ls [])) (hR : ∀ (r : Int32) (u : MS), q = .inr (.inl (r, u)) → Q = (qI D A (wM cI ad) below args s r u)) : W p l e { frames := 8, cells := 0, slots := 0, locals := 186 } s m args below meth c H locs 0 0 Q (F0 m 95 ls []) := by
  unfold f_X7_taken_L95_95 at h
  obtain ⟨hx, hb, -⟩ := id X
  refine lv_iload hx hb dX7_taken_95 (lv_at hl 3 rfl) ?_
  refine lv_sipush (v := 400) hx hb dX7_taken_97 (by decide) ?_
  refine lv_icmp_ge (tgt := 127) hx hb dX7_taken_100 (by decide) (fun c1 => ?_) (fun c1 => ?_)
  · have h := it_at c1 h
    exact hX _ _ (Option.some.inj h).symm _ _ _ G (lv_sub hl [2] rfl)
  · have h := if_at c1 h
    refine lv_iload hx hb dX7_taken_103 (lv_at hl 2 rfl) ?_
    refine lv_aload_n hx hb dX7_taken_105 rfl (lv_at hl 0 rfl) ?_
    refine gM_0_13 X K G q_919 dX7_taken_106 ?_
    refine lv_iload_n hx hb dX7_taken_109 rfl (lv_at hl 1 rfl) ?_
    refine lv_iconst (v := 3) hx hb dX7_taken_110 (by decide) ?_
    refine lv_isub hx hb dX7_taken_111 ?_
    refine lv_iload hx hb dX7_taken_112 (lv_at hl 3 rfl) ?_
    obtain ⟨r2, u3, er2, h⟩ := bnd_at h
    refine csI (rest := [.ref (ad 7), .int v4]) X K G (c_X7_slot er2) q_1262 my_X7_slot ⟨rfl, rfl⟩ ⟨Nat.le_of_ble_eq_true rfl, Nat.le_of_ble_eq_true rfl⟩ ⟨Nat.zero_le _, Nat.zero_le _⟩ rfl hl.1 rfl (Nat.le_of_ble_eq_true rfl) dX7_taken_114 (fun H locs G => ?_)
    clear er2
    obtain ⟨g4, h⟩ := ck_at h
    refine lM_7 X K G g4 dX7_taken_117 ?_
    refine lv_iadd hx hb dX7_taken_118 ?_
    refine lv_topi (fun x5 ex5 => ?_)
    have h := nm_at ex5 h
    refine lv_istore (lv' := [(4, .int x5), (0, .ref (ad 0)), (3, .int v3), (5, .int v5)]) hx hb dX7_taken_119 hl (by decide) rfl (fun ls hl => ?_)
    obtain ⟨x6, ex6⟩ : ∃ z : Int32, z = v5 + (1 : Int32) := ⟨_, rfl⟩
    have h := nm_at ex6 h
    refine lv_iinc (v := x6) (lv' := [(5, .int x6), (4, .int x5), (0, .ref (ad 0)), (3, .int v3)]) hx hb dX7_taken_121 hl (k := 3) rfl (by rw [ex6]; rfl) (by decide) rfl (fun ls hl => ?_)
    refine lv_goto (tgt := 95) hx hb dX7_taken_124 (by decide) ?_
    exact hB _ _ _ _ (Option.some.inj h).symm _ _ _ G (lv_sub hl [2, 3, 1, 0] rfl)
noncomputable def f_X7_taken_L95_95s (q : Int32 × Int32 × Int32 × MS) : Option ((Int32 × Int32 × Int32 × MS) ⊕ ((Int32 × MS) ⊕ (Int32 × MS))) := f_X7_taken_L95_95 q.1 q.2.1 q.2.2.1 q.2.2.2
set_option maxRecDepth 100000 in
set_option maxHeartbeats 4000000 in
theorem w_X7_taken_L95_95 (X : cx p s m args meth c cX7_taken 6 RX7 (some .int)) (K : kx D cI cZ cQ adK adV A s s.heap) {e0 : (Int32 × MS) ⊕ (Int32 × MS)} : ∀ (n : Nat) (v3 : Int32) (v4 : Int32) (v5 : Int32) (u : MS) {H : Heap} {locs : List Loc} {ls : Array Slot}, wh f_X7_taken_L95_95s n (v3, v4, v5, u) = some e0 → wg D A s.heap H locs (wM cI ad u) → lv_has ls 6 [(0, .ref (ad 0)), (3, .int v3), (4, .int v4), (5, .int v5)] → (∀ (v4 : Int32) (u : MS), e0 = .inr (v4, u) → ∀ (H : Heap) (locs : List Loc) (ls : Array Slot), wg D A s.heap H locs (wM cI ad u) → lv_has ls 6 [(4, .int v4)] → W p l e { frames := 8, cells := 0, slots := 0, locals := 186 } s m args below meth c H locs 0 0 Q (F0 m 127 ls [])) → (∀ (r : Int32) (u : MS), e0 = .inl (r, u) → Q = (qI D A (wM cI ad) below args s r u)) → W p l e { frames := 8, cells := 0, slots := 0, locals := 186 } s m args below meth c H locs 0 0 Q (F0 m 95 ls []) := by
  intro n
  induction n with
  | zero => intro v3 v4 v5 u H locs ls h; cases h
  | succ n ih =>
    intro v3 v4 v5 u H locs ls h G hl hX hR
    obtain ⟨q, h1, h2, h3⟩ := wh_at h
    exact b_X7_taken_L95_95 X K G hl (show f_X7_taken_L95_95 v3 v4 v5 u = some q from h1) (fun b0 b1 b2 b3 ee H locs ls G hl => ih b0 b1 b2 b3 (h2 _ ee) G hl hX hR) (fun z0 z1 ee => hX z0 z1 (h3 _ ee).symm) (fun r u ee => hR r u (h3 _ ee).symm)
noncomputable def f_X7_taken (a1 : Int32) (a2 : Int32) (a3 : Int32) (u0 : MS) : Option (Int32 × MS) :=
  (if a1 < 0 then
    bnd (f_X7_finds (-1000001 : Int32) u0) fun r2 u3 =>
    some (r2, u3)
  else
    bnd (f_X7_in (a2.toInt64) (0 : Int64) (5 : Int64) u0) fun r4 u5 =>
    (if r4 = 0 then
      bnd (f_X7_finds (-1000001 : Int32) u5) fun r7 u8 =>
      some (r7, u8)
    else
      bnd (f_X7_areOrders a1 a2 u5) fun r9 u10 =>
      (if r9 = 0 then
        bnd (f_X7_finds (-1000001 : Int32) u10) fun r12 u13 =>
        some (r12, u13)
      else
        bnd (f_X7_in (a3.toInt64) (0 : Int64) (((2 : Int32) + ((m_m u10) (2 : Int32).toNatClampNeg)).toInt64) u10) fun r14 u15 =>
        (if r14 = 0 then
          bnd (f_X7_finds (-1000001 : Int32) u15) fun r26 u27 =>
          some (r26, u27)
        else
          bnd (f_X7_takesAll a1 a2 u15) fun r17 u18 =>
          (if (3 : Int32) ≤ a3 then
            bne (wl f_X7_taken_L95_95s (a3, (0 : Int32), (0 : Int32), u18)) (fun a => some a) fun b =>
              nmv b.1 fun y23 =>
              nmv b.2 fun u22 =>
              some (y23, u22)
          else
            (if a3 = 0 then
              some (m_worth u18, u18)
            else
              (if a3 = (1 : Int32) then
                some (m_inTime u18, u18)
              else
                some (m_lastOf u18, u18))))))))
set_option maxRecDepth 100000 in
set_option maxHeartbeats 4000000 in
theorem c_X7_taken {a1 : Int32} {a2 : Int32} {a3 : Int32} {u0 : MS} {r : Int32} {u' : MS} (h : f_X7_taken a1 a2 a3 u0 = some (r, u')) : MI l D cI cZ cQ adK adV A yX7_taken cX7_taken 6 (some .int) { frames := 8, cells := 0, slots := 0, locals := 186 } [.ref (ad 0), .int a1, .int a2, .int a3] (wM cI ad) u0 r u' := by
  unfold f_X7_taken at h
  refine entI (by decide) (Nat.le_of_ble_eq_true rfl) (fun p e s m below meth c ls X K G hl => ?_)
  have hl : lv_has ls 6 [(0, .ref (ad 0)), (1, .int a1), (2, .int a2), (3, .int a3)] := hl
  obtain ⟨hx, hb, -⟩ := id X
  generalize hH : s.heap = H at G
  subst hH
  refine lv_iload_n hx hb dX7_taken_0 rfl (lv_at hl 1 rfl) ?_
  refine lv_if_lt (tgt := 43) hx hb dX7_taken_1 (by decide) (fun c1 => ?_) (fun c1 => ?_)
  · have h := it_at c1 h
    refine lv_aload_n hx hb dX7_taken_43 rfl (lv_at hl 0 rfl) ?_
    refine lv_ldc (v := -1000001) hx hb X.2.2.2.1 (X.2.2.2.2.1 _ q_975) dX7_taken_44 ?_
    obtain ⟨r2, u3, er2, h⟩ := bnd_at h
    refine cvI (rest := []) X K G (c_X7_finds er2) q_976 my_X7_finds ⟨rfl, rfl⟩ ⟨Nat.le_of_ble_eq_true rfl, Nat.le_of_ble_eq_true rfl⟩ ⟨Nat.zero_le _, Nat.zero_le _⟩ 0 7 rfl rfl rfl rfl hl.1 rfl (Nat.le_of_ble_eq_true rfl) dX7_taken_46 (fun H locs G => ?_)
    clear er2
    obtain ⟨rfl, rfl⟩ := pair_at h
    exact reI X G dX7_taken_49
  · have h := if_at c1 h
    refine lv_iload_n hx hb dX7_taken_4 rfl (lv_at hl 2 rfl) ?_
    refine lv_i2l hx hb dX7_taken_5 rfl ?_
    refine lv_lconst (v := 0) hx hb dX7_taken_6 (by decide) ?_
    refine lv_ldc2 (v := 5) hx hb X.2.2.2.1 (X.2.2.2.2.1 _ q_1237) dX7_taken_7 ?_
    obtain ⟨r4, u5, er4, h⟩ := bnd_at h
    refine csI (rest := []) X K G (c_X7_in er4) q_972 my_X7_in ⟨rfl, rfl⟩ ⟨Nat.le_of_ble_eq_true rfl, Nat.le_of_ble_eq_true rfl⟩ ⟨Nat.zero_le _, Nat.zero_le _⟩ rfl hl.1 rfl (Nat.le_of_ble_eq_true rfl) dX7_taken_10 (fun H locs G => ?_)
    clear er4
    refine lv_if_eq (tgt := 43) hx hb dX7_taken_13 (by decide) (fun c6 => ?_) (fun c6 => ?_)
    · have h := it_at c6 h
      refine lv_aload_n hx hb dX7_taken_43 rfl (lv_at hl 0 rfl) ?_
      refine lv_ldc (v := -1000001) hx hb X.2.2.2.1 (X.2.2.2.2.1 _ q_975) dX7_taken_44 ?_
      obtain ⟨r7, u8, er7, h⟩ := bnd_at h
      refine cvI (rest := []) X K G (c_X7_finds er7) q_976 my_X7_finds ⟨rfl, rfl⟩ ⟨Nat.le_of_ble_eq_true rfl, Nat.le_of_ble_eq_true rfl⟩ ⟨Nat.zero_le _, Nat.zero_le _⟩ 0 7 rfl rfl rfl rfl hl.1 rfl (Nat.le_of_ble_eq_true rfl) dX7_taken_46 (fun H locs G => ?_)
      clear er7
      obtain ⟨rfl, rfl⟩ := pair_at h
      exact reI X G dX7_taken_49
    · have h := if_at c6 h
      refine lv_aload_n hx hb dX7_taken_16 rfl (lv_at hl 0 rfl) ?_
      refine lv_iload_n hx hb dX7_taken_17 rfl (lv_at hl 1 rfl) ?_
      refine lv_iload_n hx hb dX7_taken_18 rfl (lv_at hl 2 rfl) ?_
      obtain ⟨r9, u10, er9, h⟩ := bnd_at h
      refine cvI (rest := []) X K G (c_X7_areOrders er9) q_1238 my_X7_areOrders ⟨rfl, rfl⟩ ⟨Nat.le_of_ble_eq_true rfl, Nat.le_of_ble_eq_true rfl⟩ ⟨Nat.zero_le _, Nat.zero_le _⟩ 0 7 rfl rfl rfl rfl hl.1 rfl (Nat.le_of_ble_eq_true rfl) dX7_taken_19 (fun H locs G => ?_)
      clear er9
      refine lv_if_eq (tgt := 43) hx hb dX7_taken_22 (by decide) (fun c11 => ?_) (fun c11 => ?_)
      · have h := it_at c11 h
        refine lv_aload_n hx hb dX7_taken_43 rfl (lv_at hl 0 rfl) ?_
        refine lv_ldc (v := -1000001) hx hb X.2.2.2.1 (X.2.2.2.2.1 _ q_975) dX7_taken_44 ?_
        obtain ⟨r12, u13, er12, h⟩ := bnd_at h
        refine cvI (rest := []) X K G (c_X7_finds er12) q_976 my_X7_finds ⟨rfl, rfl⟩ ⟨Nat.le_of_ble_eq_true rfl, Nat.le_of_ble_eq_true rfl⟩ ⟨Nat.zero_le _, Nat.zero_le _⟩ 0 7 rfl rfl rfl rfl hl.1 rfl (Nat.le_of_ble_eq_true rfl) dX7_taken_46 (fun H locs G => ?_)
        clear er12
        obtain ⟨rfl, rfl⟩ := pair_at h
        exact reI X G dX7_taken_49
      · have h := if_at c11 h
        refine lv_iload_n hx hb dX7_taken_25 rfl (lv_at hl 3 rfl) ?_
        refine lv_i2l hx hb dX7_taken_26 rfl ?_
        refine lv_lconst (v := 0) hx hb dX7_taken_27 (by decide) ?_
        refine lv_iconst (v := 2) hx hb dX7_taken_28 (by decide) ?_
        refine lv_aload_n hx hb dX7_taken_29 rfl (lv_at hl 0 rfl) ?_
        refine gM_0_0 X K G q_906 dX7_taken_30 ?_
        refine lv_iconst (v := 2) hx hb dX7_taken_33 (by decide) ?_
        refine lM_1 X K G (by decide) dX7_taken_34 ?_
        refine lv_iadd hx hb dX7_taken_35 ?_
        refine lv_i2l hx hb dX7_taken_36 rfl ?_
        obtain ⟨r14, u15, er14, h⟩ := bnd_at h
        refine csI (rest := []) X K G (c_X7_in er14) q_972 my_X7_in ⟨rfl, rfl⟩ ⟨Nat.le_of_ble_eq_true rfl, Nat.le_of_ble_eq_true rfl⟩ ⟨Nat.zero_le _, Nat.zero_le _⟩ rfl hl.1 rfl (Nat.le_of_ble_eq_true rfl) dX7_taken_37 (fun H locs G => ?_)
        clear er14
        refine lv_if_ne (tgt := 50) hx hb dX7_taken_40 (by decide) (fun c16 => ?_) (fun c16 => ?_)
        · have h := if_at c16 h
          refine lv_aload_n hx hb dX7_taken_50 rfl (lv_at hl 0 rfl) ?_
          refine lv_iload_n hx hb dX7_taken_51 rfl (lv_at hl 1 rfl) ?_
          refine lv_iload_n hx hb dX7_taken_52 rfl (lv_at hl 2 rfl) ?_
          obtain ⟨r17, u18, er17, h⟩ := bnd_at h
          refine cvV (rest := []) X K G (c_X7_takesAll er17) q_1242 my_X7_takesAll ⟨rfl, rfl⟩ ⟨Nat.le_of_ble_eq_true rfl, Nat.le_of_ble_eq_true rfl⟩ ⟨Nat.zero_le _, Nat.zero_le _⟩ 0 7 rfl rfl rfl rfl hl.1 rfl (Nat.le_of_ble_eq_true rfl) dX7_taken_53 (fun H locs G => ?_)
          clear er17
          refine lv_iload_n hx hb dX7_taken_56 rfl (lv_at hl 3 rfl) ?_
          refine lv_iconst (v := 3) hx hb dX7_taken_57 (by decide) ?_
          refine lv_icmp_ge (tgt := 89) hx hb dX7_taken_58 (by decide) (fun c19 => ?_) (fun c19 => ?_)
          · have h := it_at c19 h
            refine lv_iconst (v := 0) hx hb dX7_taken_89 (by decide) ?_
            refine lv_istore (lv' := [(4, .int (0 : Int32)), (0, .ref (ad 0)), (1, .int a1), (2, .int a2), (3, .int a3)]) hx hb dX7_taken_90 hl (by decide) rfl (fun ls hl => ?_)
            refine lv_iconst (v := 0) hx hb dX7_taken_92 (by decide) ?_
            refine lv_istore (lv' := [(5, .int (0 : Int32)), (4, .int (0 : Int32)), (0, .ref (ad 0)), (1, .int a1), (2, .int a2), (3, .int a3)]) hx hb dX7_taken_93 hl (by decide) rfl (fun ls hl => ?_)
            obtain ⟨q21, hq21, ha, hb1⟩ := bne_at h
            obtain ⟨n20, hn20⟩ := wl_iff.mp hq21
            refine w_X7_taken_L95_95 X K n20 _ _ _ _ hn20 G (lv_sub hl [2, 5, 1, 0] rfl) (fun y23 u22 ee H locs ls G hl => ?_) (fun r u1 ee => by obtain ⟨rfl, rfl⟩ := pair_at (ha _ ee); rfl)
            have h := hb1 _ ee
            clear ee ha hb1 hq21 hn20
            have h := nm_at (x := y23) rfl h
            have h := nm_at (x := u22) rfl h
            refine lv_iload hx hb dX7_taken_127 (lv_at hl 0 rfl) ?_
            obtain ⟨rfl, rfl⟩ := pair_at h
            exact reI X G dX7_taken_129
          · have h := if_at c19 h
            refine lv_iload_n hx hb dX7_taken_61 rfl (lv_at hl 3 rfl) ?_
            refine lv_if_ne (tgt := 72) hx hb dX7_taken_62 (by decide) (fun c24 => ?_) (fun c24 => ?_)
            · have h := if_at c24 h
              refine lv_iload_n hx hb dX7_taken_72 rfl (lv_at hl 3 rfl) ?_
              refine lv_iconst (v := 1) hx hb dX7_taken_73 (by decide) ?_
              refine lv_icmp_ne (tgt := 84) hx hb dX7_taken_74 (by decide) (fun c25 => ?_) (fun c25 => ?_)
              · have h := if_at c25 h
                refine lv_aload_n hx hb dX7_taken_84 rfl (lv_at hl 0 rfl) ?_
                refine gM_0_16 X K G q_922 dX7_taken_85 ?_
                obtain ⟨rfl, rfl⟩ := pair_at h
                exact reI X G dX7_taken_88
              · have h := it_at c25 h
                refine lv_aload_n hx hb dX7_taken_77 rfl (lv_at hl 0 rfl) ?_
                refine gM_0_15 X K G q_921 dX7_taken_78 ?_
                refine lv_goto (tgt := 88) hx hb dX7_taken_81 (by decide) ?_
                obtain ⟨rfl, rfl⟩ := pair_at h
                exact reI X G dX7_taken_88
            · have h := it_at c24 h
              refine lv_aload_n hx hb dX7_taken_65 rfl (lv_at hl 0 rfl) ?_
              refine gM_0_14 X K G q_920 dX7_taken_66 ?_
              refine lv_goto (tgt := 88) hx hb dX7_taken_69 (by decide) ?_
              obtain ⟨rfl, rfl⟩ := pair_at h
              exact reI X G dX7_taken_88
        · have h := it_at c16 h
          refine lv_aload_n hx hb dX7_taken_43 rfl (lv_at hl 0 rfl) ?_
          refine lv_ldc (v := -1000001) hx hb X.2.2.2.1 (X.2.2.2.2.1 _ q_975) dX7_taken_44 ?_
          obtain ⟨r26, u27, er26, h⟩ := bnd_at h
          refine cvI (rest := []) X K G (c_X7_finds er26) q_976 my_X7_finds ⟨rfl, rfl⟩ ⟨Nat.le_of_ble_eq_true rfl, Nat.le_of_ble_eq_true rfl⟩ ⟨Nat.zero_le _, Nat.zero_le _⟩ 0 7 rfl rfl rfl rfl hl.1 rfl (Nat.le_of_ble_eq_true rfl) dX7_taken_46 (fun H locs G => ?_)
          clear er26
          obtain ⟨rfl, rfl⟩ := pair_at h
          exact reI X G dX7_taken_49
noncomputable def f_X7_best_L31_31 (v1 : Int32) (v2 : Int32) (v3 : Int32) (v4 : Int32) (u0 : MS) : Option ((Int32 × Int32 × Int32 × Int32 × MS) ⊕ ((Int32 × MS) ⊕ (Int32 × Int32 × Int32 × MS))) :=
  (if v2 ≤ v4 then
    some (.inr (.inr (v1, v2, v3, u0)))
  else
    nmv (v3 * (10 : Int32)) fun x2 =>
    nmv (v4 + (1 : Int32)) fun x3 =>
    some (.inl (v1, v2, x2, x3, u0)))
set_option maxRecDepth 100000 in
set_option maxHeartbeats 4000000 in
theorem b_X7_best_L31_31 (X : cx p s m args meth c cX7_best 8 RX7 (some .int)) (K : kx D cI cZ cQ adK adV A s s.heap) {v1 : Int32} {v2 : Int32} {v3 : Int32} {v4 : Int32} {u0 : MS} (G : wg D A s.heap H locs (wM cI ad u0)) (hl : lv_has ls 8 [(0, .ref (ad 0)), (1, .int v1), (2, .int v2), (3, .int v3), (4, .int v4)]) {q : ((Int32 × Int32 × Int32 × Int32 × MS) ⊕ ((Int32 × MS) ⊕ (Int32 × Int32 × Int32 × MS)))} (h : f_X7_best_L31_31 v1 v2 v3 v4 u0 = some q) (hB : ∀ (v1 : Int32) (v2 : Int32) (v3 : Int32) (v4 : Int32) (u : MS), q = .inl (v1, v2, v3, v4, u) → ∀ (H : Heap) (locs : List Loc) (ls : Array Slot), wg D A s.heap H locs (wM cI ad u) → lv_has ls 8 [(0, .ref (ad 0)), (1, .int v1), (2, .int v2), (3, .int v3), (4, .int v4)] → W p l e { frames := 8, cells := 0, slots := 0, locals := 186 } s m args below meth c H locs 0 0 Q (F0 m 31 ls [])) (hX : ∀ (v1 : Int32) (v2 : Int32) (v3 : Int32) (u : MS), q = .inr (.inr (v1, v2, v3, u)) → ∀ (H : Heap) (locs : List Loc) (ls : Array Slot), wg D A s.heap H locs (wM cI ad u) → lv_has ls 8 [(0, .ref (ad 0)), (1, .int v1), (2, .int v2), (3, .int v3)] → W p l e { frames := 8, cells := 0, slots := 0, locals := 186 } s m args below meth c H locs 0 0 Q (F0 m 48 ls [])) (hR : ∀ (r : Int32) (u : MS), q = .inr (.inl (r, u)) → Q = (qI D A (wM cI ad) below args s r u)) : W p l e { frames := 8, cells := 0, slots := 0, locals := 186 } s m args below meth c H locs 0 0 Q (F0 m 31 ls []) := by
  unfold f_X7_best_L31_31 at h
  obtain ⟨hx, hb, -⟩ := id X
  refine lv_iload hx hb dX7_best_31 (lv_at hl 4 rfl) ?_
  refine lv_iload_n hx hb dX7_best_33 rfl (lv_at hl 2 rfl) ?_
  refine lv_icmp_ge (tgt := 48) hx hb dX7_best_34 (by decide) (fun c1 => ?_) (fun c1 => ?_)
  · have h := it_at c1 h
    exact hX _ _ _ _ (Option.some.inj h).symm _ _ _ G (lv_sub hl [0, 1, 2, 3] rfl)
  · have h := if_at c1 h
    refine lv_iload_n hx hb dX7_best_37 rfl (lv_at hl 3 rfl) ?_
    refine lv_bipush (v := 10) hx hb dX7_best_38 (by decide) ?_
    refine lv_imul hx hb dX7_best_40 ?_
    refine lv_topi (fun x2 ex2 => ?_)
    have h := nm_at ex2 h
    refine lv_istore_n (lv' := [(3, .int x2), (0, .ref (ad 0)), (1, .int v1), (2, .int v2), (4, .int v4)]) hx hb dX7_best_41 rfl hl (by decide) rfl (fun ls hl => ?_)
    obtain ⟨x3, ex3⟩ : ∃ z : Int32, z = v4 + (1 : Int32) := ⟨_, rfl⟩
    have h := nm_at ex3 h
    refine lv_iinc (v := x3) (lv' := [(4, .int x3), (3, .int x2), (0, .ref (ad 0)), (1, .int v1), (2, .int v2)]) hx hb dX7_best_42 hl (k := 4) rfl (by rw [ex3]; rfl) (by decide) rfl (fun ls hl => ?_)
    refine lv_goto (tgt := 31) hx hb dX7_best_45 (by decide) ?_
    exact hB _ _ _ _ _ (Option.some.inj h).symm _ _ _ G (lv_sub hl [2, 3, 4, 1, 0] rfl)
noncomputable def f_X7_best_L31_31s (q : Int32 × Int32 × Int32 × Int32 × MS) : Option ((Int32 × Int32 × Int32 × Int32 × MS) ⊕ ((Int32 × MS) ⊕ (Int32 × Int32 × Int32 × MS))) := f_X7_best_L31_31 q.1 q.2.1 q.2.2.1 q.2.2.2.1 q.2.2.2.2
set_option maxRecDepth 100000 in
set_option maxHeartbeats 4000000 in
theorem w_X7_best_L31_31 (X : cx p s m args meth c cX7_best 8 RX7 (some .int)) (K : kx D cI cZ cQ adK adV A s s.heap) {e0 : (Int32 × MS) ⊕ (Int32 × Int32 × Int32 × MS)} : ∀ (n : Nat) (v1 : Int32) (v2 : Int32) (v3 : Int32) (v4 : Int32) (u : MS) {H : Heap} {locs : List Loc} {ls : Array Slot}, wh f_X7_best_L31_31s n (v1, v2, v3, v4, u) = some e0 → wg D A s.heap H locs (wM cI ad u) → lv_has ls 8 [(0, .ref (ad 0)), (1, .int v1), (2, .int v2), (3, .int v3), (4, .int v4)] → (∀ (v1 : Int32) (v2 : Int32) (v3 : Int32) (u : MS), e0 = .inr (v1, v2, v3, u) → ∀ (H : Heap) (locs : List Loc) (ls : Array Slot), wg D A s.heap H locs (wM cI ad u) → lv_has ls 8 [(0, .ref (ad 0)), (1, .int v1), (2, .int v2), (3, .int v3)] → W p l e { frames := 8, cells := 0, slots := 0, locals := 186 } s m args below meth c H locs 0 0 Q (F0 m 48 ls [])) → (∀ (r : Int32) (u : MS), e0 = .inl (r, u) → Q = (qI D A (wM cI ad) below args s r u)) → W p l e { frames := 8, cells := 0, slots := 0, locals := 186 } s m args below meth c H locs 0 0 Q (F0 m 31 ls []) := by
  intro n
  induction n with
  | zero => intro v1 v2 v3 v4 u H locs ls h; cases h
  | succ n ih =>
    intro v1 v2 v3 v4 u H locs ls h G hl hX hR
    obtain ⟨q, h1, h2, h3⟩ := wh_at h
    exact b_X7_best_L31_31 X K G hl (show f_X7_best_L31_31 v1 v2 v3 v4 u = some q from h1) (fun b0 b1 b2 b3 b4 ee H locs ls G hl => ih b0 b1 b2 b3 b4 (h2 _ ee) G hl hX hR) (fun z0 z1 z2 z3 ee => hX z0 z1 z2 z3 (h3 _ ee).symm) (fun r u ee => hR r u (h3 _ ee).symm)
noncomputable def f_X7_best_L60_60 (v1 : Int32) (v2 : Int32) (v3 : Int32) (v4 : Int32) (v5 : Int32) (v6 : Int32) (v7 : Int32) (u0 : MS) : Option ((Int32 × Int32 × Int32 × Int32 × Int32 × Int32 × Int32 × MS) ⊕ ((Int32 × MS) ⊕ (Int32 × Int32 × Int32 × Int32 × MS))) :=
  (if v3 ≤ v7 then
    some (.inr (.inr (v1, v4, v5, v6, u0)))
  else
    bnd (f_X7_areOrders v7 v2 u0) fun r2 u3 =>
    (if r2 = 0 then
      nmv (v7 + (1 : Int32)) fun x12 =>
      some (.inl (v1, v2, v3, v4, v5, v6, x12, u3))
    else
      bnd (f_X7_takesAll v7 v2 u3) fun r5 u6 =>
      (if v4 < (m_worth u6) then
        nmv (m_worth u6) fun x8 =>
        nmv (m_inTime u6) fun x9 =>
        nmv (v7 + (1 : Int32)) fun x10 =>
        some (.inl (v1, v2, v3, x8, v7, x9, x10, u6))
      else
        nmv (v7 + (1 : Int32)) fun x11 =>
        some (.inl (v1, v2, v3, v4, v5, v6, x11, u6)))))
set_option maxRecDepth 100000 in
set_option maxHeartbeats 4000000 in
theorem b_X7_best_L60_60 (X : cx p s m args meth c cX7_best 8 RX7 (some .int)) (K : kx D cI cZ cQ adK adV A s s.heap) {v1 : Int32} {v2 : Int32} {v3 : Int32} {v4 : Int32} {v5 : Int32} {v6 : Int32} {v7 : Int32} {u0 : MS} (G : wg D A s.heap H locs (wM cI ad u0)) (hl : lv_has ls 8 [(0, .ref (ad 0)), (1, .int v1), (2, .int v2), (3, .int v3), (4, .int v4), (5, .int v5), (6, .int v6), (7, .int v7)]) {q : ((Int32 × Int32 × Int32 × Int32 × Int32 × Int32 × Int32 × MS) ⊕ ((Int32 × MS) ⊕ (Int32 × Int32 × Int32 × Int32 × MS)))} (h : f_X7_best_L60_60 v1 v2 v3 v4 v5 v6 v7 u0 = some q) (hB : ∀ (v1 : Int32) (v2 : Int32) (v3 : Int32) (v4 : Int32) (v5 : Int32) (v6 : Int32) (v7 : Int32) (u : MS), q = .inl (v1, v2, v3, v4, v5, v6, v7, u) → ∀ (H : Heap) (locs : List Loc) (ls : Array Slot), wg D A s.heap H locs (wM cI ad u) → lv_has ls 8 [(0, .ref (ad 0)), (1, .int v1), (2, .int v2), (3, .int v3), (4, .int v4), (5, .int v5), (6, .int v6), (7, .int v7)] → W p l e { frames := 8, cells := 0, slots := 0, locals := 186 } s m args below meth c H locs 0 0 Q (F0 m 60 ls [])) (hX : ∀ (v1 : Int32) (v4 : Int32) (v5 : Int32) (v6 : Int32) (u : MS), q = .inr (.inr (v1, v4, v5, v6, u)) → ∀ (H : Heap) (locs : List Loc) (ls : Array Slot), wg D A s.heap H locs (wM cI ad u) → lv_has ls 8 [(1, .int v1), (4, .int v4), (5, .int v5), (6, .int v6)] → W p l e { frames := 8, cells := 0, slots := 0, locals := 186 } s m args below meth c H locs 0 0 Q (F0 m 120 ls [])) (hR : ∀ (r : Int32) (u : MS), q = .inr (.inl (r, u)) → Q = (qI D A (wM cI ad) below args s r u)) : W p l e { frames := 8, cells := 0, slots := 0, locals := 186 } s m args below meth c H locs 0 0 Q (F0 m 60 ls []) := by
  unfold f_X7_best_L60_60 at h
  obtain ⟨hx, hb, -⟩ := id X
  refine lv_iload hx hb dX7_best_60 (lv_at hl 7 rfl) ?_
  refine lv_iload_n hx hb dX7_best_62 rfl (lv_at hl 3 rfl) ?_
  refine lv_icmp_ge (tgt := 120) hx hb dX7_best_63 (by decide) (fun c1 => ?_) (fun c1 => ?_)
  · have h := it_at c1 h
    exact hX _ _ _ _ _ (Option.some.inj h).symm _ _ _ G (lv_sub hl [1, 4, 5, 6] rfl)
  · have h := if_at c1 h
    refine lv_aload_n hx hb dX7_best_66 rfl (lv_at hl 0 rfl) ?_
    refine lv_iload hx hb dX7_best_67 (lv_at hl 7 rfl) ?_
    refine lv_iload_n hx hb dX7_best_69 rfl (lv_at hl 2 rfl) ?_
    obtain ⟨r2, u3, er2, h⟩ := bnd_at h
    refine cvI (rest := []) X K G (c_X7_areOrders er2) q_1238 my_X7_areOrders ⟨rfl, rfl⟩ ⟨Nat.le_of_ble_eq_true rfl, Nat.le_of_ble_eq_true rfl⟩ ⟨Nat.zero_le _, Nat.zero_le _⟩ 0 7 rfl rfl rfl rfl hl.1 rfl (Nat.le_of_ble_eq_true rfl) dX7_best_70 (fun H locs G => ?_)
    clear er2
    refine lv_if_ne (tgt := 79) hx hb dX7_best_73 (by decide) (fun c4 => ?_) (fun c4 => ?_)
    · have h := if_at c4 h
      refine lv_aload_n hx hb dX7_best_79 rfl (lv_at hl 0 rfl) ?_
      refine lv_iload hx hb dX7_best_80 (lv_at hl 7 rfl) ?_
      refine lv_iload_n hx hb dX7_best_82 rfl (lv_at hl 2 rfl) ?_
      obtain ⟨r5, u6, er5, h⟩ := bnd_at h
      refine cvV (rest := []) X K G (c_X7_takesAll er5) q_1242 my_X7_takesAll ⟨rfl, rfl⟩ ⟨Nat.le_of_ble_eq_true rfl, Nat.le_of_ble_eq_true rfl⟩ ⟨Nat.zero_le _, Nat.zero_le _⟩ 0 7 rfl rfl rfl rfl hl.1 rfl (Nat.le_of_ble_eq_true rfl) dX7_best_83 (fun H locs G => ?_)
      clear er5
      refine lv_aload_n hx hb dX7_best_86 rfl (lv_at hl 0 rfl) ?_
      refine gM_0_14 X K G q_920 dX7_best_87 ?_
      refine lv_iload hx hb dX7_best_90 (lv_at hl 4 rfl) ?_
      refine lv_icmp_gt (tgt := 98) hx hb dX7_best_92 (by decide) (fun c7 => ?_) (fun c7 => ?_)
      · have h := it_at c7 h
        refine lv_aload_n hx hb dX7_best_98 rfl (lv_at hl 0 rfl) ?_
        refine gM_0_14 X K G q_920 dX7_best_99 ?_
        refine lv_topi (fun x8 ex8 => ?_)
        have h := nm_at ex8 h
        refine lv_istore (lv' := [(4, .int x8), (0, .ref (ad 0)), (1, .int v1), (2, .int v2), (3, .int v3), (5, .int v5), (6, .int v6), (7, .int v7)]) hx hb dX7_best_102 hl (by decide) rfl (fun ls hl => ?_)
        refine lv_iload hx hb dX7_best_104 (lv_at hl 7 rfl) ?_
        refine lv_istore (lv' := [(5, .int v7), (4, .int x8), (0, .ref (ad 0)), (1, .int v1), (2, .int v2), (3, .int v3), (6, .int v6), (7, .int v7)]) hx hb dX7_best_106 hl (by decide) rfl (fun ls hl => ?_)
        refine lv_aload_n hx hb dX7_best_108 rfl (lv_at hl 2 rfl) ?_
        refine gM_0_15 X K G q_921 dX7_best_109 ?_
        refine lv_topi (fun x9 ex9 => ?_)
        have h := nm_at ex9 h
        refine lv_istore (lv' := [(6, .int x9), (5, .int v7), (4, .int x8), (0, .ref (ad 0)), (1, .int v1), (2, .int v2), (3, .int v3), (7, .int v7)]) hx hb dX7_best_112 hl (by decide) rfl (fun ls hl => ?_)
        obtain ⟨x10, ex10⟩ : ∃ z : Int32, z = v7 + (1 : Int32) := ⟨_, rfl⟩
        have h := nm_at ex10 h
        refine lv_iinc (v := x10) (lv' := [(7, .int x10), (6, .int x9), (5, .int v7), (4, .int x8), (0, .ref (ad 0)), (1, .int v1), (2, .int v2), (3, .int v3)]) hx hb dX7_best_114 hl (k := 7) rfl (by rw [ex10]; rfl) (by decide) rfl (fun ls hl => ?_)
        refine lv_goto (tgt := 60) hx hb dX7_best_117 (by decide) ?_
        exact hB _ _ _ _ _ _ _ _ (Option.some.inj h).symm _ _ _ G (lv_sub hl [4, 5, 6, 7, 3, 2, 1, 0] rfl)
      · have h := if_at c7 h
        refine lv_goto (tgt := 114) hx hb dX7_best_95 (by decide) ?_
        obtain ⟨x11, ex11⟩ : ∃ z : Int32, z = v7 + (1 : Int32) := ⟨_, rfl⟩
        have h := nm_at ex11 h
        refine lv_iinc (v := x11) (lv' := [(7, .int x11), (0, .ref (ad 0)), (1, .int v1), (2, .int v2), (3, .int v3), (4, .int v4), (5, .int v5), (6, .int v6)]) hx hb dX7_best_114 hl (k := 7) rfl (by rw [ex11]; rfl) (by decide) rfl (fun ls hl => ?_)
        refine lv_goto (tgt := 60) hx hb dX7_best_117 (by decide) ?_
        exact hB _ _ _ _ _ _ _ _ (Option.some.inj h).symm _ _ _ G (lv_sub hl [1, 2, 3, 4, 5, 6, 7, 0] rfl)
    · have h := it_at c4 h
      refine lv_goto (tgt := 114) hx hb dX7_best_76 (by decide) ?_
      obtain ⟨x12, ex12⟩ : ∃ z : Int32, z = v7 + (1 : Int32) := ⟨_, rfl⟩
      have h := nm_at ex12 h
      refine lv_iinc (v := x12) (lv' := [(7, .int x12), (0, .ref (ad 0)), (1, .int v1), (2, .int v2), (3, .int v3), (4, .int v4), (5, .int v5), (6, .int v6)]) hx hb dX7_best_114 hl (k := 7) rfl (by rw [ex12]; rfl) (by decide) rfl (fun ls hl => ?_)
      refine lv_goto (tgt := 60) hx hb dX7_best_117 (by decide) ?_
      exact hB _ _ _ _ _ _ _ _ (Option.some.inj h).symm _ _ _ G (lv_sub hl [1, 2, 3, 4, 5, 6, 7, 0] rfl)
noncomputable def f_X7_best_L60_60s (q : Int32 × Int32 × Int32 × Int32 × Int32 × Int32 × Int32 × MS) : Option ((Int32 × Int32 × Int32 × Int32 × Int32 × Int32 × Int32 × MS) ⊕ ((Int32 × MS) ⊕ (Int32 × Int32 × Int32 × Int32 × MS))) := f_X7_best_L60_60 q.1 q.2.1 q.2.2.1 q.2.2.2.1 q.2.2.2.2.1 q.2.2.2.2.2.1 q.2.2.2.2.2.2.1 q.2.2.2.2.2.2.2
set_option maxRecDepth 100000 in
set_option maxHeartbeats 4000000 in
theorem w_X7_best_L60_60 (X : cx p s m args meth c cX7_best 8 RX7 (some .int)) (K : kx D cI cZ cQ adK adV A s s.heap) {e0 : (Int32 × MS) ⊕ (Int32 × Int32 × Int32 × Int32 × MS)} : ∀ (n : Nat) (v1 : Int32) (v2 : Int32) (v3 : Int32) (v4 : Int32) (v5 : Int32) (v6 : Int32) (v7 : Int32) (u : MS) {H : Heap} {locs : List Loc} {ls : Array Slot}, wh f_X7_best_L60_60s n (v1, v2, v3, v4, v5, v6, v7, u) = some e0 → wg D A s.heap H locs (wM cI ad u) → lv_has ls 8 [(0, .ref (ad 0)), (1, .int v1), (2, .int v2), (3, .int v3), (4, .int v4), (5, .int v5), (6, .int v6), (7, .int v7)] → (∀ (v1 : Int32) (v4 : Int32) (v5 : Int32) (v6 : Int32) (u : MS), e0 = .inr (v1, v4, v5, v6, u) → ∀ (H : Heap) (locs : List Loc) (ls : Array Slot), wg D A s.heap H locs (wM cI ad u) → lv_has ls 8 [(1, .int v1), (4, .int v4), (5, .int v5), (6, .int v6)] → W p l e { frames := 8, cells := 0, slots := 0, locals := 186 } s m args below meth c H locs 0 0 Q (F0 m 120 ls [])) → (∀ (r : Int32) (u : MS), e0 = .inl (r, u) → Q = (qI D A (wM cI ad) below args s r u)) → W p l e { frames := 8, cells := 0, slots := 0, locals := 186 } s m args below meth c H locs 0 0 Q (F0 m 60 ls []) := by
  intro n
  induction n with
  | zero => intro v1 v2 v3 v4 v5 v6 v7 u H locs ls h; cases h
  | succ n ih =>
    intro v1 v2 v3 v4 v5 v6 v7 u H locs ls h G hl hX hR
    obtain ⟨q, h1, h2, h3⟩ := wh_at h
    exact b_X7_best_L60_60 X K G hl (show f_X7_best_L60_60 v1 v2 v3 v4 v5 v6 v7 u = some q from h1) (fun b0 b1 b2 b3 b4 b5 b6 b7 ee H locs ls G hl => ih b0 b1 b2 b3 b4 b5 b6 b7 (h2 _ ee) G hl hX hR) (fun z0 z1 z2 z3 z4 ee => hX z0 z1 z2 z3 z4 (h3 _ ee).symm) (fun r u ee => hR r u (h3 _ ee).symm)
noncomputable def f_X7_best (a1 : Int32) (u0 : MS) : Option (Int32 × MS) :=
  bnd (f_X7_in (a1.toInt64) (0 : Int64) (2 : Int64) u0) fun r1 u2 =>
  (if r1 = 0 then
    bnd (f_X7_finds (-1000001 : Int32) u2) fun r20 u21 =>
    some (r20, u21)
  else
    nmv ((m_m u2) (4 : Int32).toNatClampNeg) fun x4 =>
    bne (wl f_X7_best_L31_31s (a1, x4, (1 : Int32), (0 : Int32), u2)) (fun a => some a) fun b =>
      nmv b.1 fun y8 =>
      nmv b.2.1 fun y9 =>
      nmv b.2.2.1 fun y10 =>
      nmv b.2.2.2 fun u7 =>
      bne (wl f_X7_best_L60_60s (y8, y9, y10, (-1 : Int32), (0 : Int32), (0 : Int32), (0 : Int32), u7)) (fun a => some a) fun b =>
        nmv b.1 fun y14 =>
        nmv b.2.1 fun y15 =>
        nmv b.2.2.1 fun y16 =>
        nmv b.2.2.2.1 fun y17 =>
        nmv b.2.2.2.2 fun u13 =>
        (if y14 = 0 then
          some (y15, u13)
        else
          (if y14 = (1 : Int32) then
            some (y17, u13)
          else
            some (y16, u13))))
set_option maxRecDepth 100000 in
set_option maxHeartbeats 4000000 in
theorem c_X7_best {a1 : Int32} {u0 : MS} {r : Int32} {u' : MS} (h : f_X7_best a1 u0 = some (r, u')) : MI l D cI cZ cQ adK adV A yX7_best cX7_best 8 (some .int) { frames := 8, cells := 0, slots := 0, locals := 186 } [.ref (ad 0), .int a1] (wM cI ad) u0 r u' := by
  unfold f_X7_best at h
  refine entI (by decide) (Nat.le_of_ble_eq_true rfl) (fun p e s m below meth c ls X K G hl => ?_)
  have hl : lv_has ls 8 [(0, .ref (ad 0)), (1, .int a1)] := hl
  obtain ⟨hx, hb, -⟩ := id X
  generalize hH : s.heap = H at G
  subst hH
  refine lv_iload_n hx hb dX7_best_0 rfl (lv_at hl 1 rfl) ?_
  refine lv_i2l hx hb dX7_best_1 rfl ?_
  refine lv_lconst (v := 0) hx hb dX7_best_2 (by decide) ?_
  refine lv_ldc2 (v := 2) hx hb X.2.2.2.1 (X.2.2.2.2.1 _ q_1138) dX7_best_3 ?_
  obtain ⟨r1, u2, er1, h⟩ := bnd_at h
  refine csI (rest := []) X K G (c_X7_in er1) q_972 my_X7_in ⟨rfl, rfl⟩ ⟨Nat.le_of_ble_eq_true rfl, Nat.le_of_ble_eq_true rfl⟩ ⟨Nat.zero_le _, Nat.zero_le _⟩ rfl hl.1 rfl (Nat.le_of_ble_eq_true rfl) dX7_best_6 (fun H locs G => ?_)
  clear er1
  refine lv_if_ne (tgt := 19) hx hb dX7_best_9 (by decide) (fun c3 => ?_) (fun c3 => ?_)
  · have h := if_at c3 h
    refine lv_aload_n hx hb dX7_best_19 rfl (lv_at hl 0 rfl) ?_
    refine gM_0_0 X K G q_906 dX7_best_20 ?_
    refine lv_iconst (v := 4) hx hb dX7_best_23 (by decide) ?_
    refine lM_1 X K G (by decide) dX7_best_24 ?_
    refine lv_topi (fun x4 ex4 => ?_)
    have h := nm_at ex4 h
    refine lv_istore_n (lv' := [(2, .int x4), (0, .ref (ad 0)), (1, .int a1)]) hx hb dX7_best_25 rfl hl (by decide) rfl (fun ls hl => ?_)
    refine lv_iconst (v := 1) hx hb dX7_best_26 (by decide) ?_
    refine lv_istore_n (lv' := [(3, .int (1 : Int32)), (2, .int x4), (0, .ref (ad 0)), (1, .int a1)]) hx hb dX7_best_27 rfl hl (by decide) rfl (fun ls hl => ?_)
    refine lv_iconst (v := 0) hx hb dX7_best_28 (by decide) ?_
    refine lv_istore (lv' := [(4, .int (0 : Int32)), (3, .int (1 : Int32)), (2, .int x4), (0, .ref (ad 0)), (1, .int a1)]) hx hb dX7_best_29 hl (by decide) rfl (fun ls hl => ?_)
    obtain ⟨q6, hq6, ha, hb1⟩ := bne_at h
    obtain ⟨n5, hn5⟩ := wl_iff.mp hq6
    refine w_X7_best_L31_31 X K n5 _ _ _ _ _ hn5 G (lv_sub hl [3, 4, 2, 1, 0] rfl) (fun y8 y9 y10 u7 ee H locs ls G hl => ?_) (fun r u1 ee => by obtain ⟨rfl, rfl⟩ := pair_at (ha _ ee); rfl)
    have h := hb1 _ ee
    clear ee ha hb1 hq6 hn5
    have h := nm_at (x := y8) rfl h
    have h := nm_at (x := y9) rfl h
    have h := nm_at (x := y10) rfl h
    have h := nm_at (x := u7) rfl h
    refine lv_iconst (v := -1) hx hb dX7_best_48 (by decide) ?_
    refine lv_istore (lv' := [(4, .int (-1 : Int32)), (0, .ref (ad 0)), (1, .int y8), (2, .int y9), (3, .int y10)]) hx hb dX7_best_49 hl (by decide) rfl (fun ls hl => ?_)
    refine lv_iconst (v := 0) hx hb dX7_best_51 (by decide) ?_
    refine lv_istore (lv' := [(5, .int (0 : Int32)), (4, .int (-1 : Int32)), (0, .ref (ad 0)), (1, .int y8), (2, .int y9), (3, .int y10)]) hx hb dX7_best_52 hl (by decide) rfl (fun ls hl => ?_)
    refine lv_iconst (v := 0) hx hb dX7_best_54 (by decide) ?_
    refine lv_istore (lv' := [(6, .int (0 : Int32)), (5, .int (0 : Int32)), (4, .int (-1 : Int32)), (0, .ref (ad 0)), (1, .int y8), (2, .int y9), (3, .int y10)]) hx hb dX7_best_55 hl (by decide) rfl (fun ls hl => ?_)
    refine lv_iconst (v := 0) hx hb dX7_best_57 (by decide) ?_
    refine lv_istore (lv' := [(7, .int (0 : Int32)), (6, .int (0 : Int32)), (5, .int (0 : Int32)), (4, .int (-1 : Int32)), (0, .ref (ad 0)), (1, .int y8), (2, .int y9), (3, .int y10)]) hx hb dX7_best_58 hl (by decide) rfl (fun ls hl => ?_)
    obtain ⟨q12, hq12, ha, hb1⟩ := bne_at h
    obtain ⟨n11, hn11⟩ := wl_iff.mp hq12
    refine w_X7_best_L60_60 X K n11 _ _ _ _ _ _ _ _ hn11 G (lv_sub hl [4, 5, 6, 7, 3, 2, 1, 0] rfl) (fun y14 y15 y16 y17 u13 ee H locs ls G hl => ?_) (fun r u1 ee => by obtain ⟨rfl, rfl⟩ := pair_at (ha _ ee); rfl)
    have h := hb1 _ ee
    clear ee ha hb1 hq12 hn11
    have h := nm_at (x := y14) rfl h
    have h := nm_at (x := y15) rfl h
    have h := nm_at (x := y16) rfl h
    have h := nm_at (x := y17) rfl h
    have h := nm_at (x := u13) rfl h
    refine lv_iload_n hx hb dX7_best_120 rfl (lv_at hl 0 rfl) ?_
    refine lv_if_ne (tgt := 129) hx hb dX7_best_121 (by decide) (fun c18 => ?_) (fun c18 => ?_)
    · have h := if_at c18 h
      refine lv_iload_n hx hb dX7_best_129 rfl (lv_at hl 0 rfl) ?_
      refine lv_iconst (v := 1) hx hb dX7_best_130 (by decide) ?_
      refine lv_icmp_ne (tgt := 139) hx hb dX7_best_131 (by decide) (fun c19 => ?_) (fun c19 => ?_)
      · have h := if_at c19 h
        refine lv_iload hx hb dX7_best_139 (lv_at hl 2 rfl) ?_
        obtain ⟨rfl, rfl⟩ := pair_at h
        exact reI X G dX7_best_141
      · have h := it_at c19 h
        refine lv_iload hx hb dX7_best_134 (lv_at hl 3 rfl) ?_
        refine lv_goto (tgt := 141) hx hb dX7_best_136 (by decide) ?_
        obtain ⟨rfl, rfl⟩ := pair_at h
        exact reI X G dX7_best_141
    · have h := it_at c18 h
      refine lv_iload hx hb dX7_best_124 (lv_at hl 1 rfl) ?_
      refine lv_goto (tgt := 141) hx hb dX7_best_126 (by decide) ?_
      obtain ⟨rfl, rfl⟩ := pair_at h
      exact reI X G dX7_best_141
  · have h := it_at c3 h
    refine lv_aload_n hx hb dX7_best_12 rfl (lv_at hl 0 rfl) ?_
    refine lv_ldc (v := -1000001) hx hb X.2.2.2.1 (X.2.2.2.2.1 _ q_975) dX7_best_13 ?_
    obtain ⟨r20, u21, er20, h⟩ := bnd_at h
    refine cvI (rest := []) X K G (c_X7_finds er20) q_976 my_X7_finds ⟨rfl, rfl⟩ ⟨Nat.le_of_ble_eq_true rfl, Nat.le_of_ble_eq_true rfl⟩ ⟨Nat.zero_le _, Nat.zero_le _⟩ 0 7 rfl rfl rfl rfl hl.1 rfl (Nat.le_of_ble_eq_true rfl) dX7_best_15 (fun H locs G => ?_)
    clear er20
    obtain ⟨rfl, rfl⟩ := pair_at h
    exact reI X G dX7_best_18
noncomputable def f_X7_mostOf_L5_5 (v1 : Int32) (v2 : Int32) (v3 : Int32) (v4 : Int32) (u0 : MS) : Option ((Int32 × Int32 × Int32 × Int32 × MS) ⊕ ((Int32 × MS) ⊕ (Int32 × Int32 × MS))) :=
  bnd (f_X7_steps v1 u0) fun r1 u2 =>
  (if r1 ≤ v4 then
    some (.inr (.inr (v2, v3, u2)))
  else
    bnd (f_X7_of v1 v4 (0 : Int32) u2) fun r4 u5 =>
    (if r4 = v2 then
      bnd (f_X7_of v1 v4 (1 : Int32) u5) fun r9 u10 =>
      nmv (v3 + r9) fun x11 =>
      nmv (v4 + (1 : Int32)) fun x12 =>
      some (.inl (v1, v2, x11, x12, u10))
    else
      nmv (v3 + (0 : Int32)) fun x7 =>
      nmv (v4 + (1 : Int32)) fun x8 =>
      some (.inl (v1, v2, x7, x8, u5))))
set_option maxRecDepth 100000 in
set_option maxHeartbeats 4000000 in
theorem b_X7_mostOf_L5_5 (X : cx p s m args meth c cX7_mostOf 6 RX7 (some .int)) (K : kx D cI cZ cQ adK adV A s s.heap) {v1 : Int32} {v2 : Int32} {v3 : Int32} {v4 : Int32} {u0 : MS} (G : wg D A s.heap H locs (wM cI ad u0)) (hl : lv_has ls 6 [(0, .ref (ad 0)), (1, .int v1), (2, .int v2), (3, .int v3), (4, .int v4)]) {q : ((Int32 × Int32 × Int32 × Int32 × MS) ⊕ ((Int32 × MS) ⊕ (Int32 × Int32 × MS)))} (h : f_X7_mostOf_L5_5 v1 v2 v3 v4 u0 = some q) (hB : ∀ (v1 : Int32) (v2 : Int32) (v3 : Int32) (v4 : Int32) (u : MS), q = .inl (v1, v2, v3, v4, u) → ∀ (H : Heap) (locs : List Loc) (ls : Array Slot), wg D A s.heap H locs (wM cI ad u) → lv_has ls 6 [(0, .ref (ad 0)), (1, .int v1), (2, .int v2), (3, .int v3), (4, .int v4)] → W p l e { frames := 2, cells := 0, slots := 0, locals := 45 } s m args below meth c H locs 0 0 Q (F0 m 5 ls [])) (hX : ∀ (v2 : Int32) (v3 : Int32) (u : MS), q = .inr (.inr (v2, v3, u)) → ∀ (H : Heap) (locs : List Loc) (ls : Array Slot), wg D A s.heap H locs (wM cI ad u) → lv_has ls 6 [(0, .ref (ad 0)), (2, .int v2), (3, .int v3)] → W p l e { frames := 2, cells := 0, slots := 0, locals := 45 } s m args below meth c H locs 0 0 Q (F0 m 48 ls [])) (hR : ∀ (r : Int32) (u : MS), q = .inr (.inl (r, u)) → Q = (qI D A (wM cI ad) below args s r u)) : W p l e { frames := 2, cells := 0, slots := 0, locals := 45 } s m args below meth c H locs 0 0 Q (F0 m 5 ls []) := by
  unfold f_X7_mostOf_L5_5 at h
  obtain ⟨hx, hb, -⟩ := id X
  refine lv_iload hx hb dX7_mostOf_5 (lv_at hl 4 rfl) ?_
  refine lv_aload_n hx hb dX7_mostOf_7 rfl (lv_at hl 0 rfl) ?_
  refine lv_iload_n hx hb dX7_mostOf_8 rfl (lv_at hl 1 rfl) ?_
  obtain ⟨r1, u2, er1, h⟩ := bnd_at h
  refine cvI (rest := [.int v4]) X K G (c_X7_steps er1) q_1121 my_X7_steps ⟨rfl, rfl⟩ ⟨Nat.le_of_ble_eq_true rfl, Nat.le_of_ble_eq_true rfl⟩ ⟨Nat.zero_le _, Nat.zero_le _⟩ 0 7 rfl rfl rfl rfl hl.1 rfl (Nat.le_of_ble_eq_true rfl) dX7_mostOf_9 (fun H locs G => ?_)
  clear er1
  refine lv_icmp_ge (tgt := 48) hx hb dX7_mostOf_12 (by decide) (fun c3 => ?_) (fun c3 => ?_)
  · have h := it_at c3 h
    exact hX _ _ _ (Option.some.inj h).symm _ _ _ G (lv_sub hl [0, 2, 3] rfl)
  · have h := if_at c3 h
    refine lv_iload_n hx hb dX7_mostOf_15 rfl (lv_at hl 3 rfl) ?_
    refine lv_aload_n hx hb dX7_mostOf_16 rfl (lv_at hl 0 rfl) ?_
    refine lv_iload_n hx hb dX7_mostOf_17 rfl (lv_at hl 1 rfl) ?_
    refine lv_iload hx hb dX7_mostOf_18 (lv_at hl 4 rfl) ?_
    refine lv_iconst (v := 0) hx hb dX7_mostOf_20 (by decide) ?_
    obtain ⟨r4, u5, er4, h⟩ := bnd_at h
    refine cvI (rest := [.int v3]) X K G (c_X7_of er4) q_1139 my_X7_of ⟨rfl, rfl⟩ ⟨Nat.le_of_ble_eq_true rfl, Nat.le_of_ble_eq_true rfl⟩ ⟨Nat.zero_le _, Nat.zero_le _⟩ 0 7 rfl rfl rfl rfl hl.1 rfl (Nat.le_of_ble_eq_true rfl) dX7_mostOf_21 (fun H locs G => ?_)
    clear er4
    refine lv_iload_n hx hb dX7_mostOf_24 rfl (lv_at hl 2 rfl) ?_
    refine lv_icmp_ne (tgt := 39) hx hb dX7_mostOf_25 (by decide) (fun c6 => ?_) (fun c6 => ?_)
    · have h := if_at c6 h
      refine lv_iconst (v := 0) hx hb dX7_mostOf_39 (by decide) ?_
      refine lv_iadd hx hb dX7_mostOf_40 ?_
      refine lv_topi (fun x7 ex7 => ?_)
      have h := nm_at ex7 h
      refine lv_istore_n (lv' := [(3, .int x7), (0, .ref (ad 0)), (1, .int v1), (2, .int v2), (4, .int v4)]) hx hb dX7_mostOf_41 rfl hl (by decide) rfl (fun ls hl => ?_)
      obtain ⟨x8, ex8⟩ : ∃ z : Int32, z = v4 + (1 : Int32) := ⟨_, rfl⟩
      have h := nm_at ex8 h
      refine lv_iinc (v := x8) (lv' := [(4, .int x8), (3, .int x7), (0, .ref (ad 0)), (1, .int v1), (2, .int v2)]) hx hb dX7_mostOf_42 hl (k := 4) rfl (by rw [ex8]; rfl) (by decide) rfl (fun ls hl => ?_)
      refine lv_goto (tgt := 5) hx hb dX7_mostOf_45 (by decide) ?_
      exact hB _ _ _ _ _ (Option.some.inj h).symm _ _ _ G (lv_sub hl [2, 3, 4, 1, 0] rfl)
    · have h := it_at c6 h
      refine lv_aload_n hx hb dX7_mostOf_28 rfl (lv_at hl 0 rfl) ?_
      refine lv_iload_n hx hb dX7_mostOf_29 rfl (lv_at hl 1 rfl) ?_
      refine lv_iload hx hb dX7_mostOf_30 (lv_at hl 4 rfl) ?_
      refine lv_iconst (v := 1) hx hb dX7_mostOf_32 (by decide) ?_
      obtain ⟨r9, u10, er9, h⟩ := bnd_at h
      refine cvI (rest := [.int v3]) X K G (c_X7_of er9) q_1139 my_X7_of ⟨rfl, rfl⟩ ⟨Nat.le_of_ble_eq_true rfl, Nat.le_of_ble_eq_true rfl⟩ ⟨Nat.zero_le _, Nat.zero_le _⟩ 0 7 rfl rfl rfl rfl hl.1 rfl (Nat.le_of_ble_eq_true rfl) dX7_mostOf_33 (fun H locs G => ?_)
      clear er9
      refine lv_goto (tgt := 40) hx hb dX7_mostOf_36 (by decide) ?_
      refine lv_iadd hx hb dX7_mostOf_40 ?_
      refine lv_topi (fun x11 ex11 => ?_)
      have h := nm_at ex11 h
      refine lv_istore_n (lv' := [(3, .int x11), (0, .ref (ad 0)), (1, .int v1), (2, .int v2), (4, .int v4)]) hx hb dX7_mostOf_41 rfl hl (by decide) rfl (fun ls hl => ?_)
      obtain ⟨x12, ex12⟩ : ∃ z : Int32, z = v4 + (1 : Int32) := ⟨_, rfl⟩
      have h := nm_at ex12 h
      refine lv_iinc (v := x12) (lv' := [(4, .int x12), (3, .int x11), (0, .ref (ad 0)), (1, .int v1), (2, .int v2)]) hx hb dX7_mostOf_42 hl (k := 4) rfl (by rw [ex12]; rfl) (by decide) rfl (fun ls hl => ?_)
      refine lv_goto (tgt := 5) hx hb dX7_mostOf_45 (by decide) ?_
      exact hB _ _ _ _ _ (Option.some.inj h).symm _ _ _ G (lv_sub hl [2, 3, 4, 1, 0] rfl)
noncomputable def f_X7_mostOf_L5_5s (q : Int32 × Int32 × Int32 × Int32 × MS) : Option ((Int32 × Int32 × Int32 × Int32 × MS) ⊕ ((Int32 × MS) ⊕ (Int32 × Int32 × MS))) := f_X7_mostOf_L5_5 q.1 q.2.1 q.2.2.1 q.2.2.2.1 q.2.2.2.2
set_option maxRecDepth 100000 in
set_option maxHeartbeats 4000000 in
theorem w_X7_mostOf_L5_5 (X : cx p s m args meth c cX7_mostOf 6 RX7 (some .int)) (K : kx D cI cZ cQ adK adV A s s.heap) {e0 : (Int32 × MS) ⊕ (Int32 × Int32 × MS)} : ∀ (n : Nat) (v1 : Int32) (v2 : Int32) (v3 : Int32) (v4 : Int32) (u : MS) {H : Heap} {locs : List Loc} {ls : Array Slot}, wh f_X7_mostOf_L5_5s n (v1, v2, v3, v4, u) = some e0 → wg D A s.heap H locs (wM cI ad u) → lv_has ls 6 [(0, .ref (ad 0)), (1, .int v1), (2, .int v2), (3, .int v3), (4, .int v4)] → (∀ (v2 : Int32) (v3 : Int32) (u : MS), e0 = .inr (v2, v3, u) → ∀ (H : Heap) (locs : List Loc) (ls : Array Slot), wg D A s.heap H locs (wM cI ad u) → lv_has ls 6 [(0, .ref (ad 0)), (2, .int v2), (3, .int v3)] → W p l e { frames := 2, cells := 0, slots := 0, locals := 45 } s m args below meth c H locs 0 0 Q (F0 m 48 ls [])) → (∀ (r : Int32) (u : MS), e0 = .inl (r, u) → Q = (qI D A (wM cI ad) below args s r u)) → W p l e { frames := 2, cells := 0, slots := 0, locals := 45 } s m args below meth c H locs 0 0 Q (F0 m 5 ls []) := by
  intro n
  induction n with
  | zero => intro v1 v2 v3 v4 u H locs ls h; cases h
  | succ n ih =>
    intro v1 v2 v3 v4 u H locs ls h G hl hX hR
    obtain ⟨q, h1, h2, h3⟩ := wh_at h
    exact b_X7_mostOf_L5_5 X K G hl (show f_X7_mostOf_L5_5 v1 v2 v3 v4 u = some q from h1) (fun b0 b1 b2 b3 b4 ee H locs ls G hl => ih b0 b1 b2 b3 b4 (h2 _ ee) G hl hX hR) (fun z0 z1 z2 ee => hX z0 z1 z2 (h3 _ ee).symm) (fun r u ee => hR r u (h3 _ ee).symm)
noncomputable def f_X7_mostOf_L54_54 (v2 : Int32) (v3 : Int32) (v4 : Int32) (v5 : Int32) (u0 : MS) : Option ((Int32 × Int32 × Int32 × Int32 × MS) ⊕ ((Int32 × MS) ⊕ (Int32 × Int32 × MS))) :=
  (if ((m_m u0) (0 : Int32).toNatClampNeg) ≤ v5 then
    some (.inr (.inr (v3, v4, u0)))
  else
    nmv ((6 : Int32) + v2) fun x2 =>
    if x2 < 0 ∨ 247 ≤ x2.toNatClampNeg then none else
    bnd (f_X7_has ((m_m u0) x2.toNatClampNeg) v5 u0) fun r4 u5 =>
    (if r4 = 0 then
      nmv (v4 + (0 : Int32)) fun x7 =>
      nmv (v5 + (1 : Int32)) fun x8 =>
      some (.inl (v2, v3, x7, x8, u5))
    else
      nmv (v4 + (1 : Int32)) fun x9 =>
      nmv (v5 + (1 : Int32)) fun x10 =>
      some (.inl (v2, v3, x9, x10, u5))))
set_option maxRecDepth 100000 in
set_option maxHeartbeats 4000000 in
theorem b_X7_mostOf_L54_54 (X : cx p s m args meth c cX7_mostOf 6 RX7 (some .int)) (K : kx D cI cZ cQ adK adV A s s.heap) {v2 : Int32} {v3 : Int32} {v4 : Int32} {v5 : Int32} {u0 : MS} (G : wg D A s.heap H locs (wM cI ad u0)) (hl : lv_has ls 6 [(0, .ref (ad 0)), (2, .int v2), (3, .int v3), (4, .int v4), (5, .int v5)]) {q : ((Int32 × Int32 × Int32 × Int32 × MS) ⊕ ((Int32 × MS) ⊕ (Int32 × Int32 × MS)))} (h : f_X7_mostOf_L54_54 v2 v3 v4 v5 u0 = some q) (hB : ∀ (v2 : Int32) (v3 : Int32) (v4 : Int32) (v5 : Int32) (u : MS), q = .inl (v2, v3, v4, v5, u) → ∀ (H : Heap) (locs : List Loc) (ls : Array Slot), wg D A s.heap H locs (wM cI ad u) → lv_has ls 6 [(0, .ref (ad 0)), (2, .int v2), (3, .int v3), (4, .int v4), (5, .int v5)] → W p l e { frames := 2, cells := 0, slots := 0, locals := 45 } s m args below meth c H locs 0 0 Q (F0 m 54 ls [])) (hX : ∀ (v3 : Int32) (v4 : Int32) (u : MS), q = .inr (.inr (v3, v4, u)) → ∀ (H : Heap) (locs : List Loc) (ls : Array Slot), wg D A s.heap H locs (wM cI ad u) → lv_has ls 6 [(3, .int v3), (4, .int v4)] → W p l e { frames := 2, cells := 0, slots := 0, locals := 45 } s m args below meth c H locs 0 0 Q (F0 m 98 ls [])) (hR : ∀ (r : Int32) (u : MS), q = .inr (.inl (r, u)) → Q = (qI D A (wM cI ad) below args s r u)) : W p l e { frames := 2, cells := 0, slots := 0, locals := 45 } s m args below meth c H locs 0 0 Q (F0 m 54 ls []) := by
  unfold f_X7_mostOf_L54_54 at h
  obtain ⟨hx, hb, -⟩ := id X
  refine lv_iload hx hb dX7_mostOf_54 (lv_at hl 4 rfl) ?_
  refine lv_aload_n hx hb dX7_mostOf_56 rfl (lv_at hl 0 rfl) ?_
  refine gM_0_0 X K G q_906 dX7_mostOf_57 ?_
  refine lv_iconst (v := 0) hx hb dX7_mostOf_60 (by decide) ?_
  refine lM_1 X K G (by decide) dX7_mostOf_61 ?_
  refine lv_icmp_ge (tgt := 98) hx hb dX7_mostOf_62 (by decide) (fun c1 => ?_) (fun c1 => ?_)
  · have h := it_at c1 h
    exact hX _ _ _ (Option.some.inj h).symm _ _ _ G (lv_sub hl [2, 3] rfl)
  · have h := if_at c1 h
    refine lv_iload hx hb dX7_mostOf_65 (lv_at hl 3 rfl) ?_
    refine lv_aload_n hx hb dX7_mostOf_67 rfl (lv_at hl 0 rfl) ?_
    refine gM_0_0 X K G q_906 dX7_mostOf_68 ?_
    refine lv_bipush (v := 6) hx hb dX7_mostOf_71 (by decide) ?_
    refine lv_iload_n hx hb dX7_mostOf_73 rfl (lv_at hl 1 rfl) ?_
    refine lv_iadd hx hb dX7_mostOf_74 ?_
    refine lv_topi (fun x2 ex2 => ?_)
    have h := nm_at ex2 h
    obtain ⟨g3, h⟩ := ck_at h
    refine lM_1 X K G g3 dX7_mostOf_75 ?_
    refine lv_iload hx hb dX7_mostOf_76 (lv_at hl 4 rfl) ?_
    obtain ⟨r4, u5, er4, h⟩ := bnd_at h
    refine csI (rest := [.int v4]) X K G (c_X7_has er4) q_1096 my_X7_has ⟨rfl, rfl⟩ ⟨Nat.le_of_ble_eq_true rfl, Nat.le_of_ble_eq_true rfl⟩ ⟨Nat.zero_le _, Nat.zero_le _⟩ rfl hl.1 rfl (Nat.le_of_ble_eq_true rfl) dX7_mostOf_78 (fun H locs G => ?_)
    clear er4
    refine lv_if_eq (tgt := 88) hx hb dX7_mostOf_81 (by decide) (fun c6 => ?_) (fun c6 => ?_)
    · have h := it_at c6 h
      refine lv_iconst (v := 0) hx hb dX7_mostOf_88 (by decide) ?_
      refine lv_iadd hx hb dX7_mostOf_89 ?_
      refine lv_topi (fun x7 ex7 => ?_)
      have h := nm_at ex7 h
      refine lv_istore (lv' := [(4, .int x7), (0, .ref (ad 0)), (2, .int v2), (3, .int v3), (5, .int v5)]) hx hb dX7_mostOf_90 hl (by decide) rfl (fun ls hl => ?_)
      obtain ⟨x8, ex8⟩ : ∃ z : Int32, z = v5 + (1 : Int32) := ⟨_, rfl⟩
      have h := nm_at ex8 h
      refine lv_iinc (v := x8) (lv' := [(5, .int x8), (4, .int x7), (0, .ref (ad 0)), (2, .int v2), (3, .int v3)]) hx hb dX7_mostOf_92 hl (k := 4) rfl (by rw [ex8]; rfl) (by decide) rfl (fun ls hl => ?_)
      refine lv_goto (tgt := 54) hx hb dX7_mostOf_95 (by decide) ?_
      exact hB _ _ _ _ _ (Option.some.inj h).symm _ _ _ G (lv_sub hl [2, 3, 4, 1, 0] rfl)
    · have h := if_at c6 h
      refine lv_iconst (v := 1) hx hb dX7_mostOf_84 (by decide) ?_
      refine lv_goto (tgt := 89) hx hb dX7_mostOf_85 (by decide) ?_
      refine lv_iadd hx hb dX7_mostOf_89 ?_
      refine lv_topi (fun x9 ex9 => ?_)
      have h := nm_at ex9 h
      refine lv_istore (lv' := [(4, .int x9), (0, .ref (ad 0)), (2, .int v2), (3, .int v3), (5, .int v5)]) hx hb dX7_mostOf_90 hl (by decide) rfl (fun ls hl => ?_)
      obtain ⟨x10, ex10⟩ : ∃ z : Int32, z = v5 + (1 : Int32) := ⟨_, rfl⟩
      have h := nm_at ex10 h
      refine lv_iinc (v := x10) (lv' := [(5, .int x10), (4, .int x9), (0, .ref (ad 0)), (2, .int v2), (3, .int v3)]) hx hb dX7_mostOf_92 hl (k := 4) rfl (by rw [ex10]; rfl) (by decide) rfl (fun ls hl => ?_)
      refine lv_goto (tgt := 54) hx hb dX7_mostOf_95 (by decide) ?_
      exact hB _ _ _ _ _ (Option.some.inj h).symm _ _ _ G (lv_sub hl [2, 3, 4, 1, 0] rfl)
noncomputable def f_X7_mostOf_L54_54s (q : Int32 × Int32 × Int32 × Int32 × MS) : Option ((Int32 × Int32 × Int32 × Int32 × MS) ⊕ ((Int32 × MS) ⊕ (Int32 × Int32 × MS))) := f_X7_mostOf_L54_54 q.1 q.2.1 q.2.2.1 q.2.2.2.1 q.2.2.2.2
set_option maxRecDepth 100000 in
set_option maxHeartbeats 4000000 in
theorem w_X7_mostOf_L54_54 (X : cx p s m args meth c cX7_mostOf 6 RX7 (some .int)) (K : kx D cI cZ cQ adK adV A s s.heap) {e0 : (Int32 × MS) ⊕ (Int32 × Int32 × MS)} : ∀ (n : Nat) (v2 : Int32) (v3 : Int32) (v4 : Int32) (v5 : Int32) (u : MS) {H : Heap} {locs : List Loc} {ls : Array Slot}, wh f_X7_mostOf_L54_54s n (v2, v3, v4, v5, u) = some e0 → wg D A s.heap H locs (wM cI ad u) → lv_has ls 6 [(0, .ref (ad 0)), (2, .int v2), (3, .int v3), (4, .int v4), (5, .int v5)] → (∀ (v3 : Int32) (v4 : Int32) (u : MS), e0 = .inr (v3, v4, u) → ∀ (H : Heap) (locs : List Loc) (ls : Array Slot), wg D A s.heap H locs (wM cI ad u) → lv_has ls 6 [(3, .int v3), (4, .int v4)] → W p l e { frames := 2, cells := 0, slots := 0, locals := 45 } s m args below meth c H locs 0 0 Q (F0 m 98 ls [])) → (∀ (r : Int32) (u : MS), e0 = .inl (r, u) → Q = (qI D A (wM cI ad) below args s r u)) → W p l e { frames := 2, cells := 0, slots := 0, locals := 45 } s m args below meth c H locs 0 0 Q (F0 m 54 ls []) := by
  intro n
  induction n with
  | zero => intro v2 v3 v4 v5 u H locs ls h; cases h
  | succ n ih =>
    intro v2 v3 v4 v5 u H locs ls h G hl hX hR
    obtain ⟨q, h1, h2, h3⟩ := wh_at h
    exact b_X7_mostOf_L54_54 X K G hl (show f_X7_mostOf_L54_54 v2 v3 v4 v5 u = some q from h1) (fun b0 b1 b2 b3 b4 ee H locs ls G hl => ih b0 b1 b2 b3 b4 (h2 _ ee) G hl hX hR) (fun z0 z1 z2 ee => hX z0 z1 z2 (h3 _ ee).symm) (fun r u ee => hR r u (h3 _ ee).symm)
noncomputable def f_X7_mostOf (a1 : Int32) (a2 : Int32) (u0 : MS) : Option (Int32 × MS) :=
  bne (wl f_X7_mostOf_L5_5s (a1, a2, (0 : Int32), (0 : Int32), u0)) (fun a => some a) fun b =>
    nmv b.1 fun y4 =>
    nmv b.2.1 fun y5 =>
    nmv b.2.2 fun u3 =>
    bne (wl f_X7_mostOf_L54_54s (y4, y5, (0 : Int32), (0 : Int32), u3)) (fun a => some a) fun b =>
      nmv b.1 fun y9 =>
      nmv b.2.1 fun y10 =>
      nmv b.2.2 fun u8 =>
      (if y9 = 0 then
        some ((-1 : Int32), u8)
      else
        nmv ((8 : Int32) * y10) fun x12 =>
        if y9 = 0 then none else
        some (x12 / y9, u8))
set_option maxRecDepth 100000 in
set_option maxHeartbeats 4000000 in
theorem c_X7_mostOf {a1 : Int32} {a2 : Int32} {u0 : MS} {r : Int32} {u' : MS} (h : f_X7_mostOf a1 a2 u0 = some (r, u')) : MI l D cI cZ cQ adK adV A yX7_mostOf cX7_mostOf 6 (some .int) { frames := 2, cells := 0, slots := 0, locals := 45 } [.ref (ad 0), .int a1, .int a2] (wM cI ad) u0 r u' := by
  unfold f_X7_mostOf at h
  refine entI (by decide) (Nat.le_of_ble_eq_true rfl) (fun p e s m below meth c ls X K G hl => ?_)
  have hl : lv_has ls 6 [(0, .ref (ad 0)), (1, .int a1), (2, .int a2)] := hl
  obtain ⟨hx, hb, -⟩ := id X
  generalize hH : s.heap = H at G
  subst hH
  refine lv_iconst (v := 0) hx hb dX7_mostOf_0 (by decide) ?_
  refine lv_istore_n (lv' := [(3, .int (0 : Int32)), (0, .ref (ad 0)), (1, .int a1), (2, .int a2)]) hx hb dX7_mostOf_1 rfl hl (by decide) rfl (fun ls hl => ?_)
  refine lv_iconst (v := 0) hx hb dX7_mostOf_2 (by decide) ?_
  refine lv_istore (lv' := [(4, .int (0 : Int32)), (3, .int (0 : Int32)), (0, .ref (ad 0)), (1, .int a1), (2, .int a2)]) hx hb dX7_mostOf_3 hl (by decide) rfl (fun ls hl => ?_)
  obtain ⟨q2, hq2, ha, hb1⟩ := bne_at h
  obtain ⟨n1, hn1⟩ := wl_iff.mp hq2
  refine w_X7_mostOf_L5_5 X K n1 _ _ _ _ _ hn1 G (lv_sub hl [2, 3, 4, 1, 0] rfl) (fun y4 y5 u3 ee H locs ls G hl => ?_) (fun r u1 ee => by obtain ⟨rfl, rfl⟩ := pair_at (ha _ ee); rfl)
  have h := hb1 _ ee
  clear ee ha hb1 hq2 hn1
  have h := nm_at (x := y4) rfl h
  have h := nm_at (x := y5) rfl h
  have h := nm_at (x := u3) rfl h
  refine lv_iconst (v := 0) hx hb dX7_mostOf_48 (by decide) ?_
  refine lv_istore (lv' := [(4, .int (0 : Int32)), (0, .ref (ad 0)), (2, .int y4), (3, .int y5)]) hx hb dX7_mostOf_49 hl (by decide) rfl (fun ls hl => ?_)
  refine lv_iconst (v := 0) hx hb dX7_mostOf_51 (by decide) ?_
  refine lv_istore (lv' := [(5, .int (0 : Int32)), (4, .int (0 : Int32)), (0, .ref (ad 0)), (2, .int y4), (3, .int y5)]) hx hb dX7_mostOf_52 hl (by decide) rfl (fun ls hl => ?_)
  obtain ⟨q7, hq7, ha, hb1⟩ := bne_at h
  obtain ⟨n6, hn6⟩ := wl_iff.mp hq7
  refine w_X7_mostOf_L54_54 X K n6 _ _ _ _ _ hn6 G (lv_sub hl [2, 3, 4, 1, 0] rfl) (fun y9 y10 u8 ee H locs ls G hl => ?_) (fun r u1 ee => by obtain ⟨rfl, rfl⟩ := pair_at (ha _ ee); rfl)
  have h := hb1 _ ee
  clear ee ha hb1 hq7 hn6
  have h := nm_at (x := y9) rfl h
  have h := nm_at (x := y10) rfl h
  have h := nm_at (x := u8) rfl h
  refine lv_iload_n hx hb dX7_mostOf_98 rfl (lv_at hl 0 rfl) ?_
  refine lv_if_ne (tgt := 106) hx hb dX7_mostOf_99 (by decide) (fun c11 => ?_) (fun c11 => ?_)
  · have h := if_at c11 h
    refine lv_bipush (v := 8) hx hb dX7_mostOf_106 (by decide) ?_
    refine lv_iload hx hb dX7_mostOf_108 (lv_at hl 1 rfl) ?_
    refine lv_imul hx hb dX7_mostOf_110 ?_
    refine lv_iload_n hx hb dX7_mostOf_111 rfl (lv_at hl 0 rfl) ?_
    refine nm2 (fun x12 ex12 => ?_)
    have h := nm_at ex12 h
    obtain ⟨g13, h⟩ := ck_at h
    refine lv_idiv hx hb dX7_mostOf_112 g13 ?_
    obtain ⟨rfl, rfl⟩ := pair_at h
    exact reI X G dX7_mostOf_113
  · have h := it_at c11 h
    refine lv_iconst (v := -1) hx hb dX7_mostOf_102 (by decide) ?_
    refine lv_goto (tgt := 113) hx hb dX7_mostOf_103 (by decide) ?_
    obtain ⟨rfl, rfl⟩ := pair_at h
    exact reI X G dX7_mostOf_113
noncomputable def f_X7_chokesAt_L4_4 (v1 : Int32) (v2 : Int32) (v3 : Int32) (u0 : MS) : Option ((Int32 × Int32 × Int32 × MS) ⊕ ((Int32 × MS) ⊕ (Int32 × MS))) :=
  (if ((m_m u0) (2 : Int32).toNatClampNeg) ≤ v3 then
    some (.inr (.inr (v2, u0)))
  else
    bnd (f_X7_mostOf v1 v3 u0) fun r2 u3 =>
    (if r2 < 0 then
      nmv (v3 + (1 : Int32)) fun x5 =>
      some (.inl (v1, v2, x5, u3))
    else
      (if v2 < 0 then
        nmv (v3 + (1 : Int32)) fun x7 =>
        some (.inl (v1, v3, x7, u3))
      else
        bnd (f_X7_mostOf v1 v2 u3) fun r8 u9 =>
        (if r8 ≤ r2 then
          nmv (v3 + (1 : Int32)) fun x11 =>
          some (.inl (v1, v2, x11, u9))
        else
          nmv (v3 + (1 : Int32)) fun x12 =>
          some (.inl (v1, v3, x12, u9))))))
set_option maxRecDepth 100000 in
set_option maxHeartbeats 4000000 in
theorem b_X7_chokesAt_L4_4 (X : cx p s m args meth c cX7_chokesAt 5 RX7 (some .int)) (K : kx D cI cZ cQ adK adV A s s.heap) {v1 : Int32} {v2 : Int32} {v3 : Int32} {u0 : MS} (G : wg D A s.heap H locs (wM cI ad u0)) (hl : lv_has ls 5 [(0, .ref (ad 0)), (1, .int v1), (2, .int v2), (3, .int v3)]) {q : ((Int32 × Int32 × Int32 × MS) ⊕ ((Int32 × MS) ⊕ (Int32 × MS)))} (h : f_X7_chokesAt_L4_4 v1 v2 v3 u0 = some q) (hB : ∀ (v1 : Int32) (v2 : Int32) (v3 : Int32) (u : MS), q = .inl (v1, v2, v3, u) → ∀ (H : Heap) (locs : List Loc) (ls : Array Slot), wg D A s.heap H locs (wM cI ad u) → lv_has ls 5 [(0, .ref (ad 0)), (1, .int v1), (2, .int v2), (3, .int v3)] → W p l e { frames := 3, cells := 0, slots := 0, locals := 70 } s m args below meth c H locs 0 0 Q (F0 m 4 ls [])) (hX : ∀ (v2 : Int32) (u : MS), q = .inr (.inr (v2, u)) → ∀ (H : Heap) (locs : List Loc) (ls : Array Slot), wg D A s.heap H locs (wM cI ad u) → lv_has ls 5 [(2, .int v2)] → W p l e { frames := 3, cells := 0, slots := 0, locals := 70 } s m args below meth c H locs 0 0 Q (F0 m 50 ls [])) (hR : ∀ (r : Int32) (u : MS), q = .inr (.inl (r, u)) → Q = (qI D A (wM cI ad) below args s r u)) : W p l e { frames := 3, cells := 0, slots := 0, locals := 70 } s m args below meth c H locs 0 0 Q (F0 m 4 ls []) := by
  unfold f_X7_chokesAt_L4_4 at h
  obtain ⟨hx, hb, -⟩ := id X
  refine lv_iload_n hx hb dX7_chokesAt_4 rfl (lv_at hl 3 rfl) ?_
  refine lv_aload_n hx hb dX7_chokesAt_5 rfl (lv_at hl 0 rfl) ?_
  refine gM_0_0 X K G q_906 dX7_chokesAt_6 ?_
  refine lv_iconst (v := 2) hx hb dX7_chokesAt_9 (by decide) ?_
  refine lM_1 X K G (by decide) dX7_chokesAt_10 ?_
  refine lv_icmp_ge (tgt := 50) hx hb dX7_chokesAt_11 (by decide) (fun c1 => ?_) (fun c1 => ?_)
  · have h := it_at c1 h
    exact hX _ _ (Option.some.inj h).symm _ _ _ G (lv_sub hl [2] rfl)
  · have h := if_at c1 h
    refine lv_aload_n hx hb dX7_chokesAt_14 rfl (lv_at hl 0 rfl) ?_
    refine lv_iload_n hx hb dX7_chokesAt_15 rfl (lv_at hl 1 rfl) ?_
    refine lv_iload_n hx hb dX7_chokesAt_16 rfl (lv_at hl 3 rfl) ?_
    obtain ⟨r2, u3, er2, h⟩ := bnd_at h
    refine cvI (rest := []) X K G (c_X7_mostOf er2) q_1277 my_X7_mostOf ⟨rfl, rfl⟩ ⟨Nat.le_of_ble_eq_true rfl, Nat.le_of_ble_eq_true rfl⟩ ⟨Nat.zero_le _, Nat.zero_le _⟩ 0 7 rfl rfl rfl rfl hl.1 rfl (Nat.le_of_ble_eq_true rfl) dX7_chokesAt_17 (fun H locs G => ?_)
    clear er2
    refine lv_istore (lv' := [(4, .int r2), (0, .ref (ad 0)), (1, .int v1), (2, .int v2), (3, .int v3)]) hx hb dX7_chokesAt_20 hl (by decide) rfl (fun ls hl => ?_)
    refine lv_iload hx hb dX7_chokesAt_22 (lv_at hl 0 rfl) ?_
    refine lv_if_lt (tgt := 44) hx hb dX7_chokesAt_24 (by decide) (fun c4 => ?_) (fun c4 => ?_)
    · have h := it_at c4 h
      obtain ⟨x5, ex5⟩ : ∃ z : Int32, z = v3 + (1 : Int32) := ⟨_, rfl⟩
      have h := nm_at ex5 h
      refine lv_iinc (v := x5) (lv' := [(3, .int x5), (4, .int r2), (0, .ref (ad 0)), (1, .int v1), (2, .int v2)]) hx hb dX7_chokesAt_44 hl (k := 4) rfl (by rw [ex5]; rfl) (by decide) rfl (fun ls hl => ?_)
      refine lv_goto (tgt := 4) hx hb dX7_chokesAt_47 (by decide) ?_
      exact hB _ _ _ _ (Option.some.inj h).symm _ _ _ G (lv_sub hl [2, 3, 4, 0] rfl)
    · have h := if_at c4 h
      refine lv_iload_n hx hb dX7_chokesAt_27 rfl (lv_at hl 3 rfl) ?_
      refine lv_if_lt (tgt := 42) hx hb dX7_chokesAt_28 (by decide) (fun c6 => ?_) (fun c6 => ?_)
      · have h := it_at c6 h
        refine lv_iload_n hx hb dX7_chokesAt_42 rfl (lv_at hl 4 rfl) ?_
        refine lv_istore_n (lv' := [(2, .int v3), (4, .int r2), (0, .ref (ad 0)), (1, .int v1), (3, .int v3)]) hx hb dX7_chokesAt_43 rfl hl (by decide) rfl (fun ls hl => ?_)
        obtain ⟨x7, ex7⟩ : ∃ z : Int32, z = v3 + (1 : Int32) := ⟨_, rfl⟩
        have h := nm_at ex7 h
        refine lv_iinc (v := x7) (lv' := [(3, .int x7), (2, .int v3), (4, .int r2), (0, .ref (ad 0)), (1, .int v1)]) hx hb dX7_chokesAt_44 hl (k := 4) rfl (by rw [ex7]; rfl) (by decide) rfl (fun ls hl => ?_)
        refine lv_goto (tgt := 4) hx hb dX7_chokesAt_47 (by decide) ?_
        exact hB _ _ _ _ (Option.some.inj h).symm _ _ _ G (lv_sub hl [3, 4, 1, 0] rfl)
      · have h := if_at c6 h
        refine lv_iload hx hb dX7_chokesAt_31 (lv_at hl 0 rfl) ?_
        refine lv_aload_n hx hb dX7_chokesAt_33 rfl (lv_at hl 1 rfl) ?_
        refine lv_iload_n hx hb dX7_chokesAt_34 rfl (lv_at hl 2 rfl) ?_
        refine lv_iload_n hx hb dX7_chokesAt_35 rfl (lv_at hl 3 rfl) ?_
        obtain ⟨r8, u9, er8, h⟩ := bnd_at h
        refine cvI (rest := [.int r2]) X K G (c_X7_mostOf er8) q_1277 my_X7_mostOf ⟨rfl, rfl⟩ ⟨Nat.le_of_ble_eq_true rfl, Nat.le_of_ble_eq_true rfl⟩ ⟨Nat.zero_le _, Nat.zero_le _⟩ 0 7 rfl rfl rfl rfl hl.1 rfl (Nat.le_of_ble_eq_true rfl) dX7_chokesAt_36 (fun H locs G => ?_)
        clear er8
        refine lv_icmp_ge (tgt := 44) hx hb dX7_chokesAt_39 (by decide) (fun c10 => ?_) (fun c10 => ?_)
        · have h := it_at c10 h
          obtain ⟨x11, ex11⟩ : ∃ z : Int32, z = v3 + (1 : Int32) := ⟨_, rfl⟩
          have h := nm_at ex11 h
          refine lv_iinc (v := x11) (lv' := [(3, .int x11), (4, .int r2), (0, .ref (ad 0)), (1, .int v1), (2, .int v2)]) hx hb dX7_chokesAt_44 hl (k := 4) rfl (by rw [ex11]; rfl) (by decide) rfl (fun ls hl => ?_)
          refine lv_goto (tgt := 4) hx hb dX7_chokesAt_47 (by decide) ?_
          exact hB _ _ _ _ (Option.some.inj h).symm _ _ _ G (lv_sub hl [2, 3, 4, 0] rfl)
        · have h := if_at c10 h
          refine lv_iload_n hx hb dX7_chokesAt_42 rfl (lv_at hl 4 rfl) ?_
          refine lv_istore_n (lv' := [(2, .int v3), (4, .int r2), (0, .ref (ad 0)), (1, .int v1), (3, .int v3)]) hx hb dX7_chokesAt_43 rfl hl (by decide) rfl (fun ls hl => ?_)
          obtain ⟨x12, ex12⟩ : ∃ z : Int32, z = v3 + (1 : Int32) := ⟨_, rfl⟩
          have h := nm_at ex12 h
          refine lv_iinc (v := x12) (lv' := [(3, .int x12), (2, .int v3), (4, .int r2), (0, .ref (ad 0)), (1, .int v1)]) hx hb dX7_chokesAt_44 hl (k := 4) rfl (by rw [ex12]; rfl) (by decide) rfl (fun ls hl => ?_)
          refine lv_goto (tgt := 4) hx hb dX7_chokesAt_47 (by decide) ?_
          exact hB _ _ _ _ (Option.some.inj h).symm _ _ _ G (lv_sub hl [3, 4, 1, 0] rfl)
noncomputable def f_X7_chokesAt_L4_4s (q : Int32 × Int32 × Int32 × MS) : Option ((Int32 × Int32 × Int32 × MS) ⊕ ((Int32 × MS) ⊕ (Int32 × MS))) := f_X7_chokesAt_L4_4 q.1 q.2.1 q.2.2.1 q.2.2.2
set_option maxRecDepth 100000 in
set_option maxHeartbeats 4000000 in
theorem w_X7_chokesAt_L4_4 (X : cx p s m args meth c cX7_chokesAt 5 RX7 (some .int)) (K : kx D cI cZ cQ adK adV A s s.heap) {e0 : (Int32 × MS) ⊕ (Int32 × MS)} : ∀ (n : Nat) (v1 : Int32) (v2 : Int32) (v3 : Int32) (u : MS) {H : Heap} {locs : List Loc} {ls : Array Slot}, wh f_X7_chokesAt_L4_4s n (v1, v2, v3, u) = some e0 → wg D A s.heap H locs (wM cI ad u) → lv_has ls 5 [(0, .ref (ad 0)), (1, .int v1), (2, .int v2), (3, .int v3)] → (∀ (v2 : Int32) (u : MS), e0 = .inr (v2, u) → ∀ (H : Heap) (locs : List Loc) (ls : Array Slot), wg D A s.heap H locs (wM cI ad u) → lv_has ls 5 [(2, .int v2)] → W p l e { frames := 3, cells := 0, slots := 0, locals := 70 } s m args below meth c H locs 0 0 Q (F0 m 50 ls [])) → (∀ (r : Int32) (u : MS), e0 = .inl (r, u) → Q = (qI D A (wM cI ad) below args s r u)) → W p l e { frames := 3, cells := 0, slots := 0, locals := 70 } s m args below meth c H locs 0 0 Q (F0 m 4 ls []) := by
  intro n
  induction n with
  | zero => intro v1 v2 v3 u H locs ls h; cases h
  | succ n ih =>
    intro v1 v2 v3 u H locs ls h G hl hX hR
    obtain ⟨q, h1, h2, h3⟩ := wh_at h
    exact b_X7_chokesAt_L4_4 X K G hl (show f_X7_chokesAt_L4_4 v1 v2 v3 u = some q from h1) (fun b0 b1 b2 b3 ee H locs ls G hl => ih b0 b1 b2 b3 (h2 _ ee) G hl hX hR) (fun z0 z1 ee => hX z0 z1 (h3 _ ee).symm) (fun r u ee => hR r u (h3 _ ee).symm)
noncomputable def f_X7_chokesAt (a1 : Int32) (u0 : MS) : Option (Int32 × MS) :=
  bne (wl f_X7_chokesAt_L4_4s (a1, (-1 : Int32), (0 : Int32), u0)) (fun a => some a) fun b =>
    nmv b.1 fun y4 =>
    nmv b.2 fun u3 =>
    some (y4, u3)
set_option maxRecDepth 100000 in
set_option maxHeartbeats 4000000 in
theorem c_X7_chokesAt {a1 : Int32} {u0 : MS} {r : Int32} {u' : MS} (h : f_X7_chokesAt a1 u0 = some (r, u')) : MI l D cI cZ cQ adK adV A yX7_chokesAt cX7_chokesAt 5 (some .int) { frames := 3, cells := 0, slots := 0, locals := 70 } [.ref (ad 0), .int a1] (wM cI ad) u0 r u' := by
  unfold f_X7_chokesAt at h
  refine entI (by decide) (Nat.le_of_ble_eq_true rfl) (fun p e s m below meth c ls X K G hl => ?_)
  have hl : lv_has ls 5 [(0, .ref (ad 0)), (1, .int a1)] := hl
  obtain ⟨hx, hb, -⟩ := id X
  generalize hH : s.heap = H at G
  subst hH
  refine lv_iconst (v := -1) hx hb dX7_chokesAt_0 (by decide) ?_
  refine lv_istore_n (lv' := [(2, .int (-1 : Int32)), (0, .ref (ad 0)), (1, .int a1)]) hx hb dX7_chokesAt_1 rfl hl (by decide) rfl (fun ls hl => ?_)
  refine lv_iconst (v := 0) hx hb dX7_chokesAt_2 (by decide) ?_
  refine lv_istore_n (lv' := [(3, .int (0 : Int32)), (2, .int (-1 : Int32)), (0, .ref (ad 0)), (1, .int a1)]) hx hb dX7_chokesAt_3 rfl hl (by decide) rfl (fun ls hl => ?_)
  obtain ⟨q2, hq2, ha, hb1⟩ := bne_at h
  obtain ⟨n1, hn1⟩ := wl_iff.mp hq2
  refine w_X7_chokesAt_L4_4 X K n1 _ _ _ _ hn1 G (lv_sub hl [2, 3, 1, 0] rfl) (fun y4 u3 ee H locs ls G hl => ?_) (fun r u1 ee => by obtain ⟨rfl, rfl⟩ := pair_at (ha _ ee); rfl)
  have h := hb1 _ ee
  clear ee ha hb1 hq2 hn1
  have h := nm_at (x := y4) rfl h
  have h := nm_at (x := u3) rfl h
  refine lv_iload_n hx hb dX7_chokesAt_50 rfl (lv_at hl 0 rfl) ?_
  obtain ⟨rfl, rfl⟩ := pair_at h
  exact reI X G dX7_chokesAt_51
noncomputable def f_X7_most (a1 : Int32) (u0 : MS) : Option (Int32 × MS) :=
  bnd (f_X7_isThing a1 u0) fun r1 u2 =>
  (if r1 = 0 then
    bnd (f_X7_finds (-1000001 : Int32) u2) fun r4 u5 =>
    some (r4, u5)
  else
    bnd (f_X7_chokesAt a1 u2) fun r6 u7 =>
    bnd (f_X7_mostOf a1 r6 u7) fun r8 u9 =>
    some (r8, u9))
set_option maxRecDepth 100000 in
set_option maxHeartbeats 4000000 in
theorem c_X7_most {a1 : Int32} {u0 : MS} {r : Int32} {u' : MS} (h : f_X7_most a1 u0 = some (r, u')) : MI l D cI cZ cQ adK adV A yX7_most cX7_most 2 (some .int) { frames := 4, cells := 0, slots := 0, locals := 94 } [.ref (ad 0), .int a1] (wM cI ad) u0 r u' := by
  unfold f_X7_most at h
  refine entI (by decide) (Nat.le_of_ble_eq_true rfl) (fun p e s m below meth c ls X K G hl => ?_)
  have hl : lv_has ls 2 [(0, .ref (ad 0)), (1, .int a1)] := hl
  obtain ⟨hx, hb, -⟩ := id X
  generalize hH : s.heap = H at G
  subst hH
  refine lv_aload_n hx hb dX7_most_0 rfl (lv_at hl 0 rfl) ?_
  refine lv_iload_n hx hb dX7_most_1 rfl (lv_at hl 1 rfl) ?_
  obtain ⟨r1, u2, er1, h⟩ := bnd_at h
  refine cvI (rest := []) X K G (c_X7_isThing er1) q_1116 my_X7_isThing ⟨rfl, rfl⟩ ⟨Nat.le_of_ble_eq_true rfl, Nat.le_of_ble_eq_true rfl⟩ ⟨Nat.zero_le _, Nat.zero_le _⟩ 0 7 rfl rfl rfl rfl hl.1 rfl (Nat.le_of_ble_eq_true rfl) dX7_most_2 (fun H locs G => ?_)
  clear er1
  refine lv_if_eq (tgt := 21) hx hb dX7_most_5 (by decide) (fun c3 => ?_) (fun c3 => ?_)
  · have h := it_at c3 h
    refine lv_aload_n hx hb dX7_most_21 rfl (lv_at hl 0 rfl) ?_
    refine lv_ldc (v := -1000001) hx hb X.2.2.2.1 (X.2.2.2.2.1 _ q_975) dX7_most_22 ?_
    obtain ⟨r4, u5, er4, h⟩ := bnd_at h
    refine cvI (rest := []) X K G (c_X7_finds er4) q_976 my_X7_finds ⟨rfl, rfl⟩ ⟨Nat.le_of_ble_eq_true rfl, Nat.le_of_ble_eq_true rfl⟩ ⟨Nat.zero_le _, Nat.zero_le _⟩ 0 7 rfl rfl rfl rfl hl.1 rfl (Nat.le_of_ble_eq_true rfl) dX7_most_24 (fun H locs G => ?_)
    clear er4
    obtain ⟨rfl, rfl⟩ := pair_at h
    exact reI X G dX7_most_27
  · have h := if_at c3 h
    refine lv_aload_n hx hb dX7_most_8 rfl (lv_at hl 0 rfl) ?_
    refine lv_iload_n hx hb dX7_most_9 rfl (lv_at hl 1 rfl) ?_
    refine lv_aload_n hx hb dX7_most_10 rfl (lv_at hl 0 rfl) ?_
    refine lv_iload_n hx hb dX7_most_11 rfl (lv_at hl 1 rfl) ?_
    obtain ⟨r6, u7, er6, h⟩ := bnd_at h
    refine cvI (rest := [.int a1, .ref (ad 0)]) X K G (c_X7_chokesAt er6) q_1273 my_X7_chokesAt ⟨rfl, rfl⟩ ⟨Nat.le_of_ble_eq_true rfl, Nat.le_of_ble_eq_true rfl⟩ ⟨Nat.zero_le _, Nat.zero_le _⟩ 0 7 rfl rfl rfl rfl hl.1 rfl (Nat.le_of_ble_eq_true rfl) dX7_most_12 (fun H locs G => ?_)
    clear er6
    obtain ⟨r8, u9, er8, h⟩ := bnd_at h
    refine cvI (rest := []) X K G (c_X7_mostOf er8) q_1277 my_X7_mostOf ⟨rfl, rfl⟩ ⟨Nat.le_of_ble_eq_true rfl, Nat.le_of_ble_eq_true rfl⟩ ⟨Nat.zero_le _, Nat.zero_le _⟩ 0 7 rfl rfl rfl rfl hl.1 rfl (Nat.le_of_ble_eq_true rfl) dX7_most_15 (fun H locs G => ?_)
    clear er8
    refine lv_goto (tgt := 27) hx hb dX7_most_18 (by decide) ?_
    obtain ⟨rfl, rfl⟩ := pair_at h
    exact reI X G dX7_most_27
noncomputable def f_X7_chokes (a1 : Int32) (u0 : MS) : Option (Int32 × MS) :=
  bnd (f_X7_isThing a1 u0) fun r1 u2 =>
  (if r1 = 0 then
    bnd (f_X7_finds (-1000001 : Int32) u2) fun r4 u5 =>
    some (r4, u5)
  else
    bnd (f_X7_chokesAt a1 u2) fun r6 u7 =>
    some (r6, u7))
set_option maxRecDepth 100000 in
set_option maxHeartbeats 4000000 in
theorem c_X7_chokes {a1 : Int32} {u0 : MS} {r : Int32} {u' : MS} (h : f_X7_chokes a1 u0 = some (r, u')) : MI l D cI cZ cQ adK adV A yX7_chokes cX7_chokes 2 (some .int) { frames := 4, cells := 0, slots := 0, locals := 94 } [.ref (ad 0), .int a1] (wM cI ad) u0 r u' := by
  unfold f_X7_chokes at h
  refine entI (by decide) (Nat.le_of_ble_eq_true rfl) (fun p e s m below meth c ls X K G hl => ?_)
  have hl : lv_has ls 2 [(0, .ref (ad 0)), (1, .int a1)] := hl
  obtain ⟨hx, hb, -⟩ := id X
  generalize hH : s.heap = H at G
  subst hH
  refine lv_aload_n hx hb dX7_chokes_0 rfl (lv_at hl 0 rfl) ?_
  refine lv_iload_n hx hb dX7_chokes_1 rfl (lv_at hl 1 rfl) ?_
  obtain ⟨r1, u2, er1, h⟩ := bnd_at h
  refine cvI (rest := []) X K G (c_X7_isThing er1) q_1116 my_X7_isThing ⟨rfl, rfl⟩ ⟨Nat.le_of_ble_eq_true rfl, Nat.le_of_ble_eq_true rfl⟩ ⟨Nat.zero_le _, Nat.zero_le _⟩ 0 7 rfl rfl rfl rfl hl.1 rfl (Nat.le_of_ble_eq_true rfl) dX7_chokes_2 (fun H locs G => ?_)
  clear er1
  refine lv_if_eq (tgt := 16) hx hb dX7_chokes_5 (by decide) (fun c3 => ?_) (fun c3 => ?_)
  · have h := it_at c3 h
    refine lv_aload_n hx hb dX7_chokes_16 rfl (lv_at hl 0 rfl) ?_
    refine lv_ldc (v := -1000001) hx hb X.2.2.2.1 (X.2.2.2.2.1 _ q_975) dX7_chokes_17 ?_
    obtain ⟨r4, u5, er4, h⟩ := bnd_at h
    refine cvI (rest := []) X K G (c_X7_finds er4) q_976 my_X7_finds ⟨rfl, rfl⟩ ⟨Nat.le_of_ble_eq_true rfl, Nat.le_of_ble_eq_true rfl⟩ ⟨Nat.zero_le _, Nat.zero_le _⟩ 0 7 rfl rfl rfl rfl hl.1 rfl (Nat.le_of_ble_eq_true rfl) dX7_chokes_19 (fun H locs G => ?_)
    clear er4
    obtain ⟨rfl, rfl⟩ := pair_at h
    exact reI X G dX7_chokes_22
  · have h := if_at c3 h
    refine lv_aload_n hx hb dX7_chokes_8 rfl (lv_at hl 0 rfl) ?_
    refine lv_iload_n hx hb dX7_chokes_9 rfl (lv_at hl 1 rfl) ?_
    obtain ⟨r6, u7, er6, h⟩ := bnd_at h
    refine cvI (rest := []) X K G (c_X7_chokesAt er6) q_1273 my_X7_chokesAt ⟨rfl, rfl⟩ ⟨Nat.le_of_ble_eq_true rfl, Nat.le_of_ble_eq_true rfl⟩ ⟨Nat.zero_le _, Nat.zero_le _⟩ 0 7 rfl rfl rfl rfl hl.1 rfl (Nat.le_of_ble_eq_true rfl) dX7_chokes_10 (fun H locs G => ?_)
    clear er6
    refine lv_goto (tgt := 22) hx hb dX7_chokes_13 (by decide) ?_
    obtain ⟨rfl, rfl⟩ := pair_at h
    exact reI X G dX7_chokes_22
noncomputable def f_X7_idle_L40_40 (v1 : Int32) (v2 : Int32) (v3 : Int32) (u0 : MS) : Option ((Int32 × Int32 × Int32 × MS) ⊕ ((Int32 × MS) ⊕ (Int32 × MS))) :=
  (if ((m_m u0) (2 : Int32).toNatClampNeg) ≤ v3 then
    some (.inr (.inr (v2, u0)))
  else
    bnd (f_X7_has v1 v3 u0) fun r2 u3 =>
    (if r2 = 0 then
      nmv (v2 &&& (-1 : Int32)) fun x5 =>
      nmv (v3 + (1 : Int32)) fun x6 =>
      some (.inl (v1, x5, x6, u3))
    else
      nmv ((6 : Int32) + v3) fun x7 =>
      if x7 < 0 ∨ 247 ≤ x7.toNatClampNeg then none else
      nmv (v2 &&& (((m_m u3) x7.toNatClampNeg) ^^^ (-1 : Int32))) fun x9 =>
      nmv (v3 + (1 : Int32)) fun x10 =>
      some (.inl (v1, x9, x10, u3))))
set_option maxRecDepth 100000 in
set_option maxHeartbeats 4000000 in
theorem b_X7_idle_L40_40 (X : cx p s m args meth c cX7_idle 4 RX7 (some .int)) (K : kx D cI cZ cQ adK adV A s s.heap) {v1 : Int32} {v2 : Int32} {v3 : Int32} {u0 : MS} (G : wg D A s.heap H locs (wM cI ad u0)) (hl : lv_has ls 4 [(0, .ref (ad 0)), (1, .int v1), (2, .int v2), (3, .int v3)]) {q : ((Int32 × Int32 × Int32 × MS) ⊕ ((Int32 × MS) ⊕ (Int32 × MS)))} (h : f_X7_idle_L40_40 v1 v2 v3 u0 = some q) (hB : ∀ (v1 : Int32) (v2 : Int32) (v3 : Int32) (u : MS), q = .inl (v1, v2, v3, u) → ∀ (H : Heap) (locs : List Loc) (ls : Array Slot), wg D A s.heap H locs (wM cI ad u) → lv_has ls 4 [(0, .ref (ad 0)), (1, .int v1), (2, .int v2), (3, .int v3)] → W p l e { frames := 1, cells := 0, slots := 0, locals := 25 } s m args below meth c H locs 0 0 Q (F0 m 40 ls [])) (hX : ∀ (v2 : Int32) (u : MS), q = .inr (.inr (v2, u)) → ∀ (H : Heap) (locs : List Loc) (ls : Array Slot), wg D A s.heap H locs (wM cI ad u) → lv_has ls 4 [(2, .int v2)] → W p l e { frames := 1, cells := 0, slots := 0, locals := 25 } s m args below meth c H locs 0 0 Q (F0 m 82 ls [])) (hR : ∀ (r : Int32) (u : MS), q = .inr (.inl (r, u)) → Q = (qI D A (wM cI ad) below args s r u)) : W p l e { frames := 1, cells := 0, slots := 0, locals := 25 } s m args below meth c H locs 0 0 Q (F0 m 40 ls []) := by
  unfold f_X7_idle_L40_40 at h
  obtain ⟨hx, hb, -⟩ := id X
  refine lv_iload_n hx hb dX7_idle_40 rfl (lv_at hl 3 rfl) ?_
  refine lv_aload_n hx hb dX7_idle_41 rfl (lv_at hl 0 rfl) ?_
  refine gM_0_0 X K G q_906 dX7_idle_42 ?_
  refine lv_iconst (v := 2) hx hb dX7_idle_45 (by decide) ?_
  refine lM_1 X K G (by decide) dX7_idle_46 ?_
  refine lv_icmp_ge (tgt := 82) hx hb dX7_idle_47 (by decide) (fun c1 => ?_) (fun c1 => ?_)
  · have h := it_at c1 h
    exact hX _ _ (Option.some.inj h).symm _ _ _ G (lv_sub hl [2] rfl)
  · have h := if_at c1 h
    refine lv_iload_n hx hb dX7_idle_50 rfl (lv_at hl 2 rfl) ?_
    refine lv_iload_n hx hb dX7_idle_51 rfl (lv_at hl 1 rfl) ?_
    refine lv_iload_n hx hb dX7_idle_52 rfl (lv_at hl 3 rfl) ?_
    obtain ⟨r2, u3, er2, h⟩ := bnd_at h
    refine csI (rest := [.int v2]) X K G (c_X7_has er2) q_1096 my_X7_has ⟨rfl, rfl⟩ ⟨Nat.le_of_ble_eq_true rfl, Nat.le_of_ble_eq_true rfl⟩ ⟨Nat.zero_le _, Nat.zero_le _⟩ rfl hl.1 rfl (Nat.le_of_ble_eq_true rfl) dX7_idle_53 (fun H locs G => ?_)
    clear er2
    refine lv_if_eq (tgt := 73) hx hb dX7_idle_56 (by decide) (fun c4 => ?_) (fun c4 => ?_)
    · have h := it_at c4 h
      refine lv_iconst (v := -1) hx hb dX7_idle_73 (by decide) ?_
      refine lv_iand hx hb dX7_idle_74 ?_
      refine lv_topi (fun x5 ex5 => ?_)
      have h := nm_at ex5 h
      refine lv_istore_n (lv' := [(2, .int x5), (0, .ref (ad 0)), (1, .int v1), (3, .int v3)]) hx hb dX7_idle_75 rfl hl (by decide) rfl (fun ls hl => ?_)
      obtain ⟨x6, ex6⟩ : ∃ z : Int32, z = v3 + (1 : Int32) := ⟨_, rfl⟩
      have h := nm_at ex6 h
      refine lv_iinc (v := x6) (lv' := [(3, .int x6), (2, .int x5), (0, .ref (ad 0)), (1, .int v1)]) hx hb dX7_idle_76 hl (k := 3) rfl (by rw [ex6]; rfl) (by decide) rfl (fun ls hl => ?_)
      refine lv_goto (tgt := 40) hx hb dX7_idle_79 (by decide) ?_
      exact hB _ _ _ _ (Option.some.inj h).symm _ _ _ G (lv_sub hl [2, 3, 1, 0] rfl)
    · have h := if_at c4 h
      refine lv_aload_n hx hb dX7_idle_59 rfl (lv_at hl 0 rfl) ?_
      refine gM_0_0 X K G q_906 dX7_idle_60 ?_
      refine lv_bipush (v := 6) hx hb dX7_idle_63 (by decide) ?_
      refine lv_iload_n hx hb dX7_idle_65 rfl (lv_at hl 3 rfl) ?_
      refine lv_iadd hx hb dX7_idle_66 ?_
      refine lv_topi (fun x7 ex7 => ?_)
      have h := nm_at ex7 h
      obtain ⟨g8, h⟩ := ck_at h
      refine lM_1 X K G g8 dX7_idle_67 ?_
      refine lv_iconst (v := -1) hx hb dX7_idle_68 (by decide) ?_
      refine lv_ixor hx hb dX7_idle_69 ?_
      refine lv_goto (tgt := 74) hx hb dX7_idle_70 (by decide) ?_
      refine lv_iand hx hb dX7_idle_74 ?_
      refine lv_topi (fun x9 ex9 => ?_)
      have h := nm_at ex9 h
      refine lv_istore_n (lv' := [(2, .int x9), (0, .ref (ad 0)), (1, .int v1), (3, .int v3)]) hx hb dX7_idle_75 rfl hl (by decide) rfl (fun ls hl => ?_)
      obtain ⟨x10, ex10⟩ : ∃ z : Int32, z = v3 + (1 : Int32) := ⟨_, rfl⟩
      have h := nm_at ex10 h
      refine lv_iinc (v := x10) (lv' := [(3, .int x10), (2, .int x9), (0, .ref (ad 0)), (1, .int v1)]) hx hb dX7_idle_76 hl (k := 3) rfl (by rw [ex10]; rfl) (by decide) rfl (fun ls hl => ?_)
      refine lv_goto (tgt := 40) hx hb dX7_idle_79 (by decide) ?_
      exact hB _ _ _ _ (Option.some.inj h).symm _ _ _ G (lv_sub hl [2, 3, 1, 0] rfl)
noncomputable def f_X7_idle_L40_40s (q : Int32 × Int32 × Int32 × MS) : Option ((Int32 × Int32 × Int32 × MS) ⊕ ((Int32 × MS) ⊕ (Int32 × MS))) := f_X7_idle_L40_40 q.1 q.2.1 q.2.2.1 q.2.2.2
set_option maxRecDepth 100000 in
set_option maxHeartbeats 4000000 in
theorem w_X7_idle_L40_40 (X : cx p s m args meth c cX7_idle 4 RX7 (some .int)) (K : kx D cI cZ cQ adK adV A s s.heap) {e0 : (Int32 × MS) ⊕ (Int32 × MS)} : ∀ (n : Nat) (v1 : Int32) (v2 : Int32) (v3 : Int32) (u : MS) {H : Heap} {locs : List Loc} {ls : Array Slot}, wh f_X7_idle_L40_40s n (v1, v2, v3, u) = some e0 → wg D A s.heap H locs (wM cI ad u) → lv_has ls 4 [(0, .ref (ad 0)), (1, .int v1), (2, .int v2), (3, .int v3)] → (∀ (v2 : Int32) (u : MS), e0 = .inr (v2, u) → ∀ (H : Heap) (locs : List Loc) (ls : Array Slot), wg D A s.heap H locs (wM cI ad u) → lv_has ls 4 [(2, .int v2)] → W p l e { frames := 1, cells := 0, slots := 0, locals := 25 } s m args below meth c H locs 0 0 Q (F0 m 82 ls [])) → (∀ (r : Int32) (u : MS), e0 = .inl (r, u) → Q = (qI D A (wM cI ad) below args s r u)) → W p l e { frames := 1, cells := 0, slots := 0, locals := 25 } s m args below meth c H locs 0 0 Q (F0 m 40 ls []) := by
  intro n
  induction n with
  | zero => intro v1 v2 v3 u H locs ls h; cases h
  | succ n ih =>
    intro v1 v2 v3 u H locs ls h G hl hX hR
    obtain ⟨q, h1, h2, h3⟩ := wh_at h
    exact b_X7_idle_L40_40 X K G hl (show f_X7_idle_L40_40 v1 v2 v3 u = some q from h1) (fun b0 b1 b2 b3 ee H locs ls G hl => ih b0 b1 b2 b3 (h2 _ ee) G hl hX hR) (fun z0 z1 ee => hX z0 z1 (h3 _ ee).symm) (fun r u ee => hR r u (h3 _ ee).symm)
noncomputable def f_X7_idle (a1 : Int32) (u0 : MS) : Option (Int32 × MS) :=
  bnd (f_X7_in (a1.toInt64) (0 : Int64) ((((1 : Int32) <<< (((m_m u0) (2 : Int32).toNatClampNeg) &&& 31)) - (1 : Int32)).toInt64) u0) fun r1 u2 =>
  (if r1 = 0 then
    bnd (f_X7_finds (-1000001 : Int32) u2) fun r9 u10 =>
    some (r9, u10)
  else
    nmv (((1 : Int32) <<< (((m_m u2) (0 : Int32).toNatClampNeg) &&& 31)) - (1 : Int32)) fun x4 =>
    bne (wl f_X7_idle_L40_40s (a1, x4, (0 : Int32), u2)) (fun a => some a) fun b =>
      nmv b.1 fun y8 =>
      nmv b.2 fun u7 =>
      some (y8, u7))
set_option maxRecDepth 100000 in
set_option maxHeartbeats 4000000 in
theorem c_X7_idle {a1 : Int32} {u0 : MS} {r : Int32} {u' : MS} (h : f_X7_idle a1 u0 = some (r, u')) : MI l D cI cZ cQ adK adV A yX7_idle cX7_idle 4 (some .int) { frames := 1, cells := 0, slots := 0, locals := 25 } [.ref (ad 0), .int a1] (wM cI ad) u0 r u' := by
  unfold f_X7_idle at h
  refine entI (by decide) (Nat.le_of_ble_eq_true rfl) (fun p e s m below meth c ls X K G hl => ?_)
  have hl : lv_has ls 4 [(0, .ref (ad 0)), (1, .int a1)] := hl
  obtain ⟨hx, hb, -⟩ := id X
  generalize hH : s.heap = H at G
  subst hH
  refine lv_iload_n hx hb dX7_idle_0 rfl (lv_at hl 1 rfl) ?_
  refine lv_i2l hx hb dX7_idle_1 rfl ?_
  refine lv_lconst (v := 0) hx hb dX7_idle_2 (by decide) ?_
  refine lv_iconst (v := 1) hx hb dX7_idle_3 (by decide) ?_
  refine lv_aload_n hx hb dX7_idle_4 rfl (lv_at hl 0 rfl) ?_
  refine gM_0_0 X K G q_906 dX7_idle_5 ?_
  refine lv_iconst (v := 2) hx hb dX7_idle_8 (by decide) ?_
  refine lM_1 X K G (by decide) dX7_idle_9 ?_
  refine lv_ishl hx hb dX7_idle_10 ?_
  refine lv_iconst (v := 1) hx hb dX7_idle_11 (by decide) ?_
  refine lv_isub hx hb dX7_idle_12 ?_
  refine lv_i2l hx hb dX7_idle_13 rfl ?_
  obtain ⟨r1, u2, er1, h⟩ := bnd_at h
  refine csI (rest := []) X K G (c_X7_in er1) q_972 my_X7_in ⟨rfl, rfl⟩ ⟨Nat.le_of_ble_eq_true rfl, Nat.le_of_ble_eq_true rfl⟩ ⟨Nat.zero_le _, Nat.zero_le _⟩ rfl hl.1 rfl (Nat.le_of_ble_eq_true rfl) dX7_idle_14 (fun H locs G => ?_)
  clear er1
  refine lv_if_ne (tgt := 27) hx hb dX7_idle_17 (by decide) (fun c3 => ?_) (fun c3 => ?_)
  · have h := if_at c3 h
    refine lv_iconst (v := 1) hx hb dX7_idle_27 (by decide) ?_
    refine lv_aload_n hx hb dX7_idle_28 rfl (lv_at hl 0 rfl) ?_
    refine gM_0_0 X K G q_906 dX7_idle_29 ?_
    refine lv_iconst (v := 0) hx hb dX7_idle_32 (by decide) ?_
    refine lM_1 X K G (by decide) dX7_idle_33 ?_
    refine lv_ishl hx hb dX7_idle_34 ?_
    refine lv_iconst (v := 1) hx hb dX7_idle_35 (by decide) ?_
    refine lv_isub hx hb dX7_idle_36 ?_
    refine lv_topi (fun x4 ex4 => ?_)
    have h := nm_at ex4 h
    refine lv_istore_n (lv' := [(2, .int x4), (0, .ref (ad 0)), (1, .int a1)]) hx hb dX7_idle_37 rfl hl (by decide) rfl (fun ls hl => ?_)
    refine lv_iconst (v := 0) hx hb dX7_idle_38 (by decide) ?_
    refine lv_istore_n (lv' := [(3, .int (0 : Int32)), (2, .int x4), (0, .ref (ad 0)), (1, .int a1)]) hx hb dX7_idle_39 rfl hl (by decide) rfl (fun ls hl => ?_)
    obtain ⟨q6, hq6, ha, hb1⟩ := bne_at h
    obtain ⟨n5, hn5⟩ := wl_iff.mp hq6
    refine w_X7_idle_L40_40 X K n5 _ _ _ _ hn5 G (lv_sub hl [2, 3, 1, 0] rfl) (fun y8 u7 ee H locs ls G hl => ?_) (fun r u1 ee => by obtain ⟨rfl, rfl⟩ := pair_at (ha _ ee); rfl)
    have h := hb1 _ ee
    clear ee ha hb1 hq6 hn5
    have h := nm_at (x := y8) rfl h
    have h := nm_at (x := u7) rfl h
    refine lv_iload_n hx hb dX7_idle_82 rfl (lv_at hl 0 rfl) ?_
    obtain ⟨rfl, rfl⟩ := pair_at h
    exact reI X G dX7_idle_83
  · have h := it_at c3 h
    refine lv_aload_n hx hb dX7_idle_20 rfl (lv_at hl 0 rfl) ?_
    refine lv_ldc (v := -1000001) hx hb X.2.2.2.1 (X.2.2.2.2.1 _ q_975) dX7_idle_21 ?_
    obtain ⟨r9, u10, er9, h⟩ := bnd_at h
    refine cvI (rest := []) X K G (c_X7_finds er9) q_976 my_X7_finds ⟨rfl, rfl⟩ ⟨Nat.le_of_ble_eq_true rfl, Nat.le_of_ble_eq_true rfl⟩ ⟨Nat.zero_le _, Nat.zero_le _⟩ 0 7 rfl rfl rfl rfl hl.1 rfl (Nat.le_of_ble_eq_true rfl) dX7_idle_23 (fun H locs G => ?_)
    clear er9
    obtain ⟨rfl, rfl⟩ := pair_at h
    exact reI X G dX7_idle_26
noncomputable def f_X7_turnedBy_L5_5 (v1 : Int32) (v2 : Int32) (v3 : Int32) (v4 : Int32) (u0 : MS) : Option ((Int32 × Int32 × Int32 × Int32 × MS) ⊕ ((Int32 × MS) ⊕ (Int32 × MS))) :=
  (if ((m_m u0) (0 : Int32).toNatClampNeg) ≤ v4 then
    some (.inr (.inr (v3, u0)))
  else
    bnd (f_X7_has v1 v4 u0) fun r2 u3 =>
    (if r2 = 0 then
      nmv (v3 ||| (0 : Int32)) fun x5 =>
      nmv (v4 + (1 : Int32)) fun x6 =>
      some (.inl (v1, v2, x5, x6, u3))
    else
      nmv ((m_m u3) (0 : Int32).toNatClampNeg) fun x7 =>
      nmv (v4 + v2) fun x8 =>
      if x7 = 0 then none else
      nmv (v3 ||| ((1 : Int32) <<< ((x8 - x8 / x7 * x7) &&& 31))) fun x9 =>
      nmv (v4 + (1 : Int32)) fun x10 =>
      some (.inl (v1, v2, x9, x10, u3))))
set_option maxRecDepth 100000 in
set_option maxHeartbeats 4000000 in
theorem b_X7_turnedBy_L5_5 (X : cx p s m args meth c cX7_turnedBy 5 RX7 (some .int)) (K : kx D cI cZ cQ adK adV A s s.heap) {v1 : Int32} {v2 : Int32} {v3 : Int32} {v4 : Int32} {u0 : MS} (G : wg D A s.heap H locs (wM cI ad u0)) (hl : lv_has ls 5 [(0, .ref (ad 0)), (1, .int v1), (2, .int v2), (3, .int v3), (4, .int v4)]) {q : ((Int32 × Int32 × Int32 × Int32 × MS) ⊕ ((Int32 × MS) ⊕ (Int32 × MS)))} (h : f_X7_turnedBy_L5_5 v1 v2 v3 v4 u0 = some q) (hB : ∀ (v1 : Int32) (v2 : Int32) (v3 : Int32) (v4 : Int32) (u : MS), q = .inl (v1, v2, v3, v4, u) → ∀ (H : Heap) (locs : List Loc) (ls : Array Slot), wg D A s.heap H locs (wM cI ad u) → lv_has ls 5 [(0, .ref (ad 0)), (1, .int v1), (2, .int v2), (3, .int v3), (4, .int v4)] → W p l e { frames := 1, cells := 0, slots := 0, locals := 21 } s m args below meth c H locs 0 0 Q (F0 m 5 ls [])) (hX : ∀ (v3 : Int32) (u : MS), q = .inr (.inr (v3, u)) → ∀ (H : Heap) (locs : List Loc) (ls : Array Slot), wg D A s.heap H locs (wM cI ad u) → lv_has ls 5 [(3, .int v3)] → W p l e { frames := 1, cells := 0, slots := 0, locals := 21 } s m args below meth c H locs 0 0 Q (F0 m 51 ls [])) (hR : ∀ (r : Int32) (u : MS), q = .inr (.inl (r, u)) → Q = (qI D A (wM cI ad) below args s r u)) : W p l e { frames := 1, cells := 0, slots := 0, locals := 21 } s m args below meth c H locs 0 0 Q (F0 m 5 ls []) := by
  unfold f_X7_turnedBy_L5_5 at h
  obtain ⟨hx, hb, -⟩ := id X
  refine lv_iload hx hb dX7_turnedBy_5 (lv_at hl 4 rfl) ?_
  refine lv_aload_n hx hb dX7_turnedBy_7 rfl (lv_at hl 0 rfl) ?_
  refine gM_0_0 X K G q_906 dX7_turnedBy_8 ?_
  refine lv_iconst (v := 0) hx hb dX7_turnedBy_11 (by decide) ?_
  refine lM_1 X K G (by decide) dX7_turnedBy_12 ?_
  refine lv_icmp_ge (tgt := 51) hx hb dX7_turnedBy_13 (by decide) (fun c1 => ?_) (fun c1 => ?_)
  · have h := it_at c1 h
    exact hX _ _ (Option.some.inj h).symm _ _ _ G (lv_sub hl [3] rfl)
  · have h := if_at c1 h
    refine lv_iload_n hx hb dX7_turnedBy_16 rfl (lv_at hl 3 rfl) ?_
    refine lv_iload_n hx hb dX7_turnedBy_17 rfl (lv_at hl 1 rfl) ?_
    refine lv_iload hx hb dX7_turnedBy_18 (lv_at hl 4 rfl) ?_
    obtain ⟨r2, u3, er2, h⟩ := bnd_at h
    refine csI (rest := [.int v3]) X K G (c_X7_has er2) q_1096 my_X7_has ⟨rfl, rfl⟩ ⟨Nat.le_of_ble_eq_true rfl, Nat.le_of_ble_eq_true rfl⟩ ⟨Nat.zero_le _, Nat.zero_le _⟩ rfl hl.1 rfl (Nat.le_of_ble_eq_true rfl) dX7_turnedBy_20 (fun H locs G => ?_)
    clear er2
    refine lv_if_eq (tgt := 42) hx hb dX7_turnedBy_23 (by decide) (fun c4 => ?_) (fun c4 => ?_)
    · have h := it_at c4 h
      refine lv_iconst (v := 0) hx hb dX7_turnedBy_42 (by decide) ?_
      refine lv_ior hx hb dX7_turnedBy_43 ?_
      refine lv_topi (fun x5 ex5 => ?_)
      have h := nm_at ex5 h
      refine lv_istore_n (lv' := [(3, .int x5), (0, .ref (ad 0)), (1, .int v1), (2, .int v2), (4, .int v4)]) hx hb dX7_turnedBy_44 rfl hl (by decide) rfl (fun ls hl => ?_)
      obtain ⟨x6, ex6⟩ : ∃ z : Int32, z = v4 + (1 : Int32) := ⟨_, rfl⟩
      have h := nm_at ex6 h
      refine lv_iinc (v := x6) (lv' := [(4, .int x6), (3, .int x5), (0, .ref (ad 0)), (1, .int v1), (2, .int v2)]) hx hb dX7_turnedBy_45 hl (k := 4) rfl (by rw [ex6]; rfl) (by decide) rfl (fun ls hl => ?_)
      refine lv_goto (tgt := 5) hx hb dX7_turnedBy_48 (by decide) ?_
      exact hB _ _ _ _ _ (Option.some.inj h).symm _ _ _ G (lv_sub hl [2, 3, 4, 1, 0] rfl)
    · have h := if_at c4 h
      refine lv_iconst (v := 1) hx hb dX7_turnedBy_26 (by decide) ?_
      refine lv_iload hx hb dX7_turnedBy_27 (lv_at hl 4 rfl) ?_
      refine lv_iload_n hx hb dX7_turnedBy_29 rfl (lv_at hl 2 rfl) ?_
      refine lv_iadd hx hb dX7_turnedBy_30 ?_
      refine lv_aload_n hx hb dX7_turnedBy_31 rfl (lv_at hl 0 rfl) ?_
      refine gM_0_0 X K G q_906 dX7_turnedBy_32 ?_
      refine lv_iconst (v := 0) hx hb dX7_turnedBy_35 (by decide) ?_
      refine lM_1 X K G (by decide) dX7_turnedBy_36 ?_
      refine lv_topi (fun x7 ex7 => ?_)
      have h := nm_at ex7 h
      refine nm2 (fun x8 ex8 => ?_)
      have h := nm_at ex8 h
      obtain ⟨g11, h⟩ := ck_at h
      refine lv_irem hx hb dX7_turnedBy_37 g11 ?_
      refine lv_ishl hx hb dX7_turnedBy_38 ?_
      refine lv_goto (tgt := 43) hx hb dX7_turnedBy_39 (by decide) ?_
      refine lv_ior hx hb dX7_turnedBy_43 ?_
      refine lv_topi (fun x9 ex9 => ?_)
      have h := nm_at ex9 h
      refine lv_istore_n (lv' := [(3, .int x9), (0, .ref (ad 0)), (1, .int v1), (2, .int v2), (4, .int v4)]) hx hb dX7_turnedBy_44 rfl hl (by decide) rfl (fun ls hl => ?_)
      obtain ⟨x10, ex10⟩ : ∃ z : Int32, z = v4 + (1 : Int32) := ⟨_, rfl⟩
      have h := nm_at ex10 h
      refine lv_iinc (v := x10) (lv' := [(4, .int x10), (3, .int x9), (0, .ref (ad 0)), (1, .int v1), (2, .int v2)]) hx hb dX7_turnedBy_45 hl (k := 4) rfl (by rw [ex10]; rfl) (by decide) rfl (fun ls hl => ?_)
      refine lv_goto (tgt := 5) hx hb dX7_turnedBy_48 (by decide) ?_
      exact hB _ _ _ _ _ (Option.some.inj h).symm _ _ _ G (lv_sub hl [2, 3, 4, 1, 0] rfl)
noncomputable def f_X7_turnedBy_L5_5s (q : Int32 × Int32 × Int32 × Int32 × MS) : Option ((Int32 × Int32 × Int32 × Int32 × MS) ⊕ ((Int32 × MS) ⊕ (Int32 × MS))) := f_X7_turnedBy_L5_5 q.1 q.2.1 q.2.2.1 q.2.2.2.1 q.2.2.2.2
set_option maxRecDepth 100000 in
set_option maxHeartbeats 4000000 in
theorem w_X7_turnedBy_L5_5 (X : cx p s m args meth c cX7_turnedBy 5 RX7 (some .int)) (K : kx D cI cZ cQ adK adV A s s.heap) {e0 : (Int32 × MS) ⊕ (Int32 × MS)} : ∀ (n : Nat) (v1 : Int32) (v2 : Int32) (v3 : Int32) (v4 : Int32) (u : MS) {H : Heap} {locs : List Loc} {ls : Array Slot}, wh f_X7_turnedBy_L5_5s n (v1, v2, v3, v4, u) = some e0 → wg D A s.heap H locs (wM cI ad u) → lv_has ls 5 [(0, .ref (ad 0)), (1, .int v1), (2, .int v2), (3, .int v3), (4, .int v4)] → (∀ (v3 : Int32) (u : MS), e0 = .inr (v3, u) → ∀ (H : Heap) (locs : List Loc) (ls : Array Slot), wg D A s.heap H locs (wM cI ad u) → lv_has ls 5 [(3, .int v3)] → W p l e { frames := 1, cells := 0, slots := 0, locals := 21 } s m args below meth c H locs 0 0 Q (F0 m 51 ls [])) → (∀ (r : Int32) (u : MS), e0 = .inl (r, u) → Q = (qI D A (wM cI ad) below args s r u)) → W p l e { frames := 1, cells := 0, slots := 0, locals := 21 } s m args below meth c H locs 0 0 Q (F0 m 5 ls []) := by
  intro n
  induction n with
  | zero => intro v1 v2 v3 v4 u H locs ls h; cases h
  | succ n ih =>
    intro v1 v2 v3 v4 u H locs ls h G hl hX hR
    obtain ⟨q, h1, h2, h3⟩ := wh_at h
    exact b_X7_turnedBy_L5_5 X K G hl (show f_X7_turnedBy_L5_5 v1 v2 v3 v4 u = some q from h1) (fun b0 b1 b2 b3 b4 ee H locs ls G hl => ih b0 b1 b2 b3 b4 (h2 _ ee) G hl hX hR) (fun z0 z1 ee => hX z0 z1 (h3 _ ee).symm) (fun r u ee => hR r u (h3 _ ee).symm)
noncomputable def f_X7_turnedBy (a1 : Int32) (a2 : Int32) (u0 : MS) : Option (Int32 × MS) :=
  bne (wl f_X7_turnedBy_L5_5s (a1, a2, (0 : Int32), (0 : Int32), u0)) (fun a => some a) fun b =>
    nmv b.1 fun y4 =>
    nmv b.2 fun u3 =>
    some (y4, u3)
set_option maxRecDepth 100000 in
set_option maxHeartbeats 4000000 in
theorem c_X7_turnedBy {a1 : Int32} {a2 : Int32} {u0 : MS} {r : Int32} {u' : MS} (h : f_X7_turnedBy a1 a2 u0 = some (r, u')) : MI l D cI cZ cQ adK adV A yX7_turnedBy cX7_turnedBy 5 (some .int) { frames := 1, cells := 0, slots := 0, locals := 21 } [.ref (ad 0), .int a1, .int a2] (wM cI ad) u0 r u' := by
  unfold f_X7_turnedBy at h
  refine entI (by decide) (Nat.le_of_ble_eq_true rfl) (fun p e s m below meth c ls X K G hl => ?_)
  have hl : lv_has ls 5 [(0, .ref (ad 0)), (1, .int a1), (2, .int a2)] := hl
  obtain ⟨hx, hb, -⟩ := id X
  generalize hH : s.heap = H at G
  subst hH
  refine lv_iconst (v := 0) hx hb dX7_turnedBy_0 (by decide) ?_
  refine lv_istore_n (lv' := [(3, .int (0 : Int32)), (0, .ref (ad 0)), (1, .int a1), (2, .int a2)]) hx hb dX7_turnedBy_1 rfl hl (by decide) rfl (fun ls hl => ?_)
  refine lv_iconst (v := 0) hx hb dX7_turnedBy_2 (by decide) ?_
  refine lv_istore (lv' := [(4, .int (0 : Int32)), (3, .int (0 : Int32)), (0, .ref (ad 0)), (1, .int a1), (2, .int a2)]) hx hb dX7_turnedBy_3 hl (by decide) rfl (fun ls hl => ?_)
  obtain ⟨q2, hq2, ha, hb1⟩ := bne_at h
  obtain ⟨n1, hn1⟩ := wl_iff.mp hq2
  refine w_X7_turnedBy_L5_5 X K n1 _ _ _ _ _ hn1 G (lv_sub hl [2, 3, 4, 1, 0] rfl) (fun y4 u3 ee H locs ls G hl => ?_) (fun r u1 ee => by obtain ⟨rfl, rfl⟩ := pair_at (ha _ ee); rfl)
  have h := hb1 _ ee
  clear ee ha hb1 hq2 hn1
  have h := nm_at (x := y4) rfl h
  have h := nm_at (x := u3) rfl h
  refine lv_iload_n hx hb dX7_turnedBy_51 rfl (lv_at hl 0 rfl) ?_
  obtain ⟨rfl, rfl⟩ := pair_at h
  exact reI X G dX7_turnedBy_52
end WALK_ref3
