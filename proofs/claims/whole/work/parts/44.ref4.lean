section WALK_ref4
variable {p : Program} {l : Launch} {e : Env} {s : State} {m : MethodId} {args : Array Value} {below : List Frame} {meth : Method} {c : Code} {H : Heap} {locs : List Loc} {Q : State → Prop} {D : va_G} {cI cZ cQ : ClassId} {adK adV ad : Nat → Nat} {A : Nat → Prop} {ls : Array Slot}
noncomputable def f_X7_turned_L53_108 (v1 : Int32) (v4 : Int32) (v5 : Int32) (v6 : Int32) (v7 : Int32) (u0 : MS) : Option ((Int32 × Int32 × Int32 × Int32 × Int32 × Int32 × MS) ⊕ ((Int32 × MS) ⊕ (Int32 × Int32 × Int32 × Int32 × Int32 × MS))) :=
  nmv (((100 : Int32) * v4) + v6) fun x1 =>
  nmv (v6 + (1 : Int32)) fun x2 =>
  some (.inl (v1, v7, x1, v4, v5, x2, u0))
set_option maxRecDepth 100000 in
set_option maxHeartbeats 4000000 in
theorem b_X7_turned_L53_108 (X : cx p s m args meth c cX7_turned 8 RX7 (some .int)) (K : kx D cI cZ cQ adK adV A s s.heap) {v1 : Int32} {v4 : Int32} {v5 : Int32} {v6 : Int32} {v7 : Int32} {u0 : MS} (G : wg D A s.heap H locs (wM cI ad u0)) (hl : lv_has ls 8 [(0, .ref (ad 0)), (1, .int v1), (4, .int v4), (5, .int v5), (6, .int v6), (7, .int v7)]) {q : ((Int32 × Int32 × Int32 × Int32 × Int32 × Int32 × MS) ⊕ ((Int32 × MS) ⊕ (Int32 × Int32 × Int32 × Int32 × Int32 × MS)))} (h : f_X7_turned_L53_108 v1 v4 v5 v6 v7 u0 = some q) (hB : ∀ (v1 : Int32) (v2 : Int32) (v3 : Int32) (v4 : Int32) (v5 : Int32) (v6 : Int32) (u : MS), q = .inl (v1, v2, v3, v4, v5, v6, u) → ∀ (H : Heap) (locs : List Loc) (ls : Array Slot), wg D A s.heap H locs (wM cI ad u) → lv_has ls 8 [(0, .ref (ad 0)), (1, .int v1), (2, .int v2), (3, .int v3), (4, .int v4), (5, .int v5), (6, .int v6)] → W p l e { frames := 8, cells := 0, slots := 0, locals := 184 } s m args below meth c H locs 0 0 Q (F0 m 53 ls [])) (hX : ∀ (v1 : Int32) (v2 : Int32) (v3 : Int32) (v4 : Int32) (v5 : Int32) (u : MS), q = .inr (.inr (v1, v2, v3, v4, v5, u)) → ∀ (H : Heap) (locs : List Loc) (ls : Array Slot), wg D A s.heap H locs (wM cI ad u) → lv_has ls 8 [(0, .ref (ad 0)), (1, .int v1), (2, .int v2), (3, .int v3), (4, .int v4), (5, .int v5)] → W p l e { frames := 8, cells := 0, slots := 0, locals := 184 } s m args below meth c H locs 0 0 Q (F0 m 126 ls [])) (hR : ∀ (r : Int32) (u : MS), q = .inr (.inl (r, u)) → Q = (qI D A (wM cI ad) below args s r u)) : W p l e { frames := 8, cells := 0, slots := 0, locals := 184 } s m args below meth c H locs 0 0 Q (F0 m 108 ls []) := by
  unfold f_X7_turned_L53_108 at h
  obtain ⟨hx, hb, -⟩ := id X
  refine lv_iload hx hb dX7_turned_108 (lv_at hl 5 rfl) ?_
  refine lv_istore_n (lv' := [(2, .int v7), (0, .ref (ad 0)), (1, .int v1), (4, .int v4), (5, .int v5), (6, .int v6), (7, .int v7)]) hx hb dX7_turned_110 rfl hl (by decide) rfl (fun ls hl => ?_)
  refine lv_bipush (v := 100) hx hb dX7_turned_111 (by decide) ?_
  refine lv_iload hx hb dX7_turned_113 (lv_at hl 3 rfl) ?_
  refine lv_imul hx hb dX7_turned_115 ?_
  refine lv_iload hx hb dX7_turned_116 (lv_at hl 5 rfl) ?_
  refine lv_iadd hx hb dX7_turned_118 ?_
  refine lv_topi (fun x1 ex1 => ?_)
  have h := nm_at ex1 h
  refine lv_istore_n (lv' := [(3, .int x1), (2, .int v7), (0, .ref (ad 0)), (1, .int v1), (4, .int v4), (5, .int v5), (6, .int v6), (7, .int v7)]) hx hb dX7_turned_119 rfl hl (by decide) rfl (fun ls hl => ?_)
  obtain ⟨x2, ex2⟩ : ∃ z : Int32, z = v6 + (1 : Int32) := ⟨_, rfl⟩
  have h := nm_at ex2 h
  refine lv_iinc (v := x2) (lv' := [(6, .int x2), (3, .int x1), (2, .int v7), (0, .ref (ad 0)), (1, .int v1), (4, .int v4), (5, .int v5), (7, .int v7)]) hx hb dX7_turned_120 hl (k := 6) rfl (by rw [ex2]; rfl) (by decide) rfl (fun ls hl => ?_)
  refine lv_goto (tgt := 53) hx hb dX7_turned_123 (by decide) ?_
  exact hB _ _ _ _ _ _ _ (Option.some.inj h).symm _ _ _ G (lv_sub hl [3, 4, 2, 1, 5, 6, 0] rfl)
noncomputable def f_X7_turned_L53_53 (v1 : Int32) (v2 : Int32) (v3 : Int32) (v4 : Int32) (v5 : Int32) (v6 : Int32) (u0 : MS) : Option ((Int32 × Int32 × Int32 × Int32 × Int32 × Int32 × MS) ⊕ ((Int32 × MS) ⊕ (Int32 × Int32 × Int32 × Int32 × Int32 × MS))) :=
  (if ((m_m u0) (0 : Int32).toNatClampNeg) ≤ v6 then
    some (.inr (.inr (v1, v2, v3, v4, v5, u0)))
  else
    bnd (f_X7_turnedBy v5 v6 u0) fun r2 u3 =>
    nmv ((6 : Int32) + v4) fun x4 =>
    if x4 < 0 ∨ 247 ≤ x4.toNatClampNeg then none else
    nmv (mu_m u3 (upd (m_m u3) x4.toNatClampNeg r2)) fun u6 =>
    bnd (f_X7_readyAt v1 (0 : Int32) u6) fun r7 u8 =>
    (if r7 < 0 then
      nmv (v6 + (1 : Int32)) fun x10 =>
      some (.inl (v1, v2, v3, v4, v5, x10, u8))
    else
      (if v2 < 0 then
        f_X7_turned_L53_108 v1 v4 v5 v6 r7 u8
      else
        (if r7 < v2 then
          f_X7_turned_L53_108 v1 v4 v5 v6 r7 u8
        else
          nmv (v6 + (1 : Int32)) fun x13 =>
          some (.inl (v1, v2, v3, v4, v5, x13, u8))))))
set_option maxRecDepth 100000 in
set_option maxHeartbeats 4000000 in
theorem b_X7_turned_L53_53 (X : cx p s m args meth c cX7_turned 8 RX7 (some .int)) (K : kx D cI cZ cQ adK adV A s s.heap) {v1 : Int32} {v2 : Int32} {v3 : Int32} {v4 : Int32} {v5 : Int32} {v6 : Int32} {u0 : MS} (G : wg D A s.heap H locs (wM cI ad u0)) (hl : lv_has ls 8 [(0, .ref (ad 0)), (1, .int v1), (2, .int v2), (3, .int v3), (4, .int v4), (5, .int v5), (6, .int v6)]) {q : ((Int32 × Int32 × Int32 × Int32 × Int32 × Int32 × MS) ⊕ ((Int32 × MS) ⊕ (Int32 × Int32 × Int32 × Int32 × Int32 × MS)))} (h : f_X7_turned_L53_53 v1 v2 v3 v4 v5 v6 u0 = some q) (hB : ∀ (v1 : Int32) (v2 : Int32) (v3 : Int32) (v4 : Int32) (v5 : Int32) (v6 : Int32) (u : MS), q = .inl (v1, v2, v3, v4, v5, v6, u) → ∀ (H : Heap) (locs : List Loc) (ls : Array Slot), wg D A s.heap H locs (wM cI ad u) → lv_has ls 8 [(0, .ref (ad 0)), (1, .int v1), (2, .int v2), (3, .int v3), (4, .int v4), (5, .int v5), (6, .int v6)] → W p l e { frames := 8, cells := 0, slots := 0, locals := 184 } s m args below meth c H locs 0 0 Q (F0 m 53 ls [])) (hX : ∀ (v1 : Int32) (v2 : Int32) (v3 : Int32) (v4 : Int32) (v5 : Int32) (u : MS), q = .inr (.inr (v1, v2, v3, v4, v5, u)) → ∀ (H : Heap) (locs : List Loc) (ls : Array Slot), wg D A s.heap H locs (wM cI ad u) → lv_has ls 8 [(0, .ref (ad 0)), (1, .int v1), (2, .int v2), (3, .int v3), (4, .int v4), (5, .int v5)] → W p l e { frames := 8, cells := 0, slots := 0, locals := 184 } s m args below meth c H locs 0 0 Q (F0 m 126 ls [])) (hR : ∀ (r : Int32) (u : MS), q = .inr (.inl (r, u)) → Q = (qI D A (wM cI ad) below args s r u)) : W p l e { frames := 8, cells := 0, slots := 0, locals := 184 } s m args below meth c H locs 0 0 Q (F0 m 53 ls []) := by
  unfold f_X7_turned_L53_53 at h
  obtain ⟨hx, hb, -⟩ := id X
  refine lv_iload hx hb dX7_turned_53 (lv_at hl 6 rfl) ?_
  refine lv_aload_n hx hb dX7_turned_55 rfl (lv_at hl 0 rfl) ?_
  refine gM_0_0 X K G q_906 dX7_turned_56 ?_
  refine lv_iconst (v := 0) hx hb dX7_turned_59 (by decide) ?_
  refine lM_1 X K G (by decide) dX7_turned_60 ?_
  refine lv_icmp_ge (tgt := 126) hx hb dX7_turned_61 (by decide) (fun c1 => ?_) (fun c1 => ?_)
  · have h := it_at c1 h
    exact hX _ _ _ _ _ _ (Option.some.inj h).symm _ _ _ G (lv_sub hl [0, 1, 2, 3, 4, 5] rfl)
  · have h := if_at c1 h
    refine lv_aload_n hx hb dX7_turned_64 rfl (lv_at hl 0 rfl) ?_
    refine gM_0_0 X K G q_906 dX7_turned_65 ?_
    refine lv_bipush (v := 6) hx hb dX7_turned_68 (by decide) ?_
    refine lv_iload hx hb dX7_turned_70 (lv_at hl 4 rfl) ?_
    refine lv_iadd hx hb dX7_turned_72 ?_
    refine lv_aload_n hx hb dX7_turned_73 rfl (lv_at hl 0 rfl) ?_
    refine lv_iload hx hb dX7_turned_74 (lv_at hl 5 rfl) ?_
    refine lv_iload hx hb dX7_turned_76 (lv_at hl 6 rfl) ?_
    obtain ⟨r2, u3, er2, h⟩ := bnd_at h
    refine cvI (rest := [.int ((6 : Int32) + v4), .ref (ad 1)]) X K G (c_X7_turnedBy er2) q_1293 my_X7_turnedBy ⟨rfl, rfl⟩ ⟨Nat.le_of_ble_eq_true rfl, Nat.le_of_ble_eq_true rfl⟩ ⟨Nat.zero_le _, Nat.zero_le _⟩ 0 7 rfl rfl rfl rfl hl.1 rfl (Nat.le_of_ble_eq_true rfl) dX7_turned_78 (fun H locs G => ?_)
    clear er2
    refine nm2 (fun x4 ex4 => ?_)
    have h := nm_at ex4 h
    obtain ⟨g5, h⟩ := ck_at h
    refine aM_1 X K G g5 dX7_turned_81 (fun H locs G => ?_)
    obtain ⟨u6, eu6⟩ : ∃ z : MS, z = mu_m u3 (upd (m_m u3) x4.toNatClampNeg r2) := ⟨_, rfl⟩
    have G : wg D A s.heap H locs (wM cI ad u6) := by rw [eu6]; exact G
    have h := nm_at eu6 h
    clear eu6
    refine lv_aload_n hx hb dX7_turned_82 rfl (lv_at hl 0 rfl) ?_
    refine lv_iload_n hx hb dX7_turned_83 rfl (lv_at hl 1 rfl) ?_
    refine lv_iconst (v := 0) hx hb dX7_turned_84 (by decide) ?_
    obtain ⟨r7, u8, er7, h⟩ := bnd_at h
    refine cvI (rest := []) X K G (c_X7_readyAt er7) q_1195 my_X7_readyAt ⟨rfl, rfl⟩ ⟨Nat.le_of_ble_eq_true rfl, Nat.le_of_ble_eq_true rfl⟩ ⟨Nat.zero_le _, Nat.zero_le _⟩ 0 7 rfl rfl rfl rfl hl.1 rfl (Nat.le_of_ble_eq_true rfl) dX7_turned_85 (fun H locs G => ?_)
    clear er7
    refine lv_istore (lv' := [(7, .int r7), (0, .ref (ad 0)), (1, .int v1), (2, .int v2), (3, .int v3), (4, .int v4), (5, .int v5), (6, .int v6)]) hx hb dX7_turned_88 hl (by decide) rfl (fun ls hl => ?_)
    refine lv_iload hx hb dX7_turned_90 (lv_at hl 0 rfl) ?_
    refine lv_if_lt (tgt := 120) hx hb dX7_turned_92 (by decide) (fun c9 => ?_) (fun c9 => ?_)
    · have h := it_at c9 h
      obtain ⟨x10, ex10⟩ : ∃ z : Int32, z = v6 + (1 : Int32) := ⟨_, rfl⟩
      have h := nm_at ex10 h
      refine lv_iinc (v := x10) (lv' := [(6, .int x10), (7, .int r7), (0, .ref (ad 0)), (1, .int v1), (2, .int v2), (3, .int v3), (4, .int v4), (5, .int v5)]) hx hb dX7_turned_120 hl (k := 7) rfl (by rw [ex10]; rfl) (by decide) rfl (fun ls hl => ?_)
      refine lv_goto (tgt := 53) hx hb dX7_turned_123 (by decide) ?_
      exact hB _ _ _ _ _ _ _ (Option.some.inj h).symm _ _ _ G (lv_sub hl [2, 3, 4, 5, 6, 7, 0] rfl)
    · have h := if_at c9 h
      refine lv_iload_n hx hb dX7_turned_95 rfl (lv_at hl 3 rfl) ?_
      refine lv_if_lt (tgt := 108) hx hb dX7_turned_96 (by decide) (fun c11 => ?_) (fun c11 => ?_)
      · have h := it_at c11 h
        exact b_X7_turned_L53_108 X K G (lv_sub hl [1, 2, 5, 6, 7, 0] rfl) h hB hX hR
      · have h := if_at c11 h
        refine lv_iload hx hb dX7_turned_99 (lv_at hl 0 rfl) ?_
        refine lv_iload_n hx hb dX7_turned_101 rfl (lv_at hl 3 rfl) ?_
        refine lv_icmp_lt (tgt := 108) hx hb dX7_turned_102 (by decide) (fun c12 => ?_) (fun c12 => ?_)
        · have h := it_at c12 h
          exact b_X7_turned_L53_108 X K G (lv_sub hl [1, 2, 5, 6, 7, 0] rfl) h hB hX hR
        · have h := if_at c12 h
          refine lv_goto (tgt := 120) hx hb dX7_turned_105 (by decide) ?_
          obtain ⟨x13, ex13⟩ : ∃ z : Int32, z = v6 + (1 : Int32) := ⟨_, rfl⟩
          have h := nm_at ex13 h
          refine lv_iinc (v := x13) (lv' := [(6, .int x13), (7, .int r7), (0, .ref (ad 0)), (1, .int v1), (2, .int v2), (3, .int v3), (4, .int v4), (5, .int v5)]) hx hb dX7_turned_120 hl (k := 7) rfl (by rw [ex13]; rfl) (by decide) rfl (fun ls hl => ?_)
          refine lv_goto (tgt := 53) hx hb dX7_turned_123 (by decide) ?_
          exact hB _ _ _ _ _ _ _ (Option.some.inj h).symm _ _ _ G (lv_sub hl [2, 3, 4, 5, 6, 7, 0] rfl)
noncomputable def f_X7_turned_L53_53s (q : Int32 × Int32 × Int32 × Int32 × Int32 × Int32 × MS) : Option ((Int32 × Int32 × Int32 × Int32 × Int32 × Int32 × MS) ⊕ ((Int32 × MS) ⊕ (Int32 × Int32 × Int32 × Int32 × Int32 × MS))) := f_X7_turned_L53_53 q.1 q.2.1 q.2.2.1 q.2.2.2.1 q.2.2.2.2.1 q.2.2.2.2.2.1 q.2.2.2.2.2.2
set_option maxRecDepth 100000 in
set_option maxHeartbeats 4000000 in
theorem w_X7_turned_L53_53 (X : cx p s m args meth c cX7_turned 8 RX7 (some .int)) (K : kx D cI cZ cQ adK adV A s s.heap) {e0 : (Int32 × MS) ⊕ (Int32 × Int32 × Int32 × Int32 × Int32 × MS)} : ∀ (n : Nat) (v1 : Int32) (v2 : Int32) (v3 : Int32) (v4 : Int32) (v5 : Int32) (v6 : Int32) (u : MS) {H : Heap} {locs : List Loc} {ls : Array Slot}, wh f_X7_turned_L53_53s n (v1, v2, v3, v4, v5, v6, u) = some e0 → wg D A s.heap H locs (wM cI ad u) → lv_has ls 8 [(0, .ref (ad 0)), (1, .int v1), (2, .int v2), (3, .int v3), (4, .int v4), (5, .int v5), (6, .int v6)] → (∀ (v1 : Int32) (v2 : Int32) (v3 : Int32) (v4 : Int32) (v5 : Int32) (u : MS), e0 = .inr (v1, v2, v3, v4, v5, u) → ∀ (H : Heap) (locs : List Loc) (ls : Array Slot), wg D A s.heap H locs (wM cI ad u) → lv_has ls 8 [(0, .ref (ad 0)), (1, .int v1), (2, .int v2), (3, .int v3), (4, .int v4), (5, .int v5)] → W p l e { frames := 8, cells := 0, slots := 0, locals := 184 } s m args below meth c H locs 0 0 Q (F0 m 126 ls [])) → (∀ (r : Int32) (u : MS), e0 = .inl (r, u) → Q = (qI D A (wM cI ad) below args s r u)) → W p l e { frames := 8, cells := 0, slots := 0, locals := 184 } s m args below meth c H locs 0 0 Q (F0 m 53 ls []) := by
  intro n
  induction n with
  | zero => intro v1 v2 v3 v4 v5 v6 u H locs ls h; cases h
  | succ n ih =>
    intro v1 v2 v3 v4 v5 v6 u H locs ls h G hl hX hR
    obtain ⟨q, h1, h2, h3⟩ := wh_at h
    exact b_X7_turned_L53_53 X K G hl (show f_X7_turned_L53_53 v1 v2 v3 v4 v5 v6 u = some q from h1) (fun b0 b1 b2 b3 b4 b5 b6 ee H locs ls G hl => ih b0 b1 b2 b3 b4 b5 b6 (h2 _ ee) G hl hX hR) (fun z0 z1 z2 z3 z4 z5 ee => hX z0 z1 z2 z3 z4 z5 (h3 _ ee).symm) (fun r u ee => hR r u (h3 _ ee).symm)
noncomputable def f_X7_turned_L27_27 (v1 : Int32) (v2 : Int32) (v3 : Int32) (v4 : Int32) (u0 : MS) : Option ((Int32 × Int32 × Int32 × Int32 × MS) ⊕ ((Int32 × MS) ⊕ (Int32 × MS))) :=
  (if ((m_m u0) (2 : Int32).toNatClampNeg) ≤ v4 then
    some (.inr (.inr (v3, u0)))
  else
    nmv ((6 : Int32) + v4) fun x2 =>
    if x2 < 0 ∨ 247 ≤ x2.toNatClampNeg then none else
    nmv ((m_m u0) x2.toNatClampNeg) fun x4 =>
    bne (wl f_X7_turned_L53_53s (v1, v2, v3, v4, x4, (1 : Int32), u0)) (fun a => some (.inr (.inl a))) fun b =>
      nmv b.1 fun y8 =>
      nmv b.2.1 fun y9 =>
      nmv b.2.2.1 fun y10 =>
      nmv b.2.2.2.1 fun y11 =>
      nmv b.2.2.2.2.1 fun y12 =>
      nmv b.2.2.2.2.2 fun u7 =>
      nmv ((6 : Int32) + y11) fun x13 =>
      if x13 < 0 ∨ 247 ≤ x13.toNatClampNeg then none else
      nmv (mu_m u7 (upd (m_m u7) x13.toNatClampNeg y12)) fun u15 =>
      nmv (y11 + (1 : Int32)) fun x16 =>
      some (.inl (y8, y9, y10, x16, u15)))
set_option maxRecDepth 100000 in
set_option maxHeartbeats 4000000 in
theorem b_X7_turned_L27_27 (X : cx p s m args meth c cX7_turned 8 RX7 (some .int)) (K : kx D cI cZ cQ adK adV A s s.heap) {v1 : Int32} {v2 : Int32} {v3 : Int32} {v4 : Int32} {u0 : MS} (G : wg D A s.heap H locs (wM cI ad u0)) (hl : lv_has ls 8 [(0, .ref (ad 0)), (1, .int v1), (2, .int v2), (3, .int v3), (4, .int v4)]) {q : ((Int32 × Int32 × Int32 × Int32 × MS) ⊕ ((Int32 × MS) ⊕ (Int32 × MS)))} (h : f_X7_turned_L27_27 v1 v2 v3 v4 u0 = some q) (hB : ∀ (v1 : Int32) (v2 : Int32) (v3 : Int32) (v4 : Int32) (u : MS), q = .inl (v1, v2, v3, v4, u) → ∀ (H : Heap) (locs : List Loc) (ls : Array Slot), wg D A s.heap H locs (wM cI ad u) → lv_has ls 8 [(0, .ref (ad 0)), (1, .int v1), (2, .int v2), (3, .int v3), (4, .int v4)] → W p l e { frames := 8, cells := 0, slots := 0, locals := 184 } s m args below meth c H locs 0 0 Q (F0 m 27 ls [])) (hX : ∀ (v3 : Int32) (u : MS), q = .inr (.inr (v3, u)) → ∀ (H : Heap) (locs : List Loc) (ls : Array Slot), wg D A s.heap H locs (wM cI ad u) → lv_has ls 8 [(3, .int v3)] → W p l e { frames := 8, cells := 0, slots := 0, locals := 184 } s m args below meth c H locs 0 0 Q (F0 m 144 ls [])) (hR : ∀ (r : Int32) (u : MS), q = .inr (.inl (r, u)) → Q = (qI D A (wM cI ad) below args s r u)) : W p l e { frames := 8, cells := 0, slots := 0, locals := 184 } s m args below meth c H locs 0 0 Q (F0 m 27 ls []) := by
  unfold f_X7_turned_L27_27 at h
  obtain ⟨hx, hb, -⟩ := id X
  refine lv_iload hx hb dX7_turned_27 (lv_at hl 4 rfl) ?_
  refine lv_aload_n hx hb dX7_turned_29 rfl (lv_at hl 0 rfl) ?_
  refine gM_0_0 X K G q_906 dX7_turned_30 ?_
  refine lv_iconst (v := 2) hx hb dX7_turned_33 (by decide) ?_
  refine lM_1 X K G (by decide) dX7_turned_34 ?_
  refine lv_icmp_ge (tgt := 144) hx hb dX7_turned_35 (by decide) (fun c1 => ?_) (fun c1 => ?_)
  · have h := it_at c1 h
    exact hX _ _ (Option.some.inj h).symm _ _ _ G (lv_sub hl [3] rfl)
  · have h := if_at c1 h
    refine lv_aload_n hx hb dX7_turned_38 rfl (lv_at hl 0 rfl) ?_
    refine gM_0_0 X K G q_906 dX7_turned_39 ?_
    refine lv_bipush (v := 6) hx hb dX7_turned_42 (by decide) ?_
    refine lv_iload hx hb dX7_turned_44 (lv_at hl 4 rfl) ?_
    refine lv_iadd hx hb dX7_turned_46 ?_
    refine lv_topi (fun x2 ex2 => ?_)
    have h := nm_at ex2 h
    obtain ⟨g3, h⟩ := ck_at h
    refine lM_1 X K G g3 dX7_turned_47 ?_
    refine lv_topi (fun x4 ex4 => ?_)
    have h := nm_at ex4 h
    refine lv_istore (lv' := [(5, .int x4), (0, .ref (ad 0)), (1, .int v1), (2, .int v2), (3, .int v3), (4, .int v4)]) hx hb dX7_turned_48 hl (by decide) rfl (fun ls hl => ?_)
    refine lv_iconst (v := 1) hx hb dX7_turned_50 (by decide) ?_
    refine lv_istore (lv' := [(6, .int (1 : Int32)), (5, .int x4), (0, .ref (ad 0)), (1, .int v1), (2, .int v2), (3, .int v3), (4, .int v4)]) hx hb dX7_turned_51 hl (by decide) rfl (fun ls hl => ?_)
    obtain ⟨q6, hq6, ha, hb1⟩ := bne_at h
    obtain ⟨n5, hn5⟩ := wl_iff.mp hq6
    refine w_X7_turned_L53_53 X K n5 _ _ _ _ _ _ _ hn5 G (lv_sub hl [2, 3, 4, 5, 6, 1, 0] rfl) (fun y8 y9 y10 y11 y12 u7 ee H locs ls G hl => ?_) (fun r u1 ee => hR _ _ (Option.some.inj (ha _ ee)).symm)
    have h := hb1 _ ee
    clear ee ha hb1 hq6 hn5
    have h := nm_at (x := y8) rfl h
    have h := nm_at (x := y9) rfl h
    have h := nm_at (x := y10) rfl h
    have h := nm_at (x := y11) rfl h
    have h := nm_at (x := y12) rfl h
    have h := nm_at (x := u7) rfl h
    refine lv_aload_n hx hb dX7_turned_126 rfl (lv_at hl 0 rfl) ?_
    refine gM_0_0 X K G q_906 dX7_turned_127 ?_
    refine lv_bipush (v := 6) hx hb dX7_turned_130 (by decide) ?_
    refine lv_iload hx hb dX7_turned_132 (lv_at hl 4 rfl) ?_
    refine lv_iadd hx hb dX7_turned_134 ?_
    refine lv_iload hx hb dX7_turned_135 (lv_at hl 5 rfl) ?_
    refine nm2 (fun x13 ex13 => ?_)
    have h := nm_at ex13 h
    obtain ⟨g14, h⟩ := ck_at h
    refine aM_1 X K G g14 dX7_turned_137 (fun H locs G => ?_)
    obtain ⟨u15, eu15⟩ : ∃ z : MS, z = mu_m u7 (upd (m_m u7) x13.toNatClampNeg y12) := ⟨_, rfl⟩
    have G : wg D A s.heap H locs (wM cI ad u15) := by rw [eu15]; exact G
    have h := nm_at eu15 h
    clear eu15
    obtain ⟨x16, ex16⟩ : ∃ z : Int32, z = y11 + (1 : Int32) := ⟨_, rfl⟩
    have h := nm_at ex16 h
    refine lv_iinc (v := x16) (lv' := [(4, .int x16), (0, .ref (ad 0)), (1, .int y8), (2, .int y9), (3, .int y10), (5, .int y12)]) hx hb dX7_turned_138 hl (k := 4) rfl (by rw [ex16]; rfl) (by decide) rfl (fun ls hl => ?_)
    refine lv_goto (tgt := 27) hx hb dX7_turned_141 (by decide) ?_
    exact hB _ _ _ _ _ (Option.some.inj h).symm _ _ _ G (lv_sub hl [1, 2, 3, 4, 0] rfl)
noncomputable def f_X7_turned_L27_27s (q : Int32 × Int32 × Int32 × Int32 × MS) : Option ((Int32 × Int32 × Int32 × Int32 × MS) ⊕ ((Int32 × MS) ⊕ (Int32 × MS))) := f_X7_turned_L27_27 q.1 q.2.1 q.2.2.1 q.2.2.2.1 q.2.2.2.2
set_option maxRecDepth 100000 in
set_option maxHeartbeats 4000000 in
theorem w_X7_turned_L27_27 (X : cx p s m args meth c cX7_turned 8 RX7 (some .int)) (K : kx D cI cZ cQ adK adV A s s.heap) {e0 : (Int32 × MS) ⊕ (Int32 × MS)} : ∀ (n : Nat) (v1 : Int32) (v2 : Int32) (v3 : Int32) (v4 : Int32) (u : MS) {H : Heap} {locs : List Loc} {ls : Array Slot}, wh f_X7_turned_L27_27s n (v1, v2, v3, v4, u) = some e0 → wg D A s.heap H locs (wM cI ad u) → lv_has ls 8 [(0, .ref (ad 0)), (1, .int v1), (2, .int v2), (3, .int v3), (4, .int v4)] → (∀ (v3 : Int32) (u : MS), e0 = .inr (v3, u) → ∀ (H : Heap) (locs : List Loc) (ls : Array Slot), wg D A s.heap H locs (wM cI ad u) → lv_has ls 8 [(3, .int v3)] → W p l e { frames := 8, cells := 0, slots := 0, locals := 184 } s m args below meth c H locs 0 0 Q (F0 m 144 ls [])) → (∀ (r : Int32) (u : MS), e0 = .inl (r, u) → Q = (qI D A (wM cI ad) below args s r u)) → W p l e { frames := 8, cells := 0, slots := 0, locals := 184 } s m args below meth c H locs 0 0 Q (F0 m 27 ls []) := by
  intro n
  induction n with
  | zero => intro v1 v2 v3 v4 u H locs ls h; cases h
  | succ n ih =>
    intro v1 v2 v3 v4 u H locs ls h G hl hX hR
    obtain ⟨q, h1, h2, h3⟩ := wh_at h
    exact b_X7_turned_L27_27 X K G hl (show f_X7_turned_L27_27 v1 v2 v3 v4 u = some q from h1) (fun b0 b1 b2 b3 b4 ee H locs ls G hl => ih b0 b1 b2 b3 b4 (h2 _ ee) G hl hX hR) (fun z0 z1 ee => hX z0 z1 (h3 _ ee).symm) (fun r u ee => hR r u (h3 _ ee).symm)
noncomputable def f_X7_turned (a1 : Int32) (u0 : MS) : Option (Int32 × MS) :=
  bnd (f_X7_isThing a1 u0) fun r1 u2 =>
  (if r1 = 0 then
    bnd (f_X7_finds (-1000001 : Int32) u2) fun r10 u11 =>
    some (r10, u11)
  else
    bnd (f_X7_readyAt a1 (0 : Int32) u2) fun r4 u5 =>
    bne (wl f_X7_turned_L27_27s (a1, r4, (0 : Int32), (0 : Int32), u5)) (fun a => some a) fun b =>
      nmv b.1 fun y9 =>
      nmv b.2 fun u8 =>
      some (y9, u8))
set_option maxRecDepth 100000 in
set_option maxHeartbeats 4000000 in
theorem c_X7_turned {a1 : Int32} {u0 : MS} {r : Int32} {u' : MS} (h : f_X7_turned a1 u0 = some (r, u')) : MI l D cI cZ cQ adK adV A yX7_turned cX7_turned 8 (some .int) { frames := 8, cells := 0, slots := 0, locals := 184 } [.ref (ad 0), .int a1] (wM cI ad) u0 r u' := by
  unfold f_X7_turned at h
  refine entI (by decide) (Nat.le_of_ble_eq_true rfl) (fun p e s m below meth c ls X K G hl => ?_)
  have hl : lv_has ls 8 [(0, .ref (ad 0)), (1, .int a1)] := hl
  obtain ⟨hx, hb, -⟩ := id X
  generalize hH : s.heap = H at G
  subst hH
  refine lv_aload_n hx hb dX7_turned_0 rfl (lv_at hl 0 rfl) ?_
  refine lv_iload_n hx hb dX7_turned_1 rfl (lv_at hl 1 rfl) ?_
  obtain ⟨r1, u2, er1, h⟩ := bnd_at h
  refine cvI (rest := []) X K G (c_X7_isThing er1) q_1116 my_X7_isThing ⟨rfl, rfl⟩ ⟨Nat.le_of_ble_eq_true rfl, Nat.le_of_ble_eq_true rfl⟩ ⟨Nat.zero_le _, Nat.zero_le _⟩ 0 7 rfl rfl rfl rfl hl.1 rfl (Nat.le_of_ble_eq_true rfl) dX7_turned_2 (fun H locs G => ?_)
  clear er1
  refine lv_if_ne (tgt := 15) hx hb dX7_turned_5 (by decide) (fun c3 => ?_) (fun c3 => ?_)
  · have h := if_at c3 h
    refine lv_aload_n hx hb dX7_turned_15 rfl (lv_at hl 0 rfl) ?_
    refine lv_iload_n hx hb dX7_turned_16 rfl (lv_at hl 1 rfl) ?_
    refine lv_iconst (v := 0) hx hb dX7_turned_17 (by decide) ?_
    obtain ⟨r4, u5, er4, h⟩ := bnd_at h
    refine cvI (rest := []) X K G (c_X7_readyAt er4) q_1195 my_X7_readyAt ⟨rfl, rfl⟩ ⟨Nat.le_of_ble_eq_true rfl, Nat.le_of_ble_eq_true rfl⟩ ⟨Nat.zero_le _, Nat.zero_le _⟩ 0 7 rfl rfl rfl rfl hl.1 rfl (Nat.le_of_ble_eq_true rfl) dX7_turned_18 (fun H locs G => ?_)
    clear er4
    refine lv_istore_n (lv' := [(2, .int r4), (0, .ref (ad 0)), (1, .int a1)]) hx hb dX7_turned_21 rfl hl (by decide) rfl (fun ls hl => ?_)
    refine lv_iconst (v := 0) hx hb dX7_turned_22 (by decide) ?_
    refine lv_istore_n (lv' := [(3, .int (0 : Int32)), (2, .int r4), (0, .ref (ad 0)), (1, .int a1)]) hx hb dX7_turned_23 rfl hl (by decide) rfl (fun ls hl => ?_)
    refine lv_iconst (v := 0) hx hb dX7_turned_24 (by decide) ?_
    refine lv_istore (lv' := [(4, .int (0 : Int32)), (3, .int (0 : Int32)), (2, .int r4), (0, .ref (ad 0)), (1, .int a1)]) hx hb dX7_turned_25 hl (by decide) rfl (fun ls hl => ?_)
    obtain ⟨q7, hq7, ha, hb1⟩ := bne_at h
    obtain ⟨n6, hn6⟩ := wl_iff.mp hq7
    refine w_X7_turned_L27_27 X K n6 _ _ _ _ _ hn6 G (lv_sub hl [3, 4, 2, 1, 0] rfl) (fun y9 u8 ee H locs ls G hl => ?_) (fun r u1 ee => by obtain ⟨rfl, rfl⟩ := pair_at (ha _ ee); rfl)
    have h := hb1 _ ee
    clear ee ha hb1 hq7 hn6
    have h := nm_at (x := y9) rfl h
    have h := nm_at (x := u8) rfl h
    refine lv_iload_n hx hb dX7_turned_144 rfl (lv_at hl 0 rfl) ?_
    obtain ⟨rfl, rfl⟩ := pair_at h
    exact reI X G dX7_turned_145
  · have h := it_at c3 h
    refine lv_aload_n hx hb dX7_turned_8 rfl (lv_at hl 0 rfl) ?_
    refine lv_ldc (v := -1000001) hx hb X.2.2.2.1 (X.2.2.2.2.1 _ q_975) dX7_turned_9 ?_
    obtain ⟨r10, u11, er10, h⟩ := bnd_at h
    refine cvI (rest := []) X K G (c_X7_finds er10) q_976 my_X7_finds ⟨rfl, rfl⟩ ⟨Nat.le_of_ble_eq_true rfl, Nat.le_of_ble_eq_true rfl⟩ ⟨Nat.zero_le _, Nat.zero_le _⟩ 0 7 rfl rfl rfl rfl hl.1 rfl (Nat.le_of_ble_eq_true rfl) dX7_turned_11 (fun H locs G => ?_)
    clear er10
    obtain ⟨rfl, rfl⟩ := pair_at h
    exact reI X G dX7_turned_14
noncomputable def f_X7_soonest_L19_19 (v1 : Int32) (v2 : Int32) (v3 : Int32) (v5 : Int32) (v6 : Int32) (v7 : Int32) (v8 : Int32) (v9 : Int32) (u0 : MS) : Option ((Int32 × Int32 × Int32 × Int32 × Int32 × Int32 × Int32 × Int32 × MS) ⊕ ((Int32 × MS) ⊕ (Int32 × Int32 × Int32 × MS))) :=
  (if v5 < v9 then
    some (.inr (.inr (v3, v6, v7, u0)))
  else
    if v3 < 0 ∨ 247 ≤ v3.toNatClampNeg then none else
    nmv (mu_m u0 (upd (m_m u0) v3.toNatClampNeg v9)) fun u3 =>
    bnd (f_X7_readyAt v1 v2 u3) fun r4 u5 =>
    (if r4 < 0 then
      nmv (v9 + (1 : Int32)) fun x7 =>
      some (.inl (v1, v2, v3, v5, v6, v7, v8, x7, u5))
    else
      (if v7 ≤ (-2 : Int32) then
        nmv (v9 + (1 : Int32)) fun x9 =>
        some (.inl (v1, v2, v3, v5, v6, v9, r4, x9, u5))
      else
        (if r4 < v8 then
          nmv (v9 + (1 : Int32)) fun x11 =>
          some (.inl (v1, v2, v3, v5, v6, v9, r4, x11, u5))
        else
          nmv (v9 + (1 : Int32)) fun x12 =>
          some (.inl (v1, v2, v3, v5, v6, v7, v8, x12, u5))))))
set_option maxRecDepth 100000 in
set_option maxHeartbeats 4000000 in
theorem b_X7_soonest_L19_19 (X : cx p s m args meth c cX7_soonest 11 RX7 (some .int)) (K : kx D cI cZ cQ adK adV A s s.heap) {v1 : Int32} {v2 : Int32} {v3 : Int32} {v5 : Int32} {v6 : Int32} {v7 : Int32} {v8 : Int32} {v9 : Int32} {u0 : MS} (G : wg D A s.heap H locs (wM cI ad u0)) (hl : lv_has ls 11 [(0, .ref (ad 0)), (1, .int v1), (2, .int v2), (3, .int v3), (5, .int v5), (6, .int v6), (7, .int v7), (8, .int v8), (9, .int v9)]) {q : ((Int32 × Int32 × Int32 × Int32 × Int32 × Int32 × Int32 × Int32 × MS) ⊕ ((Int32 × MS) ⊕ (Int32 × Int32 × Int32 × MS)))} (h : f_X7_soonest_L19_19 v1 v2 v3 v5 v6 v7 v8 v9 u0 = some q) (hB : ∀ (v1 : Int32) (v2 : Int32) (v3 : Int32) (v5 : Int32) (v6 : Int32) (v7 : Int32) (v8 : Int32) (v9 : Int32) (u : MS), q = .inl (v1, v2, v3, v5, v6, v7, v8, v9, u) → ∀ (H : Heap) (locs : List Loc) (ls : Array Slot), wg D A s.heap H locs (wM cI ad u) → lv_has ls 11 [(0, .ref (ad 0)), (1, .int v1), (2, .int v2), (3, .int v3), (5, .int v5), (6, .int v6), (7, .int v7), (8, .int v8), (9, .int v9)] → W p l e { frames := 8, cells := 0, slots := 0, locals := 184 } s m args below meth c H locs 0 0 Q (F0 m 19 ls [])) (hX : ∀ (v3 : Int32) (v6 : Int32) (v7 : Int32) (u : MS), q = .inr (.inr (v3, v6, v7, u)) → ∀ (H : Heap) (locs : List Loc) (ls : Array Slot), wg D A s.heap H locs (wM cI ad u) → lv_has ls 11 [(0, .ref (ad 0)), (3, .int v3), (6, .int v6), (7, .int v7)] → W p l e { frames := 8, cells := 0, slots := 0, locals := 184 } s m args below meth c H locs 0 0 Q (F0 m 78 ls [])) (hR : ∀ (r : Int32) (u : MS), q = .inr (.inl (r, u)) → Q = (qI D A (wM cI ad) below args s r u)) : W p l e { frames := 8, cells := 0, slots := 0, locals := 184 } s m args below meth c H locs 0 0 Q (F0 m 19 ls []) := by
  unfold f_X7_soonest_L19_19 at h
  obtain ⟨hx, hb, -⟩ := id X
  refine lv_iload hx hb dX7_soonest_19 (lv_at hl 8 rfl) ?_
  refine lv_iload hx hb dX7_soonest_21 (lv_at hl 4 rfl) ?_
  refine lv_icmp_gt (tgt := 78) hx hb dX7_soonest_23 (by decide) (fun c1 => ?_) (fun c1 => ?_)
  · have h := it_at c1 h
    exact hX _ _ _ _ (Option.some.inj h).symm _ _ _ G (lv_sub hl [0, 3, 5, 6] rfl)
  · have h := if_at c1 h
    refine lv_aload_n hx hb dX7_soonest_26 rfl (lv_at hl 0 rfl) ?_
    refine gM_0_0 X K G q_906 dX7_soonest_27 ?_
    refine lv_iload_n hx hb dX7_soonest_30 rfl (lv_at hl 3 rfl) ?_
    refine lv_iload hx hb dX7_soonest_31 (lv_at hl 8 rfl) ?_
    obtain ⟨g2, h⟩ := ck_at h
    refine aM_1 X K G g2 dX7_soonest_33 (fun H locs G => ?_)
    obtain ⟨u3, eu3⟩ : ∃ z : MS, z = mu_m u0 (upd (m_m u0) v3.toNatClampNeg v9) := ⟨_, rfl⟩
    have G : wg D A s.heap H locs (wM cI ad u3) := by rw [eu3]; exact G
    have h := nm_at eu3 h
    clear eu3
    refine lv_aload_n hx hb dX7_soonest_34 rfl (lv_at hl 0 rfl) ?_
    refine lv_iload_n hx hb dX7_soonest_35 rfl (lv_at hl 1 rfl) ?_
    refine lv_iload_n hx hb dX7_soonest_36 rfl (lv_at hl 2 rfl) ?_
    obtain ⟨r4, u5, er4, h⟩ := bnd_at h
    refine cvI (rest := []) X K G (c_X7_readyAt er4) q_1195 my_X7_readyAt ⟨rfl, rfl⟩ ⟨Nat.le_of_ble_eq_true rfl, Nat.le_of_ble_eq_true rfl⟩ ⟨Nat.zero_le _, Nat.zero_le _⟩ 0 7 rfl rfl rfl rfl hl.1 rfl (Nat.le_of_ble_eq_true rfl) dX7_soonest_37 (fun H locs G => ?_)
    clear er4
    refine lv_istore (lv' := [(10, .int r4), (0, .ref (ad 0)), (1, .int v1), (2, .int v2), (3, .int v3), (5, .int v5), (6, .int v6), (7, .int v7), (8, .int v8), (9, .int v9)]) hx hb dX7_soonest_40 hl (by decide) rfl (fun ls hl => ?_)
    refine lv_iload hx hb dX7_soonest_42 (lv_at hl 0 rfl) ?_
    refine lv_if_lt (tgt := 72) hx hb dX7_soonest_44 (by decide) (fun c6 => ?_) (fun c6 => ?_)
    · have h := it_at c6 h
      obtain ⟨x7, ex7⟩ : ∃ z : Int32, z = v9 + (1 : Int32) := ⟨_, rfl⟩
      have h := nm_at ex7 h
      refine lv_iinc (v := x7) (lv' := [(9, .int x7), (10, .int r4), (0, .ref (ad 0)), (1, .int v1), (2, .int v2), (3, .int v3), (5, .int v5), (6, .int v6), (7, .int v7), (8, .int v8)]) hx hb dX7_soonest_72 hl (k := 9) rfl (by rw [ex7]; rfl) (by decide) rfl (fun ls hl => ?_)
      refine lv_goto (tgt := 19) hx hb dX7_soonest_75 (by decide) ?_
      exact hB _ _ _ _ _ _ _ _ _ (Option.some.inj h).symm _ _ _ G (lv_sub hl [2, 3, 4, 5, 6, 7, 8, 9, 0] rfl)
    · have h := if_at c6 h
      refine lv_iload hx hb dX7_soonest_47 (lv_at hl 7 rfl) ?_
      refine lv_bipush (v := -2) hx hb dX7_soonest_49 (by decide) ?_
      refine lv_icmp_le (tgt := 64) hx hb dX7_soonest_51 (by decide) (fun c8 => ?_) (fun c8 => ?_)
      · have h := it_at c8 h
        refine lv_iload hx hb dX7_soonest_64 (lv_at hl 9 rfl) ?_
        refine lv_istore (lv' := [(7, .int v9), (10, .int r4), (0, .ref (ad 0)), (1, .int v1), (2, .int v2), (3, .int v3), (5, .int v5), (6, .int v6), (8, .int v8), (9, .int v9)]) hx hb dX7_soonest_66 hl (by decide) rfl (fun ls hl => ?_)
        refine lv_iload hx hb dX7_soonest_68 (lv_at hl 1 rfl) ?_
        refine lv_istore (lv' := [(8, .int r4), (7, .int v9), (10, .int r4), (0, .ref (ad 0)), (1, .int v1), (2, .int v2), (3, .int v3), (5, .int v5), (6, .int v6), (9, .int v9)]) hx hb dX7_soonest_70 hl (by decide) rfl (fun ls hl => ?_)
        obtain ⟨x9, ex9⟩ : ∃ z : Int32, z = v9 + (1 : Int32) := ⟨_, rfl⟩
        have h := nm_at ex9 h
        refine lv_iinc (v := x9) (lv' := [(9, .int x9), (8, .int r4), (7, .int v9), (10, .int r4), (0, .ref (ad 0)), (1, .int v1), (2, .int v2), (3, .int v3), (5, .int v5), (6, .int v6)]) hx hb dX7_soonest_72 hl (k := 9) rfl (by rw [ex9]; rfl) (by decide) rfl (fun ls hl => ?_)
        refine lv_goto (tgt := 19) hx hb dX7_soonest_75 (by decide) ?_
        exact hB _ _ _ _ _ _ _ _ _ (Option.some.inj h).symm _ _ _ G (lv_sub hl [4, 5, 6, 7, 8, 9, 2, 1, 0] rfl)
      · have h := if_at c8 h
        refine lv_iload hx hb dX7_soonest_54 (lv_at hl 0 rfl) ?_
        refine lv_iload hx hb dX7_soonest_56 (lv_at hl 8 rfl) ?_
        refine lv_icmp_lt (tgt := 64) hx hb dX7_soonest_58 (by decide) (fun c10 => ?_) (fun c10 => ?_)
        · have h := it_at c10 h
          refine lv_iload hx hb dX7_soonest_64 (lv_at hl 9 rfl) ?_
          refine lv_istore (lv' := [(7, .int v9), (10, .int r4), (0, .ref (ad 0)), (1, .int v1), (2, .int v2), (3, .int v3), (5, .int v5), (6, .int v6), (8, .int v8), (9, .int v9)]) hx hb dX7_soonest_66 hl (by decide) rfl (fun ls hl => ?_)
          refine lv_iload hx hb dX7_soonest_68 (lv_at hl 1 rfl) ?_
          refine lv_istore (lv' := [(8, .int r4), (7, .int v9), (10, .int r4), (0, .ref (ad 0)), (1, .int v1), (2, .int v2), (3, .int v3), (5, .int v5), (6, .int v6), (9, .int v9)]) hx hb dX7_soonest_70 hl (by decide) rfl (fun ls hl => ?_)
          obtain ⟨x11, ex11⟩ : ∃ z : Int32, z = v9 + (1 : Int32) := ⟨_, rfl⟩
          have h := nm_at ex11 h
          refine lv_iinc (v := x11) (lv' := [(9, .int x11), (8, .int r4), (7, .int v9), (10, .int r4), (0, .ref (ad 0)), (1, .int v1), (2, .int v2), (3, .int v3), (5, .int v5), (6, .int v6)]) hx hb dX7_soonest_72 hl (k := 9) rfl (by rw [ex11]; rfl) (by decide) rfl (fun ls hl => ?_)
          refine lv_goto (tgt := 19) hx hb dX7_soonest_75 (by decide) ?_
          exact hB _ _ _ _ _ _ _ _ _ (Option.some.inj h).symm _ _ _ G (lv_sub hl [4, 5, 6, 7, 8, 9, 2, 1, 0] rfl)
        · have h := if_at c10 h
          refine lv_goto (tgt := 72) hx hb dX7_soonest_61 (by decide) ?_
          obtain ⟨x12, ex12⟩ : ∃ z : Int32, z = v9 + (1 : Int32) := ⟨_, rfl⟩
          have h := nm_at ex12 h
          refine lv_iinc (v := x12) (lv' := [(9, .int x12), (10, .int r4), (0, .ref (ad 0)), (1, .int v1), (2, .int v2), (3, .int v3), (5, .int v5), (6, .int v6), (7, .int v7), (8, .int v8)]) hx hb dX7_soonest_72 hl (k := 9) rfl (by rw [ex12]; rfl) (by decide) rfl (fun ls hl => ?_)
          refine lv_goto (tgt := 19) hx hb dX7_soonest_75 (by decide) ?_
          exact hB _ _ _ _ _ _ _ _ _ (Option.some.inj h).symm _ _ _ G (lv_sub hl [2, 3, 4, 5, 6, 7, 8, 9, 0] rfl)
noncomputable def f_X7_soonest_L19_19s (q : Int32 × Int32 × Int32 × Int32 × Int32 × Int32 × Int32 × Int32 × MS) : Option ((Int32 × Int32 × Int32 × Int32 × Int32 × Int32 × Int32 × Int32 × MS) ⊕ ((Int32 × MS) ⊕ (Int32 × Int32 × Int32 × MS))) := f_X7_soonest_L19_19 q.1 q.2.1 q.2.2.1 q.2.2.2.1 q.2.2.2.2.1 q.2.2.2.2.2.1 q.2.2.2.2.2.2.1 q.2.2.2.2.2.2.2.1 q.2.2.2.2.2.2.2.2
set_option maxRecDepth 100000 in
set_option maxHeartbeats 4000000 in
theorem w_X7_soonest_L19_19 (X : cx p s m args meth c cX7_soonest 11 RX7 (some .int)) (K : kx D cI cZ cQ adK adV A s s.heap) {e0 : (Int32 × MS) ⊕ (Int32 × Int32 × Int32 × MS)} : ∀ (n : Nat) (v1 : Int32) (v2 : Int32) (v3 : Int32) (v5 : Int32) (v6 : Int32) (v7 : Int32) (v8 : Int32) (v9 : Int32) (u : MS) {H : Heap} {locs : List Loc} {ls : Array Slot}, wh f_X7_soonest_L19_19s n (v1, v2, v3, v5, v6, v7, v8, v9, u) = some e0 → wg D A s.heap H locs (wM cI ad u) → lv_has ls 11 [(0, .ref (ad 0)), (1, .int v1), (2, .int v2), (3, .int v3), (5, .int v5), (6, .int v6), (7, .int v7), (8, .int v8), (9, .int v9)] → (∀ (v3 : Int32) (v6 : Int32) (v7 : Int32) (u : MS), e0 = .inr (v3, v6, v7, u) → ∀ (H : Heap) (locs : List Loc) (ls : Array Slot), wg D A s.heap H locs (wM cI ad u) → lv_has ls 11 [(0, .ref (ad 0)), (3, .int v3), (6, .int v6), (7, .int v7)] → W p l e { frames := 8, cells := 0, slots := 0, locals := 184 } s m args below meth c H locs 0 0 Q (F0 m 78 ls [])) → (∀ (r : Int32) (u : MS), e0 = .inl (r, u) → Q = (qI D A (wM cI ad) below args s r u)) → W p l e { frames := 8, cells := 0, slots := 0, locals := 184 } s m args below meth c H locs 0 0 Q (F0 m 19 ls []) := by
  intro n
  induction n with
  | zero => intro v1 v2 v3 v5 v6 v7 v8 v9 u H locs ls h; cases h
  | succ n ih =>
    intro v1 v2 v3 v5 v6 v7 v8 v9 u H locs ls h G hl hX hR
    obtain ⟨q, h1, h2, h3⟩ := wh_at h
    exact b_X7_soonest_L19_19 X K G hl (show f_X7_soonest_L19_19 v1 v2 v3 v5 v6 v7 v8 v9 u = some q from h1) (fun b0 b1 b2 b3 b4 b5 b6 b7 b8 ee H locs ls G hl => ih b0 b1 b2 b3 b4 b5 b6 b7 b8 (h2 _ ee) G hl hX hR) (fun z0 z1 z2 z3 ee => hX z0 z1 z2 z3 (h3 _ ee).symm) (fun r u ee => hR r u (h3 _ ee).symm)
noncomputable def f_X7_soonest (a1 : Int32) (a2 : Int32) (a3 : Int32) (a4 : Int32) (a5 : Int32) (u0 : MS) : Option (Int32 × MS) :=
  if a3 < 0 ∨ 247 ≤ a3.toNatClampNeg then none else
  nmv ((m_m u0) a3.toNatClampNeg) fun x2 =>
  bne (wl f_X7_soonest_L19_19s (a1, a2, a3, a5, x2, (-2 : Int32), (0 : Int32), a4, u0)) (fun a => some a) fun b =>
    nmv b.1 fun y6 =>
    nmv b.2.1 fun y7 =>
    nmv b.2.2.1 fun y8 =>
    nmv b.2.2.2 fun u5 =>
    if y6 < 0 ∨ 247 ≤ y6.toNatClampNeg then none else
    nmv (mu_m u5 (upd (m_m u5) y6.toNatClampNeg y7)) fun u10 =>
    (if y8 = (-2 : Int32) then
      bnd (f_X7_finds (-1000004 : Int32) u10) fun r12 u13 =>
      some (r12, u13)
    else
      some (y8, u10))
set_option maxRecDepth 100000 in
set_option maxHeartbeats 4000000 in
theorem c_X7_soonest {a1 : Int32} {a2 : Int32} {a3 : Int32} {a4 : Int32} {a5 : Int32} {u0 : MS} {r : Int32} {u' : MS} (h : f_X7_soonest a1 a2 a3 a4 a5 u0 = some (r, u')) : MI l D cI cZ cQ adK adV A yX7_soonest cX7_soonest 11 (some .int) { frames := 8, cells := 0, slots := 0, locals := 184 } [.ref (ad 0), .int a1, .int a2, .int a3, .int a4, .int a5] (wM cI ad) u0 r u' := by
  unfold f_X7_soonest at h
  refine entI (by decide) (Nat.le_of_ble_eq_true rfl) (fun p e s m below meth c ls X K G hl => ?_)
  have hl : lv_has ls 11 [(0, .ref (ad 0)), (1, .int a1), (2, .int a2), (3, .int a3), (4, .int a4), (5, .int a5)] := hl
  obtain ⟨hx, hb, -⟩ := id X
  generalize hH : s.heap = H at G
  subst hH
  refine lv_aload_n hx hb dX7_soonest_0 rfl (lv_at hl 0 rfl) ?_
  refine gM_0_0 X K G q_906 dX7_soonest_1 ?_
  refine lv_iload_n hx hb dX7_soonest_4 rfl (lv_at hl 3 rfl) ?_
  obtain ⟨g1, h⟩ := ck_at h
  refine lM_1 X K G g1 dX7_soonest_5 ?_
  refine lv_topi (fun x2 ex2 => ?_)
  have h := nm_at ex2 h
  refine lv_istore (lv' := [(6, .int x2), (0, .ref (ad 0)), (1, .int a1), (2, .int a2), (3, .int a3), (4, .int a4), (5, .int a5)]) hx hb dX7_soonest_6 hl (by decide) rfl (fun ls hl => ?_)
  refine lv_bipush (v := -2) hx hb dX7_soonest_8 (by decide) ?_
  refine lv_istore (lv' := [(7, .int (-2 : Int32)), (6, .int x2), (0, .ref (ad 0)), (1, .int a1), (2, .int a2), (3, .int a3), (4, .int a4), (5, .int a5)]) hx hb dX7_soonest_10 hl (by decide) rfl (fun ls hl => ?_)
  refine lv_iconst (v := 0) hx hb dX7_soonest_12 (by decide) ?_
  refine lv_istore (lv' := [(8, .int (0 : Int32)), (7, .int (-2 : Int32)), (6, .int x2), (0, .ref (ad 0)), (1, .int a1), (2, .int a2), (3, .int a3), (4, .int a4), (5, .int a5)]) hx hb dX7_soonest_13 hl (by decide) rfl (fun ls hl => ?_)
  refine lv_iload hx hb dX7_soonest_15 (lv_at hl 7 rfl) ?_
  refine lv_istore (lv' := [(9, .int a4), (8, .int (0 : Int32)), (7, .int (-2 : Int32)), (6, .int x2), (0, .ref (ad 0)), (1, .int a1), (2, .int a2), (3, .int a3), (4, .int a4), (5, .int a5)]) hx hb dX7_soonest_17 hl (by decide) rfl (fun ls hl => ?_)
  obtain ⟨q4, hq4, ha, hb1⟩ := bne_at h
  obtain ⟨n3, hn3⟩ := wl_iff.mp hq4
  refine w_X7_soonest_L19_19 X K n3 _ _ _ _ _ _ _ _ _ hn3 G (lv_sub hl [4, 5, 6, 7, 9, 3, 2, 1, 0] rfl) (fun y6 y7 y8 u5 ee H locs ls G hl => ?_) (fun r u1 ee => by obtain ⟨rfl, rfl⟩ := pair_at (ha _ ee); rfl)
  have h := hb1 _ ee
  clear ee ha hb1 hq4 hn3
  have h := nm_at (x := y6) rfl h
  have h := nm_at (x := y7) rfl h
  have h := nm_at (x := y8) rfl h
  have h := nm_at (x := u5) rfl h
  refine lv_aload_n hx hb dX7_soonest_78 rfl (lv_at hl 0 rfl) ?_
  refine gM_0_0 X K G q_906 dX7_soonest_79 ?_
  refine lv_iload_n hx hb dX7_soonest_82 rfl (lv_at hl 1 rfl) ?_
  refine lv_iload hx hb dX7_soonest_83 (lv_at hl 2 rfl) ?_
  obtain ⟨g9, h⟩ := ck_at h
  refine aM_1 X K G g9 dX7_soonest_85 (fun H locs G => ?_)
  obtain ⟨u10, eu10⟩ : ∃ z : MS, z = mu_m u5 (upd (m_m u5) y6.toNatClampNeg y7) := ⟨_, rfl⟩
  have G : wg D A s.heap H locs (wM cI ad u10) := by rw [eu10]; exact G
  have h := nm_at eu10 h
  clear eu10
  refine lv_iload hx hb dX7_soonest_86 (lv_at hl 3 rfl) ?_
  refine lv_bipush (v := -2) hx hb dX7_soonest_88 (by decide) ?_
  refine lv_icmp_ne (tgt := 102) hx hb dX7_soonest_90 (by decide) (fun c11 => ?_) (fun c11 => ?_)
  · have h := if_at c11 h
    refine lv_iload hx hb dX7_soonest_102 (lv_at hl 3 rfl) ?_
    obtain ⟨rfl, rfl⟩ := pair_at h
    exact reI X G dX7_soonest_104
  · have h := it_at c11 h
    refine lv_aload_n hx hb dX7_soonest_93 rfl (lv_at hl 0 rfl) ?_
    refine lv_ldc (v := -1000004) hx hb X.2.2.2.1 (X.2.2.2.2.1 _ q_1178) dX7_soonest_94 ?_
    obtain ⟨r12, u13, er12, h⟩ := bnd_at h
    refine cvI (rest := []) X K G (c_X7_finds er12) q_976 my_X7_finds ⟨rfl, rfl⟩ ⟨Nat.le_of_ble_eq_true rfl, Nat.le_of_ble_eq_true rfl⟩ ⟨Nat.zero_le _, Nat.zero_le _⟩ 0 7 rfl rfl rfl rfl hl.1 rfl (Nat.le_of_ble_eq_true rfl) dX7_soonest_96 (fun H locs G => ?_)
    clear er12
    refine lv_goto (tgt := 104) hx hb dX7_soonest_99 (by decide) ?_
    obtain ⟨rfl, rfl⟩ := pair_at h
    exact reI X G dX7_soonest_104
noncomputable def f_X7_roundFor (a1 : Int32) (a2 : Int32) (u0 : MS) : Option (Int32 × MS) :=
  bnd (f_X7_isThing a1 u0) fun r1 u2 =>
  (if r1 = 0 then
    bnd (f_X7_finds (-1000001 : Int32) u2) fun r4 u5 =>
    some (r4, u5)
  else
    bnd (f_X7_isDay a2 u2) fun r6 u7 =>
    (if r6 = 0 then
      bnd (f_X7_finds (-1000001 : Int32) u7) fun r9 u10 =>
      some (r9, u10)
    else
      bnd (f_X7_soonest a1 a2 (0 : Int32) (1 : Int32) (12 : Int32) u7) fun r11 u12 =>
      some (r11, u12)))
set_option maxRecDepth 100000 in
set_option maxHeartbeats 4000000 in
theorem c_X7_roundFor {a1 : Int32} {a2 : Int32} {u0 : MS} {r : Int32} {u' : MS} (h : f_X7_roundFor a1 a2 u0 = some (r, u')) : MI l D cI cZ cQ adK adV A yX7_roundFor cX7_roundFor 3 (some .int) { frames := 9, cells := 0, slots := 0, locals := 214 } [.ref (ad 0), .int a1, .int a2] (wM cI ad) u0 r u' := by
  unfold f_X7_roundFor at h
  refine entI (by decide) (Nat.le_of_ble_eq_true rfl) (fun p e s m below meth c ls X K G hl => ?_)
  have hl : lv_has ls 3 [(0, .ref (ad 0)), (1, .int a1), (2, .int a2)] := hl
  obtain ⟨hx, hb, -⟩ := id X
  generalize hH : s.heap = H at G
  subst hH
  refine lv_aload_n hx hb dX7_roundFor_0 rfl (lv_at hl 0 rfl) ?_
  refine lv_iload_n hx hb dX7_roundFor_1 rfl (lv_at hl 1 rfl) ?_
  obtain ⟨r1, u2, er1, h⟩ := bnd_at h
  refine cvI (rest := []) X K G (c_X7_isThing er1) q_1116 my_X7_isThing ⟨rfl, rfl⟩ ⟨Nat.le_of_ble_eq_true rfl, Nat.le_of_ble_eq_true rfl⟩ ⟨Nat.zero_le _, Nat.zero_le _⟩ 0 7 rfl rfl rfl rfl hl.1 rfl (Nat.le_of_ble_eq_true rfl) dX7_roundFor_2 (fun H locs G => ?_)
  clear er1
  refine lv_if_eq (tgt := 28) hx hb dX7_roundFor_5 (by decide) (fun c3 => ?_) (fun c3 => ?_)
  · have h := it_at c3 h
    refine lv_aload_n hx hb dX7_roundFor_28 rfl (lv_at hl 0 rfl) ?_
    refine lv_ldc (v := -1000001) hx hb X.2.2.2.1 (X.2.2.2.2.1 _ q_975) dX7_roundFor_29 ?_
    obtain ⟨r4, u5, er4, h⟩ := bnd_at h
    refine cvI (rest := []) X K G (c_X7_finds er4) q_976 my_X7_finds ⟨rfl, rfl⟩ ⟨Nat.le_of_ble_eq_true rfl, Nat.le_of_ble_eq_true rfl⟩ ⟨Nat.zero_le _, Nat.zero_le _⟩ 0 7 rfl rfl rfl rfl hl.1 rfl (Nat.le_of_ble_eq_true rfl) dX7_roundFor_31 (fun H locs G => ?_)
    clear er4
    obtain ⟨rfl, rfl⟩ := pair_at h
    exact reI X G dX7_roundFor_34
  · have h := if_at c3 h
    refine lv_iload_n hx hb dX7_roundFor_8 rfl (lv_at hl 2 rfl) ?_
    obtain ⟨r6, u7, er6, h⟩ := bnd_at h
    refine csI (rest := []) X K G (c_X7_isDay er6) q_1088 my_X7_isDay ⟨rfl, rfl⟩ ⟨Nat.le_of_ble_eq_true rfl, Nat.le_of_ble_eq_true rfl⟩ ⟨Nat.zero_le _, Nat.zero_le _⟩ rfl hl.1 rfl (Nat.le_of_ble_eq_true rfl) dX7_roundFor_9 (fun H locs G => ?_)
    clear er6
    refine lv_if_eq (tgt := 28) hx hb dX7_roundFor_12 (by decide) (fun c8 => ?_) (fun c8 => ?_)
    · have h := it_at c8 h
      refine lv_aload_n hx hb dX7_roundFor_28 rfl (lv_at hl 0 rfl) ?_
      refine lv_ldc (v := -1000001) hx hb X.2.2.2.1 (X.2.2.2.2.1 _ q_975) dX7_roundFor_29 ?_
      obtain ⟨r9, u10, er9, h⟩ := bnd_at h
      refine cvI (rest := []) X K G (c_X7_finds er9) q_976 my_X7_finds ⟨rfl, rfl⟩ ⟨Nat.le_of_ble_eq_true rfl, Nat.le_of_ble_eq_true rfl⟩ ⟨Nat.zero_le _, Nat.zero_le _⟩ 0 7 rfl rfl rfl rfl hl.1 rfl (Nat.le_of_ble_eq_true rfl) dX7_roundFor_31 (fun H locs G => ?_)
      clear er9
      obtain ⟨rfl, rfl⟩ := pair_at h
      exact reI X G dX7_roundFor_34
    · have h := if_at c8 h
      refine lv_aload_n hx hb dX7_roundFor_15 rfl (lv_at hl 0 rfl) ?_
      refine lv_iload_n hx hb dX7_roundFor_16 rfl (lv_at hl 1 rfl) ?_
      refine lv_iload_n hx hb dX7_roundFor_17 rfl (lv_at hl 2 rfl) ?_
      refine lv_iconst (v := 0) hx hb dX7_roundFor_18 (by decide) ?_
      refine lv_iconst (v := 1) hx hb dX7_roundFor_19 (by decide) ?_
      refine lv_bipush (v := 12) hx hb dX7_roundFor_20 (by decide) ?_
      obtain ⟨r11, u12, er11, h⟩ := bnd_at h
      refine cvI (rest := []) X K G (c_X7_soonest er11) q_1301 my_X7_soonest ⟨rfl, rfl⟩ ⟨Nat.le_of_ble_eq_true rfl, Nat.le_of_ble_eq_true rfl⟩ ⟨Nat.zero_le _, Nat.zero_le _⟩ 0 7 rfl rfl rfl rfl hl.1 rfl (Nat.le_of_ble_eq_true rfl) dX7_roundFor_22 (fun H locs G => ?_)
      clear er11
      refine lv_goto (tgt := 34) hx hb dX7_roundFor_25 (by decide) ?_
      obtain ⟨rfl, rfl⟩ := pair_at h
      exact reI X G dX7_roundFor_34
noncomputable def f_X7_nearFor (a1 : Int32) (a2 : Int32) (u0 : MS) : Option (Int32 × MS) :=
  bnd (f_X7_isThing a1 u0) fun r1 u2 =>
  (if r1 = 0 then
    bnd (f_X7_finds (-1000001 : Int32) u2) fun r4 u5 =>
    some (r4, u5)
  else
    bnd (f_X7_isDay a2 u2) fun r6 u7 =>
    (if r6 = 0 then
      bnd (f_X7_finds (-1000001 : Int32) u7) fun r9 u10 =>
      some (r9, u10)
    else
      bnd (f_X7_soonest a1 a2 (1 : Int32) (-1 : Int32) (11 : Int32) u7) fun r11 u12 =>
      some (r11, u12)))
set_option maxRecDepth 100000 in
set_option maxHeartbeats 4000000 in
theorem c_X7_nearFor {a1 : Int32} {a2 : Int32} {u0 : MS} {r : Int32} {u' : MS} (h : f_X7_nearFor a1 a2 u0 = some (r, u')) : MI l D cI cZ cQ adK adV A yX7_nearFor cX7_nearFor 3 (some .int) { frames := 9, cells := 0, slots := 0, locals := 214 } [.ref (ad 0), .int a1, .int a2] (wM cI ad) u0 r u' := by
  unfold f_X7_nearFor at h
  refine entI (by decide) (Nat.le_of_ble_eq_true rfl) (fun p e s m below meth c ls X K G hl => ?_)
  have hl : lv_has ls 3 [(0, .ref (ad 0)), (1, .int a1), (2, .int a2)] := hl
  obtain ⟨hx, hb, -⟩ := id X
  generalize hH : s.heap = H at G
  subst hH
  refine lv_aload_n hx hb dX7_nearFor_0 rfl (lv_at hl 0 rfl) ?_
  refine lv_iload_n hx hb dX7_nearFor_1 rfl (lv_at hl 1 rfl) ?_
  obtain ⟨r1, u2, er1, h⟩ := bnd_at h
  refine cvI (rest := []) X K G (c_X7_isThing er1) q_1116 my_X7_isThing ⟨rfl, rfl⟩ ⟨Nat.le_of_ble_eq_true rfl, Nat.le_of_ble_eq_true rfl⟩ ⟨Nat.zero_le _, Nat.zero_le _⟩ 0 7 rfl rfl rfl rfl hl.1 rfl (Nat.le_of_ble_eq_true rfl) dX7_nearFor_2 (fun H locs G => ?_)
  clear er1
  refine lv_if_eq (tgt := 28) hx hb dX7_nearFor_5 (by decide) (fun c3 => ?_) (fun c3 => ?_)
  · have h := it_at c3 h
    refine lv_aload_n hx hb dX7_nearFor_28 rfl (lv_at hl 0 rfl) ?_
    refine lv_ldc (v := -1000001) hx hb X.2.2.2.1 (X.2.2.2.2.1 _ q_975) dX7_nearFor_29 ?_
    obtain ⟨r4, u5, er4, h⟩ := bnd_at h
    refine cvI (rest := []) X K G (c_X7_finds er4) q_976 my_X7_finds ⟨rfl, rfl⟩ ⟨Nat.le_of_ble_eq_true rfl, Nat.le_of_ble_eq_true rfl⟩ ⟨Nat.zero_le _, Nat.zero_le _⟩ 0 7 rfl rfl rfl rfl hl.1 rfl (Nat.le_of_ble_eq_true rfl) dX7_nearFor_31 (fun H locs G => ?_)
    clear er4
    obtain ⟨rfl, rfl⟩ := pair_at h
    exact reI X G dX7_nearFor_34
  · have h := if_at c3 h
    refine lv_iload_n hx hb dX7_nearFor_8 rfl (lv_at hl 2 rfl) ?_
    obtain ⟨r6, u7, er6, h⟩ := bnd_at h
    refine csI (rest := []) X K G (c_X7_isDay er6) q_1088 my_X7_isDay ⟨rfl, rfl⟩ ⟨Nat.le_of_ble_eq_true rfl, Nat.le_of_ble_eq_true rfl⟩ ⟨Nat.zero_le _, Nat.zero_le _⟩ rfl hl.1 rfl (Nat.le_of_ble_eq_true rfl) dX7_nearFor_9 (fun H locs G => ?_)
    clear er6
    refine lv_if_eq (tgt := 28) hx hb dX7_nearFor_12 (by decide) (fun c8 => ?_) (fun c8 => ?_)
    · have h := it_at c8 h
      refine lv_aload_n hx hb dX7_nearFor_28 rfl (lv_at hl 0 rfl) ?_
      refine lv_ldc (v := -1000001) hx hb X.2.2.2.1 (X.2.2.2.2.1 _ q_975) dX7_nearFor_29 ?_
      obtain ⟨r9, u10, er9, h⟩ := bnd_at h
      refine cvI (rest := []) X K G (c_X7_finds er9) q_976 my_X7_finds ⟨rfl, rfl⟩ ⟨Nat.le_of_ble_eq_true rfl, Nat.le_of_ble_eq_true rfl⟩ ⟨Nat.zero_le _, Nat.zero_le _⟩ 0 7 rfl rfl rfl rfl hl.1 rfl (Nat.le_of_ble_eq_true rfl) dX7_nearFor_31 (fun H locs G => ?_)
      clear er9
      obtain ⟨rfl, rfl⟩ := pair_at h
      exact reI X G dX7_nearFor_34
    · have h := if_at c8 h
      refine lv_aload_n hx hb dX7_nearFor_15 rfl (lv_at hl 0 rfl) ?_
      refine lv_iload_n hx hb dX7_nearFor_16 rfl (lv_at hl 1 rfl) ?_
      refine lv_iload_n hx hb dX7_nearFor_17 rfl (lv_at hl 2 rfl) ?_
      refine lv_iconst (v := 1) hx hb dX7_nearFor_18 (by decide) ?_
      refine lv_iconst (v := -1) hx hb dX7_nearFor_19 (by decide) ?_
      refine lv_bipush (v := 11) hx hb dX7_nearFor_20 (by decide) ?_
      obtain ⟨r11, u12, er11, h⟩ := bnd_at h
      refine cvI (rest := []) X K G (c_X7_soonest er11) q_1301 my_X7_soonest ⟨rfl, rfl⟩ ⟨Nat.le_of_ble_eq_true rfl, Nat.le_of_ble_eq_true rfl⟩ ⟨Nat.zero_le _, Nat.zero_le _⟩ 0 7 rfl rfl rfl rfl hl.1 rfl (Nat.le_of_ble_eq_true rfl) dX7_nearFor_22 (fun H locs G => ?_)
      clear er11
      refine lv_goto (tgt := 34) hx hb dX7_nearFor_25 (by decide) ?_
      obtain ⟨rfl, rfl⟩ := pair_at h
      exact reI X G dX7_nearFor_34
noncomputable def f_X7_chance_L32_32 (v1 : Int32) (v2 : Int32) (v3 : Int32) (v4 : Int32) (u0 : MS) : Option ((Int32 × Int32 × Int32 × Int32 × MS) ⊕ ((Int32 × MS) ⊕ (Int32 × MS))) :=
  (if v2 ≤ v4 then
    some (.inr (.inr (v3, u0)))
  else
    nmv ((((m_m u0) (5 : Int32).toNatClampNeg) * (1103515245 : Int32)) + (12345 : Int32)) fun x2 =>
    nmv (mu_m u0 (upd (m_m u0) (5 : Int32).toNatClampNeg x2)) fun u3 =>
    nmv ((((m_m u3) (5 : Int32).toNatClampNeg).toUInt32 >>> ((8 : Int32).toUInt32 &&& Int32.toUInt32 31)).toInt32) fun x4 =>
    bnd (f_X7_runs v1 (x4 - x4 / (60 : Int32) * (60 : Int32)) u3) fun r5 u6 =>
    (if 0 ≤ r5 then
      nmv (v3 + (0 : Int32)) fun x8 =>
      nmv (v4 + (1 : Int32)) fun x9 =>
      some (.inl (v1, v2, x8, x9, u6))
    else
      nmv (v3 + (1 : Int32)) fun x10 =>
      nmv (v4 + (1 : Int32)) fun x11 =>
      some (.inl (v1, v2, x10, x11, u6))))
set_option maxRecDepth 100000 in
set_option maxHeartbeats 4000000 in
theorem b_X7_chance_L32_32 (X : cx p s m args meth c cX7_chance 5 RX7 (some .int)) (K : kx D cI cZ cQ adK adV A s s.heap) {v1 : Int32} {v2 : Int32} {v3 : Int32} {v4 : Int32} {u0 : MS} (G : wg D A s.heap H locs (wM cI ad u0)) (hl : lv_has ls 5 [(0, .ref (ad 0)), (1, .int v1), (2, .int v2), (3, .int v3), (4, .int v4)]) {q : ((Int32 × Int32 × Int32 × Int32 × MS) ⊕ ((Int32 × MS) ⊕ (Int32 × MS)))} (h : f_X7_chance_L32_32 v1 v2 v3 v4 u0 = some q) (hB : ∀ (v1 : Int32) (v2 : Int32) (v3 : Int32) (v4 : Int32) (u : MS), q = .inl (v1, v2, v3, v4, u) → ∀ (H : Heap) (locs : List Loc) (ls : Array Slot), wg D A s.heap H locs (wM cI ad u) → lv_has ls 5 [(0, .ref (ad 0)), (1, .int v1), (2, .int v2), (3, .int v3), (4, .int v4)] → W p l e { frames := 6, cells := 0, slots := 0, locals := 139 } s m args below meth c H locs 0 0 Q (F0 m 32 ls [])) (hX : ∀ (v3 : Int32) (u : MS), q = .inr (.inr (v3, u)) → ∀ (H : Heap) (locs : List Loc) (ls : Array Slot), wg D A s.heap H locs (wM cI ad u) → lv_has ls 5 [(3, .int v3)] → W p l e { frames := 6, cells := 0, slots := 0, locals := 139 } s m args below meth c H locs 0 0 Q (F0 m 92 ls [])) (hR : ∀ (r : Int32) (u : MS), q = .inr (.inl (r, u)) → Q = (qI D A (wM cI ad) below args s r u)) : W p l e { frames := 6, cells := 0, slots := 0, locals := 139 } s m args below meth c H locs 0 0 Q (F0 m 32 ls []) := by
  unfold f_X7_chance_L32_32 at h
  obtain ⟨hx, hb, -⟩ := id X
  refine lv_iload hx hb dX7_chance_32 (lv_at hl 4 rfl) ?_
  refine lv_iload_n hx hb dX7_chance_34 rfl (lv_at hl 2 rfl) ?_
  refine lv_icmp_ge (tgt := 92) hx hb dX7_chance_35 (by decide) (fun c1 => ?_) (fun c1 => ?_)
  · have h := it_at c1 h
    exact hX _ _ (Option.some.inj h).symm _ _ _ G (lv_sub hl [3] rfl)
  · have h := if_at c1 h
    refine lv_aload_n hx hb dX7_chance_38 rfl (lv_at hl 0 rfl) ?_
    refine gM_0_0 X K G q_906 dX7_chance_39 ?_
    refine lv_iconst (v := 5) hx hb dX7_chance_42 (by decide) ?_
    refine lv_aload_n hx hb dX7_chance_43 rfl (lv_at hl 0 rfl) ?_
    refine gM_0_0 X K G q_906 dX7_chance_44 ?_
    refine lv_iconst (v := 5) hx hb dX7_chance_47 (by decide) ?_
    refine lM_1 X K G (by decide) dX7_chance_48 ?_
    refine lv_ldcw (v := 1103515245) hx hb X.2.2.2.1 (X.2.2.2.2.1 _ q_1314) dX7_chance_49 ?_
    refine lv_imul hx hb dX7_chance_52 ?_
    refine lv_sipush (v := 12345) hx hb dX7_chance_53 (by decide) ?_
    refine lv_iadd hx hb dX7_chance_56 ?_
    refine lv_topi (fun x2 ex2 => ?_)
    have h := nm_at ex2 h
    refine aM_1 X K G (by decide) dX7_chance_57 (fun H locs G => ?_)
    obtain ⟨u3, eu3⟩ : ∃ z : MS, z = mu_m u0 (upd (m_m u0) (5 : Int32).toNatClampNeg x2) := ⟨_, rfl⟩
    have G : wg D A s.heap H locs (wM cI ad u3) := by rw [eu3]; exact G
    have h := nm_at eu3 h
    clear eu3
    refine lv_iload_n hx hb dX7_chance_58 rfl (lv_at hl 3 rfl) ?_
    refine lv_aload_n hx hb dX7_chance_59 rfl (lv_at hl 0 rfl) ?_
    refine lv_iload_n hx hb dX7_chance_60 rfl (lv_at hl 1 rfl) ?_
    refine lv_aload_n hx hb dX7_chance_61 rfl (lv_at hl 0 rfl) ?_
    refine gM_0_0 X K G q_906 dX7_chance_62 ?_
    refine lv_iconst (v := 5) hx hb dX7_chance_65 (by decide) ?_
    refine lM_1 X K G (by decide) dX7_chance_66 ?_
    refine lv_bipush (v := 8) hx hb dX7_chance_67 (by decide) ?_
    refine lv_iushr hx hb dX7_chance_69 rfl ?_
    refine lv_bipush (v := 60) hx hb dX7_chance_70 (by decide) ?_
    refine nm2 (fun x4 ex4 => ?_)
    have h := nm_at ex4 h
    refine lv_irem hx hb dX7_chance_72 (by decide) ?_
    obtain ⟨r5, u6, er5, h⟩ := bnd_at h
    refine cvI (rest := [.int v3]) X K G (c_X7_runs er5) q_1183 my_X7_runs ⟨rfl, rfl⟩ ⟨Nat.le_of_ble_eq_true rfl, Nat.le_of_ble_eq_true rfl⟩ ⟨Nat.zero_le _, Nat.zero_le _⟩ 0 7 rfl rfl rfl rfl hl.1 rfl (Nat.le_of_ble_eq_true rfl) dX7_chance_73 (fun H locs G => ?_)
    clear er5
    refine lv_if_ge (tgt := 83) hx hb dX7_chance_76 (by decide) (fun c7 => ?_) (fun c7 => ?_)
    · have h := it_at c7 h
      refine lv_iconst (v := 0) hx hb dX7_chance_83 (by decide) ?_
      refine lv_iadd hx hb dX7_chance_84 ?_
      refine lv_topi (fun x8 ex8 => ?_)
      have h := nm_at ex8 h
      refine lv_istore_n (lv' := [(3, .int x8), (0, .ref (ad 0)), (1, .int v1), (2, .int v2), (4, .int v4)]) hx hb dX7_chance_85 rfl hl (by decide) rfl (fun ls hl => ?_)
      obtain ⟨x9, ex9⟩ : ∃ z : Int32, z = v4 + (1 : Int32) := ⟨_, rfl⟩
      have h := nm_at ex9 h
      refine lv_iinc (v := x9) (lv' := [(4, .int x9), (3, .int x8), (0, .ref (ad 0)), (1, .int v1), (2, .int v2)]) hx hb dX7_chance_86 hl (k := 4) rfl (by rw [ex9]; rfl) (by decide) rfl (fun ls hl => ?_)
      refine lv_goto (tgt := 32) hx hb dX7_chance_89 (by decide) ?_
      exact hB _ _ _ _ _ (Option.some.inj h).symm _ _ _ G (lv_sub hl [2, 3, 4, 1, 0] rfl)
    · have h := if_at c7 h
      refine lv_iconst (v := 1) hx hb dX7_chance_79 (by decide) ?_
      refine lv_goto (tgt := 84) hx hb dX7_chance_80 (by decide) ?_
      refine lv_iadd hx hb dX7_chance_84 ?_
      refine lv_topi (fun x10 ex10 => ?_)
      have h := nm_at ex10 h
      refine lv_istore_n (lv' := [(3, .int x10), (0, .ref (ad 0)), (1, .int v1), (2, .int v2), (4, .int v4)]) hx hb dX7_chance_85 rfl hl (by decide) rfl (fun ls hl => ?_)
      obtain ⟨x11, ex11⟩ : ∃ z : Int32, z = v4 + (1 : Int32) := ⟨_, rfl⟩
      have h := nm_at ex11 h
      refine lv_iinc (v := x11) (lv' := [(4, .int x11), (3, .int x10), (0, .ref (ad 0)), (1, .int v1), (2, .int v2)]) hx hb dX7_chance_86 hl (k := 4) rfl (by rw [ex11]; rfl) (by decide) rfl (fun ls hl => ?_)
      refine lv_goto (tgt := 32) hx hb dX7_chance_89 (by decide) ?_
      exact hB _ _ _ _ _ (Option.some.inj h).symm _ _ _ G (lv_sub hl [2, 3, 4, 1, 0] rfl)
noncomputable def f_X7_chance_L32_32s (q : Int32 × Int32 × Int32 × Int32 × MS) : Option ((Int32 × Int32 × Int32 × Int32 × MS) ⊕ ((Int32 × MS) ⊕ (Int32 × MS))) := f_X7_chance_L32_32 q.1 q.2.1 q.2.2.1 q.2.2.2.1 q.2.2.2.2
set_option maxRecDepth 100000 in
set_option maxHeartbeats 4000000 in
theorem w_X7_chance_L32_32 (X : cx p s m args meth c cX7_chance 5 RX7 (some .int)) (K : kx D cI cZ cQ adK adV A s s.heap) {e0 : (Int32 × MS) ⊕ (Int32 × MS)} : ∀ (n : Nat) (v1 : Int32) (v2 : Int32) (v3 : Int32) (v4 : Int32) (u : MS) {H : Heap} {locs : List Loc} {ls : Array Slot}, wh f_X7_chance_L32_32s n (v1, v2, v3, v4, u) = some e0 → wg D A s.heap H locs (wM cI ad u) → lv_has ls 5 [(0, .ref (ad 0)), (1, .int v1), (2, .int v2), (3, .int v3), (4, .int v4)] → (∀ (v3 : Int32) (u : MS), e0 = .inr (v3, u) → ∀ (H : Heap) (locs : List Loc) (ls : Array Slot), wg D A s.heap H locs (wM cI ad u) → lv_has ls 5 [(3, .int v3)] → W p l e { frames := 6, cells := 0, slots := 0, locals := 139 } s m args below meth c H locs 0 0 Q (F0 m 92 ls [])) → (∀ (r : Int32) (u : MS), e0 = .inl (r, u) → Q = (qI D A (wM cI ad) below args s r u)) → W p l e { frames := 6, cells := 0, slots := 0, locals := 139 } s m args below meth c H locs 0 0 Q (F0 m 32 ls []) := by
  intro n
  induction n with
  | zero => intro v1 v2 v3 v4 u H locs ls h; cases h
  | succ n ih =>
    intro v1 v2 v3 v4 u H locs ls h G hl hX hR
    obtain ⟨q, h1, h2, h3⟩ := wh_at h
    exact b_X7_chance_L32_32 X K G hl (show f_X7_chance_L32_32 v1 v2 v3 v4 u = some q from h1) (fun b0 b1 b2 b3 b4 ee H locs ls G hl => ih b0 b1 b2 b3 b4 (h2 _ ee) G hl hX hR) (fun z0 z1 ee => hX z0 z1 (h3 _ ee).symm) (fun r u ee => hR r u (h3 _ ee).symm)
noncomputable def f_X7_chance (a1 : Int32) (a2 : Int32) (u0 : MS) : Option (Int32 × MS) :=
  bnd (f_X7_isThing a1 u0) fun r1 u2 =>
  (if r1 = 0 then
    bnd (f_X7_finds (-1000001 : Int32) u2) fun r4 u5 =>
    some (r4, u5)
  else
    bnd (f_X7_in (a2.toInt64) (1 : Int64) (40 : Int64) u2) fun r6 u7 =>
    (if r6 = 0 then
      bnd (f_X7_finds (-1000001 : Int32) u7) fun r13 u14 =>
      some (r13, u14)
    else
      bne (wl f_X7_chance_L32_32s (a1, a2, (0 : Int32), (0 : Int32), u7)) (fun a => some a) fun b =>
        nmv b.1 fun y12 =>
        nmv b.2 fun u11 =>
        some (y12, u11)))
set_option maxRecDepth 100000 in
set_option maxHeartbeats 4000000 in
theorem c_X7_chance {a1 : Int32} {a2 : Int32} {u0 : MS} {r : Int32} {u' : MS} (h : f_X7_chance a1 a2 u0 = some (r, u')) : MI l D cI cZ cQ adK adV A yX7_chance cX7_chance 5 (some .int) { frames := 6, cells := 0, slots := 0, locals := 139 } [.ref (ad 0), .int a1, .int a2] (wM cI ad) u0 r u' := by
  unfold f_X7_chance at h
  refine entI (by decide) (Nat.le_of_ble_eq_true rfl) (fun p e s m below meth c ls X K G hl => ?_)
  have hl : lv_has ls 5 [(0, .ref (ad 0)), (1, .int a1), (2, .int a2)] := hl
  obtain ⟨hx, hb, -⟩ := id X
  generalize hH : s.heap = H at G
  subst hH
  refine lv_aload_n hx hb dX7_chance_0 rfl (lv_at hl 0 rfl) ?_
  refine lv_iload_n hx hb dX7_chance_1 rfl (lv_at hl 1 rfl) ?_
  obtain ⟨r1, u2, er1, h⟩ := bnd_at h
  refine cvI (rest := []) X K G (c_X7_isThing er1) q_1116 my_X7_isThing ⟨rfl, rfl⟩ ⟨Nat.le_of_ble_eq_true rfl, Nat.le_of_ble_eq_true rfl⟩ ⟨Nat.zero_le _, Nat.zero_le _⟩ 0 7 rfl rfl rfl rfl hl.1 rfl (Nat.le_of_ble_eq_true rfl) dX7_chance_2 (fun H locs G => ?_)
  clear er1
  refine lv_if_eq (tgt := 20) hx hb dX7_chance_5 (by decide) (fun c3 => ?_) (fun c3 => ?_)
  · have h := it_at c3 h
    refine lv_aload_n hx hb dX7_chance_20 rfl (lv_at hl 0 rfl) ?_
    refine lv_ldc (v := -1000001) hx hb X.2.2.2.1 (X.2.2.2.2.1 _ q_975) dX7_chance_21 ?_
    obtain ⟨r4, u5, er4, h⟩ := bnd_at h
    refine cvI (rest := []) X K G (c_X7_finds er4) q_976 my_X7_finds ⟨rfl, rfl⟩ ⟨Nat.le_of_ble_eq_true rfl, Nat.le_of_ble_eq_true rfl⟩ ⟨Nat.zero_le _, Nat.zero_le _⟩ 0 7 rfl rfl rfl rfl hl.1 rfl (Nat.le_of_ble_eq_true rfl) dX7_chance_23 (fun H locs G => ?_)
    clear er4
    obtain ⟨rfl, rfl⟩ := pair_at h
    exact reI X G dX7_chance_26
  · have h := if_at c3 h
    refine lv_iload_n hx hb dX7_chance_8 rfl (lv_at hl 2 rfl) ?_
    refine lv_i2l hx hb dX7_chance_9 rfl ?_
    refine lv_lconst (v := 1) hx hb dX7_chance_10 (by decide) ?_
    refine lv_ldc2 (v := 40) hx hb X.2.2.2.1 (X.2.2.2.2.1 _ q_1313) dX7_chance_11 ?_
    obtain ⟨r6, u7, er6, h⟩ := bnd_at h
    refine csI (rest := []) X K G (c_X7_in er6) q_972 my_X7_in ⟨rfl, rfl⟩ ⟨Nat.le_of_ble_eq_true rfl, Nat.le_of_ble_eq_true rfl⟩ ⟨Nat.zero_le _, Nat.zero_le _⟩ rfl hl.1 rfl (Nat.le_of_ble_eq_true rfl) dX7_chance_14 (fun H locs G => ?_)
    clear er6
    refine lv_if_ne (tgt := 27) hx hb dX7_chance_17 (by decide) (fun c8 => ?_) (fun c8 => ?_)
    · have h := if_at c8 h
      refine lv_iconst (v := 0) hx hb dX7_chance_27 (by decide) ?_
      refine lv_istore_n (lv' := [(3, .int (0 : Int32)), (0, .ref (ad 0)), (1, .int a1), (2, .int a2)]) hx hb dX7_chance_28 rfl hl (by decide) rfl (fun ls hl => ?_)
      refine lv_iconst (v := 0) hx hb dX7_chance_29 (by decide) ?_
      refine lv_istore (lv' := [(4, .int (0 : Int32)), (3, .int (0 : Int32)), (0, .ref (ad 0)), (1, .int a1), (2, .int a2)]) hx hb dX7_chance_30 hl (by decide) rfl (fun ls hl => ?_)
      obtain ⟨q10, hq10, ha, hb1⟩ := bne_at h
      obtain ⟨n9, hn9⟩ := wl_iff.mp hq10
      refine w_X7_chance_L32_32 X K n9 _ _ _ _ _ hn9 G (lv_sub hl [2, 3, 4, 1, 0] rfl) (fun y12 u11 ee H locs ls G hl => ?_) (fun r u1 ee => by obtain ⟨rfl, rfl⟩ := pair_at (ha _ ee); rfl)
      have h := hb1 _ ee
      clear ee ha hb1 hq10 hn9
      have h := nm_at (x := y12) rfl h
      have h := nm_at (x := u11) rfl h
      refine lv_iload_n hx hb dX7_chance_92 rfl (lv_at hl 0 rfl) ?_
      obtain ⟨rfl, rfl⟩ := pair_at h
      exact reI X G dX7_chance_93
    · have h := it_at c8 h
      refine lv_aload_n hx hb dX7_chance_20 rfl (lv_at hl 0 rfl) ?_
      refine lv_ldc (v := -1000001) hx hb X.2.2.2.1 (X.2.2.2.2.1 _ q_975) dX7_chance_21 ?_
      obtain ⟨r13, u14, er13, h⟩ := bnd_at h
      refine cvI (rest := []) X K G (c_X7_finds er13) q_976 my_X7_finds ⟨rfl, rfl⟩ ⟨Nat.le_of_ble_eq_true rfl, Nat.le_of_ble_eq_true rfl⟩ ⟨Nat.zero_le _, Nat.zero_le _⟩ 0 7 rfl rfl rfl rfl hl.1 rfl (Nat.le_of_ble_eq_true rfl) dX7_chance_23 (fun H locs G => ?_)
      clear er13
      obtain ⟨rfl, rfl⟩ := pair_at h
      exact reI X G dX7_chance_26
noncomputable def f_X7_seed (a1 : Int32) (u0 : MS) : Option (Int32 × MS) :=
  bnd (f_X7_becomes (5 : Int32) a1 u0) fun r1 u2 =>
  some (r1, u2)
set_option maxRecDepth 100000 in
set_option maxHeartbeats 4000000 in
theorem c_X7_seed {a1 : Int32} {u0 : MS} {r : Int32} {u' : MS} (h : f_X7_seed a1 u0 = some (r, u')) : MI l D cI cZ cQ adK adV A yX7_seed cX7_seed 2 (some .int) { frames := 1, cells := 0, slots := 0, locals := 23 } [.ref (ad 0), .int a1] (wM cI ad) u0 r u' := by
  unfold f_X7_seed at h
  refine entI (by decide) (Nat.le_of_ble_eq_true rfl) (fun p e s m below meth c ls X K G hl => ?_)
  have hl : lv_has ls 2 [(0, .ref (ad 0)), (1, .int a1)] := hl
  obtain ⟨hx, hb, -⟩ := id X
  generalize hH : s.heap = H at G
  subst hH
  refine lv_aload_n hx hb dX7_seed_0 rfl (lv_at hl 0 rfl) ?_
  refine lv_iconst (v := 5) hx hb dX7_seed_1 (by decide) ?_
  refine lv_iload_n hx hb dX7_seed_2 rfl (lv_at hl 1 rfl) ?_
  obtain ⟨r1, u2, er1, h⟩ := bnd_at h
  refine cvI (rest := []) X K G (c_X7_becomes er1) q_1061 my_X7_becomes ⟨rfl, rfl⟩ ⟨Nat.le_of_ble_eq_true rfl, Nat.le_of_ble_eq_true rfl⟩ ⟨Nat.zero_le _, Nat.zero_le _⟩ 0 7 rfl rfl rfl rfl hl.1 rfl (Nat.le_of_ble_eq_true rfl) dX7_seed_3 (fun H locs G => ?_)
  clear er1
  obtain ⟨rfl, rfl⟩ := pair_at h
  exact reI X G dX7_seed_6
noncomputable def f_X7_hold (a1 : Int32) (a2 : Int32) (u0 : MS) : Option (Int32 × MS) :=
  bnd (f_X7_in (a1.toInt64) (0 : Int64) (9 : Int64) u0) fun r1 u2 =>
  (if r1 = 0 then
    bnd (f_X7_finds (-1000001 : Int32) u2) fun r4 u5 =>
    some (r4, u5)
  else
    (if a2 = (-1 : Int32) then
      nmv ((237 : Int32) + a1) fun x7 =>
      if x7 < 0 ∨ 247 ≤ x7.toNatClampNeg then none else
      nmv (mu_m u2 (upd (m_m u2) x7.toNatClampNeg a2)) fun u9 =>
      some ((1 : Int32), u9)
    else
      bnd (f_X7_isThing a2 u2) fun r10 u11 =>
      (if r10 = 0 then
        bnd (f_X7_finds (-1000001 : Int32) u11) fun r16 u17 =>
        some (r16, u17)
      else
        nmv ((237 : Int32) + a1) fun x13 =>
        if x13 < 0 ∨ 247 ≤ x13.toNatClampNeg then none else
        nmv (mu_m u11 (upd (m_m u11) x13.toNatClampNeg a2)) fun u15 =>
        some ((1 : Int32), u15))))
set_option maxRecDepth 100000 in
set_option maxHeartbeats 4000000 in
theorem c_X7_hold {a1 : Int32} {a2 : Int32} {u0 : MS} {r : Int32} {u' : MS} (h : f_X7_hold a1 a2 u0 = some (r, u')) : MI l D cI cZ cQ adK adV A yX7_hold cX7_hold 3 (some .int) { frames := 2, cells := 0, slots := 0, locals := 46 } [.ref (ad 0), .int a1, .int a2] (wM cI ad) u0 r u' := by
  unfold f_X7_hold at h
  refine entI (by decide) (Nat.le_of_ble_eq_true rfl) (fun p e s m below meth c ls X K G hl => ?_)
  have hl : lv_has ls 3 [(0, .ref (ad 0)), (1, .int a1), (2, .int a2)] := hl
  obtain ⟨hx, hb, -⟩ := id X
  generalize hH : s.heap = H at G
  subst hH
  refine lv_iload_n hx hb dX7_hold_0 rfl (lv_at hl 1 rfl) ?_
  refine lv_i2l hx hb dX7_hold_1 rfl ?_
  refine lv_lconst (v := 0) hx hb dX7_hold_2 (by decide) ?_
  refine lv_ldc2 (v := 9) hx hb X.2.2.2.1 (X.2.2.2.2.1 _ q_1323) dX7_hold_3 ?_
  obtain ⟨r1, u2, er1, h⟩ := bnd_at h
  refine csI (rest := []) X K G (c_X7_in er1) q_972 my_X7_in ⟨rfl, rfl⟩ ⟨Nat.le_of_ble_eq_true rfl, Nat.le_of_ble_eq_true rfl⟩ ⟨Nat.zero_le _, Nat.zero_le _⟩ rfl hl.1 rfl (Nat.le_of_ble_eq_true rfl) dX7_hold_6 (fun H locs G => ?_)
  clear er1
  refine lv_if_eq (tgt := 25) hx hb dX7_hold_9 (by decide) (fun c3 => ?_) (fun c3 => ?_)
  · have h := it_at c3 h
    refine lv_aload_n hx hb dX7_hold_25 rfl (lv_at hl 0 rfl) ?_
    refine lv_ldc (v := -1000001) hx hb X.2.2.2.1 (X.2.2.2.2.1 _ q_975) dX7_hold_26 ?_
    obtain ⟨r4, u5, er4, h⟩ := bnd_at h
    refine cvI (rest := []) X K G (c_X7_finds er4) q_976 my_X7_finds ⟨rfl, rfl⟩ ⟨Nat.le_of_ble_eq_true rfl, Nat.le_of_ble_eq_true rfl⟩ ⟨Nat.zero_le _, Nat.zero_le _⟩ 0 7 rfl rfl rfl rfl hl.1 rfl (Nat.le_of_ble_eq_true rfl) dX7_hold_28 (fun H locs G => ?_)
    clear er4
    obtain ⟨rfl, rfl⟩ := pair_at h
    exact reI X G dX7_hold_31
  · have h := if_at c3 h
    refine lv_iload_n hx hb dX7_hold_12 rfl (lv_at hl 2 rfl) ?_
    refine lv_iconst (v := -1) hx hb dX7_hold_13 (by decide) ?_
    refine lv_icmp_eq (tgt := 32) hx hb dX7_hold_14 (by decide) (fun c6 => ?_) (fun c6 => ?_)
    · have h := it_at c6 h
      refine lv_aload_n hx hb dX7_hold_32 rfl (lv_at hl 0 rfl) ?_
      refine gM_0_0 X K G q_906 dX7_hold_33 ?_
      refine lv_sipush (v := 237) hx hb dX7_hold_36 (by decide) ?_
      refine lv_iload_n hx hb dX7_hold_39 rfl (lv_at hl 1 rfl) ?_
      refine lv_iadd hx hb dX7_hold_40 ?_
      refine lv_iload_n hx hb dX7_hold_41 rfl (lv_at hl 2 rfl) ?_
      refine nm2 (fun x7 ex7 => ?_)
      have h := nm_at ex7 h
      obtain ⟨g8, h⟩ := ck_at h
      refine aM_1 X K G g8 dX7_hold_42 (fun H locs G => ?_)
      obtain ⟨u9, eu9⟩ : ∃ z : MS, z = mu_m u2 (upd (m_m u2) x7.toNatClampNeg a2) := ⟨_, rfl⟩
      have G : wg D A s.heap H locs (wM cI ad u9) := by rw [eu9]; exact G
      have h := nm_at eu9 h
      clear eu9
      refine lv_iconst (v := 1) hx hb dX7_hold_43 (by decide) ?_
      obtain ⟨rfl, rfl⟩ := pair_at h
      exact reI X G dX7_hold_44
    · have h := if_at c6 h
      refine lv_aload_n hx hb dX7_hold_17 rfl (lv_at hl 0 rfl) ?_
      refine lv_iload_n hx hb dX7_hold_18 rfl (lv_at hl 2 rfl) ?_
      obtain ⟨r10, u11, er10, h⟩ := bnd_at h
      refine cvI (rest := []) X K G (c_X7_isThing er10) q_1116 my_X7_isThing ⟨rfl, rfl⟩ ⟨Nat.le_of_ble_eq_true rfl, Nat.le_of_ble_eq_true rfl⟩ ⟨Nat.zero_le _, Nat.zero_le _⟩ 0 7 rfl rfl rfl rfl hl.1 rfl (Nat.le_of_ble_eq_true rfl) dX7_hold_19 (fun H locs G => ?_)
      clear er10
      refine lv_if_ne (tgt := 32) hx hb dX7_hold_22 (by decide) (fun c12 => ?_) (fun c12 => ?_)
      · have h := if_at c12 h
        refine lv_aload_n hx hb dX7_hold_32 rfl (lv_at hl 0 rfl) ?_
        refine gM_0_0 X K G q_906 dX7_hold_33 ?_
        refine lv_sipush (v := 237) hx hb dX7_hold_36 (by decide) ?_
        refine lv_iload_n hx hb dX7_hold_39 rfl (lv_at hl 1 rfl) ?_
        refine lv_iadd hx hb dX7_hold_40 ?_
        refine lv_iload_n hx hb dX7_hold_41 rfl (lv_at hl 2 rfl) ?_
        refine nm2 (fun x13 ex13 => ?_)
        have h := nm_at ex13 h
        obtain ⟨g14, h⟩ := ck_at h
        refine aM_1 X K G g14 dX7_hold_42 (fun H locs G => ?_)
        obtain ⟨u15, eu15⟩ : ∃ z : MS, z = mu_m u11 (upd (m_m u11) x13.toNatClampNeg a2) := ⟨_, rfl⟩
        have G : wg D A s.heap H locs (wM cI ad u15) := by rw [eu15]; exact G
        have h := nm_at eu15 h
        clear eu15
        refine lv_iconst (v := 1) hx hb dX7_hold_43 (by decide) ?_
        obtain ⟨rfl, rfl⟩ := pair_at h
        exact reI X G dX7_hold_44
      · have h := it_at c12 h
        refine lv_aload_n hx hb dX7_hold_25 rfl (lv_at hl 0 rfl) ?_
        refine lv_ldc (v := -1000001) hx hb X.2.2.2.1 (X.2.2.2.2.1 _ q_975) dX7_hold_26 ?_
        obtain ⟨r16, u17, er16, h⟩ := bnd_at h
        refine cvI (rest := []) X K G (c_X7_finds er16) q_976 my_X7_finds ⟨rfl, rfl⟩ ⟨Nat.le_of_ble_eq_true rfl, Nat.le_of_ble_eq_true rfl⟩ ⟨Nat.zero_le _, Nat.zero_le _⟩ 0 7 rfl rfl rfl rfl hl.1 rfl (Nat.le_of_ble_eq_true rfl) dX7_hold_28 (fun H locs G => ?_)
        clear er16
        obtain ⟨rfl, rfl⟩ := pair_at h
        exact reI X G dX7_hold_31
noncomputable def f_X7_above (a0 : Int32) (u0 : MS) : Option (Int32 × MS) :=
  (if a0 = (0 : Int32) then
    some ((-1 : Int32), u0)
  else
  (if a0 = (1 : Int32) then
    some ((0 : Int32), u0)
  else
  (if a0 = (2 : Int32) then
    some ((0 : Int32), u0)
  else
  (if a0 = (3 : Int32) then
    some ((0 : Int32), u0)
  else
  (if a0 = (4 : Int32) then
    some ((1 : Int32), u0)
  else
  (if a0 = (5 : Int32) then
    some ((4 : Int32), u0)
  else
  (if a0 = (6 : Int32) then
    some ((3 : Int32), u0)
  else
  some ((0 : Int32), u0))))))))
set_option maxRecDepth 100000 in
set_option maxHeartbeats 4000000 in
theorem c_X7_above {a0 : Int32} {u0 : MS} {r : Int32} {u' : MS} (h : f_X7_above a0 u0 = some (r, u')) : MI l D cI cZ cQ adK adV A yX7_above cX7_above 1 (some .int) { frames := 0, cells := 0, slots := 0, locals := 0 } [.int a0] (wM cI ad) u0 r u' := by
  unfold f_X7_above at h
  refine entI (by decide) (Nat.le_of_ble_eq_true rfl) (fun p e s m below meth c ls X K G hl => ?_)
  have hl : lv_has ls 1 [(0, .int a0)] := hl
  obtain ⟨hx, hb, -⟩ := id X
  generalize hH : s.heap = H at G
  subst hH
  refine lv_iload_n hx hb dX7_above_0 rfl (lv_at hl 0 rfl) ?_
  by_cases c1 : a0 = (0 : Int32)
  · have h := it_at c1 h
    refine tswI X (0 : Int32) c1 dX7_above_1 (off := 43) (tgt := 44) (by decide) ?_
    refine lv_iconst (v := -1) hx hb dX7_above_44 (by decide) ?_
    obtain ⟨rfl, rfl⟩ := pair_at h
    exact reI X G dX7_above_45
  have h := if_at c1 h
  by_cases c2 : a0 = (1 : Int32)
  · have h := it_at c2 h
    refine tswI X (1 : Int32) c2 dX7_above_1 (off := 51) (tgt := 52) (by decide) ?_
    refine lv_iconst (v := 0) hx hb dX7_above_52 (by decide) ?_
    obtain ⟨rfl, rfl⟩ := pair_at h
    exact reI X G dX7_above_53
  have h := if_at c2 h
  by_cases c3 : a0 = (2 : Int32)
  · have h := it_at c3 h
    refine tswI X (2 : Int32) c3 dX7_above_1 (off := 51) (tgt := 52) (by decide) ?_
    refine lv_iconst (v := 0) hx hb dX7_above_52 (by decide) ?_
    obtain ⟨rfl, rfl⟩ := pair_at h
    exact reI X G dX7_above_53
  have h := if_at c3 h
  by_cases c4 : a0 = (3 : Int32)
  · have h := it_at c4 h
    refine tswI X (3 : Int32) c4 dX7_above_1 (off := 51) (tgt := 52) (by decide) ?_
    refine lv_iconst (v := 0) hx hb dX7_above_52 (by decide) ?_
    obtain ⟨rfl, rfl⟩ := pair_at h
    exact reI X G dX7_above_53
  have h := if_at c4 h
  by_cases c5 : a0 = (4 : Int32)
  · have h := it_at c5 h
    refine tswI X (4 : Int32) c5 dX7_above_1 (off := 45) (tgt := 46) (by decide) ?_
    refine lv_iconst (v := 1) hx hb dX7_above_46 (by decide) ?_
    obtain ⟨rfl, rfl⟩ := pair_at h
    exact reI X G dX7_above_47
  have h := if_at c5 h
  by_cases c6 : a0 = (5 : Int32)
  · have h := it_at c6 h
    refine tswI X (5 : Int32) c6 dX7_above_1 (off := 47) (tgt := 48) (by decide) ?_
    refine lv_iconst (v := 4) hx hb dX7_above_48 (by decide) ?_
    obtain ⟨rfl, rfl⟩ := pair_at h
    exact reI X G dX7_above_49
  have h := if_at c6 h
  by_cases c7 : a0 = (6 : Int32)
  · have h := it_at c7 h
    refine tswI X (6 : Int32) c7 dX7_above_1 (off := 49) (tgt := 50) (by decide) ?_
    refine lv_iconst (v := 3) hx hb dX7_above_50 (by decide) ?_
    obtain ⟨rfl, rfl⟩ := pair_at h
    exact reI X G dX7_above_51
  have h := if_at c7 h
  have tc1 := lv_neT (a := 0) c1 rfl
  have tc2 := lv_neT (a := 1) c2 rfl
  have tc3 := lv_neT (a := 2) c3 rfl
  have tc4 := lv_neT (a := 3) c4 rfl
  have tc5 := lv_neT (a := 4) c5 rfl
  have tc6 := lv_neT (a := 5) c6 rfl
  have tc7 := lv_neT (a := 6) c7 rfl
  refine tswO X (by omega) dX7_above_1 (tgt := 52) (by decide) ?_
  refine lv_iconst (v := 0) hx hb dX7_above_52 (by decide) ?_
  obtain ⟨rfl, rfl⟩ := pair_at h
  exact reI X G dX7_above_53
noncomputable def f_X7_as_L56_56 (v2 : Int32) (v3 : Int32) (v4 : Int32) (u0 : MS) : Option ((Int32 × Int32 × Int32 × MS) ⊕ ((Int32 × MS) ⊕ (MS))) :=
  (if v4 < 0 then
    some (.inr (.inr u0))
  else
    (if v4 = v2 then
      some (.inr (.inl (v3, u0)))
    else
      bnd (f_X7_above v4 u0) fun r3 u4 =>
      some (.inl (v2, v3, r3, u4))))
set_option maxRecDepth 100000 in
set_option maxHeartbeats 4000000 in
theorem b_X7_as_L56_56 (X : cx p s m args meth c cX7_as 5 RX7 (some .int)) (K : kx D cI cZ cQ adK adV A s s.heap) {v2 : Int32} {v3 : Int32} {v4 : Int32} {u0 : MS} (G : wg D A s.heap H locs (wM cI ad u0)) (hl : lv_has ls 5 [(0, .ref (ad 0)), (2, .int v2), (3, .int v3), (4, .int v4)]) {q : ((Int32 × Int32 × Int32 × MS) ⊕ ((Int32 × MS) ⊕ (MS)))} (h : f_X7_as_L56_56 v2 v3 v4 u0 = some q) (hB : ∀ (v2 : Int32) (v3 : Int32) (v4 : Int32) (u : MS), q = .inl (v2, v3, v4, u) → ∀ (H : Heap) (locs : List Loc) (ls : Array Slot), wg D A s.heap H locs (wM cI ad u) → lv_has ls 5 [(0, .ref (ad 0)), (2, .int v2), (3, .int v3), (4, .int v4)] → W p l e { frames := 2, cells := 0, slots := 0, locals := 45 } s m args below meth c H locs 0 0 Q (F0 m 56 ls [])) (hX : ∀ (u : MS), q = .inr (.inr u) → ∀ (H : Heap) (locs : List Loc) (ls : Array Slot), wg D A s.heap H locs (wM cI ad u) → lv_has ls 5 [(0, .ref (ad 0))] → W p l e { frames := 2, cells := 0, slots := 0, locals := 45 } s m args below meth c H locs 0 0 Q (F0 m 79 ls [])) (hR : ∀ (r : Int32) (u : MS), q = .inr (.inl (r, u)) → Q = (qI D A (wM cI ad) below args s r u)) : W p l e { frames := 2, cells := 0, slots := 0, locals := 45 } s m args below meth c H locs 0 0 Q (F0 m 56 ls []) := by
  unfold f_X7_as_L56_56 at h
  obtain ⟨hx, hb, -⟩ := id X
  refine lv_iload hx hb dX7_as_56 (lv_at hl 3 rfl) ?_
  refine lv_if_lt (tgt := 79) hx hb dX7_as_58 (by decide) (fun c1 => ?_) (fun c1 => ?_)
  · have h := it_at c1 h
    exact hX _ (Option.some.inj h).symm _ _ _ G (lv_sub hl [0] rfl)
  · have h := if_at c1 h
    refine lv_iload hx hb dX7_as_61 (lv_at hl 3 rfl) ?_
    refine lv_iload_n hx hb dX7_as_63 rfl (lv_at hl 1 rfl) ?_
    refine lv_icmp_ne (tgt := 69) hx hb dX7_as_64 (by decide) (fun c2 => ?_) (fun c2 => ?_)
    · have h := if_at c2 h
      refine lv_iload hx hb dX7_as_69 (lv_at hl 3 rfl) ?_
      obtain ⟨r3, u4, er3, h⟩ := bnd_at h
      refine csI (rest := []) X K G (c_X7_above er3) q_1329 my_X7_above ⟨rfl, rfl⟩ ⟨Nat.le_of_ble_eq_true rfl, Nat.le_of_ble_eq_true rfl⟩ ⟨Nat.zero_le _, Nat.zero_le _⟩ rfl hl.1 rfl (Nat.le_of_ble_eq_true rfl) dX7_as_71 (fun H locs G => ?_)
      clear er3
      refine lv_istore (lv' := [(4, .int r3), (0, .ref (ad 0)), (2, .int v2), (3, .int v3)]) hx hb dX7_as_74 hl (by decide) rfl (fun ls hl => ?_)
      refine lv_goto (tgt := 56) hx hb dX7_as_76 (by decide) ?_
      exact hB _ _ _ _ (Option.some.inj h).symm _ _ _ G (lv_sub hl [1, 2, 3, 0] rfl)
    · have h := it_at c2 h
      refine lv_iload_n hx hb dX7_as_67 rfl (lv_at hl 2 rfl) ?_
      rw [hR _ _ (Option.some.inj h).symm]
      exact reI X G dX7_as_68
noncomputable def f_X7_as_L56_56s (q : Int32 × Int32 × Int32 × MS) : Option ((Int32 × Int32 × Int32 × MS) ⊕ ((Int32 × MS) ⊕ (MS))) := f_X7_as_L56_56 q.1 q.2.1 q.2.2.1 q.2.2.2
set_option maxRecDepth 100000 in
set_option maxHeartbeats 4000000 in
theorem w_X7_as_L56_56 (X : cx p s m args meth c cX7_as 5 RX7 (some .int)) (K : kx D cI cZ cQ adK adV A s s.heap) {e0 : (Int32 × MS) ⊕ (MS)} : ∀ (n : Nat) (v2 : Int32) (v3 : Int32) (v4 : Int32) (u : MS) {H : Heap} {locs : List Loc} {ls : Array Slot}, wh f_X7_as_L56_56s n (v2, v3, v4, u) = some e0 → wg D A s.heap H locs (wM cI ad u) → lv_has ls 5 [(0, .ref (ad 0)), (2, .int v2), (3, .int v3), (4, .int v4)] → (∀ (u : MS), e0 = .inr u → ∀ (H : Heap) (locs : List Loc) (ls : Array Slot), wg D A s.heap H locs (wM cI ad u) → lv_has ls 5 [(0, .ref (ad 0))] → W p l e { frames := 2, cells := 0, slots := 0, locals := 45 } s m args below meth c H locs 0 0 Q (F0 m 79 ls [])) → (∀ (r : Int32) (u : MS), e0 = .inl (r, u) → Q = (qI D A (wM cI ad) below args s r u)) → W p l e { frames := 2, cells := 0, slots := 0, locals := 45 } s m args below meth c H locs 0 0 Q (F0 m 56 ls []) := by
  intro n
  induction n with
  | zero => intro v2 v3 v4 u H locs ls h; cases h
  | succ n ih =>
    intro v2 v3 v4 u H locs ls h G hl hX hR
    obtain ⟨q, h1, h2, h3⟩ := wh_at h
    exact b_X7_as_L56_56 X K G hl (show f_X7_as_L56_56 v2 v3 v4 u = some q from h1) (fun b0 b1 b2 b3 ee H locs ls G hl => ih b0 b1 b2 b3 (h2 _ ee) G hl hX hR) (fun z0 ee => hX z0 (h3 _ ee).symm) (fun r u ee => hR r u (h3 _ ee).symm)
noncomputable def f_X7_as (a1 : Int32) (a2 : Int32) (u0 : MS) : Option (Int32 × MS) :=
  bnd (f_X7_in (a1.toInt64) (0 : Int64) (9 : Int64) u0) fun r1 u2 =>
  (if r1 = 0 then
    bnd (f_X7_finds (-1000001 : Int32) u2) fun r4 u5 =>
    some (r4, u5)
  else
    bnd (f_X7_isKind a2 u2) fun r6 u7 =>
    (if r6 = 0 then
      bnd (f_X7_finds (-1000001 : Int32) u7) fun r22 u23 =>
      some (r22, u23)
    else
      nmv ((237 : Int32) + a1) fun x9 =>
      if x9 < 0 ∨ 247 ≤ x9.toNatClampNeg then none else
      nmv ((m_m u7) x9.toNatClampNeg) fun x11 =>
      (if 0 ≤ x11 then
        bnd (f_X7_kindOf x11 u7) fun r13 u14 =>
        bne (wl f_X7_as_L56_56s (a2, x11, r13, u14)) (fun a => some a) fun b =>
          nmv b fun u17 =>
          bnd (f_X7_finds (-1000003 : Int32) u17) fun r18 u19 =>
          some (r18, u19)
      else
        bnd (f_X7_finds (-1000006 : Int32) u7) fun r20 u21 =>
        some (r20, u21))))
set_option maxRecDepth 100000 in
set_option maxHeartbeats 4000000 in
theorem c_X7_as {a1 : Int32} {a2 : Int32} {u0 : MS} {r : Int32} {u' : MS} (h : f_X7_as a1 a2 u0 = some (r, u')) : MI l D cI cZ cQ adK adV A yX7_as cX7_as 5 (some .int) { frames := 2, cells := 0, slots := 0, locals := 45 } [.ref (ad 0), .int a1, .int a2] (wM cI ad) u0 r u' := by
  unfold f_X7_as at h
  refine entI (by decide) (Nat.le_of_ble_eq_true rfl) (fun p e s m below meth c ls X K G hl => ?_)
  have hl : lv_has ls 5 [(0, .ref (ad 0)), (1, .int a1), (2, .int a2)] := hl
  obtain ⟨hx, hb, -⟩ := id X
  generalize hH : s.heap = H at G
  subst hH
  refine lv_iload_n hx hb dX7_as_0 rfl (lv_at hl 1 rfl) ?_
  refine lv_i2l hx hb dX7_as_1 rfl ?_
  refine lv_lconst (v := 0) hx hb dX7_as_2 (by decide) ?_
  refine lv_ldc2 (v := 9) hx hb X.2.2.2.1 (X.2.2.2.2.1 _ q_1323) dX7_as_3 ?_
  obtain ⟨r1, u2, er1, h⟩ := bnd_at h
  refine csI (rest := []) X K G (c_X7_in er1) q_972 my_X7_in ⟨rfl, rfl⟩ ⟨Nat.le_of_ble_eq_true rfl, Nat.le_of_ble_eq_true rfl⟩ ⟨Nat.zero_le _, Nat.zero_le _⟩ rfl hl.1 rfl (Nat.le_of_ble_eq_true rfl) dX7_as_6 (fun H locs G => ?_)
  clear er1
  refine lv_if_eq (tgt := 19) hx hb dX7_as_9 (by decide) (fun c3 => ?_) (fun c3 => ?_)
  · have h := it_at c3 h
    refine lv_aload_n hx hb dX7_as_19 rfl (lv_at hl 0 rfl) ?_
    refine lv_ldc (v := -1000001) hx hb X.2.2.2.1 (X.2.2.2.2.1 _ q_975) dX7_as_20 ?_
    obtain ⟨r4, u5, er4, h⟩ := bnd_at h
    refine cvI (rest := []) X K G (c_X7_finds er4) q_976 my_X7_finds ⟨rfl, rfl⟩ ⟨Nat.le_of_ble_eq_true rfl, Nat.le_of_ble_eq_true rfl⟩ ⟨Nat.zero_le _, Nat.zero_le _⟩ 0 7 rfl rfl rfl rfl hl.1 rfl (Nat.le_of_ble_eq_true rfl) dX7_as_22 (fun H locs G => ?_)
    clear er4
    obtain ⟨rfl, rfl⟩ := pair_at h
    exact reI X G dX7_as_25
  · have h := if_at c3 h
    refine lv_iload_n hx hb dX7_as_12 rfl (lv_at hl 2 rfl) ?_
    obtain ⟨r6, u7, er6, h⟩ := bnd_at h
    refine csI (rest := []) X K G (c_X7_isKind er6) q_1107 my_X7_isKind ⟨rfl, rfl⟩ ⟨Nat.le_of_ble_eq_true rfl, Nat.le_of_ble_eq_true rfl⟩ ⟨Nat.zero_le _, Nat.zero_le _⟩ rfl hl.1 rfl (Nat.le_of_ble_eq_true rfl) dX7_as_13 (fun H locs G => ?_)
    clear er6
    refine lv_if_ne (tgt := 26) hx hb dX7_as_16 (by decide) (fun c8 => ?_) (fun c8 => ?_)
    · have h := if_at c8 h
      refine lv_aload_n hx hb dX7_as_26 rfl (lv_at hl 0 rfl) ?_
      refine gM_0_0 X K G q_906 dX7_as_27 ?_
      refine lv_sipush (v := 237) hx hb dX7_as_30 (by decide) ?_
      refine lv_iload_n hx hb dX7_as_33 rfl (lv_at hl 1 rfl) ?_
      refine lv_iadd hx hb dX7_as_34 ?_
      refine lv_topi (fun x9 ex9 => ?_)
      have h := nm_at ex9 h
      obtain ⟨g10, h⟩ := ck_at h
      refine lM_1 X K G g10 dX7_as_35 ?_
      refine lv_topi (fun x11 ex11 => ?_)
      have h := nm_at ex11 h
      refine lv_istore_n (lv' := [(3, .int x11), (0, .ref (ad 0)), (1, .int a1), (2, .int a2)]) hx hb dX7_as_36 rfl hl (by decide) rfl (fun ls hl => ?_)
      refine lv_iload_n hx hb dX7_as_37 rfl (lv_at hl 0 rfl) ?_
      refine lv_if_ge (tgt := 49) hx hb dX7_as_38 (by decide) (fun c12 => ?_) (fun c12 => ?_)
      · have h := it_at c12 h
        refine lv_aload_n hx hb dX7_as_49 rfl (lv_at hl 1 rfl) ?_
        refine lv_iload_n hx hb dX7_as_50 rfl (lv_at hl 0 rfl) ?_
        obtain ⟨r13, u14, er13, h⟩ := bnd_at h
        refine cvI (rest := []) X K G (c_X7_kindOf er13) q_1130 my_X7_kindOf ⟨rfl, rfl⟩ ⟨Nat.le_of_ble_eq_true rfl, Nat.le_of_ble_eq_true rfl⟩ ⟨Nat.zero_le _, Nat.zero_le _⟩ 0 7 rfl rfl rfl rfl hl.1 rfl (Nat.le_of_ble_eq_true rfl) dX7_as_51 (fun H locs G => ?_)
        clear er13
        refine lv_istore (lv' := [(4, .int r13), (3, .int x11), (0, .ref (ad 0)), (1, .int a1), (2, .int a2)]) hx hb dX7_as_54 hl (by decide) rfl (fun ls hl => ?_)
        obtain ⟨q16, hq16, ha, hb1⟩ := bne_at h
        obtain ⟨n15, hn15⟩ := wl_iff.mp hq16
        refine w_X7_as_L56_56 X K n15 _ _ _ _ hn15 G (lv_sub hl [2, 4, 1, 0] rfl) (fun  u17 ee H locs ls G hl => ?_) (fun r u1 ee => by obtain ⟨rfl, rfl⟩ := pair_at (ha _ ee); rfl)
        have h := hb1 _ ee
        clear ee ha hb1 hq16 hn15
        have h := nm_at (x := u17) rfl h
        refine lv_aload_n hx hb dX7_as_79 rfl (lv_at hl 0 rfl) ?_
        refine lv_ldcw (v := -1000003) hx hb X.2.2.2.1 (X.2.2.2.2.1 _ q_1332) dX7_as_80 ?_
        obtain ⟨r18, u19, er18, h⟩ := bnd_at h
        refine cvI (rest := []) X K G (c_X7_finds er18) q_976 my_X7_finds ⟨rfl, rfl⟩ ⟨Nat.le_of_ble_eq_true rfl, Nat.le_of_ble_eq_true rfl⟩ ⟨Nat.zero_le _, Nat.zero_le _⟩ 0 7 rfl rfl rfl rfl hl.1 rfl (Nat.le_of_ble_eq_true rfl) dX7_as_83 (fun H locs G => ?_)
        clear er18
        obtain ⟨rfl, rfl⟩ := pair_at h
        exact reI X G dX7_as_86
      · have h := if_at c12 h
        refine lv_aload_n hx hb dX7_as_41 rfl (lv_at hl 1 rfl) ?_
        refine lv_ldcw (v := -1000006) hx hb X.2.2.2.1 (X.2.2.2.2.1 _ q_1328) dX7_as_42 ?_
        obtain ⟨r20, u21, er20, h⟩ := bnd_at h
        refine cvI (rest := []) X K G (c_X7_finds er20) q_976 my_X7_finds ⟨rfl, rfl⟩ ⟨Nat.le_of_ble_eq_true rfl, Nat.le_of_ble_eq_true rfl⟩ ⟨Nat.zero_le _, Nat.zero_le _⟩ 0 7 rfl rfl rfl rfl hl.1 rfl (Nat.le_of_ble_eq_true rfl) dX7_as_45 (fun H locs G => ?_)
        clear er20
        obtain ⟨rfl, rfl⟩ := pair_at h
        exact reI X G dX7_as_48
    · have h := it_at c8 h
      refine lv_aload_n hx hb dX7_as_19 rfl (lv_at hl 0 rfl) ?_
      refine lv_ldc (v := -1000001) hx hb X.2.2.2.1 (X.2.2.2.2.1 _ q_975) dX7_as_20 ?_
      obtain ⟨r22, u23, er22, h⟩ := bnd_at h
      refine cvI (rest := []) X K G (c_X7_finds er22) q_976 my_X7_finds ⟨rfl, rfl⟩ ⟨Nat.le_of_ble_eq_true rfl, Nat.le_of_ble_eq_true rfl⟩ ⟨Nat.zero_le _, Nat.zero_le _⟩ 0 7 rfl rfl rfl rfl hl.1 rfl (Nat.le_of_ble_eq_true rfl) dX7_as_22 (fun H locs G => ?_)
      clear er22
      obtain ⟨rfl, rfl⟩ := pair_at h
      exact reI X G dX7_as_25
noncomputable def f_X7_isSheet (a0 : Int32) (u0 : MS) : Option (Int32 × MS) :=
  bnd (f_X7_in (a0.toInt64) (0 : Int64) (3 : Int64) u0) fun r1 u2 =>
  if ¬ (r1 = 0 ∨ r1 = 1) then none else
  some (r1, u2)
set_option maxRecDepth 100000 in
set_option maxHeartbeats 4000000 in
theorem c_X7_isSheet {a0 : Int32} {u0 : MS} {r : Int32} {u' : MS} (h : f_X7_isSheet a0 u0 = some (r, u')) : MI l D cI cZ cQ adK adV A yX7_isSheet cX7_isSheet 1 (some .boolean) { frames := 1, cells := 0, slots := 0, locals := 25 } [.int a0] (wM cI ad) u0 r u' := by
  unfold f_X7_isSheet at h
  refine entI (by decide) (Nat.le_of_ble_eq_true rfl) (fun p e s m below meth c ls X K G hl => ?_)
  have hl : lv_has ls 1 [(0, .int a0)] := hl
  obtain ⟨hx, hb, -⟩ := id X
  generalize hH : s.heap = H at G
  subst hH
  refine lv_iload_n hx hb dX7_isSheet_0 rfl (lv_at hl 0 rfl) ?_
  refine lv_i2l hx hb dX7_isSheet_1 rfl ?_
  refine lv_lconst (v := 0) hx hb dX7_isSheet_2 (by decide) ?_
  refine lv_ldc2 (v := 3) hx hb X.2.2.2.1 (X.2.2.2.2.1 _ q_1340) dX7_isSheet_3 ?_
  obtain ⟨r1, u2, er1, h⟩ := bnd_at h
  refine csI (rest := []) X K G (c_X7_in er1) q_972 my_X7_in ⟨rfl, rfl⟩ ⟨Nat.le_of_ble_eq_true rfl, Nat.le_of_ble_eq_true rfl⟩ ⟨Nat.zero_le _, Nat.zero_le _⟩ rfl hl.1 rfl (Nat.le_of_ble_eq_true rfl) dX7_isSheet_6 (fun H locs G => ?_)
  clear er1
  obtain ⟨g3, h⟩ := ck_at h
  obtain ⟨rfl, rfl⟩ := pair_at h
  exact reZ X G (Decidable.not_not.mp g3) dX7_isSheet_9
noncomputable def f_X7_sheet_L86_86 (v1 : Int32) (v4 : Int32) (u0 : MS) : Option ((Int32 × Int32 × MS) ⊕ ((Int32 × MS) ⊕ (Int32 × MS))) :=
  (if (40 : Int32) ≤ v4 then
    some (.inr (.inr (v1, u0)))
  else
    nmv (((40 : Int32) * v1) + v4) fun x2 =>
    if x2 < 0 ∨ 160 ≤ x2.toNatClampNeg then none else
    nmv (mu_number u0 (upd (m_number u0) x2.toNatClampNeg (0 : Int32))) fun u4 =>
    nmv (v4 + (1 : Int32)) fun x5 =>
    some (.inl (v1, x5, u4)))
set_option maxRecDepth 100000 in
set_option maxHeartbeats 4000000 in
theorem b_X7_sheet_L86_86 (X : cx p s m args meth c cX7_sheet 5 RX7 (some .int)) (K : kx D cI cZ cQ adK adV A s s.heap) {v1 : Int32} {v4 : Int32} {u0 : MS} (G : wg D A s.heap H locs (wM cI ad u0)) (hl : lv_has ls 5 [(0, .ref (ad 0)), (1, .int v1), (4, .int v4)]) {q : ((Int32 × Int32 × MS) ⊕ ((Int32 × MS) ⊕ (Int32 × MS)))} (h : f_X7_sheet_L86_86 v1 v4 u0 = some q) (hB : ∀ (v1 : Int32) (v4 : Int32) (u : MS), q = .inl (v1, v4, u) → ∀ (H : Heap) (locs : List Loc) (ls : Array Slot), wg D A s.heap H locs (wM cI ad u) → lv_has ls 5 [(0, .ref (ad 0)), (1, .int v1), (4, .int v4)] → W p l e { frames := 2, cells := 0, slots := 0, locals := 45 } s m args below meth c H locs 0 0 Q (F0 m 86 ls [])) (hX : ∀ (v1 : Int32) (u : MS), q = .inr (.inr (v1, u)) → ∀ (H : Heap) (locs : List Loc) (ls : Array Slot), wg D A s.heap H locs (wM cI ad u) → lv_has ls 5 [(0, .ref (ad 0)), (1, .int v1)] → W p l e { frames := 2, cells := 0, slots := 0, locals := 45 } s m args below meth c H locs 0 0 Q (F0 m 112 ls [])) (hR : ∀ (r : Int32) (u : MS), q = .inr (.inl (r, u)) → Q = (qI D A (wM cI ad) below args s r u)) : W p l e { frames := 2, cells := 0, slots := 0, locals := 45 } s m args below meth c H locs 0 0 Q (F0 m 86 ls []) := by
  unfold f_X7_sheet_L86_86 at h
  obtain ⟨hx, hb, -⟩ := id X
  refine lv_iload hx hb dX7_sheet_86 (lv_at hl 2 rfl) ?_
  refine lv_bipush (v := 40) hx hb dX7_sheet_88 (by decide) ?_
  refine lv_icmp_ge (tgt := 112) hx hb dX7_sheet_90 (by decide) (fun c1 => ?_) (fun c1 => ?_)
  · have h := it_at c1 h
    exact hX _ _ (Option.some.inj h).symm _ _ _ G (lv_sub hl [0, 1] rfl)
  · have h := if_at c1 h
    refine lv_aload_n hx hb dX7_sheet_93 rfl (lv_at hl 0 rfl) ?_
    refine gM_0_19 X K G q_925 dX7_sheet_94 ?_
    refine lv_bipush (v := 40) hx hb dX7_sheet_97 (by decide) ?_
    refine lv_iload_n hx hb dX7_sheet_99 rfl (lv_at hl 1 rfl) ?_
    refine lv_imul hx hb dX7_sheet_100 ?_
    refine lv_iload hx hb dX7_sheet_101 (lv_at hl 2 rfl) ?_
    refine lv_iadd hx hb dX7_sheet_103 ?_
    refine lv_iconst (v := 0) hx hb dX7_sheet_104 (by decide) ?_
    refine nm2 (fun x2 ex2 => ?_)
    have h := nm_at ex2 h
    obtain ⟨g3, h⟩ := ck_at h
    refine aM_10 X K G g3 dX7_sheet_105 (fun H locs G => ?_)
    obtain ⟨u4, eu4⟩ : ∃ z : MS, z = mu_number u0 (upd (m_number u0) x2.toNatClampNeg (0 : Int32)) := ⟨_, rfl⟩
    have G : wg D A s.heap H locs (wM cI ad u4) := by rw [eu4]; exact G
    have h := nm_at eu4 h
    clear eu4
    obtain ⟨x5, ex5⟩ : ∃ z : Int32, z = v4 + (1 : Int32) := ⟨_, rfl⟩
    have h := nm_at ex5 h
    refine lv_iinc (v := x5) (lv' := [(4, .int x5), (0, .ref (ad 0)), (1, .int v1)]) hx hb dX7_sheet_106 hl (k := 2) rfl (by rw [ex5]; rfl) (by decide) rfl (fun ls hl => ?_)
    refine lv_goto (tgt := 86) hx hb dX7_sheet_109 (by decide) ?_
    exact hB _ _ _ (Option.some.inj h).symm _ _ _ G (lv_sub hl [1, 2, 0] rfl)
noncomputable def f_X7_sheet_L86_86s (q : Int32 × Int32 × MS) : Option ((Int32 × Int32 × MS) ⊕ ((Int32 × MS) ⊕ (Int32 × MS))) := f_X7_sheet_L86_86 q.1 q.2.1 q.2.2
set_option maxRecDepth 100000 in
set_option maxHeartbeats 4000000 in
theorem w_X7_sheet_L86_86 (X : cx p s m args meth c cX7_sheet 5 RX7 (some .int)) (K : kx D cI cZ cQ adK adV A s s.heap) {e0 : (Int32 × MS) ⊕ (Int32 × MS)} : ∀ (n : Nat) (v1 : Int32) (v4 : Int32) (u : MS) {H : Heap} {locs : List Loc} {ls : Array Slot}, wh f_X7_sheet_L86_86s n (v1, v4, u) = some e0 → wg D A s.heap H locs (wM cI ad u) → lv_has ls 5 [(0, .ref (ad 0)), (1, .int v1), (4, .int v4)] → (∀ (v1 : Int32) (u : MS), e0 = .inr (v1, u) → ∀ (H : Heap) (locs : List Loc) (ls : Array Slot), wg D A s.heap H locs (wM cI ad u) → lv_has ls 5 [(0, .ref (ad 0)), (1, .int v1)] → W p l e { frames := 2, cells := 0, slots := 0, locals := 45 } s m args below meth c H locs 0 0 Q (F0 m 112 ls [])) → (∀ (r : Int32) (u : MS), e0 = .inl (r, u) → Q = (qI D A (wM cI ad) below args s r u)) → W p l e { frames := 2, cells := 0, slots := 0, locals := 45 } s m args below meth c H locs 0 0 Q (F0 m 86 ls []) := by
  intro n
  induction n with
  | zero => intro v1 v4 u H locs ls h; cases h
  | succ n ih =>
    intro v1 v4 u H locs ls h G hl hX hR
    obtain ⟨q, h1, h2, h3⟩ := wh_at h
    exact b_X7_sheet_L86_86 X K G hl (show f_X7_sheet_L86_86 v1 v4 u = some q from h1) (fun b0 b1 b2 ee H locs ls G hl => ih b0 b1 b2 (h2 _ ee) G hl hX hR) (fun z0 z1 ee => hX z0 z1 (h3 _ ee).symm) (fun r u ee => hR r u (h3 _ ee).symm)
noncomputable def f_X7_sheet_36 (v1 : Int32) (v2 : Int32) (v3 : Int32) (u0 : MS) : Option (Int32 × MS) :=
  (if 0 ≤ v3 then
    (if v3 ≤ (40 : Int32) then
      if v1 < 0 ∨ 4 ≤ v1.toNatClampNeg then none else
      nmv (mu_bits u0 (upd (m_bits u0) v1.toNatClampNeg v2)) fun u4 =>
      (if v2 = 0 then
        if v1 < 0 ∨ 4 ≤ v1.toNatClampNeg then none else
        nmv (mu_size u4 (upd (m_size u4) v1.toNatClampNeg (0 : Int32))) fun u14 =>
        bne (wl f_X7_sheet_L86_86s (v1, (0 : Int32), u14)) (fun a => some a) fun b =>
          nmv b.1 fun y18 =>
          nmv b.2 fun u17 =>
          if y18 < 0 ∨ 4 ≤ y18.toNatClampNeg then none else
          some ((m_size u17) y18.toNatClampNeg, u17)
      else
        if v1 < 0 ∨ 4 ≤ v1.toNatClampNeg then none else
        nmv (mu_size u4 (upd (m_size u4) v1.toNatClampNeg v3)) fun u7 =>
        bne (wl f_X7_sheet_L86_86s (v1, (0 : Int32), u7)) (fun a => some a) fun b =>
          nmv b.1 fun y11 =>
          nmv b.2 fun u10 =>
          if y11 < 0 ∨ 4 ≤ y11.toNatClampNeg then none else
          some ((m_size u10) y11.toNatClampNeg, u10))
    else
      bnd (f_X7_finds (-1000001 : Int32) u0) fun r20 u21 =>
      some (r20, u21))
  else
    bnd (f_X7_finds (-1000007 : Int32) u0) fun r22 u23 =>
    some (r22, u23))
set_option maxRecDepth 100000 in
set_option maxHeartbeats 4000000 in
theorem b_X7_sheet_36 (X : cx p s m args meth c cX7_sheet 5 RX7 (some .int)) (K : kx D cI cZ cQ adK adV A s s.heap) {v1 : Int32} {v2 : Int32} {v3 : Int32} {u0 : MS} (G : wg D A s.heap H locs (wM cI ad u0)) (hl : lv_has ls 5 [(0, .ref (ad 0)), (1, .int v1), (2, .int v2), (3, .int v3)]) {r : Int32} {u' : MS} (h : f_X7_sheet_36 v1 v2 v3 u0 = some (r, u')) : W p l e { frames := 2, cells := 0, slots := 0, locals := 45 } s m args below meth c H locs 0 0 (qI D A (wM cI ad) below args s r u') (F0 m 36 ls []) := by
  unfold f_X7_sheet_36 at h
  obtain ⟨hx, hb, -⟩ := id X
  refine lv_iload_n hx hb dX7_sheet_36 rfl (lv_at hl 3 rfl) ?_
  refine lv_if_ge (tgt := 48) hx hb dX7_sheet_37 (by decide) (fun c1 => ?_) (fun c1 => ?_)
  · have h := it_at c1 h
    refine lv_iload_n hx hb dX7_sheet_48 rfl (lv_at hl 3 rfl) ?_
    refine lv_bipush (v := 40) hx hb dX7_sheet_49 (by decide) ?_
    refine lv_icmp_le (tgt := 61) hx hb dX7_sheet_51 (by decide) (fun c2 => ?_) (fun c2 => ?_)
    · have h := it_at c2 h
      refine lv_aload_n hx hb dX7_sheet_61 rfl (lv_at hl 0 rfl) ?_
      refine gM_0_17 X K G q_923 dX7_sheet_62 ?_
      refine lv_iload_n hx hb dX7_sheet_65 rfl (lv_at hl 1 rfl) ?_
      refine lv_iload_n hx hb dX7_sheet_66 rfl (lv_at hl 2 rfl) ?_
      obtain ⟨g3, h⟩ := ck_at h
      refine aM_8 X K G g3 dX7_sheet_67 (fun H locs G => ?_)
      obtain ⟨u4, eu4⟩ : ∃ z : MS, z = mu_bits u0 (upd (m_bits u0) v1.toNatClampNeg v2) := ⟨_, rfl⟩
      have G : wg D A s.heap H locs (wM cI ad u4) := by rw [eu4]; exact G
      have h := nm_at eu4 h
      clear eu4
      refine lv_aload_n hx hb dX7_sheet_68 rfl (lv_at hl 0 rfl) ?_
      refine gM_0_18 X K G q_924 dX7_sheet_69 ?_
      refine lv_iload_n hx hb dX7_sheet_72 rfl (lv_at hl 1 rfl) ?_
      refine lv_iload_n hx hb dX7_sheet_73 rfl (lv_at hl 2 rfl) ?_
      refine lv_if_ne (tgt := 81) hx hb dX7_sheet_74 (by decide) (fun c5 => ?_) (fun c5 => ?_)
      · have h := if_at c5 h
        refine lv_iload_n hx hb dX7_sheet_81 rfl (lv_at hl 3 rfl) ?_
        obtain ⟨g6, h⟩ := ck_at h
        refine aM_9 X K G g6 dX7_sheet_82 (fun H locs G => ?_)
        obtain ⟨u7, eu7⟩ : ∃ z : MS, z = mu_size u4 (upd (m_size u4) v1.toNatClampNeg v3) := ⟨_, rfl⟩
        have G : wg D A s.heap H locs (wM cI ad u7) := by rw [eu7]; exact G
        have h := nm_at eu7 h
        clear eu7
        refine lv_iconst (v := 0) hx hb dX7_sheet_83 (by decide) ?_
        refine lv_istore (lv' := [(4, .int (0 : Int32)), (0, .ref (ad 0)), (1, .int v1), (2, .int v2), (3, .int v3)]) hx hb dX7_sheet_84 hl (by decide) rfl (fun ls hl => ?_)
        obtain ⟨q9, hq9, ha, hb1⟩ := bne_at h
        obtain ⟨n8, hn8⟩ := wl_iff.mp hq9
        refine w_X7_sheet_L86_86 X K n8 _ _ _ hn8 G (lv_sub hl [1, 2, 0] rfl) (fun y11 u10 ee H locs ls G hl => ?_) (fun r u1 ee => by obtain ⟨rfl, rfl⟩ := pair_at (ha _ ee); rfl)
        have h := hb1 _ ee
        clear ee ha hb1 hq9 hn8
        have h := nm_at (x := y11) rfl h
        have h := nm_at (x := u10) rfl h
        refine lv_aload_n hx hb dX7_sheet_112 rfl (lv_at hl 0 rfl) ?_
        refine gM_0_18 X K G q_924 dX7_sheet_113 ?_
        refine lv_iload_n hx hb dX7_sheet_116 rfl (lv_at hl 1 rfl) ?_
        obtain ⟨g12, h⟩ := ck_at h
        refine lM_9 X K G g12 dX7_sheet_117 ?_
        obtain ⟨rfl, rfl⟩ := pair_at h
        exact reI X G dX7_sheet_118
      · have h := it_at c5 h
        refine lv_iconst (v := 0) hx hb dX7_sheet_77 (by decide) ?_
        refine lv_goto (tgt := 82) hx hb dX7_sheet_78 (by decide) ?_
        obtain ⟨g13, h⟩ := ck_at h
        refine aM_9 X K G g13 dX7_sheet_82 (fun H locs G => ?_)
        obtain ⟨u14, eu14⟩ : ∃ z : MS, z = mu_size u4 (upd (m_size u4) v1.toNatClampNeg (0 : Int32)) := ⟨_, rfl⟩
        have G : wg D A s.heap H locs (wM cI ad u14) := by rw [eu14]; exact G
        have h := nm_at eu14 h
        clear eu14
        refine lv_iconst (v := 0) hx hb dX7_sheet_83 (by decide) ?_
        refine lv_istore (lv' := [(4, .int (0 : Int32)), (0, .ref (ad 0)), (1, .int v1), (2, .int v2), (3, .int v3)]) hx hb dX7_sheet_84 hl (by decide) rfl (fun ls hl => ?_)
        obtain ⟨q16, hq16, ha, hb1⟩ := bne_at h
        obtain ⟨n15, hn15⟩ := wl_iff.mp hq16
        refine w_X7_sheet_L86_86 X K n15 _ _ _ hn15 G (lv_sub hl [1, 2, 0] rfl) (fun y18 u17 ee H locs ls G hl => ?_) (fun r u1 ee => by obtain ⟨rfl, rfl⟩ := pair_at (ha _ ee); rfl)
        have h := hb1 _ ee
        clear ee ha hb1 hq16 hn15
        have h := nm_at (x := y18) rfl h
        have h := nm_at (x := u17) rfl h
        refine lv_aload_n hx hb dX7_sheet_112 rfl (lv_at hl 0 rfl) ?_
        refine gM_0_18 X K G q_924 dX7_sheet_113 ?_
        refine lv_iload_n hx hb dX7_sheet_116 rfl (lv_at hl 1 rfl) ?_
        obtain ⟨g19, h⟩ := ck_at h
        refine lM_9 X K G g19 dX7_sheet_117 ?_
        obtain ⟨rfl, rfl⟩ := pair_at h
        exact reI X G dX7_sheet_118
    · have h := if_at c2 h
      refine lv_aload_n hx hb dX7_sheet_54 rfl (lv_at hl 0 rfl) ?_
      refine lv_ldc (v := -1000001) hx hb X.2.2.2.1 (X.2.2.2.2.1 _ q_975) dX7_sheet_55 ?_
      obtain ⟨r20, u21, er20, h⟩ := bnd_at h
      refine cvI (rest := []) X K G (c_X7_finds er20) q_976 my_X7_finds ⟨rfl, rfl⟩ ⟨Nat.le_of_ble_eq_true rfl, Nat.le_of_ble_eq_true rfl⟩ ⟨Nat.zero_le _, Nat.zero_le _⟩ 0 7 rfl rfl rfl rfl hl.1 rfl (Nat.le_of_ble_eq_true rfl) dX7_sheet_57 (fun H locs G => ?_)
      clear er20
      obtain ⟨rfl, rfl⟩ := pair_at h
      exact reI X G dX7_sheet_60
  · have h := if_at c1 h
    refine lv_aload_n hx hb dX7_sheet_40 rfl (lv_at hl 0 rfl) ?_
    refine lv_ldcw (v := -1000007) hx hb X.2.2.2.1 (X.2.2.2.2.1 _ q_1341) dX7_sheet_41 ?_
    obtain ⟨r22, u23, er22, h⟩ := bnd_at h
    refine cvI (rest := []) X K G (c_X7_finds er22) q_976 my_X7_finds ⟨rfl, rfl⟩ ⟨Nat.le_of_ble_eq_true rfl, Nat.le_of_ble_eq_true rfl⟩ ⟨Nat.zero_le _, Nat.zero_le _⟩ 0 7 rfl rfl rfl rfl hl.1 rfl (Nat.le_of_ble_eq_true rfl) dX7_sheet_44 (fun H locs G => ?_)
    clear er22
    obtain ⟨rfl, rfl⟩ := pair_at h
    exact reI X G dX7_sheet_47
noncomputable def f_X7_sheet (a1 : Int32) (a2 : Int32) (a3 : Int32) (u0 : MS) : Option (Int32 × MS) :=
  bnd (f_X7_isSheet a1 u0) fun r1 u2 =>
  (if r1 = 0 then
    bnd (f_X7_finds (-1000001 : Int32) u2) fun r4 u5 =>
    some (r4, u5)
  else
    (if a2 = 0 then
      f_X7_sheet_36 a1 a2 a3 u2
    else
      (if a2 = (8 : Int32) then
        f_X7_sheet_36 a1 a2 a3 u2
      else
        (if a2 = (16 : Int32) then
          f_X7_sheet_36 a1 a2 a3 u2
        else
          (if a2 = (32 : Int32) then
            f_X7_sheet_36 a1 a2 a3 u2
          else
            bnd (f_X7_finds (-1000001 : Int32) u2) fun r10 u11 =>
            some (r10, u11))))))
set_option maxRecDepth 100000 in
set_option maxHeartbeats 4000000 in
theorem c_X7_sheet {a1 : Int32} {a2 : Int32} {a3 : Int32} {u0 : MS} {r : Int32} {u' : MS} (h : f_X7_sheet a1 a2 a3 u0 = some (r, u')) : MI l D cI cZ cQ adK adV A yX7_sheet cX7_sheet 5 (some .int) { frames := 2, cells := 0, slots := 0, locals := 45 } [.ref (ad 0), .int a1, .int a2, .int a3] (wM cI ad) u0 r u' := by
  unfold f_X7_sheet at h
  refine entI (by decide) (Nat.le_of_ble_eq_true rfl) (fun p e s m below meth c ls X K G hl => ?_)
  have hl : lv_has ls 5 [(0, .ref (ad 0)), (1, .int a1), (2, .int a2), (3, .int a3)] := hl
  obtain ⟨hx, hb, -⟩ := id X
  generalize hH : s.heap = H at G
  subst hH
  refine lv_iload_n hx hb dX7_sheet_0 rfl (lv_at hl 1 rfl) ?_
  obtain ⟨r1, u2, er1, h⟩ := bnd_at h
  refine csI (rest := []) X K G (c_X7_isSheet er1) q_1337 my_X7_isSheet ⟨rfl, rfl⟩ ⟨Nat.le_of_ble_eq_true rfl, Nat.le_of_ble_eq_true rfl⟩ ⟨Nat.zero_le _, Nat.zero_le _⟩ rfl hl.1 rfl (Nat.le_of_ble_eq_true rfl) dX7_sheet_1 (fun H locs G => ?_)
  clear er1
  refine lv_if_eq (tgt := 29) hx hb dX7_sheet_4 (by decide) (fun c3 => ?_) (fun c3 => ?_)
  · have h := it_at c3 h
    refine lv_aload_n hx hb dX7_sheet_29 rfl (lv_at hl 0 rfl) ?_
    refine lv_ldc (v := -1000001) hx hb X.2.2.2.1 (X.2.2.2.2.1 _ q_975) dX7_sheet_30 ?_
    obtain ⟨r4, u5, er4, h⟩ := bnd_at h
    refine cvI (rest := []) X K G (c_X7_finds er4) q_976 my_X7_finds ⟨rfl, rfl⟩ ⟨Nat.le_of_ble_eq_true rfl, Nat.le_of_ble_eq_true rfl⟩ ⟨Nat.zero_le _, Nat.zero_le _⟩ 0 7 rfl rfl rfl rfl hl.1 rfl (Nat.le_of_ble_eq_true rfl) dX7_sheet_32 (fun H locs G => ?_)
    clear er4
    obtain ⟨rfl, rfl⟩ := pair_at h
    exact reI X G dX7_sheet_35
  · have h := if_at c3 h
    refine lv_iload_n hx hb dX7_sheet_7 rfl (lv_at hl 2 rfl) ?_
    refine lv_if_eq (tgt := 36) hx hb dX7_sheet_8 (by decide) (fun c6 => ?_) (fun c6 => ?_)
    · have h := it_at c6 h
      exact b_X7_sheet_36 X K G (lv_sub hl [0, 1, 2, 3] rfl) h
    · have h := if_at c6 h
      refine lv_iload_n hx hb dX7_sheet_11 rfl (lv_at hl 2 rfl) ?_
      refine lv_bipush (v := 8) hx hb dX7_sheet_12 (by decide) ?_
      refine lv_icmp_eq (tgt := 36) hx hb dX7_sheet_14 (by decide) (fun c7 => ?_) (fun c7 => ?_)
      · have h := it_at c7 h
        exact b_X7_sheet_36 X K G (lv_sub hl [0, 1, 2, 3] rfl) h
      · have h := if_at c7 h
        refine lv_iload_n hx hb dX7_sheet_17 rfl (lv_at hl 2 rfl) ?_
        refine lv_bipush (v := 16) hx hb dX7_sheet_18 (by decide) ?_
        refine lv_icmp_eq (tgt := 36) hx hb dX7_sheet_20 (by decide) (fun c8 => ?_) (fun c8 => ?_)
        · have h := it_at c8 h
          exact b_X7_sheet_36 X K G (lv_sub hl [0, 1, 2, 3] rfl) h
        · have h := if_at c8 h
          refine lv_iload_n hx hb dX7_sheet_23 rfl (lv_at hl 2 rfl) ?_
          refine lv_bipush (v := 32) hx hb dX7_sheet_24 (by decide) ?_
          refine lv_icmp_eq (tgt := 36) hx hb dX7_sheet_26 (by decide) (fun c9 => ?_) (fun c9 => ?_)
          · have h := it_at c9 h
            exact b_X7_sheet_36 X K G (lv_sub hl [0, 1, 2, 3] rfl) h
          · have h := if_at c9 h
            refine lv_aload_n hx hb dX7_sheet_29 rfl (lv_at hl 0 rfl) ?_
            refine lv_ldc (v := -1000001) hx hb X.2.2.2.1 (X.2.2.2.2.1 _ q_975) dX7_sheet_30 ?_
            obtain ⟨r10, u11, er10, h⟩ := bnd_at h
            refine cvI (rest := []) X K G (c_X7_finds er10) q_976 my_X7_finds ⟨rfl, rfl⟩ ⟨Nat.le_of_ble_eq_true rfl, Nat.le_of_ble_eq_true rfl⟩ ⟨Nat.zero_le _, Nat.zero_le _⟩ 0 7 rfl rfl rfl rfl hl.1 rfl (Nat.le_of_ble_eq_true rfl) dX7_sheet_32 (fun H locs G => ?_)
            clear er10
            obtain ⟨rfl, rfl⟩ := pair_at h
            exact reI X G dX7_sheet_35
noncomputable def f_X7_write (a1 : Int32) (a2 : Int32) (a3 : Int32) (u0 : MS) : Option (Int32 × MS) :=
  bnd (f_X7_isSheet a1 u0) fun r1 u2 =>
  (if r1 = 0 then
    bnd (f_X7_finds (-1000001 : Int32) u2) fun r29 u30 =>
    some (r29, u30)
  else
    if a1 < 0 ∨ 4 ≤ a1.toNatClampNeg then none else
    (if ((m_bits u2) a1.toNatClampNeg) = 0 then
      bnd (f_X7_finds (-1000006 : Int32) u2) fun r27 u28 =>
      some (r27, u28)
    else
      if a1 < 0 ∨ 4 ≤ a1.toNatClampNeg then none else
      bnd (f_X7_in (a2.toInt64) (0 : Int64) ((((m_size u2) a1.toNatClampNeg) - (1 : Int32)).toInt64) u2) fun r7 u8 =>
      (if r7 = 0 then
        bnd (f_X7_finds (-1000001 : Int32) u8) fun r25 u26 =>
        some (r25, u26)
      else
        if a1 < 0 ∨ 4 ≤ a1.toNatClampNeg then none else
        (if ((m_bits u8) a1.toNatClampNeg) = (8 : Int32) then
          nmv (a3.toInt8.toInt32) fun x21 =>
          nmv (((40 : Int32) * a1) + a2) fun x22 =>
          if x22 < 0 ∨ 160 ≤ x22.toNatClampNeg then none else
          nmv (mu_number u8 (upd (m_number u8) x22.toNatClampNeg x21)) fun u24 =>
          some ((1 : Int32), u24)
        else
          if a1 < 0 ∨ 4 ≤ a1.toNatClampNeg then none else
          (if ((m_bits u8) a1.toNatClampNeg) = (16 : Int32) then
            nmv (a3.toInt16.toInt32) fun x17 =>
            nmv (((40 : Int32) * a1) + a2) fun x18 =>
            if x18 < 0 ∨ 160 ≤ x18.toNatClampNeg then none else
            nmv (mu_number u8 (upd (m_number u8) x18.toNatClampNeg x17)) fun u20 =>
            some ((1 : Int32), u20)
          else
            nmv (((40 : Int32) * a1) + a2) fun x14 =>
            if x14 < 0 ∨ 160 ≤ x14.toNatClampNeg then none else
            nmv (mu_number u8 (upd (m_number u8) x14.toNatClampNeg a3)) fun u16 =>
            some ((1 : Int32), u16))))))
set_option maxRecDepth 100000 in
set_option maxHeartbeats 4000000 in
theorem c_X7_write {a1 : Int32} {a2 : Int32} {a3 : Int32} {u0 : MS} {r : Int32} {u' : MS} (h : f_X7_write a1 a2 a3 u0 = some (r, u')) : MI l D cI cZ cQ adK adV A yX7_write cX7_write 4 (some .int) { frames := 2, cells := 0, slots := 0, locals := 45 } [.ref (ad 0), .int a1, .int a2, .int a3] (wM cI ad) u0 r u' := by
  unfold f_X7_write at h
  refine entI (by decide) (Nat.le_of_ble_eq_true rfl) (fun p e s m below meth c ls X K G hl => ?_)
  have hl : lv_has ls 4 [(0, .ref (ad 0)), (1, .int a1), (2, .int a2), (3, .int a3)] := hl
  obtain ⟨hx, hb, -⟩ := id X
  generalize hH : s.heap = H at G
  subst hH
  refine lv_iload_n hx hb dX7_write_0 rfl (lv_at hl 1 rfl) ?_
  obtain ⟨r1, u2, er1, h⟩ := bnd_at h
  refine csI (rest := []) X K G (c_X7_isSheet er1) q_1337 my_X7_isSheet ⟨rfl, rfl⟩ ⟨Nat.le_of_ble_eq_true rfl, Nat.le_of_ble_eq_true rfl⟩ ⟨Nat.zero_le _, Nat.zero_le _⟩ rfl hl.1 rfl (Nat.le_of_ble_eq_true rfl) dX7_write_1 (fun H locs G => ?_)
  clear er1
  refine lv_if_ne (tgt := 14) hx hb dX7_write_4 (by decide) (fun c3 => ?_) (fun c3 => ?_)
  · have h := if_at c3 h
    refine lv_aload_n hx hb dX7_write_14 rfl (lv_at hl 0 rfl) ?_
    refine gM_0_17 X K G q_923 dX7_write_15 ?_
    refine lv_iload_n hx hb dX7_write_18 rfl (lv_at hl 1 rfl) ?_
    obtain ⟨g4, h⟩ := ck_at h
    refine lM_8 X K G g4 dX7_write_19 ?_
    refine lv_if_ne (tgt := 31) hx hb dX7_write_20 (by decide) (fun c5 => ?_) (fun c5 => ?_)
    · have h := if_at c5 h
      refine lv_iload_n hx hb dX7_write_31 rfl (lv_at hl 2 rfl) ?_
      refine lv_i2l hx hb dX7_write_32 rfl ?_
      refine lv_lconst (v := 0) hx hb dX7_write_33 (by decide) ?_
      refine lv_aload_n hx hb dX7_write_34 rfl (lv_at hl 0 rfl) ?_
      refine gM_0_18 X K G q_924 dX7_write_35 ?_
      refine lv_iload_n hx hb dX7_write_38 rfl (lv_at hl 1 rfl) ?_
      obtain ⟨g6, h⟩ := ck_at h
      refine lM_9 X K G g6 dX7_write_39 ?_
      refine lv_iconst (v := 1) hx hb dX7_write_40 (by decide) ?_
      refine lv_isub hx hb dX7_write_41 ?_
      refine lv_i2l hx hb dX7_write_42 rfl ?_
      obtain ⟨r7, u8, er7, h⟩ := bnd_at h
      refine csI (rest := []) X K G (c_X7_in er7) q_972 my_X7_in ⟨rfl, rfl⟩ ⟨Nat.le_of_ble_eq_true rfl, Nat.le_of_ble_eq_true rfl⟩ ⟨Nat.zero_le _, Nat.zero_le _⟩ rfl hl.1 rfl (Nat.le_of_ble_eq_true rfl) dX7_write_43 (fun H locs G => ?_)
      clear er7
      refine lv_if_ne (tgt := 56) hx hb dX7_write_46 (by decide) (fun c9 => ?_) (fun c9 => ?_)
      · have h := if_at c9 h
        refine lv_aload_n hx hb dX7_write_56 rfl (lv_at hl 0 rfl) ?_
        refine gM_0_19 X K G q_925 dX7_write_57 ?_
        refine lv_bipush (v := 40) hx hb dX7_write_60 (by decide) ?_
        refine lv_iload_n hx hb dX7_write_62 rfl (lv_at hl 1 rfl) ?_
        refine lv_imul hx hb dX7_write_63 ?_
        refine lv_iload_n hx hb dX7_write_64 rfl (lv_at hl 2 rfl) ?_
        refine lv_iadd hx hb dX7_write_65 ?_
        refine lv_aload_n hx hb dX7_write_66 rfl (lv_at hl 0 rfl) ?_
        refine gM_0_17 X K G q_923 dX7_write_67 ?_
        refine lv_iload_n hx hb dX7_write_70 rfl (lv_at hl 1 rfl) ?_
        obtain ⟨g10, h⟩ := ck_at h
        refine lM_8 X K G g10 dX7_write_71 ?_
        refine lv_bipush (v := 8) hx hb dX7_write_72 (by decide) ?_
        refine lv_icmp_ne (tgt := 82) hx hb dX7_write_74 (by decide) (fun c11 => ?_) (fun c11 => ?_)
        · have h := if_at c11 h
          refine lv_aload_n hx hb dX7_write_82 rfl (lv_at hl 0 rfl) ?_
          refine gM_0_17 X K G q_923 dX7_write_83 ?_
          refine lv_iload_n hx hb dX7_write_86 rfl (lv_at hl 1 rfl) ?_
          obtain ⟨g12, h⟩ := ck_at h
          refine lM_8 X K G g12 dX7_write_87 ?_
          refine lv_bipush (v := 16) hx hb dX7_write_88 (by decide) ?_
          refine lv_icmp_ne (tgt := 98) hx hb dX7_write_90 (by decide) (fun c13 => ?_) (fun c13 => ?_)
          · have h := if_at c13 h
            refine lv_iload_n hx hb dX7_write_98 rfl (lv_at hl 3 rfl) ?_
            refine nm2 (fun x14 ex14 => ?_)
            have h := nm_at ex14 h
            obtain ⟨g15, h⟩ := ck_at h
            refine aM_10 X K G g15 dX7_write_99 (fun H locs G => ?_)
            obtain ⟨u16, eu16⟩ : ∃ z : MS, z = mu_number u8 (upd (m_number u8) x14.toNatClampNeg a3) := ⟨_, rfl⟩
            have G : wg D A s.heap H locs (wM cI ad u16) := by rw [eu16]; exact G
            have h := nm_at eu16 h
            clear eu16
            refine lv_iconst (v := 1) hx hb dX7_write_100 (by decide) ?_
            obtain ⟨rfl, rfl⟩ := pair_at h
            exact reI X G dX7_write_101
          · have h := it_at c13 h
            refine lv_iload_n hx hb dX7_write_93 rfl (lv_at hl 3 rfl) ?_
            refine lv_i2s hx hb dX7_write_94 rfl ?_
            refine lv_goto (tgt := 99) hx hb dX7_write_95 (by decide) ?_
            refine lv_topi (fun x17 ex17 => ?_)
            have h := nm_at ex17 h
            refine nm2 (fun x18 ex18 => ?_)
            have h := nm_at ex18 h
            obtain ⟨g19, h⟩ := ck_at h
            refine aM_10 X K G g19 dX7_write_99 (fun H locs G => ?_)
            obtain ⟨u20, eu20⟩ : ∃ z : MS, z = mu_number u8 (upd (m_number u8) x18.toNatClampNeg x17) := ⟨_, rfl⟩
            have G : wg D A s.heap H locs (wM cI ad u20) := by rw [eu20]; exact G
            have h := nm_at eu20 h
            clear eu20
            refine lv_iconst (v := 1) hx hb dX7_write_100 (by decide) ?_
            obtain ⟨rfl, rfl⟩ := pair_at h
            exact reI X G dX7_write_101
        · have h := it_at c11 h
          refine lv_iload_n hx hb dX7_write_77 rfl (lv_at hl 3 rfl) ?_
          refine lv_i2b hx hb dX7_write_78 rfl ?_
          refine lv_goto (tgt := 99) hx hb dX7_write_79 (by decide) ?_
          refine lv_topi (fun x21 ex21 => ?_)
          have h := nm_at ex21 h
          refine nm2 (fun x22 ex22 => ?_)
          have h := nm_at ex22 h
          obtain ⟨g23, h⟩ := ck_at h
          refine aM_10 X K G g23 dX7_write_99 (fun H locs G => ?_)
          obtain ⟨u24, eu24⟩ : ∃ z : MS, z = mu_number u8 (upd (m_number u8) x22.toNatClampNeg x21) := ⟨_, rfl⟩
          have G : wg D A s.heap H locs (wM cI ad u24) := by rw [eu24]; exact G
          have h := nm_at eu24 h
          clear eu24
          refine lv_iconst (v := 1) hx hb dX7_write_100 (by decide) ?_
          obtain ⟨rfl, rfl⟩ := pair_at h
          exact reI X G dX7_write_101
      · have h := it_at c9 h
        refine lv_aload_n hx hb dX7_write_49 rfl (lv_at hl 0 rfl) ?_
        refine lv_ldc (v := -1000001) hx hb X.2.2.2.1 (X.2.2.2.2.1 _ q_975) dX7_write_50 ?_
        obtain ⟨r25, u26, er25, h⟩ := bnd_at h
        refine cvI (rest := []) X K G (c_X7_finds er25) q_976 my_X7_finds ⟨rfl, rfl⟩ ⟨Nat.le_of_ble_eq_true rfl, Nat.le_of_ble_eq_true rfl⟩ ⟨Nat.zero_le _, Nat.zero_le _⟩ 0 7 rfl rfl rfl rfl hl.1 rfl (Nat.le_of_ble_eq_true rfl) dX7_write_52 (fun H locs G => ?_)
        clear er25
        obtain ⟨rfl, rfl⟩ := pair_at h
        exact reI X G dX7_write_55
    · have h := it_at c5 h
      refine lv_aload_n hx hb dX7_write_23 rfl (lv_at hl 0 rfl) ?_
      refine lv_ldcw (v := -1000006) hx hb X.2.2.2.1 (X.2.2.2.2.1 _ q_1328) dX7_write_24 ?_
      obtain ⟨r27, u28, er27, h⟩ := bnd_at h
      refine cvI (rest := []) X K G (c_X7_finds er27) q_976 my_X7_finds ⟨rfl, rfl⟩ ⟨Nat.le_of_ble_eq_true rfl, Nat.le_of_ble_eq_true rfl⟩ ⟨Nat.zero_le _, Nat.zero_le _⟩ 0 7 rfl rfl rfl rfl hl.1 rfl (Nat.le_of_ble_eq_true rfl) dX7_write_27 (fun H locs G => ?_)
      clear er27
      obtain ⟨rfl, rfl⟩ := pair_at h
      exact reI X G dX7_write_30
  · have h := it_at c3 h
    refine lv_aload_n hx hb dX7_write_7 rfl (lv_at hl 0 rfl) ?_
    refine lv_ldc (v := -1000001) hx hb X.2.2.2.1 (X.2.2.2.2.1 _ q_975) dX7_write_8 ?_
    obtain ⟨r29, u30, er29, h⟩ := bnd_at h
    refine cvI (rest := []) X K G (c_X7_finds er29) q_976 my_X7_finds ⟨rfl, rfl⟩ ⟨Nat.le_of_ble_eq_true rfl, Nat.le_of_ble_eq_true rfl⟩ ⟨Nat.zero_le _, Nat.zero_le _⟩ 0 7 rfl rfl rfl rfl hl.1 rfl (Nat.le_of_ble_eq_true rfl) dX7_write_10 (fun H locs G => ?_)
    clear er29
    obtain ⟨rfl, rfl⟩ := pair_at h
    exact reI X G dX7_write_13
noncomputable def f_X7_copy_L139_163 (v1 : Int32) (v2 : Int32) (v3 : Int32) (v4 : Int32) (v5 : Int32) (v6 : Int32) (v7 : Int32) (k0 : Int32) (u0 : MS) : Option ((Int32 × Int32 × Int32 × Int32 × Int32 × Int32 × Int32 × MS) ⊕ ((Int32 × MS) ⊕ (Int32 × MS))) :=
  nmv ((((40 : Int32) * v1) + v2) + k0) fun x1 =>
  if x1 < 0 ∨ 160 ≤ x1.toNatClampNeg then none else
  nmv ((m_number u0) x1.toNatClampNeg) fun x3 =>
  nmv ((((40 : Int32) * v3) + v4) + k0) fun x4 =>
  if x4 < 0 ∨ 160 ≤ x4.toNatClampNeg then none else
  nmv (mu_number u0 (upd (m_number u0) x4.toNatClampNeg x3)) fun u6 =>
  nmv (v7 + (1 : Int32)) fun x7 =>
  some (.inl (v1, v2, v3, v4, v5, v6, x7, u6))
set_option maxRecDepth 100000 in
set_option maxHeartbeats 4000000 in
theorem b_X7_copy_L139_163 (X : cx p s m args meth c cX7_copy 9 RX7 (some .int)) (K : kx D cI cZ cQ adK adV A s s.heap) {v1 : Int32} {v2 : Int32} {v3 : Int32} {v4 : Int32} {v5 : Int32} {v6 : Int32} {v7 : Int32} {k0 : Int32} {u0 : MS} (G : wg D A s.heap H locs (wM cI ad u0)) (hl : lv_has ls 9 [(0, .ref (ad 0)), (1, .int v1), (2, .int v2), (3, .int v3), (4, .int v4), (5, .int v5), (6, .int v6), (7, .int v7)]) {q : ((Int32 × Int32 × Int32 × Int32 × Int32 × Int32 × Int32 × MS) ⊕ ((Int32 × MS) ⊕ (Int32 × MS)))} (h : f_X7_copy_L139_163 v1 v2 v3 v4 v5 v6 v7 k0 u0 = some q) (hB : ∀ (v1 : Int32) (v2 : Int32) (v3 : Int32) (v4 : Int32) (v5 : Int32) (v6 : Int32) (v7 : Int32) (u : MS), q = .inl (v1, v2, v3, v4, v5, v6, v7, u) → ∀ (H : Heap) (locs : List Loc) (ls : Array Slot), wg D A s.heap H locs (wM cI ad u) → lv_has ls 9 [(0, .ref (ad 0)), (1, .int v1), (2, .int v2), (3, .int v3), (4, .int v4), (5, .int v5), (6, .int v6), (7, .int v7)] → W p l e { frames := 2, cells := 0, slots := 0, locals := 45 } s m args below meth c H locs 0 0 Q (F0 m 139 ls [])) (hX : ∀ (v5 : Int32) (u : MS), q = .inr (.inr (v5, u)) → ∀ (H : Heap) (locs : List Loc) (ls : Array Slot), wg D A s.heap H locs (wM cI ad u) → lv_has ls 9 [(5, .int v5)] → W p l e { frames := 2, cells := 0, slots := 0, locals := 45 } s m args below meth c H locs 0 0 Q (F0 m 200 ls [])) (hR : ∀ (r : Int32) (u : MS), q = .inr (.inl (r, u)) → Q = (qI D A (wM cI ad) below args s r u)) : W p l e { frames := 2, cells := 0, slots := 0, locals := 45 } s m args below meth c H locs 0 0 Q (F0 m 163 ls [.int k0]) := by
  unfold f_X7_copy_L139_163 at h
  obtain ⟨hx, hb, -⟩ := id X
  refine lv_istore (lv' := [(8, .int k0), (0, .ref (ad 0)), (1, .int v1), (2, .int v2), (3, .int v3), (4, .int v4), (5, .int v5), (6, .int v6), (7, .int v7)]) hx hb dX7_copy_163 hl (by decide) rfl (fun ls hl => ?_)
  refine lv_aload_n hx hb dX7_copy_165 rfl (lv_at hl 1 rfl) ?_
  refine gM_0_19 X K G q_925 dX7_copy_166 ?_
  refine lv_bipush (v := 40) hx hb dX7_copy_169 (by decide) ?_
  refine lv_iload_n hx hb dX7_copy_171 rfl (lv_at hl 4 rfl) ?_
  refine lv_imul hx hb dX7_copy_172 ?_
  refine lv_iload hx hb dX7_copy_173 (lv_at hl 5 rfl) ?_
  refine lv_iadd hx hb dX7_copy_175 ?_
  refine lv_iload hx hb dX7_copy_176 (lv_at hl 0 rfl) ?_
  refine lv_iadd hx hb dX7_copy_178 ?_
  refine lv_aload_n hx hb dX7_copy_179 rfl (lv_at hl 1 rfl) ?_
  refine gM_0_19 X K G q_925 dX7_copy_180 ?_
  refine lv_bipush (v := 40) hx hb dX7_copy_183 (by decide) ?_
  refine lv_iload_n hx hb dX7_copy_185 rfl (lv_at hl 2 rfl) ?_
  refine lv_imul hx hb dX7_copy_186 ?_
  refine lv_iload_n hx hb dX7_copy_187 rfl (lv_at hl 3 rfl) ?_
  refine lv_iadd hx hb dX7_copy_188 ?_
  refine lv_iload hx hb dX7_copy_189 (lv_at hl 0 rfl) ?_
  refine lv_iadd hx hb dX7_copy_191 ?_
  refine lv_topi (fun x1 ex1 => ?_)
  have h := nm_at ex1 h
  obtain ⟨g2, h⟩ := ck_at h
  refine lM_10 X K G g2 dX7_copy_192 ?_
  refine lv_topi (fun x3 ex3 => ?_)
  have h := nm_at ex3 h
  refine nm2 (fun x4 ex4 => ?_)
  have h := nm_at ex4 h
  obtain ⟨g5, h⟩ := ck_at h
  refine aM_10 X K G g5 dX7_copy_193 (fun H locs G => ?_)
  obtain ⟨u6, eu6⟩ : ∃ z : MS, z = mu_number u0 (upd (m_number u0) x4.toNatClampNeg x3) := ⟨_, rfl⟩
  have G : wg D A s.heap H locs (wM cI ad u6) := by rw [eu6]; exact G
  have h := nm_at eu6 h
  clear eu6
  obtain ⟨x7, ex7⟩ : ∃ z : Int32, z = v7 + (1 : Int32) := ⟨_, rfl⟩
  have h := nm_at ex7 h
  refine lv_iinc (v := x7) (lv' := [(7, .int x7), (8, .int k0), (0, .ref (ad 0)), (1, .int v1), (2, .int v2), (3, .int v3), (4, .int v4), (5, .int v5), (6, .int v6)]) hx hb dX7_copy_194 hl (k := 8) rfl (by rw [ex7]; rfl) (by decide) rfl (fun ls hl => ?_)
  refine lv_goto (tgt := 139) hx hb dX7_copy_197 (by decide) ?_
  exact hB _ _ _ _ _ _ _ _ (Option.some.inj h).symm _ _ _ G (lv_sub hl [2, 3, 4, 5, 6, 7, 8, 0] rfl)
noncomputable def f_X7_copy_L139_139 (v1 : Int32) (v2 : Int32) (v3 : Int32) (v4 : Int32) (v5 : Int32) (v6 : Int32) (v7 : Int32) (u0 : MS) : Option ((Int32 × Int32 × Int32 × Int32 × Int32 × Int32 × Int32 × MS) ⊕ ((Int32 × MS) ⊕ (Int32 × MS))) :=
  (if v5 ≤ v7 then
    some (.inr (.inr (v5, u0)))
  else
    (if v6 = 0 then
      f_X7_copy_L139_163 v1 v2 v3 v4 v5 v6 v7 v7 u0
    else
      f_X7_copy_L139_163 v1 v2 v3 v4 v5 v6 v7 ((v5 - (1 : Int32)) - v7) u0))
set_option maxRecDepth 100000 in
set_option maxHeartbeats 4000000 in
theorem b_X7_copy_L139_139 (X : cx p s m args meth c cX7_copy 9 RX7 (some .int)) (K : kx D cI cZ cQ adK adV A s s.heap) {v1 : Int32} {v2 : Int32} {v3 : Int32} {v4 : Int32} {v5 : Int32} {v6 : Int32} {v7 : Int32} {u0 : MS} (G : wg D A s.heap H locs (wM cI ad u0)) (hl : lv_has ls 9 [(0, .ref (ad 0)), (1, .int v1), (2, .int v2), (3, .int v3), (4, .int v4), (5, .int v5), (6, .int v6), (7, .int v7)]) {q : ((Int32 × Int32 × Int32 × Int32 × Int32 × Int32 × Int32 × MS) ⊕ ((Int32 × MS) ⊕ (Int32 × MS)))} (h : f_X7_copy_L139_139 v1 v2 v3 v4 v5 v6 v7 u0 = some q) (hB : ∀ (v1 : Int32) (v2 : Int32) (v3 : Int32) (v4 : Int32) (v5 : Int32) (v6 : Int32) (v7 : Int32) (u : MS), q = .inl (v1, v2, v3, v4, v5, v6, v7, u) → ∀ (H : Heap) (locs : List Loc) (ls : Array Slot), wg D A s.heap H locs (wM cI ad u) → lv_has ls 9 [(0, .ref (ad 0)), (1, .int v1), (2, .int v2), (3, .int v3), (4, .int v4), (5, .int v5), (6, .int v6), (7, .int v7)] → W p l e { frames := 2, cells := 0, slots := 0, locals := 45 } s m args below meth c H locs 0 0 Q (F0 m 139 ls [])) (hX : ∀ (v5 : Int32) (u : MS), q = .inr (.inr (v5, u)) → ∀ (H : Heap) (locs : List Loc) (ls : Array Slot), wg D A s.heap H locs (wM cI ad u) → lv_has ls 9 [(5, .int v5)] → W p l e { frames := 2, cells := 0, slots := 0, locals := 45 } s m args below meth c H locs 0 0 Q (F0 m 200 ls [])) (hR : ∀ (r : Int32) (u : MS), q = .inr (.inl (r, u)) → Q = (qI D A (wM cI ad) below args s r u)) : W p l e { frames := 2, cells := 0, slots := 0, locals := 45 } s m args below meth c H locs 0 0 Q (F0 m 139 ls []) := by
  unfold f_X7_copy_L139_139 at h
  obtain ⟨hx, hb, -⟩ := id X
  refine lv_iload hx hb dX7_copy_139 (lv_at hl 7 rfl) ?_
  refine lv_iload hx hb dX7_copy_141 (lv_at hl 5 rfl) ?_
  refine lv_icmp_ge (tgt := 200) hx hb dX7_copy_143 (by decide) (fun c1 => ?_) (fun c1 => ?_)
  · have h := it_at c1 h
    exact hX _ _ (Option.some.inj h).symm _ _ _ G (lv_sub hl [5] rfl)
  · have h := if_at c1 h
    refine lv_iload hx hb dX7_copy_146 (lv_at hl 6 rfl) ?_
    refine lv_if_eq (tgt := 161) hx hb dX7_copy_148 (by decide) (fun c2 => ?_) (fun c2 => ?_)
    · have h := it_at c2 h
      refine lv_iload hx hb dX7_copy_161 (lv_at hl 7 rfl) ?_
      exact b_X7_copy_L139_163 X K G (lv_sub hl [0, 1, 2, 3, 4, 5, 6, 7] rfl) h hB hX hR
    · have h := if_at c2 h
      refine lv_iload hx hb dX7_copy_151 (lv_at hl 5 rfl) ?_
      refine lv_iconst (v := 1) hx hb dX7_copy_153 (by decide) ?_
      refine lv_isub hx hb dX7_copy_154 ?_
      refine lv_iload hx hb dX7_copy_155 (lv_at hl 7 rfl) ?_
      refine lv_isub hx hb dX7_copy_157 ?_
      refine lv_goto (tgt := 163) hx hb dX7_copy_158 (by decide) ?_
      exact b_X7_copy_L139_163 X K G (lv_sub hl [0, 1, 2, 3, 4, 5, 6, 7] rfl) h hB hX hR
noncomputable def f_X7_copy_L139_139s (q : Int32 × Int32 × Int32 × Int32 × Int32 × Int32 × Int32 × MS) : Option ((Int32 × Int32 × Int32 × Int32 × Int32 × Int32 × Int32 × MS) ⊕ ((Int32 × MS) ⊕ (Int32 × MS))) := f_X7_copy_L139_139 q.1 q.2.1 q.2.2.1 q.2.2.2.1 q.2.2.2.2.1 q.2.2.2.2.2.1 q.2.2.2.2.2.2.1 q.2.2.2.2.2.2.2
set_option maxRecDepth 100000 in
set_option maxHeartbeats 4000000 in
theorem w_X7_copy_L139_139 (X : cx p s m args meth c cX7_copy 9 RX7 (some .int)) (K : kx D cI cZ cQ adK adV A s s.heap) {e0 : (Int32 × MS) ⊕ (Int32 × MS)} : ∀ (n : Nat) (v1 : Int32) (v2 : Int32) (v3 : Int32) (v4 : Int32) (v5 : Int32) (v6 : Int32) (v7 : Int32) (u : MS) {H : Heap} {locs : List Loc} {ls : Array Slot}, wh f_X7_copy_L139_139s n (v1, v2, v3, v4, v5, v6, v7, u) = some e0 → wg D A s.heap H locs (wM cI ad u) → lv_has ls 9 [(0, .ref (ad 0)), (1, .int v1), (2, .int v2), (3, .int v3), (4, .int v4), (5, .int v5), (6, .int v6), (7, .int v7)] → (∀ (v5 : Int32) (u : MS), e0 = .inr (v5, u) → ∀ (H : Heap) (locs : List Loc) (ls : Array Slot), wg D A s.heap H locs (wM cI ad u) → lv_has ls 9 [(5, .int v5)] → W p l e { frames := 2, cells := 0, slots := 0, locals := 45 } s m args below meth c H locs 0 0 Q (F0 m 200 ls [])) → (∀ (r : Int32) (u : MS), e0 = .inl (r, u) → Q = (qI D A (wM cI ad) below args s r u)) → W p l e { frames := 2, cells := 0, slots := 0, locals := 45 } s m args below meth c H locs 0 0 Q (F0 m 139 ls []) := by
  intro n
  induction n with
  | zero => intro v1 v2 v3 v4 v5 v6 v7 u H locs ls h; cases h
  | succ n ih =>
    intro v1 v2 v3 v4 v5 v6 v7 u H locs ls h G hl hX hR
    obtain ⟨q, h1, h2, h3⟩ := wh_at h
    exact b_X7_copy_L139_139 X K G hl (show f_X7_copy_L139_139 v1 v2 v3 v4 v5 v6 v7 u = some q from h1) (fun b0 b1 b2 b3 b4 b5 b6 b7 ee H locs ls G hl => ih b0 b1 b2 b3 b4 b5 b6 b7 (h2 _ ee) G hl hX hR) (fun z0 z1 ee => hX z0 z1 (h3 _ ee).symm) (fun r u ee => hR r u (h3 _ ee).symm)
noncomputable def f_X7_copy (a1 : Int32) (a2 : Int32) (a3 : Int32) (a4 : Int32) (a5 : Int32) (u0 : MS) : Option (Int32 × MS) :=
  bnd (f_X7_isSheet a1 u0) fun r1 u2 =>
  (if r1 = 0 then
    bnd (f_X7_finds (-1000001 : Int32) u2) fun r4 u5 =>
    some (r4, u5)
  else
    bnd (f_X7_isSheet a3 u2) fun r6 u7 =>
    (if r6 = 0 then
      bnd (f_X7_finds (-1000001 : Int32) u7) fun r53 u54 =>
      some (r53, u54)
    else
      if a1 < 0 ∨ 4 ≤ a1.toNatClampNeg then none else
      (if ((m_bits u7) a1.toNatClampNeg) = 0 then
        bnd (f_X7_finds (-1000006 : Int32) u7) fun r11 u12 =>
        some (r11, u12)
      else
        if a3 < 0 ∨ 4 ≤ a3.toNatClampNeg then none else
        (if ((m_bits u7) a3.toNatClampNeg) = 0 then
          bnd (f_X7_finds (-1000006 : Int32) u7) fun r51 u52 =>
          some (r51, u52)
        else
          if a1 < 0 ∨ 4 ≤ a1.toNatClampNeg then none else
          if a3 < 0 ∨ 4 ≤ a3.toNatClampNeg then none else
          (if ((m_bits u7) a1.toNatClampNeg) = ((m_bits u7) a3.toNatClampNeg) then
            (if a5 < 0 then
              bnd (f_X7_finds (-1000001 : Int32) u7) fun r19 u20 =>
              some (r19, u20)
            else
              (if a2 < 0 then
                bnd (f_X7_finds (-1000001 : Int32) u7) fun r22 u23 =>
                some (r22, u23)
              else
                (if a4 < 0 then
                  bnd (f_X7_finds (-1000001 : Int32) u7) fun r25 u26 =>
                  some (r25, u26)
                else
                  if a1 < 0 ∨ 4 ≤ a1.toNatClampNeg then none else
                  (if (((m_size u7) a1.toNatClampNeg) - a2) < a5 then
                    bnd (f_X7_finds (-1000001 : Int32) u7) fun r29 u30 =>
                    some (r29, u30)
                  else
                    if a3 < 0 ∨ 4 ≤ a3.toNatClampNeg then none else
                    (if a5 ≤ (((m_size u7) a3.toNatClampNeg) - a4) then
                      (if a1 = a3 then
                        (if a4 ≤ a2 then
                          bne (wl f_X7_copy_L139_139s (a1, a2, a3, a4, a5, (0 : Int32), (0 : Int32), u7)) (fun a => some a) fun b =>
                            nmv b.1 fun y42 =>
                            nmv b.2 fun u41 =>
                            some (y42, u41)
                        else
                          bne (wl f_X7_copy_L139_139s (a1, a2, a3, a4, a5, (1 : Int32), (0 : Int32), u7)) (fun a => some a) fun b =>
                            nmv b.1 fun y46 =>
                            nmv b.2 fun u45 =>
                            some (y46, u45))
                      else
                        bne (wl f_X7_copy_L139_139s (a1, a2, a3, a4, a5, (0 : Int32), (0 : Int32), u7)) (fun a => some a) fun b =>
                          nmv b.1 fun y37 =>
                          nmv b.2 fun u36 =>
                          some (y37, u36))
                    else
                      bnd (f_X7_finds (-1000001 : Int32) u7) fun r47 u48 =>
                      some (r47, u48))))))
          else
            bnd (f_X7_finds (-1000003 : Int32) u7) fun r49 u50 =>
            some (r49, u50))))))
set_option maxRecDepth 100000 in
set_option maxHeartbeats 4000000 in
theorem c_X7_copy {a1 : Int32} {a2 : Int32} {a3 : Int32} {a4 : Int32} {a5 : Int32} {u0 : MS} {r : Int32} {u' : MS} (h : f_X7_copy a1 a2 a3 a4 a5 u0 = some (r, u')) : MI l D cI cZ cQ adK adV A yX7_copy cX7_copy 9 (some .int) { frames := 2, cells := 0, slots := 0, locals := 45 } [.ref (ad 0), .int a1, .int a2, .int a3, .int a4, .int a5] (wM cI ad) u0 r u' := by
  unfold f_X7_copy at h
  refine entI (by decide) (Nat.le_of_ble_eq_true rfl) (fun p e s m below meth c ls X K G hl => ?_)
  have hl : lv_has ls 9 [(0, .ref (ad 0)), (1, .int a1), (2, .int a2), (3, .int a3), (4, .int a4), (5, .int a5)] := hl
  obtain ⟨hx, hb, -⟩ := id X
  generalize hH : s.heap = H at G
  subst hH
  refine lv_iload_n hx hb dX7_copy_0 rfl (lv_at hl 1 rfl) ?_
  obtain ⟨r1, u2, er1, h⟩ := bnd_at h
  refine csI (rest := []) X K G (c_X7_isSheet er1) q_1337 my_X7_isSheet ⟨rfl, rfl⟩ ⟨Nat.le_of_ble_eq_true rfl, Nat.le_of_ble_eq_true rfl⟩ ⟨Nat.zero_le _, Nat.zero_le _⟩ rfl hl.1 rfl (Nat.le_of_ble_eq_true rfl) dX7_copy_1 (fun H locs G => ?_)
  clear er1
  refine lv_if_eq (tgt := 14) hx hb dX7_copy_4 (by decide) (fun c3 => ?_) (fun c3 => ?_)
  · have h := it_at c3 h
    refine lv_aload_n hx hb dX7_copy_14 rfl (lv_at hl 0 rfl) ?_
    refine lv_ldc (v := -1000001) hx hb X.2.2.2.1 (X.2.2.2.2.1 _ q_975) dX7_copy_15 ?_
    obtain ⟨r4, u5, er4, h⟩ := bnd_at h
    refine cvI (rest := []) X K G (c_X7_finds er4) q_976 my_X7_finds ⟨rfl, rfl⟩ ⟨Nat.le_of_ble_eq_true rfl, Nat.le_of_ble_eq_true rfl⟩ ⟨Nat.zero_le _, Nat.zero_le _⟩ 0 7 rfl rfl rfl rfl hl.1 rfl (Nat.le_of_ble_eq_true rfl) dX7_copy_17 (fun H locs G => ?_)
    clear er4
    obtain ⟨rfl, rfl⟩ := pair_at h
    exact reI X G dX7_copy_20
  · have h := if_at c3 h
    refine lv_iload_n hx hb dX7_copy_7 rfl (lv_at hl 3 rfl) ?_
    obtain ⟨r6, u7, er6, h⟩ := bnd_at h
    refine csI (rest := []) X K G (c_X7_isSheet er6) q_1337 my_X7_isSheet ⟨rfl, rfl⟩ ⟨Nat.le_of_ble_eq_true rfl, Nat.le_of_ble_eq_true rfl⟩ ⟨Nat.zero_le _, Nat.zero_le _⟩ rfl hl.1 rfl (Nat.le_of_ble_eq_true rfl) dX7_copy_8 (fun H locs G => ?_)
    clear er6
    refine lv_if_ne (tgt := 21) hx hb dX7_copy_11 (by decide) (fun c8 => ?_) (fun c8 => ?_)
    · have h := if_at c8 h
      refine lv_aload_n hx hb dX7_copy_21 rfl (lv_at hl 0 rfl) ?_
      refine gM_0_17 X K G q_923 dX7_copy_22 ?_
      refine lv_iload_n hx hb dX7_copy_25 rfl (lv_at hl 1 rfl) ?_
      obtain ⟨g9, h⟩ := ck_at h
      refine lM_8 X K G g9 dX7_copy_26 ?_
      refine lv_if_eq (tgt := 39) hx hb dX7_copy_27 (by decide) (fun c10 => ?_) (fun c10 => ?_)
      · have h := it_at c10 h
        refine lv_aload_n hx hb dX7_copy_39 rfl (lv_at hl 0 rfl) ?_
        refine lv_ldcw (v := -1000006) hx hb X.2.2.2.1 (X.2.2.2.2.1 _ q_1328) dX7_copy_40 ?_
        obtain ⟨r11, u12, er11, h⟩ := bnd_at h
        refine cvI (rest := []) X K G (c_X7_finds er11) q_976 my_X7_finds ⟨rfl, rfl⟩ ⟨Nat.le_of_ble_eq_true rfl, Nat.le_of_ble_eq_true rfl⟩ ⟨Nat.zero_le _, Nat.zero_le _⟩ 0 7 rfl rfl rfl rfl hl.1 rfl (Nat.le_of_ble_eq_true rfl) dX7_copy_43 (fun H locs G => ?_)
        clear er11
        obtain ⟨rfl, rfl⟩ := pair_at h
        exact reI X G dX7_copy_46
      · have h := if_at c10 h
        refine lv_aload_n hx hb dX7_copy_30 rfl (lv_at hl 0 rfl) ?_
        refine gM_0_17 X K G q_923 dX7_copy_31 ?_
        refine lv_iload_n hx hb dX7_copy_34 rfl (lv_at hl 3 rfl) ?_
        obtain ⟨g13, h⟩ := ck_at h
        refine lM_8 X K G g13 dX7_copy_35 ?_
        refine lv_if_ne (tgt := 47) hx hb dX7_copy_36 (by decide) (fun c14 => ?_) (fun c14 => ?_)
        · have h := if_at c14 h
          refine lv_aload_n hx hb dX7_copy_47 rfl (lv_at hl 0 rfl) ?_
          refine gM_0_17 X K G q_923 dX7_copy_48 ?_
          refine lv_iload_n hx hb dX7_copy_51 rfl (lv_at hl 1 rfl) ?_
          obtain ⟨g15, h⟩ := ck_at h
          refine lM_8 X K G g15 dX7_copy_52 ?_
          refine lv_aload_n hx hb dX7_copy_53 rfl (lv_at hl 0 rfl) ?_
          refine gM_0_17 X K G q_923 dX7_copy_54 ?_
          refine lv_iload_n hx hb dX7_copy_57 rfl (lv_at hl 3 rfl) ?_
          obtain ⟨g16, h⟩ := ck_at h
          refine lM_8 X K G g16 dX7_copy_58 ?_
          refine lv_icmp_eq (tgt := 70) hx hb dX7_copy_59 (by decide) (fun c17 => ?_) (fun c17 => ?_)
          · have h := it_at c17 h
            refine lv_iload hx hb dX7_copy_70 (lv_at hl 5 rfl) ?_
            refine lv_if_lt (tgt := 111) hx hb dX7_copy_72 (by decide) (fun c18 => ?_) (fun c18 => ?_)
            · have h := it_at c18 h
              refine lv_aload_n hx hb dX7_copy_111 rfl (lv_at hl 0 rfl) ?_
              refine lv_ldc (v := -1000001) hx hb X.2.2.2.1 (X.2.2.2.2.1 _ q_975) dX7_copy_112 ?_
              obtain ⟨r19, u20, er19, h⟩ := bnd_at h
              refine cvI (rest := []) X K G (c_X7_finds er19) q_976 my_X7_finds ⟨rfl, rfl⟩ ⟨Nat.le_of_ble_eq_true rfl, Nat.le_of_ble_eq_true rfl⟩ ⟨Nat.zero_le _, Nat.zero_le _⟩ 0 7 rfl rfl rfl rfl hl.1 rfl (Nat.le_of_ble_eq_true rfl) dX7_copy_114 (fun H locs G => ?_)
              clear er19
              obtain ⟨rfl, rfl⟩ := pair_at h
              exact reI X G dX7_copy_117
            · have h := if_at c18 h
              refine lv_iload_n hx hb dX7_copy_75 rfl (lv_at hl 2 rfl) ?_
              refine lv_if_lt (tgt := 111) hx hb dX7_copy_76 (by decide) (fun c21 => ?_) (fun c21 => ?_)
              · have h := it_at c21 h
                refine lv_aload_n hx hb dX7_copy_111 rfl (lv_at hl 0 rfl) ?_
                refine lv_ldc (v := -1000001) hx hb X.2.2.2.1 (X.2.2.2.2.1 _ q_975) dX7_copy_112 ?_
                obtain ⟨r22, u23, er22, h⟩ := bnd_at h
                refine cvI (rest := []) X K G (c_X7_finds er22) q_976 my_X7_finds ⟨rfl, rfl⟩ ⟨Nat.le_of_ble_eq_true rfl, Nat.le_of_ble_eq_true rfl⟩ ⟨Nat.zero_le _, Nat.zero_le _⟩ 0 7 rfl rfl rfl rfl hl.1 rfl (Nat.le_of_ble_eq_true rfl) dX7_copy_114 (fun H locs G => ?_)
                clear er22
                obtain ⟨rfl, rfl⟩ := pair_at h
                exact reI X G dX7_copy_117
              · have h := if_at c21 h
                refine lv_iload hx hb dX7_copy_79 (lv_at hl 4 rfl) ?_
                refine lv_if_lt (tgt := 111) hx hb dX7_copy_81 (by decide) (fun c24 => ?_) (fun c24 => ?_)
                · have h := it_at c24 h
                  refine lv_aload_n hx hb dX7_copy_111 rfl (lv_at hl 0 rfl) ?_
                  refine lv_ldc (v := -1000001) hx hb X.2.2.2.1 (X.2.2.2.2.1 _ q_975) dX7_copy_112 ?_
                  obtain ⟨r25, u26, er25, h⟩ := bnd_at h
                  refine cvI (rest := []) X K G (c_X7_finds er25) q_976 my_X7_finds ⟨rfl, rfl⟩ ⟨Nat.le_of_ble_eq_true rfl, Nat.le_of_ble_eq_true rfl⟩ ⟨Nat.zero_le _, Nat.zero_le _⟩ 0 7 rfl rfl rfl rfl hl.1 rfl (Nat.le_of_ble_eq_true rfl) dX7_copy_114 (fun H locs G => ?_)
                  clear er25
                  obtain ⟨rfl, rfl⟩ := pair_at h
                  exact reI X G dX7_copy_117
                · have h := if_at c24 h
                  refine lv_iload hx hb dX7_copy_84 (lv_at hl 5 rfl) ?_
                  refine lv_aload_n hx hb dX7_copy_86 rfl (lv_at hl 0 rfl) ?_
                  refine gM_0_18 X K G q_924 dX7_copy_87 ?_
                  refine lv_iload_n hx hb dX7_copy_90 rfl (lv_at hl 1 rfl) ?_
                  obtain ⟨g27, h⟩ := ck_at h
                  refine lM_9 X K G g27 dX7_copy_91 ?_
                  refine lv_iload_n hx hb dX7_copy_92 rfl (lv_at hl 2 rfl) ?_
                  refine lv_isub hx hb dX7_copy_93 ?_
                  refine lv_icmp_gt (tgt := 111) hx hb dX7_copy_94 (by decide) (fun c28 => ?_) (fun c28 => ?_)
                  · have h := it_at c28 h
                    refine lv_aload_n hx hb dX7_copy_111 rfl (lv_at hl 0 rfl) ?_
                    refine lv_ldc (v := -1000001) hx hb X.2.2.2.1 (X.2.2.2.2.1 _ q_975) dX7_copy_112 ?_
                    obtain ⟨r29, u30, er29, h⟩ := bnd_at h
                    refine cvI (rest := []) X K G (c_X7_finds er29) q_976 my_X7_finds ⟨rfl, rfl⟩ ⟨Nat.le_of_ble_eq_true rfl, Nat.le_of_ble_eq_true rfl⟩ ⟨Nat.zero_le _, Nat.zero_le _⟩ 0 7 rfl rfl rfl rfl hl.1 rfl (Nat.le_of_ble_eq_true rfl) dX7_copy_114 (fun H locs G => ?_)
                    clear er29
                    obtain ⟨rfl, rfl⟩ := pair_at h
                    exact reI X G dX7_copy_117
                  · have h := if_at c28 h
                    refine lv_iload hx hb dX7_copy_97 (lv_at hl 5 rfl) ?_
                    refine lv_aload_n hx hb dX7_copy_99 rfl (lv_at hl 0 rfl) ?_
                    refine gM_0_18 X K G q_924 dX7_copy_100 ?_
                    refine lv_iload_n hx hb dX7_copy_103 rfl (lv_at hl 3 rfl) ?_
                    obtain ⟨g31, h⟩ := ck_at h
                    refine lM_9 X K G g31 dX7_copy_104 ?_
                    refine lv_iload hx hb dX7_copy_105 (lv_at hl 4 rfl) ?_
                    refine lv_isub hx hb dX7_copy_107 ?_
                    refine lv_icmp_le (tgt := 118) hx hb dX7_copy_108 (by decide) (fun c32 => ?_) (fun c32 => ?_)
                    · have h := it_at c32 h
                      refine lv_iload_n hx hb dX7_copy_118 rfl (lv_at hl 1 rfl) ?_
                      refine lv_iload_n hx hb dX7_copy_119 rfl (lv_at hl 3 rfl) ?_
                      refine lv_icmp_ne (tgt := 133) hx hb dX7_copy_120 (by decide) (fun c33 => ?_) (fun c33 => ?_)
                      · have h := if_at c33 h
                        refine lv_iconst (v := 0) hx hb dX7_copy_133 (by decide) ?_
                        refine lv_istore (lv' := [(6, .int (0 : Int32)), (0, .ref (ad 0)), (1, .int a1), (2, .int a2), (3, .int a3), (4, .int a4), (5, .int a5)]) hx hb dX7_copy_134 hl (by decide) rfl (fun ls hl => ?_)
                        refine lv_iconst (v := 0) hx hb dX7_copy_136 (by decide) ?_
                        refine lv_istore (lv' := [(7, .int (0 : Int32)), (6, .int (0 : Int32)), (0, .ref (ad 0)), (1, .int a1), (2, .int a2), (3, .int a3), (4, .int a4), (5, .int a5)]) hx hb dX7_copy_137 hl (by decide) rfl (fun ls hl => ?_)
                        obtain ⟨q35, hq35, ha, hb1⟩ := bne_at h
                        obtain ⟨n34, hn34⟩ := wl_iff.mp hq35
                        refine w_X7_copy_L139_139 X K n34 _ _ _ _ _ _ _ _ hn34 G (lv_sub hl [2, 3, 4, 5, 6, 7, 1, 0] rfl) (fun y37 u36 ee H locs ls G hl => ?_) (fun r u1 ee => by obtain ⟨rfl, rfl⟩ := pair_at (ha _ ee); rfl)
                        have h := hb1 _ ee
                        clear ee ha hb1 hq35 hn34
                        have h := nm_at (x := y37) rfl h
                        have h := nm_at (x := u36) rfl h
                        refine lv_iload hx hb dX7_copy_200 (lv_at hl 0 rfl) ?_
                        obtain ⟨rfl, rfl⟩ := pair_at h
                        exact reI X G dX7_copy_202
                      · have h := it_at c33 h
                        refine lv_iload_n hx hb dX7_copy_123 rfl (lv_at hl 2 rfl) ?_
                        refine lv_iload hx hb dX7_copy_124 (lv_at hl 4 rfl) ?_
                        refine lv_icmp_ge (tgt := 133) hx hb dX7_copy_126 (by decide) (fun c38 => ?_) (fun c38 => ?_)
                        · have h := it_at c38 h
                          refine lv_iconst (v := 0) hx hb dX7_copy_133 (by decide) ?_
                          refine lv_istore (lv' := [(6, .int (0 : Int32)), (0, .ref (ad 0)), (1, .int a1), (2, .int a2), (3, .int a3), (4, .int a4), (5, .int a5)]) hx hb dX7_copy_134 hl (by decide) rfl (fun ls hl => ?_)
                          refine lv_iconst (v := 0) hx hb dX7_copy_136 (by decide) ?_
                          refine lv_istore (lv' := [(7, .int (0 : Int32)), (6, .int (0 : Int32)), (0, .ref (ad 0)), (1, .int a1), (2, .int a2), (3, .int a3), (4, .int a4), (5, .int a5)]) hx hb dX7_copy_137 hl (by decide) rfl (fun ls hl => ?_)
                          obtain ⟨q40, hq40, ha, hb1⟩ := bne_at h
                          obtain ⟨n39, hn39⟩ := wl_iff.mp hq40
                          refine w_X7_copy_L139_139 X K n39 _ _ _ _ _ _ _ _ hn39 G (lv_sub hl [2, 3, 4, 5, 6, 7, 1, 0] rfl) (fun y42 u41 ee H locs ls G hl => ?_) (fun r u1 ee => by obtain ⟨rfl, rfl⟩ := pair_at (ha _ ee); rfl)
                          have h := hb1 _ ee
                          clear ee ha hb1 hq40 hn39
                          have h := nm_at (x := y42) rfl h
                          have h := nm_at (x := u41) rfl h
                          refine lv_iload hx hb dX7_copy_200 (lv_at hl 0 rfl) ?_
                          obtain ⟨rfl, rfl⟩ := pair_at h
                          exact reI X G dX7_copy_202
                        · have h := if_at c38 h
                          refine lv_iconst (v := 1) hx hb dX7_copy_129 (by decide) ?_
                          refine lv_goto (tgt := 134) hx hb dX7_copy_130 (by decide) ?_
                          refine lv_istore (lv' := [(6, .int (1 : Int32)), (0, .ref (ad 0)), (1, .int a1), (2, .int a2), (3, .int a3), (4, .int a4), (5, .int a5)]) hx hb dX7_copy_134 hl (by decide) rfl (fun ls hl => ?_)
                          refine lv_iconst (v := 0) hx hb dX7_copy_136 (by decide) ?_
                          refine lv_istore (lv' := [(7, .int (0 : Int32)), (6, .int (1 : Int32)), (0, .ref (ad 0)), (1, .int a1), (2, .int a2), (3, .int a3), (4, .int a4), (5, .int a5)]) hx hb dX7_copy_137 hl (by decide) rfl (fun ls hl => ?_)
                          obtain ⟨q44, hq44, ha, hb1⟩ := bne_at h
                          obtain ⟨n43, hn43⟩ := wl_iff.mp hq44
                          refine w_X7_copy_L139_139 X K n43 _ _ _ _ _ _ _ _ hn43 G (lv_sub hl [2, 3, 4, 5, 6, 7, 1, 0] rfl) (fun y46 u45 ee H locs ls G hl => ?_) (fun r u1 ee => by obtain ⟨rfl, rfl⟩ := pair_at (ha _ ee); rfl)
                          have h := hb1 _ ee
                          clear ee ha hb1 hq44 hn43
                          have h := nm_at (x := y46) rfl h
                          have h := nm_at (x := u45) rfl h
                          refine lv_iload hx hb dX7_copy_200 (lv_at hl 0 rfl) ?_
                          obtain ⟨rfl, rfl⟩ := pair_at h
                          exact reI X G dX7_copy_202
                    · have h := if_at c32 h
                      refine lv_aload_n hx hb dX7_copy_111 rfl (lv_at hl 0 rfl) ?_
                      refine lv_ldc (v := -1000001) hx hb X.2.2.2.1 (X.2.2.2.2.1 _ q_975) dX7_copy_112 ?_
                      obtain ⟨r47, u48, er47, h⟩ := bnd_at h
                      refine cvI (rest := []) X K G (c_X7_finds er47) q_976 my_X7_finds ⟨rfl, rfl⟩ ⟨Nat.le_of_ble_eq_true rfl, Nat.le_of_ble_eq_true rfl⟩ ⟨Nat.zero_le _, Nat.zero_le _⟩ 0 7 rfl rfl rfl rfl hl.1 rfl (Nat.le_of_ble_eq_true rfl) dX7_copy_114 (fun H locs G => ?_)
                      clear er47
                      obtain ⟨rfl, rfl⟩ := pair_at h
                      exact reI X G dX7_copy_117
          · have h := if_at c17 h
            refine lv_aload_n hx hb dX7_copy_62 rfl (lv_at hl 0 rfl) ?_
            refine lv_ldcw (v := -1000003) hx hb X.2.2.2.1 (X.2.2.2.2.1 _ q_1332) dX7_copy_63 ?_
            obtain ⟨r49, u50, er49, h⟩ := bnd_at h
            refine cvI (rest := []) X K G (c_X7_finds er49) q_976 my_X7_finds ⟨rfl, rfl⟩ ⟨Nat.le_of_ble_eq_true rfl, Nat.le_of_ble_eq_true rfl⟩ ⟨Nat.zero_le _, Nat.zero_le _⟩ 0 7 rfl rfl rfl rfl hl.1 rfl (Nat.le_of_ble_eq_true rfl) dX7_copy_66 (fun H locs G => ?_)
            clear er49
            obtain ⟨rfl, rfl⟩ := pair_at h
            exact reI X G dX7_copy_69
        · have h := it_at c14 h
          refine lv_aload_n hx hb dX7_copy_39 rfl (lv_at hl 0 rfl) ?_
          refine lv_ldcw (v := -1000006) hx hb X.2.2.2.1 (X.2.2.2.2.1 _ q_1328) dX7_copy_40 ?_
          obtain ⟨r51, u52, er51, h⟩ := bnd_at h
          refine cvI (rest := []) X K G (c_X7_finds er51) q_976 my_X7_finds ⟨rfl, rfl⟩ ⟨Nat.le_of_ble_eq_true rfl, Nat.le_of_ble_eq_true rfl⟩ ⟨Nat.zero_le _, Nat.zero_le _⟩ 0 7 rfl rfl rfl rfl hl.1 rfl (Nat.le_of_ble_eq_true rfl) dX7_copy_43 (fun H locs G => ?_)
          clear er51
          obtain ⟨rfl, rfl⟩ := pair_at h
          exact reI X G dX7_copy_46
    · have h := it_at c8 h
      refine lv_aload_n hx hb dX7_copy_14 rfl (lv_at hl 0 rfl) ?_
      refine lv_ldc (v := -1000001) hx hb X.2.2.2.1 (X.2.2.2.2.1 _ q_975) dX7_copy_15 ?_
      obtain ⟨r53, u54, er53, h⟩ := bnd_at h
      refine cvI (rest := []) X K G (c_X7_finds er53) q_976 my_X7_finds ⟨rfl, rfl⟩ ⟨Nat.le_of_ble_eq_true rfl, Nat.le_of_ble_eq_true rfl⟩ ⟨Nat.zero_le _, Nat.zero_le _⟩ 0 7 rfl rfl rfl rfl hl.1 rfl (Nat.le_of_ble_eq_true rfl) dX7_copy_17 (fun H locs G => ?_)
      clear er53
      obtain ⟨rfl, rfl⟩ := pair_at h
      exact reI X G dX7_copy_20
noncomputable def f_X7_load_L33_33 (v1 : Int32) (v2 : Int32) (u0 : MS) : Option ((Int32 × Int32 × MS) ⊕ ((Int32 × MS) ⊕ (Int32 × MS))) :=
  if v1 < 0 ∨ 4 ≤ v1.toNatClampNeg then none else
  (if ((m_size u0) v1.toNatClampNeg) ≤ v2 then
    some (.inr (.inr (v2, u0)))
  else
    (if ((m_m u0) (2 : Int32).toNatClampNeg) ≤ v2 then
      some (.inr (.inr (v2, u0)))
    else
      nmv (((40 : Int32) * v1) + v2) fun x4 =>
      if x4 < 0 ∨ 160 ≤ x4.toNatClampNeg then none else
      bnd (f_X7_in (((m_number u0) x4.toNatClampNeg).toInt64) (0 : Int64) (4095 : Int64) u0) fun r6 u7 =>
      (if r6 = 0 then
        some (.inr (.inr (v2, u7)))
      else
        nmv (((40 : Int32) * v1) + v2) fun x9 =>
        if x9 < 0 ∨ 160 ≤ x9.toNatClampNeg then none else
        nmv ((m_number u7) x9.toNatClampNeg) fun x11 =>
        nmv ((6 : Int32) + v2) fun x12 =>
        if x12 < 0 ∨ 247 ≤ x12.toNatClampNeg then none else
        nmv (mu_m u7 (upd (m_m u7) x12.toNatClampNeg x11)) fun u14 =>
        nmv (v2 + (1 : Int32)) fun x15 =>
        some (.inl (v1, x15, u14)))))
set_option maxRecDepth 100000 in
set_option maxHeartbeats 4000000 in
theorem b_X7_load_L33_33 (X : cx p s m args meth c cX7_load 3 RX7 (some .int)) (K : kx D cI cZ cQ adK adV A s s.heap) {v1 : Int32} {v2 : Int32} {u0 : MS} (G : wg D A s.heap H locs (wM cI ad u0)) (hl : lv_has ls 3 [(0, .ref (ad 0)), (1, .int v1), (2, .int v2)]) {q : ((Int32 × Int32 × MS) ⊕ ((Int32 × MS) ⊕ (Int32 × MS)))} (h : f_X7_load_L33_33 v1 v2 u0 = some q) (hB : ∀ (v1 : Int32) (v2 : Int32) (u : MS), q = .inl (v1, v2, u) → ∀ (H : Heap) (locs : List Loc) (ls : Array Slot), wg D A s.heap H locs (wM cI ad u) → lv_has ls 3 [(0, .ref (ad 0)), (1, .int v1), (2, .int v2)] → W p l e { frames := 2, cells := 0, slots := 0, locals := 45 } s m args below meth c H locs 0 0 Q (F0 m 33 ls [])) (hX : ∀ (v2 : Int32) (u : MS), q = .inr (.inr (v2, u)) → ∀ (H : Heap) (locs : List Loc) (ls : Array Slot), wg D A s.heap H locs (wM cI ad u) → lv_has ls 3 [(2, .int v2)] → W p l e { frames := 2, cells := 0, slots := 0, locals := 45 } s m args below meth c H locs 0 0 Q (F0 m 101 ls [])) (hR : ∀ (r : Int32) (u : MS), q = .inr (.inl (r, u)) → Q = (qI D A (wM cI ad) below args s r u)) : W p l e { frames := 2, cells := 0, slots := 0, locals := 45 } s m args below meth c H locs 0 0 Q (F0 m 33 ls []) := by
  unfold f_X7_load_L33_33 at h
  obtain ⟨hx, hb, -⟩ := id X
  refine lv_iload_n hx hb dX7_load_33 rfl (lv_at hl 2 rfl) ?_
  refine lv_aload_n hx hb dX7_load_34 rfl (lv_at hl 0 rfl) ?_
  refine gM_0_18 X K G q_924 dX7_load_35 ?_
  refine lv_iload_n hx hb dX7_load_38 rfl (lv_at hl 1 rfl) ?_
  obtain ⟨g1, h⟩ := ck_at h
  refine lM_9 X K G g1 dX7_load_39 ?_
  refine lv_icmp_ge (tgt := 101) hx hb dX7_load_40 (by decide) (fun c2 => ?_) (fun c2 => ?_)
  · have h := it_at c2 h
    exact hX _ _ (Option.some.inj h).symm _ _ _ G (lv_sub hl [2] rfl)
  · have h := if_at c2 h
    refine lv_iload_n hx hb dX7_load_43 rfl (lv_at hl 2 rfl) ?_
    refine lv_aload_n hx hb dX7_load_44 rfl (lv_at hl 0 rfl) ?_
    refine gM_0_0 X K G q_906 dX7_load_45 ?_
    refine lv_iconst (v := 2) hx hb dX7_load_48 (by decide) ?_
    refine lM_1 X K G (by decide) dX7_load_49 ?_
    refine lv_icmp_ge (tgt := 101) hx hb dX7_load_50 (by decide) (fun c3 => ?_) (fun c3 => ?_)
    · have h := it_at c3 h
      exact hX _ _ (Option.some.inj h).symm _ _ _ G (lv_sub hl [2] rfl)
    · have h := if_at c3 h
      refine lv_aload_n hx hb dX7_load_53 rfl (lv_at hl 0 rfl) ?_
      refine gM_0_19 X K G q_925 dX7_load_54 ?_
      refine lv_bipush (v := 40) hx hb dX7_load_57 (by decide) ?_
      refine lv_iload_n hx hb dX7_load_59 rfl (lv_at hl 1 rfl) ?_
      refine lv_imul hx hb dX7_load_60 ?_
      refine lv_iload_n hx hb dX7_load_61 rfl (lv_at hl 2 rfl) ?_
      refine lv_iadd hx hb dX7_load_62 ?_
      refine lv_topi (fun x4 ex4 => ?_)
      have h := nm_at ex4 h
      obtain ⟨g5, h⟩ := ck_at h
      refine lM_10 X K G g5 dX7_load_63 ?_
      refine lv_i2l hx hb dX7_load_64 rfl ?_
      refine lv_lconst (v := 0) hx hb dX7_load_65 (by decide) ?_
      refine lv_ldc2 (v := 4095) hx hb X.2.2.2.1 (X.2.2.2.2.1 _ q_1075) dX7_load_66 ?_
      obtain ⟨r6, u7, er6, h⟩ := bnd_at h
      refine csI (rest := []) X K G (c_X7_in er6) q_972 my_X7_in ⟨rfl, rfl⟩ ⟨Nat.le_of_ble_eq_true rfl, Nat.le_of_ble_eq_true rfl⟩ ⟨Nat.zero_le _, Nat.zero_le _⟩ rfl hl.1 rfl (Nat.le_of_ble_eq_true rfl) dX7_load_69 (fun H locs G => ?_)
      clear er6
      refine lv_if_eq (tgt := 101) hx hb dX7_load_72 (by decide) (fun c8 => ?_) (fun c8 => ?_)
      · have h := it_at c8 h
        exact hX _ _ (Option.some.inj h).symm _ _ _ G (lv_sub hl [2] rfl)
      · have h := if_at c8 h
        refine lv_aload_n hx hb dX7_load_75 rfl (lv_at hl 0 rfl) ?_
        refine gM_0_0 X K G q_906 dX7_load_76 ?_
        refine lv_bipush (v := 6) hx hb dX7_load_79 (by decide) ?_
        refine lv_iload_n hx hb dX7_load_81 rfl (lv_at hl 2 rfl) ?_
        refine lv_iadd hx hb dX7_load_82 ?_
        refine lv_aload_n hx hb dX7_load_83 rfl (lv_at hl 0 rfl) ?_
        refine gM_0_19 X K G q_925 dX7_load_84 ?_
        refine lv_bipush (v := 40) hx hb dX7_load_87 (by decide) ?_
        refine lv_iload_n hx hb dX7_load_89 rfl (lv_at hl 1 rfl) ?_
        refine lv_imul hx hb dX7_load_90 ?_
        refine lv_iload_n hx hb dX7_load_91 rfl (lv_at hl 2 rfl) ?_
        refine lv_iadd hx hb dX7_load_92 ?_
        refine lv_topi (fun x9 ex9 => ?_)
        have h := nm_at ex9 h
        obtain ⟨g10, h⟩ := ck_at h
        refine lM_10 X K G g10 dX7_load_93 ?_
        refine lv_topi (fun x11 ex11 => ?_)
        have h := nm_at ex11 h
        refine nm2 (fun x12 ex12 => ?_)
        have h := nm_at ex12 h
        obtain ⟨g13, h⟩ := ck_at h
        refine aM_1 X K G g13 dX7_load_94 (fun H locs G => ?_)
        obtain ⟨u14, eu14⟩ : ∃ z : MS, z = mu_m u7 (upd (m_m u7) x12.toNatClampNeg x11) := ⟨_, rfl⟩
        have G : wg D A s.heap H locs (wM cI ad u14) := by rw [eu14]; exact G
        have h := nm_at eu14 h
        clear eu14
        obtain ⟨x15, ex15⟩ : ∃ z : Int32, z = v2 + (1 : Int32) := ⟨_, rfl⟩
        have h := nm_at ex15 h
        refine lv_iinc (v := x15) (lv' := [(2, .int x15), (0, .ref (ad 0)), (1, .int v1)]) hx hb dX7_load_95 hl (k := 2) rfl (by rw [ex15]; rfl) (by decide) rfl (fun ls hl => ?_)
        refine lv_goto (tgt := 33) hx hb dX7_load_98 (by decide) ?_
        exact hB _ _ _ (Option.some.inj h).symm _ _ _ G (lv_sub hl [1, 2, 0] rfl)
noncomputable def f_X7_load_L33_33s (q : Int32 × Int32 × MS) : Option ((Int32 × Int32 × MS) ⊕ ((Int32 × MS) ⊕ (Int32 × MS))) := f_X7_load_L33_33 q.1 q.2.1 q.2.2
set_option maxRecDepth 100000 in
set_option maxHeartbeats 4000000 in
theorem w_X7_load_L33_33 (X : cx p s m args meth c cX7_load 3 RX7 (some .int)) (K : kx D cI cZ cQ adK adV A s s.heap) {e0 : (Int32 × MS) ⊕ (Int32 × MS)} : ∀ (n : Nat) (v1 : Int32) (v2 : Int32) (u : MS) {H : Heap} {locs : List Loc} {ls : Array Slot}, wh f_X7_load_L33_33s n (v1, v2, u) = some e0 → wg D A s.heap H locs (wM cI ad u) → lv_has ls 3 [(0, .ref (ad 0)), (1, .int v1), (2, .int v2)] → (∀ (v2 : Int32) (u : MS), e0 = .inr (v2, u) → ∀ (H : Heap) (locs : List Loc) (ls : Array Slot), wg D A s.heap H locs (wM cI ad u) → lv_has ls 3 [(2, .int v2)] → W p l e { frames := 2, cells := 0, slots := 0, locals := 45 } s m args below meth c H locs 0 0 Q (F0 m 101 ls [])) → (∀ (r : Int32) (u : MS), e0 = .inl (r, u) → Q = (qI D A (wM cI ad) below args s r u)) → W p l e { frames := 2, cells := 0, slots := 0, locals := 45 } s m args below meth c H locs 0 0 Q (F0 m 33 ls []) := by
  intro n
  induction n with
  | zero => intro v1 v2 u H locs ls h; cases h
  | succ n ih =>
    intro v1 v2 u H locs ls h G hl hX hR
    obtain ⟨q, h1, h2, h3⟩ := wh_at h
    exact b_X7_load_L33_33 X K G hl (show f_X7_load_L33_33 v1 v2 u = some q from h1) (fun b0 b1 b2 ee H locs ls G hl => ih b0 b1 b2 (h2 _ ee) G hl hX hR) (fun z0 z1 ee => hX z0 z1 (h3 _ ee).symm) (fun r u ee => hR r u (h3 _ ee).symm)
noncomputable def f_X7_load (a1 : Int32) (u0 : MS) : Option (Int32 × MS) :=
  bnd (f_X7_isSheet a1 u0) fun r1 u2 =>
  (if r1 = 0 then
    bnd (f_X7_finds (-1000001 : Int32) u2) fun r12 u13 =>
    some (r12, u13)
  else
    if a1 < 0 ∨ 4 ≤ a1.toNatClampNeg then none else
    (if ((m_bits u2) a1.toNatClampNeg) = 0 then
      bnd (f_X7_finds (-1000006 : Int32) u2) fun r10 u11 =>
      some (r10, u11)
    else
      bne (wl f_X7_load_L33_33s (a1, (0 : Int32), u2)) (fun a => some a) fun b =>
        nmv b.1 fun y9 =>
        nmv b.2 fun u8 =>
        some (y9, u8)))
set_option maxRecDepth 100000 in
set_option maxHeartbeats 4000000 in
theorem c_X7_load {a1 : Int32} {u0 : MS} {r : Int32} {u' : MS} (h : f_X7_load a1 u0 = some (r, u')) : MI l D cI cZ cQ adK adV A yX7_load cX7_load 3 (some .int) { frames := 2, cells := 0, slots := 0, locals := 45 } [.ref (ad 0), .int a1] (wM cI ad) u0 r u' := by
  unfold f_X7_load at h
  refine entI (by decide) (Nat.le_of_ble_eq_true rfl) (fun p e s m below meth c ls X K G hl => ?_)
  have hl : lv_has ls 3 [(0, .ref (ad 0)), (1, .int a1)] := hl
  obtain ⟨hx, hb, -⟩ := id X
  generalize hH : s.heap = H at G
  subst hH
  refine lv_iload_n hx hb dX7_load_0 rfl (lv_at hl 1 rfl) ?_
  obtain ⟨r1, u2, er1, h⟩ := bnd_at h
  refine csI (rest := []) X K G (c_X7_isSheet er1) q_1337 my_X7_isSheet ⟨rfl, rfl⟩ ⟨Nat.le_of_ble_eq_true rfl, Nat.le_of_ble_eq_true rfl⟩ ⟨Nat.zero_le _, Nat.zero_le _⟩ rfl hl.1 rfl (Nat.le_of_ble_eq_true rfl) dX7_load_1 (fun H locs G => ?_)
  clear er1
  refine lv_if_ne (tgt := 14) hx hb dX7_load_4 (by decide) (fun c3 => ?_) (fun c3 => ?_)
  · have h := if_at c3 h
    refine lv_aload_n hx hb dX7_load_14 rfl (lv_at hl 0 rfl) ?_
    refine gM_0_17 X K G q_923 dX7_load_15 ?_
    refine lv_iload_n hx hb dX7_load_18 rfl (lv_at hl 1 rfl) ?_
    obtain ⟨g4, h⟩ := ck_at h
    refine lM_8 X K G g4 dX7_load_19 ?_
    refine lv_if_ne (tgt := 31) hx hb dX7_load_20 (by decide) (fun c5 => ?_) (fun c5 => ?_)
    · have h := if_at c5 h
      refine lv_iconst (v := 0) hx hb dX7_load_31 (by decide) ?_
      refine lv_istore_n (lv' := [(2, .int (0 : Int32)), (0, .ref (ad 0)), (1, .int a1)]) hx hb dX7_load_32 rfl hl (by decide) rfl (fun ls hl => ?_)
      obtain ⟨q7, hq7, ha, hb1⟩ := bne_at h
      obtain ⟨n6, hn6⟩ := wl_iff.mp hq7
      refine w_X7_load_L33_33 X K n6 _ _ _ hn6 G (lv_sub hl [1, 2, 0] rfl) (fun y9 u8 ee H locs ls G hl => ?_) (fun r u1 ee => by obtain ⟨rfl, rfl⟩ := pair_at (ha _ ee); rfl)
      have h := hb1 _ ee
      clear ee ha hb1 hq7 hn6
      have h := nm_at (x := y9) rfl h
      have h := nm_at (x := u8) rfl h
      refine lv_iload_n hx hb dX7_load_101 rfl (lv_at hl 0 rfl) ?_
      obtain ⟨rfl, rfl⟩ := pair_at h
      exact reI X G dX7_load_102
    · have h := it_at c5 h
      refine lv_aload_n hx hb dX7_load_23 rfl (lv_at hl 0 rfl) ?_
      refine lv_ldcw (v := -1000006) hx hb X.2.2.2.1 (X.2.2.2.2.1 _ q_1328) dX7_load_24 ?_
      obtain ⟨r10, u11, er10, h⟩ := bnd_at h
      refine cvI (rest := []) X K G (c_X7_finds er10) q_976 my_X7_finds ⟨rfl, rfl⟩ ⟨Nat.le_of_ble_eq_true rfl, Nat.le_of_ble_eq_true rfl⟩ ⟨Nat.zero_le _, Nat.zero_le _⟩ 0 7 rfl rfl rfl rfl hl.1 rfl (Nat.le_of_ble_eq_true rfl) dX7_load_27 (fun H locs G => ?_)
      clear er10
      obtain ⟨rfl, rfl⟩ := pair_at h
      exact reI X G dX7_load_30
  · have h := it_at c3 h
    refine lv_aload_n hx hb dX7_load_7 rfl (lv_at hl 0 rfl) ?_
    refine lv_ldc (v := -1000001) hx hb X.2.2.2.1 (X.2.2.2.2.1 _ q_975) dX7_load_8 ?_
    obtain ⟨r12, u13, er12, h⟩ := bnd_at h
    refine cvI (rest := []) X K G (c_X7_finds er12) q_976 my_X7_finds ⟨rfl, rfl⟩ ⟨Nat.le_of_ble_eq_true rfl, Nat.le_of_ble_eq_true rfl⟩ ⟨Nat.zero_le _, Nat.zero_le _⟩ 0 7 rfl rfl rfl rfl hl.1 rfl (Nat.le_of_ble_eq_true rfl) dX7_load_10 (fun H locs G => ?_)
    clear er12
    obtain ⟨rfl, rfl⟩ := pair_at h
    exact reI X G dX7_load_13
end WALK_ref4
