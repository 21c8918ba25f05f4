/-! the item of a thing -/
/-- a town in which thing n stands, of kind k, with i steps so far -/
def Tst (T : TownS) (k : Int32) (n i : Nat) : TownS := uThings (uCounts (uKinds T (upd (tKinds T) n k)) (upd (tCounts T) n (nI i))) (nI (n + 1))
theorem Tst_s (T : TownS) (k : Int32) (n i : Nat) (f : Fn) : uCounts (uNums (Tst T k n i) f) (upd (tCounts (Tst T k n i)) n (nI (i + 1))) = Tst (uNums T f) k n (i + 1) := congrArg (fun c => uThings (uCounts (uKinds (uNums T f) (upd (tKinds T) n k)) c) (nI (n + 1))) (upd_upd (tCounts T) n (nI i) (nI (i + 1)))
theorem m_at0 (u : MS) (t i : Nat) : f_X7_at (nI t) (nI i) 0 u = some (nI (16 + 26 * t + 3 * i), u) := by unfold f_X7_at; rw [ix_at0]
theorem m_at1 (u : MS) (t i : Nat) : f_X7_at (nI t) (nI i) 1 u = some (nI (16 + 26 * t + (3 * i + 1)), u) := by unfold f_X7_at; rw [ix_at1]
theorem m_at2 (u : MS) (t i : Nat) : f_X7_at (nI t) (nI i) 2 u = some (nI (16 + 26 * t + (3 * i + 2)), u) := by unfold f_X7_at; rw [ix_at2]
theorem tz_Tst (m : Fn) (k : Int32) {N : Nat} (hN : N < 8) (i : Nat) : tz (Tst (dc m) k N i) := by
  obtain ⟨h1, h2, h3, h4, h5, h6⟩ := tz_dc m
  refine ⟨h1, ?_, ?_, h4, h5, h6⟩
  · intro j hj
    show upd (tKinds (dc m)) N k j = 0
    rw [upd_n (by omega)]
    exact h2 j hj
  · intro j hj
    show upd (tCounts (dc m)) N (nI i) j = 0
    rw [upd_n (by omega)]
    exact h3 j hj
/-- what holds while a thing's steps are read -/
def thI (m : Fn) (k : Int32) (N K i : Nat) : Prop := tThings (dc m) = nI N ∧ tTools (dc m) = nI K ∧ (i = 0 → tOk (dc m)) ∧ (1 ≤ i → tOk (Tst (dc m) k N i))
theorem thI_s {m : Fn} {k : Int32} {N K i : Nat} (h : thI m k N K i) (hN : N < 8) (hK : K ≤ 8) (hi : i < 8) (hk : 0 ≤ k.toInt ∧ k.toInt ≤ 6) {a b c : Int32} (ha : 0 ≤ a.toInt ∧ a.toInt < K) (hb : 1 ≤ b.toInt ∧ b.toInt ≤ 8) (hc : 0 ≤ c.toInt ∧ c.toInt ≤ 99) : thI (upd (upd (upd m (16 + 26 * N + 3 * i) a) (16 + 26 * N + (3 * i + 1)) b) (16 + 26 * N + (3 * i + 2)) c) k N K (i + 1) := by
  obtain ⟨h1, h2, h3, h4⟩ := h
  have hKi : (nI K).toInt = K := i_nI (by omega)
  have hNi : (nI (N + 1)).toInt = N + 1 := i_nI (by omega)
  unfold thI
  rw [dc_up3 _ hN hi]
  refine ⟨h1, h2, fun q => by omega, fun _ => ?_⟩
  rw [← Tst_s]
  by_cases e : i = 0
  · subst e
    have q := tOk_thing (h3 rfl) h1 hN hk (a := a) (b := b) (c := c) ⟨ha.1, by rw [h2, hKi]; exact ha.2⟩ hb hc
    have e2 : tThing (dc m) N k a b c = uCounts (uNums (Tst (dc m) k N 0) (up3 (tNums (dc m)) (N * 24 + 0 * 3) a b c)) (upd (tCounts (Tst (dc m) k N 0)) N (nI (0 + 1))) := by
      rw [Tst_s]; rfl
    rw [← e2]
    exact q
  · have ok := h4 (by omega)
    have q := tOk_step ok (t := N) (i := i) (a := a) (b := b) (c := c) (by show (N : Int) < (nI (N + 1)).toInt; rw [hNi]; omega) (by show upd (tCounts (dc m)) N (nI i) N = nI i; rw [upd_s]) hi ⟨ha.1, by show a.toInt < (tTools (dc m)).toInt; rw [h2, hKi]; exact ha.2⟩ hb hc
    exact q
section THING
variable {u : XS} {τ : MS} {n : Nat}
theorem x_step1 (ht : tpe u (m_tape τ) n) {q : Nat} (hq : q ≤ n) {T : TownS} {k : Int32} {N K i : Nat} (hK : tTools T = nI K) (hN : N < 8) (hi : i < 8) : f_X4_readStep (nI N) (XP u (m_tape τ) n q (Tst T k N i)) = (if nb (m_tape τ) n q 0 (nI K - 1) then (if nb (m_tape τ) n (tE (m_tape τ) n q) 1 8 then (if wd (m_tape τ) n (tE (m_tape τ) n (tE (m_tape τ) n q)) 4 then (if nb (m_tape τ) n (tE (m_tape τ) n (tE (m_tape τ) n (tE (m_tape τ) n q))) 0 99 then some (1, XP u (m_tape τ) n (tE (m_tape τ) n (tE (m_tape τ) n (tE (m_tape τ) n (tE (m_tape τ) n q)))) (Tst (uNums T (up3 (tNums T) (N * 24 + i * 3) (tV (m_tape τ) n q) (tV (m_tape τ) n (tE (m_tape τ) n q)) (tV (m_tape τ) n (tE (m_tape τ) n (tE (m_tape τ) n (tE (m_tape τ) n q)))))) k N (i + 1))) else some (0, XP u (m_tape τ) n (tE (m_tape τ) n (tE (m_tape τ) n (tE (m_tape τ) n q))) (Tst T k N i))) else some (1, XP u (m_tape τ) n (tE (m_tape τ) n (tE (m_tape τ) n q)) (Tst (uNums T (up3 (tNums T) (N * 24 + i * 3) (tV (m_tape τ) n q) (tV (m_tape τ) n (tE (m_tape τ) n q)) 99)) k N (i + 1)))) else some (0, XP u (m_tape τ) n (tE (m_tape τ) n q) (Tst T k N i))) else some (0, XP u (m_tape τ) n q (Tst T k N i))) := by
  have e1 := (tE_le (B := m_tape τ) hq).2.1
  have e2 := (tE_le (B := m_tape τ) e1).2.1
  have e3 := (tE_le (B := m_tape τ) e2).2.1
  have ea : ∀ q a b c, f_X5_addStep (nI N) a b c (XP u (m_tape τ) n q (Tst T k N i)) = some (nI (i + 1), XP u (m_tape τ) n q (Tst (uNums T (up3 (tNums T) (N * 24 + i * 3) a b c)) k N (i + 1))) := by
    intro q a b c
    have e := x_addStep (u := XP u (m_tape τ) n q (Tst T k N i)) (t := N) (i := i) (n := N + 1) rfl (by omega) (by omega) (by show upd (tCounts T) N (nI i) N = nI i; rw [upd_s]) hi a b c
    rw [e, ← Tst_s]
    rfl
  unfold f_X4_readStep f_X4_readStep_88
  rw [yP_t, show tTools (Tst T k N i) = nI K from hK, x_isNumber, bnd_some]
  by_cases c1 : nb (m_tape τ) n q 0 (nI K - 1)
  · rw [if_pos c1, if_neg (by decide), if_pos c1, yP_x, nmv, x_goB ht hq, bnd_some, x_isNumber, bnd_some]
    by_cases c2 : nb (m_tape τ) n (tE (m_tape τ) n q) 1 8
    · rw [if_pos c2, if_neg (by decide), if_pos c2, yP_x, nmv, x_goB ht e1, bnd_some, x_isWord ht e2 (by omega), bnd_some]
      by_cases c3 : wd (m_tape τ) n (tE (m_tape τ) n (tE (m_tape τ) n q)) 4
      · rw [if_pos c3, if_neg (by decide), if_pos c3, x_goB ht e2, bnd_some, x_isNumber, bnd_some]
        by_cases c4 : nb (m_tape τ) n (tE (m_tape τ) n (tE (m_tape τ) n (tE (m_tape τ) n q))) 0 99
        · rw [if_pos c4, if_neg (by decide), if_pos c4, yP_x, nmv, x_goB ht e3, bnd_some, ea, bnd_some]
          rfl
        · rw [if_neg c4, if_pos rfl, if_neg c4]
      · rw [if_neg c3, if_pos rfl, if_neg c3, ea, bnd_some]
        rfl
    · rw [if_neg c2, if_pos rfl, if_neg c2]
  · rw [if_neg c1, if_pos rfl, if_neg c1]
theorem m_126B (v1 v2 : Int32) {i j : Nat} (hj : j < 247) (w : Int32) {q : Nat} (m : Fn) : f_X7_thingItem_L48_126 v1 v2 (nI i) (nI j) w (MP τ n q m 1) = some (.inl (v1, v2, nI (i + 1), 0, MP τ n q (upd m j w) 1)) := by
  unfold f_X7_thingItem_L48_126
  rw [ck_nI hj (by omega), cl_nI (by omega), mP_m, pM_m, nmv, nI_s1, nmv, m_signB, bnd_some, if_pos rfl, if_pos rfl]
theorem m_126 (hn : m_taped τ = nI n) (hn1 : n ≤ 120) (v1 v2 : Int32) {i j : Nat} (hi : i < 8) (hj : j < 247) (w : Int32) {q : Nat} (hq : q ≤ n) (m : Fn) : f_X7_thingItem_L48_126 v1 v2 (nI i) (nI j) w (MP τ n q m 0) = if tK (m_tape τ) n q = 4 then (if i + 1 = 8 then some (.inl (v1, v2, nI (i + 1), 0, MP τ n q (upd m j w) 1)) else some (.inl (v1, v2, nI (i + 1), 1, MP τ n (tE (m_tape τ) n q) (upd m j w) 0))) else some (.inl (v1, v2, nI (i + 1), 0, MP τ n q (upd m j w) 0)) := by
  unfold f_X7_thingItem_L48_126
  rw [ck_nI hj (by omega), cl_nI (by omega), mP_m, pM_m, nmv, nI_s1, nmv, m_sign hn1 hq 44 kd_4, bnd_some]
  by_cases c : tK (m_tape τ) n q = 4
  · rw [if_pos c, if_neg (by decide), if_pos c]
    by_cases d : i + 1 = 8
    · rw [if_pos (show nI (i + 1) = 8 by rw [d]; rfl), if_pos d, mP_ba, nmv, if_pos rfl]
    · rw [if_neg (show ¬ nI (i + 1) = 8 from fun g => d ((nI_eq (a := i + 1) (b := 8) (by omega) (by omega)).mp g)), if_neg d, if_neg (by decide), m_token hn hn1 (tE_le hq).2.1, bnd_some]
  · rw [if_neg c, if_pos rfl, if_pos rfl, if_neg c]
theorem m_exit (v1 v2 v3 : Int32) (s : MS) : wl f_X7_thingItem_L48_48s (v1, v2, v3, (0 : Int32), s) = some (.inr (v1, v2, v3, s)) := by
  apply wl_out
  show f_X7_thingItem_L48_48 v1 v2 v3 0 s = _
  unfold f_X7_thingItem_L48_48
  rw [if_pos rfl]
set_option maxHeartbeats 1000000 in
theorem it_thingloop (ht : tpe u (m_tape τ) n) (hn : m_taped τ = nI n) (hn1 : n ≤ 120) (k : Int32) {N K : Nat} (hN : N < 8) (hK : K ≤ 8) (hk : 0 ≤ k.toInt ∧ k.toInt ≤ 6) : ∀ f i q m tok st va, i + f = 8 → 1 ≤ f → q ≤ n → thI m k N K i → ∃ q' m' T', q ≤ q' ∧ q' ≤ n ∧ ((∃ c, bne (wl f_X4_readThing_L29_29s (nI N, nI i, yP u (Tst (dc m) k N i) (tok, st, nI q, va))) (fun a => some a) (fun b => nmv b fun u7 => some ((0 : Int32), u7)) = some (0, XP u (m_tape τ) n q' T') ∧ wl f_X7_thingItem_L48_48s (k, nI N, nI i, (1 : Int32), MP τ n q m 0) = some (.inr (k, nI N, c, MP τ n q' m' 1)) ∧ tz T') ∨ ∃ i', bne (wl f_X4_readThing_L29_29s (nI N, nI i, yP u (Tst (dc m) k N i) (tok, st, nI q, va))) (fun a => some a) (fun b => nmv b fun u7 => some ((0 : Int32), u7)) = some (1, XP u (m_tape τ) n q' (Tst (dc m') k N i')) ∧ wl f_X7_thingItem_L48_48s (k, nI N, nI i, (1 : Int32), MP τ n q m 0) = some (.inr (k, nI N, nI i', MP τ n q' m' 0)) ∧ thI m' k N K i' ∧ 1 ≤ i' ∧ i' ≤ 8) := by
  have hE : ∀ {q}, q ≤ n → q ≤ tE (m_tape τ) n q ∧ tE (m_tape τ) n q ≤ n := fun {q} hq => by
    have := tS_le (B := m_tape τ) hq
    have := tE_le (B := m_tape τ) hq
    omega
  intro f
  induction f with
  | zero => intro i q m tok st va _ hf; omega
  | succ f ih =>
    intro i q m tok st va hi hf hq hI
    have hK2 : m 2 = nI K := hI.2.1
    have e1 := hE hq
    have e2 := hE e1.2
    have e3 := hE e2.2
    have e4 := hE e3.2
    have stx : f_X4_readThing_L29_29s (nI N, nI i, yP u (Tst (dc m) k N i) (tok, st, nI q, va)) = f_X4_readThing_L29_29 (nI N) (nI i) (yP u (Tst (dc m) k N i) (tok, st, nI q, va)) := rfl
    have stm : f_X7_thingItem_L48_48s (k, nI N, nI i, (1 : Int32), MP τ n q m 0) = f_X7_thingItem_L48_48 k (nI N) (nI i) 1 (MP τ n q m 0) := rfl
    conv at stx => rhs; unfold f_X4_readThing_L29_29
    conv at stm => rhs; unfold f_X7_thingItem_L48_48
    rw [if_neg (show ¬ (8 : Int32) ≤ nI i from nI_ge (b := 8) (by omega) (by omega)), x_goOn ht _ hq, bnd_some, x_step1 ht hq (T := dc m) hI.2.1 hN (by omega)] at stx
    rw [if_neg (by decide), m_at0, bnd_some, pM_m, l2, hK2, m_numW hn hn1 hq] at stm
    have bx : ∀ q' T', f_X4_readThing_L29_29s (nI N, nI i, yP u (Tst (dc m) k N i) (tok, st, nI q, va)) = some (.inr (.inl (0, XP u (m_tape τ) n q' T'))) → bne (wl f_X4_readThing_L29_29s (nI N, nI i, yP u (Tst (dc m) k N i) (tok, st, nI q, va))) (fun a => some a) (fun b => nmv b fun u7 => some ((0 : Int32), u7)) = some (0, XP u (m_tape τ) n q' T') := by
      intro q' T' h
      rw [wl_out h]; rfl
    have good : ∀ (q' : Nat) (w : Int32), q ≤ q' → q' ≤ n → (0 ≤ w.toInt ∧ w.toInt ≤ 99) → nb (m_tape τ) n q 0 (nI K - 1) → nb (m_tape τ) n (tE (m_tape τ) n q) 1 8 → f_X4_readThing_L29_29s (nI N, nI i, yP u (Tst (dc m) k N i) (tok, st, nI q, va)) = (if tK (m_tape τ) n q' = 4 then some (.inl (nI N, nI (i + 1), XP u (m_tape τ) n q' (Tst (uNums (dc m) (up3 (tNums (dc m)) (N * 24 + i * 3) (tV (m_tape τ) n q) (tV (m_tape τ) n (tE (m_tape τ) n q)) w)) k N (i + 1)))) else some (.inr (.inl (1, XP u (m_tape τ) n q' (Tst (uNums (dc m) (up3 (tNums (dc m)) (N * 24 + i * 3) (tV (m_tape τ) n q) (tV (m_tape τ) n (tE (m_tape τ) n q)) w)) k N (i + 1)))))) → f_X7_thingItem_L48_48s (k, nI N, nI i, (1 : Int32), MP τ n q m 0) = f_X7_thingItem_L48_126 k (nI N) (nI i) (nI (16 + 26 * N + (3 * i + 2))) w (MP τ n q' (upd (upd m (16 + 26 * N + 3 * i) (tV (m_tape τ) n q)) (16 + 26 * N + (3 * i + 1)) (tV (m_tape τ) n (tE (m_tape τ) n q))) 0) → ∃ q' m' T', q ≤ q' ∧ q' ≤ n ∧ ((∃ c, bne (wl f_X4_readThing_L29_29s (nI N, nI i, yP u (Tst (dc m) k N i) (tok, st, nI q, va))) (fun a => some a) (fun b => nmv b fun u7 => some ((0 : Int32), u7)) = some (0, XP u (m_tape τ) n q' T') ∧ wl f_X7_thingItem_L48_48s (k, nI N, nI i, (1 : Int32), MP τ n q m 0) = some (.inr (k, nI N, c, MP τ n q' m' 1)) ∧ tz T') ∨ ∃ i', bne (wl f_X4_readThing_L29_29s (nI N, nI i, yP u (Tst (dc m) k N i) (tok, st, nI q, va))) (fun a => some a) (fun b => nmv b fun u7 => some ((0 : Int32), u7)) = some (1, XP u (m_tape τ) n q' (Tst (dc m') k N i')) ∧ wl f_X7_thingItem_L48_48s (k, nI N, nI i, (1 : Int32), MP τ n q m 0) = some (.inr (k, nI N, nI i', MP τ n q' m' 0)) ∧ thI m' k N K i' ∧ 1 ≤ i' ∧ i' ≤ 8) := by
      intro q' w h1 h2 hw n1 n2 sx sm
      have hA : 0 ≤ (tV (m_tape τ) n q).toInt ∧ (tV (m_tape τ) n q).toInt ≤ (nI K - 1).toInt := n1.2
      rw [le_predI (by omega)] at hA
      have hI2 := thI_s hI hN hK (by omega) hk hA n2.2 hw
      have hdc := dc_up3 m hN (show i < 8 by omega) (tV (m_tape τ) n q) (tV (m_tape τ) n (tE (m_tape τ) n q)) w
      rw [m_126 hn hn1 _ _ (by omega) (by omega) _ h2] at sm
      rw [← hdc] at sx
      by_cases c : tK (m_tape τ) n q' = 4
      · rw [if_pos c] at sx sm
        by_cases d : i + 1 = 8
        · rw [if_pos d] at sm
          have hf0 : f = 0 := by omega
          have sx2 : f_X4_readThing_L29_29s (nI N, nI (i + 1), XP u (m_tape τ) n q' (Tst (dc (upd (upd (upd m (16 + 26 * N + 3 * i) (tV (m_tape τ) n q)) (16 + 26 * N + (3 * i + 1)) (tV (m_tape τ) n (tE (m_tape τ) n q))) (16 + 26 * N + (3 * i + 2)) w)) k N (i + 1))) = some (.inr (.inr (XP u (m_tape τ) n q' (Tst (dc (upd (upd (upd m (16 + 26 * N + 3 * i) (tV (m_tape τ) n q)) (16 + 26 * N + (3 * i + 1)) (tV (m_tape τ) n (tE (m_tape τ) n q))) (16 + 26 * N + (3 * i + 2)) w)) k N (i + 1))))) := by
            show f_X4_readThing_L29_29 (nI N) (nI (i + 1)) (XP u (m_tape τ) n q' (Tst (dc (upd (upd (upd m (16 + 26 * N + 3 * i) (tV (m_tape τ) n q)) (16 + 26 * N + (3 * i + 1)) (tV (m_tape τ) n (tE (m_tape τ) n q))) (16 + 26 * N + (3 * i + 2)) w)) k N (i + 1))) = _
            unfold f_X4_readThing_L29_29
            rw [if_pos (show (8 : Int32) ≤ nI (i + 1) by rw [d]; exact Int32.le_refl _)]
          exact ⟨q', _, _, h1, h2, Or.inl ⟨_, by rw [wl_in sx, wl_out sx2]; rfl, by rw [wl_in sm, m_exit], tz_Tst _ _ hN _⟩⟩
        · rw [if_neg d] at sm
          have hE2 := hE h2
          obtain ⟨q2, m2, T2, g1, g2, g3⟩ := ih (i + 1) (tE (m_tape τ) n q') _ (nI (tK (m_tape τ) n q')) (nI (tS (m_tape τ) n q')) (tV (m_tape τ) n q') (by omega) (by omega) hE2.2 hI2
          rw [wl_in sx, wl_in sm]
          exact ⟨q2, m2, T2, by omega, g2, g3⟩
      · rw [if_neg c] at sx sm
        refine ⟨q', _, dc m, h1, h2, Or.inr ⟨i + 1, ?_, by rw [wl_in sm, m_exit], hI2, by omega, by omega⟩⟩
        rw [wl_out sx]
        rfl
    have fin4 : ∀ (q' : Nat) (T' : TownS), (bnd (some ((1 : Int32), XP u (m_tape τ) n q' T')) fun r4 u5 => (if r4 = 0 then some (Sum.inr (Sum.inl ((0 : Int32), u5))) else (if (r_token (xR u5)) = (4 : Int32) then nmv (nI i + (1 : Int32)) fun x8 => some (Sum.inl (nI N, x8, u5)) else (some (Sum.inr (Sum.inl ((1 : Int32), u5))) : Option ((Int32 × Int32 × XS) ⊕ ((Int32 × XS) ⊕ (XS))))))) = if tK (m_tape τ) n q' = 4 then some (.inl (nI N, nI (i + 1), XP u (m_tape τ) n q' T')) else some (.inr (.inl (1, XP u (m_tape τ) n q' T'))) := by
      intro q' T'
      have h5 := tK_le (m_tape τ) n q'
      rw [bnd_some, if_neg (by decide), yP_x]
      by_cases c : tK (m_tape τ) n q' = 4
      · rw [if_pos (show r_token (rd4 (m_tape τ) n q') = 4 from by show nI (tK (m_tape τ) n q') = 4; rw [c]; rfl), nmv, nI_s1, if_pos c]
      · rw [if_neg (show ¬ r_token (rd4 (m_tape τ) n q') = 4 from fun g => c ((nI_eq (a := tK (m_tape τ) n q') (b := 4) (by omega) (by omega)).mp g)), if_neg c]
    by_cases c1 : nb (m_tape τ) n q 0 (nI K - 1)
    · rw [if_pos c1] at stx
      rw [if_pos c1, bnd_some, ck_nI (by omega) (by omega), cl_nI (by omega), mP_m, nmv, m_at1, bnd_some, m_numW hn hn1 e1.2] at stm
      by_cases c2 : nb (m_tape τ) n (tE (m_tape τ) n q) 1 8
      · rw [if_pos c2] at stx
        rw [if_pos c2, bnd_some, ck_nI (by omega) (by omega), cl_nI (by omega), mP_m, pM_m, nmv, m_at2, bnd_some, m_takes hn hn1 e2.2 (by omega)] at stm
        by_cases c3 : wd (m_tape τ) n (tE (m_tape τ) n (tE (m_tape τ) n q)) 4
        · rw [if_pos c3] at stx
          rw [if_pos c3, bnd_some, if_neg (by decide), m_numW hn hn1 e3.2] at stm
          by_cases c4 : nb (m_tape τ) n (tE (m_tape τ) n (tE (m_tape τ) n (tE (m_tape τ) n q))) 0 99
          · rw [if_pos c4, fin4] at stx
            rw [if_pos c4, bnd_some] at stm
            exact good _ _ (by omega) e4.2 c4.2 c1 c2 stx stm
          · rw [if_neg c4, bnd_some, if_pos rfl] at stx
            rw [if_neg c4, bnd_some, m_126B _ _ (by omega)] at stm
            exact ⟨_, _, _, by omega, e3.2, Or.inl ⟨_, bx _ _ stx, by rw [wl_in stm, m_exit], tz_Tst _ _ hN _⟩⟩
        · rw [if_neg c3, fin4] at stx
          rw [if_neg c3, bnd_some, if_pos rfl] at stm
          exact good _ _ (by omega) e2.2 ⟨by decide, by decide⟩ c1 c2 stx stm
      · rw [if_neg c2, bnd_some, if_pos rfl] at stx
        rw [if_neg c2, bnd_some, ck_nI (by omega) (by omega), cl_nI (by omega), mP_m, nmv, m_at2, bnd_some, m_takesB, bnd_some, if_pos rfl, m_126B _ _ (by omega)] at stm
        exact ⟨_, _, _, by omega, e1.2, Or.inl ⟨_, bx _ _ stx, by rw [wl_in stm, m_exit], tz_Tst _ _ hN _⟩⟩
    · rw [if_neg c1, bnd_some, if_pos rfl] at stx
      rw [if_neg c1, bnd_some, ck_nI (by omega) (by omega), cl_nI (by omega), mP_m, nmv, m_at1, bnd_some, m_numberB, bnd_some, ck_nI (by omega) (by omega), cl_nI (by omega), mP_m, nmv, m_at2, bnd_some, m_takesB, bnd_some, if_pos rfl, m_126B _ _ (by omega)] at stm
      exact ⟨_, _, _, Nat.le_refl _, hq, Or.inl ⟨_, bx _ _ stx, by rw [wl_in stm, m_exit], tz_Tst _ _ hN _⟩⟩
theorem it_thing (ht : tpe u (m_tape τ) n) (hn : m_taped τ = nI n) (hn1 : n ≤ 120) {p : Nat} (hp : p ≤ n) {m : Fn} (ok : tOk (dc m)) (k : Int32) (hk6 : k.toInt ≤ 6) : ItO u τ n p (f_X4_readThing k (XP u (m_tape τ) n p (dc m))) (f_X7_thingItem k (MP τ n p m 0)) := by
  have e1 := tS_le (B := m_tape τ) hp
  have e2 := tE_le (B := m_tape τ) hp
  have o3 := ok.2.2.1
  have o4 := ok.2.2.2.1
  obtain ⟨K, hK, hK1, -⟩ := i_ex (x := tTools (dc m)) (by omega)
  obtain ⟨N, hN, hN1, -⟩ := i_ex (x := tThings (dc m)) (by omega)
  have hNm : m 3 = nI N := hN
  have bad : f_X7_thingItem_21 k 1 (MP τ n p m 0) = some (0, MP τ n p m 1) := by
    unfold f_X7_thingItem_21
    rw [if_neg (by decide), mP_ba, nmv, pM_ba, if_neg (by decide)]
  unfold f_X4_readThing f_X7_thingItem
  by_cases c0 : k < 0
  · rw [if_pos c0, if_pos c0, bad]
    exact ⟨p, dc m, m, Nat.le_refl _, hp, Or.inl ⟨rfl, rfl, tz_dc _⟩⟩
  · rw [if_neg c0, if_neg c0, yP_t, hN, pM_m, l3, hNm]
    by_cases c : N = 8
    · rw [if_neg (show ¬ nI N < (8 : Int32) from nI_nlt (a := N) (b := 8) (by omega) (by omega)), if_pos (show nI N = 8 by rw [c]; rfl), bad]
      exact ⟨p, dc m, m, Nat.le_refl _, hp, Or.inl ⟨rfl, rfl, tz_dc _⟩⟩
    · have h8 : N < 8 := by omega
      have hk : 0 ≤ k.toInt ∧ k.toInt ≤ 6 := by
        rw [i_lt] at c0
        simp only [Int32.reduceToInt] at c0
        omega
      have ea : f_X5_addThing k (XP u (m_tape τ) n p (dc m)) = some (nI N, XP u (m_tape τ) n p (Tst (dc m) k N 0)) := x_addThing (u := XP u (m_tape τ) n p (dc m)) hN h8 k
      rw [if_pos (show nI N < (8 : Int32) from nI_lt (b := 8) h8 (by omega)), if_neg (show ¬ nI N = 8 from fun g => c ((nI_eq (a := N) (b := 8) (by omega) (by omega)).mp g)), ea, bnd_some]
      unfold f_X7_thingItem_21
      rw [if_neg (by decide), mP_ba, nmv, pM_ba, if_pos rfl, m_token hn hn1 e2.2.1, bnd_some, pM_m, l3, hNm, nmv]
      have fin : ∀ (m' : Fn) (cnt : Int32) (q' : Nat) (b : Int32), (nmv ((14 : Int32) + ((26 : Int32) * nI N)) fun x13 => if x13 < 0 ∨ 247 ≤ x13.toNatClampNeg then none else nmv (mu_m (MP τ n q' m' b) (upd (m_m (MP τ n q' m' b)) x13.toNatClampNeg k)) fun u15 => nmv (((14 : Int32) + ((26 : Int32) * nI N)) + (1 : Int32)) fun x16 => if x16 < 0 ∨ 247 ≤ x16.toNatClampNeg then none else nmv (mu_m u15 (upd (m_m u15) x16.toNatClampNeg cnt)) fun u18 => nmv (((m_m u18) 3) + (1 : Int32)) fun x19 => nmv (mu_m u18 (upd (m_m u18) 3 x19)) fun u20 => some ((0 : Int32), u20)) = some (0, MP τ n q' (upd (upd (upd m' (14 + 26 * N) k) (15 + 26 * N) cnt) 3 (m' 3 + 1)) b) := by
        intro m' cnt q' b
        rw [ix_count, ix_kind, nmv, ck_nI (by omega) (by omega), cl_nI (by omega), mP_m, pM_m, nmv, nmv, ck_nI (by omega) (by omega), cl_nI (by omega), mP_m, pM_m, nmv, pM_m, upd_n (show 3 ≠ 15 + 26 * N by omega), upd_n (show 3 ≠ 14 + 26 * N by omega), nmv, mP_m, nmv]
      obtain ⟨q', m', T', g1, g2, ⟨cc, a1, a2, a6⟩ | ⟨i', a1, a2, a3, a4, a5⟩⟩ := it_thingloop ht hn hn1 k h8 (K := K) (by omega) hk 8 0 (tE (m_tape τ) n p) m (nI (tK (m_tape τ) n p)) (nI (tS (m_tape τ) n p)) (tV (m_tape τ) n p) (by omega) (by omega) e2.2.1 ⟨hN, hK, fun _ => ok, fun h => by omega⟩
      · refine ⟨q', T', upd (upd (upd m' (14 + 26 * N) k) (15 + 26 * N) cc) 3 (m' 3 + 1), by omega, g2, Or.inl ⟨a1, ?_, a6⟩⟩
        have a2' : wl f_X7_thingItem_L48_48s (k, nI N, (0 : Int32), (1 : Int32), MP τ n (tE (m_tape τ) n p) m 0) = some (.inr (k, nI N, cc, MP τ n q' m' 1)) := a2
        rw [a2']
        exact fin m' cc q' 1
      · refine ⟨q', Tst (dc m') k N i', upd (upd (upd m' (14 + 26 * N) k) (15 + 26 * N) (nI i')) 3 (m' 3 + 1), by omega, g2, Or.inr (Or.inl ⟨a1, ?_, ?_, a3.2.2.2 a4⟩)⟩
        · have a2' : wl f_X7_thingItem_L48_48s (k, nI N, (0 : Int32), (1 : Int32), MP τ n (tE (m_tape τ) n p) m 0) = some (.inr (k, nI N, nI i', MP τ n q' m' 0)) := a2
          rw [a2']
          exact fin m' (nI i') q' 0
        · have h3 : m' 3 = nI N := a3.1
          rw [h3, nI_s1, dc_3, dc_counts _ h8, dc_kinds _ h8]
          rfl
end THING
