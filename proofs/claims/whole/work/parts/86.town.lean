/-! town -/
section TEXT
variable {u : XS} {τ : MS} {n : Nat}
theorem ItO.ck {p : Nat} {x : Option (Int32 × XS)} {y : Option (Int32 × MS)} (h : ItO u τ n p x y) : ItO u τ n p (bnd x fun r s => if ¬ (r = 0 ∨ r = 1) then none else some (r, s)) y := by
  obtain ⟨q, T', m', h1, h2, ⟨a, b⟩ | ⟨a, b⟩ | ⟨a, b⟩⟩ := h
  · exact ⟨q, T', m', h1, h2, Or.inl ⟨by rw [a]; rfl, b⟩⟩
  · exact ⟨q, T', m', h1, h2, Or.inr (Or.inl ⟨by rw [a]; rfl, b⟩)⟩
  · exact ⟨q, T', m', h1, h2, Or.inr (Or.inr ⟨by rw [a]; rfl, b⟩)⟩
theorem ItO.y0 {p : Nat} {x : Option (Int32 × XS)} {y : Option (Int32 × MS)} (h : ItO u τ n p x y) : ItO u τ n p x (bnd y fun _ s => some ((0 : Int32), s)) := by
  obtain ⟨q, T', m', h1, h2, ⟨a, b, c⟩ | ⟨a, b, c⟩ | ⟨a, b, c⟩⟩ := h
  · exact ⟨q, T', m', h1, h2, Or.inl ⟨a, by rw [b]; rfl, c⟩⟩
  · exact ⟨q, T', m', h1, h2, Or.inr (Or.inl ⟨a, by rw [b]; rfl, c⟩)⟩
  · exact ⟨q, T', m', h1, h2, Or.inr (Or.inr ⟨a, by rw [b]; rfl, c⟩)⟩
theorem kw_le (B : Fn) (n p : Nat) : (kw B n p).toInt ≤ 6 := by
  unfold kw
  split
  · decide
  · split
    · decide
    · split
      · decide
      · split
        · decide
        · split
          · decide
          · split
            · decide
            · split <;> decide
theorem kw_no {B : Fn} {n p : Nat} (h : ∀ j, ¬ wd B n p j) : kw B n p = -1 := by
  unfold kw
  rw [if_neg (h 13), if_neg (h 7), if_neg (h 8), if_neg (h 9), if_neg (h 10), if_neg (h 11), if_neg (h 12)]
theorem it_item (ht : tpe u (m_tape τ) n) (hn : m_taped τ = nI n) (hn1 : n ≤ 120) {p : Nat} (hp : p ≤ n) {m : Fn} (ok : tOk (dc m)) : ItO u τ n p (f_X4_readItem (XP u (m_tape τ) n p (dc m))) (f_X7_item (MP τ n p m 0)) := by
  have h5 := tK_le (m_tape τ) n p
  unfold f_X4_readItem f_X7_item
  rw [yP_x, m_takes hn hn1 hp (by omega)]
  by_cases c : tK (m_tape τ) n p = 1
  · rw [if_pos (show r_token (rd4 (m_tape τ) n p) = 1 from by show nI (tK (m_tape τ) n p) = 1; rw [c]; rfl), x_isWord ht hp (by omega), bnd_some]
    by_cases c0 : wd (m_tape τ) n p 0
    · rw [if_pos c0, if_pos c0, if_neg (by decide), bnd_some, if_neg (by decide)]
      exact (it_round ht hn hn1 hp ok).ck
    · rw [if_neg c0, if_neg c0, if_pos rfl, bnd_some, if_pos rfl, x_isWord ht hp (by omega), bnd_some, m_takes hn hn1 hp (by omega)]
      by_cases c1 : wd (m_tape τ) n p 1
      · rw [if_pos c1, if_pos c1, if_neg (by decide), bnd_some, if_neg (by decide)]
        exact (it_near ht hn hn1 hp ok).ck
      · rw [if_neg c1, if_neg c1, if_pos rfl, bnd_some, if_pos rfl, x_isWord ht hp (by omega), bnd_some, m_isWord hn1 hp (by omega), bnd_some]
        by_cases c2 : wd (m_tape τ) n p 2
        · rw [if_pos c2, if_neg (by decide), if_neg (by decide)]
          exact (it_tool ht hn hn1 hp ok).ck.y0
        · rw [if_neg c2, if_pos rfl, if_pos rfl, x_isWord ht hp (by omega), bnd_some, m_isWord hn1 hp (by omega), bnd_some]
          by_cases c3 : wd (m_tape τ) n p 3
          · rw [if_pos c3, if_neg (by decide), if_neg (by decide)]
            exact (it_order ht hn hn1 hp ok).ck.y0
          · rw [if_neg c3, if_pos rfl, if_pos rfl, x_kind ht hp, bnd_some, m_kind hn1 hp, bnd_some]
            exact (it_thing ht hn hn1 hp ok _ (kw_le _ _ _)).ck.y0
  · have hw : ∀ j, ¬ wd (m_tape τ) n p j := fun j g => c g.1
    rw [if_neg (show ¬ r_token (rd4 (m_tape τ) n p) = 1 from fun g => c ((nI_eq (a := tK (m_tape τ) n p) (b := 1) (by omega) (by omega)).mp g)), if_neg (hw 0), bnd_some, if_pos rfl, m_takes hn hn1 hp (by omega), if_neg (hw 1), bnd_some, if_pos rfl, m_isWord hn1 hp (by omega), bnd_some, if_neg (hw 2), if_pos rfl, m_isWord hn1 hp (by omega), bnd_some, if_neg (hw 3), if_pos rfl, m_kind hn1 hp, bnd_some, kw_no hw]
    have bad : f_X7_thingItem (-1) (MP τ n p m 0) = some (0, MP τ n p m 1) := by
      unfold f_X7_thingItem f_X7_thingItem_21
      rw [if_pos (by decide), if_neg (by decide), mP_ba, nmv, pM_ba, if_neg (by decide)]
    rw [bad, bnd_some]
    exact ⟨p, dc m, m, Nat.le_refl _, hp, Or.inl ⟨rfl, rfl, tz_dc _⟩⟩
/-- items, one behind another -/
theorem text_loop (ht : tpe u (m_tape τ) n) (hn : m_taped τ = nI n) (hn1 : n ≤ 120) : ∀ f p k m tok st va, n - p ≤ f → p ≤ n → k ≤ p → tOk (dc m) → ∃ q T' m', q ≤ n ∧ ((∃ c b, bne (wl f_X4_readText_L9_9s (nI k, nI k, yP u (dc m) (tok, st, nI p, va))) (fun a => some a) (fun b => nmv b fun u4 => some ((-1 : Int32) - (r_start (xR u4)), u4)) = some (-1 - nI (tS (m_tape τ) n q), XP u (m_tape τ) n q T') ∧ wl f_X7_town_L45_45s (nI k, (1 : Int32), MP τ n p m 0) = some (.inr (c, MP τ n q m' b)) ∧ (b = 1 ∨ (b = 0 ∧ tK (m_tape τ) n q ≠ 0)) ∧ tz T') ∨ (∃ j, j ≤ 200 ∧ bne (wl f_X4_readText_L9_9s (nI k, nI k, yP u (dc m) (tok, st, nI p, va))) (fun a => some a) (fun b => nmv b fun u4 => some ((-1 : Int32) - (r_start (xR u4)), u4)) = some (nI j, XP u (m_tape τ) n q (dc m')) ∧ wl f_X7_town_L45_45s (nI k, (1 : Int32), MP τ n p m 0) = some (.inr (nI j, MP τ n q m' 0)) ∧ tK (m_tape τ) n q = 0 ∧ tOk (dc m'))) := by
  intro f
  induction f with
  | zero =>
    intro p k m tok st va hf hp hk ok
    have hps := tS_le (B := m_tape τ) hp
    have hK : tK (m_tape τ) n p = 0 := kd_0.mpr (by omega)
    have hw : ∀ j, ¬ wd (m_tape τ) n p j := fun j g => by have := g.1; omega
    have stx : f_X4_readText_L9_9s (nI k, nI k, yP u (dc m) (tok, st, nI p, va)) = f_X4_readText_L9_9 (nI k) (nI k) (yP u (dc m) (tok, st, nI p, va)) := rfl
    have stm : f_X7_town_L45_45s (nI k, (1 : Int32), MP τ n p m 0) = f_X7_town_L45_45 (nI k) 1 (MP τ n p m 0) := rfl
    conv at stx => rhs; unfold f_X4_readText_L9_9
    conv at stm => rhs; unfold f_X7_town_L45_45
    have hx : f_X4_readItem (XP u (m_tape τ) n p (dc m)) = some (0, XP u (m_tape τ) n p (dc m)) := by
      unfold f_X4_readItem
      rw [yP_x, if_neg (show ¬ r_token (rd4 (m_tape τ) n p) = 1 from by show ¬ nI (tK (m_tape τ) n p) = 1; rw [hK]; decide)]
    have hy : f_X7_item (MP τ n p m 0) = some (0, MP τ n p m 1) := by
      have bad : f_X7_thingItem (-1) (MP τ n p m 0) = some (0, MP τ n p m 1) := by
        unfold f_X7_thingItem f_X7_thingItem_21
        rw [if_pos (by decide), if_neg (by decide), mP_ba, nmv, pM_ba, if_neg (by decide)]
      unfold f_X7_item
      rw [m_takes hn hn1 hp (by omega), if_neg (hw 0), bnd_some, if_pos rfl, m_takes hn hn1 hp (by omega), if_neg (hw 1), bnd_some, if_pos rfl, m_isWord hn1 hp (by omega), bnd_some, if_neg (hw 2), if_pos rfl, m_isWord hn1 hp (by omega), bnd_some, if_neg (hw 3), if_pos rfl, m_kind hn1 hp, bnd_some, kw_no hw, bad, bnd_some]
    rw [if_neg (show ¬ (120 : Int32) < nI k from nI_nlt (a := 120) (by omega) (by omega)), x_goOn ht _ hp, bnd_some, hx, bnd_some, if_pos rfl] at stx
    rw [if_neg (by decide), hy, bnd_some, nmv, m_signB, bnd_some, if_pos rfl] at stm
    refine ⟨p, dc m, m, hp, Or.inl ⟨nI k + 1, 1, ?_, ?_, Or.inl rfl, tz_dc _⟩⟩
    · rw [wl_out stx]; rfl
    · rw [wl_in stm]
      apply wl_out
      show f_X7_town_L45_45 (nI k + 1) 0 (MP τ n p m 1) = _
      unfold f_X7_town_L45_45
      rw [if_pos rfl]
  | succ f ih =>
    intro p k m tok st va hf hp hk ok
    have ex0 : ∀ v s, wl f_X7_town_L45_45s (v, (0 : Int32), s) = some (.inr (v, s)) := by
      intro v s
      apply wl_out
      show f_X7_town_L45_45 v 0 s = _
      unfold f_X7_town_L45_45
      rw [if_pos rfl]
    have stx : f_X4_readText_L9_9s (nI k, nI k, yP u (dc m) (tok, st, nI p, va)) = f_X4_readText_L9_9 (nI k) (nI k) (yP u (dc m) (tok, st, nI p, va)) := rfl
    have stm : f_X7_town_L45_45s (nI k, (1 : Int32), MP τ n p m 0) = f_X7_town_L45_45 (nI k) 1 (MP τ n p m 0) := rfl
    conv at stx => rhs; unfold f_X4_readText_L9_9
    conv at stm => rhs; unfold f_X7_town_L45_45
    rw [if_neg (show ¬ (120 : Int32) < nI k from nI_nlt (a := 120) (by omega) (by omega)), x_goOn ht _ hp, bnd_some] at stx
    rw [if_neg (by decide)] at stm
    obtain ⟨q, T', m', h1, h2, ⟨a, b, d⟩ | ⟨a, b, d, g⟩ | ⟨a, b, d, g⟩⟩ := it_item ht hn hn1 hp ok
    · rw [a, bnd_some, if_pos rfl] at stx
      rw [b, bnd_some, nmv, m_signB, bnd_some, if_pos rfl] at stm
      refine ⟨q, T', m', h2, Or.inl ⟨nI k + 1, 1, ?_, ?_, Or.inl rfl, d⟩⟩
      · rw [wl_out stx]; rfl
      · rw [wl_in stm, ex0]
    · have hq5 := tK_le (m_tape τ) n q
      have hqs := tS_le (B := m_tape τ) h2
      have hqe := tE_le (B := m_tape τ) h2
      subst d
      rw [a, bnd_some, if_neg (by decide), nmv, nI_s1, yP_x] at stx
      rw [b, bnd_some, nmv, nI_s1, m_sign hn1 h2 59 kd_3, bnd_some] at stm
      by_cases c0 : tK (m_tape τ) n q = 0
      · rw [if_pos (show r_token (rd4 (m_tape τ) n q) = 0 from by show nI (tK (m_tape τ) n q) = 0; rw [c0]; rfl)] at stx
        rw [if_neg (show ¬ tK (m_tape τ) n q = 3 by omega), if_pos rfl] at stm
        refine ⟨q, dc m', m', h2, Or.inr ⟨k + 1, by omega, ?_, ?_, c0, g⟩⟩
        · rw [wl_out stx]; rfl
        · rw [wl_in stm, ex0]
      · rw [if_neg (show ¬ r_token (rd4 (m_tape τ) n q) = 0 from nI_ne0 (by omega) (by omega))] at stx
        by_cases c3 : tK (m_tape τ) n q = 3
        · rw [if_pos (show r_token (rd4 (m_tape τ) n q) = 3 from by show nI (tK (m_tape τ) n q) = 3; rw [c3]; rfl), nmv] at stx
          rw [if_pos c3, if_neg (by decide), m_token hn hn1 hqe.2.1, bnd_some] at stm
          have hlt := hqe.2.2 c0
          obtain ⟨q2, T2, m2, g1, g2⟩ := ih (tE (m_tape τ) n q) (k + 1) m' (nI (tK (m_tape τ) n q)) (nI (tS (m_tape τ) n q)) (tV (m_tape τ) n q) (by omega) hqe.2.1 (by omega) g
          rw [wl_in stx, wl_in stm]
          exact ⟨q2, T2, m2, g1, g2⟩
        · rw [if_neg (show ¬ r_token (rd4 (m_tape τ) n q) = 3 from fun e => c3 ((nI_eq (a := tK (m_tape τ) n q) (b := 3) (by omega) (by omega)).mp e))] at stx
          rw [if_neg c3, if_pos rfl] at stm
          refine ⟨q, dc m', m', h2, Or.inl ⟨nI (k + 1), 0, ?_, ?_, Or.inr ⟨rfl, c0⟩, tz_dc _⟩⟩
          · rw [wl_out stx]; rfl
          · rw [wl_in stm, ex0]
    · rw [a, bnd_some, if_neg (by decide), nmv, yP_x, if_neg (show ¬ r_token (rd4 (m_tape τ) n q) = 0 from by show ¬ nI (tK (m_tape τ) n q) = 0; rw [d]; decide), if_neg (show ¬ r_token (rd4 (m_tape τ) n q) = 3 from by show ¬ nI (tK (m_tape τ) n q) = 3; rw [d]; decide)] at stx
      rw [b, bnd_some, nmv, m_signB, bnd_some, if_pos rfl] at stm
      refine ⟨q, T', m', h2, Or.inl ⟨nI k + 1, 1, ?_, ?_, Or.inl rfl, g⟩⟩
      · rw [wl_out stx]; rfl
      · rw [wl_in stm, ex0]
end TEXT
theorem m_save (τ : MS) : wl f_X7_town_L2_2s ((0 : Int32), τ) = some (.inr (mu_ahead τ (cpT (m_m τ) (m_ahead τ) 247))) := by
  refine wl_for' (fun i => (nI i, mu_ahead τ (cpT (m_m τ) (m_ahead τ) i))) 247 ?_ ?_ ?_
  · show ((0 : Int32), τ) = (nI 0, mu_ahead τ (cpT (m_m τ) (m_ahead τ) 0))
    rw [cpT_0]; rfl
  · intro i hi
    show f_X7_town_L2_2 (nI i) (mu_ahead τ (cpT (m_m τ) (m_ahead τ) i)) = some (.inl (nI (i + 1), mu_ahead τ (cpT (m_m τ) (m_ahead τ) (i + 1))))
    unfold f_X7_town_L2_2
    rw [if_neg (show ¬ (247 : Int32) ≤ nI i from nI_ge (b := 247) hi (by omega)), ck_nI hi (by omega), cl_nI (by omega), nmv, ck_k hi (by omega), nmv, nmv, nI_s1, ← cpT_s]
  · show f_X7_town_L2_2 (nI 247) _ = _
    unfold f_X7_town_L2_2
    rw [if_pos (show (247 : Int32) ≤ nI 247 from Int32.le_refl _)]
theorem m_rest (v : Int32) (τ : MS) (m : Fn) (so fr to va ba : Int32) : wl f_X7_town_L119_119s (v, (0 : Int32), mP τ m so fr to va ba) = some (.inr (v, mP τ (cpT (m_ahead τ) m 247) so fr to va ba)) := by
  refine wl_for' (fun i => (v, nI i, mP τ (cpT (m_ahead τ) m i) so fr to va ba)) 247 ?_ ?_ ?_
  · show (v, (0 : Int32), mP τ m so fr to va ba) = (v, nI 0, mP τ (cpT (m_ahead τ) m 0) so fr to va ba)
    rw [cpT_0]; rfl
  · intro i hi
    show f_X7_town_L119_119 v (nI i) (mP τ (cpT (m_ahead τ) m i) so fr to va ba) = some (.inl (v, nI (i + 1), mP τ (cpT (m_ahead τ) m (i + 1)) so fr to va ba))
    unfold f_X7_town_L119_119
    rw [if_neg (show ¬ (247 : Int32) ≤ nI i from nI_ge (b := 247) hi (by omega)), ck_nI hi (by omega), cl_nI (by omega), nmv, ck_k hi (by omega), nmv, nmv, nI_s1, mP_m, pM_m, ← cpT_s]
    rfl
  · show f_X7_town_L119_119 v (nI 247) _ = _
    unfold f_X7_town_L119_119
    rw [if_pos (show (247 : Int32) ≤ nI 247 from Int32.le_refl _)]
/-- the reference's state with no tape -/
def mP0 (u : MS) (m : Fn) (so fr to va ba : Int32) : MS := (m, m_kept u, m_isKept u, m_found u, m_tape u, 0, so, fr, to, va, ba, m_ahead u, m_on u, m_hours u, m_worth u, m_inTime u, m_lastOf u, m_bits u, m_size u, m_number u)
theorem op_town {σ : XS} {τ : MS} (h : Rel σ τ) : Op (f_X6_town σ) (f_X7_town τ) := by
  obtain ⟨hT, ok, ⟨hz1, hz2⟩, hk1, hk2, hP, hB, hF, hH⟩ := id h
  have zx : tz (xT σ) := by rw [hT]; exact tz_dc _
  obtain ⟨n, hn, hn1, -⟩ := i_ex (x := m_taped τ) hP.2.1.1
  have hn120 : n ≤ 120 := by have := hP.2.1.2; omega
  have ht : tpe (sS σ (xT σ)) (m_tape (mu_ahead τ (cpT (m_m τ) (m_ahead τ) 247))) n := ⟨hP.1.trans hn, hn120, fun k hk => (hP.2.2 k hk).1⟩
  have hrd : f_X4_readText (sS σ (xT σ)) = bne (wl f_X4_readText_L9_9s (nI 0, nI 0, yP (sS σ (xT σ)) (xT σ) (r_token (xR σ), r_start (xR σ), nI 0, r_value (xR σ)))) (fun a => some a) (fun b => nmv b fun u4 => some ((-1 : Int32) - (r_start (xR u4)), u4)) := rfl
  rw [hT] at hrd
  unfold f_X6_town f_X7_town
  rw [x_st zx hz2, bnd_some, m_save]
  have e0 : (bne (some (Sum.inr (mu_ahead τ (cpT (m_m τ) (m_ahead τ) 247))) : Option ((Int32 × MS) ⊕ MS)) (fun a => some a) fun b => nmv b fun u3 => nmv (mu_to u3 (0 : Int32)) fun u4 => nmv (mu_bad u4 (0 : Int32)) fun u5 => bnd (f_X7_token u5) fun r6 u7 => bne (wl f_X7_town_L45_45s ((0 : Int32), (1 : Int32), u7)) (fun a => some a) fun b => nmv b.1 fun y11 => nmv b.2 fun u10 => (if (m_bad u10) = 0 then (if (m_sort u10) = 0 then f_X7_town_94 y11 (0 : Int32) u10 else f_X7_town_94 y11 (1 : Int32) u10) else f_X7_town_94 y11 (1 : Int32) u10)) = (bnd (f_X7_token (mP (mu_ahead τ (cpT (m_m τ) (m_ahead τ) 247)) (m_m τ) (m_sort τ) (m_from τ) (nI 0) (m_value τ) 0)) fun r6 u7 => bne (wl f_X7_town_L45_45s ((0 : Int32), (1 : Int32), u7)) (fun a => some a) fun b => nmv b.1 fun y11 => nmv b.2 fun u10 => (if (m_bad u10) = 0 then (if (m_sort u10) = 0 then f_X7_town_94 y11 (0 : Int32) u10 else f_X7_town_94 y11 (1 : Int32) u10) else f_X7_town_94 y11 (1 : Int32) u10)) := rfl
  rw [e0, m_token (τ := mu_ahead τ (cpT (m_m τ) (m_ahead τ) 247)) hn hn120 (Nat.zero_le _), bnd_some]
  have t94 : ∀ (v : Int32) (m' : Fn) (q : Nat), f_X7_town_94 v 0 (MP (mu_ahead τ (cpT (m_m τ) (m_ahead τ) 247)) n q m' 0) = some (v, mP0 (mu_ahead τ (cpT (m_m τ) (m_ahead τ) 247)) m' (nI (so3 (tK (m_tape τ) n q))) (nI (tS (m_tape τ) n q)) (nI (tE (m_tape τ) n q)) (tV (m_tape τ) n q) 0) := by
    intro v m' q
    unfold f_X7_town_94
    rw [if_neg (by decide)]
    rfl
  have t95 : ∀ (v b : Int32) (m' : Fn) (q : Nat), f_X7_town_94 v 1 (MP (mu_ahead τ (cpT (m_m τ) (m_ahead τ) 247)) n q m' b) = some (-1 - nI (tS (m_tape τ) n q), mP0 (mu_ahead τ (cpT (m_m τ) (m_ahead τ) 247)) (cpT (cpT (m_m τ) (m_ahead τ) 247) m' 247) (nI (so3 (tK (m_tape τ) n q))) (nI (tS (m_tape τ) n q)) (nI (tE (m_tape τ) n q)) (tV (m_tape τ) n q) 1) := by
    intro v b m' q
    have e := m_rest (nI (tS (m_tape τ) n q)) (mu_taped (mu_ahead τ (cpT (m_m τ) (m_ahead τ) 247)) 0) m' (nI (so3 (tK (m_tape τ) n q))) (nI (tS (m_tape τ) n q)) (nI (tE (m_tape τ) n q)) (tV (m_tape τ) n q) 1
    unfold f_X7_town_94
    rw [if_neg (by decide)]
    show bne (wl f_X7_town_L119_119s (nI (tS (m_tape τ) n q), (0 : Int32), mP (mu_taped (mu_ahead τ (cpT (m_m τ) (m_ahead τ) 247)) 0) m' (nI (so3 (tK (m_tape τ) n q))) (nI (tS (m_tape τ) n q)) (nI (tE (m_tape τ) n q)) (tV (m_tape τ) n q) 1)) _ _ = _
    rw [e]
    rfl
  have fault : ∀ (c : Int32) (b : Int32) (q : Nat) (m' : Fn), (b = 1 ∨ (b = 0 ∧ tK (m_tape τ) n q ≠ 0)) → (if (m_bad (MP (mu_ahead τ (cpT (m_m τ) (m_ahead τ) 247)) n q m' b)) = 0 then (if (m_sort (MP (mu_ahead τ (cpT (m_m τ) (m_ahead τ) 247)) n q m' b)) = 0 then f_X7_town_94 c (0 : Int32) (MP (mu_ahead τ (cpT (m_m τ) (m_ahead τ) 247)) n q m' b) else f_X7_town_94 c (1 : Int32) (MP (mu_ahead τ (cpT (m_m τ) (m_ahead τ) 247)) n q m' b)) else f_X7_town_94 c (1 : Int32) (MP (mu_ahead τ (cpT (m_m τ) (m_ahead τ) 247)) n q m' b)) = some (-1 - nI (tS (m_tape τ) n q), mP0 (mu_ahead τ (cpT (m_m τ) (m_ahead τ) 247)) (cpT (cpT (m_m τ) (m_ahead τ) 247) m' 247) (nI (so3 (tK (m_tape τ) n q))) (nI (tS (m_tape τ) n q)) (nI (tE (m_tape τ) n q)) (tV (m_tape τ) n q) 1) := by
    intro c b q m' hb
    rcases hb with rfl | ⟨rfl, hK⟩
    · rw [pM_ba, if_neg (by decide), t95]
    · rw [pM_ba, if_pos rfl, pM_so, if_neg (show ¬ nI (so3 (tK (m_tape τ) n q)) = 0 from fun g => hK ((so_eq (tK_le _ _ _) (c := 0) (by omega)).mp g)), t95]
  obtain ⟨q, T', m', hq, ⟨c, b, g1, g2, g3, g4⟩ | ⟨j, hj, g1, g2, g3, g4⟩⟩ := text_loop (τ := mu_ahead τ (cpT (m_m τ) (m_ahead τ) 247)) ht hn hn120 n 0 0 (m_m τ) (r_token (xR σ)) (r_start (xR σ)) (r_value (xR σ)) (by omega) (Nat.zero_le _) (Nat.le_refl _) ok
  · rw [hT] at g1
    rw [hT, hrd, g1, bnd_some]
    have hqs := tS_le (B := m_tape τ) hq
    have hneg : ¬ (0 : Int32) ≤ -1 - nI (tS (m_tape τ) n q) := by
      rw [i_le, i_sub (by rw [tm1, i_nI (by omega)]; omega) (by rw [tm1, i_nI (by omega)]; omega), tm1, i_nI (by omega)]
      simp only [Int32.reduceToInt]
      omega
    have g2' : wl f_X7_town_L45_45s ((0 : Int32), (1 : Int32), MP (mu_ahead τ (cpT (m_m τ) (m_ahead τ) 247)) n 0 (m_m τ) 0) = some (.inr (c, MP (mu_ahead τ (cpT (m_m τ) (m_ahead τ) 247)) n q m' b)) := g2
    rw [if_neg (show ¬ (0 : Int32) ≤ -1 - nI (tS (m_tape (mu_ahead τ (cpT (m_m τ) (m_ahead τ) 247))) n q) from hneg), x_ts (u := XP (sS σ (dc (m_m τ))) (m_tape (mu_ahead τ (cpT (m_m τ) (m_ahead τ) 247))) n q T') (tz_dc _) g4, bnd_some, g2']
    refine (congrArg (fun z => Op _ z) (show _ = _ from fault c b q m' g3)).mpr ?_
    refine Op.mk' ?_
    refine ⟨?_, ?_, ⟨hz1, tz_dc _⟩, hk1, hk2, ⟨rfl, ⟨(by decide : (0 : Int) ≤ (0 : Int32).toInt), (by decide : (0 : Int32).toInt ≤ (120 : Int))⟩, hP.2.2⟩, hB, hF, hH⟩
    · show dc (m_m τ) = dc (cpT (cpT (m_m τ) (m_ahead τ) 247) m' 247)
      rw [dc_cpT, dc_cpT]
    · show tOk (dc (cpT (cpT (m_m τ) (m_ahead τ) 247) m' 247))
      rw [dc_cpT, dc_cpT]; exact ok
  · rw [hT] at g1
    rw [hT, hrd, g1, bnd_some, if_pos (nI_nn (by omega))]
    have g2' : wl f_X7_town_L45_45s ((0 : Int32), (1 : Int32), MP (mu_ahead τ (cpT (m_m τ) (m_ahead τ) 247)) n 0 (m_m τ) 0) = some (.inr (nI j, MP (mu_ahead τ (cpT (m_m τ) (m_ahead τ) 247)) n q m' 0)) := g2
    have fin : (if (m_bad (MP (mu_ahead τ (cpT (m_m τ) (m_ahead τ) 247)) n q m' 0)) = 0 then (if (m_sort (MP (mu_ahead τ (cpT (m_m τ) (m_ahead τ) 247)) n q m' 0)) = 0 then f_X7_town_94 (nI j) (0 : Int32) (MP (mu_ahead τ (cpT (m_m τ) (m_ahead τ) 247)) n q m' 0) else f_X7_town_94 (nI j) (1 : Int32) (MP (mu_ahead τ (cpT (m_m τ) (m_ahead τ) 247)) n q m' 0)) else f_X7_town_94 (nI j) (1 : Int32) (MP (mu_ahead τ (cpT (m_m τ) (m_ahead τ) 247)) n q m' 0)) = some (nI j, mP0 (mu_ahead τ (cpT (m_m τ) (m_ahead τ) 247)) m' (nI (so3 (tK (m_tape τ) n q))) (nI (tS (m_tape τ) n q)) (nI (tE (m_tape τ) n q)) (tV (m_tape τ) n q) 0) := by
      rw [pM_ba, if_pos rfl, pM_so, if_pos (show nI (so3 (tK (m_tape τ) n q)) = 0 from (so_eq (tK_le _ _ _) (c := 0) (by omega)).mpr g3), t94]
    rw [g2']
    refine (congrArg (fun z => Op _ z) (show _ = _ from fin)).mpr ?_
    refine Op.mk' ?_
    exact ⟨rfl, g4, ⟨hz1, tz_dc _⟩, hk1, hk2, ⟨rfl, ⟨(by decide : (0 : Int) ≤ (0 : Int32).toInt), (by decide : (0 : Int32).toInt ≤ (120 : Int))⟩, hP.2.2⟩, hB, hF, hH⟩
