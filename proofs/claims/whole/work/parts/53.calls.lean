theorem op_days {σ : XS} {τ : MS} (h : Rel σ τ) (a b : Int32) : Op (f_X6_days a b σ) (f_X7_days a b τ) := by
  obtain ⟨hT, ok, hr⟩ := id h
  have okx : tOk (xT σ) := by rw [hT]; exact ok
  unfold f_X6_days f_X7_days
  simp only [x_hasTool okx, m_isTool ok, w_in, m_in, bnd_some, ite01, nmv, Int32.toInt_toInt64, Int32.reduceToInt, Int64.reduceToInt, fx_0, fm_0, hT]
  by_cases h1 : pTool (dc (m_m τ)) a
  · rw [if_neg (not_not_intro h1), if_neg (not_not_intro h1)]
    by_cases hc : 0 ≤ b.toInt ∧ b.toInt ≤ 4095
    · rw [if_neg (not_not_intro hc), if_neg (not_not_intro hc)]
      obtain ⟨n, rfl, hn, -⟩ := i_ex h1.1
      have h8 : n < 8 := by have := ok.2.2.1; have := h1.2; omega
      simp (disch := omega) only [cl', nIneg, leF, or_self, if_false, n6, nI_add, m_becomes, bnd_some]
      refine Op.mk2 (by rw [dc_Days, if_pos h8]) (h.town (dc_days _ h8 _).symm ?_)
      rw [dc_days _ h8]
      obtain ⟨o1, o2, o3, o4, o5, o6, o7⟩ := ok
      refine ⟨o1, o2, o3, o4, o5, ?_, o7⟩
      intro k hk
      show 0 ≤ (upd _ n b k).toInt ∧ (upd _ n b k).toInt ≤ 4095
      by_cases e : k = n
      · rw [e, upd_s]; exact hc
      · rw [upd_n e]; exact o6 k hk
    · rw [if_pos hc, if_pos hc]
      exact Op.mk' (h.fd (by decide))
  · rw [if_pos h1, if_pos h1]
    exact Op.mk' (h.fd (by decide))
theorem op_turn {σ : XS} {τ : MS} (h : Rel σ τ) (a b : Int32) : Op (f_X6_turn a b σ) (f_X7_turn a b τ) := by
  obtain ⟨hT, ok, hr⟩ := id h
  have okx : tOk (xT σ) := by rw [hT]; exact ok
  unfold f_X6_turn f_X7_turn
  simp only [x_hasThing okx, m_isThing ok, m_isKind, w_in, m_in, bnd_some, ite01, nmv, Int32.toInt_toInt64, Int32.reduceToInt, Int64.reduceToInt, fx_0, fm_0, hT]
  by_cases h1 : pThing (dc (m_m τ)) a
  · rw [if_neg (not_not_intro h1), if_neg (not_not_intro h1)]
    by_cases hc : 0 ≤ b.toInt ∧ b.toInt ≤ 6
    · rw [if_neg (not_not_intro hc), if_neg (not_not_intro hc)]
      obtain ⟨n, rfl, hn, -⟩ := i_ex h1.1
      have h8 : n < 8 := by have := ok.2.2.2.1; have := h1.2; omega
      simp (disch := omega) only [cl', nIneg, leF, or_self, if_false, ix_kind, m_becomes, bnd_some]
      refine Op.mk2 (by rw [dc_Kinds, if_pos h8]) (h.town (dc_kinds _ h8 _).symm ?_)
      rw [dc_kinds _ h8]
      obtain ⟨o1, o2, o3, o4, o5, o6, o7, o8⟩ := ok
      refine ⟨o1, o2, o3, o4, o5, o6, ?_, o8⟩
      intro k hk
      show 0 ≤ (upd _ n b k).toInt ∧ (upd _ n b k).toInt ≤ 6
      by_cases e : k = n
      · rw [e, upd_s]; exact hc
      · rw [upd_n e]; exact o7 k hk
    · rw [if_pos hc, if_pos hc]
      exact Op.mk' (h.fd (by decide))
  · rw [if_pos h1, if_pos h1]
    exact Op.mk' (h.fd (by decide))
theorem x_put (u : XS) {t i w : Nat} (ht : t < 8) (hi : i < 8) (hw : w < 3) (v : Int32) : f_X5_putStepNumber (nI t) (nI i) (nI w) v u = some (0, sT u (uNums (xT u) (upd (tNums (xT u)) (t * 24 + i * 3 + w) v))) := by
  unfold f_X5_putStepNumber
  simp only [nmv]
  rw [ix_num, ck_nI (by omega) (by omega), cl_nI (by omega)]
theorem z0' : (0 : Int32) = nI 0 := rfl
theorem x_put0 (u : XS) {t i : Nat} (ht : t < 8) (hi : i < 8) (v : Int32) : f_X5_putStepNumber (nI t) (nI i) 0 v u = some (0, sT u (uNums (xT u) (upd (tNums (xT u)) (t * 24 + i * 3) v))) := x_put u (w := 0) ht hi (by omega) v
theorem x_put1 (u : XS) {t i : Nat} (ht : t < 8) (hi : i < 8) (v : Int32) : f_X5_putStepNumber (nI t) (nI i) 1 v u = some (0, sT u (uNums (xT u) (upd (tNums (xT u)) (t * 24 + i * 3 + 1) v))) := x_put u (w := 1) ht hi (by omega) v
theorem x_put2 (u : XS) {t i : Nat} (ht : t < 8) (hi : i < 8) (v : Int32) : f_X5_putStepNumber (nI t) (nI i) 2 v u = some (0, sT u (uNums (xT u) (upd (tNums (xT u)) (t * 24 + i * 3 + 2) v))) := x_put u (w := 2) ht hi (by omega) v
/-- three numbers of a step -/
def up3 (f : Fn) (j : Nat) (a b c : Int32) : Fn := upd (upd (upd f j a) (j + 1) b) (j + 2) c
theorem x_addStep {u : XS} {t i n : Nat} (hth : tThings (xT u) = nI n) (ht : t < n) (hn : n ≤ 8) (hc : tCounts (xT u) t = nI i) (hi : i < 8) (a b c : Int32) : f_X5_addStep (nI t) a b c u = some (nI (i + 1), sT u (uCounts (uNums (xT u) (up3 (tNums (xT u)) (t * 24 + i * 3) a b c)) (upd (tCounts (xT u)) t (nI (i + 1))))) := by
  have e1 : (nI n - 1) = nI (n - 1) := by rw [show n = (n - 1) + 1 by omega, nI_p1]; congr 1
  have e2 : f_X5_hasThing (nI t) u = some (1, u) := by
    unfold f_X5_hasThing
    rw [w_in, hth, e1, i_nI (by omega), i_nI (by omega), if_pos ⟨by simp only [Int32.reduceToInt]; omega, by omega⟩, bnd_some]
    rfl
  unfold f_X5_addStep
  rw [e2, bnd_some, if_neg (by decide)]
  simp (disch := omega) only [cl', nIneg, leF, or_self, if_false, hc, n8, ltI, hi, if_true, nmv, x_put0, x_put1, x_put2, bnd_some, xT_sT, sT_sT, tu_Nums_Nums, nI_s1, tu_Counts_Nums]
  rfl
theorem ix_at0 (t i : Nat) : ((((14 : Int32) + ((26 : Int32) * nI t)) + (2 : Int32)) + ((3 : Int32) * nI i)) + (0 : Int32) = nI (16 + 26 * t + 3 * i) := ix_at t i 0
theorem ix_at1 (t i : Nat) : ((((14 : Int32) + ((26 : Int32) * nI t)) + (2 : Int32)) + ((3 : Int32) * nI i)) + (1 : Int32) = nI (16 + 26 * t + (3 * i + 1)) := ix_at t i 1
theorem ix_at2 (t i : Nat) : ((((14 : Int32) + ((26 : Int32) * nI t)) + (2 : Int32)) + ((3 : Int32) * nI i)) + (2 : Int32) = nI (16 + 26 * t + (3 * i + 2)) := ix_at t i 2
/-- the same in the reference's row -/
theorem dc_up3 (m : Fn) {t i : Nat} (ht : t < 8) (hi : i < 8) (a b c : Int32) : dc (upd (upd (upd m (16 + 26 * t + 3 * i) a) (16 + 26 * t + (3 * i + 1)) b) (16 + 26 * t + (3 * i + 2)) c) = uNums (dc m) (up3 (tNums (dc m)) (t * 24 + i * 3) a b c) := by
  rw [dc_nums (k := t * 24 + i * 3 + 2) _ ht (by omega) (by omega), dc_nums (k := t * 24 + i * 3 + 1) _ ht (by omega) (by omega), dc_nums (k := t * 24 + i * 3) _ ht (by omega) (by omega)]
  rfl
theorem up3_0 {f : Fn} {j : Nat} {a b c : Int32} : up3 f j a b c j = a := by unfold up3; rw [upd_n (by omega), upd_n (by omega), upd_s]
theorem up3_1 {f : Fn} {j : Nat} {a b c : Int32} : up3 f j a b c (j + 1) = b := by unfold up3; rw [upd_n (by omega), upd_s]
theorem up3_2 {f : Fn} {j : Nat} {a b c : Int32} : up3 f j a b c (j + 2) = c := by unfold up3; rw [upd_s]
theorem up3_n {f : Fn} {j k : Nat} {a b c : Int32} (h : k < j ∨ j + 3 ≤ k) : up3 f j a b c k = f k := by unfold up3; rw [upd_n (by omega), upd_n (by omega), upd_n (by omega)]
/-- a step more -/
theorem tOk_step {T : TownS} (ok : tOk T) {t i : Nat} (ht : (t : Int) < (tThings T).toInt) (hc : tCounts T t = nI i) (hi : i < 8) {a b c : Int32} (ha : pTool T a) (hb : 1 ≤ b.toInt ∧ b.toInt ≤ 8) (hw : 0 ≤ c.toInt ∧ c.toInt ≤ 99) : tOk (uCounts (uNums T (up3 (tNums T) (t * 24 + i * 3) a b c)) (upd (tCounts T) t (nI (i + 1)))) := by
  obtain ⟨o1, o2, o3, o4, o5, o6, o7, o8, o9, o10, o11⟩ := ok
  refine ⟨o1, o2, o3, o4, o5, o6, o7, ?_, ?_, o10, o11⟩
  · intro k hk
    show 1 ≤ (upd _ t _ k).toInt ∧ (upd _ t _ k).toInt ≤ 8
    by_cases e : k = t
    · rw [e, upd_s, i_nI (by omega)]; omega
    · rw [upd_n e]; exact o8 k hk
  · intro k j hk hj
    have h8 : k < 8 := by have : (k : Int) < (tThings T).toInt := hk; omega
    have t8 : t < 8 := by omega
    have hj' : (j : Int) < (upd (tCounts T) t (nI (i + 1)) k).toInt := hj
    by_cases e : k = t
    · subst e
      rw [upd_s, i_nI (by omega)] at hj'
      by_cases e2 : j = i
      · subst e2
        refine ⟨?_, ?_, ?_⟩
        · show 0 ≤ (up3 _ _ _ _ _ _).toInt ∧ (up3 _ _ _ _ _ _).toInt < _
          rw [up3_0]; exact ha
        · show 1 ≤ (up3 _ _ _ _ _ _).toInt ∧ (up3 _ _ _ _ _ _).toInt ≤ _
          rw [up3_1]; exact hb
        · show 0 ≤ (up3 _ _ _ _ _ _).toInt ∧ (up3 _ _ _ _ _ _).toInt ≤ _
          rw [up3_2]; exact hw
      · have q := o9 k j hk (by rw [hc, i_nI (by omega)]; omega)
        refine ⟨?_, ?_, ?_⟩
        · show 0 ≤ (up3 _ _ _ _ _ _).toInt ∧ (up3 _ _ _ _ _ _).toInt < _
          rw [up3_n (by omega)]; exact q.1
        · show 1 ≤ (up3 _ _ _ _ _ _).toInt ∧ (up3 _ _ _ _ _ _).toInt ≤ _
          rw [up3_n (by omega)]; exact q.2.1
        · show 0 ≤ (up3 _ _ _ _ _ _).toInt ∧ (up3 _ _ _ _ _ _).toInt ≤ _
          rw [up3_n (by omega)]; exact q.2.2
    · rw [upd_n e] at hj'
      have q := o9 k j hk hj'
      have c8 := (o8 k hk).2
      refine ⟨?_, ?_, ?_⟩
      · show 0 ≤ (up3 _ _ _ _ _ _).toInt ∧ (up3 _ _ _ _ _ _).toInt < _
        rw [up3_n (by omega)]; exact q.1
      · show 1 ≤ (up3 _ _ _ _ _ _).toInt ∧ (up3 _ _ _ _ _ _).toInt ≤ _
        rw [up3_n (by omega)]; exact q.2.1
      · show 0 ≤ (up3 _ _ _ _ _ _).toInt ∧ (up3 _ _ _ _ _ _).toInt ≤ _
        rw [up3_n (by omega)]; exact q.2.2
theorem op_step {σ : XS} {τ : MS} (h : Rel σ τ) (a b c d : Int32) : Op (f_X6_step a b c d σ) (f_X7_step a b c d τ) := by
  obtain ⟨hT, ok, hr⟩ := id h
  have okx : tOk (xT σ) := by rw [hT]; exact ok
  unfold f_X6_step f_X7_step
  simp only [x_hasThing okx, x_hasTool okx, m_isThing ok, m_isTool ok, w_in, m_in, bnd_some, ite01, nmv, Int32.toInt_toInt64, Int32.reduceToInt, Int64.reduceToInt, fx_0, fm_0, fx_1, hT]
  by_cases h1 : pThing (dc (m_m τ)) a
  · rw [if_neg (not_not_intro h1), if_neg (not_not_intro h1)]
    by_cases h2 : pTool (dc (m_m τ)) b
    · rw [if_neg (not_not_intro h2), if_neg (not_not_intro h2)]
      by_cases h3 : 1 ≤ c.toInt ∧ c.toInt ≤ 8
      · rw [if_neg (not_not_intro h3), if_neg (not_not_intro h3)]
        by_cases h4 : 0 ≤ d.toInt ∧ d.toInt ≤ 99
        · rw [if_neg (not_not_intro h4), if_neg (not_not_intro h4)]
          obtain ⟨t, rfl, ht, -⟩ := i_ex h1.1
          have h8 : t < 8 := by have := ok.2.2.2.1; have := h1.2; omega
          have hth : (t : Int) < (tThings (dc (m_m τ))).toInt := by rw [ht]; exact h1.2
          obtain ⟨i, hi, hi1, -⟩ := i_ex (x := tCounts (dc (m_m τ)) t) (by have := ok.2.2.2.2.2.2.2.1 t hth; omega)
          obtain ⟨n, hn, hn1, -⟩ := i_ex (x := tThings (dc (m_m τ))) (by have := ok.2.2.2.1; omega)
          have hi8 : i ≤ 8 := by have := ok.2.2.2.2.2.2.2.1 t hth; omega
          have hn8 : n ≤ 8 := by have := ok.2.2.2.1; omega
          simp (disch := omega) only [cl', nIneg, leF, or_self, if_false, m_steps, hi, bnd_some, n8, ltI, eqI]
          by_cases e : i = 8
          · rw [if_pos e, if_neg (by omega), fm_1]
            exact Op.mk' (h.fd (by decide))
          · have hlt : i < 8 := by omega
            rw [if_pos hlt, if_neg e, x_addStep (by rw [hT]; exact hn) (by omega) hn8 (by rw [hT]; exact hi) hlt, bnd_some, hT]
            unfold f_X7_at
            simp (disch := omega) only [bnd_some, ix_at0, ix_at1, ix_at2, ix_count, cl', nIneg, leF, or_self, if_false, mm_mu, mu_mu, nI_s1]
            refine Op.mk2 rfl (h.town ?_ ?_)
            · rw [dc_counts _ h8, dc_up3 _ h8 hlt]
            · rw [dc_counts _ h8, dc_up3 _ h8 hlt]
              exact tOk_step ok hth hi hlt h2 h3 h4
        · rw [if_pos h4, if_pos h4]
          exact Op.mk' (h.fd (by decide))
      · rw [if_pos h3, if_pos h3]
        exact Op.mk' (h.fd (by decide))
    · rw [if_pos h2, if_pos h2]
      exact Op.mk' (h.fd (by decide))
  · rw [if_pos h1, if_pos h1]
    exact Op.mk' (h.fd (by decide))
