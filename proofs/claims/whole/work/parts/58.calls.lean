theorem op_as {σ : XS} {τ : MS} (h : Rel σ τ) (a b : Int32) : Op (f_X6_as a b σ) (f_X7_as a b τ) := by
  obtain ⟨hT, ok, hr⟩ := id h
  have okx : tOk (xT σ) := by rw [hT]; exact ok
  unfold f_X6_as f_X7_as
  simp only [x_hasThing okx, m_isKind, w_in, m_in, bnd_some, ite01, Int32.toInt_toInt64, Int32.reduceToInt, Int64.reduceToInt, fx_0, fm_0, fx_5, fm_5, fx_2, hT, nmv.eq_1 ((237 : Int32) + a), nmv.eq_1 (α := Int32)]
  by_cases h1 : 0 ≤ a.toInt ∧ a.toInt ≤ 9
  · rw [if_neg (not_not_intro h1), if_neg (not_not_intro h1)]
    by_cases h2 : 0 ≤ b.toInt ∧ b.toInt ≤ 6
    · rw [if_neg (not_not_intro h2), if_neg (not_not_intro h2)]
      obtain ⟨n, rfl, hn, -⟩ := i_ex h1.1
      obtain ⟨k, rfl, hk, -⟩ := i_ex h2.1
      have hn10 : n < 10 := by omega
      simp (disch := omega) only [cl', nIneg, leF, or_self, if_false, n237, nI_add, dc_Spots, hn10, if_true]
      have hs := ok.2.2.2.2.2.2.2.2.2.2 n hn10
      rw [dc_Spots, if_pos hn10] at hs
      by_cases h3 : pThing (dc (m_m τ)) (m_m τ (237 + n))
      · have h0 : (0 : Int32) ≤ m_m τ (237 + n) := by rw [i_le]; exact h3.1
        rw [if_neg (not_not_intro h3), if_pos h0]
        obtain ⟨t, ht, ht1, -⟩ := i_ex h3.1
        have h8 : t < 8 := by have := ok.2.2.2.1; have := h3.2; omega
        rw [ht]
        simp (disch := omega) only [cl', nIneg, leF, or_self, if_false, m_kindOf, bnd_some]
        have hkk := ok.2.2.2.2.2.2.1 t h8
        obtain ⟨j, hj, hj1, -⟩ := i_ex hkk.1
        rw [hj, x_under (by omega) (by omega), bnd_some, m_under (by omega) (by omega)]
        simp only [ite01]
        by_cases hu : un j k = true
        · rw [if_neg (not_not_intro hu), if_pos hu]
          exact Op.mk' h
        · rw [if_pos hu, if_neg hu]
          exact Op.mk' (h.fd (by decide))
      · have h0 : ¬ (0 : Int32) ≤ m_m τ (237 + n) := by rw [i_le]; intro q; exact h3 ⟨q, hs.2⟩
        rw [if_pos h3, if_neg h0]
        exact Op.mk' (h.fd (by decide))
    · rw [if_pos h2, if_pos h2]
      exact Op.mk' (h.fd (by decide))
  · rw [if_pos h1, if_pos h1]
    exact Op.mk' (h.fd (by decide))
/-- how many of the first are not below 0 -/
def cs (f : Fn) : Nat → Int32
  | 0 => 0
  | n + 1 => cs f n + (if f n < 0 then 0 else 1)
theorem x_held (u : XS) : f_X5_heldSpots u = some (cs (tSpots (xT u)) 10, u) := by
  unfold f_X5_heldSpots
  have ew : wl f_X5_heldSpots_L4_4s ((0 : Int32), (0 : Int32), u) = some (.inr (cs (tSpots (xT u)) 10, u)) := ?_
  · rw [ew]; rfl
  refine wl_for' (fun i => (cs (tSpots (xT u)) i, nI i, u)) 10 rfl ?_ ?_
  · intro i hi
    show f_X5_heldSpots_L4_4 _ _ _ = _
    unfold f_X5_heldSpots_L4_4
    simp (disch := omega) only [show (10 : Int32) = nI 10 from rfl, leI, leF, if_false, nIneg, cl', or_self, nmv, nI_s1]
    by_cases hc : tSpots (xT u) i < 0
    · rw [if_pos hc]
      show _ = some (Sum.inl (cs _ i + (if _ then 0 else 1), _, _))
      rw [if_pos hc, Int32.add_zero]
    · rw [if_neg hc]
      show _ = some (Sum.inl (cs _ i + (if _ then 0 else 1), _, _))
      rw [if_neg hc]
  · show f_X5_heldSpots_L4_4 _ _ _ = _
    unfold f_X5_heldSpots_L4_4
    rw [if_pos (show (10 : Int32) ≤ nI 10 from by decide)]
theorem m_held (u : MS) : wl f_X7_count_L69_69s ((0 : Int32), (0 : Int32), u) = some (.inr (cs (tSpots (dc (m_m u))) 10, u)) := by
  refine wl_for' (fun i => (cs (tSpots (dc (m_m u))) i, nI i, u)) 10 rfl ?_ ?_
  · intro i hi
    show f_X7_count_L69_69 _ _ _ = _
    unfold f_X7_count_L69_69
    have e : tSpots (dc (m_m u)) i = m_m u (237 + i) := by rw [dc_Spots, if_pos hi]
    simp (disch := omega) only [show (10 : Int32) = nI 10 from rfl, leI, leF, if_false, nIneg, cl', or_self, nmv, nI_s1, n237, nI_add]
    by_cases hc : tSpots (dc (m_m u)) i < 0
    · rw [if_neg (by rw [← e]; rw [i_lt] at hc; rw [i_le]; omega)]
      show _ = some (Sum.inl (cs _ i + (if _ then 0 else 1), _, _))
      rw [if_pos hc]
    · rw [if_pos (by rw [← e]; rw [i_lt] at hc; rw [i_le]; omega)]
      show _ = some (Sum.inl (cs _ i + (if _ then 0 else 1), _, _))
      rw [if_neg hc]
  · show f_X7_count_L69_69 _ _ _ = _
    unfold f_X7_count_L69_69
    rw [if_pos (show (10 : Int32) ≤ nI 10 from by decide)]
theorem op_count {σ : XS} {τ : MS} (h : Rel σ τ) (a : Int32) : Op (f_X6_count a σ) (f_X7_count a τ) := by
  obtain ⟨hT, ok, hr⟩ := id h
  have hP := hr.2.2.2.1.1
  unfold f_X6_count f_X7_count
  by_cases e0 : a = 0
  · subst e0
    rw [if_pos rfl, if_pos rfl, hT]
    exact Op.mk2 rfl h
  rw [if_neg e0, if_neg e0]
  by_cases e1 : a = 1
  · subst e1
    rw [if_pos rfl, if_pos rfl, hT]
    exact Op.mk2 rfl h
  rw [if_neg e1, if_neg e1]
  by_cases e2 : a = 2
  · subst e2
    rw [if_pos rfl, if_pos rfl, hT]
    exact Op.mk2 rfl h
  rw [if_neg e2, if_neg e2]
  by_cases e3 : a = 3
  · subst e3
    rw [if_pos rfl, if_pos rfl, hT]
    exact Op.mk2 rfl h
  rw [if_neg e3, if_neg e3]
  by_cases e4 : a = 4
  · subst e4
    rw [if_pos rfl, if_pos rfl, hT]
    exact Op.mk2 rfl h
  rw [if_neg e4, if_neg e4]
  by_cases e5 : a = 5
  · rw [if_pos e5, if_pos e5]
    exact Op.mk2 hP h
  rw [if_neg e5, if_neg e5]
  by_cases e6 : a = 6
  · rw [if_pos e6, if_pos e6, hT]
    exact Op.mk2 rfl h
  rw [if_neg e6, if_neg e6]
  by_cases e7 : a = 7
  · rw [if_pos e7, if_pos e7, x_held, m_held, bnd_some, hT]
    exact Op.mk2 rfl h
  rw [if_neg e7, if_neg e7, fx_0, fm_0]
  exact Op.mk' (h.fd (by decide))
set_option maxRecDepth 10000 in
theorem op_status {σ : XS} {τ : MS} (h : Rel σ τ) (a : Int32) : Op (f_X6_status a σ) (f_X7_status a τ) := by
  have hF := h.2.2.2.2.2.2.2.1
  unfold f_X6_status f_X7_status
  simp only [w_in, m_in, bnd_some, ite01, Int32.toInt_toInt64, Int32.reduceToInt, Int64.reduceToInt, fx_0, fm_0, tm1, tm1']
  by_cases h1 : -1 ≤ a.toInt ∧ a.toInt ≤ 6
  · rw [if_neg (not_not_intro h1), if_neg (not_not_intro h1)]
    have ha : a = -1 ∨ a = 0 ∨ a = 1 ∨ a = 2 ∨ a = 3 ∨ a = 4 ∨ a = 5 ∨ a = 6 := by
      simp only [i_eq, Int32.reduceToInt, tm1]; omega
    rcases ha with rfl | rfl | rfl | rfl | rfl | rfl | rfl | rfl
    · refine ⟨0 + xF σ 0 + xF σ 1 + xF σ 2 + xF σ 3 + xF σ 4 + xF σ 5 + xF σ 6, σ, τ, bne_wl 8 rfl, bne_wl 8 ?_, h⟩
      rw [hF 0 (by omega), hF 1 (by omega), hF 2 (by omega), hF 3 (by omega), hF 4 (by omega), hF 5 (by omega), hF 6 (by omega)]
      rfl
    · rw [if_neg (by decide)]
      have e : (0 + m_found τ 0 + 0 + 0 + 0 + 0 + 0 + 0 : Int32) = xF σ 0 := by rw [hF 0 (by omega)]; simp only [Int32.add_zero, Int32.zero_add]
      refine ⟨xF σ 0, σ, τ, rfl, bne_wl 8 ?_, h⟩
      rw [← e]
      rfl
    · rw [if_neg (by decide)]
      have e : (0 + 0 + m_found τ 1 + 0 + 0 + 0 + 0 + 0 : Int32) = xF σ 1 := by rw [hF 1 (by omega)]; simp only [Int32.add_zero, Int32.zero_add]
      refine ⟨xF σ 1, σ, τ, rfl, bne_wl 8 ?_, h⟩
      rw [← e]
      rfl
    · rw [if_neg (by decide)]
      have e : (0 + 0 + 0 + m_found τ 2 + 0 + 0 + 0 + 0 : Int32) = xF σ 2 := by rw [hF 2 (by omega)]; simp only [Int32.add_zero, Int32.zero_add]
      refine ⟨xF σ 2, σ, τ, rfl, bne_wl 8 ?_, h⟩
      rw [← e]
      rfl
    · rw [if_neg (by decide)]
      have e : (0 + 0 + 0 + 0 + m_found τ 3 + 0 + 0 + 0 : Int32) = xF σ 3 := by rw [hF 3 (by omega)]; simp only [Int32.add_zero, Int32.zero_add]
      refine ⟨xF σ 3, σ, τ, rfl, bne_wl 8 ?_, h⟩
      rw [← e]
      rfl
    · rw [if_neg (by decide)]
      have e : (0 + 0 + 0 + 0 + 0 + m_found τ 4 + 0 + 0 : Int32) = xF σ 4 := by rw [hF 4 (by omega)]; simp only [Int32.add_zero, Int32.zero_add]
      refine ⟨xF σ 4, σ, τ, rfl, bne_wl 8 ?_, h⟩
      rw [← e]
      rfl
    · rw [if_neg (by decide)]
      have e : (0 + 0 + 0 + 0 + 0 + 0 + m_found τ 5 + 0 : Int32) = xF σ 5 := by rw [hF 5 (by omega)]; simp only [Int32.add_zero, Int32.zero_add]
      refine ⟨xF σ 5, σ, τ, rfl, bne_wl 8 ?_, h⟩
      rw [← e]
      rfl
    · rw [if_neg (by decide)]
      have e : (0 + 0 + 0 + 0 + 0 + 0 + 0 + m_found τ 6 : Int32) = xF σ 6 := by rw [hF 6 (by omega)]; simp only [Int32.add_zero, Int32.zero_add]
      refine ⟨xF σ 6, σ, τ, rfl, bne_wl 8 ?_, h⟩
      rw [← e]
      rfl
  · rw [if_pos h1, if_pos h1]
    exact Op.mk' (h.fd (by decide))
