theorem x_addOrder {u : XS} {n : Nat} (hn : tOrders (xT u) = nI n) (h5 : n < 5) (a b c : Int32) : f_X5_addOrder a b c u = some (nI n, sT u (uOrders (uOrd (xT u) (up3 (tOrd (xT u)) (n * 3) a b c)) (nI (n + 1)))) := by
  unfold f_X5_addOrder
  simp (disch := omega) only [nmv, hn, show (5 : Int32) = nI 5 from rfl, ltI, h5, if_true, n3, pk_mul]
  simp (disch := omega) only [n2, n1', nI_add]
  rw [show nI (n * 3) + 0 = nI (n * 3) by rw [z0', nI_add]; rfl]
  simp (disch := omega) only [nIneg, cl', leF, or_self, if_false, xT_sT, sT_sT, tu_Ord_Ord, tu_Orders_Ord, hn, nI_add, tu_Orders_Orders]
  rw [show nI (n + 1) - nI 1 = nI n from nI_p1]
  rfl
theorem dc_ord3 (m : Fn) {n : Nat} (h5 : n < 5) (a b c : Int32) : dc (upd (upd (upd m (222 + n * 3) a) (222 + (n * 3 + 1)) b) (222 + (n * 3 + 2)) c) = uOrd (dc m) (up3 (tOrd (dc m)) (n * 3) a b c) := by
  rw [dc_ord _ (by omega), dc_ord _ (by omega), dc_ord _ (by omega)]
  rfl
theorem tOk_order {T : TownS} (ok : tOk T) {n : Nat} (hn : tOrders T = nI n) (h5 : n < 5) {a b c : Int32} (ha : pThing T a) (hb : 0 ≤ b.toInt ∧ b.toInt ≤ 399) (hc : 1 ≤ c.toInt ∧ c.toInt ≤ 99) : tOk (uOrders (uOrd T (up3 (tOrd T) (n * 3) a b c)) (nI (n + 1))) := by
  have hN : (tOrders T).toInt = n := by rw [hn, i_nI (by omega)]
  have hN1 : (nI (n + 1)).toInt = n + 1 := by rw [i_nI (by omega)]; omega
  obtain ⟨o1, o2, o3, o4, o5, o6, o7, o8, o9, o10, o11⟩ := ok
  refine ⟨o1, o2, o3, o4, ?_, o6, o7, o8, o9, ?_, o11⟩
  · show 0 ≤ (nI (n + 1)).toInt ∧ (nI (n + 1)).toInt ≤ 5
    omega
  · intro o ho
    have ho : (o : Int) < (nI (n + 1)).toInt := ho
    by_cases e : o = n
    · subst e
      refine ⟨?_, ?_, ?_⟩
      · show 0 ≤ (up3 _ _ _ _ _ (o * 3)).toInt ∧ (up3 _ _ _ _ _ (o * 3)).toInt < _
        rw [up3_0]; exact ha
      · show 0 ≤ (up3 _ _ _ _ _ (o * 3 + 1)).toInt ∧ (up3 _ _ _ _ _ (o * 3 + 1)).toInt ≤ _
        rw [up3_1]; exact hb
      · show 1 ≤ (up3 _ _ _ _ _ (o * 3 + 2)).toInt ∧ (up3 _ _ _ _ _ (o * 3 + 2)).toInt ≤ _
        rw [up3_2]; exact hc
    · have q := o10 o (by omega)
      refine ⟨?_, ?_, ?_⟩
      · show 0 ≤ (up3 _ _ _ _ _ (o * 3)).toInt ∧ (up3 _ _ _ _ _ (o * 3)).toInt < _
        rw [up3_n (by omega)]; exact q.1
      · show 0 ≤ (up3 _ _ _ _ _ (o * 3 + 1)).toInt ∧ (up3 _ _ _ _ _ (o * 3 + 1)).toInt ≤ _
        rw [up3_n (by omega)]; exact q.2.1
      · show 1 ≤ (up3 _ _ _ _ _ (o * 3 + 2)).toInt ∧ (up3 _ _ _ _ _ (o * 3 + 2)).toInt ≤ _
        rw [up3_n (by omega)]; exact q.2.2
theorem op_order {σ : XS} {τ : MS} (h : Rel σ τ) (a b c : Int32) : Op (f_X6_order a b c σ) (f_X7_order a b c τ) := by
  obtain ⟨hT, ok, hr⟩ := id h
  have okx : tOk (xT σ) := by rw [hT]; exact ok
  unfold f_X6_order f_X7_order
  simp only [x_hasThing okx, m_isThing ok, w_in, m_in, bnd_some, ite01, nmv, Int32.toInt_toInt64, Int32.reduceToInt, Int64.reduceToInt, fx_0, fm_0, fx_1, fm_1, hT, l4]
  by_cases h1 : pThing (dc (m_m τ)) a
  · rw [if_neg (not_not_intro h1), if_neg (not_not_intro h1)]
    by_cases h2 : 0 ≤ b.toInt ∧ b.toInt ≤ 399
    · rw [if_neg (not_not_intro h2), if_neg (not_not_intro h2)]
      by_cases h3 : 1 ≤ c.toInt ∧ c.toInt ≤ 99
      · rw [if_neg (not_not_intro h3), if_neg (not_not_intro h3)]
        obtain ⟨n, hn, hn1, -⟩ := i_ex (x := tOrders (dc (m_m τ))) (by have := ok.2.2.2.2.1; omega)
        have hn5 : n ≤ 5 := by have := ok.2.2.2.2.1; omega
        have hm : m_m τ 4 = nI n := hn
        simp (disch := omega) only [hn, hm, show (5 : Int32) = nI 5 from rfl, ltI, eqI]
        by_cases e : n = 5
        · rw [if_pos e, if_neg (by omega)]
          exact Op.mk' (h.fd (by decide))
        · have hlt : n < 5 := by omega
          rw [if_pos hlt, if_neg e, x_addOrder (by rw [hT]; exact hn) hlt, bnd_some, hT]
          simp (disch := omega) only [n222, n3, n2, n1', pk_mul, nI_add, cl', nIneg, leF, or_self, if_false, mm_mu, mu_mu, upd_n, hm, upd_s]
          have ed : dc (upd (upd (upd (upd (m_m τ) (222 + 3 * n) a) (222 + 3 * n + 1) b) (222 + 3 * n + 2) c) 4 (nI (n + 1))) = uOrders (uOrd (dc (m_m τ)) (up3 (tOrd (dc (m_m τ))) (n * 3) a b c)) (nI (n + 1)) := by
            rw [dc_4, ← dc_ord3 _ hlt, show 222 + 3 * n = 222 + n * 3 by omega]
            rfl
          refine Op.mk2 (nI_p1 (a := n)).symm (h.town ed.symm ?_)
          rw [ed]
          exact tOk_order ok hn hlt h1 h2 h3
      · rw [if_pos h3, if_pos h3]
        exact Op.mk' (h.fd (by decide))
    · rw [if_pos h2, if_pos h2]
      exact Op.mk' (h.fd (by decide))
  · rw [if_pos h1, if_pos h1]
    exact Op.mk' (h.fd (by decide))
theorem op_orderOf {σ : XS} {τ : MS} (h : Rel σ τ) (a b : Int32) : Op (f_X6_orderOf a b σ) (f_X7_orderOf a b τ) := by
  obtain ⟨hT, ok, hr⟩ := id h
  have hb5 : 0 ≤ (m_m τ 4).toInt ∧ (m_m τ 4).toInt ≤ 5 := ok.2.2.2.2.1
  have hx : tOrders (xT σ) = m_m τ 4 := by rw [hT]; rfl
  unfold f_X6_orderOf f_X7_orderOf
  simp only [w_in, m_in, bnd_some, ite01, nmv, Int32.toInt_toInt64, Int32.reduceToInt, Int64.reduceToInt, fx_0, fm_0, hx, l4, le_pred (b := m_m τ 4) (by omega)]
  by_cases h1 : 0 ≤ a.toInt ∧ a.toInt < (m_m τ 4).toInt
  · rw [if_neg (not_not_intro h1), if_neg (not_not_intro h1)]
    by_cases h2 : 0 ≤ b.toInt ∧ b.toInt ≤ 2
    · rw [if_neg (not_not_intro h2), if_neg (not_not_intro h2)]
      obtain ⟨n, rfl, hn, -⟩ := i_ex h1.1
      obtain ⟨w, rfl, hw, -⟩ := i_ex h2.1
      unfold f_X5_orderNumber
      simp (disch := omega) only [n222, n3, pk_mul, nI_add, cl', nIneg, leF, or_self, if_false, nmv, bnd_some, hT, dc_Ord]
      rw [if_pos (by omega), show 222 + (n * 3 + w) = 222 + 3 * n + w by omega]
      exact Op.mk' h
    · rw [if_pos h2, if_pos h2]
      exact Op.mk' (h.fd (by decide))
  · rw [if_pos h1, if_pos h1]
    exact Op.mk' (h.fd (by decide))
theorem tOk_spot {T : TownS} (ok : tOk T) {n : Nat} {v : Int32} (hv : -1 ≤ v.toInt ∧ v.toInt < (tThings T).toInt) : tOk (uSpots T (upd (tSpots T) n v)) := by
  obtain ⟨o1, o2, o3, o4, o5, o6, o7, o8, o9, o10, o11⟩ := ok
  refine ⟨o1, o2, o3, o4, o5, o6, o7, o8, o9, o10, ?_⟩
  intro k hk
  show -1 ≤ (upd _ n v k).toInt ∧ (upd _ n v k).toInt < _
  by_cases e : k = n
  · rw [e, upd_s]; exact hv
  · rw [upd_n e]; exact o11 k hk
theorem op_hold {σ : XS} {τ : MS} (h : Rel σ τ) (a b : Int32) : Op (f_X6_hold a b σ) (f_X7_hold a b τ) := by
  obtain ⟨hT, ok, hr⟩ := id h
  have hx : tThings (xT σ) = tThings (dc (m_m τ)) := by rw [hT]
  have hb8 : 0 ≤ (tThings (dc (m_m τ))).toInt ∧ (tThings (dc (m_m τ))).toInt ≤ 8 := ok.2.2.2.1
  unfold f_X6_hold f_X7_hold
  simp only [m_isThing ok, w_in, m_in, bnd_some, ite01, nmv, Int32.toInt_toInt64, Int32.reduceToInt, Int64.reduceToInt, fx_0, fm_0, hx, tm1, le_pred (b := tThings (dc (m_m τ))) (by omega)]
  by_cases h1 : 0 ≤ a.toInt ∧ a.toInt ≤ 9
  · rw [if_neg (not_not_intro h1), if_neg (not_not_intro h1)]
    obtain ⟨n, rfl, hn, -⟩ := i_ex h1.1
    simp (disch := omega) only [cl', nIneg, leF, or_self, if_false, n237, nI_add]
    by_cases e1 : b = -1
    · have hb : -1 ≤ b.toInt ∧ b.toInt < (tThings (dc (m_m τ))).toInt := by rw [e1, tm1]; omega
      rw [if_neg (not_not_intro hb), if_pos e1, hT]
      refine Op.mk2 rfl (h.town (dc_spots _ (by omega) _).symm ?_)
      rw [dc_spots _ (by omega)]
      exact tOk_spot ok hb
    · rw [if_neg e1]
      have hb1 : b.toInt ≠ -1 := fun q => e1 (by rw [i_eq, q, tm1])
      by_cases h2 : pThing (dc (m_m τ)) b
      · have hb : -1 ≤ b.toInt ∧ b.toInt < (tThings (dc (m_m τ))).toInt := by have := h2.1; have := h2.2; omega
        rw [if_neg (not_not_intro hb), if_neg (not_not_intro h2), hT]
        refine Op.mk2 rfl (h.town (dc_spots _ (by omega) _).symm ?_)
        rw [dc_spots _ (by omega)]
        exact tOk_spot ok hb
      · have hb : ¬ (-1 ≤ b.toInt ∧ b.toInt < (tThings (dc (m_m τ))).toInt) := fun q => h2 ⟨by omega, q.2⟩
        rw [if_pos hb, if_pos h2]
        exact Op.mk' (h.fd (by decide))
  · rw [if_pos h1, if_pos h1]
    exact Op.mk' (h.fd (by decide))
