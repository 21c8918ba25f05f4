theorem upd_upd (f : Fn) (k : Nat) (x y : Int32) : upd (upd f k x) k y = upd f k y := by
  funext j; unfold upd; by_cases h : j = k <;> simp [h]
theorem ixa0 (t : Nat) : ((((14 : Int32) + ((26 : Int32) * nI t)) + (2 : Int32)) + ((3 : Int32) * (0 : Int32))) + (0 : Int32) = nI (16 + 26 * t) := ix_at t 0 0
theorem ixa1 (t : Nat) : ((((14 : Int32) + ((26 : Int32) * nI t)) + (2 : Int32)) + ((3 : Int32) * (0 : Int32))) + (1 : Int32) = nI (16 + 26 * t + 1) := ix_at t 0 1
theorem ixa2 (t : Nat) : ((((14 : Int32) + ((26 : Int32) * nI t)) + (2 : Int32)) + ((3 : Int32) * (0 : Int32))) + (2 : Int32) = nI (16 + 26 * t + 2) := ix_at t 0 2
theorem x_addThing {u : XS} {n : Nat} (hn : tThings (xT u) = nI n) (h8 : n < 8) (a : Int32) : f_X5_addThing a u = some (nI n, sT u (uThings (uCounts (uKinds (xT u) (upd (tKinds (xT u)) n a)) (upd (tCounts (xT u)) n 0)) (nI (n + 1)))) := by
  unfold f_X5_addThing
  simp (disch := omega) only [nmv, hn, n8, ltI, h8, if_true, nIneg, cl', leF, or_self, if_false, nI_s1, nI_p1, xT_sT, sT_sT, tu_Things_Kinds, tu_Things_Counts, tu_Counts_Kinds, tu_Things_Things]
/-- the town with one thing more, of one step -/
def tThing (T : TownS) (n : Nat) (k a b c : Int32) : TownS := uThings (uNums (uCounts (uKinds T (upd (tKinds T) n k)) (upd (tCounts T) n (nI 1))) (up3 (tNums T) (n * 24) a b c)) (nI (n + 1))
theorem tOk_thing {T : TownS} (ok : tOk T) {n : Nat} (hn : tThings T = nI n) (h8 : n < 8) {k a b c : Int32} (hk : 0 ≤ k.toInt ∧ k.toInt ≤ 6) (ha : pTool T a) (hb : 1 ≤ b.toInt ∧ b.toInt ≤ 8) (hw : 0 ≤ c.toInt ∧ c.toInt ≤ 99) : tOk (tThing T n k a b c) := by
  have hN : (tThings T).toInt = n := by rw [hn, i_nI (by omega)]
  have hN1 : (nI (n + 1)).toInt = n + 1 := by rw [i_nI (by omega)]; omega
  obtain ⟨o1, o2, o3, o4, o5, o6, o7, o8, o9, o10, o11⟩ := ok
  refine ⟨o1, o2, o3, ?_, o5, o6, ?_, ?_, ?_, ?_, ?_⟩
  · show 0 ≤ (nI (n + 1)).toInt ∧ (nI (n + 1)).toInt ≤ 8
    omega
  · intro j hj
    show 0 ≤ (upd _ n k j).toInt ∧ (upd _ n k j).toInt ≤ 6
    by_cases e : j = n
    · rw [e, upd_s]; exact hk
    · rw [upd_n e]; exact o7 j hj
  · intro j hj
    have hj : (j : Int) < (nI (n + 1)).toInt := hj
    show 1 ≤ (upd _ n _ j).toInt ∧ (upd _ n _ j).toInt ≤ 8
    by_cases e : j = n
    · rw [e, upd_s, i_nI (by omega)]; omega
    · rw [upd_n e]; exact o8 j (by omega)
  · intro j i hj hi
    have hj : (j : Int) < (nI (n + 1)).toInt := hj
    have hi : (i : Int) < (upd (tCounts T) n (nI 1) j).toInt := hi
    by_cases e : j = n
    · subst e
      rw [upd_s, i_nI (by omega)] at hi
      have : i = 0 := by omega
      subst this
      refine ⟨?_, ?_, ?_⟩
      · show 0 ≤ (up3 _ _ _ _ _ (j * 24)).toInt ∧ (up3 _ _ _ _ _ (j * 24)).toInt < _
        rw [up3_0]; exact ha
      · show 1 ≤ (up3 _ _ _ _ _ (j * 24 + 1)).toInt ∧ (up3 _ _ _ _ _ (j * 24 + 1)).toInt ≤ _
        rw [up3_1]; exact hb
      · show 0 ≤ (up3 _ _ _ _ _ (j * 24 + 2)).toInt ∧ (up3 _ _ _ _ _ (j * 24 + 2)).toInt ≤ _
        rw [up3_2]; exact hw
    · rw [upd_n e] at hi
      have hj2 : (j : Int) < (tThings T).toInt := by omega
      have q := o9 j i hj2 hi
      have c8 := (o8 j hj2).2
      refine ⟨?_, ?_, ?_⟩
      · show 0 ≤ (up3 _ _ _ _ _ (j * 24 + i * 3)).toInt ∧ (up3 _ _ _ _ _ (j * 24 + i * 3)).toInt < _
        rw [up3_n (by omega)]; exact q.1
      · show 1 ≤ (up3 _ _ _ _ _ (j * 24 + i * 3 + 1)).toInt ∧ (up3 _ _ _ _ _ (j * 24 + i * 3 + 1)).toInt ≤ _
        rw [up3_n (by omega)]; exact q.2.1
      · show 0 ≤ (up3 _ _ _ _ _ (j * 24 + i * 3 + 2)).toInt ∧ (up3 _ _ _ _ _ (j * 24 + i * 3 + 2)).toInt ≤ _
        rw [up3_n (by omega)]; exact q.2.2
  · intro o ho
    obtain ⟨q1, q2⟩ := o10 o ho
    refine ⟨⟨q1.1, ?_⟩, q2⟩
    show (tOrd T (o * 3)).toInt < (nI (n + 1)).toInt
    have := q1.2
    omega
  · intro j hj
    refine ⟨(o11 j hj).1, ?_⟩
    show (tSpots T j).toInt < (nI (n + 1)).toInt
    have := (o11 j hj).2
    omega
theorem dc_thing (m : Fn) {n : Nat} (h8 : n < 8) (k a b c : Int32) : dc (upd (upd (upd (upd (upd (upd m (14 + 26 * n) k) (15 + 26 * n) (nI 1)) (16 + 26 * n) a) (16 + 26 * n + 1) b) (16 + 26 * n + 2) c) 3 (nI (n + 1))) = tThing (dc m) n k a b c := by
  rw [dc_3]
  have e := dc_up3 (upd (upd m (14 + 26 * n) k) (15 + 26 * n) (nI 1)) (t := n) (i := 0) h8 (by omega) a b c
  simp only [Nat.mul_zero, Nat.add_zero, Nat.zero_add, Nat.zero_mul] at e
  rw [e, dc_counts _ h8, dc_kinds _ h8]
  rfl
set_option maxHeartbeats 1000000 in
theorem op_thing {σ : XS} {τ : MS} (h : Rel σ τ) (a b c : Int32) : Op (f_X6_thing a b c σ) (f_X7_thing a b c τ) := by
  obtain ⟨hT, ok, hr⟩ := id h
  have okx : tOk (xT σ) := by rw [hT]; exact ok
  unfold f_X6_thing f_X7_thing
  simp only [x_hasTool okx, m_isTool ok, m_isKind, w_in, m_in, bnd_some, ite01, nmv, Int32.toInt_toInt64, Int32.reduceToInt, Int64.reduceToInt, fx_0, fm_0, fx_1, fm_1, hT, l3]
  by_cases h1 : 0 ≤ a.toInt ∧ a.toInt ≤ 6
  · rw [if_neg (not_not_intro h1), if_neg (not_not_intro h1)]
    by_cases h2 : pTool (dc (m_m τ)) b
    · rw [if_neg (not_not_intro h2), if_neg (not_not_intro h2)]
      by_cases h3 : 1 ≤ c.toInt ∧ c.toInt ≤ 8
      · rw [if_neg (not_not_intro h3), if_neg (not_not_intro h3)]
        obtain ⟨n, hn, hn1, -⟩ := i_ex (x := tThings (dc (m_m τ))) (by have := ok.2.2.2.1; omega)
        have hn8 : n ≤ 8 := by have := ok.2.2.2.1; omega
        have hm : m_m τ 3 = nI n := hn
        simp (disch := omega) only [hn, hm, n8, ltI, eqI]
        by_cases e : n = 8
        · rw [if_pos e, if_neg (by omega)]
          exact Op.mk' (h.fd (by decide))
        · have hlt : n < 8 := by omega
          rw [if_pos hlt, if_neg e, x_addThing (by rw [hT]; exact hn) hlt, bnd_some, x_addStep (t := n) (i := 0) (n := n + 1) rfl (by omega) (by omega) (by rw [xT_sT]; exact upd_s) (by omega), bnd_some, hT]
          unfold f_X7_at
          simp (disch := omega) only [bnd_some, ixa0, ixa1, ixa2, ix_count]
          simp (disch := omega) only [ix_kind, cl', nIneg, leF, or_self, if_false, mm_mu, mu_mu, upd_n, hm, nI_s1]
          have ed := dc_thing (m_m τ) hlt a b c 99
          refine Op.mk2 rfl (h.town ?_ ?_)
          · refine Eq.trans ?_ ed.symm
            unfold tThing
            rw [show n * 24 + 0 * 3 = n * 24 by omega]
            show uCounts (uNums _ _) (upd (upd (tCounts (dc (m_m τ))) n 0) n (nI (0 + 1))) = _
            rw [upd_upd]
          · exact (show _ = _ from ed) ▸ tOk_thing ok hn hlt h1 h2 h3 ⟨by decide, by decide⟩
      · rw [if_pos h3, if_pos h3]
        exact Op.mk' (h.fd (by decide))
    · rw [if_pos h2, if_pos h2]
      exact Op.mk' (h.fd (by decide))
  · rw [if_pos h1, if_pos h1]
    exact Op.mk' (h.fd (by decide))
