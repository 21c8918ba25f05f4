theorem nI_sub {a b : Nat} (h : b ≤ a) : nI a - nI b = nI (a - b) := by
  have e : nI a = nI (a - b) + nI b := by rw [nI_add, Nat.sub_add_cancel h]
  rw [e]; exact Int32.add_sub_cancel _ _
theorem Rel.on {σ : XS} {τ : MS} (h : Rel σ τ) (L O : Fn) : Rel (sL σ L) (mu_on τ O) := h
/-- a day, or NONE, on both sides -/
theorem op_none {σ : XS} {τ : MS} (h : Rel σ τ) (r : Int32) : Op (bnd (f_X6_dayOrNone r σ) fun a u => some (a, u)) (bnd (f_X7_orNone r τ) fun a u => some (a, u)) := by
  unfold f_X6_dayOrNone f_X7_orNone
  by_cases h1 : 0 ≤ r
  · rw [if_pos h1, if_pos h1]; exact Op.mk' h
  · rw [if_neg h1, if_neg h1, fx_3, fm_3]; exact Op.mk' (h.fd (by decide))
theorem op_next {σ : XS} {τ : MS} (h : Rel σ τ) (a b c : Int32) : Op (f_X6_next a b c σ) (f_X7_next a b c τ) := by
  obtain ⟨hT, ok, hr⟩ := id h
  have okx : tOk (xT σ) := by rw [hT]; exact ok
  unfold f_X6_next f_X7_next
  rw [x_hasStep okx, m_isStep ok, bnd_some, bnd_some, hT]
  simp only [w_in, m_isDay, bnd_some, ite01, Int32.reduceToInt, fx_0, fm_0]
  by_cases h1 : pStep (dc (m_m τ)) a b
  · rw [if_neg (not_not_intro h1), if_neg (not_not_intro h1)]
    by_cases h2 : 0 ≤ c.toInt ∧ c.toInt ≤ 999
    · rw [if_neg (not_not_intro h2), if_neg (not_not_intro h2)]
      obtain ⟨⟨p1, p2⟩, p3, p4⟩ := h1
      obtain ⟨t, rfl, ht, ht2⟩ := i_ex p1
      obtain ⟨i, rfl, hi, -⟩ := i_ex p3
      obtain ⟨d, rfl, hd, -⟩ := i_ex h2.1
      rw [cl' ht2] at p4
      have hs : isS (dc (m_m τ)) t i := ⟨by omega, by omega⟩
      rw [x_next okx (by rw [hT]; exact hs) (by omega), m_next ok hs (by omega), bnd_some, bnd_some, hT]
      exact op_none h _
    · rw [if_pos h2, if_pos h2]; exact Op.mk' (h.fd (by decide))
  · rw [if_pos h1, if_pos h1]; exact Op.mk' (h.fd (by decide))
theorem op_spoils {σ : XS} {τ : MS} (h : Rel σ τ) (a c : Int32) : Op (f_X6_spoils a c σ) (f_X7_spoils a c τ) := by
  obtain ⟨hT, ok, hr⟩ := id h
  have okx : tOk (xT σ) := by rw [hT]; exact ok
  unfold f_X6_spoils f_X7_spoils
  rw [x_hasThing okx, m_isThing ok, bnd_some, bnd_some, hT]
  simp only [w_in, m_isDay, bnd_some, ite01, Int32.reduceToInt, fx_0, fm_0]
  by_cases h1 : pThing (dc (m_m τ)) a
  · rw [if_neg (not_not_intro h1), if_neg (not_not_intro h1)]
    by_cases h2 : 0 ≤ c.toInt ∧ c.toInt ≤ 999
    · rw [if_neg (not_not_intro h2), if_neg (not_not_intro h2)]
      obtain ⟨p1, p2⟩ := h1
      obtain ⟨t, rfl, ht, ht2⟩ := i_ex p1
      obtain ⟨d, rfl, hd, -⟩ := i_ex h2.1
      have hs : (t : Int) < (tThings (dc (m_m τ))).toInt := by omega
      rw [x_through okx (by rw [hT]; exact hs) (by omega), m_runs ok hs (by omega), bnd_some, bnd_some, hT]
      exact op_none (h.on _ _) _
    · rw [if_pos h2, if_pos h2]; exact Op.mk' (h.fd (by decide))
  · rw [if_pos h1, if_pos h1]; exact Op.mk' (h.fd (by decide))
theorem gs_or {T : TownS} (ok : tOk T) {t b : Nat} (ht : (t : Int) < (tThings T).toInt) : (gs T t b = -1 ∧ ¬ 0 ≤ gs T t b ∧ gs T t b < 0) ∨ (0 ≤ gs T t b ∧ ¬ gs T t b < 0) := by
  rcases gs_rng ok ht (b := b) with e | ⟨j, e, hj⟩
  · left; rw [e]; decide
  · right; rw [e]; exact ⟨nI_nn (by omega), nI_nneg (by omega)⟩
theorem op_run {σ : XS} {τ : MS} (h : Rel σ τ) (a c b : Int32) : Op (f_X6_run a c b σ) (f_X7_run a c b τ) := by
  obtain ⟨hT, ok, hr⟩ := id h
  have okx : tOk (xT σ) := by rw [hT]; exact ok
  unfold f_X6_run f_X7_run
  rw [x_hasStep okx, m_isStep ok, bnd_some, bnd_some, hT]
  simp only [w_in, m_isDay, bnd_some, ite01, Int32.reduceToInt, fx_0, fm_0]
  by_cases h1 : pStep (dc (m_m τ)) a b
  · rw [if_neg (not_not_intro h1), if_neg (not_not_intro h1)]
    by_cases h2 : 0 ≤ c.toInt ∧ c.toInt ≤ 999
    · rw [if_neg (not_not_intro h2), if_neg (not_not_intro h2)]
      obtain ⟨⟨p1, p2⟩, p3, p4⟩ := h1
      obtain ⟨t, rfl, ht, ht2⟩ := i_ex p1
      obtain ⟨i, rfl, hi, -⟩ := i_ex p3
      obtain ⟨d, rfl, hd, -⟩ := i_ex h2.1
      rw [cl' ht2] at p4
      have hs : (t : Int) < (tThings (dc (m_m τ))).toInt := by omega
      obtain ⟨c1, c2, c3, c4⟩ := sc_ok ok hs
      have hi8 : i < sc (dc (m_m τ)) t := by
        have q := i_nI (n := sc (dc (m_m τ)) t) (by omega)
        rw [c2] at p4; omega
      rw [x_through okx (by rw [hT]; exact hs) (by omega), m_runs ok hs (by omega), bnd_some, bnd_some, hT]
      rcases gs_or ok hs (b := d) with ⟨g0, g1, g2⟩ | ⟨g1, g2⟩
      · rw [if_neg g1, if_pos g2]
        simp (disch := omega) only [nIneg, cl', leF, or_self, if_false, xL_sL, mon_on]
        obtain ⟨x, hx, hx1, hx2⟩ := gd_rng ok hs (by omega) g0 hi8
        rw [gl_gd ok hs (by omega) g0 _ hi8, gl_gd ok hs (by omega) g0 _ hi8]
        unfold f_X6_dayOrNone
        rw [hx, if_pos (nI_nn (by omega))]
        exact Op.mk' (h.on _ _)
      · rw [if_pos g1, if_neg g2]
        unfold f_X6_dayOrNone
        rw [if_neg (by decide), fx_3, fm_3]
        exact Op.mk' ((h.on _ _).fd (by decide))
    · rw [if_pos h2, if_pos h2]; exact Op.mk' (h.fd (by decide))
  · rw [if_pos h1, if_pos h1]; exact Op.mk' (h.fd (by decide))
theorem op_begun {σ : XS} {τ : MS} (h : Rel σ τ) (a c : Int32) : Op (f_X6_begun a c σ) (f_X7_begun a c τ) := by
  obtain ⟨hT, ok, hr⟩ := id h
  have okx : tOk (xT σ) := by rw [hT]; exact ok
  unfold f_X6_begun f_X7_begun
  rw [x_hasThing okx, m_isThing ok, bnd_some, bnd_some, hT]
  simp only [w_in, m_isDay, bnd_some, ite01, Int32.reduceToInt, fx_0, fm_0]
  by_cases h1 : pThing (dc (m_m τ)) a
  · rw [if_neg (not_not_intro h1), if_neg (not_not_intro h1)]
    by_cases h2 : 0 ≤ c.toInt ∧ c.toInt ≤ 999
    · rw [if_neg (not_not_intro h2), if_neg (not_not_intro h2)]
      obtain ⟨p1, p2⟩ := h1
      obtain ⟨t, rfl, ht, ht2⟩ := i_ex p1
      obtain ⟨d, rfl, hd, -⟩ := i_ex h2.1
      have hs : (t : Int) < (tThings (dc (m_m τ))).toInt := by omega
      obtain ⟨L, e1, -⟩ := x_begun okx (t := t) (b := d) (by rw [hT]; exact hs) (by omega)
      obtain ⟨O, e2, -⟩ := m_begun ok hs (b := d) (by omega)
      rw [e1, e2, bnd_some, bnd_some, hT]
      exact op_none (h.on _ _) _
    · rw [if_pos h2, if_pos h2]; exact Op.mk' (h.fd (by decide))
  · rw [if_pos h1, if_pos h1]; exact Op.mk' (h.fd (by decide))
theorem bN_cases (T : TownS) (t b : Nat) : bN T t b = -1 ∨ ∃ i, i < 201 ∧ bN T t b = nI (b + i) := by
  rcases ff_cases (gb T t) b 201 with ⟨e, -⟩ | ⟨j, hj, e, -⟩
  · exact .inl e
  · exact .inr ⟨j, hj, e⟩
/-- READY: the last day of the first begin that goes through -/
def rd (T : TownS) (t b : Nat) : Int32 := if 0 ≤ bN T t b then gd T t (bN T t b).toNatClampNeg (sc T t - 1) else -1
theorem x_last {u : XS} (ok : tOk (xT u)) {t : Nat} (ht : (t : Int) < (tThings (xT u)).toInt) : f_X0_lastRunDay (nI t) u = some (xL u (sc (xT u) t - 1), u) := by
  obtain ⟨c1, c2, c3, c4⟩ := sc_ok ok ht
  unfold f_X0_lastRunDay
  simp (disch := omega) only [nIneg, cl', leF, or_self, if_false, nmv]
  rw [c2, show (1 : Int32) = nI 1 from rfl, if_pos (nI_le (by omega) (by omega)), nI_sub (by omega)]
  simp (disch := omega) only [nIneg, cl', leF, or_self, if_false, nmv]
theorem m_last {u : MS} (ok : tOk (dc (m_m u))) {t : Nat} (ht : (t : Int) < (tThings (dc (m_m u))).toInt) : f_X7_lastDay (nI t) u = some (m_on u (sc (dc (m_m u)) t - 1), u) := by
  obtain ⟨c1, c2, c3, c4⟩ := sc_ok ok ht
  unfold f_X7_lastDay
  rw [m_steps _ c1, bnd_some, c2, nmv, show (1 : Int32) = nI 1 from rfl, nI_sub (by omega)]
  simp (disch := omega) only [nIneg, cl', leF, or_self, if_false]
theorem x_ready {u : XS} (ok : tOk (xT u)) {t b : Nat} (ht : (t : Int) < (tThings (xT u)).toInt) (hb : b < 10000) : ∃ L, f_X0_readyFrom (nI t) (nI b) u = some (rd (xT u) t b, sL u L) := by
  obtain ⟨L, e, hL⟩ := x_begun ok ht hb
  obtain ⟨c1, c2, c3, c4⟩ := sc_ok ok ht
  refine ⟨L, ?_⟩
  unfold f_X0_readyFrom rd
  rw [e, bnd_some]
  rcases bN_cases (xT u) t b with q | ⟨i, hi, q⟩
  · rw [q, if_neg (by decide), if_neg (by decide)]
  · rw [q, if_pos (nI_nn (by omega)), if_pos (nI_nn (by omega)), x_last (u := sL u L) ok ht, bnd_some, xL_sL, cl' (by omega), xT_sL]
    rw [(hL i q hi).2 _ (by omega)]
theorem m_ready {u : MS} (ok : tOk (dc (m_m u))) {t b : Nat} (ht : (t : Int) < (tThings (dc (m_m u))).toInt) (hb : b < 10000) : ∃ L, f_X7_readyAt (nI t) (nI b) u = some (rd (dc (m_m u)) t b, mu_on u L) := by
  obtain ⟨L, e, hL⟩ := m_begun ok ht hb
  obtain ⟨c1, c2, c3, c4⟩ := sc_ok ok ht
  refine ⟨L, ?_⟩
  unfold f_X7_readyAt rd
  rw [e, bnd_some]
  rcases bN_cases (dc (m_m u)) t b with q | ⟨i, hi, q⟩
  · rw [q, if_neg (by decide), if_neg (by decide)]
  · rw [q, if_pos (nI_nn (by omega)), if_pos (nI_nn (by omega)), m_last (u := mu_on u L) ok ht, bnd_some, mon_on, cl' (by omega), mm_on]
    rw [(hL i q hi).2 _ (by omega)]
theorem op_ready {σ : XS} {τ : MS} (h : Rel σ τ) (a c : Int32) : Op (f_X6_ready a c σ) (f_X7_ready a c τ) := by
  obtain ⟨hT, ok, hr⟩ := id h
  have okx : tOk (xT σ) := by rw [hT]; exact ok
  unfold f_X6_ready f_X7_ready
  rw [x_hasThing okx, m_isThing ok, bnd_some, bnd_some, hT]
  simp only [w_in, m_isDay, bnd_some, ite01, Int32.reduceToInt, fx_0, fm_0]
  by_cases h1 : pThing (dc (m_m τ)) a
  · rw [if_neg (not_not_intro h1), if_neg (not_not_intro h1)]
    by_cases h2 : 0 ≤ c.toInt ∧ c.toInt ≤ 999
    · rw [if_neg (not_not_intro h2), if_neg (not_not_intro h2)]
      obtain ⟨p1, p2⟩ := h1
      obtain ⟨t, rfl, ht, ht2⟩ := i_ex p1
      obtain ⟨d, rfl, hd, -⟩ := i_ex h2.1
      have hs : (t : Int) < (tThings (dc (m_m τ))).toInt := by omega
      obtain ⟨L, e1⟩ := x_ready okx (t := t) (b := d) (by rw [hT]; exact hs) (by omega)
      obtain ⟨O, e2⟩ := m_ready ok hs (b := d) (by omega)
      rw [e1, e2, bnd_some, bnd_some, hT]
      exact op_none (h.on _ _) _
    · rw [if_pos h2, if_pos h2]; exact Op.mk' (h.fd (by decide))
  · rw [if_pos h1, if_pos h1]; exact Op.mk' (h.fd (by decide))
theorem ff_at {P : Nat → Bool} {d : Nat} (hd : d < 90000) : ff P d 12 = nI d ↔ P d = true := by
  rcases ff_cases P d 12 with ⟨e, hn⟩ | ⟨j, hj, e, h1, h2⟩
  · constructor
    · intro q; rw [e] at q; exact absurd q.symm (nI_ne1 (by omega))
    · intro q; have := hn 0 (by omega); rw [Nat.add_zero, q] at this; cases this
  · constructor
    · intro q; rw [e] at q
      have := (nI_eq (a := d + j) (b := d) (by omega) (by omega)).mp q
      rw [this] at h1; exact h1
    · intro q
      by_cases hj0 : j = 0
      · rw [e, hj0, Nat.add_zero]
      · have := h2 0 (by omega); rw [Nat.add_zero, q] at this; cases this
theorem fF_at {T : TownS} {k d : Nat} (hd : d < 90000) : fF T k d = nI d ↔ mB T k d = true := ff_at hd
theorem op_may {σ : XS} {τ : MS} (h : Rel σ τ) (a c : Int32) : Op (f_X6_may a c σ) (f_X7_may a c τ) := by
  obtain ⟨hT, ok, hr⟩ := id h
  have okx : tOk (xT σ) := by rw [hT]; exact ok
  unfold f_X6_may f_X7_may
  rw [x_hasTool okx, m_isTool ok, bnd_some, bnd_some, hT]
  simp only [w_in, m_isDay, bnd_some, ite01, Int32.reduceToInt, fx_0, fm_0]
  by_cases h1 : pTool (dc (m_m τ)) a
  · rw [if_neg (not_not_intro h1), if_neg (not_not_intro h1)]
    by_cases h2 : 0 ≤ c.toInt ∧ c.toInt ≤ 999
    · rw [if_neg (not_not_intro h2), if_neg (not_not_intro h2)]
      obtain ⟨p1, p2⟩ := h1
      obtain ⟨t, rfl, ht, ht2⟩ := i_ex p1
      obtain ⟨d, rfl, hd, -⟩ := i_ex h2.1
      have hk : t < 8 := by have := ok.2.2.1; omega
      rw [x_fd0 okx hk (by omega), m_mayBe ok hk (by omega), bnd_some, bnd_some, hT]
      by_cases b1 : mB (dc (m_m τ)) t d = true
      · rw [if_pos ((fF_at (by omega)).mpr b1)]
        simp only [if_pos b1]
        exact Op.mk' h
      · rw [if_neg (fun q => b1 ((fF_at (by omega)).mp q))]
        simp only [if_neg b1, if_true]
        rw [m_mayNear ok hk (by omega), bnd_some]
        by_cases hn : tNear (dc (m_m τ)) < 0
        · rw [if_pos hn]
          simp only [hn, not_true, false_and, if_false, if_true]
          exact Op.mk' h
        · rw [if_neg hn]
          have e : tNear (dc (m_m τ)) = nI (nN (dc (m_m τ))) := i_of (by rw [i_lt] at hn; have : (0 : Int32).toInt = 0 := rfl; omega)
          have hl : nN (dc (m_m τ)) < 50 := by have := ok.2.1; have q := i_cl (x := tNear (dc (m_m τ))) (by rw [i_lt] at hn; have : (0 : Int32).toInt = 0 := rfl; omega); unfold nN; omega
          rw [e, x_fd okx hk (by omega) hl, bnd_some, hT, ← e]
          by_cases b2 : mB (dc (m_m τ)) t (d + nN (dc (m_m τ))) = true
          · rw [if_pos ((ff_at (P := fun x => mB (dc (m_m τ)) t (x + nN (dc (m_m τ)))) (by omega)).mpr b2)]
            simp only [hn, b2, not_false_eq_true, and_self, if_true]
            exact Op.mk' h
          · rw [if_neg (fun q => b2 ((ff_at (P := fun x => mB (dc (m_m τ)) t (x + nN (dc (m_m τ)))) (by omega)).mp q))]
            rw [if_neg (show ¬ (¬ tNear (dc (m_m τ)) < 0 ∧ mB (dc (m_m τ)) t (d + nN (dc (m_m τ))) = true) from fun q => b2 q.2), if_pos rfl]
            exact Op.mk' h
    · rw [if_pos h2, if_pos h2]; exact Op.mk' (h.fd (by decide))
  · rw [if_pos h1, if_pos h1]; exact Op.mk' (h.fd (by decide))
