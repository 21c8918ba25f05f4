theorem tOk_day {T : TownS} (ok : tOk T) {n : Nat} {v : Int32} (hv : 0 ≤ v.toInt ∧ v.toInt ≤ 4095) : tOk (uDays T (upd (tDays T) n v)) := by
  obtain ⟨o1, o2, o3, o4, o5, o6, o7⟩ := ok
  refine ⟨o1, o2, o3, o4, o5, ?_, o7⟩
  intro k hk
  show 0 ≤ (upd _ n v k).toInt ∧ (upd _ n v k).toInt ≤ 4095
  by_cases e : k = n
  · rw [e, upd_s]; exact hv
  · rw [upd_n e]; exact o6 k hk
theorem op_load {σ : XS} {τ : MS} (h : Rel σ τ) (a : Int32) : Op (f_X6_load a σ) (f_X7_load a τ) := by
  have hB := h.2.2.2.2.2.2.1
  unfold f_X6_load f_X7_load
  simp only [x_isSheet, m_isSheet, bnd_some, ite01, fx_0, fm_0, fx_5, fm_5]
  by_cases h1 : 0 ≤ a.toInt ∧ a.toInt ≤ 3
  · rw [if_neg (not_not_intro h1), if_neg (not_not_intro h1)]
    obtain ⟨j, rfl, hj, -⟩ := i_ex h1.1
    have hj4 : j < 4 := by omega
    obtain ⟨b1, b2, b3, b4, b5⟩ := hB.1 j hj4
    simp (disch := omega) only [leF, if_false, nIneg, cl', or_self, b1]
    by_cases hb0 : m_bits τ j = 0
    · rw [if_pos hb0, if_pos hb0]
      exact Op.mk' (h.fd (by decide))
    · rw [if_neg hb0, if_neg hb0]
      have key := wl_par (st1 := f_X6_load_L35_35s) (st2 := f_X7_load_L33_33s) (fun m x y => ∃ i σ' τ', x = (j, nI i, σ') ∧ y = (nI j, nI i, τ') ∧ Rel σ' τ' ∧ m + i = 8) (fun e f => ∃ i σ' τ', e = .inr (nI i, σ') ∧ f = .inr (nI i, τ') ∧ Rel σ' τ') ?hs 8 (j, (0 : Int32), σ) (nI j, (0 : Int32), τ) ⟨0, σ, τ, rfl, rfl, h, rfl⟩
      · obtain ⟨e, f, he, hf, hJ⟩ := key
        obtain ⟨i, σ', τ', rfl, rfl, hR⟩ := hJ
        rw [he, hf]
        exact Op.mk' hR
      · rintro m x y ⟨i, σ', τ', rfl, rfl, hR, hm⟩
        obtain ⟨hT, ok, hr⟩ := id hR
        have hB' := hR.2.2.2.2.2.2.1
        obtain ⟨c1, c2, c3, c4, c5⟩ := hB'.1 j hj4
        have ht : 0 ≤ (m_m τ' 2).toInt ∧ (m_m τ' 2).toInt ≤ 8 := ok.2.2.1
        have hx : tTools (xT σ') = m_m τ' 2 := by rw [hT]; rfl
        show (∃ a' b', f_X6_load_L35_35 j (nI i) σ' = some (.inl a') ∧ f_X7_load_L33_33 (nI j) (nI i) τ' = some (.inl b') ∧ _) ∨ (∃ e f, f_X6_load_L35_35 j (nI i) σ' = some (.inr e) ∧ f_X7_load_L33_33 (nI j) (nI i) τ' = some (.inr f) ∧ _)
        unfold f_X6_load_L35_35 f_X7_load_L33_33
        simp (disch := omega) only [leF, if_false, nIneg, cl', or_self, c3, hx, l2, bnd_some]
        by_cases hz : m_size τ' j ≤ nI i
        · right
          rw [if_pos hz, if_pos hz]
          exact ⟨_, _, rfl, rfl, i, σ', τ', rfl, rfl, hR⟩
        · rw [if_neg hz, if_neg hz]
          by_cases hn : m_m τ' 2 ≤ nI i
          · right
            rw [if_pos hn, if_pos hn]
            exact ⟨_, _, rfl, rfl, i, σ', τ', rfl, rfl, hR⟩
          · rw [if_neg hn, if_neg hn]
            rw [i_le, i_nI (by omega)] at hz hn
            have hi8 : i < 8 := by omega
            have en : (xB σ').2.2 j i = m_number τ' (40 * j + i) := hB'.2 j i hj4 (by omega)
            simp (disch := omega) only [leF, if_false, nIneg, cl', or_self, n40, pk_mul, nI_add, nmv, w_in, m_in, bnd_some, en, ite01, Int32.toInt_toInt64, Int32.reduceToInt, Int64.reduceToInt]
            by_cases hv : 0 ≤ (m_number τ' (40 * j + i)).toInt ∧ (m_number τ' (40 * j + i)).toInt ≤ 4095
            · left
              rw [if_neg (not_not_intro hv), if_neg (not_not_intro hv)]
              simp (disch := omega) only [n6, nI_add, nIneg, cl', leF, or_self, if_false, nI_s1, hT]
              refine ⟨_, _, rfl, rfl, m - 1, by omega, i + 1, _, _, rfl, rfl, hR.town (dc_days _ hi8 _).symm ?_, by omega⟩
              rw [dc_days _ hi8]
              exact tOk_day ok hv
            · right
              rw [if_pos hv, if_pos hv]
              exact ⟨_, _, rfl, rfl, i, σ', τ', rfl, rfl, hR⟩
  · rw [if_pos h1, if_pos h1]
    exact Op.mk' (h.fd (by decide))
/-- n numbers from S on come to T on -/
def cN (f : Fn) (S T n : Nat) : Fn := fun x => if T ≤ x ∧ x < T + n then f (S + (x - T)) else f x
/-- the same, those that come last -/
def cD (f : Fn) (S T n i : Nat) : Fn := fun x => if T + n - i ≤ x ∧ x < T + n then f (S + (x - T)) else f x
theorem cN_0 (f : Fn) (S T : Nat) : cN f S T 0 = f := by funext x; unfold cN; rw [if_neg (by omega)]
theorem cD_0 (f : Fn) (S T n : Nat) : cD f S T n 0 = f := by funext x; unfold cD; rw [if_neg (by omega)]
theorem cD_n (f : Fn) (S T n : Nat) : cD f S T n n = cN f S T n := by
  funext x; unfold cD cN
  rw [show T + n - n = T by omega]
theorem cN_s (f : Fn) (S T i : Nat) : upd (cN f S T i) (T + i) (f (S + i)) = cN f S T (i + 1) := by
  funext x; unfold upd cN
  by_cases h : x = T + i
  · rw [if_pos h, if_pos (by omega)]; congr 1; omega
  · rw [if_neg h]
    by_cases h2 : T ≤ x ∧ x < T + i
    · rw [if_pos h2, if_pos (by omega)]
    · rw [if_neg h2, if_neg (by omega)]
theorem cD_s (f : Fn) (S T n i : Nat) (hi : i < n) : upd (cD f S T n i) (T + (n - 1 - i)) (f (S + (n - 1 - i))) = cD f S T n (i + 1) := by
  funext x; unfold upd cD
  by_cases h : x = T + (n - 1 - i)
  · rw [if_pos h, if_pos (by omega)]; congr 1; omega
  · rw [if_neg h]
    by_cases h2 : T + n - i ≤ x ∧ x < T + n
    · rw [if_pos h2, if_pos (by omega)]
    · rw [if_neg h2, if_neg (by omega)]
theorem m_copy_up (u : MS) {s t fr to n : Nat} (hs : s < 4) (ht : t < 4) (hf : fr + n ≤ 40) (hto : to + n ≤ 40) (ho : s ≠ t ∨ to ≤ fr) : wl f_X7_copy_L139_139s (nI s, nI fr, nI t, nI to, nI n, (0 : Int32), (0 : Int32), u) = some (.inr (nI n, mu_number u (cN (m_number u) (40 * s + fr) (40 * t + to) n))) := by
  refine wl_for' (fun i => (nI s, nI fr, nI t, nI to, nI n, (0 : Int32), nI i, mu_number u (cN (m_number u) (40 * s + fr) (40 * t + to) i))) n ?_ ?_ ?_
  · show (nI s, nI fr, nI t, nI to, nI n, (0 : Int32), (0 : Int32), u) = (nI s, nI fr, nI t, nI to, nI n, (0 : Int32), nI 0, mu_number u (cN (m_number u) (40 * s + fr) (40 * t + to) 0))
    rw [cN_0]; rfl
  · intro i hi
    show f_X7_copy_L139_139 _ _ _ _ _ _ _ _ = _
    unfold f_X7_copy_L139_139 f_X7_copy_L139_163
    have e : cN (m_number u) (40 * s + fr) (40 * t + to) i (40 * s + fr + i) = m_number u (40 * s + fr + i) := by
      unfold cN; rw [if_neg (by omega)]
    simp (disch := omega) only [leI, leF, if_false, if_true]
    simp (disch := omega) only [n40, pk_mul, nI_add, nmv, nIneg, cl', leF, or_self, if_false, nI_s1]
    show some (Sum.inl (nI s, nI fr, nI t, nI to, nI n, (0 : Int32), nI (i + 1), mu_number u (upd (cN (m_number u) (40 * s + fr) (40 * t + to) i) (40 * t + to + i) (cN (m_number u) (40 * s + fr) (40 * t + to) i (40 * s + fr + i))))) = _
    rw [e, cN_s]
  · show f_X7_copy_L139_139 _ _ _ _ _ _ _ _ = _
    unfold f_X7_copy_L139_139
    rw [if_pos (Int32.le_refl _)]
theorem m_copy_dn (u : MS) {s fr to n : Nat} (hs : s < 4) (hf : fr + n ≤ 40) (hto : to + n ≤ 40) (ho : fr < to) : wl f_X7_copy_L139_139s (nI s, nI fr, nI s, nI to, nI n, (1 : Int32), (0 : Int32), u) = some (.inr (nI n, mu_number u (cN (m_number u) (40 * s + fr) (40 * s + to) n))) := by
  rw [← cD_n]
  refine wl_for' (fun i => (nI s, nI fr, nI s, nI to, nI n, (1 : Int32), nI i, mu_number u (cD (m_number u) (40 * s + fr) (40 * s + to) n i))) n ?_ ?_ ?_
  · show (nI s, nI fr, nI s, nI to, nI n, (1 : Int32), (0 : Int32), u) = (nI s, nI fr, nI s, nI to, nI n, (1 : Int32), nI 0, mu_number u (cD (m_number u) (40 * s + fr) (40 * s + to) n 0))
    rw [cD_0]; rfl
  · intro i hi
    show f_X7_copy_L139_139 _ _ _ _ _ _ _ _ = _
    unfold f_X7_copy_L139_139 f_X7_copy_L139_163
    have e : cD (m_number u) (40 * s + fr) (40 * s + to) n i (40 * s + fr + (n - 1 - i)) = m_number u (40 * s + fr + (n - 1 - i)) := by
      unfold cD; rw [if_neg (by omega)]
    have e1 : nI n - 1 - nI i = nI (n - 1 - i) := by
      have q : nI n - 1 = nI (n - 1) := pk_sub (a := n) (b := 1) (by omega)
      rw [q, pk_sub (by omega)]
    simp (disch := omega) only [leI, leF, if_false, e1]
    rw [if_neg (show ¬ (1 : Int32) = 0 by decide)]
    simp (disch := omega) only [n40, pk_mul, nI_add, nmv, nIneg, cl', leF, or_self, if_false, nI_s1]
    show some (Sum.inl (nI s, nI fr, nI s, nI to, nI n, (1 : Int32), nI (i + 1), mu_number u (upd (cD (m_number u) (40 * s + fr) (40 * s + to) n i) (40 * s + to + (n - 1 - i)) (cD (m_number u) (40 * s + fr) (40 * s + to) n i (40 * s + fr + (n - 1 - i)))))) = _
    rw [e, cD_s _ _ _ _ _ hi]
  · show f_X7_copy_L139_139 _ _ _ _ _ _ _ _ = _
    unfold f_X7_copy_L139_139
    rw [if_pos (Int32.le_refl _)]
theorem x_stretch (u : XS) (j : Nat) (hz : 0 ≤ ((xB u).2.1 j).toInt ∧ ((xB u).2.1 j).toInt ≤ 40) (a b : Int32) : f_X1_hasStretch j a b u = some (if 0 ≤ a.toInt ∧ 0 ≤ b.toInt ∧ a.toInt + b.toInt ≤ ((xB u).2.1 j).toInt then 1 else 0, u) := by
  unfold f_X1_hasStretch
  have ra := i_rng a
  by_cases h1 : a < 0
  · rw [if_pos h1, if_neg (by rw [i_lt] at h1; simp only [Int32.reduceToInt] at h1; omega)]
  rw [if_neg h1]
  rw [i_lt] at h1; simp only [Int32.reduceToInt] at h1
  by_cases h2 : b < 0
  · rw [if_pos h2, if_neg (by rw [i_lt] at h2; simp only [Int32.reduceToInt] at h2; omega)]
  rw [if_neg h2]
  rw [i_lt] at h2; simp only [Int32.reduceToInt] at h2
  by_cases h3 : (xB u).2.1 j < a
  · rw [if_pos h3, if_neg (by rw [i_lt] at h3; omega)]
  rw [if_neg h3]
  rw [i_lt] at h3
  by_cases h4 : (xB u).2.1 j - a < b
  · rw [if_pos h4, if_neg (by rw [i_lt, i_sub (by omega) (by omega)] at h4; omega)]
  · rw [if_neg h4, if_pos (by rw [i_lt, i_sub (by omega) (by omega)] at h4; omega)]
theorem Rel.cp {σ : XS} {τ : MS} (h : Rel σ τ) {s t fr to n : Nat} (hs : s < 4) (ht : t < 4) (hf : fr + n ≤ 40) (hto : to + n ≤ 40) : Rel (sB σ ((xB σ).1, (xB σ).2.1, va_up (xB σ).2.2 t (va_cpy ((xB σ).2.2 s) ((xB σ).2.2 t) fr to n))) (mu_number τ (cN (m_number τ) (40 * s + fr) (40 * t + to) n)) := by
  obtain ⟨h1, h2, h3, h4, h5, h6, ⟨b1, b2⟩, h8, h9⟩ := h
  refine ⟨h1, h2, h3, h4, h5, h6, ⟨b1, ?_⟩, h8, h9⟩
  intro k l hk hl
  show va_up (xB σ).2.2 t (va_cpy ((xB σ).2.2 s) ((xB σ).2.2 t) fr to n) k l = cN (m_number τ) (40 * s + fr) (40 * t + to) n (40 * k + l)
  by_cases e : k = t
  · subst e
    rw [vu_s]
    unfold va_cpy cN
    by_cases hl2 : to ≤ l ∧ l < to + n
    · rw [if_pos hl2, if_pos (by omega), b2 s _ hs (by omega)]
      congr 1; omega
    · rw [if_neg hl2, if_neg (by omega)]; exact b2 k l hk hl
  · rw [vu_n e, b2 k l hk hl]
    unfold cN
    rw [if_neg (by omega)]
set_option maxHeartbeats 1000000 in
theorem op_copy {σ : XS} {τ : MS} (h : Rel σ τ) (a b c d n : Int32) : Op (f_X6_copy a b c d n σ) (f_X7_copy a b c d n τ) := by
  have hB := h.2.2.2.2.2.2.1
  unfold f_X6_copy f_X7_copy
  simp only [x_isSheet, m_isSheet, bnd_some, ite01, fx_0, fm_0, fx_5, fm_5, fx_2, fm_2]
  by_cases h1 : 0 ≤ a.toInt ∧ a.toInt ≤ 3
  · rw [if_neg (not_not_intro h1), if_neg (not_not_intro h1)]
    by_cases h2 : 0 ≤ c.toInt ∧ c.toInt ≤ 3
    · rw [if_neg (not_not_intro h2), if_neg (not_not_intro h2)]
      obtain ⟨s, rfl, hs, -⟩ := i_ex h1.1
      obtain ⟨t, rfl, ht, -⟩ := i_ex h2.1
      have hs4 : s < 4 := by omega
      have ht4 : t < 4 := by omega
      obtain ⟨b1, b2, b3, b4, b5⟩ := hB.1 s hs4
      obtain ⟨c1, c2, c3, c4, c5⟩ := hB.1 t ht4
      rw [show (nI s).toNatClampNeg = s from cl_nI (by omega), show (nI t).toNatClampNeg = t from cl_nI (by omega)]
      have qs : ¬ (nI s < 0 ∨ 4 ≤ s) := by rintro (q | q); exact nI_pos (by omega) q; omega
      have qt : ¬ (nI t < 0 ∨ 4 ≤ t) := by rintro (q | q); exact nI_pos (by omega) q; omega
      simp only [if_neg qs, if_neg qt]
      simp only [b1, c1, x_stretch σ s (by rw [b3]; exact b4), x_stretch σ t (by rw [c3]; exact c4), b3, c3, bnd_some, ite01]
      by_cases hb0 : m_bits τ s = 0
      · rw [if_pos hb0, if_pos hb0]
        exact Op.mk' (h.fd (by decide))
      rw [if_neg hb0, if_neg hb0]
      by_cases hc0 : m_bits τ t = 0
      · rw [if_pos hc0, if_pos hc0]
        exact Op.mk' (h.fd (by decide))
      rw [if_neg hc0, if_neg hc0]
      by_cases he : m_bits τ s = m_bits τ t
      · rw [if_pos he, if_pos he]
        have rb := i_rng b
        have rd := i_rng d
        have rn := i_rng n
        by_cases g1 : 0 ≤ b.toInt ∧ 0 ≤ n.toInt ∧ b.toInt + n.toInt ≤ (m_size τ s).toInt
        · rw [if_neg (not_not_intro g1)]
          rw [if_neg (show ¬ n < 0 by rw [i_lt]; simp only [Int32.reduceToInt]; omega), if_neg (show ¬ b < 0 by rw [i_lt]; simp only [Int32.reduceToInt]; omega)]
          by_cases g2 : 0 ≤ d.toInt ∧ 0 ≤ n.toInt ∧ d.toInt + n.toInt ≤ (m_size τ t).toInt
          · rw [if_neg (not_not_intro g2)]
            rw [if_neg (show ¬ d < 0 by rw [i_lt]; simp only [Int32.reduceToInt]; omega), if_neg (show ¬ m_size τ s - b < n by rw [i_lt, i_sub (by omega) (by omega)]; omega), if_pos (show n ≤ m_size τ t - d by rw [i_le, i_sub (by omega) (by omega)]; omega)]
            obtain ⟨fr, rfl, hfr, -⟩ := i_ex g1.1
            obtain ⟨to, rfl, hto, -⟩ := i_ex g2.1
            obtain ⟨k, rfl, hk, -⟩ := i_ex g1.2.1
            rw [cl_nI (k := fr) (by omega), cl_nI (k := to) (by omega), cl_nI (k := k) (by omega)]
            rw [if_neg (show ¬ (nI fr < 0 ∨ nI to < 0 ∨ nI k < 0 ∨ 40 < fr + k ∨ 40 < to + k) by
              rintro (q | q | q | q | q)
              · exact nI_pos (by omega) q
              · exact nI_pos (by omega) q
              · exact nI_pos (by omega) q
              · omega
              · omega)]
            rw [nmv]
            have fin := h.cp (fr := fr) (to := to) (n := k) hs4 ht4 (by omega) (by omega)
            by_cases est : s = t
            · subst est
              rw [if_pos rfl]
              by_cases ho : to ≤ fr
              · rw [if_pos (nI_le ho (by omega)), m_copy_up τ hs4 hs4 (by omega) (by omega) (Or.inr ho)]
                exact Op.mk' fin
              · rw [if_neg (nI_ge (by omega) (by omega)), m_copy_dn τ hs4 (by omega) (by omega) (by omega)]
                exact Op.mk' fin
            · rw [if_neg (fun q => est ((nI_eq (by omega) (by omega)).mp q)), m_copy_up τ hs4 ht4 (by omega) (by omega) (Or.inl est)]
              exact Op.mk' fin
          · rw [if_pos g2]
            by_cases g3 : d < 0
            · rw [if_pos g3]
              exact Op.mk' (h.fd (by decide))
            · rw [if_neg g3, if_neg (show ¬ m_size τ s - b < n by rw [i_lt, i_sub (by omega) (by omega)]; omega), if_neg]
              · exact Op.mk' (h.fd (by decide))
              · rw [i_lt] at g3; simp only [Int32.reduceToInt] at g3
                rw [i_le, i_sub (by omega) (by omega)]; omega
        · rw [if_pos g1]
          by_cases g3 : n < 0
          · rw [if_pos g3]
            exact Op.mk' (h.fd (by decide))
          rw [if_neg g3]
          by_cases g4 : b < 0
          · rw [if_pos g4]
            exact Op.mk' (h.fd (by decide))
          rw [if_neg g4]
          by_cases g5 : d < 0
          · rw [if_pos g5]
            exact Op.mk' (h.fd (by decide))
          rw [if_neg g5, if_pos]
          · exact Op.mk' (h.fd (by decide))
          · rw [i_lt] at g3 g4; simp only [Int32.reduceToInt] at g3 g4
            rw [i_lt, i_sub (by omega) (by omega)]; omega
      · rw [if_neg he, if_neg he]
        exact Op.mk' (h.fd (by decide))
    · rw [if_pos h2, if_pos h2]
      exact Op.mk' (h.fd (by decide))
  · rw [if_pos h1, if_pos h1]
    exact Op.mk' (h.fd (by decide))
