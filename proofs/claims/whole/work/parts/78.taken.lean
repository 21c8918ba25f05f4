/-! taken -/
def xQ (u : XS) (q : Fn) : XS := xZ u (xL u) (h_isGood (xH u), h_plotted (xH u), h_hoursOn (xH u), h_inUse (xH u), q, h_toolHours (xH u), h_uses (xH u), h_worth (xH u), h_inTime (xH u), h_lastDay (xH u), h_bestWorth (xH u), h_bestInTime (xH u), h_bestDigits (xH u))
theorem xQ_id (u : XS) : u = xQ u (h_sequence (xH u)) := rfl
theorem xQ_T (u : XS) (q : Fn) : xT (xQ u q) = xT u := rfl
theorem xQ_set (u : XS) (q v : Fn) : sH (xQ u q) (hu_sequence (xH (xQ u q)) v) = xQ u v := rfl
theorem gQ (u : XS) (q : Fn) : h_sequence (xH (xQ u q)) = q := rfl
theorem Rel.xQ {σ : XS} {τ : MS} (h : Rel σ τ) (q : Fn) : Rel (xQ σ q) τ := Rel.xZ h _ h.2.2.2.2.2.2.2.2
theorem x_read {u : XS} {N : Nat} (hN : tOrders (xT u) = nI N) (hN5 : N ≤ 5) : ∀ m left set q, m ≤ 5 → left < 2 ^ 31 → ∃ q', bne (wl f_X2_readSequence_L25_25s (nI left, set, bk m, xQ u q)) (fun a => some a) (fun b => nmv b.1 fun y9 => nmv b.2 fun u8 => if y9 = 0 then some ((1 : Int32), u8) else some ((0 : Int32), u8)) = some (if ao N m left set = true then 1 else 0, xQ u q') ∧ (ao N m left set = true → ∀ k, k < m → q' k = nI (left / 10 ^ (m - 1 - k) % 10)) ∧ ∀ k, m ≤ k → q' k = q k := by
  intro m
  induction m with
  | zero =>
    intro left set q _ hl
    have e : f_X2_readSequence_L25_25s (nI left, set, bk 0, xQ u q) = some (.inr (.inr (nI left, xQ u q))) := by
      show f_X2_readSequence_L25_25 (nI left) set (-1) (xQ u q) = _
      unfold f_X2_readSequence_L25_25
      rw [if_pos (by decide)]
    refine ⟨q, ?_, fun _ k hk => by omega, fun _ _ => rfl⟩
    rw [wl_out e]
    show (if nI left = 0 then some ((1 : Int32), xQ u q) else some ((0 : Int32), xQ u q)) = some (if decide (left = 0) = true then 1 else 0, xQ u q)
    by_cases h : left = 0
    · rw [h]; rfl
    · rw [if_neg (nI_ne0 (by omega) hl), if_neg (by rw [decide_eq_true_eq]; exact h)]
  | succ m ih =>
    intro left set q hm hl
    have hr : nI left - nI left / (10 : Int32) * (10 : Int32) = nI (left % 10) := pk_rem (d := 10) hl (by omega) (by omega)
    have hd : nI left / (10 : Int32) = nI (left / 10) := pk_div (d := 10) hl (by omega) (by omega)
    have hm10 : left % 10 < 10 := Nat.mod_lt _ (by omega)
    rw [ao_s]
    have st : f_X2_readSequence_L25_25s (nI left, set, bk (m + 1), xQ u q) = f_X2_readSequence_L25_25 (nI left) set (nI m) (xQ u q) := rfl
    conv at st => rhs; unfold f_X2_readSequence_L25_25
    rw [if_neg (nI_nneg (by omega)), hr, nmv, xQ_T, hN] at st
    by_cases c1 : N ≤ left % 10
    · rw [if_pos (nI_le c1 (by omega))] at st
      rw [wl_out st, if_pos c1]
      exact ⟨q, rfl, fun h => (by cases h), fun _ _ => rfl⟩
    · rw [if_neg (nI_ge (by omega) (by omega)), bit_and _ (by omega)] at st
      rw [if_neg c1]
      by_cases c2 : bt set (left % 10) = true
      · rw [if_pos c2, if_neg (by decide)] at st
        rw [wl_out st, if_pos c2]
        exact ⟨q, rfl, fun h => (by cases h), fun _ _ => rfl⟩
      · rw [if_neg c2, if_pos rfl, nmv, ck_nI (by omega) (by omega), cl_nI (by omega), gQ, xQ_set, nmv, hd, nmv, bk_s, nmv] at st
        obtain ⟨q', e1, e2, e3⟩ := ih (left / 10) (set ||| ((1 : Int32) <<< (nI (left % 10) &&& 31))) (upd q m (nI (left % 10))) (by omega) (by omega)
        rw [wl_in st, if_neg c2]
        refine ⟨q', e1, fun h k hk => ?_, fun k hk => ?_⟩
        · by_cases e : k = m
          · subst e
            rw [e3 k (Nat.le_refl _), upd_s, show k + 1 - 1 - k = 0 by omega, Nat.pow_zero, Nat.div_one]
          · rw [e2 h k (by omega), Nat.div_div_eq_div_mul, show m + 1 - 1 - k = (m - 1 - k) + 1 by omega, Nat.pow_succ, Nat.mul_comm]
        · rw [e3 k (by omega), upd_n (by omega)]
theorem x_readSeq {u : XS} {N n : Nat} (hN : tOrders (xT u) = nI N) (hN5 : N ≤ 5) (hn : n ≤ 5) {v : Nat} (hv : v < 2 ^ 31) : ∃ q, f_X2_readSequence (nI v) (nI n) u = some (if ao N n v 0 = true then 1 else 0, xQ u q) ∧ (ao N n v 0 = true → ∀ k, k < n → q k = nI (dg v n k)) := by
  obtain ⟨q, e1, e2, -⟩ := x_read hN hN5 n v 0 (h_sequence (xH u)) hn hv
  refine ⟨q, ?_, e2⟩
  unfold f_X2_readSequence
  have hw5 : (if (0 : Int32).toInt ≤ (nI n).toInt ∧ (nI n).toInt ≤ (5 : Int32).toInt then (1 : Int32) else 0) = 1 := if_pos ⟨by rw [i_nI (by omega)]; simp only [Int32.reduceToInt]; omega, by rw [i_nI (by omega)]; simp only [Int32.reduceToInt]; omega⟩
  have hb : nI n - 1 = bk n := by
    cases n with
    | zero => rfl
    | succ n => exact nI_p1
  rw [if_neg (show ¬ nI v < 0 from nI_pos hv), w_in, bnd_some, hw5, if_neg (by decide), hb, nmv]
  exact e1
theorem ao_dgs {N n v : Nat} (h : ao N n v 0 = true) {k : Nat} (hk : k < n) : dg v n k < N := ((ao_dg n v 0 h).1 (n - 1 - k) (by omega)).1
/-- the state behind readSequence and plotRuns -/
theorem hOk_M {u : XS} (h : hOk (xH u)) (B : ShB) : hOk (hM B (h_hoursOn (xH u)) (h_inUse (xH u)) (h_toolHours (xH u)) (h_uses (xH u)) (h_worth (xH u)) (h_inTime (xH u)) (h_lastDay (xH u))) := h
theorem m_sum (τ : MS) (O : Fn) {f : Fn} {h : Nat → Nat} (hf : ∀ p, p < 3200 → f p = nI (h p)) {k : Nat} (hk : k < 8) (w it lo : Int32) : wl f_X7_taken_L95_95s (nI (k + 3), (0 : Int32), (0 : Int32), mA τ O f w it lo) = some (.inr (nI (tot h k 400), mA τ O f w it lo)) := by
  refine wl_for' (fun d => (nI (k + 3), nI (tot h k d), nI d, mA τ O f w it lo)) 400 rfl ?_ ?_
  · intro d hd
    show f_X7_taken_L95_95 (nI (k + 3)) (nI (tot h k d)) (nI d) (mA τ O f w it lo) = some (.inl (nI (k + 3), nI (tot h k d + h (400 * k + d)), nI (d + 1), mA τ O f w it lo))
    unfold f_X7_taken_L95_95 f_X7_slot
    rw [if_neg (show ¬ (400 : Int32) ≤ nI d from nI_ge (b := 400) hd (by omega)), show nI (k + 3) - 3 = nI k from pk_sub (b := 3) (by omega), show (400 : Int32) = nI 400 from rfl, pk_mul, nI_add, bnd_some, ck_nI (by omega) (by omega), cl_nI (by omega), mA_h, hf _ (by omega), nI_add, nmv, nmv, nI_s1]
  · show f_X7_taken_L95_95 (nI (k + 3)) (nI (tot h k 400)) (nI 400) (mA τ O f w it lo) = _
    unfold f_X7_taken_L95_95
    rw [if_pos (show (400 : Int32) ≤ nI 400 from Int32.le_refl _)]
theorem op_taken {σ : XS} {τ : MS} (h : Rel σ τ) (a b c : Int32) : Op (f_X6_taken a b c σ) (f_X7_taken a b c τ) := by
  obtain ⟨hT, ok, hr⟩ := id h
  have okx : tOk (xT σ) := by rw [hT]; exact ok
  have o5 := ok.2.2.2.2.1
  have o3 := ok.2.2.1
  obtain ⟨N, hN, hN1, -⟩ := i_ex (x := tOrders (dc (m_m τ))) (by omega)
  obtain ⟨K, hK, hK1, -⟩ := i_ex (x := tTools (dc (m_m τ))) (by omega)
  have hN5 : N ≤ 5 := by omega
  have hNx : tOrders (xT σ) = nI N := by rw [hT]; exact hN
  have hNm : m_m τ 4 = nI N := hN
  have hKm : m_m τ 2 = nI K := hK
  have hKx : tTools (xT σ) = nI K := by rw [hT]; exact hK
  by_cases h0 : a < 0
  · unfold f_X6_taken f_X7_taken f_X2_readSequence
    rw [if_pos h0, if_pos h0, bnd_some, if_pos rfl, fx_0, fm_0]
    exact Op.mk' (h.fd (by decide))
  · have a0 : 0 ≤ a.toInt := by
      rw [i_lt] at h0
      simp only [Int32.reduceToInt] at h0
      omega
    obtain ⟨v, rfl, hv, hv2⟩ := i_ex a0
    by_cases h1 : 0 ≤ b.toInt ∧ b.toInt ≤ 5
    · obtain ⟨n, rfl, hn, -⟩ := i_ex h1.1
      have hn5 : n ≤ 5 := by omega
      obtain ⟨q, e1, e2⟩ := x_readSeq hNx hN5 hn5 (v := v) hv2
      have e3 := m_areOrders (u := τ) hNm hN5 hn5 (v := v) hv2
      unfold f_X6_taken f_X7_taken
      rw [e1, if_neg h0, m_in, bnd_some, bnd_some, e3, bnd_some]
      simp only [Int32.toInt_toInt64, Int64.reduceToInt]
      rw [if_pos h1, if_neg (show ¬ (1 : Int32) = 0 by decide)]
      by_cases h2 : ao N n v 0 = true
      · have hd := fun k (hk : k < n) => ao_dgs h2 hk
        rw [if_pos h2, if_neg (show ¬ (1 : Int32) = 0 by decide), if_neg (show ¬ (1 : Int32) = 0 by decide), w_in, m_in, bnd_some, bnd_some, xQ_T, hKx, l2, hKm]
        simp only [Int32.toInt_toInt64, Int32.reduceToInt, Int64.reduceToInt, ite01, fx_0, fm_0, bnd_some]
        by_cases h3 : 0 ≤ c.toInt ∧ c.toInt ≤ ((2 : Int32) + nI K).toInt
        · rw [if_neg (not_not_intro h3), if_neg (not_not_intro h3)]
          have e4 : ((2 : Int32) + nI K).toInt = K + 2 := by
            rw [n2, nI_add, i_nI (by omega)]; omega
          rw [e4] at h3
          obtain ⟨w, rfl, hw, -⟩ := i_ex h3.1
          obtain ⟨L, g, pl, f0, th0, p1, p2, p3⟩ := x_plot (u := xQ σ q) okx hNx hN5 h.2.2.2.2.2.2.2.2
          obtain ⟨f', iu', th', q', t1, t2⟩ := x_takeSeq (u := xQ σ q) (L := L) (B := (g, pl, h_sequence (xH (xQ σ q)), h_bestWorth (xH (xQ σ q)), h_bestInTime (xH (xQ σ q)), h_bestDigits (xH (xQ σ q)))) okx hNx hN5 p2 hn5 (s := dg v n) (fun k hk => ⟨e2 h2 k hk, hd k hk⟩) f0 (h_inUse (xH (xQ σ q))) th0 0 0 0 (-1) p3
          obtain ⟨O, f, m1, m2⟩ := m_takesAll ok (v := v) hv2 hn5 (fun k hk => by have := hd k hk; omega) (m_on τ) (m_hours τ) (m_worth τ) (m_inTime τ) (m_lastOf τ)
          have m1' : f_X7_takesAll (nI v) (nI n) τ = some (0, mA τ O f (rn (dc (m_m τ)) (dg v n) n).2.1 (rn (dc (m_m τ)) (dg v n) n).2.2.1 (rn (dc (m_m τ)) (dg v n) n).2.2.2) := m1
          have hRR : Rel (xM (xQ σ q) L (g, pl, h_sequence (xH (xQ σ q)), h_bestWorth (xH (xQ σ q)), h_bestInTime (xH (xQ σ q)), h_bestDigits (xH (xQ σ q))) f' iu' th' (nI q') (rn (xT σ) (dg v n) n).2.1 (rn (xT σ) (dg v n) n).2.2.1 (rn (xT σ) (dg v n) n).2.2.2) (mA τ O f (rn (dc (m_m τ)) (dg v n) n).2.1 (rn (dc (m_m τ)) (dg v n) n).2.2.1 (rn (dc (m_m τ)) (dg v n) n).2.2.2) := Rel.mA (Rel.xZ (h.xQ q) L (t2.hOk hn5 _ _ _ _)) _ _ _ _ _
          rw [p1, bnd_some, t1, bnd_some, m1', bnd_some]
          rw [xQ_T] at t2
          by_cases w0 : w = 0
          · subst w0
            rw [if_pos (show nI 0 = 0 from rfl), if_neg (by decide), if_pos (show nI 0 = 0 from rfl)]
            exact Op.mk2 (by rw [gM_w, xQ_T, hT]; rfl) hRR
          · by_cases w1 : w = 1
            · subst w1
              rw [if_neg (by decide), if_pos (show nI 1 = 1 from rfl), if_neg (by decide), if_neg (by decide), if_pos (show nI 1 = 1 from rfl)]
              exact Op.mk2 (by rw [gM_it, xQ_T, hT]; rfl) hRR
            · by_cases w2 : w = 2
              · subst w2
                rw [if_neg (by decide), if_neg (by decide), if_pos (show nI 2 = 2 from rfl), if_neg (by decide), if_neg (by decide), if_neg (by decide)]
                exact Op.mk2 (by rw [gM_ld, xQ_T, hT]; rfl) hRR
              · obtain ⟨k, rfl⟩ : ∃ k, w = k + 3 := ⟨w - 3, by omega⟩
                have hk8 : k < 8 := by omega
                have m3 := m_sum τ O m2 hk8 (rn (dc (m_m τ)) (dg v n) n).2.1 (rn (dc (m_m τ)) (dg v n) n).2.2.1 (rn (dc (m_m τ)) (dg v n) n).2.2.2
                rw [if_neg (nI_ne0 (by omega) (by omega)), if_neg (show ¬ nI (k + 3) = (1 : Int32) from fun e => w1 ((nI_eq (a := k + 3) (b := 1) (by omega) (by omega)).mp e)), if_neg (show ¬ nI (k + 3) = (2 : Int32) from fun e => w2 ((nI_eq (a := k + 3) (b := 2) (by omega) (by omega)).mp e)), if_pos (show (3 : Int32) ≤ nI (k + 3) from nI_le (a := 3) (by omega) (by omega)), m3, show nI (k + 3) - 3 = nI k from pk_sub (b := 3) (by omega), nmv, ck_nI hk8 (by omega), cl_nI (by omega)]
                exact Op.mk2 (by rw [gM_th, t2.2.1 k hk8, hT]) hRR
        · rw [if_pos h3, if_pos h3]
          exact Op.mk' ((h.xQ q).fd (by decide))
      · rw [if_neg h2, if_pos rfl, if_pos rfl, fx_0, fm_0]
        exact Op.mk' ((h.xQ q).fd (by decide))
    · unfold f_X6_taken f_X7_taken f_X2_readSequence
      rw [if_neg h0, if_neg h0, w_in, m_in, bnd_some, bnd_some]
      simp only [Int32.toInt_toInt64, Int32.reduceToInt, Int64.reduceToInt, ite01, fx_0, fm_0, bnd_some]
      rw [if_pos h1, if_pos h1, bnd_some, if_pos rfl]
      exact Op.mk' (h.fd (by decide))
