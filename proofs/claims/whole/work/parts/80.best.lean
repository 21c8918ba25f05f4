/-! best, in the reference -/
theorem m_bestloop {τ : MS} (ok : tOk (dc (m_m τ))) {N : Nat} (hN : m_m τ 4 = nI N) (hN5 : N ≤ 5) (a : Int32) : ∀ c lo q O f w it ld, lo + c = 10 ^ N → ∃ O' f' w' it' ld', wl f_X7_best_L60_60s (a, nI N, nI (10 ^ N), q.1, q.2.2, q.2.1, nI lo, mA τ O f w it ld) = some (.inr (a, (rg (dc (m_m τ)) N lo c q).1, (rg (dc (m_m τ)) N lo c q).2.2, (rg (dc (m_m τ)) N lo c q).2.1, mA τ O' f' w' it' ld')) := by
  have hp : 10 ^ N ≤ 100000 := by
    calc 10 ^ N ≤ 10 ^ 5 := Nat.pow_le_pow_right (by omega) (by omega)
      _ = 100000 := by decide
  generalize 10 ^ N = P at hp
  intro c
  induction c with
  | zero =>
    intro lo q O f w it ld h
    refine ⟨O, f, w, it, ld, wl_out ?_⟩
    show f_X7_best_L60_60 a (nI N) (nI P) q.1 q.2.2 q.2.1 (nI lo) (mA τ O f w it ld) = _
    unfold f_X7_best_L60_60
    rw [if_pos (nI_le (by omega) (by omega))]
    rfl
  | succ c ih =>
    intro lo q O f w it ld h
    have e3 := m_areOrders (u := mA τ O f w it ld) (N := N) hN hN5 hN5 (v := lo) (by omega)
    have st : f_X7_best_L60_60s (a, nI N, nI P, q.1, q.2.2, q.2.1, nI lo, mA τ O f w it ld) = f_X7_best_L60_60 a (nI N) (nI P) q.1 q.2.2 q.2.1 (nI lo) (mA τ O f w it ld) := rfl
    conv at st => rhs; unfold f_X7_best_L60_60
    rw [if_neg (nI_ge (by omega) (by omega)), e3, bnd_some] at st
    rw [rg_s]
    by_cases e : ao N N lo 0 = true
    · have hd := fun k (hk : k < N) => ao_dgs e hk
      have hNd : tOrders (dc (m_m τ)) = nI N := hN
      obtain ⟨O1, f1, t1, t2⟩ := m_takesAll ok (v := lo) (by omega) hN5 (fun k hk => by have := hd k hk; rw [hNd, i_nI (by omega)]; omega) O f w it ld
      rw [if_pos e, if_neg (by decide), t1, bnd_some] at st
      rw [if_pos e]
      by_cases c1 : q.1 < wv (dc (m_m τ)) N lo
      · have eb : bstep (dc (m_m τ)) N lo q = (wv (dc (m_m τ)) N lo, (rn (dc (m_m τ)) (dg lo N) N).2.2.1, nI lo) := if_pos c1
        rw [eb]
        obtain ⟨O', f', w', it', ld', e2⟩ := ih (lo + 1) (wv (dc (m_m τ)) N lo, (rn (dc (m_m τ)) (dg lo N) N).2.2.1, nI lo) O1 f1 (rn (dc (m_m τ)) (dg lo N) N).2.1 (rn (dc (m_m τ)) (dg lo N) N).2.2.1 (rn (dc (m_m τ)) (dg lo N) N).2.2.2 (by omega)
        refine ⟨O', f', w', it', ld', ?_⟩
        rw [← e2]
        apply wl_in
        rw [st, if_pos (show q.1 < m_worth (mA τ O1 f1 (rn (dc (m_m τ)) (dg lo N) N).2.1 (rn (dc (m_m τ)) (dg lo N) N).2.2.1 (rn (dc (m_m τ)) (dg lo N) N).2.2.2) from c1), nmv, nmv, nmv, nI_s1]
        rfl
      · have eb : bstep (dc (m_m τ)) N lo q = q := if_neg c1
        rw [eb]
        obtain ⟨O', f', w', it', ld', e2⟩ := ih (lo + 1) q O1 f1 (rn (dc (m_m τ)) (dg lo N) N).2.1 (rn (dc (m_m τ)) (dg lo N) N).2.2.1 (rn (dc (m_m τ)) (dg lo N) N).2.2.2 (by omega)
        refine ⟨O', f', w', it', ld', ?_⟩
        rw [← e2]
        apply wl_in
        rw [st, if_neg (show ¬ q.1 < m_worth (mA τ O1 f1 (rn (dc (m_m τ)) (dg lo N) N).2.1 (rn (dc (m_m τ)) (dg lo N) N).2.2.1 (rn (dc (m_m τ)) (dg lo N) N).2.2.2) from c1), nmv, nI_s1]
    · rw [if_neg e, if_pos rfl, nmv, nI_s1] at st
      rw [if_neg e]
      obtain ⟨O', f', w', it', ld', e2⟩ := ih (lo + 1) q O f w it ld (by omega)
      exact ⟨O', f', w', it', ld', by rw [wl_in st]; exact e2⟩
theorem m_pow2 (τ : MS) (a : Int32) {N : Nat} (hN : N ≤ 5) : wl f_X7_best_L31_31s (a, nI N, (1 : Int32), (0 : Int32), τ) = some (.inr (a, nI N, nI (10 ^ N), τ)) := by
  refine wl_for' (fun i => (a, nI N, nI (10 ^ i), nI i, τ)) N rfl ?_ ?_
  · intro i hi
    show f_X7_best_L31_31 a (nI N) (nI (10 ^ i)) (nI i) τ = some (.inl (a, nI N, nI (10 ^ (i + 1)), nI (i + 1), τ))
    unfold f_X7_best_L31_31
    rw [if_neg (nI_ge (by omega) (by omega)), show (10 : Int32) = nI 10 from rfl, pk_mul, nmv, nmv, nI_s1]
    rfl
  · show f_X7_best_L31_31 a (nI N) (nI (10 ^ N)) (nI N) τ = _
    unfold f_X7_best_L31_31
    rw [if_pos (Int32.le_refl _)]
/-! best, in the shop -/
section BEST
variable {u : XS} {L g pl sq f iu th : Fn} {bw bi bd us w it ld : Int32} {N : Nat}
theorem xM_sq (v : Fn) : sH (xM u L (g, pl, sq, bw, bi, bd) f iu th us w it ld) (hu_sequence (xH (xM u L (g, pl, sq, bw, bi, bd) f iu th us w it ld)) v) = xM u L (g, pl, v, bw, bi, bd) f iu th us w it ld := rfl
theorem xM_bw (v : Int32) : sH (xM u L (g, pl, sq, bw, bi, bd) f iu th us w it ld) (hu_bestWorth (xH (xM u L (g, pl, sq, bw, bi, bd) f iu th us w it ld)) v) = xM u L (g, pl, sq, v, bi, bd) f iu th us w it ld := rfl
theorem xM_bi (v : Int32) : sH (xM u L (g, pl, sq, bw, bi, bd) f iu th us w it ld) (hu_bestInTime (xH (xM u L (g, pl, sq, bw, bi, bd) f iu th us w it ld)) v) = xM u L (g, pl, sq, bw, v, bd) f iu th us w it ld := rfl
theorem xM_bd (v : Int32) : sH (xM u L (g, pl, sq, bw, bi, bd) f iu th us w it ld) (hu_bestDigits (xH (xM u L (g, pl, sq, bw, bi, bd) f iu th us w it ld)) v) = xM u L (g, pl, sq, bw, bi, v) f iu th us w it ld := rfl
theorem gM_sq2 : h_sequence (xH (xM u L (g, pl, sq, bw, bi, bd) f iu th us w it ld)) = sq := rfl
theorem gM_bw : h_bestWorth (xH (xM u L (g, pl, sq, bw, bi, bd) f iu th us w it ld)) = bw := rfl
theorem gM_bi : h_bestInTime (xH (xM u L (g, pl, sq, bw, bi, bd) f iu th us w it ld)) = bi := rfl
theorem gM_bd : h_bestDigits (xH (xM u L (g, pl, sq, bw, bi, bd) f iu th us w it ld)) = bd := rfl
/-- the sequence at hand, as numbers -/
def sqE (sq : Fn) (s : Nat → Nat) (N : Nat) : Prop := ∀ k, k < N → sq k = nI (s k) ∧ s k < 100
theorem sqE_swp {sq : Fn} {s : Nat → Nat} {N i j : Nat} (h : sqE sq s N) (hi : i < N) (hj : j < N) : sqE (upd (upd sq i (sq j)) j (sq i)) (swp s i j) N := by
  intro k hk
  have e1 : swp s i j k = if k = j then s i else if k = i then s j else s k := rfl
  rw [e1]
  by_cases c1 : k = j
  · rw [if_pos c1, c1, upd_s]; exact h i hi
  · rw [if_neg c1, upd_n c1]
    by_cases c2 : k = i
    · rw [if_pos c2, c2, upd_s]; exact h j hj
    · rw [if_neg c2, upd_n c2]; exact h k hk
theorem x_swap {i j : Nat} (hi : i < 5) (hj : j < 5) : f_X2_swap (nI i) (nI j) (xM u L (g, pl, sq, bw, bi, bd) f iu th us w it ld) = some (0, xM u L (g, pl, upd (upd sq i (sq j)) j (sq i), bw, bi, bd) f iu th us w it ld) := by
  unfold f_X2_swap
  rw [ck_nI hi (by omega), cl_nI (by omega), gM_sq2, nmv, ck_nI hj (by omega), cl_nI (by omega), nmv, ck_k hi (by omega), xM_sq, nmv, ck_k hj (by omega), gM_sq2, xM_sq, nmv]
theorem x_rise {s : Nat → Nat} (hN5 : N ≤ 5) (hs : sqE sq s N) : ∀ m, m + 1 ≤ N → wl f_X2_goToNextSequence_L10_10s (bk m, xM u L (g, pl, sq, bw, bi, bd) f iu th us w it ld) = some (.inr (bk (rs s m), xM u L (g, pl, sq, bw, bi, bd) f iu th us w it ld)) := by
  intro m
  induction m with
  | zero =>
    intro _
    apply wl_out
    show f_X2_goToNextSequence_L10_10 (-1) (xM u L (g, pl, sq, bw, bi, bd) f iu th us w it ld) = _
    unfold f_X2_goToNextSequence_L10_10
    rw [if_pos (by decide)]
    rfl
  | succ k ih =>
    intro hk
    obtain ⟨a1, a2⟩ := hs k (by omega)
    obtain ⟨b1, b2⟩ := hs (k + 1) (by omega)
    have st : f_X2_goToNextSequence_L10_10s (bk (k + 1), xM u L (g, pl, sq, bw, bi, bd) f iu th us w it ld) = f_X2_goToNextSequence_L10_10 (nI k) (xM u L (g, pl, sq, bw, bi, bd) f iu th us w it ld) := rfl
    conv at st => rhs; unfold f_X2_goToNextSequence_L10_10
    rw [if_neg (nI_nneg (by omega)), ck_nI (by omega) (by omega), cl_nI (by omega), nI_s1, nmv, ck_nI (by omega) (by omega), cl_nI (by omega), gM_sq2, a1, b1] at st
    have er : rs s (k + 1) = if s k ≤ s (k + 1) then k + 1 else rs s k := rfl
    rw [er]
    by_cases c : s k ≤ s (k + 1)
    · rw [if_pos (nI_le c (by omega))] at st
      rw [wl_out st, if_pos c]
      rfl
    · rw [if_neg (nI_ge (by omega) (by omega)), bk_s, nmv] at st
      rw [wl_in st, if_neg c]
      exact ih (by omega)
theorem x_above {s : Nat → Nat} (hN5 : N ≤ 5) (hs : sqE sq s N) {r : Nat} (hr : r < N) : ∀ m, m + 1 ≤ N → wl f_X2_goToNextSequence_L53_53s (nI r, nI m, xM u L (g, pl, sq, bw, bi, bd) f iu th us w it ld) = some (.inr (nI r, nI (ab s r m), xM u L (g, pl, sq, bw, bi, bd) f iu th us w it ld)) ∧ ab s r m < N := by
  intro m
  induction m with
  | zero =>
    intro _
    refine ⟨wl_out ?_, by show 0 < N; omega⟩
    show f_X2_goToNextSequence_L53_53 (nI r) (nI 0) (xM u L (g, pl, sq, bw, bi, bd) f iu th us w it ld) = _
    unfold f_X2_goToNextSequence_L53_53
    rw [if_pos (nI_le (by omega) (by omega))]
    rfl
  | succ k ih =>
    intro hk
    obtain ⟨a1, a2⟩ := hs r hr
    obtain ⟨b1, b2⟩ := hs (k + 1) (by omega)
    have er : ab s r (k + 1) = if k + 1 ≤ r then k + 1 else if s r ≤ s (k + 1) then k + 1 else ab s r k := rfl
    have st : f_X2_goToNextSequence_L53_53s (nI r, nI (k + 1), xM u L (g, pl, sq, bw, bi, bd) f iu th us w it ld) = f_X2_goToNextSequence_L53_53 (nI r) (nI (k + 1)) (xM u L (g, pl, sq, bw, bi, bd) f iu th us w it ld) := rfl
    conv at st => rhs; unfold f_X2_goToNextSequence_L53_53
    rw [er]
    by_cases c1 : k + 1 ≤ r
    · rw [if_pos (nI_le c1 (by omega))] at st
      rw [wl_out st, if_pos c1]
      exact ⟨rfl, by omega⟩
    · rw [if_neg (nI_ge (by omega) (by omega)), ck_nI (by omega) (by omega), ck_nI (by omega) (by omega), cl_nI (by omega), cl_nI (by omega), gM_sq2, a1, b1] at st
      rw [if_neg c1]
      by_cases c2 : s r ≤ s (k + 1)
      · rw [if_pos (nI_le c2 (by omega))] at st
        rw [wl_out st, if_pos c2]
        exact ⟨rfl, by omega⟩
      · rw [if_neg (nI_ge (by omega) (by omega)), m1_nI, nmv] at st
        rw [wl_in st, if_neg c2]
        exact ih (by omega)
theorem x_rev (hN5 : N ≤ 5) : ∀ fu (sq : Fn) (s : Nat → Nat) lo hi, sqE sq s N → hi < N → lo < 100 → hi ≤ lo + fu → ∃ sq', wl f_X2_goToNextSequence_L100_100s (nI lo, nI hi, xM u L (g, pl, sq, bw, bi, bd) f iu th us w it ld) = some (.inr (xM u L (g, pl, sq', bw, bi, bd) f iu th us w it ld)) ∧ sqE sq' (rv fu s lo hi) N := by
  intro fu
  induction fu with
  | zero =>
    intro sq s lo hi hs h1 h3 h2
    refine ⟨sq, wl_out ?_, hs⟩
    show f_X2_goToNextSequence_L100_100 (nI lo) (nI hi) (xM u L (g, pl, sq, bw, bi, bd) f iu th us w it ld) = _
    unfold f_X2_goToNextSequence_L100_100
    rw [if_pos (nI_le (by omega) (by omega))]
  | succ fu ih =>
    intro sq s lo hi hs h1 h3 h2
    have er : rv (fu + 1) s lo hi = if hi ≤ lo then s else rv fu (swp s lo hi) (lo + 1) (hi - 1) := rfl
    have st : f_X2_goToNextSequence_L100_100s (nI lo, nI hi, xM u L (g, pl, sq, bw, bi, bd) f iu th us w it ld) = f_X2_goToNextSequence_L100_100 (nI lo) (nI hi) (xM u L (g, pl, sq, bw, bi, bd) f iu th us w it ld) := rfl
    conv at st => rhs; unfold f_X2_goToNextSequence_L100_100
    rw [er]
    by_cases c : hi ≤ lo
    · rw [if_pos (nI_le c (by omega))] at st
      rw [if_pos c]
      exact ⟨sq, wl_out st, hs⟩
    · obtain ⟨h', rfl⟩ : ∃ h', hi = h' + 1 := ⟨hi - 1, by omega⟩
      rw [if_neg (nI_ge (by omega) (by omega)), x_swap (by omega) (by omega), bnd_some, nmv, nmv, nI_s1, m1_nI] at st
      rw [if_neg c, wl_in st]
      exact ih _ _ (lo + 1) h' (sqE_swp hs (by omega) h1) (by omega) (by omega) (by omega)
theorem x_np {s : Nat → Nat} (hN : tOrders (xT u) = nI N) (hN5 : N ≤ 5) (hs : sqE sq s N) : ∃ sq', f_X2_goToNextSequence (xM u L (g, pl, sq, bw, bi, bd) f iu th us w it ld) = some (if (np N s).1 = true then 1 else 0, xM u L (g, pl, sq', bw, bi, bd) f iu th us w it ld) ∧ sqE sq' (np N s).2 N := by
  unfold f_X2_goToNextSequence
  rw [xM_T, hN]
  by_cases h0 : N = 0
  · subst h0
    refine ⟨sq, ?_, hs⟩
    have e1 : f_X2_goToNextSequence_L10_10s (-2, xM u L (g, pl, sq, bw, bi, bd) f iu th us w it ld) = some (.inr (.inr (-2, xM u L (g, pl, sq, bw, bi, bd) f iu th us w it ld))) := by
      show f_X2_goToNextSequence_L10_10 (-2) (xM u L (g, pl, sq, bw, bi, bd) f iu th us w it ld) = _
      unfold f_X2_goToNextSequence_L10_10
      rw [if_pos (by decide)]
    rw [show nI 0 - 2 = (-2 : Int32) from by decide, nmv, wl_out e1]
    show f_X2_goToNextSequence_37 (-2) (xM u L (g, pl, sq, bw, bi, bd) f iu th us w it ld) = _
    unfold f_X2_goToNextSequence_37
    rw [if_neg (by decide)]
    rfl
  · have e0 : nI N - 2 = bk (N - 1) := by
      obtain ⟨n, rfl⟩ : ∃ n, N = n + 1 := ⟨N - 1, by omega⟩
      rw [show n + 1 - 1 = n by omega]
      cases n with
      | zero => decide
      | succ n => exact pk_sub (a := n + 1 + 1) (b := 2) (by omega)
    rw [e0, nmv, x_rise hN5 hs (N - 1) (by omega)]
    show ∃ sq', f_X2_goToNextSequence_37 (bk (rs s (N - 1))) (xM u L (g, pl, sq, bw, bi, bd) f iu th us w it ld) = _ ∧ _
    unfold f_X2_goToNextSequence_37
    by_cases c : rs s (N - 1) = 0
    · have en : np N s = (false, s) := if_pos c
      rw [en, c, if_neg (by decide)]
      exact ⟨sq, rfl, hs⟩
    · obtain ⟨r, hr⟩ : ∃ r, rs s (N - 1) = r + 1 := ⟨rs s (N - 1) - 1, by omega⟩
      have hrN : ∀ m, rs s m ≤ m := by
        intro m
        induction m with
        | zero => exact Nat.le_refl _
        | succ m ih =>
          show (if s m ≤ s (m + 1) then m + 1 else rs s m) ≤ m + 1
          split <;> omega
      have hr1 := hrN (N - 1)
      have en : np N s = (true, rv 5 (swp s r (ab s r (N - 1))) (r + 1) (N - 1)) := by
        unfold np
        rw [if_neg c, hr]
        rfl
      rw [en, hr]
      obtain ⟨a1, a2⟩ := x_above (u := u) (L := L) (g := g) (pl := pl) (f := f) (iu := iu) (th := th) (bw := bw) (bi := bi) (bd := bd) (us := us) (w := w) (it := it) (ld := ld) hN5 hs (r := r) (by omega) (N - 1) (by omega)
      obtain ⟨sq', b1, b2⟩ := x_rev (u := u) (L := L) (g := g) (pl := pl) (f := f) (iu := iu) (th := th) (bw := bw) (bi := bi) (bd := bd) (us := us) (w := w) (it := it) (ld := ld) hN5 5 _ _ (r + 1) (N - 1) (sqE_swp hs (i := r) (j := ab s r (N - 1)) (by omega) a2) (by omega) (by omega) (by omega)
      refine ⟨sq', ?_, b2⟩
      rw [if_pos (show (0 : Int32) ≤ bk (r + 1) from nI_nn (by omega)), xM_T, hN, show nI N - 1 = nI (N - 1) from pk_sub (b := 1) (by omega), nmv, show bk (r + 1) = nI r from rfl, a1]
      show f_X2_goToNextSequence_79 (nI r) (nI (ab s r (N - 1))) (xM u L (g, pl, sq, bw, bi, bd) f iu th us w it ld) = _
      unfold f_X2_goToNextSequence_79
      rw [x_swap (by omega) (by omega), bnd_some, nI_s1, nmv, xM_T, hN, show nI N - 1 = nI (N - 1) from pk_sub (b := 1) (by omega), nmv, b1]
      rfl
theorem x_digits {s : Nat → Nat} (hN : tOrders (xT u) = nI N) (hN5 : N ≤ 5) (hs : sqE sq s N) : f_X2_sequenceDigits (xM u L (g, pl, sq, bw, bi, bd) f iu th us w it ld) = some (nI (cd s N), xM u L (g, pl, sq, bw, bi, bd) f iu th us w it ld) := by
  have e : wl f_X2_sequenceDigits_L4_4s ((0 : Int32), (0 : Int32), xM u L (g, pl, sq, bw, bi, bd) f iu th us w it ld) = some (.inr (nI (cd s N), xM u L (g, pl, sq, bw, bi, bd) f iu th us w it ld)) := by
    refine wl_for' (fun k => (nI (cd s k), nI k, xM u L (g, pl, sq, bw, bi, bd) f iu th us w it ld)) N rfl ?_ ?_
    · intro k hk
      show f_X2_sequenceDigits_L4_4 (nI (cd s k)) (nI k) (xM u L (g, pl, sq, bw, bi, bd) f iu th us w it ld) = some (.inl (nI (cd s k * 10 + s k), nI (k + 1), xM u L (g, pl, sq, bw, bi, bd) f iu th us w it ld))
      unfold f_X2_sequenceDigits_L4_4
      rw [xM_T, hN, if_neg (nI_ge hk (by omega)), ck_nI (by omega) (by omega), cl_nI (by omega), gM_sq2, (hs k hk).1, show (10 : Int32) = nI 10 from rfl, pk_mul, nI_add, nmv, nmv, nI_s1]
    · show f_X2_sequenceDigits_L4_4 (nI (cd s N)) (nI N) (xM u L (g, pl, sq, bw, bi, bd) f iu th us w it ld) = _
      unfold f_X2_sequenceDigits_L4_4
      rw [xM_T, hN, if_pos (Int32.le_refl _)]
  unfold f_X2_sequenceDigits
  rw [e]
  rfl
theorem x_all {v : XS} (ok : tOk (xT v)) (hN : tOrders (xT v) = nI N) (hN5 : N ≤ 5) : f_X2_allWorths v = some (nI (sf (wN (xT v)) N), v) := by
  have e : wl f_X2_allWorths_L4_4s ((0 : Int32), (0 : Int32), v) = some (.inr (nI (sf (wN (xT v)) N), v)) := by
    refine wl_for' (fun k => (nI (sf (wN (xT v)) k), nI k, v)) N rfl ?_ ?_
    · intro k hk
      have hoo : (k : Int) < (tOrders (xT v)).toInt := by rw [hN, i_nI (by omega)]; omega
      have s2 : f_X5_orderNumber (nI k) 2 v = some (oW (xT v) k, v) := x_ord v (w := 2) (by omega) (by omega)
      show f_X2_allWorths_L4_4 (nI (sf (wN (xT v)) k)) (nI k) v = some (.inl (nI (sf (wN (xT v)) k + wN (xT v) k), nI (k + 1), v))
      unfold f_X2_allWorths_L4_4
      rw [hN, if_neg (nI_ge hk (by omega)), s2, bnd_some, (wN_ok ok hoo).1, nI_add, nmv, nmv, nI_s1]
    · show f_X2_allWorths_L4_4 (nI (sf (wN (xT v)) N)) (nI N) v = _
      unfold f_X2_allWorths_L4_4
      rw [hN, if_pos (Int32.le_refl _)]
  unfold f_X2_allWorths
  rw [e]
  rfl
end BEST
theorem x_bestpass {u : XS} {Lx g pl : Fn} {N : Nat} (ok : tOk (xT u)) (hN : tOrders (xT u) = nI N) (hN5 : N ≤ 5) (hP : PLA (xT u) N g pl (N * 12)) (A : Int32) {v i : Nat} (q : Int32 × Int32 × Int32) {sq f iu th : Fn} {us w it ld : Int32} (hv : v ∈ seqs N) (hi : i < 120) (hs : sqE sq (dg v N) N) (hh : hOk (hM (g, pl, sq, q.1, q.2.1, q.2.2) f iu th us w it ld)) : ∃ f' iu' th' us' w' it' ld', f_X2_findBest_L38_38s (A, nI i, xM u Lx (g, pl, sq, q.1, q.2.1, q.2.2) f iu th us w it ld) = f_X2_findBest_L38_90 A (nI i) (xM u Lx (g, pl, sq, (bstep (xT u) N v q).1, (bstep (xT u) N v q).2.1, (bstep (xT u) N v q).2.2) f' iu' th' us' w' it' ld') ∧ ∀ sq' bw bi bd, hOk (hM (g, pl, sq', bw, bi, bd) f' iu' th' us' w' it' ld') := by
  obtain ⟨v1, v2, v3, v4⟩ := LP_mem (by omega) hv
  obtain ⟨f', iu', th', q', t1, t2⟩ := x_takeSeq (u := u) (L := Lx) (B := (g, pl, sq, q.1, q.2.1, q.2.2)) ok hN hN5 hP hN5 (s := dg v N) (fun k hk => ⟨(hs k hk).1, ao_dgs v1 hk⟩) f iu th us w it ld hh
  refine ⟨f', iu', th', nI q', (rn (xT u) (dg v N) N).2.1, (rn (xT u) (dg v N) N).2.2.1, (rn (xT u) (dg v N) N).2.2.2, ?_, fun _ _ _ _ => t2.hOk hN5 _ _ _ _⟩
  show f_X2_findBest_L38_38 A (nI i) (xM u Lx (g, pl, sq, q.1, q.2.1, q.2.2) f iu th us w it ld) = _
  unfold f_X2_findBest_L38_38
  rw [if_neg (show ¬ (120 : Int32) ≤ nI i from nI_ge (b := 120) hi (by omega)), xM_T, hN, t1, bnd_some, gM_w, gM_bw]
  by_cases c : q.1 < wv (xT u) N v
  · have eb : bstep (xT u) N v q = (wv (xT u) N v, (rn (xT u) (dg v N) N).2.2.1, nI v) := if_pos c
    rw [if_neg (show ¬ (rn (xT u) (dg v N) N).2.1 ≤ q.1 from Int32.not_le.mpr c), nmv, xM_bw, nmv, gM_it, nmv, xM_bi, nmv, x_digits hN hN5 hs, bnd_some, xM_bd, nmv, v2, eb]
    rfl
  · have eb : bstep (xT u) N v q = q := if_neg c
    rw [if_pos (show (rn (xT u) (dg v N) N).2.1 ≤ q.1 from Int32.not_lt.mp c), eb]
theorem bs_all {T : TownS} (ok : tOk T) {N : Nat} (hN : tOrders T = nI N) (hN5 : N ≤ 5) {q : Int32 × Int32 × Int32} (hq : q.1 = nI (sf (wN T) N)) (L : List Nat) (hm : ∀ x, x ∈ L → x ∈ seqs N) : bs T N L q = q := by
  refine bs_same L (fun v hv => ?_)
  obtain ⟨w, e, hw⟩ := wv_le ok hN hN5 (hm v hv)
  have hb := sf_le (f := wN T) (m := 99) N (fun o ho => (wN_ok ok (by rw [hN, i_nI (by omega)]; omega)).2.2)
  rw [e, hq]
  exact nI_le hw (by omega)
theorem x_bestloop {u : XS} {Lx g pl : Fn} {N : Nat} (ok : tOk (xT u)) (hN : tOrders (xT u) = nI N) (hN5 : N ≤ 5) (hP : PLA (xT u) N g pl (N * 12)) : ∀ (L : List Nat) (v i : Nat) (q : Int32 × Int32 × Int32) (sq f iu th : Fn) (us w it ld : Int32), chn N (v :: L) = true → (∀ x, x ∈ v :: L → x ∈ seqs N) → i + (L.length + 1) ≤ 120 → sqE sq (dg v N) N → hOk (hM (g, pl, sq, q.1, q.2.1, q.2.2) f iu th us w it ld) → ∃ sq' f' iu' th' us' w' it' ld', wl f_X2_findBest_L38_38s (nI (sf (wN (xT u)) N), nI i, xM u Lx (g, pl, sq, q.1, q.2.1, q.2.2) f iu th us w it ld) = some (.inr (xM u Lx (g, pl, sq', (bs (xT u) N (v :: L) q).1, (bs (xT u) N (v :: L) q).2.1, (bs (xT u) N (v :: L) q).2.2) f' iu' th' us' w' it' ld')) ∧ hOk (hM (g, pl, sq', (bs (xT u) N (v :: L) q).1, (bs (xT u) N (v :: L) q).2.1, (bs (xT u) N (v :: L) q).2.2) f' iu' th' us' w' it' ld') := by
  intro L
  induction L with
  | nil =>
    intro v i q sq f iu th us w it ld hc hm hi hs hh
    obtain ⟨f', iu', th', us', w', it', ld', st, ho⟩ := x_bestpass (Lx := Lx) ok hN hN5 hP (nI (sf (wN (xT u)) N)) q (i := i) (hm v List.mem_cons_self) (by omega) hs hh
    unfold f_X2_findBest_L38_90 at st
    rw [gM_bw] at st
    rw [bs_c]
    show ∃ sq' f' iu' th' us' w' it' ld', _ = some (Sum.inr (xM u Lx (g, pl, sq', (bstep (xT u) N v q).1, (bstep (xT u) N v q).2.1, (bstep (xT u) N v q).2.2) f' iu' th' us' w' it' ld')) ∧ hOk (hM (g, pl, sq', (bstep (xT u) N v q).1, (bstep (xT u) N v q).2.1, (bstep (xT u) N v q).2.2) f' iu' th' us' w' it' ld')
    by_cases c : (bstep (xT u) N v q).1 = nI (sf (wN (xT u)) N)
    · rw [if_pos c] at st
      exact ⟨sq, f', iu', th', us', w', it', ld', wl_out st, ho _ _ _ _⟩
    · obtain ⟨sq', e1, e2⟩ := x_np (u := u) (L := Lx) (g := g) (pl := pl) (f := f') (iu := iu') (th := th') (bw := (bstep (xT u) N v q).1) (bi := (bstep (xT u) N v q).2.1) (bd := (bstep (xT u) N v q).2.2) (us := us') (w := w') (it := it') (ld := ld') hN hN5 hs
      have hc' : (!(np N (dg v N)).1) = true := hc
      have hf : ¬ (np N (dg v N)).1 = true := by
        intro g
        rw [g] at hc'
        cases hc'
      rw [if_neg hf] at e1
      rw [if_neg c, e1, bnd_some, if_pos rfl] at st
      exact ⟨sq', f', iu', th', us', w', it', ld', wl_out st, ho _ _ _ _⟩
  | cons x L ih =>
    intro v i q sq f iu th us w it ld hc hm hi hs hh
    rw [List.length_cons] at hi
    obtain ⟨f', iu', th', us', w', it', ld', st, ho⟩ := x_bestpass (Lx := Lx) ok hN hN5 hP (nI (sf (wN (xT u)) N)) q (i := i) (hm v List.mem_cons_self) (by omega) hs hh
    unfold f_X2_findBest_L38_90 at st
    rw [gM_bw] at st
    rw [bs_c]
    by_cases c : (bstep (xT u) N v q).1 = nI (sf (wN (xT u)) N)
    · rw [if_pos c] at st
      rw [bs_all ok hN hN5 c (x :: L) (fun y hy => hm y (List.mem_cons_of_mem _ hy))]
      exact ⟨sq, f', iu', th', us', w', it', ld', wl_out st, ho _ _ _ _⟩
    · obtain ⟨sq', e1, e2⟩ := x_np (u := u) (L := Lx) (g := g) (pl := pl) (f := f') (iu := iu') (th := th') (bw := (bstep (xT u) N v q).1) (bi := (bstep (xT u) N v q).2.1) (bd := (bstep (xT u) N v q).2.2) (us := us') (w := w') (it := it') (ld := ld') hN hN5 hs
      have hc' : ((np N (dg v N)).1 && (List.range N).all (fun k => (np N (dg v N)).2 k == dg x N k) && chn N (x :: L)) = true := hc
      rw [Bool.and_eq_true, Bool.and_eq_true, List.all_eq_true] at hc'
      obtain ⟨⟨hf, hx⟩, hc2⟩ := hc'
      rw [if_pos hf] at e1
      rw [if_neg c, e1, bnd_some, if_neg (by decide), nmv, nI_s1] at st
      have hs' : sqE sq' (dg x N) N := by
        intro k hk
        have h1 := e2 k hk
        have h2 := hx k (List.mem_range.mpr hk)
        rw [beq_iff_eq] at h2
        rw [h2] at h1
        exact h1
      rw [wl_in st]
      exact ih x (i + 1) (bstep (xT u) N v q) sq' f' iu' th' us' w' it' ld' hc2 (fun y hy => hm y (List.mem_cons_of_mem _ hy)) (by omega) hs' (ho _ _ _ _)
theorem x_findBest {u : XS} {Lx g pl : Fn} {N : Nat} (ok : tOk (xT u)) (hN : tOrders (xT u) = nI N) (hN5 : N ≤ 5) (hP : PLA (xT u) N g pl (N * 12)) (sq f iu th : Fn) (bw bi bd us w it ld : Int32) (hh : hOk (hM (g, pl, sq, bw, bi, bd) f iu th us w it ld)) : ∃ sq' f' iu' th' us' w' it' ld', f_X2_findBest (xM u Lx (g, pl, sq, bw, bi, bd) f iu th us w it ld) = some (0, xM u Lx (g, pl, sq', (bs (xT u) N (seqs N) (-1, bi, bd)).1, (bs (xT u) N (seqs N) (-1, bi, bd)).2.1, (bs (xT u) N (seqs N) (-1, bi, bd)).2.2) f' iu' th' us' w' it' ld') ∧ hOk (hM (g, pl, sq', (bs (xT u) N (seqs N) (-1, bi, bd)).1, (bs (xT u) N (seqs N) (-1, bi, bd)).2.1, (bs (xT u) N (seqs N) (-1, bi, bd)).2.2) f' iu' th' us' w' it' ld') := by
  obtain ⟨v, L, hl, hv⟩ := LP_hd N (by omega)
  have hlen := LP_len N (by omega)
  have hch := LP_chn N (by omega)
  obtain ⟨sq0, e0, hsq0⟩ : ∃ sq0, wl f_X2_findBest_L2_2s ((0 : Int32), xM u Lx (g, pl, sq, bw, bi, bd) f iu th us w it ld) = some (.inr (xM u Lx (g, pl, sq0, bw, bi, bd) f iu th us w it ld)) ∧ ∀ k, k < N → sq0 k = nI k := by
    have key : ∀ m k sq, k + m = N → (∀ j, j < k → sq j = nI j) → ∃ sq0, wl f_X2_findBest_L2_2s (nI k, xM u Lx (g, pl, sq, bw, bi, bd) f iu th us w it ld) = some (.inr (xM u Lx (g, pl, sq0, bw, bi, bd) f iu th us w it ld)) ∧ ∀ k, k < N → sq0 k = nI k := by
      intro m
      induction m with
      | zero =>
        intro k sq hk h
        have hk2 : k = N := by omega
        subst hk2
        refine ⟨sq, wl_out ?_, h⟩
        show f_X2_findBest_L2_2 (nI k) (xM u Lx (g, pl, sq, bw, bi, bd) f iu th us w it ld) = _
        unfold f_X2_findBest_L2_2
        rw [xM_T, hN, if_pos (Int32.le_refl _)]
      | succ m ih =>
        intro k sq hk h
        obtain ⟨sq0, e, h2⟩ := ih (k + 1) (upd sq k (nI k)) (by omega) (fun j hj => by
          by_cases c : j = k
          · rw [c, upd_s]
          · rw [upd_n c]; exact h j (by omega))
        refine ⟨sq0, ?_, h2⟩
        rw [← e]
        apply wl_in
        show f_X2_findBest_L2_2 (nI k) (xM u Lx (g, pl, sq, bw, bi, bd) f iu th us w it ld) = _
        unfold f_X2_findBest_L2_2
        rw [xM_T, hN, if_neg (nI_ge (by omega) (by omega)), ck_nI (by omega) (by omega), cl_nI (by omega), gM_sq2, xM_sq, nmv, nmv, nI_s1]
    exact key N 0 sq (by omega) (fun j hj => by omega)
  have hs : sqE sq0 (dg v N) N := fun k hk => ⟨by rw [hsq0 k hk, hv k hk], by rw [hv k hk]; omega⟩
  obtain ⟨sq', f', iu', th', us', w', it', ld', b1, b2⟩ := x_bestloop (u := u) (Lx := Lx) ok hN hN5 hP L v 0 (-1, bi, bd) sq0 f iu th us w it ld (by rw [← hl]; exact hch) (fun x hx => by rw [hl]; exact hx) (by rw [hl, List.length_cons] at hlen; omega) hs hh
  rw [← hl] at b1 b2
  have b1' : wl f_X2_findBest_L38_38s (nI (sf (wN (xT u)) N), (0 : Int32), xM u Lx (g, pl, sq0, -1, bi, bd) f iu th us w it ld) = some (.inr (xM u Lx (g, pl, sq', (bs (xT u) N (seqs N) (-1, bi, bd)).1, (bs (xT u) N (seqs N) (-1, bi, bd)).2.1, (bs (xT u) N (seqs N) (-1, bi, bd)).2.2) f' iu' th' us' w' it' ld')) := b1
  have ea : f_X2_allWorths (xM u Lx (g, pl, sq0, -1, bi, bd) f iu th us w it ld) = some (nI (sf (wN (xT u)) N), xM u Lx (g, pl, sq0, -1, bi, bd) f iu th us w it ld) := x_all (v := xM u Lx (g, pl, sq0, -1, bi, bd) f iu th us w it ld) ok hN hN5
  refine ⟨sq', f', iu', th', us', w', it', ld', ?_, b2⟩
  unfold f_X2_findBest
  rw [e0]
  show bnd (f_X2_allWorths (xM u Lx (g, pl, sq0, -1, bi, bd) f iu th us w it ld)) (fun r5 u6 => bne (wl f_X2_findBest_L38_38s (r5, (0 : Int32), u6)) (fun a => some a) fun b => nmv b fun u9 => some ((0 : Int32), u9)) = _
  rw [ea, bnd_some, b1']
  rfl
/-- what was best before does not count: the first sequence is always better -/
theorem bs_first {T : TownS} (ok : tOk T) {N : Nat} (hN : tOrders T = nI N) (hN5 : N ≤ 5) (a b c d : Int32) : bs T N (seqs N) (-1, a, b) = bs T N (seqs N) (-1, c, d) := by
  obtain ⟨v, L, hl, hv⟩ := LP_hd N (by omega)
  obtain ⟨w, e, hw⟩ := wv_le ok hN hN5 (v := v) (by rw [hl]; exact List.mem_cons_self)
  have hb := sf_le (f := wN T) (m := 99) N (fun o ho => (wN_ok ok (by rw [hN, i_nI (by omega)]; omega)).2.2)
  have c1 : (-1 : Int32) < wv T N v := by
    rw [e, i_lt, i_nI (by omega), tm1]
    omega
  rw [hl, bs_c, bs_c]
  have e1 : bstep T N v (-1, a, b) = (wv T N v, (rn T (dg v N) N).2.2.1, nI v) := if_pos c1
  have e2 : bstep T N v (-1, c, d) = (wv T N v, (rn T (dg v N) N).2.2.1, nI v) := if_pos c1
  rw [e1, e2]
theorem op_best {σ : XS} {τ : MS} (h : Rel σ τ) (a : Int32) : Op (f_X6_best a σ) (f_X7_best a τ) := by
  obtain ⟨hT, ok, hr⟩ := id h
  have okx : tOk (xT σ) := by rw [hT]; exact ok
  have o5 := ok.2.2.2.2.1
  obtain ⟨N, hN, hN1, -⟩ := i_ex (x := tOrders (dc (m_m τ))) (by omega)
  have hN5 : N ≤ 5 := by omega
  have hNx : tOrders (xT σ) = nI N := by rw [hT]; exact hN
  have hNm : m_m τ 4 = nI N := hN
  unfold f_X6_best f_X7_best
  rw [w_in, m_in, bnd_some, bnd_some]
  simp only [Int32.toInt_toInt64, Int32.reduceToInt, Int64.reduceToInt, ite01, fx_0, fm_0, bnd_some]
  by_cases h1 : 0 ≤ a.toInt ∧ a.toInt ≤ 2
  · rw [if_neg (not_not_intro h1), if_neg (not_not_intro h1)]
    obtain ⟨L, g, pl, f0, th0, p1, p2, p3⟩ := x_plot (u := σ) okx hNx hN5 h.2.2.2.2.2.2.2.2
    obtain ⟨sq', f', iu', th', us', w', it', ld', b1, b2⟩ := x_findBest (u := σ) (Lx := L) okx hNx hN5 p2 (h_sequence (xH σ)) f0 (h_inUse (xH σ)) th0 (h_bestWorth (xH σ)) (h_bestInTime (xH σ)) (h_bestDigits (xH σ)) 0 0 0 (-1) p3
    obtain ⟨O, f, w, it, ld, m1⟩ := m_bestloop ok hNm hN5 a (10 ^ N) 0 (-1, 0, 0) (m_on τ) (m_hours τ) (m_worth τ) (m_inTime τ) (m_lastOf τ) (by omega)
    have m1' : wl f_X7_best_L60_60s (a, nI N, nI (10 ^ N), (-1 : Int32), (0 : Int32), (0 : Int32), (0 : Int32), τ) = some (.inr (a, (rg (dc (m_m τ)) N 0 (10 ^ N) (-1, 0, 0)).1, (rg (dc (m_m τ)) N 0 (10 ^ N) (-1, 0, 0)).2.2, (rg (dc (m_m τ)) N 0 (10 ^ N) (-1, 0, 0)).2.1, mA τ O f w it ld)) := m1
    rw [rg_LP (by omega)] at m1'
    rw [bs_first okx hNx hN5 (h_bestInTime (xH σ)) (h_bestDigits (xH σ)) 0 0, hT] at b1 b2
    have hRR := Rel.mA (Rel.xZ h L b2) O f w it ld
    generalize bs (dc (m_m τ)) N (seqs N) (-1, 0, 0) = r at m1' b1 b2 hRR
    rw [p1, bnd_some, b1, bnd_some, l4, hNm, nmv, m_pow2 τ a hN5]
    show Op _ (bne (wl f_X7_best_L60_60s (a, nI N, nI (10 ^ N), (-1 : Int32), (0 : Int32), (0 : Int32), (0 : Int32), τ)) _ _)
    rw [m1']
    show Op _ (if a = 0 then some (r.1, mA τ O f w it ld) else if a = (1 : Int32) then some (r.2.1, mA τ O f w it ld) else some (r.2.2, mA τ O f w it ld))
    by_cases c0 : a = 0
    · rw [if_pos c0, if_pos c0]; exact Op.mk2 rfl hRR
    · rw [if_neg c0, if_neg c0]
      by_cases c1 : a = 1
      · rw [if_pos c1, if_pos c1]; exact Op.mk2 rfl hRR
      · rw [if_neg c1, if_neg c1]; exact Op.mk2 rfl hRR
  · rw [if_pos h1, if_pos h1]
    exact Op.mk' (h.fd (by decide))
