/-! latest -/
/-- n, counted down: the number ahead of it -/
def bk : Nat → Int32
  | 0 => -1
  | n + 1 => nI n
theorem ck_k {α : Type} {k n : Nat} {y : Option α} (h : k < n) (hn : n < 100000) : (if nI k < 0 ∨ n ≤ k then none else y) = y := if_neg (fun q => q.elim (nI_nneg (by omega)) (by omega))
theorem bk_s (n : Nat) : nI n + (-1) = bk n := by
  cases n with
  | zero => rfl
  | succ n => exact m1_nI
/-- the greatest below n that is so -/
def la (P : Nat → Bool) : Nat → Int32
  | 0 => -1
  | n + 1 => if P n = true then nI n else la P n
def lp (T : TownS) (t D d : Nat) : Bool := decide (gs T t d = -1 ∧ gd T t d (sc T t - 1) ≤ nI D)
theorem x_la {u : XS} (ok : tOk (xT u)) {t D : Nat} (ht : (t : Int) < (tThings (xT u)).toInt) : ∀ (n : Nat) (L : Fn), n < 20000 → ∃ L', bne (wl f_X0_latestFor_L2_2s (nI t, nI D, bk n, sL u L)) (fun a => some a) (fun b => nmv b fun u3 => some ((-1 : Int32), u3)) = some (la (lp (xT u) t D) n, sL u L') := by
  obtain ⟨c1, c2, c3, c4⟩ := sc_ok ok ht
  intro n
  induction n with
  | zero =>
    intro L hn
    have e : f_X0_latestFor_L2_2s (nI t, nI D, bk 0, sL u L) = some (.inr (.inr (sL u L))) := by
      show f_X0_latestFor_L2_2 (nI t) (nI D) (-1) (sL u L) = _
      unfold f_X0_latestFor_L2_2
      rw [if_pos (by decide)]
    exact ⟨L, by rw [wl_out e]; rfl⟩
  | succ n ih =>
    intro L hn
    have h1 := x_through (u := sL u L) ok ht (b := n) (by omega)
    rw [xT_sL, xL_sL, sL_sL] at h1
    have h2 := x_last (u := sL u (gl (xT u) t n L)) ok ht
    rw [xT_sL, xL_sL] at h2
    have hla : la (lp (xT u) t D) (n + 1) = if lp (xT u) t D n = true then nI n else la (lp (xT u) t D) n := rfl
    rcases gs_or ok ht (b := n) with ⟨g0, g1, g2⟩ | ⟨g1, g2⟩
    · have hd := gl_gd ok ht (show n < 20000 by omega) g0 L (k := sc (xT u) t - 1) (by omega)
      by_cases hl : gd (xT u) t n (sc (xT u) t - 1) ≤ nI D
      · have hp : lp (xT u) t D n = true := decide_eq_true ⟨g0, hl⟩
        have e : f_X0_latestFor_L2_2s (nI t, nI D, bk (n + 1), sL u L) = some (.inr (.inl (nI n, sL u (gl (xT u) t n L)))) := by
          show f_X0_latestFor_L2_2 (nI t) (nI D) (nI n) (sL u L) = _
          unfold f_X0_latestFor_L2_2
          rw [if_neg (nI_nneg (by omega)), h1, bnd_some, if_neg g1, h2, bnd_some, hd, if_neg (Int32.not_lt.mpr hl)]
        refine ⟨gl (xT u) t n L, ?_⟩
        rw [wl_out e, hla, if_pos hp]; rfl
      · have hp : ¬ lp (xT u) t D n = true := by unfold lp; rw [decide_eq_true_eq]; exact fun q => hl q.2
        have e : f_X0_latestFor_L2_2s (nI t, nI D, bk (n + 1), sL u L) = some (.inl (nI t, nI D, bk n, sL u (gl (xT u) t n L))) := by
          show f_X0_latestFor_L2_2 (nI t) (nI D) (nI n) (sL u L) = _
          unfold f_X0_latestFor_L2_2
          rw [if_neg (nI_nneg (by omega)), h1, bnd_some, if_neg g1, h2, bnd_some, hd, if_pos (Int32.not_le.mp hl), nmv, bk_s]
        obtain ⟨L', e2⟩ := ih (gl (xT u) t n L) (by omega)
        exact ⟨L', by rw [wl_in e, hla, if_neg hp]; exact e2⟩
    · have hp : ¬ lp (xT u) t D n = true := by
        unfold lp; rw [decide_eq_true_eq]; intro q; rw [q.1] at g2; exact g2 (by decide)
      have e : f_X0_latestFor_L2_2s (nI t, nI D, bk (n + 1), sL u L) = some (.inl (nI t, nI D, bk n, sL u (gl (xT u) t n L))) := by
        show f_X0_latestFor_L2_2 (nI t) (nI D) (nI n) (sL u L) = _
        unfold f_X0_latestFor_L2_2
        rw [if_neg (nI_nneg (by omega)), h1, bnd_some, if_pos g1, nmv, bk_s]
      obtain ⟨L', e2⟩ := ih (gl (xT u) t n L) (by omega)
      exact ⟨L', by rw [wl_in e, hla, if_neg hp]; exact e2⟩
theorem m_la {u : MS} (ok : tOk (dc (m_m u))) {t D : Nat} (ht : (t : Int) < (tThings (dc (m_m u))).toInt) (hD : D < 10000) : ∀ (n i : Nat) (L : Fn), i + n = D + 1 → ∃ L', wl f_X7_latest_L32_32s (nI t, nI D, la (lp (dc (m_m u)) t D) i, nI i, mu_on u L) = some (.inr (la (lp (dc (m_m u)) t D) (D + 1), mu_on u L')) := by
  obtain ⟨c1, c2, c3, c4⟩ := sc_ok ok ht
  intro n
  induction n with
  | zero =>
    intro i L hn
    have hi : i = D + 1 := by omega
    subst hi
    have e : f_X7_latest_L32_32s (nI t, nI D, la (lp (dc (m_m u)) t D) (D + 1), nI (D + 1), mu_on u L) = some (.inr (.inr (la (lp (dc (m_m u)) t D) (D + 1), mu_on u L))) := by
      show f_X7_latest_L32_32 (nI t) (nI D) (la (lp (dc (m_m u)) t D) (D + 1)) (nI (D + 1)) (mu_on u L) = _
      unfold f_X7_latest_L32_32
      rw [if_pos (nI_lt (by omega) (by omega))]
    exact ⟨L, wl_out e⟩
  | succ n ih =>
    intro i L hn
    have h1 := m_runs (u := mu_on u L) ok ht (b := i) (by omega)
    rw [mm_on, mon_on, on_on] at h1
    have h2 := m_last (u := mu_on u (gl (dc (m_m u)) t i L)) ok ht
    rw [mm_on, mon_on] at h2
    have hla : la (lp (dc (m_m u)) t D) (i + 1) = if lp (dc (m_m u)) t D i = true then nI i else la (lp (dc (m_m u)) t D) i := rfl
    obtain ⟨L', e2⟩ := ih (i + 1) (gl (dc (m_m u)) t i L) (by omega)
    refine ⟨L', ?_⟩
    rw [← e2]
    apply wl_in
    show f_X7_latest_L32_32 (nI t) (nI D) (la (lp (dc (m_m u)) t D) i) (nI i) (mu_on u L) = _
    unfold f_X7_latest_L32_32
    rw [hla]
    rcases gs_or ok ht (b := i) with ⟨g0, g1, g2⟩ | ⟨g1, g2⟩
    · have hd := gl_gd ok ht (show i < 20000 by omega) g0 L (k := sc (dc (m_m u)) t - 1) (by omega)
      by_cases hl : gd (dc (m_m u)) t i (sc (dc (m_m u)) t - 1) ≤ nI D
      · have hp : lp (dc (m_m u)) t D i = true := decide_eq_true ⟨g0, hl⟩
        rw [if_neg (nI_nlt (by omega) (by omega)), h1, bnd_some, if_neg g1, h2, bnd_some, hd, if_neg (Int32.not_lt.mpr hl), nmv, nI_s1, if_pos hp]
      · have hp : ¬ lp (dc (m_m u)) t D i = true := by unfold lp; rw [decide_eq_true_eq]; exact fun q => hl q.2
        rw [if_neg (nI_nlt (by omega) (by omega)), h1, bnd_some, if_neg g1, h2, bnd_some, hd, if_pos (Int32.not_le.mp hl), nmv, nI_s1, if_neg hp]
    · have hp : ¬ lp (dc (m_m u)) t D i = true := by
        unfold lp; rw [decide_eq_true_eq]; intro q; rw [q.1] at g2; exact g2 (by decide)
      rw [if_neg (nI_nlt (by omega) (by omega)), h1, bnd_some, if_pos g1, nmv, nI_s1, if_neg hp]
theorem op_latest {σ : XS} {τ : MS} (h : Rel σ τ) (a c : Int32) : Op (f_X6_latest a c σ) (f_X7_latest a c τ) := by
  obtain ⟨hT, ok, hr⟩ := id h
  have okx : tOk (xT σ) := by rw [hT]; exact ok
  unfold f_X6_latest f_X7_latest
  rw [x_hasThing okx, m_isThing ok, bnd_some, bnd_some, hT]
  simp only [w_in, m_in, bnd_some, ite01, Int32.toInt_toInt64, Int32.reduceToInt, Int64.reduceToInt, fx_0, fm_0]
  by_cases h1 : pThing (dc (m_m τ)) a
  · rw [if_neg (not_not_intro h1), if_neg (not_not_intro h1)]
    by_cases h2 : 0 ≤ c.toInt ∧ c.toInt ≤ 400
    · rw [if_neg (not_not_intro h2), if_neg (not_not_intro h2)]
      obtain ⟨p1, p2⟩ := h1
      obtain ⟨t, rfl, ht, ht2⟩ := i_ex p1
      obtain ⟨d, rfl, hd, -⟩ := i_ex h2.1
      have hs : (t : Int) < (tThings (dc (m_m τ))).toInt := by omega
      obtain ⟨L, e1⟩ := x_la okx (t := t) (D := d) (by rw [hT]; exact hs) (d + 1) (xL σ) (by omega)
      obtain ⟨O, e2⟩ := m_la ok hs (D := d) (by omega) (d + 1) 0 (m_on τ) (by omega)
      have e1' : f_X0_latestFor (nI t) (nI d) σ = some (la (lp (xT σ) t d) (d + 1), sL σ L) := e1
      have e2' : wl f_X7_latest_L32_32s (nI t, nI d, (-1 : Int32), (0 : Int32), τ) = some (.inr (la (lp (dc (m_m τ)) t d) (d + 1), mu_on τ O)) := e2
      rw [e1', e2', bnd_some, hT]
      exact op_none (h.on _ _) _
    · rw [if_pos h2, if_pos h2]; exact Op.mk' (h.fd (by decide))
  · rw [if_pos h1, if_pos h1]; exact Op.mk' (h.fd (by decide))
/-! waits -/
/-- the most days between two steps, up to step i -/
def mx (L : Fn) : Nat → Int32
  | 0 => 0
  | i + 1 => if mx L i < L (i + 1) - L i then L (i + 1) - L i else mx L i
theorem mx_eq {L O : Fn} : ∀ (n : Nat), (∀ k, k ≤ n → L k = O k) → mx L n = mx O n := by
  intro n
  induction n with
  | zero => intro _; rfl
  | succ n ih =>
    intro h
    have e := ih (fun k hk => h k (by omega))
    show (if mx L n < L (n + 1) - L n then L (n + 1) - L n else mx L n) = (if mx O n < O (n + 1) - O n then O (n + 1) - O n else mx O n)
    rw [e, h (n + 1) (by omega), h n (by omega)]
theorem x_longest {u : XS} (ok : tOk (xT u)) {t : Nat} (ht : (t : Int) < (tThings (xT u)).toInt) : f_X0_longestWait (nI t) u = some (mx (xL u) (sc (xT u) t - 1), u) := by
  obtain ⟨c1, c2, c3, c4⟩ := sc_ok ok ht
  have e : wl f_X0_longestWait_L4_4s (nI t, (0 : Int32), (1 : Int32), u) = some (.inr (mx (xL u) (sc (xT u) t - 1), u)) := by
    refine wl_for' (fun i => (nI t, mx (xL u) i, nI (i + 1), u)) (sc (xT u) t - 1) rfl ?_ ?_
    · intro i hi
      show f_X0_longestWait_L4_4 (nI t) (mx (xL u) i) (nI (i + 1)) u = some (.inl (nI t, mx (xL u) (i + 1), nI (i + 1 + 1), u))
      unfold f_X0_longestWait_L4_4
      rw [ck_nI c1 (by omega), cl_nI (by omega), c2, if_neg (nI_ge (by omega) (by omega)), ck_nI (by omega) (by omega), nmv, nI_p1, ck_nI (by omega) (by omega), cl_nI (by omega), cl_nI (by omega), nmv, nmv, nI_s1]
      rfl
    · show f_X0_longestWait_L4_4 (nI t) (mx (xL u) (sc (xT u) t - 1)) (nI (sc (xT u) t - 1 + 1)) u = _
      unfold f_X0_longestWait_L4_4
      rw [ck_nI c1 (by omega), cl_nI (by omega), c2, if_pos (nI_le (by omega) (by omega))]
  unfold f_X0_longestWait
  rw [e]
  rfl
theorem m_longest {u : MS} (ok : tOk (dc (m_m u))) {t : Nat} (ht : (t : Int) < (tThings (dc (m_m u))).toInt) : wl f_X7_waits_L43_43s (nI t, (0 : Int32), (1 : Int32), u) = some (.inr (mx (m_on u) (sc (dc (m_m u)) t - 1), u)) := by
  obtain ⟨c1, c2, c3, c4⟩ := sc_ok ok ht
  refine wl_for' (fun i => (nI t, mx (m_on u) i, nI (i + 1), u)) (sc (dc (m_m u)) t - 1) rfl ?_ ?_
  · intro i hi
    show f_X7_waits_L43_43 (nI t) (mx (m_on u) i) (nI (i + 1)) u = some (.inl (nI t, mx (m_on u) (i + 1), nI (i + 1 + 1), u))
    unfold f_X7_waits_L43_43
    have hmx : mx (m_on u) (i + 1) = if mx (m_on u) i < m_on u (i + 1) - m_on u i then m_on u (i + 1) - m_on u i else mx (m_on u) i := rfl
    rw [m_steps _ c1, bnd_some, c2, if_neg (nI_ge (by omega) (by omega)), ck_nI (by omega) (by omega), nmv, nI_p1, ck_nI (by omega) (by omega), cl_nI (by omega), cl_nI (by omega), hmx]
    by_cases hl : m_on u (i + 1) - m_on u i ≤ mx (m_on u) i
    · rw [if_pos hl, nmv, nI_s1, if_neg (Int32.not_lt.mpr hl)]
    · rw [if_neg hl, ck_k (by omega) (by omega), nmv, ck_nI (by omega) (by omega), nmv, nmv, nI_s1, if_pos (Int32.not_le.mp hl), cl_nI (by omega)]
  · show f_X7_waits_L43_43 (nI t) (mx (m_on u) (sc (dc (m_m u)) t - 1)) (nI (sc (dc (m_m u)) t - 1 + 1)) u = _
    unfold f_X7_waits_L43_43
    rw [m_steps _ c1, bnd_some, c2, if_pos (nI_le (by omega) (by omega))]
theorem op_waits {σ : XS} {τ : MS} (h : Rel σ τ) (a c : Int32) : Op (f_X6_waits a c σ) (f_X7_waits a c τ) := by
  obtain ⟨hT, ok, hr⟩ := id h
  have okx : tOk (xT σ) := by rw [hT]; exact ok
  unfold f_X6_waits f_X7_waits
  rw [x_hasThing okx, m_isThing ok, bnd_some, bnd_some, hT]
  simp only [w_in, m_isDay, bnd_some, ite01, Int32.reduceToInt, fx_0, fm_0]
  by_cases h1 : pThing (dc (m_m τ)) a
  · rw [if_neg (not_not_intro h1), if_neg (not_not_intro h1)]
    by_cases h2 : 0 ≤ c.toInt ∧ c.toInt ≤ 999
    · rw [if_neg (not_not_intro h2), if_neg (not_not_intro h2)]
      obtain ⟨p1, p2⟩ := h1
      obtain ⟨t, rfl, ht, ht2⟩ := i_ex p1
      obtain ⟨d, rfl, hd, -⟩ := i_ex h2.1
      have hs : (t : Int) < (tThings (dc (m_m τ))).toInt := by omega
      have hsx : (t : Int) < (tThings (xT σ)).toInt := by rw [hT]; exact hs
      obtain ⟨c1, c2, c3, c4⟩ := sc_ok ok hs
      obtain ⟨L, e1, l1⟩ := x_begun okx (t := t) (b := d) hsx (by omega)
      obtain ⟨O, e2, l2⟩ := m_begun ok hs (b := d) (by omega)
      rw [hT] at e1 l1
      rw [e1, e2, bnd_some, bnd_some]
      rcases bN_cases (dc (m_m τ)) t d with q | ⟨i, hi, q⟩
      · rw [q, if_neg (by decide), if_neg (by decide), fx_3, fm_3]
        exact Op.mk' ((h.on _ _).fd (by decide))
      · have x1 := x_longest (u := sL σ L) okx hsx
        have m1 := m_longest (u := mu_on τ O) ok hs
        rw [xT_sL, xL_sL, hT] at x1
        rw [mm_on, mon_on] at m1
        rw [q, if_pos (nI_nn (by omega)), if_pos (nI_nn (by omega)), x1, m1, mx_eq (O := O) (sc (dc (m_m τ)) t - 1) (fun k hk => by rw [(l1 i q hi).2 k (by omega), (l2 i q hi).2 k (by omega)])]
        exact Op.mk' (h.on _ _)
    · rw [if_pos h2, if_pos h2]; exact Op.mk' (h.fd (by decide))
  · rw [if_pos h1, if_pos h1]; exact Op.mk' (h.fd (by decide))
/-! chance -/
theorem b_low {x : Int32} {n : Nat} (h : ∀ i, n ≤ i → i < 32 → bt x i = false) : ∃ k, x = nI k ∧ k < 2 ^ n := by
  refine ⟨x.toBitVec.toNat, ?_, ?_⟩
  · apply Int32.toBitVec_inj.mp
    apply BitVec.eq_of_toNat_eq
    show x.toBitVec.toNat = (BitVec.ofNat 32 x.toBitVec.toNat).toNat
    rw [BitVec.toNat_ofNat, Nat.mod_eq_of_lt x.toBitVec.isLt]
  · refine Nat.lt_pow_two_of_testBit _ (fun i hi => ?_)
    rw [BitVec.testBit_toNat]
    by_cases h2 : i < 32
    · exact h i hi h2
    · exact BitVec.getLsbD_of_ge _ _ (by omega)
def dr (z : Int32) : Int32 := (z.toUInt32 >>> ((8 : Int32).toUInt32 &&& Int32.toUInt32 31)).toInt32
theorem dr_60 (z : Int32) : ∃ n, dr z - dr z / 60 * 60 = nI n ∧ n < 60 := by
  obtain ⟨k, e, hk⟩ := b_low (x := dr z) (n := 24) (fun i hi h32 => by
    show bt ((z.toUInt32 >>> ((nI 8).toUInt32 &&& Int32.toUInt32 31)).toInt32) i = false
    rw [b_ushr 8 (by omega), b_big (by omega)])
  rw [e]
  refine ⟨k % 60, ?_, Nat.mod_lt _ (by omega)⟩
  exact pk_rem (d := 60) (by omega) (by omega) (by omega)
theorem tOk_z {T : TownS} (ok : tOk T) (v : Int32) : tOk (uZ T v) := ok
theorem op_chance {σ : XS} {τ : MS} (h : Rel σ τ) (a c : Int32) : Op (f_X6_chance a c σ) (f_X7_chance a c τ) := by
  obtain ⟨hT, ok, hr⟩ := id h
  have okx : tOk (xT σ) := by rw [hT]; exact ok
  unfold f_X6_chance f_X7_chance
  rw [x_hasThing okx, m_isThing ok, bnd_some, bnd_some, hT]
  simp only [w_in, m_in, bnd_some, ite01, Int32.toInt_toInt64, Int32.reduceToInt, Int64.reduceToInt, fx_0, fm_0]
  by_cases h1 : pThing (dc (m_m τ)) a
  · rw [if_neg (not_not_intro h1), if_neg (not_not_intro h1)]
    by_cases h2 : 1 ≤ c.toInt ∧ c.toInt ≤ 40
    · rw [if_neg (not_not_intro h2), if_neg (not_not_intro h2)]
      obtain ⟨p1, p2⟩ := h1
      obtain ⟨t, rfl, ht, ht2⟩ := i_ex p1
      obtain ⟨N, rfl, hN, -⟩ := i_ex (x := c) (by omega)
      have hs : (t : Int) < (tThings (dc (m_m τ))).toInt := by omega
      obtain ⟨e, f, g1, g2, g3⟩ := wl_par (st1 := f_X6_chance_L32_32s) (st2 := f_X7_chance_L32_32s)
        (fun n x y => ∃ i v σ' τ', i + n = N ∧ x = (nI t, nI N, v, nI i, σ') ∧ y = (nI t, nI N, v, nI i, τ') ∧ Rel σ' τ' ∧ tThings (dc (m_m τ')) = tThings (dc (m_m τ)))
        (fun e f => ∃ v σ' τ', e = .inr (v, σ') ∧ f = .inr (v, τ') ∧ Rel σ' τ') (by
          rintro n x y ⟨i, v, σ', τ', hi, rfl, rfl, hR, hth⟩
          obtain ⟨hT', ok', hr'⟩ := id hR
          cases n with
          | zero =>
            right
            refine ⟨_, _, ?_, ?_, v, σ', τ', rfl, rfl, hR⟩
            · show f_X6_chance_L32_32 _ _ _ _ _ = _
              unfold f_X6_chance_L32_32
              rw [if_pos (nI_le (by omega) (by omega))]
            · show f_X7_chance_L32_32 _ _ _ _ _ = _
              unfold f_X7_chance_L32_32
              rw [if_pos (nI_le (by omega) (by omega))]
          | succ n =>
            left
            obtain ⟨z, hz2⟩ : ∃ z, z = m_m τ' 5 * 1103515245 + 12345 := ⟨_, rfl⟩
            have hz : tZ (xT σ') = m_m τ' 5 := by rw [hT']; rfl
            have hR2 : Rel (sT σ' (uZ (xT σ') z)) (mu_m τ' (upd (m_m τ') 5 z)) := hR.town (by rw [dc_5, hT']) (by rw [dc_5]; exact ok')
            obtain ⟨b, hb, hb2⟩ := dr_60 z
            have ok2 := hR2.2.1
            have hs2 : (t : Int) < (tThings (dc (m_m (mu_m τ' (upd (m_m τ') 5 z))))).toInt := by rw [mm_mu, dc_5]; show (t : Int) < (tThings (dc (m_m τ'))).toInt; rw [hth]; exact hs
            have x1 := x_through (u := sT σ' (uZ (xT σ') z)) (t := t) (b := b) (by rw [hR2.1]; exact ok2) (by rw [hR2.1]; exact hs2) (by omega)
            have m1 := m_runs (u := mu_m τ' (upd (m_m τ') 5 z)) (t := t) (b := b) ok2 hs2 (by omega)
            rw [hR2.1] at x1
            have ed : f_X5_draw σ' = some (dr z, sT σ' (uZ (xT σ') z)) := by
              unfold f_X5_draw
              rw [hz, ← hz2]
              rfl
            have ex : ∀ w, f_X6_chance_L32_32s (nI t, nI N, w, nI i, σ') = some (.inl (nI t, nI N, (if 0 ≤ gs (dc (m_m (mu_m τ' (upd (m_m τ') 5 z)))) t b then w else w + 1), nI (i + 1), sL (sT σ' (uZ (xT σ') z)) (gl (dc (m_m (mu_m τ' (upd (m_m τ') 5 z)))) t b (xL (sT σ' (uZ (xT σ') z)))))) := by
              intro w
              show f_X6_chance_L32_32 _ _ _ _ _ = _
              unfold f_X6_chance_L32_32
              rw [if_neg (nI_ge (by omega) (by omega)), ed, bnd_some, hb, x1, bnd_some]
              by_cases hg : 0 ≤ gs (dc (m_m (mu_m τ' (upd (m_m τ') 5 z)))) t b
              · rw [if_pos hg, if_pos hg, nmv, nI_s1]
              · rw [if_neg hg, if_neg hg, nmv, nmv, nI_s1]
            have em : ∀ w, f_X7_chance_L32_32s (nI t, nI N, w, nI i, τ') = some (.inl (nI t, nI N, (if 0 ≤ gs (dc (m_m (mu_m τ' (upd (m_m τ') 5 z)))) t b then w else w + 1), nI (i + 1), mu_on (mu_m τ' (upd (m_m τ') 5 z)) (gl (dc (m_m (mu_m τ' (upd (m_m τ') 5 z)))) t b (m_on (mu_m τ' (upd (m_m τ') 5 z)))))) := by
              intro w
              show f_X7_chance_L32_32 _ _ _ _ _ = _
              unfold f_X7_chance_L32_32
              rw [if_neg (nI_ge (by omega) (by omega)), l5, ← hz2, nmv, nmv, nmv, mm_mu, upd_s, show (z.toUInt32 >>> ((8 : Int32).toUInt32 &&& Int32.toUInt32 31)).toInt32 = dr z from rfl, hb, m1, bnd_some]
              by_cases hg : 0 ≤ gs (dc (m_m (mu_m τ' (upd (m_m τ') 5 z)))) t b
              · rw [if_pos hg, if_pos hg, nmv, nmv, nI_s1, Int32.add_zero]
              · rw [if_neg hg, if_neg hg, nmv, nmv, nI_s1]
            exact ⟨_, _, ex v, em v, n, by omega, i + 1, _, _, _, by omega, rfl, rfl, hR2.on _ _, hth⟩) N (nI t, nI N, 0, 0, σ) (nI t, nI N, 0, 0, τ) ⟨0, 0, σ, τ, by omega, rfl, rfl, h, rfl⟩
      obtain ⟨v, σ', τ', rfl, rfl, hR⟩ := g3
      rw [g1, g2]
      exact Op.mk' hR
    · rw [if_pos h2, if_pos h2]; exact Op.mk' (h.fd (by decide))
  · rw [if_pos h1, if_pos h1]; exact Op.mk' (h.fd (by decide))
