/-! sequences of orders, as the reference takes them -/
/-- the orders of a sequence, one after another -/
def rn (T : TownS) (s : Nat → Nat) : Nat → Ac
  | 0 => a0
  | k + 1 => tk T (s k) (rn T s k)
theorem rn_s (T : TownS) (s : Nat → Nat) (k : Nat) : rn T s (k + 1) = tk T (s k) (rn T s k) := rfl
theorem rn_le (T : TownS) (s : Nat → Nat) : ∀ k p, (rn T s k).1 p ≤ 8 := by
  intro k
  induction k with
  | zero => intro p; exact Nat.zero_le _
  | succ k ih => intro p; exact tk_le ih p
theorem rn_cg {T : TownS} {s s' : Nat → Nat} : ∀ k, (∀ i, i < k → s i = s' i) → rn T s k = rn T s' k := by
  intro k
  induction k with
  | zero => intro _; rfl
  | succ k ih =>
    intro h
    rw [rn_s, rn_s, ih (fun i hi => h i (by omega)), h k (by omega)]
/-- digit i of n, the highest first -/
def dg (v n i : Nat) : Nat := v / 10 ^ (n - 1 - i) % 10
theorem m_noOrders (τ : MS) (O f : Fn) (w it lo : Int32) : f_X7_noOrders (mA τ O f w it lo) = some (0, mA τ O (zr f 0 3200) 0 0 (-1)) := by
  have e : wl f_X7_noOrders_L2_2s ((0 : Int32), mA τ O f w it lo) = some (.inr (mA τ O (zr f 0 3200) w it lo)) := by
    refine wl_for' (fun i => (nI i, mA τ O (zr f 0 i) w it lo)) 3200 ?_ ?_ ?_
    · show ((0 : Int32), mA τ O f w it lo) = (nI 0, mA τ O (zr f 0 0) w it lo)
      rw [zr_0]; rfl
    · intro i hi
      have e := zr_s f 0 i
      rw [Nat.zero_add] at e
      show f_X7_noOrders_L2_2 (nI i) (mA τ O (zr f 0 i) w it lo) = some (.inl (nI (i + 1), mA τ O (zr f 0 (i + 1)) w it lo))
      unfold f_X7_noOrders_L2_2
      rw [if_neg (show ¬ (3200 : Int32) ≤ nI i from nI_ge (b := 3200) hi (by omega)), ck_nI hi (by omega), cl_nI (by omega), mA_h, e, nmv, nmv, nI_s1, mA_hs]
    · show f_X7_noOrders_L2_2 (nI 3200) (mA τ O (zr f 0 3200) w it lo) = _
      unfold f_X7_noOrders_L2_2
      rw [if_pos (show (3200 : Int32) ≤ nI 3200 from Int32.le_refl _)]
  unfold f_X7_noOrders
  rw [e]
  rfl
theorem m_pow (τ : MS) (v : Int32) {n : Nat} (hn : n ≤ 9) : ∃ b, (1 ≤ n → b = 10 ^ (n - 1)) ∧ b ≤ 1000000000 ∧ wl f_X7_takesAll_L9_9s (v, nI n, (1 : Int32), (1 : Int32), τ) = some (.inr (v, nI n, nI b, τ)) := by
  refine ⟨10 ^ (n - 1), fun _ => rfl, ?_, ?_⟩
  · calc 10 ^ (n - 1) ≤ 10 ^ 9 := Nat.pow_le_pow_right (by omega) (by omega)
      _ ≤ 1000000000 := by decide
  · refine wl_for' (fun i => (v, nI n, nI (10 ^ i), nI (i + 1), τ)) (n - 1) rfl ?_ ?_
    · intro i hi
      show f_X7_takesAll_L9_9 v (nI n) (nI (10 ^ i)) (nI (i + 1)) τ = some (.inl (v, nI n, nI (10 ^ (i + 1)), nI (i + 1 + 1), τ))
      unfold f_X7_takesAll_L9_9
      rw [if_neg (nI_ge (by omega) (by omega)), show (10 : Int32) = nI 10 from rfl, pk_mul, nmv, nmv, nI_s1]
      rfl
    · show f_X7_takesAll_L9_9 v (nI n) (nI (10 ^ (n - 1))) (nI (n - 1 + 1)) τ = _
      unfold f_X7_takesAll_L9_9
      rw [if_pos (nI_le (by omega) (by omega))]
theorem m_seq {τ : MS} (ok : tOk (dc (m_m τ))) {v n : Nat} (hv : v < 2 ^ 31) (hn : n ≤ 5) (hd : ∀ k, k < n → (dg v n k : Int) < (tOrders (dc (m_m τ))).toInt) : ∀ m k by_ O f, k + m = n → (k < n → by_ = 10 ^ (n - 1 - k)) → by_ ≤ 1000000000 → (∀ p, p < 3200 → f p = nI ((rn (dc (m_m τ)) (dg v n) k).1 p)) → ∃ O' f', wl f_X7_takesAll_L29_29s (nI v, nI n, nI by_, nI k, mA τ O f (rn (dc (m_m τ)) (dg v n) k).2.1 (rn (dc (m_m τ)) (dg v n) k).2.2.1 (rn (dc (m_m τ)) (dg v n) k).2.2.2) = some (.inr (mA τ O' f' (rn (dc (m_m τ)) (dg v n) n).2.1 (rn (dc (m_m τ)) (dg v n) n).2.2.1 (rn (dc (m_m τ)) (dg v n) n).2.2.2)) ∧ ∀ p, p < 3200 → f' p = nI ((rn (dc (m_m τ)) (dg v n) n).1 p) := by
  intro m
  induction m with
  | zero =>
    intro k by_ O f hk hb hb2 hf
    have hk2 : k = n := by omega
    subst hk2
    refine ⟨O, f, wl_out ?_, hf⟩
    show f_X7_takesAll_L29_29 (nI v) (nI k) (nI by_) (nI k) (mA τ O f (rn (dc (m_m τ)) (dg v k) k).2.1 (rn (dc (m_m τ)) (dg v k) k).2.2.1 (rn (dc (m_m τ)) (dg v k) k).2.2.2) = _
    unfold f_X7_takesAll_L29_29
    rw [if_pos (Int32.le_refl _)]
  | succ m ih =>
    intro k by_ O f hk hb hb2 hf
    have hb := hb (by omega)
    have hpos : 0 < by_ := by rw [hb]; exact Nat.pow_pos (by omega)
    have hdiv : v / by_ < 2 ^ 31 := Nat.lt_of_le_of_lt (Nat.div_le_self _ _) hv
    obtain ⟨O1, f1, e1, hf1⟩ := m_take ok (hd k (by omega)) (rn_le (dc (m_m τ)) (dg v n) k) (O := O) hf
    have h10 : k + 1 < n → by_ / 10 = 10 ^ (n - 1 - (k + 1)) := by
      intro h
      obtain ⟨q, hq⟩ : ∃ q, n - 1 - k = q + 1 := ⟨n - 1 - k - 1, by omega⟩
      rw [hb, hq, Nat.pow_succ, Nat.mul_div_cancel _ (by decide), show n - 1 - (k + 1) = q by omega]
    rw [← rn_s] at e1 hf1
    obtain ⟨O2, f2, e2, hf2⟩ := ih (k + 1) (by_ / 10) O1 f1 (by omega) h10 (Nat.le_trans (Nat.div_le_self _ _) hb2) hf1
    clear h10 ih
    refine ⟨O2, f2, ?_, hf2⟩
    rw [← e2]
    apply wl_in
    show f_X7_takesAll_L29_29 (nI v) (nI n) (nI by_) (nI k) (mA τ O f (rn (dc (m_m τ)) (dg v n) k).2.1 (rn (dc (m_m τ)) (dg v n) k).2.2.1 (rn (dc (m_m τ)) (dg v n) k).2.2.2) = _
    unfold f_X7_takesAll_L29_29
    have e0 : nI (v / by_) - nI (v / by_) / nI 10 * nI 10 = nI (dg v n k) := by
      rw [pk_rem hdiv (by omega) (by omega), hb]; rfl
    clear hb
    have hb3 : by_ < 2 ^ 31 := Nat.lt_of_le_of_lt hb2 (by decide)
    have hb4 : by_ < 2147483648 := hb3
    rw [if_neg (nI_ge (by omega) (by omega)), ck_nz (by rw [i_nI hb4]; omega), pk_div hv hpos hb3, nmv, show (10 : Int32) = nI 10 from rfl, e0, e1, bnd_some, pk_div hb3 (by decide) (by decide), nmv, nmv, nI_s1]
theorem m_takesAll {τ : MS} (ok : tOk (dc (m_m τ))) {v n : Nat} (hv : v < 2 ^ 31) (hn : n ≤ 5) (hd : ∀ k, k < n → (dg v n k : Int) < (tOrders (dc (m_m τ))).toInt) (O f : Fn) (w it lo : Int32) : ∃ O' f', f_X7_takesAll (nI v) (nI n) (mA τ O f w it lo) = some (0, mA τ O' f' (rn (dc (m_m τ)) (dg v n) n).2.1 (rn (dc (m_m τ)) (dg v n) n).2.2.1 (rn (dc (m_m τ)) (dg v n) n).2.2.2) ∧ ∀ p, p < 3200 → f' p = nI ((rn (dc (m_m τ)) (dg v n) n).1 p) := by
  obtain ⟨b, hb, hb2, e1⟩ := m_pow (mA τ O (zr f 0 3200) 0 0 (-1)) (nI v) (n := n) (by omega)
  obtain ⟨O', f', e2, hf⟩ := m_seq ok hv hn hd n 0 b O (zr f 0 3200) (by omega) (fun h => hb (by omega)) hb2 (fun p hp => by unfold zr; rw [if_pos (by omega)]; rfl)
  refine ⟨O', f', ?_, hf⟩
  have e2' : wl f_X7_takesAll_L29_29s (nI v, nI n, nI b, (0 : Int32), mA τ O (zr f 0 3200) 0 0 (-1)) = some (.inr (mA τ O' f' (rn (dc (m_m τ)) (dg v n) n).2.1 (rn (dc (m_m τ)) (dg v n) n).2.2.1 (rn (dc (m_m τ)) (dg v n) n).2.2.2)) := e2
  unfold f_X7_takesAll
  rw [m_noOrders, bnd_some, e1]
  show bne (wl f_X7_takesAll_L29_29s (nI v, nI n, nI b, (0 : Int32), mA τ O (zr f 0 3200) 0 0 (-1))) (fun a => some a) (fun b => nmv b fun u11 => some ((0 : Int32), u11)) = _
  rw [e2']
  rfl
/-! whether digits are a sequence -/
def ao (N : Nat) : Nat → Nat → Int32 → Bool
  | 0, left, _ => decide (left = 0)
  | n + 1, left, set => if N ≤ left % 10 then false else if bt set (left % 10) = true then false else ao N n (left / 10) (set ||| ((1 : Int32) <<< (nI (left % 10) &&& 31)))
theorem ao_s (N n left : Nat) (set : Int32) : ao N (n + 1) left set = if N ≤ left % 10 then false else if bt set (left % 10) = true then false else ao N n (left / 10) (set ||| ((1 : Int32) <<< (nI (left % 10) &&& 31))) := rfl
theorem m_ao {u : MS} {N n : Nat} (hN : m_m u 4 = nI N) (hN5 : N ≤ 5) (hn : n ≤ 5) : ∀ m k left set, k + m = n → left < 2 ^ 31 → bne (wl f_X7_areOrders_L8_8s (nI n, nI left, set, nI k, u)) (fun a => some a) (fun b => nmv b.1 fun y4 => nmv b.2 fun u3 => if y4 = 0 then some ((1 : Int32), u3) else some ((0 : Int32), u3)) = some (if ao N m left set = true then 1 else 0, u) := by
  intro m
  induction m with
  | zero =>
    intro k left set hk hl
    have e : f_X7_areOrders_L8_8s (nI n, nI left, set, nI k, u) = some (.inr (.inr (nI left, u))) := by
      show f_X7_areOrders_L8_8 (nI n) (nI left) set (nI k) u = _
      unfold f_X7_areOrders_L8_8
      rw [if_pos (nI_le (by omega) (by omega))]
    rw [wl_out e]
    show (if nI left = 0 then some ((1 : Int32), u) else some ((0 : Int32), u)) = some (if decide (left = 0) = true then 1 else 0, u)
    by_cases h : left = 0
    · rw [h]; rfl
    · rw [if_neg (nI_ne0 (by omega) hl), if_neg (by rw [decide_eq_true_eq]; exact h)]
  | succ m ih =>
    intro k left set hk hl
    have hr : nI left - nI left / (10 : Int32) * (10 : Int32) = nI (left % 10) := pk_rem (d := 10) hl (by omega) (by omega)
    have hd : nI left / (10 : Int32) = nI (left / 10) := pk_div (d := 10) hl (by omega) (by omega)
    have hm : left % 10 < 10 := Nat.mod_lt _ (by omega)
    rw [ao_s]
    have st : f_X7_areOrders_L8_8s (nI n, nI left, set, nI k, u) = f_X7_areOrders_L8_8 (nI n) (nI left) set (nI k) u := rfl
    conv at st => rhs; unfold f_X7_areOrders_L8_8
    rw [if_neg (nI_ge (by omega) (by omega)), hr, nmv, l4, hN] at st
    by_cases c1 : N ≤ left % 10
    · rw [if_pos (nI_le c1 (by omega))] at st
      rw [wl_out st, if_pos c1]
      rfl
    · rw [if_neg (nI_ge (by omega) (by omega)), m_has _ (by omega), bnd_some] at st
      rw [if_neg c1]
      by_cases c2 : bt set (left % 10) = true
      · rw [if_pos c2, if_neg (by decide)] at st
        rw [wl_out st, if_pos c2]
        rfl
      · rw [if_neg c2, if_pos rfl, nmv, hd, nmv, nmv, nI_s1] at st
        rw [wl_in st, if_neg c2]
        exact ih (k + 1) (left / 10) _ (by omega) (by omega)
theorem m_areOrders {u : MS} {N n : Nat} (hN : m_m u 4 = nI N) (hN5 : N ≤ 5) (hn : n ≤ 5) {v : Nat} (hv : v < 2 ^ 31) : f_X7_areOrders (nI v) (nI n) u = some (if ao N n v 0 = true then 1 else 0, u) := m_ao hN hN5 hn n 0 v 0 (by omega) hv
/-- what digits that are a sequence are -/
theorem ao_dg {N : Nat} : ∀ n left set, ao N n left set = true → (∀ i, i < n → left / 10 ^ i % 10 < N ∧ bt set (left / 10 ^ i % 10) = false ∧ ∀ j, j < i → left / 10 ^ j % 10 ≠ left / 10 ^ i % 10) ∧ left / 10 ^ n = 0 := by
  intro n
  induction n with
  | zero =>
    intro left set h
    refine ⟨fun i hi => by omega, ?_⟩
    have : left = 0 := of_decide_eq_true h
    rw [this]
  | succ n ih =>
    intro left set h
    rw [ao_s] at h
    by_cases c1 : N ≤ left % 10
    · rw [if_pos c1] at h; cases h
    · rw [if_neg c1] at h
      by_cases c2 : bt set (left % 10) = true
      · rw [if_pos c2] at h; cases h
      · rw [if_neg c2] at h
        obtain ⟨g1, g2⟩ := ih _ _ h
        have hm : left % 10 < 32 := by have := Nat.mod_lt left (show 0 < 10 by omega); omega
        have e : ∀ i, left / 10 / 10 ^ i = left / 10 ^ (i + 1) := fun i => by rw [Nat.div_div_eq_div_mul, Nat.pow_succ, Nat.mul_comm]
        refine ⟨fun i hi => ?_, by rw [← e]; exact g2⟩
        cases i with
        | zero =>
          rw [Nat.pow_zero, Nat.div_one]
          exact ⟨by omega, by cases q : bt set (left % 10) with
            | false => rfl
            | true => exact absurd q c2, fun j hj => by omega⟩
        | succ i =>
          obtain ⟨k1, k2, k3⟩ := g1 i (by omega)
          rw [e] at k1 k2 k3
          have hm2 : left / 10 ^ (i + 1) % 10 < 32 := by have := Nat.mod_lt (left / 10 ^ (i + 1)) (show 0 < 10 by omega); omega
          rw [b_or, b_shl _ hm _ hm2, b_one, Bool.or_eq_false_iff] at k2
          refine ⟨k1, k2.1, fun j hj => ?_⟩
          cases j with
          | zero =>
            rw [Nat.pow_zero, Nat.div_one]
            intro q
            have k22 := k2.2
            rw [← q] at k22
            simp at k22
          | succ j =>
            have := k3 j (by omega)
            rw [e] at this
            exact this
