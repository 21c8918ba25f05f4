/-! items of a text -/
/-- how an item ends on both sides: a fault, well, or before a number that can't stand there -/
def ItO (u : XS) (τ : MS) (n p : Nat) (x : Option (Int32 × XS)) (y : Option (Int32 × MS)) : Prop := ∃ q T' m', p ≤ q ∧ q ≤ n ∧ ((x = some (0, XP u (m_tape τ) n q T') ∧ y = some (0, MP τ n q m' 1) ∧ tz T') ∨ (x = some (1, XP u (m_tape τ) n q T') ∧ y = some (0, MP τ n q m' 0) ∧ T' = dc m' ∧ tOk T') ∨ (x = some (1, XP u (m_tape τ) n q T') ∧ y = some (0, MP τ n q m' 1) ∧ tK (m_tape τ) n q = 2 ∧ tz T'))
section ITEMS
variable {u : XS} {τ : MS} {n p : Nat} {m : Fn}
theorem x_goB {B : Fn} (ht : tpe u B n) (hp : p ≤ n) (T : TownS) : f_X4_goOn (XP u B n p T) = some (0, XP u B n (tE B n p) T) := x_goOn ht T (tE_le hp).2.1 _ _ _
theorem it_round (ht : tpe u (m_tape τ) n) (hn : m_taped τ = nI n) (hn1 : n ≤ 120) (hp : p ≤ n) (ok : tOk (dc m)) : ItO u τ n p (f_X4_readRound (XP u (m_tape τ) n p (dc m))) (bnd (f_X7_number 1 12 (MP τ n (tE (m_tape τ) n p) m 0)) fun r24 u25 => nmv (mu_m u25 (upd (m_m u25) (0 : Int32).toNatClampNeg r24)) fun u26 => some ((0 : Int32), u26)) := by
  have e1 := tS_le (B := m_tape τ) hp
  have e2 := tE_le (B := m_tape τ) hp
  have e3 := tS_le (B := m_tape τ) e2.2.1
  have e4 := tE_le (B := m_tape τ) e2.2.1
  unfold f_X4_readRound
  rw [x_goB ht hp, bnd_some, x_isNumber, bnd_some, m_numW hn hn1 e2.2.1]
  by_cases c : nb (m_tape τ) n (tE (m_tape τ) n p) 1 12
  · rw [if_pos c, if_neg (by decide), if_pos c, bnd_some, yP_x, nmv, yP_t, yP_T, nmv, x_goB ht e2.2.1, bnd_some, nmv, l0, mP_m, pM_m]
    refine ⟨tE (m_tape τ) n (tE (m_tape τ) n p), uRound (dc m) (tV (m_tape τ) n (tE (m_tape τ) n p)), upd m 0 (tV (m_tape τ) n (tE (m_tape τ) n p)), by omega, by omega, Or.inr (Or.inl ⟨rfl, rfl, (dc_0 _ _).symm, ?_⟩)⟩
    exact ⟨c.2, ok.2⟩
  · rw [if_neg c, if_pos rfl, if_neg c, bnd_some, nmv, l0, mP_m, pM_m]
    exact ⟨tE (m_tape τ) n p, dc m, _, by omega, by omega, Or.inl ⟨rfl, rfl, tz_dc _⟩⟩
theorem it_near (ht : tpe u (m_tape τ) n) (hn : m_taped τ = nI n) (hn1 : n ≤ 120) (hp : p ≤ n) (ok : tOk (dc m)) : ItO u τ n p (f_X4_readNear (XP u (m_tape τ) n p (dc m))) (bnd (f_X7_number 0 11 (MP τ n (tE (m_tape τ) n p) m 0)) fun r21 u22 => nmv (mu_m u22 (upd (m_m u22) (1 : Int32).toNatClampNeg r21)) fun u23 => some ((0 : Int32), u23)) := by
  have e1 := tS_le (B := m_tape τ) hp
  have e2 := tE_le (B := m_tape τ) hp
  have e3 := tS_le (B := m_tape τ) e2.2.1
  have e4 := tE_le (B := m_tape τ) e2.2.1
  unfold f_X4_readNear
  rw [x_goB ht hp, bnd_some, x_isNumber, bnd_some, m_numW hn hn1 e2.2.1]
  by_cases c : nb (m_tape τ) n (tE (m_tape τ) n p) 0 11
  · rw [if_pos c, if_neg (by decide), if_pos c, bnd_some, yP_x, nmv, yP_t, yP_T, nmv, x_goB ht e2.2.1, bnd_some, nmv, l1, mP_m, pM_m]
    refine ⟨tE (m_tape τ) n (tE (m_tape τ) n p), uNear (dc m) (tV (m_tape τ) n (tE (m_tape τ) n p)), upd m 1 (tV (m_tape τ) n (tE (m_tape τ) n p)), by omega, by omega, Or.inr (Or.inl ⟨rfl, rfl, (dc_1 _ _).symm, ?_⟩)⟩
    have c2 : 0 ≤ (tV (m_tape τ) n (tE (m_tape τ) n p)).toInt ∧ (tV (m_tape τ) n (tE (m_tape τ) n p)).toInt ≤ 11 := c.2
    exact ⟨ok.1, ⟨by show -1 ≤ (tV (m_tape τ) n (tE (m_tape τ) n p)).toInt; omega, c2.2⟩, ok.2.2⟩
  · rw [if_neg c, if_pos rfl, if_neg c, bnd_some, nmv, l1, mP_m, pM_m]
    exact ⟨tE (m_tape τ) n p, dc m, _, by omega, by omega, Or.inl ⟨rfl, rfl, tz_dc _⟩⟩
/-! tool -/
theorem tOk_tool {T : TownS} (ok : tOk T) {k : Nat} (hk : tTools T = nI k) (h8 : k < 8) {a : Int32} (ha : 0 ≤ a.toInt ∧ a.toInt ≤ 4095) : tOk (uTools (uDays T (upd (tDays T) k a)) (nI (k + 1))) := by
  obtain ⟨o1, o2, o3, o4, o5, o6, o7, o8, o9, o10, o11⟩ := ok
  refine ⟨o1, o2, ?_, o4, o5, ?_, o7, o8, ?_, o10, o11⟩
  · show 0 ≤ (nI (k + 1)).toInt ∧ (nI (k + 1)).toInt ≤ 8
    rw [i_nI (by omega)]; omega
  · intro j hj
    show 0 ≤ (upd (tDays T) k a j).toInt ∧ (upd (tDays T) k a j).toInt ≤ 4095
    by_cases e : j = k
    · rw [e, upd_s]; exact ha
    · rw [upd_n e]; exact o6 j hj
  · intro t i ht hi
    obtain ⟨q1, q2, q3⟩ := o9 t i ht hi
    refine ⟨⟨q1.1, ?_⟩, q2, q3⟩
    have h := q1.2
    rw [hk, i_nI (by omega)] at h
    show _ < (nI (k + 1)).toInt
    rw [i_nI (by omega)]
    have h3 : (tNums (uTools (uDays T (upd (tDays T) k a)) (nI (k + 1))) (t * 24 + i * 3)).toInt < k := h
    omega
def lowb (s : Int32) : Prop := ∀ i, 12 ≤ i → i < 32 → bt s i = false
theorem lowb_or {s : Int32} (h : lowb s) {v : Nat} (hv : v < 12) : lowb (s ||| ((1 : Int32) <<< (nI v &&& 31))) := by
  intro i h1 h2
  rw [b_or, h i h1 h2, b_shl _ (by omega) _ h2, b_one]
  simp
  omega
theorem lowb_rng {s : Int32} (h : lowb s) : 0 ≤ s.toInt ∧ s.toInt ≤ 4095 := by
  obtain ⟨k, e, hk⟩ := b_low (n := 12) h
  rw [e, i_nI (by omega)]
  omega
theorem it_toolloop (ht : tpe u (m_tape τ) n) (hn : m_taped τ = nI n) (hn1 : n ≤ 120) (T : TownS) (m : Fn) : ∀ f q s l k, n - q ≤ f → q ≤ n → k ≤ l → l ≤ 12 → lowb s → ∃ q', q ≤ q' ∧ q' ≤ n ∧ ((∃ s', wl f_X4_readTool_L24_24s (s, nI l, nI k, XP u (m_tape τ) n q T) = some (.inl (0, XP u (m_tape τ) n q' T)) ∧ wl f_X7_toolItem_L36_36s (s, nI l, MP τ n q m 0) = some (.inr (s', MP τ n q' m 1))) ∨ (∃ s', wl f_X4_readTool_L24_24s (s, nI l, nI k, XP u (m_tape τ) n q T) = some (.inr (s', XP u (m_tape τ) n q' T)) ∧ wl f_X7_toolItem_L36_36s (s, nI l, MP τ n q m 0) = some (.inr (s', MP τ n q' m 0)) ∧ lowb s') ∨ (∃ s' s2, wl f_X4_readTool_L24_24s (s, nI l, nI k, XP u (m_tape τ) n q T) = some (.inr (s', XP u (m_tape τ) n q' T)) ∧ wl f_X7_toolItem_L36_36s (s, nI l, MP τ n q m 0) = some (.inr (s2, MP τ n q' m 1)) ∧ tK (m_tape τ) n q' = 2)) := by
  intro f
  induction f with
  | zero =>
    intro q s l k hf hq hkl hl hs
    have hq2 : q = n := by omega
    have h1 := tS_le (B := m_tape τ) hq
    have h5 := tK_le (m_tape τ) n q
    have hK : tK (m_tape τ) n q = 0 := kd_0.mpr (by omega)
    refine ⟨q, Nat.le_refl _, hq, Or.inr (Or.inl ⟨s, wl_out ?_, wl_out ?_, hs⟩)⟩
    · show f_X4_readTool_L24_24 s (nI l) (nI k) (XP u (m_tape τ) n q T) = _
      unfold f_X4_readTool_L24_24
      rw [yP_x, if_neg (show ¬ r_token (rd4 (m_tape τ) n q) = 2 from fun g => by have := (nI_eq (a := tK (m_tape τ) n q) (b := 2) (by omega) (by omega)).mp g; omega)]
      by_cases c : (12 : Int32) ≤ nI k
      · rw [if_pos c]
      · rw [if_neg c]
    · show f_X7_toolItem_L36_36 s (nI l) (MP τ n q m 0) = _
      unfold f_X7_toolItem_L36_36
      rw [pM_ba, if_pos rfl, pM_so, if_neg (show ¬ nI (so3 (tK (m_tape τ) n q)) = 2 from fun g => by have := (so_eq h5 (c := 2) (by omega)).mp g; omega)]
  | succ f ih =>
    intro q s l k hf hq hkl hl hs
    have h1 := tS_le (B := m_tape τ) hq
    have h2 := tE_le (B := m_tape τ) hq
    have h5 := tK_le (m_tape τ) n q
    have stx : f_X4_readTool_L24_24s (s, nI l, nI k, XP u (m_tape τ) n q T) = f_X4_readTool_L24_24 s (nI l) (nI k) (XP u (m_tape τ) n q T) := rfl
    have stm : f_X7_toolItem_L36_36s (s, nI l, MP τ n q m 0) = f_X7_toolItem_L36_36 s (nI l) (MP τ n q m 0) := rfl
    conv at stx => rhs; unfold f_X4_readTool_L24_24
    conv at stm => rhs; unfold f_X7_toolItem_L36_36
    rw [pM_ba, if_pos rfl, pM_so] at stm
    rw [yP_x] at stx
    by_cases c : tK (m_tape τ) n q = 2
    · rw [if_pos (show r_token (rd4 (m_tape τ) n q) = 2 from by show nI (tK (m_tape τ) n q) = 2; rw [c]; rfl), x_isNumber, bnd_some] at stx
      rw [if_pos (show nI (so3 (tK (m_tape τ) n q)) = 2 from (so_eq h5 (c := 2) (by omega)).mpr c), m_numW hn hn1 hq] at stm
      by_cases d : nb (m_tape τ) n q (nI l) 11
      · have d2 : (nI l).toInt ≤ (tV (m_tape τ) n q).toInt ∧ (tV (m_tape τ) n q).toInt ≤ 11 := d.2
        rw [i_nI (by omega)] at d2
        obtain ⟨v, hv, hv2, -⟩ := i_ex (x := tV (m_tape τ) n q) (by omega)
        rw [if_neg (show ¬ (12 : Int32) ≤ nI k from nI_ge (b := 12) (by omega) (by omega)), if_pos d, if_neg (by decide), yP_x, show r_value (rd4 (m_tape τ) n q) = nI v from hv, nmv, nI_s1, nmv, x_goB ht hq, bnd_some, nI_s1, nmv] at stx
        rw [if_pos d, bnd_some, pM_ba, if_pos rfl, hv] at stm
        unfold f_X7_toolItem_L36_74 at stm
        rw [nmv, nI_s1, nmv] at stm
        obtain ⟨q', g1, g2, g3⟩ := ih (tE (m_tape τ) n q) (s ||| ((1 : Int32) <<< (nI v &&& 31))) (v + 1) (k + 1) (by have := h2.2.2 (by omega); omega) (by omega) (by omega) (by omega) (lowb_or hs (by omega))
        rw [wl_in stx, wl_in stm]
        exact ⟨q', by omega, g2, g3⟩
      · rw [if_neg d, bnd_some, pM_ba, if_neg (by decide)] at stm
        unfold f_X7_toolItem_L36_74 at stm
        rw [nmv, nmv] at stm
        have stm2 : ∀ s2 v2, wl f_X7_toolItem_L36_36s (s2, v2, MP τ n q m 1) = some (.inr (s2, MP τ n q m 1)) := by
          intro s2 v2
          apply wl_out
          show f_X7_toolItem_L36_36 s2 v2 (MP τ n q m 1) = _
          unfold f_X7_toolItem_L36_36
          rw [pM_ba, if_neg (by decide)]
        by_cases e : 12 ≤ k
        · rw [if_pos (show (12 : Int32) ≤ nI k from nI_le (a := 12) e (by omega))] at stx
          exact ⟨q, Nat.le_refl _, hq, Or.inr (Or.inr ⟨s, _, wl_out stx, by rw [wl_in stm]; exact stm2 _ _, c⟩)⟩
        · rw [if_neg (show ¬ (12 : Int32) ≤ nI k from nI_ge (b := 12) (by omega) (by omega)), if_neg d, if_pos rfl] at stx
          exact ⟨q, Nat.le_refl _, hq, Or.inl ⟨_, wl_out stx, by rw [wl_in stm]; exact stm2 _ _⟩⟩
    · rw [if_neg (show ¬ r_token (rd4 (m_tape τ) n q) = 2 from fun g => c ((nI_eq (a := tK (m_tape τ) n q) (b := 2) (by omega) (by omega)).mp g))] at stx
      rw [if_neg (show ¬ nI (so3 (tK (m_tape τ) n q)) = 2 from fun g => c ((so_eq h5 (c := 2) (by omega)).mp g))] at stm
      refine ⟨q, Nat.le_refl _, hq, Or.inr (Or.inl ⟨s, wl_out ?_, wl_out stm, hs⟩)⟩
      rw [stx]
      by_cases e : (12 : Int32) ≤ nI k
      · rw [if_pos e]
      · rw [if_neg e]
theorem it_tool (ht : tpe u (m_tape τ) n) (hn : m_taped τ = nI n) (hn1 : n ≤ 120) (hp : p ≤ n) (ok : tOk (dc m)) : ItO u τ n p (f_X4_readTool (XP u (m_tape τ) n p (dc m))) (f_X7_toolItem (MP τ n p m 0)) := by
  have e2 := tE_le (B := m_tape τ) hp
  have e1 := tS_le (B := m_tape τ) hp
  have o3 := ok.2.2.1
  obtain ⟨K, hK, hK1, -⟩ := i_ex (x := tTools (dc m)) (by omega)
  have hKm : m 2 = nI K := hK
  unfold f_X4_readTool f_X7_toolItem f_X7_toolItem_17
  rw [yP_t, hK, pM_m, l2, hKm]
  by_cases c : K = 8
  · rw [if_neg (show ¬ nI K < (8 : Int32) from nI_nlt (a := K) (b := 8) (by omega) (by omega)), if_pos (show nI K = 8 by rw [c]; rfl), if_neg (by decide), mP_ba, nmv, pM_ba, if_neg (by decide)]
    exact ⟨p, dc m, m, Nat.le_refl _, hp, Or.inl ⟨rfl, rfl, tz_dc _⟩⟩
  · have h8 : K < 8 := by omega
    rw [if_pos (show nI K < (8 : Int32) from nI_lt (b := 8) h8 (by omega)), if_neg (show ¬ nI K = 8 from fun g => c ((nI_eq (a := K) (b := 8) (by omega) (by omega)).mp g)), if_neg (by decide), mP_ba, nmv, pM_ba, if_pos rfl, x_goB ht hp, bnd_some, m_token hn hn1 e2.2.1, bnd_some]
    have key := it_toolloop ht hn hn1 (dc m) m (n - tE (m_tape τ) n p) (tE (m_tape τ) n p) 0 0 0 (Nat.le_refl _) e2.2.1 (Nat.le_refl _) (by omega) (fun i _ _ => b_0 i)
    have w83 : ∀ s q b, f_X7_toolItem_83 s (MP τ n q m b) = some (0, MP τ n q (upd (upd m (6 + K) s) 2 (nI (K + 1))) b) := by
      intro s q b
      unfold f_X7_toolItem_83
      rw [pM_m, l2, hKm, n6, nI_add, nmv, ck_nI (by omega) (by omega), cl_nI (by omega), mP_m, nmv, pM_m, upd_n (show 2 ≠ 6 + K by omega), hKm, nI_s1, nmv, mP_m, nmv]
    obtain ⟨q', g1, g2, ⟨s', a1, a2⟩ | ⟨s', a1, a2, a3⟩ | ⟨s', s2, a1, a2, a3⟩⟩ := key
    · have a1' : wl f_X4_readTool_L24_24s ((0 : Int32), (0 : Int32), (0 : Int32), XP u (m_tape τ) n (tE (m_tape τ) n p) (dc m)) = some (.inl (0, XP u (m_tape τ) n q' (dc m))) := a1
      have a2' : wl f_X7_toolItem_L36_36s ((0 : Int32), (0 : Int32), MP τ n (tE (m_tape τ) n p) m 0) = some (.inr (s', MP τ n q' m 1)) := a2
      rw [a1', a2']
      refine ⟨q', dc m, _, by omega, g2, Or.inl ⟨rfl, w83 s' q' 1, tz_dc _⟩⟩
    · have a1' : wl f_X4_readTool_L24_24s ((0 : Int32), (0 : Int32), (0 : Int32), XP u (m_tape τ) n (tE (m_tape τ) n p) (dc m)) = some (.inr (s', XP u (m_tape τ) n q' (dc m))) := a1
      have a2' : wl f_X7_toolItem_L36_36s ((0 : Int32), (0 : Int32), MP τ n (tE (m_tape τ) n p) m 0) = some (.inr (s', MP τ n q' m 0)) := a2
      have ea : f_X5_addTool s' (XP u (m_tape τ) n q' (dc m)) = some (nI K, XP u (m_tape τ) n q' (uTools (uDays (dc m) (upd (tDays (dc m)) K s')) (nI (K + 1)))) := x_addTool (u := XP u (m_tape τ) n q' (dc m)) hK h8 s'
      rw [a1', a2']
      refine ⟨q', uTools (uDays (dc m) (upd (tDays (dc m)) K s')) (nI (K + 1)), _, by omega, g2, Or.inr (Or.inl ⟨?_, w83 s' q' 0, ?_, tOk_tool ok hK h8 (lowb_rng a3)⟩)⟩
      · show bnd (f_X5_addTool s' (XP u (m_tape τ) n q' (dc m))) (fun r8 u9 => some ((1 : Int32), u9)) = _
        rw [ea, bnd_some]
      · rw [dc_2, dc_days _ h8]
    · have a1' : wl f_X4_readTool_L24_24s ((0 : Int32), (0 : Int32), (0 : Int32), XP u (m_tape τ) n (tE (m_tape τ) n p) (dc m)) = some (.inr (s', XP u (m_tape τ) n q' (dc m))) := a1
      have a2' : wl f_X7_toolItem_L36_36s ((0 : Int32), (0 : Int32), MP τ n (tE (m_tape τ) n p) m 0) = some (.inr (s2, MP τ n q' m 1)) := a2
      have ea : f_X5_addTool s' (XP u (m_tape τ) n q' (dc m)) = some (nI K, XP u (m_tape τ) n q' (uTools (uDays (dc m) (upd (tDays (dc m)) K s')) (nI (K + 1)))) := x_addTool (u := XP u (m_tape τ) n q' (dc m)) hK h8 s'
      rw [a1', a2']
      refine ⟨q', uTools (uDays (dc m) (upd (tDays (dc m)) K s')) (nI (K + 1)), _, by omega, g2, Or.inr (Or.inr ⟨?_, w83 s2 q' 1, a3, by rw [← dc_days m h8, ← dc_2]; exact tz_dc _⟩)⟩
      show bnd (f_X5_addTool s' (XP u (m_tape τ) n q' (dc m))) (fun r8 u9 => some ((1 : Int32), u9)) = _
      rw [ea, bnd_some]
/-! order -/
theorem le_predI {a : Int32} {k : Nat} (hk : k ≤ 100) : (a.toInt ≤ (nI k - 1).toInt) ↔ a.toInt < k := by
  have := le_pred (a := a) (b := nI k) (by rw [i_nI (by omega)]; omega)
  rw [this, i_nI (by omega)]
set_option maxHeartbeats 1000000 in
theorem it_order (ht : tpe u (m_tape τ) n) (hn : m_taped τ = nI n) (hn1 : n ≤ 120) (hp : p ≤ n) (ok : tOk (dc m)) : ItO u τ n p (f_X4_readOrder (XP u (m_tape τ) n p (dc m))) (f_X7_orderItem (MP τ n p m 0)) := by
  have hE : ∀ {q}, q ≤ n → q ≤ tE (m_tape τ) n q ∧ tE (m_tape τ) n q ≤ n := fun {q} hq => by
    have := tS_le (B := m_tape τ) hq
    have := tE_le (B := m_tape τ) hq
    omega
  have o4 := ok.2.2.2.1
  have o5 := ok.2.2.2.2.1
  obtain ⟨K, hK, hK1, -⟩ := i_ex (x := tOrders (dc m)) (by omega)
  obtain ⟨J, hJ, hJ1, -⟩ := i_ex (x := tThings (dc m)) (by omega)
  have hKm : m 4 = nI K := hK
  have hJm : m 3 = nI J := hJ
  have e1 := hE hp
  have e2 := hE e1.2
  have e3 := hE e2.2
  have e4 := hE e3.2
  have e5 := hE e4.2
  have e6 := hE e5.2
  have ebw : ∀ j, (j = 5 ∨ j = 6) → ∀ a b q, q ≤ n → f_X4_readBehindWord j a b (XP u (m_tape τ) n q (dc m)) = if wd (m_tape τ) n q j then (if nb (m_tape τ) n (tE (m_tape τ) n q) a b then some (1, XP u (m_tape τ) n (tE (m_tape τ) n q) (dc m)) else some (0, XP u (m_tape τ) n (tE (m_tape τ) n q) (dc m))) else some (0, XP u (m_tape τ) n q (dc m)) := by
    intro j hj a b q hq
    unfold f_X4_readBehindWord
    rw [x_isWord ht hq (by omega), bnd_some]
    by_cases c : wd (m_tape τ) n q j
    · rw [if_pos c, if_neg (by decide), if_pos c, x_goB ht hq, bnd_some, x_isNumber, bnd_some, ck_z01]
      by_cases d : nb (m_tape τ) n (tE (m_tape τ) n q) a b
      · rw [if_pos d, if_pos d]
      · rw [if_neg d, if_neg d]
    · rw [if_neg c, if_pos rfl, if_neg c]
  unfold f_X4_readOrder f_X7_orderItem f_X7_orderItem_16
  rw [yP_t, hK, pM_m, l4, hKm]
  by_cases c : K = 5
  · rw [if_neg (show ¬ nI K < (5 : Int32) from nI_nlt (a := K) (b := 5) (by omega) (by omega)), if_pos (show nI K = 5 by rw [c]; rfl), if_neg (by decide), mP_ba, nmv, pM_ba, if_neg (by decide)]
    exact ⟨p, dc m, m, Nat.le_refl _, hp, Or.inl ⟨rfl, rfl, tz_dc _⟩⟩
  · have h5 : K < 5 := by omega
    rw [if_pos (show nI K < (5 : Int32) from nI_lt (b := 5) h5 (by omega)), if_neg (show ¬ nI K = 5 from fun g => c ((nI_eq (a := K) (b := 5) (by omega) (by omega)).mp g)), if_neg (by decide), mP_ba, nmv, pM_ba, if_pos rfl, x_goB ht hp, bnd_some, m_token hn hn1 e1.2, bnd_some, pM_m, hKm, l3, hJm, n222, n3, pk_mul, nI_add, nmv, m_numW hn hn1 e1.2, yP_t, hJ, x_isNumber, bnd_some]
    by_cases c1 : nb (m_tape τ) n (tE (m_tape τ) n p) 0 (nI J - 1)
    · rw [if_pos c1, if_neg (by decide), if_pos c1, bnd_some, yP_x, nmv, x_goB ht e1.2, bnd_some, ebw 5 (Or.inl rfl) _ _ _ e2.2, ck_nI (by omega) (by omega), cl_nI (by omega), mP_m, pM_m, nmv, m_wordW hn hn1 e2.2 (by omega)]
      by_cases c2 : wd (m_tape τ) n (tE (m_tape τ) n (tE (m_tape τ) n p)) 5
      · rw [if_pos c2, if_pos c2, bnd_some, m_numW hn hn1 e3.2]
        by_cases c3 : nb (m_tape τ) n (tE (m_tape τ) n (tE (m_tape τ) n (tE (m_tape τ) n p))) 0 399
        · rw [if_pos c3, bnd_some, if_neg (by decide), yP_x, nmv, x_goB ht e3.2, bnd_some, ebw 6 (Or.inr rfl) _ _ _ e4.2, if_pos c3, bnd_some, nI_s1, nmv, ck_nI (by omega) (by omega), cl_nI (by omega), mP_m, pM_m, nmv, m_wordW hn hn1 e4.2 (by omega)]
          by_cases c4 : wd (m_tape τ) n (tE (m_tape τ) n (tE (m_tape τ) n (tE (m_tape τ) n (tE (m_tape τ) n p)))) 6
          · rw [if_pos c4, if_pos c4, bnd_some, m_numW hn hn1 e5.2]
            by_cases c5 : nb (m_tape τ) n (tE (m_tape τ) n (tE (m_tape τ) n (tE (m_tape τ) n (tE (m_tape τ) n (tE (m_tape τ) n p))))) 1 99
            · have h1 : 0 ≤ (tV (m_tape τ) n (tE (m_tape τ) n p)).toInt ∧ (tV (m_tape τ) n (tE (m_tape τ) n p)).toInt ≤ (nI J - 1).toInt := c1.2
              rw [le_predI (by omega)] at h1
              rw [if_pos c5, bnd_some, if_neg (by decide), yP_x, if_pos c5, bnd_some, n2, nI_add, nmv, ck_nI (by omega) (by omega), cl_nI (by omega), mP_m, pM_m, nmv, pM_m, upd_n (by omega), upd_n (by omega), upd_n (by omega), hKm, nI_s1, nmv, mP_m, nmv]
              have ea : ∀ a b c, f_X5_addOrder a b c (XP u (m_tape τ) n (tE (m_tape τ) n (tE (m_tape τ) n (tE (m_tape τ) n (tE (m_tape τ) n (tE (m_tape τ) n p))))) (dc m)) = some (nI K, XP u (m_tape τ) n (tE (m_tape τ) n (tE (m_tape τ) n (tE (m_tape τ) n (tE (m_tape τ) n (tE (m_tape τ) n p))))) (uOrders (uOrd (dc m) (up3 (tOrd (dc m)) (K * 3) a b c)) (nI (K + 1)))) := fun a b c => x_addOrder (u := XP u (m_tape τ) n (tE (m_tape τ) n (tE (m_tape τ) n (tE (m_tape τ) n (tE (m_tape τ) n (tE (m_tape τ) n p))))) (dc m)) hK h5 a b c
              rw [ea, bnd_some, x_goB ht e5.2, bnd_some]
              refine ⟨_, _, _, ?_, e6.2, Or.inr (Or.inl ⟨rfl, rfl, ?_, ?_⟩)⟩
              · omega
              · rw [show 222 + 3 * K = 222 + K * 3 by omega, show 222 + K * 3 + 1 = 222 + (K * 3 + 1) by omega, show 222 + K * 3 + 2 = 222 + (K * 3 + 2) by omega, dc_4, dc_ord3 _ h5]
                rfl
              · exact tOk_order ok hK h5 ⟨h1.1, by rw [hJ, i_nI (by omega)]; exact h1.2⟩ c3.2 c5.2
            · rw [if_neg c5, bnd_some, if_pos rfl, if_neg c5]
              simp (disch := omega) only [bnd_some, n2, nI_add, nmv, nIneg, cl', leF, or_self, if_false, mP_m, pM_m]
              exact ⟨_, dc m, _, by omega, e5.2, Or.inl ⟨rfl, rfl, tz_dc _⟩⟩
          · rw [if_neg c4, if_neg c4, bnd_some, bnd_some, if_pos rfl]
            simp (disch := omega) only [m_numberB, bnd_some, n2, nI_add, nmv, nIneg, cl', leF, or_self, if_false, mP_m, pM_m]
            exact ⟨_, dc m, _, by omega, e4.2, Or.inl ⟨rfl, rfl, tz_dc _⟩⟩
        · rw [if_neg c3, bnd_some, if_pos rfl, if_neg c3]
          simp (disch := omega) only [m_numberB, m_wordB, bnd_some, n2, nI_s1, nI_add, nmv, nIneg, cl', leF, or_self, if_false, mP_m, pM_m]
          exact ⟨_, dc m, _, by omega, e3.2, Or.inl ⟨rfl, rfl, tz_dc _⟩⟩
      · rw [if_neg c2, if_neg c2, bnd_some, bnd_some, if_pos rfl]
        simp (disch := omega) only [m_numberB, m_wordB, bnd_some, n2, nI_s1, nI_add, nmv, nIneg, cl', leF, or_self, if_false, mP_m, pM_m]
        exact ⟨_, dc m, _, by omega, e2.2, Or.inl ⟨rfl, rfl, tz_dc _⟩⟩
    · rw [if_neg c1, if_pos rfl, if_neg c1]
      simp (disch := omega) only [m_numberB, m_wordB, bnd_some, n2, nI_s1, nI_add, nmv, nIneg, cl', leF, or_self, if_false, mP_m, pM_m]
      exact ⟨_, dc m, _, by omega, e1.2, Or.inl ⟨rfl, rfl, tz_dc _⟩⟩
end ITEMS
