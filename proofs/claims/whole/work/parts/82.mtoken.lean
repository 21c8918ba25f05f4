/-! tokens in the reference -/
theorem kd_1 {B : Fn} {n q : Nat} : kd B n q = 1 ↔ q < n ∧ 97 ≤ (B q).toInt ∧ (B q).toInt ≤ 122 := by
  unfold kd
  by_cases c : q < n
  · rw [if_pos c]
    by_cases c1 : 97 ≤ (B q).toInt ∧ (B q).toInt ≤ 122
    · rw [if_pos c1]; exact ⟨fun _ => ⟨c, c1⟩, fun _ => rfl⟩
    · rw [if_neg c1]
      refine ⟨fun h => ?_, fun h => absurd h.2 c1⟩
      revert h
      split
      · omega
      · split
        · omega
        · split <;> omega
  · rw [if_neg c]; exact ⟨fun h => by omega, fun h => absurd h.1 c⟩
theorem kd_2 {B : Fn} {n q : Nat} : kd B n q = 2 ↔ q < n ∧ 48 ≤ (B q).toInt ∧ (B q).toInt ≤ 57 := by
  unfold kd
  by_cases c : q < n
  · rw [if_pos c]
    by_cases c1 : 97 ≤ (B q).toInt ∧ (B q).toInt ≤ 122
    · rw [if_pos c1]; exact ⟨fun h => by omega, fun h => by omega⟩
    · rw [if_neg c1]
      by_cases c2 : 48 ≤ (B q).toInt ∧ (B q).toInt ≤ 57
      · rw [if_pos c2]; exact ⟨fun _ => ⟨c, c2⟩, fun _ => rfl⟩
      · rw [if_neg c2]
        refine ⟨fun h => ?_, fun h => absurd h.2 c2⟩
        revert h
        split
        · omega
        · split <;> omega
  · rw [if_neg c]; exact ⟨fun h => by omega, fun h => absurd h.1 c⟩
theorem kd_1' {B : Fn} {n q : Nat} : kd B n q = 1 ↔ q < n ∧ (97 : Int32).toInt ≤ (B q).toInt ∧ (B q).toInt ≤ (122 : Int32).toInt := kd_1
theorem kd_2' {B : Fn} {n q : Nat} : kd B n q = 2 ↔ q < n ∧ (48 : Int32).toInt ≤ (B q).toInt ∧ (B q).toInt ≤ (57 : Int32).toInt := kd_2
section MTOK
variable {τ : MS} {n : Nat}
theorem m_isByte (hn : m_taped τ = nI n) (hn1 : n ≤ 120) {q : Nat} (hq : q ≤ n) (lo hi : Int32) (m : Fn) (so fr to va ba : Int32) : f_X7_isByte (nI q) lo hi (mP τ m so fr to va ba) = some (if q < n ∧ lo.toInt ≤ (m_tape τ q).toInt ∧ (m_tape τ q).toInt ≤ hi.toInt then 1 else 0, mP τ m so fr to va ba) := by
  unfold f_X7_isByte
  rw [pM_td, hn]
  by_cases c : q < n
  · rw [if_neg (nI_ge c (by omega)), ck_nI (by omega) (by omega), cl_nI (by omega), pM_tp, m_in, bnd_some]
    simp only [Int32.toInt_toInt64]
    by_cases d : lo.toInt ≤ (m_tape τ q).toInt ∧ (m_tape τ q).toInt ≤ hi.toInt
    · rw [if_pos d, if_neg (by decide), if_pos ⟨c, d⟩]
    · rw [if_neg d, if_pos rfl, if_neg (fun g => d g.2)]
  · rw [if_pos (nI_le (by omega) (by omega)), if_neg (fun g => c g.1)]
theorem m_skipB (hn : m_taped τ = nI n) (hn1 : n ≤ 120) (m : Fn) (so to va ba : Int32) : ∀ f st, st + f = n → wl f_X7_token_L8_8s (mP τ m so (nI st) to va ba) = some (.inr (mP τ m so (nI (adv (fun q => decide (q < n ∧ m_tape τ q = 32)) f st)) to va ba)) := by
  intro f
  induction f with
  | zero =>
    intro st hs
    apply wl_out
    show f_X7_token_L8_8 (mP τ m so (nI st) to va ba) = _
    unfold f_X7_token_L8_8
    rw [pM_fr, m_isByte hn hn1 (by omega), bnd_some, if_pos (show (if st < n ∧ _ then (1 : Int32) else 0) = 0 from if_neg (fun g => by omega))]
    rfl
  | succ f ih =>
    intro st hs
    have ea : adv (fun q => decide (q < n ∧ m_tape τ q = 32)) (f + 1) st = if decide (st < n ∧ m_tape τ st = 32) = true then adv (fun q => decide (q < n ∧ m_tape τ q = 32)) f (st + 1) else st := rfl
    have st0 : f_X7_token_L8_8s (mP τ m so (nI st) to va ba) = f_X7_token_L8_8 (mP τ m so (nI st) to va ba) := rfl
    conv at st0 => rhs; unfold f_X7_token_L8_8
    rw [pM_fr, m_isByte hn hn1 (by omega), bnd_some] at st0
    rw [ea]
    by_cases c : m_tape τ st = 32
    · rw [if_neg (show ¬ (if st < n ∧ (32 : Int32).toInt ≤ (m_tape τ st).toInt ∧ (m_tape τ st).toInt ≤ (32 : Int32).toInt then (1 : Int32) else 0) = 0 by rw [if_pos ⟨by omega, by rw [c]; omega, by rw [c]; omega⟩]; decide), pM_fr, nI_s1, nmv, mP_fr, nmv] at st0
      rw [wl_in st0, if_pos (decide_eq_true ⟨by omega, c⟩)]
      exact ih (st + 1) (by omega)
    · rw [if_pos (show (if st < n ∧ (32 : Int32).toInt ≤ (m_tape τ st).toInt ∧ (m_tape τ st).toInt ≤ (32 : Int32).toInt then (1 : Int32) else 0) = 0 from if_neg (fun g => c (by rw [i_eq]; omega)))] at st0
      rw [wl_out st0, if_neg (by rw [decide_eq_true_eq]; exact fun q => c q.2)]
theorem m_ext1 (hn : m_taped τ = nI n) (hn1 : n ≤ 120) (m : Fn) (fr va ba : Int32) : ∀ f e, e + f = n → wl f_X7_token_L125_125s (mP τ m 1 fr (nI e) va ba) = some (.inr (mP τ m 1 fr (nI (adv (fun e => decide (kd (m_tape τ) n e = 1)) f e)) va ba)) := by
  intro f
  induction f with
  | zero =>
    intro e hs
    apply wl_out
    show f_X7_token_L125_125 (mP τ m 1 fr (nI e) va ba) = _
    unfold f_X7_token_L125_125
    rw [pM_so, if_pos rfl, pM_to, m_isByte hn hn1 (by omega), bnd_some, if_pos (show (if e < n ∧ _ then (1 : Int32) else 0) = 0 from if_neg (fun g => by omega))]
    rfl
  | succ f ih =>
    intro e hs
    have ea : adv (fun e => decide (kd (m_tape τ) n e = 1)) (f + 1) e = if decide (kd (m_tape τ) n e = 1) = true then adv (fun e => decide (kd (m_tape τ) n e = 1)) f (e + 1) else e := rfl
    have st0 : f_X7_token_L125_125s (mP τ m 1 fr (nI e) va ba) = f_X7_token_L125_125 (mP τ m 1 fr (nI e) va ba) := rfl
    conv at st0 => rhs; unfold f_X7_token_L125_125
    rw [pM_so, if_pos rfl, pM_to, m_isByte hn hn1 (by omega), bnd_some] at st0
    rw [ea]
    by_cases c : kd (m_tape τ) n e = 1
    · rw [if_neg (show ¬ (if e < n ∧ (97 : Int32).toInt ≤ (m_tape τ e).toInt ∧ (m_tape τ e).toInt ≤ (122 : Int32).toInt then (1 : Int32) else 0) = 0 by rw [if_pos (kd_1'.mp c)]; decide), pM_to, nI_s1, nmv, mP_to, nmv] at st0
      rw [wl_in st0, if_pos (decide_eq_true c)]
      exact ih (e + 1) (by omega)
    · rw [if_pos (show (if e < n ∧ (97 : Int32).toInt ≤ (m_tape τ e).toInt ∧ (m_tape τ e).toInt ≤ (122 : Int32).toInt then (1 : Int32) else 0) = 0 from if_neg (fun g => c (kd_1.mpr g)))] at st0
      rw [wl_out st0, if_neg (by rw [decide_eq_true_eq]; exact c)]
theorem m_ext0 (m : Fn) {so : Int32} (h : so ≠ 1) (fr to va ba : Int32) : wl f_X7_token_L125_125s (mP τ m so fr to va ba) = some (.inr (mP τ m so fr to va ba)) := by
  apply wl_out
  show f_X7_token_L125_125 (mP τ m so fr to va ba) = _
  unfold f_X7_token_L125_125
  rw [pM_so, if_neg h]
theorem m_num0 (m : Fn) {so : Int32} (h : so ≠ 2) (fr to va ba : Int32) : wl f_X7_token_L161_161s (mP τ m so fr to va ba) = some (.inr (mP τ m so fr to va ba)) := by
  apply wl_out
  show f_X7_token_L161_161 (mP τ m so fr to va ba) = _
  unfold f_X7_token_L161_161
  rw [pM_so, if_neg h]
theorem m_num2 (hn : m_taped τ = nI n) (hn1 : n ≤ 120) (m : Fn) (fr ba : Int32) {q : Nat} : ∀ f e, e + f = n → q ≤ e → wl f_X7_token_L161_161s (mP τ m 2 fr (nI e) (nv (m_tape τ) q (e - q)) ba) = some (.inr (mP τ m 2 fr (nI (adv (fun e => decide (kd (m_tape τ) n e = 2)) f e)) (nv (m_tape τ) q (adv (fun e => decide (kd (m_tape τ) n e = 2)) f e - q)) ba)) := by
  intro f
  induction f with
  | zero =>
    intro e hs hq
    apply wl_out
    show f_X7_token_L161_161 (mP τ m 2 fr (nI e) (nv (m_tape τ) q (e - q)) ba) = _
    unfold f_X7_token_L161_161
    rw [pM_so, if_pos rfl, pM_to, m_isByte hn hn1 (by omega), bnd_some, if_pos (show (if e < n ∧ _ then (1 : Int32) else 0) = 0 from if_neg (fun g => by omega))]
    rfl
  | succ f ih =>
    intro e hs hq
    have ea : adv (fun e => decide (kd (m_tape τ) n e = 2)) (f + 1) e = if decide (kd (m_tape τ) n e = 2) = true then adv (fun e => decide (kd (m_tape τ) n e = 2)) f (e + 1) else e := rfl
    have st0 : f_X7_token_L161_161s (mP τ m 2 fr (nI e) (nv (m_tape τ) q (e - q)) ba) = f_X7_token_L161_161 (mP τ m 2 fr (nI e) (nv (m_tape τ) q (e - q)) ba) := rfl
    conv at st0 => rhs; unfold f_X7_token_L161_161
    rw [pM_so, if_pos rfl, pM_to, m_isByte hn hn1 (by omega), bnd_some] at st0
    rw [ea]
    by_cases c : kd (m_tape τ) n e = 2
    · have h222 : ∀ k, f_X7_token_L161_222 k (mP τ m 2 fr (nI e) (nv (m_tape τ) q (e - q)) ba) = some (.inl (mP τ m 2 fr (nI (e + 1)) k ba)) := fun k => by
        unfold f_X7_token_L161_222
        rw [mP_va, nmv, pM_to, nI_s1, nmv, mP_to, nmv]
      have en : nv (m_tape τ) q (e + 1 - q) = if 999 < nv (m_tape τ) q (e - q) then nv (m_tape τ) q (e - q) else nv (m_tape τ) q (e - q) * 10 + m_tape τ e - 48 := by
        rw [show e + 1 - q = (e - q) + 1 by omega, nv_s, show q + (e - q) = e by omega]
      rw [if_neg (show ¬ (if e < n ∧ (48 : Int32).toInt ≤ (m_tape τ e).toInt ∧ (m_tape τ e).toInt ≤ (57 : Int32).toInt then (1 : Int32) else 0) = 0 by rw [if_pos (kd_2'.mp c)]; decide), pM_va, pM_to, nmv, ck_nI (by omega) (by omega), cl_nI (by omega), pM_tp, h222, h222] at st0
      rw [if_pos (decide_eq_true c)]
      by_cases g : nv (m_tape τ) q (e - q) ≤ 999
      · rw [if_pos g] at st0
        rw [if_neg (Int32.not_lt.mpr g), Int32.mul_comm] at en
        rw [← en] at st0
        rw [wl_in st0]
        exact ih (e + 1) (by omega) (by omega)
      · rw [if_neg g] at st0
        rw [if_pos (Int32.not_le.mp g)] at en
        rw [wl_in st0, ← en]
        exact ih (e + 1) (by omega) (by omega)
    · rw [if_pos (show (if e < n ∧ (48 : Int32).toInt ≤ (m_tape τ e).toInt ∧ (m_tape τ e).toInt ≤ (57 : Int32).toInt then (1 : Int32) else 0) = 0 from if_neg (fun g => c (kd_2.mpr g)))] at st0
      rw [wl_out st0, if_neg (by rw [decide_eq_true_eq]; exact c)]
theorem m_token (hn : m_taped τ = nI n) (hn1 : n ≤ 120) {p : Nat} (hp : p ≤ n) (m : Fn) (so fr va ba : Int32) : f_X7_token (mP τ m so fr (nI p) va ba) = some (0, MP τ n p m ba) := by
  have h1 := tS_le (B := m_tape τ) hp
  have hk := kd_le (m_tape τ) n (tS (m_tape τ) n p)
  have ek : kd (m_tape τ) n (tS (m_tape τ) n p) = tK (m_tape τ) n p := rfl
  unfold f_X7_token
  show bne (wl f_X7_token_L8_8s (mP τ m so (nI p) (nI p) va ba)) _ _ = _
  rw [m_skipB hn hn1 m so (nI p) va ba (n - p) p (by omega)]
  have e0 : (bne (some (Sum.inr (mP τ m so (nI (tS (m_tape τ) n p)) (nI p) va ba)) : Option ((Int32 × MS) ⊕ MS)) (fun a => some a) fun b => nmv b fun u5 => nmv (m_from u5) fun x6 => nmv (mu_to u5 x6) fun u7 => nmv (mu_value u7 (0 : Int32)) fun u8 => (if (m_from u8) = (m_taped u8) then f_X7_token_104 (0 : Int32) u8 else bnd (f_X7_isByte (m_from u8) (97 : Int32) (122 : Int32) u8) fun r10 u11 => (if r10 = 0 then bnd (f_X7_isByte (m_from u11) (48 : Int32) (57 : Int32) u11) fun r13 u14 => (if r13 = 0 then f_X7_token_104 (3 : Int32) u14 else f_X7_token_104 (2 : Int32) u14) else f_X7_token_104 (1 : Int32) u11))) = (if nI (tS (m_tape τ) n p) = m_taped τ then f_X7_token_104 (0 : Int32) (mP τ m so (nI (tS (m_tape τ) n p)) (nI (tS (m_tape τ) n p)) 0 ba) else bnd (f_X7_isByte (nI (tS (m_tape τ) n p)) (97 : Int32) (122 : Int32) (mP τ m so (nI (tS (m_tape τ) n p)) (nI (tS (m_tape τ) n p)) 0 ba)) fun r10 u11 => (if r10 = 0 then bnd (f_X7_isByte (m_from u11) (48 : Int32) (57 : Int32) u11) fun r13 u14 => (if r13 = 0 then f_X7_token_104 (3 : Int32) u14 else f_X7_token_104 (2 : Int32) u14) else f_X7_token_104 (1 : Int32) u11)) := rfl
  refine Eq.trans e0 ?_
  rw [hn]
  have g0 : f_X7_token_104 (0 : Int32) (mP τ m so (nI (tS (m_tape τ) n p)) (nI (tS (m_tape τ) n p)) 0 ba) = some (0, mP τ m 0 (nI (tS (m_tape τ) n p)) (nI (tS (m_tape τ) n p)) 0 ba) := by
    unfold f_X7_token_104
    rw [mP_so, nmv, pM_so, if_neg (by decide), m_ext0 m (by decide)]
    show bne (wl f_X7_token_L161_161s (mP τ m 0 (nI (tS (m_tape τ) n p)) (nI (tS (m_tape τ) n p)) 0 ba)) _ _ = _
    rw [m_num0 m (by decide)]
    rfl
  have g3 : f_X7_token_104 (3 : Int32) (mP τ m so (nI (tS (m_tape τ) n p)) (nI (tS (m_tape τ) n p)) 0 ba) = some (0, mP τ m 3 (nI (tS (m_tape τ) n p)) (nI (tS (m_tape τ) n p + 1)) 0 ba) := by
    unfold f_X7_token_104
    rw [mP_so, nmv, pM_so, if_pos rfl, pM_to, nI_s1, nmv, mP_to, nmv, m_ext0 m (by decide)]
    show bne (wl f_X7_token_L161_161s (mP τ m 3 (nI (tS (m_tape τ) n p)) (nI (tS (m_tape τ) n p + 1)) 0 ba)) _ _ = _
    rw [m_num0 m (by decide)]
    rfl
  have g1 : tS (m_tape τ) n p + (n - tS (m_tape τ) n p) = n → f_X7_token_104 (1 : Int32) (mP τ m so (nI (tS (m_tape τ) n p)) (nI (tS (m_tape τ) n p)) 0 ba) = some (0, mP τ m 1 (nI (tS (m_tape τ) n p)) (nI (adv (fun e => decide (kd (m_tape τ) n e = 1)) (n - tS (m_tape τ) n p) (tS (m_tape τ) n p))) 0 ba) := by
    intro hh
    unfold f_X7_token_104
    rw [mP_so, nmv, pM_so, if_neg (by decide), m_ext1 hn hn1 m (nI (tS (m_tape τ) n p)) 0 ba (n - tS (m_tape τ) n p) (tS (m_tape τ) n p) hh]
    show bne (wl f_X7_token_L161_161s (mP τ m 1 (nI (tS (m_tape τ) n p)) (nI (adv (fun e => decide (kd (m_tape τ) n e = 1)) (n - tS (m_tape τ) n p) (tS (m_tape τ) n p))) 0 ba)) _ _ = _
    rw [m_num0 m (by decide)]
    rfl
  have g2 : tS (m_tape τ) n p + (n - tS (m_tape τ) n p) = n → f_X7_token_104 (2 : Int32) (mP τ m so (nI (tS (m_tape τ) n p)) (nI (tS (m_tape τ) n p)) 0 ba) = some (0, mP τ m 2 (nI (tS (m_tape τ) n p)) (nI (adv (fun e => decide (kd (m_tape τ) n e = 2)) (n - tS (m_tape τ) n p) (tS (m_tape τ) n p))) (nv (m_tape τ) (tS (m_tape τ) n p) (adv (fun e => decide (kd (m_tape τ) n e = 2)) (n - tS (m_tape τ) n p) (tS (m_tape τ) n p) - tS (m_tape τ) n p)) ba) := by
    intro hh
    have q := m_num2 hn hn1 m (nI (tS (m_tape τ) n p)) ba (q := tS (m_tape τ) n p) (n - tS (m_tape τ) n p) (tS (m_tape τ) n p) hh (Nat.le_refl _)
    rw [show nv (m_tape τ) (tS (m_tape τ) n p) (tS (m_tape τ) n p - tS (m_tape τ) n p) = 0 by rw [Nat.sub_self]; rfl] at q
    unfold f_X7_token_104
    rw [mP_so, nmv, pM_so, if_neg (by decide), m_ext0 m (by decide)]
    show bne (wl f_X7_token_L161_161s (mP τ m 2 (nI (tS (m_tape τ) n p)) (nI (tS (m_tape τ) n p)) 0 ba)) _ _ = _
    rw [q]
    rfl
  have step : ∀ k, tK (m_tape τ) n p = k → (k = 1 ∨ k = 2) → adv (fun e => decide (kd (m_tape τ) n e = k)) (n - tS (m_tape τ) n p) (tS (m_tape τ) n p) = tE (m_tape τ) n p := by
    intro k hk1 hk2
    have hlt : tS (m_tape τ) n p < n := kd_lt (B := m_tape τ) (by rw [ek, hk1]; omega)
    obtain ⟨f, hf⟩ : ∃ f, n - tS (m_tape τ) n p = f + 1 := ⟨n - tS (m_tape τ) n p - 1, by omega⟩
    rw [hf]
    show (if decide (kd (m_tape τ) n (tS (m_tape τ) n p) = k) = true then adv (fun e => decide (kd (m_tape τ) n e = k)) f (tS (m_tape τ) n p + 1) else tS (m_tape τ) n p) = _
    rw [if_pos (decide_eq_true (ek.trans hk1))]
    unfold tE wE
    rw [if_neg (by omega), if_pos (by omega), hk1, show n - (tS (m_tape τ) n p + 1) = f by omega]
  by_cases c0 : tK (m_tape τ) n p = 0
  · have hge : ¬ tS (m_tape τ) n p < n := kd_0.mp c0
    rw [if_pos (show nI (tS (m_tape τ) n p) = nI n by rw [show tS (m_tape τ) n p = n by omega]), g0]
    show some ((0 : Int32), mP τ m 0 (nI (tS (m_tape τ) n p)) (nI (tS (m_tape τ) n p)) 0 ba) = some (0, mP τ m (nI (so3 (tK (m_tape τ) n p))) (nI (tS (m_tape τ) n p)) (nI (tE (m_tape τ) n p)) (tV (m_tape τ) n p) ba)
    rw [show tE (m_tape τ) n p = tS (m_tape τ) n p from if_pos c0, show tV (m_tape τ) n p = 0 from if_neg (by omega), c0]
    rfl
  · have hlt : tS (m_tape τ) n p < n := kd_lt (B := m_tape τ) c0
    rw [if_neg (fun g => by have := (nI_eq (a := tS (m_tape τ) n p) (b := n) (by omega) (by omega)).mp g; omega), m_isByte hn hn1 h1.2, bnd_some]
    by_cases c1 : tK (m_tape τ) n p = 1
    · rw [if_neg (show ¬ (if tS (m_tape τ) n p < n ∧ (97 : Int32).toInt ≤ (m_tape τ (tS (m_tape τ) n p)).toInt ∧ (m_tape τ (tS (m_tape τ) n p)).toInt ≤ (122 : Int32).toInt then (1 : Int32) else 0) = 0 by rw [if_pos (kd_1'.mp c1)]; decide), g1 (by omega), step 1 c1 (Or.inl rfl)]
      show some ((0 : Int32), mP τ m 1 (nI (tS (m_tape τ) n p)) (nI (tE (m_tape τ) n p)) 0 ba) = some (0, mP τ m (nI (so3 (tK (m_tape τ) n p))) (nI (tS (m_tape τ) n p)) (nI (tE (m_tape τ) n p)) (tV (m_tape τ) n p) ba)
      rw [show tV (m_tape τ) n p = 0 from if_neg (by omega), c1]
      rfl
    · rw [if_pos (show (if tS (m_tape τ) n p < n ∧ (97 : Int32).toInt ≤ (m_tape τ (tS (m_tape τ) n p)).toInt ∧ (m_tape τ (tS (m_tape τ) n p)).toInt ≤ (122 : Int32).toInt then (1 : Int32) else 0) = 0 from if_neg (fun g => c1 (kd_1.mpr g))), pM_fr, m_isByte hn hn1 h1.2, bnd_some]
      by_cases c2 : tK (m_tape τ) n p = 2
      · rw [if_neg (show ¬ (if tS (m_tape τ) n p < n ∧ (48 : Int32).toInt ≤ (m_tape τ (tS (m_tape τ) n p)).toInt ∧ (m_tape τ (tS (m_tape τ) n p)).toInt ≤ (57 : Int32).toInt then (1 : Int32) else 0) = 0 by rw [if_pos (kd_2'.mp c2)]; decide), g2 (by omega), step 2 c2 (Or.inr rfl)]
        show some ((0 : Int32), mP τ m 2 (nI (tS (m_tape τ) n p)) (nI (tE (m_tape τ) n p)) (nv (m_tape τ) (tS (m_tape τ) n p) (tE (m_tape τ) n p - tS (m_tape τ) n p)) ba) = some (0, mP τ m (nI (so3 (tK (m_tape τ) n p))) (nI (tS (m_tape τ) n p)) (nI (tE (m_tape τ) n p)) (tV (m_tape τ) n p) ba)
        rw [show tV (m_tape τ) n p = nv (m_tape τ) (tS (m_tape τ) n p) (tE (m_tape τ) n p - tS (m_tape τ) n p) from if_pos c2, c2]
        rfl
      · rw [if_pos (show (if tS (m_tape τ) n p < n ∧ (48 : Int32).toInt ≤ (m_tape τ (tS (m_tape τ) n p)).toInt ∧ (m_tape τ (tS (m_tape τ) n p)).toInt ≤ (57 : Int32).toInt then (1 : Int32) else 0) = 0 from if_neg (fun g => c2 (kd_2.mpr g))), g3]
        show some ((0 : Int32), mP τ m 3 (nI (tS (m_tape τ) n p)) (nI (tS (m_tape τ) n p + 1)) 0 ba) = some (0, mP τ m (nI (so3 (tK (m_tape τ) n p))) (nI (tS (m_tape τ) n p)) (nI (tE (m_tape τ) n p)) (tV (m_tape τ) n p) ba)
        rw [show tV (m_tape τ) n p = 0 from if_neg c2, show tE (m_tape τ) n p = tS (m_tape τ) n p + 1 by unfold tE; rw [if_neg c0, if_neg (fun q => q.elim c1 c2)], show so3 (tK (m_tape τ) n p) = 3 from if_neg (by omega)]
        rfl
end MTOK
