/-- a run from step i on, n steps of it, behind a day: where it spoils (-1: nowhere), and the days that it leaves -/
def wt (T : TownS) (t i : Nat) : Int32 := tNums T (t * 24 + i * 3 + 2)
/-- whether a day x spoils step i behind day d -/
abbrev bad (T : TownS) (t i d : Nat) (x : Int32) : Prop := x < 0 ∨ (i ≠ 0 ∧ ¬ x - nI d ≤ wt T t i)
def go (T : TownS) (t : Nat) : Nat → Nat → Nat → Fn → Int32 × Fn
  | 0, _, _, L => (-1, L)
  | n + 1, i, d, L => if bad T t i d (nx T t i d) then (nI i, L) else go T t n (i + 1) (nx T t i d).toNatClampNeg (upd L i (nx T t i d))
theorem go_bad {T : TownS} {t n i d : Nat} {L : Fn} (h : bad T t i d (nx T t i d)) : go T t (n + 1) i d L = (nI i, L) := if_pos h
theorem go_ok {T : TownS} {t n i d : Nat} {L : Fn} (h : ¬ bad T t i d (nx T t i d)) : go T t (n + 1) i d L = go T t n (i + 1) (nx T t i d).toNatClampNeg (upd L i (nx T t i d)) := if_neg h
/-- how many steps -/
def sc (T : TownS) (t : Nat) : Nat := (tCounts T t).toNatClampNeg
theorem sc_ok {T : TownS} (ok : tOk T) {t : Nat} (h : (t : Int) < (tThings T).toInt) : t < 8 ∧ tCounts T t = nI (sc T t) ∧ 1 ≤ sc T t ∧ sc T t ≤ 8 := by
  have h1 := ok.2.2.2.1
  have h2 := ok.2.2.2.2.2.2.2.1 t h
  have e := i_cl (x := tCounts T t) (by omega)
  exact ⟨by omega, i_of (by omega), by unfold sc; omega, by unfold sc; omega⟩
theorem isS_of {T : TownS} (ok : tOk T) {t i : Nat} (h : (t : Int) < (tThings T).toInt) (hi : i < sc T t) : isS T t i := by
  have h2 := ok.2.2.2.2.2.2.2.1 t h
  have e := i_cl (x := tCounts T t) (by omega)
  refine ⟨h, ?_⟩
  unfold sc at hi
  omega
theorem nx_rng {T : TownS} (ok : tOk T) {t i d : Nat} (hd : d < 30000) : nx T t i d = -1 ∨ ∃ x, nx T t i d = nI x ∧ d ≤ x ∧ x < d + 24 := by
  obtain ⟨hr, hr1, hr2⟩ := rN_ok ok
  have hb := bg_le hr1 hr2 d
  have w1 : ∀ {a : Int32} {lo hi : Nat}, (a = -1 ∨ ∃ x, a = nI x ∧ lo ≤ x ∧ x < hi) → d ≤ lo → hi ≤ d + 24 → (a = -1 ∨ ∃ x, a = nI x ∧ d ≤ x ∧ x < d + 24) := by
    intro a lo hi h h1 h2
    rcases h with h | ⟨x, h, h3, h4⟩
    · exact Or.inl h
    · exact Or.inr ⟨x, h, by omega, by omega⟩
  have wp : pl T (tl T t i) i d = -1 ∨ ∃ x, pl T (tl T t i) i d = nI x ∧ d ≤ x ∧ x < d + 24 := by
    unfold pl
    by_cases hi : i = 0
    · rw [if_pos hi]; exact w1 (fF_rng _ _ _) (by omega) (by omega)
    · rw [if_neg hi]; exact w1 (fF_rng _ _ _) (by omega) (by omega)
  have ww := w1 (wk_rng T (tl T t i) (d := d) (by omega)) (by omega) (by omega)
  unfold nx
  by_cases k1 : tKinds T t = 1
  · rw [if_pos k1]; exact w1 (fF_rng _ _ _) (by omega) (by omega)
  rw [if_neg k1]
  by_cases k2 : tKinds T t = 2
  · rw [if_pos k2]
    by_cases hi : i = 0
    · rw [if_pos hi]; exact w1 (fF_rng _ _ _) (by omega) (by omega)
    · rw [if_neg hi]; exact wp
  rw [if_neg k2]
  by_cases k3 : tKinds T t = 3
  · rw [if_pos k3]
    by_cases hi : i = 0
    · rw [if_pos hi]; exact wp
    · rw [if_neg hi]
      by_cases e : tl T t (i - 1) = tl T t i
      · rw [if_pos e]; exact Or.inr ⟨d, rfl, by omega, by omega⟩
      · rw [if_neg e]; exact wp
  rw [if_neg k3]
  by_cases k4 : tKinds T t = 4
  · rw [if_pos k4]; exact ww
  rw [if_neg k4]
  by_cases k5 : tKinds T t = 5
  · rw [if_pos k5]
    by_cases e : nI i = tCounts T t - 1
    · rw [if_pos e]
      exact ls_rng (by omega) ww (Or.inr ⟨bg T d, rfl, by omega, by omega⟩)
    · rw [if_neg e]; exact ww
  rw [if_neg k5]
  by_cases k6 : tKinds T t = 6
  · rw [if_pos k6]
    by_cases hi : i = 0
    · rw [if_pos hi]; exact wp
    · rw [if_neg hi]; exact w1 (fF_rng _ _ _) (by omega) (by omega)
  rw [if_neg k6]; exact wp
theorem nx_good {T : TownS} (ok : tOk T) {t i d : Nat} (hd : d < 30000) (h : ¬ bad T t i d (nx T t i d)) : ∃ x, nx T t i d = nI x ∧ d ≤ x ∧ x < d + 24 := by
  rcases nx_rng ok (t := t) (i := i) hd with e | e
  · exact absurd (Or.inl (by rw [e]; decide)) h
  · exact e
/-- what was written before does not matter -/
theorem go_L {T : TownS} (ok : tOk T) {t : Nat} : ∀ (n i d : Nat) (L L' : Fn), d + 24 * n < 30000 → i + n ≤ 8 → (go T t n i d L).1 = (go T t n i d L').1 ∧ (∀ k, k < i → (go T t n i d L).2 k = L k) ∧ ((go T t n i d L).1 = -1 → ∀ k, i ≤ k → k < i + n → (go T t n i d L).2 k = (go T t n i d L').2 k) := by
  intro n
  induction n with
  | zero => intro i d L L' hd hi; exact ⟨rfl, fun _ _ => rfl, fun _ k h1 h2 => by omega⟩
  | succ n ih =>
    intro i d L L' hd hi
    by_cases h : bad T t i d (nx T t i d)
    · rw [go_bad h, go_bad h]
      refine ⟨rfl, fun _ _ => rfl, fun q k h1 h2 => ?_⟩
      exact absurd q (nI_ne1 (by omega))
    · obtain ⟨x, hx, h1, h2⟩ := nx_good ok (by omega) h
      rw [go_ok h, go_ok h]
      have ec : (nx T t i d).toNatClampNeg = x := by rw [hx]; exact cl_nI (by omega)
      rw [ec]
      obtain ⟨a1, a2, a3⟩ := ih (i + 1) x (upd L i (nx T t i d)) (upd L' i (nx T t i d)) (by omega) (by omega)
      refine ⟨a1, fun k hk => ?_, fun q k hk1 hk2 => ?_⟩
      · rw [a2 k (by omega), upd_n (by omega)]
      · by_cases e : k = i
        · subst e
          obtain ⟨-, b2, -⟩ := ih (k + 1) x (upd L' k (nx T t k d)) (upd L k (nx T t k d)) (by omega) (by omega)
          rw [a2 k (by omega), b2 k (by omega), upd_s, upd_s]
        · exact a3 q k (by omega) (by omega)
theorem go_sp {T : TownS} {t : Nat} : ∀ (n i d : Nat) (L : Fn), (go T t n i d L).1 = -1 ∨ ∃ j, (go T t n i d L).1 = nI j ∧ i ≤ j ∧ j < i + n := by
  intro n
  induction n with
  | zero => intro i d L; exact Or.inl rfl
  | succ n ih =>
    intro i d L
    by_cases h : bad T t i d (nx T t i d)
    · rw [go_bad h]; exact Or.inr ⟨i, rfl, by omega, by omega⟩
    · rw [go_ok h]
      rcases ih (i + 1) (nx T t i d).toNatClampNeg (upd L i (nx T t i d)) with e | ⟨j, e, h1, h2⟩
      · exact Or.inl e
      · exact Or.inr ⟨j, e, by omega, by omega⟩
theorem go_days {T : TownS} (ok : tOk T) {t : Nat} : ∀ (n i d : Nat) (L : Fn), d + 24 * n < 30000 → i + n ≤ 8 → (go T t n i d L).1 = -1 → ∀ k, i ≤ k → k < i + n → ∃ x, (go T t n i d L).2 k = nI x ∧ d ≤ x ∧ x ≤ d + 24 * (k - i + 1) := by
  intro n
  induction n with
  | zero => intro i d L _ _ _ k h1 h2; omega
  | succ n ih =>
    intro i d L hd hi
    by_cases h : bad T t i d (nx T t i d)
    · rw [go_bad h]; intro q; exact absurd q (nI_ne1 (by omega))
    · obtain ⟨x, hx, h1, h2⟩ := nx_good ok (by omega) h
      rw [go_ok h]
      have ec : (nx T t i d).toNatClampNeg = x := by rw [hx]; exact cl_nI (by omega)
      rw [ec]
      intro q k hk1 hk2
      by_cases e : k = i
      · subst e
        obtain ⟨-, a2, -⟩ := go_L ok n (k + 1) x (upd L k (nx T t k d)) (upd L k (nx T t k d)) (by omega) (by omega)
        rw [a2 k (by omega), upd_s]
        exact ⟨x, hx, by omega, by omega⟩
      · obtain ⟨y, hy, g1, g2⟩ := ih (i + 1) x (upd L i (nx T t i d)) (by omega) (by omega) q k (by omega) (by omega)
        exact ⟨y, hy, by omega, by omega⟩
/-! class and reference go so -/
theorem x_num2 {u : XS} (ok : tOk (xT u)) {t i : Nat} (h : isS (xT u) t i) : f_X5_stepNumber (nI t) (nI i) 2 u = some (wt (xT u) t i, u) := by
  obtain ⟨h1, h2, -, -⟩ := isS_ok ok h
  exact x_num u (w := 2) h1 h2 (by omega)
theorem m_of2 {u : MS} (ok : tOk (dc (m_m u))) {t i : Nat} (h : isS (dc (m_m u)) t i) : f_X7_of (nI t) (nI i) 2 u = some (wt (dc (m_m u)) t i, u) := by
  obtain ⟨h1, h2, -, -⟩ := isS_ok ok h
  exact m_of u (w := 2) h1 h2 (by omega)
theorem xT_sL (u : XS) (L : Fn) : xT (sL u L) = xT u := rfl
theorem sL_sL (u : XS) (L L' : Fn) : sL (sL u L) L' = sL u L' := rfl
theorem xL_sL (u : XS) (L : Fn) : xL (sL u L) = L := rfl
theorem mm_on (u : MS) (L : Fn) : m_m (mu_on u L) = m_m u := rfl
theorem on_on (u : MS) (L L' : Fn) : mu_on (mu_on u L) L' = mu_on u L' := rfl
theorem mon_on (u : MS) (L : Fn) : m_on (mu_on u L) = L := rfl
theorem bad_nneg {T : TownS} {t i d : Nat} {x : Int32} (h : ¬ bad T t i d x) : ¬ x < 0 := fun q => h (Or.inl q)
theorem x_go {u : XS} (ok : tOk (xT u)) {t : Nat} (ht : (t : Int) < (tThings (xT u)).toInt) : ∀ (n i d : Nat) (L : Fn), i + n = sc (xT u) t → d + 24 * n < 30000 → bne (wl f_X0_goThrough_L16_16s (nI t, nI d, nI (sc (xT u) t), nI i, sL u L)) (fun a => some a) (fun b => nmv b fun u5 => some ((-1 : Int32), u5)) = some ((go (xT u) t n i d L).1, sL u (go (xT u) t n i d L).2) := by
  obtain ⟨h8, hc, c1, c8⟩ := sc_ok ok ht
  intro n
  induction n with
  | zero =>
    intro i d L hi hd
    have e : f_X0_goThrough_L16_16s (nI t, nI d, nI (sc (xT u) t), nI i, sL u L) = some (.inr (.inr (sL u L))) := by
      show f_X0_goThrough_L16_16 _ _ _ _ _ = _
      unfold f_X0_goThrough_L16_16
      rw [if_pos (nI_le (by omega) (by omega))]
    rw [wl_out e]; rfl
  | succ n ih =>
    intro i d L hi hd
    have hs : isS (xT (sL u L)) t i := isS_of ok ht (by omega)
    have hx := x_next (u := sL u L) ok hs (d := d) (by omega)
    have hw := x_num2 (u := sL u L) ok hs
    rw [xT_sL] at hx hw
    by_cases h : bad (xT u) t i d (nx (xT u) t i d)
    · have e : f_X0_goThrough_L16_16s (nI t, nI d, nI (sc (xT u) t), nI i, sL u L) = some (.inr (.inl (nI i, sL u L))) := by
        show f_X0_goThrough_L16_16 _ _ _ _ _ = _
        unfold f_X0_goThrough_L16_16
        rw [if_neg (nI_ge (by omega) (by omega)), hx, bnd_some]
        by_cases h1 : nx (xT u) t i d < 0
        · rw [if_pos h1]
        · rw [if_neg h1]
          obtain ⟨h2, h3⟩ := h.resolve_left h1
          rw [if_neg (nI_nle (by omega) (by omega)), hw, bnd_some, if_neg h3]
      rw [wl_out e, go_bad h]; rfl
    · have h1 := bad_nneg h
      obtain ⟨x, hx1, g1, g2⟩ := nx_good ok (by omega) h
      have ec : (nx (xT u) t i d).toNatClampNeg = x := by rw [hx1]; exact cl_nI (by omega)
      have e2 : f_X0_goThrough_L16_64 (nI t) (nI (sc (xT u) t)) (nI i) (nx (xT u) t i d) (sL u L) = some (.inl (nI t, nI x, nI (sc (xT u) t), nI (i + 1), sL u (upd L i (nx (xT u) t i d)))) := by
        unfold f_X0_goThrough_L16_64
        rw [ck_nI (show i < 8 by omega) (by omega), cl_nI (by omega)]
        simp only [nmv, nI_s1, hx1]
      have e : f_X0_goThrough_L16_16s (nI t, nI d, nI (sc (xT u) t), nI i, sL u L) = some (.inl (nI t, nI x, nI (sc (xT u) t), nI (i + 1), sL u (upd L i (nx (xT u) t i d)))) := by
        show f_X0_goThrough_L16_16 _ _ _ _ _ = _
        unfold f_X0_goThrough_L16_16
        rw [if_neg (nI_ge (by omega) (by omega)), hx, bnd_some, if_neg h1]
        by_cases hi0 : i = 0
        · rw [if_pos (show nI i ≤ 0 by rw [hi0]; decide), e2]
        · rw [if_neg (nI_nle (by omega) (by omega)), hw, bnd_some, if_pos, e2]
          by_cases q : nx (xT u) t i d - nI d ≤ wt (xT u) t i
          · exact q
          · exact absurd (Or.inr ⟨hi0, q⟩) h
      rw [wl_in e, go_ok h, ec]
      exact ih (i + 1) x _ (by omega) (by omega)
theorem m_go {u : MS} (ok : tOk (dc (m_m u))) {t : Nat} (ht : (t : Int) < (tThings (dc (m_m u))).toInt) : ∀ (n i d : Nat) (L : Fn), i + n = sc (dc (m_m u)) t → d + 24 * n < 30000 → bne (wl f_X7_runs_L5_5s (nI t, nI d, nI i, mu_on u L)) (fun a => some a) (fun b => nmv b fun u3 => some ((-1 : Int32), u3)) = some ((go (dc (m_m u)) t n i d L).1, mu_on u (go (dc (m_m u)) t n i d L).2) := by
  obtain ⟨h8, hc, c1, c8⟩ := sc_ok ok ht
  intro n
  induction n with
  | zero =>
    intro i d L hi hd
    have e : f_X7_runs_L5_5s (nI t, nI d, nI i, mu_on u L) = some (.inr (.inr (mu_on u L))) := by
      show f_X7_runs_L5_5 _ _ _ _ = _
      unfold f_X7_runs_L5_5
      rw [m_steps _ h8, bnd_some, mm_on, hc, if_pos (nI_le (by omega) (by omega))]
    rw [wl_out e]; rfl
  | succ n ih =>
    intro i d L hi hd
    have hs : isS (dc (m_m (mu_on u L))) t i := isS_of ok ht (by omega)
    have hx := m_next (u := mu_on u L) ok hs (d := d) (by omega)
    have hw := m_of2 (u := mu_on u L) ok hs
    rw [mm_on] at hx hw
    by_cases h : bad (dc (m_m u)) t i d (nx (dc (m_m u)) t i d)
    · have e : f_X7_runs_L5_5s (nI t, nI d, nI i, mu_on u L) = some (.inr (.inl (nI i, mu_on u L))) := by
        show f_X7_runs_L5_5 _ _ _ _ = _
        unfold f_X7_runs_L5_5
        rw [m_steps _ h8, bnd_some, mm_on, hc, if_neg (nI_ge (by omega) (by omega)), hx, bnd_some]
        by_cases h1 : nx (dc (m_m u)) t i d < 0
        · rw [if_pos h1]
        · rw [if_neg h1]
          obtain ⟨h2, h3⟩ := h.resolve_left h1
          rw [if_neg (nI_nle (by omega) (by omega)), hw, bnd_some, if_neg h3]
      rw [wl_out e, go_bad h]; rfl
    · have h1 := bad_nneg h
      obtain ⟨x, hx1, g1, g2⟩ := nx_good ok (by omega) h
      have ec : (nx (dc (m_m u)) t i d).toNatClampNeg = x := by rw [hx1]; exact cl_nI (by omega)
      have e2 : f_X7_runs_L5_53 (nI t) (nI i) (nx (dc (m_m u)) t i d) (mu_on u L) = some (.inl (nI t, nI x, nI (i + 1), mu_on u (upd L i (nx (dc (m_m u)) t i d)))) := by
        unfold f_X7_runs_L5_53
        rw [ck_nI (show i < 8 by omega) (by omega), cl_nI (by omega)]
        simp only [nmv, nI_s1, hx1]
      have e : f_X7_runs_L5_5s (nI t, nI d, nI i, mu_on u L) = some (.inl (nI t, nI x, nI (i + 1), mu_on u (upd L i (nx (dc (m_m u)) t i d)))) := by
        show f_X7_runs_L5_5 _ _ _ _ = _
        unfold f_X7_runs_L5_5
        rw [m_steps _ h8, bnd_some, mm_on, hc, if_neg (nI_ge (by omega) (by omega)), hx, bnd_some, if_neg h1]
        by_cases hi0 : i = 0
        · rw [if_pos (show nI i ≤ 0 by rw [hi0]; decide), e2]
        · rw [if_neg (nI_nle (by omega) (by omega)), hw, bnd_some, if_pos, e2]
          by_cases q : nx (dc (m_m u)) t i d - nI d ≤ wt (dc (m_m u)) t i
          · exact q
          · exact absurd (Or.inr ⟨hi0, q⟩) h
      rw [wl_in e, go_ok h, ec]
      exact ih (i + 1) x _ (by omega) (by omega)
/-- a run: where it spoils -/
def gs (T : TownS) (t b : Nat) : Int32 := (go T t (sc T t) 0 b (fun _ => 0)).1
/-- the days of a run -/
def gd (T : TownS) (t b k : Nat) : Int32 := (go T t (sc T t) 0 b (fun _ => 0)).2 k
/-- the days that a run leaves -/
def gl (T : TownS) (t b : Nat) (L : Fn) : Fn := (go T t (sc T t) 0 b L).2
theorem gl_gd {T : TownS} (ok : tOk T) {t b : Nat} (ht : (t : Int) < (tThings T).toInt) (hb : b < 20000) (h : gs T t b = -1) (L : Fn) {k : Nat} (hk : k < sc T t) : gl T t b L k = gd T t b k := by
  obtain ⟨h8, hc, c1, c8⟩ := sc_ok ok ht
  obtain ⟨a1, -, a3⟩ := go_L ok (t := t) (sc T t) 0 b L (fun _ => 0) (by omega) (by omega)
  exact a3 (a1.trans h) k (by omega) (by omega)
theorem gd_rng {T : TownS} (ok : tOk T) {t b : Nat} (ht : (t : Int) < (tThings T).toInt) (hb : b < 20000) (h : gs T t b = -1) {k : Nat} (hk : k < sc T t) : ∃ x, gd T t b k = nI x ∧ b ≤ x ∧ x ≤ b + 24 * (k + 1) := by
  obtain ⟨h8, hc, c1, c8⟩ := sc_ok ok ht
  have := go_days ok (t := t) (sc T t) 0 b (fun _ => 0) (by omega) (by omega) h k (by omega) (by omega)
  exact this
theorem x_through {u : XS} (ok : tOk (xT u)) {t b : Nat} (ht : (t : Int) < (tThings (xT u)).toInt) (hb : b < 20000) : f_X0_goThrough (nI t) (nI b) u = some (gs (xT u) t b, sL u (gl (xT u) t b (xL u))) := by
  obtain ⟨h8, hc, c1, c8⟩ := sc_ok ok ht
  unfold f_X0_goThrough
  rw [ck_nI h8 (by omega), cl_nI (by omega)]
  simp only [nmv.eq_1 (α := Int32)]
  rw [hc]
  have e := x_go ok ht (sc (xT u) t) 0 b (xL u) (by omega) (by omega)
  have e1 : (go (xT u) t (sc (xT u) t) 0 b (xL u)).1 = gs (xT u) t b := (go_L ok (t := t) (sc (xT u) t) 0 b (xL u) (fun _ => 0) (by omega) (by omega)).1
  rw [e1] at e
  exact e
theorem m_runs {u : MS} (ok : tOk (dc (m_m u))) {t b : Nat} (ht : (t : Int) < (tThings (dc (m_m u))).toInt) (hb : b < 20000) : f_X7_runs (nI t) (nI b) u = some (gs (dc (m_m u)) t b, mu_on u (gl (dc (m_m u)) t b (m_on u))) := by
  obtain ⟨h8, hc, c1, c8⟩ := sc_ok ok ht
  unfold f_X7_runs
  have e := m_go ok ht (sc (dc (m_m u)) t) 0 b (m_on u) (by omega) (by omega)
  have e1 : (go (dc (m_m u)) t (sc (dc (m_m u)) t) 0 b (m_on u)).1 = gs (dc (m_m u)) t b := (go_L ok (t := t) (sc (dc (m_m u)) t) 0 b (m_on u) (fun _ => 0) (by omega) (by omega)).1
  rw [e1] at e
  exact e
theorem gs_rng {T : TownS} (ok : tOk T) {t b : Nat} (ht : (t : Int) < (tThings T).toInt) : gs T t b = -1 ∨ ∃ j, gs T t b = nI j ∧ j < 8 := by
  obtain ⟨h8, hc, c1, c8⟩ := sc_ok ok ht
  rcases go_sp (T := T) (t := t) (sc T t) 0 b (fun _ => 0) with e | ⟨j, e, -, h2⟩
  · exact Or.inl e
  · exact Or.inr ⟨j, e, by omega⟩
