/-- b is a, R days later (or both are none) -/
def Sh (R : Nat) (a b : Int32) : Prop := (a = -1 ∧ b = -1) ∨ ∃ x, x < 90000 ∧ a = nI x ∧ b = nI (x + R)
theorem ff_sh {P : Nat → Bool} {R : Nat} (hP : ∀ x, P (x + R) = P x) {d n : Nat} (hd : d + n < 90000) : Sh R (ff P d n) (ff P (d + R) n) := by
  rcases ff_cases P d n with ⟨h1, h2⟩ | ⟨j, h1, h2, h3, h4⟩
  · left
    refine ⟨h1, ff_none n _ (fun j hj => ?_)⟩
    rw [show d + R + j = d + j + R by omega, hP]; exact h2 j hj
  · right
    refine ⟨d + j, by omega, h2, ?_⟩
    rw [ff_some n (d + R) j h1 (by rw [show d + R + j = d + j + R by omega, hP]; exact h3) (fun i hi => by rw [show d + R + i = d + i + R by omega, hP]; exact h4 i hi)]
    congr 1; omega
theorem mB_p0 (T : TownS) (k x : Nat) : mB T k (x + rN T) = mB T k x := mB_per T k 0 x
theorem fF_sh (T : TownS) (k : Nat) {d : Nat} (hd : d < 50000) : Sh (rN T) (fF T k d) (fF T k (d + rN T)) := ff_sh (mB_p0 T k) (by omega)
theorem fNr_sh (T : TownS) (k : Nat) {d : Nat} (hd : d < 50000) : Sh (rN T) (fNr T k d) (fNr T k (d + rN T)) := by
  unfold fNr
  by_cases h : tNear T < 0
  · rw [if_pos h, if_pos h]; exact Or.inl ⟨rfl, rfl⟩
  · rw [if_neg h, if_neg h]
    exact ff_sh (P := fun x => mB T k (x + nN T)) (fun x => mB_per T k (nN T) x) (by omega)
theorem ls_sh {R : Nat} (hR : R ≤ 12) {a a' b b' : Int32} (h1 : Sh R a a') (h2 : Sh R b b') : Sh R (ls a b) (ls a' b') := by
  unfold ls
  rcases h1 with ⟨rfl, rfl⟩ | ⟨x, hx, rfl, rfl⟩
  · rw [if_neg (by decide), if_neg (by decide)]; exact h2
  · rw [if_pos (nI_nn (by omega)), if_pos (nI_nn (by omega))]
    rcases h2 with ⟨rfl, rfl⟩ | ⟨y, hy, rfl, rfl⟩
    · rw [if_pos (by decide), if_pos (by decide)]; exact Or.inr ⟨x, hx, rfl, rfl⟩
    · rw [if_neg (nI_nneg (by omega)), if_neg (nI_nneg (by omega))]
      by_cases h : y ≤ x
      · rw [if_pos (nI_le h (by omega)), if_pos (nI_le (by omega) (by omega))]; exact Or.inr ⟨y, hy, rfl, rfl⟩
      · rw [if_neg (nI_ge (by omega) (by omega)), if_neg (nI_ge (by omega) (by omega))]; exact Or.inr ⟨x, hx, rfl, rfl⟩
theorem bg_sh {T : TownS} (h1 : 1 ≤ rN T) (d : Nat) : bg T (d + rN T) = bg T d + rN T := by
  unfold bg
  rw [show d + rN T + rN T - 1 = d + rN T - 1 + rN T by omega, Nat.add_div_right _ (by omega), Nat.succ_mul]
theorem pl_sh (T : TownS) (k i : Nat) {d : Nat} (hd : d < 40000) : Sh (rN T) (pl T k i d) (pl T k i (d + rN T)) := by
  unfold pl
  by_cases h : i = 0
  · rw [if_pos h, if_pos h]; exact fF_sh T k (by omega)
  · rw [if_neg h, if_neg h, show d + rN T + 1 = d + 1 + rN T by omega]; exact fF_sh T k (by omega)
theorem wk_sh {T : TownS} (hR : rN T ≤ 12) (k : Nat) {d : Nat} (hd : d < 40000) : Sh (rN T) (wk T k d) (wk T k (d + rN T)) := by
  unfold wk
  rw [show d + rN T + 1 = d + 1 + rN T by omega]
  exact ls_sh hR (fF_sh T k (by omega)) (fNr_sh T k (by omega))
theorem nx_sh {T : TownS} (ok : tOk T) {t i d : Nat} (hd : d < 29000) : Sh (rN T) (nx T t i d) (nx T t i (d + rN T)) := by
  obtain ⟨hr, h1, h2⟩ := rN_ok ok
  have hb := bg_le h1 h2 d
  unfold nx
  by_cases k1 : tKinds T t = 1
  · rw [if_pos k1, if_pos k1]; exact fF_sh _ _ (by omega)
  rw [if_neg k1, if_neg k1]
  by_cases k2 : tKinds T t = 2
  · rw [if_pos k2, if_pos k2]
    by_cases hi : i = 0
    · rw [if_pos hi, if_pos hi, bg_sh h1]; exact fF_sh _ _ (by omega)
    · rw [if_neg hi, if_neg hi]; exact pl_sh _ _ _ (by omega)
  rw [if_neg k2, if_neg k2]
  by_cases k3 : tKinds T t = 3
  · rw [if_pos k3, if_pos k3]
    by_cases hi : i = 0
    · rw [if_pos hi, if_pos hi]; exact pl_sh _ _ _ (by omega)
    · rw [if_neg hi, if_neg hi]
      by_cases e : tl T t (i - 1) = tl T t i
      · rw [if_pos e, if_pos e]; exact Or.inr ⟨d, by omega, rfl, rfl⟩
      · rw [if_neg e, if_neg e]; exact pl_sh _ _ _ (by omega)
  rw [if_neg k3, if_neg k3]
  by_cases k4 : tKinds T t = 4
  · rw [if_pos k4, if_pos k4]; exact wk_sh h2 _ (by omega)
  rw [if_neg k4, if_neg k4]
  by_cases k5 : tKinds T t = 5
  · rw [if_pos k5, if_pos k5]
    by_cases e : nI i = tCounts T t - 1
    · rw [if_pos e, if_pos e, bg_sh h1]
      exact ls_sh h2 (wk_sh h2 _ (by omega)) (Or.inr ⟨bg T d, by omega, rfl, rfl⟩)
    · rw [if_neg e, if_neg e]; exact wk_sh h2 _ (by omega)
  rw [if_neg k5, if_neg k5]
  by_cases k6 : tKinds T t = 6
  · rw [if_pos k6, if_pos k6]
    by_cases hi : i = 0
    · rw [if_pos hi, if_pos hi]; exact pl_sh _ _ _ (by omega)
    · rw [if_neg hi, if_neg hi, show d + rN T + 2 = d + 2 + rN T by omega]; exact fF_sh _ _ (by omega)
  rw [if_neg k6, if_neg k6]; exact pl_sh _ _ _ (by omega)
theorem bad_sh {T : TownS} (ok : tOk T) {t i d : Nat} (hd : d < 29000) : bad T t i (d + rN T) (nx T t i (d + rN T)) ↔ bad T t i d (nx T t i d) := by
  obtain ⟨hr, h1, h2⟩ := rN_ok ok
  rcases nx_sh ok (t := t) (i := i) hd with ⟨e1, e2⟩ | ⟨x, hx, e1, e2⟩
  · rw [e1, e2]
    exact ⟨fun _ => Or.inl (by decide), fun _ => Or.inl (by decide)⟩
  · have hdx : d ≤ x := by
      rcases nx_rng ok (t := t) (i := i) (d := d) (by omega) with e | ⟨y, e, g1, g2⟩
      · rw [e1] at e; exact absurd e (nI_ne1 (by omega))
      · rw [e1] at e
        have := (nI_eq (a := x) (b := y) (by omega) (by omega)).mp e
        omega
    rw [e1, e2]
    unfold bad
    rw [pk_sub (by omega), pk_sub (by omega), show x + rN T - (d + rN T) = x - d by omega]
    constructor
    · rintro (q | q)
      · exact absurd q (nI_nneg (by omega))
      · exact Or.inr q
    · rintro (q | q)
      · exact absurd q (nI_nneg (by omega))
      · exact Or.inr q
theorem go_sh {T : TownS} (ok : tOk T) {t : Nat} : ∀ (n i d : Nat) (L L' : Fn), d + 24 * n < 29000 → i + n ≤ 8 → (go T t n i (d + rN T) L').1 = (go T t n i d L).1 ∧ ((go T t n i d L).1 = -1 → ∀ k, i ≤ k → k < i + n → Sh (rN T) ((go T t n i d L).2 k) ((go T t n i (d + rN T) L').2 k)) := by
  obtain ⟨hr, h1, h2⟩ := rN_ok ok
  intro n
  induction n with
  | zero => intro i d L L' hd hi; exact ⟨rfl, fun _ k h1 h2 => by omega⟩
  | succ n ih =>
    intro i d L L' hd hi
    by_cases h : bad T t i d (nx T t i d)
    · rw [go_bad h, go_bad ((bad_sh ok (by omega)).mpr h)]
      exact ⟨rfl, fun q => absurd q (nI_ne1 (by omega))⟩
    · obtain ⟨x, hx, g1, g2⟩ := nx_good ok (by omega) h
      have e2 : nx T t i (d + rN T) = nI (x + rN T) := by
        rcases nx_sh ok (t := t) (i := i) (d := d) (by omega) with ⟨e1, -⟩ | ⟨y, hy, e1, e2⟩
        · rw [hx] at e1; exact absurd e1 (nI_ne1 (by omega))
        · rw [hx] at e1
          have : x = y := (nI_eq (by omega) (by omega)).mp e1
          rw [this]; exact e2
      rw [go_ok h, go_ok (fun q => h ((bad_sh ok (by omega)).mp q))]
      have ec : (nx T t i d).toNatClampNeg = x := by rw [hx]; exact cl_nI (by omega)
      have ec2 : (nx T t i (d + rN T)).toNatClampNeg = x + rN T := by rw [e2]; exact cl_nI (by omega)
      rw [ec, ec2]
      obtain ⟨a1, a2⟩ := ih (i + 1) x (upd L i (nx T t i d)) (upd L' i (nx T t i (d + rN T))) (by omega) (by omega)
      refine ⟨a1, fun q k hk1 hk2 => ?_⟩
      by_cases e : k = i
      · subst e
        obtain ⟨-, b2, -⟩ := go_L ok n (k + 1) x (upd L k (nx T t k d)) (upd L k (nx T t k d)) (by omega) (by omega)
        obtain ⟨-, b3, -⟩ := go_L ok n (k + 1) (x + rN T) (upd L' k (nx T t k (d + rN T))) (upd L' k (nx T t k (d + rN T))) (by omega) (by omega)
        rw [b2 k (by omega), b3 k (by omega), upd_s, upd_s, hx, e2]
        exact Or.inr ⟨x, by omega, rfl, rfl⟩
      · exact a2 q k (by omega) (by omega)
theorem gs_sh {T : TownS} (ok : tOk T) {t b : Nat} (ht : (t : Int) < (tThings T).toInt) (hb : b < 20000) : gs T t (b + rN T) = gs T t b := by
  obtain ⟨h8, hc, c1, c8⟩ := sc_ok ok ht
  exact (go_sh ok (t := t) (sc T t) 0 b (fun _ => 0) (fun _ => 0) (by omega) (by omega)).1
theorem gd_sh {T : TownS} (ok : tOk T) {t b : Nat} (ht : (t : Int) < (tThings T).toInt) (hb : b < 20000) (h : gs T t b = -1) {k : Nat} (hk : k < sc T t) : ∃ x, gd T t b k = nI x ∧ gd T t (b + rN T) k = nI (x + rN T) ∧ b ≤ x ∧ x ≤ b + 24 * (k + 1) := by
  obtain ⟨h8, hc, c1, c8⟩ := sc_ok ok ht
  obtain ⟨x, hx, g1, g2⟩ := gd_rng ok ht hb h hk
  rcases (go_sh ok (t := t) (sc T t) 0 b (fun _ => 0) (fun _ => 0) (by omega) (by omega)).2 h k (by omega) (by omega) with ⟨e1, -⟩ | ⟨y, hy, e1, e2⟩
  · have : gd T t b k = -1 := e1
    rw [hx] at this; exact absurd this (nI_ne1 (by omega))
  · have e1 : gd T t b k = nI y := e1
    have e2 : gd T t (b + rN T) k = nI (y + rN T) := e2
    rw [hx] at e1
    have : x = y := (nI_eq (by omega) (by omega)).mp e1
    subst this
    exact ⟨x, hx, e2, g1, g2⟩
theorem ff_perN {P : Nat → Bool} {R N : Nat} (hR : 1 ≤ R) (hR2 : R ≤ N) {d : Nat} (hP : ∀ x, x < d + N → P (x + R) = P x) : ff P d R = ff P d N := by
  rcases ff_cases P d R with ⟨h1, h2⟩ | ⟨j, h1, h2, h3, h4⟩
  · rw [h1]
    symm
    refine ff_none N d ?_
    intro j
    induction j using Nat.strongRecOn with
    | ind j ih =>
      intro hj
      by_cases hl : j < R
      · exact h2 j hl
      · rw [show d + j = d + (j - R) + R by omega, hP _ (by omega)]
        exact ih (j - R) (by omega) (by omega)
  · rw [h2]
    exact (ff_some N d j (by omega) h3 h4).symm
/-- a search that leaves something behind at every try -/
theorem ff_loop2 {S U : Type} {step : S → Option (S ⊕ ((Int32 × U) ⊕ U))} (St : Nat → S) (V : Nat → U) (P : Nat → Bool) (d N : Nat) (hx : step (St N) = some (.inr (.inr (V N)))) (hy : ∀ j, j < N → P (d + j) = true → step (St j) = some (.inr (.inl (nI (d + j), V (j + 1))))) (hn : ∀ j, j < N → P (d + j) = false → step (St j) = some (.inl (St (j + 1)))) : ∃ j, j ≤ N ∧ bne (wl step (St 0)) (fun a => some a) (fun b => nmv b fun u3 => some ((-1 : Int32), u3)) = some (ff P d N, V j) ∧ (ff P d N ≠ -1 → ∃ i, j = i + 1 ∧ i < N ∧ ff P d N = nI (d + i) ∧ P (d + i) = true) := by
  rcases ff_cases P d N with ⟨h1, h2⟩ | ⟨j, h1, h2, h3, h4⟩
  · refine ⟨N, Nat.le_refl _, ?_, fun q => absurd h1 q⟩
    rw [wl_for St N (fun i hi => hn i hi (h2 i hi)) hx, h1]
    rfl
  · refine ⟨j + 1, by omega, ?_, fun _ => ⟨j, rfl, h1, h2, h3⟩⟩
    rw [wl_for St j (fun i hi => hn i (by omega) (h4 i hi)) (hy j h1 h3), h2]
    rfl
/-- whether a run from a begin does not spoil -/
def gb (T : TownS) (t : Nat) (b : Nat) : Bool := decide (gs T t b = -1)
theorem gs_ge {T : TownS} (ok : tOk T) {t b : Nat} (ht : (t : Int) < (tThings T).toInt) : (0 ≤ gs T t b) ↔ gb T t b = false := by
  unfold gb
  rcases gs_rng ok ht (b := b) with e | ⟨j, e, hj⟩
  · rw [e]; decide
  · rw [e]
    refine ⟨fun _ => decide_eq_false (nI_ne1 (by omega)), fun _ => nI_nn (by omega)⟩
/-- begins: what they leave, one after another -/
def xU (u : XS) (t b : Nat) : Nat → XS
  | 0 => u
  | j + 1 => sL (xU u t b j) (gl (xT u) t (b + j) (xL (xU u t b j)))
theorem xU_T (u : XS) (t b : Nat) : ∀ j, xT (xU u t b j) = xT u
  | 0 => rfl
  | j + 1 => by show xT (xU u t b j) = xT u; exact xU_T u t b j
theorem xU_L (u : XS) (t b : Nat) : ∀ j, ∃ L, xU u t b j = sL u L
  | 0 => ⟨xL u, rfl⟩
  | j + 1 => by
    obtain ⟨L, h⟩ := xU_L u t b j
    exact ⟨_, by show sL (xU u t b j) _ = _; rw [h]⟩
def mU (u : MS) (t b : Nat) : Nat → MS
  | 0 => u
  | j + 1 => mu_on (mU u t b j) (gl (dc (m_m u)) t (b + j) (m_on (mU u t b j)))
theorem mU_m (u : MS) (t b : Nat) : ∀ j, m_m (mU u t b j) = m_m u
  | 0 => rfl
  | j + 1 => by show m_m (mU u t b j) = m_m u; exact mU_m u t b j
theorem mU_L (u : MS) (t b : Nat) : ∀ j, ∃ L, mU u t b j = mu_on u L
  | 0 => ⟨m_on u, rfl⟩
  | j + 1 => by
    obtain ⟨L, h⟩ := mU_L u t b j
    exact ⟨_, by show mu_on (mU u t b j) _ = _; rw [h]⟩
/-- BEGUN: the first begin of 201 -/
def bN (T : TownS) (t b : Nat) : Int32 := ff (gb T t) b 201
theorem x_begun {u : XS} (ok : tOk (xT u)) {t b : Nat} (ht : (t : Int) < (tThings (xT u)).toInt) (hb : b < 10000) : ∃ L, f_X0_begunFrom (nI t) (nI b) u = some (bN (xT u) t b, sL u L) ∧ ∀ i, bN (xT u) t b = nI (b + i) → i < 201 → gs (xT u) t (b + i) = -1 ∧ ∀ k, k < sc (xT u) t → L k = gd (xT u) t (b + i) k := by
  obtain ⟨hr, h1, h2⟩ := rN_ok ok
  have hp : ff (gb (xT u) t) b (rN (xT u)) = bN (xT u) t b := ff_perN h1 (by omega) (fun x hx => by unfold gb; rw [gs_sh ok ht (by omega)])
  obtain ⟨j, hj, e, hf⟩ := ff_loop2 (step := f_X0_begunFrom_L2_2s) (fun j => (nI t, nI b, nI (b + j), xU u t b j)) (xU u t b) (gb (xT u) t) b (rN (xT u)) (by
      show f_X0_begunFrom_L2_2 _ _ _ _ = _
      unfold f_X0_begunFrom_L2_2
      rw [xU_T, hr, nI_add, if_pos (Int32.le_refl _)]) (fun j hj hP => by
      show f_X0_begunFrom_L2_2 _ _ _ _ = _
      unfold f_X0_begunFrom_L2_2
      rw [xU_T, hr, nI_add, if_neg (nI_ge (by omega) (by omega)), x_through (by rw [xU_T]; exact ok) (by rw [xU_T]; exact ht) (by omega), bnd_some, xU_T]
      rw [if_neg (fun q => by rw [(gs_ge ok ht).mp q] at hP; cases hP)]
      rfl) (fun j hj hP => by
      show f_X0_begunFrom_L2_2 _ _ _ _ = _
      unfold f_X0_begunFrom_L2_2
      rw [xU_T, hr, nI_add, if_neg (nI_ge (by omega) (by omega)), x_through (by rw [xU_T]; exact ok) (by rw [xU_T]; exact ht) (by omega), bnd_some, xU_T, if_pos ((gs_ge ok ht).mpr hP), nmv, nI_s1]
      rfl)
  rw [hp] at e hf
  obtain ⟨L, hL⟩ := xU_L u t b j
  refine ⟨L, ?_, ?_⟩
  · rw [← hL]; exact e
  · intro i hi hi2
    have hne : bN (xT u) t b ≠ -1 := by rw [hi]; exact nI_ne1 (by omega)
    obtain ⟨i', rfl, g1, g2, g3⟩ := hf hne
    have ei : i = i' := by
      rw [hi] at g2
      have := (nI_eq (a := b + i) (b := b + i') (by omega) (by omega)).mp g2
      omega
    subst ei
    have gsi : gs (xT u) t (b + i) = -1 := of_decide_eq_true g3
    refine ⟨gsi, fun k hk => ?_⟩
    have e3 : xL (xU u t b (i + 1)) = L := by rw [hL]
    rw [← e3]
    exact gl_gd ok ht (by omega) gsi _ hk
theorem m_begun {u : MS} (ok : tOk (dc (m_m u))) {t b : Nat} (ht : (t : Int) < (tThings (dc (m_m u))).toInt) (hb : b < 10000) : ∃ L, f_X7_beginsAt (nI t) (nI b) u = some (bN (dc (m_m u)) t b, mu_on u L) ∧ ∀ i, bN (dc (m_m u)) t b = nI (b + i) → i < 201 → gs (dc (m_m u)) t (b + i) = -1 ∧ ∀ k, k < sc (dc (m_m u)) t → L k = gd (dc (m_m u)) t (b + i) k := by
  obtain ⟨j, hj, e, hf⟩ := ff_loop2 (step := f_X7_beginsAt_L2_2s) (fun j => (nI t, nI b, nI (b + j), mU u t b j)) (mU u t b) (gb (dc (m_m u)) t) b 201 (by
      show f_X7_beginsAt_L2_2 _ _ _ _ = _
      unfold f_X7_beginsAt_L2_2
      rw [show (200 : Int32) = nI 200 from rfl, nI_add, if_pos (nI_lt (by omega) (by omega))]) (fun j hj hP => by
      show f_X7_beginsAt_L2_2 _ _ _ _ = _
      unfold f_X7_beginsAt_L2_2
      rw [show (200 : Int32) = nI 200 from rfl, nI_add, if_neg (nI_nlt (by omega) (by omega)), m_runs (by rw [mU_m]; exact ok) (by rw [mU_m]; exact ht) (by omega), bnd_some, mU_m]
      rw [if_neg (fun q => by rw [(gs_ge ok ht).mp q] at hP; cases hP)]
      rfl) (fun j hj hP => by
      show f_X7_beginsAt_L2_2 _ _ _ _ = _
      unfold f_X7_beginsAt_L2_2
      rw [show (200 : Int32) = nI 200 from rfl, nI_add, if_neg (nI_nlt (by omega) (by omega)), m_runs (by rw [mU_m]; exact ok) (by rw [mU_m]; exact ht) (by omega), bnd_some, mU_m, if_pos ((gs_ge ok ht).mpr hP), nmv, nI_s1]
      rfl)
  obtain ⟨L, hL⟩ := mU_L u t b j
  refine ⟨L, ?_, ?_⟩
  · rw [← hL]; exact e
  · intro i hi hi2
    have hne : ff (gb (dc (m_m u)) t) b 201 ≠ -1 := by
      have hi' : ff (gb (dc (m_m u)) t) b 201 = nI (b + i) := hi
      rw [hi']; exact nI_ne1 (by omega)
    obtain ⟨i', rfl, g1, g2, g3⟩ := hf hne
    have ei : i = i' := by
      have hi' : ff (gb (dc (m_m u)) t) b 201 = nI (b + i) := hi
      rw [hi'] at g2
      have := (nI_eq (a := b + i) (b := b + i') (by omega) (by omega)).mp g2
      omega
    subst ei
    have gsi : gs (dc (m_m u)) t (b + i) = -1 := of_decide_eq_true g3
    refine ⟨gsi, fun k hk => ?_⟩
    have e3 : m_on (mU u t b (i + 1)) = L := by rw [hL]
    rw [← e3]
    exact gl_gd ok ht (by omega) gsi _ hk
