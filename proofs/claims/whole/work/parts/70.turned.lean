/-! turned: days of a tool that go on within the round -/
theorem b_mask : ∀ R, R < 13 → ∀ i, i < 32 → bt (((1 : Int32) <<< (nI R &&& 31)) - 1) i = decide (i < R) := by decide +kernel
theorem m_has (a : Int32) {p : Nat} (hp : p < 32) (u : MS) : f_X7_has a (nI p) u = some (if bt a p = true then 1 else 0, u) := by
  unfold f_X7_has
  rw [bit_and _ hp]
  by_cases h : bt a p = true
  · rw [if_pos h, if_pos rfl]
  · rw [if_neg h, if_neg (by decide)]
/-- the set a, gone on by b -/
def gO (T : TownS) (a : Int32) (b : Nat) : Int32 := (((a &&& (((1 : Int32) <<< (tRound T &&& 31)) - 1)) <<< (nI b &&& 31)) ||| ((a &&& (((1 : Int32) <<< (tRound T &&& 31)) - 1)) >>> ((tRound T - nI b) &&& 31))) &&& (((1 : Int32) <<< (tRound T &&& 31)) - 1)
theorem x_goneOn (u : XS) (a : Int32) (b : Nat) : f_X5_goneOn a (nI b) u = some (gO (xT u) a b, u) := rfl
def tbf (a : Int32) (b R : Nat) : Nat → Int32
  | 0 => 0
  | d + 1 => if bt a d = true then tbf a b R d ||| ((1 : Int32) <<< (nI ((d + b) % R) &&& 31)) else tbf a b R d
theorem m_turnedBy {u : MS} {R : Nat} (hr : m_m u 0 = nI R) (h1 : 1 ≤ R) (h2 : R ≤ 12) (a : Int32) {b : Nat} (hb : b < 100) : f_X7_turnedBy a (nI b) u = some (tbf a b R R, u) := by
  have e : wl f_X7_turnedBy_L5_5s (a, nI b, (0 : Int32), (0 : Int32), u) = some (.inr (tbf a b R R, u)) := by
    refine wl_for' (fun i => (a, nI b, tbf a b R i, nI i, u)) R rfl ?_ ?_
    · intro i hi
      show f_X7_turnedBy_L5_5 a (nI b) (tbf a b R i) (nI i) u = some (.inl (a, nI b, tbf a b R (i + 1), nI (i + 1), u))
      unfold f_X7_turnedBy_L5_5
      have ht : tbf a b R (i + 1) = if bt a i = true then tbf a b R i ||| ((1 : Int32) <<< (nI ((i + b) % R) &&& 31)) else tbf a b R i := rfl
      rw [l0, hr, if_neg (nI_ge hi (by omega)), m_has a (by omega), bnd_some, ht]
      by_cases h : bt a i = true
      · rw [if_pos h, if_neg (by decide), if_pos h, nmv, nmv, hr, ck_nz (by rw [i_nI (by omega)]; omega), nI_add, rem_nI (by omega) h1 h2, nmv, nmv, nI_s1]
      · rw [if_neg h, if_pos rfl, if_neg h, nmv, nmv, Int32.or_zero, nI_s1]
    · show f_X7_turnedBy_L5_5 a (nI b) (tbf a b R R) (nI R) u = _
      unfold f_X7_turnedBy_L5_5
      rw [l0, hr, if_pos (Int32.le_refl _)]
  unfold f_X7_turnedBy
  rw [e]
  rfl
theorem tbf_bit {a : Int32} {b R : Nat} (h0 : 1 ≤ R) (hR : R < 13) {i : Nat} (hi : i < 32) : ∀ n, bt (tbf a b R n) i = true ↔ ∃ d, d < n ∧ bt a d = true ∧ (d + b) % R = i := by
  intro n
  induction n with
  | zero =>
    show bt 0 i = true ↔ _
    rw [b_0]
    exact ⟨fun q => (by cases q), fun ⟨d, hd, _⟩ => by omega⟩
  | succ n ih =>
    have ht : tbf a b R (n + 1) = if bt a n = true then tbf a b R n ||| ((1 : Int32) <<< (nI ((n + b) % R) &&& 31)) else tbf a b R n := rfl
    rw [ht]
    by_cases h : bt a n = true
    · have hp : (n + b) % R < 32 := by have := Nat.mod_lt (n + b) (show 0 < R by omega); omega
      have e1 : bt ((1 : Int32) <<< (nI ((n + b) % R) &&& 31)) i = true ↔ (n + b) % R = i := by
        rw [b_shl _ hp _ hi, b_one]
        simp only [Bool.and_eq_true, decide_eq_true_eq]
        omega
      rw [if_pos h, b_or, Bool.or_eq_true, ih, e1]
      constructor
      · rintro (⟨d, q1, q2, q3⟩ | q)
        · exact ⟨d, by omega, q2, q3⟩
        · exact ⟨n, by omega, h, q⟩
      · rintro ⟨d, q1, q2, q3⟩
        by_cases hd : d = n
        · subst hd; exact Or.inr q3
        · exact Or.inl ⟨d, by omega, q2, q3⟩
    · rw [if_neg h, ih]
      constructor
      · rintro ⟨d, q1, q2, q3⟩; exact ⟨d, by omega, q2, q3⟩
      · rintro ⟨d, q1, q2, q3⟩
        by_cases hd : d = n
        · subst hd; exact absurd q2 h
        · exact ⟨d, by omega, q2, q3⟩
theorem gO_bit {T : TownS} {R b : Nat} (hr : tRound T = nI R) (hR : R < 13) (hb1 : 1 ≤ b) (hb : b < R) (a : Int32) {i : Nat} (hi : i < 32) : bt (gO T a b) i = true ↔ i < R ∧ ((b ≤ i ∧ bt a (i - b) = true) ∨ (i < b ∧ bt a (R - b + i) = true)) := by
  unfold gO
  rw [hr, pk_sub (by omega), b_and, b_mask R hR i hi, b_or, b_shl _ (by omega) _ hi, b_sshr _ (by omega) _ hi]
  by_cases h1 : i < R
  · have h3 : bt (a &&& (((1 : Int32) <<< (nI R &&& 31)) - 1)) (i - b) = bt a (i - b) := by
      rw [b_and, b_mask R hR _ (by omega), decide_eq_true (show i - b < R by omega), Bool.and_true]
    have h4 : bt (a &&& (((1 : Int32) <<< (nI R &&& 31)) - 1)) (R - b + i) = (bt a (R - b + i) && decide (R - b + i < R)) := by
      rw [b_and, b_mask R hR _ (by omega)]
    rw [if_pos (by omega), h3, h4]
    simp only [Bool.and_eq_true, Bool.or_eq_true, decide_eq_true_eq]
    constructor
    · rintro ⟨q | q, _⟩
      · exact ⟨h1, Or.inl q⟩
      · exact ⟨h1, Or.inr ⟨by omega, q.1⟩⟩
    · rintro ⟨_, q | q⟩
      · exact ⟨Or.inl q, h1⟩
      · exact ⟨Or.inr ⟨q.2, by omega⟩, h1⟩
  · rw [decide_eq_false h1, Bool.and_false]
    exact ⟨fun q => (by cases q), fun q => absurd q.1 h1⟩
theorem gO_tbf {T : TownS} {R b : Nat} (hr : tRound T = nI R) (hR : R < 13) (hb1 : 1 ≤ b) (hb : b < R) (a : Int32) : gO T a b = tbf a b R R := by
  refine b_ext (fun i hi => ?_)
  rw [Bool.eq_iff_iff, gO_bit hr hR hb1 hb a hi, tbf_bit (by omega) hR hi]
  constructor
  · rintro ⟨h1, ⟨h2, h3⟩ | ⟨h2, h3⟩⟩
    · refine ⟨i - b, by omega, h3, ?_⟩
      rw [show i - b + b = i by omega, Nat.mod_eq_of_lt h1]
    · refine ⟨R - b + i, by omega, h3, ?_⟩
      rw [show R - b + i + b = i + R by omega, Nat.add_mod_right, Nat.mod_eq_of_lt h1]
  · rintro ⟨d, h1, h2, h3⟩
    have hl := Nat.mod_lt (d + b) (show 0 < R by omega)
    by_cases h : d + b < R
    · rw [Nat.mod_eq_of_lt h] at h3
      subst h3
      exact ⟨h, Or.inl ⟨by omega, by rw [show d + b - b = d by omega]; exact h2⟩⟩
    · have e : (d + b) % R = d + b - R := by
        rw [show d + b = (d + b - R) + R by omega, Nat.add_mod_right, Nat.mod_eq_of_lt (by omega)]
        omega
      rw [e] at h3
      subst h3
      exact ⟨by omega, Or.inr ⟨by omega, by rw [show R - b + (d + b - R) = d by omega]; exact h2⟩⟩
theorem gO_rng {T : TownS} {R b : Nat} (hr : tRound T = nI R) (hR : R < 13) (hb1 : 1 ≤ b) (hb : b < R) (a : Int32) : 0 ≤ (gO T a b).toInt ∧ (gO T a b).toInt ≤ 4095 := by
  obtain ⟨k, e, hk⟩ := b_low (x := gO T a b) (n := 12) (fun i h1 h2 => by
    cases q : bt (gO T a b) i with
    | false => rfl
    | true => have := ((gO_bit hr hR hb1 hb a h2).mp q).1; omega)
  rw [e, i_nI (by omega)]
  omega
/-! hours of a tool in a thing -/
def ho (T : TownS) (t i : Nat) : Nat := (tNums T (t * 24 + i * 3 + 1)).toNatClampNeg
def hn (T : TownS) (t k : Nat) : Nat → Nat
  | 0 => 0
  | n + 1 => if tl T t n = k then hn T t k n + ho T t n else hn T t k n
theorem ho_ok {T : TownS} (ok : tOk T) {t i : Nat} (h : isS T t i) : tNums T (t * 24 + i * 3 + 1) = nI (ho T t i) ∧ 1 ≤ ho T t i ∧ ho T t i ≤ 8 := by
  have h3 := (ok.2.2.2.2.2.2.2.2.1 t i h.1 h.2).2.1
  have e := i_cl (x := tNums T (t * 24 + i * 3 + 1)) (by omega)
  exact ⟨i_of (by omega), by unfold ho; omega, by unfold ho; omega⟩
theorem hn_le {T : TownS} (ok : tOk T) {t k : Nat} (ht : (t : Int) < (tThings T).toInt) : ∀ n, n ≤ sc T t → hn T t k n ≤ 8 * n := by
  intro n
  induction n with
  | zero => intro _; exact Nat.le_refl _
  | succ n ih =>
    intro hn1
    have := ih (by omega)
    have h8 := (ho_ok ok (isS_of ok ht (show n < sc T t by omega))).2.2
    have e : hn T t k (n + 1) = if tl T t n = k then hn T t k n + ho T t n else hn T t k n := rfl
    rw [e]
    split <;> omega
theorem hn_0 {T : TownS} (ok : tOk T) {t k : Nat} (ht : (t : Int) < (tThings T).toInt) : ∀ n, n ≤ sc T t → hn T t k n = 0 → ∀ i, i < n → tl T t i ≠ k := by
  intro n
  induction n with
  | zero => intro _ _ i hi; omega
  | succ n ih =>
    intro hn1 h i hi q
    have h8 := (ho_ok ok (isS_of ok ht (show n < sc T t by omega))).2.1
    have e : hn T t k (n + 1) = if tl T t n = k then hn T t k n + ho T t n else hn T t k n := rfl
    rw [e] at h
    by_cases c : tl T t n = k
    · rw [if_pos c] at h; omega
    · rw [if_neg c] at h
      by_cases hi2 : i = n
      · subst hi2; exact c q
      · exact ih (by omega) h i (by omega) q
theorem x_num1 {u : XS} (ok : tOk (xT u)) {t i : Nat} (h : isS (xT u) t i) : f_X5_stepNumber (nI t) (nI i) 1 u = some (nI (ho (xT u) t i), u) := by
  obtain ⟨h1, h2, -, -⟩ := isS_ok ok h
  rw [← (ho_ok ok h).1]
  exact x_num u (w := 1) h1 h2 (by omega)
theorem m_of1 {u : MS} (ok : tOk (dc (m_m u))) {t i : Nat} (h : isS (dc (m_m u)) t i) : f_X7_of (nI t) (nI i) 1 u = some (nI (ho (dc (m_m u)) t i), u) := by
  obtain ⟨h1, h2, -, -⟩ := isS_ok ok h
  rw [← (ho_ok ok h).1]
  exact m_of u (w := 1) h1 h2 (by omega)
/-- hours of a tool in a thing, all together -/
def hw (T : TownS) (t k : Nat) : Nat := hn T t k (sc T t)
theorem x_hours {u : XS} (ok : tOk (xT u)) {t k : Nat} (ht : (t : Int) < (tThings (xT u)).toInt) (hk : k < 8) : f_X5_hoursWith (nI t) (nI k) u = some (nI (hw (xT u) t k), u) := by
  obtain ⟨c1, c2, c3, c4⟩ := sc_ok ok ht
  have e : wl f_X5_hoursWith_L5_5s (nI t, nI k, (0 : Int32), (0 : Int32), u) = some (.inr (nI (hn (xT u) t k (sc (xT u) t)), u)) := by
    refine wl_for' (fun i => (nI t, nI k, nI (hn (xT u) t k i), nI i, u)) (sc (xT u) t) rfl ?_ ?_
    · intro i hi
      have hs := isS_of ok ht hi
      obtain ⟨g1, g2, g3, g4⟩ := isS_ok ok hs
      have hn1 : hn (xT u) t k (i + 1) = if tl (xT u) t i = k then hn (xT u) t k i + ho (xT u) t i else hn (xT u) t k i := rfl
      show f_X5_hoursWith_L5_5 (nI t) (nI k) (nI (hn (xT u) t k i)) (nI i) u = some (.inl (nI t, nI k, nI (hn (xT u) t k (i + 1)), nI (i + 1), u))
      unfold f_X5_hoursWith_L5_5
      rw [ck_nI c1 (by omega), cl_nI (by omega), c2, if_neg (nI_ge hi (by omega)), x_num0 ok hs, bnd_some, hn1]
      by_cases c : tl (xT u) t i = k
      · rw [if_pos (by rw [c]), x_num1 ok hs, bnd_some, nmv, nmv, if_pos c, nI_add, nI_s1]
      · rw [if_neg (fun q => c ((nI_eq (by omega) (by omega)).mp q)), nmv, if_neg c, nI_s1]
    · show f_X5_hoursWith_L5_5 (nI t) (nI k) (nI (hn (xT u) t k (sc (xT u) t))) (nI (sc (xT u) t)) u = _
      unfold f_X5_hoursWith_L5_5
      rw [ck_nI c1 (by omega), cl_nI (by omega), c2, if_pos (Int32.le_refl _)]
  unfold f_X5_hoursWith
  rw [e]
  rfl
/-! a tool that a thing doesn't need: its days don't count -/
theorem nx_cg {T T' : TownS} {t i : Nat} (h1 : tRound T' = tRound T) (h2 : tNear T' = tNear T) (h3 : tKinds T' = tKinds T) (h4 : tCounts T' = tCounts T) (h5 : tNums T' = tNums T) (h6 : tDays T' (tl T t i) = tDays T (tl T t i)) (d : Nat) : nx T' t i d = nx T t i d := by
  have e1 : rN T' = rN T := by unfold rN; rw [h1]
  have e2 : nN T' = nN T := by unfold nN; rw [h2]
  have e3 : ∀ j, tl T' t j = tl T t j := fun j => by unfold tl; rw [h5]
  have e4 : ∀ x, mB T' (tl T t i) x = mB T (tl T t i) x := fun x => by unfold mB; rw [h6, e1]
  have e5 : ∀ x, fF T' (tl T t i) x = fF T (tl T t i) x := fun x => by unfold fF; rw [show mB T' (tl T t i) = mB T (tl T t i) from funext e4]
  have e6 : ∀ x, fNr T' (tl T t i) x = fNr T (tl T t i) x := fun x => by unfold fNr; rw [h2, e2]; simp only [e4]
  have e7 : ∀ x, wk T' (tl T t i) x = wk T (tl T t i) x := fun x => by unfold wk; rw [e5, e6]
  have e8 : ∀ x, pl T' (tl T t i) i x = pl T (tl T t i) i x := fun x => by unfold pl; rw [e5, e5]
  have e9 : ∀ x, bg T' x = bg T x := fun x => by unfold bg; rw [e1]
  unfold nx
  rw [h3, h4]
  simp only [e3, e5, e7, e8, e9]
theorem go_cg {T T' : TownS} {t m : Nat} (h1 : tRound T' = tRound T) (h2 : tNear T' = tNear T) (h3 : tKinds T' = tKinds T) (h4 : tCounts T' = tCounts T) (h5 : tNums T' = tNums T) (h6 : ∀ i, i < m → tDays T' (tl T t i) = tDays T (tl T t i)) : ∀ (n i d : Nat) (L : Fn), i + n ≤ m → go T' t n i d L = go T t n i d L := by
  intro n
  induction n with
  | zero => intro i d L _; rfl
  | succ n ih =>
    intro i d L hi
    have e := nx_cg (t := t) h1 h2 h3 h4 h5 (h6 i (by omega)) d
    have ew : wt T' t i = wt T t i := by unfold wt; rw [h5]
    by_cases h : bad T t i d (nx T t i d)
    · rw [go_bad h, go_bad (by unfold bad at h ⊢; rw [e, ew]; exact h)]
    · rw [go_ok h, go_ok (by unfold bad at h ⊢; rw [e, ew]; exact h), e]
      exact ih _ _ _ (by omega)
theorem rd_cg {T T' : TownS} {t : Nat} (h1 : tRound T' = tRound T) (h2 : tNear T' = tNear T) (h3 : tKinds T' = tKinds T) (h4 : tCounts T' = tCounts T) (h5 : tNums T' = tNums T) (h6 : ∀ i, i < sc T t → tDays T' (tl T t i) = tDays T (tl T t i)) (b : Nat) : rd T' t b = rd T t b := by
  have e0 : sc T' t = sc T t := by unfold sc; rw [h4]
  have e1 : ∀ x, gs T' t x = gs T t x := fun x => by unfold gs; rw [e0, go_cg h1 h2 h3 h4 h5 h6 _ _ _ _ (by omega)]
  have e2 : ∀ x k, gd T' t x k = gd T t x k := fun x k => by unfold gd; rw [e0, go_cg h1 h2 h3 h4 h5 h6 _ _ _ _ (by omega)]
  have e3 : bN T' t b = bN T t b := by
    unfold bN
    rw [show gb T' t = gb T t from funext (fun x => by unfold gb; rw [e1])]
  unfold rd
  rw [e3, e0, e2]
/-! one tool's turns -/
/-- r is sooner than so -/
abbrev snr (r so : Int32) : Prop := ¬ r < 0 ∧ (so < 0 ∨ r < so)
theorem snr_tr {r0 r so : Int32} (h : snr r so) (h0 : ¬ snr r0 so) : ¬ snr r0 r := by
  have z : (0 : Int32).toInt = 0 := rfl
  unfold snr at h h0 ⊢
  simp only [i_lt, z] at h h0 ⊢
  omega
theorem snr_rf (r : Int32) : ¬ snr r r := by
  have z : (0 : Int32).toInt = 0 := rfl
  unfold snr
  simp only [i_lt, z]
  omega
/-- the town with tool k's days gone on by b -/
def tT (T : TownS) (k b : Nat) : TownS := uDays T (upd (tDays T) k (gO T (tDays T k) b))
theorem tT_ok {T : TownS} (ok : tOk T) {k b : Nat} (h1 : 1 ≤ b) (h2 : b < rN T) : tOk (tT T k b) := by
  obtain ⟨hr, r1, r2⟩ := rN_ok ok
  exact tOk_day ok (gO_rng hr (by omega) h1 h2 _)
/-- n turns of tool k -/
def tn (T : TownS) (t k : Nat) : Nat → Int32 × Int32 → Int32 × Int32
  | 0, q => q
  | n + 1, q => if snr (rd (tT T k (n + 1)) t 0) (tn T t k n q).1 then (rd (tT T k (n + 1)) t 0, nI (100 * k + (n + 1))) else tn T t k n q
theorem tn_s (T : TownS) (t k n : Nat) (q : Int32 × Int32) : tn T t k (n + 1) q = if snr (rd (tT T k (n + 1)) t 0) (tn T t k n q).1 then (rd (tT T k (n + 1)) t 0, nI (100 * k + (n + 1))) else tn T t k n q := rfl
theorem tn_ns {T : TownS} {t k : Nat} {r0 : Int32} {q : Int32 × Int32} (h : ¬ snr r0 q.1) : ∀ n, ¬ snr r0 (tn T t k n q).1 := by
  intro n
  induction n with
  | zero => exact h
  | succ n ih =>
    rw [tn_s]
    by_cases c : snr (rd (tT T k (n + 1)) t 0) (tn T t k n q).1
    · rw [if_pos c]; exact snr_tr c ih
    · rw [if_neg c]; exact ih
theorem tn_same {T : TownS} (ok : tOk T) {t k : Nat} (ht : (t : Int) < (tThings T).toInt) (h0 : hw T t k = 0) {q : Int32 × Int32} (h : ¬ snr (rd T t 0) q.1) : ∀ n, tn T t k n q = q := by
  intro n
  induction n with
  | zero => rfl
  | succ n ih =>
    have e : rd (tT T k (n + 1)) t 0 = rd T t 0 := rd_cg (T := T) (T' := tT T k (n + 1)) rfl rfl rfl rfl rfl (fun i hi => upd_n (hn_0 ok ht (sc T t) (Nat.le_refl _) h0 i hi)) 0
    rw [tn_s, ih, e, if_neg h]
/-- the town at hand: tool k has other days, a run was gone through -/
def xV (u : XS) (k : Nat) (w : Int32) (L : Fn) : XS := sL (sT u (uDays (xT u) (upd (tDays (xT u)) k w))) L
theorem xV_set (u : XS) (k : Nat) (w v : Int32) (L : Fn) : sT (xV u k w L) (uDays (xT (xV u k w L)) (upd (tDays (xT (xV u k w L))) k v)) = xV u k v L := congrArg (fun f => sL (sT u (uDays (xT u) f)) L) (upd_upd (tDays (xT u)) k w v)
theorem xV_id (u : XS) (k : Nat) (L : Fn) : xV u k (tDays (xT u) k) L = sL u L := congrArg (fun f => sL (sT u (uDays (xT u) f)) L) (upd_id (tDays (xT u)) k)
theorem xV_T (u : XS) (k : Nat) (w : Int32) (L : Fn) : xT (xV u k w L) = uDays (xT u) (upd (tDays (xT u)) k w) := rfl
def mV (u : MS) (k : Nat) (w : Int32) (O : Fn) : MS := mu_on (mu_m u (upd (m_m u) (6 + k) w)) O
theorem mV_set (u : MS) (k : Nat) (w v : Int32) (O : Fn) : mu_m (mV u k w O) (upd (m_m (mV u k w O)) (6 + k) v) = mV u k v O := congrArg (fun f => mu_on (mu_m u f) O) (upd_upd (m_m u) (6 + k) w v)
theorem mV_id (u : MS) (k : Nat) (O : Fn) : mV u k (m_m u (6 + k)) O = mu_on u O := congrArg (fun f => mu_on (mu_m u f) O) (upd_id (m_m u) (6 + k))
theorem mV_m (u : MS) (k : Nat) (w : Int32) (O : Fn) : m_m (mV u k w O) = upd (m_m u) (6 + k) w := rfl
theorem x_inner {u : XS} (ok : tOk (xT u)) {t k : Nat} (ht : (t : Int) < (tThings (xT u)).toInt) (hk : k < 8) (q : Int32 × Int32) : ∀ (n c : Nat) (w : Int32) (L : Fn), c + 1 + n = rN (xT u) → ∃ w' L', wl f_X6_turned_L75_75s (nI t, (tn (xT u) t k c q).1, (tn (xT u) t k c q).2, nI k, tDays (xT u) k, nI (c + 1), xV u k w L) = some (.inr (nI t, (tn (xT u) t k (rN (xT u) - 1) q).1, (tn (xT u) t k (rN (xT u) - 1) q).2, nI k, tDays (xT u) k, xV u k w' L')) := by
  obtain ⟨hr, r1, r2⟩ := rN_ok ok
  intro n
  induction n with
  | zero =>
    intro c w L hc
    have e : f_X6_turned_L75_75s (nI t, (tn (xT u) t k c q).1, (tn (xT u) t k c q).2, nI k, tDays (xT u) k, nI (c + 1), xV u k w L) = some (.inr (.inr (nI t, (tn (xT u) t k c q).1, (tn (xT u) t k c q).2, nI k, tDays (xT u) k, xV u k w L))) := by
      show f_X6_turned_L75_75 _ _ _ _ _ _ _ = _
      unfold f_X6_turned_L75_75
      rw [if_pos (show tRound (xT (xV u k w L)) ≤ nI (c + 1) from by
        show tRound (xT u) ≤ _
        rw [hr]; exact nI_le (by omega) (by omega))]
    refine ⟨w, L, ?_⟩
    rw [wl_out e, show rN (xT u) - 1 = c by omega]
  | succ n ih =>
    intro c w L hc
    have okt : tOk (tT (xT u) k (c + 1)) := tT_ok ok (by omega) (by omega)
    obtain ⟨L', ex⟩ := x_ready (u := xV u k (gO (xT u) (tDays (xT u) k) (c + 1)) L) (t := t) (b := 0) okt ht (by omega)
    have ex' : f_X0_readyFrom (nI t) 0 (xV u k (gO (xT u) (tDays (xT u) k) (c + 1)) L) = some (rd (tT (xT u) k (c + 1)) t 0, xV u k (gO (xT u) (tDays (xT u) k) (c + 1)) L') := ex
    obtain ⟨w', L2, e2⟩ := ih (c + 1) (gO (xT u) (tDays (xT u) k) (c + 1)) L' (by omega)
    refine ⟨w', L2, ?_⟩
    rw [← e2]
    apply wl_in
    show f_X6_turned_L75_75 (nI t) (tn (xT u) t k c q).1 (tn (xT u) t k c q).2 (nI k) (tDays (xT u) k) (nI (c + 1)) (xV u k w L) = _
    unfold f_X6_turned_L75_75
    have eg : f_X5_goneOn (tDays (xT u) k) (nI (c + 1)) (xV u k w L) = some (gO (xT u) (tDays (xT u) k) (c + 1), xV u k w L) := x_goneOn (xV u k w L) _ (c + 1)
    rw [if_neg (show ¬ tRound (xT (xV u k w L)) ≤ nI (c + 1) from by
      show ¬ tRound (xT u) ≤ _
      rw [hr]; exact nI_ge (by omega) (by omega)), eg, bnd_some, ck_nI hk (by omega), cl_nI (by omega), xV_set, nmv, ex', bnd_some, x_isSooner, bnd_some, tn_s]
    by_cases hs : snr (rd (tT (xT u) k (c + 1)) t 0) (tn (xT u) t k c q).1
    · rw [if_pos hs, if_neg (by decide), if_pos hs, nmv, nmv, nI_s1, show (100 : Int32) = nI 100 from rfl, pk_mul, nI_add]
    · rw [if_neg hs, if_pos rfl, if_neg hs, nmv, nI_s1]
theorem m_inner {u : MS} (ok : tOk (dc (m_m u))) {t k : Nat} (ht : (t : Int) < (tThings (dc (m_m u))).toInt) (hk : k < 8) (q : Int32 × Int32) : ∀ (n c : Nat) (w : Int32) (O : Fn), c + 1 + n = rN (dc (m_m u)) → ∃ w' O', wl f_X7_turned_L53_53s (nI t, (tn (dc (m_m u)) t k c q).1, (tn (dc (m_m u)) t k c q).2, nI k, m_m u (6 + k), nI (c + 1), mV u k w O) = some (.inr (nI t, (tn (dc (m_m u)) t k (rN (dc (m_m u)) - 1) q).1, (tn (dc (m_m u)) t k (rN (dc (m_m u)) - 1) q).2, nI k, m_m u (6 + k), mV u k w' O')) := by
  obtain ⟨hr, r1, r2⟩ := rN_ok ok
  have hr0 : ∀ w O, m_m (mV u k w O) 0 = nI (rN (dc (m_m u))) := fun w O => by rw [mV_m, upd_n (by omega)]; exact hr
  have hd : tDays (dc (m_m u)) k = m_m u (6 + k) := by rw [dc_Days, if_pos hk]
  have hT : ∀ b, dc (upd (m_m u) (6 + k) (gO (dc (m_m u)) (m_m u (6 + k)) b)) = tT (dc (m_m u)) k b := fun b => by rw [dc_days _ hk, ← hd]; rfl
  intro n
  induction n with
  | zero =>
    intro c w O hc
    have e : f_X7_turned_L53_53s (nI t, (tn (dc (m_m u)) t k c q).1, (tn (dc (m_m u)) t k c q).2, nI k, m_m u (6 + k), nI (c + 1), mV u k w O) = some (.inr (.inr (nI t, (tn (dc (m_m u)) t k c q).1, (tn (dc (m_m u)) t k c q).2, nI k, m_m u (6 + k), mV u k w O))) := by
      show f_X7_turned_L53_53 _ _ _ _ _ _ _ = _
      unfold f_X7_turned_L53_53
      rw [l0, hr0, if_pos (nI_le (by omega) (by omega))]
    refine ⟨w, O, ?_⟩
    rw [wl_out e, show rN (dc (m_m u)) - 1 = c by omega]
  | succ n ih =>
    intro c w O hc
    have okt : tOk (tT (dc (m_m u)) k (c + 1)) := tT_ok ok (by omega) (by omega)
    have em0 := m_ready (u := mV u k (gO (dc (m_m u)) (m_m u (6 + k)) (c + 1)) O) (t := t) (b := 0) (by rw [mV_m, hT]; exact okt) (by rw [mV_m, hT]; exact ht) (by omega)
    rw [mV_m, hT] at em0
    obtain ⟨O', em⟩ := em0
    have em' : f_X7_readyAt (nI t) 0 (mV u k (gO (dc (m_m u)) (m_m u (6 + k)) (c + 1)) O) = some (rd (tT (dc (m_m u)) k (c + 1)) t 0, mV u k (gO (dc (m_m u)) (m_m u (6 + k)) (c + 1)) O') := em
    obtain ⟨w', O2, e2⟩ := ih (c + 1) (gO (dc (m_m u)) (m_m u (6 + k)) (c + 1)) O' (by omega)
    refine ⟨w', O2, ?_⟩
    rw [← e2]
    apply wl_in
    show f_X7_turned_L53_53 (nI t) (tn (dc (m_m u)) t k c q).1 (tn (dc (m_m u)) t k c q).2 (nI k) (m_m u (6 + k)) (nI (c + 1)) (mV u k w O) = _
    unfold f_X7_turned_L53_53
    rw [l0, hr0, if_neg (nI_ge (by omega) (by omega)), m_turnedBy (hr0 w O) r1 r2 _ (by omega), bnd_some, ← gO_tbf hr (by omega) (by omega) (by omega), nmv, n6, nI_add, ck_nI (by omega) (by omega), cl_nI (by omega), mV_set, nmv, em', bnd_some, tn_s]
    unfold f_X7_turned_L53_108
    by_cases c1 : rd (tT (dc (m_m u)) k (c + 1)) t 0 < 0
    · rw [if_pos c1, if_neg (fun q => q.1 c1), nmv, nI_s1]
    · rw [if_neg c1]
      by_cases c2 : (tn (dc (m_m u)) t k c q).1 < 0
      · rw [if_pos c2, if_pos ⟨c1, Or.inl c2⟩, nmv, nmv, nI_s1, show (100 : Int32) = nI 100 from rfl, pk_mul, nI_add]
      · rw [if_neg c2]
        by_cases c3 : rd (tT (dc (m_m u)) k (c + 1)) t 0 < (tn (dc (m_m u)) t k c q).1
        · rw [if_pos c3, if_pos ⟨c1, Or.inr c3⟩, nmv, nmv, nI_s1, show (100 : Int32) = nI 100 from rfl, pk_mul, nI_add]
        · rw [if_neg c3, if_neg (fun q => q.2.elim c2 c3), nmv, nI_s1]
/-! all tools -/
def to (T : TownS) (t : Nat) : Nat → Int32 × Int32 → Int32 × Int32
  | 0, q => q
  | k + 1, q => if hw T t k = 0 then to T t k q else tn T t k (rN T - 1) (to T t k q)
theorem to_s (T : TownS) (t k : Nat) (q : Int32 × Int32) : to T t (k + 1) q = if hw T t k = 0 then to T t k q else tn T t k (rN T - 1) (to T t k q) := rfl
theorem to_ns {T : TownS} {t : Nat} {r0 : Int32} {q : Int32 × Int32} (h : ¬ snr r0 q.1) : ∀ n, ¬ snr r0 (to T t n q).1 := by
  intro n
  induction n with
  | zero => exact h
  | succ n ih =>
    rw [to_s]
    by_cases c : hw T t n = 0
    · rw [if_pos c]; exact ih
    · rw [if_neg c]; exact tn_ns ih _
theorem hw_lt {T : TownS} (ok : tOk T) {t : Nat} (k : Nat) (ht : (t : Int) < (tThings T).toInt) : hw T t k ≤ 64 := by
  obtain ⟨c1, c2, c3, c4⟩ := sc_ok ok ht
  have := hn_le ok (k := k) ht (sc T t) (Nat.le_refl _)
  unfold hw
  omega
theorem x_outer {u : XS} (ok : tOk (xT u)) {t N : Nat} (ht : (t : Int) < (tThings (xT u)).toInt) (hN : tTools (xT u) = nI N) (hN8 : N ≤ 8) (q : Int32 × Int32) : ∀ (n k : Nat) (L : Fn), k + n = N → ∃ L', wl f_X6_turned_L32_32s (nI t, (to (xT u) t k q).1, (to (xT u) t k q).2, nI k, sL u L) = some (.inr ((to (xT u) t N q).2, sL u L')) := by
  obtain ⟨hr, r1, r2⟩ := rN_ok ok
  intro n
  induction n with
  | zero =>
    intro k L hk
    have hk2 : k = N := by omega
    subst hk2
    refine ⟨L, wl_out ?_⟩
    show f_X6_turned_L32_32 _ _ _ _ _ = _
    unfold f_X6_turned_L32_32
    rw [xT_sL, hN, if_pos (Int32.le_refl _)]
  | succ n ih =>
    intro k L hk
    have hh := x_hours (u := sL u L) ok (t := t) (k := k) ht (by omega)
    rw [xT_sL] at hh
    by_cases h0 : hw (xT u) t k = 0
    · obtain ⟨L', e⟩ := ih (k + 1) L (by omega)
      refine ⟨L', ?_⟩
      rw [← e]
      apply wl_in
      show f_X6_turned_L32_32 (nI t) (to (xT u) t k q).1 (to (xT u) t k q).2 (nI k) (sL u L) = _
      unfold f_X6_turned_L32_32
      rw [xT_sL, hN, if_neg (nI_ge (by omega) (by omega)), hh, bnd_some, if_pos (by rw [h0]; rfl), nmv, nI_s1, to_s, if_pos h0]
    · obtain ⟨w', L1, e1⟩ := x_inner ok ht (show k < 8 by omega) (to (xT u) t k q) (rN (xT u) - 1) 0 (tDays (xT u) k) L (by omega)
      rw [xV_id] at e1
      have e1' : wl f_X6_turned_L75_75s (nI t, (to (xT u) t k q).1, (to (xT u) t k q).2, nI k, tDays (xT u) k, (1 : Int32), sL u L) = some (.inr (nI t, (tn (xT u) t k (rN (xT u) - 1) (to (xT u) t k q)).1, (tn (xT u) t k (rN (xT u) - 1) (to (xT u) t k q)).2, nI k, tDays (xT u) k, xV u k w' L1)) := e1
      obtain ⟨L', e⟩ := ih (k + 1) L1 (by omega)
      refine ⟨L', ?_⟩
      rw [← e]
      apply wl_in
      show f_X6_turned_L32_32 (nI t) (to (xT u) t k q).1 (to (xT u) t k q).2 (nI k) (sL u L) = _
      unfold f_X6_turned_L32_32
      have hw8 := hw_lt ok k ht
      rw [xT_sL, hN, if_neg (nI_ge (by omega) (by omega)), hh, bnd_some, if_neg (nI_ne0 (by omega) (by omega)), ck_nI (by omega) (by omega), cl_nI (by omega), nmv, e1']
      show (if nI k < 0 ∨ 8 ≤ (nI k).toNatClampNeg then none else some (Sum.inl (nI t, (tn (xT u) t k (rN (xT u) - 1) (to (xT u) t k q)).1, (tn (xT u) t k (rN (xT u) - 1) (to (xT u) t k q)).2, nI k + 1, sT (xV u k w' L1) (uDays (xT (xV u k w' L1)) (upd (tDays (xT (xV u k w' L1))) (nI k).toNatClampNeg (tDays (xT u) k)))))) = _
      rw [ck_nI (by omega) (by omega), cl_nI (by omega), xV_set, xV_id, nI_s1, to_s, if_neg h0]
theorem m_outer {u : MS} (ok : tOk (dc (m_m u))) {t N : Nat} (ht : (t : Int) < (tThings (dc (m_m u))).toInt) (hN : tTools (dc (m_m u)) = nI N) (hN8 : N ≤ 8) {q : Int32 × Int32} (hq : ¬ snr (rd (dc (m_m u)) t 0) q.1) : ∀ (n k : Nat) (O : Fn), k + n = N → ∃ O', wl f_X7_turned_L27_27s (nI t, (to (dc (m_m u)) t k q).1, (to (dc (m_m u)) t k q).2, nI k, mu_on u O) = some (.inr ((to (dc (m_m u)) t N q).2, mu_on u O')) := by
  obtain ⟨hr, r1, r2⟩ := rN_ok ok
  have hN2 : m_m u 2 = nI N := hN
  intro n
  induction n with
  | zero =>
    intro k O hk
    have hk2 : k = N := by omega
    subst hk2
    refine ⟨O, wl_out ?_⟩
    show f_X7_turned_L27_27 _ _ _ _ _ = _
    unfold f_X7_turned_L27_27
    rw [l2, mm_on, hN2, if_pos (Int32.le_refl _)]
  | succ n ih =>
    intro k O hk
    obtain ⟨w', O1, e1⟩ := m_inner ok ht (show k < 8 by omega) (to (dc (m_m u)) t k q) (rN (dc (m_m u)) - 1) 0 (m_m u (6 + k)) O (by omega)
    rw [mV_id] at e1
    have e1' : wl f_X7_turned_L53_53s (nI t, (to (dc (m_m u)) t k q).1, (to (dc (m_m u)) t k q).2, nI k, m_m u (6 + k), (1 : Int32), mu_on u O) = some (.inr (nI t, (tn (dc (m_m u)) t k (rN (dc (m_m u)) - 1) (to (dc (m_m u)) t k q)).1, (tn (dc (m_m u)) t k (rN (dc (m_m u)) - 1) (to (dc (m_m u)) t k q)).2, nI k, m_m u (6 + k), mV u k w' O1)) := e1
    have et : tn (dc (m_m u)) t k (rN (dc (m_m u)) - 1) (to (dc (m_m u)) t k q) = to (dc (m_m u)) t (k + 1) q := by
      rw [to_s]
      by_cases h0 : hw (dc (m_m u)) t k = 0
      · rw [if_pos h0]; exact tn_same ok ht h0 (to_ns hq k) _
      · rw [if_neg h0]
    rw [et] at e1'
    obtain ⟨O', e⟩ := ih (k + 1) O1 (by omega)
    refine ⟨O', ?_⟩
    rw [← e]
    apply wl_in
    show f_X7_turned_L27_27 (nI t) (to (dc (m_m u)) t k q).1 (to (dc (m_m u)) t k q).2 (nI k) (mu_on u O) = _
    unfold f_X7_turned_L27_27
    rw [l2, mm_on, hN2, if_neg (nI_ge (by omega) (by omega)), nmv, n6, nI_add, ck_nI (by omega) (by omega), cl_nI (by omega), nmv, e1']
    show (nmv (nI 6 + nI k) fun x13 => if x13 < 0 ∨ 247 ≤ x13.toNatClampNeg then none else some (Sum.inl (nI t, (to (dc (m_m u)) t (k + 1) q).1, (to (dc (m_m u)) t (k + 1) q).2, nI k + 1, mu_m (mV u k w' O1) (upd (m_m (mV u k w' O1)) x13.toNatClampNeg (m_m u (6 + k)))))) = _
    rw [nmv, nI_add, ck_nI (by omega) (by omega), cl_nI (by omega), mV_set, mV_id, nI_s1]
theorem op_turned {σ : XS} {τ : MS} (h : Rel σ τ) (a : Int32) : Op (f_X6_turned a σ) (f_X7_turned a τ) := by
  obtain ⟨hT, ok, hr⟩ := id h
  have okx : tOk (xT σ) := by rw [hT]; exact ok
  unfold f_X6_turned f_X7_turned
  rw [x_hasThing okx, m_isThing ok, bnd_some, bnd_some, hT]
  simp only [ite01, fx_0, fm_0, bnd_some]
  by_cases h1 : pThing (dc (m_m τ)) a
  · rw [if_neg (not_not_intro h1), if_neg (not_not_intro h1)]
    obtain ⟨p1, p2⟩ := h1
    obtain ⟨t, rfl, ht, ht2⟩ := i_ex p1
    have hs : (t : Int) < (tThings (dc (m_m τ))).toInt := by omega
    have hsx : (t : Int) < (tThings (xT σ)).toInt := by rw [hT]; exact hs
    have o3 := ok.2.2.1
    obtain ⟨N, hN, hN1, -⟩ := i_ex (x := tTools (dc (m_m τ))) (by omega)
    obtain ⟨L, e1⟩ := x_ready okx (t := t) (b := 0) hsx (by omega)
    obtain ⟨O, e2⟩ := m_ready ok hs (b := 0) (by omega)
    have e1' : f_X0_readyFrom (nI t) 0 σ = some (rd (xT σ) t 0, sL σ L) := e1
    have e2' : f_X7_readyAt (nI t) 0 τ = some (rd (dc (m_m τ)) t 0, mu_on τ O) := e2
    obtain ⟨L', g1⟩ := x_outer okx hsx (N := N) (by rw [hT]; exact hN) (by omega) (rd (dc (m_m τ)) t 0, 0) N 0 L (by omega)
    obtain ⟨O', g2⟩ := m_outer ok hs hN (by omega) (q := (rd (dc (m_m τ)) t 0, 0)) (snr_rf _) N 0 O (by omega)
    have g1' : wl f_X6_turned_L32_32s (nI t, rd (dc (m_m τ)) t 0, 0, 0, sL σ L) = some (.inr ((to (xT σ) t N (rd (dc (m_m τ)) t 0, 0)).2, sL σ L')) := g1
    have g2' : wl f_X7_turned_L27_27s (nI t, rd (dc (m_m τ)) t 0, 0, 0, mu_on τ O) = some (.inr ((to (dc (m_m τ)) t N (rd (dc (m_m τ)) t 0, 0)).2, mu_on τ O')) := g2
    rw [e1', e2', bnd_some, bnd_some, hT, g1', g2', hT]
    exact Op.mk' (h.on _ _)
  · rw [if_pos h1, if_pos h1]; exact Op.mk' (h.fd (by decide))
