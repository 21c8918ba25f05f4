theorem b_one (i : Nat) : bt 1 i = decide (i = 0) := by
  rcases Nat.lt_or_ge i 32 with h | h
  · exact (by decide +kernel : ∀ i, i < 32 → bt 1 i = decide (i = 0)) i h
  · rw [b_big h, decide_eq_false (by omega)]
theorem bit_and (x : Int32) {p : Nat} (hp : p < 32) : (x >>> (nI p &&& 31)) &&& 1 = if bt x p = true then 1 else 0 := by
  refine b_ext (fun i hi => ?_)
  rw [b_and, b_sshr _ hp _ hi, b_one]
  by_cases h0 : i = 0
  · subst h0
    rw [if_pos (by omega)]
    by_cases h : bt x p = true
    · rw [if_pos h]; simp [h, b_one]
    · rw [if_neg h]; simp [h, b_0]
  · by_cases h : bt x p = true
    · rw [if_pos h]; simp [h0, b_one]
    · rw [if_neg h]; simp [h0, b_0]
/-- the first of n days from d on that is so -/
def ff (P : Nat → Bool) : Nat → Nat → Int32
  | _, 0 => -1
  | d, n + 1 => if P d = true then nI d else ff P (d + 1) n
theorem ff_none {P : Nat → Bool} : ∀ (n d : Nat), (∀ j, j < n → P (d + j) = false) → ff P d n = -1 := by
  intro n
  induction n with
  | zero => intro d _; rfl
  | succ n ih =>
    intro d h
    show (if P d = true then nI d else ff P (d + 1) n) = -1
    have h0 : P d = false := h 0 (by omega)
    rw [if_neg (by rw [h0]; decide)]
    exact ih (d + 1) (fun j hj => by rw [Nat.add_assoc, Nat.add_comm 1 j]; exact h (j + 1) (by omega))
theorem ff_some {P : Nat → Bool} : ∀ (n d j : Nat), j < n → P (d + j) = true → (∀ i, i < j → P (d + i) = false) → ff P d n = nI (d + j) := by
  intro n
  induction n with
  | zero => intro d j hj; omega
  | succ n ih =>
    intro d j hj hP hn
    show (if P d = true then nI d else ff P (d + 1) n) = nI (d + j)
    cases j with
    | zero => rw [if_pos (show P d = true from hP)]; rfl
    | succ j =>
      have h0 : P d = false := hn 0 (by omega)
      rw [if_neg (by rw [h0]; decide), ih (d + 1) j (by omega) (by rw [show d + 1 + j = d + (j + 1) by omega]; exact hP) (fun i hi => by rw [show d + 1 + i = d + (i + 1) by omega]; exact hn (i + 1) (by omega))]
      congr 1; omega
theorem ff_cases (P : Nat → Bool) (d n : Nat) : (ff P d n = -1 ∧ ∀ j, j < n → P (d + j) = false) ∨ ∃ j, j < n ∧ ff P d n = nI (d + j) ∧ P (d + j) = true ∧ ∀ i, i < j → P (d + i) = false := by
  by_cases h : ∃ j, j < n ∧ P (d + j) = true
  · obtain ⟨j, ⟨h1, h2⟩, h3⟩ := pk_least (fun j => j < n ∧ P (d + j) = true) h
    have h4 : ∀ i, i < j → P (d + i) = false := fun i hi => by
      have := h3 i hi
      cases e : P (d + i) with
      | false => rfl
      | true => exact absurd ⟨by omega, e⟩ this
    exact Or.inr ⟨j, h1, ff_some n d j h1 h2 h4, h2, h4⟩
  · left
    have h4 : ∀ j, j < n → P (d + j) = false := fun j hj => by
      cases e : P (d + j) with
      | false => rfl
      | true => exact absurd ⟨j, hj, e⟩ h
    exact ⟨ff_none n d h4, h4⟩
theorem ff_per {P : Nat → Bool} {R : Nat} (hR : 1 ≤ R) (hR2 : R ≤ 12) (hP : ∀ x, P (x + R) = P x) (d : Nat) : ff P d R = ff P d 12 := by
  rcases ff_cases P d R with ⟨h1, h2⟩ | ⟨j, h1, h2, h3, h4⟩
  · rw [h1]
    symm
    refine ff_none 12 d ?_
    intro j
    induction j using Nat.strongRecOn with
    | ind j ih =>
      intro hj
      by_cases hl : j < R
      · exact h2 j hl
      · rw [show d + j = d + (j - R) + R by omega, hP]
        exact ih (j - R) (by omega) (by omega)
  · rw [h2]
    exact (ff_some 12 d j (by omega) h3 h4).symm
theorem ff_loop {S U : Type} {step : S → Option (S ⊕ ((Int32 × U) ⊕ U))} (St : Nat → S) (P : Nat → Bool) (d N : Nat) (u : U) (hx : step (St N) = some (.inr (.inr u))) (hy : ∀ j, j < N → P (d + j) = true → step (St j) = some (.inr (.inl (nI (d + j), u)))) (hn : ∀ j, j < N → P (d + j) = false → step (St j) = some (.inl (St (j + 1)))) : bne (wl step (St 0)) (fun a => some a) (fun b => nmv b fun u3 => some ((-1 : Int32), u3)) = some (ff P d N, u) := by
  have key : ∀ n j, j + n = N → bne (wl step (St j)) (fun a => some a) (fun b => nmv b fun u3 => some ((-1 : Int32), u3)) = some (ff P (d + j) n, u) := by
    intro n
    induction n with
    | zero => intro j hj; have : j = N := by omega
              subst this; rw [wl_out hx]; rfl
    | succ n ih =>
      intro j hj
      cases e : P (d + j) with
      | true =>
        rw [wl_out (hy j (by omega) e)]
        show some (nI (d + j), u) = some (if P (d + j) = true then nI (d + j) else _, u)
        rw [if_pos e]
      | false =>
        rw [wl_in (hn j (by omega) e), ih (j + 1) (by omega)]
        show some (ff P (d + j + 1) n, u) = some (if P (d + j) = true then nI (d + j) else ff P (d + j + 1) n, u)
        rw [if_neg (by rw [e]; decide)]
  exact key N 0 (by omega)
/-- days of the round -/
def rN (T : TownS) : Nat := (tRound T).toNatClampNeg
theorem rN_ok {T : TownS} (ok : tOk T) : tRound T = nI (rN T) ∧ 1 ≤ rN T ∧ rN T ≤ 12 := by
  have h := ok.1
  have e := i_cl (x := tRound T) (by omega)
  exact ⟨i_of (by omega), by unfold rN; omega, by unfold rN; omega⟩
/-- whether a tool may be used on a day -/
def mB (T : TownS) (k d : Nat) : Bool := bt (tDays T k) (d % rN T)
theorem mB_per (T : TownS) (k l : Nat) (x : Nat) : mB T k (x + rN T + l) = mB T k (x + l) := by
  unfold mB
  rw [show x + rN T + l = (x + l) + rN T by omega, Nat.add_mod_right]
def fF (T : TownS) (k d : Nat) : Int32 := ff (mB T k) d 12
def nN (T : TownS) : Nat := (tNear T).toNatClampNeg
def fNr (T : TownS) (k d : Nat) : Int32 := if tNear T < 0 then -1 else ff (fun x => mB T k (x + nN T)) d 12
theorem rem_nI {d R : Nat} (hd : d < 100000) (h1 : 1 ≤ R) (h2 : R ≤ 12) : nI d - nI d / nI R * nI R = nI (d % R) := pk_rem (by omega) (by omega) (by omega)
theorem m_mayBe {u : MS} (ok : tOk (dc (m_m u))) {k d : Nat} (hk : k < 8) (hd : d < 100000) : f_X7_mayBe (nI k) (nI d) u = some (if mB (dc (m_m u)) k d = true then 1 else 0, u) := by
  obtain ⟨hr, h1, h2⟩ := rN_ok ok
  have hr : m_m u 0 = nI (rN (dc (m_m u))) := hr
  have hlt : d % rN (dc (m_m u)) < 32 := by have := Nat.mod_lt d (show 0 < rN (dc (m_m u)) by omega); omega
  unfold f_X7_mayBe f_X7_has
  simp (disch := omega) only [nmv, n6, nI_add, nIneg, cl', leF, or_self, if_false, l0, hr, rem_nI]
  rw [ck_nz (by rw [i_nI (by omega)]; omega), bit_and _ hlt]
  have e : m_m u (6 + k) = tDays (dc (m_m u)) k := by rw [dc_Days, if_pos hk]
  rw [e]
  show bnd (if (if bt (tDays (dc (m_m u)) k) (d % rN (dc (m_m u))) = true then (1 : Int32) else 0) = 1 then some (1, u) else some (0, u)) _ = some (if bt (tDays (dc (m_m u)) k) (d % rN (dc (m_m u))) = true then 1 else 0, u)
  by_cases hb : bt (tDays (dc (m_m u)) k) (d % rN (dc (m_m u))) = true
  · rw [if_pos hb, if_pos rfl, bnd_some]; rfl
  · rw [if_neg hb, if_neg (by decide), bnd_some]; rfl
theorem m_mayNear {u : MS} (ok : tOk (dc (m_m u))) {k d : Nat} (hk : k < 8) (hd : d < 90000) : f_X7_mayNear (nI k) (nI d) u = some (if ¬ tNear (dc (m_m u)) < 0 ∧ mB (dc (m_m u)) k (d + nN (dc (m_m u))) = true then 1 else 0, u) := by
  unfold f_X7_mayNear
  have hn : m_m u (1 : Int32).toNatClampNeg = tNear (dc (m_m u)) := rfl
  rw [hn]
  by_cases h : tNear (dc (m_m u)) < 0
  · rw [if_pos h, if_neg (fun q => q.1 h)]
  · rw [if_neg h]
    have h0 : 0 ≤ (tNear (dc (m_m u))).toInt := by rw [i_lt] at h; simp only [Int32.reduceToInt] at h; omega
    have e := i_cl h0
    have hb := ok.2.1
    have e2 : tNear (dc (m_m u)) = nI (nN (dc (m_m u))) := i_of h0
    rw [e2, nI_add, m_mayBe ok hk (by unfold nN; omega), bnd_some, ← e2]
    by_cases hm : mB (dc (m_m u)) k (d + nN (dc (m_m u))) = true
    · rw [if_pos hm, if_neg (by decide), if_pos ⟨h, hm⟩]
    · rw [if_neg hm, if_pos rfl, if_neg (fun q => hm q.2)]
theorem m_firstFrom {u : MS} (ok : tOk (dc (m_m u))) {k d : Nat} (hk : k < 8) (hd : d < 50000) : f_X7_firstFrom (nI k) (nI d) u = some (fF (dc (m_m u)) k d, u) := by
  unfold f_X7_firstFrom
  refine ff_loop (fun j => (nI k, nI d, nI (d + j), u)) (mB (dc (m_m u)) k) d 12 u ?_ ?_ ?_
  · show f_X7_firstFrom_L2_2 _ _ _ _ = _
    unfold f_X7_firstFrom_L2_2
    rw [show (12 : Int32) = nI 12 from rfl, nI_add, if_pos (Int32.le_refl _)]
  · intro j hj hp
    show f_X7_firstFrom_L2_2 _ _ _ _ = _
    unfold f_X7_firstFrom_L2_2
    rw [show (12 : Int32) = nI 12 from rfl, nI_add, if_neg (nI_ge (by omega) (by omega)), m_mayBe ok hk (by omega), if_pos hp, bnd_some]
    rfl
  · intro j hj hp
    show f_X7_firstFrom_L2_2 _ _ _ _ = _
    unfold f_X7_firstFrom_L2_2
    rw [show (12 : Int32) = nI 12 from rfl, nI_add, if_neg (nI_ge (by omega) (by omega)), m_mayBe ok hk (by omega), if_neg (by rw [hp]; decide), bnd_some, if_pos rfl]
    show some (Sum.inl (nI k, nI d, nI (d + j) + 1, u)) = _
    rw [nI_s1]
    rfl
theorem m_firstNear {u : MS} (ok : tOk (dc (m_m u))) {k d : Nat} (hk : k < 8) (hd : d < 50000) : f_X7_firstNear (nI k) (nI d) u = some (fNr (dc (m_m u)) k d, u) := by
  unfold f_X7_firstNear
  have e : fNr (dc (m_m u)) k d = ff (fun x => decide (¬ tNear (dc (m_m u)) < 0 ∧ mB (dc (m_m u)) k (x + nN (dc (m_m u))) = true)) d 12 := by
    unfold fNr
    by_cases h : tNear (dc (m_m u)) < 0
    · rw [if_pos h, ff_none]
      intro j hj
      exact decide_eq_false (fun q => q.1 h)
    · rw [if_neg h]
      congr 1
      funext x
      cases e : mB (dc (m_m u)) k (x + nN (dc (m_m u))) <;> simp [h]
  rw [e]
  refine ff_loop (fun j => (nI k, nI d, nI (d + j), u)) _ d 12 u ?_ ?_ ?_
  · show f_X7_firstNear_L2_2 _ _ _ _ = _
    unfold f_X7_firstNear_L2_2
    rw [show (12 : Int32) = nI 12 from rfl, nI_add, if_pos (Int32.le_refl _)]
  · intro j hj hp
    show f_X7_firstNear_L2_2 _ _ _ _ = _
    unfold f_X7_firstNear_L2_2
    rw [show (12 : Int32) = nI 12 from rfl, nI_add, if_neg (nI_ge (by omega) (by omega)), m_mayNear ok hk (by omega), if_pos (of_decide_eq_true hp), bnd_some]
    rfl
  · intro j hj hp
    show f_X7_firstNear_L2_2 _ _ _ _ = _
    unfold f_X7_firstNear_L2_2
    rw [show (12 : Int32) = nI 12 from rfl, nI_add, if_neg (nI_ge (by omega) (by omega)), m_mayNear ok hk (by omega), if_neg (of_decide_eq_false hp), bnd_some, if_pos rfl]
    show some (Sum.inl (nI k, nI d, nI (d + j) + 1, u)) = _
    rw [nI_s1]
    rfl
theorem mod_step {x R : Nat} (h1 : 1 ≤ R) : (x + 1) % R = if x % R + 1 = R then 0 else x % R + 1 := by
  have hl := Nat.mod_lt x (show 0 < R by omega)
  have e := Nat.mod_add_div x R
  by_cases h : x % R + 1 = R
  · rw [if_pos h]
    have : x + 1 = R * (x / R + 1) := by rw [Nat.mul_add]; omega
    rw [this]; exact Nat.mul_mod_right R _
  · rw [if_neg h]
    have : x + 1 = (x % R + 1) + R * (x / R) := by omega
    rw [this, Nat.add_mul_mod_self_left]
    exact Nat.mod_eq_of_lt (by omega)
theorem x_fd {u : XS} (ok : tOk (xT u)) {k d l : Nat} (hk : k < 8) (hd : d < 50000) (hl : l < 50) : f_X0_firstDay (nI k) (nI d) (nI l) u = some (ff (fun x => mB (xT u) k (x + l)) d 12, u) := by
  obtain ⟨hr, h1, h2⟩ := rN_ok ok
  have hper := ff_per (P := fun x => mB (xT u) k (x + l)) h1 h2 (fun x => mB_per (xT u) k l x) d
  rw [← hper]
  unfold f_X0_firstDay
  rw [ck_nI hk (by omega), cl_nI (by omega)]
  simp only [nmv]
  rw [hr]
  by_cases h0 : tDays (xT u) k = 0
  · rw [if_pos h0, ff_none]
    intro j hj
    show bt (tDays (xT u) k) _ = false
    rw [h0, b_0]
  · rw [if_neg h0, if_pos (show (1 : Int32) ≤ nI (rN (xT u)) from nI_le (a := 1) h1 (by omega)), ck_nz (by rw [i_nI (by omega)]; omega), nI_add, rem_nI (by omega) h1 h2]
    have hm : ∀ x, x % rN (xT u) < 32 := fun x => by have := Nat.mod_lt x (show 0 < rN (xT u) by omega); omega
    refine ff_loop (fun j => (nI d, tDays (xT u) k, nI (rN (xT u)), nI ((d + l + j) % rN (xT u)), nI j, u)) _ d (rN (xT u)) u ?_ ?_ ?_
    · show f_X0_firstDay_L44_44 _ _ _ _ _ _ = _
      unfold f_X0_firstDay_L44_44
      rw [if_pos (Int32.le_refl _)]
    · intro j hj hp
      have hp : bt (tDays (xT u) k) ((d + j + l) % rN (xT u)) = true := hp
      rw [show d + j + l = d + l + j by omega] at hp
      show f_X0_firstDay_L44_44 _ _ _ _ _ _ = _
      unfold f_X0_firstDay_L44_44
      rw [if_neg (nI_ge hj (by omega)), bit_and _ (hm _), if_pos hp, if_neg (by decide), nI_add]
    · intro j hj hp
      have hp : bt (tDays (xT u) k) ((d + j + l) % rN (xT u)) = false := hp
      rw [show d + j + l = d + l + j by omega] at hp
      show f_X0_firstDay_L44_44 _ _ _ _ _ _ = _
      unfold f_X0_firstDay_L44_44
      rw [if_neg (nI_ge hj (by omega)), bit_and _ (hm _), hp, if_pos (show (if false = true then (1 : Int32) else 0) = 0 from rfl)]
      simp only [nmv, nI_s1]
      have em := mod_step (x := d + l + j) h1
      by_cases e : (d + l + j) % rN (xT u) + 1 = rN (xT u)
      · rw [if_pos (by rw [e])]
        rw [if_pos e] at em
        show _ = some (Sum.inl (nI d, tDays (xT u) k, nI (rN (xT u)), nI ((d + l + (j + 1)) % rN (xT u)), nI (j + 1), u))
        rw [show d + l + (j + 1) = d + l + j + 1 by omega, em]
        rfl
      · rw [if_neg (fun q => e ((nI_eq (by have := hm (d + l + j); omega) (by omega)).mp q))]
        rw [if_neg e] at em
        show _ = some (Sum.inl (nI d, tDays (xT u) k, nI (rN (xT u)), nI ((d + l + (j + 1)) % rN (xT u)), nI (j + 1), u))
        rw [show d + l + (j + 1) = d + l + j + 1 by omega, em]
theorem x_fd0 {u : XS} (ok : tOk (xT u)) {k d : Nat} (hk : k < 8) (hd : d < 50000) : f_X0_firstDay (nI k) (nI d) 0 u = some (fF (xT u) k d, u) := x_fd ok (l := 0) hk hd (by omega)
