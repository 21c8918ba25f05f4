/-- the first day from d on that is day 0 of the round -/
def bg (T : TownS) (d : Nat) : Nat := (d + rN T - 1) / rN T * rN T
theorem bg_eq {T : TownS} (h1 : 1 ≤ rN T) (d : Nat) : bg T d = if d % rN T = 0 then d else d + rN T - d % rN T := by
  unfold bg
  generalize rN T = R at h1
  have e := Nat.div_add_mod d R
  have hl := Nat.mod_lt d (show 0 < R by omega)
  have hc := Nat.mul_comm (d / R) R
  by_cases h : d % R = 0
  · rw [if_pos h]
    have e2 : d + R - 1 = R * (d / R) + (R - 1) := by omega
    rw [e2, Nat.mul_add_div (by omega), Nat.div_eq_of_lt (show R - 1 < R by omega)]
    simp only [Nat.add_zero]
    omega
  · rw [if_neg h]
    have e3 := Nat.mul_succ R (d / R)
    have e2 : d + R - 1 = R * (d / R + 1) + (d % R - 1) := by
      have : R * (d / R + 1) = R * (d / R) + R := Nat.mul_succ R (d / R)
      omega
    rw [e2, Nat.mul_add_div (by omega), Nat.div_eq_of_lt (show d % R - 1 < R by omega)]
    simp only [Nat.add_zero]
    have e4 : (d / R + 1) * R = (d / R) * R + R := Nat.succ_mul (d / R) R
    omega
theorem bg_le {T : TownS} (h1 : 1 ≤ rN T) (h2 : rN T ≤ 12) (d : Nat) : d ≤ bg T d ∧ bg T d ≤ d + 11 := by
  rw [bg_eq h1]
  have hl := Nat.mod_lt d (show 0 < rN T by omega)
  by_cases h : d % rN T = 0
  · rw [if_pos h]; omega
  · rw [if_neg h]; omega
theorem m_begin {u : MS} (ok : tOk (dc (m_m u))) {d : Nat} (hd : d < 50000) : f_X7_begin (nI d) u = some (nI (bg (dc (m_m u)) d), u) := by
  obtain ⟨hr, h1, h2⟩ := rN_ok ok
  have hr : m_m u 0 = nI (rN (dc (m_m u))) := hr
  unfold f_X7_begin
  simp only [nmv, l0, hr]
  rw [nI_add, show nI (d + rN (dc (m_m u))) - 1 = nI (d + rN (dc (m_m u)) - 1) from pk_sub (b := 1) (by omega), ck_nz (by rw [i_nI (by omega)]; omega), pk_div (by omega) (by omega) (by omega), pk_mul]
  rfl
theorem x_zero {u : XS} (ok : tOk (xT u)) {d : Nat} (hd : d < 50000) : f_X0_zeroFrom (nI d) u = some (nI (bg (xT u) d), u) := by
  obtain ⟨hr, h1, h2⟩ := rN_ok ok
  have hl := Nat.mod_lt d (show 0 < rN (xT u) by omega)
  unfold f_X0_zeroFrom
  simp only [nmv]
  rw [hr, if_pos (show (1 : Int32) ≤ nI (rN (xT u)) from nI_le (a := 1) h1 (by omega)), ck_nz (by rw [i_nI (by omega)]; omega), rem_nI (by omega) h1 h2, bg_eq h1]
  by_cases h : d % rN (xT u) = 0
  · rw [if_pos h, if_pos (by rw [h]; rfl)]
  · rw [if_neg h, if_neg (nI_ne0 (by omega) (by omega)), nI_add, pk_sub (by omega)]
/-- the lesser of two days, of which one may be none -/
def ls (a b : Int32) : Int32 := if 0 ≤ a then (if b < 0 then a else if b ≤ a then b else a) else b
theorem m_lesser (u : MS) (a b : Int32) : f_X7_lesser a b u = some (ls a b, u) := by
  unfold f_X7_lesser ls
  by_cases h1 : (0 : Int32) ≤ a
  · rw [if_pos h1, if_pos h1]
    by_cases h2 : b < 0
    · rw [if_pos h2, if_pos h2]
    · rw [if_neg h2, if_neg h2]
      by_cases h3 : b ≤ a
      · rw [if_pos h3, if_pos h3]
      · rw [if_neg h3, if_neg h3]
  · rw [if_neg h1, if_neg h1]
def wk (T : TownS) (k d : Nat) : Int32 := ls (fF T k d) (fNr T k (d + 1))
/-- a tool that has no day has none anywhere -/
theorem mB_none {T : TownS} (ok : tOk T) {k d : Nat} (hn : ∀ j, j < 12 → mB T k (d + j) = false) : ∀ x, mB T k x = false := by
  obtain ⟨hr, h1, h2⟩ := rN_ok ok
  have key : ∀ p, p < rN T → bt (tDays T k) p = false := by
    intro p hp
    have hl := Nat.mod_lt d (show 0 < rN T by omega)
    by_cases hc : d % rN T ≤ p
    · have q := hn (p - d % rN T) (by omega)
      unfold mB at q
      have e := Nat.div_add_mod d (rN T)
      have e2 : (d + (p - d % rN T)) % rN T = p := by
        have : d + (p - d % rN T) = p + rN T * (d / rN T) := by omega
        rw [this, Nat.add_mul_mod_self_left, Nat.mod_eq_of_lt hp]
      rw [e2] at q; exact q
    · have q := hn (p + rN T - d % rN T) (by omega)
      unfold mB at q
      have e := Nat.div_add_mod d (rN T)
      have e2 : (d + (p + rN T - d % rN T)) % rN T = p := by
        have : d + (p + rN T - d % rN T) = p + rN T * (d / rN T + 1) := by
          have := Nat.mul_succ (rN T) (d / rN T)
          have : rN T * (d / rN T + 1) = rN T * (d / rN T) + rN T := this
          omega
        rw [this, Nat.add_mul_mod_self_left, Nat.mod_eq_of_lt hp]
      rw [e2] at q; exact q
  intro x
  exact key (x % rN T) (Nat.mod_lt x (by omega))
theorem nI_nn {n : Nat} (h : n < 100000) : (0 : Int32) ≤ nI n := nI_pos' (by omega)
theorem nI_nneg {n : Nat} (h : n < 100000) : ¬ nI n < 0 := nI_pos (by omega)
theorem nI_ne1 {n : Nat} (h : n < 100000) : nI n ≠ -1 := by
  intro q
  rw [i_eq, i_nI (by omega), tm1] at q
  omega
theorem ls_m1 {a : Int32} (h : a = -1 ∨ 0 ≤ a) : ls a (-1) = a := by
  unfold ls
  rcases h with rfl | h
  · rw [if_neg (by decide)]
  · rw [if_pos h, if_pos (by decide)]
theorem x_walked {u : XS} (ok : tOk (xT u)) {k d : Nat} (hk : k < 8) (hd : d < 40000) : f_X0_walkedFrom (nI k) (nI d) u = some (wk (xT u) k d, u) := by
  unfold f_X0_walkedFrom
  rw [x_fd0 ok hk (by omega), bnd_some]
  have c1 := ff_cases (mB (xT u) k) d 12
  have hf : fF (xT u) k d = -1 ∨ 0 ≤ fF (xT u) k d := by
    rcases c1 with ⟨h, -⟩ | ⟨j, hj, h, -⟩
    · exact Or.inl h
    · right; show 0 ≤ ff _ _ _; rw [h]; exact nI_nn (by omega)
  by_cases hn : (0 : Int32) ≤ tNear (xT u)
  · have hn2 : ¬ tNear (xT u) < 0 := by rw [i_lt]; rw [i_le] at hn; omega
    have h0 : 0 ≤ (tNear (xT u)).toInt := by rw [i_le] at hn; simpa using hn
    have e2 : tNear (xT u) = nI (nN (xT u)) := i_of h0
    have hb := ok.2.1
    have hc := i_cl h0
    rw [if_pos hn, e2, nI_s1, x_fd ok hk (by omega) (by unfold nN; omega), bnd_some]
    unfold wk fNr
    rw [if_neg hn2]
    congr 2
    rcases c1 with ⟨h, h'⟩ | ⟨j, hj, h, hj2, -⟩
    · have all := mB_none ok h'
      have e3 : ff (fun x => mB (xT u) k (x + nN (xT u))) (d + 1) 12 = -1 := ff_none _ _ (fun j _ => all _)
      rw [e3, show fF (xT u) k d = -1 from h]
      rfl
    · rcases ff_cases (fun x => mB (xT u) k (x + nN (xT u))) (d + 1) 12 with ⟨g, g'⟩ | ⟨i, hi, g, -⟩
      · exfalso
        have all := mB_none ok (d := d + 1 + nN (xT u)) (fun j hj => by rw [show d + 1 + nN (xT u) + j = d + 1 + j + nN (xT u) by omega]; exact g' j hj)
        rw [all] at hj2; cases hj2
      · rw [g, show fF (xT u) k d = nI (d + j) from h]
        unfold ls
        rw [if_pos (nI_nn (by omega)), if_neg (nI_nneg (by omega))]
        by_cases hq : d + 1 + i < d + j
        · rw [if_pos (nI_lt hq (by omega)), if_pos (nI_le (by omega) (by omega))]
        · rw [if_neg (nI_nlt (by omega) (by omega))]
          by_cases hq2 : d + 1 + i = d + j
          · rw [hq2, if_pos (Int32.le_refl _)]
          · rw [if_neg (nI_ge (by omega) (by omega))]
  · rw [if_neg hn]
    have hn2 : tNear (xT u) < 0 := by rw [i_lt]; rw [i_le] at hn; omega
    unfold wk fNr
    rw [if_pos hn2, ls_m1 hf]
theorem x_isSooner (u : XS) (a b : Int32) : f_X6_isSooner a b u = some (if ¬ a < 0 ∧ (b < 0 ∨ a < b) then 1 else 0, u) := by
  unfold f_X6_isSooner
  by_cases h1 : a < 0
  · rw [if_pos h1, if_neg (fun q => q.1 h1)]
  · rw [if_neg h1]
    by_cases h2 : b < 0
    · rw [if_pos h2, if_pos ⟨h1, Or.inl h2⟩]
    · rw [if_neg h2]
      by_cases h3 : b ≤ a
      · rw [if_pos h3, if_neg]
        rintro ⟨-, q | q⟩
        · exact h2 q
        · rw [i_lt] at q; rw [i_le] at h3; omega
      · rw [if_neg h3, if_pos ⟨h1, Or.inr (by rw [i_lt]; rw [i_le] at h3; omega)⟩]
def pl (T : TownS) (k i d : Nat) : Int32 := if i = 0 then fF T k d else fF T k (d + 1)
/-- the tool of a step -/
def tl (T : TownS) (t i : Nat) : Nat := (tNums T (t * 24 + i * 3)).toNatClampNeg
/-- NEXT of a step behind a day -/
def nx (T : TownS) (t i d : Nat) : Int32 :=
  if tKinds T t = 1 then fF T (tl T t i) d
  else if tKinds T t = 2 then (if i = 0 then fF T (tl T t i) (bg T d) else pl T (tl T t i) i d)
  else if tKinds T t = 3 then (if i = 0 then pl T (tl T t i) i d else if tl T t (i - 1) = tl T t i then nI d else pl T (tl T t i) i d)
  else if tKinds T t = 4 then wk T (tl T t i) d
  else if tKinds T t = 5 then (if nI i = tCounts T t - 1 then ls (wk T (tl T t i) d) (nI (bg T d)) else wk T (tl T t i) d)
  else if tKinds T t = 6 then (if i = 0 then pl T (tl T t i) i d else fF T (tl T t i) (d + 2))
  else pl T (tl T t i) i d
/-- a step that there is -/
def isS (T : TownS) (t i : Nat) : Prop := (t : Int) < (tThings T).toInt ∧ (i : Int) < (tCounts T t).toInt
theorem isS_ok {T : TownS} (ok : tOk T) {t i : Nat} (h : isS T t i) : t < 8 ∧ i < 8 ∧ tl T t i < 8 ∧ tNums T (t * 24 + i * 3) = nI (tl T t i) := by
  have h1 := ok.2.2.2.1
  have h2 := ok.2.2.2.2.2.2.2.1 t h.1
  have h3 := ok.2.2.2.2.2.2.2.2.1 t i h.1 h.2
  have h4 := ok.2.2.1
  obtain ⟨g1, g2⟩ := h
  have e := i_cl h3.1.1
  have q := h3.1.2
  refine ⟨by omega, by omega, ?_, i_of h3.1.1⟩
  unfold tl
  omega
theorem isS_pred {T : TownS} {t i : Nat} (h : isS T t (i + 1)) : isS T t i := ⟨h.1, by have := h.2; omega⟩
theorem x_num0 {u : XS} (ok : tOk (xT u)) {t i : Nat} (h : isS (xT u) t i) : f_X5_stepNumber (nI t) (nI i) 0 u = some (nI (tl (xT u) t i), u) := by
  obtain ⟨h1, h2, h3, h4⟩ := isS_ok ok h
  rw [← h4]
  exact x_num u (w := 0) h1 h2 (by omega)
theorem m_of0 {u : MS} (ok : tOk (dc (m_m u))) {t i : Nat} (h : isS (dc (m_m u)) t i) : f_X7_of (nI t) (nI i) 0 u = some (nI (tl (dc (m_m u)) t i), u) := by
  obtain ⟨h1, h2, h3, h4⟩ := isS_ok ok h
  rw [← h4]
  exact m_of u (w := 0) h1 h2 (by omega)
theorem x_planned {u : XS} (ok : tOk (xT u)) {k i d : Nat} (hk : k < 8) (hi : i < 8) (hd : d < 40000) : f_X0_plannedFrom (nI k) (nI i) (nI d) u = some (pl (xT u) k i d, u) := by
  unfold f_X0_plannedFrom pl
  by_cases h : i = 0
  · rw [if_pos h, if_pos (by rw [h]; rfl), x_fd0 ok hk (by omega), bnd_some]
  · rw [if_neg h, if_neg (nI_ne0 (by omega) (by omega)), nI_s1, x_fd0 ok hk (by omega), bnd_some]
theorem ls_best {a b : Int32} (ha : a = -1 ∨ 0 ≤ a) (hb : 0 ≤ b) : (if ¬ b < 0 ∧ (a < 0 ∨ b < a) then b else a) = ls a b := by
  unfold ls
  have hb2 : ¬ b < 0 := by rw [i_lt]; rw [i_le] at hb; omega
  rcases ha with rfl | ha
  · rw [if_pos ⟨hb2, Or.inl (by decide)⟩, if_neg (by decide)]
  · have ha2 : ¬ a < 0 := by rw [i_lt]; rw [i_le] at ha; omega
    rw [if_pos ha, if_neg hb2]
    by_cases h : b < a
    · rw [if_pos ⟨hb2, Or.inr h⟩, if_pos (by rw [i_le]; rw [i_lt] at h; omega)]
    · rw [if_neg (by rintro ⟨-, q | q⟩; exact ha2 q; exact h q)]
      by_cases h2 : b ≤ a
      · rw [if_pos h2]
        rw [i_eq]; rw [i_lt] at h; rw [i_le] at h2; omega
      · rw [if_neg h2]
theorem fF_rng (T : TownS) (k d : Nat) : fF T k d = -1 ∨ ∃ x, fF T k d = nI x ∧ d ≤ x ∧ x < d + 12 := by
  rcases ff_cases (mB T k) d 12 with ⟨h, -⟩ | ⟨j, hj, h, -⟩
  · exact Or.inl h
  · exact Or.inr ⟨d + j, h, by omega, by omega⟩
theorem fNr_rng (T : TownS) (k d : Nat) : fNr T k d = -1 ∨ ∃ x, fNr T k d = nI x ∧ d ≤ x ∧ x < d + 12 := by
  unfold fNr
  by_cases h : tNear T < 0
  · rw [if_pos h]; exact Or.inl rfl
  · rw [if_neg h]
    rcases ff_cases (fun x => mB T k (x + nN T)) d 12 with ⟨h, -⟩ | ⟨j, hj, h, -⟩
    · exact Or.inl h
    · exact Or.inr ⟨d + j, h, by omega, by omega⟩
theorem ls_rng {a b : Int32} {lo hi : Nat} (hh : hi < 100000) (ha : a = -1 ∨ ∃ x, a = nI x ∧ lo ≤ x ∧ x < hi) (hb : b = -1 ∨ ∃ x, b = nI x ∧ lo ≤ x ∧ x < hi) : ls a b = -1 ∨ ∃ x, ls a b = nI x ∧ lo ≤ x ∧ x < hi := by
  unfold ls
  rcases ha with rfl | ⟨x, rfl, h1, h2⟩
  · rw [if_neg (by decide)]; exact hb
  · rw [if_pos (nI_nn (by omega))]
    by_cases g1 : b < 0
    · rw [if_pos g1]; exact Or.inr ⟨x, rfl, h1, h2⟩
    · rw [if_neg g1]
      by_cases g2 : b ≤ nI x
      · rw [if_pos g2]; exact hb
      · rw [if_neg g2]; exact Or.inr ⟨x, rfl, h1, h2⟩
theorem wk_rng (T : TownS) (k : Nat) {d : Nat} (hd : d < 40000) : wk T k d = -1 ∨ ∃ x, wk T k d = nI x ∧ d ≤ x ∧ x < d + 13 := by
  refine ls_rng (by omega) ?_ ?_
  · rcases fF_rng T k d with h | ⟨x, h, h1, h2⟩
    · exact Or.inl h
    · exact Or.inr ⟨x, h, h1, by omega⟩
  · rcases fNr_rng T k (d + 1) with h | ⟨x, h, h1, h2⟩
    · exact Or.inl h
    · exact Or.inr ⟨x, h, by omega, by omega⟩
theorem rng_nn {a : Int32} {lo hi : Nat} (hh : hi < 100000) (ha : a = -1 ∨ ∃ x, a = nI x ∧ lo ≤ x ∧ x < hi) : a = -1 ∨ 0 ≤ a := by
  rcases ha with h | ⟨x, rfl, h1, h2⟩
  · exact Or.inl h
  · exact Or.inr (nI_nn (by omega))
theorem x_bestOf {u : XS} (ok : tOk (xT u)) {a : Int32} {d : Nat} (ha : a = -1 ∨ 0 ≤ a) (hd : d < 40000) : f_X0_bestOf a (nI d) 1 u = some (ls a (nI (bg (xT u) d)), u) := by
  obtain ⟨hr, h1, h2⟩ := rN_ok ok
  have hb := bg_le h1 h2 d
  unfold f_X0_bestOf
  rw [x_zero ok (by omega), bnd_some, if_neg (by decide), x_isSooner, bnd_some]
  rw [← ls_best ha (nI_nn (n := bg (xT u) d) (by omega))]
  simp only [ite01]
  by_cases h : ¬ nI (bg (xT u) d) < 0 ∧ (a < 0 ∨ nI (bg (xT u) d) < a)
  · rw [if_neg (not_not_intro h), if_pos h]
  · rw [if_pos h, if_neg h]
theorem x_bestOf0 {u : XS} (ok : tOk (xT u)) {a : Int32} {d : Nat} (hd : d < 40000) : f_X0_bestOf a (nI d) 0 u = some (a, u) := by
  unfold f_X0_bestOf
  rw [x_zero ok (by omega), bnd_some, if_pos rfl]
set_option maxHeartbeats 1000000 in
theorem x_next {u : XS} (ok : tOk (xT u)) {t i d : Nat} (h : isS (xT u) t i) (hd : d < 30000) : f_X0_dayBehind (nI t) (nI i) (nI d) u = some (nx (xT u) t i d, u) := by
  obtain ⟨h1, h2, h3, h4⟩ := isS_ok ok h
  obtain ⟨hr, hr1, hr2⟩ := rN_ok ok
  have hb := bg_le hr1 hr2 d
  unfold f_X0_dayBehind nx
  rw [x_num0 ok h, bnd_some, ck_nI h1 (by omega), cl_nI (by omega)]
  simp only [nmv]
  by_cases k1 : tKinds (xT u) t = 1
  · rw [if_pos k1, if_pos k1, x_fd0 ok h3 (by omega), bnd_some]
  rw [if_neg k1, if_neg k1]
  by_cases k2 : tKinds (xT u) t = 2
  · rw [if_pos k2, if_pos k2]
    by_cases hi : i = 0
    · rw [if_pos hi, if_pos (by rw [hi]; rfl), x_zero ok (by omega), bnd_some, x_fd0 ok h3 (by omega), bnd_some]
    · rw [if_neg hi, if_neg (nI_ne0 (by omega) (by omega)), x_planned ok h3 h2 (by omega), bnd_some]
  rw [if_neg k2, if_neg k2]
  by_cases k3 : tKinds (xT u) t = 3
  · rw [if_pos k3, if_pos k3]
    by_cases hi : i = 0
    · rw [if_pos hi, if_pos (by rw [hi]; decide), x_planned ok h3 h2 (by omega), bnd_some]
    · rw [if_neg hi, if_neg (nI_nle (by omega) (by omega))]
      have hp : isS (xT u) t (i - 1) := isS_pred (by rw [show i - 1 + 1 = i by omega]; exact h)
      rw [show nI i - 1 = nI (i - 1) from pk_sub (b := 1) (by omega), x_num0 ok hp, bnd_some]
      obtain ⟨-, -, g3, -⟩ := isS_ok ok hp
      by_cases e : tl (xT u) t (i - 1) = tl (xT u) t i
      · rw [if_pos e, if_pos (by rw [e])]
      · rw [if_neg e, if_neg (fun q => e ((nI_eq (by omega) (by omega)).mp q)), x_planned ok h3 h2 (by omega), bnd_some]
  rw [if_neg k3, if_neg k3]
  by_cases k4 : tKinds (xT u) t = 4
  · rw [if_pos k4, if_pos k4, x_walked ok h3 (by omega), bnd_some]
  rw [if_neg k4, if_neg k4]
  by_cases k5 : tKinds (xT u) t = 5
  · rw [if_pos k5, if_pos k5, x_walked ok h3 (by omega), bnd_some, if_neg (show ¬ (nI t < 0 ∨ 8 ≤ t) by rintro (q | q); exact nI_nneg (by omega) q; omega)]
    by_cases e : nI i = tCounts (xT u) t - 1
    · rw [if_pos e, if_pos e, x_bestOf ok (rng_nn (by omega) (wk_rng _ _ (by omega))) (by omega), bnd_some]
    · rw [if_neg e, if_neg e, x_bestOf0 ok (by omega), bnd_some]
  rw [if_neg k5, if_neg k5]
  by_cases k6 : tKinds (xT u) t = 6
  · rw [if_pos k6, if_pos k6]
    by_cases hi : i = 0
    · rw [if_pos hi, if_pos (by rw [hi]; rfl), x_planned ok h3 h2 (by omega), bnd_some]
    · rw [if_neg hi, if_neg (nI_ne0 (by omega) (by omega)), nI_s1, x_planned ok h3 h2 (by omega), bnd_some]
      unfold pl
      rw [if_neg hi]
  rw [if_neg k6, if_neg k6, x_planned ok h3 h2 (by omega), bnd_some]
set_option maxHeartbeats 1000000 in
theorem m_next {u : MS} (ok : tOk (dc (m_m u))) {t i d : Nat} (h : isS (dc (m_m u)) t i) (hd : d < 30000) : f_X7_nextOf (nI t) (nI i) (nI d) u = some (nx (dc (m_m u)) t i d, u) := by
  obtain ⟨h1, h2, h3, h4⟩ := isS_ok ok h
  obtain ⟨hr, hr1, hr2⟩ := rN_ok ok
  have hb := bg_le hr1 hr2 d
  have go : f_X7_nextOf (nI t) (nI i) (nI d) u = f_X7_nextOf_23 (nI t) (nI i) (nI d) (nI (tl (dc (m_m u)) t i)) (nI (tl (dc (m_m u)) t i)) (nI (if i = 0 then d else d + 1)) u := by
    unfold f_X7_nextOf
    rw [m_of0 ok h, bnd_some]
    by_cases hi : i = 0
    · rw [if_pos hi, if_pos (by rw [hi]; rfl)]
    · rw [if_neg hi, if_neg (nI_ne0 (by omega) (by omega)), nI_s1]
  rw [go]
  unfold f_X7_nextOf_23
  have epl : fF (dc (m_m u)) (tl (dc (m_m u)) t i) (if i = 0 then d else d + 1) = pl (dc (m_m u)) (tl (dc (m_m u)) t i) i d := by
    unfold pl
    by_cases hi : i = 0
    · rw [if_pos hi, if_pos hi]
    · rw [if_neg hi, if_neg hi]
  rw [m_firstFrom ok h3 (by split <;> omega), bnd_some, m_firstFrom ok h3 (by omega), bnd_some, nI_s1, m_firstNear ok h3 (by omega), bnd_some, m_lesser, bnd_some, m_kindOf u h1, bnd_some, epl]
  unfold nx
  by_cases k1 : tKinds (dc (m_m u)) t = 1
  · rw [if_pos k1, if_pos k1, m_firstFrom ok h3 (by omega), bnd_some]
  rw [if_neg k1, if_neg k1]
  by_cases k2 : tKinds (dc (m_m u)) t = 2
  · rw [if_pos k2, if_pos k2]
    by_cases hi : i = 0
    · rw [if_pos hi, if_pos (by rw [hi]; rfl), m_begin ok (by omega), bnd_some, m_firstFrom ok h3 (by omega), bnd_some]
    · rw [if_neg hi, if_neg (nI_ne0 (by omega) (by omega))]
  rw [if_neg k2, if_neg k2]
  by_cases k3 : tKinds (dc (m_m u)) t = 3
  · rw [if_pos k3, if_pos k3]
    by_cases hi : i = 0
    · rw [if_pos hi, if_pos (by rw [hi]; decide)]
    · rw [if_neg hi, if_neg (nI_nle (by omega) (by omega))]
      have hp : isS (dc (m_m u)) t (i - 1) := isS_pred (by rw [show i - 1 + 1 = i by omega]; exact h)
      rw [show nI i - 1 = nI (i - 1) from pk_sub (b := 1) (by omega), m_of0 ok hp, bnd_some]
      obtain ⟨-, -, g3, -⟩ := isS_ok ok hp
      by_cases e : tl (dc (m_m u)) t (i - 1) = tl (dc (m_m u)) t i
      · rw [if_pos e, if_pos (by rw [e])]
      · rw [if_neg e, if_neg (fun q => e ((nI_eq (by omega) (by omega)).mp q))]
  rw [if_neg k3, if_neg k3]
  by_cases k4 : tKinds (dc (m_m u)) t = 4
  · rw [if_pos k4, if_pos k4]; rfl
  rw [if_neg k4, if_neg k4]
  by_cases k5 : tKinds (dc (m_m u)) t = 5
  · rw [if_pos k5, if_pos k5, m_steps u h1, bnd_some]
    by_cases e : nI i = tCounts (dc (m_m u)) t - 1
    · rw [if_pos e, if_pos e, m_begin ok (by omega), bnd_some, m_lesser, bnd_some]; rfl
    · rw [if_neg e, if_neg e]; rfl
  rw [if_neg k5, if_neg k5]
  by_cases k6 : tKinds (dc (m_m u)) t = 6
  · rw [if_pos k6, if_pos k6]
    by_cases hi : i = 0
    · rw [if_pos hi, if_pos (by rw [hi]; rfl)]
    · rw [if_neg hi, if_neg (nI_ne0 (by omega) (by omega)), n2, nI_add, m_firstFrom ok h3 (by omega), bnd_some]
  rw [if_neg k6, if_neg k6]
