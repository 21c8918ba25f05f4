/-! most, chokes -/
/-- how many of the lowest n bits -/
def cf (a : Int32) : Nat → Nat
  | 0 => 0
  | n + 1 => if bt a n = true then cf a n + 1 else cf a n
theorem cf_s (a : Int32) (n : Nat) : cf a (n + 1) = if bt a n = true then cf a n + 1 else cf a n := rfl
theorem cf_le (a : Int32) : ∀ n, cf a n ≤ n := by
  intro n
  induction n with
  | zero => exact Nat.le_refl _
  | succ n ih => rw [cf_s]; split <;> omega
/-- the library's count of bits, as it counts -/
def bc (a0 : Int32) : Int32 :=
  let x1 := a0 - (((a0.toUInt32 >>> ((1 : Int32).toUInt32 &&& Int32.toUInt32 31)).toInt32) &&& (1431655765 : Int32))
  let x2 := (x1 &&& (858993459 : Int32)) + (((x1.toUInt32 >>> ((2 : Int32).toUInt32 &&& Int32.toUInt32 31)).toInt32) &&& (858993459 : Int32))
  let x3 := (x2 + ((x2.toUInt32 >>> ((4 : Int32).toUInt32 &&& Int32.toUInt32 31)).toInt32)) &&& (252645135 : Int32)
  let x4 := x3 + ((x3.toUInt32 >>> ((8 : Int32).toUInt32 &&& Int32.toUInt32 31)).toInt32)
  let x5 := x4 + ((x4.toUInt32 >>> ((16 : Int32).toUInt32 &&& Int32.toUInt32 31)).toInt32)
  x5 &&& (63 : Int32)
theorem x_bc (a : Int32) (u : XS) : f_J6_bitCount_0f7a4 a u = some (bc a, u) := rfl
theorem bc_all : ∀ h, h < 64 → ∀ l, l < 64 → bc (nI (64 * h + l)) = nI (cf (nI (64 * h + l)) 12) := by decide +kernel
theorem bc_cf {w : Nat} (h : w < 4096) : bc (nI w) = nI (cf (nI w) 12) := by
  have := bc_all (w / 64) (by omega) (w % 64) (by omega)
  rwa [show 64 * (w / 64) + w % 64 = w by omega] at this
theorem cf_mask (a : Int32) {R : Nat} (hR : R < 13) : ∀ n, n ≤ 12 → cf (a &&& (((1 : Int32) <<< (nI R &&& 31)) - 1)) n = cf a (if n ≤ R then n else R) := by
  intro n
  induction n with
  | zero => intro _; rw [if_pos (by omega)]; rfl
  | succ n ih =>
    intro hn
    rw [cf_s, ih (by omega), b_and, b_mask R hR n (by omega)]
    by_cases h : n < R
    · rw [decide_eq_true h, Bool.and_true, if_pos (show n ≤ R by omega), if_pos (show n + 1 ≤ R by omega), cf_s]
    · rw [decide_eq_false h, Bool.and_false, if_neg (by decide), if_neg (show ¬ n + 1 ≤ R by omega)]
      by_cases h2 : n ≤ R
      · rw [if_pos h2, show n = R by omega]
      · rw [if_neg h2]
theorem bc_mask (a : Int32) {R : Nat} (hR : R < 13) : bc (a &&& (((1 : Int32) <<< (nI R &&& 31)) - 1)) = nI (cf a R) := by
  obtain ⟨k, e, hk⟩ := b_low (x := a &&& (((1 : Int32) <<< (nI R &&& 31)) - 1)) (n := 12) (fun i h1 h2 => by
    rw [b_and, b_mask R hR i h2, decide_eq_false (by omega), Bool.and_false])
  have h2 := cf_mask a hR 12 (by omega)
  rw [e] at h2 ⊢
  rw [bc_cf (by omega), h2]
  by_cases h : 12 ≤ R
  · rw [if_pos h, show 12 = R by omega]
  · rw [if_neg h]
/-- how many of a thing a tool lets come in a round -/
def mo (T : TownS) (t k : Nat) : Nat := 8 * cf (tDays T k) (rN T) / hw T t k
theorem mo_le {T : TownS} (ok : tOk T) (t k : Nat) : mo T t k ≤ 96 := by
  obtain ⟨hr, r1, r2⟩ := rN_ok ok
  have := cf_le (tDays T k) (rN T)
  have : mo T t k ≤ 8 * cf (tDays T k) (rN T) := Nat.div_le_self _ _
  omega
theorem x_mostBy {u : XS} (ok : tOk (xT u)) {t k : Nat} (ht : (t : Int) < (tThings (xT u)).toInt) (hk : k < 8) (h0 : hw (xT u) t k ≠ 0) : f_X5_mostBy (nI t) (nI k) u = some (nI (mo (xT u) t k), u) := by
  obtain ⟨hr, r1, r2⟩ := rN_ok ok
  have h64 := hw_lt ok k ht
  have hc := cf_le (tDays (xT u) k) (rN (xT u))
  unfold f_X5_mostBy f_X5_wholeRound
  rw [x_hours ok ht hk, bnd_some, if_pos (show (0 : Int32) < nI (hw (xT u) t k) from nI_lt (a := 0) (by omega) (by omega)), ck_nI hk (by omega), cl_nI (by omega), bnd_some, x_bc, bnd_some, hr, bc_mask _ (by omega), nmv, ck_nz (by rw [i_nI (by omega)]; omega), n8, pk_mul, pk_div (by omega) (by omega) (by omega)]
  rfl
theorem m_mostOf {u : MS} (ok : tOk (dc (m_m u))) {t k : Nat} (ht : (t : Int) < (tThings (dc (m_m u))).toInt) (hk : k < 8) : f_X7_mostOf (nI t) (nI k) u = some (if hw (dc (m_m u)) t k = 0 then -1 else nI (mo (dc (m_m u)) t k), u) := by
  obtain ⟨hr, r1, r2⟩ := rN_ok ok
  obtain ⟨c1, c2, c3, c4⟩ := sc_ok ok ht
  have h64 := hw_lt ok k ht
  have hr0 : m_m u 0 = nI (rN (dc (m_m u))) := hr
  have hd : tDays (dc (m_m u)) k = m_m u (6 + k) := by rw [dc_Days, if_pos hk]
  have hc := cf_le (tDays (dc (m_m u)) k) (rN (dc (m_m u)))
  have e1 : wl f_X7_mostOf_L5_5s (nI t, nI k, (0 : Int32), (0 : Int32), u) = some (.inr (nI k, nI (hw (dc (m_m u)) t k), u)) := by
    refine wl_for' (fun i => (nI t, nI k, nI (hn (dc (m_m u)) t k i), nI i, u)) (sc (dc (m_m u)) t) rfl ?_ ?_
    · intro i hi
      have hs := isS_of ok ht hi
      obtain ⟨g1, g2, g3, g4⟩ := isS_ok ok hs
      have hn1 : hn (dc (m_m u)) t k (i + 1) = if tl (dc (m_m u)) t i = k then hn (dc (m_m u)) t k i + ho (dc (m_m u)) t i else hn (dc (m_m u)) t k i := rfl
      show f_X7_mostOf_L5_5 (nI t) (nI k) (nI (hn (dc (m_m u)) t k i)) (nI i) u = some (.inl (nI t, nI k, nI (hn (dc (m_m u)) t k (i + 1)), nI (i + 1), u))
      unfold f_X7_mostOf_L5_5
      rw [m_steps _ c1, bnd_some, c2, if_neg (nI_ge hi (by omega)), m_of0 ok hs, bnd_some, hn1]
      by_cases c : tl (dc (m_m u)) t i = k
      · rw [if_pos (by rw [c]), m_of1 ok hs, bnd_some, nmv, nmv, if_pos c, nI_add, nI_s1]
      · rw [if_neg (fun q => c ((nI_eq (by omega) (by omega)).mp q)), nmv, nmv, if_neg c, nI_s1, Int32.add_zero]
    · show f_X7_mostOf_L5_5 (nI t) (nI k) (nI (hn (dc (m_m u)) t k (sc (dc (m_m u)) t))) (nI (sc (dc (m_m u)) t)) u = _
      unfold f_X7_mostOf_L5_5
      rw [m_steps _ c1, bnd_some, c2, if_pos (Int32.le_refl _)]
      rfl
  have e2 : wl f_X7_mostOf_L54_54s (nI k, nI (hw (dc (m_m u)) t k), (0 : Int32), (0 : Int32), u) = some (.inr (nI (hw (dc (m_m u)) t k), nI (cf (tDays (dc (m_m u)) k) (rN (dc (m_m u)))), u)) := by
    refine wl_for' (fun i => (nI k, nI (hw (dc (m_m u)) t k), nI (cf (tDays (dc (m_m u)) k) i), nI i, u)) (rN (dc (m_m u))) rfl ?_ ?_
    · intro i hi
      show f_X7_mostOf_L54_54 (nI k) (nI (hw (dc (m_m u)) t k)) (nI (cf (tDays (dc (m_m u)) k) i)) (nI i) u = some (.inl (nI k, nI (hw (dc (m_m u)) t k), nI (cf (tDays (dc (m_m u)) k) (i + 1)), nI (i + 1), u))
      unfold f_X7_mostOf_L54_54
      rw [l0, hr0, if_neg (nI_ge hi (by omega)), nmv, n6, nI_add, ck_nI (by omega) (by omega), cl_nI (by omega), ← hd, m_has _ (by omega), bnd_some, cf_s]
      by_cases c : bt (tDays (dc (m_m u)) k) i = true
      · rw [if_pos c, if_neg (by decide), if_pos c, nmv, nmv, nI_s1, nI_s1]
      · rw [if_neg c, if_pos rfl, if_neg c, nmv, nmv, nI_s1, Int32.add_zero]
    · show f_X7_mostOf_L54_54 (nI k) (nI (hw (dc (m_m u)) t k)) (nI (cf (tDays (dc (m_m u)) k) (rN (dc (m_m u))))) (nI (rN (dc (m_m u)))) u = _
      unfold f_X7_mostOf_L54_54
      rw [l0, hr0, if_pos (Int32.le_refl _)]
  unfold f_X7_mostOf
  rw [e1]
  show bne (wl f_X7_mostOf_L54_54s (nI k, nI (hw (dc (m_m u)) t k), (0 : Int32), (0 : Int32), u)) _ _ = _
  rw [e2]
  show (if nI (hw (dc (m_m u)) t k) = 0 then some ((-1 : Int32), u) else nmv ((8 : Int32) * nI (cf (tDays (dc (m_m u)) k) (rN (dc (m_m u))))) fun x12 => if nI (hw (dc (m_m u)) t k) = 0 then none else some (x12 / nI (hw (dc (m_m u)) t k), u)) = _
  by_cases h0 : hw (dc (m_m u)) t k = 0
  · rw [if_pos (by rw [h0]; rfl), if_pos h0]
  · rw [if_neg (nI_ne0 (by omega) (by omega)), if_neg h0, nmv, if_neg (nI_ne0 (by omega) (by omega)), n8, pk_mul, pk_div (by omega) (by omega) (by omega)]
    rfl
/-- CHOKES of the first k tools -/
def ch (T : TownS) (t : Nat) : Nat → Int32
  | 0 => -1
  | k + 1 => if hw T t k = 0 then ch T t k else if ch T t k < 0 then nI k else if mo T t k < mo T t (ch T t k).toNatClampNeg then nI k else ch T t k
theorem ch_s (T : TownS) (t k : Nat) : ch T t (k + 1) = if hw T t k = 0 then ch T t k else if ch T t k < 0 then nI k else if mo T t k < mo T t (ch T t k).toNatClampNeg then nI k else ch T t k := rfl
theorem ch_or (T : TownS) (t : Nat) : ∀ k, k ≤ 8 → (ch T t k = -1 ∧ ∀ j, j < k → hw T t j = 0) ∨ ∃ j, j < k ∧ ch T t k = nI j ∧ hw T t j ≠ 0 := by
  intro k
  induction k with
  | zero => intro _; exact Or.inl ⟨rfl, fun j hj => by omega⟩
  | succ k ih =>
    intro hk
    rw [ch_s]
    by_cases h0 : hw T t k = 0
    · rw [if_pos h0]
      rcases ih (by omega) with ⟨e, h⟩ | ⟨j, h1, h2, h3⟩
      · exact Or.inl ⟨e, fun j hj => by
          by_cases hj2 : j = k
          · rw [hj2]; exact h0
          · exact h j (by omega)⟩
      · exact Or.inr ⟨j, by omega, h2, h3⟩
    · rw [if_neg h0]
      right
      by_cases c1 : ch T t k < 0
      · rw [if_pos c1]; exact ⟨k, by omega, rfl, h0⟩
      · rw [if_neg c1]
        by_cases c2 : mo T t k < mo T t (ch T t k).toNatClampNeg
        · rw [if_pos c2]; exact ⟨k, by omega, rfl, h0⟩
        · rw [if_neg c2]
          rcases ih (by omega) with ⟨e, h⟩ | ⟨j, h1, h2, h3⟩
          · exact absurd (show ch T t k < 0 by rw [e]; decide) c1
          · exact ⟨j, by omega, h2, h3⟩
theorem ch_pos {T : TownS} (ok : tOk T) {t N : Nat} (ht : (t : Int) < (tThings T).toInt) (hN : tTools T = nI N) (hN8 : N ≤ 8) : ∃ j, j < N ∧ ch T t N = nI j ∧ hw T t j ≠ 0 := by
  obtain ⟨c1, c2, c3, c4⟩ := sc_ok ok ht
  rcases ch_or T t N hN8 with ⟨e, h⟩ | h
  · exfalso
    have hs := isS_of ok ht (show 0 < sc T t by omega)
    have q := (ok.2.2.2.2.2.2.2.2.1 t 0 hs.1 hs.2).1
    obtain ⟨g1, g2, g3, g4⟩ := isS_ok ok hs
    rw [g4, hN, i_nI (by omega), i_nI (by omega)] at q
    have h0 := h (tl T t 0) (by omega)
    exact hn_0 ok ht (sc T t) (Nat.le_refl _) h0 0 (by omega) rfl
  · exact h
/-- the least so far, as it is kept -/
def lk (T : TownS) (t : Nat) (c : Int32) : Int32 := if c < 0 then 0 else nI (mo T t c.toNatClampNeg)
theorem x_choke {u : XS} (ok : tOk (xT u)) {t N : Nat} (ht : (t : Int) < (tThings (xT u)).toInt) (hN : tTools (xT u) = nI N) (hN8 : N ≤ 8) : f_X5_chokingTool (nI t) u = some (ch (xT u) t N, u) := by
  have e : wl f_X5_chokingTool_L7_7s (nI t, (-1 : Int32), (0 : Int32), (0 : Int32), u) = some (.inr (ch (xT u) t N, u)) := by
    refine wl_for' (fun k => (nI t, ch (xT u) t k, lk (xT u) t (ch (xT u) t k), nI k, u)) N rfl ?_ ?_
    · intro k hk
      have h64 := hw_lt ok k ht
      have m1 := mo_le ok t k
      show f_X5_chokingTool_L7_7 (nI t) (ch (xT u) t k) (lk (xT u) t (ch (xT u) t k)) (nI k) u = some (.inl (nI t, ch (xT u) t (k + 1), lk (xT u) t (ch (xT u) t (k + 1)), nI (k + 1), u))
      unfold f_X5_chokingTool_L7_7
      rw [hN, if_neg (nI_ge hk (by omega)), x_hours ok ht (by omega), bnd_some]
      by_cases h0 : hw (xT u) t k = 0
      · rw [if_pos (by rw [h0]; rfl), nmv, nI_s1, ch_s, if_pos h0]
      · rw [if_neg (nI_ne0 (by omega) (by omega)), x_mostBy ok ht (by omega) h0, bnd_some]
        have ek : lk (xT u) t (nI k) = nI (mo (xT u) t k) := by unfold lk; rw [if_neg (nI_nneg (by omega)), cl_nI (by omega)]
        by_cases c1 : ch (xT u) t k < 0
        · rw [if_pos c1, nmv, nI_s1, ch_s, if_neg h0, if_pos c1, ek]
        · have m2 := mo_le ok t (ch (xT u) t k).toNatClampNeg
          have el : lk (xT u) t (ch (xT u) t k) = nI (mo (xT u) t (ch (xT u) t k).toNatClampNeg) := by unfold lk; rw [if_neg c1]
          rw [if_neg c1, el]
          by_cases c2 : mo (xT u) t k < mo (xT u) t (ch (xT u) t k).toNatClampNeg
          · rw [if_neg (nI_ge c2 (by omega)), nmv, nI_s1, ch_s, if_neg h0, if_neg c1, if_pos c2, ek]
          · rw [if_pos (nI_le (by omega) (by omega)), nmv, nI_s1, ch_s, if_neg h0, if_neg c1, if_neg c2, el]
    · show f_X5_chokingTool_L7_7 (nI t) (ch (xT u) t N) (lk (xT u) t (ch (xT u) t N)) (nI N) u = _
      unfold f_X5_chokingTool_L7_7
      rw [hN, if_pos (Int32.le_refl _)]
  unfold f_X5_chokingTool
  rw [e]
  rfl
theorem m_choke {u : MS} (ok : tOk (dc (m_m u))) {t N : Nat} (ht : (t : Int) < (tThings (dc (m_m u))).toInt) (hN : tTools (dc (m_m u)) = nI N) (hN8 : N ≤ 8) : f_X7_chokesAt (nI t) u = some (ch (dc (m_m u)) t N, u) := by
  have hN2 : m_m u 2 = nI N := hN
  have e : wl f_X7_chokesAt_L4_4s (nI t, (-1 : Int32), (0 : Int32), u) = some (.inr (ch (dc (m_m u)) t N, u)) := by
    refine wl_for' (fun k => (nI t, ch (dc (m_m u)) t k, nI k, u)) N rfl ?_ ?_
    · intro k hk
      have m1 := mo_le ok t k
      show f_X7_chokesAt_L4_4 (nI t) (ch (dc (m_m u)) t k) (nI k) u = some (.inl (nI t, ch (dc (m_m u)) t (k + 1), nI (k + 1), u))
      unfold f_X7_chokesAt_L4_4
      rw [l2, hN2, if_neg (nI_ge hk (by omega)), m_mostOf ok ht (by omega), bnd_some]
      by_cases h0 : hw (dc (m_m u)) t k = 0
      · rw [if_pos (show (if hw (dc (m_m u)) t k = 0 then (-1 : Int32) else nI (mo (dc (m_m u)) t k)) < 0 by rw [if_pos h0]; decide), nmv, nI_s1, ch_s, if_pos h0]
      · rw [if_neg (show ¬ (if hw (dc (m_m u)) t k = 0 then (-1 : Int32) else nI (mo (dc (m_m u)) t k)) < 0 by rw [if_neg h0]; exact nI_nneg (by omega))]
        by_cases c1 : ch (dc (m_m u)) t k < 0
        · rw [if_pos c1, nmv, nI_s1, ch_s, if_neg h0, if_pos c1]
        · rw [if_neg c1]
          rcases ch_or (dc (m_m u)) t k (by omega) with ⟨e, -⟩ | ⟨j, j1, j2, j3⟩
          · exact absurd (show ch (dc (m_m u)) t k < 0 by rw [e]; decide) c1
          · have m2 := mo_le ok t j
            rw [j2] at c1
            rw [ch_s, j2, cl_nI (by omega), m_mostOf ok ht (by omega), bnd_some, if_neg j3, if_neg h0, if_neg h0, if_neg c1]
            by_cases c2 : mo (dc (m_m u)) t k < mo (dc (m_m u)) t j
            · rw [if_neg (nI_ge c2 (by omega)), nmv, nI_s1, if_pos c2]
            · rw [if_pos (nI_le (by omega) (by omega)), nmv, nI_s1, if_neg c2]
    · show f_X7_chokesAt_L4_4 (nI t) (ch (dc (m_m u)) t N) (nI N) u = _
      unfold f_X7_chokesAt_L4_4
      rw [l2, hN2, if_pos (Int32.le_refl _)]
  unfold f_X7_chokesAt
  rw [e]
  rfl
theorem op_chokes {σ : XS} {τ : MS} (h : Rel σ τ) (a : Int32) : Op (f_X6_chokes a σ) (f_X7_chokes a τ) := by
  obtain ⟨hT, ok, hr⟩ := id h
  have okx : tOk (xT σ) := by rw [hT]; exact ok
  unfold f_X6_chokes f_X7_chokes
  rw [x_hasThing okx, m_isThing ok, bnd_some, bnd_some, hT]
  simp only [ite01, fx_0, fm_0, bnd_some]
  by_cases h1 : pThing (dc (m_m τ)) a
  · rw [if_neg (not_not_intro h1), if_neg (not_not_intro h1)]
    obtain ⟨p1, p2⟩ := h1
    obtain ⟨t, rfl, ht, ht2⟩ := i_ex p1
    have hs : (t : Int) < (tThings (dc (m_m τ))).toInt := by omega
    have o3 := ok.2.2.1
    obtain ⟨N, hN, hN1, -⟩ := i_ex (x := tTools (dc (m_m τ))) (by omega)
    rw [x_choke okx (N := N) (by rw [hT]; exact hs) (by rw [hT]; exact hN) (by omega), m_choke ok hs hN (by omega), bnd_some, bnd_some, hT]
    exact Op.mk' h
  · rw [if_pos h1, if_pos h1]; exact Op.mk' (h.fd (by decide))
theorem op_most {σ : XS} {τ : MS} (h : Rel σ τ) (a : Int32) : Op (f_X6_most a σ) (f_X7_most a τ) := by
  obtain ⟨hT, ok, hr⟩ := id h
  have okx : tOk (xT σ) := by rw [hT]; exact ok
  unfold f_X6_most f_X7_most
  rw [x_hasThing okx, m_isThing ok, bnd_some, bnd_some, hT]
  simp only [ite01, fx_0, fm_0, bnd_some]
  by_cases h1 : pThing (dc (m_m τ)) a
  · rw [if_neg (not_not_intro h1), if_neg (not_not_intro h1)]
    obtain ⟨p1, p2⟩ := h1
    obtain ⟨t, rfl, ht, ht2⟩ := i_ex p1
    have hs : (t : Int) < (tThings (dc (m_m τ))).toInt := by omega
    have hsx : (t : Int) < (tThings (xT σ)).toInt := by rw [hT]; exact hs
    have o3 := ok.2.2.1
    obtain ⟨N, hN, hN1, -⟩ := i_ex (x := tTools (dc (m_m τ))) (by omega)
    obtain ⟨j, j1, j2, j3⟩ := ch_pos ok hs hN (by omega)
    rw [x_choke okx (N := N) hsx (by rw [hT]; exact hN) (by omega), m_choke ok hs hN (by omega), bnd_some, bnd_some, hT, j2, if_pos (nI_nn (by omega)), x_mostBy okx hsx (by omega) (by rw [hT]; exact j3), m_mostOf ok hs (by omega), bnd_some, bnd_some, if_neg j3, hT]
    exact Op.mk' h
  · rw [if_pos h1, if_pos h1]; exact Op.mk' (h.fd (by decide))
/-! idle -/
/-- days of the first k tools of a set -/
def ud (a : Int32) (D : Fn) : Nat → Int32
  | 0 => 0
  | k + 1 => if bt a k = true then ud a D k ||| D k else ud a D k
theorem ud_s (a : Int32) (D : Fn) (k : Nat) : ud a D (k + 1) = if bt a k = true then ud a D k ||| D k else ud a D k := rfl
theorem and_m1 (x : Int32) : x &&& (-1) = x := by
  refine b_ext (fun i hi => ?_)
  rw [b_and, b_m1 i hi, Bool.and_true]
theorem and_not (m x y : Int32) : (m &&& (x ^^^ (-1))) &&& (y ^^^ (-1)) = m &&& ((x ||| y) ^^^ (-1)) := by
  refine b_ext (fun i hi => ?_)
  rw [b_and, b_and, b_and, b_xor, b_xor, b_xor, b_or, b_m1 i hi]
  cases bt m i <;> cases bt x i <;> cases bt y i <;> rfl
theorem not_0 (m : Int32) : m &&& ((0 : Int32) ^^^ (-1)) = m := by
  refine b_ext (fun i hi => ?_)
  rw [b_and, b_xor, b_0, b_m1 i hi]
  cases bt m i <;> rfl
theorem op_idle {σ : XS} {τ : MS} (h : Rel σ τ) (a : Int32) : Op (f_X6_idle a σ) (f_X7_idle a τ) := by
  obtain ⟨hT, ok, hr⟩ := id h
  have o3 := ok.2.2.1
  obtain ⟨N, hN, hN1, -⟩ := i_ex (x := tTools (dc (m_m τ))) (by omega)
  have hN2 : m_m τ 2 = nI N := hN
  have hNx : tTools (xT σ) = nI N := by rw [hT]; exact hN
  have hN8 : N ≤ 8 := by omega
  have ex : wl f_X6_idle_L29_29s (a, (0 : Int32), (0 : Int32), σ) = some (.inr (ud a (tDays (dc (m_m τ))) N, σ)) := by
    refine wl_for' (fun k => (a, ud a (tDays (dc (m_m τ))) k, nI k, σ)) N rfl ?_ ?_
    · intro k hk
      show f_X6_idle_L29_29 a (ud a (tDays (dc (m_m τ))) k) (nI k) σ = some (.inl (a, ud a (tDays (dc (m_m τ))) (k + 1), nI (k + 1), σ))
      unfold f_X6_idle_L29_29
      rw [hNx, if_neg (nI_ge hk (by omega)), bit_and _ (by omega), ud_s]
      by_cases c : bt a k = true
      · rw [if_pos c, if_neg (by decide), if_pos c, ck_nI (by omega) (by omega), cl_nI (by omega), nmv, nmv, nI_s1, hT]
      · rw [if_neg c, if_pos rfl, if_neg c, nmv, nI_s1]
    · show f_X6_idle_L29_29 a (ud a (tDays (dc (m_m τ))) N) (nI N) σ = _
      unfold f_X6_idle_L29_29
      rw [hNx, if_pos (Int32.le_refl _)]
  have em : wl f_X7_idle_L40_40s (a, ((1 : Int32) <<< (tRound (dc (m_m τ)) &&& 31)) - (1 : Int32), (0 : Int32), τ) = some (.inr ((((1 : Int32) <<< (tRound (dc (m_m τ)) &&& 31)) - (1 : Int32)) &&& (ud a (tDays (dc (m_m τ))) N ^^^ (-1)), τ)) := by
    refine wl_for' (fun k => (a, (((1 : Int32) <<< (tRound (dc (m_m τ)) &&& 31)) - (1 : Int32)) &&& (ud a (tDays (dc (m_m τ))) k ^^^ (-1)), nI k, τ)) N ?_ ?_ ?_
    · show (a, ((1 : Int32) <<< (tRound (dc (m_m τ)) &&& 31)) - (1 : Int32), (0 : Int32), τ) = (a, (((1 : Int32) <<< (tRound (dc (m_m τ)) &&& 31)) - (1 : Int32)) &&& ((0 : Int32) ^^^ (-1)), nI 0, τ)
      rw [not_0]; rfl
    · intro k hk
      have hd : tDays (dc (m_m τ)) k = m_m τ (6 + k) := by rw [dc_Days, if_pos (by omega)]
      show f_X7_idle_L40_40 a ((((1 : Int32) <<< (tRound (dc (m_m τ)) &&& 31)) - (1 : Int32)) &&& (ud a (tDays (dc (m_m τ))) k ^^^ (-1))) (nI k) τ = some (.inl (a, (((1 : Int32) <<< (tRound (dc (m_m τ)) &&& 31)) - (1 : Int32)) &&& (ud a (tDays (dc (m_m τ))) (k + 1) ^^^ (-1)), nI (k + 1), τ))
      unfold f_X7_idle_L40_40
      rw [l2, hN2, if_neg (nI_ge hk (by omega)), m_has _ (by omega), bnd_some, ud_s]
      by_cases c : bt a k = true
      · rw [if_pos c, if_neg (by decide), if_pos c, nmv, n6, nI_add, ck_nI (by omega) (by omega), cl_nI (by omega), nmv, nmv, nI_s1, ← hd, and_not]
      · rw [if_neg c, if_pos rfl, if_neg c, nmv, nmv, nI_s1, and_m1]
    · show f_X7_idle_L40_40 a ((((1 : Int32) <<< (tRound (dc (m_m τ)) &&& 31)) - (1 : Int32)) &&& (ud a (tDays (dc (m_m τ))) N ^^^ (-1))) (nI N) τ = _
      unfold f_X7_idle_L40_40
      rw [l2, hN2, if_pos (Int32.le_refl _)]
  unfold f_X6_idle f_X7_idle
  rw [w_in, m_in, bnd_some, bnd_some, hNx, l2, hN2]
  simp only [Int32.toInt_toInt64, Int32.reduceToInt, Int64.reduceToInt, ite01, fx_0, fm_0, bnd_some]
  by_cases h1 : 0 ≤ a.toInt ∧ a.toInt ≤ (((1 : Int32) <<< (nI N &&& 31)) - 1).toInt
  · rw [if_neg (not_not_intro h1), if_neg (not_not_intro h1), ex, nmv]
    have em' : wl f_X7_idle_L40_40s (a, ((1 : Int32) <<< (m_m τ (0 : Int32).toNatClampNeg &&& 31)) - (1 : Int32), (0 : Int32), τ) = some (.inr ((((1 : Int32) <<< (tRound (dc (m_m τ)) &&& 31)) - (1 : Int32)) &&& (ud a (tDays (dc (m_m τ))) N ^^^ (-1)), τ)) := em
    rw [em']
    refine Op.mk2 ?_ h
    rw [hT]
  · rw [if_pos h1, if_pos h1]; exact Op.mk' (h.fd (by decide))
/-! judge -/
def ah (num : Fn) (i : Nat) : Int32 := if i = 0 then num 0 else num (i - 1)
/-- whether number i of a sheet is right behind the one ahead -/
abbrev ri (T : TownS) (t : Nat) (num : Fn) (i : Nat) : Prop := ¬ num i < 0 ∧ (i = 0 → num i ≤ 999) ∧ nx T t i (ah num i).toNatClampNeg = num i ∧ (i ≠ 0 → num i - ah num i ≤ wt T t i)
/-- how many are right, from i on -/
def rc (T : TownS) (t : Nat) (num : Fn) : Nat → Nat → Nat
  | i, 0 => i
  | i, n + 1 => if ri T t num i then rc T t num (i + 1) n else i
theorem rc_s (T : TownS) (t : Nat) (num : Fn) (i n : Nat) : rc T t num i (n + 1) = if ri T t num i then rc T t num (i + 1) n else i := rfl
theorem rc_le (T : TownS) (t : Nat) (num : Fn) : ∀ n i, i ≤ rc T t num i n ∧ rc T t num i n ≤ i + n := by
  intro n
  induction n with
  | zero => intro i; exact ⟨Nat.le_refl _, Nat.le_refl _⟩
  | succ n ih =>
    intro i
    rw [rc_s]
    by_cases h : ri T t num i
    · rw [if_pos h]; have := ih (i + 1); omega
    · rw [if_neg h]; omega
theorem rc_cg {T : TownS} {t : Nat} {num num' : Fn} {m : Nat} (h : ∀ i, i < m → num i = num' i) : ∀ n i, i + n ≤ m → rc T t num i n = rc T t num' i n := by
  intro n
  induction n with
  | zero => intro i _; rfl
  | succ n ih =>
    intro i hi
    have e1 := h i (by omega)
    have e2 : ah num i = ah num' i := by
      unfold ah
      by_cases h0 : i = 0
      · rw [if_pos h0, if_pos h0, h 0 (by omega)]
      · rw [if_neg h0, if_neg h0, h (i - 1) (by omega)]
    rw [rc_s, rc_s, ih (i + 1) (by omega)]
    unfold ri
    rw [e1, e2]
/-- numbers that have been right are days -/
def dy (num : Fn) (i : Nat) : Prop := ∀ j, j < i → ∃ x, num j = nI x ∧ x ≤ 999 + 24 * (j + 1)
theorem dy_ah {num : Fn} {i : Nat} (h : dy num i) (hi : i < 9) (h0 : ¬ num i < 0) (h1 : i = 0 → num i ≤ 999) : ∃ x, ah num i = nI x ∧ x ≤ 999 + 24 * i := by
  unfold ah
  by_cases c : i = 0
  · subst c
    rw [if_pos rfl]
    have g := h1 rfl
    rw [i_lt] at h0
    rw [i_le] at g
    simp only [Int32.reduceToInt] at h0 g
    obtain ⟨x, e, hx, -⟩ := i_ex (x := num 0) (by omega)
    exact ⟨x, e, by omega⟩
  · rw [if_neg c]
    obtain ⟨x, e, hx⟩ := h (i - 1) (by omega)
    exact ⟨x, e, by omega⟩
theorem dy_s {T : TownS} (ok : tOk T) {t i : Nat} {num : Fn} (h : dy num i) (hi : i < 9) (hr : ri T t num i) : dy num (i + 1) := by
  obtain ⟨h0, h1, h2, h3⟩ := hr
  obtain ⟨x, e, hx⟩ := dy_ah h hi h0 h1
  intro j hj
  by_cases c : j = i
  · subst c
    rw [e, cl_nI (by omega)] at h2
    rcases nx_rng ok (t := t) (i := j) (d := x) (by omega) with g | ⟨y, g, g1, g2⟩
    · rw [← h2, g] at h0; exact absurd (by decide) h0
    · exact ⟨y, by rw [← h2, g], by omega⟩
  · exact h j (by omega)
theorem x_right {u : XS} (ok : tOk (xT u)) {t s M : Nat} (ht : (t : Int) < (tThings (xT u)).toInt) (hs : s < 4) (hM : M ≤ sc (xT u) t) : ∀ n i, i + n = M → dy ((xB u).2.2 s) i → bne (wl f_X0_rightDays_L20_20s (nI t, s, nI M, nI i, u)) (fun a => some a) (fun b => nmv b.1 fun y6 => nmv b.2 fun u5 => some (y6, u5)) = some (nI (rc (xT u) t ((xB u).2.2 s) i n), u) := by
  obtain ⟨c1, c2, c3, c4⟩ := sc_ok ok ht
  intro n
  induction n with
  | zero =>
    intro i hi hd
    have e : f_X0_rightDays_L20_20s (nI t, s, nI M, nI i, u) = some (.inr (.inr (nI M, u))) := by
      show f_X0_rightDays_L20_20 (nI t) s (nI M) (nI i) u = _
      unfold f_X0_rightDays_L20_20
      rw [if_neg (by omega), if_pos (nI_le (by omega) (by omega))]
    rw [wl_out e, show M = i by omega]
    rfl
  | succ n ih =>
    intro i hi hd
    have hsi := isS_of ok ht (show i < sc (xT u) t by omega)
    have e2 := x_num2 ok hsi
    have stop : ¬ ri (xT u) t ((xB u).2.2 s) i → f_X0_rightDays_L20_20s (nI t, s, nI M, nI i, u) = some (.inr (.inl (nI i, u))) → bne (wl f_X0_rightDays_L20_20s (nI t, s, nI M, nI i, u)) (fun a => some a) (fun b => nmv b.1 fun y6 => nmv b.2 fun u5 => some (y6, u5)) = some (nI (rc (xT u) t ((xB u).2.2 s) i (n + 1)), u) := by
      intro h e
      rw [wl_out e, rc_s, if_neg h]
      rfl
    have goes : ri (xT u) t ((xB u).2.2 s) i → f_X0_rightDays_L20_20s (nI t, s, nI M, nI i, u) = some (.inl (nI t, s, nI M, nI (i + 1), u)) → bne (wl f_X0_rightDays_L20_20s (nI t, s, nI M, nI i, u)) (fun a => some a) (fun b => nmv b.1 fun y6 => nmv b.2 fun u5 => some (y6, u5)) = some (nI (rc (xT u) t ((xB u).2.2 s) i (n + 1)), u) := by
      intro h e
      rw [wl_in e, rc_s, if_pos h]
      exact ih (i + 1) (by omega) (dy_s ok hd (by omega) h)
    have st : f_X0_rightDays_L20_20s (nI t, s, nI M, nI i, u) = f_X0_rightDays_L20_20 (nI t) s (nI M) (nI i) u := rfl
    have go56 : (i = 0 → (xB u).2.2 s i ≤ 999) → ¬ (xB u).2.2 s i < 0 → f_X0_rightDays_L20_56 (nI t) s (nI M) (nI i) ((xB u).2.2 s i) u = f_X0_rightDays_L20_75 (nI t) s (nI M) (nI i) ((xB u).2.2 s i) (ah ((xB u).2.2 s) i) u := by
      intro _ _
      unfold f_X0_rightDays_L20_56 ah
      rw [if_neg (by omega)]
      by_cases c : i = 0
      · subst c; rw [if_pos rfl, if_pos (show nI 0 = 0 from rfl)]
      · rw [if_neg c, if_neg (nI_ne0 (by omega) (by omega)), show nI i - 1 = nI (i - 1) from pk_sub (b := 1) (by omega), nmv, ck_nI (by omega) (by omega), cl_nI (by omega)]
    have main : (i = 0 → (xB u).2.2 s i ≤ 999) → ¬ (xB u).2.2 s i < 0 → f_X0_rightDays_L20_20s (nI t, s, nI M, nI i, u) = f_X0_rightDays_L20_75 (nI t) s (nI M) (nI i) ((xB u).2.2 s i) (ah ((xB u).2.2 s) i) u → bne (wl f_X0_rightDays_L20_20s (nI t, s, nI M, nI i, u)) (fun a => some a) (fun b => nmv b.1 fun y6 => nmv b.2 fun u5 => some (y6, u5)) = some (nI (rc (xT u) t ((xB u).2.2 s) i (n + 1)), u) := by
      intro q1 q0 q
      obtain ⟨x, hx, hx2⟩ := dy_ah hd (by omega) q0 q1
      have hn := x_next ok hsi (d := x) (by omega)
      unfold f_X0_rightDays_L20_75 at q
      rw [if_neg (by omega), hx, hn, bnd_some] at q
      have hxc : (ah ((xB u).2.2 s) i).toNatClampNeg = x := by rw [hx, cl_nI (by omega)]
      by_cases c1 : nx (xT u) t i x = (xB u).2.2 s i
      · rw [if_pos c1] at q
        by_cases c2 : i = 0
        · rw [if_pos (show nI i ≤ 0 by rw [c2]; decide), nmv, nI_s1] at q
          exact goes ⟨q0, q1, by rw [hxc]; exact c1, fun h => absurd c2 h⟩ q
        · rw [if_neg (nI_nle (by omega) (by omega)), e2, bnd_some] at q
          by_cases c3 : (xB u).2.2 s i - nI x ≤ wt (xT u) t i
          · rw [if_pos c3, nmv, nI_s1] at q
            exact goes ⟨q0, q1, by rw [hxc]; exact c1, fun _ => by rw [hx]; exact c3⟩ q
          · rw [if_neg c3] at q
            exact stop (fun h => c3 (by have := h.2.2.2 c2; rw [hx] at this; exact this)) q
      · rw [if_neg c1] at q
        exact stop (fun h => c1 (by have := h.2.2.1; rw [hxc] at this; exact this)) q
    have st2 := st
    unfold f_X0_rightDays_L20_20 at st2
    rw [if_neg (by omega), if_neg (nI_ge (by omega) (by omega)), ck_nI (by omega) (by omega), cl_nI (by omega), nmv] at st2
    by_cases q0 : (xB u).2.2 s i < 0
    · rw [if_pos q0] at st2
      exact stop (fun h => h.1 q0) st2
    · rw [if_neg q0] at st2
      by_cases c : i = 0
      · rw [if_pos (by rw [c]; rfl)] at st2
        by_cases q1 : (xB u).2.2 s i ≤ 999
        · rw [if_pos q1, go56 (fun _ => q1) q0] at st2
          exact main (fun _ => q1) q0 st2
        · rw [if_neg q1] at st2
          exact stop (fun h => q1 (h.2.1 c)) st2
      · rw [if_neg (nI_ne0 (by omega) (by omega)), go56 (fun h => absurd h c) q0] at st2
        exact main (fun h => absurd h c) q0 st2
theorem m_right0 {u : MS} (ok : tOk (dc (m_m u))) {t i : Nat} (h : isS (dc (m_m u)) t i) {day a : Int32} {x : Nat} (hx : a = nI x) (hx2 : x < 30000) : f_X7_isRight_17 (nI t) (nI i) day a u = some (if nx (dc (m_m u)) t i a.toNatClampNeg = day ∧ (i ≠ 0 → day - a ≤ wt (dc (m_m u)) t i) then 1 else 0, u) := by
  obtain ⟨i1, i2, -, -⟩ := isS_ok ok h
  have e2 := m_of2 ok h
  have hn := m_next ok h (d := x) (by omega)
  subst hx
  rw [cl_nI (by omega)]
  unfold f_X7_isRight_17
  rw [hn, bnd_some]
  by_cases c1 : nx (dc (m_m u)) t i x = day
  · rw [if_pos c1]
    by_cases c2 : i = 0
    · rw [if_pos (show nI i = 0 by rw [c2]; rfl), if_pos (show nx (dc (m_m u)) t i x = day ∧ (i ≠ 0 → day - nI x ≤ wt (dc (m_m u)) t i) from ⟨c1, fun h => absurd c2 h⟩)]
    · rw [if_neg (nI_ne0 (by omega) (by omega)), e2, bnd_some]
      by_cases c3 : day - nI x ≤ wt (dc (m_m u)) t i
      · rw [if_neg (Int32.not_lt.mpr c3), if_pos (show nx (dc (m_m u)) t i x = day ∧ (i ≠ 0 → day - nI x ≤ wt (dc (m_m u)) t i) from ⟨c1, fun _ => c3⟩)]
      · rw [if_pos (Int32.not_le.mp c3), if_neg (show ¬ (nx (dc (m_m u)) t i x = day ∧ (i ≠ 0 → day - nI x ≤ wt (dc (m_m u)) t i)) from fun h => c3 (h.2 c2))]
  · rw [if_neg c1, if_neg (show ¬ (nx (dc (m_m u)) t i x = day ∧ (i ≠ 0 → day - nI x ≤ wt (dc (m_m u)) t i)) from fun h => c1 h.1)]
theorem m_right1 {u : MS} (ok : tOk (dc (m_m u))) {t i : Nat} (h : isS (dc (m_m u)) t i) {num : Fn} (hd : dy num i) : ∃ r, f_X7_isRight (nI t) (nI i) (num i) (ah num i) u = some (r, u) ∧ (ri (dc (m_m u)) t num i → r = 1) ∧ (¬ ri (dc (m_m u)) t num i → r = 0) := by
  obtain ⟨i1, i2, -, -⟩ := isS_ok ok h
  have main : (i = 0 → num i ≤ 999) → ¬ num i < 0 → f_X7_isRight (nI t) (nI i) (num i) (ah num i) u = f_X7_isRight_17 (nI t) (nI i) (num i) (ah num i) u → ∃ r, f_X7_isRight (nI t) (nI i) (num i) (ah num i) u = some (r, u) ∧ (ri (dc (m_m u)) t num i → r = 1) ∧ (¬ ri (dc (m_m u)) t num i → r = 0) := by
    intro q1 q0 q
    obtain ⟨x, hx, hx2⟩ := dy_ah hd (by omega) q0 q1
    rw [q, m_right0 ok h hx (by omega)]
    refine ⟨_, rfl, fun g => if_pos ⟨g.2.2.1, g.2.2.2⟩, fun g => if_neg (fun k => g ⟨q0, q1, k.1, k.2⟩)⟩
  have e : f_X7_isRight (nI t) (nI i) (num i) (ah num i) u = f_X7_isRight (nI t) (nI i) (num i) (ah num i) u := rfl
  conv at e => rhs; unfold f_X7_isRight
  by_cases q0 : num i < 0
  · rw [if_pos q0] at e
    exact ⟨0, e, fun g => absurd q0 g.1, fun _ => rfl⟩
  · rw [if_neg q0] at e
    by_cases c : i = 0
    · rw [if_pos (show nI i = 0 by rw [c]; rfl), m_isDay, bnd_some] at e
      have hz : 0 ≤ (num i).toInt := by
        rw [i_lt] at q0
        simp only [Int32.reduceToInt] at q0
        omega
      by_cases q1 : num i ≤ 999
      · have q2 : (num i).toInt ≤ 999 := by rw [i_le] at q1; simpa using q1
        rw [if_pos (show 0 ≤ (num i).toInt ∧ (num i).toInt ≤ 999 from ⟨hz, q2⟩), if_neg (by decide)] at e
        exact main (fun _ => q1) q0 e
      · have q2 : ¬ (num i).toInt ≤ 999 := by rw [i_le] at q1; simpa using q1
        rw [if_neg (show ¬ (0 ≤ (num i).toInt ∧ (num i).toInt ≤ 999) from fun h => q2 h.2), if_pos rfl] at e
        exact ⟨0, e, fun g => absurd (g.2.1 c) q1, fun _ => rfl⟩
    · rw [if_neg (nI_ne0 (by omega) (by omega))] at e
      exact main (fun h => absurd h c) q0 e
theorem m_right {u : MS} (ok : tOk (dc (m_m u))) {t s M z : Nat} (ht : (t : Int) < (tThings (dc (m_m u))).toInt) (hs : s < 4) (hz : m_size u s = nI z) (hz40 : z ≤ 40) (hM : M = if sc (dc (m_m u)) t < z then sc (dc (m_m u)) t else z) : ∀ n i, i + n = M → dy (fun i => m_number u (40 * s + i)) i → wl f_X7_judge_L48_48s (nI s, nI t, nI i, u) = some (.inr (nI s, nI t, nI (rc (dc (m_m u)) t (fun i => m_number u (40 * s + i)) i n), u)) := by
  obtain ⟨c1, c2, c3, c4⟩ := sc_ok ok ht
  have hM1 : M ≤ sc (dc (m_m u)) t ∧ M ≤ z ∧ (M = sc (dc (m_m u)) t ∨ M = z) := by
    rw [hM]; split <;> omega
  intro n
  induction n with
  | zero =>
    intro i hi hd
    apply wl_out
    show f_X7_judge_L48_48 (nI s) (nI t) (nI i) u = _
    unfold f_X7_judge_L48_48
    rw [ck_nI hs (by omega), cl_nI (by omega), hz]
    by_cases h : z ≤ i
    · rw [if_pos (nI_le h (by omega))]; rfl
    · rw [if_neg (nI_ge (by omega) (by omega)), m_steps _ c1, bnd_some, c2, if_pos (nI_le (by omega) (by omega))]; rfl
  | succ n ih =>
    intro i hi hd
    have hsi := isS_of ok ht (show i < sc (dc (m_m u)) t by omega)
    obtain ⟨r, hr, hr1, hr0⟩ := m_right1 ok hsi hd
    have st : f_X7_judge_L48_48s (nI s, nI t, nI i, u) = if ri (dc (m_m u)) t (fun i => m_number u (40 * s + i)) i then some (.inl (nI s, nI t, nI (i + 1), u)) else some (.inr (.inr (nI s, nI t, nI i, u))) := by
      show f_X7_judge_L48_48 (nI s) (nI t) (nI i) u = _
      unfold f_X7_judge_L48_48 f_X7_judge_L48_100
      rw [ck_nI hs (by omega), cl_nI (by omega), hz, if_neg (nI_ge (by omega) (by omega)), m_steps _ c1, bnd_some, c2, if_neg (nI_ge (by omega) (by omega)), n40, pk_mul, nI_add, nmv, ck_nI (by omega) (by omega), cl_nI (by omega)]
      have fin : ∀ k, k ≤ i → m_number u (40 * s + k) = ah (fun i => m_number u (40 * s + i)) i → (nmv (nI (40 * s) + nI k) fun x1 => if x1 < 0 ∨ 160 ≤ x1.toNatClampNeg then none else bnd (f_X7_isRight (nI t) (nI i) (m_number u (40 * s + i)) ((m_number u) x1.toNatClampNeg) u) fun r3 u4 => (if r3 = 0 then some (Sum.inr (Sum.inr (nI s, nI t, nI i, u4))) else nmv (nI i + (1 : Int32)) fun x6 => some (Sum.inl (nI s, nI t, x6, u4)))) = (if ri (dc (m_m u)) t (fun i => m_number u (40 * s + i)) i then some (.inl (nI s, nI t, nI (i + 1), u)) else (some (.inr (.inr (nI s, nI t, nI i, u))) : Option ((Int32 × Int32 × Int32 × MS) ⊕ ((Int32 × MS) ⊕ (Int32 × Int32 × Int32 × MS))))) := by
        intro k hk ek
        rw [nmv, nI_add, ck_nI (by omega) (by omega), cl_nI (by omega), ek, hr, bnd_some]
        by_cases c : ri (dc (m_m u)) t (fun i => m_number u (40 * s + i)) i
        · rw [hr1 c, if_neg (by decide), if_pos c, nmv, nI_s1]
        · rw [hr0 c, if_pos rfl, if_neg c]
      by_cases c : i = 0
      · rw [if_pos (show nI i = 0 by rw [c]; rfl)]
        exact fin 0 (by omega) (by unfold ah; rw [if_pos c])
      · rw [if_neg (nI_ne0 (by omega) (by omega)), show nI i - 1 = nI (i - 1) from pk_sub (b := 1) (by omega)]
        exact fin (i - 1) (by omega) (by unfold ah; rw [if_neg c])
    by_cases c : ri (dc (m_m u)) t (fun i => m_number u (40 * s + i)) i
    · rw [if_pos c] at st
      rw [wl_in st, rc_s, if_pos c]
      exact ih (i + 1) (by omega) (dy_s ok hd (by omega) c)
    · rw [if_neg c] at st
      rw [wl_out st, rc_s, if_neg c]
theorem op_judge {σ : XS} {τ : MS} (h : Rel σ τ) (a c : Int32) : Op (f_X6_judge a c σ) (f_X7_judge a c τ) := by
  obtain ⟨hT, ok, hz, hk1, hk2, hP, hB, hF, hH⟩ := id h
  have okx : tOk (xT σ) := by rw [hT]; exact ok
  unfold f_X6_judge f_X7_judge
  rw [x_isSheet, m_isSheet, bnd_some, bnd_some]
  simp only [ite01, fx_0, fm_0, fx_5, fm_5, bnd_some, x_hasThing okx, m_isThing ok, hT]
  by_cases h0 : 0 ≤ a.toInt ∧ a.toInt ≤ 3
  · rw [if_neg (not_not_intro h0), if_neg (not_not_intro h0)]
    obtain ⟨s, rfl, hs1, -⟩ := i_ex h0.1
    have hs : s < 4 := by omega
    obtain ⟨b1, b2, b3, b4, b5⟩ := hB.1 s hs
    rw [ck_nI hs (by omega), ck_nI hs (by omega), cl_nI (by omega), b1]
    by_cases hb : m_bits τ s = 0
    · rw [if_pos hb, if_pos hb]; exact Op.mk' (h.fd (by decide))
    · rw [if_neg hb, if_neg hb]
      by_cases h1 : pThing (dc (m_m τ)) c
      · rw [if_neg (not_not_intro h1), if_neg (not_not_intro h1)]
        obtain ⟨p1, p2⟩ := h1
        obtain ⟨t, rfl, ht, ht2⟩ := i_ex p1
        have hst : (t : Int) < (tThings (dc (m_m τ))).toInt := by omega
        have hstx : (t : Int) < (tThings (xT σ)).toInt := by rw [hT]; exact hst
        obtain ⟨c1, c2, c3, c4⟩ := sc_ok ok hst
        obtain ⟨z, hz1, hz2, -⟩ := i_ex (x := m_size τ s) (by omega)
        have hz40 : z ≤ 40 := by omega
        have hq : ∀ i, i < 40 → (xB σ).2.2 s i = m_number τ (40 * s + i) := fun i hi => hB.2 s i hs hi
        have eM : (if nI (sc (dc (m_m τ)) t) < nI z then nI (sc (dc (m_m τ)) t) else nI z) = nI (if sc (dc (m_m τ)) t < z then sc (dc (m_m τ)) t else z) := by
          by_cases q : sc (dc (m_m τ)) t < z
          · rw [if_pos q, if_pos (nI_lt q (by omega))]
          · rw [if_neg q, if_neg (nI_nlt (by omega) (by omega))]
        obtain ⟨M, hM⟩ : ∃ M, M = if sc (dc (m_m τ)) t < z then sc (dc (m_m τ)) t else z := ⟨_, rfl⟩
        rw [← hM] at eM
        have hM1 : M ≤ sc (dc (m_m τ)) t ∧ M ≤ z ∧ (M = sc (dc (m_m τ)) t ∨ M = z) := by
          rw [hM]; split <;> omega
        have gx := x_right okx (M := M) hstx hs (by rw [hT]; omega) M 0 (by omega) (fun j hj => by omega)
        have gm := m_right ok hst hs hz1 hz40 hM M 0 (by omega) (fun j hj => by omega)
        rw [hT] at gx
        have er : rc (dc (m_m τ)) t ((xB σ).2.2 s) 0 M = rc (dc (m_m τ)) t (fun i => m_number τ (40 * s + i)) 0 M := rc_cg (m := 40) hq M 0 (by omega)
        have hrc := rc_le (dc (m_m τ)) t (fun i => m_number τ (40 * s + i)) M 0
        rw [er] at gx
        generalize rc (dc (m_m τ)) t (fun i => m_number τ (40 * s + i)) 0 M = r at gx gm hrc
        have gx' : f_X0_rightDays (nI t) s σ = some (nI r, σ) := by
          unfold f_X0_rightDays
          rw [ck_nI c1 (by omega), cl_nI (by omega), hT, c2, b3, hz1, eM, nmv]
          exact gx
        have gm' : wl f_X7_judge_L48_48s (nI s, nI t, (0 : Int32), τ) = some (.inr (nI s, nI t, nI r, τ)) := gm
        rw [ck_nI c1 (by omega), cl_nI (by omega), nmv, ck_k hs (by omega), gx', bnd_some, gm', c2, b3, hz1]
        show Op _ (f_X7_judge_114 (nI s) (nI t) (nI r) τ)
        unfold f_X7_judge_114
        rw [ck_nI hs (by omega), cl_nI (by omega), hz1, m_steps _ c1, bnd_some, c2, ck_k hs (by omega)]
        by_cases q1 : r = sc (dc (m_m τ)) t
        · by_cases q2 : z = sc (dc (m_m τ)) t
          · rw [if_pos (by rw [q1]), if_pos (by rw [q2]), if_pos (by rw [q1, q2]), if_pos (by rw [q1])]
            exact Op.mk' h
          · rw [if_pos (by rw [q1]), if_neg (fun q => q2 ((nI_eq (by omega) (by omega)).mp q)), if_neg (fun q => q2 (((nI_eq (by omega) (by omega)).mp q).symm.trans q1))]
            exact Op.mk2 (Int32.add_comm _ _) h
        · rw [if_neg (fun q => q1 ((nI_eq (by omega) (by omega)).mp q)), if_neg (fun q => q1 ((nI_eq (by omega) (by omega)).mp q))]
          by_cases q3 : nI r = nI z
          · rw [if_pos q3]; exact Op.mk2 (Int32.add_comm _ _) h
          · rw [if_neg q3]; exact Op.mk2 (Int32.add_comm _ _) h
      · rw [if_pos h1, if_pos h1]; exact Op.mk' (h.fd (by decide))
  · rw [if_pos h0, if_pos h0]; exact Op.mk' (h.fd (by decide))
