theorem vu_s {α : Type} (f : Nat → α) (k : Nat) (v : α) : va_up f k v k = v := by simp [va_up]
theorem vu_n {α : Type} {f : Nat → α} {k j : Nat} {v : α} (h : j ≠ k) : va_up f k v j = f j := by simp [va_up, h]
theorem vu_u {α : Type} (f : Nat → α) (k : Nat) (v w : α) : va_up (va_up f k v) k w = va_up f k w := bx_uu f k v w
theorem vu_self {α : Type} (f : Nat → α) (k : Nat) : va_up f k (f k) = f := by
  funext j; by_cases h : j = k
  · subst h; rw [vu_s]
  · rw [vu_n h]
/-- two loops in step -/
theorem wl_par {S1 S2 E1 E2 : Type} {st1 : S1 → Option (S1 ⊕ E1)} {st2 : S2 → Option (S2 ⊕ E2)} (I : Nat → S1 → S2 → Prop) (J : E1 → E2 → Prop) (hs : ∀ n a b, I n a b → (∃ a' b', st1 a = some (.inl a') ∧ st2 b = some (.inl b') ∧ ∃ m, m < n ∧ I m a' b') ∨ (∃ e f, st1 a = some (.inr e) ∧ st2 b = some (.inr f) ∧ J e f)) : ∀ n a b, I n a b → ∃ e f, wl st1 a = some e ∧ wl st2 b = some f ∧ J e f := by
  intro n
  induction n using Nat.strongRecOn with
  | ind n ih =>
    intro a b h
    rcases hs n a b h with ⟨a', b', h1, h2, m, hm, hI⟩ | ⟨e, f, h1, h2, hJ⟩
    · rw [wl_in h1, wl_in h2]
      exact ih m hm a' b' hI
    · exact ⟨e, f, wl_out h1, wl_out h2, hJ⟩
/-- zeros from a on, i of them -/
def zr (f : Fn) (a i : Nat) : Fn := fun k => if a ≤ k ∧ k < a + i then 0 else f k
theorem zr_0 (f : Fn) (a : Nat) : zr f a 0 = f := by
  funext k; unfold zr; rw [if_neg (by omega)]
theorem zr_s (f : Fn) (a i : Nat) : upd (zr f a i) (a + i) 0 = zr f a (i + 1) := by
  funext k
  unfold upd zr
  by_cases h : k = a + i
  · rw [if_pos h, if_pos (by omega)]
  · rw [if_neg h]
    by_cases h2 : a ≤ k ∧ k < a + i
    · rw [if_pos h2, if_pos (by omega)]
    · rw [if_neg h2, if_neg (by omega)]
theorem x_isSheet (u : XS) (a : Int32) : f_X6_isSheet a u = some (if 0 ≤ a.toInt ∧ a.toInt ≤ 3 then 1 else 0, u) := by
  unfold f_X6_isSheet
  simp only [w_in, bnd_some, ck_z01, Int32.reduceToInt]
theorem m_isSheet (u : MS) (a : Int32) : f_X7_isSheet a u = some (if 0 ≤ a.toInt ∧ a.toInt ≤ 3 then 1 else 0, u) := by
  unfold f_X7_isSheet
  simp only [m_in, bnd_some, ck_z01, Int64.reduceToInt, Int32.toInt_toInt64]
theorem x_lay (u : XS) {j : Nat} (hj : j < 4) : wl f_X1_layOut_L20_20s (j, (0 : Int32), u) = some (.inr (sB u ((xB u).1, (xB u).2.1, va_up (xB u).2.2 j (zr ((xB u).2.2 j) 0 40)))) := by
  refine wl_for' (fun i => (j, nI i, sB u ((xB u).1, (xB u).2.1, va_up (xB u).2.2 j (zr ((xB u).2.2 j) 0 i)))) 40 ?_ ?_ ?_
  · show (j, (0 : Int32), u) = (j, nI 0, sB u ((xB u).1, (xB u).2.1, va_up (xB u).2.2 j (zr ((xB u).2.2 j) 0 0)))
    rw [zr_0, vu_self]; rfl
  · intro i hi
    show f_X1_layOut_L20_20 _ _ _ = _
    unfold f_X1_layOut_L20_20
    rw [if_neg (by omega)]
    simp (disch := omega) only [n40, leI, leF, if_false, nIneg, cl', or_self, nmv, nI_s1]
    show some (Sum.inl (j, nI (i + 1), sB u ((xB u).1, (xB u).2.1, va_up (va_up (xB u).2.2 j (zr ((xB u).2.2 j) 0 i)) j (upd (va_up (xB u).2.2 j (zr ((xB u).2.2 j) 0 i) j) i 0)))) = _
    have e := zr_s ((xB u).2.2 j) 0 i
    rw [Nat.zero_add] at e
    rw [vu_s, vu_u, e]
  · show f_X1_layOut_L20_20 _ _ _ = _
    unfold f_X1_layOut_L20_20
    rw [if_neg (by omega), if_pos (show (40 : Int32) ≤ nI 40 from by decide)]
theorem m_lay (u : MS) {j : Nat} (hj : j < 4) : wl f_X7_sheet_L86_86s (nI j, (0 : Int32), u) = some (.inr (nI j, mu_number u (zr (m_number u) (40 * j) 40))) := by
  refine wl_for' (fun i => (nI j, nI i, mu_number u (zr (m_number u) (40 * j) i))) 40 ?_ ?_ ?_
  · show (nI j, (0 : Int32), u) = (nI j, nI 0, mu_number u (zr (m_number u) (40 * j) 0))
    rw [zr_0]; rfl
  · intro i hi
    show f_X7_sheet_L86_86 _ _ _ = _
    unfold f_X7_sheet_L86_86
    simp (disch := omega) only [n40, leI, leF, if_false, nIneg, cl', or_self, nmv, nI_s1, pk_mul, nI_add]
    show some (Sum.inl (nI j, nI (i + 1), mu_number u (upd (zr (m_number u) (40 * j) i) (40 * j + i) 0))) = _
    rw [zr_s]
  · show f_X7_sheet_L86_86 _ _ _ = _
    unfold f_X7_sheet_L86_86
    rw [if_pos (show (40 : Int32) ≤ nI 40 from by decide)]
/-- a sheet laid out, on both sides -/
theorem Rel.lay {σ : XS} {τ : MS} (h : Rel σ τ) {j : Nat} (hj : j < 4) {b z : Int32} (hb : b = 0 ∨ b = 8 ∨ b = 16 ∨ b = 32) (hz : 0 ≤ z.toInt ∧ z.toInt ≤ 40) (hbz : b = 0 → z = 0) : Rel (sB σ (upd (xB σ).1 j b, upd (xB σ).2.1 j z, va_up (xB σ).2.2 j (zr ((xB σ).2.2 j) 0 40))) (mu_number (mu_size (mu_bits τ (upd (m_bits τ) j b)) (upd (m_size τ) j z)) (zr (m_number τ) (40 * j) 40)) := by
  obtain ⟨h1, h2, h3, h4, h5, h6, ⟨b1, b2⟩, h8, h9⟩ := h
  refine ⟨h1, h2, h3, h4, h5, h6, ⟨?_, ?_⟩, h8, h9⟩
  · intro k hk
    show upd (xB σ).1 j b k = upd (m_bits τ) j b k ∧ (upd (m_bits τ) j b k = 0 ∨ upd (m_bits τ) j b k = 8 ∨ upd (m_bits τ) j b k = 16 ∨ upd (m_bits τ) j b k = 32) ∧ upd (xB σ).2.1 j z k = upd (m_size τ) j z k ∧ (0 ≤ (upd (m_size τ) j z k).toInt ∧ (upd (m_size τ) j z k).toInt ≤ 40) ∧ (upd (m_bits τ) j b k = 0 → upd (m_size τ) j z k = 0)
    by_cases e : k = j
    · subst e
      rw [upd_s, upd_s, upd_s, upd_s]
      exact ⟨rfl, hb, rfl, hz, hbz⟩
    · rw [upd_n e, upd_n e, upd_n e, upd_n e]
      exact b1 k hk
  · intro k i hk hi
    show va_up (xB σ).2.2 j (zr ((xB σ).2.2 j) 0 40) k i = zr (m_number τ) (40 * j) 40 (40 * k + i)
    by_cases e : k = j
    · subst e
      rw [vu_s]
      unfold zr
      rw [if_pos (by omega), if_pos (by omega)]
    · rw [vu_n e, b2 k i hk hi]
      unfold zr
      rw [if_neg (by omega)]
theorem op_sheet_go {σ : XS} {τ : MS} (h : Rel σ τ) {j : Nat} (hj : j < 4) (b c : Int32) (hb : b = 0 ∨ b = 8 ∨ b = 16 ∨ b = 32) : Op (f_X6_sheet_35 (nI j) b c σ) (f_X7_sheet_36 (nI j) b c τ) := by
  unfold f_X6_sheet_35 f_X7_sheet_36
  simp only [fx_0, fm_0, fx_6, fm_6, bnd_some]
  by_cases h0 : (0 : Int32) ≤ c
  · rw [if_pos h0, if_pos h0]
    by_cases h1 : c ≤ 40
    · rw [if_pos h1, if_pos h1]
      simp (disch := omega) only [leF, if_false, nIneg, cl', or_self]
      unfold f_X1_layOut
      simp only [nmv]
      by_cases hb0 : b = 0
      · rw [if_pos hb0, if_pos hb0, x_lay _ hj, m_lay _ hj]
        show Op (some (upd (xB σ).2.1 j 0 j, _)) (if nI j < 0 ∨ 4 ≤ (nI j).toNatClampNeg then none else some (upd (m_size τ) j 0 (nI j).toNatClampNeg, _))
        rw [ck_nI hj (by omega), cl_nI (by omega), upd_s, upd_s]
        exact Op.mk' (h.lay hj hb ⟨by decide, by decide⟩ (fun _ => rfl))
      · rw [if_neg hb0, if_neg hb0, x_lay _ hj, m_lay _ hj]
        show Op (some (upd (xB σ).2.1 j c j, _)) (if nI j < 0 ∨ 4 ≤ (nI j).toNatClampNeg then none else some (upd (m_size τ) j c (nI j).toNatClampNeg, _))
        rw [ck_nI hj (by omega), cl_nI (by omega), upd_s, upd_s]
        rw [i_le] at h0 h1
        simp only [Int32.reduceToInt] at h0 h1
        exact Op.mk' (h.lay hj hb ⟨h0, h1⟩ (fun q => absurd q hb0))
    · rw [if_neg h1, if_neg h1]
      exact Op.mk' (h.fd (by decide))
  · rw [if_neg h0, if_neg h0]
    exact Op.mk' (h.fd (by decide))
theorem op_sheet {σ : XS} {τ : MS} (h : Rel σ τ) (a b c : Int32) : Op (f_X6_sheet a b c σ) (f_X7_sheet a b c τ) := by
  unfold f_X6_sheet f_X7_sheet
  simp only [x_isSheet, m_isSheet, bnd_some, ite01, fx_0, fm_0]
  by_cases h1 : 0 ≤ a.toInt ∧ a.toInt ≤ 3
  · rw [if_neg (not_not_intro h1), if_neg (not_not_intro h1)]
    obtain ⟨j, rfl, hj, -⟩ := i_ex h1.1
    have go := fun hb => op_sheet_go h (j := j) (by omega) b c hb
    by_cases e0 : b = 0
    · rw [if_pos e0, if_pos e0]; exact go (Or.inl e0)
    rw [if_neg e0, if_neg e0]
    by_cases e8 : b = 8
    · rw [if_pos e8, if_pos e8]; exact go (Or.inr (Or.inl e8))
    rw [if_neg e8, if_neg e8]
    by_cases e16 : b = 16
    · rw [if_pos e16, if_pos e16]; exact go (Or.inr (Or.inr (Or.inl e16)))
    rw [if_neg e16, if_neg e16]
    by_cases e32 : b = 32
    · rw [if_pos e32, if_pos e32]; exact go (Or.inr (Or.inr (Or.inr e32)))
    rw [if_neg e32, if_neg e32]
    exact Op.mk' (h.fd (by decide))
  · rw [if_pos h1, if_pos h1]
    exact Op.mk' (h.fd (by decide))
/-- one number of a sheet, on both sides -/
theorem Rel.num {σ : XS} {τ : MS} (h : Rel σ τ) {j i : Nat} (hj : j < 4) (hi : i < 40) (v : Int32) : Rel (sB σ ((xB σ).1, (xB σ).2.1, va_up (xB σ).2.2 j (upd ((xB σ).2.2 j) i v))) (mu_number τ (upd (m_number τ) (40 * j + i) v)) := by
  obtain ⟨h1, h2, h3, h4, h5, h6, ⟨b1, b2⟩, h8, h9⟩ := h
  refine ⟨h1, h2, h3, h4, h5, h6, ⟨b1, ?_⟩, h8, h9⟩
  intro k l hk hl
  show va_up (xB σ).2.2 j (upd ((xB σ).2.2 j) i v) k l = upd (m_number τ) (40 * j + i) v (40 * k + l)
  by_cases e : k = j
  · subst e
    rw [vu_s]
    by_cases e2 : l = i
    · rw [e2, upd_s, upd_s]
    · rw [upd_n e2, upd_n (by omega)]; exact b2 k l hk hl
  · rw [vu_n e, upd_n (by omega)]; exact b2 k l hk hl
theorem op_write {σ : XS} {τ : MS} (h : Rel σ τ) (a b c : Int32) : Op (f_X6_write a b c σ) (f_X7_write a b c τ) := by
  have hB := h.2.2.2.2.2.2.1
  unfold f_X6_write f_X7_write
  simp only [x_isSheet, m_isSheet, w_in, m_in, bnd_some, ite01, fx_0, fm_0, fx_5, fm_5, Int32.toInt_toInt64, Int32.reduceToInt, Int64.reduceToInt]
  by_cases h1 : 0 ≤ a.toInt ∧ a.toInt ≤ 3
  · rw [if_neg (not_not_intro h1), if_neg (not_not_intro h1)]
    obtain ⟨j, rfl, hj, -⟩ := i_ex h1.1
    have hj4 : j < 4 := by omega
    obtain ⟨b1, b2, b3, b4, b5⟩ := hB.1 j hj4
    simp (disch := omega) only [leF, if_false, nIneg, cl', or_self, b1, b3, le_pred (b := m_size τ j) (by omega)]
    by_cases hb0 : m_bits τ j = 0
    · rw [if_pos hb0, if_pos hb0]
      exact Op.mk' (h.fd (by decide))
    · rw [if_neg hb0, if_neg hb0]
      by_cases h2 : 0 ≤ b.toInt ∧ b.toInt < (m_size τ j).toInt
      · rw [if_neg (not_not_intro h2), if_neg (not_not_intro h2)]
        obtain ⟨i, rfl, hi, -⟩ := i_ex h2.1
        have hi40 : i < 40 := by omega
        unfold f_X1_put
        simp (disch := omega) only [nmv, b1, leF, if_false, nIneg, cl', or_self, n40, pk_mul, nI_add, bnd_some]
        rcases b2.resolve_left hb0 with e | e | e
        · simp only [e]
          rw [if_pos trivial, nar8]
          exact Op.mk' (h.num hj4 hi40 _)
        · simp only [e]
          rw [if_neg (by decide), if_pos trivial, nar16]
          exact Op.mk' (h.num hj4 hi40 _)
        · simp only [e]
          rw [if_neg (by decide), if_neg (by decide), nar32]
          exact Op.mk' (h.num hj4 hi40 _)
      · rw [if_pos h2, if_pos h2]
        exact Op.mk' (h.fd (by decide))
  · rw [if_pos h1, if_pos h1]
    exact Op.mk' (h.fd (by decide))
