/-- the bytes that a number puts behind the tape, i of n -/
def apf (f : Fn) (z : Nat) (a : Int32) (n : Nat) : Nat → Fn
  | 0 => f
  | i + 1 => upd (apf f z a n i) (z + i) ((a >>> (((8 : Int32) * nI (n - 1 - i)) &&& 31)) &&& 255)
theorem apf_rng {f : Fn} {z n : Nat} {a : Int32} (h : ∀ k, k < 120 → 0 ≤ (f k).toInt ∧ (f k).toInt ≤ 255) : ∀ i k, k < 120 → 0 ≤ (apf f z a n i k).toInt ∧ (apf f z a n i k).toInt ≤ 255 := by
  intro i
  induction i with
  | zero => exact h
  | succ i ih =>
    intro k hk
    show 0 ≤ (upd _ _ _ k).toInt ∧ (upd _ _ _ k).toInt ≤ 255
    by_cases e : k = z + i
    · rw [e, upd_s]; exact by_rng _
    · rw [upd_n e]; exact ih k hk
theorem apf_same {f g : Fn} {z n : Nat} {a : Int32} (h : ∀ k, k < 120 → f k = g k) : ∀ i k, k < 120 → apf f z a n i k = apf g z a n i k := by
  intro i
  induction i with
  | zero => exact h
  | succ i ih =>
    intro k hk
    show upd _ _ _ k = upd _ _ _ k
    by_cases e : k = z + i
    · rw [e, upd_s, upd_s]
    · rw [upd_n e, upd_n e]; exact ih k hk
theorem m1_nI {j : Nat} : nI (j + 1) + (-1) = nI j := pk_m1 j
/-- the counter on its way down -/
def dn (n i : Nat) : Int32 := if i < n then nI (n - 1 - i) else -1
theorem dn_s {n i : Nat} (h : i < n) : nI (n - 1 - i) + (-1) = dn n (i + 1) := by
  unfold dn
  by_cases e : i + 1 < n
  · rw [if_pos e, show n - 1 - i = (n - 1 - (i + 1)) + 1 by omega, m1_nI]
  · rw [if_neg e, show n - 1 - i = 0 by omega]; rfl
theorem x_append {u : XS} {z n : Nat} (hz : (xP u).2 = nI z) (hn : 1 ≤ n) (hn4 : n ≤ 4) (h : z + n ≤ 120) (a : Int32) : f_X3_append a (nI n) u = some (0, sP u (apf (xP u).1 z a n n, nI (z + n))) := by
  unfold f_X3_append
  simp only [nmv]
  have e1 : nI n - 1 = nI (n - 1) := by rw [show n = (n - 1) + 1 by omega, nI_p1]; rfl
  have ew : wl f_X3_append_L4_4s (a, nI (n - 1), u) = some (.inr (sP u (apf (xP u).1 z a n n, nI (z + n)))) := ?_
  · rw [e1, ew]; rfl
  refine wl_for' (fun i => (a, dn n i, sP u (apf (xP u).1 z a n i, nI (z + i)))) n ?_ ?_ ?_
  · show (a, nI (n - 1), u) = (a, dn n 0, sP u ((xP u).1, nI z))
    rw [← hz]
    unfold dn
    rw [if_pos (by omega)]
    rfl
  · intro i hi
    show f_X3_append_L4_4 _ _ _ = _
    unfold f_X3_append_L4_4
    have ed : dn n i = nI (n - 1 - i) := by unfold dn; rw [if_pos hi]
    simp only [ed]
    show (if nI (n - 1 - i) < 0 then _ else if (120 : Int32) ≤ nI (z + i) then _ else nmv _ fun x3 => nmv (nI (z + i)) fun x4 => if x4 < 0 ∨ 120 ≤ x4.toNatClampNeg then none else _) = _
    simp (disch := omega) only [nmv, show (120 : Int32) = nI 120 from rfl, leI, leF, if_false, nIneg, cl', or_self, by_eq, dn_s hi]
    show some (Sum.inl (a, dn n (i + 1), sP u (upd (apf (xP u).1 z a n i) (z + i) _, nI (z + i) + 1))) = _
    rw [nI_s1]
    rfl
  · show f_X3_append_L4_4 _ _ _ = _
    unfold f_X3_append_L4_4
    have ed : dn n n = -1 := by unfold dn; rw [if_neg (by omega)]
    simp only [ed]
    rw [if_pos (by decide)]
theorem m_append {u : MS} {z n : Nat} (hz : m_taped u = nI z) (hn : 1 ≤ n) (hn4 : n ≤ 4) (h : z + n ≤ 120) (a : Int32) : wl f_X7_feed_L41_41s (a, nI (n - 1), u) = some (.inr (mu_taped (mu_tape u (apf (m_tape u) z a n n)) (nI (z + n)))) := by
  refine wl_for' (fun i => (a, dn n i, mu_taped (mu_tape u (apf (m_tape u) z a n i)) (nI (z + i)))) n ?_ ?_ ?_
  · show (a, nI (n - 1), u) = (a, dn n 0, mu_taped (mu_tape u (m_tape u)) (nI z))
    rw [← hz]
    unfold dn
    rw [if_pos (by omega)]
    rfl
  · intro i hi
    show f_X7_feed_L41_41 _ _ _ = _
    unfold f_X7_feed_L41_41
    have ed : dn n i = nI (n - 1 - i) := by unfold dn; rw [if_pos hi]
    simp only [ed]
    show (if nI (n - 1 - i) < 0 then _ else nmv _ fun x3 => nmv (nI (z + i)) fun x4 => if x4 < 0 ∨ 120 ≤ x4.toNatClampNeg then none else _) = _
    simp (disch := omega) only [nmv, leF, if_false, nIneg, cl', or_self, dn_s hi]
    show some (Sum.inl (a, dn n (i + 1), mu_taped (mu_tape u (upd (apf (m_tape u) z a n i) (z + i) _)) (nI (z + i) + 1))) = _
    rw [nI_s1]
    rfl
  · show f_X7_feed_L41_41 _ _ _ = _
    unfold f_X7_feed_L41_41
    have ed : dn n n = -1 := by unfold dn; rw [if_neg (by omega)]
    simp only [ed]
    rw [if_pos (by decide)]
theorem op_feed {σ : XS} {τ : MS} (h : Rel σ τ) (a b : Int32) : Op (f_X6_feed a b σ) (f_X7_feed a b τ) := by
  obtain ⟨h1, h2, h3, h4, h5, ⟨p1, p2, p3⟩, h7, h8, h9⟩ := id h
  unfold f_X6_feed f_X7_feed
  simp only [w_in, m_in, bnd_some, ite01, Int32.toInt_toInt64, Int32.reduceToInt, Int64.reduceToInt, fx_0, fm_0, fx_1, fm_1]
  by_cases hc : 1 ≤ b.toInt ∧ b.toInt ≤ 4
  · rw [if_neg (not_not_intro hc), if_neg (not_not_intro hc)]
    obtain ⟨n, rfl, hn, -⟩ := i_ex (x := b) (by omega)
    obtain ⟨z, hz, hz1, -⟩ := i_ex p2.1
    have hx : (xP σ).2 = nI z := p1.trans hz
    simp (disch := omega) only [hx, hz, nI_add, show (120 : Int32) = nI 120 from rfl, leI]
    by_cases hf : z + n ≤ 120
    · rw [if_pos hf, if_pos hf, x_append hx (by omega) (by omega) hf, bnd_some]
      have e1 : nI n - 1 = nI (n - 1) := by rw [show n = (n - 1) + 1 by omega, nI_p1]; rfl
      rw [nmv, e1, m_append hz (by omega) (by omega) hf]
      refine Op.mk2 rfl ⟨h1, h2, h3, h4, h5, ⟨rfl, ?_, ?_⟩, h7, h8, h9⟩
      · show 0 ≤ (nI (z + n)).toInt ∧ (nI (z + n)).toInt ≤ 120
        rw [i_nI (by omega)]; omega
      · intro k hk
        exact ⟨apf_same (fun k hk => (p3 k hk).1) n k hk, apf_rng (fun k hk => (p3 k hk).2) n k hk⟩
    · rw [if_neg hf, if_neg hf]
      exact Op.mk' (h.fd (by decide))
  · rw [if_pos hc, if_pos hc]
    exact Op.mk' (h.fd (by decide))
