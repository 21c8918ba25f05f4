/-! the reference takes orders -/
/-- its state: a run gone through, hours, the account -/
def mA (u : MS) (O f : Fn) (w it lo : Int32) : MS := (m_m u, m_kept u, m_isKept u, m_found u, m_tape u, m_taped u, m_sort u, m_from u, m_to u, m_value u, m_bad u, m_ahead u, O, f, w, it, lo, m_bits u, m_size u, m_number u)
theorem mA_m (u : MS) (O f : Fn) (w it lo : Int32) : m_m (mA u O f w it lo) = m_m u := rfl
theorem mA_h (u : MS) (O f : Fn) (w it lo : Int32) : m_hours (mA u O f w it lo) = f := rfl
theorem mA_o (u : MS) (O f : Fn) (w it lo : Int32) : m_on (mA u O f w it lo) = O := rfl
theorem mA_on (u : MS) (O O' f : Fn) (w it lo : Int32) : mu_on (mA u O f w it lo) O' = mA u O' f w it lo := rfl
theorem mA_hs (u : MS) (O f f' : Fn) (w it lo : Int32) : mu_hours (mA u O f w it lo) f' = mA u O f' w it lo := rfl
theorem Rel.mA {σ : XS} {τ : MS} (h : Rel σ τ) (O f : Fn) (w it lo : Int32) : Rel σ (mA τ O f w it lo) := h
def smv (T : TownS) (t b : Nat) (v : Int32) (p : Nat) : Nat → Int32
  | 0 => 0
  | n + 1 => if sl T t b n = p then smv T t b v p n + v * nI (ho T t n) else smv T t b v p n
def gH (T : TownS) (t b : Nat) (v : Int32) (f : Fn) (n : Nat) : Fn := fun p => f p + smv T t b v p n
theorem gH_0 (T : TownS) (t b : Nat) (v : Int32) (f : Fn) : gH T t b v f 0 = f := by
  funext p
  show f p + 0 = f p
  rw [Int32.add_zero]
theorem gH_s (T : TownS) (t b : Nat) (v : Int32) (f : Fn) (n : Nat) : upd (gH T t b v f n) (sl T t b n) (gH T t b v f n (sl T t b n) + v * nI (ho T t n)) = gH T t b v f (n + 1) := by
  funext p
  by_cases h : p = sl T t b n
  · subst h
    rw [upd_s]
    show f (sl T t b n) + smv T t b v (sl T t b n) n + v * nI (ho T t n) = f (sl T t b n) + (if sl T t b n = sl T t b n then smv T t b v (sl T t b n) n + v * nI (ho T t n) else smv T t b v (sl T t b n) n)
    rw [if_pos rfl, Int32.add_assoc]
  · rw [upd_n h]
    show f p + smv T t b v p n = f p + (if sl T t b n = p then smv T t b v p n + v * nI (ho T t n) else smv T t b v p n)
    rw [if_neg (fun e => h e.symm)]
theorem smv_1 (T : TownS) (t b p : Nat) : ∀ n, smv T t b 1 p n = nI (sm T t b p n) := by
  intro n
  induction n with
  | zero => rfl
  | succ n ih =>
    show (if sl T t b n = p then smv T t b 1 p n + 1 * nI (ho T t n) else smv T t b 1 p n) = nI (if sl T t b n = p then sm T t b p n + ho T t n else sm T t b p n)
    by_cases h : sl T t b n = p
    · rw [if_pos h, if_pos h, ih, show (1 : Int32) = nI 1 from rfl, pk_mul, nI_add, Nat.one_mul]
    · rw [if_neg h, if_neg h, ih]
theorem i_back (a h s : Int32) (e : a + s = 0) : a + h + (s + -1 * h) = 0 := by grind
theorem smv_m (T : TownS) (t b p : Nat) : ∀ n, nI (sm T t b p n) + smv T t b (-1) p n = 0 := by
  intro n
  induction n with
  | zero => rfl
  | succ n ih =>
    show nI (if sl T t b n = p then sm T t b p n + ho T t n else sm T t b p n) + (if sl T t b n = p then smv T t b (-1) p n + -1 * nI (ho T t n) else smv T t b (-1) p n) = 0
    by_cases h : sl T t b n = p
    · rw [if_pos h, if_pos h, ← nI_add]
      exact i_back _ _ _ ih
    · rw [if_neg h, if_neg h, ih]
theorem gH_back (T : TownS) (t b : Nat) (f : Fn) (n : Nat) : gH T t b (-1) (gH T t b 1 f n) n = f := by
  funext p
  show f p + smv T t b 1 p n + smv T t b (-1) p n = f p
  rw [smv_1, Int32.add_assoc, smv_m, Int32.add_zero]
theorem sl_lt {T : TownS} (ok : tOk T) {t b : Nat} (ht : (t : Int) < (tThings T).toInt) (hb : b < 10000) (hg : gs T t b = -1) (hd : dq T t b (sc T t - 1) ≤ 399) {i : Nat} (hi : i < sc T t) : sl T t b i < 3200 ∧ tl T t i < 8 ∧ dq T t b i < 400 := by
  have h1 := dq_mono ok ht (show b < 20000 by omega) hg (sc T t - 1) (k := i) (by omega) (by omega)
  obtain ⟨g1, g2, g3, g4⟩ := isS_ok ok (isS_of ok ht hi)
  unfold sl
  omega
theorem m_gets {τ : MS} (ok : tOk (dc (m_m τ))) {t b : Nat} (ht : (t : Int) < (tThings (dc (m_m τ))).toInt) (hb : b < 10000) (hg : gs (dc (m_m τ)) t b = -1) (hd : dq (dc (m_m τ)) t b (sc (dc (m_m τ)) t - 1) ≤ 399) {O : Fn} (hO : ∀ k, k < sc (dc (m_m τ)) t → O k = gd (dc (m_m τ)) t b k) (v : Int32) (f : Fn) (w it lo : Int32) : f_X7_gets (nI t) v (mA τ O f w it lo) = some (0, mA τ O (gH (dc (m_m τ)) t b v f (sc (dc (m_m τ)) t)) w it lo) := by
  obtain ⟨c1, c2, c3, c4⟩ := sc_ok ok ht
  have s1 : ∀ g, f_X7_steps (nI t) (mA τ O g w it lo) = some (nI (sc (dc (m_m τ)) t), mA τ O g w it lo) := fun g => by
    rw [m_steps _ c1, mA_m, c2]
  have e : wl f_X7_gets_L2_2s (nI t, v, (0 : Int32), mA τ O f w it lo) = some (.inr (mA τ O (gH (dc (m_m τ)) t b v f (sc (dc (m_m τ)) t)) w it lo)) := by
    refine wl_for' (fun i => (nI t, v, nI i, mA τ O (gH (dc (m_m τ)) t b v f i) w it lo)) (sc (dc (m_m τ)) t) ?_ ?_ ?_
    · show (nI t, v, (0 : Int32), mA τ O f w it lo) = (nI t, v, nI 0, mA τ O (gH (dc (m_m τ)) t b v f 0) w it lo)
      rw [gH_0]; rfl
    · intro i hi
      have hs := isS_of ok ht hi
      obtain ⟨l1, l2', l3⟩ := sl_lt ok ht hb hg hd hi
      have s2 : f_X7_of (nI t) (nI i) 0 (mA τ O (gH (dc (m_m τ)) t b v f i) w it lo) = some (nI (tl (dc (m_m τ)) t i), mA τ O (gH (dc (m_m τ)) t b v f i) w it lo) := m_of0 (u := mA τ O (gH (dc (m_m τ)) t b v f i) w it lo) ok hs
      have s3 : f_X7_of (nI t) (nI i) 1 (mA τ O (gH (dc (m_m τ)) t b v f i) w it lo) = some (nI (ho (dc (m_m τ)) t i), mA τ O (gH (dc (m_m τ)) t b v f i) w it lo) := m_of1 (u := mA τ O (gH (dc (m_m τ)) t b v f i) w it lo) ok hs
      have s4 : O i = nI (dq (dc (m_m τ)) t b i) := by rw [hO i hi]; exact (dq_ok ok ht (by omega) hg hi).1
      have s5 : f_X7_slot (nI (tl (dc (m_m τ)) t i)) (nI (dq (dc (m_m τ)) t b i)) (mA τ O (gH (dc (m_m τ)) t b v f i) w it lo) = some (nI (sl (dc (m_m τ)) t b i), mA τ O (gH (dc (m_m τ)) t b v f i) w it lo) := by
        unfold f_X7_slot sl
        rw [show (400 : Int32) = nI 400 from rfl, pk_mul, nI_add]
      show f_X7_gets_L2_2 (nI t) v (nI i) (mA τ O (gH (dc (m_m τ)) t b v f i) w it lo) = some (.inl (nI t, v, nI (i + 1), mA τ O (gH (dc (m_m τ)) t b v f (i + 1)) w it lo))
      unfold f_X7_gets_L2_2
      rw [s1, bnd_some, if_neg (nI_ge hi (by omega)), s2, bnd_some, ck_nI (by omega) (by omega), cl_nI (by omega), mA_o, s4, s5, bnd_some, ck_nI l1 (by omega), s3, bnd_some, cl_nI (by omega), mA_h, nmv, ck_k l1 (by omega), gH_s, nmv, nmv, nI_s1, mA_hs]
    · show f_X7_gets_L2_2 (nI t) v (nI (sc (dc (m_m τ)) t)) (mA τ O (gH (dc (m_m τ)) t b v f (sc (dc (m_m τ)) t)) w it lo) = _
      unfold f_X7_gets_L2_2
      rw [s1, bnd_some, if_pos (Int32.le_refl _)]
  unfold f_X7_gets
  rw [e]
  rfl
theorem m_areFree {τ : MS} (ok : tOk (dc (m_m τ))) {t b : Nat} (ht : (t : Int) < (tThings (dc (m_m τ))).toInt) (hb : b < 10000) (hg : gs (dc (m_m τ)) t b = -1) (hd : dq (dc (m_m τ)) t b (sc (dc (m_m τ)) t - 1) ≤ 399) {O : Fn} (hO : ∀ k, k < sc (dc (m_m τ)) t → O k = gd (dc (m_m τ)) t b k) {f : Fn} {h : Nat → Nat} (hf : ∀ p, p < 3200 → f p = nI (h p)) (hh : ∀ p, h p ≤ 8) (w it lo : Int32) : f_X7_areFree (nI t) (mA τ O f w it lo) = some (if frP (dc (m_m τ)) t b h (sc (dc (m_m τ)) t) (sc (dc (m_m τ)) t) then 1 else 0, mA τ O f w it lo) := by
  obtain ⟨c1, c2, c3, c4⟩ := sc_ok ok ht
  have s1 : ∀ g, f_X7_steps (nI t) (mA τ O g w it lo) = some (nI (sc (dc (m_m τ)) t), mA τ O g w it lo) := fun g => by
    rw [m_steps _ c1, mA_m, c2]
  have e : wl f_X7_areFree_L10_10s (nI t, (1 : Int32), (0 : Int32), mA τ O (gH (dc (m_m τ)) t b 1 f (sc (dc (m_m τ)) t)) w it lo) = some (.inr (nI t, if frP (dc (m_m τ)) t b h (sc (dc (m_m τ)) t) (sc (dc (m_m τ)) t) then 1 else 0, mA τ O (gH (dc (m_m τ)) t b 1 f (sc (dc (m_m τ)) t)) w it lo)) := by
    refine wl_for' (fun i => (nI t, if frP (dc (m_m τ)) t b h i (sc (dc (m_m τ)) t) then 1 else 0, nI i, mA τ O (gH (dc (m_m τ)) t b 1 f (sc (dc (m_m τ)) t)) w it lo)) (sc (dc (m_m τ)) t) ?_ ?_ ?_
    · show (nI t, (1 : Int32), (0 : Int32), mA τ O (gH (dc (m_m τ)) t b 1 f (sc (dc (m_m τ)) t)) w it lo) = (nI t, if frP (dc (m_m τ)) t b h 0 (sc (dc (m_m τ)) t) then 1 else 0, nI 0, mA τ O (gH (dc (m_m τ)) t b 1 f (sc (dc (m_m τ)) t)) w it lo)
      rw [if_pos (show frP (dc (m_m τ)) t b h 0 (sc (dc (m_m τ)) t) from fun i hi => by omega)]; rfl
    · intro i hi
      have hs := isS_of ok ht hi
      obtain ⟨l1, l2', l3⟩ := sl_lt ok ht hb hg hd hi
      have hsm := sm_le ok (b := b) (p := sl (dc (m_m τ)) t b i) ht (sc (dc (m_m τ)) t) (Nat.le_refl _)
      have h8 := hh (sl (dc (m_m τ)) t b i)
      have s2 : f_X7_of (nI t) (nI i) 0 (mA τ O (gH (dc (m_m τ)) t b 1 f (sc (dc (m_m τ)) t)) w it lo) = some (nI (tl (dc (m_m τ)) t i), mA τ O (gH (dc (m_m τ)) t b 1 f (sc (dc (m_m τ)) t)) w it lo) := m_of0 (u := mA τ O (gH (dc (m_m τ)) t b 1 f (sc (dc (m_m τ)) t)) w it lo) ok hs
      have s4 : O i = nI (dq (dc (m_m τ)) t b i) := by rw [hO i hi]; exact (dq_ok ok ht (by omega) hg hi).1
      have s5 : f_X7_slot (nI (tl (dc (m_m τ)) t i)) (nI (dq (dc (m_m τ)) t b i)) (mA τ O (gH (dc (m_m τ)) t b 1 f (sc (dc (m_m τ)) t)) w it lo) = some (nI (sl (dc (m_m τ)) t b i), mA τ O (gH (dc (m_m τ)) t b 1 f (sc (dc (m_m τ)) t)) w it lo) := by
        unfold f_X7_slot sl
        rw [show (400 : Int32) = nI 400 from rfl, pk_mul, nI_add]
      have s6 : gH (dc (m_m τ)) t b 1 f (sc (dc (m_m τ)) t) (sl (dc (m_m τ)) t b i) = nI (h (sl (dc (m_m τ)) t b i) + sm (dc (m_m τ)) t b (sl (dc (m_m τ)) t b i) (sc (dc (m_m τ)) t)) := by
        show f (sl (dc (m_m τ)) t b i) + smv (dc (m_m τ)) t b 1 (sl (dc (m_m τ)) t b i) (sc (dc (m_m τ)) t) = _
        rw [smv_1, hf _ l1, nI_add]
      show f_X7_areFree_L10_10 (nI t) (if frP (dc (m_m τ)) t b h i (sc (dc (m_m τ)) t) then 1 else 0) (nI i) (mA τ O (gH (dc (m_m τ)) t b 1 f (sc (dc (m_m τ)) t)) w it lo) = some (.inl (nI t, if frP (dc (m_m τ)) t b h (i + 1) (sc (dc (m_m τ)) t) then 1 else 0, nI (i + 1), mA τ O (gH (dc (m_m τ)) t b 1 f (sc (dc (m_m τ)) t)) w it lo))
      unfold f_X7_areFree_L10_10
      rw [s1, bnd_some, if_neg (nI_ge hi (by omega))]
      by_cases c : frP (dc (m_m τ)) t b h i (sc (dc (m_m τ)) t)
      · rw [if_pos c, if_neg (by decide), s2, bnd_some, ck_nI (by omega) (by omega), cl_nI (by omega), mA_o, s4, s5, bnd_some, ck_nI l1 (by omega), cl_nI (by omega), mA_h, s6]
        by_cases q : h (sl (dc (m_m τ)) t b i) + sm (dc (m_m τ)) t b (sl (dc (m_m τ)) t b i) (sc (dc (m_m τ)) t) ≤ 8
        · rw [if_neg (show ¬ (8 : Int32) < nI (h (sl (dc (m_m τ)) t b i) + sm (dc (m_m τ)) t b (sl (dc (m_m τ)) t b i) (sc (dc (m_m τ)) t)) from nI_nlt (b := _) (a := 8) q (by omega)), nmv, nI_s1, if_pos (show frP (dc (m_m τ)) t b h (i + 1) (sc (dc (m_m τ)) t) from fun j hj => by
            by_cases e : j = i
            · rw [e]; exact q
            · exact c j (by omega))]
        · rw [if_pos (show (8 : Int32) < nI (h (sl (dc (m_m τ)) t b i) + sm (dc (m_m τ)) t b (sl (dc (m_m τ)) t b i) (sc (dc (m_m τ)) t)) from nI_lt (a := 8) (by omega) (by omega)), nmv, nI_s1, if_neg (show ¬ frP (dc (m_m τ)) t b h (i + 1) (sc (dc (m_m τ)) t) from fun g => q (g i (by omega)))]
      · rw [if_neg c, if_pos rfl, nmv, nI_s1, if_neg (show ¬ frP (dc (m_m τ)) t b h (i + 1) (sc (dc (m_m τ)) t) from fun g => c (fun j hj => g j (by omega)))]
    · show f_X7_areFree_L10_10 (nI t) (if frP (dc (m_m τ)) t b h (sc (dc (m_m τ)) t) (sc (dc (m_m τ)) t) then 1 else 0) (nI (sc (dc (m_m τ)) t)) (mA τ O (gH (dc (m_m τ)) t b 1 f (sc (dc (m_m τ)) t)) w it lo) = _
      unfold f_X7_areFree_L10_10
      rw [s1, bnd_some, if_pos (Int32.le_refl _)]
  unfold f_X7_areFree
  rw [m_gets ok ht hb hg hd hO, bnd_some, e]
  show (bnd (f_X7_gets (nI t) (-1 : Int32) (mA τ O (gH (dc (m_m τ)) t b 1 f (sc (dc (m_m τ)) t)) w it lo)) fun r8 u9 => if ¬ ((if frP (dc (m_m τ)) t b h (sc (dc (m_m τ)) t) (sc (dc (m_m τ)) t) then (1 : Int32) else 0) = 0 ∨ (if frP (dc (m_m τ)) t b h (sc (dc (m_m τ)) t) (sc (dc (m_m τ)) t) then (1 : Int32) else 0) = 1) then none else some (if frP (dc (m_m τ)) t b h (sc (dc (m_m τ)) t) (sc (dc (m_m τ)) t) then (1 : Int32) else 0, u9)) = _
  rw [m_gets ok ht hb hg hd hO, bnd_some, gH_back, ck_z01]
theorem dc_ordN {m : Fn} {o k : Nat} (ho : o < 5) (hk : k < 3) : m (222 + 3 * o + k) = tOrd (dc m) (o * 3 + k) := by
  rw [dc_Ord, if_pos (by omega)]
  congr 1; omega
/-- a begin of which no run can be made is passed over -/
theorem m_skip {τ : MS} (ok : tOk (dc (m_m τ))) {o : Nat} (hoo : (o : Int) < (tOrders (dc (m_m τ))).toInt) {a : Ac} (ha : ∀ p, a.1 p ≤ 8) {f : Fn} (hf : ∀ p, p < 3200 → f p = nI (a.1 p)) (w it lo : Int32) {j : Nat} (hj : j < 201) (hp : pb (dc (m_m τ)) o a.1 j = false) (L : Fn) : f_X7_takesOrder_L15_15s (nI o, nI (oT (dc (m_m τ)) o), nI j, mA τ L f w it lo) = some (.inl (nI o, nI (oT (dc (m_m τ)) o), nI (j + 1), mA τ (gl (dc (m_m τ)) (oT (dc (m_m τ)) o) j L) f w it lo)) := by
  obtain ⟨o1, ht, o5⟩ := oT_ok ok hoo
  have hnp : ¬ pb (dc (m_m τ)) o a.1 j = true := by rw [hp]; decide
  rw [pb_t] at hnp
  generalize oT (dc (m_m τ)) o = t at ht hnp
  obtain ⟨c1, c2, c3, c4⟩ := sc_ok ok ht
  have s1 : f_X7_runs (nI t) (nI j) (mA τ L f w it lo) = some (gs (dc (m_m τ)) t j, mA τ (gl (dc (m_m τ)) t j L) f w it lo) := m_runs (u := mA τ L f w it lo) ok ht (by omega)
  have s2 : f_X7_lastDay (nI t) (mA τ (gl (dc (m_m τ)) t j L) f w it lo) = some (gl (dc (m_m τ)) t j L (sc (dc (m_m τ)) t - 1), mA τ (gl (dc (m_m τ)) t j L) f w it lo) := m_last (u := mA τ (gl (dc (m_m τ)) t j L) f w it lo) ok ht
  show f_X7_takesOrder_L15_15 (nI o) (nI t) (nI j) (mA τ L f w it lo) = _
  unfold f_X7_takesOrder_L15_15
  rw [if_neg (show ¬ (200 : Int32) < nI j from nI_nlt (a := 200) (by omega) (by omega)), s1, bnd_some]
  rcases gs_or ok ht (b := j) with ⟨g0, g1, g2⟩ | ⟨g1, g2⟩
  · obtain ⟨d1, d2, d3⟩ := dq_ok ok ht (show j < 20000 by omega) g0 (k := sc (dc (m_m τ)) t - 1) (by omega)
    rw [if_neg g1, s2, bnd_some, gl_gd ok ht (by omega) g0 L (by omega), d1]
    by_cases q : dq (dc (m_m τ)) t j (sc (dc (m_m τ)) t - 1) ≤ 399
    · rw [if_neg (show ¬ (399 : Int32) < nI (dq (dc (m_m τ)) t j (sc (dc (m_m τ)) t - 1)) from nI_nlt (a := 399) q (by omega)), m_areFree ok ht (by omega) g0 q (fun k hk => gl_gd ok ht (by omega) g0 L hk) hf ha, bnd_some, if_pos (show (if frP (dc (m_m τ)) t j a.1 (sc (dc (m_m τ)) t) (sc (dc (m_m τ)) t) then (1 : Int32) else 0) = 0 from if_neg (fun g => hnp ⟨g0, q, g⟩)), nmv, nI_s1]
    · rw [if_pos (show (399 : Int32) < nI (dq (dc (m_m τ)) t j (sc (dc (m_m τ)) t - 1)) from nI_lt (a := 399) (by omega) (by omega)), nmv, nI_s1]
  · rw [if_pos g1, nmv, nI_s1]
theorem m_take {τ : MS} (ok : tOk (dc (m_m τ))) {o : Nat} (hoo : (o : Int) < (tOrders (dc (m_m τ))).toInt) {a : Ac} (ha : ∀ p, a.1 p ≤ 8) {O f : Fn} (hf : ∀ p, p < 3200 → f p = nI (a.1 p)) : ∃ O' f', f_X7_takesOrder (nI o) (mA τ O f a.2.1 a.2.2.1 a.2.2.2) = some (0, mA τ O' f' (tk (dc (m_m τ)) o a).2.1 (tk (dc (m_m τ)) o a).2.2.1 (tk (dc (m_m τ)) o a).2.2.2) ∧ ∀ p, p < 3200 → f' p = nI ((tk (dc (m_m τ)) o a).1 p) := by
  obtain ⟨o1, ht, o5⟩ := oT_ok ok hoo
  have st : f_X7_takesOrder (nI o) (mA τ O f a.2.1 a.2.2.1 a.2.2.2) = bne (wl f_X7_takesOrder_L15_15s (nI o, nI (oT (dc (m_m τ)) o), (0 : Int32), mA τ O f a.2.1 a.2.2.1 a.2.2.2)) (fun a => some a) fun b => nmv b fun u6 => some ((0 : Int32), u6) := by
    unfold f_X7_takesOrder
    rw [n222, n3, pk_mul, nI_add, nmv, ck_nI (by omega) (by omega), cl_nI (by omega), mA_m, show m_m τ (222 + 3 * o) = tOrd (dc (m_m τ)) (o * 3) from dc_ordN (k := 0) o5 (by omega), o1, nmv]
  rw [st]
  rcases tk_cases (dc (m_m τ)) o a with ⟨e, hn⟩ | ⟨b, hb, hp, hbn, hc⟩
  · rw [e]
    have key : ∀ n j L, j + n = 201 → ∃ L', wl f_X7_takesOrder_L15_15s (nI o, nI (oT (dc (m_m τ)) o), nI j, mA τ L f a.2.1 a.2.2.1 a.2.2.2) = some (.inr (mA τ L' f a.2.1 a.2.2.1 a.2.2.2)) := by
      intro n
      induction n with
      | zero =>
        intro j L hj
        have hj2 : j = 201 := by omega
        subst hj2
        refine ⟨L, wl_out ?_⟩
        show f_X7_takesOrder_L15_15 (nI o) (nI (oT (dc (m_m τ)) o)) (nI 201) (mA τ L f a.2.1 a.2.2.1 a.2.2.2) = _
        unfold f_X7_takesOrder_L15_15
        rw [if_pos (by decide)]
      | succ n ih =>
        intro j L hj
        obtain ⟨L', e2⟩ := ih (j + 1) (gl (dc (m_m τ)) (oT (dc (m_m τ)) o) j L) (by omega)
        exact ⟨L', by rw [wl_in (m_skip ok hoo ha hf a.2.1 a.2.2.1 a.2.2.2 (by omega) (hn j (by omega)) L)]; exact e2⟩
    obtain ⟨L', e2⟩ := key 201 0 O (by omega)
    have e2' : wl f_X7_takesOrder_L15_15s (nI o, nI (oT (dc (m_m τ)) o), (0 : Int32), mA τ O f a.2.1 a.2.2.1 a.2.2.2) = some (.inr (mA τ L' f a.2.1 a.2.2.1 a.2.2.2)) := e2
    exact ⟨L', f, by rw [e2']; rfl, hf⟩
  · have key : ∀ n j L, j + n = b → ∃ L', wl f_X7_takesOrder_L15_15s (nI o, nI (oT (dc (m_m τ)) o), nI j, mA τ L f a.2.1 a.2.2.1 a.2.2.2) = wl f_X7_takesOrder_L15_15s (nI o, nI (oT (dc (m_m τ)) o), nI b, mA τ L' f a.2.1 a.2.2.1 a.2.2.2) := by
      intro n
      induction n with
      | zero => intro j L hj; rw [show j = b by omega]; exact ⟨L, rfl⟩
      | succ n ih =>
        intro j L hj
        obtain ⟨L', e2⟩ := ih (j + 1) (gl (dc (m_m τ)) (oT (dc (m_m τ)) o) j L) (by omega)
        exact ⟨L', by rw [wl_in (m_skip ok hoo ha hf a.2.1 a.2.2.1 a.2.2.2 (by omega) (hbn j (by omega)) L)]; exact e2⟩
    obtain ⟨L, e2⟩ := key b 0 O (by omega)
    have e2' : wl f_X7_takesOrder_L15_15s (nI o, nI (oT (dc (m_m τ)) o), (0 : Int32), mA τ O f a.2.1 a.2.2.1 a.2.2.2) = wl f_X7_takesOrder_L15_15s (nI o, nI (oT (dc (m_m τ)) o), nI b, mA τ L f a.2.1 a.2.2.1 a.2.2.2) := e2
    rw [e2']
    obtain ⟨p1, p2, p3⟩ := pb_t.mp hp
    have hmk : mk (dc (m_m τ)) o b a = (ad (dc (m_m τ)) (oT (dc (m_m τ)) o) b a.1, a.2.1 + oW (dc (m_m τ)) o, a.2.2.1 ||| ((1 : Int32) <<< (nI o &&& 31)), if a.2.2.2 < nI (dq (dc (m_m τ)) (oT (dc (m_m τ)) o) b (sc (dc (m_m τ)) (oT (dc (m_m τ)) o) - 1)) then nI (dq (dc (m_m τ)) (oT (dc (m_m τ)) o) b (sc (dc (m_m τ)) (oT (dc (m_m τ)) o) - 1)) else a.2.2.2) := rfl
    rw [hmk] at hc
    generalize oT (dc (m_m τ)) o = t at ht p1 p2 p3 hc
    obtain ⟨c1, c2, c3, c4⟩ := sc_ok ok ht
    obtain ⟨d1, d2, d3⟩ := dq_ok ok ht (show b < 20000 by omega) p1 (k := sc (dc (m_m τ)) t - 1) (by omega)
    have hO : ∀ k, k < sc (dc (m_m τ)) t → gl (dc (m_m τ)) t b L k = gd (dc (m_m τ)) t b k := fun k hk => gl_gd ok ht (by omega) p1 L hk
    have s1 : f_X7_runs (nI t) (nI b) (mA τ L f a.2.1 a.2.2.1 a.2.2.2) = some (gs (dc (m_m τ)) t b, mA τ (gl (dc (m_m τ)) t b L) f a.2.1 a.2.2.1 a.2.2.2) := m_runs (u := mA τ L f a.2.1 a.2.2.1 a.2.2.2) ok ht (by omega)
    have s2 : ∀ g w it lo, f_X7_lastDay (nI t) (mA τ (gl (dc (m_m τ)) t b L) g w it lo) = some (nI (dq (dc (m_m τ)) t b (sc (dc (m_m τ)) t - 1)), mA τ (gl (dc (m_m τ)) t b L) g w it lo) := fun g w it lo => by
      have q : f_X7_lastDay (nI t) (mA τ (gl (dc (m_m τ)) t b L) g w it lo) = some (gl (dc (m_m τ)) t b L (sc (dc (m_m τ)) t - 1), mA τ (gl (dc (m_m τ)) t b L) g w it lo) := m_last (u := mA τ (gl (dc (m_m τ)) t b L) g w it lo) ok ht
      rw [q, hO _ (by omega), d1]
    have go : ∀ r, f_X7_takesOrder_L15_15 (nI o) (nI t) (nI b) (mA τ L f a.2.1 a.2.2.1 a.2.2.2) = some (.inr (.inl r)) → (bne (wl f_X7_takesOrder_L15_15s (nI o, nI t, nI b, mA τ L f a.2.1 a.2.2.1 a.2.2.2)) (fun a => some a) fun b => nmv b fun u6 => some ((0 : Int32), u6)) = some r := by
      intro r hr
      have hr' : f_X7_takesOrder_L15_15s (nI o, nI t, nI b, mA τ L f a.2.1 a.2.2.1 a.2.2.2) = some (.inr (.inl r)) := hr
      rw [wl_out hr']; rfl
    have hdue : m_m τ (222 + 3 * o + 1) = oD (dc (m_m τ)) o := dc_ordN o5 (by omega)
    have hwor : m_m τ (222 + 3 * o + 2) = oW (dc (m_m τ)) o := dc_ordN o5 (by omega)
    have st2 : f_X7_takesOrder_L15_15 (nI o) (nI t) (nI b) (mA τ L f a.2.1 a.2.2.1 a.2.2.2) = f_X7_takesOrder_L15_15 (nI o) (nI t) (nI b) (mA τ L f a.2.1 a.2.2.1 a.2.2.2) := rfl
    conv at st2 => rhs; unfold f_X7_takesOrder_L15_15
    rw [if_neg (show ¬ (200 : Int32) < nI b from nI_nlt (a := 200) (by omega) (by omega)), s1, bnd_some, p1, if_neg (by decide), s2, bnd_some, if_neg (show ¬ (399 : Int32) < nI (dq (dc (m_m τ)) t b (sc (dc (m_m τ)) t - 1)) from nI_nlt (a := 399) p2 (by omega)), m_areFree ok ht (by omega) p1 p2 hO hf ha, bnd_some, if_pos p3, if_neg (by decide), s2, bnd_some, n222, n3, pk_mul, nI_add, nI_s1, nmv, ck_nI (by omega) (by omega), cl_nI (by omega), mA_m, hdue] at st2
    rcases hc with ⟨q1, e⟩ | ⟨q1, e⟩
    · rw [if_neg (Int32.not_le.mpr q1)] at st2
      rw [e]
      exact ⟨_, f, go _ st2, hf⟩
    · rw [if_pos (Int32.not_lt.mp q1), m_gets ok ht (by omega) p1 p2 hO, bnd_some, n2, nI_add, nmv, ck_nI (by omega) (by omega), cl_nI (by omega), mA_m, hwor] at st2
      rw [e]
      have st3 : f_X7_takesOrder_L15_15 (nI o) (nI t) (nI b) (mA τ L f a.2.1 a.2.2.1 a.2.2.2) = (bnd (f_X7_lastDay (nI t) (mA τ (gl (dc (m_m τ)) t b L) (gH (dc (m_m τ)) t b 1 f (sc (dc (m_m τ)) t)) (a.2.1 + oW (dc (m_m τ)) o) (a.2.2.1 ||| ((1 : Int32) <<< (nI o &&& 31))) a.2.2.2)) fun r26 u27 => (if r26 ≤ (m_lastOf u27) then nmv (m_lastOf u27) fun x29 => nmv (mu_lastOf u27 x29) fun u30 => some (.inr (.inl ((0 : Int32), u30))) else bnd (f_X7_lastDay (nI t) u27) fun r31 u32 => nmv (mu_lastOf u32 r31) fun u33 => some (.inr (.inl ((0 : Int32), u33))))) := st2
      rw [s2, bnd_some] at st3
      refine ⟨gl (dc (m_m τ)) t b L, gH (dc (m_m τ)) t b 1 f (sc (dc (m_m τ)) t), ?_, ?_⟩
      · refine go _ ?_
        rw [st3]
        by_cases q2 : nI (dq (dc (m_m τ)) t b (sc (dc (m_m τ)) t - 1)) ≤ a.2.2.2
        · rw [if_pos (show nI (dq (dc (m_m τ)) t b (sc (dc (m_m τ)) t - 1)) ≤ m_lastOf (mA τ (gl (dc (m_m τ)) t b L) (gH (dc (m_m τ)) t b 1 f (sc (dc (m_m τ)) t)) (a.2.1 + oW (dc (m_m τ)) o) (a.2.2.1 ||| ((1 : Int32) <<< (nI o &&& 31))) a.2.2.2) from q2), if_neg (Int32.not_lt.mpr q2)]
          rfl
        · rw [if_neg (show ¬ nI (dq (dc (m_m τ)) t b (sc (dc (m_m τ)) t - 1)) ≤ m_lastOf (mA τ (gl (dc (m_m τ)) t b L) (gH (dc (m_m τ)) t b 1 f (sc (dc (m_m τ)) t)) (a.2.1 + oW (dc (m_m τ)) o) (a.2.2.1 ||| ((1 : Int32) <<< (nI o &&& 31))) a.2.2.2) from q2), if_pos (Int32.not_le.mp q2), s2, bnd_some]
          rfl
      · intro p hp3
        show f p + smv (dc (m_m τ)) t b 1 p (sc (dc (m_m τ)) t) = nI (a.1 p + sm (dc (m_m τ)) t b p (sc (dc (m_m τ)) t))
        rw [hf p hp3, smv_1, nI_add]
