theorem x_num' {u : XS} {a b w : Int32} {t i k : Nat} (ha : a = nI t) (hb : b = nI i) (hw : w = nI k) (ht : t < 8) (hi : i < 8) (hk : k < 3) : f_X5_stepNumber a b w u = some (tNums (xT u) (t * 24 + i * 3 + k), u) := by
  subst ha hb hw; exact x_num u ht hi hk
theorem op_thingOf {σ : XS} {τ : MS} (h : Rel σ τ) (a b c : Int32) : Op (f_X6_thingOf a b c σ) (f_X7_thingOf a b c τ) := by
  obtain ⟨hT, ok, hr⟩ := id h
  have okx : tOk (xT σ) := by rw [hT]; exact ok
  unfold f_X6_thingOf f_X7_thingOf f_X7_thingOf_41
  simp only [x_hasThing okx, x_hasStep okx, m_isThing ok, m_isStep ok, w_in, m_in, bnd_some, ite01, nmv, Int32.toInt_toInt64, Int32.reduceToInt, Int64.reduceToInt, fx_0, fm_0, hT, tm1', tm2']
  by_cases h1 : pThing (dc (m_m τ)) a
  · rw [if_neg (not_not_intro h1), if_neg (not_not_intro h1)]
    obtain ⟨t, rfl, ht, -⟩ := i_ex h1.1
    have h8 : t < 8 := by have := ok.2.2.2.1; have := h1.2; omega
    by_cases e1 : b = -1
    · have hb : -2 ≤ b.toInt ∧ b.toInt ≤ -1 := by rw [e1, tm1]; omega
      rw [if_pos e1, if_neg (not_not_intro hb), if_pos e1]
      simp (disch := omega) only [cl', nIneg, leF, or_self, if_false, m_kindOf, bnd_some]
      exact Op.mk' h
    · rw [if_neg e1]
      have hb1 : b.toInt ≠ -1 := fun q => e1 (by rw [i_eq, q, tm1])
      by_cases e2 : b = -2
      · have hb : -2 ≤ b.toInt ∧ b.toInt ≤ -1 := by rw [e2, tm2]; omega
        rw [if_pos e2, if_neg (not_not_intro hb), if_neg e1]
        simp (disch := omega) only [cl', nIneg, leF, or_self, if_false, m_steps, bnd_some]
        exact Op.mk' h
      · have hb2 : b.toInt ≠ -2 := fun q => e2 (by rw [i_eq, q, tm2])
        have hb : ¬ (-2 ≤ b.toInt ∧ b.toInt ≤ -1) := by omega
        rw [if_neg e2, if_pos hb]
        by_cases h2 : pStep (dc (m_m τ)) (nI t) b
        · rw [if_neg (not_not_intro h2), if_neg (not_not_intro h2)]
          by_cases h3 : 0 ≤ c.toInt ∧ c.toInt ≤ 2
          · rw [if_neg (not_not_intro h3), if_neg (not_not_intro h3)]
            obtain ⟨i, rfl, hi, -⟩ := i_ex h2.2.1
            obtain ⟨w, rfl, hw, -⟩ := i_ex h3.1
            have hi8 : i < 8 := by
              have q := h2.2.2
              have := ok.2.2.2.2.2.2.2.1 t (by omega)
              rw [cl_nI (by omega)] at q
              omega
            rw [x_num σ h8 hi8 (by omega), m_of τ h8 hi8 (by omega), bnd_some, bnd_some, hT]
            exact Op.mk' h
          · rw [if_pos h3, if_pos h3]
            exact Op.mk' (h.fd (by decide))
        · rw [if_pos h2, if_pos h2]
          exact Op.mk' (h.fd (by decide))
  · rw [if_pos h1, if_pos h1, if_pos (fun q => h1 q.1)]
    exact Op.mk' (h.fd (by decide))
/-- one number of a step changes -/
theorem tOk_num {T : TownS} (ok : tOk T) {t i w : Nat} (ht : (t : Int) < (tThings T).toInt) (hi : (i : Int) < (tCounts T t).toInt) {v : Int32} (hw : w < 3) (h0 : w = 0 → pTool T v) (h1 : w = 1 → 1 ≤ v.toInt ∧ v.toInt ≤ 8) (h2 : w = 2 → 0 ≤ v.toInt ∧ v.toInt ≤ 99) : tOk (uNums T (upd (tNums T) (t * 24 + i * 3 + w) v)) := by
  obtain ⟨o1, o2, o3, o4, o5, o6, o7, o8, o9, o10, o11⟩ := ok
  refine ⟨o1, o2, o3, o4, o5, o6, o7, o8, ?_, o10, o11⟩
  intro k j hk hj
  have q := o9 k j hk hj
  have c8 := (o8 k hk).2
  have hj : (j : Int) < (tCounts T k).toInt := hj
  have c9 := (o8 t ht).2
  have hj8 : j < 8 := by omega
  have hi8 : i < 8 := by omega
  have key : ∀ x, x < 3 → k * 24 + j * 3 + x = t * 24 + i * 3 + w → k = t ∧ j = i ∧ x = w := by
    intro x hx he
    have hk8 : k < 8 := by have : (k : Int) < (tThings T).toInt := hk; omega
    refine ⟨by omega, by omega, by omega⟩
  refine ⟨?_, ?_, ?_⟩
  · show 0 ≤ (upd _ _ v (k * 24 + j * 3)).toInt ∧ (upd _ _ v (k * 24 + j * 3)).toInt < _
    by_cases e : k * 24 + j * 3 = t * 24 + i * 3 + w
    · rw [e, upd_s]; exact h0 (key 0 (by omega) e).2.2.symm
    · rw [upd_n e]; exact q.1
  · show 1 ≤ (upd _ _ v (k * 24 + j * 3 + 1)).toInt ∧ (upd _ _ v (k * 24 + j * 3 + 1)).toInt ≤ _
    by_cases e : k * 24 + j * 3 + 1 = t * 24 + i * 3 + w
    · rw [e, upd_s]; exact h1 (key 1 (by omega) e).2.2.symm
    · rw [upd_n e]; exact q.2.1
  · show 0 ≤ (upd _ _ v (k * 24 + j * 3 + 2)).toInt ∧ (upd _ _ v (k * 24 + j * 3 + 2)).toInt ≤ _
    by_cases e : k * 24 + j * 3 + 2 = t * 24 + i * 3 + w
    · rw [e, upd_s]; exact h2 (key 2 (by omega) e).2.2.symm
    · rw [upd_n e]; exact q.2.2
/-- whether a number may stand in a step -/
abbrev pVal (T : TownS) (c d : Int32) : Prop := (c = 0 ∧ pTool T d) ∨ (c = 1 ∧ 1 ≤ d.toInt ∧ d.toInt ≤ 8) ∨ (c = 2 ∧ 0 ≤ d.toInt ∧ d.toInt ≤ 99)
theorem ifif {α : Type} {P Q : Prop} [Decidable P] [Decidable Q] {x y : α} (h : P ↔ Q) : (if P then x else y) = if Q then x else y := by
  by_cases hp : P
  · rw [if_pos hp, if_pos (h.mp hp)]
  · rw [if_neg hp, if_neg (fun q => hp (h.mpr q))]
theorem m_change_54 {u : MS} (ok : tOk (dc (m_m u))) (a b c d k : Int32) : f_X7_change_54 a b c d k u = if pStep (dc (m_m u)) a b ∧ ¬ k = 0 then bnd (f_X7_at a b c u) (fun r9 u10 => bnd (f_X7_becomes r9 d u10) fun r11 u12 => some (r11, u12)) else some (-1000001, fdM u 0) := by
  unfold f_X7_change_54
  simp only [m_isStep ok, bnd_some, ite01, fm_0]
  by_cases h1 : pStep (dc (m_m u)) a b
  · rw [if_neg (not_not_intro h1)]
    by_cases h2 : k = 0
    · rw [if_pos h2, if_neg (fun q => q.2 h2)]
    · rw [if_neg h2, if_pos ⟨h1, h2⟩]
  · rw [if_pos h1, if_neg (fun q => h1 q.1)]
theorem m_change {u : MS} (ok : tOk (dc (m_m u))) (a b c d : Int32) : f_X7_change a b c d u = if pStep (dc (m_m u)) a b ∧ pVal (dc (m_m u)) c d then bnd (f_X7_at a b c u) (fun r9 u10 => bnd (f_X7_becomes r9 d u10) fun r11 u12 => some (r11, u12)) else some (-1000001, fdM u 0) := by
  unfold f_X7_change
  simp only [m_isTool ok, m_in, bnd_some, ite01, Int32.toInt_toInt64, Int64.reduceToInt, m_change_54 ok]
  by_cases c0 : c = 0
  · rw [if_pos c0]
    refine ifif ⟨fun q => ⟨q.1, Or.inl ⟨c0, by have := q.2; simpa using this⟩⟩, fun q => ⟨q.1, ?_⟩⟩
    rcases q.2 with ⟨_, q2⟩ | ⟨q1, _⟩ | ⟨q1, _⟩
    · simpa using q2
    · rw [c0] at q1; exact absurd q1 (by decide)
    · rw [c0] at q1; exact absurd q1 (by decide)
  · rw [if_neg c0]
    by_cases c1 : c = 1
    · rw [if_pos c1]
      refine ifif ⟨fun q => ⟨q.1, Or.inr (Or.inl ⟨c1, by have := q.2; simpa using this⟩)⟩, fun q => ⟨q.1, ?_⟩⟩
      rcases q.2 with ⟨q1, _⟩ | ⟨_, q2⟩ | ⟨q1, _⟩
      · exact absurd q1 c0
      · simpa using q2
      · rw [c1] at q1; exact absurd q1 (by decide)
    · rw [if_neg c1]
      by_cases c2 : c = 2
      · rw [if_pos c2]
        by_cases hd : 0 ≤ d.toInt ∧ d.toInt ≤ 99
        · rw [if_neg (not_not_intro hd)]
          exact ifif ⟨fun q => ⟨q.1, Or.inr (Or.inr ⟨c2, hd⟩)⟩, fun q => ⟨q.1, by decide⟩⟩
        · rw [if_pos hd]
          refine ifif ⟨fun q => absurd trivial q.2, fun q => ?_⟩
          rcases q.2 with ⟨q1, _⟩ | ⟨q1, _⟩ | ⟨_, q2⟩
          · exact absurd q1 c0
          · exact absurd q1 c1
          · exact absurd q2 hd
      · rw [if_neg c2]
        refine ifif ⟨fun q => absurd trivial q.2, fun q => ?_⟩
        rcases q.2 with ⟨q1, _⟩ | ⟨q1, _⟩ | ⟨q1, _⟩
        · exact absurd q1 c0
        · exact absurd q1 c1
        · exact absurd q1 c2
theorem x_allows {u : XS} (ok : tOk (xT u)) (c d : Int32) (hc : 0 ≤ c.toInt ∧ c.toInt ≤ 2) : f_X5_allowsInStep c d u = some (if pVal (xT u) c d then 1 else 0, u) := by
  unfold f_X5_allowsInStep
  simp only [x_hasTool ok, w_in, bnd_some, ck_z01, Int32.reduceToInt]
  have c012 : c = 0 ∨ c = 1 ∨ c = 2 := by
    rw [i_eq, i_eq, i_eq]; simp only [Int32.reduceToInt]; omega
  rcases c012 with rfl | rfl | rfl
  · rw [if_pos rfl]
    congr 2
    exact ifif ⟨fun q => Or.inl ⟨rfl, q⟩, fun q => by rcases q with ⟨_, q⟩ | ⟨q, _⟩ | ⟨q, _⟩; exact q; exact absurd q (by decide); exact absurd q (by decide)⟩
  · rw [if_neg (by decide), if_pos rfl]
    congr 2
    exact ifif ⟨fun q => Or.inr (Or.inl ⟨rfl, q⟩), fun q => by rcases q with ⟨q, _⟩ | ⟨_, q⟩ | ⟨q, _⟩; exact absurd q (by decide); exact q; exact absurd q (by decide)⟩
  · rw [if_neg (by decide), if_neg (by decide)]
    congr 2
    exact ifif ⟨fun q => Or.inr (Or.inr ⟨rfl, q⟩), fun q => by rcases q with ⟨q, _⟩ | ⟨q, _⟩ | ⟨_, q⟩; exact absurd q (by decide); exact absurd q (by decide); exact q⟩
theorem op_change {σ : XS} {τ : MS} (h : Rel σ τ) (a b c d : Int32) : Op (f_X6_change a b c d σ) (f_X7_change a b c d τ) := by
  obtain ⟨hT, ok, hr⟩ := id h
  have okx : tOk (xT σ) := by rw [hT]; exact ok
  rw [m_change ok]
  unfold f_X6_change
  simp only [x_hasStep okx, w_in, bnd_some, ite01, Int32.reduceToInt, fx_0, hT]
  by_cases h1 : pStep (dc (m_m τ)) a b
  · rw [if_neg (not_not_intro h1)]
    by_cases h2 : 0 ≤ c.toInt ∧ c.toInt ≤ 2
    · rw [if_neg (not_not_intro h2), x_allows okx c d h2, bnd_some, hT]
      simp only [ite01]
      by_cases h3 : pVal (dc (m_m τ)) c d
      · rw [if_neg (not_not_intro h3), if_pos ⟨h1, h3⟩]
        obtain ⟨t, rfl, ht, -⟩ := i_ex h1.1.1
        obtain ⟨i, rfl, hi, -⟩ := i_ex h1.2.1
        obtain ⟨w, rfl, hw, -⟩ := i_ex h2.1
        have h8 : t < 8 := by have := ok.2.2.2.1; have := h1.1.2; omega
        have hth : (t : Int) < (tThings (dc (m_m τ))).toInt := by rw [ht]; exact h1.1.2
        have hi' : (i : Int) < (tCounts (dc (m_m τ)) t).toInt := by have q := h1.2.2; rw [cl_nI (by omega)] at q; omega
        have hi8 : i < 8 := by have := ok.2.2.2.2.2.2.2.1 t hth; omega
        have hw3 : w < 3 := by omega
        rw [x_num σ h8 hi8 hw3, bnd_some, x_put σ h8 hi8 hw3, bnd_some]
        unfold f_X7_at
        rw [bnd_some, ix_at, m_becomes τ (by omega), bnd_some, hT]
        refine Op.mk2 (dc_num h8 hi8 hw3) (h.town (dc_nums (k := t * 24 + i * 3 + w) _ h8 (by omega) (by omega) _).symm ?_)
        rw [dc_nums (k := t * 24 + i * 3 + w) _ h8 (by omega) (by omega)]
        refine tOk_num ok hth hi' hw3 ?_ ?_ ?_
        · rintro rfl
          rcases h3 with ⟨_, q⟩ | ⟨q, _⟩ | ⟨q, _⟩
          · exact q
          · exact absurd q (by decide)
          · exact absurd q (by decide)
        · rintro rfl
          rcases h3 with ⟨q, _⟩ | ⟨_, q⟩ | ⟨q, _⟩
          · exact absurd q (by decide)
          · exact q
          · exact absurd q (by decide)
        · rintro rfl
          rcases h3 with ⟨q, _⟩ | ⟨q, _⟩ | ⟨_, q⟩
          · exact absurd q (by decide)
          · exact absurd q (by decide)
          · exact q
      · rw [if_pos h3, if_neg (fun q => h3 q.2)]
        exact Op.mk' (h.fd (by decide))
    · rw [if_pos h2, if_neg]
      · exact Op.mk' (h.fd (by decide))
      · rintro ⟨_, ⟨q, _⟩ | ⟨q, _⟩ | ⟨q, _⟩⟩ <;> rw [q] at h2 <;> simp only [Int32.reduceToInt] at h2 <;> omega
  · rw [if_pos h1, if_neg (fun q => h1 q.1)]
    exact Op.mk' (h.fd (by decide))
