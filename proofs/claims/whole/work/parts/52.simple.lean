abbrev pTool (T : TownS) (a : Int32) : Prop := 0 ≤ a.toInt ∧ a.toInt < (tTools T).toInt
abbrev pThing (T : TownS) (a : Int32) : Prop := 0 ≤ a.toInt ∧ a.toInt < (tThings T).toInt
abbrev pStep (T : TownS) (a b : Int32) : Prop := (0 ≤ a.toInt ∧ a.toInt < (tThings T).toInt) ∧ 0 ≤ b.toInt ∧ b.toInt < (tCounts T a.toNatClampNeg).toInt
theorem tm1 : (-1 : Int32).toInt = -1 := rfl
theorem tm1' : (-1 : Int64).toInt = -1 := rfl
theorem tm2 : (-2 : Int32).toInt = -2 := rfl
theorem tm2' : (-2 : Int64).toInt = -2 := rfl
theorem i1 : (1 : Int32).toInt = 1 := rfl
theorem le_pred {a b : Int32} (h : -100 ≤ b.toInt ∧ b.toInt ≤ 100000) : (a.toInt ≤ (b - 1).toInt) = (a.toInt < b.toInt) := by
  rw [i_sub (by rw [i1]; omega) (by rw [i1]; omega), i1]
  apply propext; omega
theorem x_hasTool {u : XS} (ok : tOk (xT u)) (a : Int32) : f_X5_hasTool a u = some (if pTool (xT u) a then 1 else 0, u) := by
  unfold f_X5_hasTool
  simp only [w_in, bnd_some, ck_z01, Int32.reduceToInt]
  simp only [le_pred (b := tTools (xT u)) (by have := ok.2.2.1; omega)]
theorem x_hasThing {u : XS} (ok : tOk (xT u)) (a : Int32) : f_X5_hasThing a u = some (if pThing (xT u) a then 1 else 0, u) := by
  unfold f_X5_hasThing
  simp only [w_in, bnd_some, ck_z01, Int32.reduceToInt]
  simp only [le_pred (b := tThings (xT u)) (by have := ok.2.2.2.1; omega)]
theorem m_isTool {u : MS} (ok : tOk (dc (m_m u))) (a : Int32) : f_X7_isTool a u = some (if pTool (dc (m_m u)) a then 1 else 0, u) := by
  unfold f_X7_isTool
  simp only [m_in, bnd_some, ck_z01, Int64.reduceToInt, Int32.toInt_toInt64, l2]
  simp only [le_pred (b := m_m u 2) (by have : 0 ≤ (m_m u 2).toInt ∧ (m_m u 2).toInt ≤ 8 := ok.2.2.1; omega)]
  rfl
theorem m_isThing {u : MS} (ok : tOk (dc (m_m u))) (a : Int32) : f_X7_isThing a u = some (if pThing (dc (m_m u)) a then 1 else 0, u) := by
  unfold f_X7_isThing
  simp only [m_in, bnd_some, ck_z01, Int64.reduceToInt, Int32.toInt_toInt64, l3]
  simp only [le_pred (b := m_m u 3) (by have : 0 ≤ (m_m u 3).toInt ∧ (m_m u 3).toInt ≤ 8 := ok.2.2.2.1; omega)]
  rfl
theorem m_isKind (u : MS) (a : Int32) : f_X7_isKind a u = some (if 0 ≤ a.toInt ∧ a.toInt ≤ 6 then 1 else 0, u) := by
  unfold f_X7_isKind
  simp only [m_in, bnd_some, ck_z01, Int64.reduceToInt, Int32.toInt_toInt64]
theorem m_isDay (u : MS) (a : Int32) : f_X7_isDay a u = some (if 0 ≤ a.toInt ∧ a.toInt ≤ 999 then 1 else 0, u) := by
  unfold f_X7_isDay
  simp only [m_in, bnd_some, ck_z01, Int64.reduceToInt, Int32.toInt_toInt64]
theorem x_hasStep {u : XS} (ok : tOk (xT u)) (a b : Int32) : f_X5_hasStep a b u = some (if pStep (xT u) a b then 1 else 0, u) := by
  unfold f_X5_hasStep
  simp only [x_hasThing ok, w_in, bnd_some, ite01, Int32.reduceToInt]
  by_cases h : pThing (xT u) a
  · rw [if_neg (not_not_intro h), ck_ok h.1 (by have := ok.2.2.2.1; have := h.2; omega)]
    have hc := ok.2.2.2.2.2.2.2.1 a.toNatClampNeg (by rw [i_cl h.1]; exact h.2)
    simp only [le_pred (b := tCounts (xT u) a.toNatClampNeg) (by omega)]
    by_cases h2 : 0 ≤ b.toInt ∧ b.toInt < (tCounts (xT u) a.toNatClampNeg).toInt
    · rw [if_neg (not_not_intro h2), if_pos ⟨h, h2⟩]
    · rw [if_pos h2, if_neg (fun q => h2 q.2)]
  · rw [if_pos h, if_neg (fun q => h q.1)]
/-! the reference's places -/
theorem n2 : (2 : Int32) = nI 2 := rfl
theorem n3 : (3 : Int32) = nI 3 := rfl
theorem n8 : (8 : Int32) = nI 8 := rfl
theorem n6 : (6 : Int32) = nI 6 := rfl
theorem n14 : (14 : Int32) = nI 14 := rfl
theorem n26 : (26 : Int32) = nI 26 := rfl
theorem n1' : (1 : Int32) = nI 1 := rfl
theorem n222 : (222 : Int32) = nI 222 := rfl
theorem n237 : (237 : Int32) = nI 237 := rfl
theorem n40 : (40 : Int32) = nI 40 := rfl
theorem ck_nI {α : Type} {k n : Nat} {y : Option α} (h : k < n) (hn : n < 100000) : (if nI k < 0 ∨ n ≤ (nI k).toNatClampNeg then none else y) = y := ck_ok (by rw [i_nI (by omega)]; omega) (by rw [i_nI (by omega)]; omega)
theorem cl_nI {k : Nat} (h : k < 100000) : (nI k).toNatClampNeg = k := nI_clamp (by omega)
theorem ix_at (t i w : Nat) : ((((14 : Int32) + ((26 : Int32) * nI t)) + (2 : Int32)) + ((3 : Int32) * nI i)) + nI w = nI (16 + 26 * t + (3 * i + w)) := by
  simp only [n14, n26, n2, n3, pk_mul, nI_add]
  congr 1; omega
theorem ix_num (t i w : Nat) : (((nI t * (8 : Int32)) + nI i) * (3 : Int32)) + nI w = nI (t * 24 + i * 3 + w) := by
  simp only [n8, n3, pk_mul, nI_add]
  congr 1; omega
theorem ix_kind (t : Nat) : (14 : Int32) + ((26 : Int32) * nI t) = nI (14 + 26 * t) := by
  simp only [n14, n26, pk_mul, nI_add]
theorem ix_count (t : Nat) : (14 : Int32) + ((26 : Int32) * nI t) + (1 : Int32) = nI (15 + 26 * t) := by
  simp only [n14, n26, n1', pk_mul, nI_add]
  congr 1; omega
theorem dc_num {m : Fn} {t i w : Nat} (ht : t < 8) (hi : i < 8) (hw : w < 3) : tNums (dc m) (t * 24 + i * 3 + w) = m (16 + 26 * t + (3 * i + w)) := by
  rw [dc_Nums, if_pos (by omega)]
  congr 1; omega
theorem x_num (u : XS) {t i w : Nat} (ht : t < 8) (hi : i < 8) (hw : w < 3) : f_X5_stepNumber (nI t) (nI i) (nI w) u = some (tNums (xT u) (t * 24 + i * 3 + w), u) := by
  unfold f_X5_stepNumber
  simp only [nmv]
  rw [ix_num, ck_nI (by omega) (by omega), cl_nI (by omega)]
theorem m_of (u : MS) {t i w : Nat} (ht : t < 8) (hi : i < 8) (hw : w < 3) : f_X7_of (nI t) (nI i) (nI w) u = some (tNums (dc (m_m u)) (t * 24 + i * 3 + w), u) := by
  unfold f_X7_of f_X7_at
  simp only [bnd_some]
  rw [ix_at, ck_nI (by omega) (by omega), cl_nI (by omega), dc_num ht hi hw]
theorem m_kindOf (u : MS) {t : Nat} (ht : t < 8) : f_X7_kindOf (nI t) u = some (tKinds (dc (m_m u)) t, u) := by
  unfold f_X7_kindOf
  simp only [nmv]
  rw [ix_kind, ck_nI (by omega) (by omega), cl_nI (by omega), dc_Kinds, if_pos ht]
theorem m_steps (u : MS) {t : Nat} (ht : t < 8) : f_X7_steps (nI t) u = some (tCounts (dc (m_m u)) t, u) := by
  unfold f_X7_steps
  simp only [nmv]
  rw [ix_count, ck_nI (by omega) (by omega), cl_nI (by omega), dc_Counts, if_pos ht]
theorem m_isStep {u : MS} (ok : tOk (dc (m_m u))) (a b : Int32) : f_X7_isStep a b u = some (if pStep (dc (m_m u)) a b then 1 else 0, u) := by
  unfold f_X7_isStep
  simp only [m_isThing ok, bnd_some, ite01]
  by_cases h : pThing (dc (m_m u)) a
  · rw [if_neg (not_not_intro h)]
    obtain ⟨t, rfl, ht, -⟩ := i_ex h.1
    have h8 : t < 8 := by have := ok.2.2.2.1; have := h.2; omega
    have hc := ok.2.2.2.2.2.2.2.1 t (by rw [ht]; exact h.2)
    simp only [m_steps u h8, bnd_some, m_in, Int64.reduceToInt, Int32.toInt_toInt64, ite01]
    simp only [le_pred (b := tCounts (dc (m_m u)) t) (by omega)]
    have ec : (nI t).toNatClampNeg = t := cl_nI (by omega)
    by_cases h2 : 0 ≤ b.toInt ∧ b.toInt < (tCounts (dc (m_m u)) t).toInt
    · rw [if_neg (not_not_intro h2), if_pos]
      exact ⟨h, by rw [ec]; exact h2⟩
    · rw [if_pos h2, if_neg]
      intro q; have q2 := q.2; rw [ec] at q2; exact h2 q2
  · rw [if_pos h, if_neg (fun q => h q.1)]
theorem m_becomes (u : MS) {k : Nat} (hk : k < 247) (v : Int32) : f_X7_becomes (nI k) v u = some (m_m u k, mu_m u (upd (m_m u) k v)) := by
  unfold f_X7_becomes
  simp only [nmv]
  rw [ck_nI hk (by omega), ck_nI hk (by omega), cl_nI (by omega)]
/-! calls -/
theorem op_round {σ : XS} {τ : MS} (h : Rel σ τ) (a : Int32) : Op (f_X6_round a σ) (f_X7_round a τ) := by
  obtain ⟨hT, ok, hr⟩ := id h
  unfold f_X6_round f_X7_round
  simp only [w_in, m_in, bnd_some, ite01, nmv, Int32.toInt_toInt64, Int32.reduceToInt, Int64.reduceToInt, fx_0, fm_0]
  by_cases hc : 1 ≤ a.toInt ∧ a.toInt ≤ 12
  · rw [if_neg (not_not_intro hc), if_neg (not_not_intro hc), show (0 : Int32) = nI 0 from rfl, m_becomes τ (by omega), bnd_some, hT]
    exact Op.mk2 rfl (h.town (dc_0 _ _).symm (by rw [dc_0]; exact ⟨hc, ok.2⟩))
  · rw [if_pos hc, if_pos hc]
    exact Op.mk' (h.fd (by decide))
theorem op_near {σ : XS} {τ : MS} (h : Rel σ τ) (a : Int32) : Op (f_X6_near a σ) (f_X7_near a τ) := by
  obtain ⟨hT, ok, hr⟩ := id h
  unfold f_X6_near f_X7_near
  simp only [w_in, m_in, bnd_some, ite01, nmv, Int32.toInt_toInt64, Int32.reduceToInt, Int64.reduceToInt, fx_0, fm_0, tm1, tm1']
  by_cases hc : -1 ≤ a.toInt ∧ a.toInt ≤ 11
  · rw [if_neg (not_not_intro hc), if_neg (not_not_intro hc), show (1 : Int32) = nI 1 from rfl, m_becomes τ (by omega), bnd_some, hT]
    exact Op.mk2 rfl (h.town (dc_1 _ _).symm (by rw [dc_1]; exact ⟨ok.1, hc, ok.2.2⟩))
  · rw [if_pos hc, if_pos hc]
    exact Op.mk' (h.fd (by decide))
theorem op_seed {σ : XS} {τ : MS} (h : Rel σ τ) (a : Int32) : Op (f_X6_seed a σ) (f_X7_seed a τ) := by
  obtain ⟨hT, ok, hr⟩ := id h
  unfold f_X6_seed f_X7_seed
  simp only [nmv]
  rw [show (5 : Int32) = nI 5 from rfl, m_becomes τ (by omega), bnd_some, hT]
  exact Op.mk2 rfl (h.town (dc_5 _ _).symm (by rw [dc_5]; exact ok))
theorem op_clear {σ : XS} {τ : MS} (h : Rel σ τ) : Op (f_X6_clear σ) (f_X7_clear τ) := by
  obtain ⟨hT, ok, hr⟩ := id h
  unfold f_X6_clear f_X7_clear
  simp only [nmv]
  rw [show (4 : Int32) = nI 4 from rfl, m_becomes τ (by omega), bnd_some, hT]
  refine Op.mk2 rfl (h.town (dc_4 _ _).symm ?_)
  rw [dc_4]
  obtain ⟨o1, o2, o3, o4, o5, o6, o7, o8, o9, o10, o11⟩ := ok
  exact ⟨o1, o2, o3, o4, ⟨(by decide : (0 : Int) ≤ (0 : Int32).toInt), (by decide : (0 : Int32).toInt ≤ (5 : Int))⟩, o6, o7, o8, o9, fun o ho => absurd (show (o : Int) < 0 from ho) (by omega), o11⟩
theorem op_wipe {σ : XS} {τ : MS} (h : Rel σ τ) : Op (f_X6_wipe σ) (f_X7_wipe τ) := by
  obtain ⟨h1, h2, h3, h4, h5, h6, h7, h8, h9⟩ := h
  refine Op.mk2 h6.1 ⟨h1, h2, h3, h4, h5, ⟨rfl, ⟨(by decide : (0 : Int) ≤ (0 : Int32).toInt), (by decide : (0 : Int32).toInt ≤ (120 : Int))⟩, h6.2.2⟩, h7, h8, h9⟩
theorem op_tear {σ : XS} {τ : MS} (h : Rel σ τ) : Op (f_X6_tear σ) (f_X7_tear τ) := by
  obtain ⟨h1, h2, h3, h4, h5, h6, h7, h8, h9⟩ := h
  unfold f_X6_tear f_X7_tear
  simp only [nmv]
  rw [h4.1]
  by_cases hc : m_isKept τ = 0
  · rw [if_pos hc, if_pos hc]
    exact Op.mk' ⟨h1, h2, h3, ⟨rfl, Or.inl rfl⟩, fun q => absurd (show (0 : Int32) = 1 from q) (by decide), h6, h7, h8, h9⟩
  · rw [if_neg hc, if_neg hc]
    exact Op.mk' ⟨h1, h2, h3, ⟨rfl, Or.inl rfl⟩, fun q => absurd (show (0 : Int32) = 1 from q) (by decide), h6, h7, h8, h9⟩
/-! rows for counting out: numbers in their places -/
theorem nIneg {k : Nat} (h : k < 2147483648) : (nI k < 0) = False := eq_false (nI_pos (by omega))
theorem leF {k n : Nat} (h : k < n) : (n ≤ k) = False := eq_false (by omega)
theorem cl' {k : Nat} (h : k < 2147483648) : (nI k).toNatClampNeg = k := nI_clamp (by omega)
theorem nI_s1 (a : Nat) : nI a + 1 = nI (a + 1) := nI_1 a
theorem nI_p1 {a : Nat} : nI (a + 1) - 1 = nI a := nI_pred a
theorem ltI {a b : Nat} (ha : a < 2147483648) (hb : b < 2147483648) : (nI a < nI b) = (a < b) := propext (nI_ltI (by omega) (by omega))
theorem leI {a b : Nat} (ha : a < 2147483648) (hb : b < 2147483648) : (nI a ≤ nI b) = (a ≤ b) := propext (nI_leI (by omega) (by omega))
theorem eqI {a b : Nat} (ha : a < 2147483648) (hb : b < 2147483648) : (nI a = nI b) = (a = b) := propext (nI_eq (by omega) (by omega))
theorem upd_s {f : Fn} {k : Nat} {x : Int32} : upd f k x k = x := pk_us
theorem upd_n {f : Fn} {k j : Nat} {x : Int32} (h : j ≠ k) : upd f k x j = f j := pk_un h
theorem x_addTool {u : XS} {n : Nat} (hn : tTools (xT u) = nI n) (h8 : n < 8) (a : Int32) : f_X5_addTool a u = some (nI n, sT u (uTools (uDays (xT u) (upd (tDays (xT u)) n a)) (nI (n + 1)))) := by
  unfold f_X5_addTool
  simp (disch := omega) only [nmv, hn, n8, ltI, h8, if_true, nIneg, cl', leF, or_self, if_false, nI_s1, nI_p1, xT_sT, sT_sT, tu_Tools_Days, tu_Tools_Tools]
theorem op_tool {σ : XS} {τ : MS} (h : Rel σ τ) (a : Int32) : Op (f_X6_tool a σ) (f_X7_tool a τ) := by
  obtain ⟨hT, ok, hr⟩ := id h
  unfold f_X6_tool f_X7_tool
  simp only [w_in, m_in, bnd_some, ite01, nmv, Int32.toInt_toInt64, Int32.reduceToInt, Int64.reduceToInt, fx_0, fm_0, fx_1, fm_1, l2]
  by_cases hc : 0 ≤ a.toInt ∧ a.toInt ≤ 4095
  · rw [if_neg (not_not_intro hc), if_neg (not_not_intro hc)]
    have ht : 0 ≤ (m_m τ 2).toInt ∧ (m_m τ 2).toInt ≤ 8 := ok.2.2.1
    have hx : tTools (xT σ) = m_m τ 2 := by rw [hT]; rfl
    obtain ⟨n, hn, hn1, -⟩ := i_ex ht.1
    have hn8 : n ≤ 8 := by omega
    simp (disch := omega) only [hx, hn, n8, ltI, eqI]
    by_cases h8 : n = 8
    · rw [if_pos h8, if_neg (by omega)]
      exact Op.mk' (h.fd (by decide))
    · have hlt : n < 8 := by omega
      rw [if_pos hlt, if_neg h8, x_addTool (hx.trans hn) hlt, bnd_some]
      simp (disch := omega) only [n6, nI_add, cl', nIneg, leF, or_self, if_false, mm_mu, mu_mu, upd_n, hn, nI_s1, upd_s, nI_p1]
      refine Op.mk2 rfl (h.town ?_ ?_)
      · rw [dc_2, dc_days _ hlt, hT]
      · rw [dc_2, dc_days _ hlt]
        obtain ⟨o1, o2, o3, o4, o5, o6, o7, o8, o9, o10, o11⟩ := ok
        refine ⟨o1, o2, ?_, o4, o5, ?_, o7, o8, ?_, o10, o11⟩
        · show 0 ≤ (nI (n + 1)).toInt ∧ (nI (n + 1)).toInt ≤ 8
          rw [i_nI (by omega)]; omega
        · intro k hk
          show 0 ≤ (upd _ n a k).toInt ∧ (upd _ n a k).toInt ≤ 4095
          by_cases e : k = n
          · rw [e, upd_s]; exact hc
          · rw [upd_n e]; exact o6 k hk
        · intro t i ht hi
          obtain ⟨q1, q2, q3⟩ := o9 t i ht hi
          refine ⟨⟨q1.1, ?_⟩, q2, q3⟩
          show _ < (nI (n + 1)).toInt
          rw [i_nI (by omega)]
          have := q1.2
          have e2 : (tTools (dc (m_m τ))).toInt = n := by rw [show tTools (dc (m_m τ)) = nI n from hn, i_nI (by omega)]
          rw [e2] at this
          have h3 : (tNums (uTools (uDays (dc (m_m τ)) (upd (tDays (dc (m_m τ))) n a)) (nI (n + 1))) (t * 24 + i * 3)).toInt < n := this
          omega
  · rw [if_pos hc, if_pos hc]
    exact Op.mk' (h.fd (by decide))
