/-! roundFor, nearFor (written by mk69.py) -/
theorem upd_id (f : Fn) (k : Nat) : upd f k (f k) = f := by
  funext j
  by_cases h : j = k
  · rw [h, upd_s]
  · rw [upd_n h]
theorem rd_or {T : TownS} (ok : tOk T) {t b : Nat} (ht : (t : Int) < (tThings T).toInt) (hb : b < 10000) : rd T t b = -1 ∨ ∃ x, rd T t b = nI x ∧ x < 30000 := by
  obtain ⟨c1, c2, c3, c4⟩ := sc_ok ok ht
  unfold rd
  rcases ff_cases (gb T t) b 201 with ⟨e, -⟩ | ⟨j, hj, e, g, -⟩
  · left; rw [show bN T t b = -1 from e, if_neg (by decide)]
  · right
    rw [show bN T t b = nI (b + j) from e, if_pos (nI_nn (by omega)), cl_nI (by omega)]
    obtain ⟨x, hx, h1, h2⟩ := gd_rng ok ht (b := b + j) (by omega) (of_decide_eq_true g) (k := sc T t - 1) (by omega)
    exact ⟨x, hx, by omega⟩
theorem bk_1 (i : Nat) : bk i + 1 = bk (i + 1) := by
  cases i with
  | zero => rfl
  | succ i => exact nI_s1 i
theorem bk_int (i : Nat) (h : i < 100000) : (bk i).toInt = (i : Int) - 1 := by
  cases i with
  | zero => rfl
  | succ i => show (nI i).toInt = _; rw [i_nI (by omega)]; omega
/-- the soonest so far, in the class (so, an) and in the reference (best, sn) -/
def sq (so an best sn : Int32) : Prop := (so = -1 ∧ best = -2) ∨ (0 ≤ so ∧ sn = so ∧ best = an ∧ ¬ best ≤ -2)
theorem m2_le : (-2 : Int32) ≤ -2 := by decide
theorem par_round {σ : XS} {τ : MS} (h : Rel σ τ) {t d : Nat} (hs : (t : Int) < (tThings (dc (m_m τ))).toInt) (hd : d < 10000) (was : Int32) : ∃ so an best sn w L O, wl f_X6_roundFor_L45_45s (nI t, nI d, was, -1, 0, 1, σ) = some (.inr (was, so, an, sL (sT σ (uRound (xT σ) w)) L)) ∧ wl f_X7_soonest_L19_19s (nI t, nI d, nI 0, 12, was, -2, 0, 1, τ) = some (.inr (nI 0, was, best, mu_on (mu_m τ (upd (m_m τ) 0 w)) O)) ∧ sq so an best sn := by
  obtain ⟨hT, ok, hr⟩ := id h
  have e0 : τ = mu_on (mu_m τ (upd (m_m τ) 0 (m_m τ 0))) (m_on τ) := by rw [upd_id]
  have V1 : ∀ i, nI (i + 1) + 1 = nI (i + 1 + 1) := fun i => nI_s1 (i + 1)
  have V2 : ∀ i, i < 12 → ¬ 12 < nI (i + 1) := by decide +kernel
  have V3 : 12 < nI 13 := by decide
  have V4 : ∀ i, i < 12 → 1 ≤ (nI (i + 1)).toInt ∧ (nI (i + 1)).toInt ≤ 12 := by decide +kernel
  have V5 : ∀ i, i < 12 → ¬ nI (i + 1) ≤ -2 := by decide +kernel
  obtain ⟨e, f, g1, g2, so, an, best, sn, w, L, O, rfl, rfl, g3⟩ := wl_par (st1 := f_X6_roundFor_L45_45s) (st2 := f_X7_soonest_L19_19s)
    (fun n x y => ∃ i so an best sn w L O, i + n = 12 ∧ x = (nI t, nI d, was, so, an, nI (i + 1), sL (sT σ (uRound (xT σ) w)) L) ∧ y = (nI t, nI d, nI 0, 12, was, best, sn, nI (i + 1), mu_on (mu_m τ (upd (m_m τ) 0 w)) O) ∧ sq so an best sn)
    (fun e f => ∃ so an best sn w L O, e = .inr (was, so, an, sL (sT σ (uRound (xT σ) w)) L) ∧ f = .inr (nI 0, was, best, mu_on (mu_m τ (upd (m_m τ) 0 w)) O) ∧ sq so an best sn) (by
      rintro n x y ⟨i, so, an, best, sn, w, L, O, hi, rfl, rfl, hq⟩
      cases n with
      | zero =>
        right
        have hi2 : i = 12 := by omega
        subst hi2
        refine ⟨_, _, ?_, ?_, so, an, best, sn, w, L, O, rfl, rfl, hq⟩
        · show f_X6_roundFor_L45_45 _ _ _ _ _ _ _ = _
          unfold f_X6_roundFor_L45_45
          rw [if_pos V3]
        · show f_X7_soonest_L19_19 _ _ _ _ _ _ _ _ _ = _
          unfold f_X7_soonest_L19_19
          rw [if_pos V3]
      | succ n =>
        left
        have hi2 : i < 12 := by omega
        have okv : tOk (uRound (dc (m_m τ)) (nI (i + 1))) := ⟨V4 i hi2, ok.2⟩
        obtain ⟨L', ex⟩ := x_ready (u := sL (sT σ (uRound (xT σ) (nI (i + 1)))) L) (t := t) (b := d) (show tOk (uRound (xT σ) (nI (i + 1))) from by rw [hT]; exact okv) (show (t : Int) < (tThings (xT σ)).toInt from by rw [hT]; exact hs) hd
        obtain ⟨O', em0⟩ := m_ready (u := mu_on (mu_m τ (upd (m_m τ) 0 (nI (i + 1)))) O) (t := t) (b := d) (show tOk (dc (upd (m_m τ) 0 (nI (i + 1)))) from by rw [dc_0]; exact okv) (show (t : Int) < (tThings (dc (upd (m_m τ) 0 (nI (i + 1))))).toInt from by rw [dc_0]; exact hs) hd
        have er : rd (uRound (xT σ) (nI (i + 1))) t d = rd (uRound (dc (m_m τ)) (nI (i + 1))) t d := by rw [hT]
        have er2 : rd (dc (upd (m_m τ) 0 (nI (i + 1)))) t d = rd (uRound (dc (m_m τ)) (nI (i + 1))) t d := by rw [dc_0]
        have ex' : f_X0_readyFrom (nI t) (nI d) (sT (sL (sT σ (uRound (xT σ) w)) L) (uRound (xT (sL (sT σ (uRound (xT σ) w)) L)) (nI (i + 1)))) = some (rd (uRound (xT σ) (nI (i + 1))) t d, sL (sT σ (uRound (xT σ) (nI (i + 1)))) L') := ex
        have em : f_X7_readyAt (nI t) (nI d) (mu_on (mu_m τ (upd (m_m τ) 0 (nI (i + 1)))) O) = some (rd (dc (upd (m_m τ) 0 (nI (i + 1)))) t d, mu_on (mu_m τ (upd (m_m τ) 0 (nI (i + 1)))) O') := em0
        rw [er] at ex'
        rw [er2] at em
        have eu : mu_m (mu_on (mu_m τ (upd (m_m τ) 0 w)) O) (upd (m_m (mu_on (mu_m τ (upd (m_m τ) 0 w)) O)) 0 (nI (i + 1))) = mu_on (mu_m τ (upd (m_m τ) 0 (nI (i + 1)))) O := congrArg (fun f => mu_on (mu_m τ f) O) (upd_upd (m_m τ) 0 w (nI (i + 1)))
        have ho := rd_or okv hs hd
        generalize rd (uRound (dc (m_m τ)) (nI (i + 1))) t d = r at ex' em ho
        have go : ∀ so' an' best' sn', (if ¬ r < 0 ∧ (so < 0 ∨ r < so) then ((r, nI (i + 1)) : Int32 × Int32) else (so, an)) = (so', an') → (if r < 0 then ((best, sn) : Int32 × Int32) else if best ≤ -2 then (nI (i + 1), r) else if r < sn then (nI (i + 1), r) else (best, sn)) = (best', sn') → sq so' an' best' sn' → (∃ a' b', f_X6_roundFor_L45_45s (nI t, nI d, was, so, an, nI (i + 1), sL (sT σ (uRound (xT σ) w)) L) = some (.inl a') ∧ f_X7_soonest_L19_19s (nI t, nI d, nI 0, 12, was, best, sn, nI (i + 1), mu_on (mu_m τ (upd (m_m τ) 0 w)) O) = some (.inl b') ∧ ∃ m, m < n + 1 ∧ ∃ i so an best sn w L O, i + m = 12 ∧ a' = (nI t, nI d, was, so, an, nI (i + 1), sL (sT σ (uRound (xT σ) w)) L) ∧ b' = (nI t, nI d, nI 0, 12, was, best, sn, nI (i + 1), mu_on (mu_m τ (upd (m_m τ) 0 w)) O) ∧ sq so an best sn) := by
          intro so' an' best' sn' q1 q2 q3
          refine ⟨_, _, ?_, ?_, n, by omega, i + 1, so', an', best', sn', nI (i + 1), L', O', by omega, rfl, rfl, q3⟩
          · show f_X6_roundFor_L45_45 _ _ _ _ _ _ _ = _
            unfold f_X6_roundFor_L45_45
            rw [if_neg (V2 i hi2), nmv, ex', bnd_some, x_isSooner, bnd_some]
            by_cases hc : ¬ r < 0 ∧ (so < 0 ∨ r < so)
            · rw [if_pos hc] at q1
              rw [if_pos hc, if_neg (by decide), nmv, V1, ← (Prod.mk.inj q1).1, ← (Prod.mk.inj q1).2]
            · rw [if_neg hc] at q1
              rw [if_neg hc, if_pos rfl, nmv, V1, ← (Prod.mk.inj q1).1, ← (Prod.mk.inj q1).2]
          · show f_X7_soonest_L19_19 _ _ _ _ _ _ _ _ _ = _
            unfold f_X7_soonest_L19_19
            rw [if_neg (V2 i hi2), ck_nI (by omega) (by omega), nmv, cl_nI (by omega), eu, em, bnd_some]
            by_cases c1 : r < 0
            · rw [if_pos c1] at q2
              rw [if_pos c1, nmv, V1, ← (Prod.mk.inj q2).1, ← (Prod.mk.inj q2).2]
            · rw [if_neg c1] at q2
              rw [if_neg c1]
              by_cases c2 : best ≤ -2
              · rw [if_pos c2] at q2
                rw [if_pos c2, nmv, V1, ← (Prod.mk.inj q2).1, ← (Prod.mk.inj q2).2]
              · rw [if_neg c2] at q2
                rw [if_neg c2]
                by_cases c3 : r < sn
                · rw [if_pos c3] at q2
                  rw [if_pos c3, nmv, V1, ← (Prod.mk.inj q2).1, ← (Prod.mk.inj q2).2]
                · rw [if_neg c3] at q2
                  rw [if_neg c3, nmv, V1, ← (Prod.mk.inj q2).1, ← (Prod.mk.inj q2).2]
        rcases ho with rfl | ⟨x, rfl, hx⟩
        · exact go so an best sn (if_neg (fun q => q.1 (by decide))) (if_pos (by decide)) hq
        · have xn := nI_nneg (n := x) (by omega)
          rcases hq with ⟨rfl, rfl⟩ | ⟨q1, q2, q3, q4⟩
          · exact go (nI x) (nI (i + 1)) (nI (i + 1)) (nI x) (if_pos ⟨xn, Or.inl (by decide)⟩) (by rw [if_neg xn, if_pos m2_le]) (Or.inr ⟨nI_nn (by omega), rfl, rfl, V5 i hi2⟩)
          · subst q2 q3
            have sn0 : ¬ sn < 0 := Int32.not_lt.mpr q1
            by_cases c : nI x < sn
            · exact go (nI x) (nI (i + 1)) (nI (i + 1)) (nI x) (if_pos ⟨xn, Or.inr c⟩) (by rw [if_neg xn, if_neg q4, if_pos c]) (Or.inr ⟨nI_nn (by omega), rfl, rfl, V5 i hi2⟩)
            · exact go sn best best sn (if_neg (fun q => q.2.elim sn0 c)) (by rw [if_neg xn, if_neg q4, if_neg c]) (Or.inr ⟨q1, rfl, rfl, q4⟩)) 12 (nI t, nI d, was, -1, 0, 1, σ) (nI t, nI d, nI 0, 12, was, -2, 0, 1, τ) ⟨0, -1, 0, -2, 0, m_m τ 0, xL σ, m_on τ, by omega, by
        have q : tRound (xT σ) = m_m τ 0 := by rw [hT]; rfl
        rw [← q]; rfl, by rw [← e0]; rfl, Or.inl ⟨rfl, rfl⟩⟩
  exact ⟨so, an, best, sn, w, L, O, g1, g2, g3⟩
theorem op_roundFor {σ : XS} {τ : MS} (h : Rel σ τ) (a c : Int32) : Op (f_X6_roundFor a c σ) (f_X7_roundFor a c τ) := by
  obtain ⟨hT, ok, hr⟩ := id h
  have okx : tOk (xT σ) := by rw [hT]; exact ok
  unfold f_X6_roundFor f_X7_roundFor
  rw [x_hasThing okx, m_isThing ok, bnd_some, bnd_some, hT]
  simp only [w_in, m_isDay, bnd_some, ite01, Int32.reduceToInt, fx_0, fm_0]
  by_cases h1 : pThing (dc (m_m τ)) a
  · rw [if_neg (not_not_intro h1), if_neg (not_not_intro h1)]
    by_cases h2 : 0 ≤ c.toInt ∧ c.toInt ≤ 999
    · rw [if_neg (not_not_intro h2), if_neg (not_not_intro h2)]
      obtain ⟨p1, p2⟩ := h1
      obtain ⟨t, rfl, ht, ht2⟩ := i_ex p1
      obtain ⟨d, rfl, hd, -⟩ := i_ex h2.1
      have hs : (t : Int) < (tThings (dc (m_m τ))).toInt := by omega
      obtain ⟨so, an, best, sn, w, L, O, g1, g2, g3⟩ := par_round h hs (d := d) (by omega) (m_m τ 0)
      have ex : (nmv (tRound (xT σ)) fun x9 => bne (wl f_X6_roundFor_L45_45s (nI t, nI d, x9, -1, 0, 1, σ)) (fun a => some a) (fun b => nmv b.1 fun y13 => nmv b.2.1 fun y14 => nmv b.2.2.1 fun y15 => nmv b.2.2.2 fun u12 => nmv (sT u12 (uRound (xT u12) y13)) fun u16 => (if 0 ≤ y14 then some (y15, u16) else bnd (f_X6_found (3 : Int32) u16) fun r18 u19 => some (r18, u19)))) = if 0 ≤ so then some (an, sL σ L) else some (-1000004, fdX (sL σ L) 3) := by
        have q3 : tRound (xT σ) = m_m τ 0 := by rw [hT]; rfl
        rw [q3, nmv, g1]
        have q : sT (sL (sT σ (uRound (xT σ) w)) L) (uRound (xT (sL (sT σ (uRound (xT σ) w)) L)) (m_m τ 0)) = sL σ L := by
          have q2 : m_m τ 0 = tRound (xT σ) := by rw [hT]; rfl
          rw [q2]
        show (if 0 ≤ so then some (an, sT (sL (sT σ (uRound (xT σ) w)) L) (uRound (xT (sL (sT σ (uRound (xT σ) w)) L)) (m_m τ 0))) else bnd (f_X6_found (3 : Int32) (sT (sL (sT σ (uRound (xT σ) w)) L) (uRound (xT (sL (sT σ (uRound (xT σ) w)) L)) (m_m τ 0)))) fun r18 u19 => some (r18, u19)) = _
        rw [q, fx_3, bnd_some]
      have em : f_X7_soonest (nI t) (nI d) (nI 0) (1) 12 τ = if best = -2 then some (-1000004, fdM (mu_on τ O) 3) else some (best, mu_on τ O) := by
        unfold f_X7_soonest
        rw [ck_nI (by omega) (by omega), cl_nI (by omega), nmv, g2]
        show (if nI 0 < 0 ∨ 247 ≤ (nI 0).toNatClampNeg then none else (nmv (mu_m (mu_on (mu_m τ (upd (m_m τ) 0 w)) O) (upd (m_m (mu_on (mu_m τ (upd (m_m τ) 0 w)) O)) (nI 0).toNatClampNeg (m_m τ 0))) fun u10 => (if best = (-2 : Int32) then bnd (f_X7_finds (-1000004 : Int32) u10) fun r12 u13 => some (r12, u13) else some (best, u10)))) = _
        have eu : mu_m (mu_on (mu_m τ (upd (m_m τ) 0 w)) O) (upd (m_m (mu_on (mu_m τ (upd (m_m τ) 0 w)) O)) 0 (m_m τ 0)) = mu_on τ O := (congrArg (fun f => mu_on (mu_m τ f) O) (upd_upd (m_m τ) 0 w (m_m τ 0))).trans (congrArg (fun f => mu_on (mu_m τ f) O) (upd_id (m_m τ) 0))
        rw [ck_nI (by omega) (by omega), cl_nI (by omega), eu, nmv, fm_3, bnd_some]
      have em' : f_X7_soonest (nI t) (nI d) (0 : Int32) (1) 12 τ = if best = -2 then some (-1000004, fdM (mu_on τ O) 3) else some (best, mu_on τ O) := em
      rw [em']
      rw [ex]
      rcases g3 with ⟨rfl, rfl⟩ | ⟨q1, q2, q3, q4⟩
      · rw [if_neg (by decide), if_pos rfl, bnd_some]
        exact Op.mk' ((h.on _ _).fd (by decide))
      · rw [if_pos q1, if_neg (fun q => q4 (by rw [q]; decide)), bnd_some, q3]
        exact Op.mk' (h.on _ _)
    · rw [if_pos h2, if_pos h2]; exact Op.mk' (h.fd (by decide))
  · rw [if_pos h1, if_pos h1]; exact Op.mk' (h.fd (by decide))
theorem par_near {σ : XS} {τ : MS} (h : Rel σ τ) {t d : Nat} (hs : (t : Int) < (tThings (dc (m_m τ))).toInt) (hd : d < 10000) (was : Int32) : ∃ so an best sn w L O, wl f_X6_nearFor_L45_45s (nI t, nI d, was, -1, -1, -1, σ) = some (.inr (was, so, an, sL (sT σ (uNear (xT σ) w)) L)) ∧ wl f_X7_soonest_L19_19s (nI t, nI d, nI 1, 11, was, -2, 0, -1, τ) = some (.inr (nI 1, was, best, mu_on (mu_m τ (upd (m_m τ) 1 w)) O)) ∧ sq so an best sn := by
  obtain ⟨hT, ok, hr⟩ := id h
  have e0 : τ = mu_on (mu_m τ (upd (m_m τ) 1 (m_m τ 1))) (m_on τ) := by rw [upd_id]
  have V1 : ∀ i, bk i + 1 = bk (i + 1) := bk_1
  have V2 : ∀ i, i < 13 → ¬ 11 < bk i := by decide +kernel
  have V3 : 11 < bk 13 := by decide
  have V4 : ∀ i, i < 13 → -1 ≤ (bk i).toInt ∧ (bk i).toInt ≤ 11 := by decide +kernel
  have V5 : ∀ i, i < 13 → ¬ bk i ≤ -2 := by decide +kernel
  obtain ⟨e, f, g1, g2, so, an, best, sn, w, L, O, rfl, rfl, g3⟩ := wl_par (st1 := f_X6_nearFor_L45_45s) (st2 := f_X7_soonest_L19_19s)
    (fun n x y => ∃ i so an best sn w L O, i + n = 13 ∧ x = (nI t, nI d, was, so, an, bk i, sL (sT σ (uNear (xT σ) w)) L) ∧ y = (nI t, nI d, nI 1, 11, was, best, sn, bk i, mu_on (mu_m τ (upd (m_m τ) 1 w)) O) ∧ sq so an best sn)
    (fun e f => ∃ so an best sn w L O, e = .inr (was, so, an, sL (sT σ (uNear (xT σ) w)) L) ∧ f = .inr (nI 1, was, best, mu_on (mu_m τ (upd (m_m τ) 1 w)) O) ∧ sq so an best sn) (by
      rintro n x y ⟨i, so, an, best, sn, w, L, O, hi, rfl, rfl, hq⟩
      cases n with
      | zero =>
        right
        have hi2 : i = 13 := by omega
        subst hi2
        refine ⟨_, _, ?_, ?_, so, an, best, sn, w, L, O, rfl, rfl, hq⟩
        · show f_X6_nearFor_L45_45 _ _ _ _ _ _ _ = _
          unfold f_X6_nearFor_L45_45
          rw [if_pos V3]
        · show f_X7_soonest_L19_19 _ _ _ _ _ _ _ _ _ = _
          unfold f_X7_soonest_L19_19
          rw [if_pos V3]
      | succ n =>
        left
        have hi2 : i < 13 := by omega
        have okv : tOk (uNear (dc (m_m τ)) (bk i)) := ⟨ok.1, V4 i hi2, ok.2.2⟩
        obtain ⟨L', ex⟩ := x_ready (u := sL (sT σ (uNear (xT σ) (bk i))) L) (t := t) (b := d) (show tOk (uNear (xT σ) (bk i)) from by rw [hT]; exact okv) (show (t : Int) < (tThings (xT σ)).toInt from by rw [hT]; exact hs) hd
        obtain ⟨O', em0⟩ := m_ready (u := mu_on (mu_m τ (upd (m_m τ) 1 (bk i))) O) (t := t) (b := d) (show tOk (dc (upd (m_m τ) 1 (bk i))) from by rw [dc_1]; exact okv) (show (t : Int) < (tThings (dc (upd (m_m τ) 1 (bk i)))).toInt from by rw [dc_1]; exact hs) hd
        have er : rd (uNear (xT σ) (bk i)) t d = rd (uNear (dc (m_m τ)) (bk i)) t d := by rw [hT]
        have er2 : rd (dc (upd (m_m τ) 1 (bk i))) t d = rd (uNear (dc (m_m τ)) (bk i)) t d := by rw [dc_1]
        have ex' : f_X0_readyFrom (nI t) (nI d) (sT (sL (sT σ (uNear (xT σ) w)) L) (uNear (xT (sL (sT σ (uNear (xT σ) w)) L)) (bk i))) = some (rd (uNear (xT σ) (bk i)) t d, sL (sT σ (uNear (xT σ) (bk i))) L') := ex
        have em : f_X7_readyAt (nI t) (nI d) (mu_on (mu_m τ (upd (m_m τ) 1 (bk i))) O) = some (rd (dc (upd (m_m τ) 1 (bk i))) t d, mu_on (mu_m τ (upd (m_m τ) 1 (bk i))) O') := em0
        rw [er] at ex'
        rw [er2] at em
        have eu : mu_m (mu_on (mu_m τ (upd (m_m τ) 1 w)) O) (upd (m_m (mu_on (mu_m τ (upd (m_m τ) 1 w)) O)) 1 (bk i)) = mu_on (mu_m τ (upd (m_m τ) 1 (bk i))) O := congrArg (fun f => mu_on (mu_m τ f) O) (upd_upd (m_m τ) 1 w (bk i))
        have ho := rd_or okv hs hd
        generalize rd (uNear (dc (m_m τ)) (bk i)) t d = r at ex' em ho
        have go : ∀ so' an' best' sn', (if ¬ r < 0 ∧ (so < 0 ∨ r < so) then ((r, bk i) : Int32 × Int32) else (so, an)) = (so', an') → (if r < 0 then ((best, sn) : Int32 × Int32) else if best ≤ -2 then (bk i, r) else if r < sn then (bk i, r) else (best, sn)) = (best', sn') → sq so' an' best' sn' → (∃ a' b', f_X6_nearFor_L45_45s (nI t, nI d, was, so, an, bk i, sL (sT σ (uNear (xT σ) w)) L) = some (.inl a') ∧ f_X7_soonest_L19_19s (nI t, nI d, nI 1, 11, was, best, sn, bk i, mu_on (mu_m τ (upd (m_m τ) 1 w)) O) = some (.inl b') ∧ ∃ m, m < n + 1 ∧ ∃ i so an best sn w L O, i + m = 13 ∧ a' = (nI t, nI d, was, so, an, bk i, sL (sT σ (uNear (xT σ) w)) L) ∧ b' = (nI t, nI d, nI 1, 11, was, best, sn, bk i, mu_on (mu_m τ (upd (m_m τ) 1 w)) O) ∧ sq so an best sn) := by
          intro so' an' best' sn' q1 q2 q3
          refine ⟨_, _, ?_, ?_, n, by omega, i + 1, so', an', best', sn', bk i, L', O', by omega, rfl, rfl, q3⟩
          · show f_X6_nearFor_L45_45 _ _ _ _ _ _ _ = _
            unfold f_X6_nearFor_L45_45
            rw [if_neg (V2 i hi2), nmv, ex', bnd_some, x_isSooner, bnd_some]
            by_cases hc : ¬ r < 0 ∧ (so < 0 ∨ r < so)
            · rw [if_pos hc] at q1
              rw [if_pos hc, if_neg (by decide), nmv, V1, ← (Prod.mk.inj q1).1, ← (Prod.mk.inj q1).2]
            · rw [if_neg hc] at q1
              rw [if_neg hc, if_pos rfl, nmv, V1, ← (Prod.mk.inj q1).1, ← (Prod.mk.inj q1).2]
          · show f_X7_soonest_L19_19 _ _ _ _ _ _ _ _ _ = _
            unfold f_X7_soonest_L19_19
            rw [if_neg (V2 i hi2), ck_nI (by omega) (by omega), nmv, cl_nI (by omega), eu, em, bnd_some]
            by_cases c1 : r < 0
            · rw [if_pos c1] at q2
              rw [if_pos c1, nmv, V1, ← (Prod.mk.inj q2).1, ← (Prod.mk.inj q2).2]
            · rw [if_neg c1] at q2
              rw [if_neg c1]
              by_cases c2 : best ≤ -2
              · rw [if_pos c2] at q2
                rw [if_pos c2, nmv, V1, ← (Prod.mk.inj q2).1, ← (Prod.mk.inj q2).2]
              · rw [if_neg c2] at q2
                rw [if_neg c2]
                by_cases c3 : r < sn
                · rw [if_pos c3] at q2
                  rw [if_pos c3, nmv, V1, ← (Prod.mk.inj q2).1, ← (Prod.mk.inj q2).2]
                · rw [if_neg c3] at q2
                  rw [if_neg c3, nmv, V1, ← (Prod.mk.inj q2).1, ← (Prod.mk.inj q2).2]
        rcases ho with rfl | ⟨x, rfl, hx⟩
        · exact go so an best sn (if_neg (fun q => q.1 (by decide))) (if_pos (by decide)) hq
        · have xn := nI_nneg (n := x) (by omega)
          rcases hq with ⟨rfl, rfl⟩ | ⟨q1, q2, q3, q4⟩
          · exact go (nI x) (bk i) (bk i) (nI x) (if_pos ⟨xn, Or.inl (by decide)⟩) (by rw [if_neg xn, if_pos m2_le]) (Or.inr ⟨nI_nn (by omega), rfl, rfl, V5 i hi2⟩)
          · subst q2 q3
            have sn0 : ¬ sn < 0 := Int32.not_lt.mpr q1
            by_cases c : nI x < sn
            · exact go (nI x) (bk i) (bk i) (nI x) (if_pos ⟨xn, Or.inr c⟩) (by rw [if_neg xn, if_neg q4, if_pos c]) (Or.inr ⟨nI_nn (by omega), rfl, rfl, V5 i hi2⟩)
            · exact go sn best best sn (if_neg (fun q => q.2.elim sn0 c)) (by rw [if_neg xn, if_neg q4, if_neg c]) (Or.inr ⟨q1, rfl, rfl, q4⟩)) 13 (nI t, nI d, was, -1, -1, -1, σ) (nI t, nI d, nI 1, 11, was, -2, 0, -1, τ) ⟨0, -1, -1, -2, 0, m_m τ 1, xL σ, m_on τ, by omega, by
        have q : tNear (xT σ) = m_m τ 1 := by rw [hT]; rfl
        rw [← q]; rfl, by rw [← e0]; rfl, Or.inl ⟨rfl, rfl⟩⟩
  exact ⟨so, an, best, sn, w, L, O, g1, g2, g3⟩
theorem op_nearFor {σ : XS} {τ : MS} (h : Rel σ τ) (a c : Int32) : Op (f_X6_nearFor a c σ) (f_X7_nearFor a c τ) := by
  obtain ⟨hT, ok, hr⟩ := id h
  have okx : tOk (xT σ) := by rw [hT]; exact ok
  unfold f_X6_nearFor f_X7_nearFor
  rw [x_hasThing okx, m_isThing ok, bnd_some, bnd_some, hT]
  simp only [w_in, m_isDay, bnd_some, ite01, Int32.reduceToInt, fx_0, fm_0]
  by_cases h1 : pThing (dc (m_m τ)) a
  · rw [if_neg (not_not_intro h1), if_neg (not_not_intro h1)]
    by_cases h2 : 0 ≤ c.toInt ∧ c.toInt ≤ 999
    · rw [if_neg (not_not_intro h2), if_neg (not_not_intro h2)]
      obtain ⟨p1, p2⟩ := h1
      obtain ⟨t, rfl, ht, ht2⟩ := i_ex p1
      obtain ⟨d, rfl, hd, -⟩ := i_ex h2.1
      have hs : (t : Int) < (tThings (dc (m_m τ))).toInt := by omega
      obtain ⟨so, an, best, sn, w, L, O, g1, g2, g3⟩ := par_near h hs (d := d) (by omega) (m_m τ 1)
      have ex : (nmv (tNear (xT σ)) fun x9 => bne (wl f_X6_nearFor_L45_45s (nI t, nI d, x9, -1, -1, -1, σ)) (fun a => some a) (fun b => nmv b.1 fun y13 => nmv b.2.1 fun y14 => nmv b.2.2.1 fun y15 => nmv b.2.2.2 fun u12 => nmv (sT u12 (uNear (xT u12) y13)) fun u16 => (if 0 ≤ y14 then some (y15, u16) else bnd (f_X6_found (3 : Int32) u16) fun r18 u19 => some (r18, u19)))) = if 0 ≤ so then some (an, sL σ L) else some (-1000004, fdX (sL σ L) 3) := by
        have q3 : tNear (xT σ) = m_m τ 1 := by rw [hT]; rfl
        rw [q3, nmv, g1]
        have q : sT (sL (sT σ (uNear (xT σ) w)) L) (uNear (xT (sL (sT σ (uNear (xT σ) w)) L)) (m_m τ 1)) = sL σ L := by
          have q2 : m_m τ 1 = tNear (xT σ) := by rw [hT]; rfl
          rw [q2]
        show (if 0 ≤ so then some (an, sT (sL (sT σ (uNear (xT σ) w)) L) (uNear (xT (sL (sT σ (uNear (xT σ) w)) L)) (m_m τ 1))) else bnd (f_X6_found (3 : Int32) (sT (sL (sT σ (uNear (xT σ) w)) L) (uNear (xT (sL (sT σ (uNear (xT σ) w)) L)) (m_m τ 1)))) fun r18 u19 => some (r18, u19)) = _
        rw [q, fx_3, bnd_some]
      have em : f_X7_soonest (nI t) (nI d) (nI 1) (-1) 11 τ = if best = -2 then some (-1000004, fdM (mu_on τ O) 3) else some (best, mu_on τ O) := by
        unfold f_X7_soonest
        rw [ck_nI (by omega) (by omega), cl_nI (by omega), nmv, g2]
        show (if nI 1 < 0 ∨ 247 ≤ (nI 1).toNatClampNeg then none else (nmv (mu_m (mu_on (mu_m τ (upd (m_m τ) 1 w)) O) (upd (m_m (mu_on (mu_m τ (upd (m_m τ) 1 w)) O)) (nI 1).toNatClampNeg (m_m τ 1))) fun u10 => (if best = (-2 : Int32) then bnd (f_X7_finds (-1000004 : Int32) u10) fun r12 u13 => some (r12, u13) else some (best, u10)))) = _
        have eu : mu_m (mu_on (mu_m τ (upd (m_m τ) 1 w)) O) (upd (m_m (mu_on (mu_m τ (upd (m_m τ) 1 w)) O)) 1 (m_m τ 1)) = mu_on τ O := (congrArg (fun f => mu_on (mu_m τ f) O) (upd_upd (m_m τ) 1 w (m_m τ 1))).trans (congrArg (fun f => mu_on (mu_m τ f) O) (upd_id (m_m τ) 1))
        rw [ck_nI (by omega) (by omega), cl_nI (by omega), eu, nmv, fm_3, bnd_some]
      have em' : f_X7_soonest (nI t) (nI d) (1 : Int32) (-1) 11 τ = if best = -2 then some (-1000004, fdM (mu_on τ O) 3) else some (best, mu_on τ O) := em
      rw [em']
      rw [ex]
      rcases g3 with ⟨rfl, rfl⟩ | ⟨q1, q2, q3, q4⟩
      · rw [if_neg (by decide), if_pos rfl, bnd_some]
        exact Op.mk' ((h.on _ _).fd (by decide))
      · rw [if_pos q1, if_neg (fun q => q4 (by rw [q]; decide)), bnd_some, q3]
        exact Op.mk' (h.on _ _)
    · rw [if_pos h2, if_pos h2]; exact Op.mk' (h.fd (by decide))
  · rw [if_pos h1, if_pos h1]; exact Op.mk' (h.fd (by decide))
