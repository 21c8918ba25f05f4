/-! the shop takes hours -/
def tHf (T : TownS) (t : Nat) (th : Fn) : Nat → Fn
  | 0 => th
  | i + 1 => upd (tHf T t th i) (tl T t i) (tHf T t th i (tl T t i) + nI (ho T t i))
def iUf (T : TownS) (t b : Nat) (iu : Fn) (n : Nat) : Nat → Fn
  | 0 => iu
  | i + 1 => upd (iUf T t b iu n i) (n + i) (nI (sl T t b i))
theorem tHf_v (T : TownS) (t : Nat) (th : Fn) (k : Nat) : ∀ n, tHf T t th n k = th k + nI (hn T t k n) := by
  intro n
  induction n with
  | zero => show th k = th k + 0; rw [Int32.add_zero]
  | succ n ih =>
    show upd (tHf T t th n) (tl T t n) (tHf T t th n (tl T t n) + nI (ho T t n)) k = th k + nI (if tl T t n = k then hn T t k n + ho T t n else hn T t k n)
    by_cases e : tl T t n = k
    · rw [if_pos e, e, upd_s, ih, ← nI_add, Int32.add_assoc]
    · rw [if_neg e, upd_n (fun q => e q.symm), ih]
theorem iUf_lo (T : TownS) (t b : Nat) (iu : Fn) (n : Nat) {k : Nat} (hk : k < n) : ∀ i, iUf T t b iu n i k = iu k := by
  intro i
  induction i with
  | zero => rfl
  | succ i ih =>
    show upd (iUf T t b iu n i) (n + i) (nI (sl T t b i)) k = iu k
    rw [upd_n (by omega), ih]
theorem iUf_hi (T : TownS) (t b : Nat) (iu : Fn) (n : Nat) {j : Nat} : ∀ i, j < i → iUf T t b iu n i (n + j) = nI (sl T t b j) := by
  intro i
  induction i with
  | zero => intro h; omega
  | succ i ih =>
    intro h
    show upd (iUf T t b iu n i) (n + i) (nI (sl T t b i)) (n + j) = _
    by_cases e : j = i
    · rw [e, upd_s]
    · rw [upd_n (by omega), ih (by omega)]
theorem gH_s1 (T : TownS) (t b : Nat) (f : Fn) (n : Nat) : upd (gH T t b 1 f n) (sl T t b n) (gH T t b 1 f n (sl T t b n) + nI (ho T t n)) = gH T t b 1 f (n + 1) := by
  have e := gH_s T t b 1 f n
  rw [show (1 : Int32) * nI (ho T t n) = nI (ho T t n) by rw [show (1 : Int32) = nI 1 from rfl, pk_mul, Nat.one_mul]] at e
  exact e
section SEQ
variable {u : XS} {L : Fn} {B : ShB} {N o b : Nat}
theorem x_takeHours (ok : tOk (xT u)) (hN : tOrders (xT u) = nI N) (hN5 : N ≤ 5) (hoN : o < N) (hP : PLA (xT u) N B.1 B.2.1 (N * 12)) (hb : b < 201) (hg : gs (xT u) (oT (xT u) o) b = -1) (hd : dq (xT u) (oT (xT u) o) b (sc (xT u) (oT (xT u) o) - 1) ≤ 399) (f iu th : Fn) {n : Nat} (hn : n + sc (xT u) (oT (xT u) o) ≤ 40) (w it ld : Int32) : f_X2_takeHours (nI o) (nI (o * 12 + b % rN (xT u))) (nI (b - b % rN (xT u))) (xM u L B f iu th (nI n) w it ld) = some (0, xM u L B (gH (xT u) (oT (xT u) o) b 1 f (sc (xT u) (oT (xT u) o))) (iUf (xT u) (oT (xT u) o) b iu n (sc (xT u) (oT (xT u) o))) (tHf (xT u) (oT (xT u) o) th (sc (xT u) (oT (xT u) o))) (nI (n + sc (xT u) (oT (xT u) o))) w it ld) := by
  obtain ⟨q1, ht, q3⟩ := oT_ok ok (show (o : Int) < (tOrders (xT u)).toInt by rw [hN, i_nI (by omega)]; omega)
  have pl := fun {i : Nat} (hi : i < sc (xT u) (oT (xT u) o)) (f iu th : Fn) (us : Int32) => x_place (L := L) (B := B) ok hN hN5 hoN hP hb hg hd hi f iu th us w it ld
  have s0 : f_X5_orderNumber (nI o) 0 (xM u L B f iu th (nI n) w it ld) = some (tOrd (xT u) (o * 3), xM u L B f iu th (nI n) w it ld) := x_ord (xM u L B f iu th (nI n) w it ld) (w := 0) q3 (by omega)
  rw [q1] at s0
  generalize oT (xT u) o = t at ht hg hd pl s0 hn
  generalize nI (o * 12 + b % rN (xT u)) = row at pl
  generalize nI (b - b % rN (xT u)) = sh at pl
  obtain ⟨c1, c2, c3, c4⟩ := sc_ok ok ht
  have e : wl f_X2_takeHours_L14_14s (row, sh, nI t, (0 : Int32), xM u L B f iu th (nI n) w it ld) = some (.inr (xM u L B (gH (xT u) t b 1 f (sc (xT u) t)) (iUf (xT u) t b iu n (sc (xT u) t)) (tHf (xT u) t th (sc (xT u) t)) (nI (n + sc (xT u) t)) w it ld)) := by
    refine wl_for' (fun i => (row, sh, nI t, nI i, xM u L B (gH (xT u) t b 1 f i) (iUf (xT u) t b iu n i) (tHf (xT u) t th i) (nI (n + i)) w it ld)) (sc (xT u) t) ?_ ?_ ?_
    · show (row, sh, nI t, (0 : Int32), xM u L B f iu th (nI n) w it ld) = (row, sh, nI t, nI 0, xM u L B (gH (xT u) t b 1 f 0) iu th (nI n) w it ld)
      rw [gH_0]; rfl
    · intro i hi
      obtain ⟨l1, l2', l3⟩ := sl_lt ok ht (show b < 10000 by omega) hg hd hi
      have hs := isS_of ok ht hi
      have s1 : ∀ f iu th us, f_X5_stepNumber (nI t) (nI i) 1 (xM u L B f iu th us w it ld) = some (nI (ho (xT u) t i), xM u L B f iu th us w it ld) := fun f iu th us => x_num1 (u := xM u L B f iu th us w it ld) ok hs
      have s2 : ∀ f iu th us, f_X5_stepNumber (nI t) (nI i) 0 (xM u L B f iu th us w it ld) = some (nI (tl (xT u) t i), xM u L B f iu th us w it ld) := fun f iu th us => x_num0 (u := xM u L B f iu th us w it ld) ok hs
      show f_X2_takeHours_L14_14 row sh (nI t) (nI i) (xM u L B (gH (xT u) t b 1 f i) (iUf (xT u) t b iu n i) (tHf (xT u) t th i) (nI (n + i)) w it ld) = some (.inl (row, sh, nI t, nI (i + 1), xM u L B (gH (xT u) t b 1 f (i + 1)) (iUf (xT u) t b iu n (i + 1)) (tHf (xT u) t th (i + 1)) (nI (n + i + 1)) w it ld))
      unfold f_X2_takeHours_L14_14
      rw [ck_nI c1 (by omega), cl_nI (by omega), xM_T, c2, if_neg (nI_ge hi (by omega)), pl hi, bnd_some, s1, bnd_some, ck_nI l1 (by omega), cl_nI (by omega), gM_f, nmv, ck_k l1 (by omega), gH_s1, xM_f, nmv, s2, bnd_some, ck_nI l2' (by omega), cl_nI (by omega), gM_th, nmv, ck_k l2' (by omega), xM_th, nmv, gM_us, nmv, ck_nI (by omega) (by omega), cl_nI (by omega), gM_iu, xM_iu, nmv, gM_us, nmv, xM_us, nmv, nmv, nI_s1, nI_s1]
      rfl
    · show f_X2_takeHours_L14_14 row sh (nI t) (nI (sc (xT u) t)) (xM u L B (gH (xT u) t b 1 f (sc (xT u) t)) (iUf (xT u) t b iu n (sc (xT u) t)) (tHf (xT u) t th (sc (xT u) t)) (nI (n + sc (xT u) t)) w it ld) = _
      unfold f_X2_takeHours_L14_14
      rw [ck_nI c1 (by omega), cl_nI (by omega), xM_T, c2, if_pos (Int32.le_refl _)]
  unfold f_X2_takeHours
  rw [s0, bnd_some, e]
  rfl
/-! an order is made -/
theorem x_mk0 (ok : tOk (xT u)) (hN5 : N ≤ 5) (hoN : o < N) (last : Int32) {j : Nat} (hj : j < 201) (f iu th : Fn) (us w it ld : Int32) : f_X2_make_L25_25s (nI o, last, nI (j % rN (xT u)), nI j, xM u L B f iu th us w it ld) = f_X2_make_L25_67 (nI o) last (nI j) (nI (o * 12 + j % rN (xT u))) (nI (j - j % rN (xT u))) (nI ((j + 1) % rN (xT u))) (xM u L B f iu th us w it ld) := by
  obtain ⟨hr, r1, r2⟩ := rN_ok ok
  have hl := Nat.mod_lt j (show 0 < rN (xT u) by omega)
  have hle := Nat.mod_le j (rN (xT u))
  show f_X2_make_L25_25 (nI o) last (nI (j % rN (xT u))) (nI j) (xM u L B f iu th us w it ld) = _
  unfold f_X2_make_L25_25
  rw [if_neg (show ¬ (200 : Int32) < nI j from nI_nlt (a := 200) (by omega) (by omega)), show (12 : Int32) = nI 12 from rfl, pk_mul, nI_add, nmv, nI_sub hle, nmv, xM_T, hr, nI_s1, mod_step r1]
  by_cases e : j % rN (xT u) + 1 = rN (xT u)
  · rw [if_pos (by rw [e]), if_pos e]; rfl
  · rw [if_neg (fun q => e ((nI_eq (by omega) (by omega)).mp q)), if_neg e]
theorem ite_iff {p q : Prop} [Decidable p] [Decidable q] (h : p ↔ q) : (if p then (1 : Int32) else 0) = if q then 1 else 0 := by
  by_cases c : p
  · rw [if_pos c, if_pos (h.mp c)]
  · rw [if_neg c, if_neg (fun g => c (h.mpr g))]
/-- the row of a begin that is good, and the last day of its run -/
theorem x_row (ok : tOk (xT u)) (hN : tOrders (xT u) = nI N) (hN5 : N ≤ 5) (hoN : o < N) (hP : PLA (xT u) N B.1 B.2.1 (N * 12)) {j : Nat} (hj : j < 201) : B.1 (o * 12 + j % rN (xT u)) = (if okP (xT u) (oT (xT u) o) j then 1 else 0) ∧ (gs (xT u) (oT (xT u) o) j = -1 → B.2.1 ((o * 12 + j % rN (xT u)) * 8 + (sc (xT u) (oT (xT u) o) - 1)) + nI (j - j % rN (xT u)) = nI (dq (xT u) (oT (xT u) o) j (sc (xT u) (oT (xT u) o) - 1))) := by
  obtain ⟨hr, r1, r2⟩ := rN_ok ok
  obtain ⟨q1, ht, q3⟩ := oT_ok ok (show (o : Int) < (tOrders (xT u)).toInt by rw [hN, i_nI (by omega)]; omega)
  obtain ⟨c1, c2, c3, c4⟩ := sc_ok ok ht
  have hl := Nat.mod_lt j (show 0 < rN (xT u) by omega)
  obtain ⟨p1, p2⟩ := hP o (j % rN (xT u)) hoN hl (by omega)
  refine ⟨by rw [p1]; exact ite_iff (ok_pl ok ht (by omega)), fun hg => ?_⟩
  have g0 : gs (xT u) (oT (xT u) o) (j % rN (xT u)) = -1 := by rw [← gs_pl ok ht (by omega)]; exact hg
  rw [p2 g0 _ (show sc (xT u) (oT (xT u) o) - 1 < sc (xT u) (oT (xT u) o) by omega), (dq_ok ok ht (by omega) g0 (by omega)).1, nI_add, dq_pl ok ht (by omega) hg (by omega)]
theorem x_skip (ok : tOk (xT u)) (hN : tOrders (xT u) = nI N) (hN5 : N ≤ 5) (hoN : o < N) (hP : PLA (xT u) N B.1 B.2.1 (N * 12)) {a : Ac} (ha : ∀ p, a.1 p ≤ 8) {f : Fn} (hf : ∀ p, p < 3200 → f p = nI (a.1 p)) (iu th : Fn) (us w it ld : Int32) {j : Nat} (hj : j < 201) (hp : pb (xT u) o a.1 j = false) : f_X2_make_L25_25s (nI o, nI (sc (xT u) (oT (xT u) o) - 1), nI (j % rN (xT u)), nI j, xM u L B f iu th us w it ld) = some (.inl (nI o, nI (sc (xT u) (oT (xT u) o) - 1), nI ((j + 1) % rN (xT u)), nI (j + 1), xM u L B f iu th us w it ld)) := by
  obtain ⟨hr, r1, r2⟩ := rN_ok ok
  obtain ⟨q1, ht, q3⟩ := oT_ok ok (show (o : Int) < (tOrders (xT u)).toInt by rw [hN, i_nI (by omega)]; omega)
  obtain ⟨c1, c2, c3, c4⟩ := sc_ok ok ht
  have hl := Nat.mod_lt j (show 0 < rN (xT u) by omega)
  obtain ⟨w1, w2⟩ := x_row (B := B) ok hN hN5 hoN hP hj
  have hnp : ¬ pb (xT u) o a.1 j = true := by rw [hp]; decide
  rw [pb_t] at hnp
  rw [x_mk0 ok hN5 hoN _ hj]
  unfold f_X2_make_L25_67
  rw [ck_nI (by omega) (by omega), cl_nI (by omega), gM_g, w1]
  by_cases g0 : okP (xT u) (oT (xT u) o) j
  · rw [if_pos g0]
    replace g0 := g0.1
    obtain ⟨d1, d2, d3⟩ := dq_ok ok ht (show j < 20000 by omega) g0 (k := sc (xT u) (oT (xT u) o) - 1) (by omega)
    rw [if_neg (by decide), n8, pk_mul, nI_add, nmv, ck_nI (by omega) (by omega), cl_nI (by omega), gM_pl, w2 g0, nmv]
    by_cases q : dq (xT u) (oT (xT u) o) j (sc (xT u) (oT (xT u) o) - 1) ≤ 399
    · rw [if_neg (show ¬ (399 : Int32) < nI (dq (xT u) (oT (xT u) o) j (sc (xT u) (oT (xT u) o) - 1)) from nI_nlt (a := 399) q (by omega)), x_hasHours ok hN hN5 hoN hP hj g0 q hf ha, bnd_some, if_pos (show (if frP (xT u) (oT (xT u) o) j a.1 (sc (xT u) (oT (xT u) o)) (sc (xT u) (oT (xT u) o)) then (1 : Int32) else 0) = 0 from if_neg (fun g => hnp ⟨g0, q, g⟩)), nmv, nI_s1]
    · rw [if_pos (show (399 : Int32) < nI (dq (xT u) (oT (xT u) o) j (sc (xT u) (oT (xT u) o) - 1)) from nI_lt (a := 399) (by omega) (by omega)), nmv, nI_s1]
  · rw [if_neg g0, if_pos rfl, nmv, nI_s1]
/-- how an order is made: not (or not in time), or in time -/
theorem x_make (ok : tOk (xT u)) (hN : tOrders (xT u) = nI N) (hN5 : N ≤ 5) (hoN : o < N) (hP : PLA (xT u) N B.1 B.2.1 (N * 12)) {a : Ac} (ha : ∀ p, a.1 p ≤ 8) {f : Fn} (hf : ∀ p, p < 3200 → f p = nI (a.1 p)) (iu th : Fn) {n : Nat} (hn : n + 8 ≤ 40) (w it ld : Int32) : (f_X2_make (nI o) (xM u L B f iu th (nI n) w it ld) = some (-1, xM u L B f iu th (nI n) w it ld) ∧ tk (xT u) o a = a) ∨ ∃ b, b < 201 ∧ pb (xT u) o a.1 b = true ∧ tk (xT u) o a = mk (xT u) o b a ∧ f_X2_make (nI o) (xM u L B f iu th (nI n) w it ld) = some (nI (dq (xT u) (oT (xT u) o) b (sc (xT u) (oT (xT u) o) - 1)), xM u L B (gH (xT u) (oT (xT u) o) b 1 f (sc (xT u) (oT (xT u) o))) (iUf (xT u) (oT (xT u) o) b iu n (sc (xT u) (oT (xT u) o))) (tHf (xT u) (oT (xT u) o) th (sc (xT u) (oT (xT u) o))) (nI (n + sc (xT u) (oT (xT u) o))) w it ld) := by
  obtain ⟨hr, r1, r2⟩ := rN_ok ok
  obtain ⟨q1, ht, q3⟩ := oT_ok ok (show (o : Int) < (tOrders (xT u)).toInt by rw [hN, i_nI (by omega)]; omega)
  obtain ⟨c1, c2, c3, c4⟩ := sc_ok ok ht
  have s0 : f_X5_orderNumber (nI o) 0 (xM u L B f iu th (nI n) w it ld) = some (tOrd (xT u) (o * 3), xM u L B f iu th (nI n) w it ld) := x_ord (xM u L B f iu th (nI n) w it ld) (w := 0) q3 (by omega)
  have s1 : f_X5_orderNumber (nI o) 1 (xM u L B f iu th (nI n) w it ld) = some (oD (xT u) o, xM u L B f iu th (nI n) w it ld) := x_ord (xM u L B f iu th (nI n) w it ld) (w := 1) q3 (by omega)
  rw [q1] at s0
  have st : f_X2_make (nI o) (xM u L B f iu th (nI n) w it ld) = bne (wl f_X2_make_L25_25s (nI o, nI (sc (xT u) (oT (xT u) o) - 1), nI (0 % rN (xT u)), nI 0, xM u L B f iu th (nI n) w it ld)) (fun a => some a) fun b => nmv b fun u7 => some ((-1 : Int32), u7) := by
    unfold f_X2_make
    rw [s0, bnd_some, ck_nI c1 (by omega), cl_nI (by omega), xM_T, c2, show (1 : Int32) = nI 1 from rfl, nI_sub c3, nmv, Nat.zero_mod]
    rfl
  have key : ∀ b, b ≤ 201 → (∀ i, i < b → pb (xT u) o a.1 i = false) → ∀ m j, j + m = b → wl f_X2_make_L25_25s (nI o, nI (sc (xT u) (oT (xT u) o) - 1), nI (j % rN (xT u)), nI j, xM u L B f iu th (nI n) w it ld) = wl f_X2_make_L25_25s (nI o, nI (sc (xT u) (oT (xT u) o) - 1), nI (b % rN (xT u)), nI b, xM u L B f iu th (nI n) w it ld) := by
    intro b hb hbn m
    induction m with
    | zero => intro j hj; rw [show j = b by omega]
    | succ m ih =>
      intro j hj
      rw [wl_in (x_skip ok hN hN5 hoN hP ha hf iu th (nI n) w it ld (j := j) (by omega) (hbn j (by omega)))]
      exact ih (j + 1) (by omega)
  rcases tk_cases (xT u) o a with ⟨e, hnn⟩ | ⟨b, hb, hp, hbn, hc⟩
  · left
    refine ⟨?_, e⟩
    rw [st, key 201 (Nat.le_refl _) hnn 201 0 (by omega)]
    have e2 : f_X2_make_L25_25s (nI o, nI (sc (xT u) (oT (xT u) o) - 1), nI (201 % rN (xT u)), nI 201, xM u L B f iu th (nI n) w it ld) = some (.inr (.inr (xM u L B f iu th (nI n) w it ld))) := by
      show f_X2_make_L25_25 (nI o) (nI (sc (xT u) (oT (xT u) o) - 1)) (nI (201 % rN (xT u))) (nI 201) (xM u L B f iu th (nI n) w it ld) = _
      unfold f_X2_make_L25_25
      rw [if_pos (by decide)]
    rw [wl_out e2]
    rfl
  · obtain ⟨p1, p2, p3⟩ := pb_t.mp hp
    have hl := Nat.mod_lt b (show 0 < rN (xT u) by omega)
    obtain ⟨w1, w2⟩ := x_row (B := B) ok hN hN5 hoN hP hb
    have go : ∀ r, f_X2_make_L25_25s (nI o, nI (sc (xT u) (oT (xT u) o) - 1), nI (b % rN (xT u)), nI b, xM u L B f iu th (nI n) w it ld) = some (.inr (.inl r)) → f_X2_make (nI o) (xM u L B f iu th (nI n) w it ld) = some r := by
      intro r h
      rw [st, key b (by omega) hbn b 0 (by omega), wl_out h]
      rfl
    have st2 := x_mk0 (L := L) (B := B) ok hN5 hoN (nI (sc (xT u) (oT (xT u) o) - 1)) hb f iu th (nI n) w it ld
    unfold f_X2_make_L25_67 at st2
    rw [ck_nI (by omega) (by omega), cl_nI (by omega), gM_g, w1, if_pos (show okP (xT u) (oT (xT u) o) b from ⟨p1, fr_zero p3⟩), if_neg (by decide), n8, pk_mul, nI_add, nmv, ck_nI (by omega) (by omega), cl_nI (by omega), gM_pl, w2 p1, nmv, if_neg (show ¬ (399 : Int32) < nI (dq (xT u) (oT (xT u) o) b (sc (xT u) (oT (xT u) o) - 1)) from nI_nlt (a := 399) p2 (by omega)), x_hasHours ok hN hN5 hoN hP hb p1 p2 hf ha, bnd_some, if_pos p3, if_neg (by decide), s1, bnd_some] at st2
    rcases hc with ⟨g1, e⟩ | ⟨g1, e⟩
    · left
      rw [if_neg (Int32.not_le.mpr g1)] at st2
      exact ⟨go _ st2, e⟩
    · right
      rw [if_pos (Int32.not_lt.mp g1), x_takeHours ok hN hN5 hoN hP hb p1 p2 f iu th (by omega), bnd_some] at st2
      exact ⟨b, hb, hp, e, go _ st2⟩
/-! a sequence is taken -/
/-- the shop's account is a -/
def CA (f iu th : Fn) (m : Nat) (a : Ac) (c : Nat) : Prop := (∀ p, p < 3200 → f p = nI (a.1 p)) ∧ (∀ k, k < 8 → th k = nI (tot a.1 k 400)) ∧ m ≤ 8 * c ∧ (∀ k, k < m → ∃ p, iu k = nI p ∧ p < 3200) ∧ ∀ p, p < 3200 → (∀ k, k < m → iu k ≠ nI p) → a.1 p = 0
theorem CA.hOk {f iu th : Fn} {m : Nat} {a : Ac} {c : Nat} (h : CA f iu th m a c) (hc : c ≤ 5) (B : ShB) (w it ld : Int32) : hOk (hM B f iu th (nI m) w it ld) := by
  obtain ⟨h1, h2, h3, h4, h5⟩ := h
  have em : (nI m).toInt = m := i_nI (by omega)
  refine ⟨?_, ?_, ?_⟩
  · show 0 ≤ (nI m).toInt ∧ (nI m).toInt ≤ 40
    omega
  · intro k hk
    have hk : (k : Int) < (nI m).toInt := hk
    obtain ⟨p, e, hp⟩ := h4 k (by omega)
    show 0 ≤ (iu k).toInt ∧ (iu k).toInt < 3200
    rw [e, i_nI (by omega)]
    omega
  · intro p hp hq
    show f p = 0
    rw [h1 p hp, h5 p hp (fun k hk e => hq k (show (k : Int) < (nI m).toInt by omega) (by
      show (iu k).toInt = p
      rw [e, i_nI (by omega)]))]
    rfl
theorem CA.mk {f iu th : Fn} {m : Nat} {a : Ac} {c : Nat} (ok : tOk (xT u)) {o : Nat} (ho : (o : Int) < (tOrders (xT u)).toInt) (h : CA f iu th m a c) {b : Nat} (hb : b < 201) (hp : pb (xT u) o a.1 b = true) : CA (gH (xT u) (oT (xT u) o) b 1 f (sc (xT u) (oT (xT u) o))) (iUf (xT u) (oT (xT u) o) b iu m (sc (xT u) (oT (xT u) o))) (tHf (xT u) (oT (xT u) o) th (sc (xT u) (oT (xT u) o))) (m + sc (xT u) (oT (xT u) o)) (mk (xT u) o b a) (c + 1) := by
  obtain ⟨h1, h2, h3, h4, h5⟩ := h
  obtain ⟨q1, ht, q3⟩ := oT_ok ok ho
  obtain ⟨c1, c2, c3, c4⟩ := sc_ok ok ht
  obtain ⟨p1, p2, p3⟩ := pb_t.mp hp
  have hsl := fun i (hi : i < sc (xT u) (oT (xT u) o)) => sl_lt ok ht (show b < 10000 by omega) p1 p2 hi
  refine ⟨?_, ?_, by omega, ?_, ?_⟩
  · intro p hp3
    show f p + smv (xT u) (oT (xT u) o) b 1 p (sc (xT u) (oT (xT u) o)) = nI (a.1 p + sm (xT u) (oT (xT u) o) b p (sc (xT u) (oT (xT u) o)))
    rw [h1 p hp3, smv_1, nI_add]
  · intro k hk
    rw [tHf_v, h2 k hk, nI_add]
    show _ = nI (tot (ad (xT u) (oT (xT u) o) b a.1) k 400)
    rw [tot_ad a.1 (fun i hi => (hsl i hi).2.2)]
    rfl
  · intro k hk
    by_cases q : k < m
    · rw [iUf_lo _ _ _ _ _ q]; exact h4 k q
    · obtain ⟨j, rfl⟩ : ∃ j, k = m + j := ⟨k - m, by omega⟩
      rw [iUf_hi _ _ _ _ _ _ (by omega)]
      exact ⟨_, rfl, (hsl j (by omega)).1⟩
  · intro p hp3 hq
    show a.1 p + sm (xT u) (oT (xT u) o) b p (sc (xT u) (oT (xT u) o)) = 0
    rw [h5 p hp3 (fun k hk => by have := hq k (by omega); rw [iUf_lo _ _ _ _ _ hk] at this; exact this), sm_0 _ (fun i hi e => by
      have := hq (m + i) (by omega)
      rw [iUf_hi _ _ _ _ _ _ hi, e] at this
      exact this rfl)]
theorem x_seq (ok : tOk (xT u)) (hN : tOrders (xT u) = nI N) (hN5 : N ≤ 5) (hP : PLA (xT u) N B.1 B.2.1 (N * 12)) {n : Nat} (hn : n ≤ 5) {s : Nat → Nat} (hs : ∀ k, k < n → B.2.2.1 k = nI (s k) ∧ s k < N) : ∀ m k f iu th q, k + m = n → CA f iu th q (rn (xT u) s k) k → ∃ f' iu' th' q', wl f_X2_takeInSequence_L6_6s (nI n, nI k, xM u L B f iu th (nI q) (rn (xT u) s k).2.1 (rn (xT u) s k).2.2.1 (rn (xT u) s k).2.2.2) = some (.inr (xM u L B f' iu' th' (nI q') (rn (xT u) s n).2.1 (rn (xT u) s n).2.2.1 (rn (xT u) s n).2.2.2)) ∧ CA f' iu' th' q' (rn (xT u) s n) n := by
  intro m
  induction m with
  | zero =>
    intro k f iu th q hk hC
    have hk2 : k = n := by omega
    subst hk2
    refine ⟨f, iu, th, q, wl_out ?_, hC⟩
    show f_X2_takeInSequence_L6_6 (nI k) (nI k) (xM u L B f iu th (nI q) (rn (xT u) s k).2.1 (rn (xT u) s k).2.2.1 (rn (xT u) s k).2.2.2) = _
    unfold f_X2_takeInSequence_L6_6
    rw [if_pos (Int32.le_refl _)]
  | succ m ih =>
    intro k f iu th q hk hC
    obtain ⟨e1, e2⟩ := hs k (by omega)
    have hq : q ≤ 8 * k := hC.2.2.1
    have hoo : (s k : Int) < (tOrders (xT u)).toInt := by rw [hN, i_nI (by omega)]; omega
    obtain ⟨q1, ht, q3⟩ := oT_ok ok hoo
    obtain ⟨c1, c2, c3, c4⟩ := sc_ok ok ht
    have st : f_X2_takeInSequence_L6_6s (nI n, nI k, xM u L B f iu th (nI q) (rn (xT u) s k).2.1 (rn (xT u) s k).2.2.1 (rn (xT u) s k).2.2.2) = f_X2_takeInSequence_L6_6 (nI n) (nI k) (xM u L B f iu th (nI q) (rn (xT u) s k).2.1 (rn (xT u) s k).2.2.1 (rn (xT u) s k).2.2.2) := rfl
    conv at st => rhs; unfold f_X2_takeInSequence_L6_6
    rw [if_neg (nI_ge (by omega) (by omega)), ck_nI (by omega) (by omega), cl_nI (by omega), gM_sq, e1, nmv] at st
    rcases x_make (L := L) (B := B) ok hN hN5 e2 hP (rn_le (xT u) s k) hC.1 iu th (n := q) (by omega) (rn (xT u) s k).2.1 (rn (xT u) s k).2.2.1 (rn (xT u) s k).2.2.2 with ⟨g1, g2⟩ | ⟨b, hb, hp, g2, g1⟩
    · rw [g1, bnd_some, if_pos (by decide), nmv, nI_s1] at st
      have er : rn (xT u) s (k + 1) = rn (xT u) s k := by rw [rn_s]; exact g2
      have hC' : CA f iu th q (rn (xT u) s (k + 1)) (k + 1) := by
        rw [er]
        exact ⟨hC.1, hC.2.1, by omega, hC.2.2.2⟩
      obtain ⟨f', iu', th', q', e, hC2⟩ := ih (k + 1) f iu th q (by omega) hC'
      refine ⟨f', iu', th', q', ?_, hC2⟩
      rw [er] at e
      rw [wl_in st]
      exact e
    · obtain ⟨p1, p2, p3⟩ := pb_t.mp hp
      have er : rn (xT u) s (k + 1) = mk (xT u) (s k) b (rn (xT u) s k) := by rw [rn_s]; exact g2
      have s2 : ∀ f iu th us w it ld, f_X5_orderNumber (nI (s k)) 2 (xM u L B f iu th us w it ld) = some (oW (xT u) (s k), xM u L B f iu th us w it ld) := fun f iu th us w it ld => x_ord (xM u L B f iu th us w it ld) (w := 2) q3 (by omega)
      rw [g1, bnd_some, if_neg (nI_nneg (by omega)), s2, bnd_some, gM_w, nmv, xM_w, nmv, gM_it, nmv, xM_it, nmv, gM_ld, nmv, xM_ld, nmv, nmv, nI_s1] at st
      have hC' := CA.mk (u := u) ok hoo hC hb hp
      rw [← er] at hC'
      obtain ⟨f', iu', th', q', e, hC2⟩ := ih (k + 1) _ _ _ _ (by omega) hC'
      refine ⟨f', iu', th', q', ?_, hC2⟩
      rw [er] at e
      rw [wl_in st]
      exact e
theorem x_takeSeq (ok : tOk (xT u)) (hN : tOrders (xT u) = nI N) (hN5 : N ≤ 5) (hP : PLA (xT u) N B.1 B.2.1 (N * 12)) {n : Nat} (hn : n ≤ 5) {s : Nat → Nat} (hs : ∀ k, k < n → B.2.2.1 k = nI (s k) ∧ s k < N) (f iu th : Fn) (us w it ld : Int32) (hh : hOk (hM B f iu th us w it ld)) : ∃ f' iu' th' q', f_X2_takeInSequence (nI n) (xM u L B f iu th us w it ld) = some (0, xM u L B f' iu' th' (nI q') (rn (xT u) s n).2.1 (rn (xT u) s n).2.2.1 (rn (xT u) s n).2.2.2) ∧ CA f' iu' th' q' (rn (xT u) s n) n := by
  obtain ⟨h1, h2, h3⟩ := hh
  have h1 : 0 ≤ us.toInt ∧ us.toInt ≤ 40 := h1
  have h2 : ∀ k : Nat, (k : Int) < us.toInt → 0 ≤ (iu k).toInt ∧ (iu k).toInt < 3200 := h2
  have h3 : ∀ p : Nat, p < 3200 → (∀ k : Nat, (k : Int) < us.toInt → (iu k).toInt ≠ p) → f p = 0 := h3
  obtain ⟨m, rfl, hm, -⟩ := i_ex h1.1
  have hz : ∀ p, p < 3200 → zf iu f m p = 0 := by
    intro p hp
    refine zf_z m ?_
    by_cases q : ∃ k, k < m ∧ (iu k).toNatClampNeg = p
    · exact Or.inl q
    · right
      exact h3 p hp (fun k hk e => q ⟨k, by omega, by
        have := i_cl (h2 k hk).1
        omega⟩)
  have hC : CA (zf iu f m) iu (zr th 0 8) 0 (rn (xT u) s 0) 0 := by
    refine ⟨fun p hp => by rw [hz p hp]; rfl, fun k hk => ?_, Nat.le_refl _, fun k hk => by omega, fun p hp _ => rfl⟩
    show zr th 0 8 k = nI (tot (fun _ => 0) k 400)
    rw [tot_0]
    unfold zr
    rw [if_pos (by omega)]
    rfl
  obtain ⟨f', iu', th', q', e, hC2⟩ := x_seq (L := L) (B := B) ok hN hN5 hP hn hs n 0 (zf iu f m) iu (zr th 0 8) 0 (by omega) hC
  refine ⟨f', iu', th', q', ?_, hC2⟩
  have e' : wl f_X2_takeInSequence_L6_6s (nI n, (0 : Int32), xM u L B (zf iu f m) iu (zr th 0 8) 0 0 0 (-1)) = some (.inr (xM u L B f' iu' th' (nI q') (rn (xT u) s n).2.1 (rn (xT u) s n).2.2.1 (rn (xT u) s n).2.2.2)) := e
  unfold f_X2_takeInSequence
  rw [x_forget u L B f iu th w it ld (by omega) (fun k hk => h2 k (by omega)), bnd_some, e']
  rfl
end SEQ
