/-! the shop plots runs -/
/-- whether a run doesn't spoil, and finds its hours where nothing is taken -/
abbrev okP (T : TownS) (t p : Nat) : Prop := gs T t p = -1 ∧ frP T t p (fun _ => 0) (sc T t) (sc T t)
/-- the days of a run, in a row of the plot -/
def plw (T : TownS) (t p : Nat) (pl : Fn) (r : Nat) : Prop := ∀ k, k < sc T t → pl (r * 8 + k) = gd T t p k
/-- a row of the plot is right -/
def plr (T : TownS) (t p : Nat) (g pl : Fn) (r : Nat) : Prop := g r = (if okP T t p then 1 else 0) ∧ (gs T t p = -1 → plw T t p pl r)
/-- rows below n are right -/
def PLA (T : TownS) (N : Nat) (g pl : Fn) (n : Nat) : Prop := ∀ o p, o < N → p < rN T → o * 12 + p < n → plr T (oT T o) p g pl (o * 12 + p)
def xG (u : XS) (L g pl : Fn) : XS := xZ u L (hM (g, pl, h_sequence (xH u), h_bestWorth (xH u), h_bestInTime (xH u), h_bestDigits (xH u)) (h_hoursOn (xH u)) (h_inUse (xH u)) (h_toolHours (xH u)) (h_uses (xH u)) (h_worth (xH u)) (h_inTime (xH u)) (h_lastDay (xH u)))
theorem xG_id (u : XS) : u = xG u (xL u) (h_isGood (xH u)) (h_plotted (xH u)) := rfl
theorem xG_T (u : XS) (L g pl : Fn) : xT (xG u L g pl) = xT u := rfl
theorem xG_L (u : XS) (L g pl : Fn) : xL (xG u L g pl) = L := rfl
theorem xG_g (u : XS) (L g pl g' : Fn) : sH (xG u L g pl) (hu_isGood (xH (xG u L g pl)) g') = xG u L g' pl := rfl
theorem xG_pl (u : XS) (L g pl p' : Fn) : sH (xG u L g pl) (hu_plotted (xH (xG u L g pl)) p') = xG u L g p' := rfl
theorem gG_g (u : XS) (L g pl : Fn) : h_isGood (xH (xG u L g pl)) = g := rfl
theorem gG_pl (u : XS) (L g pl : Fn) : h_plotted (xH (xG u L g pl)) = pl := rfl
theorem xG_M (u : XS) (L g pl : Fn) : xG u L g pl = xM u L (g, pl, h_sequence (xH u), h_bestWorth (xH u), h_bestInTime (xH u), h_bestDigits (xH u)) (h_hoursOn (xH u)) (h_inUse (xH u)) (h_toolHours (xH u)) (h_uses (xH u)) (h_worth (xH u)) (h_inTime (xH u)) (h_lastDay (xH u)) := rfl
/-- a run that fits anywhere fits where nothing is taken; and it fits there from every begin of its place in the round -/
theorem fr_zero {T : TownS} {t b : Nat} {h : Nat → Nat} {m n : Nat} (q : frP T t b h m n) : frP T t b (fun _ => 0) m n := fun i hi => by
  have := q i hi
  show 0 + sm T t b (sl T t b i) n ≤ 8
  omega
theorem sl_pl {T : TownS} (ok : tOk T) {t b : Nat} (ht : (t : Int) < (tThings T).toInt) (hb : b < 10000) (h : gs T t b = -1) {k : Nat} (hk : k < sc T t) : sl T t b k = sl T t (b % rN T) k + (b - b % rN T) := by
  unfold sl
  rw [dq_pl ok ht hb h hk]
  omega
theorem sm_pl {T : TownS} (ok : tOk T) {t b : Nat} (ht : (t : Int) < (tThings T).toInt) (hb : b < 10000) (h : gs T t b = -1) (p : Nat) : ∀ n, n ≤ sc T t → sm T t b (p + (b - b % rN T)) n = sm T t (b % rN T) p n := by
  intro n
  induction n with
  | zero => intro _; rfl
  | succ n ih =>
    intro hn
    rw [sm_s, sm_s, ih (by omega), sl_pl ok ht hb h (show n < sc T t by omega)]
    by_cases e : sl T t (b % rN T) n = p
    · rw [if_pos e, if_pos (by omega)]
    · rw [if_neg e, if_neg (by omega)]
theorem fr_pl {T : TownS} (ok : tOk T) {t b : Nat} (ht : (t : Int) < (tThings T).toInt) (hb : b < 10000) (h : gs T t b = -1) : frP T t b (fun _ => 0) (sc T t) (sc T t) ↔ frP T t (b % rN T) (fun _ => 0) (sc T t) (sc T t) := by
  have e : ∀ i, i < sc T t → sm T t b (sl T t b i) (sc T t) = sm T t (b % rN T) (sl T t (b % rN T) i) (sc T t) := fun i hi => by
    rw [sl_pl ok ht hb h hi, sm_pl ok ht hb h _ _ (Nat.le_refl _)]
  constructor
  · intro q i hi
    have := q i hi
    rw [e i hi] at this
    exact this
  · intro q i hi
    have := q i hi
    rw [← e i hi] at this
    exact this
theorem ok_pl {T : TownS} (ok : tOk T) {t b : Nat} (ht : (t : Int) < (tThings T).toInt) (hb : b < 10000) : okP T t (b % rN T) ↔ okP T t b := by
  constructor
  · rintro ⟨g, f⟩
    have g' : gs T t b = -1 := by rw [gs_pl ok ht hb]; exact g
    exact ⟨g', (fr_pl ok ht hb g').mpr f⟩
  · rintro ⟨g, f⟩
    exact ⟨by rw [← gs_pl ok ht hb]; exact g, (fr_pl ok ht hb g).mp f⟩
/-! the shop makes an order -/
section MAKE
variable {u : XS} {L : Fn} {B : ShB} {N o b : Nat}
/-- the place in hours of a step of a run from b, out of the plot -/
theorem x_placeR (ok : tOk (xT u)) (hN : tOrders (xT u) = nI N) (hN5 : N ≤ 5) (hoN : o < N) (hR : plw (xT u) (oT (xT u) o) (b % rN (xT u)) B.2.1 (o * 12 + b % rN (xT u))) (hb : b < 201) (hg : gs (xT u) (oT (xT u) o) b = -1) (hd : dq (xT u) (oT (xT u) o) b (sc (xT u) (oT (xT u) o) - 1) ≤ 399) {i : Nat} (hi : i < sc (xT u) (oT (xT u) o)) (f iu th : Fn) (us w it ld : Int32) : f_X2_placeOf (nI (oT (xT u) o)) (nI i) (nI (o * 12 + b % rN (xT u))) (nI (b - b % rN (xT u))) (xM u L B f iu th us w it ld) = some (nI (sl (xT u) (oT (xT u) o) b i), xM u L B f iu th us w it ld) := by
  obtain ⟨hr, r1, r2⟩ := rN_ok ok
  obtain ⟨q1, ht, q3⟩ := oT_ok ok (show (o : Int) < (tOrders (xT u)).toInt by rw [hN, i_nI (by omega)]; omega)
  obtain ⟨c1, c2, c3, c4⟩ := sc_ok ok ht
  have hl := Nat.mod_lt b (show 0 < rN (xT u) by omega)
  have g0 : gs (xT u) (oT (xT u) o) (b % rN (xT u)) = -1 := by rw [← gs_pl ok ht (by omega)]; exact hg
  have e1 := hR i hi
  rw [(dq_ok ok ht (by omega) g0 hi).1] at e1
  have e2 := dq_pl ok ht (by omega) hg hi
  have s1 : f_X5_stepNumber (nI (oT (xT u) o)) (nI i) 0 (xM u L B f iu th us w it ld) = some (nI (tl (xT u) (oT (xT u) o) i), xM u L B f iu th us w it ld) := x_num0 (u := xM u L B f iu th us w it ld) ok (isS_of ok ht hi)
  unfold f_X2_placeOf
  rw [s1, bnd_some, n8, pk_mul, nI_add, nmv, ck_nI (by omega) (by omega), cl_nI (by omega), gM_pl, e1, show (400 : Int32) = nI 400 from rfl, pk_mul, nI_add, nI_add]
  unfold sl
  rw [e2, show tl (xT u) (oT (xT u) o) i * 400 + dq (xT u) (oT (xT u) o) (b % rN (xT u)) i + (b - b % rN (xT u)) = 400 * tl (xT u) (oT (xT u) o) i + (dq (xT u) (oT (xT u) o) (b % rN (xT u)) i + (b - b % rN (xT u))) by omega]
theorem x_hasHoursR (ok : tOk (xT u)) (hN : tOrders (xT u) = nI N) (hN5 : N ≤ 5) (hoN : o < N) (hR : plw (xT u) (oT (xT u) o) (b % rN (xT u)) B.2.1 (o * 12 + b % rN (xT u))) (hb : b < 201) (hg : gs (xT u) (oT (xT u) o) b = -1) (hd : dq (xT u) (oT (xT u) o) b (sc (xT u) (oT (xT u) o) - 1) ≤ 399) {f : Fn} {h : Nat → Nat} (hf : ∀ p, p < 3200 → f p = nI (h p)) (hh : ∀ p, h p ≤ 8) (iu th : Fn) (us w it ld : Int32) : f_X2_hasHours (nI o) (nI (o * 12 + b % rN (xT u))) (nI (b - b % rN (xT u))) (xM u L B f iu th us w it ld) = some (if frP (xT u) (oT (xT u) o) b h (sc (xT u) (oT (xT u) o)) (sc (xT u) (oT (xT u) o)) then 1 else 0, xM u L B f iu th us w it ld) := by
  obtain ⟨q1, ht, q3⟩ := oT_ok ok (show (o : Int) < (tOrders (xT u)).toInt by rw [hN, i_nI (by omega)]; omega)
  have pl := fun {i : Nat} (hi : i < sc (xT u) (oT (xT u) o)) => x_placeR (L := L) (B := B) ok hN hN5 hoN hR hb hg hd hi f iu th us w it ld
  have s0 : f_X5_orderNumber (nI o) 0 (xM u L B f iu th us w it ld) = some (tOrd (xT u) (o * 3), xM u L B f iu th us w it ld) := x_ord (xM u L B f iu th us w it ld) (w := 0) q3 (by omega)
  rw [q1] at s0
  generalize oT (xT u) o = t at ht hg hd pl s0
  generalize hrow : nI (o * 12 + b % rN (xT u)) = row at pl
  generalize hsh : nI (b - b % rN (xT u)) = sh at pl
  obtain ⟨c1, c2, c3, c4⟩ := sc_ok ok ht
  have inner : ∀ i, i < sc (xT u) t → wl f_X2_hasHours_L53_53s (row, sh, nI t, nI i, nI (sl (xT u) t b i), f (sl (xT u) t b i), (0 : Int32), xM u L B f iu th us w it ld) = some (.inr (row, sh, nI t, nI i, nI (h (sl (xT u) t b i) + sm (xT u) t b (sl (xT u) t b i) (i + 1)), xM u L B f iu th us w it ld)) := by
    intro i hi
    obtain ⟨l1, -, -⟩ := sl_lt ok ht (by omega) hg hd hi
    refine wl_for' (fun j => (row, sh, nI t, nI i, nI (sl (xT u) t b i), nI (h (sl (xT u) t b i) + sm (xT u) t b (sl (xT u) t b i) j), nI j, xM u L B f iu th us w it ld)) (i + 1) ?_ ?_ ?_
    · rw [hf _ l1]; rfl
    · intro j hj
      obtain ⟨l2, -, -⟩ := sl_lt ok ht (show b < 10000 by omega) hg hd (show j < sc (xT u) t by omega)
      have s1 : f_X5_stepNumber (nI t) (nI j) 1 (xM u L B f iu th us w it ld) = some (nI (ho (xT u) t j), xM u L B f iu th us w it ld) := x_num1 (u := xM u L B f iu th us w it ld) ok (isS_of ok ht (by omega))
      show f_X2_hasHours_L53_53 row sh (nI t) (nI i) (nI (sl (xT u) t b i)) (nI (h (sl (xT u) t b i) + sm (xT u) t b (sl (xT u) t b i) j)) (nI j) (xM u L B f iu th us w it ld) = some (.inl (row, sh, nI t, nI i, nI (sl (xT u) t b i), nI (h (sl (xT u) t b i) + sm (xT u) t b (sl (xT u) t b i) (j + 1)), nI (j + 1), xM u L B f iu th us w it ld))
      unfold f_X2_hasHours_L53_53
      rw [if_neg (nI_nlt (by omega) (by omega)), pl (by omega), bnd_some, sm_s]
      by_cases c : sl (xT u) t b j = sl (xT u) t b i
      · rw [if_pos (by rw [c]), s1, bnd_some, nI_add, nmv, nmv, nI_s1, if_pos c, Nat.add_assoc]
      · rw [if_neg (fun q => c ((nI_eq (by omega) (by omega)).mp q)), nmv, nI_s1, if_neg c]
    · show f_X2_hasHours_L53_53 row sh (nI t) (nI i) (nI (sl (xT u) t b i)) (nI (h (sl (xT u) t b i) + sm (xT u) t b (sl (xT u) t b i) (i + 1))) (nI (i + 1)) (xM u L B f iu th us w it ld) = _
      unfold f_X2_hasHours_L53_53
      rw [if_pos (nI_lt (by omega) (by omega))]
  have outer : ∀ m i, i + m = sc (xT u) t → (∀ j, j < i → h (sl (xT u) t b j) + sm (xT u) t b (sl (xT u) t b j) (j + 1) ≤ 8) → bne (wl f_X2_hasHours_L14_14s (row, sh, nI t, nI i, xM u L B f iu th us w it ld)) (fun a => some a) (fun b => nmv b fun u5 => some ((1 : Int32), u5)) = some (if frP (xT u) t b h (sc (xT u) t) (sc (xT u) t) then 1 else 0, xM u L B f iu th us w it ld) := by
    intro m
    induction m with
    | zero =>
      intro i hi hpre
      have hi2 : i = sc (xT u) t := by omega
      subst hi2
      have e : f_X2_hasHours_L14_14s (row, sh, nI t, nI (sc (xT u) t), xM u L B f iu th us w it ld) = some (.inr (.inr (xM u L B f iu th us w it ld))) := by
        show f_X2_hasHours_L14_14 row sh (nI t) (nI (sc (xT u) t)) (xM u L B f iu th us w it ld) = _
        unfold f_X2_hasHours_L14_14
        rw [ck_nI c1 (by omega), cl_nI (by omega), xM_T, c2, if_pos (Int32.le_refl _)]
      rw [wl_out e, if_pos ((fr_iff _).mp hpre)]
      rfl
    | succ m ih =>
      intro i hi hpre
      obtain ⟨l1, -, -⟩ := sl_lt ok ht (show b < 10000 by omega) hg hd (show i < sc (xT u) t by omega)
      have h8 := hh (sl (xT u) t b i)
      have hsm := sm_le ok (b := b) (p := sl (xT u) t b i) ht (i + 1) (by omega)
      have st : f_X2_hasHours_L14_14s (row, sh, nI t, nI i, xM u L B f iu th us w it ld) = f_X2_hasHours_L14_14 row sh (nI t) (nI i) (xM u L B f iu th us w it ld) := rfl
      conv at st => rhs; unfold f_X2_hasHours_L14_14
      rw [ck_nI c1 (by omega), cl_nI (by omega), xM_T, c2, if_neg (nI_ge (by omega) (by omega)), pl (by omega), bnd_some, ck_nI l1 (by omega), cl_nI (by omega), gM_f, nmv, inner i (by omega)] at st
      have st2 : f_X2_hasHours_L14_14s (row, sh, nI t, nI i, xM u L B f iu th us w it ld) = (if nI (h (sl (xT u) t b i) + sm (xT u) t b (sl (xT u) t b i) (i + 1)) ≤ (8 : Int32) then some (.inl (row, sh, nI t, nI i + 1, xM u L B f iu th us w it ld)) else some (.inr (.inl ((0 : Int32), xM u L B f iu th us w it ld)))) := st
      by_cases c : h (sl (xT u) t b i) + sm (xT u) t b (sl (xT u) t b i) (i + 1) ≤ 8
      · rw [if_pos (show nI (h (sl (xT u) t b i) + sm (xT u) t b (sl (xT u) t b i) (i + 1)) ≤ (8 : Int32) from nI_le (b := 8) c (by omega)), nI_s1] at st2
        rw [wl_in st2]
        exact ih (i + 1) (by omega) (fun j hj => by
          by_cases e : j = i
          · rw [e]; exact c
          · exact hpre j (by omega))
      · rw [if_neg (show ¬ nI (h (sl (xT u) t b i) + sm (xT u) t b (sl (xT u) t b i) (i + 1)) ≤ (8 : Int32) from nI_ge (a := 8) (by omega) (by omega))] at st2
        rw [wl_out st2, if_neg (fun g => c ((fr_iff _).mpr g i (by omega)))]
        rfl
  unfold f_X2_hasHours
  rw [s0, bnd_some]
  exact outer (sc (xT u) t) 0 (by omega) (fun j hj => by omega)
/-- the row of a begin, out of the whole plot -/
theorem x_rowR (ok : tOk (xT u)) (hN : tOrders (xT u) = nI N) (hN5 : N ≤ 5) (hoN : o < N) (hP : PLA (xT u) N B.1 B.2.1 (N * 12)) (hb : b < 201) (hg : gs (xT u) (oT (xT u) o) b = -1) : plw (xT u) (oT (xT u) o) (b % rN (xT u)) B.2.1 (o * 12 + b % rN (xT u)) := by
  obtain ⟨hr, r1, r2⟩ := rN_ok ok
  obtain ⟨q1, ht, q3⟩ := oT_ok ok (show (o : Int) < (tOrders (xT u)).toInt by rw [hN, i_nI (by omega)]; omega)
  have hl := Nat.mod_lt b (show 0 < rN (xT u) by omega)
  exact (hP o (b % rN (xT u)) hoN hl (by omega)).2 (by rw [← gs_pl ok ht (by omega)]; exact hg)
theorem x_place (ok : tOk (xT u)) (hN : tOrders (xT u) = nI N) (hN5 : N ≤ 5) (hoN : o < N) (hP : PLA (xT u) N B.1 B.2.1 (N * 12)) (hb : b < 201) (hg : gs (xT u) (oT (xT u) o) b = -1) (hd : dq (xT u) (oT (xT u) o) b (sc (xT u) (oT (xT u) o) - 1) ≤ 399) {i : Nat} (hi : i < sc (xT u) (oT (xT u) o)) (f iu th : Fn) (us w it ld : Int32) : f_X2_placeOf (nI (oT (xT u) o)) (nI i) (nI (o * 12 + b % rN (xT u))) (nI (b - b % rN (xT u))) (xM u L B f iu th us w it ld) = some (nI (sl (xT u) (oT (xT u) o) b i), xM u L B f iu th us w it ld) := x_placeR ok hN hN5 hoN (x_rowR ok hN hN5 hoN hP hb hg) hb hg hd hi f iu th us w it ld
theorem x_hasHours (ok : tOk (xT u)) (hN : tOrders (xT u) = nI N) (hN5 : N ≤ 5) (hoN : o < N) (hP : PLA (xT u) N B.1 B.2.1 (N * 12)) (hb : b < 201) (hg : gs (xT u) (oT (xT u) o) b = -1) (hd : dq (xT u) (oT (xT u) o) b (sc (xT u) (oT (xT u) o) - 1) ≤ 399) {f : Fn} {h : Nat → Nat} (hf : ∀ p, p < 3200 → f p = nI (h p)) (hh : ∀ p, h p ≤ 8) (iu th : Fn) (us w it ld : Int32) : f_X2_hasHours (nI o) (nI (o * 12 + b % rN (xT u))) (nI (b - b % rN (xT u))) (xM u L B f iu th us w it ld) = some (if frP (xT u) (oT (xT u) o) b h (sc (xT u) (oT (xT u) o)) (sc (xT u) (oT (xT u) o)) then 1 else 0, xM u L B f iu th us w it ld) := x_hasHoursR ok hN hN5 hoN (x_rowR ok hN hN5 hoN hP hb hg) hb hg hd hf hh iu th us w it ld
end MAKE
/-! the shop plots runs, row by row -/
theorem x_plot1 {u : XS} (ok : tOk (xT u)) {N o : Nat} (hN : tOrders (xT u) = nI N) (hN5 : N ≤ 5) (ho : o < N) (hz : ∀ p, p < 3200 → h_hoursOn (xH u) p = 0) : ∀ m p L g pl, p + m = rN (xT u) → PLA (xT u) N g pl (o * 12 + p) → ∃ L' g' pl', wl f_X2_plotRuns_L29_29s (nI o, nI (oT (xT u) o), nI p, xG u L g pl) = some (.inr (nI o, xG u L' g' pl')) ∧ PLA (xT u) N g' pl' (o * 12 + rN (xT u)) := by
  obtain ⟨hr, r1, r2⟩ := rN_ok ok
  obtain ⟨-, ht, -⟩ := oT_ok ok (show (o : Int) < (tOrders (xT u)).toInt by rw [hN, i_nI (by omega)]; omega)
  obtain ⟨c1, c2, c3, c4⟩ := sc_ok ok ht
  intro m
  induction m with
  | zero =>
    intro p L g pl hp hP
    have hp2 : p = rN (xT u) := by omega
    subst hp2
    refine ⟨L, g, pl, wl_out ?_, hP⟩
    show f_X2_plotRuns_L29_29 (nI o) (nI (oT (xT u) o)) (nI (rN (xT u))) (xG u L g pl) = _
    unfold f_X2_plotRuns_L29_29
    rw [xG_T, hr, if_pos (Int32.le_refl _)]
  | succ m ih =>
    intro p L g pl hp hP
    have s1 : f_X0_goThrough (nI (oT (xT u) o)) (nI p) (xG u L g pl) = some (gs (xT u) (oT (xT u) o) p, xG u (gl (xT u) (oT (xT u) o) p L) g pl) := x_through (u := xG u L g pl) ok ht (by omega)
    generalize htt : oT (xT u) o = t at s1 ht c1 c2 c3 c4 ih ⊢
    have hPl : gs (xT u) t p = -1 → plw (xT u) t p (va_cpy (gl (xT u) t p L) pl 0 ((o * 12 + p) * 8) 8) (o * 12 + p) := by
      intro hg k hk
      show (if _ ∧ _ then _ else _) = _
      rw [if_pos (by omega), ← gl_gd ok ht (by omega) hg L hk]
      congr 1; omega
    have key0 : ∀ k0 : Int32, f_X2_plotRuns_L29_65 (nI o) (nI t) (nI p) (nI (o * 12 + p)) k0 (xG u (gl (xT u) t p L) g pl) = if k0 = 0 then bnd (f_X2_hasHours (nI o) (nI (o * 12 + p)) 0 (xG u (gl (xT u) t p L) g (va_cpy (gl (xT u) t p L) pl 0 ((o * 12 + p) * 8) 8))) (fun r7 u8 => if r7 = 0 then (if nI (o * 12 + p) < 0 ∨ 60 ≤ (nI (o * 12 + p)).toNatClampNeg then none else nmv (sH u8 (hu_isGood (xH u8) (upd (h_isGood (xH u8)) (nI (o * 12 + p)).toNatClampNeg (0 : Int32)))) fun u11 => nmv (nI p + (1 : Int32)) fun x12 => some (.inl (nI o, nI t, x12, u11))) else (if nI (o * 12 + p) < 0 ∨ 60 ≤ (nI (o * 12 + p)).toNatClampNeg then none else nmv (sH u8 (hu_isGood (xH u8) (upd (h_isGood (xH u8)) (nI (o * 12 + p)).toNatClampNeg (1 : Int32)))) fun u14 => nmv (nI p + (1 : Int32)) fun x15 => some (.inl (nI o, nI t, x15, u14)))) else some (.inl (nI o, nI t, nI (p + 1), xG u (gl (xT u) t p L) (upd g (o * 12 + p) 0) (va_cpy (gl (xT u) t p L) pl 0 ((o * 12 + p) * 8) 8))) := by
      intro k0
      have hbd : ¬ ((0 : Int32) < 0 ∨ nI ((o * 12 + p) * 8) < 0 ∨ (8 : Int32) < 0 ∨ 8 < 0 + 8 ∨ 480 < (o * 12 + p) * 8 + 8) := by
        rintro (q | q | q | q | q)
        · exact absurd q (by decide)
        · exact nI_nneg (by omega) q
        · exact absurd q (by decide)
        · omega
        · omega
      have e8 : (8 : Int32).toNatClampNeg = 8 := by decide
      have em : nI (o * 12 + p) * (8 : Int32) = nI ((o * 12 + p) * 8) := by rw [n8, pk_mul]
      unfold f_X2_plotRuns_L29_65
      rw [em, l0, e8, cl_nI (by omega), if_neg hbd, gG_pl, xG_L, xG_pl, nmv]
      by_cases c : k0 = 0
      · rw [if_pos c, if_pos c]
      · rw [if_neg c, if_neg c, ck_nI (by omega) (by omega), cl_nI (by omega), gG_g, xG_g, nmv, nmv, nI_s1]
    have key : ∃ v : Int32, v = (if okP (xT u) t p then 1 else 0) ∧ f_X2_plotRuns_L29_29s (nI o, nI t, nI p, xG u L g pl) = some (.inl (nI o, nI t, nI (p + 1), xG u (gl (xT u) t p L) (upd g (o * 12 + p) v) (va_cpy (gl (xT u) t p L) pl 0 ((o * 12 + p) * 8) 8))) := by
      have st : f_X2_plotRuns_L29_29s (nI o, nI t, nI p, xG u L g pl) = f_X2_plotRuns_L29_29 (nI o) (nI t) (nI p) (xG u L g pl) := rfl
      conv at st => rhs; unfold f_X2_plotRuns_L29_29
      rw [xG_T, hr, if_neg (nI_ge (by omega) (by omega)), show (12 : Int32) = nI 12 from rfl, pk_mul, nI_add, nmv, s1, bnd_some] at st
      rcases gs_or ok ht (b := p) with ⟨g0, g1, g2⟩ | ⟨g1, g2⟩
      · have pm : p % rN (xT u) = p := Nat.mod_eq_of_lt (by omega)
        have hd := (dq_ok ok ht (show p < 20000 by omega) g0 (k := sc (xT u) t - 1) (by omega)).2.2
        have hH : f_X2_hasHours (nI o) (nI (o * 12 + p)) 0 (xG u (gl (xT u) t p L) g (va_cpy (gl (xT u) t p L) pl 0 ((o * 12 + p) * 8) 8)) = some (if frP (xT u) t p (fun _ => 0) (sc (xT u) t) (sc (xT u) t) then 1 else 0, xG u (gl (xT u) t p L) g (va_cpy (gl (xT u) t p L) pl 0 ((o * 12 + p) * 8) 8)) := by
          subst htt
          have := x_hasHoursR (u := u) (L := gl (xT u) (oT (xT u) o) p L) (B := (g, va_cpy (gl (xT u) (oT (xT u) o) p L) pl 0 ((o * 12 + p) * 8) 8, h_sequence (xH u), h_bestWorth (xH u), h_bestInTime (xH u), h_bestDigits (xH u))) (b := p) ok hN hN5 ho (by rw [pm]; exact hPl g0) (by omega) g0 (by omega) (f := h_hoursOn (xH u)) (h := fun _ => 0) hz (fun _ => by omega) (h_inUse (xH u)) (h_toolHours (xH u)) (h_uses (xH u)) (h_worth (xH u)) (h_inTime (xH u)) (h_lastDay (xH u))
          rw [pm, Nat.sub_self, ← xG_M] at this
          exact this
        rw [if_pos g2, key0, if_pos rfl, hH, bnd_some] at st
        by_cases q : frP (xT u) t p (fun _ => 0) (sc (xT u) t) (sc (xT u) t)
        · rw [if_pos q, if_neg (by decide), ck_nI (by omega) (by omega), cl_nI (by omega), gG_g, xG_g, nmv, nmv, nI_s1] at st
          exact ⟨1, by rw [if_pos ⟨g0, q⟩], st⟩
        · rw [if_neg q, if_pos rfl, ck_nI (by omega) (by omega), cl_nI (by omega), gG_g, xG_g, nmv, nmv, nI_s1] at st
          exact ⟨0, by rw [if_neg (fun h => q h.2)], st⟩
      · rw [if_neg g2, key0, if_neg (by decide)] at st
        exact ⟨0, by rw [if_neg (fun h => g2 (by rw [h.1]; decide))], st⟩
    obtain ⟨v, hv, hst⟩ := key
    have hP' : PLA (xT u) N (upd g (o * 12 + p) v) (va_cpy (gl (xT u) t p L) pl 0 ((o * 12 + p) * 8) 8) (o * 12 + (p + 1)) := by
      intro o' p' ho' hp' hlt
      by_cases e : o' * 12 + p' = o * 12 + p
      · have e1 : o' = o := by omega
        have e2 : p' = p := by omega
        subst e1 e2
        rw [htt]
        exact ⟨by rw [upd_s, hv], hPl⟩
      · obtain ⟨q1, q2⟩ := hP o' p' ho' hp' (by omega)
        refine ⟨by rw [upd_n e]; exact q1, fun hg k hk => ?_⟩
        have hk8 := (sc_ok ok (oT_ok ok (show (o' : Int) < (tOrders (xT u)).toInt by rw [hN, i_nI (by omega)]; omega)).2.1).2.2.2
        show (if _ ∧ _ then _ else _) = _
        rw [if_neg (by omega)]
        exact q2 hg k hk
    obtain ⟨L', g', pl', e, hq⟩ := ih (p + 1) _ _ _ (by omega) hP'
    exact ⟨L', g', pl', by rw [wl_in hst]; exact e, hq⟩
theorem x_plot2 {u : XS} (ok : tOk (xT u)) {N : Nat} (hN : tOrders (xT u) = nI N) (hN5 : N ≤ 5) (hz : ∀ p, p < 3200 → h_hoursOn (xH u) p = 0) : ∀ m o L g pl, o + m = N → PLA (xT u) N g pl (o * 12) → ∃ L' g' pl', wl f_X2_plotRuns_L6_6s (nI o, xG u L g pl) = some (.inr (xG u L' g' pl')) ∧ PLA (xT u) N g' pl' (N * 12) := by
  obtain ⟨hr, r1, r2⟩ := rN_ok ok
  intro m
  induction m with
  | zero =>
    intro o L g pl ho hP
    have ho2 : o = N := by omega
    subst ho2
    refine ⟨L, g, pl, wl_out ?_, hP⟩
    show f_X2_plotRuns_L6_6 (nI o) (xG u L g pl) = _
    unfold f_X2_plotRuns_L6_6
    rw [xG_T, hN, if_pos (Int32.le_refl _)]
  | succ m ih =>
    intro o L g pl ho hP
    obtain ⟨q1, q2, q3⟩ := oT_ok ok (show (o : Int) < (tOrders (xT u)).toInt by rw [hN, i_nI (by omega)]; omega)
    have s1 : f_X5_orderNumber (nI o) 0 (xG u L g pl) = some (tOrd (xT u) (o * 3), xG u L g pl) := x_ord (xG u L g pl) (w := 0) q3 (by omega)
    obtain ⟨L1, g1, pl1, e1, hq⟩ := x_plot1 ok hN hN5 (show o < N by omega) hz (rN (xT u)) 0 L g pl (by omega) hP
    have e1' : wl f_X2_plotRuns_L29_29s (nI o, nI (oT (xT u) o), (0 : Int32), xG u L g pl) = some (.inr (nI o, xG u L1 g1 pl1)) := e1
    obtain ⟨L', g', pl', e2, hq2⟩ := ih (o + 1) L1 g1 pl1 (by omega) (fun o' p' h1 h2 h3 => hq o' p' h1 h2 (by
      by_cases c : o' = o
      · subst c; omega
      · omega))
    refine ⟨L', g', pl', ?_, hq2⟩
    rw [← e2]
    apply wl_in
    show f_X2_plotRuns_L6_6 (nI o) (xG u L g pl) = _
    unfold f_X2_plotRuns_L6_6
    rw [xG_T, hN, if_neg (nI_ge (by omega) (by omega)), s1, bnd_some, q1, e1']
    show some (Sum.inl (nI o + 1, xG u L1 g1 pl1)) = _
    rw [nI_s1]
theorem x_plot {u : XS} (ok : tOk (xT u)) {N : Nat} (hN : tOrders (xT u) = nI N) (hN5 : N ≤ 5) (hh : hOk (xH u)) : ∃ L g pl f th, f_X2_plotRuns u = some (0, xM u L (g, pl, h_sequence (xH u), h_bestWorth (xH u), h_bestInTime (xH u), h_bestDigits (xH u)) f (h_inUse (xH u)) th 0 0 0 (-1)) ∧ PLA (xT u) N g pl (N * 12) ∧ hOk (hM (g, pl, h_sequence (xH u), h_bestWorth (xH u), h_bestInTime (xH u), h_bestDigits (xH u)) f (h_inUse (xH u)) th 0 0 0 (-1)) := by
  obtain ⟨h1, h2, h3⟩ := hh
  obtain ⟨m, hm, hm2, -⟩ := i_ex h1.1
  have hzf : ∀ p, p < 3200 → zf (h_inUse (xH u)) (h_hoursOn (xH u)) m p = 0 := by
    intro p hp
    refine zf_z m ?_
    by_cases q : ∃ k, k < m ∧ (h_inUse (xH u) k).toNatClampNeg = p
    · exact Or.inl q
    · right
      exact h3 p hp (fun k hk e => q ⟨k, by omega, by
        have := i_cl (h2 k hk).1
        omega⟩)
  have ef : f_X2_forget u = some (0, xM u (xL u) (shB (xH u)) (zf (h_inUse (xH u)) (h_hoursOn (xH u)) m) (h_inUse (xH u)) (zr (h_toolHours (xH u)) 0 8) 0 0 0 (-1)) := by
    have e := x_forget u (xL u) (shB (xH u)) (h_hoursOn (xH u)) (h_inUse (xH u)) (h_toolHours (xH u)) (h_worth (xH u)) (h_inTime (xH u)) (h_lastDay (xH u)) (n := m) (by omega) (fun k hk => h2 k (by omega))
    rw [← hm] at e
    exact e
  obtain ⟨L, g, pl, e, hP⟩ := x_plot2 (u := xM u (xL u) (shB (xH u)) (zf (h_inUse (xH u)) (h_hoursOn (xH u)) m) (h_inUse (xH u)) (zr (h_toolHours (xH u)) 0 8) 0 0 0 (-1)) ok hN hN5 hzf N 0 (xL u) (h_isGood (xH u)) (h_plotted (xH u)) (by omega) (fun o p _ _ h => by omega)
  refine ⟨L, g, pl, zf (h_inUse (xH u)) (h_hoursOn (xH u)) m, zr (h_toolHours (xH u)) 0 8, ?_, hP, ?_⟩
  · unfold f_X2_plotRuns
    rw [ef, bnd_some]
    have e' : wl f_X2_plotRuns_L6_6s ((0 : Int32), xM u (xL u) (shB (xH u)) (zf (h_inUse (xH u)) (h_hoursOn (xH u)) m) (h_inUse (xH u)) (zr (h_toolHours (xH u)) 0 8) 0 0 0 (-1)) = some (.inr (xM u L (g, pl, h_sequence (xH u), h_bestWorth (xH u), h_bestInTime (xH u), h_bestDigits (xH u)) (zf (h_inUse (xH u)) (h_hoursOn (xH u)) m) (h_inUse (xH u)) (zr (h_toolHours (xH u)) 0 8) 0 0 0 (-1))) := e
    rw [e']
    rfl
  · refine ⟨?_, fun k hk => ?_, fun p hp _ => hzf p hp⟩
    · show 0 ≤ (0 : Int32).toInt ∧ (0 : Int32).toInt ≤ 40
      decide
    · have hk : (k : Int) < (0 : Int32).toInt := hk
      simp only [Int32.reduceToInt] at hk
      omega
