/-! days of a run, one behind another -/
theorem go_mono {T : TownS} (ok : tOk T) {t : Nat} : ∀ (n i d : Nat) (L : Fn), d + 24 * n < 30000 → i + n ≤ 8 → (go T t n i d L).1 = -1 → ∀ k, i ≤ k → k + 1 < i + n → ∃ x y, (go T t n i d L).2 k = nI x ∧ (go T t n i d L).2 (k + 1) = nI y ∧ x ≤ y ∧ y < 30000 := by
  intro n
  induction n with
  | zero => intro i d L _ _ _ k h1 h2; omega
  | succ n ih =>
    intro i d L hd hi
    by_cases h : bad T t i d (nx T t i d)
    · rw [go_bad h]; intro q; exact absurd q (nI_ne1 (by omega))
    · obtain ⟨x, hx, h1, h2⟩ := nx_good ok (by omega) h
      rw [go_ok h]
      have ec : (nx T t i d).toNatClampNeg = x := by rw [hx]; exact cl_nI (by omega)
      rw [ec]
      intro q k hk1 hk2
      by_cases e : k = i
      · subst e
        obtain ⟨-, a2, -⟩ := go_L ok n (k + 1) x (upd L k (nx T t k d)) (upd L k (nx T t k d)) (by omega) (by omega)
        obtain ⟨y, hy, g1, g2⟩ := go_days ok n (k + 1) x (upd L k (nx T t k d)) (by omega) (by omega) q (k + 1) (by omega) (by omega)
        refine ⟨x, y, ?_, hy, g1, by omega⟩
        rw [a2 k (by omega), upd_s, hx]
      · exact ih (i + 1) x (upd L i (nx T t i d)) (by omega) (by omega) q k (by omega) (by omega)
/-- the day of a step in a run, as a number -/
def dq (T : TownS) (t b k : Nat) : Nat := (gd T t b k).toNatClampNeg
theorem dq_ok {T : TownS} (ok : tOk T) {t b : Nat} (ht : (t : Int) < (tThings T).toInt) (hb : b < 20000) (h : gs T t b = -1) {k : Nat} (hk : k < sc T t) : gd T t b k = nI (dq T t b k) ∧ b ≤ dq T t b k ∧ dq T t b k ≤ b + 24 * (k + 1) := by
  obtain ⟨x, e, h1, h2⟩ := gd_rng ok ht hb h hk
  obtain ⟨c1, c2, c3, c4⟩ := sc_ok ok ht
  have q : dq T t b k = x := by unfold dq; rw [e, cl_nI (by omega)]
  rw [q]
  exact ⟨e, h1, h2⟩
theorem dq_mono {T : TownS} (ok : tOk T) {t b : Nat} (ht : (t : Int) < (tThings T).toInt) (hb : b < 20000) (h : gs T t b = -1) {k : Nat} : ∀ j, k ≤ j → j < sc T t → dq T t b k ≤ dq T t b j := by
  obtain ⟨c1, c2, c3, c4⟩ := sc_ok ok ht
  intro j
  induction j with
  | zero => intro h1 _; rw [show k = 0 by omega]; exact Nat.le_refl _
  | succ j ih =>
    intro h1 h2
    by_cases e : k = j + 1
    · rw [e]; exact Nat.le_refl _
    · have a := ih (by omega) (by omega)
      obtain ⟨x, y, e1, e2, e3, e4⟩ := go_mono ok (t := t) (sc T t) 0 b (fun _ => 0) (by omega) (by omega) h j (by omega) (by omega)
      have q1 : dq T t b j = x := by unfold dq gd; rw [e1, cl_nI (by omega)]
      have q2 : dq T t b (j + 1) = y := by unfold dq gd; rw [e2, cl_nI (by omega)]
      omega
theorem gs_md {T : TownS} (ok : tOk T) {t : Nat} (ht : (t : Int) < (tThings T).toInt) (b : Nat) : ∀ j, b + j * rN T < 20000 → gs T t (b + j * rN T) = gs T t b := by
  obtain ⟨hr, h1, h2⟩ := rN_ok ok
  intro j
  induction j with
  | zero => intro _; rw [Nat.zero_mul, Nat.add_zero]
  | succ j ih =>
    intro h
    have e : b + (j + 1) * rN T = b + j * rN T + rN T := by rw [Nat.succ_mul]; omega
    rw [e, gs_sh ok ht (by omega), ih (by omega)]
theorem dq_md {T : TownS} (ok : tOk T) {t : Nat} (ht : (t : Int) < (tThings T).toInt) {b : Nat} (h : gs T t b = -1) {k : Nat} (hk : k < sc T t) : ∀ j, b + j * rN T < 19000 → dq T t (b + j * rN T) k = dq T t b k + j * rN T := by
  obtain ⟨hr, h1, h2⟩ := rN_ok ok
  obtain ⟨c1, c2, c3, c4⟩ := sc_ok ok ht
  intro j
  induction j with
  | zero => intro _; rw [Nat.zero_mul, Nat.add_zero]; omega
  | succ j ih =>
    intro hb
    have e : b + (j + 1) * rN T = b + j * rN T + rN T := by rw [Nat.succ_mul]; omega
    have e2 : dq T t b k + (j + 1) * rN T = dq T t b k + j * rN T + rN T := by rw [Nat.succ_mul]; omega
    have g : gs T t (b + j * rN T) = -1 := by rw [gs_md ok ht b j (by omega)]; exact h
    obtain ⟨x, x1, x2, x3, x4⟩ := gd_sh ok ht (b := b + j * rN T) (by omega) g hk
    have q1 : dq T t (b + j * rN T) k = x := by unfold dq; rw [x1, cl_nI (by omega)]
    have q2 : dq T t (b + j * rN T + rN T) k = x + rN T := by unfold dq; rw [x2, cl_nI (by omega)]
    rw [e, e2, q2, ← ih (by omega), q1]
/-- a begin, out of its place in the round -/
theorem gs_pl {T : TownS} (ok : tOk T) {t b : Nat} (ht : (t : Int) < (tThings T).toInt) (hb : b < 10000) : gs T t b = gs T t (b % rN T) := by
  have e : b % rN T + b / rN T * rN T = b := by rw [Nat.mul_comm]; exact Nat.mod_add_div b (rN T)
  have := gs_md ok ht (b % rN T) (b / rN T) (by omega)
  rwa [e] at this
theorem dq_pl {T : TownS} (ok : tOk T) {t b : Nat} (ht : (t : Int) < (tThings T).toInt) (hb : b < 10000) (h : gs T t b = -1) {k : Nat} (hk : k < sc T t) : dq T t b k = dq T t (b % rN T) k + (b - b % rN T) := by
  have e : b % rN T + b / rN T * rN T = b := by rw [Nat.mul_comm]; exact Nat.mod_add_div b (rN T)
  have := dq_md ok ht (b := b % rN T) (by rw [← gs_pl ok ht hb]; exact h) hk (b / rN T) (by omega)
  rw [e] at this
  rw [this]
  omega
/-! slots of hours -/
def sl (T : TownS) (t b i : Nat) : Nat := 400 * tl T t i + dq T t b i
/-- hours of the first n steps in a slot -/
def sm (T : TownS) (t b p : Nat) : Nat → Nat
  | 0 => 0
  | n + 1 => if sl T t b n = p then sm T t b p n + ho T t n else sm T t b p n
theorem sm_s (T : TownS) (t b p n : Nat) : sm T t b p (n + 1) = if sl T t b n = p then sm T t b p n + ho T t n else sm T t b p n := rfl
theorem sm_mono (T : TownS) (t b p : Nat) {m : Nat} : ∀ n, m ≤ n → sm T t b p m ≤ sm T t b p n := by
  intro n
  induction n with
  | zero => intro h; rw [show m = 0 by omega]; exact Nat.le_refl _
  | succ n ih =>
    intro h
    by_cases e : m = n + 1
    · rw [e]; exact Nat.le_refl _
    · have := ih (by omega)
      rw [sm_s]
      split <;> omega
theorem sm_0 {T : TownS} {t b p : Nat} : ∀ n, (∀ i, i < n → sl T t b i ≠ p) → sm T t b p n = 0 := by
  intro n
  induction n with
  | zero => intro _; rfl
  | succ n ih =>
    intro h
    rw [sm_s, if_neg (h n (by omega)), ih (fun i hi => h i (by omega))]
theorem sm_le {T : TownS} (ok : tOk T) {t b p : Nat} (ht : (t : Int) < (tThings T).toInt) : ∀ n, n ≤ sc T t → sm T t b p n ≤ 8 * n := by
  intro n
  induction n with
  | zero => intro _; exact Nat.le_refl _
  | succ n ih =>
    intro hn
    have := ih (by omega)
    have h8 := (ho_ok ok (isS_of ok ht (show n < sc T t by omega))).2.2
    rw [sm_s]
    split <;> omega
/-- whether there are hours enough: step by step, or all together -/
theorem fr_iff {T : TownS} {t b : Nat} {h : Nat → Nat} : ∀ n, (∀ i, i < n → h (sl T t b i) + sm T t b (sl T t b i) (i + 1) ≤ 8) ↔ ∀ i, i < n → h (sl T t b i) + sm T t b (sl T t b i) n ≤ 8 := by
  intro n
  induction n with
  | zero => exact ⟨fun _ i hi => by omega, fun _ i hi => by omega⟩
  | succ n ih =>
    constructor
    · intro q i hi
      rw [sm_s]
      by_cases e : sl T t b n = sl T t b i
      · rw [if_pos e]
        have := q n (by omega)
        rw [sm_s, if_pos rfl, e] at this
        exact this
      · rw [if_neg e]
        have hne : i ≠ n := fun g => e (by rw [g])
        exact ih.mp (fun i hi => q i (by omega)) i (by omega)
    · intro q i hi
      have := q i hi
      have := sm_mono T t b (sl T t b i) (m := i + 1) (n + 1) (by omega)
      omega
abbrev frP (T : TownS) (t b : Nat) (h : Nat → Nat) (m n : Nat) : Prop := ∀ i, i < m → h (sl T t b i) + sm T t b (sl T t b i) n ≤ 8
/-- hours with a run's -/
def ad (T : TownS) (t b : Nat) (h : Nat → Nat) : Nat → Nat := fun p => h p + sm T t b p (sc T t)
theorem ad_le {T : TownS} {t b : Nat} {h : Nat → Nat} (hh : ∀ p, h p ≤ 8) (hf : frP T t b h (sc T t) (sc T t)) (p : Nat) : ad T t b h p ≤ 8 := by
  unfold ad
  by_cases q : ∃ i, i < sc T t ∧ sl T t b i = p
  · obtain ⟨i, hi, e⟩ := q
    have := hf i hi
    rw [e] at this
    exact this
  · rw [sm_0 _ (fun i hi e => q ⟨i, hi, e⟩)]
    exact hh p
/-! orders -/
def oT (T : TownS) (o : Nat) : Nat := (tOrd T (o * 3)).toNatClampNeg
def oD (T : TownS) (o : Nat) : Int32 := tOrd T (o * 3 + 1)
def oW (T : TownS) (o : Nat) : Int32 := tOrd T (o * 3 + 2)
theorem oT_ok {T : TownS} (ok : tOk T) {o : Nat} (ho : (o : Int) < (tOrders T).toInt) : tOrd T (o * 3) = nI (oT T o) ∧ (oT T o : Int) < (tThings T).toInt ∧ o < 5 := by
  have h := ok.2.2.2.2.2.2.2.2.2.1 o ho
  have h5 := ok.2.2.2.2.1
  have e := i_cl h.1.1
  refine ⟨i_of h.1.1, ?_, by omega⟩
  unfold oT
  rw [e]
  exact h.1.2
/-- the account: hours, WORTHS, ORDERS IN TIME, the last day -/
abbrev Ac : Type := (Nat → Nat) × Int32 × Int32 × Int32
/-- whether an order's run from b can be made -/
def pb (T : TownS) (o : Nat) (h : Nat → Nat) (b : Nat) : Bool := decide (gs T (oT T o) b = -1 ∧ dq T (oT T o) b (sc T (oT T o) - 1) ≤ 399 ∧ frP T (oT T o) b h (sc T (oT T o)) (sc T (oT T o)))
theorem pb_t {T : TownS} {o : Nat} {h : Nat → Nat} {b : Nat} : pb T o h b = true ↔ gs T (oT T o) b = -1 ∧ dq T (oT T o) b (sc T (oT T o) - 1) ≤ 399 ∧ frP T (oT T o) b h (sc T (oT T o)) (sc T (oT T o)) := by
  unfold pb; rw [decide_eq_true_eq]
/-- the account when a run from b is made -/
def mk (T : TownS) (o b : Nat) (a : Ac) : Ac := (ad T (oT T o) b a.1, a.2.1 + oW T o, a.2.2.1 ||| ((1 : Int32) <<< (nI o &&& 31)), if a.2.2.2 < nI (dq T (oT T o) b (sc T (oT T o) - 1)) then nI (dq T (oT T o) b (sc T (oT T o) - 1)) else a.2.2.2)
/-- an order is taken -/
def tk (T : TownS) (o : Nat) (a : Ac) : Ac := if ff (pb T o a.1) 0 201 < 0 then a else if oD T o < nI (dq T (oT T o) (ff (pb T o a.1) 0 201).toNatClampNeg (sc T (oT T o) - 1)) then a else mk T o (ff (pb T o a.1) 0 201).toNatClampNeg a
/-- how an order is taken: not at all, not in time, or in time -/
theorem tk_cases (T : TownS) (o : Nat) (a : Ac) : (tk T o a = a ∧ ∀ b, b < 201 → pb T o a.1 b = false) ∨ ∃ b, b < 201 ∧ pb T o a.1 b = true ∧ (∀ i, i < b → pb T o a.1 i = false) ∧ ((oD T o < nI (dq T (oT T o) b (sc T (oT T o) - 1)) ∧ tk T o a = a) ∨ (¬ oD T o < nI (dq T (oT T o) b (sc T (oT T o) - 1)) ∧ tk T o a = mk T o b a)) := by
  rcases ff_cases (pb T o a.1) 0 201 with ⟨h1, h2⟩ | ⟨j, h1, h2, h3, h4⟩
  · left
    refine ⟨?_, fun b hb => by have := h2 b hb; rwa [Nat.zero_add] at this⟩
    unfold tk
    rw [h1, if_pos (by decide)]
  · right
    rw [Nat.zero_add] at h2 h3
    refine ⟨j, h1, h3, fun i hi => by have := h4 i hi; rwa [Nat.zero_add] at this, ?_⟩
    have e : tk T o a = if oD T o < nI (dq T (oT T o) j (sc T (oT T o) - 1)) then a else mk T o j a := by
      unfold tk
      rw [h2, if_neg (nI_nneg (by omega)), cl_nI (by omega)]
    rw [e]
    by_cases c : oD T o < nI (dq T (oT T o) j (sc T (oT T o) - 1))
    · rw [if_pos c]; exact Or.inl ⟨c, rfl⟩
    · rw [if_neg c]; exact Or.inr ⟨c, rfl⟩
theorem tk_le {T : TownS} {o : Nat} {a : Ac} (h : ∀ p, a.1 p ≤ 8) (p : Nat) : (tk T o a).1 p ≤ 8 := by
  rcases tk_cases T o a with ⟨e, -⟩ | ⟨b, h1, h2, h3, ⟨h4, e⟩ | ⟨h4, e⟩⟩
  · rw [e]; exact h p
  · rw [e]; exact h p
  · rw [e]
    exact ad_le h (pb_t.mp h2).2.2 p
/-- the account at first -/
def a0 : Ac := (fun _ => 0, 0, 0, -1)
