/-! tokens, out of the bytes -/
/-- what a byte begins: 0 end, 1 word, 2 number, 3 ;, 4 ,, 5 nothing -/
def kd (B : Fn) (n q : Nat) : Nat := if q < n then (if 97 ≤ (B q).toInt ∧ (B q).toInt ≤ 122 then 1 else if 48 ≤ (B q).toInt ∧ (B q).toInt ≤ 57 then 2 else if B q = 59 then 3 else if B q = 44 then 4 else 5) else 0
def adv (P : Nat → Bool) : Nat → Nat → Nat
  | 0, p => p
  | f + 1, p => if P p = true then adv P f (p + 1) else p
theorem adv_le (P : Nat → Bool) : ∀ f p, p ≤ adv P f p ∧ adv P f p ≤ p + f := by
  intro f
  induction f with
  | zero => intro p; exact ⟨Nat.le_refl _, Nat.le_refl _⟩
  | succ f ih =>
    intro p
    show p ≤ (if P p = true then adv P f (p + 1) else p) ∧ (if P p = true then adv P f (p + 1) else p) ≤ p + (f + 1)
    have := ih (p + 1)
    split <;> omega
def tS (B : Fn) (n p : Nat) : Nat := adv (fun q => decide (q < n ∧ B q = 32)) (n - p) p
def tK (B : Fn) (n p : Nat) : Nat := kd B n (tS B n p)
def wE (B : Fn) (n k q : Nat) : Nat := adv (fun e => decide (kd B n e = k)) (n - (q + 1)) (q + 1)
def tE (B : Fn) (n p : Nat) : Nat := if tK B n p = 0 then tS B n p else if tK B n p = 1 ∨ tK B n p = 2 then wE B n (tK B n p) (tS B n p) else tS B n p + 1
/-- the number of the first j digits -/
def nv (B : Fn) (q : Nat) : Nat → Int32
  | 0 => 0
  | j + 1 => if 999 < nv B q j then nv B q j else nv B q j * 10 + B (q + j) - 48
def tV (B : Fn) (n p : Nat) : Int32 := if tK B n p = 2 then nv B (tS B n p) (tE B n p - tS B n p) else 0
theorem nv_s (B : Fn) (q j : Nat) : nv B q (j + 1) = if 999 < nv B q j then nv B q j else nv B q j * 10 + B (q + j) - 48 := rfl
theorem nv_big {B : Fn} {q j : Nat} (h : 999 < nv B q j) : ∀ m, nv B q (j + m) = nv B q j := by
  intro m
  induction m with
  | zero => rfl
  | succ m ih =>
    show nv B q (j + m + 1) = _
    rw [nv_s, ih, if_pos h]
theorem kd_le (B : Fn) (n q : Nat) : kd B n q ≤ 5 := by
  unfold kd
  split
  · split
    · omega
    · split
      · omega
      · split
        · omega
        · split <;> omega
  · omega
theorem kd_lt {B : Fn} {n q : Nat} (h : kd B n q ≠ 0) : q < n := by
  by_cases c : q < n
  · exact c
  · exact absurd (if_neg c) h
theorem kd_0 {B : Fn} {n q : Nat} : kd B n q = 0 ↔ ¬ q < n := by
  constructor
  · intro h c
    unfold kd at h
    rw [if_pos c] at h
    revert h
    split
    · omega
    · split
      · omega
      · split
        · omega
        · split <;> omega
  · intro c; exact if_neg c
theorem tS_le {B : Fn} {n p : Nat} (hp : p ≤ n) : p ≤ tS B n p ∧ tS B n p ≤ n := by
  have := adv_le (fun q => decide (q < n ∧ B q = 32)) (n - p) p
  unfold tS
  omega
theorem tE_le {B : Fn} {n p : Nat} (hp : p ≤ n) : tS B n p ≤ tE B n p ∧ tE B n p ≤ n ∧ (tK B n p ≠ 0 → tS B n p < tE B n p) := by
  have h1 := tS_le (B := B) hp
  have h2 := adv_le (fun e => decide (kd B n e = tK B n p)) (n - (tS B n p + 1)) (tS B n p + 1)
  unfold tE
  by_cases c : tK B n p = 0
  · rw [if_pos c]; exact ⟨Nat.le_refl _, h1.2, fun h => absurd c h⟩
  · have h3 : tS B n p < n := kd_lt c
    rw [if_neg c]
    by_cases c2 : tK B n p = 1 ∨ tK B n p = 2
    · rw [if_pos c2]; unfold wE; exact ⟨by omega, by omega, fun _ => by omega⟩
    · rw [if_neg c2]; exact ⟨by omega, by omega, fun _ => by omega⟩
/-! the object while a text is read -/
def yP (u : XS) (T : TownS) (r : ReadS) : XS := (T, xK u, xS u, xP u, xL u, xH u, r, xB u, xF u, xI u)
theorem yP_R (u : XS) (T : TownS) (r r' : ReadS) : sR (yP u T r) r' = yP u T r' := rfl
theorem yP_T (u : XS) (T T' : TownS) (r : ReadS) : sT (yP u T r) T' = yP u T' r := rfl
theorem yP_x (u : XS) (T : TownS) (r : ReadS) : xR (yP u T r) = r := rfl
theorem yP_t (u : XS) (T : TownS) (r : ReadS) : xT (yP u T r) = T := rfl
theorem yP_p (u : XS) (T : TownS) (r : ReadS) : xP (yP u T r) = xP u := rfl
/-- the reader at a token -/
def rd4 (B : Fn) (n p : Nat) : ReadS := (nI (tK B n p), nI (tS B n p), nI (tE B n p), tV B n p)
abbrev XP (u : XS) (B : Fn) (n p : Nat) (T : TownS) : XS := yP u T (rd4 B n p)
def mP (u : MS) (m : Fn) (so fr to va ba : Int32) : MS := (m, m_kept u, m_isKept u, m_found u, m_tape u, m_taped u, so, fr, to, va, ba, m_ahead u, m_on u, m_hours u, m_worth u, m_inTime u, m_lastOf u, m_bits u, m_size u, m_number u)
section MP
variable (u : MS) (m : Fn) (so fr to va ba : Int32)
theorem mP_m (v : Fn) : mu_m (mP u m so fr to va ba) v = mP u v so fr to va ba := rfl
theorem mP_so (v : Int32) : mu_sort (mP u m so fr to va ba) v = mP u m v fr to va ba := rfl
theorem mP_fr (v : Int32) : mu_from (mP u m so fr to va ba) v = mP u m so v to va ba := rfl
theorem mP_to (v : Int32) : mu_to (mP u m so fr to va ba) v = mP u m so fr v va ba := rfl
theorem mP_va (v : Int32) : mu_value (mP u m so fr to va ba) v = mP u m so fr to v ba := rfl
theorem mP_ba (v : Int32) : mu_bad (mP u m so fr to va ba) v = mP u m so fr to va v := rfl
theorem pM_m : m_m (mP u m so fr to va ba) = m := rfl
theorem pM_so : m_sort (mP u m so fr to va ba) = so := rfl
theorem pM_fr : m_from (mP u m so fr to va ba) = fr := rfl
theorem pM_to : m_to (mP u m so fr to va ba) = to := rfl
theorem pM_va : m_value (mP u m so fr to va ba) = va := rfl
theorem pM_ba : m_bad (mP u m so fr to va ba) = ba := rfl
theorem pM_tp : m_tape (mP u m so fr to va ba) = m_tape u := rfl
theorem pM_td : m_taped (mP u m so fr to va ba) = m_taped u := rfl
end MP
/-- the reference's sort of token -/
def so3 (k : Nat) : Nat := if k < 3 then k else 3
abbrev MP (u : MS) (n p : Nat) (m : Fn) (b : Int32) : MS := mP u m (nI (so3 (tK (m_tape u) n p))) (nI (tS (m_tape u) n p)) (nI (tE (m_tape u) n p)) (tV (m_tape u) n p) b
/-- the tape of both -/
def tpe (u : XS) (B : Fn) (n : Nat) : Prop := (xP u).2 = nI n ∧ n ≤ 120 ∧ ∀ k, k < 120 → (xP u).1 k = B k
theorem x_tokenAt {u : XS} {B : Fn} {n : Nat} (ht : tpe u B n) {q : Nat} (hq : q ≤ n) (T : TownS) (r : ReadS) : f_X4_tokenAt (nI q) (yP u T r) = some (nI (kd B n q), yP u T r) := by
  obtain ⟨t1, t2, t3⟩ := ht
  unfold f_X4_tokenAt
  rw [if_neg (nI_nneg (by omega)), yP_p, t1]
  by_cases c : q < n
  · have e : kd B n q = if 97 ≤ (B q).toInt ∧ (B q).toInt ≤ 122 then 1 else if 48 ≤ (B q).toInt ∧ (B q).toInt ≤ 57 then 2 else if B q = 59 then 3 else if B q = 44 then 4 else 5 := if_pos c
    rw [if_pos (nI_lt c (by omega)), ck_nI (by omega) (by omega), cl_nI (by omega), t3 q (by omega), nmv, e]
    have s55 : f_X4_tokenAt_55 (B q) (yP u T r) = some (nI (if B q = 59 then 3 else if B q = 44 then 4 else 5), yP u T r) := by
      unfold f_X4_tokenAt_55
      by_cases d1 : B q = 59
      · rw [if_pos d1, if_pos d1]; rfl
      · rw [if_neg d1, if_neg d1]
        by_cases d2 : B q = 44
        · rw [if_pos d2, if_pos d2]; rfl
        · rw [if_neg d2, if_neg d2]; rfl
    have s41 : f_X4_tokenAt_41 (B q) (yP u T r) = some (nI (if 48 ≤ (B q).toInt ∧ (B q).toInt ≤ 57 then 2 else if B q = 59 then 3 else if B q = 44 then 4 else 5), yP u T r) := by
      unfold f_X4_tokenAt_41
      by_cases d1 : B q < 48
      · rw [if_pos d1, s55, if_neg (show ¬ (48 ≤ (B q).toInt ∧ (B q).toInt ≤ 57) by rw [i_lt] at d1; simp only [Int32.reduceToInt] at d1; omega)]
      · rw [if_neg d1]
        by_cases d2 : 57 < B q
        · rw [if_pos d2, s55, if_neg (show ¬ (48 ≤ (B q).toInt ∧ (B q).toInt ≤ 57) by rw [i_lt] at d2; simp only [Int32.reduceToInt] at d2; omega)]
        · rw [if_neg d2, if_pos (show 48 ≤ (B q).toInt ∧ (B q).toInt ≤ 57 by rw [i_lt] at d1 d2; simp only [Int32.reduceToInt] at d1 d2; omega)]; rfl
    by_cases d1 : B q < 97
    · rw [if_pos d1, s41, if_neg (show ¬ (97 ≤ (B q).toInt ∧ (B q).toInt ≤ 122) by rw [i_lt] at d1; simp only [Int32.reduceToInt] at d1; omega)]
    · rw [if_neg d1]
      by_cases d2 : 122 < B q
      · rw [if_pos d2, s41, if_neg (show ¬ (97 ≤ (B q).toInt ∧ (B q).toInt ≤ 122) by rw [i_lt] at d2; simp only [Int32.reduceToInt] at d2; omega)]
      · rw [if_neg d2, if_pos (show 97 ≤ (B q).toInt ∧ (B q).toInt ≤ 122 by rw [i_lt] at d1 d2; simp only [Int32.reduceToInt] at d1 d2; omega)]; rfl
  · rw [if_neg (nI_nlt (by omega) (by omega)), show kd B n q = 0 from if_neg c]
    rfl
theorem x_skipB {u : XS} {B : Fn} {n : Nat} (ht : tpe u B n) (T : TownS) (tok en va : Int32) : ∀ f st, st + f = n → wl f_X4_goOn_L8_8s (yP u T (tok, nI st, en, va)) = some (.inr (yP u T (tok, nI (adv (fun q => decide (q < n ∧ B q = 32)) f st), en, va))) := by
  obtain ⟨t1, t2, t3⟩ := ht
  intro f
  induction f with
  | zero =>
    intro st hs
    apply wl_out
    show f_X4_goOn_L8_8 (yP u T (tok, nI st, en, va)) = _
    unfold f_X4_goOn_L8_8
    rw [yP_p, t1, yP_x, if_pos (show nI n ≤ nI st from nI_le (by omega) (by omega))]
    rfl
  | succ f ih =>
    intro st hs
    have ea : adv (fun q => decide (q < n ∧ B q = 32)) (f + 1) st = if decide (st < n ∧ B st = 32) = true then adv (fun q => decide (q < n ∧ B q = 32)) f (st + 1) else st := rfl
    have st0 : f_X4_goOn_L8_8s (yP u T (tok, nI st, en, va)) = f_X4_goOn_L8_8 (yP u T (tok, nI st, en, va)) := rfl
    conv at st0 => rhs; unfold f_X4_goOn_L8_8
    rw [yP_p, t1, yP_x, if_neg (show ¬ nI n ≤ nI st from nI_ge (by omega) (by omega)), nmv, ck_nI (show st < 120 by omega) (by omega)] at st0
    have st1 : f_X4_goOn_L8_8s (yP u T (tok, nI st, en, va)) = (if (xP u).1 (nI st).toNatClampNeg = 32 then (nmv (nI st + 1) fun x5 => nmv (sR (yP u T (tok, nI st, en, va)) (tok, x5, en, va)) fun u6 => some (.inl u6)) else some (.inr (.inr (yP u T (tok, nI st, en, va))))) := st0
    rw [cl_nI (by omega), t3 st (by omega), nI_s1, nmv, yP_R, nmv] at st1
    rw [ea]
    by_cases c : B st = 32
    · rw [if_pos c] at st1
      rw [wl_in st1, if_pos (decide_eq_true ⟨by omega, c⟩)]
      exact ih (st + 1) (by omega)
    · rw [if_neg c] at st1
      rw [wl_out st1, if_neg (by rw [decide_eq_true_eq]; exact fun q => c q.2)]
theorem x_ext {u : XS} {B : Fn} {n : Nat} (ht : tpe u B n) (T : TownS) {k : Nat} (hk : k ≤ 5) (st va : Int32) : ∀ f e, e + f = n → wl f_X4_goOn_L105_105s (yP u T (nI k, st, nI e, va)) = some (.inr (yP u T (nI k, st, nI (adv (fun e => decide (kd B n e = k)) f e), va))) := by
  have t1 := ht.1
  have t2 := ht.2.1
  intro f
  induction f with
  | zero =>
    intro e hs
    apply wl_out
    show f_X4_goOn_L105_105 (yP u T (nI k, st, nI e, va)) = _
    unfold f_X4_goOn_L105_105
    rw [yP_p, t1, yP_x, if_pos (show nI n ≤ nI e from nI_le (by omega) (by omega))]
    rfl
  | succ f ih =>
    intro e hs
    have ea : adv (fun e => decide (kd B n e = k)) (f + 1) e = if decide (kd B n e = k) = true then adv (fun e => decide (kd B n e = k)) f (e + 1) else e := rfl
    have hkd := kd_le B n e
    have st0 : f_X4_goOn_L105_105s (yP u T (nI k, st, nI e, va)) = f_X4_goOn_L105_105 (yP u T (nI k, st, nI e, va)) := rfl
    conv at st0 => rhs; unfold f_X4_goOn_L105_105
    rw [yP_p, t1, yP_x, if_neg (show ¬ nI n ≤ nI e from nI_ge (by omega) (by omega)), show r_end ((nI k, st, nI e, va) : ReadS) = nI e from rfl, x_tokenAt ht (show e ≤ n by omega), bnd_some] at st0
    have st1 : f_X4_goOn_L105_105s (yP u T (nI k, st, nI e, va)) = (if nI (kd B n e) = nI k then (nmv (nI e + 1) fun x5 => nmv (sR (yP u T (nI k, st, nI e, va)) (nI k, st, x5, va)) fun u6 => some (.inl u6)) else some (.inr (.inr (yP u T (nI k, st, nI e, va))))) := st0
    rw [nI_s1, nmv, yP_R, nmv] at st1
    rw [ea]
    by_cases c : kd B n e = k
    · rw [if_pos (by rw [c])] at st1
      rw [wl_in st1, if_pos (decide_eq_true c)]
      exact ih (e + 1) (by omega)
    · rw [if_neg (fun q => c ((nI_eq (by omega) (by omega)).mp q))] at st1
      rw [wl_out st1, if_neg (by rw [decide_eq_true_eq]; exact c)]
theorem x_numB {u : XS} {B : Fn} {n : Nat} (ht : tpe u B n) (T : TownS) {q e : Nat} (he : e ≤ n) (tok va : Int32) : ∀ m j, j + m = e - q → q ≤ e → bne (wl f_X4_numberAtHand_L7_7s (nv B q j, nI (q + j), yP u T (tok, nI q, nI e, va))) (fun a => some a) (fun b => nmv b.1 fun y5 => nmv b.2 fun u4 => some (y5, u4)) = some (nv B q (e - q), yP u T (tok, nI q, nI e, va)) := by
  obtain ⟨t1, t2, t3⟩ := ht
  intro m
  induction m with
  | zero =>
    intro j hj hq
    have e1 : f_X4_numberAtHand_L7_7s (nv B q j, nI (q + j), yP u T (tok, nI q, nI e, va)) = some (.inr (.inr (nv B q j, yP u T (tok, nI q, nI e, va)))) := by
      show f_X4_numberAtHand_L7_7 (nv B q j) (nI (q + j)) (yP u T (tok, nI q, nI e, va)) = _
      unfold f_X4_numberAtHand_L7_7
      rw [yP_x, if_pos (show nI e ≤ nI (q + j) from nI_le (by omega) (by omega))]
    rw [wl_out e1, show e - q = j by omega]
    rfl
  | succ m ih =>
    intro j hj hq
    have st0 : f_X4_numberAtHand_L7_7s (nv B q j, nI (q + j), yP u T (tok, nI q, nI e, va)) = f_X4_numberAtHand_L7_7 (nv B q j) (nI (q + j)) (yP u T (tok, nI q, nI e, va)) := rfl
    conv at st0 => rhs; unfold f_X4_numberAtHand_L7_7
    rw [yP_x, if_neg (show ¬ nI e ≤ nI (q + j) from nI_ge (by omega) (by omega))] at st0
    by_cases c : 999 < nv B q j
    · rw [if_pos c] at st0
      have e2 := nv_big c (m + 1)
      rw [show j + (m + 1) = e - q by omega] at e2
      rw [wl_out st0, e2]
      rfl
    · rw [if_neg c, ck_nI (show q + j < 120 by omega) (by omega), yP_p, cl_nI (by omega), t3 _ (by omega), nmv, nmv, nI_s1] at st0
      have e3 : nv B q (j + 1) = nv B q j * 10 + B (q + j) - 48 := by rw [nv_s, if_neg c]
      rw [← e3] at st0
      rw [wl_in st0]
      exact ih (j + 1) (by omega) hq
theorem x_147 {u : XS} {B : Fn} {n : Nat} (ht : tpe u B n) (T : TownS) {k q e : Nat} (hk : k ≤ 5) (hq : q ≤ e) (he : e ≤ n) (va : Int32) : f_X4_goOn_147 (yP u T (nI k, nI q, nI e, va)) = some (0, yP u T (nI k, nI q, nI e, if k = 2 then nv B q (e - q) else 0)) := by
  unfold f_X4_goOn_147
  rw [yP_x]
  by_cases c : k = 2
  · have e1 := x_numB ht T (q := q) he (nI k) va (e - q) 0 (by omega) hq
    have e2 : f_X4_numberAtHand (yP u T (nI k, nI q, nI e, va)) = some (nv B q (e - q), yP u T (nI k, nI q, nI e, va)) := e1
    rw [if_pos (show r_token ((nI k, nI q, nI e, va) : ReadS) = 2 by rw [c]; rfl), e2, bnd_some, if_pos c]
    rfl
  · rw [if_neg (show ¬ r_token ((nI k, nI q, nI e, va) : ReadS) = 2 from fun g => c ((nI_eq (a := k) (b := 2) (by omega) (by omega)).mp g)), if_neg c]
    rfl
theorem x_goOn {u : XS} {B : Fn} {n : Nat} (ht : tpe u B n) (T : TownS) {p : Nat} (hp : p ≤ n) (tok st va : Int32) : f_X4_goOn (yP u T (tok, st, nI p, va)) = some (0, XP u B n p T) := by
  have t2 := ht.2.1
  have h1 := tS_le (B := B) hp
  have hk := kd_le B n (tS B n p)
  unfold f_X4_goOn
  show bne (wl f_X4_goOn_L8_8s (yP u T (tok, nI p, nI p, va))) _ _ = _
  rw [x_skipB ht T tok (nI p) va (n - p) p (by omega)]
  show f_X4_goOn_52 (yP u T (tok, nI (tS B n p), nI p, va)) = _
  have e52 : f_X4_goOn_52 (yP u T (tok, nI (tS B n p), nI p, va)) = (bnd (f_X4_tokenAt (nI (tS B n p)) (yP u T (tok, nI (tS B n p), nI (tS B n p), va))) fun r3 u4 => nmv (sR u4 (ru_token (xR u4) r3)) fun u5 => (if (r_token (xR u5)) = 0 then f_X4_goOn_89 u5 else nmv ((r_end (xR u5)) + (1 : Int32)) fun x7 => nmv (sR u5 (ru_end (xR u5) x7)) fun u8 => f_X4_goOn_89 u8)) := rfl
  rw [e52, x_tokenAt ht h1.2, bnd_some]
  show (if nI (kd B n (tS B n p)) = 0 then f_X4_goOn_89 (yP u T (nI (kd B n (tS B n p)), nI (tS B n p), nI (tS B n p), va)) else f_X4_goOn_89 (yP u T (nI (kd B n (tS B n p)), nI (tS B n p), nI (tS B n p) + 1, va))) = _
  have ek : kd B n (tS B n p) = tK B n p := rfl
  rw [ek] at hk ⊢
  have fin : ∀ e, tE B n p = e → some ((0 : Int32), yP u T (nI (tK B n p), nI (tS B n p), nI e, if tK B n p = 2 then nv B (tS B n p) (e - tS B n p) else 0)) = some (0, XP u B n p T) := by
    intro e he
    subst he
    rfl
  by_cases c0 : tK B n p = 0
  · have ee : tE B n p = tS B n p := if_pos c0
    rw [if_pos (show nI (tK B n p) = 0 by rw [c0]; rfl)]
    unfold f_X4_goOn_89
    rw [yP_x, if_neg (show ¬ r_token ((nI (tK B n p), nI (tS B n p), nI (tS B n p), va) : ReadS) = 1 by rw [c0]; exact (by decide : ¬ nI 0 = (1 : Int32))), if_neg (show ¬ r_token ((nI (tK B n p), nI (tS B n p), nI (tS B n p), va) : ReadS) = 2 by rw [c0]; exact (by decide : ¬ nI 0 = (2 : Int32))), x_147 ht T (by omega) (Nat.le_refl _) h1.2]
    exact fin _ ee
  · have hlt : tS B n p < n := kd_lt c0
    rw [if_neg (show ¬ nI (tK B n p) = 0 from nI_ne0 (by omega) (by omega)), nI_s1]
    unfold f_X4_goOn_89
    rw [yP_x]
    by_cases c1 : tK B n p = 1
    · have ee : tE B n p = adv (fun e => decide (kd B n e = tK B n p)) (n - (tS B n p + 1)) (tS B n p + 1) := by unfold tE; rw [if_neg c0, if_pos (Or.inl c1)]; rfl
      have hb := adv_le (fun e => decide (kd B n e = tK B n p)) (n - (tS B n p + 1)) (tS B n p + 1)
      rw [if_pos (show r_token ((nI (tK B n p), nI (tS B n p), nI (tS B n p + 1), va) : ReadS) = 1 by rw [c1]; rfl), x_ext ht T hk (nI (tS B n p)) va (n - (tS B n p + 1)) (tS B n p + 1) (by omega)]
      show f_X4_goOn_147 (yP u T (nI (tK B n p), nI (tS B n p), nI (adv (fun e => decide (kd B n e = tK B n p)) (n - (tS B n p + 1)) (tS B n p + 1)), va)) = _
      rw [x_147 ht T (by omega) (by omega) (by omega)]
      exact fin _ ee
    · rw [if_neg (show ¬ r_token ((nI (tK B n p), nI (tS B n p), nI (tS B n p + 1), va) : ReadS) = 1 from fun g => c1 ((nI_eq (a := tK B n p) (b := 1) (by omega) (by omega)).mp g))]
      by_cases c2 : tK B n p = 2
      · have ee : tE B n p = adv (fun e => decide (kd B n e = tK B n p)) (n - (tS B n p + 1)) (tS B n p + 1) := by unfold tE; rw [if_neg c0, if_pos (Or.inr c2)]; rfl
        have hb := adv_le (fun e => decide (kd B n e = tK B n p)) (n - (tS B n p + 1)) (tS B n p + 1)
        rw [if_pos (show r_token ((nI (tK B n p), nI (tS B n p), nI (tS B n p + 1), va) : ReadS) = 2 by rw [c2]; rfl), x_ext ht T hk (nI (tS B n p)) va (n - (tS B n p + 1)) (tS B n p + 1) (by omega)]
        show f_X4_goOn_147 (yP u T (nI (tK B n p), nI (tS B n p), nI (adv (fun e => decide (kd B n e = tK B n p)) (n - (tS B n p + 1)) (tS B n p + 1)), va)) = _
        rw [x_147 ht T (by omega) (by omega) (by omega)]
        exact fin _ ee
      · have ee : tE B n p = tS B n p + 1 := by unfold tE; rw [if_neg c0, if_neg (fun q => q.elim c1 c2)]
        rw [if_neg (show ¬ r_token ((nI (tK B n p), nI (tS B n p), nI (tS B n p + 1), va) : ReadS) = 2 from fun g => c2 ((nI_eq (a := tK B n p) (b := 2) (by omega) (by omega)).mp g)), x_147 ht T (by omega) (by omega) (by omega)]
        exact fin _ ee
