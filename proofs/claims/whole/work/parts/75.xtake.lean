/-! the shop takes orders -/
/-- the object with another run's days, another shop -/
def xZ (u : XS) (L : Fn) (H : ShopS) : XS := (xT u, xK u, xS u, xP u, L, H, xR u, xB u, xF u, xI u)
theorem xZ_T (u : XS) (L : Fn) (H : ShopS) : xT (xZ u L H) = xT u := rfl
theorem xZ_id (u : XS) : u = xZ u (xL u) (xH u) := rfl
theorem xZ_sL (u : XS) (L L' : Fn) (H : ShopS) : sL (xZ u L H) L' = xZ u L' H := rfl
theorem xZ_sH (u : XS) (L : Fn) (H H' : ShopS) : sH (xZ u L H) H' = xZ u L H' := rfl
theorem Rel.xZ {σ : XS} {τ : MS} (h : Rel σ τ) (L : Fn) {H : ShopS} (hh : hOk H) : Rel (xZ σ L H) τ := by
  obtain ⟨h1, h2, h3, h4, h5, h6, h7, h8, -⟩ := h
  exact ⟨h1, h2, h3, h4, h5, h6, h7, h8, hh⟩
/-- what stays in a shop while orders are taken: which runs are good, their days, the sequence, the best -/
abbrev ShB : Type := Fn × Fn × Fn × Int32 × Int32 × Int32
def hM (B : ShB) (f iu th : Fn) (us w it ld : Int32) : ShopS := (B.1, B.2.1, f, iu, B.2.2.1, th, us, w, it, ld, B.2.2.2.1, B.2.2.2.2.1, B.2.2.2.2.2)
def shB (H : ShopS) : ShB := (h_isGood H, h_plotted H, h_sequence H, h_bestWorth H, h_bestInTime H, h_bestDigits H)
theorem hM_id (H : ShopS) : H = hM (shB H) (h_hoursOn H) (h_inUse H) (h_toolHours H) (h_uses H) (h_worth H) (h_inTime H) (h_lastDay H) := rfl
def xM (u : XS) (L : Fn) (B : ShB) (f iu th : Fn) (us w it ld : Int32) : XS := xZ u L (hM B f iu th us w it ld)
section XM
variable (u : XS) (L : Fn) (B : ShB) (f iu th : Fn) (us w it ld : Int32)
theorem xM_f (v : Fn) : sH (xM u L B f iu th us w it ld) (hu_hoursOn (xH (xM u L B f iu th us w it ld)) v) = xM u L B v iu th us w it ld := rfl
theorem xM_iu (v : Fn) : sH (xM u L B f iu th us w it ld) (hu_inUse (xH (xM u L B f iu th us w it ld)) v) = xM u L B f v th us w it ld := rfl
theorem xM_th (v : Fn) : sH (xM u L B f iu th us w it ld) (hu_toolHours (xH (xM u L B f iu th us w it ld)) v) = xM u L B f iu v us w it ld := rfl
theorem xM_us (v : Int32) : sH (xM u L B f iu th us w it ld) (hu_uses (xH (xM u L B f iu th us w it ld)) v) = xM u L B f iu th v w it ld := rfl
theorem xM_w (v : Int32) : sH (xM u L B f iu th us w it ld) (hu_worth (xH (xM u L B f iu th us w it ld)) v) = xM u L B f iu th us v it ld := rfl
theorem xM_it (v : Int32) : sH (xM u L B f iu th us w it ld) (hu_inTime (xH (xM u L B f iu th us w it ld)) v) = xM u L B f iu th us w v ld := rfl
theorem xM_ld (v : Int32) : sH (xM u L B f iu th us w it ld) (hu_lastDay (xH (xM u L B f iu th us w it ld)) v) = xM u L B f iu th us w it v := rfl
theorem gM_f : h_hoursOn (xH (xM u L B f iu th us w it ld)) = f := rfl
theorem gM_iu : h_inUse (xH (xM u L B f iu th us w it ld)) = iu := rfl
theorem gM_th : h_toolHours (xH (xM u L B f iu th us w it ld)) = th := rfl
theorem gM_us : h_uses (xH (xM u L B f iu th us w it ld)) = us := rfl
theorem gM_w : h_worth (xH (xM u L B f iu th us w it ld)) = w := rfl
theorem gM_it : h_inTime (xH (xM u L B f iu th us w it ld)) = it := rfl
theorem gM_ld : h_lastDay (xH (xM u L B f iu th us w it ld)) = ld := rfl
theorem gM_g : h_isGood (xH (xM u L B f iu th us w it ld)) = B.1 := rfl
theorem gM_pl : h_plotted (xH (xM u L B f iu th us w it ld)) = B.2.1 := rfl
theorem gM_sq : h_sequence (xH (xM u L B f iu th us w it ld)) = B.2.2.1 := rfl
theorem xM_T : xT (xM u L B f iu th us w it ld) = xT u := rfl
end XM
theorem x_ord (u : XS) {o w : Nat} (ho : o < 5) (hw : w < 3) : f_X5_orderNumber (nI o) (nI w) u = some (tOrd (xT u) (o * 3 + w), u) := by
  unfold f_X5_orderNumber
  rw [n3, pk_mul, nI_add]
  simp only [nmv]
  rw [ck_nI (by omega) (by omega), cl_nI (by omega)]
/-! forget -/
def zf (iu f : Fn) : Nat → Fn
  | 0 => f
  | i + 1 => upd (zf iu f i) (iu i).toNatClampNeg 0
theorem zf_z {iu f : Fn} {p : Nat} : ∀ n, ((∃ k, k < n ∧ (iu k).toNatClampNeg = p) ∨ f p = 0) → zf iu f n p = 0 := by
  intro n
  induction n with
  | zero =>
    rintro (⟨k, hk, -⟩ | h)
    · omega
    · exact h
  | succ n ih =>
    intro h
    show upd (zf iu f n) (iu n).toNatClampNeg 0 p = 0
    by_cases e : p = (iu n).toNatClampNeg
    · rw [e, upd_s]
    · rw [upd_n e]
      refine ih ?_
      rcases h with ⟨k, hk, hk2⟩ | h
      · left
        by_cases e2 : k = n
        · rw [e2] at hk2; exact absurd hk2.symm e
        · exact ⟨k, by omega, hk2⟩
      · exact Or.inr h
theorem x_forget (u : XS) (L : Fn) (B : ShB) (f iu th : Fn) (w it ld : Int32) {n : Nat} (hn : n ≤ 40) (hi : ∀ k, k < n → 0 ≤ (iu k).toInt ∧ (iu k).toInt < 3200) : f_X2_forget (xM u L B f iu th (nI n) w it ld) = some (0, xM u L B (zf iu f n) iu (zr th 0 8) 0 0 0 (-1)) := by
  have e1 : wl f_X2_forget_L2_2s ((0 : Int32), xM u L B f iu th (nI n) w it ld) = some (.inr (xM u L B (zf iu f n) iu th (nI n) w it ld)) := by
    refine wl_for' (fun i => (nI i, xM u L B (zf iu f i) iu th (nI n) w it ld)) n rfl ?_ ?_
    · intro i hin
      have h1 := hi i hin
      show f_X2_forget_L2_2 (nI i) (xM u L B (zf iu f i) iu th (nI n) w it ld) = some (.inl (nI (i + 1), xM u L B (zf iu f (i + 1)) iu th (nI n) w it ld))
      unfold f_X2_forget_L2_2
      rw [gM_us, if_neg (nI_ge hin (by omega)), ck_nI (by omega) (by omega), cl_nI (by omega), gM_iu, nmv, ck_ok h1.1 (by omega), gM_f, xM_f, nmv, nmv, nI_s1]
      rfl
    · show f_X2_forget_L2_2 (nI n) (xM u L B (zf iu f n) iu th (nI n) w it ld) = _
      unfold f_X2_forget_L2_2
      rw [gM_us, if_pos (Int32.le_refl _)]
  have e2 : wl f_X2_forget_L35_35s ((0 : Int32), xM u L B (zf iu f n) iu th 0 w it ld) = some (.inr (xM u L B (zf iu f n) iu (zr th 0 8) 0 w it ld)) := by
    refine wl_for' (fun i => (nI i, xM u L B (zf iu f n) iu (zr th 0 i) 0 w it ld)) 8 ?_ ?_ ?_
    · show ((0 : Int32), xM u L B (zf iu f n) iu th 0 w it ld) = (nI 0, xM u L B (zf iu f n) iu (zr th 0 0) 0 w it ld)
      rw [zr_0]; rfl
    · intro i hin
      have e := zr_s th 0 i
      rw [Nat.zero_add] at e
      show f_X2_forget_L35_35 (nI i) (xM u L B (zf iu f n) iu (zr th 0 i) 0 w it ld) = some (.inl (nI (i + 1), xM u L B (zf iu f n) iu (zr th 0 (i + 1)) 0 w it ld))
      unfold f_X2_forget_L35_35
      rw [if_neg (show ¬ (8 : Int32) ≤ nI i from nI_ge (b := 8) hin (by omega)), ck_nI (by omega) (by omega), cl_nI (by omega), gM_th, e, xM_th, nmv, nmv, nI_s1]
    · show f_X2_forget_L35_35 (nI 8) (xM u L B (zf iu f n) iu (zr th 0 8) 0 w it ld) = _
      unfold f_X2_forget_L35_35
      rw [if_pos (show (8 : Int32) ≤ nI 8 from Int32.le_refl _)]
  unfold f_X2_forget
  rw [e1]
  show bne (wl f_X2_forget_L35_35s ((0 : Int32), xM u L B (zf iu f n) iu th 0 w it ld)) _ _ = _
  rw [e2]
  rfl
/-! hours of tools -/
def tot (f : Nat → Nat) (k : Nat) : Nat → Nat
  | 0 => 0
  | n + 1 => tot f k n + f (400 * k + n)
theorem tot_add (f g : Nat → Nat) (k : Nat) : ∀ n, tot (fun p => f p + g p) k n = tot f k n + tot g k n := by
  intro n
  induction n with
  | zero => rfl
  | succ n ih =>
    show tot (fun p => f p + g p) k n + (f (400 * k + n) + g (400 * k + n)) = tot f k n + f (400 * k + n) + (tot g k n + g (400 * k + n))
    rw [ih]; omega
theorem tot_0 (k : Nat) : ∀ n, tot (fun _ => 0) k n = 0 := by
  intro n
  induction n with
  | zero => rfl
  | succ n ih => show tot (fun _ => 0) k n + 0 = 0; rw [ih]
theorem tot_one (q v k : Nat) : ∀ n, n ≤ 400 → tot (fun p => if q = p then v else 0) k n = if 400 * k ≤ q ∧ q < 400 * k + n then v else 0 := by
  intro n
  induction n with
  | zero => intro _; rw [if_neg (by omega)]; rfl
  | succ n ih =>
    intro hn
    show tot (fun p => if q = p then v else 0) k n + (if q = 400 * k + n then v else 0) = _
    rw [ih (by omega)]
    by_cases h : q = 400 * k + n
    · rw [if_neg (by omega), if_pos h, if_pos (by omega)]; omega
    · rw [if_neg h]
      by_cases h2 : 400 * k ≤ q ∧ q < 400 * k + n
      · rw [if_pos h2, if_pos (by omega), Nat.add_zero]
      · rw [if_neg h2, if_neg (by omega)]
theorem tot_sm {T : TownS} {t b k : Nat} : ∀ n, (∀ i, i < n → dq T t b i < 400) → tot (fun p => sm T t b p n) k 400 = hn T t k n := by
  intro n
  induction n with
  | zero => intro _; exact tot_0 k 400
  | succ n ih =>
    intro h
    have e : (fun p => sm T t b p (n + 1)) = fun p => sm T t b p n + (if sl T t b n = p then ho T t n else 0) := by
      funext p
      rw [sm_s]
      split <;> omega
    have hd := h n (by omega)
    rw [e, tot_add, ih (fun i hi => h i (by omega)), tot_one _ _ _ _ (Nat.le_refl _)]
    show _ = if tl T t n = k then hn T t k n + ho T t n else hn T t k n
    unfold sl
    by_cases c : tl T t n = k
    · rw [if_pos c, if_pos (by omega)]
    · rw [if_neg c, if_neg (by omega)]
      omega
theorem tot_ad {T : TownS} {t b k : Nat} (h : Nat → Nat) (hd : ∀ i, i < sc T t → dq T t b i < 400) : tot (ad T t b h) k 400 = tot h k 400 + hw T t k := by
  have := tot_add h (fun p => sm T t b p (sc T t)) k 400
  rw [tot_sm _ hd] at this
  exact this
