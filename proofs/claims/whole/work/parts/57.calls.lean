theorem bne_wl {S α β γ : Type} {step : S → Option (S ⊕ (α ⊕ β))} {s : S} {f : α → Option γ} {g : β → Option γ} {r : γ} (n : Nat) (h : bne (wh step n s) f g = some r) : bne (wl step s) f g = some r := by
  cases e : wh step n s with
  | none => rw [e] at h; cases h
  | some q => rw [wl_iff.mpr ⟨n, e⟩, ← e]; exact h
theorem wl_for' {S E : Type} {step : S → Option (S ⊕ E)} {s : S} (F : Nat → S) (b : Nat) {e : E} (h0 : s = F 0) (hs : ∀ i, i < b → step (F i) = some (.inl (F (i + 1)))) (he : step (F b) = some (.inr e)) : wl step s = some e := by
  rw [h0]; exact wl_for F b hs he
/-! images -/
theorem cpy_z {f g : Fn} {n : Nat} (hf : ∀ k, n ≤ k → f k = 0) (hg : ∀ k, n ≤ k → g k = 0) (k : Nat) : va_cpy f g 0 0 n k = f k := by
  unfold va_cpy
  by_cases h : k < n
  · rw [if_pos (by omega)]; congr 1; omega
  · rw [if_neg (by omega), hf k (by omega), hg k (by omega)]
theorem x_kt {u : XS} (h1 : tz (xT u)) (h2 : tz (xK u)) : f_X5_takeFrom_kt u = some (0, sK u (xT u)) := by
  unfold f_X5_takeFrom_kt
  simp only [nmv, Int32.reduceToNatClampNeg]
  obtain ⟨a1, a2, a3, a4, a5, a6⟩ := h1
  obtain ⟨b1, b2, b3, b4, b5, b6⟩ := h2
  have e : ∀ T : TownS, T = xT u → some ((0 : Int32), sK u T) = some (0, sK u (xT u)) := fun T h => by rw [h]
  exact e _ (town_eq rfl rfl rfl rfl rfl rfl (cpy_z a1 b1) (cpy_z a2 b2) (cpy_z a3 b3) (cpy_z a4 b4) (cpy_z a5 b5) (cpy_z a6 b6))
theorem x_tk {u : XS} (h1 : tz (xK u)) (h2 : tz (xT u)) : f_X5_takeFrom_tk u = some (0, sT u (xK u)) := by
  unfold f_X5_takeFrom_tk
  simp only [nmv, Int32.reduceToNatClampNeg]
  obtain ⟨a1, a2, a3, a4, a5, a6⟩ := h1
  obtain ⟨b1, b2, b3, b4, b5, b6⟩ := h2
  have e : ∀ T : TownS, T = xK u → some ((0 : Int32), sT u T) = some (0, sT u (xK u)) := fun T h => by rw [h]
  exact e _ (town_eq rfl rfl rfl rfl rfl rfl (cpy_z a1 b1) (cpy_z a2 b2) (cpy_z a3 b3) (cpy_z a4 b4) (cpy_z a5 b5) (cpy_z a6 b6))
theorem x_st {u : XS} (h1 : tz (xT u)) (h2 : tz (xS u)) : f_X5_takeFrom_st u = some (0, sS u (xT u)) := by
  unfold f_X5_takeFrom_st
  simp only [nmv, Int32.reduceToNatClampNeg]
  obtain ⟨a1, a2, a3, a4, a5, a6⟩ := h1
  obtain ⟨b1, b2, b3, b4, b5, b6⟩ := h2
  have e : ∀ T : TownS, T = xT u → some ((0 : Int32), sS u T) = some (0, sS u (xT u)) := fun T h => by rw [h]
  exact e _ (town_eq rfl rfl rfl rfl rfl rfl (cpy_z a1 b1) (cpy_z a2 b2) (cpy_z a3 b3) (cpy_z a4 b4) (cpy_z a5 b5) (cpy_z a6 b6))
theorem x_ts {u : XS} (h1 : tz (xS u)) (h2 : tz (xT u)) : f_X5_takeFrom_ts u = some (0, sT u (xS u)) := by
  unfold f_X5_takeFrom_ts
  simp only [nmv, Int32.reduceToNatClampNeg]
  obtain ⟨a1, a2, a3, a4, a5, a6⟩ := h1
  obtain ⟨b1, b2, b3, b4, b5, b6⟩ := h2
  have e : ∀ T : TownS, T = xS u → some ((0 : Int32), sT u T) = some (0, sT u (xS u)) := fun T h => by rw [h]
  exact e _ (town_eq rfl rfl rfl rfl rfl rfl (cpy_z a1 b1) (cpy_z a2 b2) (cpy_z a3 b3) (cpy_z a4 b4) (cpy_z a5 b5) (cpy_z a6 b6))
/-- the first n of f, the rest of g -/
def cpT (f g : Fn) (n : Nat) : Fn := fun k => if k < n then f k else g k
theorem cpT_0 (f g : Fn) : cpT f g 0 = g := by funext k; simp [cpT]
theorem cpT_s (f g : Fn) (i : Nat) : upd (cpT f g i) i (f i) = cpT f g (i + 1) := by
  funext k
  unfold upd cpT
  by_cases h : k = i
  · subst h; rw [if_pos rfl, if_pos (by omega)]
  · rw [if_neg h]
    by_cases h2 : k < i
    · rw [if_pos h2, if_pos (by omega)]
    · rw [if_neg h2, if_neg (by omega)]
theorem dc_cpT (f g : Fn) : dc (cpT f g 247) = dc f := by
  have e : ∀ k, k < 247 → cpT f g 247 k = f k := fun k h => by simp [cpT, h]
  have e2 : ∀ (n b : Nat) (h : ∀ k, k < n → b + k < 247) (k : Nat), (if k < n then cpT f g 247 (b + k) else 0) = if k < n then f (b + k) else 0 := by
    intro n b h k
    by_cases hk : k < n
    · rw [if_pos hk, if_pos hk, e _ (h k hk)]
    · rw [if_neg hk, if_neg hk]
  have e3 : ∀ (n : Nat) (q : Nat → Nat) (h : ∀ k, k < n → q k < 247) (k : Nat), (if k < n then cpT f g 247 (q k) else 0) = if k < n then f (q k) else 0 := by
    intro n q h k
    by_cases hk : k < n
    · rw [if_pos hk, if_pos hk, e _ (h k hk)]
    · rw [if_neg hk, if_neg hk]
  exact town_eq (e 0 (by omega)) (e 1 (by omega)) (e 5 (by omega)) (e 2 (by omega)) (e 3 (by omega)) (e 4 (by omega)) (e2 8 6 (by omega)) (e3 8 (fun k => 14 + 26 * k) (by intro k h; show 14 + 26 * k < 247; omega)) (e3 8 (fun k => 15 + 26 * k) (by intro k h; show 15 + 26 * k < 247; omega)) (e3 192 (fun j => 16 + 26 * (j / 24) + j % 24) (by intro k h; show 16 + 26 * (k / 24) + k % 24 < 247; omega)) (e2 15 222 (by omega)) (e2 10 237 (by omega))
theorem m_image (u : MS) : f_X7_image u = some (1, mu_isKept (mu_kept u (cpT (m_m u) (m_kept u) 247)) 1) := by
  unfold f_X7_image
  rw [wl_for' (fun i => (nI i, mu_kept u (cpT (m_m u) (m_kept u) i))) 247 (e := .inr (mu_kept u (cpT (m_m u) (m_kept u) 247))) ?_ ?_ ?_]
  · rfl
  · show ((0 : Int32), u) = (nI 0, mu_kept u (cpT (m_m u) (m_kept u) 0))
    rw [cpT_0]; rfl
  · intro i hi
    show f_X7_image_L2_2 _ _ = _
    unfold f_X7_image_L2_2
    simp (disch := omega) only [show (247 : Int32) = nI 247 from rfl, leI, leF, if_false, nIneg, cl', or_self, nmv, nI_s1]
    rw [← cpT_s]
  · show f_X7_image_L2_2 _ _ = _
    unfold f_X7_image_L2_2
    rw [if_pos (show (247 : Int32) ≤ nI 247 from by decide)]
theorem m_undo (u : MS) (h : ¬ m_isKept u = 0) : f_X7_undo u = some (m_kept u 3, mu_m u (cpT (m_kept u) (m_m u) 247)) := by
  unfold f_X7_undo
  rw [if_neg h, wl_for' (fun i => (nI i, mu_m u (cpT (m_kept u) (m_m u) i))) 247 (e := .inr (mu_m u (cpT (m_kept u) (m_m u) 247))) ?_ ?_ ?_]
  · rfl
  · show ((0 : Int32), u) = (nI 0, mu_m u (cpT (m_kept u) (m_m u) 0))
    rw [cpT_0]; rfl
  · intro i hi
    show f_X7_undo_L16_16 _ _ = _
    unfold f_X7_undo_L16_16
    simp (disch := omega) only [show (247 : Int32) = nI 247 from rfl, leI, leF, if_false, nIneg, cl', or_self, nmv, nI_s1]
    rw [← cpT_s]
  · show f_X7_undo_L16_16 _ _ = _
    unfold f_X7_undo_L16_16
    rw [if_pos (show (247 : Int32) ≤ nI 247 from by decide)]
theorem op_image {σ : XS} {τ : MS} (h : Rel σ τ) : Op (f_X6_image σ) (f_X7_image τ) := by
  obtain ⟨h1, h2, h3, h4, h5, h6⟩ := h
  unfold f_X6_image
  rw [x_kt (by rw [h1]; exact tz_dc _) h3.1, bnd_some, m_image]
  refine Op.mk2 rfl ⟨h1, h2, ⟨?_, h3.2⟩, ⟨rfl, Or.inr rfl⟩, ?_, h6⟩
  · show tz (xT σ)
    rw [h1]; exact tz_dc _
  · intro _
    show xT σ = dc (cpT (m_m τ) (m_kept τ) 247) ∧ tOk (dc (cpT (m_m τ) (m_kept τ) 247))
    rw [dc_cpT]
    exact ⟨h1, h2⟩
theorem op_undo {σ : XS} {τ : MS} (h : Rel σ τ) : Op (f_X6_undo σ) (f_X7_undo τ) := by
  obtain ⟨h1, h2, h3, h4, h5, h6⟩ := id h
  by_cases e : m_isKept τ = 0
  · unfold f_X6_undo f_X7_undo
    rw [h4.1, if_pos e, if_pos e, fx_3, fm_3]
    exact Op.mk' (h.fd (by decide))
  · have e1 : m_isKept τ = 1 := h4.2.resolve_left e
    obtain ⟨k1, k2⟩ := h5 e1
    rw [m_undo τ e]
    unfold f_X6_undo
    rw [h4.1, if_neg e, x_tk h3.1 (by rw [h1]; exact tz_dc _), bnd_some, xT_sT, k1]
    refine Op.mk2 rfl ⟨?_, ?_, h3, h4, h5, h6⟩
    · show dc (m_kept τ) = dc (cpT (m_kept τ) (m_m τ) 247)
      rw [dc_cpT]
    · show tOk (dc (cpT (m_kept τ) (m_m τ) 247))
      rw [dc_cpT]; exact k2
/-! kinds under kinds -/
def un (k b : Nat) : Bool := k == b || b == 0 || (k == 5 && (b == 4 || b == 1)) || (k == 4 && b == 1) || (k == 6 && b == 3)
set_option maxRecDepth 10000 in
theorem x_under {k b : Nat} (hk : k < 7) (hb : b < 7) (u : XS) : f_X6_isUnder (nI k) (nI b) u = some (if un k b = true then 1 else 0, u) := by
  unfold f_X6_isUnder
  rcases (show k = 0 ∨ k = 1 ∨ k = 2 ∨ k = 3 ∨ k = 4 ∨ k = 5 ∨ k = 6 by omega) with rfl | rfl | rfl | rfl | rfl | rfl | rfl <;>
  rcases (show b = 0 ∨ b = 1 ∨ b = 2 ∨ b = 3 ∨ b = 4 ∨ b = 5 ∨ b = 6 by omega) with rfl | rfl | rfl | rfl | rfl | rfl | rfl <;>
  exact bne_wl 9 rfl
set_option maxRecDepth 10000 in
theorem m_under {k b : Nat} (hk : k < 7) (hb : b < 7) (x : Int32) (u : MS) : bne (wl f_X7_as_L56_56s (nI b, x, nI k, u)) (fun a => some a) (fun b => nmv b fun u17 => bnd (f_X7_finds (-1000003 : Int32) u17) fun r18 u19 => some (r18, u19)) = if un k b = true then some (x, u) else some (-1000003, fdM u 2) := by
  rcases (show k = 0 ∨ k = 1 ∨ k = 2 ∨ k = 3 ∨ k = 4 ∨ k = 5 ∨ k = 6 by omega) with rfl | rfl | rfl | rfl | rfl | rfl | rfl <;>
  rcases (show b = 0 ∨ b = 1 ∨ b = 2 ∨ b = 3 ∨ b = 4 ∨ b = 5 ∨ b = 6 by omega) with rfl | rfl | rfl | rfl | rfl | rfl | rfl <;>
  exact bne_wl 9 rfl
