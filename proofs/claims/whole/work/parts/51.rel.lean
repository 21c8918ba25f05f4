/-- the town that the reference's row of numbers tells -/
def dc (m : Fn) : TownS := (m 0, m 1, m 5, m 2, m 3, m 4, fun k => if k < 8 then m (6 + k) else 0, fun k => if k < 8 then m (14 + 26 * k) else 0, fun k => if k < 8 then m (15 + 26 * k) else 0, fun j => if j < 192 then m (16 + 26 * (j / 24) + j % 24) else 0, fun j => if j < 15 then m (222 + j) else 0, fun k => if k < 10 then m (237 + k) else 0)
def tz (T : TownS) : Prop := (∀ k, 8 ≤ k → tDays T k = 0) ∧ (∀ k, 8 ≤ k → tKinds T k = 0) ∧ (∀ k, 8 ≤ k → tCounts T k = 0) ∧ (∀ k, 192 ≤ k → tNums T k = 0) ∧ (∀ k, 15 ≤ k → tOrd T k = 0) ∧ (∀ k, 10 ≤ k → tSpots T k = 0)
def sOk (T : TownS) (j : Nat) : Prop := (0 ≤ (tNums T j).toInt ∧ (tNums T j).toInt < (tTools T).toInt) ∧ (1 ≤ (tNums T (j + 1)).toInt ∧ (tNums T (j + 1)).toInt ≤ 8) ∧ (0 ≤ (tNums T (j + 2)).toInt ∧ (tNums T (j + 2)).toInt ≤ 99)
def oOk (T : TownS) (j : Nat) : Prop := (0 ≤ (tOrd T j).toInt ∧ (tOrd T j).toInt < (tThings T).toInt) ∧ (0 ≤ (tOrd T (j + 1)).toInt ∧ (tOrd T (j + 1)).toInt ≤ 399) ∧ (1 ≤ (tOrd T (j + 2)).toInt ∧ (tOrd T (j + 2)).toInt ≤ 99)
/-- what holds of every town -/
def tOk (T : TownS) : Prop :=
  (1 ≤ (tRound T).toInt ∧ (tRound T).toInt ≤ 12) ∧ (-1 ≤ (tNear T).toInt ∧ (tNear T).toInt ≤ 11) ∧ (0 ≤ (tTools T).toInt ∧ (tTools T).toInt ≤ 8) ∧ (0 ≤ (tThings T).toInt ∧ (tThings T).toInt ≤ 8) ∧ (0 ≤ (tOrders T).toInt ∧ (tOrders T).toInt ≤ 5) ∧
  (∀ k, k < 8 → 0 ≤ (tDays T k).toInt ∧ (tDays T k).toInt ≤ 4095) ∧ (∀ k, k < 8 → 0 ≤ (tKinds T k).toInt ∧ (tKinds T k).toInt ≤ 6) ∧
  (∀ t : Nat, (t : Int) < (tThings T).toInt → 1 ≤ (tCounts T t).toInt ∧ (tCounts T t).toInt ≤ 8) ∧
  (∀ t i : Nat, (t : Int) < (tThings T).toInt → (i : Int) < (tCounts T t).toInt → sOk T (t * 24 + i * 3)) ∧
  (∀ o : Nat, (o : Int) < (tOrders T).toInt → oOk T (o * 3)) ∧
  (∀ k, k < 10 → -1 ≤ (tSpots T k).toInt ∧ (tSpots T k).toInt < (tThings T).toInt)
/-- tape: as many bytes, the same ones -/
def rP (P : TapeS) (b : Fn) (n : Int32) : Prop := P.2 = n ∧ (0 ≤ n.toInt ∧ n.toInt ≤ 120) ∧ ∀ k, k < 120 → P.1 k = b k ∧ 0 ≤ (b k).toInt ∧ (b k).toInt ≤ 255
def rB (B : ShtS) (b z n : Fn) : Prop := (∀ j, j < 4 → B.1 j = b j ∧ (b j = 0 ∨ b j = 8 ∨ b j = 16 ∨ b j = 32) ∧ B.2.1 j = z j ∧ (0 ≤ (z j).toInt ∧ (z j).toInt ≤ 40) ∧ (b j = 0 → z j = 0)) ∧ ∀ j i, j < 4 → i < 40 → B.2.2 j i = n (40 * j + i)
/-- the shop's account: where hours are, is in use -/
def hOk (h : ShopS) : Prop := (0 ≤ (h_uses h).toInt ∧ (h_uses h).toInt ≤ 40) ∧ (∀ k : Nat, (k : Int) < (h_uses h).toInt → 0 ≤ (h_inUse h k).toInt ∧ (h_inUse h k).toInt < 3200) ∧ ∀ p : Nat, p < 3200 → (∀ k : Nat, (k : Int) < (h_uses h).toInt → (h_inUse h k).toInt ≠ p) → h_hoursOn h p = 0
/-- class and reference stand alike -/
def Rel (σ : XS) (τ : MS) : Prop :=
  xT σ = dc (m_m τ) ∧ tOk (dc (m_m τ)) ∧ (tz (xK σ) ∧ tz (xS σ)) ∧ (xI σ = m_isKept τ ∧ (m_isKept τ = 0 ∨ m_isKept τ = 1)) ∧ (m_isKept τ = 1 → xK σ = dc (m_kept τ) ∧ tOk (dc (m_kept τ))) ∧ rP (xP σ) (m_tape τ) (m_taped τ) ∧ rB (xB σ) (m_bits τ) (m_size τ) (m_number τ) ∧ (∀ k, k < 7 → xF σ k = m_found τ k) ∧ hOk (xH σ)
theorem dc_Days (m : Fn) (k : Nat) : tDays (dc m) k = if k < 8 then m (6 + k) else 0 := rfl
theorem dc_Kinds (m : Fn) (k : Nat) : tKinds (dc m) k = if k < 8 then m (14 + 26 * k) else 0 := rfl
theorem dc_Counts (m : Fn) (k : Nat) : tCounts (dc m) k = if k < 8 then m (15 + 26 * k) else 0 := rfl
theorem dc_Nums (m : Fn) (j : Nat) : tNums (dc m) j = if j < 192 then m (16 + 26 * (j / 24) + j % 24) else 0 := rfl
theorem dc_Ord (m : Fn) (j : Nat) : tOrd (dc m) j = if j < 15 then m (222 + j) else 0 := rfl
theorem dc_Spots (m : Fn) (k : Nat) : tSpots (dc m) k = if k < 10 then m (237 + k) else 0 := rfl
theorem tz_dc (m : Fn) : tz (dc m) := by
  refine ⟨?_, ?_, ?_, ?_, ?_, ?_⟩ <;> intro k hk
  · rw [dc_Days, if_neg (by omega)]
  · rw [dc_Kinds, if_neg (by omega)]
  · rw [dc_Counts, if_neg (by omega)]
  · rw [dc_Nums, if_neg (by omega)]
  · rw [dc_Ord, if_neg (by omega)]
  · rw [dc_Spots, if_neg (by omega)]
theorem town_eq {S T : TownS} (h1 : tRound S = tRound T) (h2 : tNear S = tNear T) (h3 : tZ S = tZ T) (h4 : tTools S = tTools T) (h5 : tThings S = tThings T) (h6 : tOrders S = tOrders T) (h7 : ∀ k, tDays S k = tDays T k) (h8 : ∀ k, tKinds S k = tKinds T k) (h9 : ∀ k, tCounts S k = tCounts T k) (h10 : ∀ k, tNums S k = tNums T k) (h11 : ∀ k, tOrd S k = tOrd T k) (h12 : ∀ k, tSpots S k = tSpots T k) : S = T := by
  obtain ⟨a1, a2, a3, a4, a5, a6, a7, a8, a9, a10, a11, a12⟩ := S
  obtain ⟨b1, b2, b3, b4, b5, b6, b7, b8, b9, b10, b11, b12⟩ := T
  have g1 : a1 = b1 := h1
  have g2 : a2 = b2 := h2
  have g3 : a3 = b3 := h3
  have g4 : a4 = b4 := h4
  have g5 : a5 = b5 := h5
  have g6 : a6 = b6 := h6
  have g7 : a7 = b7 := funext h7
  have g8 : a8 = b8 := funext h8
  have g9 : a9 = b9 := funext h9
  have g10 : a10 = b10 := funext h10
  have g11 : a11 = b11 := funext h11
  have g12 : a12 = b12 := funext h12
  subst g1 g2 g3 g4 g5 g6 g7 g8 g9 g10 g11 g12
  rfl
theorem if_upd {p : Prop} [Decidable p] {m : Fn} {a b : Nat} {v : Int32} (h : p → b ≠ a) : (if p then upd m a v b else 0) = if p then m b else 0 := by
  by_cases hp : p
  · rw [if_pos hp, if_pos hp, pk_un (h hp)]
  · rw [if_neg hp, if_neg hp]
theorem if_same {p : Nat → Prop} [DecidablePred p] {m : Fn} {g : Nat → Nat} {k j : Nat} {v : Int32} (hk : p k) (hg : p j → g j = g k → j = k) : (if p j then upd m (g k) v (g j) else 0) = upd (fun j => if p j then m (g j) else 0) k v j := by
  by_cases e : j = k
  · subst e; rw [if_pos hk, pk_us, pk_us]
  · rw [pk_un e]
    exact if_upd (fun hp q => e (hg hp q))

theorem dc_0 (m : Fn) (v : Int32) : dc (upd m 0 v) = uRound (dc m) v := town_eq rfl rfl rfl rfl rfl rfl (fun k => if_upd (fun _ => by omega)) (fun k => if_upd (fun _ => by omega)) (fun k => if_upd (fun _ => by omega)) (fun k => if_upd (fun _ => by omega)) (fun k => if_upd (fun _ => by omega)) (fun k => if_upd (fun _ => by omega))
theorem dc_1 (m : Fn) (v : Int32) : dc (upd m 1 v) = uNear (dc m) v := town_eq rfl rfl rfl rfl rfl rfl (fun k => if_upd (fun _ => by omega)) (fun k => if_upd (fun _ => by omega)) (fun k => if_upd (fun _ => by omega)) (fun k => if_upd (fun _ => by omega)) (fun k => if_upd (fun _ => by omega)) (fun k => if_upd (fun _ => by omega))
theorem dc_5 (m : Fn) (v : Int32) : dc (upd m 5 v) = uZ (dc m) v := town_eq rfl rfl rfl rfl rfl rfl (fun k => if_upd (fun _ => by omega)) (fun k => if_upd (fun _ => by omega)) (fun k => if_upd (fun _ => by omega)) (fun k => if_upd (fun _ => by omega)) (fun k => if_upd (fun _ => by omega)) (fun k => if_upd (fun _ => by omega))
theorem dc_2 (m : Fn) (v : Int32) : dc (upd m 2 v) = uTools (dc m) v := town_eq rfl rfl rfl rfl rfl rfl (fun k => if_upd (fun _ => by omega)) (fun k => if_upd (fun _ => by omega)) (fun k => if_upd (fun _ => by omega)) (fun k => if_upd (fun _ => by omega)) (fun k => if_upd (fun _ => by omega)) (fun k => if_upd (fun _ => by omega))
theorem dc_3 (m : Fn) (v : Int32) : dc (upd m 3 v) = uThings (dc m) v := town_eq rfl rfl rfl rfl rfl rfl (fun k => if_upd (fun _ => by omega)) (fun k => if_upd (fun _ => by omega)) (fun k => if_upd (fun _ => by omega)) (fun k => if_upd (fun _ => by omega)) (fun k => if_upd (fun _ => by omega)) (fun k => if_upd (fun _ => by omega))
theorem dc_4 (m : Fn) (v : Int32) : dc (upd m 4 v) = uOrders (dc m) v := town_eq rfl rfl rfl rfl rfl rfl (fun k => if_upd (fun _ => by omega)) (fun k => if_upd (fun _ => by omega)) (fun k => if_upd (fun _ => by omega)) (fun k => if_upd (fun _ => by omega)) (fun k => if_upd (fun _ => by omega)) (fun k => if_upd (fun _ => by omega))
theorem dc_days (m : Fn) {k : Nat} (hk : k < 8) (v : Int32) : dc (upd m (6 + k) v) = uDays (dc m) (upd (tDays (dc m)) k v) := town_eq (pk_un (by omega)) (pk_un (by omega)) (pk_un (by omega)) (pk_un (by omega)) (pk_un (by omega)) (pk_un (by omega)) (fun j => if_same (p := fun k => k < 8) (g := fun k => 6 + k) hk (fun _ q => by omega)) (fun j => if_upd (fun h => by omega)) (fun j => if_upd (fun h => by omega)) (fun j => if_upd (fun h => by omega)) (fun j => if_upd (fun h => by omega)) (fun j => if_upd (fun h => by omega))
theorem dc_kinds (m : Fn) {k : Nat} (hk : k < 8) (v : Int32) : dc (upd m (14 + 26 * k) v) = uKinds (dc m) (upd (tKinds (dc m)) k v) := town_eq (pk_un (by omega)) (pk_un (by omega)) (pk_un (by omega)) (pk_un (by omega)) (pk_un (by omega)) (pk_un (by omega)) (fun j => if_upd (fun h => by omega)) (fun j => if_same (p := fun k => k < 8) (g := fun k => 14 + 26 * k) hk (fun _ q => by omega)) (fun j => if_upd (fun h => by omega)) (fun j => if_upd (fun h => by omega)) (fun j => if_upd (fun h => by omega)) (fun j => if_upd (fun h => by omega))
theorem dc_counts (m : Fn) {k : Nat} (hk : k < 8) (v : Int32) : dc (upd m (15 + 26 * k) v) = uCounts (dc m) (upd (tCounts (dc m)) k v) := town_eq (pk_un (by omega)) (pk_un (by omega)) (pk_un (by omega)) (pk_un (by omega)) (pk_un (by omega)) (pk_un (by omega)) (fun j => if_upd (fun h => by omega)) (fun j => if_upd (fun h => by omega)) (fun j => if_same (p := fun k => k < 8) (g := fun k => 15 + 26 * k) hk (fun _ q => by omega)) (fun j => if_upd (fun h => by omega)) (fun j => if_upd (fun h => by omega)) (fun j => if_upd (fun h => by omega))
theorem dc_ord (m : Fn) {k : Nat} (hk : k < 15) (v : Int32) : dc (upd m (222 + k) v) = uOrd (dc m) (upd (tOrd (dc m)) k v) := town_eq (pk_un (by omega)) (pk_un (by omega)) (pk_un (by omega)) (pk_un (by omega)) (pk_un (by omega)) (pk_un (by omega)) (fun j => if_upd (fun h => by omega)) (fun j => if_upd (fun h => by omega)) (fun j => if_upd (fun h => by omega)) (fun j => if_upd (fun h => by omega)) (fun j => if_same (p := fun k => k < 15) (g := fun k => 222 + k) hk (fun _ q => by omega)) (fun j => if_upd (fun h => by omega))
theorem dc_spots (m : Fn) {k : Nat} (hk : k < 10) (v : Int32) : dc (upd m (237 + k) v) = uSpots (dc m) (upd (tSpots (dc m)) k v) := town_eq (pk_un (by omega)) (pk_un (by omega)) (pk_un (by omega)) (pk_un (by omega)) (pk_un (by omega)) (pk_un (by omega)) (fun j => if_upd (fun h => by omega)) (fun j => if_upd (fun h => by omega)) (fun j => if_upd (fun h => by omega)) (fun j => if_upd (fun h => by omega)) (fun j => if_upd (fun h => by omega)) (fun j => if_same (p := fun k => k < 10) (g := fun k => 237 + k) hk (fun _ q => by omega))
theorem dc_nums (m : Fn) {k t r : Nat} (ht : t < 8) (hr : r < 24) (hk : k = t * 24 + r) (v : Int32) : dc (upd m (16 + 26 * t + r) v) = uNums (dc m) (upd (tNums (dc m)) k v) := town_eq (pk_un (by omega)) (pk_un (by omega)) (pk_un (by omega)) (pk_un (by omega)) (pk_un (by omega)) (pk_un (by omega)) (fun j => if_upd (fun h => by omega)) (fun j => if_upd (fun h => by omega)) (fun j => if_upd (fun h => by omega)) (fun j => by
    have := if_same (p := fun k => k < 192) (m := m) (g := fun k => 16 + 26 * (k / 24) + k % 24) (k := k) (j := j) (v := v) (show k < 192 by omega) (fun _ q => by omega)
    have e : 16 + 26 * (k / 24) + k % 24 = 16 + 26 * t + r := by omega
    simp only [e] at this
    exact this) (fun j => if_upd (fun h => by omega)) (fun j => if_upd (fun h => by omega))
/-- a town that changes, on both sides -/
theorem Rel.town {σ : XS} {τ : MS} (h : Rel σ τ) {T : TownS} {m : Fn} (e : T = dc m) (ok : tOk (dc m)) : Rel (sT σ T) (mu_m τ m) := ⟨e, ok, h.2.2⟩
/-! a finding, counted on both sides -/
def fdX (u : XS) (n : Nat) : XS := sF u (upd (xF u) n (xF u n + 1))
def fdM (u : MS) (n : Nat) : MS := mu_found u (upd (m_found u) n (m_found u n + 1))
theorem Rel.fd {σ : XS} {τ : MS} (h : Rel σ τ) {n : Nat} (hn : n < 7) : Rel (fdX σ n) (fdM τ n) := by
  obtain ⟨h1, h2, h3, h4, h5, h6, h7, h8, h9⟩ := h
  refine ⟨h1, h2, h3, h4, h5, h6, h7, ?_, h9⟩
  intro k hk
  show upd (xF σ) n (xF σ n + 1) k = upd (m_found τ) n (m_found τ n + 1) k
  unfold upd
  by_cases e : k = n
  · simp only [e, if_true]; rw [h8 n hn]
  · simp only [e, if_false]; exact h8 k hk
theorem fx_0 (u : XS) : f_X6_found 0 u = some (-1000001, fdX u 0) := by
  unfold f_X6_found
  simp only [w_in, bnd_some, nmv]
  rfl
theorem fx_1 (u : XS) : f_X6_found 1 u = some (-1000002, fdX u 1) := by
  unfold f_X6_found
  simp only [w_in, bnd_some, nmv]
  rfl
theorem fx_2 (u : XS) : f_X6_found 2 u = some (-1000003, fdX u 2) := by
  unfold f_X6_found
  simp only [w_in, bnd_some, nmv]
  rfl
theorem fx_3 (u : XS) : f_X6_found 3 u = some (-1000004, fdX u 3) := by
  unfold f_X6_found
  simp only [w_in, bnd_some, nmv]
  rfl
theorem fx_5 (u : XS) : f_X6_found 5 u = some (-1000006, fdX u 5) := by
  unfold f_X6_found
  simp only [w_in, bnd_some, nmv]
  rfl
theorem fx_6 (u : XS) : f_X6_found 6 u = some (-1000007, fdX u 6) := by
  unfold f_X6_found
  simp only [w_in, bnd_some, nmv]
  rfl
theorem fm_0 (u : MS) : f_X7_finds (-1000001) u = some (-1000001, fdM u 0) := rfl
theorem fm_1 (u : MS) : f_X7_finds (-1000002) u = some (-1000002, fdM u 1) := rfl
theorem fm_2 (u : MS) : f_X7_finds (-1000003) u = some (-1000003, fdM u 2) := rfl
theorem fm_3 (u : MS) : f_X7_finds (-1000004) u = some (-1000004, fdM u 3) := rfl
theorem fm_5 (u : MS) : f_X7_finds (-1000006) u = some (-1000006, fdM u 5) := rfl
theorem fm_6 (u : MS) : f_X7_finds (-1000007) u = some (-1000007, fdM u 6) := rfl
/-- what a call of both has to show -/
def Op (x : Option (Int32 × XS)) (y : Option (Int32 × MS)) : Prop := ∃ r σ τ, x = some (r, σ) ∧ y = some (r, τ) ∧ Rel σ τ
theorem Op.mk' {r : Int32} {σ : XS} {τ : MS} (h : Rel σ τ) : Op (some (r, σ)) (some (r, τ)) := ⟨r, σ, τ, rfl, rfl, h⟩
theorem Op.mk2 {r r' : Int32} {σ : XS} {τ : MS} (e : r = r') (h : Rel σ τ) : Op (some (r, σ)) (some (r', τ)) := ⟨r, σ, τ, rfl, by rw [e], h⟩
/-- a loop that ends at its pass b -/
theorem wl_for {S E : Type} {step : S → Option (S ⊕ E)} (F : Nat → S) (b : Nat) {e : E} (hs : ∀ i, i < b → step (F i) = some (.inl (F (i + 1)))) (he : step (F b) = some (.inr e)) : wl step (F 0) = some e := by
  have key : ∀ n i, i + n = b → wl step (F i) = some e := by
    intro n
    induction n with
    | zero => intro i hi; have : i = b := by omega
              subst this; exact wl_out he
    | succ n ih => intro i hi; rw [wl_in (hs i (by omega))]; exact ih (i + 1) (by omega)
  exact key b 0 (by omega)
theorem bne_in {α β γ : Type} {a : α} {f : α → Option γ} {g : β → Option γ} : bne (some (.inl a)) f g = f a := rfl
theorem bne_out {α β γ : Type} {b : β} {f : α → Option γ} {g : β → Option γ} : bne (some (.inr b)) f g = g b := rfl
