/-! ints as whole numbers -/
theorem i_lt (a b : Int32) : a < b ↔ a.toInt < b.toInt := Int32.lt_iff_toInt_lt
theorem i_le (a b : Int32) : a ≤ b ↔ a.toInt ≤ b.toInt := Int32.le_iff_toInt_le
theorem i_eq (a b : Int32) : a = b ↔ a.toInt = b.toInt := Int32.toInt_inj.symm
theorem i_rng (x : Int32) : -2147483648 ≤ x.toInt ∧ x.toInt < 2147483648 := ⟨by have := Int32.le_toInt x; omega, by have := Int32.toInt_lt x; omega⟩
theorem i_bm {z : Int} (h1 : -2147483648 ≤ z) (h2 : z < 2147483648) : z.bmod 4294967296 = z := by
  rw [Int.bmod_eq_of_le] <;> omega
theorem i_add {x y : Int32} (h1 : -2147483648 ≤ x.toInt + y.toInt) (h2 : x.toInt + y.toInt < 2147483648) : (x + y).toInt = x.toInt + y.toInt := by
  rw [Int32.toInt_add]; exact i_bm h1 h2
theorem i_sub {x y : Int32} (h1 : -2147483648 ≤ x.toInt - y.toInt) (h2 : x.toInt - y.toInt < 2147483648) : (x - y).toInt = x.toInt - y.toInt := by
  rw [Int32.toInt_sub]; exact i_bm h1 h2
theorem i_mul {x y : Int32} (h1 : -2147483648 ≤ x.toInt * y.toInt) (h2 : x.toInt * y.toInt < 2147483648) : (x * y).toInt = x.toInt * y.toInt := by
  rw [Int32.toInt_mul]; exact i_bm h1 h2
theorem i_cl {x : Int32} (h : 0 ≤ x.toInt) : (x.toNatClampNeg : Int) = x.toInt := by
  show ((x.toInt.toNat : Nat) : Int) = x.toInt
  omega
theorem i_clE (x : Int32) : x.toNatClampNeg = x.toInt.toNat := rfl
theorem i_nI {n : Nat} (h : n < 2147483648) : (nI n).toInt = n := nI_toInt (by omega)
theorem i_of {x : Int32} (h : 0 ≤ x.toInt) : x = nI x.toNatClampNeg := by
  rw [i_eq, i_nI (by have := i_rng x; have := i_cl h; omega), i_cl h]
theorem i_ex {x : Int32} (h : 0 ≤ x.toInt) : ∃ n : Nat, x = nI n ∧ (n : Int) = x.toInt ∧ n < 2147483648 := ⟨x.toNatClampNeg, i_of h, i_cl h, by have := i_rng x; have := i_cl h; omega⟩
/-- a check of an index that holds -/
theorem ck_ok {α : Type} {x : Int32} {n : Nat} {y : Option α} (h0 : 0 ≤ x.toInt) (h1 : x.toInt < n) : (if x < 0 ∨ n ≤ x.toNatClampNeg then none else y) = y := by
  rw [if_neg]
  rintro (h | h)
  · rw [i_lt] at h; simp at h; omega
  · have := i_cl h0; omega
theorem ck_nz {α : Type} {x : Int32} {y : Option α} (h : x.toInt ≠ 0) : (if x = 0 then none else y) = y := by
  rw [if_neg]
  intro e; rw [i_eq] at e; simp at e; omega
theorem ck_z01 {α : Type} {P : Prop} [Decidable P] {y : Option α} : (if ¬ ((if P then (1 : Int32) else 0) = 0 ∨ (if P then (1 : Int32) else 0) = 1) then none else y) = y := by
  rw [if_neg]
  by_cases h : P <;> simp [h]
theorem ite01 {P : Prop} [Decidable P] : ((if P then (1 : Int32) else 0) = 0) = ¬ P := by
  by_cases h : P <;> simp [h]
theorem ite01' {P : Prop} [Decidable P] : ((if P then (1 : Int32) else 0) = 1) = P := by
  by_cases h : P <;> simp [h]
theorem l0 : (0 : Int32).toNatClampNeg = 0 := rfl
theorem l1 : (1 : Int32).toNatClampNeg = 1 := rfl
theorem l2 : (2 : Int32).toNatClampNeg = 2 := rfl
theorem l3 : (3 : Int32).toNatClampNeg = 3 := rfl
theorem l4 : (4 : Int32).toNatClampNeg = 4 := rfl
theorem l5 : (5 : Int32).toNatClampNeg = 5 := rfl
theorem l6 : (6 : Int32).toNatClampNeg = 6 := rfl
theorem l8 : (8 : Int32).toNatClampNeg = 8 := rfl
theorem l10 : (10 : Int32).toNatClampNeg = 10 := rfl
theorem l15 : (15 : Int32).toNatClampNeg = 15 := rfl
theorem l192 : (192 : Int32).toNatClampNeg = 192 := rfl
/-! what both sides ask of a number: whether it is within -/
theorem w_in (a b c : Int32) (u : XS) : f_X6_within a b c u = some (if b.toInt ≤ a.toInt ∧ a.toInt ≤ c.toInt then 1 else 0, u) := by
  unfold f_X6_within
  by_cases h1 : a < b
  · rw [if_pos h1, if_neg]; rw [i_lt] at h1; omega
  · rw [if_neg h1]
    by_cases h2 : c < a
    · rw [if_pos h2, if_neg]; rw [i_lt] at h2; omega
    · rw [if_neg h2, if_pos]; rw [i_lt] at h1 h2; omega
theorem lg_neg (a b : Int64) : lg_cmp a b < 0 ↔ a.toInt < b.toInt := by
  unfold lg_cmp
  rw [← Int64.lt_iff_toInt_lt]
  by_cases h1 : b < a
  · have : ¬ a < b := by rw [Int64.lt_iff_toInt_lt] at *; omega
    simp [h1, this]
  · by_cases h2 : a = b
    · subst h2; simp
    · have : a < b := by
        rw [Int64.lt_iff_toInt_lt] at *
        have : a.toInt ≠ b.toInt := fun e => h2 (Int64.toInt_inj.mp e)
        omega
      simp [h1, h2, this]
theorem lg_pos (a b : Int64) : 0 < lg_cmp a b ↔ b.toInt < a.toInt := by
  unfold lg_cmp
  rw [← Int64.lt_iff_toInt_lt]
  by_cases h1 : b < a
  · simp [h1]
  · by_cases h2 : a = b
    · subst h2; simp
    · simp [h1, h2]
theorem m_in (a b c : Int64) (u : MS) : f_X7_in a b c u = some (if b.toInt ≤ a.toInt ∧ a.toInt ≤ c.toInt then 1 else 0, u) := by
  unfold f_X7_in
  simp only [lg_neg, lg_pos]
  by_cases h1 : a.toInt < b.toInt
  · rw [if_pos h1, if_neg]; omega
  · rw [if_neg h1]
    by_cases h2 : c.toInt < a.toInt
    · rw [if_pos h2, if_neg]; omega
    · rw [if_neg h2, if_pos]; omega
theorem xT_sT (u : XS) (T : TownS) : xT (sT u T) = T := rfl
theorem sT_sT (u : XS) (T T' : TownS) : sT (sT u T) T' = sT u T' := rfl
theorem mm_mu (u : MS) (f : Fn) : m_m (mu_m u f) = f := rfl
theorem mu_mu (u : MS) (f g : Fn) : mu_m (mu_m u f) g = mu_m u g := rfl
theorem tu_Round_Round (T : TownS) (v : Int32) : tRound (uRound T v) = v := rfl
theorem tu_Round_Near (T : TownS) (v : Int32) : tRound (uNear T v) = tRound T := rfl
theorem tu_Round_Z (T : TownS) (v : Int32) : tRound (uZ T v) = tRound T := rfl
theorem tu_Round_Tools (T : TownS) (v : Int32) : tRound (uTools T v) = tRound T := rfl
theorem tu_Round_Things (T : TownS) (v : Int32) : tRound (uThings T v) = tRound T := rfl
theorem tu_Round_Orders (T : TownS) (v : Int32) : tRound (uOrders T v) = tRound T := rfl
theorem tu_Round_Days (T : TownS) (v : Fn) : tRound (uDays T v) = tRound T := rfl
theorem tu_Round_Kinds (T : TownS) (v : Fn) : tRound (uKinds T v) = tRound T := rfl
theorem tu_Round_Counts (T : TownS) (v : Fn) : tRound (uCounts T v) = tRound T := rfl
theorem tu_Round_Nums (T : TownS) (v : Fn) : tRound (uNums T v) = tRound T := rfl
theorem tu_Round_Ord (T : TownS) (v : Fn) : tRound (uOrd T v) = tRound T := rfl
theorem tu_Round_Spots (T : TownS) (v : Fn) : tRound (uSpots T v) = tRound T := rfl
theorem tu_Near_Round (T : TownS) (v : Int32) : tNear (uRound T v) = tNear T := rfl
theorem tu_Near_Near (T : TownS) (v : Int32) : tNear (uNear T v) = v := rfl
theorem tu_Near_Z (T : TownS) (v : Int32) : tNear (uZ T v) = tNear T := rfl
theorem tu_Near_Tools (T : TownS) (v : Int32) : tNear (uTools T v) = tNear T := rfl
theorem tu_Near_Things (T : TownS) (v : Int32) : tNear (uThings T v) = tNear T := rfl
theorem tu_Near_Orders (T : TownS) (v : Int32) : tNear (uOrders T v) = tNear T := rfl
theorem tu_Near_Days (T : TownS) (v : Fn) : tNear (uDays T v) = tNear T := rfl
theorem tu_Near_Kinds (T : TownS) (v : Fn) : tNear (uKinds T v) = tNear T := rfl
theorem tu_Near_Counts (T : TownS) (v : Fn) : tNear (uCounts T v) = tNear T := rfl
theorem tu_Near_Nums (T : TownS) (v : Fn) : tNear (uNums T v) = tNear T := rfl
theorem tu_Near_Ord (T : TownS) (v : Fn) : tNear (uOrd T v) = tNear T := rfl
theorem tu_Near_Spots (T : TownS) (v : Fn) : tNear (uSpots T v) = tNear T := rfl
theorem tu_Z_Round (T : TownS) (v : Int32) : tZ (uRound T v) = tZ T := rfl
theorem tu_Z_Near (T : TownS) (v : Int32) : tZ (uNear T v) = tZ T := rfl
theorem tu_Z_Z (T : TownS) (v : Int32) : tZ (uZ T v) = v := rfl
theorem tu_Z_Tools (T : TownS) (v : Int32) : tZ (uTools T v) = tZ T := rfl
theorem tu_Z_Things (T : TownS) (v : Int32) : tZ (uThings T v) = tZ T := rfl
theorem tu_Z_Orders (T : TownS) (v : Int32) : tZ (uOrders T v) = tZ T := rfl
theorem tu_Z_Days (T : TownS) (v : Fn) : tZ (uDays T v) = tZ T := rfl
theorem tu_Z_Kinds (T : TownS) (v : Fn) : tZ (uKinds T v) = tZ T := rfl
theorem tu_Z_Counts (T : TownS) (v : Fn) : tZ (uCounts T v) = tZ T := rfl
theorem tu_Z_Nums (T : TownS) (v : Fn) : tZ (uNums T v) = tZ T := rfl
theorem tu_Z_Ord (T : TownS) (v : Fn) : tZ (uOrd T v) = tZ T := rfl
theorem tu_Z_Spots (T : TownS) (v : Fn) : tZ (uSpots T v) = tZ T := rfl
theorem tu_Tools_Round (T : TownS) (v : Int32) : tTools (uRound T v) = tTools T := rfl
theorem tu_Tools_Near (T : TownS) (v : Int32) : tTools (uNear T v) = tTools T := rfl
theorem tu_Tools_Z (T : TownS) (v : Int32) : tTools (uZ T v) = tTools T := rfl
theorem tu_Tools_Tools (T : TownS) (v : Int32) : tTools (uTools T v) = v := rfl
theorem tu_Tools_Things (T : TownS) (v : Int32) : tTools (uThings T v) = tTools T := rfl
theorem tu_Tools_Orders (T : TownS) (v : Int32) : tTools (uOrders T v) = tTools T := rfl
theorem tu_Tools_Days (T : TownS) (v : Fn) : tTools (uDays T v) = tTools T := rfl
theorem tu_Tools_Kinds (T : TownS) (v : Fn) : tTools (uKinds T v) = tTools T := rfl
theorem tu_Tools_Counts (T : TownS) (v : Fn) : tTools (uCounts T v) = tTools T := rfl
theorem tu_Tools_Nums (T : TownS) (v : Fn) : tTools (uNums T v) = tTools T := rfl
theorem tu_Tools_Ord (T : TownS) (v : Fn) : tTools (uOrd T v) = tTools T := rfl
theorem tu_Tools_Spots (T : TownS) (v : Fn) : tTools (uSpots T v) = tTools T := rfl
theorem tu_Things_Round (T : TownS) (v : Int32) : tThings (uRound T v) = tThings T := rfl
theorem tu_Things_Near (T : TownS) (v : Int32) : tThings (uNear T v) = tThings T := rfl
theorem tu_Things_Z (T : TownS) (v : Int32) : tThings (uZ T v) = tThings T := rfl
theorem tu_Things_Tools (T : TownS) (v : Int32) : tThings (uTools T v) = tThings T := rfl
theorem tu_Things_Things (T : TownS) (v : Int32) : tThings (uThings T v) = v := rfl
theorem tu_Things_Orders (T : TownS) (v : Int32) : tThings (uOrders T v) = tThings T := rfl
theorem tu_Things_Days (T : TownS) (v : Fn) : tThings (uDays T v) = tThings T := rfl
theorem tu_Things_Kinds (T : TownS) (v : Fn) : tThings (uKinds T v) = tThings T := rfl
theorem tu_Things_Counts (T : TownS) (v : Fn) : tThings (uCounts T v) = tThings T := rfl
theorem tu_Things_Nums (T : TownS) (v : Fn) : tThings (uNums T v) = tThings T := rfl
theorem tu_Things_Ord (T : TownS) (v : Fn) : tThings (uOrd T v) = tThings T := rfl
theorem tu_Things_Spots (T : TownS) (v : Fn) : tThings (uSpots T v) = tThings T := rfl
theorem tu_Orders_Round (T : TownS) (v : Int32) : tOrders (uRound T v) = tOrders T := rfl
theorem tu_Orders_Near (T : TownS) (v : Int32) : tOrders (uNear T v) = tOrders T := rfl
theorem tu_Orders_Z (T : TownS) (v : Int32) : tOrders (uZ T v) = tOrders T := rfl
theorem tu_Orders_Tools (T : TownS) (v : Int32) : tOrders (uTools T v) = tOrders T := rfl
theorem tu_Orders_Things (T : TownS) (v : Int32) : tOrders (uThings T v) = tOrders T := rfl
theorem tu_Orders_Orders (T : TownS) (v : Int32) : tOrders (uOrders T v) = v := rfl
theorem tu_Orders_Days (T : TownS) (v : Fn) : tOrders (uDays T v) = tOrders T := rfl
theorem tu_Orders_Kinds (T : TownS) (v : Fn) : tOrders (uKinds T v) = tOrders T := rfl
theorem tu_Orders_Counts (T : TownS) (v : Fn) : tOrders (uCounts T v) = tOrders T := rfl
theorem tu_Orders_Nums (T : TownS) (v : Fn) : tOrders (uNums T v) = tOrders T := rfl
theorem tu_Orders_Ord (T : TownS) (v : Fn) : tOrders (uOrd T v) = tOrders T := rfl
theorem tu_Orders_Spots (T : TownS) (v : Fn) : tOrders (uSpots T v) = tOrders T := rfl
theorem tu_Days_Round (T : TownS) (v : Int32) : tDays (uRound T v) = tDays T := rfl
theorem tu_Days_Near (T : TownS) (v : Int32) : tDays (uNear T v) = tDays T := rfl
theorem tu_Days_Z (T : TownS) (v : Int32) : tDays (uZ T v) = tDays T := rfl
theorem tu_Days_Tools (T : TownS) (v : Int32) : tDays (uTools T v) = tDays T := rfl
theorem tu_Days_Things (T : TownS) (v : Int32) : tDays (uThings T v) = tDays T := rfl
theorem tu_Days_Orders (T : TownS) (v : Int32) : tDays (uOrders T v) = tDays T := rfl
theorem tu_Days_Days (T : TownS) (v : Fn) : tDays (uDays T v) = v := rfl
theorem tu_Days_Kinds (T : TownS) (v : Fn) : tDays (uKinds T v) = tDays T := rfl
theorem tu_Days_Counts (T : TownS) (v : Fn) : tDays (uCounts T v) = tDays T := rfl
theorem tu_Days_Nums (T : TownS) (v : Fn) : tDays (uNums T v) = tDays T := rfl
theorem tu_Days_Ord (T : TownS) (v : Fn) : tDays (uOrd T v) = tDays T := rfl
theorem tu_Days_Spots (T : TownS) (v : Fn) : tDays (uSpots T v) = tDays T := rfl
theorem tu_Kinds_Round (T : TownS) (v : Int32) : tKinds (uRound T v) = tKinds T := rfl
theorem tu_Kinds_Near (T : TownS) (v : Int32) : tKinds (uNear T v) = tKinds T := rfl
theorem tu_Kinds_Z (T : TownS) (v : Int32) : tKinds (uZ T v) = tKinds T := rfl
theorem tu_Kinds_Tools (T : TownS) (v : Int32) : tKinds (uTools T v) = tKinds T := rfl
theorem tu_Kinds_Things (T : TownS) (v : Int32) : tKinds (uThings T v) = tKinds T := rfl
theorem tu_Kinds_Orders (T : TownS) (v : Int32) : tKinds (uOrders T v) = tKinds T := rfl
theorem tu_Kinds_Days (T : TownS) (v : Fn) : tKinds (uDays T v) = tKinds T := rfl
theorem tu_Kinds_Kinds (T : TownS) (v : Fn) : tKinds (uKinds T v) = v := rfl
theorem tu_Kinds_Counts (T : TownS) (v : Fn) : tKinds (uCounts T v) = tKinds T := rfl
theorem tu_Kinds_Nums (T : TownS) (v : Fn) : tKinds (uNums T v) = tKinds T := rfl
theorem tu_Kinds_Ord (T : TownS) (v : Fn) : tKinds (uOrd T v) = tKinds T := rfl
theorem tu_Kinds_Spots (T : TownS) (v : Fn) : tKinds (uSpots T v) = tKinds T := rfl
theorem tu_Counts_Round (T : TownS) (v : Int32) : tCounts (uRound T v) = tCounts T := rfl
theorem tu_Counts_Near (T : TownS) (v : Int32) : tCounts (uNear T v) = tCounts T := rfl
theorem tu_Counts_Z (T : TownS) (v : Int32) : tCounts (uZ T v) = tCounts T := rfl
theorem tu_Counts_Tools (T : TownS) (v : Int32) : tCounts (uTools T v) = tCounts T := rfl
theorem tu_Counts_Things (T : TownS) (v : Int32) : tCounts (uThings T v) = tCounts T := rfl
theorem tu_Counts_Orders (T : TownS) (v : Int32) : tCounts (uOrders T v) = tCounts T := rfl
theorem tu_Counts_Days (T : TownS) (v : Fn) : tCounts (uDays T v) = tCounts T := rfl
theorem tu_Counts_Kinds (T : TownS) (v : Fn) : tCounts (uKinds T v) = tCounts T := rfl
theorem tu_Counts_Counts (T : TownS) (v : Fn) : tCounts (uCounts T v) = v := rfl
theorem tu_Counts_Nums (T : TownS) (v : Fn) : tCounts (uNums T v) = tCounts T := rfl
theorem tu_Counts_Ord (T : TownS) (v : Fn) : tCounts (uOrd T v) = tCounts T := rfl
theorem tu_Counts_Spots (T : TownS) (v : Fn) : tCounts (uSpots T v) = tCounts T := rfl
theorem tu_Nums_Round (T : TownS) (v : Int32) : tNums (uRound T v) = tNums T := rfl
theorem tu_Nums_Near (T : TownS) (v : Int32) : tNums (uNear T v) = tNums T := rfl
theorem tu_Nums_Z (T : TownS) (v : Int32) : tNums (uZ T v) = tNums T := rfl
theorem tu_Nums_Tools (T : TownS) (v : Int32) : tNums (uTools T v) = tNums T := rfl
theorem tu_Nums_Things (T : TownS) (v : Int32) : tNums (uThings T v) = tNums T := rfl
theorem tu_Nums_Orders (T : TownS) (v : Int32) : tNums (uOrders T v) = tNums T := rfl
theorem tu_Nums_Days (T : TownS) (v : Fn) : tNums (uDays T v) = tNums T := rfl
theorem tu_Nums_Kinds (T : TownS) (v : Fn) : tNums (uKinds T v) = tNums T := rfl
theorem tu_Nums_Counts (T : TownS) (v : Fn) : tNums (uCounts T v) = tNums T := rfl
theorem tu_Nums_Nums (T : TownS) (v : Fn) : tNums (uNums T v) = v := rfl
theorem tu_Nums_Ord (T : TownS) (v : Fn) : tNums (uOrd T v) = tNums T := rfl
theorem tu_Nums_Spots (T : TownS) (v : Fn) : tNums (uSpots T v) = tNums T := rfl
theorem tu_Ord_Round (T : TownS) (v : Int32) : tOrd (uRound T v) = tOrd T := rfl
theorem tu_Ord_Near (T : TownS) (v : Int32) : tOrd (uNear T v) = tOrd T := rfl
theorem tu_Ord_Z (T : TownS) (v : Int32) : tOrd (uZ T v) = tOrd T := rfl
theorem tu_Ord_Tools (T : TownS) (v : Int32) : tOrd (uTools T v) = tOrd T := rfl
theorem tu_Ord_Things (T : TownS) (v : Int32) : tOrd (uThings T v) = tOrd T := rfl
theorem tu_Ord_Orders (T : TownS) (v : Int32) : tOrd (uOrders T v) = tOrd T := rfl
theorem tu_Ord_Days (T : TownS) (v : Fn) : tOrd (uDays T v) = tOrd T := rfl
theorem tu_Ord_Kinds (T : TownS) (v : Fn) : tOrd (uKinds T v) = tOrd T := rfl
theorem tu_Ord_Counts (T : TownS) (v : Fn) : tOrd (uCounts T v) = tOrd T := rfl
theorem tu_Ord_Nums (T : TownS) (v : Fn) : tOrd (uNums T v) = tOrd T := rfl
theorem tu_Ord_Ord (T : TownS) (v : Fn) : tOrd (uOrd T v) = v := rfl
theorem tu_Ord_Spots (T : TownS) (v : Fn) : tOrd (uSpots T v) = tOrd T := rfl
theorem tu_Spots_Round (T : TownS) (v : Int32) : tSpots (uRound T v) = tSpots T := rfl
theorem tu_Spots_Near (T : TownS) (v : Int32) : tSpots (uNear T v) = tSpots T := rfl
theorem tu_Spots_Z (T : TownS) (v : Int32) : tSpots (uZ T v) = tSpots T := rfl
theorem tu_Spots_Tools (T : TownS) (v : Int32) : tSpots (uTools T v) = tSpots T := rfl
theorem tu_Spots_Things (T : TownS) (v : Int32) : tSpots (uThings T v) = tSpots T := rfl
theorem tu_Spots_Orders (T : TownS) (v : Int32) : tSpots (uOrders T v) = tSpots T := rfl
theorem tu_Spots_Days (T : TownS) (v : Fn) : tSpots (uDays T v) = tSpots T := rfl
theorem tu_Spots_Kinds (T : TownS) (v : Fn) : tSpots (uKinds T v) = tSpots T := rfl
theorem tu_Spots_Counts (T : TownS) (v : Fn) : tSpots (uCounts T v) = tSpots T := rfl
theorem tu_Spots_Nums (T : TownS) (v : Fn) : tSpots (uNums T v) = tSpots T := rfl
theorem tu_Spots_Ord (T : TownS) (v : Fn) : tSpots (uOrd T v) = tSpots T := rfl
theorem tu_Spots_Spots (T : TownS) (v : Fn) : tSpots (uSpots T v) = v := rfl
