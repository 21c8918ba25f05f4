abbrev t0 : TownS := (7, -1, 1, 0, 0, 0, zro, zro, zro, zro, zro, sp0)
abbrev x0 : XS := (t0, t0, t0, (zro, 0), zro, (zro, zro, zro, zro, zro, zro, 0, 0, 0, -1, 0, 0, 0), (0, 0, 0, 0), (fun _ => 0, fun _ => 0, fun _ => zro), zro, 0)
/-! THE START: the two objects are made alike -/
abbrev y0 : MS := (m0, zro, 0, zro, zro, 0, 0, 0, 0, 0, 0, zro, zro, zro, 0, 0, 0, zro, zro, zro)
theorem sp0_at (k : Nat) : sp0 k = if k < 10 then -1 else 0 := by
  by_cases h : k < 10
  · rw [if_pos h]
    exact (show ∀ k, k < 10 → sp0 k = -1 by decide +kernel) k h
  · rw [if_neg h]
    unfold sp0
    rw [pk_un (show k ≠ (9 : Int32).toNatClampNeg from fun q => h (by rw [q]; decide)), pk_un (show k ≠ (8 : Int32).toNatClampNeg from fun q => h (by rw [q]; decide)), pk_un (show k ≠ (7 : Int32).toNatClampNeg from fun q => h (by rw [q]; decide)), pk_un (show k ≠ (6 : Int32).toNatClampNeg from fun q => h (by rw [q]; decide)), pk_un (show k ≠ (5 : Int32).toNatClampNeg from fun q => h (by rw [q]; decide)), pk_un (show k ≠ (4 : Int32).toNatClampNeg from fun q => h (by rw [q]; decide)), pk_un (show k ≠ (3 : Int32).toNatClampNeg from fun q => h (by rw [q]; decide)), pk_un (show k ≠ (2 : Int32).toNatClampNeg from fun q => h (by rw [q]; decide)), pk_un (show k ≠ (1 : Int32).toNatClampNeg from fun q => h (by rw [q]; decide)), pk_un (show k ≠ (0 : Int32).toNatClampNeg from fun q => h (by rw [q]; decide))]
    rfl
theorem m0_in : ∀ k, k < 247 → m0 k = if k = 0 then 7 else if k = 1 then -1 else if k = 5 then 1 else if k < 237 then 0 else -1 := by decide +kernel
theorem dc_m0 : t0 = dc m0 := by
  refine town_eq ?_ ?_ ?_ ?_ ?_ ?_ (fun k => ?_) (fun k => ?_) (fun k => ?_) (fun k => ?_) (fun k => ?_) (fun k => ?_)
  · exact (m0_in 0 (by decide)).symm
  · exact (m0_in 1 (by decide)).symm
  · exact (m0_in 5 (by decide)).symm
  · exact (m0_in 2 (by decide)).symm
  · exact (m0_in 3 (by decide)).symm
  · exact (m0_in 4 (by decide)).symm
  · rw [dc_Days]
    by_cases h : k < 8
    · rw [if_pos h, m0_in _ (by omega), if_neg (by omega), if_neg (by omega), if_neg (by omega), if_pos (by omega)]; rfl
    · rw [if_neg h]; rfl
  · rw [dc_Kinds]
    by_cases h : k < 8
    · rw [if_pos h, m0_in _ (by omega), if_neg (by omega), if_neg (by omega), if_neg (by omega), if_pos (by omega)]; rfl
    · rw [if_neg h]; rfl
  · rw [dc_Counts]
    by_cases h : k < 8
    · rw [if_pos h, m0_in _ (by omega), if_neg (by omega), if_neg (by omega), if_neg (by omega), if_pos (by omega)]; rfl
    · rw [if_neg h]; rfl
  · rw [dc_Nums]
    by_cases h : k < 192
    · rw [if_pos h, m0_in _ (by omega), if_neg (by omega), if_neg (by omega), if_neg (by omega), if_pos (by omega)]; rfl
    · rw [if_neg h]; rfl
  · rw [dc_Ord]
    by_cases h : k < 15
    · rw [if_pos h, m0_in _ (by omega), if_neg (by omega), if_neg (by omega), if_neg (by omega), if_pos (by omega)]; rfl
    · rw [if_neg h]; rfl
  · rw [dc_Spots]
    show sp0 k = _
    rw [sp0_at]
    by_cases h : k < 10
    · rw [if_pos h, if_pos h, m0_in _ (by omega), if_neg (by omega), if_neg (by omega), if_neg (by omega), if_neg (by omega)]
    · rw [if_neg h, if_neg h]
theorem tOk_t0 : tOk t0 := by
  refine ⟨by decide, by decide, by decide, by decide, by decide, fun k _ => by show 0 ≤ (0 : Int32).toInt ∧ (0 : Int32).toInt ≤ 4095; decide, fun k _ => by show 0 ≤ (0 : Int32).toInt ∧ (0 : Int32).toInt ≤ 6; decide, fun t h => ?_, fun t i h _ => ?_, fun o h => ?_, fun k h => ?_⟩
  · have h : (t : Int) < (0 : Int32).toInt := h
    rw [show (0 : Int32).toInt = 0 from rfl] at h
    omega
  · have h : (t : Int) < (0 : Int32).toInt := h
    rw [show (0 : Int32).toInt = 0 from rfl] at h
    omega
  · have h : (o : Int) < (0 : Int32).toInt := h
    rw [show (0 : Int32).toInt = 0 from rfl] at h
    omega
  · show -1 ≤ (sp0 k).toInt ∧ (sp0 k).toInt < (0 : Int32).toInt
    rw [sp0_at, if_pos h]
    decide
theorem tz_t0 : tz t0 := ⟨fun _ _ => rfl, fun _ _ => rfl, fun _ _ => rfl, fun _ _ => rfl, fun _ _ => rfl, fun k h => by show sp0 k = 0; rw [sp0_at, if_neg (by omega)]⟩
theorem rel0 : Rel x0 y0 := by
  refine ⟨dc_m0, ?_, ⟨tz_t0, tz_t0⟩, ⟨rfl, Or.inl rfl⟩, fun h => absurd h (by decide), ⟨rfl, by decide, fun k _ => ⟨rfl, by show 0 ≤ (0 : Int32).toInt ∧ (0 : Int32).toInt ≤ 255; decide⟩⟩, ⟨fun j _ => ⟨rfl, Or.inl rfl, rfl, by show 0 ≤ (0 : Int32).toInt ∧ (0 : Int32).toInt ≤ 40; decide, fun _ => rfl⟩, fun j i _ _ => rfl⟩, fun k _ => rfl, ⟨by decide, fun k h => ?_, fun p _ _ => rfl⟩⟩
  · show tOk (dc m0)
    rw [← dc_m0]
    exact tOk_t0
  · have h : (k : Int) < (0 : Int32).toInt := h
    rw [show (0 : Int32).toInt = 0 from rfl] at h
    omega
