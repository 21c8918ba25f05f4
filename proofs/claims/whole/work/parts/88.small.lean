theorem dfX0 : ∀ j, j < 2 → defaultValue (tyX0 j) = vp_V [.null, .null] j := fun j hj => by
  rcases (show j = 0 ∨ j = 1 by omega) with rfl | rfl <;> rfl
theorem dfX1 : ∀ j, j < 3 → defaultValue (tyX1 j) = vp_V [.int 0, .int 0, .null] j := fun j hj => by
  rcases (show j = 0 ∨ j = 1 ∨ j = 2 by omega) with rfl | rfl | rfl <;> rfl
theorem dfX2 : ∀ j, j < 15 → defaultValue (tyX2 j) = vp_V [.null, .null, .null, .null, .null, .null, .int 0, .null, .null, .int 0, .int 0, .int 0, .int 0, .int 0, .int 0] j := fun j hj => by
  rcases (show j = 0 ∨ j = 1 ∨ j = 2 ∨ j = 3 ∨ j = 4 ∨ j = 5 ∨ j = 6 ∨ j = 7 ∨ j = 8 ∨ j = 9 ∨ j = 10 ∨ j = 11 ∨ j = 12 ∨ j = 13 ∨ j = 14 by omega) with rfl | rfl | rfl | rfl | rfl | rfl | rfl | rfl | rfl | rfl | rfl | rfl | rfl | rfl | rfl <;> rfl
theorem dfX3 : ∀ j, j < 2 → defaultValue (tyX3 j) = vp_V [.null, .int 0] j := fun j hj => by
  rcases (show j = 0 ∨ j = 1 by omega) with rfl | rfl <;> rfl
theorem dfX4 : ∀ j, j < 6 → defaultValue (tyX4 j) = vp_V [.null, .null, .int 0, .int 0, .int 0, .int 0] j := fun j hj => by
  rcases (show j = 0 ∨ j = 1 ∨ j = 2 ∨ j = 3 ∨ j = 4 ∨ j = 5 by omega) with rfl | rfl | rfl | rfl | rfl | rfl <;> rfl
theorem dfX5 : ∀ j, j < 12 → defaultValue (tyX5 j) = vp_V [.int 0, .int 0, .int 0, .int 0, .int 0, .int 0, .null, .null, .null, .null, .null, .null] j := fun j hj => by
  rcases (show j = 0 ∨ j = 1 ∨ j = 2 ∨ j = 3 ∨ j = 4 ∨ j = 5 ∨ j = 6 ∨ j = 7 ∨ j = 8 ∨ j = 9 ∨ j = 10 ∨ j = 11 by omega) with rfl | rfl | rfl | rfl | rfl | rfl | rfl | rfl | rfl | rfl | rfl | rfl <;> rfl
theorem dfX6 : ∀ j, j < 10 → defaultValue (tyX6 j) = vp_V [.null, .null, .null, .null, .null, .null, .null, .null, .null, .int 0] j := fun j hj => by
  rcases (show j = 0 ∨ j = 1 ∨ j = 2 ∨ j = 3 ∨ j = 4 ∨ j = 5 ∨ j = 6 ∨ j = 7 ∨ j = 8 ∨ j = 9 by omega) with rfl | rfl | rfl | rfl | rfl | rfl | rfl | rfl | rfl | rfl <;> rfl
theorem dfX7 : ∀ j, j < 20 → defaultValue (tyX7 j) = vp_V [.null, .null, .int 0, .null, .null, .int 0, .int 0, .int 0, .int 0, .int 0, .int 0, .null, .null, .null, .int 0, .int 0, .int 0, .null, .null, .null] j := fun j hj => by
  rcases (show j = 0 ∨ j = 1 ∨ j = 2 ∨ j = 3 ∨ j = 4 ∨ j = 5 ∨ j = 6 ∨ j = 7 ∨ j = 8 ∨ j = 9 ∨ j = 10 ∨ j = 11 ∨ j = 12 ∨ j = 13 ∨ j = 14 ∨ j = 15 ∨ j = 16 ∨ j = 17 ∨ j = 18 ∨ j = 19 by omega) with rfl | rfl | rfl | rfl | rfl | rfl | rfl | rfl | rfl | rfl | rfl | rfl | rfl | rfl | rfl | rfl | rfl | rfl | rfl | rfl <;> rfl
def sp0 : Nat → Int32 := upd (upd (upd (upd (upd (upd (upd (upd (upd (upd (zro) ((0 : Int32)).toNatClampNeg (-1 : Int32)) ((1 : Int32)).toNatClampNeg (-1 : Int32)) ((2 : Int32)).toNatClampNeg (-1 : Int32)) ((3 : Int32)).toNatClampNeg (-1 : Int32)) ((4 : Int32)).toNatClampNeg (-1 : Int32)) ((5 : Int32)).toNatClampNeg (-1 : Int32)) ((6 : Int32)).toNatClampNeg (-1 : Int32)) ((7 : Int32)).toNatClampNeg (-1 : Int32)) ((8 : Int32)).toNatClampNeg (-1 : Int32)) ((9 : Int32)).toNatClampNeg (-1 : Int32)
def m0 : Nat → Int32 := upd (upd (upd (upd (upd (upd (upd (upd (upd (upd (upd (upd (upd (zro) ((0 : Int32)).toNatClampNeg (7 : Int32)) ((1 : Int32)).toNatClampNeg (-1 : Int32)) ((5 : Int32)).toNatClampNeg (1 : Int32)) (((237 : Int32) + (0 : Int32))).toNatClampNeg (-1 : Int32)) (((237 : Int32) + (1 : Int32))).toNatClampNeg (-1 : Int32)) (((237 : Int32) + (2 : Int32))).toNatClampNeg (-1 : Int32)) (((237 : Int32) + (3 : Int32))).toNatClampNeg (-1 : Int32)) (((237 : Int32) + (4 : Int32))).toNatClampNeg (-1 : Int32)) (((237 : Int32) + (5 : Int32))).toNatClampNeg (-1 : Int32)) (((237 : Int32) + (6 : Int32))).toNatClampNeg (-1 : Int32)) (((237 : Int32) + (7 : Int32))).toNatClampNeg (-1 : Int32)) (((237 : Int32) + (8 : Int32))).toNatClampNeg (-1 : Int32)) (((237 : Int32) + (9 : Int32))).toNatClampNeg (-1 : Int32)
set_option maxHeartbeats 4000000 in
set_option maxRecDepth 100000 in
theorem i_X5 (l : Launch) (D : va_G) (cI cZ cQ : ClassId) (adK adV : Nat → Nat) (A : Nat → Prop) (h0 : Nat) : MC l D cI cZ cQ adK adV A yX5_init cX5_init 2 { frames := 1, cells := 6, slots := 241, locals := 40 } [.ref h0] [(h0, .inr (5, [.int 0, .int 0, .int 0, .int 0, .int 0, .int 0, .null, .null, .null, .null, .null, .null]))] (fun a => [(h0, .inr (5, [.int (7 : Int32), .int (-1 : Int32), .int (1 : Int32), .int (0 : Int32), .int (0 : Int32), .int (0 : Int32), .ref (a 0), .ref (a 1), .ref (a 2), .ref (a 3), .ref (a 4), .ref (a 5)])),
    ((a 0), .inl (cI, 8, .inl (zro))),
    ((a 1), .inl (cI, 8, .inl (zro))),
    ((a 2), .inl (cI, 8, .inl (zro))),
    ((a 3), .inl (cI, 192, .inl (zro))),
    ((a 4), .inl (cI, 15, .inl (zro))),
    ((a 5), .inl (cI, 10, .inl (sp0)))]) 6 241 := by
  refine entC (by decide) rfl (Nat.le_of_ble_eq_true rfl) ?_
  intro p e s m below meth c ls X hin2 K hA hO G hl
  have hx := X.1
  have hb := X.2.1
  refine lv_aload_n hx hb dX5_init_0 rfl (lv_at hl 0 rfl) ?_
  refine obC X hl.1 q_100 (wA 93 (by decide +kernel) rfl) (wA 94 (by decide +kernel) rfl) (by decide) (by decide) dX5_init_1 ?_
  refine lv_aload_n hx hb dX5_init_4 rfl (lv_at hl 0 rfl) ?_
  refine lv_bipush (v := 7) hx hb dX5_init_5 (by decide) ?_
  refine pfld X K G 0 rfl rfl inX5 tyX5 tyX5_ok nmX5 0 (by decide) q_101 ⟨rfl, rfl, rfl⟩ rfl (ty := .int) rfl rfl rfl (Nat.le_of_ble_eq_true rfl) rfl dX5_init_7 (fun H locs G => ?_)
  have G : wg D A s.heap H locs [(h0, .inr (5, [.int (7 : Int32), .int 0, .int 0, .int 0, .int 0, .int 0, .null, .null, .null, .null, .null, .null]))] := G
  refine lv_aload_n hx hb dX5_init_10 rfl (lv_at hl 0 rfl) ?_
  refine lv_iconst (v := -1) hx hb dX5_init_11 (by decide) ?_
  refine pfld X K G 0 rfl rfl inX5 tyX5 tyX5_ok nmX5 1 (by decide) q_106 ⟨rfl, rfl, rfl⟩ rfl (ty := .int) rfl rfl rfl (Nat.le_of_ble_eq_true rfl) rfl dX5_init_12 (fun H locs G => ?_)
  have G : wg D A s.heap H locs [(h0, .inr (5, [.int (7 : Int32), .int (-1 : Int32), .int 0, .int 0, .int 0, .int 0, .null, .null, .null, .null, .null, .null]))] := G
  refine lv_aload_n hx hb dX5_init_15 rfl (lv_at hl 0 rfl) ?_
  refine lv_iconst (v := 1) hx hb dX5_init_16 (by decide) ?_
  refine pfld X K G 0 rfl rfl inX5 tyX5 tyX5_ok nmX5 2 (by decide) q_110 ⟨rfl, rfl, rfl⟩ rfl (ty := .int) rfl rfl rfl (Nat.le_of_ble_eq_true rfl) rfl dX5_init_17 (fun H locs G => ?_)
  have G : wg D A s.heap H locs [(h0, .inr (5, [.int (7 : Int32), .int (-1 : Int32), .int (1 : Int32), .int 0, .int 0, .int 0, .null, .null, .null, .null, .null, .null]))] := G
  refine lv_aload_n hx hb dX5_init_20 rfl (lv_at hl 0 rfl) ?_
  refine lv_iconst (v := 0) hx hb dX5_init_21 (by decide) ?_
  refine pfld X K G 0 rfl rfl inX5 tyX5 tyX5_ok nmX5 3 (by decide) q_112 ⟨rfl, rfl, rfl⟩ rfl (ty := .int) rfl rfl rfl (Nat.le_of_ble_eq_true rfl) rfl dX5_init_22 (fun H locs G => ?_)
  have G : wg D A s.heap H locs [(h0, .inr (5, [.int (7 : Int32), .int (-1 : Int32), .int (1 : Int32), .int (0 : Int32), .int 0, .int 0, .null, .null, .null, .null, .null, .null]))] := G
  refine lv_aload_n hx hb dX5_init_25 rfl (lv_at hl 0 rfl) ?_
  refine lv_iconst (v := 0) hx hb dX5_init_26 (by decide) ?_
  refine pfld X K G 0 rfl rfl inX5 tyX5 tyX5_ok nmX5 4 (by decide) q_115 ⟨rfl, rfl, rfl⟩ rfl (ty := .int) rfl rfl rfl (Nat.le_of_ble_eq_true rfl) rfl dX5_init_27 (fun H locs G => ?_)
  have G : wg D A s.heap H locs [(h0, .inr (5, [.int (7 : Int32), .int (-1 : Int32), .int (1 : Int32), .int (0 : Int32), .int (0 : Int32), .int 0, .null, .null, .null, .null, .null, .null]))] := G
  refine lv_aload_n hx hb dX5_init_30 rfl (lv_at hl 0 rfl) ?_
  refine lv_iconst (v := 0) hx hb dX5_init_31 (by decide) ?_
  refine pfld X K G 0 rfl rfl inX5 tyX5 tyX5_ok nmX5 5 (by decide) q_118 ⟨rfl, rfl, rfl⟩ rfl (ty := .int) rfl rfl rfl (Nat.le_of_ble_eq_true rfl) rfl dX5_init_32 (fun H locs G => ?_)
  have G : wg D A s.heap H locs [(h0, .inr (5, [.int (7 : Int32), .int (-1 : Int32), .int (1 : Int32), .int (0 : Int32), .int (0 : Int32), .int (0 : Int32), .null, .null, .null, .null, .null, .null]))] := G
  refine lv_aload_n hx hb dX5_init_35 rfl (lv_at hl 0 rfl) ?_
  refine lv_bipush (v := 8) hx hb dX5_init_36 (by decide) ?_
  refine niC X K hA G (wA 161 (by decide +kernel) rfl) (N := 8) (c2 := 1) (s2 := 8) (by decide) (by decide) (by decide) rfl rfl ⟨by decide, by decide⟩ dX5_init_38 (fun q1 H G => ?_)
  have G : wg D A s.heap H locs [(h0, .inr (5, [.int (7 : Int32), .int (-1 : Int32), .int (1 : Int32), .int (0 : Int32), .int (0 : Int32), .int (0 : Int32), .null, .null, .null, .null, .null, .null])),
      (q1, .inl (cI, 8, .inl (zro)))] := G
  refine pfin X hin2 K G 0 rfl rfl inX5 tyX5 tyX5_ok nmX5 6 (by decide) q_122 ⟨rfl, rfl, rfl⟩ rfl rfl (ty := (.array .int)) rfl rfl rfl (Nat.le_of_ble_eq_true rfl) dX5_init_40 (fun H locs G => ?_)
  have G : wg D A s.heap H locs [(h0, .inr (5, [.int (7 : Int32), .int (-1 : Int32), .int (1 : Int32), .int (0 : Int32), .int (0 : Int32), .int (0 : Int32), .ref q1, .null, .null, .null, .null, .null])),
      (q1, .inl (cI, 8, .inl (zro)))] := G
  refine lv_aload_n hx hb dX5_init_43 rfl (lv_at hl 0 rfl) ?_
  refine lv_bipush (v := 8) hx hb dX5_init_44 (by decide) ?_
  refine niC X K hA G (wA 161 (by decide +kernel) rfl) (N := 8) (c2 := 2) (s2 := 16) (by decide) (by decide) (by decide) rfl rfl ⟨by decide, by decide⟩ dX5_init_46 (fun q2 H G => ?_)
  have G : wg D A s.heap H locs [(h0, .inr (5, [.int (7 : Int32), .int (-1 : Int32), .int (1 : Int32), .int (0 : Int32), .int (0 : Int32), .int (0 : Int32), .ref q1, .null, .null, .null, .null, .null])),
      (q1, .inl (cI, 8, .inl (zro))),
      (q2, .inl (cI, 8, .inl (zro)))] := G
  refine pfin X hin2 K G 0 rfl rfl inX5 tyX5 tyX5_ok nmX5 7 (by decide) q_125 ⟨rfl, rfl, rfl⟩ rfl rfl (ty := (.array .int)) rfl rfl rfl (Nat.le_of_ble_eq_true rfl) dX5_init_48 (fun H locs G => ?_)
  have G : wg D A s.heap H locs [(h0, .inr (5, [.int (7 : Int32), .int (-1 : Int32), .int (1 : Int32), .int (0 : Int32), .int (0 : Int32), .int (0 : Int32), .ref q1, .ref q2, .null, .null, .null, .null])),
      (q1, .inl (cI, 8, .inl (zro))),
      (q2, .inl (cI, 8, .inl (zro)))] := G
  refine lv_aload_n hx hb dX5_init_51 rfl (lv_at hl 0 rfl) ?_
  refine lv_bipush (v := 8) hx hb dX5_init_52 (by decide) ?_
  refine niC X K hA G (wA 161 (by decide +kernel) rfl) (N := 8) (c2 := 3) (s2 := 24) (by decide) (by decide) (by decide) rfl rfl ⟨by decide, by decide⟩ dX5_init_54 (fun q3 H G => ?_)
  have G : wg D A s.heap H locs [(h0, .inr (5, [.int (7 : Int32), .int (-1 : Int32), .int (1 : Int32), .int (0 : Int32), .int (0 : Int32), .int (0 : Int32), .ref q1, .ref q2, .null, .null, .null, .null])),
      (q1, .inl (cI, 8, .inl (zro))),
      (q2, .inl (cI, 8, .inl (zro))),
      (q3, .inl (cI, 8, .inl (zro)))] := G
  refine pfin X hin2 K G 0 rfl rfl inX5 tyX5 tyX5_ok nmX5 8 (by decide) q_128 ⟨rfl, rfl, rfl⟩ rfl rfl (ty := (.array .int)) rfl rfl rfl (Nat.le_of_ble_eq_true rfl) dX5_init_56 (fun H locs G => ?_)
  have G : wg D A s.heap H locs [(h0, .inr (5, [.int (7 : Int32), .int (-1 : Int32), .int (1 : Int32), .int (0 : Int32), .int (0 : Int32), .int (0 : Int32), .ref q1, .ref q2, .ref q3, .null, .null, .null])),
      (q1, .inl (cI, 8, .inl (zro))),
      (q2, .inl (cI, 8, .inl (zro))),
      (q3, .inl (cI, 8, .inl (zro)))] := G
  refine lv_aload_n hx hb dX5_init_59 rfl (lv_at hl 0 rfl) ?_
  refine lv_sipush (v := 192) hx hb dX5_init_60 (by decide) ?_
  refine niC X K hA G (wA 161 (by decide +kernel) rfl) (N := 192) (c2 := 4) (s2 := 216) (by decide) (by decide) (by decide) rfl rfl ⟨by decide, by decide⟩ dX5_init_63 (fun q4 H G => ?_)
  have G : wg D A s.heap H locs [(h0, .inr (5, [.int (7 : Int32), .int (-1 : Int32), .int (1 : Int32), .int (0 : Int32), .int (0 : Int32), .int (0 : Int32), .ref q1, .ref q2, .ref q3, .null, .null, .null])),
      (q1, .inl (cI, 8, .inl (zro))),
      (q2, .inl (cI, 8, .inl (zro))),
      (q3, .inl (cI, 8, .inl (zro))),
      (q4, .inl (cI, 192, .inl (zro)))] := G
  refine pfin X hin2 K G 0 rfl rfl inX5 tyX5 tyX5_ok nmX5 9 (by decide) q_132 ⟨rfl, rfl, rfl⟩ rfl rfl (ty := (.array .int)) rfl rfl rfl (Nat.le_of_ble_eq_true rfl) dX5_init_65 (fun H locs G => ?_)
  have G : wg D A s.heap H locs [(h0, .inr (5, [.int (7 : Int32), .int (-1 : Int32), .int (1 : Int32), .int (0 : Int32), .int (0 : Int32), .int (0 : Int32), .ref q1, .ref q2, .ref q3, .ref q4, .null, .null])),
      (q1, .inl (cI, 8, .inl (zro))),
      (q2, .inl (cI, 8, .inl (zro))),
      (q3, .inl (cI, 8, .inl (zro))),
      (q4, .inl (cI, 192, .inl (zro)))] := G
  refine lv_aload_n hx hb dX5_init_68 rfl (lv_at hl 0 rfl) ?_
  refine lv_bipush (v := 15) hx hb dX5_init_69 (by decide) ?_
  refine niC X K hA G (wA 161 (by decide +kernel) rfl) (N := 15) (c2 := 5) (s2 := 231) (by decide) (by decide) (by decide) rfl rfl ⟨by decide, by decide⟩ dX5_init_71 (fun q5 H G => ?_)
  have G : wg D A s.heap H locs [(h0, .inr (5, [.int (7 : Int32), .int (-1 : Int32), .int (1 : Int32), .int (0 : Int32), .int (0 : Int32), .int (0 : Int32), .ref q1, .ref q2, .ref q3, .ref q4, .null, .null])),
      (q1, .inl (cI, 8, .inl (zro))),
      (q2, .inl (cI, 8, .inl (zro))),
      (q3, .inl (cI, 8, .inl (zro))),
      (q4, .inl (cI, 192, .inl (zro))),
      (q5, .inl (cI, 15, .inl (zro)))] := G
  refine pfin X hin2 K G 0 rfl rfl inX5 tyX5 tyX5_ok nmX5 10 (by decide) q_133 ⟨rfl, rfl, rfl⟩ rfl rfl (ty := (.array .int)) rfl rfl rfl (Nat.le_of_ble_eq_true rfl) dX5_init_73 (fun H locs G => ?_)
  have G : wg D A s.heap H locs [(h0, .inr (5, [.int (7 : Int32), .int (-1 : Int32), .int (1 : Int32), .int (0 : Int32), .int (0 : Int32), .int (0 : Int32), .ref q1, .ref q2, .ref q3, .ref q4, .ref q5, .null])),
      (q1, .inl (cI, 8, .inl (zro))),
      (q2, .inl (cI, 8, .inl (zro))),
      (q3, .inl (cI, 8, .inl (zro))),
      (q4, .inl (cI, 192, .inl (zro))),
      (q5, .inl (cI, 15, .inl (zro)))] := G
  refine lv_aload_n hx hb dX5_init_76 rfl (lv_at hl 0 rfl) ?_
  refine lv_bipush (v := 10) hx hb dX5_init_77 (by decide) ?_
  refine niC X K hA G (wA 161 (by decide +kernel) rfl) (N := 10) (c2 := 6) (s2 := 241) (by decide) (by decide) (by decide) rfl rfl ⟨by decide, by decide⟩ dX5_init_79 (fun q6 H G => ?_)
  have G : wg D A s.heap H locs [(h0, .inr (5, [.int (7 : Int32), .int (-1 : Int32), .int (1 : Int32), .int (0 : Int32), .int (0 : Int32), .int (0 : Int32), .ref q1, .ref q2, .ref q3, .ref q4, .ref q5, .null])),
      (q1, .inl (cI, 8, .inl (zro))),
      (q2, .inl (cI, 8, .inl (zro))),
      (q3, .inl (cI, 8, .inl (zro))),
      (q4, .inl (cI, 192, .inl (zro))),
      (q5, .inl (cI, 15, .inl (zro))),
      (q6, .inl (cI, 10, .inl (zro)))] := G
  refine pfin X hin2 K G 0 rfl rfl inX5 tyX5 tyX5_ok nmX5 11 (by decide) q_134 ⟨rfl, rfl, rfl⟩ rfl rfl (ty := (.array .int)) rfl rfl rfl (Nat.le_of_ble_eq_true rfl) dX5_init_81 (fun H locs G => ?_)
  have G : wg D A s.heap H locs [(h0, .inr (5, [.int (7 : Int32), .int (-1 : Int32), .int (1 : Int32), .int (0 : Int32), .int (0 : Int32), .int (0 : Int32), .ref q1, .ref q2, .ref q3, .ref q4, .ref q5, .ref q6])),
      (q1, .inl (cI, 8, .inl (zro))),
      (q2, .inl (cI, 8, .inl (zro))),
      (q3, .inl (cI, 8, .inl (zro))),
      (q4, .inl (cI, 192, .inl (zro))),
      (q5, .inl (cI, 15, .inl (zro))),
      (q6, .inl (cI, 10, .inl (zro)))] := G
  refine lv_iconst (v := 0) hx hb dX5_init_84 (by decide) ?_
  refine lv_istore_n (lv' := [(1, .int (0 : Int32)), (0, .ref h0)]) hx hb dX5_init_85 rfl hl (by decide) rfl (fun ls hl => ?_)
  refine lv_iload_n hx hb dX5_init_86 rfl (lv_at hl 0 rfl) ?_
  refine lv_bipush (v := 10) hx hb dX5_init_87 (by decide) ?_
  refine lv_icmp_ge (tgt := 105) hx hb dX5_init_89 (by decide) (fun q => absurd q (by decide)) (fun _ => ?_)
  refine lv_aload_n hx hb dX5_init_92 rfl (lv_at hl 1 rfl) ?_
  refine gfld X K G 0 rfl rfl inX5 11 (by decide) q_134 ⟨rfl, rfl, rfl⟩ rfl dX5_init_93 ?_
  refine lv_iload_n hx hb dX5_init_96 rfl (lv_at hl 0 rfl) ?_
  refine lv_iconst (v := -1) hx hb dX5_init_97 (by decide) ?_
  refine gast X K G 6 rfl (by decide) rfl dX5_init_98 (fun H locs G => ?_)
  have G : wg D A s.heap H locs [(h0, .inr (5, [.int (7 : Int32), .int (-1 : Int32), .int (1 : Int32), .int (0 : Int32), .int (0 : Int32), .int (0 : Int32), .ref q1, .ref q2, .ref q3, .ref q4, .ref q5, .ref q6])),
      (q1, .inl (cI, 8, .inl (zro))),
      (q2, .inl (cI, 8, .inl (zro))),
      (q3, .inl (cI, 8, .inl (zro))),
      (q4, .inl (cI, 192, .inl (zro))),
      (q5, .inl (cI, 15, .inl (zro))),
      (q6, .inl (cI, 10, .inl (upd (zro) ((0 : Int32)).toNatClampNeg (-1 : Int32))))] := G
  refine lv_iinc (v := 1) (lv' := [(1, .int (1 : Int32)), (0, .ref h0)]) hx hb dX5_init_99 hl (k := 0) rfl (by decide) (by decide) rfl (fun ls hl => ?_)
  refine lv_goto (tgt := 86) hx hb dX5_init_102 (by decide) ?_
  refine lv_iload_n hx hb dX5_init_86 rfl (lv_at hl 0 rfl) ?_
  refine lv_bipush (v := 10) hx hb dX5_init_87 (by decide) ?_
  refine lv_icmp_ge (tgt := 105) hx hb dX5_init_89 (by decide) (fun q => absurd q (by decide)) (fun _ => ?_)
  refine lv_aload_n hx hb dX5_init_92 rfl (lv_at hl 1 rfl) ?_
  refine gfld X K G 0 rfl rfl inX5 11 (by decide) q_134 ⟨rfl, rfl, rfl⟩ rfl dX5_init_93 ?_
  refine lv_iload_n hx hb dX5_init_96 rfl (lv_at hl 0 rfl) ?_
  refine lv_iconst (v := -1) hx hb dX5_init_97 (by decide) ?_
  refine gast X K G 6 rfl (by decide) rfl dX5_init_98 (fun H locs G => ?_)
  have G : wg D A s.heap H locs [(h0, .inr (5, [.int (7 : Int32), .int (-1 : Int32), .int (1 : Int32), .int (0 : Int32), .int (0 : Int32), .int (0 : Int32), .ref q1, .ref q2, .ref q3, .ref q4, .ref q5, .ref q6])),
      (q1, .inl (cI, 8, .inl (zro))),
      (q2, .inl (cI, 8, .inl (zro))),
      (q3, .inl (cI, 8, .inl (zro))),
      (q4, .inl (cI, 192, .inl (zro))),
      (q5, .inl (cI, 15, .inl (zro))),
      (q6, .inl (cI, 10, .inl (upd (upd (zro) ((0 : Int32)).toNatClampNeg (-1 : Int32)) ((1 : Int32)).toNatClampNeg (-1 : Int32))))] := G
  refine lv_iinc (v := 2) (lv' := [(1, .int (2 : Int32)), (0, .ref h0)]) hx hb dX5_init_99 hl (k := 0) rfl (by decide) (by decide) rfl (fun ls hl => ?_)
  refine lv_goto (tgt := 86) hx hb dX5_init_102 (by decide) ?_
  refine lv_iload_n hx hb dX5_init_86 rfl (lv_at hl 0 rfl) ?_
  refine lv_bipush (v := 10) hx hb dX5_init_87 (by decide) ?_
  refine lv_icmp_ge (tgt := 105) hx hb dX5_init_89 (by decide) (fun q => absurd q (by decide)) (fun _ => ?_)
  refine lv_aload_n hx hb dX5_init_92 rfl (lv_at hl 1 rfl) ?_
  refine gfld X K G 0 rfl rfl inX5 11 (by decide) q_134 ⟨rfl, rfl, rfl⟩ rfl dX5_init_93 ?_
  refine lv_iload_n hx hb dX5_init_96 rfl (lv_at hl 0 rfl) ?_
  refine lv_iconst (v := -1) hx hb dX5_init_97 (by decide) ?_
  refine gast X K G 6 rfl (by decide) rfl dX5_init_98 (fun H locs G => ?_)
  have G : wg D A s.heap H locs [(h0, .inr (5, [.int (7 : Int32), .int (-1 : Int32), .int (1 : Int32), .int (0 : Int32), .int (0 : Int32), .int (0 : Int32), .ref q1, .ref q2, .ref q3, .ref q4, .ref q5, .ref q6])),
      (q1, .inl (cI, 8, .inl (zro))),
      (q2, .inl (cI, 8, .inl (zro))),
      (q3, .inl (cI, 8, .inl (zro))),
      (q4, .inl (cI, 192, .inl (zro))),
      (q5, .inl (cI, 15, .inl (zro))),
      (q6, .inl (cI, 10, .inl (upd (upd (upd (zro) ((0 : Int32)).toNatClampNeg (-1 : Int32)) ((1 : Int32)).toNatClampNeg (-1 : Int32)) ((2 : Int32)).toNatClampNeg (-1 : Int32))))] := G
  refine lv_iinc (v := 3) (lv' := [(1, .int (3 : Int32)), (0, .ref h0)]) hx hb dX5_init_99 hl (k := 0) rfl (by decide) (by decide) rfl (fun ls hl => ?_)
  refine lv_goto (tgt := 86) hx hb dX5_init_102 (by decide) ?_
  refine lv_iload_n hx hb dX5_init_86 rfl (lv_at hl 0 rfl) ?_
  refine lv_bipush (v := 10) hx hb dX5_init_87 (by decide) ?_
  refine lv_icmp_ge (tgt := 105) hx hb dX5_init_89 (by decide) (fun q => absurd q (by decide)) (fun _ => ?_)
  refine lv_aload_n hx hb dX5_init_92 rfl (lv_at hl 1 rfl) ?_
  refine gfld X K G 0 rfl rfl inX5 11 (by decide) q_134 ⟨rfl, rfl, rfl⟩ rfl dX5_init_93 ?_
  refine lv_iload_n hx hb dX5_init_96 rfl (lv_at hl 0 rfl) ?_
  refine lv_iconst (v := -1) hx hb dX5_init_97 (by decide) ?_
  refine gast X K G 6 rfl (by decide) rfl dX5_init_98 (fun H locs G => ?_)
  have G : wg D A s.heap H locs [(h0, .inr (5, [.int (7 : Int32), .int (-1 : Int32), .int (1 : Int32), .int (0 : Int32), .int (0 : Int32), .int (0 : Int32), .ref q1, .ref q2, .ref q3, .ref q4, .ref q5, .ref q6])),
      (q1, .inl (cI, 8, .inl (zro))),
      (q2, .inl (cI, 8, .inl (zro))),
      (q3, .inl (cI, 8, .inl (zro))),
      (q4, .inl (cI, 192, .inl (zro))),
      (q5, .inl (cI, 15, .inl (zro))),
      (q6, .inl (cI, 10, .inl (upd (upd (upd (upd (zro) ((0 : Int32)).toNatClampNeg (-1 : Int32)) ((1 : Int32)).toNatClampNeg (-1 : Int32)) ((2 : Int32)).toNatClampNeg (-1 : Int32)) ((3 : Int32)).toNatClampNeg (-1 : Int32))))] := G
  refine lv_iinc (v := 4) (lv' := [(1, .int (4 : Int32)), (0, .ref h0)]) hx hb dX5_init_99 hl (k := 0) rfl (by decide) (by decide) rfl (fun ls hl => ?_)
  refine lv_goto (tgt := 86) hx hb dX5_init_102 (by decide) ?_
  refine lv_iload_n hx hb dX5_init_86 rfl (lv_at hl 0 rfl) ?_
  refine lv_bipush (v := 10) hx hb dX5_init_87 (by decide) ?_
  refine lv_icmp_ge (tgt := 105) hx hb dX5_init_89 (by decide) (fun q => absurd q (by decide)) (fun _ => ?_)
  refine lv_aload_n hx hb dX5_init_92 rfl (lv_at hl 1 rfl) ?_
  refine gfld X K G 0 rfl rfl inX5 11 (by decide) q_134 ⟨rfl, rfl, rfl⟩ rfl dX5_init_93 ?_
  refine lv_iload_n hx hb dX5_init_96 rfl (lv_at hl 0 rfl) ?_
  refine lv_iconst (v := -1) hx hb dX5_init_97 (by decide) ?_
  refine gast X K G 6 rfl (by decide) rfl dX5_init_98 (fun H locs G => ?_)
  have G : wg D A s.heap H locs [(h0, .inr (5, [.int (7 : Int32), .int (-1 : Int32), .int (1 : Int32), .int (0 : Int32), .int (0 : Int32), .int (0 : Int32), .ref q1, .ref q2, .ref q3, .ref q4, .ref q5, .ref q6])),
      (q1, .inl (cI, 8, .inl (zro))),
      (q2, .inl (cI, 8, .inl (zro))),
      (q3, .inl (cI, 8, .inl (zro))),
      (q4, .inl (cI, 192, .inl (zro))),
      (q5, .inl (cI, 15, .inl (zro))),
      (q6, .inl (cI, 10, .inl (upd (upd (upd (upd (upd (zro) ((0 : Int32)).toNatClampNeg (-1 : Int32)) ((1 : Int32)).toNatClampNeg (-1 : Int32)) ((2 : Int32)).toNatClampNeg (-1 : Int32)) ((3 : Int32)).toNatClampNeg (-1 : Int32)) ((4 : Int32)).toNatClampNeg (-1 : Int32))))] := G
  refine lv_iinc (v := 5) (lv' := [(1, .int (5 : Int32)), (0, .ref h0)]) hx hb dX5_init_99 hl (k := 0) rfl (by decide) (by decide) rfl (fun ls hl => ?_)
  refine lv_goto (tgt := 86) hx hb dX5_init_102 (by decide) ?_
  refine lv_iload_n hx hb dX5_init_86 rfl (lv_at hl 0 rfl) ?_
  refine lv_bipush (v := 10) hx hb dX5_init_87 (by decide) ?_
  refine lv_icmp_ge (tgt := 105) hx hb dX5_init_89 (by decide) (fun q => absurd q (by decide)) (fun _ => ?_)
  refine lv_aload_n hx hb dX5_init_92 rfl (lv_at hl 1 rfl) ?_
  refine gfld X K G 0 rfl rfl inX5 11 (by decide) q_134 ⟨rfl, rfl, rfl⟩ rfl dX5_init_93 ?_
  refine lv_iload_n hx hb dX5_init_96 rfl (lv_at hl 0 rfl) ?_
  refine lv_iconst (v := -1) hx hb dX5_init_97 (by decide) ?_
  refine gast X K G 6 rfl (by decide) rfl dX5_init_98 (fun H locs G => ?_)
  have G : wg D A s.heap H locs [(h0, .inr (5, [.int (7 : Int32), .int (-1 : Int32), .int (1 : Int32), .int (0 : Int32), .int (0 : Int32), .int (0 : Int32), .ref q1, .ref q2, .ref q3, .ref q4, .ref q5, .ref q6])),
      (q1, .inl (cI, 8, .inl (zro))),
      (q2, .inl (cI, 8, .inl (zro))),
      (q3, .inl (cI, 8, .inl (zro))),
      (q4, .inl (cI, 192, .inl (zro))),
      (q5, .inl (cI, 15, .inl (zro))),
      (q6, .inl (cI, 10, .inl (upd (upd (upd (upd (upd (upd (zro) ((0 : Int32)).toNatClampNeg (-1 : Int32)) ((1 : Int32)).toNatClampNeg (-1 : Int32)) ((2 : Int32)).toNatClampNeg (-1 : Int32)) ((3 : Int32)).toNatClampNeg (-1 : Int32)) ((4 : Int32)).toNatClampNeg (-1 : Int32)) ((5 : Int32)).toNatClampNeg (-1 : Int32))))] := G
  refine lv_iinc (v := 6) (lv' := [(1, .int (6 : Int32)), (0, .ref h0)]) hx hb dX5_init_99 hl (k := 0) rfl (by decide) (by decide) rfl (fun ls hl => ?_)
  refine lv_goto (tgt := 86) hx hb dX5_init_102 (by decide) ?_
  refine lv_iload_n hx hb dX5_init_86 rfl (lv_at hl 0 rfl) ?_
  refine lv_bipush (v := 10) hx hb dX5_init_87 (by decide) ?_
  refine lv_icmp_ge (tgt := 105) hx hb dX5_init_89 (by decide) (fun q => absurd q (by decide)) (fun _ => ?_)
  refine lv_aload_n hx hb dX5_init_92 rfl (lv_at hl 1 rfl) ?_
  refine gfld X K G 0 rfl rfl inX5 11 (by decide) q_134 ⟨rfl, rfl, rfl⟩ rfl dX5_init_93 ?_
  refine lv_iload_n hx hb dX5_init_96 rfl (lv_at hl 0 rfl) ?_
  refine lv_iconst (v := -1) hx hb dX5_init_97 (by decide) ?_
  refine gast X K G 6 rfl (by decide) rfl dX5_init_98 (fun H locs G => ?_)
  have G : wg D A s.heap H locs [(h0, .inr (5, [.int (7 : Int32), .int (-1 : Int32), .int (1 : Int32), .int (0 : Int32), .int (0 : Int32), .int (0 : Int32), .ref q1, .ref q2, .ref q3, .ref q4, .ref q5, .ref q6])),
      (q1, .inl (cI, 8, .inl (zro))),
      (q2, .inl (cI, 8, .inl (zro))),
      (q3, .inl (cI, 8, .inl (zro))),
      (q4, .inl (cI, 192, .inl (zro))),
      (q5, .inl (cI, 15, .inl (zro))),
      (q6, .inl (cI, 10, .inl (upd (upd (upd (upd (upd (upd (upd (zro) ((0 : Int32)).toNatClampNeg (-1 : Int32)) ((1 : Int32)).toNatClampNeg (-1 : Int32)) ((2 : Int32)).toNatClampNeg (-1 : Int32)) ((3 : Int32)).toNatClampNeg (-1 : Int32)) ((4 : Int32)).toNatClampNeg (-1 : Int32)) ((5 : Int32)).toNatClampNeg (-1 : Int32)) ((6 : Int32)).toNatClampNeg (-1 : Int32))))] := G
  refine lv_iinc (v := 7) (lv' := [(1, .int (7 : Int32)), (0, .ref h0)]) hx hb dX5_init_99 hl (k := 0) rfl (by decide) (by decide) rfl (fun ls hl => ?_)
  refine lv_goto (tgt := 86) hx hb dX5_init_102 (by decide) ?_
  refine lv_iload_n hx hb dX5_init_86 rfl (lv_at hl 0 rfl) ?_
  refine lv_bipush (v := 10) hx hb dX5_init_87 (by decide) ?_
  refine lv_icmp_ge (tgt := 105) hx hb dX5_init_89 (by decide) (fun q => absurd q (by decide)) (fun _ => ?_)
  refine lv_aload_n hx hb dX5_init_92 rfl (lv_at hl 1 rfl) ?_
  refine gfld X K G 0 rfl rfl inX5 11 (by decide) q_134 ⟨rfl, rfl, rfl⟩ rfl dX5_init_93 ?_
  refine lv_iload_n hx hb dX5_init_96 rfl (lv_at hl 0 rfl) ?_
  refine lv_iconst (v := -1) hx hb dX5_init_97 (by decide) ?_
  refine gast X K G 6 rfl (by decide) rfl dX5_init_98 (fun H locs G => ?_)
  have G : wg D A s.heap H locs [(h0, .inr (5, [.int (7 : Int32), .int (-1 : Int32), .int (1 : Int32), .int (0 : Int32), .int (0 : Int32), .int (0 : Int32), .ref q1, .ref q2, .ref q3, .ref q4, .ref q5, .ref q6])),
      (q1, .inl (cI, 8, .inl (zro))),
      (q2, .inl (cI, 8, .inl (zro))),
      (q3, .inl (cI, 8, .inl (zro))),
      (q4, .inl (cI, 192, .inl (zro))),
      (q5, .inl (cI, 15, .inl (zro))),
      (q6, .inl (cI, 10, .inl (upd (upd (upd (upd (upd (upd (upd (upd (zro) ((0 : Int32)).toNatClampNeg (-1 : Int32)) ((1 : Int32)).toNatClampNeg (-1 : Int32)) ((2 : Int32)).toNatClampNeg (-1 : Int32)) ((3 : Int32)).toNatClampNeg (-1 : Int32)) ((4 : Int32)).toNatClampNeg (-1 : Int32)) ((5 : Int32)).toNatClampNeg (-1 : Int32)) ((6 : Int32)).toNatClampNeg (-1 : Int32)) ((7 : Int32)).toNatClampNeg (-1 : Int32))))] := G
  refine lv_iinc (v := 8) (lv' := [(1, .int (8 : Int32)), (0, .ref h0)]) hx hb dX5_init_99 hl (k := 0) rfl (by decide) (by decide) rfl (fun ls hl => ?_)
  refine lv_goto (tgt := 86) hx hb dX5_init_102 (by decide) ?_
  refine lv_iload_n hx hb dX5_init_86 rfl (lv_at hl 0 rfl) ?_
  refine lv_bipush (v := 10) hx hb dX5_init_87 (by decide) ?_
  refine lv_icmp_ge (tgt := 105) hx hb dX5_init_89 (by decide) (fun q => absurd q (by decide)) (fun _ => ?_)
  refine lv_aload_n hx hb dX5_init_92 rfl (lv_at hl 1 rfl) ?_
  refine gfld X K G 0 rfl rfl inX5 11 (by decide) q_134 ⟨rfl, rfl, rfl⟩ rfl dX5_init_93 ?_
  refine lv_iload_n hx hb dX5_init_96 rfl (lv_at hl 0 rfl) ?_
  refine lv_iconst (v := -1) hx hb dX5_init_97 (by decide) ?_
  refine gast X K G 6 rfl (by decide) rfl dX5_init_98 (fun H locs G => ?_)
  have G : wg D A s.heap H locs [(h0, .inr (5, [.int (7 : Int32), .int (-1 : Int32), .int (1 : Int32), .int (0 : Int32), .int (0 : Int32), .int (0 : Int32), .ref q1, .ref q2, .ref q3, .ref q4, .ref q5, .ref q6])),
      (q1, .inl (cI, 8, .inl (zro))),
      (q2, .inl (cI, 8, .inl (zro))),
      (q3, .inl (cI, 8, .inl (zro))),
      (q4, .inl (cI, 192, .inl (zro))),
      (q5, .inl (cI, 15, .inl (zro))),
      (q6, .inl (cI, 10, .inl (upd (upd (upd (upd (upd (upd (upd (upd (upd (zro) ((0 : Int32)).toNatClampNeg (-1 : Int32)) ((1 : Int32)).toNatClampNeg (-1 : Int32)) ((2 : Int32)).toNatClampNeg (-1 : Int32)) ((3 : Int32)).toNatClampNeg (-1 : Int32)) ((4 : Int32)).toNatClampNeg (-1 : Int32)) ((5 : Int32)).toNatClampNeg (-1 : Int32)) ((6 : Int32)).toNatClampNeg (-1 : Int32)) ((7 : Int32)).toNatClampNeg (-1 : Int32)) ((8 : Int32)).toNatClampNeg (-1 : Int32))))] := G
  refine lv_iinc (v := 9) (lv' := [(1, .int (9 : Int32)), (0, .ref h0)]) hx hb dX5_init_99 hl (k := 0) rfl (by decide) (by decide) rfl (fun ls hl => ?_)
  refine lv_goto (tgt := 86) hx hb dX5_init_102 (by decide) ?_
  refine lv_iload_n hx hb dX5_init_86 rfl (lv_at hl 0 rfl) ?_
  refine lv_bipush (v := 10) hx hb dX5_init_87 (by decide) ?_
  refine lv_icmp_ge (tgt := 105) hx hb dX5_init_89 (by decide) (fun q => absurd q (by decide)) (fun _ => ?_)
  refine lv_aload_n hx hb dX5_init_92 rfl (lv_at hl 1 rfl) ?_
  refine gfld X K G 0 rfl rfl inX5 11 (by decide) q_134 ⟨rfl, rfl, rfl⟩ rfl dX5_init_93 ?_
  refine lv_iload_n hx hb dX5_init_96 rfl (lv_at hl 0 rfl) ?_
  refine lv_iconst (v := -1) hx hb dX5_init_97 (by decide) ?_
  refine gast X K G 6 rfl (by decide) rfl dX5_init_98 (fun H locs G => ?_)
  have G : wg D A s.heap H locs [(h0, .inr (5, [.int (7 : Int32), .int (-1 : Int32), .int (1 : Int32), .int (0 : Int32), .int (0 : Int32), .int (0 : Int32), .ref q1, .ref q2, .ref q3, .ref q4, .ref q5, .ref q6])),
      (q1, .inl (cI, 8, .inl (zro))),
      (q2, .inl (cI, 8, .inl (zro))),
      (q3, .inl (cI, 8, .inl (zro))),
      (q4, .inl (cI, 192, .inl (zro))),
      (q5, .inl (cI, 15, .inl (zro))),
      (q6, .inl (cI, 10, .inl (upd (upd (upd (upd (upd (upd (upd (upd (upd (upd (zro) ((0 : Int32)).toNatClampNeg (-1 : Int32)) ((1 : Int32)).toNatClampNeg (-1 : Int32)) ((2 : Int32)).toNatClampNeg (-1 : Int32)) ((3 : Int32)).toNatClampNeg (-1 : Int32)) ((4 : Int32)).toNatClampNeg (-1 : Int32)) ((5 : Int32)).toNatClampNeg (-1 : Int32)) ((6 : Int32)).toNatClampNeg (-1 : Int32)) ((7 : Int32)).toNatClampNeg (-1 : Int32)) ((8 : Int32)).toNatClampNeg (-1 : Int32)) ((9 : Int32)).toNatClampNeg (-1 : Int32))))] := G
  refine lv_iinc (v := 10) (lv' := [(1, .int (10 : Int32)), (0, .ref h0)]) hx hb dX5_init_99 hl (k := 0) rfl (by decide) (by decide) rfl (fun ls hl => ?_)
  refine lv_goto (tgt := 86) hx hb dX5_init_102 (by decide) ?_
  refine lv_iload_n hx hb dX5_init_86 rfl (lv_at hl 0 rfl) ?_
  refine lv_bipush (v := 10) hx hb dX5_init_87 (by decide) ?_
  refine lv_icmp_ge (tgt := 105) hx hb dX5_init_89 (by decide) (fun _ => ?_) (fun q => absurd (by decide) q)
  exact reC X (fun k => [q1, q2, q3, q4, q5, q6].getD k 0) G dX5_init_105
set_option maxHeartbeats 4000000 in
set_option maxRecDepth 100000 in
theorem i_X1 (l : Launch) (D : va_G) (cI cZ cQ : ClassId) (adK adV : Nat → Nat) (A : Nat → Prop) (h0 : Nat) : MC l D cI cZ cQ adK adV A yX1_init cX1_init 1 { frames := 1, cells := 1, slots := 40, locals := 40 } [.ref h0] [(h0, .inr (1, [.int 0, .int 0, .null]))] (fun a => [(h0, .inr (1, [.int (0 : Int32), .int (0 : Int32), .ref (a 0)])),
    ((a 0), .inl (cI, 40, .inl (zro)))]) 1 40 := by
  refine entC (by decide) rfl (Nat.le_of_ble_eq_true rfl) ?_
  intro p e s m below meth c ls X hin2 K hA hO G hl
  have hx := X.1
  have hb := X.2.1
  refine lv_aload_n hx hb dX1_init_0 rfl (lv_at hl 0 rfl) ?_
  refine obC X hl.1 q_284 (wA 93 (by decide +kernel) rfl) (wA 94 (by decide +kernel) rfl) (by decide) (by decide) dX1_init_1 ?_
  refine lv_aload_n hx hb dX1_init_4 rfl (lv_at hl 0 rfl) ?_
  refine lv_iconst (v := 0) hx hb dX1_init_5 (by decide) ?_
  refine pfld X K G 0 rfl rfl inX1 tyX1 tyX1_ok nmX1 0 (by decide) q_285 ⟨rfl, rfl, rfl⟩ rfl (ty := .int) rfl rfl rfl (Nat.le_of_ble_eq_true rfl) rfl dX1_init_6 (fun H locs G => ?_)
  have G : wg D A s.heap H locs [(h0, .inr (1, [.int (0 : Int32), .int 0, .null]))] := G
  refine lv_aload_n hx hb dX1_init_9 rfl (lv_at hl 0 rfl) ?_
  refine lv_iconst (v := 0) hx hb dX1_init_10 (by decide) ?_
  refine pfld X K G 0 rfl rfl inX1 tyX1 tyX1_ok nmX1 1 (by decide) q_287 ⟨rfl, rfl, rfl⟩ rfl (ty := .int) rfl rfl rfl (Nat.le_of_ble_eq_true rfl) rfl dX1_init_11 (fun H locs G => ?_)
  have G : wg D A s.heap H locs [(h0, .inr (1, [.int (0 : Int32), .int (0 : Int32), .null]))] := G
  refine lv_aload_n hx hb dX1_init_14 rfl (lv_at hl 0 rfl) ?_
  refine lv_bipush (v := 40) hx hb dX1_init_15 (by decide) ?_
  refine niC X K hA G (wA 161 (by decide +kernel) rfl) (N := 40) (c2 := 1) (s2 := 40) (by decide) (by decide) (by decide) rfl rfl ⟨by decide, by decide⟩ dX1_init_17 (fun q1 H G => ?_)
  have G : wg D A s.heap H locs [(h0, .inr (1, [.int (0 : Int32), .int (0 : Int32), .null])),
      (q1, .inl (cI, 40, .inl (zro)))] := G
  refine pfin X hin2 K G 0 rfl rfl inX1 tyX1 tyX1_ok nmX1 2 (by decide) q_290 ⟨rfl, rfl, rfl⟩ rfl rfl (ty := (.array .int)) rfl rfl rfl (Nat.le_of_ble_eq_true rfl) dX1_init_19 (fun H locs G => ?_)
  have G : wg D A s.heap H locs [(h0, .inr (1, [.int (0 : Int32), .int (0 : Int32), .ref q1])),
      (q1, .inl (cI, 40, .inl (zro)))] := G
  exact reC X (fun k => [q1].getD k 0) G dX1_init_22
set_option maxHeartbeats 4000000 in
set_option maxRecDepth 100000 in
theorem i_X3 (l : Launch) (D : va_G) (cI cZ cQ : ClassId) (adK adV : Nat → Nat) (A : Nat → Prop) (h0 : Nat) : MC l D cI cZ cQ adK adV A yX3_init cX3_init 1 { frames := 1, cells := 1, slots := 120, locals := 40 } [.ref h0] [(h0, .inr (3, [.null, .int 0]))] (fun a => [(h0, .inr (3, [.ref (a 0), .int (0 : Int32)])),
    ((a 0), .inl (cI, 120, .inl (zro)))]) 1 120 := by
  refine entC (by decide) rfl (Nat.le_of_ble_eq_true rfl) ?_
  intro p e s m below meth c ls X hin2 K hA hO G hl
  have hx := X.1
  have hb := X.2.1
  refine lv_aload_n hx hb dX3_init_0 rfl (lv_at hl 0 rfl) ?_
  refine obC X hl.1 q_167 (wA 93 (by decide +kernel) rfl) (wA 94 (by decide +kernel) rfl) (by decide) (by decide) dX3_init_1 ?_
  refine lv_aload_n hx hb dX3_init_4 rfl (lv_at hl 0 rfl) ?_
  refine lv_bipush (v := 120) hx hb dX3_init_5 (by decide) ?_
  refine niC X K hA G (wA 161 (by decide +kernel) rfl) (N := 120) (c2 := 1) (s2 := 120) (by decide) (by decide) (by decide) rfl rfl ⟨by decide, by decide⟩ dX3_init_7 (fun q1 H G => ?_)
  have G : wg D A s.heap H [] [(h0, .inr (3, [.null, .int 0])),
      (q1, .inl (cI, 120, .inl (zro)))] := G
  refine pfin X hin2 K G 0 rfl rfl inX3 tyX3 tyX3_ok nmX3 0 (by decide) q_168 ⟨rfl, rfl, rfl⟩ rfl rfl (ty := (.array .int)) rfl rfl rfl (Nat.le_of_ble_eq_true rfl) dX3_init_9 (fun H locs G => ?_)
  have G : wg D A s.heap H locs [(h0, .inr (3, [.ref q1, .int 0])),
      (q1, .inl (cI, 120, .inl (zro)))] := G
  refine lv_aload_n hx hb dX3_init_12 rfl (lv_at hl 0 rfl) ?_
  refine lv_iconst (v := 0) hx hb dX3_init_13 (by decide) ?_
  refine pfld X K G 0 rfl rfl inX3 tyX3 tyX3_ok nmX3 1 (by decide) q_170 ⟨rfl, rfl, rfl⟩ rfl (ty := .int) rfl rfl rfl (Nat.le_of_ble_eq_true rfl) rfl dX3_init_14 (fun H locs G => ?_)
  have G : wg D A s.heap H locs [(h0, .inr (3, [.ref q1, .int (0 : Int32)])),
      (q1, .inl (cI, 120, .inl (zro)))] := G
  exact reC X (fun k => [q1].getD k 0) G dX3_init_17
set_option maxHeartbeats 4000000 in
set_option maxRecDepth 100000 in
theorem i_X0 (l : Launch) (D : va_G) (cI cZ cQ : ClassId) (adK adV : Nat → Nat) (A : Nat → Prop) (h0 p1 : Nat) : MC l D cI cZ cQ adK adV A yX0_init cX0_init 2 { frames := 1, cells := 1, slots := 8, locals := 40 } [.ref h0, .ref p1] [(h0, .inr (0, [.null, .null]))] (fun a => [(h0, .inr (0, [.ref p1, .ref (a 0)])),
    ((a 0), .inl (cI, 8, .inl (zro)))]) 1 8 := by
  refine entC (by decide) rfl (Nat.le_of_ble_eq_true rfl) ?_
  intro p e s m below meth c ls X hin2 K hA hO G hl
  have hx := X.1
  have hb := X.2.1
  refine lv_aload_n hx hb dX0_init_0 rfl (lv_at hl 0 rfl) ?_
  refine obC X hl.1 q_183 (wA 93 (by decide +kernel) rfl) (wA 94 (by decide +kernel) rfl) (by decide) (by decide) dX0_init_1 ?_
  refine lv_aload_n hx hb dX0_init_4 rfl (lv_at hl 0 rfl) ?_
  refine lv_bipush (v := 8) hx hb dX0_init_5 (by decide) ?_
  refine niC X K hA G (wA 161 (by decide +kernel) rfl) (N := 8) (c2 := 1) (s2 := 8) (by decide) (by decide) (by decide) rfl rfl ⟨by decide, by decide⟩ dX0_init_7 (fun q1 H G => ?_)
  have G : wg D A s.heap H [] [(h0, .inr (0, [.null, .null])),
      (q1, .inl (cI, 8, .inl (zro)))] := G
  refine pfin X hin2 K G 0 rfl rfl inX0 tyX0 tyX0_ok nmX0 1 (by decide) q_185 ⟨rfl, rfl, rfl⟩ rfl rfl (ty := (.array .int)) rfl rfl rfl (Nat.le_of_ble_eq_true rfl) dX0_init_9 (fun H locs G => ?_)
  have G : wg D A s.heap H locs [(h0, .inr (0, [.null, .ref q1])),
      (q1, .inl (cI, 8, .inl (zro)))] := G
  refine lv_aload_n hx hb dX0_init_12 rfl (lv_at hl 0 rfl) ?_
  refine lv_aload_n hx hb dX0_init_13 rfl (lv_at hl 1 rfl) ?_
  refine pfin X hin2 K G 0 rfl rfl inX0 tyX0 tyX0_ok nmX0 0 (by decide) q_184 ⟨rfl, rfl, rfl⟩ rfl rfl (ty := (.object "ToolDays$Town")) rfl rfl rfl (Nat.le_of_ble_eq_true rfl) dX0_init_14 (fun H locs G => ?_)
  have G : wg D A s.heap H locs [(h0, .inr (0, [.ref p1, .ref q1])),
      (q1, .inl (cI, 8, .inl (zro)))] := G
  exact reC X (fun k => [q1].getD k 0) G dX0_init_17
set_option maxHeartbeats 4000000 in
set_option maxRecDepth 100000 in
theorem i_X2 (l : Launch) (D : va_G) (cI cZ cQ : ClassId) (adK adV : Nat → Nat) (A : Nat → Prop) (h0 p1 p2 : Nat) : MC l D cI cZ cQ adK adV A yX2_init cX2_init 3 { frames := 1, cells := 6, slots := 3793, locals := 40 } [.ref h0, .ref p1, .ref p2] [(h0, .inr (2, [.null, .null, .null, .null, .null, .null, .int 0, .null, .null, .int 0, .int 0, .int 0, .int 0, .int 0, .int 0]))] (fun a => [(h0, .inr (2, [.ref p1, .ref p2, .ref (a 0), .ref (a 1), .ref (a 2), .ref (a 3), .int (0 : Int32), .ref (a 4), .ref (a 5), .int (0 : Int32), .int (0 : Int32), .int (-1 : Int32), .int (0 : Int32), .int (0 : Int32), .int (0 : Int32)])),
    ((a 0), .inl (cZ, 60, .inl (zro))),
    ((a 1), .inl (cI, 480, .inl (zro))),
    ((a 2), .inl (cI, 3200, .inl (zro))),
    ((a 3), .inl (cI, 40, .inl (zro))),
    ((a 4), .inl (cI, 5, .inl (zro))),
    ((a 5), .inl (cI, 8, .inl (zro)))]) 6 3793 := by
  refine entC (by decide) rfl (Nat.le_of_ble_eq_true rfl) ?_
  intro p e s m below meth c ls X hin2 K hA hO G hl
  have hx := X.1
  have hb := X.2.1
  refine lv_aload_n hx hb dX2_init_0 rfl (lv_at hl 0 rfl) ?_
  refine obC X hl.1 q_198 (wA 93 (by decide +kernel) rfl) (wA 94 (by decide +kernel) rfl) (by decide) (by decide) dX2_init_1 ?_
  refine lv_aload_n hx hb dX2_init_4 rfl (lv_at hl 0 rfl) ?_
  refine lv_bipush (v := 60) hx hb dX2_init_5 (by decide) ?_
  refine nzC X K hA G (wA 252 (by decide +kernel) rfl) (N := 60) (c2 := 1) (s2 := 60) (by decide) (by decide) (by decide) rfl rfl ⟨by decide, by decide⟩ dX2_init_7 (fun q1 H G => ?_)
  have G : wg D A s.heap H [] [(h0, .inr (2, [.null, .null, .null, .null, .null, .null, .int 0, .null, .null, .int 0, .int 0, .int 0, .int 0, .int 0, .int 0])),
      (q1, .inl (cZ, 60, .inl (zro)))] := G
  refine pfin X hin2 K G 0 rfl rfl inX2 tyX2 tyX2_ok nmX2 2 (by decide) q_201 ⟨rfl, rfl, rfl⟩ rfl rfl (ty := (.array .boolean)) rfl rfl rfl (Nat.le_of_ble_eq_true rfl) dX2_init_9 (fun H locs G => ?_)
  have G : wg D A s.heap H locs [(h0, .inr (2, [.null, .null, .ref q1, .null, .null, .null, .int 0, .null, .null, .int 0, .int 0, .int 0, .int 0, .int 0, .int 0])),
      (q1, .inl (cZ, 60, .inl (zro)))] := G
  refine lv_aload_n hx hb dX2_init_12 rfl (lv_at hl 0 rfl) ?_
  refine lv_sipush (v := 480) hx hb dX2_init_13 (by decide) ?_
  refine niC X K hA G (wA 161 (by decide +kernel) rfl) (N := 480) (c2 := 2) (s2 := 540) (by decide) (by decide) (by decide) rfl rfl ⟨by decide, by decide⟩ dX2_init_16 (fun q2 H G => ?_)
  have G : wg D A s.heap H locs [(h0, .inr (2, [.null, .null, .ref q1, .null, .null, .null, .int 0, .null, .null, .int 0, .int 0, .int 0, .int 0, .int 0, .int 0])),
      (q1, .inl (cZ, 60, .inl (zro))),
      (q2, .inl (cI, 480, .inl (zro)))] := G
  refine pfin X hin2 K G 0 rfl rfl inX2 tyX2 tyX2_ok nmX2 3 (by decide) q_202 ⟨rfl, rfl, rfl⟩ rfl rfl (ty := (.array .int)) rfl rfl rfl (Nat.le_of_ble_eq_true rfl) dX2_init_18 (fun H locs G => ?_)
  have G : wg D A s.heap H locs [(h0, .inr (2, [.null, .null, .ref q1, .ref q2, .null, .null, .int 0, .null, .null, .int 0, .int 0, .int 0, .int 0, .int 0, .int 0])),
      (q1, .inl (cZ, 60, .inl (zro))),
      (q2, .inl (cI, 480, .inl (zro)))] := G
  refine lv_aload_n hx hb dX2_init_21 rfl (lv_at hl 0 rfl) ?_
  refine lv_sipush (v := 3200) hx hb dX2_init_22 (by decide) ?_
  refine niC X K hA G (wA 161 (by decide +kernel) rfl) (N := 3200) (c2 := 3) (s2 := 3740) (by decide) (by decide) (by decide) rfl rfl ⟨by decide, by decide⟩ dX2_init_25 (fun q3 H G => ?_)
  have G : wg D A s.heap H locs [(h0, .inr (2, [.null, .null, .ref q1, .ref q2, .null, .null, .int 0, .null, .null, .int 0, .int 0, .int 0, .int 0, .int 0, .int 0])),
      (q1, .inl (cZ, 60, .inl (zro))),
      (q2, .inl (cI, 480, .inl (zro))),
      (q3, .inl (cI, 3200, .inl (zro)))] := G
  refine pfin X hin2 K G 0 rfl rfl inX2 tyX2 tyX2_ok nmX2 4 (by decide) q_203 ⟨rfl, rfl, rfl⟩ rfl rfl (ty := (.array .int)) rfl rfl rfl (Nat.le_of_ble_eq_true rfl) dX2_init_27 (fun H locs G => ?_)
  have G : wg D A s.heap H locs [(h0, .inr (2, [.null, .null, .ref q1, .ref q2, .ref q3, .null, .int 0, .null, .null, .int 0, .int 0, .int 0, .int 0, .int 0, .int 0])),
      (q1, .inl (cZ, 60, .inl (zro))),
      (q2, .inl (cI, 480, .inl (zro))),
      (q3, .inl (cI, 3200, .inl (zro)))] := G
  refine lv_aload_n hx hb dX2_init_30 rfl (lv_at hl 0 rfl) ?_
  refine lv_bipush (v := 40) hx hb dX2_init_31 (by decide) ?_
  refine niC X K hA G (wA 161 (by decide +kernel) rfl) (N := 40) (c2 := 4) (s2 := 3780) (by decide) (by decide) (by decide) rfl rfl ⟨by decide, by decide⟩ dX2_init_33 (fun q4 H G => ?_)
  have G : wg D A s.heap H locs [(h0, .inr (2, [.null, .null, .ref q1, .ref q2, .ref q3, .null, .int 0, .null, .null, .int 0, .int 0, .int 0, .int 0, .int 0, .int 0])),
      (q1, .inl (cZ, 60, .inl (zro))),
      (q2, .inl (cI, 480, .inl (zro))),
      (q3, .inl (cI, 3200, .inl (zro))),
      (q4, .inl (cI, 40, .inl (zro)))] := G
  refine pfin X hin2 K G 0 rfl rfl inX2 tyX2 tyX2_ok nmX2 5 (by decide) q_204 ⟨rfl, rfl, rfl⟩ rfl rfl (ty := (.array .int)) rfl rfl rfl (Nat.le_of_ble_eq_true rfl) dX2_init_35 (fun H locs G => ?_)
  have G : wg D A s.heap H locs [(h0, .inr (2, [.null, .null, .ref q1, .ref q2, .ref q3, .ref q4, .int 0, .null, .null, .int 0, .int 0, .int 0, .int 0, .int 0, .int 0])),
      (q1, .inl (cZ, 60, .inl (zro))),
      (q2, .inl (cI, 480, .inl (zro))),
      (q3, .inl (cI, 3200, .inl (zro))),
      (q4, .inl (cI, 40, .inl (zro)))] := G
  refine lv_aload_n hx hb dX2_init_38 rfl (lv_at hl 0 rfl) ?_
  refine lv_iconst (v := 0) hx hb dX2_init_39 (by decide) ?_
  refine pfld X K G 0 rfl rfl inX2 tyX2 tyX2_ok nmX2 6 (by decide) q_205 ⟨rfl, rfl, rfl⟩ rfl (ty := .int) rfl rfl rfl (Nat.le_of_ble_eq_true rfl) rfl dX2_init_40 (fun H locs G => ?_)
  have G : wg D A s.heap H locs [(h0, .inr (2, [.null, .null, .ref q1, .ref q2, .ref q3, .ref q4, .int (0 : Int32), .null, .null, .int 0, .int 0, .int 0, .int 0, .int 0, .int 0])),
      (q1, .inl (cZ, 60, .inl (zro))),
      (q2, .inl (cI, 480, .inl (zro))),
      (q3, .inl (cI, 3200, .inl (zro))),
      (q4, .inl (cI, 40, .inl (zro)))] := G
  refine lv_aload_n hx hb dX2_init_43 rfl (lv_at hl 0 rfl) ?_
  refine lv_iconst (v := 5) hx hb dX2_init_44 (by decide) ?_
  refine niC X K hA G (wA 161 (by decide +kernel) rfl) (N := 5) (c2 := 5) (s2 := 3785) (by decide) (by decide) (by decide) rfl rfl ⟨by decide, by decide⟩ dX2_init_45 (fun q5 H G => ?_)
  have G : wg D A s.heap H locs [(h0, .inr (2, [.null, .null, .ref q1, .ref q2, .ref q3, .ref q4, .int (0 : Int32), .null, .null, .int 0, .int 0, .int 0, .int 0, .int 0, .int 0])),
      (q1, .inl (cZ, 60, .inl (zro))),
      (q2, .inl (cI, 480, .inl (zro))),
      (q3, .inl (cI, 3200, .inl (zro))),
      (q4, .inl (cI, 40, .inl (zro))),
      (q5, .inl (cI, 5, .inl (zro)))] := G
  refine pfin X hin2 K G 0 rfl rfl inX2 tyX2 tyX2_ok nmX2 7 (by decide) q_206 ⟨rfl, rfl, rfl⟩ rfl rfl (ty := (.array .int)) rfl rfl rfl (Nat.le_of_ble_eq_true rfl) dX2_init_47 (fun H locs G => ?_)
  have G : wg D A s.heap H locs [(h0, .inr (2, [.null, .null, .ref q1, .ref q2, .ref q3, .ref q4, .int (0 : Int32), .ref q5, .null, .int 0, .int 0, .int 0, .int 0, .int 0, .int 0])),
      (q1, .inl (cZ, 60, .inl (zro))),
      (q2, .inl (cI, 480, .inl (zro))),
      (q3, .inl (cI, 3200, .inl (zro))),
      (q4, .inl (cI, 40, .inl (zro))),
      (q5, .inl (cI, 5, .inl (zro)))] := G
  refine lv_aload_n hx hb dX2_init_50 rfl (lv_at hl 0 rfl) ?_
  refine lv_bipush (v := 8) hx hb dX2_init_51 (by decide) ?_
  refine niC X K hA G (wA 161 (by decide +kernel) rfl) (N := 8) (c2 := 6) (s2 := 3793) (by decide) (by decide) (by decide) rfl rfl ⟨by decide, by decide⟩ dX2_init_53 (fun q6 H G => ?_)
  have G : wg D A s.heap H locs [(h0, .inr (2, [.null, .null, .ref q1, .ref q2, .ref q3, .ref q4, .int (0 : Int32), .ref q5, .null, .int 0, .int 0, .int 0, .int 0, .int 0, .int 0])),
      (q1, .inl (cZ, 60, .inl (zro))),
      (q2, .inl (cI, 480, .inl (zro))),
      (q3, .inl (cI, 3200, .inl (zro))),
      (q4, .inl (cI, 40, .inl (zro))),
      (q5, .inl (cI, 5, .inl (zro))),
      (q6, .inl (cI, 8, .inl (zro)))] := G
  refine pfin X hin2 K G 0 rfl rfl inX2 tyX2 tyX2_ok nmX2 8 (by decide) q_207 ⟨rfl, rfl, rfl⟩ rfl rfl (ty := (.array .int)) rfl rfl rfl (Nat.le_of_ble_eq_true rfl) dX2_init_55 (fun H locs G => ?_)
  have G : wg D A s.heap H locs [(h0, .inr (2, [.null, .null, .ref q1, .ref q2, .ref q3, .ref q4, .int (0 : Int32), .ref q5, .ref q6, .int 0, .int 0, .int 0, .int 0, .int 0, .int 0])),
      (q1, .inl (cZ, 60, .inl (zro))),
      (q2, .inl (cI, 480, .inl (zro))),
      (q3, .inl (cI, 3200, .inl (zro))),
      (q4, .inl (cI, 40, .inl (zro))),
      (q5, .inl (cI, 5, .inl (zro))),
      (q6, .inl (cI, 8, .inl (zro)))] := G
  refine lv_aload_n hx hb dX2_init_58 rfl (lv_at hl 0 rfl) ?_
  refine lv_iconst (v := 0) hx hb dX2_init_59 (by decide) ?_
  refine pfld X K G 0 rfl rfl inX2 tyX2 tyX2_ok nmX2 9 (by decide) q_209 ⟨rfl, rfl, rfl⟩ rfl (ty := .int) rfl rfl rfl (Nat.le_of_ble_eq_true rfl) rfl dX2_init_60 (fun H locs G => ?_)
  have G : wg D A s.heap H locs [(h0, .inr (2, [.null, .null, .ref q1, .ref q2, .ref q3, .ref q4, .int (0 : Int32), .ref q5, .ref q6, .int (0 : Int32), .int 0, .int 0, .int 0, .int 0, .int 0])),
      (q1, .inl (cZ, 60, .inl (zro))),
      (q2, .inl (cI, 480, .inl (zro))),
      (q3, .inl (cI, 3200, .inl (zro))),
      (q4, .inl (cI, 40, .inl (zro))),
      (q5, .inl (cI, 5, .inl (zro))),
      (q6, .inl (cI, 8, .inl (zro)))] := G
  refine lv_aload_n hx hb dX2_init_63 rfl (lv_at hl 0 rfl) ?_
  refine lv_iconst (v := 0) hx hb dX2_init_64 (by decide) ?_
  refine pfld X K G 0 rfl rfl inX2 tyX2 tyX2_ok nmX2 10 (by decide) q_211 ⟨rfl, rfl, rfl⟩ rfl (ty := .int) rfl rfl rfl (Nat.le_of_ble_eq_true rfl) rfl dX2_init_65 (fun H locs G => ?_)
  have G : wg D A s.heap H locs [(h0, .inr (2, [.null, .null, .ref q1, .ref q2, .ref q3, .ref q4, .int (0 : Int32), .ref q5, .ref q6, .int (0 : Int32), .int (0 : Int32), .int 0, .int 0, .int 0, .int 0])),
      (q1, .inl (cZ, 60, .inl (zro))),
      (q2, .inl (cI, 480, .inl (zro))),
      (q3, .inl (cI, 3200, .inl (zro))),
      (q4, .inl (cI, 40, .inl (zro))),
      (q5, .inl (cI, 5, .inl (zro))),
      (q6, .inl (cI, 8, .inl (zro)))] := G
  refine lv_aload_n hx hb dX2_init_68 rfl (lv_at hl 0 rfl) ?_
  refine lv_iconst (v := -1) hx hb dX2_init_69 (by decide) ?_
  refine pfld X K G 0 rfl rfl inX2 tyX2 tyX2_ok nmX2 11 (by decide) q_213 ⟨rfl, rfl, rfl⟩ rfl (ty := .int) rfl rfl rfl (Nat.le_of_ble_eq_true rfl) rfl dX2_init_70 (fun H locs G => ?_)
  have G : wg D A s.heap H locs [(h0, .inr (2, [.null, .null, .ref q1, .ref q2, .ref q3, .ref q4, .int (0 : Int32), .ref q5, .ref q6, .int (0 : Int32), .int (0 : Int32), .int (-1 : Int32), .int 0, .int 0, .int 0])),
      (q1, .inl (cZ, 60, .inl (zro))),
      (q2, .inl (cI, 480, .inl (zro))),
      (q3, .inl (cI, 3200, .inl (zro))),
      (q4, .inl (cI, 40, .inl (zro))),
      (q5, .inl (cI, 5, .inl (zro))),
      (q6, .inl (cI, 8, .inl (zro)))] := G
  refine lv_aload_n hx hb dX2_init_73 rfl (lv_at hl 0 rfl) ?_
  refine lv_iconst (v := 0) hx hb dX2_init_74 (by decide) ?_
  refine pfld X K G 0 rfl rfl inX2 tyX2 tyX2_ok nmX2 12 (by decide) q_215 ⟨rfl, rfl, rfl⟩ rfl (ty := .int) rfl rfl rfl (Nat.le_of_ble_eq_true rfl) rfl dX2_init_75 (fun H locs G => ?_)
  have G : wg D A s.heap H locs [(h0, .inr (2, [.null, .null, .ref q1, .ref q2, .ref q3, .ref q4, .int (0 : Int32), .ref q5, .ref q6, .int (0 : Int32), .int (0 : Int32), .int (-1 : Int32), .int (0 : Int32), .int 0, .int 0])),
      (q1, .inl (cZ, 60, .inl (zro))),
      (q2, .inl (cI, 480, .inl (zro))),
      (q3, .inl (cI, 3200, .inl (zro))),
      (q4, .inl (cI, 40, .inl (zro))),
      (q5, .inl (cI, 5, .inl (zro))),
      (q6, .inl (cI, 8, .inl (zro)))] := G
  refine lv_aload_n hx hb dX2_init_78 rfl (lv_at hl 0 rfl) ?_
  refine lv_iconst (v := 0) hx hb dX2_init_79 (by decide) ?_
  refine pfld X K G 0 rfl rfl inX2 tyX2 tyX2_ok nmX2 13 (by decide) q_217 ⟨rfl, rfl, rfl⟩ rfl (ty := .int) rfl rfl rfl (Nat.le_of_ble_eq_true rfl) rfl dX2_init_80 (fun H locs G => ?_)
  have G : wg D A s.heap H locs [(h0, .inr (2, [.null, .null, .ref q1, .ref q2, .ref q3, .ref q4, .int (0 : Int32), .ref q5, .ref q6, .int (0 : Int32), .int (0 : Int32), .int (-1 : Int32), .int (0 : Int32), .int (0 : Int32), .int 0])),
      (q1, .inl (cZ, 60, .inl (zro))),
      (q2, .inl (cI, 480, .inl (zro))),
      (q3, .inl (cI, 3200, .inl (zro))),
      (q4, .inl (cI, 40, .inl (zro))),
      (q5, .inl (cI, 5, .inl (zro))),
      (q6, .inl (cI, 8, .inl (zro)))] := G
  refine lv_aload_n hx hb dX2_init_83 rfl (lv_at hl 0 rfl) ?_
  refine lv_iconst (v := 0) hx hb dX2_init_84 (by decide) ?_
  refine pfld X K G 0 rfl rfl inX2 tyX2 tyX2_ok nmX2 14 (by decide) q_219 ⟨rfl, rfl, rfl⟩ rfl (ty := .int) rfl rfl rfl (Nat.le_of_ble_eq_true rfl) rfl dX2_init_85 (fun H locs G => ?_)
  have G : wg D A s.heap H locs [(h0, .inr (2, [.null, .null, .ref q1, .ref q2, .ref q3, .ref q4, .int (0 : Int32), .ref q5, .ref q6, .int (0 : Int32), .int (0 : Int32), .int (-1 : Int32), .int (0 : Int32), .int (0 : Int32), .int (0 : Int32)])),
      (q1, .inl (cZ, 60, .inl (zro))),
      (q2, .inl (cI, 480, .inl (zro))),
      (q3, .inl (cI, 3200, .inl (zro))),
      (q4, .inl (cI, 40, .inl (zro))),
      (q5, .inl (cI, 5, .inl (zro))),
      (q6, .inl (cI, 8, .inl (zro)))] := G
  refine lv_aload_n hx hb dX2_init_88 rfl (lv_at hl 0 rfl) ?_
  refine lv_aload_n hx hb dX2_init_89 rfl (lv_at hl 1 rfl) ?_
  refine pfin X hin2 K G 0 rfl rfl inX2 tyX2 tyX2_ok nmX2 0 (by decide) q_199 ⟨rfl, rfl, rfl⟩ rfl rfl (ty := (.object "ToolDays$Town")) rfl rfl rfl (Nat.le_of_ble_eq_true rfl) dX2_init_90 (fun H locs G => ?_)
  have G : wg D A s.heap H locs [(h0, .inr (2, [.ref p1, .null, .ref q1, .ref q2, .ref q3, .ref q4, .int (0 : Int32), .ref q5, .ref q6, .int (0 : Int32), .int (0 : Int32), .int (-1 : Int32), .int (0 : Int32), .int (0 : Int32), .int (0 : Int32)])),
      (q1, .inl (cZ, 60, .inl (zro))),
      (q2, .inl (cI, 480, .inl (zro))),
      (q3, .inl (cI, 3200, .inl (zro))),
      (q4, .inl (cI, 40, .inl (zro))),
      (q5, .inl (cI, 5, .inl (zro))),
      (q6, .inl (cI, 8, .inl (zro)))] := G
  refine lv_aload_n hx hb dX2_init_93 rfl (lv_at hl 0 rfl) ?_
  refine lv_aload_n hx hb dX2_init_94 rfl (lv_at hl 2 rfl) ?_
  refine pfin X hin2 K G 0 rfl rfl inX2 tyX2 tyX2_ok nmX2 1 (by decide) q_200 ⟨rfl, rfl, rfl⟩ rfl rfl (ty := (.object "ToolDays$Almanac")) rfl rfl rfl (Nat.le_of_ble_eq_true rfl) dX2_init_95 (fun H locs G => ?_)
  have G : wg D A s.heap H locs [(h0, .inr (2, [.ref p1, .ref p2, .ref q1, .ref q2, .ref q3, .ref q4, .int (0 : Int32), .ref q5, .ref q6, .int (0 : Int32), .int (0 : Int32), .int (-1 : Int32), .int (0 : Int32), .int (0 : Int32), .int (0 : Int32)])),
      (q1, .inl (cZ, 60, .inl (zro))),
      (q2, .inl (cI, 480, .inl (zro))),
      (q3, .inl (cI, 3200, .inl (zro))),
      (q4, .inl (cI, 40, .inl (zro))),
      (q5, .inl (cI, 5, .inl (zro))),
      (q6, .inl (cI, 8, .inl (zro)))] := G
  exact reC X (fun k => [q1, q2, q3, q4, q5, q6].getD k 0) G dX2_init_98
set_option maxHeartbeats 4000000 in
set_option maxRecDepth 100000 in
theorem i_X4 (l : Launch) (D : va_G) (cI cZ cQ : ClassId) (adK adV : Nat → Nat) (A : Nat → Prop) (h0 p1 p2 : Nat) : MC l D cI cZ cQ adK adV A yX4_init cX4_init 3 { frames := 1, cells := 0, slots := 0, locals := 40 } [.ref h0, .ref p1, .ref p2] [(h0, .inr (4, [.null, .null, .int 0, .int 0, .int 0, .int 0]))] (fun a => [(h0, .inr (4, [.ref p1, .ref p2, .int (0 : Int32), .int (0 : Int32), .int (0 : Int32), .int (0 : Int32)]))]) 0 0 := by
  refine entC (by decide) rfl (Nat.le_of_ble_eq_true rfl) ?_
  intro p e s m below meth c ls X hin2 K hA hO G hl
  have hx := X.1
  have hb := X.2.1
  refine lv_aload_n hx hb dX4_init_0 rfl (lv_at hl 0 rfl) ?_
  refine obC X hl.1 q_258 (wA 93 (by decide +kernel) rfl) (wA 94 (by decide +kernel) rfl) (by decide) (by decide) dX4_init_1 ?_
  refine lv_aload_n hx hb dX4_init_4 rfl (lv_at hl 0 rfl) ?_
  refine lv_iconst (v := 0) hx hb dX4_init_5 (by decide) ?_
  refine pfld X K G 0 rfl rfl inX4 tyX4 tyX4_ok nmX4 2 (by decide) q_261 ⟨rfl, rfl, rfl⟩ rfl (ty := .int) rfl rfl rfl (Nat.le_of_ble_eq_true rfl) rfl dX4_init_6 (fun H locs G => ?_)
  have G : wg D A s.heap H locs [(h0, .inr (4, [.null, .null, .int (0 : Int32), .int 0, .int 0, .int 0]))] := G
  refine lv_aload_n hx hb dX4_init_9 rfl (lv_at hl 0 rfl) ?_
  refine lv_iconst (v := 0) hx hb dX4_init_10 (by decide) ?_
  refine pfld X K G 0 rfl rfl inX4 tyX4 tyX4_ok nmX4 3 (by decide) q_262 ⟨rfl, rfl, rfl⟩ rfl (ty := .int) rfl rfl rfl (Nat.le_of_ble_eq_true rfl) rfl dX4_init_11 (fun H locs G => ?_)
  have G : wg D A s.heap H locs [(h0, .inr (4, [.null, .null, .int (0 : Int32), .int (0 : Int32), .int 0, .int 0]))] := G
  refine lv_aload_n hx hb dX4_init_14 rfl (lv_at hl 0 rfl) ?_
  refine lv_iconst (v := 0) hx hb dX4_init_15 (by decide) ?_
  refine pfld X K G 0 rfl rfl inX4 tyX4 tyX4_ok nmX4 4 (by decide) q_263 ⟨rfl, rfl, rfl⟩ rfl (ty := .int) rfl rfl rfl (Nat.le_of_ble_eq_true rfl) rfl dX4_init_16 (fun H locs G => ?_)
  have G : wg D A s.heap H locs [(h0, .inr (4, [.null, .null, .int (0 : Int32), .int (0 : Int32), .int (0 : Int32), .int 0]))] := G
  refine lv_aload_n hx hb dX4_init_19 rfl (lv_at hl 0 rfl) ?_
  refine lv_iconst (v := 0) hx hb dX4_init_20 (by decide) ?_
  refine pfld X K G 0 rfl rfl inX4 tyX4 tyX4_ok nmX4 5 (by decide) q_264 ⟨rfl, rfl, rfl⟩ rfl (ty := .int) rfl rfl rfl (Nat.le_of_ble_eq_true rfl) rfl dX4_init_21 (fun H locs G => ?_)
  have G : wg D A s.heap H locs [(h0, .inr (4, [.null, .null, .int (0 : Int32), .int (0 : Int32), .int (0 : Int32), .int (0 : Int32)]))] := G
  refine lv_aload_n hx hb dX4_init_24 rfl (lv_at hl 0 rfl) ?_
  refine lv_aload_n hx hb dX4_init_25 rfl (lv_at hl 1 rfl) ?_
  refine pfin X hin2 K G 0 rfl rfl inX4 tyX4 tyX4_ok nmX4 0 (by decide) q_259 ⟨rfl, rfl, rfl⟩ rfl rfl (ty := (.object "ToolDays$Tape")) rfl rfl rfl (Nat.le_of_ble_eq_true rfl) dX4_init_26 (fun H locs G => ?_)
  have G : wg D A s.heap H locs [(h0, .inr (4, [.ref p1, .null, .int (0 : Int32), .int (0 : Int32), .int (0 : Int32), .int (0 : Int32)]))] := G
  refine lv_aload_n hx hb dX4_init_29 rfl (lv_at hl 0 rfl) ?_
  refine lv_aload_n hx hb dX4_init_30 rfl (lv_at hl 2 rfl) ?_
  refine pfin X hin2 K G 0 rfl rfl inX4 tyX4 tyX4_ok nmX4 1 (by decide) q_260 ⟨rfl, rfl, rfl⟩ rfl rfl (ty := (.object "ToolDays$Town")) rfl rfl rfl (Nat.le_of_ble_eq_true rfl) dX4_init_31 (fun H locs G => ?_)
  have G : wg D A s.heap H locs [(h0, .inr (4, [.ref p1, .ref p2, .int (0 : Int32), .int (0 : Int32), .int (0 : Int32), .int (0 : Int32)]))] := G
  exact reC X (fun k => [].getD k 0) G dX4_init_34
