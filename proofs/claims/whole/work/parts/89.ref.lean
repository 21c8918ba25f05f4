set_option maxHeartbeats 4000000 in
set_option maxRecDepth 100000 in
theorem i_X7 (l : Launch) (D : va_G) (cI cZ cQ : ClassId) (adK adV : Nat → Nat) (A : Nat → Prop) (h0 : Nat) : MC l D cI cZ cQ adK adV A yX7_init cX7_init 2 { frames := 1, cells := 10, slots := 4244, locals := 40 } [.ref h0] [(h0, .inr (7, [.null, .null, .int 0, .null, .null, .int 0, .int 0, .int 0, .int 0, .int 0, .int 0, .null, .null, .null, .int 0, .int 0, .int 0, .null, .null, .null]))] (fun a => [(h0, .inr (7, [.ref (a 0), .ref (a 1), .int 0, .ref (a 2), .ref (a 3), .int 0, .int 0, .int 0, .int 0, .int 0, .int 0, .ref (a 4), .ref (a 5), .ref (a 6), .int 0, .int 0, .int 0, .ref (a 7), .ref (a 8), .ref (a 9)])),
    ((a 0), .inl (cI, 247, .inl (m0))),
    ((a 1), .inl (cI, 247, .inl (zro))),
    ((a 2), .inl (cI, 7, .inl (zro))),
    ((a 3), .inl (cI, 120, .inl (zro))),
    ((a 4), .inl (cI, 247, .inl (zro))),
    ((a 5), .inl (cI, 8, .inl (zro))),
    ((a 6), .inl (cI, 3200, .inl (zro))),
    ((a 7), .inl (cI, 4, .inl (zro))),
    ((a 8), .inl (cI, 4, .inl (zro))),
    ((a 9), .inl (cI, 160, .inl (zro)))]) 10 4244 := by
  refine entC (by decide) rfl (Nat.le_of_ble_eq_true rfl) ?_
  intro p e s m below meth c ls X hin2 K hA hO G hl
  have hx := X.1
  have hb := X.2.1
  refine lv_aload_n hx hb dX7_init_0 rfl (lv_at hl 0 rfl) ?_
  refine obC X hl.1 q_905 (wA 93 (by decide +kernel) rfl) (wA 94 (by decide +kernel) rfl) (by decide) (by decide) dX7_init_1 ?_
  refine lv_aload_n hx hb dX7_init_4 rfl (lv_at hl 0 rfl) ?_
  refine lv_sipush (v := 247) hx hb dX7_init_5 (by decide) ?_
  refine niC X K hA G (wA 161 (by decide +kernel) rfl) (N := 247) (c2 := 1) (s2 := 247) (by decide) (by decide) (by decide) rfl rfl ⟨by decide, by decide⟩ dX7_init_8 (fun q1 H G => ?_)
  have G : wg D A s.heap H [] [(h0, .inr (7, [.null, .null, .int 0, .null, .null, .int 0, .int 0, .int 0, .int 0, .int 0, .int 0, .null, .null, .null, .int 0, .int 0, .int 0, .null, .null, .null])),
      (q1, .inl (cI, 247, .inl (zro)))] := G
  refine pfin X hin2 K G 0 rfl rfl inX7 tyX7 tyX7_ok nmX7 0 (by decide) q_906 ⟨rfl, rfl, rfl⟩ rfl rfl (ty := (.array .int)) rfl rfl rfl (Nat.le_of_ble_eq_true rfl) dX7_init_10 (fun H locs G => ?_)
  have G : wg D A s.heap H locs [(h0, .inr (7, [.ref q1, .null, .int 0, .null, .null, .int 0, .int 0, .int 0, .int 0, .int 0, .int 0, .null, .null, .null, .int 0, .int 0, .int 0, .null, .null, .null])),
      (q1, .inl (cI, 247, .inl (zro)))] := G
  refine lv_aload_n hx hb dX7_init_13 rfl (lv_at hl 0 rfl) ?_
  refine lv_sipush (v := 247) hx hb dX7_init_14 (by decide) ?_
  refine niC X K hA G (wA 161 (by decide +kernel) rfl) (N := 247) (c2 := 2) (s2 := 494) (by decide) (by decide) (by decide) rfl rfl ⟨by decide, by decide⟩ dX7_init_17 (fun q2 H G => ?_)
  have G : wg D A s.heap H locs [(h0, .inr (7, [.ref q1, .null, .int 0, .null, .null, .int 0, .int 0, .int 0, .int 0, .int 0, .int 0, .null, .null, .null, .int 0, .int 0, .int 0, .null, .null, .null])),
      (q1, .inl (cI, 247, .inl (zro))),
      (q2, .inl (cI, 247, .inl (zro)))] := G
  refine pfin X hin2 K G 0 rfl rfl inX7 tyX7 tyX7_ok nmX7 1 (by decide) q_907 ⟨rfl, rfl, rfl⟩ rfl rfl (ty := (.array .int)) rfl rfl rfl (Nat.le_of_ble_eq_true rfl) dX7_init_19 (fun H locs G => ?_)
  have G : wg D A s.heap H locs [(h0, .inr (7, [.ref q1, .ref q2, .int 0, .null, .null, .int 0, .int 0, .int 0, .int 0, .int 0, .int 0, .null, .null, .null, .int 0, .int 0, .int 0, .null, .null, .null])),
      (q1, .inl (cI, 247, .inl (zro))),
      (q2, .inl (cI, 247, .inl (zro)))] := G
  refine lv_aload_n hx hb dX7_init_22 rfl (lv_at hl 0 rfl) ?_
  refine lv_bipush (v := 7) hx hb dX7_init_23 (by decide) ?_
  refine niC X K hA G (wA 161 (by decide +kernel) rfl) (N := 7) (c2 := 3) (s2 := 501) (by decide) (by decide) (by decide) rfl rfl ⟨by decide, by decide⟩ dX7_init_25 (fun q3 H G => ?_)
  have G : wg D A s.heap H locs [(h0, .inr (7, [.ref q1, .ref q2, .int 0, .null, .null, .int 0, .int 0, .int 0, .int 0, .int 0, .int 0, .null, .null, .null, .int 0, .int 0, .int 0, .null, .null, .null])),
      (q1, .inl (cI, 247, .inl (zro))),
      (q2, .inl (cI, 247, .inl (zro))),
      (q3, .inl (cI, 7, .inl (zro)))] := G
  refine pfin X hin2 K G 0 rfl rfl inX7 tyX7 tyX7_ok nmX7 3 (by decide) q_909 ⟨rfl, rfl, rfl⟩ rfl rfl (ty := (.array .int)) rfl rfl rfl (Nat.le_of_ble_eq_true rfl) dX7_init_27 (fun H locs G => ?_)
  have G : wg D A s.heap H locs [(h0, .inr (7, [.ref q1, .ref q2, .int 0, .ref q3, .null, .int 0, .int 0, .int 0, .int 0, .int 0, .int 0, .null, .null, .null, .int 0, .int 0, .int 0, .null, .null, .null])),
      (q1, .inl (cI, 247, .inl (zro))),
      (q2, .inl (cI, 247, .inl (zro))),
      (q3, .inl (cI, 7, .inl (zro)))] := G
  refine lv_aload_n hx hb dX7_init_30 rfl (lv_at hl 0 rfl) ?_
  refine lv_bipush (v := 120) hx hb dX7_init_31 (by decide) ?_
  refine niC X K hA G (wA 161 (by decide +kernel) rfl) (N := 120) (c2 := 4) (s2 := 621) (by decide) (by decide) (by decide) rfl rfl ⟨by decide, by decide⟩ dX7_init_33 (fun q4 H G => ?_)
  have G : wg D A s.heap H locs [(h0, .inr (7, [.ref q1, .ref q2, .int 0, .ref q3, .null, .int 0, .int 0, .int 0, .int 0, .int 0, .int 0, .null, .null, .null, .int 0, .int 0, .int 0, .null, .null, .null])),
      (q1, .inl (cI, 247, .inl (zro))),
      (q2, .inl (cI, 247, .inl (zro))),
      (q3, .inl (cI, 7, .inl (zro))),
      (q4, .inl (cI, 120, .inl (zro)))] := G
  refine pfin X hin2 K G 0 rfl rfl inX7 tyX7 tyX7_ok nmX7 4 (by decide) q_910 ⟨rfl, rfl, rfl⟩ rfl rfl (ty := (.array .int)) rfl rfl rfl (Nat.le_of_ble_eq_true rfl) dX7_init_35 (fun H locs G => ?_)
  have G : wg D A s.heap H locs [(h0, .inr (7, [.ref q1, .ref q2, .int 0, .ref q3, .ref q4, .int 0, .int 0, .int 0, .int 0, .int 0, .int 0, .null, .null, .null, .int 0, .int 0, .int 0, .null, .null, .null])),
      (q1, .inl (cI, 247, .inl (zro))),
      (q2, .inl (cI, 247, .inl (zro))),
      (q3, .inl (cI, 7, .inl (zro))),
      (q4, .inl (cI, 120, .inl (zro)))] := G
  refine lv_aload_n hx hb dX7_init_38 rfl (lv_at hl 0 rfl) ?_
  refine lv_sipush (v := 247) hx hb dX7_init_39 (by decide) ?_
  refine niC X K hA G (wA 161 (by decide +kernel) rfl) (N := 247) (c2 := 5) (s2 := 868) (by decide) (by decide) (by decide) rfl rfl ⟨by decide, by decide⟩ dX7_init_42 (fun q5 H G => ?_)
  have G : wg D A s.heap H locs [(h0, .inr (7, [.ref q1, .ref q2, .int 0, .ref q3, .ref q4, .int 0, .int 0, .int 0, .int 0, .int 0, .int 0, .null, .null, .null, .int 0, .int 0, .int 0, .null, .null, .null])),
      (q1, .inl (cI, 247, .inl (zro))),
      (q2, .inl (cI, 247, .inl (zro))),
      (q3, .inl (cI, 7, .inl (zro))),
      (q4, .inl (cI, 120, .inl (zro))),
      (q5, .inl (cI, 247, .inl (zro)))] := G
  refine pfin X hin2 K G 0 rfl rfl inX7 tyX7 tyX7_ok nmX7 11 (by decide) q_917 ⟨rfl, rfl, rfl⟩ rfl rfl (ty := (.array .int)) rfl rfl rfl (Nat.le_of_ble_eq_true rfl) dX7_init_44 (fun H locs G => ?_)
  have G : wg D A s.heap H locs [(h0, .inr (7, [.ref q1, .ref q2, .int 0, .ref q3, .ref q4, .int 0, .int 0, .int 0, .int 0, .int 0, .int 0, .ref q5, .null, .null, .int 0, .int 0, .int 0, .null, .null, .null])),
      (q1, .inl (cI, 247, .inl (zro))),
      (q2, .inl (cI, 247, .inl (zro))),
      (q3, .inl (cI, 7, .inl (zro))),
      (q4, .inl (cI, 120, .inl (zro))),
      (q5, .inl (cI, 247, .inl (zro)))] := G
  refine lv_aload_n hx hb dX7_init_47 rfl (lv_at hl 0 rfl) ?_
  refine lv_bipush (v := 8) hx hb dX7_init_48 (by decide) ?_
  refine niC X K hA G (wA 161 (by decide +kernel) rfl) (N := 8) (c2 := 6) (s2 := 876) (by decide) (by decide) (by decide) rfl rfl ⟨by decide, by decide⟩ dX7_init_50 (fun q6 H G => ?_)
  have G : wg D A s.heap H locs [(h0, .inr (7, [.ref q1, .ref q2, .int 0, .ref q3, .ref q4, .int 0, .int 0, .int 0, .int 0, .int 0, .int 0, .ref q5, .null, .null, .int 0, .int 0, .int 0, .null, .null, .null])),
      (q1, .inl (cI, 247, .inl (zro))),
      (q2, .inl (cI, 247, .inl (zro))),
      (q3, .inl (cI, 7, .inl (zro))),
      (q4, .inl (cI, 120, .inl (zro))),
      (q5, .inl (cI, 247, .inl (zro))),
      (q6, .inl (cI, 8, .inl (zro)))] := G
  refine pfin X hin2 K G 0 rfl rfl inX7 tyX7 tyX7_ok nmX7 12 (by decide) q_918 ⟨rfl, rfl, rfl⟩ rfl rfl (ty := (.array .int)) rfl rfl rfl (Nat.le_of_ble_eq_true rfl) dX7_init_52 (fun H locs G => ?_)
  have G : wg D A s.heap H locs [(h0, .inr (7, [.ref q1, .ref q2, .int 0, .ref q3, .ref q4, .int 0, .int 0, .int 0, .int 0, .int 0, .int 0, .ref q5, .ref q6, .null, .int 0, .int 0, .int 0, .null, .null, .null])),
      (q1, .inl (cI, 247, .inl (zro))),
      (q2, .inl (cI, 247, .inl (zro))),
      (q3, .inl (cI, 7, .inl (zro))),
      (q4, .inl (cI, 120, .inl (zro))),
      (q5, .inl (cI, 247, .inl (zro))),
      (q6, .inl (cI, 8, .inl (zro)))] := G
  refine lv_aload_n hx hb dX7_init_55 rfl (lv_at hl 0 rfl) ?_
  refine lv_sipush (v := 3200) hx hb dX7_init_56 (by decide) ?_
  refine niC X K hA G (wA 161 (by decide +kernel) rfl) (N := 3200) (c2 := 7) (s2 := 4076) (by decide) (by decide) (by decide) rfl rfl ⟨by decide, by decide⟩ dX7_init_59 (fun q7 H G => ?_)
  have G : wg D A s.heap H locs [(h0, .inr (7, [.ref q1, .ref q2, .int 0, .ref q3, .ref q4, .int 0, .int 0, .int 0, .int 0, .int 0, .int 0, .ref q5, .ref q6, .null, .int 0, .int 0, .int 0, .null, .null, .null])),
      (q1, .inl (cI, 247, .inl (zro))),
      (q2, .inl (cI, 247, .inl (zro))),
      (q3, .inl (cI, 7, .inl (zro))),
      (q4, .inl (cI, 120, .inl (zro))),
      (q5, .inl (cI, 247, .inl (zro))),
      (q6, .inl (cI, 8, .inl (zro))),
      (q7, .inl (cI, 3200, .inl (zro)))] := G
  refine pfin X hin2 K G 0 rfl rfl inX7 tyX7 tyX7_ok nmX7 13 (by decide) q_919 ⟨rfl, rfl, rfl⟩ rfl rfl (ty := (.array .int)) rfl rfl rfl (Nat.le_of_ble_eq_true rfl) dX7_init_61 (fun H locs G => ?_)
  have G : wg D A s.heap H locs [(h0, .inr (7, [.ref q1, .ref q2, .int 0, .ref q3, .ref q4, .int 0, .int 0, .int 0, .int 0, .int 0, .int 0, .ref q5, .ref q6, .ref q7, .int 0, .int 0, .int 0, .null, .null, .null])),
      (q1, .inl (cI, 247, .inl (zro))),
      (q2, .inl (cI, 247, .inl (zro))),
      (q3, .inl (cI, 7, .inl (zro))),
      (q4, .inl (cI, 120, .inl (zro))),
      (q5, .inl (cI, 247, .inl (zro))),
      (q6, .inl (cI, 8, .inl (zro))),
      (q7, .inl (cI, 3200, .inl (zro)))] := G
  refine lv_aload_n hx hb dX7_init_64 rfl (lv_at hl 0 rfl) ?_
  refine lv_iconst (v := 4) hx hb dX7_init_65 (by decide) ?_
  refine niC X K hA G (wA 161 (by decide +kernel) rfl) (N := 4) (c2 := 8) (s2 := 4080) (by decide) (by decide) (by decide) rfl rfl ⟨by decide, by decide⟩ dX7_init_66 (fun q8 H G => ?_)
  have G : wg D A s.heap H locs [(h0, .inr (7, [.ref q1, .ref q2, .int 0, .ref q3, .ref q4, .int 0, .int 0, .int 0, .int 0, .int 0, .int 0, .ref q5, .ref q6, .ref q7, .int 0, .int 0, .int 0, .null, .null, .null])),
      (q1, .inl (cI, 247, .inl (zro))),
      (q2, .inl (cI, 247, .inl (zro))),
      (q3, .inl (cI, 7, .inl (zro))),
      (q4, .inl (cI, 120, .inl (zro))),
      (q5, .inl (cI, 247, .inl (zro))),
      (q6, .inl (cI, 8, .inl (zro))),
      (q7, .inl (cI, 3200, .inl (zro))),
      (q8, .inl (cI, 4, .inl (zro)))] := G
  refine pfin X hin2 K G 0 rfl rfl inX7 tyX7 tyX7_ok nmX7 17 (by decide) q_923 ⟨rfl, rfl, rfl⟩ rfl rfl (ty := (.array .int)) rfl rfl rfl (Nat.le_of_ble_eq_true rfl) dX7_init_68 (fun H locs G => ?_)
  have G : wg D A s.heap H locs [(h0, .inr (7, [.ref q1, .ref q2, .int 0, .ref q3, .ref q4, .int 0, .int 0, .int 0, .int 0, .int 0, .int 0, .ref q5, .ref q6, .ref q7, .int 0, .int 0, .int 0, .ref q8, .null, .null])),
      (q1, .inl (cI, 247, .inl (zro))),
      (q2, .inl (cI, 247, .inl (zro))),
      (q3, .inl (cI, 7, .inl (zro))),
      (q4, .inl (cI, 120, .inl (zro))),
      (q5, .inl (cI, 247, .inl (zro))),
      (q6, .inl (cI, 8, .inl (zro))),
      (q7, .inl (cI, 3200, .inl (zro))),
      (q8, .inl (cI, 4, .inl (zro)))] := G
  refine lv_aload_n hx hb dX7_init_71 rfl (lv_at hl 0 rfl) ?_
  refine lv_iconst (v := 4) hx hb dX7_init_72 (by decide) ?_
  refine niC X K hA G (wA 161 (by decide +kernel) rfl) (N := 4) (c2 := 9) (s2 := 4084) (by decide) (by decide) (by decide) rfl rfl ⟨by decide, by decide⟩ dX7_init_73 (fun q9 H G => ?_)
  have G : wg D A s.heap H locs [(h0, .inr (7, [.ref q1, .ref q2, .int 0, .ref q3, .ref q4, .int 0, .int 0, .int 0, .int 0, .int 0, .int 0, .ref q5, .ref q6, .ref q7, .int 0, .int 0, .int 0, .ref q8, .null, .null])),
      (q1, .inl (cI, 247, .inl (zro))),
      (q2, .inl (cI, 247, .inl (zro))),
      (q3, .inl (cI, 7, .inl (zro))),
      (q4, .inl (cI, 120, .inl (zro))),
      (q5, .inl (cI, 247, .inl (zro))),
      (q6, .inl (cI, 8, .inl (zro))),
      (q7, .inl (cI, 3200, .inl (zro))),
      (q8, .inl (cI, 4, .inl (zro))),
      (q9, .inl (cI, 4, .inl (zro)))] := G
  refine pfin X hin2 K G 0 rfl rfl inX7 tyX7 tyX7_ok nmX7 18 (by decide) q_924 ⟨rfl, rfl, rfl⟩ rfl rfl (ty := (.array .int)) rfl rfl rfl (Nat.le_of_ble_eq_true rfl) dX7_init_75 (fun H locs G => ?_)
  have G : wg D A s.heap H locs [(h0, .inr (7, [.ref q1, .ref q2, .int 0, .ref q3, .ref q4, .int 0, .int 0, .int 0, .int 0, .int 0, .int 0, .ref q5, .ref q6, .ref q7, .int 0, .int 0, .int 0, .ref q8, .ref q9, .null])),
      (q1, .inl (cI, 247, .inl (zro))),
      (q2, .inl (cI, 247, .inl (zro))),
      (q3, .inl (cI, 7, .inl (zro))),
      (q4, .inl (cI, 120, .inl (zro))),
      (q5, .inl (cI, 247, .inl (zro))),
      (q6, .inl (cI, 8, .inl (zro))),
      (q7, .inl (cI, 3200, .inl (zro))),
      (q8, .inl (cI, 4, .inl (zro))),
      (q9, .inl (cI, 4, .inl (zro)))] := G
  refine lv_aload_n hx hb dX7_init_78 rfl (lv_at hl 0 rfl) ?_
  refine lv_sipush (v := 160) hx hb dX7_init_79 (by decide) ?_
  refine niC X K hA G (wA 161 (by decide +kernel) rfl) (N := 160) (c2 := 10) (s2 := 4244) (by decide) (by decide) (by decide) rfl rfl ⟨by decide, by decide⟩ dX7_init_82 (fun q10 H G => ?_)
  have G : wg D A s.heap H locs [(h0, .inr (7, [.ref q1, .ref q2, .int 0, .ref q3, .ref q4, .int 0, .int 0, .int 0, .int 0, .int 0, .int 0, .ref q5, .ref q6, .ref q7, .int 0, .int 0, .int 0, .ref q8, .ref q9, .null])),
      (q1, .inl (cI, 247, .inl (zro))),
      (q2, .inl (cI, 247, .inl (zro))),
      (q3, .inl (cI, 7, .inl (zro))),
      (q4, .inl (cI, 120, .inl (zro))),
      (q5, .inl (cI, 247, .inl (zro))),
      (q6, .inl (cI, 8, .inl (zro))),
      (q7, .inl (cI, 3200, .inl (zro))),
      (q8, .inl (cI, 4, .inl (zro))),
      (q9, .inl (cI, 4, .inl (zro))),
      (q10, .inl (cI, 160, .inl (zro)))] := G
  refine pfin X hin2 K G 0 rfl rfl inX7 tyX7 tyX7_ok nmX7 19 (by decide) q_925 ⟨rfl, rfl, rfl⟩ rfl rfl (ty := (.array .int)) rfl rfl rfl (Nat.le_of_ble_eq_true rfl) dX7_init_84 (fun H locs G => ?_)
  have G : wg D A s.heap H locs [(h0, .inr (7, [.ref q1, .ref q2, .int 0, .ref q3, .ref q4, .int 0, .int 0, .int 0, .int 0, .int 0, .int 0, .ref q5, .ref q6, .ref q7, .int 0, .int 0, .int 0, .ref q8, .ref q9, .ref q10])),
      (q1, .inl (cI, 247, .inl (zro))),
      (q2, .inl (cI, 247, .inl (zro))),
      (q3, .inl (cI, 7, .inl (zro))),
      (q4, .inl (cI, 120, .inl (zro))),
      (q5, .inl (cI, 247, .inl (zro))),
      (q6, .inl (cI, 8, .inl (zro))),
      (q7, .inl (cI, 3200, .inl (zro))),
      (q8, .inl (cI, 4, .inl (zro))),
      (q9, .inl (cI, 4, .inl (zro))),
      (q10, .inl (cI, 160, .inl (zro)))] := G
  refine lv_aload_n hx hb dX7_init_87 rfl (lv_at hl 0 rfl) ?_
  refine gfld X K G 0 rfl rfl inX7 0 (by decide) q_906 ⟨rfl, rfl, rfl⟩ rfl dX7_init_88 ?_
  refine lv_iconst (v := 0) hx hb dX7_init_91 (by decide) ?_
  refine lv_bipush (v := 7) hx hb dX7_init_92 (by decide) ?_
  refine gast X K G 1 rfl (by decide) rfl dX7_init_94 (fun H locs G => ?_)
  have G : wg D A s.heap H locs [(h0, .inr (7, [.ref q1, .ref q2, .int 0, .ref q3, .ref q4, .int 0, .int 0, .int 0, .int 0, .int 0, .int 0, .ref q5, .ref q6, .ref q7, .int 0, .int 0, .int 0, .ref q8, .ref q9, .ref q10])),
      (q1, .inl (cI, 247, .inl (upd (zro) ((0 : Int32)).toNatClampNeg (7 : Int32)))),
      (q2, .inl (cI, 247, .inl (zro))),
      (q3, .inl (cI, 7, .inl (zro))),
      (q4, .inl (cI, 120, .inl (zro))),
      (q5, .inl (cI, 247, .inl (zro))),
      (q6, .inl (cI, 8, .inl (zro))),
      (q7, .inl (cI, 3200, .inl (zro))),
      (q8, .inl (cI, 4, .inl (zro))),
      (q9, .inl (cI, 4, .inl (zro))),
      (q10, .inl (cI, 160, .inl (zro)))] := G
  refine lv_aload_n hx hb dX7_init_95 rfl (lv_at hl 0 rfl) ?_
  refine gfld X K G 0 rfl rfl inX7 0 (by decide) q_906 ⟨rfl, rfl, rfl⟩ rfl dX7_init_96 ?_
  refine lv_iconst (v := 1) hx hb dX7_init_99 (by decide) ?_
  refine lv_iconst (v := -1) hx hb dX7_init_100 (by decide) ?_
  refine gast X K G 1 rfl (by decide) rfl dX7_init_101 (fun H locs G => ?_)
  have G : wg D A s.heap H locs [(h0, .inr (7, [.ref q1, .ref q2, .int 0, .ref q3, .ref q4, .int 0, .int 0, .int 0, .int 0, .int 0, .int 0, .ref q5, .ref q6, .ref q7, .int 0, .int 0, .int 0, .ref q8, .ref q9, .ref q10])),
      (q1, .inl (cI, 247, .inl (upd (upd (zro) ((0 : Int32)).toNatClampNeg (7 : Int32)) ((1 : Int32)).toNatClampNeg (-1 : Int32)))),
      (q2, .inl (cI, 247, .inl (zro))),
      (q3, .inl (cI, 7, .inl (zro))),
      (q4, .inl (cI, 120, .inl (zro))),
      (q5, .inl (cI, 247, .inl (zro))),
      (q6, .inl (cI, 8, .inl (zro))),
      (q7, .inl (cI, 3200, .inl (zro))),
      (q8, .inl (cI, 4, .inl (zro))),
      (q9, .inl (cI, 4, .inl (zro))),
      (q10, .inl (cI, 160, .inl (zro)))] := G
  refine lv_aload_n hx hb dX7_init_102 rfl (lv_at hl 0 rfl) ?_
  refine gfld X K G 0 rfl rfl inX7 0 (by decide) q_906 ⟨rfl, rfl, rfl⟩ rfl dX7_init_103 ?_
  refine lv_iconst (v := 5) hx hb dX7_init_106 (by decide) ?_
  refine lv_iconst (v := 1) hx hb dX7_init_107 (by decide) ?_
  refine gast X K G 1 rfl (by decide) rfl dX7_init_108 (fun H locs G => ?_)
  have G : wg D A s.heap H locs [(h0, .inr (7, [.ref q1, .ref q2, .int 0, .ref q3, .ref q4, .int 0, .int 0, .int 0, .int 0, .int 0, .int 0, .ref q5, .ref q6, .ref q7, .int 0, .int 0, .int 0, .ref q8, .ref q9, .ref q10])),
      (q1, .inl (cI, 247, .inl (upd (upd (upd (zro) ((0 : Int32)).toNatClampNeg (7 : Int32)) ((1 : Int32)).toNatClampNeg (-1 : Int32)) ((5 : Int32)).toNatClampNeg (1 : Int32)))),
      (q2, .inl (cI, 247, .inl (zro))),
      (q3, .inl (cI, 7, .inl (zro))),
      (q4, .inl (cI, 120, .inl (zro))),
      (q5, .inl (cI, 247, .inl (zro))),
      (q6, .inl (cI, 8, .inl (zro))),
      (q7, .inl (cI, 3200, .inl (zro))),
      (q8, .inl (cI, 4, .inl (zro))),
      (q9, .inl (cI, 4, .inl (zro))),
      (q10, .inl (cI, 160, .inl (zro)))] := G
  refine lv_iconst (v := 0) hx hb dX7_init_109 (by decide) ?_
  refine lv_istore_n (lv' := [(1, .int (0 : Int32)), (0, .ref h0)]) hx hb dX7_init_110 rfl hl (by decide) rfl (fun ls hl => ?_)
  refine lv_iload_n hx hb dX7_init_111 rfl (lv_at hl 0 rfl) ?_
  refine lv_bipush (v := 10) hx hb dX7_init_112 (by decide) ?_
  refine lv_icmp_ge (tgt := 134) hx hb dX7_init_114 (by decide) (fun q => absurd q (by decide)) (fun _ => ?_)
  refine lv_aload_n hx hb dX7_init_117 rfl (lv_at hl 1 rfl) ?_
  refine gfld X K G 0 rfl rfl inX7 0 (by decide) q_906 ⟨rfl, rfl, rfl⟩ rfl dX7_init_118 ?_
  refine lv_sipush (v := 237) hx hb dX7_init_121 (by decide) ?_
  refine lv_iload_n hx hb dX7_init_124 rfl (lv_at hl 0 rfl) ?_
  refine lv_iadd hx hb dX7_init_125 ?_
  refine lv_iconst (v := -1) hx hb dX7_init_126 (by decide) ?_
  refine gast X K G 1 rfl (by decide) rfl dX7_init_127 (fun H locs G => ?_)
  have G : wg D A s.heap H locs [(h0, .inr (7, [.ref q1, .ref q2, .int 0, .ref q3, .ref q4, .int 0, .int 0, .int 0, .int 0, .int 0, .int 0, .ref q5, .ref q6, .ref q7, .int 0, .int 0, .int 0, .ref q8, .ref q9, .ref q10])),
      (q1, .inl (cI, 247, .inl (upd (upd (upd (upd (zro) ((0 : Int32)).toNatClampNeg (7 : Int32)) ((1 : Int32)).toNatClampNeg (-1 : Int32)) ((5 : Int32)).toNatClampNeg (1 : Int32)) (((237 : Int32) + (0 : Int32))).toNatClampNeg (-1 : Int32)))),
      (q2, .inl (cI, 247, .inl (zro))),
      (q3, .inl (cI, 7, .inl (zro))),
      (q4, .inl (cI, 120, .inl (zro))),
      (q5, .inl (cI, 247, .inl (zro))),
      (q6, .inl (cI, 8, .inl (zro))),
      (q7, .inl (cI, 3200, .inl (zro))),
      (q8, .inl (cI, 4, .inl (zro))),
      (q9, .inl (cI, 4, .inl (zro))),
      (q10, .inl (cI, 160, .inl (zro)))] := G
  refine lv_iinc (v := 1) (lv' := [(1, .int (1 : Int32)), (0, .ref h0)]) hx hb dX7_init_128 hl (k := 0) rfl (by decide) (by decide) rfl (fun ls hl => ?_)
  refine lv_goto (tgt := 111) hx hb dX7_init_131 (by decide) ?_
  refine lv_iload_n hx hb dX7_init_111 rfl (lv_at hl 0 rfl) ?_
  refine lv_bipush (v := 10) hx hb dX7_init_112 (by decide) ?_
  refine lv_icmp_ge (tgt := 134) hx hb dX7_init_114 (by decide) (fun q => absurd q (by decide)) (fun _ => ?_)
  refine lv_aload_n hx hb dX7_init_117 rfl (lv_at hl 1 rfl) ?_
  refine gfld X K G 0 rfl rfl inX7 0 (by decide) q_906 ⟨rfl, rfl, rfl⟩ rfl dX7_init_118 ?_
  refine lv_sipush (v := 237) hx hb dX7_init_121 (by decide) ?_
  refine lv_iload_n hx hb dX7_init_124 rfl (lv_at hl 0 rfl) ?_
  refine lv_iadd hx hb dX7_init_125 ?_
  refine lv_iconst (v := -1) hx hb dX7_init_126 (by decide) ?_
  refine gast X K G 1 rfl (by decide) rfl dX7_init_127 (fun H locs G => ?_)
  have G : wg D A s.heap H locs [(h0, .inr (7, [.ref q1, .ref q2, .int 0, .ref q3, .ref q4, .int 0, .int 0, .int 0, .int 0, .int 0, .int 0, .ref q5, .ref q6, .ref q7, .int 0, .int 0, .int 0, .ref q8, .ref q9, .ref q10])),
      (q1, .inl (cI, 247, .inl (upd (upd (upd (upd (upd (zro) ((0 : Int32)).toNatClampNeg (7 : Int32)) ((1 : Int32)).toNatClampNeg (-1 : Int32)) ((5 : Int32)).toNatClampNeg (1 : Int32)) (((237 : Int32) + (0 : Int32))).toNatClampNeg (-1 : Int32)) (((237 : Int32) + (1 : Int32))).toNatClampNeg (-1 : Int32)))),
      (q2, .inl (cI, 247, .inl (zro))),
      (q3, .inl (cI, 7, .inl (zro))),
      (q4, .inl (cI, 120, .inl (zro))),
      (q5, .inl (cI, 247, .inl (zro))),
      (q6, .inl (cI, 8, .inl (zro))),
      (q7, .inl (cI, 3200, .inl (zro))),
      (q8, .inl (cI, 4, .inl (zro))),
      (q9, .inl (cI, 4, .inl (zro))),
      (q10, .inl (cI, 160, .inl (zro)))] := G
  refine lv_iinc (v := 2) (lv' := [(1, .int (2 : Int32)), (0, .ref h0)]) hx hb dX7_init_128 hl (k := 0) rfl (by decide) (by decide) rfl (fun ls hl => ?_)
  refine lv_goto (tgt := 111) hx hb dX7_init_131 (by decide) ?_
  refine lv_iload_n hx hb dX7_init_111 rfl (lv_at hl 0 rfl) ?_
  refine lv_bipush (v := 10) hx hb dX7_init_112 (by decide) ?_
  refine lv_icmp_ge (tgt := 134) hx hb dX7_init_114 (by decide) (fun q => absurd q (by decide)) (fun _ => ?_)
  refine lv_aload_n hx hb dX7_init_117 rfl (lv_at hl 1 rfl) ?_
  refine gfld X K G 0 rfl rfl inX7 0 (by decide) q_906 ⟨rfl, rfl, rfl⟩ rfl dX7_init_118 ?_
  refine lv_sipush (v := 237) hx hb dX7_init_121 (by decide) ?_
  refine lv_iload_n hx hb dX7_init_124 rfl (lv_at hl 0 rfl) ?_
  refine lv_iadd hx hb dX7_init_125 ?_
  refine lv_iconst (v := -1) hx hb dX7_init_126 (by decide) ?_
  refine gast X K G 1 rfl (by decide) rfl dX7_init_127 (fun H locs G => ?_)
  have G : wg D A s.heap H locs [(h0, .inr (7, [.ref q1, .ref q2, .int 0, .ref q3, .ref q4, .int 0, .int 0, .int 0, .int 0, .int 0, .int 0, .ref q5, .ref q6, .ref q7, .int 0, .int 0, .int 0, .ref q8, .ref q9, .ref q10])),
      (q1, .inl (cI, 247, .inl (upd (upd (upd (upd (upd (upd (zro) ((0 : Int32)).toNatClampNeg (7 : Int32)) ((1 : Int32)).toNatClampNeg (-1 : Int32)) ((5 : Int32)).toNatClampNeg (1 : Int32)) (((237 : Int32) + (0 : Int32))).toNatClampNeg (-1 : Int32)) (((237 : Int32) + (1 : Int32))).toNatClampNeg (-1 : Int32)) (((237 : Int32) + (2 : Int32))).toNatClampNeg (-1 : Int32)))),
      (q2, .inl (cI, 247, .inl (zro))),
      (q3, .inl (cI, 7, .inl (zro))),
      (q4, .inl (cI, 120, .inl (zro))),
      (q5, .inl (cI, 247, .inl (zro))),
      (q6, .inl (cI, 8, .inl (zro))),
      (q7, .inl (cI, 3200, .inl (zro))),
      (q8, .inl (cI, 4, .inl (zro))),
      (q9, .inl (cI, 4, .inl (zro))),
      (q10, .inl (cI, 160, .inl (zro)))] := G
  refine lv_iinc (v := 3) (lv' := [(1, .int (3 : Int32)), (0, .ref h0)]) hx hb dX7_init_128 hl (k := 0) rfl (by decide) (by decide) rfl (fun ls hl => ?_)
  refine lv_goto (tgt := 111) hx hb dX7_init_131 (by decide) ?_
  refine lv_iload_n hx hb dX7_init_111 rfl (lv_at hl 0 rfl) ?_
  refine lv_bipush (v := 10) hx hb dX7_init_112 (by decide) ?_
  refine lv_icmp_ge (tgt := 134) hx hb dX7_init_114 (by decide) (fun q => absurd q (by decide)) (fun _ => ?_)
  refine lv_aload_n hx hb dX7_init_117 rfl (lv_at hl 1 rfl) ?_
  refine gfld X K G 0 rfl rfl inX7 0 (by decide) q_906 ⟨rfl, rfl, rfl⟩ rfl dX7_init_118 ?_
  refine lv_sipush (v := 237) hx hb dX7_init_121 (by decide) ?_
  refine lv_iload_n hx hb dX7_init_124 rfl (lv_at hl 0 rfl) ?_
  refine lv_iadd hx hb dX7_init_125 ?_
  refine lv_iconst (v := -1) hx hb dX7_init_126 (by decide) ?_
  refine gast X K G 1 rfl (by decide) rfl dX7_init_127 (fun H locs G => ?_)
  have G : wg D A s.heap H locs [(h0, .inr (7, [.ref q1, .ref q2, .int 0, .ref q3, .ref q4, .int 0, .int 0, .int 0, .int 0, .int 0, .int 0, .ref q5, .ref q6, .ref q7, .int 0, .int 0, .int 0, .ref q8, .ref q9, .ref q10])),
      (q1, .inl (cI, 247, .inl (upd (upd (upd (upd (upd (upd (upd (zro) ((0 : Int32)).toNatClampNeg (7 : Int32)) ((1 : Int32)).toNatClampNeg (-1 : Int32)) ((5 : Int32)).toNatClampNeg (1 : Int32)) (((237 : Int32) + (0 : Int32))).toNatClampNeg (-1 : Int32)) (((237 : Int32) + (1 : Int32))).toNatClampNeg (-1 : Int32)) (((237 : Int32) + (2 : Int32))).toNatClampNeg (-1 : Int32)) (((237 : Int32) + (3 : Int32))).toNatClampNeg (-1 : Int32)))),
      (q2, .inl (cI, 247, .inl (zro))),
      (q3, .inl (cI, 7, .inl (zro))),
      (q4, .inl (cI, 120, .inl (zro))),
      (q5, .inl (cI, 247, .inl (zro))),
      (q6, .inl (cI, 8, .inl (zro))),
      (q7, .inl (cI, 3200, .inl (zro))),
      (q8, .inl (cI, 4, .inl (zro))),
      (q9, .inl (cI, 4, .inl (zro))),
      (q10, .inl (cI, 160, .inl (zro)))] := G
  refine lv_iinc (v := 4) (lv' := [(1, .int (4 : Int32)), (0, .ref h0)]) hx hb dX7_init_128 hl (k := 0) rfl (by decide) (by decide) rfl (fun ls hl => ?_)
  refine lv_goto (tgt := 111) hx hb dX7_init_131 (by decide) ?_
  refine lv_iload_n hx hb dX7_init_111 rfl (lv_at hl 0 rfl) ?_
  refine lv_bipush (v := 10) hx hb dX7_init_112 (by decide) ?_
  refine lv_icmp_ge (tgt := 134) hx hb dX7_init_114 (by decide) (fun q => absurd q (by decide)) (fun _ => ?_)
  refine lv_aload_n hx hb dX7_init_117 rfl (lv_at hl 1 rfl) ?_
  refine gfld X K G 0 rfl rfl inX7 0 (by decide) q_906 ⟨rfl, rfl, rfl⟩ rfl dX7_init_118 ?_
  refine lv_sipush (v := 237) hx hb dX7_init_121 (by decide) ?_
  refine lv_iload_n hx hb dX7_init_124 rfl (lv_at hl 0 rfl) ?_
  refine lv_iadd hx hb dX7_init_125 ?_
  refine lv_iconst (v := -1) hx hb dX7_init_126 (by decide) ?_
  refine gast X K G 1 rfl (by decide) rfl dX7_init_127 (fun H locs G => ?_)
  have G : wg D A s.heap H locs [(h0, .inr (7, [.ref q1, .ref q2, .int 0, .ref q3, .ref q4, .int 0, .int 0, .int 0, .int 0, .int 0, .int 0, .ref q5, .ref q6, .ref q7, .int 0, .int 0, .int 0, .ref q8, .ref q9, .ref q10])),
      (q1, .inl (cI, 247, .inl (upd (upd (upd (upd (upd (upd (upd (upd (zro) ((0 : Int32)).toNatClampNeg (7 : Int32)) ((1 : Int32)).toNatClampNeg (-1 : Int32)) ((5 : Int32)).toNatClampNeg (1 : Int32)) (((237 : Int32) + (0 : Int32))).toNatClampNeg (-1 : Int32)) (((237 : Int32) + (1 : Int32))).toNatClampNeg (-1 : Int32)) (((237 : Int32) + (2 : Int32))).toNatClampNeg (-1 : Int32)) (((237 : Int32) + (3 : Int32))).toNatClampNeg (-1 : Int32)) (((237 : Int32) + (4 : Int32))).toNatClampNeg (-1 : Int32)))),
      (q2, .inl (cI, 247, .inl (zro))),
      (q3, .inl (cI, 7, .inl (zro))),
      (q4, .inl (cI, 120, .inl (zro))),
      (q5, .inl (cI, 247, .inl (zro))),
      (q6, .inl (cI, 8, .inl (zro))),
      (q7, .inl (cI, 3200, .inl (zro))),
      (q8, .inl (cI, 4, .inl (zro))),
      (q9, .inl (cI, 4, .inl (zro))),
      (q10, .inl (cI, 160, .inl (zro)))] := G
  refine lv_iinc (v := 5) (lv' := [(1, .int (5 : Int32)), (0, .ref h0)]) hx hb dX7_init_128 hl (k := 0) rfl (by decide) (by decide) rfl (fun ls hl => ?_)
  refine lv_goto (tgt := 111) hx hb dX7_init_131 (by decide) ?_
  refine lv_iload_n hx hb dX7_init_111 rfl (lv_at hl 0 rfl) ?_
  refine lv_bipush (v := 10) hx hb dX7_init_112 (by decide) ?_
  refine lv_icmp_ge (tgt := 134) hx hb dX7_init_114 (by decide) (fun q => absurd q (by decide)) (fun _ => ?_)
  refine lv_aload_n hx hb dX7_init_117 rfl (lv_at hl 1 rfl) ?_
  refine gfld X K G 0 rfl rfl inX7 0 (by decide) q_906 ⟨rfl, rfl, rfl⟩ rfl dX7_init_118 ?_
  refine lv_sipush (v := 237) hx hb dX7_init_121 (by decide) ?_
  refine lv_iload_n hx hb dX7_init_124 rfl (lv_at hl 0 rfl) ?_
  refine lv_iadd hx hb dX7_init_125 ?_
  refine lv_iconst (v := -1) hx hb dX7_init_126 (by decide) ?_
  refine gast X K G 1 rfl (by decide) rfl dX7_init_127 (fun H locs G => ?_)
  have G : wg D A s.heap H locs [(h0, .inr (7, [.ref q1, .ref q2, .int 0, .ref q3, .ref q4, .int 0, .int 0, .int 0, .int 0, .int 0, .int 0, .ref q5, .ref q6, .ref q7, .int 0, .int 0, .int 0, .ref q8, .ref q9, .ref q10])),
      (q1, .inl (cI, 247, .inl (upd (upd (upd (upd (upd (upd (upd (upd (upd (zro) ((0 : Int32)).toNatClampNeg (7 : Int32)) ((1 : Int32)).toNatClampNeg (-1 : Int32)) ((5 : Int32)).toNatClampNeg (1 : Int32)) (((237 : Int32) + (0 : Int32))).toNatClampNeg (-1 : Int32)) (((237 : Int32) + (1 : Int32))).toNatClampNeg (-1 : Int32)) (((237 : Int32) + (2 : Int32))).toNatClampNeg (-1 : Int32)) (((237 : Int32) + (3 : Int32))).toNatClampNeg (-1 : Int32)) (((237 : Int32) + (4 : Int32))).toNatClampNeg (-1 : Int32)) (((237 : Int32) + (5 : Int32))).toNatClampNeg (-1 : Int32)))),
      (q2, .inl (cI, 247, .inl (zro))),
      (q3, .inl (cI, 7, .inl (zro))),
      (q4, .inl (cI, 120, .inl (zro))),
      (q5, .inl (cI, 247, .inl (zro))),
      (q6, .inl (cI, 8, .inl (zro))),
      (q7, .inl (cI, 3200, .inl (zro))),
      (q8, .inl (cI, 4, .inl (zro))),
      (q9, .inl (cI, 4, .inl (zro))),
      (q10, .inl (cI, 160, .inl (zro)))] := G
  refine lv_iinc (v := 6) (lv' := [(1, .int (6 : Int32)), (0, .ref h0)]) hx hb dX7_init_128 hl (k := 0) rfl (by decide) (by decide) rfl (fun ls hl => ?_)
  refine lv_goto (tgt := 111) hx hb dX7_init_131 (by decide) ?_
  refine lv_iload_n hx hb dX7_init_111 rfl (lv_at hl 0 rfl) ?_
  refine lv_bipush (v := 10) hx hb dX7_init_112 (by decide) ?_
  refine lv_icmp_ge (tgt := 134) hx hb dX7_init_114 (by decide) (fun q => absurd q (by decide)) (fun _ => ?_)
  refine lv_aload_n hx hb dX7_init_117 rfl (lv_at hl 1 rfl) ?_
  refine gfld X K G 0 rfl rfl inX7 0 (by decide) q_906 ⟨rfl, rfl, rfl⟩ rfl dX7_init_118 ?_
  refine lv_sipush (v := 237) hx hb dX7_init_121 (by decide) ?_
  refine lv_iload_n hx hb dX7_init_124 rfl (lv_at hl 0 rfl) ?_
  refine lv_iadd hx hb dX7_init_125 ?_
  refine lv_iconst (v := -1) hx hb dX7_init_126 (by decide) ?_
  refine gast X K G 1 rfl (by decide) rfl dX7_init_127 (fun H locs G => ?_)
  have G : wg D A s.heap H locs [(h0, .inr (7, [.ref q1, .ref q2, .int 0, .ref q3, .ref q4, .int 0, .int 0, .int 0, .int 0, .int 0, .int 0, .ref q5, .ref q6, .ref q7, .int 0, .int 0, .int 0, .ref q8, .ref q9, .ref q10])),
      (q1, .inl (cI, 247, .inl (upd (upd (upd (upd (upd (upd (upd (upd (upd (upd (zro) ((0 : Int32)).toNatClampNeg (7 : Int32)) ((1 : Int32)).toNatClampNeg (-1 : Int32)) ((5 : Int32)).toNatClampNeg (1 : Int32)) (((237 : Int32) + (0 : Int32))).toNatClampNeg (-1 : Int32)) (((237 : Int32) + (1 : Int32))).toNatClampNeg (-1 : Int32)) (((237 : Int32) + (2 : Int32))).toNatClampNeg (-1 : Int32)) (((237 : Int32) + (3 : Int32))).toNatClampNeg (-1 : Int32)) (((237 : Int32) + (4 : Int32))).toNatClampNeg (-1 : Int32)) (((237 : Int32) + (5 : Int32))).toNatClampNeg (-1 : Int32)) (((237 : Int32) + (6 : Int32))).toNatClampNeg (-1 : Int32)))),
      (q2, .inl (cI, 247, .inl (zro))),
      (q3, .inl (cI, 7, .inl (zro))),
      (q4, .inl (cI, 120, .inl (zro))),
      (q5, .inl (cI, 247, .inl (zro))),
      (q6, .inl (cI, 8, .inl (zro))),
      (q7, .inl (cI, 3200, .inl (zro))),
      (q8, .inl (cI, 4, .inl (zro))),
      (q9, .inl (cI, 4, .inl (zro))),
      (q10, .inl (cI, 160, .inl (zro)))] := G
  refine lv_iinc (v := 7) (lv' := [(1, .int (7 : Int32)), (0, .ref h0)]) hx hb dX7_init_128 hl (k := 0) rfl (by decide) (by decide) rfl (fun ls hl => ?_)
  refine lv_goto (tgt := 111) hx hb dX7_init_131 (by decide) ?_
  refine lv_iload_n hx hb dX7_init_111 rfl (lv_at hl 0 rfl) ?_
  refine lv_bipush (v := 10) hx hb dX7_init_112 (by decide) ?_
  refine lv_icmp_ge (tgt := 134) hx hb dX7_init_114 (by decide) (fun q => absurd q (by decide)) (fun _ => ?_)
  refine lv_aload_n hx hb dX7_init_117 rfl (lv_at hl 1 rfl) ?_
  refine gfld X K G 0 rfl rfl inX7 0 (by decide) q_906 ⟨rfl, rfl, rfl⟩ rfl dX7_init_118 ?_
  refine lv_sipush (v := 237) hx hb dX7_init_121 (by decide) ?_
  refine lv_iload_n hx hb dX7_init_124 rfl (lv_at hl 0 rfl) ?_
  refine lv_iadd hx hb dX7_init_125 ?_
  refine lv_iconst (v := -1) hx hb dX7_init_126 (by decide) ?_
  refine gast X K G 1 rfl (by decide) rfl dX7_init_127 (fun H locs G => ?_)
  have G : wg D A s.heap H locs [(h0, .inr (7, [.ref q1, .ref q2, .int 0, .ref q3, .ref q4, .int 0, .int 0, .int 0, .int 0, .int 0, .int 0, .ref q5, .ref q6, .ref q7, .int 0, .int 0, .int 0, .ref q8, .ref q9, .ref q10])),
      (q1, .inl (cI, 247, .inl (upd (upd (upd (upd (upd (upd (upd (upd (upd (upd (upd (zro) ((0 : Int32)).toNatClampNeg (7 : Int32)) ((1 : Int32)).toNatClampNeg (-1 : Int32)) ((5 : Int32)).toNatClampNeg (1 : Int32)) (((237 : Int32) + (0 : Int32))).toNatClampNeg (-1 : Int32)) (((237 : Int32) + (1 : Int32))).toNatClampNeg (-1 : Int32)) (((237 : Int32) + (2 : Int32))).toNatClampNeg (-1 : Int32)) (((237 : Int32) + (3 : Int32))).toNatClampNeg (-1 : Int32)) (((237 : Int32) + (4 : Int32))).toNatClampNeg (-1 : Int32)) (((237 : Int32) + (5 : Int32))).toNatClampNeg (-1 : Int32)) (((237 : Int32) + (6 : Int32))).toNatClampNeg (-1 : Int32)) (((237 : Int32) + (7 : Int32))).toNatClampNeg (-1 : Int32)))),
      (q2, .inl (cI, 247, .inl (zro))),
      (q3, .inl (cI, 7, .inl (zro))),
      (q4, .inl (cI, 120, .inl (zro))),
      (q5, .inl (cI, 247, .inl (zro))),
      (q6, .inl (cI, 8, .inl (zro))),
      (q7, .inl (cI, 3200, .inl (zro))),
      (q8, .inl (cI, 4, .inl (zro))),
      (q9, .inl (cI, 4, .inl (zro))),
      (q10, .inl (cI, 160, .inl (zro)))] := G
  refine lv_iinc (v := 8) (lv' := [(1, .int (8 : Int32)), (0, .ref h0)]) hx hb dX7_init_128 hl (k := 0) rfl (by decide) (by decide) rfl (fun ls hl => ?_)
  refine lv_goto (tgt := 111) hx hb dX7_init_131 (by decide) ?_
  refine lv_iload_n hx hb dX7_init_111 rfl (lv_at hl 0 rfl) ?_
  refine lv_bipush (v := 10) hx hb dX7_init_112 (by decide) ?_
  refine lv_icmp_ge (tgt := 134) hx hb dX7_init_114 (by decide) (fun q => absurd q (by decide)) (fun _ => ?_)
  refine lv_aload_n hx hb dX7_init_117 rfl (lv_at hl 1 rfl) ?_
  refine gfld X K G 0 rfl rfl inX7 0 (by decide) q_906 ⟨rfl, rfl, rfl⟩ rfl dX7_init_118 ?_
  refine lv_sipush (v := 237) hx hb dX7_init_121 (by decide) ?_
  refine lv_iload_n hx hb dX7_init_124 rfl (lv_at hl 0 rfl) ?_
  refine lv_iadd hx hb dX7_init_125 ?_
  refine lv_iconst (v := -1) hx hb dX7_init_126 (by decide) ?_
  refine gast X K G 1 rfl (by decide) rfl dX7_init_127 (fun H locs G => ?_)
  have G : wg D A s.heap H locs [(h0, .inr (7, [.ref q1, .ref q2, .int 0, .ref q3, .ref q4, .int 0, .int 0, .int 0, .int 0, .int 0, .int 0, .ref q5, .ref q6, .ref q7, .int 0, .int 0, .int 0, .ref q8, .ref q9, .ref q10])),
      (q1, .inl (cI, 247, .inl (upd (upd (upd (upd (upd (upd (upd (upd (upd (upd (upd (upd (zro) ((0 : Int32)).toNatClampNeg (7 : Int32)) ((1 : Int32)).toNatClampNeg (-1 : Int32)) ((5 : Int32)).toNatClampNeg (1 : Int32)) (((237 : Int32) + (0 : Int32))).toNatClampNeg (-1 : Int32)) (((237 : Int32) + (1 : Int32))).toNatClampNeg (-1 : Int32)) (((237 : Int32) + (2 : Int32))).toNatClampNeg (-1 : Int32)) (((237 : Int32) + (3 : Int32))).toNatClampNeg (-1 : Int32)) (((237 : Int32) + (4 : Int32))).toNatClampNeg (-1 : Int32)) (((237 : Int32) + (5 : Int32))).toNatClampNeg (-1 : Int32)) (((237 : Int32) + (6 : Int32))).toNatClampNeg (-1 : Int32)) (((237 : Int32) + (7 : Int32))).toNatClampNeg (-1 : Int32)) (((237 : Int32) + (8 : Int32))).toNatClampNeg (-1 : Int32)))),
      (q2, .inl (cI, 247, .inl (zro))),
      (q3, .inl (cI, 7, .inl (zro))),
      (q4, .inl (cI, 120, .inl (zro))),
      (q5, .inl (cI, 247, .inl (zro))),
      (q6, .inl (cI, 8, .inl (zro))),
      (q7, .inl (cI, 3200, .inl (zro))),
      (q8, .inl (cI, 4, .inl (zro))),
      (q9, .inl (cI, 4, .inl (zro))),
      (q10, .inl (cI, 160, .inl (zro)))] := G
  refine lv_iinc (v := 9) (lv' := [(1, .int (9 : Int32)), (0, .ref h0)]) hx hb dX7_init_128 hl (k := 0) rfl (by decide) (by decide) rfl (fun ls hl => ?_)
  refine lv_goto (tgt := 111) hx hb dX7_init_131 (by decide) ?_
  refine lv_iload_n hx hb dX7_init_111 rfl (lv_at hl 0 rfl) ?_
  refine lv_bipush (v := 10) hx hb dX7_init_112 (by decide) ?_
  refine lv_icmp_ge (tgt := 134) hx hb dX7_init_114 (by decide) (fun q => absurd q (by decide)) (fun _ => ?_)
  refine lv_aload_n hx hb dX7_init_117 rfl (lv_at hl 1 rfl) ?_
  refine gfld X K G 0 rfl rfl inX7 0 (by decide) q_906 ⟨rfl, rfl, rfl⟩ rfl dX7_init_118 ?_
  refine lv_sipush (v := 237) hx hb dX7_init_121 (by decide) ?_
  refine lv_iload_n hx hb dX7_init_124 rfl (lv_at hl 0 rfl) ?_
  refine lv_iadd hx hb dX7_init_125 ?_
  refine lv_iconst (v := -1) hx hb dX7_init_126 (by decide) ?_
  refine gast X K G 1 rfl (by decide) rfl dX7_init_127 (fun H locs G => ?_)
  have G : wg D A s.heap H locs [(h0, .inr (7, [.ref q1, .ref q2, .int 0, .ref q3, .ref q4, .int 0, .int 0, .int 0, .int 0, .int 0, .int 0, .ref q5, .ref q6, .ref q7, .int 0, .int 0, .int 0, .ref q8, .ref q9, .ref q10])),
      (q1, .inl (cI, 247, .inl (upd (upd (upd (upd (upd (upd (upd (upd (upd (upd (upd (upd (upd (zro) ((0 : Int32)).toNatClampNeg (7 : Int32)) ((1 : Int32)).toNatClampNeg (-1 : Int32)) ((5 : Int32)).toNatClampNeg (1 : Int32)) (((237 : Int32) + (0 : Int32))).toNatClampNeg (-1 : Int32)) (((237 : Int32) + (1 : Int32))).toNatClampNeg (-1 : Int32)) (((237 : Int32) + (2 : Int32))).toNatClampNeg (-1 : Int32)) (((237 : Int32) + (3 : Int32))).toNatClampNeg (-1 : Int32)) (((237 : Int32) + (4 : Int32))).toNatClampNeg (-1 : Int32)) (((237 : Int32) + (5 : Int32))).toNatClampNeg (-1 : Int32)) (((237 : Int32) + (6 : Int32))).toNatClampNeg (-1 : Int32)) (((237 : Int32) + (7 : Int32))).toNatClampNeg (-1 : Int32)) (((237 : Int32) + (8 : Int32))).toNatClampNeg (-1 : Int32)) (((237 : Int32) + (9 : Int32))).toNatClampNeg (-1 : Int32)))),
      (q2, .inl (cI, 247, .inl (zro))),
      (q3, .inl (cI, 7, .inl (zro))),
      (q4, .inl (cI, 120, .inl (zro))),
      (q5, .inl (cI, 247, .inl (zro))),
      (q6, .inl (cI, 8, .inl (zro))),
      (q7, .inl (cI, 3200, .inl (zro))),
      (q8, .inl (cI, 4, .inl (zro))),
      (q9, .inl (cI, 4, .inl (zro))),
      (q10, .inl (cI, 160, .inl (zro)))] := G
  refine lv_iinc (v := 10) (lv' := [(1, .int (10 : Int32)), (0, .ref h0)]) hx hb dX7_init_128 hl (k := 0) rfl (by decide) (by decide) rfl (fun ls hl => ?_)
  refine lv_goto (tgt := 111) hx hb dX7_init_131 (by decide) ?_
  refine lv_iload_n hx hb dX7_init_111 rfl (lv_at hl 0 rfl) ?_
  refine lv_bipush (v := 10) hx hb dX7_init_112 (by decide) ?_
  refine lv_icmp_ge (tgt := 134) hx hb dX7_init_114 (by decide) (fun _ => ?_) (fun q => absurd (by decide) q)
  exact reC X (fun k => [q1, q2, q3, q4, q5, q6, q7, q8, q9, q10].getD k 0) G dX7_init_134
