set_option maxHeartbeats 4000000 in
theorem law_loop {p : Program} {l : Launch} {e : Env} {s : State} {m : MethodId} {below : List Frame} {meth : Method} {c : Code} {b L : Nat} {xs : Nat → Int32} (hL : L ≤ 3072) (C0 : lw_At p s m meth c b L xs) {D : va_G} {cI cZ cQ : ClassId} {adK adV adx adm : Nat → Nat} (K : kx D cI cZ cQ adK adV (fun q : Nat => s.heap.size ≤ q) s s.heap) : ∀ (n : Nat) (i : Int32) (σ : XS) (τ : MS) (H : Heap) (locs : List Loc) (ls : Array Slot), 0 ≤ i.toInt → i.toInt ≤ L + 6 → (L : Int) + 7 - i.toInt ≤ n → Rel σ τ → wg D (fun q : Nat => s.heap.size ≤ q) s.heap H locs (wX cI cZ cQ adx σ ++ wM cI adm τ) → lv_has ls 4 [(3, .int i), (2, .ref (adm 0)), (1, .ref (adx 0)), (0, .ref b)] → W p l e room_1 s m #[Value.ref b] below meth c H locs 55 9162 (lw_Z below #[Value.ref b] s) (F0 m 18 ls []) := by
  intro n
  induction n with
  | zero => intro i σ τ H locs ls h0 h1 h2; omega
  | succ n ih =>
    intro i σ τ H locs ls h0 h1 h2 h G hl
    have X := at_cx C0
    have hx := X.1
    have hb := X.2.1
    have hX := C0.2.2.2.2.2.2.1
    have hbl : b < s.heap.size := C0.2.2.2.2.2.2.2.1
    have hbA : ¬ s.heap.size ≤ b := Nat.not_le.mpr hbl
    have eL : (Int32.ofNat L).toInt = L := i_nI (by omega)
    have e6 : (6 : Int32).toInt = 6 := rfl
    have eS : (Int32.ofNat L - 6).toInt = (L : Int) - 6 := by rw [i_sub (by rw [eL, e6]; omega) (by rw [eL, e6]; omega), eL, e6]
    refine lv_iload_n hx hb dL_law_18 rfl (lv_at hl 0 rfl) ?_
    refine lv_aload_n hx hb dL_law_19 rfl (lv_at hl 3 rfl) ?_
    refine va_slen hx hb hX hbl hbA G.2.2 dL_law_20 ?_
    refine lv_bipush (v := 6) hx hb dL_law_21 (by decide) ?_
    refine lv_isub hx hb dL_law_23 ?_
    refine lv_icmp_gt (tgt := 1629) hx hb dL_law_24 (by decide) (fun q => ?_) (fun q => ?_)
    · refine lv_iconst (v := 1) hx hb dL_law_1629 (by decide) ?_
      refine va_forget (fun q hq => G.2.2.2.2 q hq) ?_
      refine W.widen (k := 600000) (n := 7302250) (by decide) (by decide) ?_
      exact lw_ret hx hb X.2.2.2.2.2.1 X.2.2.2.2.2.2 dL_law_1630
    have hi : 0 ≤ i.toInt ∧ i.toInt + 6 ≤ L := by
      have := mt (i_lt _ _).mpr q
      rw [eS] at this
      omega
    refine lv_aload_n hx hb dL_law_27 rfl (lv_at hl 3 rfl) ?_
    refine lv_iload_n hx hb dL_law_28 rfl (lv_at hl 0 rfl) ?_
    have hin0 : vp_in i L := by
      have := lw_in hL hi 0 (by decide)
      rw [Int32.add_zero] at this
      exact this
    refine va_sld hx hb hX hbl hbA G.2.2 hin0 dL_law_29 ?_
    refine lv_bipush (v := 63) hx hb dL_law_30 (by decide) ?_
    refine lv_iand hx hb dL_law_32 ?_
    refine lv_topi (fun x ex => ?_)
    have go : ∀ (σ' : XS) (τ' : MS) (H1 : Heap) (locs1 : List Loc), Rel σ' τ' → wg D (fun q : Nat => s.heap.size ≤ q) s.heap H1 locs1 (wX cI cZ cQ adx σ' ++ wM cI adm τ') → W p l e room_1 s m #[Value.ref b] below meth c H1 locs1 55 9162 (lw_Z below #[Value.ref b] s) (F0 m 1623 ls []) := by
      intro σ' τ' H1 locs1 h' G'
      have ei : (i + 6).toInt = i.toInt + 6 := i_add (by rw [e6]; omega) (by rw [e6]; omega)
      refine lv_iinc (v := i + 6) (lv' := [(3, .int (i + 6)), (2, .ref (adm 0)), (1, .ref (adx 0)), (0, .ref b)]) hx hb dL_law_1623 hl (k := 0) rfl rfl (by decide) rfl (fun ls hl => ?_)
      refine lv_goto (tgt := 18) hx hb dL_law_1626 (by decide) ?_
      exact ih (i + 6) σ' τ' H1 locs1 ls (by omega) (by omega) (by omega) h' G' hl
    by_cases hr : x.toInt < 0 ∨ 44 < x.toInt
    · exact tswO X hr dL_law_33 (tgt := 1623) (by decide) (go _ _ _ _ h G)
    obtain ⟨k, ek, ek2, -⟩ := i_ex (x := x) (by omega)
    have hk : k < 45 := by omega
    match k, hk, ek with
    | 0, _, ek => exact tswI X 0 (ek.trans rfl) dL_law_33 (off := 195) (tgt := 228) (by decide) (law_feed hL C0 K h G hi hl go)
    | 1, _, ek => exact tswI X 1 (ek.trans rfl) dL_law_33 (off := 228) (tgt := 261) (by decide) (law_wipe hL C0 K h G hi hl go)
    | 2, _, ek => exact tswI X 2 (ek.trans rfl) dL_law_33 (off := 241) (tgt := 274) (by decide) (law_town hL C0 K h G hi hl go)
    | 3, _, ek => exact tswI X 3 (ek.trans rfl) dL_law_33 (off := 254) (tgt := 287) (by decide) (law_round hL C0 K h G hi hl go)
    | 4, _, ek => exact tswI X 4 (ek.trans rfl) dL_law_33 (off := 277) (tgt := 310) (by decide) (law_near hL C0 K h G hi hl go)
    | 5, _, ek => exact tswI X 5 (ek.trans rfl) dL_law_33 (off := 300) (tgt := 333) (by decide) (law_tool hL C0 K h G hi hl go)
    | 6, _, ek => exact tswI X 6 (ek.trans rfl) dL_law_33 (off := 323) (tgt := 356) (by decide) (law_days hL C0 K h G hi hl go)
    | 7, _, ek => exact tswI X 7 (ek.trans rfl) dL_law_33 (off := 356) (tgt := 389) (by decide) (law_may hL C0 K h G hi hl go)
    | 8, _, ek => exact tswI X 8 (ek.trans rfl) dL_law_33 (off := 389) (tgt := 422) (by decide) (law_thing hL C0 K h G hi hl go)
    | 9, _, ek => exact tswI X 9 (ek.trans rfl) dL_law_33 (off := 432) (tgt := 465) (by decide) (law_step hL C0 K h G hi hl go)
    | 10, _, ek => exact tswI X 10 (ek.trans rfl) dL_law_33 (off := 485) (tgt := 518) (by decide) (law_thingOf hL C0 K h G hi hl go)
    | 11, _, ek => exact tswI X 11 (ek.trans rfl) dL_law_33 (off := 528) (tgt := 561) (by decide) (law_turn hL C0 K h G hi hl go)
    | 12, _, ek => exact tswI X 12 (ek.trans rfl) dL_law_33 (off := 561) (tgt := 594) (by decide) (law_change hL C0 K h G hi hl go)
    | 13, _, ek => exact tswI X 13 (ek.trans rfl) dL_law_33 (off := 614) (tgt := 647) (by decide) (law_next hL C0 K h G hi hl go)
    | 14, _, ek => exact tswI X 14 (ek.trans rfl) dL_law_33 (off := 657) (tgt := 690) (by decide) (law_run hL C0 K h G hi hl go)
    | 15, _, ek => exact tswI X 15 (ek.trans rfl) dL_law_33 (off := 700) (tgt := 733) (by decide) (law_spoils hL C0 K h G hi hl go)
    | 16, _, ek => exact tswI X 16 (ek.trans rfl) dL_law_33 (off := 733) (tgt := 766) (by decide) (law_ready hL C0 K h G hi hl go)
    | 17, _, ek => exact tswI X 17 (ek.trans rfl) dL_law_33 (off := 766) (tgt := 799) (by decide) (law_begun hL C0 K h G hi hl go)
    | 18, _, ek => exact tswI X 18 (ek.trans rfl) dL_law_33 (off := 799) (tgt := 832) (by decide) (law_latest hL C0 K h G hi hl go)
    | 19, _, ek => exact tswI X 19 (ek.trans rfl) dL_law_33 (off := 832) (tgt := 865) (by decide) (law_waits hL C0 K h G hi hl go)
    | 20, _, ek => exact tswI X 20 (ek.trans rfl) dL_law_33 (off := 865) (tgt := 898) (by decide) (law_order hL C0 K h G hi hl go)
    | 21, _, ek => exact tswI X 21 (ek.trans rfl) dL_law_33 (off := 908) (tgt := 941) (by decide) (law_orderOf hL C0 K h G hi hl go)
    | 22, _, ek => exact tswI X 22 (ek.trans rfl) dL_law_33 (off := 941) (tgt := 974) (by decide) (law_clear hL C0 K h G hi hl go)
    | 23, _, ek => exact tswI X 23 (ek.trans rfl) dL_law_33 (off := 954) (tgt := 987) (by decide) (law_taken hL C0 K h G hi hl go)
    | 24, _, ek => exact tswI X 24 (ek.trans rfl) dL_law_33 (off := 997) (tgt := 1030) (by decide) (law_best hL C0 K h G hi hl go)
    | 25, _, ek => exact tswI X 25 (ek.trans rfl) dL_law_33 (off := 1020) (tgt := 1053) (by decide) (law_most hL C0 K h G hi hl go)
    | 26, _, ek => exact tswI X 26 (ek.trans rfl) dL_law_33 (off := 1043) (tgt := 1076) (by decide) (law_chokes hL C0 K h G hi hl go)
    | 27, _, ek => exact tswI X 27 (ek.trans rfl) dL_law_33 (off := 1066) (tgt := 1099) (by decide) (law_idle hL C0 K h G hi hl go)
    | 28, _, ek => exact tswI X 28 (ek.trans rfl) dL_law_33 (off := 1089) (tgt := 1122) (by decide) (law_turned hL C0 K h G hi hl go)
    | 29, _, ek => exact tswI X 29 (ek.trans rfl) dL_law_33 (off := 1112) (tgt := 1145) (by decide) (law_roundFor hL C0 K h G hi hl go)
    | 30, _, ek => exact tswI X 30 (ek.trans rfl) dL_law_33 (off := 1145) (tgt := 1178) (by decide) (law_nearFor hL C0 K h G hi hl go)
    | 31, _, ek => exact tswI X 31 (ek.trans rfl) dL_law_33 (off := 1178) (tgt := 1211) (by decide) (law_chance hL C0 K h G hi hl go)
    | 32, _, ek => exact tswI X 32 (ek.trans rfl) dL_law_33 (off := 1211) (tgt := 1244) (by decide) (law_seed hL C0 K h G hi hl go)
    | 33, _, ek => exact tswI X 33 (ek.trans rfl) dL_law_33 (off := 1234) (tgt := 1267) (by decide) (law_hold hL C0 K h G hi hl go)
    | 34, _, ek => exact tswI X 34 (ek.trans rfl) dL_law_33 (off := 1267) (tgt := 1300) (by decide) (law_as hL C0 K h G hi hl go)
    | 35, _, ek => exact tswI X 35 (ek.trans rfl) dL_law_33 (off := 1300) (tgt := 1333) (by decide) (law_sheet hL C0 K h G hi hl go)
    | 36, _, ek => exact tswI X 36 (ek.trans rfl) dL_law_33 (off := 1343) (tgt := 1376) (by decide) (law_write hL C0 K h G hi hl go)
    | 37, _, ek => exact tswI X 37 (ek.trans rfl) dL_law_33 (off := 1386) (tgt := 1419) (by decide) (law_copy hL C0 K h G hi hl go)
    | 38, _, ek => exact tswI X 38 (ek.trans rfl) dL_law_33 (off := 1449) (tgt := 1482) (by decide) (law_load hL C0 K h G hi hl go)
    | 39, _, ek => exact tswI X 39 (ek.trans rfl) dL_law_33 (off := 1472) (tgt := 1505) (by decide) (law_judge hL C0 K h G hi hl go)
    | 40, _, ek => exact tswI X 40 (ek.trans rfl) dL_law_33 (off := 1505) (tgt := 1538) (by decide) (law_image hL C0 K h G hi hl go)
    | 41, _, ek => exact tswI X 41 (ek.trans rfl) dL_law_33 (off := 1518) (tgt := 1551) (by decide) (law_undo hL C0 K h G hi hl go)
    | 42, _, ek => exact tswI X 42 (ek.trans rfl) dL_law_33 (off := 1531) (tgt := 1564) (by decide) (law_tear hL C0 K h G hi hl go)
    | 43, _, ek => exact tswI X 43 (ek.trans rfl) dL_law_33 (off := 1544) (tgt := 1577) (by decide) (law_count hL C0 K h G hi hl go)
    | 44, _, ek => exact tswI X 44 (ek.trans rfl) dL_law_33 (off := 1567) (tgt := 1600) (by decide) (law_status hL C0 K h G hi hl go)
    | k + 45, hk, _ => exact absurd hk (by omega)
