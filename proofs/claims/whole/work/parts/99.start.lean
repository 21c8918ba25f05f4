set_option maxHeartbeats 4000000 in
set_option maxRecDepth 100000 in
theorem whole_start {p : Program} {e : Env} {s : State} {m : MethodId} {below : List Frame} {meth : Method} {c : Code} (l : Launch) (hflags : l.flags = flags0) {b L : Nat} {xs : Nat → Int32} (hL : L ≤ 3072) (C0 : lw_At p s m meth c b L xs) : W p l e room_1 s m #[Value.ref b] below meth c s.heap [] 0 0 (lw_Z below #[Value.ref b] s) (entryFrame m ([Value.ref b] : List Value).toArray 4) := by
  have X := at_cx C0
  have hx := X.1
  have hb := X.2.1
  have hgv : ∀ w ∈ fl, w.before #[Value.ref b] s = true := flat_of_before _ C0.2.2.2.2.2.2.2.2.2
  obtain ⟨D, cI, cZ, cQ, adK, adV, K, hO⟩ := kx_at C0.2.2.2.2.2.1 hgv
  have hA : ∀ q : Nat, s.heap.size ≤ q → (fun q : Nat => s.heap.size ≤ q) q := fun _ h => h
  have G : wg D (fun q : Nat => s.heap.size ≤ q) s.heap s.heap [] [] := ⟨fun k q h => by simp at h, ⟨fun i j p q h => by simp at h, fun k q h => by simp at h⟩, va_S.rf⟩
  have hl := lv_entry ([.ref b]) (n := 4) (Nat.le_of_ble_eq_true rfl)
  rw [lg_entry_eq]
  generalize (lg_sl ([.ref b]) ++ List.replicate (4 - (lg_sl ([.ref b])).length) Slot.unset).toArray = ls at hl ⊢
  have hl : lv_has ls 4 [(0, .ref b)] := hl
  refine nwC X K hA G (ci := 6) rfl inX6 tyX6 tyX6_ok q_87 q_88 q_72 (fs := [.null, .null, .null, .null, .null, .null, .null, .null, .null, .int 0]) dfX6 (c2 := 1) (s2 := 10) rfl rfl ⟨by decide, by decide⟩ dL_law_0 (fun qx H G => ?_)
  refine lv_dup hx hb dL_law_3 rfl ?_
  refine ciC X K hA hO G [0] [] (wc := [(qx, .inr (6, [.null, .null, .null, .null, .null, .null, .null, .null, .null, .int 0]))]) (wr := []) (As := []) (n := 0) rfl rfl rfl rfl rfl (by decide) (fun A' => i_X6 l D cI cZ cQ adK adV A' qx) q_89 mi_X6_init q_72 mc_X6_init rfl (by decide +kernel) ⟨rfl, rfl⟩ ⟨by decide, by decide⟩ (c2 := 44) (s2 := 4898) rfl rfl ⟨by decide, by decide⟩ rfl hl.1 rfl (Nat.le_of_ble_eq_true rfl) dL_law_4 (fun ux H locs G => ?_)
  refine lv_astore_n (lv' := [(1, .ref qx), (0, .ref b)]) hx hb dL_law_7 rfl hl (by decide) rfl (fun ls hl => ?_)
  obtain ⟨adx, hadx⟩ : ∃ adx : Nat → Nat, adx = fun k => if k = 0 then qx else ux k := ⟨_, rfl⟩
  have G : wg D (fun q : Nat => s.heap.size ≤ q) s.heap H locs (wX cI cZ cQ adx x0) := by rw [hadx]; exact G
  have hqx : adx 0 = qx := by rw [hadx]; rfl
  refine nwC X K hA G (ci := 7) rfl inX7 tyX7 tyX7_ok q_900 q_901 q_79 (fs := [.null, .null, .int 0, .null, .null, .int 0, .int 0, .int 0, .int 0, .int 0, .int 0, .null, .null, .null, .int 0, .int 0, .int 0, .null, .null, .null]) dfX7 (c2 := 45) (s2 := 4918) rfl rfl ⟨by decide, by decide⟩ dL_law_8 (fun qm H G => ?_)
  refine lv_dup hx hb dL_law_11 rfl ?_
  refine ciC X K hA hO G [44] [0, 1, 2, 3, 4, 5, 6, 7, 8, 9, 10, 11, 12, 13, 14, 15, 16, 17, 18, 19, 20, 21, 22, 23, 24, 25, 26, 27, 28, 29, 30, 31, 32, 33, 34, 35, 36, 37, 38, 39, 40, 41, 42, 43] (wc := [(qm, .inr (7, [.null, .null, .int 0, .null, .null, .int 0, .int 0, .int 0, .int 0, .int 0, .int 0, .null, .null, .null, .int 0, .int 0, .int 0, .null, .null, .null]))]) (wr := wX cI cZ cQ adx x0) (As := []) (n := 0) rfl rfl rfl rfl rfl (by decide) (fun A' => i_X7 l D cI cZ cQ adK adV A' qm) q_902 mi_X7_init q_79 mc_X7_init rfl (by decide +kernel) ⟨rfl, rfl⟩ ⟨by decide, by decide⟩ (c2 := 55) (s2 := 9162) rfl rfl ⟨by decide, by decide⟩ rfl hl.1 rfl (Nat.le_of_ble_eq_true rfl) dL_law_12 (fun um H locs G => ?_)
  refine lv_astore_n (lv' := [(2, .ref qm), (1, .ref qx), (0, .ref b)]) hx hb dL_law_15 rfl hl (by decide) rfl (fun ls hl => ?_)
  obtain ⟨adm, hadm⟩ : ∃ adm : Nat → Nat, adm = fun k => if k = 0 then qm else um (k - 1) := ⟨_, rfl⟩
  have G : wg D (fun q : Nat => s.heap.size ≤ q) s.heap H locs (wX cI cZ cQ adx x0 ++ wM cI adm y0) := by rw [hadm]; exact G
  have hqm : adm 0 = qm := by rw [hadm]; rfl
  refine lv_iconst (v := 0) hx hb dL_law_16 (by decide) ?_
  refine lv_istore_n (lv' := [(3, .int 0), (2, .ref qm), (1, .ref qx), (0, .ref b)]) hx hb dL_law_17 rfl hl (by decide) rfl (fun ls hl => ?_)
  rw [← hqm, ← hqx] at hl
  exact law_loop hL C0 K (L + 7) 0 x0 y0 H locs ls (by decide) (by show (0 : Int32).toInt ≤ _; rw [show (0 : Int32).toInt = 0 from rfl]; omega) (by rw [show (0 : Int32).toInt = 0 from rfl]; omega) rel0 G hl
