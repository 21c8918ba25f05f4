/-! THE CLAIM OUT OF ONE WALK OF THE LAW'S BODY. Your part is whole_start (and what it stands on); all else here is the same for every law, but numbers. -/
def R_law : String := "ToolDaysLaw"
def lw_P (b : Addr) (xs : List Int32) (args : Array Value) (s : State) : Prop := args = #[.ref b] ∧ s.IntsAt b xs ∧ xs.length ≤ 3072 ∧ (Jvm.Cond.and given_1 narrow_1).before args s = true
def lw_Q (_ : Array Value) (s : State) (o : Outcome) (t : State) : Prop := o = .returned (some (.int 1)) ∧ Framed s o t [] 600000 7302250
def lw_Z (below : List Frame) (a : Array Value) (s : State) : State → Prop := fun t => ∃ o, t.status = .running ∧ Ended t below o ∧ lw_Q a s o t
/-- the law's own end, with 1 on the stack, nothing written that was there before, its room as the claim has it -/
theorem lw_ret {p : Program} {l : Launch} {e : Env} {s : State} {m : MethodId} {below : List Frame} {meth : Method} {c : Code} {b : Nat} (hx : p.tables.exec = Jvm.exec) (hb : c.code = code) (hr : meth.sig.returnType = ret) (hlocks : meth.locks = false) {pc : Nat} {H : Heap} {ls : Array Slot} (hdg : decode code pc = .ok (.ireturn, 1)) : W p l e room_1 s m #[Value.ref b] below meth c H [] 600000 7302250 (lw_Z below #[Value.ref b] s) (F0 m pc ls [.int 1]) := by
  intro T hT X
  obtain ⟨fs, hret, hrun, hended, hW, hframe⟩ := X.leave (v := some (.int 1)) (hlocks := hlocks) (fun h => by rw [hr] at h; cases h)
  have hmeth' : T.vm.method? m = some meth := X.method'
  refine ⟨T.setFrames fs, ?_, .returned (some (.int 1)), hrun, hended, rfl, ⟨_, rfl⟩, hW, hframe⟩
  jvm_step X.here [X.here.top, hx, hb, hdg, hmeth', hr, ret, narrow_b1]
  (try refine ⟨rfl, ?_⟩); (try refine ⟨rfl, ?_⟩)
  first | (intro acts; rw [hret _ acts rfl rfl rfl]) | rw [hret _ _ rfl rfl rfl]
  exact Steps.refl _
/-- what holds at the law's entry: the machine, the code, the tables' words (any of lw_tbl by 'hts w (by decide +kernel)'), the script of L ints xs at the cell b, what the Statement gives of the start (any of its parts by flat_of_before) -/
def lw_At (p : Program) (s : State) (m : MethodId) (meth : Method) (c : Code) (b L : Nat) (xs : Nat → Int32) : Prop :=
  p.tables.exec = Jvm.exec ∧ c.code = code ∧ meth.sig.returnType = ret ∧ c.maxLocals = 4 ∧ s.vm.findClass R_law = some m.cls ∧ (∀ w ∈ lw_tbl, w.before #[Value.ref b] s = true) ∧ va_X b L xs s s.heap ∧ b < s.heap.size ∧ meth.locks = false ∧ (Jvm.Cond.and given_1 narrow_1).before #[Value.ref b] s = true
abbrev tmX (i : Nat) : Term := .string "ToolDays$TextReader" (tx_at i).1
abbrev tmM (i : Nat) : Term := .string "ToolDaysModel" (tx_at i).2.1
def fl : List Cond := flatC (Jvm.Cond.and given_1 narrow_1)
theorem fl_ex : ∀ i, i < 14 → Cond.exactly (tmX i) "java/lang/String" ∈ fl := by unfold fl; decide +kernel
theorem fl_co : ∀ i, i < 14 → Cond.eq (.field (tmX i) "java/lang/String" "coder" "B") (.int 0) ∈ fl := by unfold fl; decide +kernel
theorem fl_ar : ∀ i, i < 14 → Cond.arrayOf (.field (tmX i) "java/lang/String" "value" "[B") .byte ∈ fl := by unfold fl; decide +kernel
theorem fl_le : ∀ i, i < 14 → Cond.eq (.length (.field (tmX i) "java/lang/String" "value" "[B")) (.int (Int32.ofNat (tx_len i))) ∈ fl := by unfold fl; decide +kernel
theorem fl_el : ∀ i, i < 14 → ∀ j, j < tx_len i → Cond.eq (.elem (.field (tmX i) "java/lang/String" "value" "[B") (.int (Int32.ofNat j))) (.int (tx_byt i j)) ∈ fl := by unfold fl; decide +kernel
theorem fl_eq : ∀ i, i < 14 → Cond.eq (tmX i) (tmM i) ∈ fl := by unfold fl; decide +kernel
theorem fl_cs : Cond.eq (.static "java/lang/String" "COMPACT_STRINGS" "Z") (.int 1) ∈ fl := by unfold fl; decide +kernel
theorem fl_si : Cond.isRef (.static "jdk/internal/util/Preconditions" "SIOOBE_FORMATTER" "Ljava/util/function/BiFunction;") ∈ fl := by unfold fl; decide +kernel
theorem tb_sX : ∀ i, i < 14 → Cond.stringRef RX4 (tx_at i).1 (tx_at i).2.2.1 ∈ lw_tbl := by decide +kernel
theorem tb_sM : ∀ i, i < 14 → Cond.stringRef RX7 (tx_at i).2.1 (tx_at i).2.2.1 ∈ lw_tbl := by decide +kernel
theorem eq_ref {args : Array Value} {s : State} {t u : Term} {a : Nat} (h : (Cond.eq t u).before args s = true) (ht : t.eval args s none [] s = some (.ref a)) : u.eval args s none [] s = some (.ref a) := by
  cases hv : u.eval args s none [] s with
  | none => simp [Cond.before, Cond.holds, Cond.value, ht, hv] at h
  | some w =>
    simp only [Cond.before, Cond.holds, Cond.value, ht, hv] at h
    cases w <;> simp_all
theorem txs_at {args : Array Value} {s : State} (hts : ∀ w ∈ lw_tbl, w.before args s = true) (hgv : ∀ w ∈ fl, w.before args s = true) {A : Nat → Prop} (hA : ∀ a : Nat, a < s.heap.size → ¬ A a) : ∃ adK adV, txs adK adV A s s.heap := by
  have h0 : ∀ i : Nat, ∃ q : Nat × Nat, i < 14 → (tmX i).eval args s none [] s = some (.ref q.1) ∧ va_O "java/lang/String" q.1 A s s.heap ∧ va_OF "java/lang/String" "coder" "B" (.int 0) q.1 A s s.heap ∧ va_OF "java/lang/String" "value" "[B" (.ref q.2) q.1 A s s.heap ∧ va_T .byte q.2 (tx_len i) (fun j => .int (tx_byt i j)) A s s.heap := by
    intro i
    by_cases hi : i < 14
    · obtain ⟨a, c, cA, kA, q1, q2, q3, q4, q5, q6, -⟩ := Cond.exactly_spec (args := args) (first := s) (o := none) (s := s) (idx := []) (t := tmX i) (cls := "java/lang/String") (hgv _ (fl_ex i hi))
      have hlen : tx_len i < 2 ^ 31 := (show ∀ i, i < 14 → tx_len i < 2 ^ 31 by decide) i hi
      obtain ⟨t, ht, hT⟩ := va_Tof (f := fun j => .int (tx_byt i j)) (A := A) hlen (hgv _ (fl_ar i hi)) (va_eqt (hgv _ (fl_le i hi))) (fun j hj => va_eqt (hgv _ (fl_el i hi j hj))) hA
      exact ⟨(a, t), fun _ => ⟨q1, ⟨cA, q3, q5, by rw [q6]; exact q2, hA a (Array.getElem?_eq_some_iff.mp q3).1⟩, vk_OFof q1 (va_eqt (hgv _ (fl_co i hi))) hA, vk_OFof q1 ht hA, hT⟩⟩
    · exact ⟨(0, 0), fun h => absurd h hi⟩
  obtain ⟨ad, had⟩ := Classical.axiomOfChoice h0
  refine ⟨fun i => (ad i).1, fun i => (ad i).2, fun i hi => (had i hi).2, fun i hi => ⟨?_, ?_⟩, ?_, ?_⟩
  · exact vk_R.of (hts _ (tb_sX i hi)) (had i hi).1
  · exact vk_R.of (hts _ (tb_sM i hi)) (eq_ref (hgv _ (fl_eq i hi)) (had i hi).1)
  · exact va_Zof (hts _ (List.mem_of_getElem? (i := 396) (by decide +kernel))) (hts _ (wA_in _ q_81)) (va_eqt (hgv _ fl_cs)) hA
  · exact va_Zqof (hts _ (List.mem_of_getElem? (i := 412) (by decide +kernel))) (hts _ (wA_in _ q_83)) (hgv _ fl_si) hA
theorem arr_at {args : Array Value} {s : State} {ty : FieldType} (h : (Cond.arrayClass ty).before args s = true) : ∃ cA, ArrOfT s cA ty ∧ s.vm.findClass ("[" ++ ty.toString) = some cA := by
  obtain ⟨cA, kA, comp, h1, h2, h3⟩ := Cond.arrayClass_spec h
  exact ⟨cA, fun n z => ⟨fun k h => (by cases h), kA, h2, comp, h3⟩, h1⟩
theorem kx_at {args : Array Value} {s : State} (hts : ∀ w ∈ lw_tbl, w.before args s = true) (hgv : ∀ w ∈ fl, w.before args s = true) : ∃ (D : va_G) (cI cZ cQ : ClassId) (adK adV : Nat → Nat), kx D cI cZ cQ adK adV (fun q : Nat => s.heap.size ≤ q) s s.heap ∧ va_AO RX1 s := by
  have hin : ∀ {ws : List Cond}, (∀ w ∈ ws, w ∈ wsA) → ∀ w ∈ ws, w ∈ lw_tbl := fun h w hw => wA_in w (h w hw)
  have hw : ∀ {w : Cond}, w ∈ wsA → w.before args s = true := fun h => hts _ (wA_in _ h)
  obtain ⟨c0, s0, k0⟩ := u_known (C := RX0) (T := TX0) (N := 2) (n := 2) hts (hin inX0) (hw q_179)
  obtain ⟨c1, s1, k1⟩ := u_known (C := RX1) (T := TX1) (N := 3) (n := 3) hts (hin inX1) (hw q_280)
  obtain ⟨c2, s2, k2⟩ := u_known (C := RX2) (T := TX2) (N := 15) (n := 15) hts (hin inX2) (hw q_194)
  obtain ⟨c3, s3, k3⟩ := u_known (C := RX3) (T := TX3) (N := 2) (n := 2) hts (hin inX3) (hw q_163)
  obtain ⟨c4, s4, k4⟩ := u_known (C := RX4) (T := TX4) (N := 6) (n := 6) hts (hin inX4) (hw q_254)
  obtain ⟨c5, s5, k5⟩ := u_known (C := RX5) (T := TX5) (N := 12) (n := 12) hts (hin inX5) (hw q_96)
  obtain ⟨c6, s6, k6⟩ := u_known (C := RX6) (T := TX6) (N := 10) (n := 10) hts (hin inX6) (hw q_88)
  obtain ⟨c7, s7, k7⟩ := u_known (C := RX7) (T := TX7) (N := 20) (n := 20) hts (hin inX7) (hw q_901)
  obtain ⟨dC, dI, hKc⟩ : ∃ (dC : Nat → ClassId) (dI : Nat → Nat → Nat), ∀ (k : Nat) (q : vw_C), vwCl[k]? = some q → u_Kn s q.1 q.2.1 q.2.2 (dC k) (dI k) := by
    refine ⟨fun k => if k = 0 then c0 else if k = 1 then c1 else if k = 2 then c2 else if k = 3 then c3 else if k = 4 then c4 else if k = 5 then c5 else if k = 6 then c6 else c7, fun k => if k = 0 then s0 else if k = 1 then s1 else if k = 2 then s2 else if k = 3 then s3 else if k = 4 then s4 else if k = 5 then s5 else if k = 6 then s6 else s7, ?_⟩
    intro k q hq
    match k, hq with
    | 0, hq => cases hq; exact k0
    | 1, hq => cases hq; exact k1
    | 2, hq => cases hq; exact k2
    | 3, hq => cases hq; exact k3
    | 4, hq => cases hq; exact k4
    | 5, hq => cases hq; exact k5
    | 6, hq => cases hq; exact k6
    | 7, hq => cases hq; exact k7
    | k + 8, hq => simp [vwCl] at hq
  obtain ⟨cI, aI, nI1⟩ := arr_at (ty := .int) (hts _ (List.mem_of_getElem? (i := 161) (by decide +kernel)))
  obtain ⟨cZ, aZ, nZ1⟩ := arr_at (ty := .boolean) (hts _ (List.mem_of_getElem? (i := 252) (by decide +kernel)))
  have hO : (Cond.arrayOver (.object RX1)).before args s = true := hts _ (List.mem_of_getElem? (i := 279) (by decide +kernel))
  obtain ⟨comp, cQ, kQ, g1, g2, g3, g4, g5⟩ := Cond.arrayOver_spec hO
  obtain ⟨adK, adV, hT⟩ := txs_at (A := fun q : Nat => s.heap.size ≤ q) hts hgv (fun a h => Nat.not_le.mpr h)
  refine ⟨(dC, dI), cI, cZ, cQ, adK, adV, ⟨⟨hKc, ?_⟩, ?_, hT⟩, va_AO.of hO⟩
  · intro k q hq
    match k, hq with
    | 0, hq => cases hq; exact ⟨aI, nI1⟩
    | 1, hq => cases hq; exact ⟨aZ, nZ1⟩
    | 2, hq => cases hq; exact ⟨fun N z => ⟨(fun k h => by cases h), kQ, g3, comp, g4⟩, kQ, comp, g3, g4, g1, g5⟩
    | k + 3, hq => simp [tysW] at hq
  · exact ⟨va_Nw.of rfl (hts _ (List.mem_of_getElem? (i := 443) (by decide +kernel))), va_Nw.of rfl (hts _ (List.mem_of_getElem? (i := 508) (by decide +kernel))), va_Nw.of rfl (hts _ (List.mem_of_getElem? (i := 609) (by decide +kernel))), va_Nw.of rfl (hts _ (List.mem_of_getElem? (i := 695) (by decide +kernel))), va_Nw.of rfl (hts _ (List.mem_of_getElem? (i := 164) (by decide +kernel))), va_Nw.of rfl (hts _ (List.mem_of_getElem? (i := 281) (by decide +kernel)))⟩
