/-- the char at a place of a text -/
def tx_chr (i k : Nat) : Int32 := ((tx_byt i k &&& 255).toUInt32 % 65536).toInt32
theorem tx_shr : ∀ i, i < 14 → nI (tx_len i) >>> ((0 : Int32) &&& 31) = nI (tx_len i) := by decide +kernel
theorem tx_small : ∀ i, i < 14 → tx_len i < 100 := by decide +kernel
section STR
variable {p : Program} {l : Launch} {e : Env} {R : Room} {s : State} {m : MethodId} {args : Array Value} {below : List Frame} {meth : Method} {c : Code} {H : Heap} {locs : List Loc} {cells slots : Nat} {Q : State → Prop} {cc : ByteArray} {nL : Nat} {own : String} {ret0 : Option FieldType} {D : va_G} {cI cZ cQ : ClassId} {adK adV : Nat → Nat} {A : Nat → Prop} {S : Type} {w : S → va_W} {u u' : S} {r : Int32} {y : MethodName} {bytes : ByteArray} {maxL n index : Nat} {ret : Option FieldType} {rm : Room} {As st rest : List Value} {b pc : Nat} {ls : Array Slot} {C : String}
/-- a call of a method of an object that stands somewhere -/
theorem cvR (X : cx p s m args meth c cc nL own ret0) (K : kx D cI cZ cQ adK adV A s s.heap) (G : wg D A s.heap H locs (w u)) (hM : MI l D cI cZ cQ adK adV A y bytes maxL ret rm (.ref b :: As) w u r u') (hml : Cond.methodLink own index y ∈ wsA) (hmy : myV y C bytes maxL ret n) (hrm : rm.cells = 0 ∧ rm.slots = 0) (hR : rm.frames + 1 ≤ R.frames ∧ 8 + (maxL + 11) + rm.locals ≤ R.locals) (hcs : cells ≤ R.cells ∧ slots ≤ R.slots) (hrec : ∃ cell : Cell, H[b]? = some cell ∧ cell.vm.isStatics = false ∧ s.vm.findClass C = some cell.cls) (hn : As.length = n) (hls : ls.size = nL) (hst : st = As.reverse ++ .ref b :: rest) (hW : (rest.map fun v => v.category).sum ≤ 8) (hdg : decode cc pc = .ok (.invokevirtual index, 3))
    (kk : ∀ (H1 : Heap) (locs1 : List Loc), wg D A s.heap H1 locs1 (w u') → W p l e R s m args below meth c H1 locs1 cells slots Q (F0 m (pc + 3) ls (.int r :: rest))) : W p l e R s m args below meth c H locs cells slots Q (F0 m pc ls st) := by
  obtain ⟨hx, hb, hmx, hown, hts, hr, hlocks⟩ := X
  obtain ⟨y1, y2, y3, y4, y5⟩ := hmy
  refine va_calli (va_runV (As := As) (rest := rest) (Ts := wsA) ⟨hx, hb, hmx, hown, hts⟩ hM (cwV n hts (wz_V hml y1 y2 y3 y4) rfl hrm.1 hrm.2 y5 hR) ⟨gp_blind, hrec, fun U hU hW => ⟨rfl, gp_of K G hU hW⟩⟩ rfl hn hls hst (lv_room hW) hdg hcs) G.2.2 (fun _ _ h => h) (fun _ h => h) (fun r1 u1 t H1 locs1 ht hvm hw hB hz1 hk1 hS => ?_)
  obtain ⟨rfl, rfl⟩ := hw
  exact kk H1 locs1 ⟨by rw [← ht]; exact hB.1, hB.2, hS⟩
/-- a static method that answers nothing -/
theorem csV (X : cx p s m args meth c cc nL own ret0) (K : kx D cI cZ cQ adK adV A s s.heap) (G : wg D A s.heap H locs (w u)) (hM : MV l D cI cZ cQ adK adV A y bytes maxL rm As w u u') (hml : Cond.methodLink own index y ∈ wsA) (hmy : myS y bytes maxL none n) (hrm : rm.cells = 0 ∧ rm.slots = 0) (hR : rm.frames + 1 ≤ R.frames ∧ 8 + (maxL + 11) + rm.locals ≤ R.locals) (hcs : cells ≤ R.cells ∧ slots ≤ R.slots) (hn : As.length = n) (hls : ls.size = nL) (hst : st = As.reverse ++ rest) (hW : (rest.map fun v => v.category).sum ≤ 8) (hdg : decode cc pc = .ok (.invokestatic index, 3))
    (kk : ∀ (H1 : Heap) (locs1 : List Loc), wg D A s.heap H1 locs1 (w u') → W p l e R s m args below meth c H1 locs1 cells slots Q (F0 m (pc + 3) ls rest)) : W p l e R s m args below meth c H locs cells slots Q (F0 m pc ls st) := by
  obtain ⟨hx, hb, hmx, hown, hts, hr, hlocks⟩ := X
  obtain ⟨y1, y3, y4, y5⟩ := hmy
  refine va_callv (va_runS (As := As) (rest := rest) (Ts := wsA) ⟨hx, hb, hmx, hown, hts⟩ hM ⟨callB_of n hts (wz_good y4) rfl hrm.1 hrm.2 (hts _ y3) (hts _ hml) y5 hR, hts _ y1⟩ ⟨gp_blind, fun U hU hW => ⟨rfl, gp_of K G hU hW⟩⟩ rfl hn hls hst (lv_room hW) hdg hcs) G.2.2 (fun _ _ h => h) (fun _ h => h) (fun u1 t H1 locs1 ht hvm hw hB hz1 hk1 hS => ?_)
  subst hw
  exact kk H1 locs1 ⟨by rw [← ht]; exact hB.1, hB.2, hS⟩
theorem reN {ty : FieldType} (X : cx p s m args meth c cc nL own (some ty)) (G : wg D A s.heap H locs (w u)) (hz : narrow ty (.int r) = .int r) (hdg : decode cc pc = .ok (.ireturn, 1)) : W p l e R s m args below meth c H locs 0 0 (qI D A w below args s r u) (F0 m pc ls [.int r]) := by
  obtain ⟨hx, hb, hmx, hown, hts, hr, hlocks⟩ := X
  exact W.zret (v := r) (ty := ty) hx hb hr hz (fun t ht hW => ⟨⟨r, u, rfl, ⟨rfl, rfl⟩, by rw [ht]; exact G.1, G.2.1⟩, G.2.2.F ht⟩) G.2.2.2.2 hdg hlocks
theorem tx_recv (K : kx D cI cZ cQ adK adV A s s.heap) (G : wg D A s.heap H locs (w u)) {i : Nat} (hi : i < 14) : ∃ cell : Cell, H[adK i]? = some cell ∧ cell.vm.isStatics = false ∧ s.vm.findClass RJ0 = some cell.cls := by
  obtain ⟨cell, h1, h2, h3, -⟩ := (K.2.2.1 i hi).1.kept G.2.2.2.1
  exact ⟨cell, h1, h2, h3⟩
set_option maxRecDepth 100000 in
theorem c_coder {i : Nat} (hi : i < 14) : MI l D cI cZ cQ adK adV A yJ0_coder_7d493 cJ0_coder_7d493 1 (some .byte) { frames := 0, cells := 0, slots := 0, locals := 0 } [.ref (adK i)] w u 0 u := by
  refine entI (by decide) (Nat.le_of_ble_eq_true rfl) (fun p e s m below meth c ls X K G hl => ?_)
  have hl : lv_has ls 1 [(0, .ref (adK i))] := hl
  obtain ⟨hx, hb, -, hown, hts, -⟩ := id X
  refine va_gets hx hb K.2.2.2.2.1 G.2.2 hown (hts _ q_395) (fun _ h => h) dJ0_coder_7d493_0 ?_
  refine lv_if_eq (tgt := 13) hx hb dJ0_coder_7d493_3 (by decide) (fun c1 => absurd c1 (by decide)) (fun c1 => ?_)
  refine lv_aload_n hx hb dJ0_coder_7d493_6 rfl (lv_at hl 0 rfl) ?_
  refine vk_getf hx hb (K.2.2.1 i hi).2.1 G.2.2 hown (hts _ q_1383) (fun _ h => h) dJ0_coder_7d493_7 ?_
  refine lv_goto (tgt := 14) hx hb dJ0_coder_7d493_10 (by decide) ?_
  exact reN X G rfl dJ0_coder_7d493_14
set_option maxRecDepth 100000 in
theorem c_isLatin1 {i : Nat} (hi : i < 14) : MI l D cI cZ cQ adK adV A yJ0_isLatin1_aae02 cJ0_isLatin1_aae02 1 (some .boolean) { frames := 0, cells := 0, slots := 0, locals := 0 } [.ref (adK i)] w u 1 u := by
  refine entI (by decide) (Nat.le_of_ble_eq_true rfl) (fun p e s m below meth c ls X K G hl => ?_)
  have hl : lv_has ls 1 [(0, .ref (adK i))] := hl
  obtain ⟨hx, hb, -, hown, hts, -⟩ := id X
  refine va_gets hx hb K.2.2.2.2.1 G.2.2 hown (hts _ q_395) (fun _ h => h) dJ0_isLatin1_aae02_0 ?_
  refine lv_if_eq (tgt := 17) hx hb dJ0_isLatin1_aae02_3 (by decide) (fun c1 => absurd c1 (by decide)) (fun c1 => ?_)
  refine lv_aload_n hx hb dJ0_isLatin1_aae02_6 rfl (lv_at hl 0 rfl) ?_
  refine vk_getf hx hb (K.2.2.1 i hi).2.1 G.2.2 hown (hts _ q_1383) (fun _ h => h) dJ0_isLatin1_aae02_7 ?_
  refine lv_if_ne (tgt := 17) hx hb dJ0_isLatin1_aae02_10 (by decide) (fun c1 => absurd rfl c1) (fun c1 => ?_)
  refine lv_iconst (v := 1) hx hb dJ0_isLatin1_aae02_13 (by decide) ?_
  refine lv_goto (tgt := 18) hx hb dJ0_isLatin1_aae02_14 (by decide) ?_
  exact reZ X G (Or.inr rfl) dJ0_isLatin1_aae02_18
set_option maxRecDepth 100000 in
theorem c_length {i : Nat} (hi : i < 14) : MI l D cI cZ cQ adK adV A yJ0_length_8abf5 cJ0_length_8abf5 1 (some .int) { frames := 1, cells := 0, slots := 0, locals := 20 } [.ref (adK i)] w u (nI (tx_len i)) u := by
  refine entI (by decide) (Nat.le_of_ble_eq_true rfl) (fun p e s m below meth c ls X K G hl => ?_)
  have hl : lv_has ls 1 [(0, .ref (adK i))] := hl
  obtain ⟨hx, hb, -, hown, hts, -⟩ := id X
  refine lv_aload_n hx hb dJ0_length_8abf5_0 rfl (lv_at hl 0 rfl) ?_
  refine vk_getf hx hb (K.2.2.1 i hi).2.2.1 G.2.2 hown (hts _ q_1382) (fun _ h => h) dJ0_length_8abf5_1 ?_
  refine va_tlen (v := nI (tx_len i)) hx hb (K.2.2.1 i hi).2.2.2 G.2.2 rfl dJ0_length_8abf5_4 ?_
  refine lv_aload_n hx hb dJ0_length_8abf5_5 rfl (lv_at hl 0 rfl) ?_
  refine cvR (rest := [.int (nI (tx_len i))]) X K G (c_coder hi) q_391 my_J0_coder_7d493 ⟨rfl, rfl⟩ ⟨Nat.le_of_ble_eq_true rfl, Nat.le_of_ble_eq_true rfl⟩ ⟨Nat.zero_le _, Nat.zero_le _⟩ (tx_recv K G hi) rfl hl.1 rfl (Nat.le_of_ble_eq_true rfl) dJ0_length_8abf5_6 (fun H locs G => ?_)
  refine lv_ishr hx hb dJ0_length_8abf5_9 ?_
  rw [tx_shr i hi]
  exact reI X G dJ0_length_8abf5_10
set_option maxRecDepth 100000 in
theorem c_chkJ {k z : Int32} (h1 : ¬ k < 0) (h2 : k < z) {v : Value} (hv : v = .null ∨ ∃ a, v = .ref a) : MI l D cI cZ cQ adK adV A yJ3_checkIndex_8e157 cJ3_checkIndex_8e157 3 (some .int) { frames := 0, cells := 0, slots := 0, locals := 0 } [.int k, .int z, v] w u k u := by
  refine entI (by decide) (by rcases hv with rfl | ⟨a, rfl⟩ <;> exact Nat.le_of_ble_eq_true rfl) (fun p e s m below meth c ls X K G hl => ?_)
  have hl : lv_has ls 3 [(0, .int k), (1, .int z), (2, v)] := hl
  obtain ⟨hx, hb, -, hown, hts, -⟩ := id X
  refine lv_iload_n hx hb dJ3_checkIndex_8e157_0 rfl (lv_at hl 0 rfl) ?_
  refine lv_if_lt (tgt := 9) hx hb dJ3_checkIndex_8e157_1 (by decide) (fun c1 => absurd c1 h1) (fun c1 => ?_)
  refine lv_iload_n hx hb dJ3_checkIndex_8e157_4 rfl (lv_at hl 0 rfl) ?_
  refine lv_iload_n hx hb dJ3_checkIndex_8e157_5 rfl (lv_at hl 1 rfl) ?_
  refine lv_icmp_lt (tgt := 16) hx hb dJ3_checkIndex_8e157_6 (by decide) (fun c1 => ?_) (fun c1 => absurd h2 c1)
  refine lv_iload_n hx hb dJ3_checkIndex_8e157_16 rfl (lv_at hl 0 rfl) ?_
  exact reI X G dJ3_checkIndex_8e157_17
set_option maxRecDepth 100000 in
theorem c_chk {k z : Int32} (h1 : ¬ k < 0) (h2 : k < z) : MV l D cI cZ cQ adK adV A yJ0_checkIndex_df160 cJ0_checkIndex_df160 2 { frames := 1, cells := 0, slots := 0, locals := 22 } [.int k, .int z] w u u := by
  refine entV (by decide) (Nat.le_of_ble_eq_true rfl) (fun p e s m below meth c ls X K G hl => ?_)
  have hl : lv_has ls 2 [(0, .int k), (1, .int z)] := hl
  obtain ⟨hx, hb, -, hown, hts, -⟩ := id X
  refine lv_iload_n hx hb dJ0_checkIndex_df160_0 rfl (lv_at hl 0 rfl) ?_
  refine lv_iload_n hx hb dJ0_checkIndex_df160_1 rfl (lv_at hl 1 rfl) ?_
  obtain ⟨v, hv, hZ⟩ : ∃ v : Value, (v = .null ∨ ∃ a, v = .ref a) ∧ va_Z "jdk/internal/util/Preconditions" "SIOOBE_FORMATTER" "Ljava/util/function/BiFunction;" v A s s.heap := by
    rcases K.2.2.2.2.2 with h | ⟨t, h⟩
    · exact ⟨_, Or.inl rfl, h⟩
    · exact ⟨_, Or.inr ⟨t, rfl⟩, h⟩
  refine va_gets hx hb hZ G.2.2 hown (hts _ q_411) (fun _ h => h) dJ0_checkIndex_df160_2 ?_
  refine csI (rest := []) X K G (c_chkJ h1 h2 hv) q_413 my_J3_checkIndex_8e157 ⟨rfl, rfl⟩ ⟨Nat.le_of_ble_eq_true rfl, Nat.le_of_ble_eq_true rfl⟩ ⟨Nat.zero_le _, Nat.zero_le _⟩ rfl hl.1 rfl (Nat.le_of_ble_eq_true rfl) dJ0_checkIndex_df160_5 (fun H locs G => ?_)
  refine lv_pop hx hb dJ0_checkIndex_df160_8 rfl ?_
  exact reV X G dJ0_checkIndex_df160_9
theorem tx_lt {i : Nat} (hi : i < 14) {k : Int32} (h : ¬ (k < 0 ∨ tx_len i ≤ k.toNatClampNeg)) : k < nI (tx_len i) := by
  have h1 : k.toNatClampNeg < tx_len i := Nat.not_le.mp fun q => h (Or.inr q)
  obtain ⟨j, hj, rfl⟩ := nI_of (fun q => h (Or.inl q))
  rw [nI_clamp hj] at h1
  exact nI_lt h1 (by have := tx_small i hi; omega)
set_option maxRecDepth 100000 in
theorem c_latChr {i : Nat} (hi : i < 14) {k : Int32} (h : ¬ (k < 0 ∨ tx_len i ≤ k.toNatClampNeg)) : MI l D cI cZ cQ adK adV A yJ1_charAt_3b067 cJ1_charAt_3b067 2 (some .char) { frames := 2, cells := 0, slots := 0, locals := 43 } [.ref (adV i), .int k] w u (tx_chr i k.toNatClampNeg) u := by
  refine entI (by decide) (Nat.le_of_ble_eq_true rfl) (fun p e s m below meth c ls X K G hl => ?_)
  have hl : lv_has ls 2 [(0, .ref (adV i)), (1, .int k)] := hl
  obtain ⟨hx, hb, -, hown, hts, -⟩ := id X
  refine lv_iload_n hx hb dJ1_charAt_3b067_0 rfl (lv_at hl 1 rfl) ?_
  refine lv_aload_n hx hb dJ1_charAt_3b067_1 rfl (lv_at hl 0 rfl) ?_
  refine va_tlen (v := nI (tx_len i)) hx hb (K.2.2.1 i hi).2.2.2 G.2.2 rfl dJ1_charAt_3b067_2 ?_
  refine csV (rest := []) X K G (c_chk (fun q => h (Or.inl q)) (tx_lt hi h)) q_408 my_J0_checkIndex_df160 ⟨rfl, rfl⟩ ⟨Nat.le_of_ble_eq_true rfl, Nat.le_of_ble_eq_true rfl⟩ ⟨Nat.zero_le _, Nat.zero_le _⟩ rfl hl.1 rfl (Nat.le_of_ble_eq_true rfl) dJ1_charAt_3b067_3 (fun H locs G => ?_)
  refine lv_aload_n hx hb dJ1_charAt_3b067_6 rfl (lv_at hl 0 rfl) ?_
  refine lv_iload_n hx hb dJ1_charAt_3b067_7 rfl (lv_at hl 1 rfl) ?_
  refine va_tb hx hb (K.2.2.1 i hi).2.2.2 G.2.2 h rfl dJ1_charAt_3b067_8 ?_
  refine lv_sipush (v := 255) hx hb dJ1_charAt_3b067_9 (by decide) ?_
  refine lv_iand hx hb dJ1_charAt_3b067_12 ?_
  refine lv_i2c (v := tx_chr i k.toNatClampNeg) hx hb dJ1_charAt_3b067_13 rfl ?_
  exact reN X G (pk_nc _) dJ1_charAt_3b067_14
set_option maxRecDepth 100000 in
theorem c_charAt {i : Nat} (hi : i < 14) {k : Int32} (h : ¬ (k < 0 ∨ tx_len i ≤ k.toNatClampNeg)) : MI l D cI cZ cQ adK adV A yJ0_charAt_5068e cJ0_charAt_5068e 2 (some .char) { frames := 3, cells := 0, slots := 0, locals := 64 } [.ref (adK i), .int k] w u (tx_chr i k.toNatClampNeg) u := by
  refine entI (by decide) (Nat.le_of_ble_eq_true rfl) (fun p e s m below meth c ls X K G hl => ?_)
  have hl : lv_has ls 2 [(0, .ref (adK i)), (1, .int k)] := hl
  obtain ⟨hx, hb, -, hown, hts, -⟩ := id X
  refine lv_aload_n hx hb dJ0_charAt_5068e_0 rfl (lv_at hl 0 rfl) ?_
  refine cvR (rest := []) X K G (c_isLatin1 hi) q_401 my_J0_isLatin1_aae02 ⟨rfl, rfl⟩ ⟨Nat.le_of_ble_eq_true rfl, Nat.le_of_ble_eq_true rfl⟩ ⟨Nat.zero_le _, Nat.zero_le _⟩ (tx_recv K G hi) rfl hl.1 rfl (Nat.le_of_ble_eq_true rfl) dJ0_charAt_5068e_1 (fun H locs G => ?_)
  refine lv_if_eq (tgt := 16) hx hb dJ0_charAt_5068e_4 (by decide) (fun c1 => absurd c1 (by decide)) (fun c1 => ?_)
  refine lv_aload_n hx hb dJ0_charAt_5068e_7 rfl (lv_at hl 0 rfl) ?_
  refine vk_getf hx hb (K.2.2.1 i hi).2.2.1 G.2.2 hown (hts _ q_1382) (fun _ h => h) dJ0_charAt_5068e_8 ?_
  refine lv_iload_n hx hb dJ0_charAt_5068e_11 rfl (lv_at hl 1 rfl) ?_
  refine csI (rest := []) X K G (c_latChr hi h) q_405 my_J1_charAt_3b067 ⟨rfl, rfl⟩ ⟨Nat.le_of_ble_eq_true rfl, Nat.le_of_ble_eq_true rfl⟩ ⟨Nat.zero_le _, Nat.zero_le _⟩ rfl hl.1 rfl (Nat.le_of_ble_eq_true rfl) dJ0_charAt_5068e_12 (fun H locs G => ?_)
  exact reN X G (pk_nc _) dJ0_charAt_5068e_15
/-- length() of a text, called -/
theorem cLen (X : cx p s m args meth c cc nL own ret0) (K : kx D cI cZ cQ adK adV A s s.heap) (G : wg D A s.heap H locs (w u)) {i : Nat} (hi : i < 14) (hml : Cond.methodLink own index yJ0_length_8abf5 ∈ wsA) (hls : ls.size = nL) (hst : st = .ref (adK i) :: rest) (hW : (rest.map fun v => v.category).sum ≤ 8) (hR : 2 ≤ R.frames ∧ 40 ≤ R.locals) (hdg : decode cc pc = .ok (.invokevirtual index, 3))
    (kk : ∀ (H1 : Heap) (locs1 : List Loc), wg D A s.heap H1 locs1 (w u) → W p l e R s m args below meth c H1 locs1 0 0 Q (F0 m (pc + 3) ls (.int (nI (tx_len i)) :: rest))) : W p l e R s m args below meth c H locs 0 0 Q (F0 m pc ls st) :=
  cvR (As := []) (rest := rest) X K G (c_length hi) hml my_J0_length_8abf5 ⟨rfl, rfl⟩ hR ⟨Nat.zero_le _, Nat.zero_le _⟩ (tx_recv K G hi) rfl hls hst hW hdg kk
theorem cChr (X : cx p s m args meth c cc nL own ret0) (K : kx D cI cZ cQ adK adV A s s.heap) (G : wg D A s.heap H locs (w u)) {i : Nat} (hi : i < 14) {k : Int32} (hk : ¬ (k < 0 ∨ tx_len i ≤ k.toNatClampNeg)) (hml : Cond.methodLink own index yJ0_charAt_5068e ∈ wsA) (hls : ls.size = nL) (hst : st = .int k :: .ref (adK i) :: rest) (hW : (rest.map fun v => v.category).sum ≤ 8) (hR : 4 ≤ R.frames ∧ 85 ≤ R.locals) (hdg : decode cc pc = .ok (.invokevirtual index, 3))
    (kk : ∀ (H1 : Heap) (locs1 : List Loc), wg D A s.heap H1 locs1 (w u) → W p l e R s m args below meth c H1 locs1 0 0 Q (F0 m (pc + 3) ls (.int (tx_chr i k.toNatClampNeg) :: rest))) : W p l e R s m args below meth c H locs 0 0 Q (F0 m pc ls st) :=
  cvR (As := [.int k]) (rest := rest) X K G (c_charAt hi hk) hml my_J0_charAt_5068e ⟨rfl, rfl⟩ hR ⟨Nat.zero_le _, Nat.zero_le _⟩ (tx_recv K G hi) rfl hls hst hW hdg kk
/-! a method that answers a text -/
abbrev va_Qt {S : Type} (adK : Nat → Nat) (post : Nat → S → Prop) (B : S → State → Prop) (A : Nat → Prop) : Array Value → State → Outcome → State → Prop := va_Qr (fun q : Nat × S => post q.1 q.2) (fun q a t => a = adK q.1 ∧ B q.2 t) A
abbrev MS_ {S : Type} (l : Launch) (D : va_G) (cI cZ cQ : ClassId) (adK adV : Nat → Nat) (A : Nat → Prop) (y : MethodName) (cc : ByteArray) (maxL : Nat) (rm : Room) (av : List Value) (w : S → va_W) (u : S) (r : Nat) (u' : S) : Prop :=
  Met l y (wz y cc maxL (some (.object "java/lang/String"))) rm (va_Pc av (gp D cI cZ cQ adK adV A (w u))) (va_Qt adK (fun q v => q = r ∧ v = u') (ge D A w) A) 0 0 A
abbrev qS (D : va_G) (A : Nat → Prop) (w : S → va_W) (adK : Nat → Nat) (below : List Frame) (args : Array Value) (s : State) (r : Nat) (u : S) : State → Prop := MQ below (va_Qt adK (fun q v => q = r ∧ v = u) (ge D A w) A) args s 0 0 A
theorem reS {r : Nat} (X : cx p s m args meth c cc nL own (some (.object "java/lang/String"))) (G : wg D A s.heap H locs (w u)) (hdg : decode cc pc = .ok (.areturn, 1)) : W p l e R s m args below meth c H locs 0 0 (qS D A w adK below args s r u) (F0 m pc ls [.ref (adK r)]) := by
  obtain ⟨hx, hb, hmx, hown, hts, hr, hlocks⟩ := X
  exact W.aret hx hb hr (Or.inl ⟨_, rfl⟩) (Or.inr ⟨_, rfl⟩) (fun t ht hW => ⟨⟨(r, u), _, rfl, ⟨rfl, rfl⟩, rfl, by rw [ht]; exact G.1, G.2.1⟩, G.2.2.F ht⟩) G.2.2.2.2 hdg hlocks
theorem entS {r : Nat} {av : List Value} (hy : plainName y.cls = true) (hlen : (lg_sl av).length ≤ maxL) (body : ∀ (p : Program) (e : Env) (s : State) (m : MethodId) (below : List Frame) (meth : Method) (c : Code) (ls : Array Slot), cx p s m av.toArray meth c cc maxL y.cls (some (.object "java/lang/String")) → kx D cI cZ cQ adK adV A s s.heap → wg D A s.heap s.heap [] (w u) → lv_has ls maxL (lv_args 0 av) → W p l e rm s m av.toArray below meth c s.heap [] 0 0 (qS D A w adK below av.toArray s r u') (F0 m 0 ls [])) : MS_ l D cI cZ cQ adK adV A y cc maxL rm av w u r u' := by
  refine Met.ofW (cc := cc) (maxL := maxL) (ret := some (.object "java/lang/String")) hy rfl ?_
  intro p e s m args below meth c s₁ B hml hv
  obtain ⟨rfl, hP, hD, K⟩ := hv
  rw [lg_entry_eq]
  exact body p e s m below meth c _ ⟨B.exec, B.bytes, hml, findClass_of_methodNamed B.named, fun w h => atoms_spec (ws := wz y cc maxL (some (.object "java/lang/String"))) B.pre w (List.mem_cons_of_mem _ h), B.returns, B.notSynchronized⟩ K ⟨hP, hD, va_S.rf⟩ (lv_entry av hlen)
theorem csS {r : Nat} (X : cx p s m args meth c cc nL own ret0) (K : kx D cI cZ cQ adK adV A s s.heap) (G : wg D A s.heap H locs (w u)) (hM : MS_ l D cI cZ cQ adK adV A y bytes maxL rm As w u r u') (hml : Cond.methodLink own index y ∈ wsA) (hmy : myS y bytes maxL (some (.object "java/lang/String")) n) (hrm : rm.cells = 0 ∧ rm.slots = 0) (hR : rm.frames + 1 ≤ R.frames ∧ 8 + (maxL + 11) + rm.locals ≤ R.locals) (hcs : cells ≤ R.cells ∧ slots ≤ R.slots) (hn : As.length = n) (hls : ls.size = nL) (hst : st = As.reverse ++ rest) (hW : (rest.map fun v => v.category).sum ≤ 8) (hdg : decode cc pc = .ok (.invokestatic index, 3))
    (kk : ∀ (H1 : Heap) (locs1 : List Loc), wg D A s.heap H1 locs1 (w u') → W p l e R s m args below meth c H1 locs1 cells slots Q (F0 m (pc + 3) ls (.ref (adK r) :: rest))) : W p l e R s m args below meth c H locs cells slots Q (F0 m pc ls st) := by
  obtain ⟨hx, hb, hmx, hown, hts, hr, hlocks⟩ := X
  obtain ⟨y1, y3, y4, y5⟩ := hmy
  refine va_callr (va_runS (As := As) (rest := rest) (Ts := wsA) ⟨hx, hb, hmx, hown, hts⟩ hM ⟨callB_of n hts (wz_good y4) rfl hrm.1 hrm.2 (hts _ y3) (hts _ hml) y5 hR, hts _ y1⟩ ⟨gp_blind, fun U hU hW => ⟨rfl, gp_of K G hU hW⟩⟩ rfl hn hls hst (lv_room hW) hdg hcs) G.2.2 (fun _ _ h => h) (fun _ h => h) (fun u1 ra t H1 locs1 ht hvm hw hB hz1 hk1 hS => ?_)
  obtain ⟨rfl, rfl⟩ := hw
  obtain ⟨rfl, hB⟩ := hB
  exact kk H1 locs1 ⟨by rw [← ht]; exact hB.1, hB.2, hS⟩
end STR
