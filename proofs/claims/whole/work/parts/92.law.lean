section LAWROWS
variable {p : Program} {l : Launch} {e : Env} {R : Room} {s : State} {m : MethodId} {args : Array Value} {below : List Frame} {meth : Method} {c : Code} {H : Heap} {locs : List Loc} {cells slots : Nat} {Q : State → Prop} {cc : ByteArray} {nL : Nat} {own : String} {ret0 : Option FieldType} {D : va_G} {cI cZ cQ : ClassId} {adK adV adx adm : Nat → Nat} {A : Nat → Prop} {index n maxL pc : Nat} {As st rest : List Value} {ls : Array Slot} {y : MethodName} {bytes : ByteArray} {rm : Room} {r : Int32} {σ σ' : XS} {τ τ' : MS}
theorem gp_thin {wc w : va_W} {U : State} (K : kx D cI cZ cQ adK adV A s s.heap) (G : wg D A s.heap H locs w) (hF : ∀ q, va_A wc H.size q → A q) (hPc : va_P D vwCl wc H) (hDc : va_D A wc) (hU : U.heap = H) (hW : s.WarmedH U.vm) : gp D cI cZ cQ adK adV (va_A wc H.size) wc U := by
  refine ⟨by rw [hU]; exact hPc, hDc.self, ?_⟩
  rw [hU]
  exact ((K.kept (fun a h1 h2 => G.2.2.2.1 a h1 h2)).warm hW).thin hF
/-- a call on the first of two worlds: they change places -/
theorem lcI {S : Type} {w : S → va_W} {u u' : S} {wr : va_W} {C : String} {b ci : Nat} {q : vw_C} {fs : List Value} (X : cx p s m args meth c cc nL own ret0) (K : kx D cI cZ cQ adK adV A s s.heap) (hA : ∀ q : Nat, s.heap.size ≤ q → A q) (G : wg D A s.heap H locs (w u ++ wr)) (isC isR : List Nat) (hC : isC.map (fun i => (w u ++ wr)[i]?) = (w u).map some) (hCw : isC.filterMap (fun i => (w u ++ wr)[i]?) = w u) (hCn : va_nd isC = true) (hRR : isR.map (fun i => (w u ++ wr)[i]?) = wr.map some) (hnd : va_nd isR = true) (hdis : ∀ i ∈ isR, i ∉ isC) (hM : ∀ A' : Nat → Prop, MI l D cI cZ cQ adK adV A' y bytes maxL (some .int) rm (.ref b :: As) w u r u') (hml : Cond.methodLink own index y ∈ wsA) (hmy : myV y C bytes maxL (some .int) n) (hrm : rm.cells = 0 ∧ rm.slots = 0) (hR : rm.frames + 1 ≤ R.frames ∧ 8 + (maxL + 11) + rm.locals ≤ R.locals) (hcs : cells ≤ R.cells ∧ slots ≤ R.slots) (he : (w u)[0]? = some (b, .inr (ci, fs))) (hc : vwCl[ci]? = some q) (hq : q.1 = C) (hn : As.length = n) (hls : ls.size = nL) (hst : st = As.reverse ++ .ref b :: rest) (hW : (rest.map fun v => v.category).sum ≤ 8) (hdg : decode cc pc = .ok (.invokevirtual index, 3))
    (kk : ∀ (H1 : Heap) (locs1 : List Loc), wg D A s.heap H1 locs1 (wr ++ w u') → W p l e R s m args below meth c H1 locs1 cells slots Q (F0 m (pc + 3) ls (.int r :: rest))) : W p l e R s m args below meth c H locs cells slots Q (F0 m pc ls st) := by
  obtain ⟨hx, hb, hmx, hown, hts, hr, hlocks⟩ := X
  obtain ⟨y1, y2, y3, y4, y5⟩ := hmy
  subst hq
  have hF := va_free (wc := w u) G.2.1 G.2.2 hA isC hC
  have hPc : va_P D vwCl (w u) H := G.1.sub isC hCw
  have hDc : va_D A (w u) := G.2.1.sub isC hCn hC
  refine va_calli (va_runV (As := As) (rest := rest) (Ts := wsA) ⟨hx, hb, hmx, hown, hts⟩ (hM (va_A (w u) H.size)) (cwV n hts (wz_V hml y1 y2 y3 y4) rfl hrm.1 hrm.2 y5 hR) ⟨gp_blind, va_recv K.1 hPc hc he, fun U hU hW => ⟨rfl, gp_thin K G hF hPc hDc hU hW⟩⟩ rfl hn hls hst (lv_room hW) hdg hcs) G.2.2 (fun q _ h => hF q h) hF (fun r1 u1 t H1 locs1 ht hvm hw hB hz1 hk1 hS => ?_)
  obtain ⟨rfl, rfl⟩ := hw
  obtain ⟨hP1, hD1⟩ := hB
  rw [ht] at hP1
  obtain ⟨hP, hD⟩ := va_join (wr := wr) (w1 := w u1) G.1 G.2.1 isC isR hC hRR hnd hdis hk1 hF hP1 hD1
  exact kk H1 locs1 ⟨hP, hD, hS⟩
theorem lcX (X : cx p s m args meth c cc nL own ret0) (K : kx D cI cZ cQ adK adV A s s.heap) (hA : ∀ q : Nat, s.heap.size ≤ q → A q) (G : wg D A s.heap H locs (wX cI cZ cQ adx σ ++ wM cI adm τ)) (hM : ∀ A' : Nat → Prop, MI l D cI cZ cQ adK adV A' y bytes maxL (some .int) rm (.ref (adx 0) :: As) (wX cI cZ cQ adx) σ r σ') (hml : Cond.methodLink own index y ∈ wsA) (hmy : myV y RX6 bytes maxL (some .int) n) (hrm : rm.cells = 0 ∧ rm.slots = 0) (hR : rm.frames + 1 ≤ R.frames ∧ 8 + (maxL + 11) + rm.locals ≤ R.locals) (hcs : cells ≤ R.cells ∧ slots ≤ R.slots) (hn : As.length = n) (hls : ls.size = nL) (hst : st = As.reverse ++ .ref (adx 0) :: rest) (hW : (rest.map fun v => v.category).sum ≤ 8) (hdg : decode cc pc = .ok (.invokevirtual index, 3))
    (kk : ∀ (H1 : Heap) (locs1 : List Loc), wg D A s.heap H1 locs1 (wM cI adm τ ++ wX cI cZ cQ adx σ') → W p l e R s m args below meth c H1 locs1 cells slots Q (F0 m (pc + 3) ls (.int r :: rest))) : W p l e R s m args below meth c H locs cells slots Q (F0 m pc ls st) :=
  lcI (w := wX cI cZ cQ adx) (wr := wM cI adm τ) X K hA G [0, 1, 2, 3, 4, 5, 6, 7, 8, 9, 10, 11, 12, 13, 14, 15, 16, 17, 18, 19, 20, 21, 22, 23, 24, 25, 26, 27, 28, 29, 30, 31, 32, 33, 34, 35, 36, 37, 38, 39, 40, 41, 42, 43] [44, 45, 46, 47, 48, 49, 50, 51, 52, 53, 54] rfl rfl rfl rfl rfl (by decide) hM hml hmy hrm hR hcs rfl rfl rfl hn hls hst hW hdg kk
theorem lcM (X : cx p s m args meth c cc nL own ret0) (K : kx D cI cZ cQ adK adV A s s.heap) (hA : ∀ q : Nat, s.heap.size ≤ q → A q) (G : wg D A s.heap H locs (wM cI adm τ ++ wX cI cZ cQ adx σ)) (hM : ∀ A' : Nat → Prop, MI l D cI cZ cQ adK adV A' y bytes maxL (some .int) rm (.ref (adm 0) :: As) (wM cI adm) τ r τ') (hml : Cond.methodLink own index y ∈ wsA) (hmy : myV y RX7 bytes maxL (some .int) n) (hrm : rm.cells = 0 ∧ rm.slots = 0) (hR : rm.frames + 1 ≤ R.frames ∧ 8 + (maxL + 11) + rm.locals ≤ R.locals) (hcs : cells ≤ R.cells ∧ slots ≤ R.slots) (hn : As.length = n) (hls : ls.size = nL) (hst : st = As.reverse ++ .ref (adm 0) :: rest) (hW : (rest.map fun v => v.category).sum ≤ 8) (hdg : decode cc pc = .ok (.invokevirtual index, 3))
    (kk : ∀ (H1 : Heap) (locs1 : List Loc), wg D A s.heap H1 locs1 (wX cI cZ cQ adx σ ++ wM cI adm τ') → W p l e R s m args below meth c H1 locs1 cells slots Q (F0 m (pc + 3) ls (.int r :: rest))) : W p l e R s m args below meth c H locs cells slots Q (F0 m pc ls st) :=
  lcI (w := wM cI adm) (wr := wX cI cZ cQ adx σ) X K hA G [0, 1, 2, 3, 4, 5, 6, 7, 8, 9, 10] [11, 12, 13, 14, 15, 16, 17, 18, 19, 20, 21, 22, 23, 24, 25, 26, 27, 28, 29, 30, 31, 32, 33, 34, 35, 36, 37, 38, 39, 40, 41, 42, 43, 44, 45, 46, 47, 48, 49, 50, 51, 52, 53, 54] rfl rfl rfl rfl rfl (by decide) hM hml hmy hrm hR hcs rfl rfl rfl hn hls hst hW hdg kk
end LAWROWS
theorem at_cx {p : Program} {s : State} {m : MethodId} {meth : Method} {c : Code} {b L : Nat} {xs : Nat → Int32} (C0 : lw_At p s m meth c b L xs) : cx p s m #[Value.ref b] meth c cL_law 4 RL ret :=
  ⟨C0.1, C0.2.1, C0.2.2.2.1, C0.2.2.2.2.1, fun w h => C0.2.2.2.2.2.1 w (wA_in w h), C0.2.2.1, C0.2.2.2.2.2.2.2.2.1⟩
theorem lw_in {i : Int32} {L : Nat} (hL : L ≤ 3072) (hi : 0 ≤ i.toInt ∧ i.toInt + 6 ≤ L) (k : Int32) (hk : 0 ≤ k.toInt ∧ k.toInt ≤ 5) : vp_in (i + k) L := by
  have e : (i + k).toInt = i.toInt + k.toInt := i_add (by omega) (by omega)
  rintro (h | h)
  · have := (i_lt _ _).mp h
    rw [e] at this
    have z : (0 : Int32).toInt = 0 := rfl
    omega
  · have := i_cl (x := i + k) (by omega)
    omega
/-- one case of the law's switch: both answer alike, and the loop goes on -/
def lK (start : Nat) : Prop := ∀ {p : Program} {l : Launch} {e : Env} {s : State} {m : MethodId} {below : List Frame} {meth : Method} {c : Code} {b L : Nat} {xs : Nat → Int32} (_ : L ≤ 3072) (_ : lw_At p s m meth c b L xs) {D : va_G} {cI cZ cQ : ClassId} {adK adV adx adm : Nat → Nat} (_ : kx D cI cZ cQ adK adV (fun q : Nat => s.heap.size ≤ q) s s.heap) {σ : XS} {τ : MS} (_ : Rel σ τ) {H : Heap} {locs : List Loc} (_ : wg D (fun q : Nat => s.heap.size ≤ q) s.heap H locs (wX cI cZ cQ adx σ ++ wM cI adm τ)) {i : Int32} (_ : 0 ≤ i.toInt ∧ i.toInt + 6 ≤ L) {ls : Array Slot} (_ : lv_has ls 4 [(3, .int i), (2, .ref (adm 0)), (1, .ref (adx 0)), (0, .ref b)]) {Q : State → Prop}
  (_ : ∀ (σ' : XS) (τ' : MS) (H1 : Heap) (locs1 : List Loc), Rel σ' τ' → wg D (fun q : Nat => s.heap.size ≤ q) s.heap H1 locs1 (wX cI cZ cQ adx σ' ++ wM cI adm τ') → W p l e room_1 s m #[Value.ref b] below meth c H1 locs1 55 9162 Q (F0 m 1623 ls [])), W p l e room_1 s m #[Value.ref b] below meth c H locs 55 9162 Q (F0 m start ls [])
