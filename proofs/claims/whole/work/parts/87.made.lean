/-! CONSTRUCTORS: what they ask, what they make -/
theorem kx.thin {D : va_G} {cI cZ cQ : ClassId} {adK adV : Nat → Nat} {A B : Nat → Prop} {U : State} {H : Heap} (hAB : ∀ q, B q → A q) (h : kx D cI cZ cQ adK adV A U H) : kx D cI cZ cQ adK adV B U H := ⟨h.1, h.2.1, h.2.2.narrow hAB⟩
def zro : Nat → Int32 := fun _ => 0
/-- where a constructor begins -/
def gq (D : va_G) (cI cZ cQ : ClassId) (adK adV : Nat → Nat) (A : Nat → Prop) (w : va_W) (U : State) : Prop := gp D cI cZ cQ adK adV A w U ∧ (∀ q : Nat, U.heap.size ≤ q → A q) ∧ va_AO RX1 U
abbrev MC (l : Launch) (D : va_G) (cI cZ cQ : ClassId) (adK adV : Nat → Nat) (A : Nat → Prop) (y : MethodName) (cc : ByteArray) (maxL : Nat) (rm : Room) (av : List Value) (w0 : va_W) (w1 : (Nat → Nat) → va_W) (mc ms : Nat) : Prop :=
  Met l y (wz y cc maxL none) rm (va_Pc av (gq D cI cZ cQ adK adV A w0)) (va_Qv (fun _ : Nat → Nat => True) (ge D A w1) A) mc ms A
abbrev qC (D : va_G) (A : Nat → Prop) (w1 : (Nat → Nat) → va_W) (below : List Frame) (args : Array Value) (s : State) (mc ms : Nat) : State → Prop := MQ below (va_Qv (fun _ : Nat → Nat => True) (ge D A w1) A) args s mc ms A
theorem entC {l : Launch} {D : va_G} {cI cZ cQ : ClassId} {adK adV : Nat → Nat} {A : Nat → Prop} {w0 : va_W} {w1 : (Nat → Nat) → va_W} {y : MethodName} {cc : ByteArray} {maxL : Nat} {rm : Room} {av : List Value} {mc ms : Nat} (hy : plainName y.cls = true) (hyn : y.name = "<init>") (hlen : (lg_sl av).length ≤ maxL) (body : ∀ (p : Program) (e : Env) (s : State) (m : MethodId) (below : List Frame) (meth : Method) (c : Code) (ls : Array Slot), cx p s m av.toArray meth c cc maxL y.cls none → meth.name = "<init>" → kx D cI cZ cQ adK adV A s s.heap → (∀ q : Nat, s.heap.size ≤ q → A q) → va_AO RX1 s → wg D A s.heap s.heap [] w0 → lv_has ls maxL (lv_args 0 av) → W p l e rm s m av.toArray below meth c s.heap [] 0 0 (qC D A w1 below av.toArray s mc ms) (F0 m 0 ls [])) : MC l D cI cZ cQ adK adV A y cc maxL rm av w0 w1 mc ms := by
  refine Met.ofW (cc := cc) (maxL := maxL) (ret := none) hy rfl ?_
  intro p e s m args below meth c s₁ B hml hv
  obtain ⟨rfl, ⟨hP, hD, K⟩, hA, hO⟩ := hv
  rw [lg_entry_eq]
  exact body p e s m below meth c _ ⟨B.exec, B.bytes, hml, findClass_of_methodNamed B.named, fun w h => atoms_spec (ws := wz y cc maxL none) B.pre w (List.mem_cons_of_mem _ h), B.returns, B.notSynchronized⟩ ((name_of_methodNamed B.named B.method).1.trans hyn) K hA hO ⟨hP, hD, va_S.rf⟩ (lv_entry av hlen)
section MADE
variable {p : Program} {l : Launch} {e : Env} {R : Room} {s : State} {m : MethodId} {args : Array Value} {below : List Frame} {meth : Method} {c : Code} {H : Heap} {locs : List Loc} {cells slots c2 s2 : Nat} {Q : State → Prop} {cc : ByteArray} {nL : Nat} {own : String} {ret0 : Option FieldType} {D : va_G} {cI cZ cQ : ClassId} {adK adV : Nat → Nat} {A : Nat → Prop} {w : va_W} {index : Nat} {rest : List Value} {a pc : Nat} {ls : Array Slot}
theorem reC {w1 : (Nat → Nat) → va_W} (X : cx p s m args meth c cc nL own none) (u : Nat → Nat) (G : wg D A s.heap H locs (w1 u)) (hdg : decode cc pc = .ok (.return_, 1)) : W p l e R s m args below meth c H locs cells slots (qC D A w1 below args s cells slots) (F0 m pc ls []) := by
  obtain ⟨hx, hb, hmx, hown, hts, hr, hlocks⟩ := X
  exact W.vret hx hb hr (fun t ht hW => ⟨⟨u, rfl, trivial, by rw [ht]; exact G.1, G.2.1⟩, G.2.2.F ht⟩) G.2.2.2.2 hdg hlocks
theorem obC (X : cx p s m args meth c cc nL own ret0) (hls : ls.size = nL) (hl : Cond.methodLink own index objectInit ∈ wsA) (hi : Cond.instanceMethod objectInit ∈ wsA) (hc : Cond.code objectInit ⟨#[0xb1]⟩ 1 none ∈ wsA) (h1 : 1 ≤ R.frames) (h2 : (rest.map fun v => v.category).sum + 12 ≤ R.locals) (hdg : decode cc pc = .ok (.invokespecial index, 3)) (kk : W p l e R s m args below meth c H locs cells slots Q (F0 m (pc + 3) ls rest)) : W p l e R s m args below meth c H locs cells slots Q (F0 m pc ls (.ref a :: rest)) := by
  obtain ⟨hx, hb, hmx, hown, hts, hr, hlocks⟩ := X
  refine W.objInit hx hb hown (hts _ hl) (hts _ hi) (hts _ hc) rfl (by rw [hmx]; exact hls) rfl hdg h1 ?_ ?_
  · show 2 * 0 + _ + 12 ≤ _
    omega
  · exact W.eq (g2 := F0 m (pc + 3) ls rest) rfl kk
theorem nwC (X : cx p s m args meth c cc nL own ret0) (K : kx D cI cZ cQ adK adV A s s.heap) (hA : ∀ q : Nat, s.heap.size ≤ q → A q) (G : wg D A s.heap H locs w) {ci : Nat} {C : String} {T : u_T} {N : Nat} (hc : vwCl[ci]? = some (C, T, N)) (hin : ∀ wd ∈ u_ws C T N, wd ∈ wsA) (ty : Nat → FieldType) (hty : ∀ k, k < N → parseFieldDescriptor (T k).2.2.1 = some (ty k)) (hl : Cond.classLink own index C ∈ wsA) (hi : Cond.instantiable C N ∈ wsA) (hini : Cond.initialized C ∈ wsA) {fs : List Value} (hfs : ∀ j, j < N → defaultValue (ty j) = vp_V fs j) (h1 : cells + 1 = c2) (h2 : slots + N = s2) (hR : c2 ≤ R.cells ∧ s2 ≤ R.slots) (hdg : decode cc pc = .ok (.new index, 3))
    (kk : ∀ (q : Nat) (H1 : Heap), wg D A s.heap H1 locs (w ++ [(q, .inr (ci, fs))]) → W p l e R s m args below meth c H1 locs c2 s2 Q (F0 m (pc + 3) ls (.ref q :: rest))) : W p l e R s m args below meth c H locs cells slots Q (F0 m pc ls rest) := by
  subst h1; subst h2
  obtain ⟨hx, hb, hmx, hown, hts, hr, hlocks⟩ := X
  exact va_new hx hb hts hin ty hty hown (hts _ hl) (hts _ hi) (hts _ hini) K.1 G.1 G.2.1 G.2.2 hA hc hfs hR.1 hR.2 hdg (fun q H1 h1 h2 h3 => kk q H1 ⟨h1, h2, h3⟩)
theorem niC (X : cx p s m args meth c cc nL own ret0) (K : kx D cI cZ cQ adK adV A s s.heap) (hA : ∀ q : Nat, s.heap.size ≤ q → A q) (G : wg D A s.heap H locs w) (hl : Cond.arrayClass .int ∈ wsA) {n : Int32} {N : Nat} (hn : ¬ n < 0) (hN : n.toNatClampNeg = N) (hbt : N * 4 ≤ 536870912) (h1 : cells + 1 = c2) (h2 : slots + N = s2) (hR : c2 ≤ R.cells ∧ s2 ≤ R.slots) (hdg : decode cc pc = .ok (.newarray .int, 2))
    (kk : ∀ (q : Nat) (H1 : Heap), wg D A s.heap H1 locs (w ++ [(q, .inl (cI, N, .inl zro))]) → W p l e R s m args below meth c H1 locs c2 s2 Q (F0 m (pc + 2) ls (.ref q :: rest))) : W p l e R s m args below meth c H locs cells slots Q (F0 m pc ls (.int n :: rest)) := by
  subst h1; subst h2
  obtain ⟨hx, hb, hmx, hown, hts, hr, hlocks⟩ := X
  refine va_newa (atype := .int) (ty := .int) (a0 := (N, .inl zro)) hx hb (hts _ hl) rfl K.1 G.1 G.2.1 G.2.2 hA (fun _ => rfl) hn hN hbt hR.1 hR.2 hdg (fun q cA H1 k h1 h2 h3 => ?_)
  have e1 : s.vm.findClass ("[" ++ FieldType.int.toString) = some cA := (k.2 3 (cA, .int) rfl).2
  have e2 : s.vm.findClass ("[" ++ FieldType.int.toString) = some cI := (k.2 0 (cI, .int) rfl).2
  have e3 : cA = cI := Option.some.inj (e1.symm.trans e2)
  subst e3
  exact kk q H1 ⟨h1, h2, h3⟩
theorem nzC (X : cx p s m args meth c cc nL own ret0) (K : kx D cI cZ cQ adK adV A s s.heap) (hA : ∀ q : Nat, s.heap.size ≤ q → A q) (G : wg D A s.heap H locs w) (hl : Cond.arrayClass .boolean ∈ wsA) {n : Int32} {N : Nat} (hn : ¬ n < 0) (hN : n.toNatClampNeg = N) (hbt : N * 1 ≤ 536870912) (h1 : cells + 1 = c2) (h2 : slots + N = s2) (hR : c2 ≤ R.cells ∧ s2 ≤ R.slots) (hdg : decode cc pc = .ok (.newarray .boolean, 2))
    (kk : ∀ (q : Nat) (H1 : Heap), wg D A s.heap H1 locs (w ++ [(q, .inl (cZ, N, .inl zro))]) → W p l e R s m args below meth c H1 locs c2 s2 Q (F0 m (pc + 2) ls (.ref q :: rest))) : W p l e R s m args below meth c H locs cells slots Q (F0 m pc ls (.int n :: rest)) := by
  subst h1; subst h2
  obtain ⟨hx, hb, hmx, hown, hts, hr, hlocks⟩ := X
  refine va_newa (atype := .boolean) (ty := .boolean) (a0 := (N, .inl zro)) hx hb (hts _ hl) rfl K.1 G.1 G.2.1 G.2.2 hA (fun _ => rfl) hn hN hbt hR.1 hR.2 hdg (fun q cA H1 k h1 h2 h3 => ?_)
  have e1 : s.vm.findClass ("[" ++ FieldType.boolean.toString) = some cA := (k.2 3 (cA, .boolean) rfl).2
  have e2 : s.vm.findClass ("[" ++ FieldType.boolean.toString) = some cZ := (k.2 1 (cZ, .boolean) rfl).2
  have e3 : cA = cZ := Option.some.inj (e1.symm.trans e2)
  subst e3
  exact kk q H1 ⟨h1, h2, h3⟩
theorem nqC (X : cx p s m args meth c cc nL own ret0) (K : kx D cI cZ cQ adK adV A s s.heap) (hA : ∀ q : Nat, s.heap.size ≤ q → A q) (hO : va_AO RX1 s) (G : wg D A s.heap H locs w) (hl : Cond.classLink own index RX1 ∈ wsA) {n : Int32} {N : Nat} (hn : ¬ n < 0) (hN : n.toNatClampNeg = N) (hbt : N * 4 ≤ 536870912) (h1 : cells + 1 = c2) (h2 : slots + N = s2) (hR : c2 ≤ R.cells ∧ s2 ≤ R.slots) (hdg : decode cc pc = .ok (.anewarray index, 3))
    (kk : ∀ (q : Nat) (H1 : Heap), wg D A s.heap H1 locs (w ++ [(q, .inl (cQ, N, .inr (.inr (.inr (.inr (fun _ => none))))))]) → W p l e R s m args below meth c H1 locs c2 s2 Q (F0 m (pc + 3) ls (.ref q :: rest))) : W p l e R s m args below meth c H locs cells slots Q (F0 m pc ls (.int n :: rest)) := by
  subst h1; subst h2
  obtain ⟨hx, hb, hmx, hown, hts, hr, hlocks⟩ := X
  refine va_newq hx hb hown (hts _ hl) hO K.1 G.1 G.2.1 G.2.2 hA hn hN hbt hR.1 hR.2 hdg (fun q cA H1 k h1 h2 h3 => ?_)
  obtain ⟨_, _, _, _, _, e1⟩ := (k.2 3 (cA, .object RX1) rfl).2
  obtain ⟨_, _, _, _, _, e2⟩ := (k.2 2 (cQ, .object RX1) rfl).2
  have e3 : cA = cQ := Option.some.inj (e1.symm.trans e2)
  subst e3
  exact kk q H1 ⟨h1, h2, h3⟩
/-- a final field is written -/
theorem pfin (X : cx p s m args meth c cc nL own ret0) (hin2 : meth.name = "<init>") (K : kx D cI cZ cQ adK adV A s s.heap) (G : wg D A s.heap H locs w) (q0 : Nat) {ci : Nat} {fs : List Value} {C : String} {T : u_T} {N : Nat} (he : w[q0]? = some (a, .inr (ci, fs))) (hc : vwCl[ci]? = some (C, T, N)) (hin : ∀ wd ∈ u_ws C T N, wd ∈ wsA) (ty0 : Nat → FieldType) (hty : ∀ k, k < N → parseFieldDescriptor (T k).2.2.1 = some (ty0 k)) (hnm : ∀ a, a < N → ∀ b, b < N → a ≠ b → (T a).2.1 ≠ (T b).2.1) (k : Nat) (hk : k < N) {ref nm ds : String} (hl : Cond.fieldLink own index ref nm ds ∈ wsA) (hT : (T k).1 = ref ∧ (T k).2.1 = nm ∧ (T k).2.2.1 = ds) (hfin : (T k).2.2.2 = true) (hdecl : (T k).1 = own) {ty : FieldType} {v : Value} (hd : ty0 k = ty) (hn : narrow ty v = v) (hfit : fits ty v = true) (hlen : k < fs.length) (hdg : decode cc pc = .ok (.putfield index, 3))
    (kk : ∀ (H1 : Heap) (locs1 : List Loc), wg D A s.heap H1 locs1 (w.set q0 (a, .inr (ci, fs.set k v))) → W p l e R s m args below meth c H1 locs1 cells slots Q (F0 m (pc + 3) ls rest)) : W p l e R s m args below meth c H locs cells slots Q (F0 m pc ls (v :: .ref a :: rest)) := by
  obtain ⟨rfl, rfl, rfl⟩ := hT
  exact va_putF (D := D) (ty := ty) X.1 X.2.1 X.2.2.2.2.1 hin ty0 hty hnm X.2.2.2.1 K.1 G.1 G.2.1 G.2.2 q0 he hc k hk (X.2.2.2.2.1 _ hl) (fun _ h => h) hfin hin2 hdecl (by rw [hty k hk, hd]) hn hfit hlen hdg (fun H1 locs1 h1 h2 h3 => kk H1 locs1 ⟨h1, h2, h3⟩)
/-- a sheet is put into an array -/
theorem gqst (X : cx p s m args meth c cc nL own ret0) (K : kx D cI cZ cQ adK adV A s s.heap) (G : wg D A s.heap H locs w) (q0 qk : Nat) {n v : Nat} {f : Nat → Option Nat} {vs : List Value} (he : w[q0]? = some (a, .inl (cQ, n, .inr (.inr (.inr (.inr f)))))) (hv : w[qk]? = some (v, .inr (1, vs))) {i : Int32} (hin : ¬ (i < 0 ∨ n ≤ i.toNatClampNeg)) (hdg : decode cc pc = .ok (.aastore, 1))
    (kk : ∀ (H1 : Heap) (locs1 : List Loc), wg D A s.heap H1 locs1 (w.set q0 (a, .inl (cQ, n, .inr (.inr (.inr (.inr (va_up f i.toNatClampNeg (some v)))))))) → W p l e R s m args below meth c H1 locs1 cells slots Q (F0 m (pc + 1) ls rest)) : W p l e R s m args below meth c H locs cells slots Q (F0 m pc ls (.ref v :: .int i :: .ref a :: rest)) :=
  va_astq (D := D) (r := (RX1, TX1, 3)) X.1 X.2.1 K.1 G.1 G.2.1 G.2.2 q0 2 qk 1 he rfl hv rfl hin hdg (fun H1 locs1 h1 h2 h3 => kk H1 locs1 ⟨h1, h2, h3⟩)
/-- what a constructor's call asks of the state -/
theorem gq_of {wc : va_W} {U : State} (K : kx D cI cZ cQ adK adV A s s.heap) (hO : va_AO RX1 s) (G : wg D A s.heap H locs w) (hF : ∀ q, va_A wc H.size q → A q) (hPc : va_P D vwCl wc H) (hDc : va_D A wc) (hU : U.heap = H) (hW : s.WarmedH U.vm) : gq D cI cZ cQ adK adV (va_A wc H.size) wc U := by
  refine ⟨⟨by rw [hU]; exact hPc, hDc.self, ?_⟩, fun q h => Or.inr (by rw [← hU]; exact h), va_AO.moved hW.alike hO⟩
  rw [hU]
  exact ((K.kept (fun a h1 h2 => G.2.2.2.1 a h1 h2)).warm hW).thin hF
theorem gq_blind {av : List Value} {wc : va_W} : FrameBlind (va_Pc av (gq D cI cZ cQ adK adV A wc)) := fun a U g mk q => ⟨q.1, ⟨q.2.1.1, q.2.1.2.1, q.2.1.2.2.same (U := U.calling g mk a) rfl⟩, q.2.2.1, va_AO.moved (u := U) (U := U.calling g mk a) (Vm.Alike.refl U.vm) q.2.2.2⟩
variable {y : MethodName} {bytes : ByteArray} {maxL n mc ms b : Nat} {rm : Room} {As st : List Value} {wc wr : va_W} {w1 : (Nat → Nat) → va_W}
theorem ciC (X : cx p s m args meth c cc nL own ret0) (K : kx D cI cZ cQ adK adV A s s.heap) (hA : ∀ q : Nat, s.heap.size ≤ q → A q) (hO : va_AO RX1 s) (G : wg D A s.heap H locs w) (isC isR : List Nat) (hC : isC.map (fun i => w[i]?) = wc.map some) (hCw : isC.filterMap (fun i => w[i]?) = wc) (hCn : va_nd isC = true) (hR : isR.map (fun i => w[i]?) = wr.map some) (hn : va_nd isR = true) (hdis : ∀ i ∈ isR, i ∉ isC) (hM : ∀ A' : Nat → Prop, MC l D cI cZ cQ adK adV A' y bytes maxL rm (.ref b :: As) wc w1 mc ms) (hml : Cond.methodLink own index y ∈ wsA) (hi : Cond.instanceMethod y ∈ wsA) (hini : Cond.initialized y.cls ∈ wsA) (hcode : Cond.code y bytes maxL none ∈ wsA) (hyn : y.name = "<init>") (hd : y.cls ≠ "java/lang/invoke/MethodHandle" ∧ y.cls ≠ "java/lang/invoke/VarHandle" ∧ (parseMethodDescriptor y.desc).map (fun d => d.parameters.length) = some n) (hrm : rm.cells = mc ∧ rm.slots = ms) (hroom : rm.frames + 1 ≤ R.frames ∧ 8 + (maxL + 11) + rm.locals ≤ R.locals) (h1 : cells + mc = c2) (h2 : slots + ms = s2) (hcs : c2 ≤ R.cells ∧ s2 ≤ R.slots) (hn2 : As.length = n) (hls : ls.size = nL) (hst : st = As.reverse ++ .ref b :: rest) (hWd : (rest.map fun v => v.category).sum ≤ 8) (hdg : decode cc pc = .ok (.invokespecial index, 3))
    (kk : ∀ (u : Nat → Nat) (H1 : Heap) (locs1 : List Loc), wg D A s.heap H1 locs1 (wr ++ w1 u) → W p l e R s m args below meth c H1 locs1 c2 s2 Q (F0 m (pc + 3) ls rest)) : W p l e R s m args below meth c H locs cells slots Q (F0 m pc ls st) := by
  subst h1; subst h2
  obtain ⟨hx, hb, hmx, hown, hts, hr, hlocks⟩ := X
  have hF := va_free (wc := wc) G.2.1 G.2.2 hA isC hC
  have hPc : va_P D vwCl wc H := G.1.sub isC hCw
  have hDc : va_D A wc := G.2.1.sub isC hCn hC
  refine va_callv (va_runI (As := As) (rest := rest) (Ts := wsA) ⟨hx, hb, hmx, hown, hts⟩ (hM (va_A wc H.size)) (cwI n hts (wz_good hcode) rfl hrm.1 hrm.2 (hts _ hini) (hts _ hml) (hts _ hi) hyn hd hroom) ⟨gq_blind, fun U hU hW => ⟨rfl, gq_of K hO G hF hPc hDc hU hW⟩⟩ rfl hn2 hls hst (lv_room hWd) hdg hcs) G.2.2 (fun q _ h => hF q h) hF (fun u t H1 locs1 ht hvm hw hB hz1 hk1 hS => ?_)
  obtain ⟨hP1, hD1⟩ := hB
  rw [ht] at hP1
  obtain ⟨hP, hD⟩ := va_join (wr := wr) (w1 := w1 u) G.1 G.2.1 isC isR hC hR hn hdis hk1 hF hP1 hD1
  exact kk u H1 locs1 ⟨hP, hD, hS⟩
/-- of a nest mate -/
theorem ciN {host : String} (X : cx p s m args meth c cc nL own ret0) (K : kx D cI cZ cQ adK adV A s s.heap) (hA : ∀ q : Nat, s.heap.size ≤ q → A q) (hO : va_AO RX1 s) (G : wg D A s.heap H locs w) (isC isR : List Nat) (hC : isC.map (fun i => w[i]?) = wc.map some) (hCw : isC.filterMap (fun i => w[i]?) = wc) (hCn : va_nd isC = true) (hR : isR.map (fun i => w[i]?) = wr.map some) (hn : va_nd isR = true) (hdis : ∀ i ∈ isR, i ∉ isC) (hM : ∀ A' : Nat → Prop, MC l D cI cZ cQ adK adV A' y bytes maxL rm (.ref b :: As) wc w1 mc ms) (hml : va_Nw (.methodLinkNest own index y host) s) (hi : Cond.instanceMethod y ∈ wsA) (hini : Cond.initialized y.cls ∈ wsA) (hcode : Cond.code y bytes maxL none ∈ wsA) (hyn : y.name = "<init>") (hd : y.cls ≠ "java/lang/invoke/MethodHandle" ∧ y.cls ≠ "java/lang/invoke/VarHandle" ∧ (parseMethodDescriptor y.desc).map (fun d => d.parameters.length) = some n) (hrm : rm.cells = mc ∧ rm.slots = ms) (hroom : rm.frames + 1 ≤ R.frames ∧ 8 + (maxL + 11) + rm.locals ≤ R.locals) (h1 : cells + mc = c2) (h2 : slots + ms = s2) (hcs : c2 ≤ R.cells ∧ s2 ≤ R.slots) (hn2 : As.length = n) (hls : ls.size = nL) (hst : st = As.reverse ++ .ref b :: rest) (hWd : (rest.map fun v => v.category).sum ≤ 8) (hdg : decode cc pc = .ok (.invokespecial index, 3))
    (kk : ∀ (u : Nat → Nat) (H1 : Heap) (locs1 : List Loc), wg D A s.heap H1 locs1 (wr ++ w1 u) → W p l e R s m args below meth c H1 locs1 c2 s2 Q (F0 m (pc + 3) ls rest)) : W p l e R s m args below meth c H locs cells slots Q (F0 m pc ls st) := by
  subst h1; subst h2
  obtain ⟨hx, hb, hmx, hown, hts, hr, hlocks⟩ := X
  have hF := va_free (wc := wc) G.2.1 G.2.2 hA isC hC
  have hPc : va_P D vwCl wc H := G.1.sub isC hCw
  have hDc : va_D A wc := G.2.1.sub isC hCn hC
  refine va_callv (va_runIN (As := As) (rest := rest) (Ts := wsA) ⟨hx, hb, hmx, hown, hts⟩ (hM (va_A wc H.size)) ⟨va_cnB n hts (wz_good hcode) rfl hrm.1 hrm.2 hml (hts _ hini) hd hroom, hyn, hts _ hi⟩ ⟨gq_blind, fun U hU hW => ⟨rfl, gq_of K hO G hF hPc hDc hU hW⟩⟩ rfl hn2 hls hst (lv_room hWd) hdg hcs) G.2.2 (fun q _ h => hF q h) hF (fun u t H1 locs1 ht hvm hw hB hz1 hk1 hS => ?_)
  obtain ⟨hP1, hD1⟩ := hB
  rw [ht] at hP1
  obtain ⟨hP, hD⟩ := va_join (wr := wr) (w1 := w1 u) G.1 G.2.1 isC isR hC hR hn hdis hk1 hF hP1 hD1
  exact kk u H1 locs1 ⟨hP, hD, hS⟩
end MADE
