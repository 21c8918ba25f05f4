/-! PURE WORDS: what a method computes, as a partial function; none: it would throw, or never end -/
def nmv {α β : Type} (a : α) (k : α → β) : β := k a
theorem nm_at {α β : Type} {a x : α} {k : α → Option β} {v : β} (e : x = a) (h : nmv a k = some v) : k x = some v := by subst e; exact h
def bnd {α β γ : Type} (x : Option (α × β)) (k : α → β → Option γ) : Option γ := match x with
  | none => none
  | some q => k q.1 q.2
theorem bnd_at {α β γ : Type} {x : Option (α × β)} {k : α → β → Option γ} {v : γ} (h : bnd x k = some v) : ∃ a b, x = some (a, b) ∧ k a b = some v := by
  cases x with
  | none => cases h
  | some q => exact ⟨q.1, q.2, rfl, h⟩
theorem bnd_some {α β γ : Type} {a : α} {b : β} {k : α → β → Option γ} : bnd (some (a, b)) k = k a b := rfl
def bne {α β γ : Type} (x : Option (α ⊕ β)) (f : α → Option γ) (g : β → Option γ) : Option γ := match x with
  | none => none
  | some (.inl a) => f a
  | some (.inr b) => g b
theorem bne_at {α β γ : Type} {x : Option (α ⊕ β)} {f : α → Option γ} {g : β → Option γ} {v : γ} (h : bne x f g = some v) : ∃ q, x = some q ∧ (∀ a, q = .inl a → f a = some v) ∧ ∀ b, q = .inr b → g b = some v := by
  cases x with
  | none => cases h
  | some q =>
    refine ⟨q, rfl, ?_, ?_⟩
    · intro a e; subst e; exact h
    · intro b e; subst e; exact h
theorem ck_at {c : Prop} [Decidable c] {α : Type} {x : Option α} {v : α} (h : (if c then none else x) = some v) : ¬ c ∧ x = some v := by
  by_cases hc : c
  · rw [if_pos hc] at h; cases h
  · rw [if_neg hc] at h; exact ⟨hc, h⟩
theorem it_at {c : Prop} [Decidable c] {α : Type} {x y v : α} (hc : c) (h : (if c then x else y) = v) : x = v := by rw [if_pos hc] at h; exact h
theorem if_at {c : Prop} [Decidable c] {α : Type} {x y v : α} (hc : ¬ c) (h : (if c then x else y) = v) : y = v := by rw [if_neg hc] at h; exact h
/-- n passes of a loop's body: it goes on with inl, it ends with inr -/
def wh {S E : Type} (step : S → Option (S ⊕ E)) : Nat → S → Option E
  | 0, _ => none
  | n + 1, s => bne (step s) (wh step n) some
theorem wh_more {S E : Type} {step : S → Option (S ⊕ E)} : ∀ (n : Nat) {s : S} {e : E}, wh step n s = some e → ∀ k, wh step (n + k) s = some e := by
  intro n
  induction n with
  | zero => intro s e h; cases h
  | succ n ih =>
    intro s e h k
    rw [show n + 1 + k = (n + k) + 1 by omega]
    obtain ⟨q, h1, h2, h3⟩ := bne_at (x := step s) h
    show bne (step s) (wh step (n + k)) some = some e
    rw [h1]
    cases q with
    | inl s' => exact ih (h2 s' rfl) k
    | inr e' => exact h3 e' rfl
theorem wh_one {S E : Type} {step : S → Option (S ⊕ E)} {n m : Nat} {s : S} {a b : E} (h1 : wh step n s = some a) (h2 : wh step m s = some b) : a = b := by
  have q1 := wh_more n h1 m
  have q2 := wh_more m h2 n
  rw [Nat.add_comm m n] at q2
  exact Option.some.inj (q1.symm.trans q2)
/-- a loop: as many passes as it needs -/
noncomputable def wl {S E : Type} (step : S → Option (S ⊕ E)) (s : S) : Option E := @dite _ (∃ e, ∃ n, wh step n s = some e) (Classical.propDecidable _) (fun h => some (Classical.choose h)) (fun _ => none)
theorem wl_iff {S E : Type} {step : S → Option (S ⊕ E)} {s : S} {e : E} : wl step s = some e ↔ ∃ n, wh step n s = some e := by
  unfold wl
  by_cases h : ∃ e, ∃ n, wh step n s = some e
  · rw [dif_pos h]
    obtain ⟨n, hn⟩ := Classical.choose_spec h
    constructor
    · intro q; cases q; exact ⟨n, hn⟩
    · rintro ⟨m, hm⟩; rw [wh_one hn hm]
  · rw [dif_neg h]
    constructor
    · intro q; cases q
    · rintro ⟨m, hm⟩; exact absurd ⟨e, m, hm⟩ h
theorem wl_in {S E : Type} {step : S → Option (S ⊕ E)} {s s' : S} (h : step s = some (.inl s')) : wl step s = wl step s' := by
  have key : ∀ e, wl step s = some e ↔ wl step s' = some e := by
    intro e
    rw [wl_iff, wl_iff]
    constructor
    · rintro ⟨n, hn⟩
      cases n with
      | zero => cases hn
      | succ n => refine ⟨n, ?_⟩; have := hn; unfold wh at this; rw [h] at this; exact this
    · rintro ⟨n, hn⟩
      refine ⟨n + 1, ?_⟩
      show bne (step s) (wh step n) some = some e
      rw [h]; exact hn
  cases hx : wl step s' with
  | none =>
    cases hy : wl step s with
    | none => rfl
    | some e => rw [(key e).mp hy] at hx; cases hx
  | some e => exact (key e).mpr hx
theorem wl_out {S E : Type} {step : S → Option (S ⊕ E)} {s : S} {e : E} (h : step s = some (.inr e)) : wl step s = some e := wl_iff.mpr ⟨1, by show bne (step s) _ some = some e; rw [h]; rfl⟩
/-- what one pass of a loop that ends says -/
theorem wh_at {S E : Type} {step : S → Option (S ⊕ E)} {n : Nat} {s : S} {e : E} (h : wh step (n + 1) s = some e) : ∃ q, step s = some q ∧ (∀ s', q = .inl s' → wh step n s' = some e) ∧ ∀ e', q = .inr e' → e' = e := by
  obtain ⟨q, h1, h2, h3⟩ := bne_at (x := step s) h
  exact ⟨q, h1, h2, fun e' he => Option.some.inj (h3 e' he)⟩

/-! WORDS OF THE TABLES: every method has the law's words -/
noncomputable def wsA : List Cond := lw_tbl.filter goodWord
theorem wA {w : Cond} (i : Nat) (h : lw_tbl[i]? = some w) (hg : goodWord w = true) : w ∈ wsA := List.mem_filter.mpr ⟨List.mem_of_getElem? h, hg⟩
theorem wA_in : ∀ w ∈ wsA, w ∈ lw_tbl := fun _ h => (List.mem_filter.mp h).1
theorem ws_good : ∀ w ∈ wsA, goodWord w = true := fun _ h => (List.mem_filter.mp h).2
noncomputable abbrev wz (y : MethodName) (cc : ByteArray) (maxL : Nat) (ret : Option FieldType) : List Cond := .code y cc maxL ret :: wsA
theorem wz_good {y : MethodName} {cc : ByteArray} {maxL : Nat} {ret : Option FieldType} (h : Cond.code y cc maxL ret ∈ wsA) : GoodIn wsA (wz y cc maxL ret) := by
  have hg := ws_good
  intro w hw
  have hm : w ∈ wsA := by
    rcases List.mem_cons.mp hw with q | q
    · rw [q]; exact h
    · exact q
  exact ⟨hm, good_of_word (hg w hm)⟩
theorem wz_V {y : MethodName} {cc : ByteArray} {maxL : Nat} {ret : Option FieldType} {own C : String} {idx : Nat} (h1 : Cond.methodLink own idx y ∈ wsA) (h2 : Cond.instanceMethod y ∈ wsA) (h3 : Cond.selects C y y ∈ wsA) (h4 : Cond.initialized C ∈ wsA) (h : Cond.code y cc maxL ret ∈ wsA) : GoodIn wsA (wsV own idx C y (wz y cc maxL ret)) := by
  have hg := ws_good
  intro w hw
  have hm : w ∈ wsA := by
    unfold wsV at hw
    rcases List.mem_append.mp hw with q | q
    · simp only [List.mem_cons, List.not_mem_nil, or_false] at q
      rcases q with q | q | q | q <;> rw [q] <;> assumption
    · exact (wz_good h w q).1
  exact ⟨hm, good_of_word (hg w hm)⟩
theorem wz_S {y : MethodName} {cc : ByteArray} {maxL : Nat} {ret : Option FieldType} {own : String} {idx : Nat} (h1 : Cond.methodLink own idx y ∈ wsA) (h2 : Cond.static y ∈ wsA) (h4 : Cond.initialized y.cls ∈ wsA) (h : Cond.code y cc maxL ret ∈ wsA) : GoodIn wsA (va_wsS own idx y (wz y cc maxL ret)) := by
  have hg := ws_good
  intro w hw
  have hm : w ∈ wsA := by
    unfold va_wsS at hw
    rcases List.mem_append.mp hw with q | q
    · simp only [List.mem_cons, List.not_mem_nil, or_false] at q
      rcases q with q | q | q <;> rw [q] <;> assumption
    · exact (wz_good h w q).1
  exact ⟨hm, good_of_word (hg w hm)⟩
/-- what every call of a method needs of the tables -/
def myV (y : MethodName) (C : String) (cc : ByteArray) (maxL : Nat) (ret : Option FieldType) (n : Nat) : Prop :=
  Cond.instanceMethod y ∈ wsA ∧ Cond.selects C y y ∈ wsA ∧ Cond.initialized C ∈ wsA ∧ Cond.code y cc maxL ret ∈ wsA ∧ (y.cls = C ∧ y.cls ≠ "java/lang/invoke/MethodHandle" ∧ y.cls ≠ "java/lang/invoke/VarHandle" ∧ (parseMethodDescriptor y.desc).map (fun d => d.parameters.length) = some n)
def myS (y : MethodName) (cc : ByteArray) (maxL : Nat) (ret : Option FieldType) (n : Nat) : Prop :=
  Cond.static y ∈ wsA ∧ Cond.initialized y.cls ∈ wsA ∧ Cond.code y cc maxL ret ∈ wsA ∧ (y.cls ≠ "java/lang/invoke/MethodHandle" ∧ y.cls ≠ "java/lang/invoke/VarHandle" ∧ (parseMethodDescriptor y.desc).map (fun d => d.parameters.length) = some n)

/-! WHAT STANDS BESIDE THE CELLS: classes, nest mates, the texts -/
def nst (U : State) : Prop := va_Nw (.methodLinkNest RX4 118 yX6_within RX6) U ∧ va_Nw (.methodLinkNest RX5 55 yX6_within RX6) U ∧ va_Nw (.methodLinkNest RX0 64 yX6_isSooner RX6) U ∧ va_Nw (.methodLinkNest RX2 61 yX6_within RX6) U ∧ va_Nw (.methodLinkNest RX6 24 yX3_init RX6) U ∧ va_Nw (.methodLinkNest RX6 70 yX1_init RX6) U
theorem nst.warm {s U : State} (hW : s.WarmedH U.vm) (h : nst s) : nst U := ⟨va_Nw.warmM hW h.1, va_Nw.warmM hW h.2.1, va_Nw.warmM hW h.2.2.1, va_Nw.warmM hW h.2.2.2.1, va_Nw.warmM hW h.2.2.2.2.1, va_Nw.warmM hW h.2.2.2.2.2⟩
theorem nst.same {u U : State} (e : u.vm = U.vm) (h : nst u) : nst U := ⟨va_Nw.same rfl e h.1, va_Nw.same rfl e h.2.1, va_Nw.same rfl e h.2.2.1, va_Nw.same rfl e h.2.2.2.1, va_Nw.same rfl e h.2.2.2.2.1, va_Nw.same rfl e h.2.2.2.2.2⟩
/-- the texts: their place in the class, in the reference, their bytes -/
abbrev tx_all : List (Nat × Nat × String × List Int32) := [(39, 142, "round", [114, 111, 117, 110, 100]), (48, 144, "near", [110, 101, 97, 114]), (53, 146, "tool", [116, 111, 111, 108]), (58, 151, "order", [111, 114, 100, 101, 114]), (97, 126, "wait", [119, 97, 105, 116]), (106, 134, "due", [100, 117, 101]), (112, 140, "worth", [119, 111, 114, 116, 104]), (141, 111, "soon", [115, 111, 111, 110]), (143, 113, "rounded", [114, 111, 117, 110, 100, 101, 100]), (145, 115, "batch", [98, 97, 116, 99, 104]), (147, 117, "walked", [119, 97, 108, 107, 101, 100]), (149, 119, "best", [98, 101, 115, 116]), (151, 121, "late", [108, 97, 116, 101]), (153, 109, "plan", [112, 108, 97, 110])]
abbrev tx_at (i : Nat) : Nat × Nat × String × List Int32 := tx_all.getD i (0, 0, "", [])
def tx_len (i : Nat) : Nat := (tx_at i).2.2.2.length
def tx_byt (i j : Nat) : Int32 := (tx_at i).2.2.2.getD j 0
def txs (adK adV : Nat → Nat) (A : Nat → Prop) (U : State) (H : Heap) : Prop :=
  (∀ i : Nat, i < 14 → va_O "java/lang/String" (adK i) A U H ∧ va_OF "java/lang/String" "coder" "B" (.int 0) (adK i) A U H ∧ va_OF "java/lang/String" "value" "[B" (.ref (adV i)) (adK i) A U H ∧ va_T .byte (adV i) (tx_len i) (fun j => .int (tx_byt i j)) A U H) ∧
  (∀ i : Nat, i < 14 → vk_R RX4 (tx_at i).1 (tx_at i).2.2.1 (adK i) U ∧ vk_R RX7 (tx_at i).2.1 (tx_at i).2.2.1 (adK i) U) ∧
  va_Z "java/lang/String" "COMPACT_STRINGS" "Z" (.int 1) A U H ∧ va_Zq "jdk/internal/util/Preconditions" "SIOOBE_FORMATTER" "Ljava/util/function/BiFunction;" A U H
theorem txs.warm {adK adV : Nat → Nat} {A : Nat → Prop} {s U : State} {H : Heap} (hW : s.WarmedH U.vm) (h : txs adK adV A s H) : txs adK adV A U H :=
  ⟨fun i hi => ⟨va_O.moved hW.alike (h.1 i hi).1, va_OF.moved hW.alike (h.1 i hi).2.1, va_OF.moved hW.alike (h.1 i hi).2.2.1, va_T.moved hW.alike (h.1 i hi).2.2.2⟩, fun i hi => ⟨vk_R.warm hW (h.2.1 i hi).1, vk_R.warm hW (h.2.1 i hi).2⟩, va_Z.moved hW.alike h.2.2.1, va_Zq.moved hW.alike h.2.2.2⟩
theorem txs.same {adK adV : Nat → Nat} {A : Nat → Prop} {s U : State} {H : Heap} (e : s.vm = U.vm) (h : txs adK adV A s H) : txs adK adV A U H := by
  have hv : s.vm.Alike U.vm := by rw [e]; exact Vm.Alike.refl U.vm
  exact ⟨fun i hi => ⟨va_O.moved hv (h.1 i hi).1, va_OF.moved hv (h.1 i hi).2.1, va_OF.moved hv (h.1 i hi).2.2.1, va_T.moved hv (h.1 i hi).2.2.2⟩, fun i hi => ⟨vk_R.same e.symm (h.2.1 i hi).1, vk_R.same e.symm (h.2.1 i hi).2⟩, va_Z.moved hv h.2.2.1, va_Zq.moved hv h.2.2.2⟩
theorem txs.kept {adK adV : Nat → Nat} {A : Nat → Prop} {U : State} {H H1 : Heap} (hq : ∀ a : Nat, a < H.size → ¬ A a → H1[a]? = H[a]?) (h : txs adK adV A U H) : txs adK adV A U H1 :=
  ⟨fun i hi => ⟨(h.1 i hi).1.kept hq, (h.1 i hi).2.1.kept hq, (h.1 i hi).2.2.1.kept hq, (h.1 i hi).2.2.2.kept hq⟩, h.2.1, h.2.2.1.kept hq, h.2.2.2.kept hq⟩
theorem txs.narrow {adK adV : Nat → Nat} {A B : Nat → Prop} {U : State} {H : Heap} (hAB : ∀ q, B q → A q) (h : txs adK adV A U H) : txs adK adV B U H :=
  ⟨fun i hi => ⟨(h.1 i hi).1.narrow hAB, (h.1 i hi).2.1.narrow hAB, (h.1 i hi).2.2.1.narrow hAB, (h.1 i hi).2.2.2.narrow hAB⟩, h.2.1, h.2.2.1.narrow hAB, h.2.2.2.narrow hAB⟩
abbrev tysW (cI cZ cQ : ClassId) : List (ClassId × FieldType) := [(cI, .int), (cZ, .boolean), (cQ, .object "ToolDays$Sheet")]
def kx (D : va_G) (cI cZ cQ : ClassId) (adK adV : Nat → Nat) (A : Nat → Prop) (U : State) (H : Heap) : Prop := va_K D vwCl (tysW cI cZ cQ) U ∧ nst U ∧ txs adK adV A U H
theorem kx.warm {D : va_G} {cI cZ cQ : ClassId} {adK adV : Nat → Nat} {A : Nat → Prop} {s U : State} {H : Heap} (hW : s.WarmedH U.vm) (h : kx D cI cZ cQ adK adV A s H) : kx D cI cZ cQ adK adV A U H := ⟨va_K.moved hW.alike h.1, h.2.1.warm hW, h.2.2.warm hW⟩
theorem kx.same {D : va_G} {cI cZ cQ : ClassId} {adK adV : Nat → Nat} {A : Nat → Prop} {s U : State} {H : Heap} (e : s.vm = U.vm) (h : kx D cI cZ cQ adK adV A s H) : kx D cI cZ cQ adK adV A U H := ⟨va_K.moved (by rw [e]; exact Vm.Alike.refl U.vm) h.1, h.2.1.same e, h.2.2.same e⟩
theorem kx.kept {D : va_G} {cI cZ cQ : ClassId} {adK adV : Nat → Nat} {A : Nat → Prop} {U : State} {H H1 : Heap} (hq : ∀ a : Nat, a < H.size → ¬ A a → H1[a]? = H[a]?) (h : kx D cI cZ cQ adK adV A U H) : kx D cI cZ cQ adK adV A U H1 := ⟨h.1, h.2.1, h.2.2.kept hq⟩
/-- the cells, apart, in A; what has been written since the entry lies in A -/
def wg (D : va_G) (A : Nat → Prop) (H0 H : Heap) (locs : List Loc) (w : va_W) : Prop := va_P D vwCl w H ∧ va_D A w ∧ va_S A H0 H locs
/-- where a method begins -/
def gp (D : va_G) (cI cZ cQ : ClassId) (adK adV : Nat → Nat) (A : Nat → Prop) (w : va_W) (U : State) : Prop := va_P D vwCl w U.heap ∧ va_D A w ∧ kx D cI cZ cQ adK adV A U U.heap
/-- where it ends -/
def ge {S : Type} (D : va_G) (A : Nat → Prop) (w : S → va_W) (u : S) (t : State) : Prop := va_P D vwCl (w u) t.heap ∧ va_D A (w u)
abbrev MI {S : Type} (l : Launch) (D : va_G) (cI cZ cQ : ClassId) (adK adV : Nat → Nat) (A : Nat → Prop) (y : MethodName) (cc : ByteArray) (maxL : Nat) (ret : Option FieldType) (rm : Room) (av : List Value) (w : S → va_W) (u : S) (r : Int32) (u' : S) : Prop :=
  Met l y (wz y cc maxL ret) rm (va_Pc av (gp D cI cZ cQ adK adV A (w u))) (va_Qi (fun q v => q = r ∧ v = u') (ge D A w) A) 0 0 A
abbrev MV {S : Type} (l : Launch) (D : va_G) (cI cZ cQ : ClassId) (adK adV : Nat → Nat) (A : Nat → Prop) (y : MethodName) (cc : ByteArray) (maxL : Nat) (rm : Room) (av : List Value) (w : S → va_W) (u : S) (u' : S) : Prop :=
  Met l y (wz y cc maxL none) rm (va_Pc av (gp D cI cZ cQ adK adV A (w u))) (va_Qv (fun v => v = u') (ge D A w) A) 0 0 A
/-- the method at hand -/
def cx (p : Program) (s : State) (m : MethodId) (args : Array Value) (meth : Method) (c : Code) (cc : ByteArray) (nL : Nat) (own : String) (ret : Option FieldType) : Prop :=
  p.tables.exec = Jvm.exec ∧ c.code = cc ∧ c.maxLocals = nL ∧ s.vm.findClass own = some m.cls ∧ (∀ w ∈ wsA, w.before args s = true) ∧ meth.sig.returnType = ret ∧ meth.locks = false
theorem gp_blind {D : va_G} {cI cZ cQ : ClassId} {adK adV : Nat → Nat} {A : Nat → Prop} {w : va_W} {av : List Value} : FrameBlind (va_Pc av (gp D cI cZ cQ adK adV A w)) := fun a U g mk q => ⟨q.1, q.2.1, q.2.2.1, q.2.2.2.same (U := U.calling g mk a) rfl⟩
theorem gp_of {D : va_G} {cI cZ cQ : ClassId} {adK adV : Nat → Nat} {A : Nat → Prop} {w : va_W} {s : State} {H : Heap} {locs : List Loc} (K : kx D cI cZ cQ adK adV A s s.heap) (G : wg D A s.heap H locs w) {U : State} (hU : U.heap = H) (hW : s.WarmedH U.vm) : gp D cI cZ cQ adK adV A w U := by
  refine ⟨by rw [hU]; exact G.1, G.2.1, ?_⟩
  rw [hU]
  exact (K.kept (fun a h1 h2 => G.2.2.2.1 a h1 h2)).warm hW
section CALLS
variable {p : Program} {l : Launch} {e : Env} {R : Room} {s : State} {m : MethodId} {args : Array Value} {below : List Frame} {meth : Method} {c : Code} {H : Heap} {locs : List Loc} {cells slots : Nat} {Q : State → Prop} {cc : ByteArray} {nL : Nat} {own : String} {ret0 : Option FieldType} {D : va_G} {cI cZ cQ : ClassId} {adK adV : Nat → Nat} {A : Nat → Prop} {S : Type} {w : S → va_W} {u u' : S} {r : Int32} {y : MethodName} {bytes : ByteArray} {maxL n index : Nat} {ret : Option FieldType} {rm : Room} {As st rest : List Value} {b pc : Nat} {ls : Array Slot} {C : String}
/-- a call of an object's method that answers an int -/
theorem cvI (X : cx p s m args meth c cc nL own ret0) (K : kx D cI cZ cQ adK adV A s s.heap) (G : wg D A s.heap H locs (w u)) (hM : MI l D cI cZ cQ adK adV A y bytes maxL ret rm (.ref b :: As) w u r u') (hml : Cond.methodLink own index y ∈ wsA) (hmy : myV y C bytes maxL ret n) (hrm : rm.cells = 0 ∧ rm.slots = 0) (hR : rm.frames + 1 ≤ R.frames ∧ 8 + (maxL + 11) + rm.locals ≤ R.locals) (hcs : cells ≤ R.cells ∧ slots ≤ R.slots) (q0 ci : Nat) {fs : List Value} {q : vw_C} (he : (w u)[q0]? = some (b, .inr (ci, fs))) (hc : vwCl[ci]? = some q) (hq : q.1 = C) (hn : As.length = n) (hls : ls.size = nL) (hst : st = As.reverse ++ .ref b :: rest) (hW : (rest.map fun v => v.category).sum ≤ 8) (hdg : decode cc pc = .ok (.invokevirtual index, 3))
    (kk : ∀ (H1 : Heap) (locs1 : List Loc), wg D A s.heap H1 locs1 (w u') → W p l e R s m args below meth c H1 locs1 cells slots Q (F0 m (pc + 3) ls (.int r :: rest))) : W p l e R s m args below meth c H locs cells slots Q (F0 m pc ls st) := by
  obtain ⟨hx, hb, hmx, hown, hts, hr, hlocks⟩ := X
  obtain ⟨y1, y2, y3, y4, y5⟩ := hmy
  subst hq
  refine va_calli (va_runV (As := As) (rest := rest) (Ts := wsA) ⟨hx, hb, hmx, hown, hts⟩ hM (cwV n hts (wz_V hml y1 y2 y3 y4) rfl hrm.1 hrm.2 y5 hR) ⟨gp_blind, va_recv K.1 G.1 hc he, fun U hU hW => ⟨rfl, gp_of K G hU hW⟩⟩ rfl hn hls hst (lv_room hW) hdg hcs) G.2.2 (fun _ _ h => h) (fun _ h => h) (fun r1 u1 t H1 locs1 ht hvm hw hB hz1 hk1 hS => ?_)
  obtain ⟨rfl, rfl⟩ := hw
  exact kk H1 locs1 ⟨by rw [← ht]; exact hB.1, hB.2, hS⟩
theorem cvV (X : cx p s m args meth c cc nL own ret0) (K : kx D cI cZ cQ adK adV A s s.heap) (G : wg D A s.heap H locs (w u)) (hM : MV l D cI cZ cQ adK adV A y bytes maxL rm (.ref b :: As) w u u') (hml : Cond.methodLink own index y ∈ wsA) (hmy : myV y C bytes maxL none n) (hrm : rm.cells = 0 ∧ rm.slots = 0) (hR : rm.frames + 1 ≤ R.frames ∧ 8 + (maxL + 11) + rm.locals ≤ R.locals) (hcs : cells ≤ R.cells ∧ slots ≤ R.slots) (q0 ci : Nat) {fs : List Value} {q : vw_C} (he : (w u)[q0]? = some (b, .inr (ci, fs))) (hc : vwCl[ci]? = some q) (hq : q.1 = C) (hn : As.length = n) (hls : ls.size = nL) (hst : st = As.reverse ++ .ref b :: rest) (hW : (rest.map fun v => v.category).sum ≤ 8) (hdg : decode cc pc = .ok (.invokevirtual index, 3))
    (kk : ∀ (H1 : Heap) (locs1 : List Loc), wg D A s.heap H1 locs1 (w u') → W p l e R s m args below meth c H1 locs1 cells slots Q (F0 m (pc + 3) ls rest)) : W p l e R s m args below meth c H locs cells slots Q (F0 m pc ls st) := by
  obtain ⟨hx, hb, hmx, hown, hts, hr, hlocks⟩ := X
  obtain ⟨y1, y2, y3, y4, y5⟩ := hmy
  subst hq
  refine va_callv (va_runV (As := As) (rest := rest) (Ts := wsA) ⟨hx, hb, hmx, hown, hts⟩ hM (cwV n hts (wz_V hml y1 y2 y3 y4) rfl hrm.1 hrm.2 y5 hR) ⟨gp_blind, va_recv K.1 G.1 hc he, fun U hU hW => ⟨rfl, gp_of K G hU hW⟩⟩ rfl hn hls hst (lv_room hW) hdg hcs) G.2.2 (fun _ _ h => h) (fun _ h => h) (fun u1 t H1 locs1 ht hvm hw hB hz1 hk1 hS => ?_)
  subst hw
  exact kk H1 locs1 ⟨by rw [← ht]; exact hB.1, hB.2, hS⟩
/-- a call of a static method that answers an int -/
theorem csI (X : cx p s m args meth c cc nL own ret0) (K : kx D cI cZ cQ adK adV A s s.heap) (G : wg D A s.heap H locs (w u)) (hM : MI l D cI cZ cQ adK adV A y bytes maxL ret rm As w u r u') (hml : Cond.methodLink own index y ∈ wsA) (hmy : myS y bytes maxL ret n) (hrm : rm.cells = 0 ∧ rm.slots = 0) (hR : rm.frames + 1 ≤ R.frames ∧ 8 + (maxL + 11) + rm.locals ≤ R.locals) (hcs : cells ≤ R.cells ∧ slots ≤ R.slots) (hn : As.length = n) (hls : ls.size = nL) (hst : st = As.reverse ++ rest) (hW : (rest.map fun v => v.category).sum ≤ 8) (hdg : decode cc pc = .ok (.invokestatic index, 3))
    (kk : ∀ (H1 : Heap) (locs1 : List Loc), wg D A s.heap H1 locs1 (w u') → W p l e R s m args below meth c H1 locs1 cells slots Q (F0 m (pc + 3) ls (.int r :: rest))) : W p l e R s m args below meth c H locs cells slots Q (F0 m pc ls st) := by
  obtain ⟨hx, hb, hmx, hown, hts, hr, hlocks⟩ := X
  obtain ⟨y1, y3, y4, y5⟩ := hmy
  refine va_calli (va_runS (As := As) (rest := rest) (Ts := wsA) ⟨hx, hb, hmx, hown, hts⟩ hM ⟨callB_of n hts (wz_good y4) rfl hrm.1 hrm.2 (hts _ y3) (hts _ hml) y5 hR, hts _ y1⟩ ⟨gp_blind, fun U hU hW => ⟨rfl, gp_of K G hU hW⟩⟩ rfl hn hls hst (lv_room hW) hdg hcs) G.2.2 (fun _ _ h => h) (fun _ h => h) (fun r1 u1 t H1 locs1 ht hvm hw hB hz1 hk1 hS => ?_)
  obtain ⟨rfl, rfl⟩ := hw
  exact kk H1 locs1 ⟨by rw [← ht]; exact hB.1, hB.2, hS⟩
/-- the same of a nest mate -/
theorem cnI {host : String} (X : cx p s m args meth c cc nL own ret0) (K : kx D cI cZ cQ adK adV A s s.heap) (G : wg D A s.heap H locs (w u)) (hM : MI l D cI cZ cQ adK adV A y bytes maxL ret rm As w u r u') (hml : va_Nw (.methodLinkNest own index y host) s) (hmy : myS y bytes maxL ret n) (hrm : rm.cells = 0 ∧ rm.slots = 0) (hR : rm.frames + 1 ≤ R.frames ∧ 8 + (maxL + 11) + rm.locals ≤ R.locals) (hcs : cells ≤ R.cells ∧ slots ≤ R.slots) (hn : As.length = n) (hls : ls.size = nL) (hst : st = As.reverse ++ rest) (hW : (rest.map fun v => v.category).sum ≤ 8) (hdg : decode cc pc = .ok (.invokestatic index, 3))
    (kk : ∀ (H1 : Heap) (locs1 : List Loc), wg D A s.heap H1 locs1 (w u') → W p l e R s m args below meth c H1 locs1 cells slots Q (F0 m (pc + 3) ls (.int r :: rest))) : W p l e R s m args below meth c H locs cells slots Q (F0 m pc ls st) := by
  obtain ⟨hx, hb, hmx, hown, hts, hr, hlocks⟩ := X
  obtain ⟨y1, y3, y4, y5⟩ := hmy
  refine va_calli (va_runSN (As := As) (rest := rest) (Ts := wsA) ⟨hx, hb, hmx, hown, hts⟩ hM ⟨va_cnB n hts (wz_good y4) rfl hrm.1 hrm.2 hml (hts _ y3) y5 hR, hts _ y1, trivial⟩ ⟨gp_blind, fun U hU hW => ⟨rfl, gp_of K G hU hW⟩⟩ rfl hn hls hst (lv_room hW) hdg hcs) G.2.2 (fun _ _ h => h) (fun _ h => h) (fun r1 u1 t H1 locs1 ht hvm hw hB hz1 hk1 hS => ?_)
  obtain ⟨rfl, rfl⟩ := hw
  exact kk H1 locs1 ⟨by rw [← ht]; exact hB.1, hB.2, hS⟩
/-- where a method that answers an int ends -/
abbrev qI (D : va_G) (A : Nat → Prop) (w : S → va_W) (below : List Frame) (args : Array Value) (s : State) (r : Int32) (u : S) : State → Prop := MQ below (va_Qi (fun q v => q = r ∧ v = u) (ge D A w) A) args s 0 0 A
abbrev qV (D : va_G) (A : Nat → Prop) (w : S → va_W) (below : List Frame) (args : Array Value) (s : State) (u : S) : State → Prop := MQ below (va_Qv (fun v => v = u) (ge D A w) A) args s 0 0 A
theorem reI (X : cx p s m args meth c cc nL own (some .int)) (G : wg D A s.heap H locs (w u)) (hdg : decode cc pc = .ok (.ireturn, 1)) : W p l e R s m args below meth c H locs 0 0 (qI D A w below args s r u) (F0 m pc ls [.int r]) := by
  obtain ⟨hx, hb, hmx, hown, hts, hr, hlocks⟩ := X
  exact W.iret (v := r) hx hb hr (fun t ht hW => ⟨⟨r, u, rfl, ⟨rfl, rfl⟩, by rw [ht]; exact G.1, G.2.1⟩, G.2.2.F ht⟩) G.2.2.2.2 hdg hlocks
theorem reZ (X : cx p s m args meth c cc nL own (some .boolean)) (G : wg D A s.heap H locs (w u)) (hz : r = 0 ∨ r = 1) (hdg : decode cc pc = .ok (.ireturn, 1)) : W p l e R s m args below meth c H locs 0 0 (qI D A w below args s r u) (F0 m pc ls [.int r]) := by
  obtain ⟨hx, hb, hmx, hown, hts, hr, hlocks⟩ := X
  exact W.zret (v := r) (ty := .boolean) hx hb hr (by rcases hz with rfl | rfl <;> rfl) (fun t ht hW => ⟨⟨r, u, rfl, ⟨rfl, rfl⟩, by rw [ht]; exact G.1, G.2.1⟩, G.2.2.F ht⟩) G.2.2.2.2 hdg hlocks
theorem reV (X : cx p s m args meth c cc nL own none) (G : wg D A s.heap H locs (w u)) (hdg : decode cc pc = .ok (.return_, 1)) : W p l e R s m args below meth c H locs 0 0 (qV D A w below args s u) (F0 m pc ls []) := by
  obtain ⟨hx, hb, hmx, hown, hts, hr, hlocks⟩ := X
  exact W.vret hx hb hr (fun t ht hW => ⟨⟨u, rfl, rfl, by rw [ht]; exact G.1, G.2.1⟩, G.2.2.F ht⟩) G.2.2.2.2 hdg hlocks
/-- a switch's way: x is the place k of its table -/
theorem tswI {dflt lo hi : Int} {offs : Array Int} {len : Nat} {x : Int32} {off : Int} {tgt : Nat} (X : cx p s m args meth c cc nL own ret0) (k : Int32) (hk : x = k) (hdg : decode cc pc = .ok (.tableswitch dflt lo hi offs, len)) (hd : ¬ k.toInt < lo ∧ ¬ hi < k.toInt ∧ offs[(k.toInt - lo).toNat]? = some off ∧ (pc : Int) + off = (tgt : Int))
    (kk : W p l e R s m args below meth c H locs cells slots Q (F0 m tgt ls rest)) : W p l e R s m args below meth c H locs cells slots Q (F0 m pc ls (.int x :: rest)) := by
  subst hk
  exact lv_tableIn X.1 X.2.1 hdg hd.1 hd.2.1 hd.2.2.1 hd.2.2.2 kk
theorem tswO {dflt lo hi : Int} {offs : Array Int} {len : Nat} {x : Int32} {tgt : Nat} (X : cx p s m args meth c cc nL own ret0) (hk : x.toInt < lo ∨ hi < x.toInt) (hdg : decode cc pc = .ok (.tableswitch dflt lo hi offs, len)) (ht : (pc : Int) + dflt = (tgt : Int))
    (kk : W p l e R s m args below meth c H locs cells slots Q (F0 m tgt ls rest)) : W p l e R s m args below meth c H locs cells slots Q (F0 m pc ls (.int x :: rest)) := lv_tableOut X.1 X.2.1 hdg hk ht kk
end CALLS
section ROWS
variable {p : Program} {l : Launch} {e : Env} {R : Room} {s : State} {m : MethodId} {args : Array Value} {below : List Frame} {meth : Method} {c : Code} {H : Heap} {locs : List Loc} {cells slots : Nat} {Q : State → Prop} {cc : ByteArray} {nL : Nat} {own : String} {ret0 : Option FieldType} {D : va_G} {cI cZ cQ : ClassId} {adK adV : Nat → Nat} {A : Nat → Prop} {w : va_W} {index : Nat} {rest : List Value} {a pc : Nat} {ls : Array Slot}
/-- a field is read -/
theorem gfld (X : cx p s m args meth c cc nL own ret0) (K : kx D cI cZ cQ adK adV A s s.heap) (G : wg D A s.heap H locs w) (q0 : Nat) {ci : Nat} {fs : List Value} {C : String} {T : u_T} {N : Nat} (he : w[q0]? = some (a, .inr (ci, fs))) (hc : vwCl[ci]? = some (C, T, N)) (hin : ∀ wd ∈ u_ws C T N, wd ∈ wsA) (k : Nat) (hk : k < N) {ref nm ds : String} (hl : Cond.fieldLink own index ref nm ds ∈ wsA) (hT : (T k).1 = ref ∧ (T k).2.1 = nm ∧ (T k).2.2.1 = ds) {v : Value} (hv : fs[k]? = some v) (hdg : decode cc pc = .ok (.getfield index, 3))
    (kk : W p l e R s m args below meth c H locs cells slots Q (F0 m (pc + 3) ls (v :: rest))) : W p l e R s m args below meth c H locs cells slots Q (F0 m pc ls (.ref a :: rest)) := by
  obtain ⟨rfl, rfl, rfl⟩ := hT
  exact va_get (D := D) X.1 X.2.1 X.2.2.2.2.1 hin X.2.2.2.1 K.1 G.1 q0 he hc k hk (X.2.2.2.2.1 _ hl) (fun _ h => h) hv hdg kk
/-- a field is written -/
theorem pfld (X : cx p s m args meth c cc nL own ret0) (K : kx D cI cZ cQ adK adV A s s.heap) (G : wg D A s.heap H locs w) (q0 : Nat) {ci : Nat} {fs : List Value} {C : String} {T : u_T} {N : Nat} (he : w[q0]? = some (a, .inr (ci, fs))) (hc : vwCl[ci]? = some (C, T, N)) (hin : ∀ wd ∈ u_ws C T N, wd ∈ wsA) (ty0 : Nat → FieldType) (hty : ∀ k, k < N → parseFieldDescriptor (T k).2.2.1 = some (ty0 k)) (hnm : ∀ a, a < N → ∀ b, b < N → a ≠ b → (T a).2.1 ≠ (T b).2.1) (k : Nat) (hk : k < N) {ref nm ds : String} (hl : Cond.fieldLink own index ref nm ds ∈ wsA) (hT : (T k).1 = ref ∧ (T k).2.1 = nm ∧ (T k).2.2.1 = ds) (hfin : (T k).2.2.2 = false) {ty : FieldType} {v : Value} (hd : ty0 k = ty) (hn : narrow ty v = v) (hfit : fits ty v = true) (hlen : k < fs.length) {w' : va_W} (hw : w.set q0 (a, .inr (ci, fs.set k v)) = w') (hdg : decode cc pc = .ok (.putfield index, 3))
    (kk : ∀ (H1 : Heap) (locs1 : List Loc), wg D A s.heap H1 locs1 w' → W p l e R s m args below meth c H1 locs1 cells slots Q (F0 m (pc + 3) ls rest)) : W p l e R s m args below meth c H locs cells slots Q (F0 m pc ls (v :: .ref a :: rest)) := by
  obtain ⟨rfl, rfl, rfl⟩ := hT
  subst hw
  exact va_put (D := D) (ty := ty) X.1 X.2.1 X.2.2.2.2.1 hin ty0 hty hnm X.2.2.2.1 K.1 G.1 G.2.1 G.2.2 q0 he hc k hk (X.2.2.2.2.1 _ hl) (fun _ h => h) hfin (by rw [hty k hk, hd]) hn hfit hlen hdg (fun H1 locs1 h1 h2 h3 => kk H1 locs1 ⟨h1, h2, h3⟩)
/-- an int of an array is read -/
theorem gald (X : cx p s m args meth c cc nL own ret0) (K : kx D cI cZ cQ adK adV A s s.heap) (G : wg D A s.heap H locs w) (q0 : Nat) {n : Nat} {f : Nat → Int32} (he : w[q0]? = some (a, .inl (cI, n, .inl f))) {i : Int32} (hin : ¬ (i < 0 ∨ n ≤ i.toNatClampNeg)) (hdg : decode cc pc = .ok (.iaload, 1))
    (kk : W p l e R s m args below meth c H locs cells slots Q (F0 m (pc + 1) ls (.int (f i.toNatClampNeg) :: rest))) : W p l e R s m args below meth c H locs cells slots Q (F0 m pc ls (.int i :: .ref a :: rest)) :=
  va_iald (D := D) X.1 X.2.1 K.1 G.1 q0 0 he rfl hin hdg kk
theorem gzld (X : cx p s m args meth c cc nL own ret0) (K : kx D cI cZ cQ adK adV A s s.heap) (G : wg D A s.heap H locs w) (q0 : Nat) {n : Nat} {f : Nat → Int32} (he : w[q0]? = some (a, .inl (cZ, n, .inl f))) {i : Int32} (hin : ¬ (i < 0 ∨ n ≤ i.toNatClampNeg)) (hdg : decode cc pc = .ok (.baload, 1))
    (kk : W p l e R s m args below meth c H locs cells slots Q (F0 m (pc + 1) ls (.int (f i.toNatClampNeg) :: rest))) : W p l e R s m args below meth c H locs cells slots Q (F0 m pc ls (.int i :: .ref a :: rest)) :=
  va_zald (D := D) X.1 X.2.1 K.1 G.1 q0 1 he rfl hin hdg kk
/-- an int of an array is written -/
theorem gast (X : cx p s m args meth c cc nL own ret0) (K : kx D cI cZ cQ adK adV A s s.heap) (G : wg D A s.heap H locs w) (q0 : Nat) {n : Nat} {f : Nat → Int32} (he : w[q0]? = some (a, .inl (cI, n, .inl f))) {i x : Int32} (hin : ¬ (i < 0 ∨ n ≤ i.toNatClampNeg)) {w' : va_W} (hw : w.set q0 (a, .inl (cI, n, .inl (upd f i.toNatClampNeg x))) = w') (hdg : decode cc pc = .ok (.iastore, 1))
    (kk : ∀ (H1 : Heap) (locs1 : List Loc), wg D A s.heap H1 locs1 w' → W p l e R s m args below meth c H1 locs1 cells slots Q (F0 m (pc + 1) ls rest)) : W p l e R s m args below meth c H locs cells slots Q (F0 m pc ls (.int x :: .int i :: .ref a :: rest)) := by
  subst hw
  exact va_iast (D := D) X.1 X.2.1 K.1 G.1 G.2.1 G.2.2 q0 0 he rfl hin hdg (fun H1 locs1 h1 h2 h3 => kk H1 locs1 ⟨h1, h2, h3⟩)
theorem gzst (X : cx p s m args meth c cc nL own ret0) (K : kx D cI cZ cQ adK adV A s s.heap) (G : wg D A s.heap H locs w) (q0 : Nat) {n : Nat} {f : Nat → Int32} (he : w[q0]? = some (a, .inl (cZ, n, .inl f))) {i x : Int32} (hin : ¬ (i < 0 ∨ n ≤ i.toNatClampNeg)) (hx : x = 0 ∨ x = 1) {w' : va_W} (hw : w.set q0 (a, .inl (cZ, n, .inl (upd f i.toNatClampNeg x))) = w') (hdg : decode cc pc = .ok (.bastore, 1))
    (kk : ∀ (H1 : Heap) (locs1 : List Loc), wg D A s.heap H1 locs1 w' → W p l e R s m args below meth c H1 locs1 cells slots Q (F0 m (pc + 1) ls rest)) : W p l e R s m args below meth c H locs cells slots Q (F0 m pc ls (.int x :: .int i :: .ref a :: rest)) := by
  have hz : vp_nar .boolean x = x := by rcases hx with rfl | rfl <;> rfl
  rw [← hz] at hw
  subst hw
  exact va_zast (D := D) X.1 X.2.1 K.1 G.1 G.2.1 G.2.2 q0 1 he rfl hin hdg (fun H1 locs1 h1 h2 h3 => kk H1 locs1 ⟨h1, h2, h3⟩)
/-- System.arraycopy of ints between two arrays of the world -/
theorem gcpy (X : cx p s m args meth c cc nL own ret0) (K : kx D cI cZ cQ adK adV A s s.heap) (G : wg D A s.heap H locs w) (hls : ls.size = nL) (hml : Cond.methodLink own index arraycopyName ∈ wsA) (q0 q1 : Nat) {a0 n0 n1 : Nat} {f g : Nat → Int32} (he0 : w[q0]? = some (a0, .inl (cI, n0, .inl f))) (he1 : w[q1]? = some (a, .inl (cI, n1, .inl g))) (hnat : Cond.native arraycopyName ∈ wsA ∧ Cond.static arraycopyName ∈ wsA ∧ Cond.initialized "java/lang/System" ∈ wsA) {sp dp n : Int32} (h1 : ¬ (sp < 0 ∨ dp < 0 ∨ n < 0 ∨ n0 < sp.toNatClampNeg + n.toNatClampNeg ∨ n1 < dp.toNatClampNeg + n.toNatClampNeg)) (hframes : 1 ≤ R.frames) (hlocals : (rest.map fun v => v.category).sum + (nativeFrameWords "java/lang/System" "arraycopy" 5 + 11) ≤ R.locals) {w' : va_W} (hw : w.set q1 (a, .inl (cI, n1, .inl (va_cpy f g sp.toNatClampNeg dp.toNatClampNeg n.toNatClampNeg))) = w') (hdg : decode cc pc = .ok (.invokestatic index, 3))
    (kk : ∀ (H1 : Heap) (locs1 : List Loc), wg D A s.heap H1 locs1 w' → W p l e R s m args below meth c H1 locs1 cells slots Q (F0 m (pc + 3) ls rest)) : W p l e R s m args below meth c H locs cells slots Q (F0 m pc ls (.int n :: .int dp :: .ref a :: .int sp :: .ref a0 :: rest)) := by
  subst hw
  have g1 : ¬ sp < 0 := fun h => h1 (Or.inl h)
  have g2 : ¬ dp < 0 := fun h => h1 (Or.inr (Or.inl h))
  have g3 : ¬ n < 0 := fun h => h1 (Or.inr (Or.inr (Or.inl h)))
  have g4 : sp.toNatClampNeg + n.toNatClampNeg ≤ n0 := Nat.not_lt.mp fun h => h1 (Or.inr (Or.inr (Or.inr (Or.inl h))))
  have g5 : dp.toNatClampNeg + n.toNatClampNeg ≤ n1 := Nat.not_lt.mp fun h => h1 (Or.inr (Or.inr (Or.inr (Or.inr h))))
  exact va_copyi (D := D) X.1 X.2.1 (by rw [X.2.2.1, hls]) X.2.2.2.1 (X.2.2.2.2.1 _ hml) (X.2.2.2.2.1 _ hnat.1) (X.2.2.2.2.1 _ hnat.2.1) (X.2.2.2.2.1 _ hnat.2.2) K.1 G.1 G.2.1 G.2.2 q0 q1 0 0 he0 he1 rfl rfl rfl g1 g2 g3 g4 g5 (fun _ _ => rfl) hframes hlocals hdg (fun H1 locs1 h1 h2 h3 => kk H1 locs1 ⟨h1, h2, h3⟩)
end ROWS
section ENTRY
variable {l : Launch} {D : va_G} {cI cZ cQ : ClassId} {adK adV : Nat → Nat} {A : Nat → Prop} {S : Type} {w : S → va_W} {u u' : S} {r : Int32} {y : MethodName} {cc : ByteArray} {maxL : Nat} {ret : Option FieldType} {rm : Room} {av : List Value}
/-- a method's contract out of the walk from its entry -/
theorem entI (hy : plainName y.cls = true) (hlen : (lg_sl av).length ≤ maxL) (body : ∀ (p : Program) (e : Env) (s : State) (m : MethodId) (below : List Frame) (meth : Method) (c : Code) (ls : Array Slot), cx p s m av.toArray meth c cc maxL y.cls ret → kx D cI cZ cQ adK adV A s s.heap → wg D A s.heap s.heap [] (w u) → lv_has ls maxL (lv_args 0 av) → W p l e rm s m av.toArray below meth c s.heap [] 0 0 (qI D A w below av.toArray s r u') (F0 m 0 ls [])) : MI l D cI cZ cQ adK adV A y cc maxL ret rm av w u r u' := by
  refine Met.ofW (cc := cc) (maxL := maxL) (ret := ret) hy rfl ?_
  intro p e s m args below meth c s₁ B hml hv
  obtain ⟨rfl, hP, hD, K⟩ := hv
  rw [lg_entry_eq]
  exact body p e s m below meth c _ ⟨B.exec, B.bytes, hml, findClass_of_methodNamed B.named, fun w h => atoms_spec (ws := wz y cc maxL ret) B.pre w (List.mem_cons_of_mem _ h), B.returns, B.notSynchronized⟩ K ⟨hP, hD, va_S.rf⟩ (lv_entry av hlen)
theorem entV (hy : plainName y.cls = true) (hlen : (lg_sl av).length ≤ maxL) (body : ∀ (p : Program) (e : Env) (s : State) (m : MethodId) (below : List Frame) (meth : Method) (c : Code) (ls : Array Slot), cx p s m av.toArray meth c cc maxL y.cls none → kx D cI cZ cQ adK adV A s s.heap → wg D A s.heap s.heap [] (w u) → lv_has ls maxL (lv_args 0 av) → W p l e rm s m av.toArray below meth c s.heap [] 0 0 (qV D A w below av.toArray s u') (F0 m 0 ls [])) : MV l D cI cZ cQ adK adV A y cc maxL rm av w u u' := by
  refine Met.ofW (cc := cc) (maxL := maxL) (ret := none) hy rfl ?_
  intro p e s m args below meth c s₁ B hml hv
  obtain ⟨rfl, hP, hD, K⟩ := hv
  rw [lg_entry_eq]
  exact body p e s m below meth c _ ⟨B.exec, B.bytes, hml, findClass_of_methodNamed B.named, fun w h => atoms_spec (ws := wz y cc maxL none) B.pre w (List.mem_cons_of_mem _ h), B.returns, B.notSynchronized⟩ K ⟨hP, hD, va_S.rf⟩ (lv_entry av hlen)
end ENTRY
