/-! best: all sequences of n orders, as digits (written by mk79.py) -/
def seqs : Nat → List Nat
  | 0 => [0]
  | 1 => [0]
  | 2 => [1, 10]
  | 3 => [12, 21, 102, 120, 201, 210]
  | 4 => [123, 132, 213, 231, 312, 321, 1023, 1032, 1203, 1230, 1302, 1320, 2013, 2031, 2103, 2130, 2301, 2310, 3012, 3021, 3102, 3120, 3201, 3210]
  | _ => [1234, 1243, 1324, 1342, 1423, 1432, 2134, 2143, 2314, 2341, 2413, 2431, 3124, 3142, 3214, 3241, 3412, 3421, 4123, 4132, 4213, 4231, 4312, 4321, 10234, 10243, 10324, 10342, 10423, 10432, 12034, 12043, 12304, 12340, 12403, 12430, 13024, 13042, 13204, 13240, 13402, 13420, 14023, 14032, 14203, 14230, 14302, 14320, 20134, 20143, 20314, 20341, 20413, 20431, 21034, 21043, 21304, 21340, 21403, 21430, 23014, 23041, 23104, 23140, 23401, 23410, 24013, 24031, 24103, 24130, 24301, 24310, 30124, 30142, 30214, 30241, 30412, 30421, 31024, 31042, 31204, 31240, 31402, 31420, 32014, 32041, 32104, 32140, 32401, 32410, 34012, 34021, 34102, 34120, 34201, 34210, 40123, 40132, 40213, 40231, 40312, 40321, 41023, 41032, 41203, 41230, 41302, 41320, 42013, 42031, 42103, 42130, 42301, 42310, 43012, 43021, 43102, 43120, 43201, 43210]
/-! the next sequence, counted out -/
def up1 (s : Nat → Nat) (a x : Nat) : Nat → Nat := fun k => if k = a then x else s k
def swp (s : Nat → Nat) (i j : Nat) : Nat → Nat := up1 (up1 s i (s j)) j (s i)
/-- 1 more than where it rises, from below k; 0: nowhere -/
def rs (s : Nat → Nat) : Nat → Nat
  | 0 => 0
  | k + 1 => if s k ≤ s (k + 1) then k + 1 else rs s k
/-- the last one above -/
def ab (s : Nat → Nat) (r : Nat) : Nat → Nat
  | 0 => 0
  | k + 1 => if k + 1 ≤ r then k + 1 else if s r ≤ s (k + 1) then k + 1 else ab s r k
def rv : Nat → (Nat → Nat) → Nat → Nat → Nat → Nat
  | 0, s, _, _ => s
  | f + 1, s, lo, hi => if hi ≤ lo then s else rv f (swp s lo hi) (lo + 1) (hi - 1)
def np (N : Nat) (s : Nat → Nat) : Bool × (Nat → Nat) := if rs s (N - 1) = 0 then (false, s) else (true, rv 5 (swp s (rs s (N - 1) - 1) (ab s (rs s (N - 1) - 1) (N - 1))) (rs s (N - 1)) (N - 1))
/-- digits as a number -/
def cd (s : Nat → Nat) : Nat → Nat
  | 0 => 0
  | k + 1 => cd s k * 10 + s k
/-- a list whose sequences follow one another -/
def chn (N : Nat) : List Nat → Bool
  | [] => true
  | v :: L => match L with
    | [] => !(np N (dg v N)).1
    | x :: _ => (np N (dg v N)).1 && (List.range N).all (fun k => (np N (dg v N)).2 k == dg x N k) && chn N L
theorem LP_chn : ∀ N, N < 6 → chn N (seqs N) = true := by decide +kernel
theorem LP_len : ∀ N, N < 6 → (seqs N).length ≤ 120 := by decide +kernel
theorem LP_ao : ∀ N, N < 6 → (seqs N).all (fun v => ao N N v 0 && (cd (dg v N) N == v) && decide (v < 10 ^ N)) = true := by decide +kernel
theorem LP_perm : ∀ N, N < 6 → (seqs N).all (fun v => ((List.range N).map (dg v N)).isPerm (List.range N)) = true := by decide +kernel
def srt : List Nat → Bool
  | [] => true
  | v :: L => L.all (fun x => decide (v < x)) && srt L
theorem LP_srt : ∀ N, N < 6 → srt (seqs N) = true := by decide +kernel
theorem LP_hd : ∀ N, N < 6 → ∃ v L, seqs N = v :: L ∧ ∀ k, k < N → dg v N k = k := by
  intro N h
  rcases (show N = 0 ∨ N = 1 ∨ N = 2 ∨ N = 3 ∨ N = 4 ∨ N = 5 by omega) with rfl | rfl | rfl | rfl | rfl | rfl
  · exact ⟨_, _, rfl, by decide⟩
  · exact ⟨_, _, rfl, by decide⟩
  · exact ⟨_, _, rfl, by decide⟩
  · exact ⟨_, _, rfl, by decide⟩
  · exact ⟨_, _, rfl, by decide⟩
  · exact ⟨_, _, rfl, by decide⟩
theorem LP_2 : ∀ a, a < 2 → ∀ b, b < 2 → b ≠ a → a + b * 10 ∈ seqs 2 := by decide +kernel
theorem LB_3 : ∀ a, a < 3 → ∀ b, b < 3 → ∀ c, c < 3 → (b == a || (c == a || (c == b || (seqs 3).contains (a + b * 10 + c * 100)))) = true := by decide +kernel
theorem LP_3 : ∀ a, a < 3 → ∀ b, b < 3 → b ≠ a → ∀ c, c < 3 → c ≠ a → c ≠ b → a + b * 10 + c * 100 ∈ seqs 3 := by
  intro a ha b hb n1 c hc n2 n3
  have := LB_3 a ha b hb c hc
  simpa [n1, n2, n3] using this
theorem LB_4 : ∀ a, a < 4 → ∀ b, b < 4 → ∀ c, c < 4 → ∀ d, d < 4 → (b == a || (c == a || (c == b || (d == a || (d == b || (d == c || (seqs 4).contains (a + b * 10 + c * 100 + d * 1000))))))) = true := by decide +kernel
theorem LP_4 : ∀ a, a < 4 → ∀ b, b < 4 → b ≠ a → ∀ c, c < 4 → c ≠ a → c ≠ b → ∀ d, d < 4 → d ≠ a → d ≠ b → d ≠ c → a + b * 10 + c * 100 + d * 1000 ∈ seqs 4 := by
  intro a ha b hb n1 c hc n2 n3 d hd n4 n5 n6
  have := LB_4 a ha b hb c hc d hd
  simpa [n1, n2, n3, n4, n5, n6] using this
theorem LB_5 : ∀ a, a < 5 → ∀ b, b < 5 → ∀ c, c < 5 → ∀ d, d < 5 → ∀ e, e < 5 → (b == a || (c == a || (c == b || (d == a || (d == b || (d == c || (e == a || (e == b || (e == c || (e == d || (seqs 5).contains (a + b * 10 + c * 100 + d * 1000 + e * 10000))))))))))) = true := by decide +kernel
theorem LP_5 : ∀ a, a < 5 → ∀ b, b < 5 → b ≠ a → ∀ c, c < 5 → c ≠ a → c ≠ b → ∀ d, d < 5 → d ≠ a → d ≠ b → d ≠ c → ∀ e, e < 5 → e ≠ a → e ≠ b → e ≠ c → e ≠ d → a + b * 10 + c * 100 + d * 1000 + e * 10000 ∈ seqs 5 := by
  intro a ha b hb n1 c hc n2 n3 d hd n4 n5 n6 e he n7 n8 n9 n10
  have := LB_5 a ha b hb c hc d hd e he
  simpa [n1, n2, n3, n4, n5, n6, n7, n8, n9, n10] using this
theorem LP_all {N v : Nat} (hN : N < 6) (h : ao N N v 0 = true) : v ∈ seqs N := by
  obtain ⟨g, z⟩ := ao_dg N v 0 h
  have p0 : 10 ^ 0 = 1 := rfl
  have p1 : 10 ^ 1 = 10 := rfl
  have p2 : 10 ^ 2 = 100 := rfl
  have p3 : 10 ^ 3 = 1000 := rfl
  have p4 : 10 ^ 4 = 10000 := rfl
  have p5 : 10 ^ 5 = 100000 := rfl
  rcases (show N = 0 ∨ N = 1 ∨ N = 2 ∨ N = 3 ∨ N = 4 ∨ N = 5 by omega) with rfl | rfl | rfl | rfl | rfl | rfl
  · rw [p0, Nat.div_one] at z
    rw [z]; decide
  · obtain ⟨a1, -, -⟩ := g 0 (by omega)
    rw [p0, Nat.div_one] at a1
    rw [p1] at z
    have e : v = 0 := by omega
    rw [e]; decide
  · obtain ⟨a1, -, -⟩ := g 0 (by omega)
    obtain ⟨b1, -, b2⟩ := g 1 (by omega)
    have b3 := b2 0 (by omega)
    rw [p0, Nat.div_one] at a1 b3
    rw [p1] at b1 b3
    rw [p2] at z
    have := LP_2 (v % 10) a1 (v / 10 % 10) b1 (fun q => b3 q.symm)
    rwa [show v % 10 + v / 10 % 10 * 10 = v by omega] at this
  · obtain ⟨a1, -, -⟩ := g 0 (by omega)
    obtain ⟨b1, -, b2⟩ := g 1 (by omega)
    obtain ⟨c1, -, c2⟩ := g 2 (by omega)
    have b3 := b2 0 (by omega)
    have c3 := c2 0 (by omega)
    have c4 := c2 1 (by omega)
    rw [p0, Nat.div_one] at a1 b3 c3
    rw [p1] at b1 b3 c4
    rw [p2] at c1 c3 c4
    rw [p3] at z
    have := LP_3 (v % 10) a1 (v / 10 % 10) b1 (fun q => b3 q.symm) (v / 100 % 10) c1 (fun q => c3 q.symm) (fun q => c4 q.symm)
    rwa [show v % 10 + v / 10 % 10 * 10 + v / 100 % 10 * 100 = v by omega] at this
  · obtain ⟨a1, -, -⟩ := g 0 (by omega)
    obtain ⟨b1, -, b2⟩ := g 1 (by omega)
    obtain ⟨c1, -, c2⟩ := g 2 (by omega)
    obtain ⟨d1, -, d2⟩ := g 3 (by omega)
    have b3 := b2 0 (by omega)
    have c3 := c2 0 (by omega)
    have c4 := c2 1 (by omega)
    have d3 := d2 0 (by omega)
    have d4 := d2 1 (by omega)
    have d5 := d2 2 (by omega)
    rw [p0, Nat.div_one] at a1 b3 c3 d3
    rw [p1] at b1 b3 c4 d4
    rw [p2] at c1 c3 c4 d5
    rw [p3] at d1 d3 d4 d5
    rw [p4] at z
    have := LP_4 (v % 10) a1 (v / 10 % 10) b1 (fun q => b3 q.symm) (v / 100 % 10) c1 (fun q => c3 q.symm) (fun q => c4 q.symm) (v / 1000 % 10) d1 (fun q => d3 q.symm) (fun q => d4 q.symm) (fun q => d5 q.symm)
    rwa [show v % 10 + v / 10 % 10 * 10 + v / 100 % 10 * 100 + v / 1000 % 10 * 1000 = v by omega] at this
  · obtain ⟨a1, -, -⟩ := g 0 (by omega)
    obtain ⟨b1, -, b2⟩ := g 1 (by omega)
    obtain ⟨c1, -, c2⟩ := g 2 (by omega)
    obtain ⟨d1, -, d2⟩ := g 3 (by omega)
    obtain ⟨e1, -, e2⟩ := g 4 (by omega)
    have b3 := b2 0 (by omega)
    have c3 := c2 0 (by omega)
    have c4 := c2 1 (by omega)
    have d3 := d2 0 (by omega)
    have d4 := d2 1 (by omega)
    have d5 := d2 2 (by omega)
    have e3 := e2 0 (by omega)
    have e4 := e2 1 (by omega)
    have e5 := e2 2 (by omega)
    have e6 := e2 3 (by omega)
    rw [p0, Nat.div_one] at a1 b3 c3 d3 e3
    rw [p1] at b1 b3 c4 d4 e4
    rw [p2] at c1 c3 c4 d5 e5
    rw [p3] at d1 d3 d4 d5 e6
    rw [p4] at e1 e3 e4 e5 e6
    rw [p5] at z
    have := LP_5 (v % 10) a1 (v / 10 % 10) b1 (fun q => b3 q.symm) (v / 100 % 10) c1 (fun q => c3 q.symm) (fun q => c4 q.symm) (v / 1000 % 10) d1 (fun q => d3 q.symm) (fun q => d4 q.symm) (fun q => d5 q.symm) (v / 10000 % 10) e1 (fun q => e3 q.symm) (fun q => e4 q.symm) (fun q => e5 q.symm) (fun q => e6 q.symm)
    rwa [show v % 10 + v / 10 % 10 * 10 + v / 100 % 10 * 100 + v / 1000 % 10 * 1000 + v / 10000 % 10 * 10000 = v by omega] at this
theorem LP_mem {N v : Nat} (hN : N < 6) (h : v ∈ seqs N) : ao N N v 0 = true ∧ cd (dg v N) N = v ∧ v < 10 ^ N ∧ List.Perm ((List.range N).map (dg v N)) (List.range N) := by
  have h1 := List.all_eq_true.mp (LP_ao N hN) v h
  have h2 := List.all_eq_true.mp (LP_perm N hN) v h
  simp only [Bool.and_eq_true, beq_iff_eq, decide_eq_true_eq] at h1
  exact ⟨h1.1.1, h1.1.2, h1.2, List.isPerm_iff.mp h2⟩
/-! the fold: the best of a list, and of all numbers one by one -/
def wv (T : TownS) (N v : Nat) : Int32 := (rn T (dg v N) N).2.1
def bstep (T : TownS) (N v : Nat) (q : Int32 × Int32 × Int32) : Int32 × Int32 × Int32 := if q.1 < wv T N v then (wv T N v, (rn T (dg v N) N).2.2.1, nI v) else q
def bs (T : TownS) (N : Nat) : List Nat → Int32 × Int32 × Int32 → Int32 × Int32 × Int32
  | [], q => q
  | v :: L, q => bs T N L (bstep T N v q)
theorem bs_c (T : TownS) (N v : Nat) (L : List Nat) (q : Int32 × Int32 × Int32) : bs T N (v :: L) q = bs T N L (bstep T N v q) := rfl
theorem bs_same {T : TownS} {N : Nat} {q : Int32 × Int32 × Int32} : ∀ L, (∀ v, v ∈ L → wv T N v ≤ q.1) → bs T N L q = q := by
  intro L
  induction L with
  | nil => intro _; rfl
  | cons v L ih =>
    intro h
    rw [bs_c]
    have e : bstep T N v q = q := if_neg (Int32.not_lt.mpr (h v List.mem_cons_self))
    rw [e]
    exact ih (fun x hx => h x (List.mem_cons_of_mem _ hx))
def rg (T : TownS) (N : Nat) : Nat → Nat → Int32 × Int32 × Int32 → Int32 × Int32 × Int32
  | _, 0, q => q
  | lo, c + 1, q => rg T N (lo + 1) c (if ao N N lo 0 = true then bstep T N lo q else q)
theorem rg_s (T : TownS) (N lo c : Nat) (q : Int32 × Int32 × Int32) : rg T N lo (c + 1) q = rg T N (lo + 1) c (if ao N N lo 0 = true then bstep T N lo q else q) := rfl
theorem srt_c {v : Nat} {L : List Nat} (h : srt (v :: L) = true) : (∀ x, x ∈ L → v < x) ∧ srt L = true := by
  have h' : (L.all (fun x => decide (v < x)) && srt L) = true := h
  rw [Bool.and_eq_true, List.all_eq_true] at h'
  exact ⟨fun x hx => of_decide_eq_true (h'.1 x hx), h'.2⟩
theorem rg_bs {T : TownS} {N : Nat} : ∀ c lo L q, (∀ v, lo ≤ v → v < lo + c → (ao N N v 0 = true ↔ v ∈ L)) → srt L = true → (∀ v, v ∈ L → lo ≤ v ∧ v < lo + c) → rg T N lo c q = bs T N L q := by
  intro c
  induction c with
  | zero =>
    intro lo L q _ _ h
    cases L with
    | nil => rfl
    | cons v L => have := h v List.mem_cons_self; omega
  | succ c ih =>
    intro lo L q h1 h2 h3
    rw [rg_s]
    by_cases e : ao N N lo 0 = true
    · rw [if_pos e]
      have hm := (h1 lo (Nat.le_refl _) (by omega)).mp e
      cases L with
      | nil => cases hm
      | cons v L =>
        obtain ⟨g1, g2⟩ := srt_c h2
        have ev : v = lo := by
          rcases List.mem_cons.mp hm with q | q
          · exact q.symm
          · have := g1 lo q; have := (h3 v List.mem_cons_self).1; omega
        subst ev
        rw [bs_c]
        refine ih (v + 1) L _ (fun x hx1 hx2 => ?_) g2 (fun x hx => ?_)
        · rw [h1 x (by omega) (by omega)]
          constructor
          · intro q
            rcases List.mem_cons.mp q with q | q
            · omega
            · exact q
          · exact fun q => List.mem_cons_of_mem _ q
        · have := g1 x hx; have := h3 x (List.mem_cons_of_mem _ hx); omega
    · rw [if_neg e]
      refine ih (lo + 1) L q (fun x hx1 hx2 => h1 x (by omega) (by omega)) h2 (fun x hx => ?_)
      have hx3 := h3 x hx
      have hne : x ≠ lo := fun q => e ((h1 lo (Nat.le_refl _) (by omega)).mpr (by rw [← q]; exact hx))
      omega
theorem rg_LP {T : TownS} {N : Nat} (hN : N < 6) (q : Int32 × Int32 × Int32) : rg T N 0 (10 ^ N) q = bs T N (seqs N) q :=
  rg_bs (10 ^ N) 0 (seqs N) q (fun v _ hv => ⟨fun h => LP_all hN h, fun h => (LP_mem hN h).1⟩) (LP_srt N hN) (fun v hv => ⟨Nat.zero_le _, by have := (LP_mem hN hv).2.2.1; omega⟩)
/-! no sequence has more than all WORTHS -/
def wN (T : TownS) (o : Nat) : Nat := (oW T o).toNatClampNeg
def sf (f : Nat → Nat) : Nat → Nat
  | 0 => 0
  | n + 1 => sf f n + f n
theorem sf_sum (f : Nat → Nat) : ∀ n, sf f n = ((List.range n).map f).sum := by
  intro n
  induction n with
  | zero => rfl
  | succ n ih =>
    show sf f n + f n = _
    rw [ih, List.range_succ, List.map_append, List.sum_append]
    rfl
theorem sf_le {f : Nat → Nat} {m : Nat} : ∀ n, (∀ i, i < n → f i ≤ m) → sf f n ≤ m * n := by
  intro n
  induction n with
  | zero => intro _; exact Nat.le_refl _
  | succ n ih =>
    intro h
    have := ih (fun i hi => h i (by omega))
    have := h n (by omega)
    show sf f n + f n ≤ m * (n + 1)
    rw [Nat.mul_add]
    omega
theorem wN_ok {T : TownS} (ok : tOk T) {o : Nat} (ho : (o : Int) < (tOrders T).toInt) : oW T o = nI (wN T o) ∧ 1 ≤ wN T o ∧ wN T o ≤ 99 := by
  have h : 1 ≤ (oW T o).toInt ∧ (oW T o).toInt ≤ 99 := (ok.2.2.2.2.2.2.2.2.2.1 o ho).2.2
  have e := i_cl (x := oW T o) (by omega)
  exact ⟨i_of (by omega), by unfold wN; omega, by unfold wN; omega⟩
theorem rn_w {T : TownS} (ok : tOk T) {s : Nat → Nat} : ∀ n, (∀ k, k < n → (s k : Int) < (tOrders T).toInt) → ∃ w, (rn T s n).2.1 = nI w ∧ w ≤ sf (fun k => wN T (s k)) n := by
  intro n
  induction n with
  | zero => intro _; exact ⟨0, rfl, Nat.le_refl _⟩
  | succ n ih =>
    intro h
    obtain ⟨w, e, hw⟩ := ih (fun k hk => h k (by omega))
    obtain ⟨w1, w2, w3⟩ := wN_ok ok (h n (by omega))
    have hs : sf (fun k => wN T (s k)) (n + 1) = sf (fun k => wN T (s k)) n + wN T (s n) := rfl
    rw [rn_s, hs]
    rcases tk_cases T (s n) (rn T s n) with ⟨q, -⟩ | ⟨b, h1, h2, h3, ⟨h4, q⟩ | ⟨h4, q⟩⟩
    · rw [q]; exact ⟨w, e, by omega⟩
    · rw [q]; exact ⟨w, e, by omega⟩
    · rw [q]
      refine ⟨w + wN T (s n), ?_, by omega⟩
      show (rn T s n).2.1 + oW T (s n) = _
      rw [e, w1, nI_add]
theorem wv_le {T : TownS} (ok : tOk T) {N v : Nat} (hN : tOrders T = nI N) (hN5 : N ≤ 5) (hv : v ∈ seqs N) : ∃ w, wv T N v = nI w ∧ w ≤ sf (wN T) N := by
  obtain ⟨h1, h2, h3, h4⟩ := LP_mem (by omega) hv
  obtain ⟨w, e, hw⟩ := rn_w ok (s := dg v N) N (fun k hk => by
    have := ao_dgs h1 hk
    rw [hN, i_nI (by omega)]
    omega)
  refine ⟨w, e, ?_⟩
  have e2 : sf (fun k => wN T (dg v N k)) N = sf (wN T) N := by
    rw [sf_sum, sf_sum, ← List.Perm.sum_nat (h4.map (wN T)), List.map_map]
    rfl
  omega
