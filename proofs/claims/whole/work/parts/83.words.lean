/-! words, numbers, signs: asked of both -/
theorem tx_len_le : ∀ j, j < 14 → tx_len j ≤ 7 := by decide
abbrev wd (B : Fn) (n p j : Nat) : Prop := tK B n p = 1 ∧ tE B n p - tS B n p = tx_len j ∧ ∀ k, k < tx_len j → B (tS B n p + k) = tx_chr j k
abbrev nb (B : Fn) (n p : Nat) (a b : Int32) : Prop := tK B n p = 2 ∧ a.toInt ≤ (tV B n p).toInt ∧ (tV B n p).toInt ≤ b.toInt
theorem tK_le (B : Fn) (n p : Nat) : tK B n p ≤ 5 := kd_le _ _ _
theorem so_eq {k c : Nat} (hk : k ≤ 5) (hc : c < 3) : nI (so3 k) = nI c ↔ k = c := by
  have h3 : so3 k ≤ 3 := by unfold so3; split <;> omega
  rw [nI_eq (by omega) (by omega)]
  unfold so3
  split <;> omega
theorem so_3 {k : Nat} (hk : k ≤ 5) : nI (so3 k) = 3 ↔ 3 ≤ k := by
  have h3 : so3 k ≤ 3 := by unfold so3; split <;> omega
  rw [show (3 : Int32) = nI 3 from rfl, nI_eq (by omega) (by omega)]
  unfold so3
  split <;> omega
section WORDS
variable {u : XS} {B : Fn} {n p : Nat} {T : TownS}
theorem x_isNumber (a b : Int32) : f_X4_isNumber a b (XP u B n p T) = some (if nb B n p a b then 1 else 0, XP u B n p T) := by
  have hk := tK_le B n p
  unfold f_X4_isNumber
  rw [yP_x]
  by_cases c : tK B n p = 2
  · rw [if_pos (show r_token (rd4 B n p) = 2 from by show nI (tK B n p) = 2; rw [c]; rfl), w_in, bnd_some]
    show (if (if a.toInt ≤ (tV B n p).toInt ∧ (tV B n p).toInt ≤ b.toInt then (1 : Int32) else 0) = 0 then some ((0 : Int32), XP u B n p T) else some ((1 : Int32), XP u B n p T)) = _
    by_cases d : a.toInt ≤ (tV B n p).toInt ∧ (tV B n p).toInt ≤ b.toInt
    · rw [if_pos d, if_neg (by decide), if_pos (show nb B n p a b from ⟨c, d⟩)]
    · rw [if_neg d, if_pos rfl, if_neg (show ¬ nb B n p a b from fun g => d g.2)]
  · rw [if_neg (show ¬ r_token (rd4 B n p) = 2 from fun g => c ((nI_eq (a := tK B n p) (b := 2) (by omega) (by omega)).mp g)), if_neg (show ¬ nb B n p a b from fun g => c g.1)]
theorem x_isWord (ht : tpe u B n) (hp : p ≤ n) {j : Nat} (hj : j < 14) : f_X4_isWord j (XP u B n p T) = some (if wd B n p j then 1 else 0, XP u B n p T) := by
  have hk := tK_le B n p
  have hl := tx_len_le j hj
  obtain ⟨t1, t2, t3⟩ := ht
  obtain ⟨e1, e2, e3⟩ := tE_le (B := B) hp
  have h1 := tS_le (B := B) hp
  unfold f_X4_isWord
  rw [yP_x]
  by_cases c : tK B n p = 1
  · rw [if_pos (show r_token (rd4 B n p) = 1 from by show nI (tK B n p) = 1; rw [c]; rfl), if_neg (by omega)]
    have es : r_end (rd4 B n p) - r_start (rd4 B n p) = nI (tE B n p - tS B n p) := nI_sub e1
    rw [es]
    by_cases d : tE B n p - tS B n p = tx_len j
    · rw [if_pos (by rw [d])]
      have key : ∀ m k, k + m = tx_len j → (∀ i, i < k → B (tS B n p + i) = tx_chr j i) → bne (wl f_X4_isWord_L28_28s (j, nI k, XP u B n p T)) (fun a => some a) (fun b => nmv b fun u6 => some ((1 : Int32), u6)) = some (if wd B n p j then 1 else 0, XP u B n p T) := by
        intro m
        induction m with
        | zero =>
          intro k hk2 hm
          have st : f_X4_isWord_L28_28s (j, nI k, XP u B n p T) = some (.inr (.inr (XP u B n p T))) := by
            show f_X4_isWord_L28_28 j (nI k) (XP u B n p T) = _
            unfold f_X4_isWord_L28_28
            rw [if_neg (by omega), if_pos (nI_le (by omega) (by omega))]
          rw [wl_out st, if_pos (show wd B n p j from ⟨c, d, fun i hi => hm i (by omega)⟩)]
          rfl
        | succ m ih =>
          intro k hk2 hm
          have st : f_X4_isWord_L28_28s (j, nI k, XP u B n p T) = f_X4_isWord_L28_28 j (nI k) (XP u B n p T) := rfl
          conv at st => rhs; unfold f_X4_isWord_L28_28
          rw [if_neg (by omega), if_neg (show ¬ nI (tx_len j) ≤ nI k from nI_ge (by omega) (by omega)), yP_x, show r_start (rd4 B n p) + nI k = nI (tS B n p + k) from nI_add _ _, nmv, ck_nI (by omega) (by omega), if_neg (show ¬ 14 ≤ j by omega), ck_nI (show k < tx_len j by omega) (by omega), yP_p, cl_nI (by omega), cl_nI (by omega), t3 _ (by omega)] at st
          by_cases g : B (tS B n p + k) = tx_chr j k
          · rw [if_pos g, nmv, nI_s1] at st
            rw [wl_in st]
            exact ih (k + 1) (by omega) (fun i hi => by
              by_cases e : i = k
              · rw [e]; exact g
              · exact hm i (by omega))
          · rw [if_neg g] at st
            rw [wl_out st, if_neg (show ¬ wd B n p j from fun q => g (q.2.2 k (by omega)))]
            rfl
      exact key (tx_len j) 0 (by omega) (fun i hi => by omega)
    · rw [if_neg (show ¬ nI (tx_len j) = nI (tE B n p - tS B n p) from fun g => d ((nI_eq (by omega) (by omega)).mp g).symm), if_neg (show ¬ wd B n p j from fun g => d g.2.1)]
  · rw [if_neg (show ¬ r_token (rd4 B n p) = 1 from fun g => c ((nI_eq (a := tK B n p) (b := 1) (by omega) (by omega)).mp g)), if_neg (show ¬ wd B n p j from fun g => c g.1)]
/-- the kind that a word tells -/
def kw (B : Fn) (n p : Nat) : Int32 := if wd B n p 13 then 0 else if wd B n p 7 then 1 else if wd B n p 8 then 2 else if wd B n p 9 then 3 else if wd B n p 10 then 4 else if wd B n p 11 then 5 else if wd B n p 12 then 6 else -1
theorem x_kind (ht : tpe u B n) (hp : p ≤ n) : f_X4_kindOfWord (XP u B n p T) = some (kw B n p, XP u B n p T) := by
  have go : ∀ (k : Int32) (j : Nat), j < 14 → ¬ (7 : Int32) ≤ k → (∀ v : XS, f_X4_nameOfKind k v = some (j, v)) → f_X4_kindOfWord_L2_2s (k, XP u B n p T) = if wd B n p j then some (.inr (.inl (k, XP u B n p T))) else some (.inl (k + 1, XP u B n p T)) := by
    intro k j hj hk hn
    show f_X4_kindOfWord_L2_2 k (XP u B n p T) = _
    unfold f_X4_kindOfWord_L2_2
    rw [if_neg hk, hn, bnd_some, x_isWord ht hp hj, bnd_some]
    by_cases c : wd B n p j
    · rw [if_pos c, if_neg (by decide), if_pos c]
    · rw [if_neg c, if_pos rfl, if_neg c, nmv]
  have g0 := go 0 13 (by omega) (by decide) (fun v => rfl)
  have g1 := go 1 7 (by omega) (by decide) (fun v => rfl)
  have g2 := go 2 8 (by omega) (by decide) (fun v => rfl)
  have g3 := go 3 9 (by omega) (by decide) (fun v => rfl)
  have g4 := go 4 10 (by omega) (by decide) (fun v => rfl)
  have g5 := go 5 11 (by omega) (by decide) (fun v => rfl)
  have g6 := go 6 12 (by omega) (by decide) (fun v => rfl)
  have g7 : f_X4_kindOfWord_L2_2s ((6 : Int32) + 1, XP u B n p T) = some (.inr (.inr (XP u B n p T))) := by
    show f_X4_kindOfWord_L2_2 ((6 : Int32) + 1) (XP u B n p T) = _
    unfold f_X4_kindOfWord_L2_2
    rw [if_pos (by decide)]
  unfold f_X4_kindOfWord kw
  by_cases c0 : wd B n p 13
  · rw [if_pos c0] at g0 ⊢; rw [wl_out g0]; rfl
  rw [if_neg c0] at g0 ⊢
  rw [wl_in g0, show (0 : Int32) + 1 = 1 by decide]
  by_cases c1 : wd B n p 7
  · rw [if_pos c1] at g1 ⊢; rw [wl_out g1]; rfl
  rw [if_neg c1] at g1 ⊢
  rw [wl_in g1, show (1 : Int32) + 1 = 2 by decide]
  by_cases c2 : wd B n p 8
  · rw [if_pos c2] at g2 ⊢; rw [wl_out g2]; rfl
  rw [if_neg c2] at g2 ⊢
  rw [wl_in g2, show (2 : Int32) + 1 = 3 by decide]
  by_cases c3 : wd B n p 9
  · rw [if_pos c3] at g3 ⊢; rw [wl_out g3]; rfl
  rw [if_neg c3] at g3 ⊢
  rw [wl_in g3, show (3 : Int32) + 1 = 4 by decide]
  by_cases c4 : wd B n p 10
  · rw [if_pos c4] at g4 ⊢; rw [wl_out g4]; rfl
  rw [if_neg c4] at g4 ⊢
  rw [wl_in g4, show (4 : Int32) + 1 = 5 by decide]
  by_cases c5 : wd B n p 11
  · rw [if_pos c5] at g5 ⊢; rw [wl_out g5]; rfl
  rw [if_neg c5] at g5 ⊢
  rw [wl_in g5, show (5 : Int32) + 1 = 6 by decide]
  by_cases c6 : wd B n p 12
  · rw [if_pos c6] at g6 ⊢; rw [wl_out g6]; rfl
  rw [if_neg c6] at g6 ⊢
  rw [wl_in g6, wl_out g7]
  rfl
end WORDS
section MWORDS
variable {τ : MS} {n p : Nat} {m : Fn}
theorem m_word0 (j : Nat) (m : Fn) (b : Int32) : wl f_X7_isWord_L39_39s (j, (0 : Int32), (0 : Int32), MP τ n p m b) = some (.inr ((0 : Int32), MP τ n p m b)) := by
  apply wl_out
  show f_X7_isWord_L39_39 j 0 0 (MP τ n p m b) = _
  unfold f_X7_isWord_L39_39
  rw [if_pos rfl]
theorem m_isWord (hn1 : n ≤ 120) (hp : p ≤ n) {j : Nat} (hj : j < 14) : f_X7_isWord j (MP τ n p m 0) = some (if wd (m_tape τ) n p j then 1 else 0, MP τ n p m 0) := by
  have hk := tK_le (m_tape τ) n p
  have hl := tx_len_le j hj
  obtain ⟨e1, e2, e3⟩ := tE_le (B := m_tape τ) hp
  have h1 := tS_le (B := m_tape τ) hp
  unfold f_X7_isWord
  rw [pM_ba, if_pos rfl, pM_so]
  by_cases c : tK (m_tape τ) n p = 1
  · rw [if_pos (show nI (so3 (tK (m_tape τ) n p)) = 1 from (so_eq hk (c := 1) (by omega)).mpr c), if_neg (show ¬ 14 ≤ j by omega), pM_to, pM_fr, nI_sub e1]
    by_cases d : tE (m_tape τ) n p - tS (m_tape τ) n p = tx_len j
    · rw [if_pos (by rw [d])]
      have key : ∀ mm k, k + mm = tx_len j → (∀ i, i < k → (m_tape τ) (tS (m_tape τ) n p + i) = tx_chr j i) → wl f_X7_isWord_L39_39s (j, (1 : Int32), nI k, MP τ n p m 0) = some (.inr (if wd (m_tape τ) n p j then 1 else 0, MP τ n p m 0)) := by
        intro mm
        induction mm with
        | zero =>
          intro k hk2 hm
          apply wl_out
          show f_X7_isWord_L39_39 j 1 (nI k) (MP τ n p m 0) = _
          unfold f_X7_isWord_L39_39
          rw [if_neg (by decide), if_neg (by omega), if_pos (nI_le (by omega) (by omega)), if_pos (show wd (m_tape τ) n p j from ⟨c, d, fun i hi => hm i (by omega)⟩)]
        | succ mm ih =>
          intro k hk2 hm
          have st : f_X7_isWord_L39_39s (j, (1 : Int32), nI k, MP τ n p m 0) = f_X7_isWord_L39_39 j 1 (nI k) (MP τ n p m 0) := rfl
          conv at st => rhs; unfold f_X7_isWord_L39_39
          rw [if_neg (by decide), if_neg (by omega), if_neg (show ¬ nI (tx_len j) ≤ nI k from nI_ge (by omega) (by omega)), pM_fr, nI_add, nmv, ck_nI (by omega) (by omega), if_neg (show ¬ 14 ≤ j by omega), ck_nI (show k < tx_len j by omega) (by omega), pM_tp, cl_nI (by omega), cl_nI (by omega)] at st
          by_cases g : m_tape τ (tS (m_tape τ) n p + k) = tx_chr j k
          · rw [if_pos g, nmv, nI_s1] at st
            rw [wl_in st]
            exact ih (k + 1) (by omega) (fun i hi => by
              by_cases e : i = k
              · rw [e]; exact g
              · exact hm i (by omega))
          · rw [if_neg g, nmv] at st
            rw [wl_in st, if_neg (show ¬ wd (m_tape τ) n p j from fun q => g (q.2.2 k (by omega)))]
            apply wl_out
            show f_X7_isWord_L39_39 j 0 (nI k + 1) (MP τ n p m 0) = _
            unfold f_X7_isWord_L39_39
            rw [if_pos rfl]
      have e := key (tx_len j) 0 (by omega) (fun i hi => by omega)
      have e' : wl f_X7_isWord_L39_39s (j, (1 : Int32), (0 : Int32), MP τ n p m 0) = some (.inr (if wd (m_tape τ) n p j then 1 else 0, MP τ n p m 0)) := e
      rw [e']
      show (if ¬ ((if wd (m_tape τ) n p j then (1 : Int32) else 0) = 0 ∨ (if wd (m_tape τ) n p j then (1 : Int32) else 0) = 1) then none else some (if wd (m_tape τ) n p j then (1 : Int32) else 0, MP τ n p m 0)) = _
      rw [ck_z01]
    · rw [if_neg (show ¬ nI (tE (m_tape τ) n p - tS (m_tape τ) n p) = nI (tx_len j) from fun g => d ((nI_eq (by omega) (by omega)).mp g)), m_word0, if_neg (show ¬ wd (m_tape τ) n p j from fun g => d g.2.1)]
      rfl
  · rw [if_neg (show ¬ nI (so3 (tK (m_tape τ) n p)) = 1 from fun g => c ((so_eq hk (c := 1) (by omega)).mp g)), m_word0, if_neg (show ¬ wd (m_tape τ) n p j from fun g => c g.1)]
    rfl
theorem m_isWordB (j : Nat) : f_X7_isWord j (MP τ n p m 1) = some (0, MP τ n p m 1) := by
  unfold f_X7_isWord
  rw [pM_ba, if_neg (by decide), m_word0]
  rfl
theorem m_takes (hn : m_taped τ = nI n) (hn1 : n ≤ 120) (hp : p ≤ n) {j : Nat} (hj : j < 14) : f_X7_takes j (MP τ n p m 0) = if wd (m_tape τ) n p j then some (1, MP τ n (tE (m_tape τ) n p) m 0) else some (0, MP τ n p m 0) := by
  unfold f_X7_takes
  rw [m_isWord hn1 hp hj, bnd_some]
  by_cases c : wd (m_tape τ) n p j
  · rw [if_pos c, if_neg (by decide), m_token hn hn1 (tE_le hp).2.1, bnd_some, if_pos c]
  · rw [if_neg c, if_pos rfl, if_neg c]
theorem m_takesB (j : Nat) : f_X7_takes j (MP τ n p m 1) = some (0, MP τ n p m 1) := by
  unfold f_X7_takes
  rw [m_isWordB, bnd_some, if_pos rfl]
theorem m_wordW (hn : m_taped τ = nI n) (hn1 : n ≤ 120) (hp : p ≤ n) {j : Nat} (hj : j < 14) : f_X7_word j (MP τ n p m 0) = if wd (m_tape τ) n p j then some (0, MP τ n (tE (m_tape τ) n p) m 0) else some (0, MP τ n p m 1) := by
  unfold f_X7_word
  rw [pM_ba, if_pos rfl, m_isWord hn1 hp hj, bnd_some]
  by_cases c : wd (m_tape τ) n p j
  · rw [if_pos c, if_neg (by decide), mP_ba, nmv, pM_ba, if_pos rfl, m_token hn hn1 (tE_le hp).2.1, bnd_some, if_pos c]
  · rw [if_neg c, if_pos rfl, if_neg c]
    unfold f_X7_word_16
    rw [mP_ba, nmv, pM_ba, if_neg (by decide)]
theorem m_wordB (j : Nat) : f_X7_word j (MP τ n p m 1) = some (0, MP τ n p m 1) := by
  unfold f_X7_word f_X7_word_16
  rw [pM_ba, if_neg (by decide), mP_ba, nmv, pM_ba, if_neg (by decide)]
theorem m_numW (hn : m_taped τ = nI n) (hn1 : n ≤ 120) (hp : p ≤ n) (a b : Int32) : f_X7_number a b (MP τ n p m 0) = if nb (m_tape τ) n p a b then some (tV (m_tape τ) n p, MP τ n (tE (m_tape τ) n p) m 0) else some (tV (m_tape τ) n p, MP τ n p m 1) := by
  have hk := tK_le (m_tape τ) n p
  have bad1 : f_X7_number_36 1 (MP τ n p m 0) = some (tV (m_tape τ) n p, MP τ n p m 1) := by
    unfold f_X7_number_36
    rw [if_neg (by decide), mP_ba, nmv, pM_va, pM_ba, nmv, if_neg (by decide)]
  have good : f_X7_number_36 0 (MP τ n p m 0) = some (tV (m_tape τ) n p, MP τ n (tE (m_tape τ) n p) m 0) := by
    unfold f_X7_number_36
    rw [if_neg (by decide), mP_ba, nmv, pM_va, pM_ba, nmv, if_pos rfl, m_token hn hn1 (tE_le hp).2.1, bnd_some]
  unfold f_X7_number
  rw [pM_ba, if_pos rfl, pM_so]
  by_cases c : tK (m_tape τ) n p = 2
  · rw [if_pos (show nI (so3 (tK (m_tape τ) n p)) = 2 from (so_eq hk (c := 2) (by omega)).mpr c), pM_va, m_in, bnd_some]
    simp only [Int32.toInt_toInt64]
    by_cases d : a.toInt ≤ (tV (m_tape τ) n p).toInt ∧ (tV (m_tape τ) n p).toInt ≤ b.toInt
    · rw [if_pos d, if_neg (by decide), if_pos (show nb (m_tape τ) n p a b from ⟨c, d⟩), good]
    · rw [if_neg d, if_pos rfl, if_neg (show ¬ nb (m_tape τ) n p a b from fun g => d g.2), bad1]
  · rw [if_neg (show ¬ nI (so3 (tK (m_tape τ) n p)) = 2 from fun g => c ((so_eq hk (c := 2) (by omega)).mp g)), if_neg (show ¬ nb (m_tape τ) n p a b from fun g => c g.1), bad1]
theorem m_numberB (a b : Int32) : f_X7_number a b (MP τ n p m 1) = some (tV (m_tape τ) n p, MP τ n p m 1) := by
  unfold f_X7_number f_X7_number_36
  rw [pM_ba, if_neg (by decide), if_neg (by decide), mP_ba, nmv, pM_va, pM_ba, nmv, if_neg (by decide)]
theorem kd_3 {B : Fn} {n q : Nat} : kd B n q = 3 ↔ 3 ≤ kd B n q ∧ B q = 59 := by
  unfold kd
  by_cases c : q < n
  · rw [if_pos c]
    by_cases c1 : 97 ≤ (B q).toInt ∧ (B q).toInt ≤ 122
    · rw [if_pos c1]; exact ⟨fun h => by omega, fun h => by omega⟩
    · rw [if_neg c1]
      by_cases c2 : 48 ≤ (B q).toInt ∧ (B q).toInt ≤ 57
      · rw [if_pos c2]; exact ⟨fun h => by omega, fun h => by omega⟩
      · rw [if_neg c2]
        by_cases c3 : B q = 59
        · rw [if_pos c3]; exact ⟨fun _ => ⟨by omega, c3⟩, fun _ => rfl⟩
        · rw [if_neg c3]
          refine ⟨fun h => ?_, fun h => absurd h.2 c3⟩
          revert h
          split <;> omega
  · rw [if_neg c]; exact ⟨fun h => by omega, fun h => by omega⟩
theorem kd_4 {B : Fn} {n q : Nat} : kd B n q = 4 ↔ 3 ≤ kd B n q ∧ B q = 44 := by
  unfold kd
  by_cases c : q < n
  · rw [if_pos c]
    by_cases c1 : 97 ≤ (B q).toInt ∧ (B q).toInt ≤ 122
    · rw [if_pos c1]; exact ⟨fun h => by omega, fun h => by omega⟩
    · rw [if_neg c1]
      by_cases c2 : 48 ≤ (B q).toInt ∧ (B q).toInt ≤ 57
      · rw [if_pos c2]; exact ⟨fun h => by omega, fun h => by omega⟩
      · rw [if_neg c2]
        by_cases c3 : B q = 59
        · rw [if_pos c3]
          refine ⟨fun h => by omega, fun h => ?_⟩
          have := h.2
          rw [c3] at this
          exact absurd this (by decide)
        · rw [if_neg c3]
          by_cases c4 : B q = 44
          · rw [if_pos c4]; exact ⟨fun _ => ⟨by omega, c4⟩, fun _ => rfl⟩
          · rw [if_neg c4]; exact ⟨fun h => by omega, fun h => absurd h.2 c4⟩
  · rw [if_neg c]; exact ⟨fun h => by omega, fun h => by omega⟩
theorem m_sign (hn1 : n ≤ 120) (hp : p ≤ n) (c : Int32) {k : Nat} (hk : ∀ {B : Fn} {n q : Nat}, kd B n q = k ↔ 3 ≤ kd B n q ∧ B q = c) : f_X7_isSign c (MP τ n p m 0) = some (if tK (m_tape τ) n p = k then 1 else 0, MP τ n p m 0) := by
  have h5 := tK_le (m_tape τ) n p
  have h1 := tS_le (B := m_tape τ) hp
  have hk' := hk (B := m_tape τ) (n := n) (q := tS (m_tape τ) n p)
  have ek : kd (m_tape τ) n (tS (m_tape τ) n p) = tK (m_tape τ) n p := rfl
  rw [ek] at hk'
  unfold f_X7_isSign
  rw [pM_ba, if_pos rfl, pM_so]
  by_cases g : 3 ≤ tK (m_tape τ) n p
  · have hlt : tS (m_tape τ) n p < n := kd_lt (B := m_tape τ) (by rw [ek]; omega)
    rw [if_pos ((so_3 h5).mpr g), pM_fr, nmv, ck_nI (by omega) (by omega), pM_tp, cl_nI (by omega)]
    by_cases d : m_tape τ (tS (m_tape τ) n p) = c
    · rw [if_pos d, if_pos (hk'.mpr ⟨g, d⟩)]
    · rw [if_neg d, if_neg (fun q => d (hk'.mp q).2)]
  · rw [if_neg (fun q => g ((so_3 h5).mp q)), if_neg (fun q => g (hk'.mp q).1)]
theorem m_signB (c : Int32) : f_X7_isSign c (MP τ n p m 1) = some (0, MP τ n p m 1) := by
  unfold f_X7_isSign
  rw [pM_ba, if_neg (by decide)]
theorem m_kind (hn1 : n ≤ 120) (hp : p ≤ n) : f_X7_kindHere (MP τ n p m 0) = some (kw (m_tape τ) n p, MP τ n p m 0) := by
  unfold f_X7_kindHere kw
  rw [m_isWord hn1 hp (by omega), bnd_some]
  by_cases c0 : wd (m_tape τ) n p 13
  · rw [if_pos c0, if_neg (by decide), if_pos c0]
  rw [if_neg c0, if_pos rfl, if_neg c0, m_isWord hn1 hp (by omega), bnd_some]
  by_cases c1 : wd (m_tape τ) n p 7
  · rw [if_pos c1, if_neg (by decide), if_pos c1]
  rw [if_neg c1, if_pos rfl, if_neg c1, m_isWord hn1 hp (by omega), bnd_some]
  by_cases c2 : wd (m_tape τ) n p 8
  · rw [if_pos c2, if_neg (by decide), if_pos c2]
  rw [if_neg c2, if_pos rfl, if_neg c2, m_isWord hn1 hp (by omega), bnd_some]
  by_cases c3 : wd (m_tape τ) n p 9
  · rw [if_pos c3, if_neg (by decide), if_pos c3]
  rw [if_neg c3, if_pos rfl, if_neg c3, m_isWord hn1 hp (by omega), bnd_some]
  by_cases c4 : wd (m_tape τ) n p 10
  · rw [if_pos c4, if_neg (by decide), if_pos c4]
  rw [if_neg c4, if_pos rfl, if_neg c4, m_isWord hn1 hp (by omega), bnd_some]
  by_cases c5 : wd (m_tape τ) n p 11
  · rw [if_pos c5, if_neg (by decide), if_pos c5]
  rw [if_neg c5, if_pos rfl, if_neg c5, m_isWord hn1 hp (by omega), bnd_some]
  by_cases c6 : wd (m_tape τ) n p 12
  · rw [if_pos c6, if_neg (by decide), if_pos c6]
  rw [if_neg c6, if_pos rfl, if_neg c6]
end MWORDS
