/-! the reference looks for the fillings -/
def be_Mf (e : Nat) (M M2 : MS) : Prop := nF M2 = nF M ∧ nP M2 = nP M ∧ (∀ k, k < 40 → nA M2 k = nA M k) ∧ (∀ j, j ≠ e → nA M2 41 j = nA M 41 j) ∧ ∀ j, j / 12 ≠ e → nA M2 40 j = nA M 40 j
theorem be_Mf0 (e : Nat) (M : MS) : be_Mf e M M := ⟨rfl, rfl, fun _ _ => rfl, fun _ _ => rfl, fun _ _ => rfl⟩
theorem be_MfT {e : Nat} {M M2 M3 : MS} (h : be_Mf e M M2) (k : be_Mf e M2 M3) : be_Mf e M M3 := by
  obtain ⟨a1, a2, a3, a4, a5⟩ := h
  obtain ⟨b1, b2, b3, b4, b5⟩ := k
  exact ⟨b1.trans a1, b2.trans a2, fun k hk => (b3 k hk).trans (a3 k hk), fun j hj => (b4 j hj).trans (a4 j hj), fun j hj => (b5 j hj).trans (a5 j hj)⟩
theorem be_nAk (M : MS) {k k2 : Nat} (j : Nat) (v : Int32) (h : k2 ≠ k) : nA (nSA M k j v) k2 = nA M k2 := by
  funext q
  rw [bs_nA, if_neg (fun z => h z.1)]
theorem be_Mf43 (e : Nat) (M : MS) (j : Nat) (v : Int32) : be_Mf e M (nSA M 43 j v) :=
  ⟨rfl, rfl, fun k hk => be_nAk M j v (by omega), fun q _ => by rw [be_nAk M j v (by decide)], fun q _ => by rw [be_nAk M j v (by decide)]⟩
theorem be_Mf44 (e : Nat) (M : MS) (j : Nat) (v : Int32) : be_Mf e M (nSA M 44 j v) :=
  ⟨rfl, rfl, fun k hk => be_nAk M j v (by omega), fun q _ => by rw [be_nAk M j v (by decide)], fun q _ => by rw [be_nAk M j v (by decide)]⟩
theorem be_Mf41 (e : Nat) (M : MS) (v : Int32) : be_Mf e M (nSA M 41 e v) :=
  ⟨rfl, rfl, fun k hk => be_nAk M e v (by omega), fun q hq => by rw [bs_nA, if_neg (fun z => hq z.2)], fun q _ => by rw [be_nAk M e v (by decide)]⟩
theorem be_Mf40 (e : Nat) (M : MS) {j : Nat} (v : Int32) (hj : j / 12 = e) : be_Mf e M (nSA M 40 j v) :=
  ⟨rfl, rfl, fun k hk => be_nAk M j v (by omega), fun q _ => by rw [be_nAk M j v (by decide)], fun q hq => by rw [bs_nA, if_neg (fun z => hq (by rw [z.2]; exact hj))]⟩
theorem be_off {e p : Nat} (he : e < 200) (hp : p < 12) : (12 : Int32) * nI e + nI p = nI (12 * e + p) ∧ inB (nI (12 * e + p)) 2400 = true ∧ (nI (12 * e + p)).toNatClampNeg = 12 * e + p :=
  ⟨by rw [show (12 : Int32) = nI 12 from rfl, pk_mul, nI_add], bs_inB (by omega) (by decide), bs_cl (by omega)⟩
/-- the places are copied, the blanks listed -/
theorem be_m_L4 {e N B : Nat} {D : Nat → Nat} (he : e < 200) (hN : be_ct B 12 = N) (h4 : N ≤ 4) : ∀ j n (M : MS), j ≤ 12 → j < n → (∀ r, r < 12 → nA M 38 (12 * e + (11 - r)) = nI (D r)) → (∀ r, r < 12 → nA M 39 (12 * e + (11 - r)) = if be_bl B r then 1 else 0) →
    ∃ M', m_X6_findFillings_L4 n M (nI e) (nI (N - be_ct B j)) (nI (12 - j)) = m_X6_findFillings_L62 bigN M' (nI e) (nI N) 1 0 ∧ be_Mf e M M' ∧ nA M' 41 = nA M 41 ∧ (∀ r, r < j → nA M' 43 (11 - r) = nI (D r)) ∧ (∀ p, p < 12 - j → nA M' 43 p = nA M 43 p) ∧
      (∀ r, r < j → be_bl B r = true → nA M' 44 (N - 1 - be_ct B r) = nI (11 - r)) ∧ ∀ q, q < N - be_ct B j → nA M' 44 q = nA M 44 q := by
  intro j
  induction j with
  | zero =>
    intro n M _ hn _ _
    obtain ⟨n, rfl⟩ : ∃ m, n = m + 1 := ⟨n - 1, by omega⟩
    refine ⟨M, ?_, be_Mf0 e M, rfl, fun r hr => by omega, fun _ _ => rfl, fun r hr => by omega, fun _ _ => rfl⟩
    rw [m_X6_findFillings_L4, if_pos (show (12 : Int32) ≤ nI (12 - 0) by decide)]
    rfl
  | succ j ih =>
    intro n M hj hn h38 h39
    obtain ⟨n, rfl⟩ : ∃ m, n = m + 1 := ⟨n - 1, by omega⟩
    have e12 : 12 - (j + 1) = 11 - j := by omega
    obtain ⟨o1, o2, o3⟩ := be_off (e := e) (p := 11 - j) he (by omega)
    have cj : be_ct B (j + 1) = be_ct B j + (if be_bl B j then 1 else 0) := rfl
    have cle : be_ct B (j + 1) ≤ N := by rw [← hN]; exact be_ct_mono hj
    have f39 : nA (nSA M 43 (11 - j) (nI (D j))) 39 (12 * e + (11 - j)) = if be_bl B j then 1 else 0 := by
      rw [be_nAk M _ _ (by decide)]
      exact h39 j (by omega)
    have stp : m_X6_findFillings_L4 (n + 1) M (nI e) (nI (N - be_ct B (j + 1))) (nI (12 - (j + 1))) = if be_bl B j then m_X6_findFillings_L4 n (nSA (nSA M 43 (11 - j) (nI (D j))) 44 (N - be_ct B (j + 1)) (nI (11 - j))) (nI e) (nI (N - be_ct B (j + 1) + 1)) (nI (12 - j)) else m_X6_findFillings_L4 n (nSA M 43 (11 - j) (nI (D j))) (nI e) (nI (N - be_ct B (j + 1))) (nI (12 - j)) := by
      rw [m_X6_findFillings_L4, if_neg (show ¬ (12 : Int32) ≤ nI (12 - (j + 1)) from nI_ge (b := 12) (by omega) (by decide)), e12, o1, bs_gd o2, o3, h38 j (by omega), bs_let, bs_gd (bs_inB (show 11 - j < 12 by omega) (by decide)), bs_let, bs_cl (by omega), bs_gd o2, f39, nI_1, show 11 - j + 1 = 12 - j by omega]
      cases q : be_bl B j
      · rfl
      · rw [q] at cj
        have cj : be_ct B (j + 1) = be_ct B j + 1 := cj
        rw [if_pos rfl, if_neg (show ¬ (1 : Int32) = 0 by decide), bs_gd (bs_inB (show N - be_ct B (j + 1) < 4 by omega) (by decide)), bs_let, bs_cl (by omega), nI_1, if_pos rfl]
    rw [stp]
    cases q : be_bl B j
    · rw [q] at cj
      have cj : be_ct B (j + 1) = be_ct B j := cj
      rw [if_neg (show ¬ false = true by decide), cj]
      obtain ⟨M', g1, g2, g3, g4, g5, g6, g7⟩ := ih n (nSA M 43 (11 - j) (nI (D j))) (by omega) (by omega) (by rw [be_nAk M _ _ (by decide)]; exact h38) (by rw [be_nAk M _ _ (by decide)]; exact h39)
      refine ⟨M', g1, be_MfT (be_Mf43 e M _ _) g2, g3.trans (be_nAk M _ _ (by decide)), ?_, ?_, ?_, ?_⟩
      · intro r hr
        by_cases c : r = j
        · subst c
          rw [g5 (11 - r) (by omega), bs_nA, if_pos ⟨rfl, rfl⟩]
        · exact g4 r (by omega)
      · intro p hp
        rw [g5 p (by omega), bs_nA, if_neg (fun z => by omega)]
      · intro r hr hb
        have : r ≠ j := by rintro rfl; rw [q] at hb; cases hb
        exact g6 r (by omega) hb
      · intro p hp
        rw [g7 p hp, be_nAk M _ _ (by decide)]
    · rw [q] at cj
      have cj : be_ct B (j + 1) = be_ct B j + 1 := cj
      rw [if_pos rfl, show N - be_ct B (j + 1) + 1 = N - be_ct B j by omega]
      have k38 : nA (nSA (nSA M 43 (11 - j) (nI (D j))) 44 (N - be_ct B (j + 1)) (nI (11 - j))) 38 = nA M 38 := (be_nAk _ _ _ (by decide)).trans (be_nAk M _ _ (by decide))
      have k39 : nA (nSA (nSA M 43 (11 - j) (nI (D j))) 44 (N - be_ct B (j + 1)) (nI (11 - j))) 39 = nA M 39 := (be_nAk _ _ _ (by decide)).trans (be_nAk M _ _ (by decide))
      have k41 : nA (nSA (nSA M 43 (11 - j) (nI (D j))) 44 (N - be_ct B (j + 1)) (nI (11 - j))) 41 = nA M 41 := (be_nAk _ _ _ (by decide)).trans (be_nAk M _ _ (by decide))
      obtain ⟨M', g1, g2, g3, g4, g5, g6, g7⟩ := ih n (nSA (nSA M 43 (11 - j) (nI (D j))) 44 (N - be_ct B (j + 1)) (nI (11 - j))) (by omega) (by omega) (by rw [k38]; exact h38) (by rw [k39]; exact h39)
      refine ⟨M', g1, be_MfT (be_MfT (be_Mf43 e M _ _) (be_Mf44 e _ _ _)) g2, g3.trans k41, ?_, ?_, ?_, ?_⟩
      · intro r hr
        by_cases c : r = j
        · subst c
          rw [g5 (11 - r) (by omega), be_nAk _ _ _ (by decide), bs_nA, if_pos ⟨rfl, rfl⟩]
        · exact g4 r (by omega)
      · intro p hp
        rw [g5 p (by omega), be_nAk _ _ _ (by decide), bs_nA, if_neg (fun z => by omega)]
      · intro r hr hb
        by_cases c : r = j
        · subst c
          rw [g7 _ (by omega), bs_nA, if_pos ⟨rfl, by omega⟩]
        · exact g6 r (by omega) hb
      · intro p hp
        rw [g7 p (by omega), bs_nA, if_neg (fun z => by omega), be_nAk M _ _ (by decide)]
theorem be_m_L62 {N : Nat} (h4 : N ≤ 4) (i1 : Int32) (M : MS) : ∀ j n i, i + j = N → j < n → m_X6_findFillings_L62 n M i1 (nI N) (nI (10 ^ i)) (nI i) = m_X6_findFillings_L82 bigN M i1 (nI N) (nI (10 ^ N)) 0 := by
  intro j
  induction j with
  | zero =>
    intro n i hi hn
    obtain ⟨n, rfl⟩ : ∃ m, n = m + 1 := ⟨n - 1, by omega⟩
    rw [m_X6_findFillings_L62, if_pos (nI_le (by omega) (by omega)), show i = N by omega]
  | succ j ih =>
    intro n i hi hn
    obtain ⟨n, rfl⟩ : ∃ m, n = m + 1 := ⟨n - 1, by omega⟩
    rw [m_X6_findFillings_L62, if_neg (nI_ge (by omega) (by omega)), bs_let, show nI (10 ^ i) * (10 : Int32) = nI (10 ^ i * 10) from pk_mul _ 10, ← Nat.pow_succ, nI_1]
    exact ih n (i + 1) (by omega) (by omega)
/-- a number read from the places -/
theorem be_m_num {M : MS} {g : Nat → Nat} (hg : ∀ r, r < 12 → nA M 43 (11 - r) = nI (g r)) {hi : Nat} (hh : hi ≤ 12) : ∀ j n acc, j ≤ hi → j < n → m_X6_numberAt_L5 M n (nI hi) (nI acc) (nI (hi - j)) = some (nI (acc * 10 ^ j + be_N (fun r => g (12 - hi + r)) j)) := by
  intro j
  induction j with
  | zero =>
    intro n acc _ hn
    obtain ⟨n, rfl⟩ : ∃ m, n = m + 1 := ⟨n - 1, by omega⟩
    rw [m_X6_numberAt_L5, if_pos (nI_le (by omega) (by omega)), Nat.pow_zero, Nat.mul_one]
    rfl
  | succ j ih =>
    intro n acc hj hn
    obtain ⟨n, rfl⟩ : ∃ m, n = m + 1 := ⟨n - 1, by omega⟩
    have e := hg (12 - hi + j) (by omega)
    rw [show 11 - (12 - hi + j) = hi - (j + 1) by omega] at e
    rw [m_X6_numberAt_L5, if_neg (nI_ge (by omega) (by omega)), bs_gd (bs_inB (by omega) (by decide)), bs_cl (by omega), e, show (10 : Int32) * nI acc = nI (10 * acc) from pk_mul 10 acc, nI_add, bs_let, nI_1, show hi - (j + 1) + 1 = hi - j by omega, ih n _ (by omega) (by omega)]
    congr 2
    show _ = acc * 10 ^ (j + 1) + (be_N (fun r => g (12 - hi + r)) j + g (12 - hi + j) * 10 ^ j)
    rw [Nat.add_mul, Nat.pow_succ, Nat.mul_comm 10 acc, Nat.mul_assoc, Nat.mul_comm 10 (10 ^ j)]
    omega
theorem be_m_true (t a b c : Int32) : m_X6_isTrue t a b c = some (if be_opI t a b = c then 1 else 0) := by
  unfold m_X6_isTrue be_opI
  by_cases c0 : t = 0
  · rw [if_pos c0, if_pos c0]
    split <;> rfl
  · rw [if_neg c0, if_neg c0]
    by_cases c1 : t = 1
    · rw [if_pos c1, if_pos c1]
      split <;> rfl
    · rw [if_neg c1, if_neg c1]
      split <;> rfl
theorem be_ct_ex {B k : Nat} : ∀ n, k < be_ct B n → ∃ r, r < n ∧ be_bl B r = true ∧ be_ct B r = k
  | 0, h => absurd h (Nat.not_lt_zero _)
  | n + 1, h => by
    have e : be_ct B (n + 1) = be_ct B n + (if be_bl B n then 1 else 0) := rfl
    by_cases c : k < be_ct B n
    · obtain ⟨r, a, b, d⟩ := be_ct_ex n c
      exact ⟨r, by omega, b, d⟩
    · cases q : be_bl B n
      · rw [q] at e
        have e : be_ct B (n + 1) = be_ct B n := e
        omega
      · rw [q] at e
        have e : be_ct B (n + 1) = be_ct B n + 1 := e
        exact ⟨n, by omega, q, by omega⟩
/-- how things stand behind so many ways -/
def be_I (e N B : Nat) (D : Nat → Nat) (t : Int32) (M : MS) (w : Nat) : Prop :=
  (∀ r, r < 12 → be_bl B r = true → nA M 44 (N - 1 - be_ct B r) = nI (11 - r)) ∧ (∀ r, r < 12 → be_bl B r = false → nA M 43 (11 - r) = nI (D r)) ∧ nA M 37 e = t ∧
  nA M 41 e = nI (be_run (be_ok2 B D t) w).1 ∧ (0 < (be_run (be_ok2 B D t) w).1 → ∀ r, r < 12 → nA M 40 (12 * e + (11 - r)) = nI (be_T B D (be_run (be_ok2 B D t) w).2 r))
section BeFind
variable {e N B : Nat} {D : Nat → Nat} {t : Int32}
/-- the blanks get the way's digits -/
theorem be_m_L97 (hN : be_ct B 12 = N) (h4 : N ≤ 4) (k82 : MS → Int32 → Int32 → Int32 → Int32 → Option MS) (i1 i3 : Int32) {w : Nat} (hw : w < 100000) : ∀ j n (M : MS), j ≤ N → j < n → (∀ r, r < 12 → be_bl B r = true → nA M 44 (N - 1 - be_ct B r) = nI (11 - r)) → (∀ r, r < 12 → be_bl B r = false → nA M 43 (11 - r) = nI (D r)) → (∀ r, r < 12 → be_bl B r = true → be_ct B r < N - j → nA M 43 (11 - r) = nI (be_T B D w r)) →
    ∃ M' n', m_X6_findFillings_L97 k82 n M i1 (nI N) i3 (nI w) (nI (w / 10 ^ (N - j))) (nI j + (-1)) = m_X6_findFillings_L97 k82 (n' + 1) M' i1 (nI N) i3 (nI w) (nI (w / 10 ^ N)) (nI 0 + (-1)) ∧ (∀ k, k ≠ 43 → nA M' k = nA M k) ∧ nF M' = nF M ∧ nP M' = nP M ∧ ∀ r, r < 12 → nA M' 43 (11 - r) = nI (be_T B D w r) := by
  intro j
  induction j with
  | zero =>
    intro n M _ hn h44 h43 hT
    obtain ⟨n, rfl⟩ : ∃ m, n = m + 1 := ⟨n - 1, by omega⟩
    refine ⟨M, n, rfl, fun _ _ => rfl, rfl, rfl, ?_⟩
    intro r hr
    cases q : be_bl B r
    · rw [h43 r hr q]
      unfold be_T
      rw [q]
      rfl
    · refine hT r hr q ?_
      have := be_ct_bl q hr
      omega
  | succ j ih =>
    intro n M hj hn h44 h43 hT
    obtain ⟨n, rfl⟩ : ∃ m, n = m + 1 := ⟨n - 1, by omega⟩
    obtain ⟨r0, q1, q2, q3⟩ := be_ct_ex (B := B) (k := N - (j + 1)) 12 (by omega)
    have a44 := h44 r0 q1 q2
    rw [q3, show N - 1 - (N - (j + 1)) = j by omega] at a44
    have hlt : w / 10 ^ (N - (j + 1)) < 2 ^ 31 := Nat.lt_of_le_of_lt (Nat.div_le_self _ _) (by omega)
    have e2 : w / 10 ^ (N - (j + 1)) / 10 = w / 10 ^ (N - j) := by
      rw [Nat.div_div_eq_div_mul, ← Nat.pow_succ]
      congr 2
      omega
    obtain ⟨M', n', g1, g2, g3, g4, g5⟩ := ih n (nSA M 43 (11 - r0) (nI (w / 10 ^ (N - (j + 1)) % 10))) (by omega) (by omega) (by rw [be_nAk M _ _ (by decide)]; exact h44) (by
      intro r hr hb
      have : r ≠ r0 := by rintro rfl; rw [q2] at hb; cases hb
      rw [bs_nA, if_neg (fun z => by omega)]
      exact h43 r hr hb) (by
      intro r hr hb hc
      rw [bs_nA]
      by_cases c : r = r0
      · subst c
        rw [if_pos ⟨rfl, rfl⟩]
        unfold be_T
        rw [hb, if_pos rfl, q3]
      · rw [if_neg (fun z => by omega)]
        refine hT r hr hb ?_
        have : be_ct B r ≠ be_ct B r0 := by
          intro z
          by_cases l : r < r0
          · have := be_ct_bl hb l
            omega
          · have := be_ct_bl q2 (show r0 < r by omega)
            omega
        omega)
    refine ⟨M', n', ?_, fun k hk => (g2 k hk).trans (be_nAk M _ _ hk), g3, g4, g5⟩
    rw [← g1, m_X6_findFillings_L97, pk_m1, if_neg (nI_pos (by omega)), bs_gd (bs_inB (show j < 4 by omega) (by decide)), bs_lit 10, pk_rem hlt (by decide) (by decide), pk_div hlt (by decide) (by decide), bs_let, bs_cl (by omega), a44, bs_gd (bs_inB (show 11 - r0 < 12 by omega) (by decide)), bs_let, bs_let, bs_cl (by omega), e2]
/-- the places are kept -/
theorem be_m_L177 (he : e < 200) (k82 : MS → Int32 → Int32 → Int32 → Int32 → Option MS) (i2 i3 i4 : Int32) : ∀ j n (M : MS), j ≤ 12 → j < n → ∃ M', m_X6_findFillings_L177 k82 n M (nI e) i2 i3 i4 (nI (12 - j)) = m_X6_findFillings_J209 k82 M' (nI e) i2 i3 i4 ∧ be_Mf e M M' ∧ nA M' 41 = nA M 41 ∧ nA M' 43 = nA M 43 ∧ nA M' 44 = nA M 44 ∧ (∀ p, 12 - j ≤ p → p < 12 → nA M' 40 (12 * e + p) = nA M 43 p) ∧ ∀ p, p < 12 - j → nA M' 40 (12 * e + p) = nA M 40 (12 * e + p) := by
  intro j
  induction j with
  | zero =>
    intro n M _ hn
    obtain ⟨n, rfl⟩ : ∃ m, n = m + 1 := ⟨n - 1, by omega⟩
    refine ⟨M, ?_, be_Mf0 e M, rfl, rfl, rfl, fun p a b => by omega, fun _ _ => rfl⟩
    rw [m_X6_findFillings_L177, if_pos (show (12 : Int32) ≤ nI (12 - 0) by decide)]
  | succ j ih =>
    intro n M hj hn
    obtain ⟨n, rfl⟩ : ∃ m, n = m + 1 := ⟨n - 1, by omega⟩
    have e12 : 12 - (j + 1) = 11 - j := by omega
    obtain ⟨o1, o2, o3⟩ := be_off (e := e) (p := 11 - j) he (by omega)
    obtain ⟨M', g1, g2, g3, g4, g5, g6, g7⟩ := ih n (nSA M 40 (12 * e + (11 - j)) (nA M 43 (11 - j))) (by omega) (by omega)
    refine ⟨M', ?_, be_MfT (be_Mf40 e M _ (by omega)) g2, g3.trans (be_nAk M _ _ (by decide)), g4.trans (be_nAk M _ _ (by decide)), g5.trans (be_nAk M _ _ (by decide)), ?_, ?_⟩
    · rw [m_X6_findFillings_L177, if_neg (show ¬ (12 : Int32) ≤ nI (12 - (j + 1)) from nI_ge (b := 12) (by omega) (by decide)), e12, bs_gd (bs_inB (show 11 - j < 12 by omega) (by decide)), bs_let, bs_cl (by omega), o1, bs_gd o2, o3, bs_let, nI_1, show 11 - j + 1 = 12 - j by omega]
      exact g1
    · intro p p1 p2
      by_cases c : p = 11 - j
      · subst c
        rw [g7 (11 - j) (by omega), bs_nA, if_pos ⟨rfl, rfl⟩]
      · rw [g6 p (by omega) p2, be_nAk M _ _ (by decide)]
    · intro p hp
      rw [g7 p (by omega), bs_nA, if_neg (fun z => by omega)]
theorem be_m_way (he : e < 200) (hN : be_ct B 12 = N) (h4 : N ≤ 4) (h9 : ∀ r, D r ≤ 9) {w : Nat} (hw : w < 100000) (k82 : MS → Int32 → Int32 → Int32 → Int32 → Option MS) (i3 : Int32) {M : MS} (hI : be_I e N B D t M w) :
    ∃ M', m_X6_findFillings_L97 k82 bigN M (nI e) (nI N) i3 (nI w) (nI w) (nI N - 1) = k82 M' (nI e) (nI N) i3 (nI (w + 1)) ∧ be_Mf e M M' ∧ be_I e N B D t M' (w + 1) := by
  obtain ⟨h44, h43, h37, h41, h40⟩ := hI
  obtain ⟨M1, n', g1, g2, g3, g4, g5⟩ := be_m_L97 (D := D) hN h4 k82 (nI e) i3 hw N bigN M (Nat.le_refl _) (by unfold bigN; omega) h44 h43 (fun r _ _ c => by omega)
  rw [show w / 10 ^ (N - N) = w by rw [Nat.sub_self, Nat.pow_zero, Nat.div_one]] at g1
  have em : nI N - 1 = nI N + (-1) := Int32.sub_eq_add_neg _ _
  rw [em, g1, m_X6_findFillings_L97, if_pos bs_m11, bs_gd (bs_inB he (by decide)), bs_cl (by omega)]
  have n1 := be_m_num (M := M1) g5 (hi := 3) (by decide) 3 bigN 0 (by decide) (by decide)
  have n2 := be_m_num (M := M1) g5 (hi := 6) (by decide) 3 bigN 0 (by decide) (by decide)
  have n3 := be_m_num (M := M1) g5 (hi := 12) (by decide) 6 bigN 0 (by decide) (by decide)
  rw [Nat.zero_mul, Nat.zero_add] at n1 n2 n3
  have n1 : m_X6_numberAt M1 0 3 = some (nI (be_N (fun r => be_T B D w (9 + r)) 3)) := n1
  have n2 : m_X6_numberAt M1 3 6 = some (nI (be_N (fun r => be_T B D w (6 + r)) 3)) := n2
  have n3 : m_X6_numberAt M1 6 12 = some (nI (be_N (be_T B D w) 6)) := by
    have e : be_N (fun r => be_T B D w (12 - 12 + r)) 6 = be_N (be_T B D w) 6 := be_N_ext 6 (fun r _ => by rw [Nat.sub_self, Nat.zero_add])
    rw [e] at n3
    exact n3
  have a37 : nA M1 37 e = t := by rw [g2 37 (by decide)]; exact h37
  have f1 : be_Mf e M M1 := ⟨g3, g4, fun k hk => g2 k (by omega), fun j _ => by rw [g2 41 (by decide)], fun j _ => by rw [g2 40 (by decide)]⟩
  rw [n1, bs_bnd, n2, bs_bnd, n3, bs_bnd, a37, be_m_true, bs_bnd]
  have er : be_run (be_ok2 B D t) (w + 1) = if be_ok2 B D t w then ((be_run (be_ok2 B D t) w).1 + 1, if (be_run (be_ok2 B D t) w).1 = 0 then w else (be_run (be_ok2 B D t) w).2) else be_run (be_ok2 B D t) w := rfl
  by_cases c : be_opI t (nI (be_N (fun r => be_T B D w (9 + r)) 3)) (nI (be_N (fun r => be_T B D w (6 + r)) 3)) = nI (be_N (be_T B D w) 6)
  · have ok : be_ok2 B D t w = true := decide_eq_true c
    rw [if_pos ok] at er
    rw [if_pos c, if_neg bs_10, bs_gd (bs_inB he (by decide)), g2 41 (by decide), h41]
    have J : ∀ M2 : MS, nA M2 41 = nA M 41 → m_X6_findFillings_J209 k82 M2 (nI e) (nI N) i3 (nI w) = k82 (nSA M2 41 e (nI ((be_run (be_ok2 B D t) w).1 + 1))) (nI e) (nI N) i3 (nI (w + 1)) := by
      intro M2 h2
      unfold m_X6_findFillings_J209
      rw [bs_gd (bs_inB he (by decide)), bs_cl (by omega), h2, h41, nI_1, bs_let, bs_gd (bs_inB he (by decide)), bs_let, nI_1]
    have le := be_run_le (be_ok2 B D t) w
    by_cases d : (be_run (be_ok2 B D t) w).1 = 0
    · obtain ⟨M2, q1, q2, q3, q4, q5, q6, q7⟩ := be_m_L177 (e := e) he k82 (nI N) i3 (nI w) 12 bigN M1 (Nat.le_refl _) (by decide)
      have q1 : m_X6_findFillings_L177 k82 bigN M1 (nI e) (nI N) i3 (nI w) 0 = m_X6_findFillings_J209 k82 M2 (nI e) (nI N) i3 (nI w) := q1
      rw [if_pos (show nI (be_run (be_ok2 B D t) w).1 = 0 by rw [d]; rfl), q1, J M2 (q3.trans (g2 41 (by decide)))]
      refine ⟨_, rfl, be_MfT (be_MfT f1 q2) (be_Mf41 e M2 _), ?_, ?_, ?_, ?_, ?_⟩
      · rw [be_nAk M2 _ _ (by decide), q5, g2 44 (by decide)]; exact h44
      · intro r hr hb
        rw [be_nAk M2 _ _ (by decide), q4, g5 r hr]
        unfold be_T
        rw [hb]
        rfl
      · rw [be_nAk M2 _ _ (by decide), q2.2.2.1 37 (by decide)]; exact a37
      · rw [bs_nA, if_pos ⟨rfl, rfl⟩, er]
      · intro _ r hr
        rw [be_nAk M2 _ _ (by decide), q6 (11 - r) (by omega) (by omega), g5 r hr, er, if_pos d]
    · rw [if_neg (nI_ne0 (by omega) (by omega)), J M1 (g2 41 (by decide))]
      refine ⟨_, rfl, be_MfT f1 (be_Mf41 e M1 _), ?_, ?_, ?_, ?_, ?_⟩
      · rw [be_nAk M1 _ _ (by decide), g2 44 (by decide)]; exact h44
      · intro r hr hb
        rw [be_nAk M1 _ _ (by decide), g5 r hr]
        unfold be_T
        rw [hb]
        rfl
      · rw [be_nAk M1 _ _ (by decide)]; exact a37
      · rw [bs_nA, if_pos ⟨rfl, rfl⟩, er]
      · intro _ r hr
        rw [be_nAk M1 _ _ (by decide), g2 40 (by decide), h40 (by omega) r hr, er, if_neg d]
  · have ok : ¬ be_ok2 B D t w = true := fun q => c (of_decide_eq_true q)
    rw [if_neg ok] at er
    rw [if_neg c, if_pos rfl, nI_1]
    refine ⟨M1, rfl, f1, ?_, ?_, a37, ?_, ?_⟩
    · rw [g2 44 (by decide)]; exact h44
    · intro r hr hb
      rw [g5 r hr]
      unfold be_T
      rw [hb]
      rfl
    · rw [g2 41 (by decide), er]; exact h41
    · rw [g2 40 (by decide), er]; exact h40
theorem be_m_L82 (he : e < 200) (hN : be_ct B 12 = N) (h4 : N ≤ 4) (h9 : ∀ r, D r ≤ 9) : ∀ j n w (M : MS), w + j = 10 ^ N → j < n → be_I e N B D t M w → ∃ M', m_X6_findFillings_L82 n M (nI e) (nI N) (nI (10 ^ N)) (nI w) = some M' ∧ be_Mf e M M' ∧ be_I e N B D t M' (10 ^ N) := by
  have hP : 10 ^ N ≤ 10 ^ 4 := Nat.pow_le_pow_right (by decide) h4
  intro j
  induction j with
  | zero =>
    intro n w M hw hn hI
    obtain ⟨n, rfl⟩ : ∃ m, n = m + 1 := ⟨n - 1, by omega⟩
    refine ⟨M, ?_, be_Mf0 e M, by rw [← show w = 10 ^ N by omega]; exact hI⟩
    rw [m_X6_findFillings_L82, if_pos (nI_le (by omega) (by omega))]
  | succ j ih =>
    intro n w M hw hn hI
    obtain ⟨n, rfl⟩ : ∃ m, n = m + 1 := ⟨n - 1, by omega⟩
    obtain ⟨M1, g1, g2, g3⟩ := be_m_way he hN h4 h9 (show w < 100000 by omega) (m_X6_findFillings_L82 n) (nI (10 ^ N)) hI
    obtain ⟨M', k1, k2, k3⟩ := ih n (w + 1) M1 (by omega) (by omega) g3
    refine ⟨M', ?_, be_MfT g2 k2, k3⟩
    rw [m_X6_findFillings_L82, if_neg (nI_ge (by omega) (by omega)), bs_let, g1, k1]
theorem be_m_find (he : e < 200) (hN : be_ct B 12 = N) (h4 : N ≤ 4) (h9 : ∀ r, D r ≤ 9) {M : MS} (h38 : ∀ r, r < 12 → nA M 38 (12 * e + (11 - r)) = nI (D r)) (h39 : ∀ r, r < 12 → nA M 39 (12 * e + (11 - r)) = if be_bl B r then 1 else 0) (h37 : nA M 37 e = t) (h41 : nA M 41 e = 0) :
    ∃ M', m_X6_findFillings M (nI e) = some M' ∧ be_Mf e M M' ∧ nA M' 41 e = nI (be_R B D t).1 ∧ (0 < (be_R B D t).1 → ∀ r, r < 12 → nA M' 40 (12 * e + (11 - r)) = nI (be_T B D (be_R B D t).2 r)) := by
  have hP : 10 ^ N ≤ 10 ^ 4 := Nat.pow_le_pow_right (by decide) h4
  obtain ⟨M1, g1, g2, g3, g4, g5, g6, g7⟩ := be_m_L4 (D := D) he hN h4 12 bigN M (Nat.le_refl _) (by decide) h38 h39
  rw [hN, Nat.sub_self] at g1
  have g1 : m_X6_findFillings M (nI e) = m_X6_findFillings_L62 bigN M1 (nI e) (nI N) 1 0 := g1
  have k := be_m_L62 h4 (nI e) M1 N bigN 0 (by omega) (by unfold bigN; omega)
  have k : m_X6_findFillings_L62 bigN M1 (nI e) (nI N) 1 0 = m_X6_findFillings_L82 bigN M1 (nI e) (nI N) (nI (10 ^ N)) 0 := k
  have hI : be_I e N B D t M1 0 := ⟨g6, fun r hr _ => g4 r hr, by rw [g2.2.2.1 37 (by decide)]; exact h37, by rw [g3]; exact h41, fun q => absurd q (Nat.lt_irrefl 0)⟩
  obtain ⟨M', q1, q2, q3⟩ := be_m_L82 he hN h4 h9 (10 ^ N) bigN 0 M1 (by omega) (by unfold bigN; omega) hI
  have q1 : m_X6_findFillings_L82 bigN M1 (nI e) (nI N) (nI (10 ^ N)) 0 = some M' := q1
  refine ⟨M', by rw [g1, k, q1], be_MfT g2 q2, ?_, ?_⟩
  · unfold be_R
    rw [hN]
    exact q3.2.2.2.1
  · unfold be_R
    rw [hN]
    exact q3.2.2.2.2
end BeFind
