/-! a new exercise in the reference -/
def be_Mg (e : Nat) (M M2 : MS) : Prop := (∀ k, k ≠ 42 → nF M2 k = nF M k) ∧ nP M2 = nP M ∧ (∀ k, k < 37 → nA M2 k = nA M k) ∧ (∀ j, j ≠ e → nA M2 37 j = nA M 37 j ∧ nA M2 41 j = nA M 41 j) ∧ ∀ j, j / 12 ≠ e → nA M2 38 j = nA M 38 j ∧ nA M2 39 j = nA M 39 j ∧ nA M2 40 j = nA M 40 j
theorem be_Mg0 (e : Nat) (M : MS) : be_Mg e M M := ⟨fun _ _ => rfl, rfl, fun _ _ => rfl, fun _ _ => ⟨rfl, rfl⟩, fun _ _ => ⟨rfl, rfl, rfl⟩⟩
theorem be_MgT {e : Nat} {M M2 M3 : MS} (h : be_Mg e M M2) (k : be_Mg e M2 M3) : be_Mg e M M3 := by
  obtain ⟨a1, a2, a3, a4, a5⟩ := h
  obtain ⟨b1, b2, b3, b4, b5⟩ := k
  refine ⟨fun k hk => (b1 k hk).trans (a1 k hk), b2.trans a2, fun k hk => (b3 k hk).trans (a3 k hk), fun j hj => ?_, fun j hj => ?_⟩
  · exact ⟨(b4 j hj).1.trans (a4 j hj).1, (b4 j hj).2.trans (a4 j hj).2⟩
  · exact ⟨(b5 j hj).1.trans (a5 j hj).1, (b5 j hj).2.1.trans (a5 j hj).2.1, (b5 j hj).2.2.trans (a5 j hj).2.2⟩
theorem be_Mg_f {e : Nat} {M M2 : MS} (h : be_Mf e M M2) : be_Mg e M M2 := by
  obtain ⟨a1, a2, a3, a4, a5⟩ := h
  exact ⟨fun k _ => by rw [a1], a2, fun k hk => a3 k (by omega), fun j hj => ⟨by rw [a3 37 (by decide)], a4 j hj⟩, fun j hj => ⟨by rw [a3 38 (by decide)], by rw [a3 39 (by decide)], a5 j hj⟩⟩
theorem be_Mg_F (e : Nat) (M : MS) (v : Int32) : be_Mg e M (nSF M 42 v) := ⟨fun k hk => by show up1 M.2.1 42 v k = M.2.1 k; unfold up1; rw [if_neg hk], rfl, fun _ _ => rfl, fun _ _ => ⟨rfl, rfl⟩, fun _ _ => ⟨rfl, rfl, rfl⟩⟩
theorem be_Mg_37 (e : Nat) (M : MS) (v : Int32) : be_Mg e M (nSA M 37 e v) :=
  ⟨fun _ _ => rfl, rfl, fun k hk => be_nAk M e v (by omega), fun j hj => ⟨by rw [bs_nA, if_neg (fun z => hj z.2)], by rw [be_nAk M e v (by decide)]⟩, fun j _ => ⟨by rw [be_nAk M e v (by decide)], by rw [be_nAk M e v (by decide)], by rw [be_nAk M e v (by decide)]⟩⟩
theorem be_Mg_39 (e : Nat) (M : MS) {j : Nat} (v : Int32) (hj : j / 12 = e) : be_Mg e M (nSA M 39 j v) :=
  ⟨fun _ _ => rfl, rfl, fun k hk => be_nAk M j v (by omega), fun q _ => ⟨by rw [be_nAk M j v (by decide)], by rw [be_nAk M j v (by decide)]⟩, fun q hq => ⟨by rw [be_nAk M j v (by decide)], by rw [bs_nA, if_neg (fun z => hq (by rw [z.2]; exact hj))], by rw [be_nAk M j v (by decide)]⟩⟩
theorem be_m_L8 {off : Nat} (ho : off < 2400) : ∀ j n (M : MS) v, v < 2 ^ 31 → off + j ≤ 2400 → j < n → ∃ M', m_X6_writeNumber_L8 n M (nI off) (nI v) (nI j + (-1)) = some M' ∧ nF M' = nF M ∧ nP M' = nP M ∧ (∀ k, k ≠ 38 → nA M' k = nA M k) ∧ (∀ q, q < j → nA M' 38 (off + (j - 1 - q)) = nI (v / 10 ^ q % 10)) ∧ ∀ p, p < off ∨ off + j ≤ p → nA M' 38 p = nA M 38 p := by
  intro j
  induction j with
  | zero =>
    intro n M v _ _ hn
    obtain ⟨n, rfl⟩ : ∃ m, n = m + 1 := ⟨n - 1, by omega⟩
    refine ⟨M, ?_, rfl, rfl, fun _ _ => rfl, fun q hq => by omega, fun _ _ => rfl⟩
    rw [m_X6_writeNumber_L8, if_pos bs_m11]
  | succ j ih =>
    intro n M v hv hj hn
    obtain ⟨n, rfl⟩ : ∃ m, n = m + 1 := ⟨n - 1, by omega⟩
    obtain ⟨M', g1, g2, g3, g4, g5, g6⟩ := ih n (nSA M 38 (off + j) (nI (v % 10))) (v / 10) (Nat.lt_of_le_of_lt (Nat.div_le_self _ _) hv) (by omega) (by omega)
    refine ⟨M', ?_, g2, g3, fun k hk => (g4 k hk).trans (be_nAk M _ _ hk), ?_, ?_⟩
    · rw [m_X6_writeNumber_L8, pk_m1, if_neg (nI_pos (by omega)), bs_lit 10, pk_rem hv (by decide) (by decide), pk_div hv (by decide) (by decide), bs_let, nI_add, bs_gd (bs_inB (by omega) (by decide)), bs_let, bs_let, bs_cl (by omega)]
      exact g1
    · intro q hq
      by_cases c : q = 0
      · subst c
        rw [g6 _ (by omega), bs_nA, if_pos ⟨rfl, by omega⟩, Nat.pow_zero, Nat.div_one]
      · have := g5 (q - 1) (by omega)
        rw [Nat.div_div_eq_div_mul, ← Nat.pow_succ', show (q - 1).succ = q by omega, show j - 1 - (q - 1) = j + 1 - 1 - q by omega] at this
        exact this
    · intro p hp
      rw [g6 p (by omega), bs_nA, if_neg (fun z => by omega)]
theorem be_m_wn {off len v : Nat} (M : MS) (ho : off < 2400) (hv : v < 2 ^ 31) (hl : off + len ≤ 2400) : ∃ M', m_X6_writeNumber M (nI off) (nI len) (nI v) = some M' ∧ nF M' = nF M ∧ nP M' = nP M ∧ (∀ k, k ≠ 38 → nA M' k = nA M k) ∧ (∀ q, q < len → nA M' 38 (off + (len - 1 - q)) = nI (v / 10 ^ q % 10)) ∧ ∀ p, p < off ∨ off + len ≤ p → nA M' 38 p = nA M 38 p := by
  have := be_m_L8 ho len bigN M v hv hl (by unfold bigN; omega)
  unfold m_X6_writeNumber
  rw [bs_let, Int32.sub_eq_add_neg]
  exact this
theorem be_Mg_38 {e off len : Nat} {M M2 : MS} (h1 : nF M2 = nF M) (h2 : nP M2 = nP M) (h3 : ∀ k, k ≠ 38 → nA M2 k = nA M k) (h4 : ∀ p, p < off ∨ off + len ≤ p → nA M2 38 p = nA M 38 p) (h5 : 12 * e ≤ off) (h6 : off + len ≤ 12 * e + 12) : be_Mg e M M2 :=
  ⟨fun k _ => by rw [h1], h2, fun k hk => h3 k (by omega), fun j _ => ⟨by rw [h3 37 (by decide)], by rw [h3 41 (by decide)]⟩, fun j hj => ⟨h4 j (by omega), by rw [h3 39 (by decide)], by rw [h3 40 (by decide)]⟩⟩
section BeMake
variable {e : Nat}
theorem be_m_L214 (he : e < 200) {B : Nat} {M : MS} (h39 : ∀ p, p < 12 → nA M 39 (12 * e + p) = if B.testBit p then 1 else 0) (K : MS → Int32 → Int32 → Int32 → Option (Int32 × MS)) (i6 i7 : Int32) : ∀ j n p, p < 12 → j < n → B.testBit (be_fp j B p) = false → m_X6_exercise_L214 K n M (nI e) i6 i7 (nI p) = K (nSA M 39 (12 * e + be_fp j B p) 1) (nI e) i6 (i7 + 1) := by
  have stp : ∀ n p, p < 12 → m_X6_exercise_L214 K (n + 1) M (nI e) i6 i7 (nI p) = if B.testBit p then m_X6_exercise_L214 K n M (nI e) i6 i7 (nI ((p + 1) % 12)) else K (nSA M 39 (12 * e + p) 1) (nI e) i6 (i7 + 1) := by
    intro n p hp
    obtain ⟨o1, o2, o3⟩ := be_off (e := e) he hp
    rw [m_X6_exercise_L214, o1, bs_gd o2, bs_gd o2, o3, h39 p hp, nI_1, show (12 : Int32) = nI 12 from rfl, pk_rem (by omega) (by decide) (by decide), bs_let, bs_let]
    cases B.testBit p
    · rfl
    · rfl
  intro j
  induction j with
  | zero =>
    intro n p hp hn hf
    obtain ⟨n, rfl⟩ : ∃ m, n = m + 1 := ⟨n - 1, by omega⟩
    have hf : B.testBit p = false := hf
    rw [stp n p hp, hf]
    rfl
  | succ j ih =>
    intro n p hp hn hf
    obtain ⟨n, rfl⟩ : ∃ m, n = m + 1 := ⟨n - 1, by omega⟩
    have e1 : be_fp (j + 1) B p = if B.testBit p then be_fp j B ((p + 1) % 12) else p := rfl
    rw [e1] at hf ⊢
    rw [stp n p hp]
    by_cases c : B.testBit p = true
    · rw [if_pos c] at hf ⊢
      rw [if_pos c]
      exact ih n _ (Nat.mod_lt _ (by decide)) (by omega) hf
    · rw [if_neg c, if_neg c]
/-- what is done when the blanks are there -/
def be_F2 (e : Nat) (M : MS) : Option (Int32 × MS) := bnd (m_X6_findFillings (nSA M 41 e 0) (nI e)) fun S7 => some (nI e, nSF S7 36 (nF S7 36 + 1))
theorem be_m_L198 (he : e < 200) {N : Nat} (hN : N ≤ 4) : ∀ j n i (M : MS) (s : Int32) (B : Nat), i + j = N → j < n → nF M 42 = s → B < 4096 → be_ct B 12 = i → (∀ p, p < 12 → nA M 39 (12 * e + p) = if B.testBit p then 1 else 0) →
    ∃ M', m_X6_exercise_L198 n M (nI e) (nI N) (nI i) = be_F2 e M' ∧ be_Mg e M M' ∧ (∀ k, k ≠ 39 → nA M' k = nA M k) ∧ be_ct (be_bk j s B) 12 = N ∧ ∀ p, p < 12 → nA M' 39 (12 * e + p) = if (be_bk j s B).testBit p then 1 else 0 := by
  intro j
  induction j with
  | zero =>
    intro n i M s B hi hn h42 hB hct h39
    obtain ⟨n, rfl⟩ : ∃ m, n = m + 1 := ⟨n - 1, by omega⟩
    refine ⟨M, ?_, be_Mg0 e M, fun _ _ => rfl, hct.trans (by omega), h39⟩
    rw [m_X6_exercise_L198, if_pos (nI_le (by omega) (by omega)), bs_gd (bs_inB he (by decide)), bs_let, bs_cl (by omega)]
    rfl
  | succ j ih =>
    intro n i M s B hi hn h42 hB hct h39
    obtain ⟨n, rfl⟩ : ∃ m, n = m + 1 := ⟨n - 1, by omega⟩
    have hv := be_v_lt (be_nx s)
    have hp : be_v (be_nx s) % 12 < 12 := Nat.mod_lt _ (by decide)
    have hq := be_fp_lt 12 B _ hp
    have hf := be_free (B := B) hp (by omega)
    have l := be_m_L214 he (B := B) (M := nSF M 42 (be_nx s)) h39 (m_X6_exercise_L198 n) (nI N) (nI i) 12 bigN _ hp (by decide) hf
    generalize hQ : be_fp 12 B (be_v (be_nx s) % 12) = Q at *
    obtain ⟨M', g1, g2, g3, g4, g5⟩ := ih n (i + 1) (nSA (nSF M 42 (be_nx s)) 39 (12 * e + Q) 1) (be_nx s) (B ||| 2 ^ Q) (by omega) (by omega) (bs_nF_eq M 42 (be_nx s)) (be_or_lt hB hq) (by rw [be_ct_or hq hf, hct]) (by
      intro p hp2
      rw [bs_nA, Nat.testBit_or, Nat.testBit_two_pow]
      by_cases c : p = Q
      · rw [if_pos ⟨rfl, by omega⟩, decide_eq_true c.symm, Bool.or_true]
        rfl
      · rw [if_neg (fun z => c (by omega)), decide_eq_false (fun z => c z.symm), Bool.or_false]
        exact h39 p hp2)
    have ebk : be_bk (j + 1) s B = be_bk j (be_nx s) (B ||| 2 ^ Q) := by
      show be_bk j (be_nx s) (B ||| 2 ^ be_fp 12 B (be_v (be_nx s) % 12)) = _
      rw [hQ]
    rw [ebk]
    refine ⟨M', ?_, be_MgT (be_MgT (be_Mg_F e M _) (be_Mg_39 e _ _ (by omega))) g2, fun k hk => (g3 k hk).trans (be_nAk _ _ _ hk), g4, g5⟩
    rw [m_X6_exercise_L198, if_neg (nI_ge (by omega) (by omega)), be_m_draw, bs_bnd2, h42, show (12 : Int32) = nI 12 from rfl, pk_rem (by omega) (by decide) (by decide), bs_let, l, nI_1]
    exact g1
theorem be_m_L159 (he : e < 200) : ∀ j n (M : MS), j ≤ 12 → j < n → ∃ M', m_X6_exercise_L159 n M (nI e) (nI (12 - j)) = m_X6_exercise_L198 bigN (nSF M' 42 (be_nx (nF M 42))) (nI e) (nI (1 + be_v (be_nx (nF M 42)) % 4)) 0 ∧ be_Mg e M M' ∧ (∀ k, k ≠ 39 → nA M' k = nA M k) ∧ (∀ p, 12 - j ≤ p → p < 12 → nA M' 39 (12 * e + p) = 0) ∧ ∀ p, p < 12 - j → nA M' 39 (12 * e + p) = nA M 39 (12 * e + p) := by
  intro j
  induction j with
  | zero =>
    intro n M _ hn
    obtain ⟨n, rfl⟩ : ∃ m, n = m + 1 := ⟨n - 1, by omega⟩
    have hv := be_v_lt (be_nx (nF M 42))
    refine ⟨M, ?_, be_Mg0 e M, fun _ _ => rfl, fun p a b => by omega, fun _ _ => rfl⟩
    rw [m_X6_exercise_L159, if_pos (show (12 : Int32) ≤ nI (12 - 0) by decide), be_m_draw, bs_bnd2, show (4 : Int32) = nI 4 from rfl, pk_rem (by omega) (by decide) (by decide), bs_let, show (1 : Int32) + nI (be_v (be_nx (nF M 42)) % 4) = nI (1 + be_v (be_nx (nF M 42)) % 4) from nI_add 1 _]
  | succ j ih =>
    intro n M hj hn
    obtain ⟨n, rfl⟩ : ∃ m, n = m + 1 := ⟨n - 1, by omega⟩
    have e12 : 12 - (j + 1) = 11 - j := by omega
    obtain ⟨o1, o2, o3⟩ := be_off (e := e) (p := 11 - j) he (by omega)
    obtain ⟨M', g1, g2, g3, g4, g5⟩ := ih n (nSA M 39 (12 * e + (11 - j)) 0) (by omega) (by omega)
    refine ⟨M', ?_, be_MgT (be_Mg_39 e M _ (by omega)) g2, fun k hk => (g3 k hk).trans (be_nAk M _ _ hk), ?_, ?_⟩
    · rw [m_X6_exercise_L159, if_neg (show ¬ (12 : Int32) ≤ nI (12 - (j + 1)) from nI_ge (b := 12) (by omega) (by decide)), e12, o1, bs_gd o2, o3, bs_let, nI_1, show 11 - j + 1 = 12 - j by omega]
      exact g1
    · intro p p1 p2
      by_cases c : p = 11 - j
      · subst c
        rw [g5 (11 - j) (by omega), bs_nA, if_pos ⟨rfl, rfl⟩]
      · exact g4 p (by omega) p2
    · intro p hp
      rw [g5 p (by omega), bs_nA, if_neg (fun z => by omega)]
theorem be_m_J82 (he : e < 200) (M : MS) (t : Int32) {a b c : Nat} (ha : a < 1000) (hb : b < 1000) (hc : c < 1000000) (ho : be_opI t (nI a) (nI b) = nI c) :
    ∃ M', m_X6_exercise_J82 M t (nI e) (nI a) (nI b) = m_X6_exercise_L198 bigN (nSF M' 42 (be_nx (nF M 42))) (nI e) (nI (1 + be_v (be_nx (nF M 42)) % 4)) 0 ∧ be_Mg e M M' ∧ nA M' 37 e = t ∧ (∀ r, r < 12 → nA M' 38 (12 * e + (11 - r)) = nI (be_D a b c r)) ∧ ∀ p, p < 12 → nA M' 39 (12 * e + p) = 0 := by
  obtain ⟨M1, a1, a2, a3, a4, a5, a6⟩ := be_m_wn (off := 12 * e) (len := 3) (v := a) (nSA M 37 e t) (by omega) (by omega) (by omega)
  obtain ⟨M2, b1, b2, b3, b4, b5, b6⟩ := be_m_wn (off := 12 * e + 3) (len := 3) (v := b) M1 (by omega) (by omega) (by omega)
  obtain ⟨M3, c1, c2, c3, c4, c5, c6⟩ := be_m_wn (off := 12 * e + 6) (len := 6) (v := c) M2 (by omega) (by omega) (by omega)
  obtain ⟨M', d1, d2, d3, d4, d5⟩ := be_m_L159 he 12 bigN M3 (Nat.le_refl _) (by decide)
  have d1 : m_X6_exercise_L159 bigN M3 (nI e) 0 = m_X6_exercise_L198 bigN (nSF M' 42 (be_nx (nF M3 42))) (nI e) (nI (1 + be_v (be_nx (nF M3 42)) % 4)) 0 := d1
  have f42 : nF M3 42 = nF M 42 := by rw [c2, b2, a2]; rfl
  rw [f42] at d1
  have G : be_Mg e M M3 := be_MgT (be_MgT (be_MgT (be_Mg_37 e M t) (be_Mg_38 (off := 12 * e) (len := 3) a2 a3 a4 a6 (by omega) (by omega))) (be_Mg_38 (off := 12 * e + 3) (len := 3) b2 b3 b4 b6 (by omega) (by omega))) (be_Mg_38 (off := 12 * e + 6) (len := 6) c2 c3 c4 c6 (by omega) (by omega))
  refine ⟨M', ?_, be_MgT G d2, ?_, ?_, fun p hp => d4 p (by omega) hp⟩
  · rw [← d1]
    unfold m_X6_exercise_J82
    have o0 : (12 : Int32) * nI e = nI (12 * e) := pk_mul 12 e
    rw [bs_gd (bs_inB he (by decide)), bs_let, bs_cl (by omega), o0, show (3 : Int32) = nI 3 from rfl, a1, bs_bnd, nI_add, b1, bs_bnd, show (6 : Int32) = nI 6 from rfl, nI_add]
    unfold be_opI at ho
    by_cases t0 : t = 0
    · rw [if_pos t0] at ho
      rw [if_pos t0, ho, c1, bs_bnd]
    · rw [if_neg t0] at ho
      rw [if_neg t0]
      by_cases t1 : t = 1
      · rw [if_pos t1] at ho
        rw [if_pos t1, ho, c1, bs_bnd]
      · rw [if_neg t1] at ho
        rw [if_neg t1, ho, c1, bs_bnd]
  · rw [d3 37 (by decide), c4 37 (by decide), b4 37 (by decide), a4 37 (by decide), bs_nA, if_pos ⟨rfl, rfl⟩]
  · intro r hr
    rw [d3 38 (by decide)]
    unfold be_D
    by_cases k1 : r < 6
    · rw [if_pos k1]
      have := c5 r k1
      rw [show 12 * e + 6 + (6 - 1 - r) = 12 * e + (11 - r) by omega] at this
      exact this
    · rw [if_neg k1, c6 _ (by omega)]
      by_cases k2 : r < 9
      · rw [if_pos k2]
        have := b5 (r - 6) (by omega)
        rw [show 12 * e + 3 + (3 - 1 - (r - 6)) = 12 * e + (11 - r) by omega] at this
        exact this
      · rw [if_neg k2, b6 _ (by omega)]
        have := a5 (r - 9) (by omega)
        rw [show 12 * e + (3 - 1 - (r - 9)) = 12 * e + (11 - r) by omega] at this
        exact this
theorem be_m_ex {M : MS} {t : Int32} (s : Int32) (ht : m_X6_in t.toInt64 0 2 = some 1) (h36 : nF M 36 = nI e) (he : e < 200) :
    ∃ M', m_X6_exercise M t s = some (nI e, nSF M' 36 (nI (e + 1))) ∧ be_Mg e M M' ∧ nA M' 37 e = t ∧ (∀ r, r < 12 → nA M' 38 (12 * e + (11 - r)) = nI (be_D (be_a t s) (be_b t s) (be_c t s) r)) ∧ (∀ p, p < 12 → nA M' 39 (12 * e + p) = if (be_B s).testBit p then 1 else 0) ∧ nA M' 41 e = nI (be_R (be_B s) (be_D (be_a t s) (be_b t s) (be_c t s)) t).1 ∧
      (0 < (be_R (be_B s) (be_D (be_a t s) (be_b t s) (be_c t s)) t).1 → ∀ r, r < 12 → nA M' 40 (12 * e + (11 - r)) = nI (be_T (be_B s) (be_D (be_a t s) (be_b t s) (be_c t s)) (be_R (be_B s) (be_D (be_a t s) (be_b t s) (be_c t s)) t).2 r)) := by
  obtain ⟨ha, hb, hc, ho⟩ := be_abc t s
  have h1 : be_x1 s < 1000 := Nat.mod_lt _ (by decide)
  have h2 : be_x2 s < 1000 := Nat.mod_lt _ (by decide)
  let M2 := nSF (nSF (nSF M 42 s) 42 (be_nx s)) 42 (be_nx (be_nx s))
  have G2 : be_Mg e M M2 := be_MgT (be_MgT (be_Mg_F e M _) (be_Mg_F e _ _)) (be_Mg_F e _ _)
  have f2 : nF M2 42 = be_nx (be_nx s) := bs_nF_eq _ 42 _
  obtain ⟨M3, d1, d2, d3, d4, d5⟩ := be_m_J82 he M2 t ha hb hc ho
  rw [f2] at d1
  have d1 : m_X6_exercise_J82 M2 t (nI e) (nI (be_a t s)) (nI (be_b t s)) = m_X6_exercise_L198 bigN (nSF M3 42 (be_s3 s)) (nI e) (nI (be_n s)) (nI 0) := d1
  have n4 : be_n s ≤ 4 := by unfold be_n; omega
  obtain ⟨M4, g1, g2, g3, g4, g5⟩ := be_m_L198 he n4 (be_n s) bigN 0 (nSF M3 42 (be_s3 s)) (be_s3 s) 0 (by omega) (by unfold bigN; omega) (bs_nF_eq _ 42 _) (by decide) rfl (by
    intro p hp
    rw [Nat.zero_testBit]
    exact d5 p hp)
  have g4 : be_ct (be_B s) 12 = be_n s := g4
  have g5 : ∀ p, p < 12 → nA M4 39 (12 * e + p) = if (be_B s).testBit p then 1 else 0 := g5
  have a37 : nA M4 37 e = t := by rw [g3 37 (by decide)]; exact d3
  have a38 : ∀ r, r < 12 → nA M4 38 (12 * e + (11 - r)) = nI (be_D (be_a t s) (be_b t s) (be_c t s) r) := by rw [g3 38 (by decide)]; exact d4
  obtain ⟨M5, q1, q2, q3, q4⟩ := be_m_find (e := e) (N := be_n s) (B := be_B s) (D := be_D (be_a t s) (be_b t s) (be_c t s)) (t := t) he g4 n4 (be_D9 _ _ _) (M := nSA M4 41 e 0) (by rw [be_nAk M4 _ _ (by decide)]; exact a38) (by
    rw [be_nAk M4 _ _ (by decide)]
    intro r hr
    exact g5 (11 - r) (by omega)) (by rw [be_nAk M4 _ _ (by decide)]; exact a37) (by rw [bs_nA, if_pos ⟨rfl, rfl⟩])
  have G5 : be_Mg e M M5 := be_MgT (be_MgT (be_MgT (be_MgT (be_MgT G2 d2) (be_Mg_F e M3 _)) g2) (be_Mg_f (be_Mf41 e M4 0))) (be_Mg_f q2)
  refine ⟨M5, ?_, G5, ?_, ?_, ?_, q3, q4⟩
  · have f36 : nF M5 36 = nI e := by rw [G5.1 36 (by decide)]; exact h36
    have hv1 := be_v_lt (be_nx s)
    have hv2 := be_v_lt (be_nx (be_nx s))
    have fin : m_X6_exercise_J82 M2 t (nI e) (nI (be_a t s)) (nI (be_b t s)) = some (nI e, nSF M5 36 (nI (e + 1))) := by
      rw [d1, g1]
      unfold be_F2
      rw [q1, bs_bnd, f36, nI_1]
    unfold m_X6_exercise
    rw [ht, bs_bnd, if_neg bs_10, h36, if_neg (show ¬ nI e = 200 from fun q => by have := (nI_eq (b := 200) (by omega) (by decide)).mp q; omega), bs_let, bs_let, be_m_draw, bs_bnd2, bs_nF_eq, be_m_draw, bs_let, bs_bnd2, bs_nF_eq, bs_let, show (1000 : Int32) = nI 1000 from rfl, pk_rem (by omega) (by decide) (by decide), pk_rem (by omega) (by decide) (by decide)]
    show (if t = 1 then if nI (be_x2 s) ≤ nI (be_x1 s) then m_X6_exercise_J82 M2 t (nI e) (nI (be_x1 s)) (nI (be_x2 s)) else m_X6_exercise_J82 M2 t (nI e) (nI (be_x2 s)) (nI (be_x1 s)) else m_X6_exercise_J82 M2 t (nI e) (nI (be_x1 s)) (nI (be_x2 s))) = _
    rw [← fin]
    unfold be_a be_b
    by_cases c : t = 1
    · rw [if_pos c, if_pos c, if_pos c]
      by_cases d : be_x2 s ≤ be_x1 s
      · rw [if_pos (nI_le d (by omega)), show max (be_x1 s) (be_x2 s) = be_x1 s by omega, show min (be_x1 s) (be_x2 s) = be_x2 s by omega]
      · rw [if_neg (nI_ge (by omega) (by omega)), show max (be_x1 s) (be_x2 s) = be_x2 s by omega, show min (be_x1 s) (be_x2 s) = be_x1 s by omega]
    · rw [if_neg c, if_neg c, if_neg c]
  · rw [q2.2.2.1 37 (by decide), be_nAk M4 _ _ (by decide)]; exact a37
  · rw [q2.2.2.1 38 (by decide), be_nAk M4 _ _ (by decide)]; exact a38
  · rw [q2.2.2.1 39 (by decide), be_nAk M4 _ _ (by decide)]; exact g5
end BeMake
