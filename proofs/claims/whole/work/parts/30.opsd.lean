/-! size, told, exercises as they are told -/
theorem bs_sl : ∀ n, n < 32 → ((nI n &&& 31).toBitVec.smod 32).toNat = n := by decide +kernel
section BsOpsD
variable {x0 s0 : Nat} {Y : bs_Ly} {S S2 : Mem} {M M2 : MS}
theorem bs_m_sizeL (h : bs_Inv M) {f : Nat} (hf : f < bs_n M) (w : Int32) : ∀ d n i c, i + d = bs_m M f → d < n → m_X6_size_L15 M n (nI f) w (nI c) (nI i) = some (if w = 0 then nI (bs_m M f) else if w = 1 then nI (bs_k M f) else if w = 2 then nI (bs_b M f) else if w = 3 then nI (c + bs_rc M f d i) else if w = 4 then nI (bs_d M f) else -2)
  | d, 0, i, c, _, hn => absurd hn (Nat.not_lt_zero _)
  | 0, n + 1, i, c, hi, _ => by
    have h2 := bs_m18 h hf
    have h3 := bs_n30 h
    rw [m_X6_size_L15, bs_gd (bs_inB (by omega) (by decide)), bs_cl (by omega), bs_mN h hf, if_pos (nI_le (by omega) (by omega)), bs_gd (bs_inB (by omega) (by decide)), bs_gd (bs_inB (by omega) (by decide)), bs_gd (bs_inB (by omega) (by decide)), bs_gd (bs_inB (by omega) (by decide)), bs_kN h hf, bs_bN h hf, (bs_fr h hf).2.2.2.1.1, bs_rc]
    repeat' split
    all_goals rfl
  | d + 1, n + 1, i, c, hi, hn => by
    have h2 := bs_m18 h hf
    have h3 := bs_n30 h
    have hl : i < bs_m M f := by omega
    rw [m_X6_size_L15, bs_gd (bs_inB (by omega) (by decide)), bs_cl (by omega), bs_mN h hf, if_neg (nI_ge hl (by omega)), bs_m_ag h hf hl, bs_bnd, bs_let, bs_let, nI_1, nI_1, show nI c + 0 = nI c from nI_add c 0, bs_rc]
    by_cases c3 : bs_rf M (bs_r M f i) = 0
    · rw [if_pos c3, if_pos c3, bs_m_sizeL h hf w d n (i + 1) (c + 1) (by omega) (by omega), Nat.add_assoc]
    · rw [if_neg c3, if_neg c3, bs_m_sizeL h hf w d n (i + 1) c (by omega) (by omega), Nat.zero_add]
theorem bs_op_size (h : bs_Rel x0 s0 Y S M) (x w : Int32) : bs_OKr (c_X5_size S (Y 0 0) x w) (m_X6_size M x w) := by
  unfold c_X5_size m_X6_size
  rcases bs_which h.1 x with hx | ⟨f, hf, rfl⟩
  · rw [bs_c_unknown h hx, bs_m_noF h.1 hx]
    exact ⟨_, rfl, rfl⟩
  · have h2 := bs_m18 h.1 hf
    have hL := bs_m_sizeL h.1 hf w (bs_m M f) bigN 0 0 (by omega) (by unfold bigN; omega)
    rw [Nat.zero_add] at hL
    rw [bs_c_known h hf, bs_m_isF h.1 hf, bs_bnd, bs_bnd, bs_ocS, bs_gd (bs_k1 h hf), bs_gd (bs_k1 h hf), bs_gd (bs_k1 h hf), bs_gd (bs_k1 h hf), bs_gd (bs_k1 h hf), if_neg bs_10, bs_f5 h hf, bs_o11 h hf, bs_bnd, bs_l11 h hf, bs_c_rc h hf, bs_bnd, bs_f1 h hf, bs_f2 h hf, bs_f3 h hf]
    have hL2 : m_X6_size_L15 M bigN (nI f) w 0 0 = _ := hL
    rw [hL2]
    refine ⟨_, ?_, rfl⟩
    repeat' split
    all_goals rfl
/-- exercises -/
theorem bs_eN (h : bs_Inv M) : nF M 36 = nI (bs_e M) := h.2.1.1
theorem bs_e200 (h : bs_Inv M) : bs_e M ≤ 200 := h.2.1.2
theorem bs_whichE (h : bs_Inv M) (x : Int32) : (x < 0 ∨ nI (bs_e M) ≤ x) ∨ ∃ e, e < bs_e M ∧ x = nI e := bs_span x (by have := bs_e200 h; omega)
theorem bs_m_isE (h : bs_Inv M) {e : Nat} (he : e < bs_e M) : m_X6_isExercise M (nI e) = some 1 := by
  have h1 := bs_e200 h
  unfold m_X6_isExercise
  rw [bs_eN h, bs_in_yes he (by omega)]
  rfl
theorem bs_m_noE (h : bs_Inv M) {x : Int32} (hx : x < 0 ∨ nI (bs_e M) ≤ x) : m_X6_isExercise M x = some 0 := by
  have h1 := bs_e200 h
  unfold m_X6_isExercise
  rw [bs_eN h, bs_in_no (by omega) hx]
  rfl
theorem bs_c_knownE (h : bs_Rel x0 s0 Y S M) {e : Nat} (he : e < bs_e M) : c_X5_knownExercise S (Y 0 0) (nI e) = some (some (Y 7 e)) := by
  have h1 := bs_e200 h.1
  unfold c_X5_knownExercise
  rw [bs_i h 0 0 3 rfl rfl, bs_q h 0 0 2 rfl rfl, bs_eN h.1, if_neg (nI_pos (by omega)), if_pos (nI_lt he (by omega)), bs_o10 h, bs_bnd, h.2.1.2.2.2.1, bs_gd (bs_inB (by omega) (by decide)), bs_cl (by omega), bs_q h 10 0 e rfl (if_pos he)]
theorem bs_c_unknownE (h : bs_Rel x0 s0 Y S M) {x : Int32} (hx : x < 0 ∨ nI (bs_e M) ≤ x) : c_X5_knownExercise S (Y 0 0) x = some none := by
  unfold c_X5_knownExercise
  rw [bs_i h 0 0 3 rfl rfl, bs_eN h.1]
  exact bs_outS hx _ _
theorem bs_k7 (h : bs_Rel x0 s0 Y S M) {e : Nat} (he : e < bs_e M) : kb S (Y 7 e) 1 = true := bs_kb (bs_kk h 7 e he)
theorem bs_l8 (h : bs_Rel x0 s0 Y S M) {e : Nat} (he : e < bs_e M) : mLn S (Y 8 e) = 12 := h.2.1.2.2.2.2.2.1 e he
theorem bs_op_fillings (h : bs_Rel x0 s0 Y S M) (x : Int32) : bs_OKr (c_X5_fillings S (Y 0 0) x) (m_X6_fillings M x) := by
  unfold c_X5_fillings m_X6_fillings
  have h1 := bs_e200 h.1
  rcases bs_whichE h.1 x with hx | ⟨e, he, rfl⟩
  · rw [bs_c_unknownE h hx, bs_m_noE h.1 hx]
    exact ⟨_, rfl, rfl⟩
  · rw [bs_c_knownE h he, bs_m_isE h.1 he, bs_bnd, bs_bnd, bs_ocS, bs_gd (bs_k7 h he), if_neg bs_10, bs_gd (bs_inB (by omega) (by decide)), bs_cl (by omega), bs_i h 7 e 3 he rfl]
    exact ⟨_, rfl, rfl⟩
theorem bs_op_answer (h : bs_Rel x0 s0 Y S M) (x y : Int32) : bs_OKr (c_X5_answer S (Y 0 0) x y) (m_X6_answer M x y) := by
  unfold c_X5_answer m_X6_answer
  have h1 := bs_e200 h.1
  rcases bs_whichE h.1 x with hx | ⟨e, he, rfl⟩
  · rw [bs_c_unknownE h hx, bs_m_noE h.1 hx]
    exact ⟨_, rfl, rfl⟩
  · rw [bs_c_knownE h he, bs_m_isE h.1 he, bs_bnd, bs_bnd, bs_ocS, bs_gd (bs_k7 h he), if_neg bs_10, bs_q h 7 e 1 he rfl, bs_o8 h he, bs_bnd, bs_l8 h he, bs_lit 12]
    rcases bs_span y (n := 12) (by decide) with hy | ⟨p, hp, rfl⟩
    · rw [bs_outS hy, bs_in_d hy (by decide) 11 rfl, bs_bnd, if_pos rfl]
      exact ⟨_, rfl, rfl⟩
    · rw [bs_insS hp (by decide), bs_in_c hp (by decide) 11 rfl, bs_bnd, if_neg bs_10, pk_mul, nI_add, bs_gd (bs_inB hp (by decide)), bs_gd (bs_inB (by omega) (by decide)), bs_cl (by omega), bs_cl (by omega), bs_i h 8 e p he (if_pos hp)]
      exact ⟨_, rfl, rfl⟩
theorem bs_c_blank (h : bs_Rel x0 s0 Y S M) {e p : Nat} (he : e < bs_e M) (hp : p < 12) : c_X0_isBlank S (Y 7 e) (nI p) = some (nA M 39 (12 * e + p)) := by
  obtain ⟨B, b1, b2, b3⟩ := h.2.2.2.2.2.1 e he
  unfold c_X0_isBlank
  rw [b2, (b3 p hp).1]
  have e1 : nI B >>> (nI p &&& 31) = nI (B / 2 ^ p) := pk_shrN (by omega) _ p (bs_sl p (by omega))
  have e2 : nI (B / 2 ^ p) &&& 1 = nI (B / 2 ^ p % 2) := by
    have hlt : B / 2 ^ p < 2 ^ 32 := Nat.lt_of_le_of_lt (Nat.div_le_self _ _) (by omega)
    exact pk_andN hlt 1 rfl
  rw [e1, e2]
  have e3 : B.testBit p = decide (B / 2 ^ p % 2 = 1) := by rw [Nat.testBit_eq_decide_div_mod_eq]
  rw [e3]
  have : B / 2 ^ p % 2 = 0 ∨ B / 2 ^ p % 2 = 1 := by omega
  rcases this with q | q <;> rw [q] <;> rfl
theorem bs_op_place (h : bs_Rel x0 s0 Y S M) (x y : Int32) : bs_OKr (c_X5_place S (Y 0 0) x y) (m_X6_place M x y) := by
  unfold c_X5_place m_X6_place
  have h1 := bs_e200 h.1
  rcases bs_whichE h.1 x with hx | ⟨e, he, rfl⟩
  · rw [bs_c_unknownE h hx, bs_m_noE h.1 hx]
    exact ⟨_, rfl, rfl⟩
  · rw [bs_c_knownE h he, bs_m_isE h.1 he, bs_bnd, bs_bnd, bs_ocS, bs_gd (bs_k7 h he), if_neg bs_10, bs_q h 7 e 1 he rfl, bs_o8 h he, bs_bnd, bs_l8 h he, bs_lit 12]
    rcases bs_span y (n := 12) (by decide) with hy | ⟨p, hp, rfl⟩
    · rw [bs_outS hy, bs_in_d hy (by decide) 11 rfl, bs_bnd, if_pos rfl]
      exact ⟨_, rfl, rfl⟩
    · rw [bs_insS hp (by decide), bs_in_c hp (by decide) 11 rfl, bs_bnd, if_neg bs_10, pk_mul, nI_add, bs_gd (bs_inB hp (by decide)), bs_gd (bs_inB (by omega) (by decide)), bs_gd (bs_inB (by omega) (by decide)), bs_cl (by omega), bs_cl (by omega), bs_i h 8 e p he (if_pos hp), bs_c_blank h he hp, bs_bnd]
      obtain ⟨B, b1, b2, b3⟩ := h.2.2.2.2.2.1 e he
      by_cases c : nA M 39 (12 * e + p) = 0
      · rw [if_pos c, if_pos c, (b3 p hp).2]
        · exact ⟨_, rfl, rfl⟩
        · have := (b3 p hp).1
          cases hB : B.testBit p
          · rfl
          · rw [hB, if_pos rfl, c] at this
            exact absurd this (by decide)
      · rw [if_neg c, if_neg c]
        exact ⟨_, rfl, rfl⟩
theorem bs_told_LL (h : bs_Rel x0 s0 Y S M) : ∀ d n i c, i + d = bs_e M → d < n → c_X5_singleExercises_L4 S n (Y 0 0) c (nI i) = m_X6_told_L4 M n 6 c (nI i) ∧ ∃ z, m_X6_told_L4 M n 6 c (nI i) = some z
  | d, 0, i, c, _, hn => absurd hn (Nat.not_lt_zero _)
  | 0, n + 1, i, c, hi, _ => by
    have h1 := bs_e200 h.1
    rw [c_X5_singleExercises_L4, m_X6_told_L4, bs_i h 0 0 3 rfl rfl, bs_eN h.1, if_pos (nI_le (by omega) (by omega)), if_pos (nI_le (by omega) (by omega))]
    exact ⟨rfl, _, rfl⟩
  | d + 1, n + 1, i, c, hi, hn => by
    have h1 := bs_e200 h.1
    have he : i < bs_e M := by omega
    rw [c_X5_singleExercises_L4, m_X6_told_L4, bs_i h 0 0 3 rfl rfl, bs_eN h.1, if_neg (nI_ge he (by omega)), if_neg (nI_ge he (by omega)), bs_c_knownE h he, bs_bnd, bs_ocS, bs_gd (bs_k7 h he), bs_gd (bs_inB (by omega) (by decide)), bs_cl (by omega), bs_i h 7 i 3 he rfl, bs_let, bs_let, nI_1, Int32.add_zero]
    by_cases c1 : nA M 41 i = 1
    · rw [if_pos c1, if_pos c1]
      exact bs_told_LL h d n (i + 1) (c + 1) (by omega) (by omega)
    · rw [if_neg c1, if_neg c1]
      exact bs_told_LL h d n (i + 1) c (by omega) (by omega)
theorem bs_told_M (h : bs_Inv M) (w : Int32) (hw : ¬ w = 6) : ∀ d n i c, i + d = bs_e M → d < n → m_X6_told_L4 M n w c (nI i) = some (if w = 0 then nF M 0 else if w = 1 then nF M 36 else if w = 2 then nF M 26 else if w = 3 then nF M 27 else if w = 4 then nF M 13 else if w = 5 then nF M 34 else -2)
  | d, 0, i, c, _, hn => absurd hn (Nat.not_lt_zero _)
  | 0, n + 1, i, c, hi, _ => by
    have h1 := bs_e200 h
    rw [m_X6_told_L4, bs_eN h, if_pos (nI_le (by omega) (by omega)), if_neg hw]
    repeat' split
    all_goals rfl
  | d + 1, n + 1, i, c, hi, hn => by
    have h1 := bs_e200 h
    have he : i < bs_e M := by omega
    rw [m_X6_told_L4, bs_eN h, if_neg (nI_ge he (by omega)), bs_gd (bs_inB (by omega) (by decide)), bs_let, bs_let, nI_1, ← bs_eN h, bs_told_M h w hw d n (i + 1) _ (by omega) (by omega), bs_told_M h w hw d n (i + 1) _ (by omega) (by omega)]
    split <;> rfl
theorem bs_op_told (h : bs_Rel x0 s0 Y S M) (w : Int32) : bs_OKr (c_X5_told S (Y 0 0) w) (m_X6_told M w) := by
  have h1 := bs_e200 h.1
  unfold c_X5_told m_X6_told
  by_cases c : w = 6
  · subst c
    obtain ⟨e1, z, e2⟩ := bs_told_LL h (bs_e M) bigN 0 0 (by omega) (by unfold bigN; omega)
    have e3 : c_X5_singleExercises S (Y 0 0) = some z := e1.trans e2
    rw [if_neg (by decide), if_neg (by decide), if_neg (by decide), if_neg (by decide), if_neg (by decide), if_neg (by decide), if_pos rfl, e3, bs_bnd]
    exact ⟨z, rfl, e2⟩
  · have e := bs_told_M h.1 w c (bs_e M) bigN 0 0 (by omega) (by unfold bigN; omega)
    have e2 : m_X6_told_L4 M bigN w 0 0 = _ := e
    rw [e2, bs_q h 0 0 4 rfl rfl, bs_o3 h, bs_bnd, bs_bnd, bs_i h 0 0 1 rfl rfl, bs_i h 0 0 3 rfl rfl, bs_i h 3 0 10 rfl rfl, bs_i h 3 0 11 rfl rfl, bs_i h 0 0 10 rfl rfl, bs_i h 0 0 6 rfl rfl, if_neg c]
    refine ⟨_, ?_, rfl⟩
    repeat' split
    all_goals rfl
end BsOpsD
