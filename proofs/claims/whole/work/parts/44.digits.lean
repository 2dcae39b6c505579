/-! digits put one by one; a frame cleared -/
def bs_R (x0 s0 B : Nat) (Y : bs_Ly) (S : Mem) (M : MS) (c : Option (Int32 × Mem)) (m : Option (Int32 × MS)) (E : Int32 → MS → Prop) : Prop :=
  ∃ z Y' S' M', c = some (z, S') ∧ m = some (z, M') ∧ (z = 0 ∨ z = 1) ∧ bs_W x0 s0 Y' S' M' ∧ bs_T B Y M Y' M' ∧ bs_TP Y S M S' M' ∧ E z M'
def bs_U : Nat → Nat
  | 0 => 0
  | j + 1 => bs_U j + (18 - j)
theorem bs_U18 : ∀ k, bs_U (18 + k) = 171
  | 0 => by decide
  | k + 1 => by
    rw [show 18 + (k + 1) = (18 + k) + 1 by omega, bs_U, bs_U18 k]
    omega
theorem bs_U_mono : ∀ k j, bs_U j ≤ bs_U (j + k)
  | 0, j => Nat.le_refl _
  | k + 1, j => by
    have := bs_U_mono k j
    rw [show j + (k + 1) = (j + k) + 1 by omega, bs_U]
    omega
theorem bs_U_le (j : Nat) : bs_U j ≤ 171 := by
  have h1 := bs_U_mono 18 j
  have h2 := bs_U18 j
  rw [Nat.add_comm] at h2
  omega
section BsDigits
variable {x0 s0 : Nat}
theorem bs_m11 : nI 0 + (-1) < (0 : Int32) := by decide
theorem bs_pdL (f i0 v B : Nat) (hv : v < 2 ^ 63) (hi0 : i0 < 900) (sgn : Nat) (sg : Int32) (hsg : (sgn = 1 ∧ sg = 1) ∨ (sgn = 0 ∧ sg = -1)) : ∀ j n n2 (Y : bs_Ly) (S : Mem) (M : MS), bs_W x0 s0 Y S M → bs_own Y M f → bs_b M f = B → bs_LT M f → j ≤ 64 → j < n → j + 1 < n2 → bs_s M + bs_U j < 5000 →
    bs_R x0 s0 B Y S M (c_X3_putDigits_L12 n S (Y 3 0) (some (Y 1 f)) (lN v) (nI i0) sg (nI j + (-1))) (m_X6_changeAll_L17 n2 M (nI f) (nI i0) (lN v) sg 1 (nI j + (-1))) (fun _ M' => bs_s M' ≤ bs_s M + bs_U j ∧ (sgn = 1 → (B - 1) * bs_s M' + bs_ph M' 540 ≤ (B - 1) * bs_s M + bs_ph M 540 + 2 * (B - 1) * j))
  | j, 0, _, _, _, _, _, _, _, _, _, hn, _, _ => absurd hn (Nat.not_lt_zero _)
  | j, _ + 1, 0, _, _, _, _, _, _, _, _, _, hn, _ => absurd hn (Nat.not_lt_zero _)
  | 0, n + 1, n2 + 1, Y, S, M, hW, hf, hB, hLT, _, _, _, _ => by
    rw [c_X3_putDigits_L12, m_X6_changeAll_L17, if_pos bs_m11, if_pos bs_m11, bs_gd bs_zb1]
    exact ⟨1, Y, S, M, rfl, rfl, Or.inr rfl, hW, bs_T_refl _ _ _, bs_TP_refl _ _ _, Nat.le_refl _, fun _ => by omega⟩
  | j + 1, n + 1, n2 + 1, Y, S, M, hW, hf, hB, hLT, hj, hn, hn2, hs => by
    have h := hW.1
    have hn30 := bs_n30 h.1
    have hfn := hf.1
    have hb := bs_bb h.1 hf.1
    rw [hB] at hb
    have hm := bs_m18 h.1 hf.1
    have f2 : mI S (Y 1 f) 2 = nI B := by rw [bs_f2 h hf.1, hB]
    have b3 : nA M 3 f = nI B := by rw [bs_bN h.1 hf.1, hB]
    have hd : bs_dig B v j < B := Nat.mod_lt _ (by omega)
    rw [bs_U] at hs
    have hA : (sgn = 1 ∧ sg = 1 ∧ sg * nI (bs_dig B v j) = nI (bs_dig B v j)) ∨ (sgn = 0 ∧ sg = -1 ∧ sg * nI (bs_dig B v j) = -nI (bs_dig B v j)) := by
      rcases hsg with ⟨a, b⟩ | ⟨a, b⟩
      · exact Or.inl ⟨a, b, by rw [b, Int32.one_mul]⟩
      · exact Or.inr ⟨a, b, by rw [b, bs_neg1]⟩
    obtain ⟨z, Y1, S1, M1, g1, g2, g3, g4, g5, g6, g7, g8⟩ := bs_put1 hW hf hLT (show i0 + j < 1000 by omega) (hB ▸ hd) hA (by omega)
    rw [hB] at g5 g8
    rw [c_X3_putDigits_L12, m_X6_changeAll_L17, pk_m1, if_neg (nI_pos (by omega)), if_neg (nI_pos (by omega)), if_neg bs_10, bs_o1 h hf.1, bs_bnd, f2, bs_c_dig (by omega) (by omega) hv (by omega), bs_bnd, nI_add, g1, bs_bnd2, bs_gd (bs_inB (n := f) (by omega) (by decide)), bs_cl (n := f) (by omega), b3, bs_m_dig (by omega) (by omega) hv (by omega), bs_bnd, g2, bs_bnd2]
    have hmm := bs_T_m g5
    rcases g3 with rfl | rfl
    · rw [if_pos rfl]
      refine ⟨0, Y1, S1, M1, rfl, ?_, Or.inl rfl, g4, g5, g6, ?_, ?_⟩
      · cases n2 with
        | zero => omega
        | succ n2 =>
          rw [m_X6_changeAll_L17, if_pos rfl, bs_gd bs_zb0]
          split <;> rfl
      · rw [bs_U]; omega
      · intro a
        have := g8.1 a
        rcases hb with rfl | rfl <;> omega
    · rw [if_neg bs_10]
      obtain ⟨z2, Y2, S2, M2, k1, k2, k3, k4, k5, k6, k7, k8⟩ := bs_pdL f i0 v B hv hi0 sgn sg hsg j n n2 Y1 S1 M1 g4 (bs_own_T g5 hf) (by rw [bs_T_b g5]; exact hB) (bs_LT_T g5 hB hLT) (by omega) (by omega) (by omega) (by omega)
      rw [g5.1 3 0 (by decide), g5.1 1 f (by decide)] at k1
      refine ⟨z2, Y2, S2, M2, k1, k2, k3, k4, bs_T_tr g5 k5, bs_TP_tr g6 (g5.1 4 0 (by decide)) k6, ?_, ?_⟩
      · rw [bs_U]; omega
      · intro a
        have t1 := g8.1 a
        have t2 := k8 a
        rcases hb with rfl | rfl <;> omega
/-- all digits of a number, to a frame, from a rod on -/
theorem bs_pd {Y : bs_Ly} {S : Mem} {M : MS} {f i0 v : Nat} (hW : bs_W x0 s0 Y S M) (hf : bs_own Y M f) (hLT : bs_LT M f) (hv : v < 2 ^ 63) (hi0 : i0 < 900) (sgn : Nat) (sg : Int32) (hsg : (sgn = 1 ∧ sg = 1) ∨ (sgn = 0 ∧ sg = -1)) (hs : bs_s M + 171 < 5000) :
    bs_R x0 s0 (bs_b M f) Y S M (c_X3_putDigits S (Y 3 0) (some (Y 1 f)) (lN v) (nI i0) sg) (m_X6_changeAll M (nI f) (nI i0) (lN v) sg) (fun _ M' => bs_s M' ≤ bs_s M + 171 ∧ (sgn = 1 → (bs_b M f - 1) * bs_s M' + bs_ph M' 540 ≤ (bs_b M f - 1) * bs_s M + bs_ph M 540 + 2 * (bs_b M f - 1) * bs_dg (bs_b M f) 64 v)) := by
  have h := hW.1
  have hn30 := bs_n30 h.1
  have hfn := hf.1
  have hb := bs_bb h.1 hf.1
  have hU := bs_U_le (bs_dg (bs_b M f) 64 v)
  have h19 := bs_dg19 (b := bs_b M f) (by omega) hv
  obtain ⟨z2, Y2, S2, M2, k1, k2, k3, k4, k5, k6, k7, k8⟩ := bs_pdL f i0 v (bs_b M f) hv hi0 sgn sg hsg (bs_dg (bs_b M f) 64 v) bigN bigN Y S M hW hf rfl hLT (by omega) (by unfold bigN; omega) (by unfold bigN; omega) (by omega)
  refine ⟨z2, Y2, S2, M2, ?_, ?_, k3, k4, k5, k6, by omega, k8⟩
  · unfold c_X3_putDigits
    rw [bs_o1 h hf.1, bs_bnd, bs_f2 h hf.1, bs_c_dg (by omega) (by omega) hv, bs_bnd, bs_let, Int32.sub_eq_add_neg]
    exact k1
  · unfold m_X6_changeAll
    rw [bs_gd (bs_inB (n := f) (by omega) (by decide)), bs_cl (n := f) (by omega), bs_bN h.1 hf.1, bs_m_dg (by omega) (by omega) hv, bs_bnd, bs_let, Int32.sub_eq_add_neg]
    exact k2
/-- the same of a number below 0: it has no digits -/
theorem bs_pdN {Y : bs_Ly} {S : Mem} {M : MS} {f : Nat} {w : Int64} (hW : bs_W x0 s0 Y S M) (hf : bs_own Y M f) (hw : w < 0) (i0 sg : Int32) : c_X3_putDigits S (Y 3 0) (some (Y 1 f)) w i0 sg = some (1, S) ∧ m_X6_changeAll M (nI f) i0 w sg = some (1, M) := by
  have h := hW.1
  have hn30 := bs_n30 h.1
  have hfn := hf.1
  have hb := bs_bb h.1 hf.1
  have hw2 : w ≤ 0 := by
    rw [Int64.lt_iff_toInt_lt] at hw
    rw [Int64.le_iff_toInt_le]
    omega
  constructor
  · unfold c_X3_putDigits c_X5_digitCount
    rw [bs_o1 h hf.1, bs_bnd, bs_f2 h hf.1, bs_lit 1, if_pos (nI_lt (by omega) (by omega)), show bigN = 999999 + 1 from rfl, c_X5_digitCount_L12, if_neg (by decide), if_pos hw2, bs_bnd, bs_let, c_X3_putDigits_L12, if_pos (by decide)]
    rfl
  · unfold m_X6_changeAll m_X6_digits
    rw [bs_gd (bs_inB (n := f) (by omega) (by decide)), show bigN = 999999 + 1 from rfl, m_X6_digits_L5, if_pos hw2, bs_bnd, bs_let, m_X6_changeAll_L17, if_pos (by decide), bs_gd bs_zb1]
theorem bs_clearL (f B : Nat) : ∀ i n n2 (Y : bs_Ly) (S : Mem) (M : MS), bs_W x0 s0 Y S M → bs_own Y M f → bs_b M f = B → bs_LT M f → i ≤ bs_m M f → i < n → i + 1 < n2 → bs_s M + bs_U i < 5000 →
    bs_R x0 s0 B Y S M (c_X3_clear_L8 n S (Y 3 0) (some (Y 1 f)) (nI i + (-1))) (m_X6_clear_L11 n2 M (nI f) 1 (nI i + (-1))) (fun z M' => bs_s M' ≤ bs_s M + bs_U i ∧ (B - 1) * bs_s M' + bs_ph M' 540 ≤ (B - 1) * bs_s M + bs_ph M 540 + (B - 1) * i ∧ (z = 1 → ∀ k, k < i → bs_rf M (bs_r M f k) = 0))
  | i, 0, _, _, _, _, _, _, _, _, _, hn, _, _ => absurd hn (Nat.not_lt_zero _)
  | i, _ + 1, 0, _, _, _, _, _, _, _, _, _, hn, _ => absurd hn (Nat.not_lt_zero _)
  | 0, n + 1, n2 + 1, Y, S, M, hW, hf, hB, hLT, _, _, _, _ => by
    rw [c_X3_clear_L8, m_X6_clear_L11, if_pos bs_m11, if_pos bs_m11, bs_gd bs_zb1]
    exact ⟨1, Y, S, M, rfl, rfl, Or.inr rfl, hW, bs_T_refl _ _ _, bs_TP_refl _ _ _, Nat.le_refl _, by omega, fun _ k hk => absurd hk (Nat.not_lt_zero _)⟩
  | i + 1, n + 1, n2 + 1, Y, S, M, hW, hf, hB, hLT, hi, hn, hn2, hs => by
    have h := hW.1
    have hb := bs_bb h.1 hf.1
    rw [hB] at hb
    have hm := bs_m18 h.1 hf.1
    rw [bs_U] at hs
    rw [c_X3_clear_L8, m_X6_clear_L11, pk_m1, if_neg (nI_pos (by omega)), if_neg (nI_pos (by omega)), if_neg bs_10]
    have hl0 : ∀ M0 x, m_X6_clear_L11 n2 M0 (nI f) 0 x = some (0, M0) := by
      intro M0 x
      cases n2 with
      | zero => omega
      | succ n2 =>
        rw [m_X6_clear_L11, if_pos rfl, bs_gd bs_zb0]
        split <;> rfl
    by_cases c : i < bs_m M f ∧ bs_rf M (bs_r M f i) = 0
    · obtain ⟨ci, cr⟩ := c
      obtain ⟨e1, e2⟩ := bs_canY h hf.1 ci cr
      have hv := bs_rV h.1 hf.1 ci
      have hc := hLT _ ci cr
      obtain ⟨z, Y1, S1, M1, g1, g2, g3, g4, g5, g6, g7, g8⟩ := bs_put1 hW hf hLT (show i < 1000 by omega) hc (Or.inr ⟨rfl, rfl, rfl⟩) (by omega)
      rw [hB] at g5 g8
      have q8 := g8.2 rfl (Nat.le_refl _)
      rw [e1, e2, bs_bnd2, bs_bnd2, if_neg bs_10, if_pos rfl, bs_o1 h hf.1, bs_bnd, bs_c_rod h hf.1 ci, bs_c_value h hv, bs_bnd, g1, bs_bnd2, bs_m_rodOf h.1 hf.1 ci, bs_bnd, bs_m_digit h.1 hv, bs_bnd, g2, bs_bnd2]
      have hmm := bs_T_m g5
      rcases g3 with rfl | rfl
      · rw [if_pos rfl, if_pos rfl]
        refine ⟨0, Y1, S1, M1, rfl, hl0 _ _, Or.inl rfl, g4, g5, g6, ?_, ?_, fun q => absurd q (by decide)⟩
        · rw [bs_U]; omega
        · rcases hb with rfl | rfl <;> omega
      · rw [if_neg bs_10, if_neg bs_10]
        obtain ⟨z2, Y2, S2, M2, k1, k2, k3, k4, k5, k6, k7, k8, k9⟩ := bs_clearL f B i n n2 Y1 S1 M1 g4 (bs_own_T g5 hf) (by rw [bs_T_b g5]; exact hB) (bs_LT_T g5 hB hLT) (by rw [hmm]; omega) (by omega) (by omega) (by omega)
        rw [g5.1 3 0 (by decide), g5.1 1 f (by decide)] at k1
        refine ⟨z2, Y2, S2, M2, k1, k2, k3, k4, bs_T_tr g5 k5, bs_TP_tr g6 (g5.1 4 0 (by decide)) k6, ?_, ?_, ?_⟩
        · rw [bs_U]; omega
        · rcases hb with rfl | rfl <;> omega
        · intro q k hk
          by_cases c3 : k = i
          · rw [c3]; exact cr
          · have := k9 q k (by omega)
            rw [bs_T_rf g5, bs_T_r g5] at this
            exact this
    · obtain ⟨S', M', g1, g2, g3, g4, g5, g6, g7⟩ := bs_canN hW hf.1 (show i < 2 ^ 30 by omega) c B
      rw [g1, g2, bs_bnd2, bs_bnd2, if_pos rfl, if_neg bs_10, hl0]
      refine ⟨0, Y, S', M', rfl, rfl, Or.inl rfl, g3, g4, g5, ?_, ?_, fun q => absurd q (by decide)⟩
      · rw [bs_U]; omega
      · rw [g6, g7]
        rcases hb with rfl | rfl <;> omega
theorem bs_clear {Y : bs_Ly} {S : Mem} {M : MS} {f : Nat} (hW : bs_W x0 s0 Y S M) (hf : bs_own Y M f) (hLT : bs_LT M f) (hs : bs_s M + 171 < 5000) :
    bs_R x0 s0 (bs_b M f) Y S M (c_X3_clear S (Y 3 0) (some (Y 1 f))) (m_X6_clear M (nI f)) (fun z M' => bs_s M' ≤ bs_s M + 171 ∧ (bs_b M f - 1) * bs_s M' + bs_ph M' 540 ≤ (bs_b M f - 1) * bs_s M + bs_ph M 540 + (bs_b M f - 1) * 18 ∧ (z = 1 → ∀ k, k < bs_m M f → bs_rf M (bs_r M f k) = 0)) := by
  have h := hW.1
  have hn30 := bs_n30 h.1
  have hfn := hf.1
  have hb := bs_bb h.1 hf.1
  have hm := bs_m18 h.1 hf.1
  have hU := bs_U_le (bs_m M f)
  obtain ⟨z2, Y2, S2, M2, k1, k2, k3, k4, k5, k6, k7, k8, k9⟩ := bs_clearL f (bs_b M f) (bs_m M f) bigN bigN Y S M hW hf rfl hLT (Nat.le_refl _) (by unfold bigN; omega) (by unfold bigN; omega) (by omega)
  refine ⟨z2, Y2, S2, M2, ?_, ?_, k3, k4, k5, k6, by omega, ?_, k9⟩
  · unfold c_X3_clear
    rw [bs_o1 h hf.1, bs_bnd, bs_f5 h hf.1, bs_o11 h hf.1, bs_bnd, bs_let, bs_l11 h hf.1, Int32.sub_eq_add_neg]
    exact k1
  · unfold m_X6_clear
    rw [bs_gd (bs_inB (n := f) (by omega) (by decide)), bs_cl (n := f) (by omega), bs_mN h.1 hf.1, bs_let, Int32.sub_eq_add_neg]
    exact k2
  · rcases hb with q | q <;> rw [q] at k8 ⊢ <;> omega
end BsDigits
