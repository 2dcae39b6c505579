/-! rod, size, step, told, the exercises' telling -/
theorem bs_in_c {j n : Nat} (h : j < n) (hn : n < 1000) (B : Int64) (hB : B.toInt = (n : Int) - 1) : m_X6_in (nI j).toInt64 0 B = some 1 := by
  rw [bs_inS (nI j) 0 ((n : Int) - 1) 0 B rfl hB, if_pos]
  rw [nI_toInt (by omega)]
  omega
theorem bs_in_d {y : Int32} {n : Nat} (h : y < 0 ∨ nI n ≤ y) (hn : n < 1000) (B : Int64) (hB : B.toInt = (n : Int) - 1) : m_X6_in y.toInt64 0 B = some 0 := by
  rw [bs_inS y 0 ((n : Int) - 1) 0 B rfl hB, if_neg]
  rw [Int32.lt_iff_toInt_lt, Int32.le_iff_toInt_le, nI_toInt (by omega)] at h
  have e0 : (0 : Int32).toInt = 0 := rfl
  omega
theorem bs_span (y : Int32) {n : Nat} (hn : n < 1000) : (y < 0 ∨ nI n ≤ y) ∨ ∃ j, j < n ∧ y = nI j := by
  rcases pk_ix y (n := n) (by omega) with q | q | q
  · exact Or.inl (Or.inl q)
  · exact Or.inl (Or.inr q)
  · exact Or.inr q
/-- out of the span: the class's two questions -/
theorem bs_outS {α : Type} {y : Int32} {n : Nat} (h : y < 0 ∨ nI n ≤ y) (a b : α) : (if y < 0 then a else if y < nI n then b else a) = a := by
  by_cases c : y < 0
  · rw [if_pos c]
  · rw [if_neg c, if_neg]
    rw [Int32.lt_iff_toInt_lt]
    have := h.resolve_left c
    rw [Int32.le_iff_toInt_le] at this
    omega
theorem bs_insS {α : Type} {j n : Nat} (h : j < n) (hn : n < 1000) (a b : α) : (if nI j < 0 then a else if nI j < nI n then b else a) = b := by
  rw [if_neg (nI_pos (by omega)), if_pos (nI_lt h (by omega))]
section BsOpsC
variable {x0 s0 : Nat} {Y : bs_Ly} {S S2 : Mem} {M M2 : MS}
theorem bs_op_rodJ (h : bs_Rel x0 s0 Y S M) {f : Nat} (hf : f < bs_n M) (y z : Int32) (hz : ¬ z < -1) (L : Int32) (L2 : Int64) (l : Int) (hL : L.toInt = l) (hL2 : L2.toInt = l) (hl : l ≤ 2) (hl2 : bs_k M f = 2 → l ≤ 1) :
    bs_OK x0 s0 Y (c_X5_rod_J34 S (Y 0 0) y z (some (Y 1 f)) z L) (m_X6_rod_J32 M (nI f) y z z.toInt64 (-1) L2) := by
  have hn := bs_n30 h.1
  have hm := bs_m18 h.1 hf
  unfold c_X5_rod_J34 m_X6_rod_J32
  rw [bs_inS z (-1) l (-1) L2 rfl hL2, bs_bnd, bs_o1 h hf, bs_bnd, bs_f1 h hf, bs_gd (bs_inB (by omega) (by decide)), bs_gd (bs_inB (by omega) (by decide)), bs_cl (by omega), bs_kN h.1 hf, bs_mN h.1 hf]
  rw [Int32.lt_iff_toInt_lt] at hz
  have e1 : (-1 : Int32).toInt = -1 := rfl
  by_cases c : z.toInt ≤ l
  · rw [if_pos (by rw [Int32.le_iff_toInt_le, hL]; exact c), if_pos (⟨by omega, c⟩ : -1 ≤ z.toInt ∧ z.toInt ≤ l), if_neg bs_10]
    by_cases d : bs_k M f = 4
    · rw [if_pos ((bs_kis4 h.1 hf).mpr d), if_pos ((bs_kis4 h.1 hf).mpr d)]
      exact bs_flt h 3
    · rw [if_neg (fun q => d ((bs_kis4 h.1 hf).mp q)), if_neg (fun q => d ((bs_kis4 h.1 hf).mp q))]
      rcases bs_place h.1 hf y with hy | ⟨i, hi, rfl⟩
      · rw [bs_c_holdsN h hf hy, bs_bnd, if_pos rfl, bs_in_no (by omega) hy, bs_bnd, if_pos rfl]
        exact bs_flt h 2
      · have hv := bs_rV h.1 hf hi
        have h5 := bs_r540 h.1 hf hi
        have hr := ((bs_fr h.1 hf).2.2.2.2.2.2 i hi).2.2 d
        have hkk : bs_k M (bs_r M f i / 18) = bs_k M f := by rw [hr]; congr 1; omega
        rw [bs_c_holds h hf hi, bs_bnd, if_neg bs_10, bs_in_yes hi (by omega), bs_bnd, if_neg bs_10, bs_c_rod h hf hi, bs_m_rodOf h.1 hf hi, bs_bnd, bs_gd (bs_inB h5 (by decide)), bs_let, bs_gd (bs_inB h5 (by decide)), bs_let, bs_gd (bs_inB h5 (by decide)), bs_cl (by omega)]
        generalize bs_r M f i = r at *
        unfold c_X4_renew
        simp only [bs_let, bs_bnd]
        have hne : Y 2 r ≠ Y 3 0 := bs_ne h hv (t2 := 3) (i2 := 0) rfl (Or.inl (by decide))
        have e2 : mR (mSI (mSI (mSI S (Y 2 r) 4 z) (Y 2 r) 5 0) (Y 2 r) 6 0) (Y 0 0) 4 = some (Y 3 0) := bs_q h 0 0 4 rfl rfl
        have e3 : mKd (mSI (mSI (mSI S (Y 2 r) 4 z) (Y 2 r) 5 0) (Y 2 r) 6 0) (Y 3 0) = 4 := bs_kk h 3 0 rfl
        rw [e2, bs_ob e3, bs_bnd, bs_mSI_swap _ 6 4 0 1 hne, bs_mSI_swap _ 5 4 0 1 hne, bs_mSI_swap _ 4 4 z 1 hne]
        have hb := bs_bar h
        have hg := bs_rgN h.1 hv
        have h1 := bs_pR9 hb (r := r) hv (Or.inl rfl) z ⟨⟨by rw [Int32.le_iff_toInt_le]; omega, by rw [Int32.le_iff_toInt_le]; show z.toInt ≤ 2; omega, fun q => by rw [Int32.le_iff_toInt_le]; show z.toInt ≤ 1; have := hl2 (hkk ▸ q); omega⟩, hg.2.1, hg.2.2⟩
        have g1 := bs_rgN h1.1 (r := r) hv
        have h2 := bs_pR10 h1 (r := r) hv (Or.inl rfl) 0 ⟨g1.1, ⟨0, rfl, by omega, fun _ => by omega⟩, g1.2.2⟩
        have g2 := bs_rgN h2.1 (r := r) hv
        have h3 := bs_pR11 h2 (r := r) hv (Or.inl rfl) 0 ⟨g2.1, g2.2.1, ⟨0, rfl, by omega, fun _ => rfl⟩⟩
        exact bs_same h3 _
  · rw [if_neg (by rw [Int32.le_iff_toInt_le, hL]; exact c), if_neg (fun q : -1 ≤ z.toInt ∧ z.toInt ≤ l => c q.2), if_pos rfl]
    exact bs_same h _
theorem bs_op_rod (h : bs_Rel x0 s0 Y S M) (x y z : Int32) : bs_OK x0 s0 Y (c_X5_rod S (Y 0 0) x y z) (m_X6_rod M x y z) := by
  unfold c_X5_rod m_X6_rod
  have hn := bs_n30 h.1
  rcases bs_which h.1 x with hx | ⟨f, hf, rfl⟩
  · rw [bs_c_unknown h hx, bs_m_noF h.1 hx]
    exact bs_same h _
  · rw [bs_c_known h hf, bs_m_isF h.1 hf, bs_bnd, bs_bnd, bs_ocS, bs_gd (bs_k1 h hf), if_neg bs_10, bs_gd (bs_inB (by omega) (by decide)), bs_cl (by omega), bs_kN h.1 hf, bs_f1 h hf]
    by_cases c : z < -1
    · rw [if_pos c]
      have : ∀ B : Int64, m_X6_rod_J32 M (nI f) y z z.toInt64 (-1) B = some (-2, M) := by
        intro B
        unfold m_X6_rod_J32
        rw [Int32.lt_iff_toInt_lt] at c
        have e1 : (-1 : Int32).toInt = -1 := rfl
        rw [bs_inS z (-1) B.toInt (-1) B rfl rfl, bs_bnd, if_neg (show ¬ (-1 ≤ z.toInt ∧ z.toInt ≤ B.toInt) by omega), if_pos rfl]
      rw [this, this]
      split <;> exact bs_same h _
    · rw [if_neg c]
      by_cases d : bs_k M f = 2
      · rw [if_pos ((bs_kis2 h.1 hf).mpr d), if_pos ((bs_kis2 h.1 hf).mpr d)]
        exact bs_op_rodJ h hf y z c 1 1 1 rfl rfl (by decide) (fun _ => by decide)
      · rw [if_neg (fun q => d ((bs_kis2 h.1 hf).mp q)), if_neg (fun q => d ((bs_kis2 h.1 hf).mp q))]
        exact bs_op_rodJ h hf y z c 2 2 2 rfl rfl (by decide) (fun q => absurd q d)
theorem bs_op_step (h : bs_Rel x0 s0 Y S M) (x y : Int32) : bs_OKr (c_X5_step S (Y 0 0) x y) (m_X6_step M x y) := by
  obtain ⟨hs, hs2⟩ := h.1.2.2.2.1
  have hlen := h.2.1.2.2.2.2.2.2.2.1
  obtain ⟨c9, c91, -, c92⟩ := h.2.1.2.2.2.2.2.2.1
  unfold c_X5_step m_X6_step c_X3_tell
  rw [bs_q h 0 0 4 rfl rfl, bs_o3 h, bs_bnd, bs_bnd, bs_i h 3 0 2 rfl rfl, hs, bs_q h 3 0 1 rfl rfl, bs_o5 h, bs_bnd]
  rcases pk_ix x (n := bs_s M) (by omega) with hx | hx | ⟨k, hk, rfl⟩
  · rw [if_pos hx, bs_in_no (by omega) (Or.inl hx), bs_bnd, if_pos rfl]
    exact ⟨_, rfl, rfl⟩
  · rw [bs_in_no (by omega) (Or.inr hx), bs_bnd, if_pos rfl, bs_outS (Or.inr hx)]
    exact ⟨_, rfl, rfl⟩
  · rw [bs_in_yes hk (by omega), bs_bnd, if_neg bs_10, if_neg (nI_pos (by omega)), if_pos (nI_lt hk (by omega)), bs_lit 7]
    rcases bs_span y (n := 7) (by decide) with hy | ⟨j, hj, rfl⟩
    · rw [bs_outS hy, bs_in_d hy (by decide) 6 rfl, bs_bnd, if_pos rfl]
      exact ⟨_, rfl, rfl⟩
    · rw [bs_insS hj (by decide), bs_in_c hj (by decide) 6 rfl, bs_bnd, if_neg bs_10, pk_mul, nI_add, bs_gd (bs_inB (by omega) (by omega)), bs_gd (bs_inB (by omega) (by decide)), bs_bnd, bs_cl (by omega), bs_i h 5 0 (7 * k + j) rfl (if_pos (by omega))]
      exact ⟨_, rfl, rfl⟩
end BsOpsC
