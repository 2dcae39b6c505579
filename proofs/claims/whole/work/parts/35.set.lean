/-! set -/
def bs_Yw (Y : bs_Ly) (v : Nat) : bs_Ly := fun t i => if t = 14 then v else Y t i
theorem bs_wrY (Y : bs_Ly) (v : Nat) (M : MS) : bs_wr (bs_Yw Y v) M = bs_wr Y M := rfl
section BsSet
variable {x0 s0 : Nat} {Y : bs_Ly} {S : Mem} {M : MS}
theorem bs_YV (Y : bs_Ly) (v t i : Nat) (h : bs_val M t i) : bs_Yw Y v t i = Y t i := by
  unfold bs_Yw
  rw [if_neg]
  rintro rfl
  exact h
theorem bs_waive (h : bs_Rel x0 s0 Y S M) (v : Nat) (hH : bs_His (bs_Yw Y v) M) : bs_Rel x0 s0 (bs_Yw Y v) S M := by
  obtain ⟨h1, ⟨q1, q2, q3⟩, h3, h4, h5, h6, h7, h8, -⟩ := h
  refine ⟨h1, ⟨?_, ?_, q3⟩, ?_, ?_, h5, h6, h7, h8, hH⟩
  · intro t i hv
    rw [bs_YV Y v t i hv]
    exact q1 t i hv
  · intro t i t2 i2 hv hv2 e
    rw [bs_YV Y v t i hv, bs_YV Y v t2 i2 hv2] at e
    exact q2 t i t2 i2 hv hv2 e
  · intro t i k w hv hw
    rw [bs_YV Y v t i hv]
    exact h3 t i k w hv hw
  · intro t i k w hv hw
    rw [bs_YV Y v t i hv]
    exact h4 t i k w hv hw
theorem bs_writeL {f : Nat} : ∀ d n n2 i v (S : Mem) (M : MS), bs_Rel x0 s0 Y S M → f < bs_n M → Y 14 0 = 1 → v < 2 ^ 63 → i + d = bs_m M f → d < n → d < n2 →
    ∃ S' M', c_X1_writeNumber_L2 n S (Y 1 f) (lN v) (nI i) = some S' ∧ m_X6_set_L70 n2 M (nI f) (lN (v / bs_b M f ^ i)) (nI i) = some (1, nSF M' 20 1) ∧ bs_Rel x0 s0 Y S' M'
  | d, 0, _, _, _, _, _, _, _, _, _, _, hn, _ => absurd hn (Nat.not_lt_zero _)
  | d, _ + 1, 0, _, _, _, _, _, _, _, _, _, _, hn => absurd hn (Nat.not_lt_zero _)
  | 0, n + 1, n2 + 1, i, v, S, M, h, hf, hY, hv, hi, _, _ => by
    have h2 := bs_m18 h.1 hf
    have h3 := bs_n30 h.1
    rw [c_X1_writeNumber_L2, m_X6_set_L70, bs_f5 h hf, bs_o11 h hf, bs_bnd, bs_l11 h hf, if_pos (nI_le (by omega) (by omega)), bs_gd (bs_inB (by omega) (by decide)), bs_cl (by omega), bs_mN h.1 hf, if_pos (nI_le (by omega) (by omega))]
    exact ⟨S, M, rfl, rfl, h⟩
  | d + 1, n + 1, n2 + 1, i, v, S, M, h, hf, hY, hv, hi, hn, hn2 => by
    have h2 := bs_m18 h.1 hf
    have h3 := bs_n30 h.1
    have hl : i < bs_m M f := by omega
    have hb := bs_bb h.1 hf
    have hr := bs_rV h.1 hf hl
    have hd : bs_dig (bs_b M f) v i < 16 := by
      have : bs_dig (bs_b M f) v i < bs_b M f := Nat.mod_lt _ (by omega)
      omega
    have hv2 : v / bs_b M f ^ i < 2 ^ 63 := Nat.lt_of_le_of_lt (Nat.div_le_self _ _) hv
    obtain ⟨w1, w2, w3⟩ := bs_write h hr (Or.inr (Or.inr hY)) hd
    rw [c_X1_writeNumber_L2, m_X6_set_L70, bs_f5 h hf, bs_o11 h hf, bs_bnd, bs_bnd, bs_l11 h hf, if_neg (nI_ge hl (by omega)), bs_gd (bs_inB hl (by omega)), bs_cl (n := i) (by omega), bs_f2 h hf, bs_c_dig (by omega) (by omega) hv (by omega), bs_bnd, bs_rr h hf hl, bs_o2 h hr, bs_bnd, w1, bs_bnd, nI_1]
    rw [bs_gd (bs_inB (by omega) (by decide)), bs_cl (n := f) (by omega), bs_mN h.1 hf, if_neg (nI_ge hl (by omega)), bs_m_rodOf h.1 hf hl, bs_bnd, bs_gd (bs_inB (by omega) (by decide)), bs_bN h.1 hf, bs_gd (bs_nz (by omega) (by omega)), nI_l (by omega), pk_lRem hv2 (by omega) (by omega), lN_i]
    have e1 : v / bs_b M f ^ i % bs_b M f = bs_dig (bs_b M f) v i := rfl
    rw [e1, w2, bs_bnd, bs_gd (bs_inB (by omega) (by decide))]
    have e2 : nA (nSA (nSA M 11 (bs_r M f i) (nI (bs_wu (bs_k M (bs_r M f i / 18)) (bs_dig (bs_b M f) v i)))) 10 (bs_r M f i) (nI (bs_dig (bs_b M f) v i - 5 * bs_wu (bs_k M (bs_r M f i / 18)) (bs_dig (bs_b M f) v i)))) 3 f = nI (bs_b M f) := bs_bN h.1 hf
    rw [e2, bs_gd (bs_nz (by omega) (by omega)), bs_let, nI_l (by omega), pk_lDiv hv2 (by omega) (by omega), Nat.div_div_eq_div_mul, ← Nat.pow_succ]
    exact bs_writeL d n n2 (i + 1) v _ _ w3 hf hY hv (by show i + 1 + d = bs_m M f; omega) (by omega) (by omega)
theorem bs_wAll (h : bs_Rel x0 s0 Y S M) {f : Nat} (hf : f < bs_n M) (v : Int64) : bs_OK x0 s0 Y (c_X5_writeAll S (Y 0 0) (some (Y 1 f)) v) (m_X6_set M (nI f) v) := by
  have h2 := bs_m18 h.1 hf
  have h3 := bs_n30 h.1
  have hb := bs_bb h.1 hf
  unfold c_X5_writeAll m_X6_set
  rw [bs_ocS, bs_m_isF h.1 hf, bs_bnd, if_neg bs_10]
  by_cases c : v < 0
  · have c' : ¬ (0 : Int64) ≤ v := by
      rw [Int64.lt_iff_toInt_lt] at c
      rw [Int64.le_iff_toInt_le]
      omega
    rw [if_neg c', if_neg c']
    exact bs_same h _
  · obtain ⟨u, hu, rfl⟩ := pk_lOf c
    have c' : (0 : Int64) ≤ lN u := by
      rw [Int64.lt_iff_toInt_lt] at c
      rw [Int64.le_iff_toInt_le]
      omega
    have hdg := bs_dg19 (b := bs_b M f) (v := u) (by omega) hu
    rw [if_pos c', if_pos c', bs_gd (bs_k1 h hf), bs_f2 h hf, bs_c_dg (by omega) (by omega) hu, bs_bnd, bs_f5 h hf, bs_o11 h hf, bs_bnd, bs_l11 h hf, bs_gd (bs_inB (by omega) (by decide)), bs_cl (by omega), bs_bN h.1 hf, bs_m_dg (by omega) (by omega) hu, bs_bnd, bs_gd (bs_inB (by omega) (by decide)), bs_mN h.1 hf]
    by_cases c2 : bs_dg (bs_b M f) 64 u ≤ bs_m M f
    · rw [if_pos (nI_le c2 (by omega)), if_pos (nI_le c2 (by omega)), bs_c_ff h hf, bs_bnd]
      obtain ⟨w, w1, -⟩ := bs_m_sv h.1 hf
      rw [w1, bs_bnd2, bs_nF_eq]
      have h' : bs_Rel x0 s0 Y S (nSF M 16 (bs_ff M f (bs_m M f) 0)) := h
      by_cases c3 : bs_ff M f (bs_m M f) 0 = 0
      · rw [if_pos c3, if_pos ((bs_ff_le _ _ _ _).mpr c3)]
        have hw := bs_waive h' 1 (fun _ q => absurd (show 1 = 0 from q) (by decide))
        obtain ⟨S', M', e1, e2, h4⟩ := bs_writeL (f := f) (bs_m M f) bigN bigN 0 u S _ hw hf rfl hu (by show 0 + bs_m M f = bs_m M f; omega) (by unfold bigN; omega) (by unfold bigN; omega)
        rw [Nat.pow_zero, Nat.div_one] at e2
        have e3 : c_X1_writeNumber S (Y 1 f) (lN u) = some S' := e1
        have e4 : m_X6_set_L70 bigN (nSF M 16 (bs_ff M f (bs_m M f) 0)) (nI f) (lN u) 0 = some (1, nSF M' 20 1) := e2
        have e5 : mR S' (Y 0 0) 4 = some (Y 3 0) := bs_q h4 0 0 4 rfl rfl
        have e6 : mKd S' (Y 3 0) = 4 := bs_kk h4 3 0 rfl
        rw [e3, e4, bs_bnd, e5, bs_ob e6, bs_bnd, bs_let]
        have h5 := bs_bar h4
        have h6 := bs_waive h5 (Y 14 0) (fun q => absurd (show (1 : Int32) = 0 from q) (by decide))
        have eY : (bs_Yw (bs_Yw Y 1) (Y 14 0) 0 0, bs_Yw (bs_Yw Y 1) (Y 14 0) 14 0) = (Y 0 0, Y 14 0) := rfl
        exact ⟨1, _, _, _, rfl, rfl, h6, eY⟩
      · rw [if_neg c3, if_neg (fun q => c3 ((bs_ff_le _ _ _ _).mp q))]
        exact bs_flt h' _
    · rw [if_neg (nI_ge (by omega) (by omega)), if_neg (nI_ge (by omega) (by omega))]
      exact bs_same h _
theorem bs_op_set (h : bs_Rel x0 s0 Y S M) (x : Int32) (v : Int64) : bs_OK x0 s0 Y (c_X5_set S (Y 0 0) x v) (m_X6_set M x v) := by
  unfold c_X5_set
  rcases bs_which h.1 x with hx | ⟨f, hf, rfl⟩
  · unfold m_X6_set
    rw [bs_c_unknown h hx, bs_m_noF h.1 hx]
    exact bs_same h _
  · rw [bs_c_known h hf, bs_bnd]
    obtain ⟨r, S2, M2, Y2, e1, e2, h2, e3⟩ := bs_wAll h hf v
    rw [e1, e2, bs_bnd2]
    exact ⟨r, S2, M2, Y2, rfl, rfl, h2, e3⟩
end BsSet
