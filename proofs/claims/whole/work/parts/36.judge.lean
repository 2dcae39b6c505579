/-! JUDGE; powers -/
section BsJudge
variable {x0 s0 : Nat} {Y : bs_Ly} {S : Mem} {M : MS}
theorem bs_judge55 (h : bs_Rel x0 s0 Y S M) {f : Nat} (hf : f < bs_n M) (i : Int32) (hi : i = if bs_k M f = 0 then nI (bs_m M f) else 2 * nI (bs_m M f)) (h4 : bs_k M f ≠ 4) (h2 : bs_k M f ≠ 2) :
    ∃ z S' v, c_X5_askJudge_J55 S (Y 0 0) (some (Y 1 f)) i = some (z, S') ∧ m_X6_askedJudge_J31 M (nI f) = some (z, nSF M 12 v) ∧ bs_Rel x0 s0 Y S' (nSF M 12 v) ∧ 0 ≤ z := by
  have hn := bs_n30 h.1
  have hm := bs_m18 h.1 hf
  have hk := bs_k4 h.1 hf
  unfold c_X5_askJudge_J55 m_X6_askedJudge_J31
  obtain ⟨v, e1, e2, hb⟩ := bs_begun h 10
  have f1 : nA (nSF M 12 v) 1 f = nI (bs_k M f) := bs_kN h.1 hf
  have f2 : nA (nSF M 12 v) 2 f = nI (bs_m M f) := bs_mN h.1 hf
  have f3 : mI (mSI S (Y 0 0) 7 v) (Y 1 f) 1 = nI (bs_k M f) := bs_f1 hb hf
  rw [e1, e2, bs_bnd, bs_bnd, bs_o1 hb hf, bs_bnd, f3, bs_gd (bs_inB (by omega) (by decide)), bs_gd (bs_inB (by omega) (by decide)), bs_gd (bs_inB (by omega) (by decide)), bs_gd (bs_inB (by omega) (by decide)), bs_gd (bs_inB (by omega) (by decide)), bs_cl (by omega), f1, f2, hi]
  by_cases c0 : bs_k M f = 0
  · rw [if_pos c0, if_pos ((bs_kis0 h.1 hf).mpr c0), if_neg (fun q => absurd ((bs_kis3 h.1 hf).mp q) (by omega))]
    exact ⟨_, _, v, rfl, rfl, hb, nI_pos' (by omega)⟩
  · rw [if_neg c0, if_neg (fun q => c0 ((bs_kis0 h.1 hf).mp q)), bs_lit 2, pk_mul]
    by_cases c1 : bs_k M f = 1
    · rw [if_pos ((bs_kis1 h.1 hf).mpr c1), if_neg (fun q => absurd ((bs_kis3 h.1 hf).mp q) (by omega))]
      exact ⟨_, _, v, rfl, rfl, hb, nI_pos' (by omega)⟩
    · rw [if_neg (fun q => c1 ((bs_kis1 h.1 hf).mp q)), if_pos ((bs_kis3 h.1 hf).mpr (by omega)), nI_1]
      exact ⟨_, _, v, rfl, rfl, hb, nI_pos' (by omega)⟩
theorem bs_judge38 (h : bs_Rel x0 s0 Y S M) {f : Nat} (hf : f < bs_n M) (h4 : bs_k M f ≠ 4) (h2 : bs_k M f ≠ 2) :
    ∃ z S' v, c_X5_askJudge_J38 S (Y 0 0) (some (Y 1 f)) (nI (bs_m M f)) = some (z, S') ∧ m_X6_askedJudge_J16 M (nI f) = some (z, nSF M 12 v) ∧ bs_Rel x0 s0 Y S' (nSF M 12 v) ∧ 0 ≤ z := by
  have hn := bs_n30 h.1
  unfold c_X5_askJudge_J38 m_X6_askedJudge_J16
  rw [bs_o1 h hf, bs_bnd, bs_f1 h hf, bs_gd (bs_inB (by omega) (by decide)), bs_cl (by omega), bs_kN h.1 hf]
  by_cases c0 : bs_k M f = 0
  · rw [if_pos ((bs_kis0 h.1 hf).mpr c0), if_pos ((bs_kis0 h.1 hf).mpr c0)]
    exact bs_judge55 h hf _ (if_pos c0).symm h4 h2
  · rw [if_neg (fun q => c0 ((bs_kis0 h.1 hf).mp q)), if_neg (fun q => c0 ((bs_kis0 h.1 hf).mp q))]
    obtain ⟨v, e1, e2, hb⟩ := bs_begun h 11
    rw [e1, e2, bs_bnd, bs_bnd, bs_let]
    obtain ⟨z, S', v2, q1, q2, q3, q4⟩ := bs_judge55 hb (f := f) hf (2 * nI (bs_m M f)) (if_neg (show ¬ bs_k M f = 0 from c0)).symm h4 h2
    rw [bs_nSF2] at q2 q3
    exact ⟨z, S', v2, q1, q2, q3, q4⟩
theorem bs_judge (h : bs_Rel x0 s0 Y S M) {f : Nat} (hf : f < bs_n M) (h4 : bs_k M f ≠ 4) (h2 : bs_k M f ≠ 2) :
    ∃ z S' v, c_X5_askJudge S (Y 0 0) (some (Y 1 f)) = some (z, S') ∧ m_X6_askedJudge M (nI f) = some (z, nSF M 12 v) ∧ bs_Rel x0 s0 Y S' (nSF M 12 v) ∧ 0 ≤ z := by
  have hn := bs_n30 h.1
  unfold c_X5_askJudge m_X6_askedJudge
  rw [bs_o1 h hf, bs_bnd, bs_f1 h hf, bs_gd (bs_inB (by omega) (by decide)), bs_cl (by omega), bs_kN h.1 hf, if_neg (fun q => h4 ((bs_kis4 h.1 hf).mp q)), if_neg (fun q => h2 ((bs_kis2 h.1 hf).mp q)), bs_f5 h hf, bs_o11 h hf, bs_bnd, bs_l11 h hf, bs_let]
  by_cases c3 : bs_k M f = 3
  · rw [if_pos ((bs_kis3 h.1 hf).mpr c3), if_pos ((bs_kis3 h.1 hf).mpr c3)]
    obtain ⟨v, e1, e2, hb⟩ := bs_begun h 12
    rw [e1, e2, bs_bnd, bs_bnd]
    obtain ⟨z, S', v2, q1, q2, q3, q4⟩ := bs_judge38 hb (f := f) hf h4 h2
    rw [bs_nSF2] at q2 q3
    exact ⟨z, S', v2, q1, q2, q3, q4⟩
  · rw [if_neg (fun q => c3 ((bs_kis3 h.1 hf).mp q)), if_neg (fun q => c3 ((bs_kis3 h.1 hf).mp q))]
    exact bs_judge38 h hf h4 h2
end BsJudge
theorem bs_c_powL {b : Nat} (hb : b < 2 ^ 31) : ∀ d n i p, d < n → i + d < 2 ^ 31 → c_X5_power_L5 n (nI b) (nI (i + d)) (lN p) (nI i) = some (lN (p * b ^ d))
  | d, 0, i, p, hn, _ => absurd hn (Nat.not_lt_zero _)
  | 0, n + 1, i, p, _, hi => by
    rw [c_X5_power_L5, if_pos (nI_le (by omega) (by omega)), Nat.pow_zero, Nat.mul_one]
  | d + 1, n + 1, i, p, hn, hi => by
    rw [c_X5_power_L5, if_neg (nI_ge (by omega) (by omega)), bs_let, nI_l hb, lN_mul, nI_1, show i + (d + 1) = i + 1 + d by omega, bs_c_powL hb d n (i + 1) (p * b) (by omega) (by omega), Nat.mul_assoc, ← Nat.pow_succ']
theorem bs_c_pow {b i : Nat} (hb : b < 2 ^ 31) (hi : i < 1000) : c_X5_power (nI b) (nI i) = some (lN (b ^ i)) := by
  have := bs_c_powL hb i bigN 0 1 (by unfold bigN; omega) (by omega)
  rw [Nat.zero_add, Nat.one_mul] at this
  exact this
theorem bs_m_powL {b : Nat} (hb : b < 2 ^ 31) : ∀ d n i p, d < n → i + d < 2 ^ 31 → m_X6_power_L5 n (nI b) (nI (i + d)) (lN p) (nI i) = some (lN (p * b ^ d))
  | d, 0, i, p, hn, _ => absurd hn (Nat.not_lt_zero _)
  | 0, n + 1, i, p, _, hi => by
    rw [m_X6_power_L5, if_pos (nI_le (by omega) (by omega)), Nat.pow_zero, Nat.mul_one]
  | d + 1, n + 1, i, p, hn, hi => by
    rw [m_X6_power_L5, if_neg (nI_ge (by omega) (by omega)), bs_let, nI_l hb, lN_mul, nI_1, show i + (d + 1) = i + 1 + d by omega, bs_m_powL hb d n (i + 1) (p * b) (by omega) (by omega), Nat.mul_assoc, ← Nat.pow_succ']
theorem bs_m_pow {b i : Nat} (hb : b < 2 ^ 31) (hi : i < 1000) : m_X6_power (nI b) (nI i) = some (lN (b ^ i)) := by
  have := bs_m_powL hb i bigN 0 1 (by unfold bigN; omega) (by omega)
  rw [Nat.zero_add, Nat.one_mul] at this
  exact this
