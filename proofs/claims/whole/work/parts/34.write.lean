/-! a rod is written, on both sides -/
section BsWrite
variable {x0 s0 : Nat} {Y : bs_Ly} {S : Mem} {M : MS}
theorem bs_wu5 {k d : Nat} (hd : d < 16) : 5 * bs_wu k d ≤ d ∧ d - 5 * bs_wu k d ≤ 15 ∧ (k ≠ 2 → d - 5 * bs_wu k d ≤ 5) ∧ (k = 2 → bs_wu k d = 0) := by
  unfold bs_wu
  by_cases c : k = 2
  · rw [if_pos c]
    exact ⟨by omega, by omega, fun q => absurd c q, fun _ => rfl⟩
  · rw [if_neg c]
    by_cases c2 : d < 10
    · rw [if_pos c2]
      exact ⟨by omega, by omega, fun _ => by omega, fun q => absurd q c⟩
    · rw [if_neg c2]
      exact ⟨by omega, by omega, fun _ => by omega, fun q => absurd q c⟩
theorem bs_write (h : bs_Rel x0 s0 Y S M) {r d : Nat} (hr : bs_rv M r) (hq : nF M 20 = 1 ∨ nF M 22 = 0 ∨ Y 14 0 = 1) (hd : d < 16) :
    c_X4_write S (Y 2 r) (nI d) = some (mSI (mSI S (Y 2 r) 6 (nI (bs_wu (bs_k M (r / 18)) d))) (Y 2 r) 5 (nI (d - 5 * bs_wu (bs_k M (r / 18)) d))) ∧
    m_X6_write M (nI r) (nI d) = some (nSA (nSA M 11 r (nI (bs_wu (bs_k M (r / 18)) d))) 10 r (nI (d - 5 * bs_wu (bs_k M (r / 18)) d))) ∧
    bs_Rel x0 s0 Y (mSI (mSI S (Y 2 r) 6 (nI (bs_wu (bs_k M (r / 18)) d))) (Y 2 r) 5 (nI (d - 5 * bs_wu (bs_k M (r / 18)) d))) (nSA (nSA M 11 r (nI (bs_wu (bs_k M (r / 18)) d))) 10 r (nI (d - 5 * bs_wu (bs_k M (r / 18)) d))) := by
  have h5 := bs_rv540 h.1 hr
  obtain ⟨w1, w2, w3, w4⟩ := @bs_wu5 (bs_k M (r / 18)) d hd
  have w5 := @bs_wu_le (bs_k M (r / 18)) d
  have g := bs_rgN h.1 hr
  refine ⟨?_, ?_, ?_⟩
  · unfold c_X4_write
    rw [bs_c_wu h hr (by omega), bs_bnd, bs_let, bs_let, bs_let, bs_mI, if_pos ⟨rfl, rfl⟩, bs_lit 5, pk_mul, pk_sub w1]
  · unfold m_X6_write m_X6_write_J14 m_X6_write_J32
    rw [bs_m_kindOf h.1 hr, bs_bnd]
    by_cases c : bs_k M (r / 18) = 2
    · rw [if_pos ((bs_kis2 h.1 hr.1).mpr c), if_neg bs_10, bs_gd (bs_inB h5 (by decide)), bs_let, if_neg bs_10, bs_gd (bs_inB h5 (by decide)), bs_let, bs_cl (by omega), w4 c]
      rfl
    · rw [if_neg (fun q => c ((bs_kis2 h.1 hr.1).mp q)), if_pos rfl, bs_m_upperOf (by omega), bs_bnd, bs_gd (bs_inB h5 (by decide)), bs_let, if_pos rfl, bs_bnd, bs_let, bs_gd (bs_inB h5 (by decide)), bs_let, bs_cl (by omega)]
      have e : bs_wu 0 d = bs_wu (bs_k M (r / 18)) d := by unfold bs_wu; rw [if_neg (by decide), if_neg c]
      rw [e, bs_lit 5, pk_mul, pk_sub w1]
  · have h1 := bs_pR11 h hr hq (nI (bs_wu (bs_k M (r / 18)) d)) ⟨g.1, g.2.1, ⟨_, rfl, w5, w4⟩⟩
    have g1 := bs_rgN h1.1 (r := r) hr
    exact bs_pR10 h1 (r := r) hr hq _ ⟨g1.1, ⟨_, rfl, w2, w3⟩, g1.2.2⟩
end BsWrite
