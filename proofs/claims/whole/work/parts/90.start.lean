/-- the class's world before anything is made: the weights alone -/
def S0ok (S0 : Mem) : Prop := (∀ q, mKd S0 q = if q = mW S0 then 14 else 0) ∧ mW S0 < mNx S0 ∧ mLn S0 (mW S0) = 6 ∧ (mI S0 (mW S0) 0 = 100000 ∧ mI S0 (mW S0) 1 = 10000 ∧ mI S0 (mW S0) 2 = 1000 ∧ mI S0 (mW S0) 3 = 100 ∧ mI S0 (mW S0) 4 = 10 ∧ mI S0 (mW S0) 5 = 1) ∧ mSl S0 = 0
theorem sim_all (S0 : Mem) (h0 : S0ok S0) (L : Nat) (xs : Nat → Int32) (hL : L ≤ 3072) : ∃ (S2 S4 : Mem) (M : MS) (w : Int32 × Mem × MS), c_X5_init (mNew S0 6 0 (cN 5)) (mNx S0) = some S2 ∧ c_X6_init (mNew S2 7 0 (cN 6)) (mNx S2) = some S4 ∧ M.1 = mNx S2 ∧ mIsN S4 M ∧ (∀ q, nFree M q → mKd S4 q ≠ 0 ∧ mKd S4 q ≠ 14) ∧ mKd (mDrop S4 M.1) (mNx S0) = 6 ∧ l_L (mNx S0) L xs bigN (mDrop S4 M.1) M 0 = some w ∧ w.1 = 1 ∧ mNx S0 ≤ mNx S2 ∧ mNx w.2.1 ≤ mNx S0 + 600000 ∧ mSl w.2.1 ≤ mSl S0 + 7302250 := by
  obtain ⟨k0, k1, k2, k3, k4⟩ := h0
  obtain ⟨S2, a1, a2⟩ := bs_schoolMade S0
  obtain ⟨S4, b1, b2, b3⟩ := bs_made S2
  obtain ⟨c1, c2⟩ := bs_isN b2
  have R := bs_beginRel (by rw [k0, if_pos rfl]) k1 k2 k3 a2 b2
  obtain ⟨w, Y', d1, d2, d3⟩ := bs_loop (a1 := mNx S0) hL xs 512 bigN (bs_Y0 (mNx S0) (mW S0)) (mDrop S4 (mNx S2)) (bs_M0 (mNx S2)) 0 R rfl rfl (by omega) (by omega) (by decide)
  have nx : mNx S4 = mNx S2 + 24 := b2.1
  have n2 := a2.1
  have s2 := a2.2.2.1
  have r1 := d3.2.2.2.2.2.2.2.1
  have n30 := bs_n30 d3.1
  have e200 := d3.1.2.1.2
  obtain ⟨c5, c51, c52, c53⟩ := d3.2.1.2.2.2.2.2.2.1
  obtain ⟨c6, c61, c62, c63⟩ := d3.2.1.2.2.2.2.2.2.2.2.1
  refine ⟨S2, S4, bs_M0 (mNx S2), w, a1, b1, rfl, c1, c2, ?_, d1, d2, by omega, ?_, ?_⟩
  · show mKd (mDrop S4 (mNx S2)) (mNx S0) = 6
    exact bs_kk R 0 0 rfl
  · have := r1.1
    omega
  · have := r1.2
    omega
