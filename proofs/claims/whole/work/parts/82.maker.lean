/-! the reference is made -/
/-- of the reference, which lies at a, so many rows are made; its ints are f -/
def bs_P (S2 S : Mem) (a j : Nat) (f : Nat → Int32) : Prop :=
  mNx S = a + 1 + j ∧ mKd S a = 7 ∧ (∀ k, mOff k ≠ 0 → mOff k ≤ j → mKd S (a + mOff k) = 8 + mZ k ∧ mLn S (a + mOff k) = mLen k) ∧ (∀ b, a < b → ∀ q, mI S b q = 0 ∧ mL S b q = 0) ∧ (∀ k, mR S a k = if mOff k ≠ 0 ∧ mOff k ≤ j then some (a + mOff k) else none) ∧ (∀ k, mI S a k = f k) ∧
  (mW S = mW S2 ∧ ∀ b, b < a → mKd S b = mKd S2 b ∧ mLn S b = mLn S2 b ∧ mI S b = mI S2 b ∧ mL S b = mL S2 b ∧ mR S b = mR S2 b)
theorem bs_P1 {S2 S : Mem} {a j : Nat} {f : Nat → Int32} (h : bs_P S2 S a j f) {k0 kd ln : Nat} (hk : mOff k0 = j + 1) (hkd : kd = 8 + mZ k0) (hln : ln = mLen k0) : bs_P S2 (mSR (mNew S kd ln ln) a k0 (some (mNx S))) a (j + 1) f := by
  obtain ⟨h1, h2, h3, h4, h5, h6, h7, h8⟩ := h
  have nea : a ≠ mNx S := by omega
  have o := mNew_other S kd ln ln (b := a) nea
  have inj : ∀ k, mOff k = j + 1 → k = k0 := fun k q => mOff_inj k (mOff_big (by omega)) k0 (mOff_big (by omega)) (by omega) (by omega)
  have ro : ∀ b, b ≠ a → mR (mSR (mNew S kd ln ln) a k0 (some (mNx S))) b = mR (mNew S kd ln ln) b := fun b hb => ((mSame_R (mNew S kd ln ln) a k0 (some (mNx S))).2.2.2.2.2 b hb).2.2
  refine ⟨?_, ?_, ?_, ?_, ?_, ?_, h7, ?_⟩
  · show mNx S + 1 = _
    omega
  · show mKd (mNew S kd ln ln) a = 7
    rw [mKd_new, if_neg nea]
    exact h2
  · intro k c1 c2
    by_cases c : mOff k = j + 1
    · have := inj k c
      subst this
      have ea : a + mOff k = mNx S := by omega
      refine ⟨?_, ?_⟩
      · show mKd (mNew S kd ln ln) _ = _
        rw [mKd_new, if_pos ea, hkd]
      · show mLn (mNew S kd ln ln) _ = _
        rw [ea, ← hln]
        simp [mLn, mNew, up1]
    · obtain ⟨z1, z2⟩ := h3 k c1 (by omega)
      have ne : a + mOff k ≠ mNx S := by omega
      refine ⟨?_, ?_⟩
      · show mKd (mNew S kd ln ln) _ = _
        rw [mKd_new, if_neg ne]
        exact z1
      · rw [← z2]
        show mLn (mNew S kd ln ln) _ = _
        simp [mLn, mNew, up1, ne]
  · intro b hb q
    show mI (mNew S kd ln ln) b q = 0 ∧ mL (mNew S kd ln ln) b q = 0
    by_cases c : b = mNx S
    · subst c
      exact ⟨by simp [mI, mNew, up1], by simp [mL, mNew, up1]⟩
    · obtain ⟨z1, z2, -⟩ := mNew_other S kd ln ln (b := b) c
      rw [z1, z2]
      exact h4 b hb q
  · intro k
    rw [bs_mR]
    by_cases c : k = k0
    · rw [if_pos ⟨rfl, c⟩, c, if_pos ⟨by omega, by omega⟩, hk, show a + (j + 1) = mNx S by omega]
    · rw [if_neg (fun q => c q.2), show mR (mNew S kd ln ln) a k = mR S a k from congrFun o.2.2 k, h5 k]
      by_cases c2 : mOff k ≠ 0 ∧ mOff k ≤ j
      · rw [if_pos c2, if_pos ⟨c2.1, by omega⟩]
      · rw [if_neg c2, if_neg (fun q => c2 ⟨q.1, by have := q.2; have : mOff k ≠ j + 1 := fun z => c (inj k z); omega⟩)]
  · intro k
    show mI (mNew S kd ln ln) a k = f k
    rw [show mI (mNew S kd ln ln) a k = mI S a k from congrFun o.1 k]
    exact h6 k
  · intro b hb
    obtain ⟨z1, z2, z3, z4, z5⟩ := h8 b hb
    have ne : b ≠ mNx S := by omega
    obtain ⟨w1, w2, w3⟩ := mNew_other S kd ln ln ne
    refine ⟨?_, ?_, w1.trans z3, w2.trans z4, (ro b (by omega)).trans (w3.trans z5)⟩
    · show mKd (mNew S kd ln ln) b = _
      rw [mKd_new, if_neg ne]
      exact z1
    · rw [← z2]
      show mLn (mNew S kd ln ln) b = _
      simp [mLn, mNew, up1, ne]
theorem bs_PI {S2 S : Mem} {a j : Nat} {f : Nat → Int32} (h : bs_P S2 S a j f) (k0 : Nat) (v : Int32) : bs_P S2 (mSI S a k0 v) a j (fun k => if k = k0 then v else f k) := by
  obtain ⟨h1, h2, h3, h4, h5, h6, h7, h8⟩ := h
  refine ⟨h1, h2, h3, ?_, h5, ?_, h7, ?_⟩
  · intro b hb q
    rw [bs_mI_ne (by omega)]
    exact h4 b hb q
  · intro k
    show mI (mSI S a k0 v) a k = if k = k0 then v else f k
    rw [bs_mI]
    by_cases c : k = k0
    · rw [if_pos ⟨rfl, c⟩, if_pos c]
    · rw [if_neg (fun q => c q.2), if_neg c]
      exact h6 k
  · intro b hb
    obtain ⟨z1, z2, z3, z4, z5⟩ := h8 b hb
    exact ⟨z1, z2, (bs_mI_ne (by omega)).trans z3, z4, z5⟩
theorem bs_P0 (S2 : Mem) : bs_P S2 (mNew S2 7 0 (cN 6)) (mNx S2) 0 (fun _ => 0) := by
  refine ⟨rfl, by rw [mKd_new, if_pos rfl], fun k c1 c2 => absurd c2 (by omega), ?_, ?_, ?_, rfl, ?_⟩
  · sorry
  · intro k
    rw [if_neg (by omega)]
    simp [mR, mNew, up1]
  · intro k
    simp [mI, mNew, up1]
  · intro b hb
    have ne : b ≠ mNx S2 := by omega
    obtain ⟨w1, w2, w3⟩ := mNew_other S2 7 0 (cN 6) ne
    refine ⟨by rw [mKd_new, if_neg ne], ?_, w1, w2, w3⟩
    simp [mLn, mNew, up1, ne]
