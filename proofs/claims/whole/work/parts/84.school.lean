/-! the school is made; the relation as both begin -/
def bs_Y0 (N w : Nat) : bs_Ly := fun t _ => if t = 0 then N else if t = 9 then N + 1 else if t = 10 then N + 2 else if t = 3 then N + 3 else if t = 4 then N + 4 else if t = 5 then N + 5 else if t = 6 then N + 6 else if t = 13 then w else 0
/-- what there is of the school as it is new -/
def bs_Sc (S0 S2 : Mem) : Prop :=
  mNx S2 = mNx S0 + 7 ∧ mW S2 = mW S0 ∧ mSl S2 ≤ mSl S0 + 600 ∧ (∀ b, b < mNx S0 → mKd S2 b = mKd S0 b ∧ mLn S2 b = mLn S0 b ∧ mI S2 b = mI S0 b) ∧
  (mKd S2 (mNx S0) = 6 ∧ mKd S2 (mNx S0 + 1) = 11 ∧ mKd S2 (mNx S0 + 2) = 13 ∧ mKd S2 (mNx S0 + 3) = 4 ∧ mKd S2 (mNx S0 + 4) = 3 ∧ mKd S2 (mNx S0 + 5) = 8 ∧ mKd S2 (mNx S0 + 6) = 8) ∧
  (mLn S2 (mNx S0 + 1) = 30 ∧ mLn S2 (mNx S0 + 2) = 200 ∧ mLn S2 (mNx S0 + 5) = 224 ∧ mLn S2 (mNx S0 + 6) = 64) ∧
  (mR S2 (mNx S0) 0 = some (mNx S0 + 1) ∧ mR S2 (mNx S0) 2 = some (mNx S0 + 2) ∧ mR S2 (mNx S0) 4 = some (mNx S0 + 3) ∧ mR S2 (mNx S0) 5 = some (mNx S0 + 6) ∧ mR S2 (mNx S0 + 3) 0 = some (mNx S0 + 4) ∧ mR S2 (mNx S0 + 3) 1 = some (mNx S0 + 5) ∧ mR S2 (mNx S0 + 3) 5 = none ∧ mR S2 (mNx S0 + 3) 6 = none) ∧
  (∀ k, mI S2 (mNx S0) k = 0) ∧ (∀ k, mI S2 (mNx S0 + 3) k = if k = 9 then -5 else if k = 8 then -5 else 0) ∧ mI S2 (mNx S0 + 4) 0 = 0
theorem bs_schoolMade (S0 : Mem) : ∃ S2, c_X5_init (mNew S0 6 0 (cN 5)) (mNx S0) = some S2 ∧ bs_Sc S0 S2 := by
  refine ⟨_, rfl, ?_⟩
  have e30 : Int32.toNatClampNeg (30 : Int32) = 30 := rfl
  have e200 : Int32.toNatClampNeg (200 : Int32) = 200 := rfl
  have e224 : Int32.toNatClampNeg (224 : Int32) = 224 := rfl
  have e64 : Int32.toNatClampNeg (64 : Int32) = 64 := rfl
  rw [e30, e200, e224, e64]
  have nx : ∀ S kd ln sl, mNx (mNew S kd ln sl) = mNx S + 1 := fun _ _ _ _ => rfl
  have nR : ∀ S a k v, mNx (mSR S a k v) = mNx S := fun _ _ _ _ => rfl
  have nI2 : ∀ S a k v, mNx (mSI S a k v) = mNx S := fun _ _ _ _ => rfl
  have kR : ∀ S a k v b, mKd (mSR S a k v) b = mKd S b := fun _ _ _ _ _ => rfl
  have kI : ∀ S a k v b, mKd (mSI S a k v) b = mKd S b := fun _ _ _ _ _ => rfl
  have lR : ∀ S a k v b, mLn (mSR S a k v) b = mLn S b := fun _ _ _ _ _ => rfl
  have lI : ∀ S a k v b, mLn (mSI S a k v) b = mLn S b := fun _ _ _ _ _ => rfl
  have iR : ∀ S a k v b j, mI (mSR S a k v) b j = mI S b j := fun _ _ _ _ _ _ => rfl
  have rI : ∀ S a k v b j, mR (mSI S a k v) b j = mR S b j := fun _ _ _ _ _ _ => rfl
  have lN' : ∀ S kd ln sl b, mLn (mNew S kd ln sl) b = if b = mNx S then ln else mLn S b := fun _ _ _ _ _ => rfl
  have iN' : ∀ S kd ln sl b j, mI (mNew S kd ln sl) b j = if b = mNx S then 0 else mI S b j := fun S kd ln sl b j => by
    show up1 S.2.2.1 (mNx S) (fun _ => 0) b j = _
    unfold up1
    split <;> rfl
  have rN' : ∀ S kd ln sl b j, mR (mNew S kd ln sl) b j = if b = mNx S then none else mR S b j := fun S kd ln sl b j => by
    show up1 S.2.2.2.2.1 (mNx S) (fun _ => none) b j = _
    unfold up1
    split <;> rfl
  have d1 : ¬ mNx S0 = mNx S0 + 1 := by omega
  have d2 : ¬ mNx S0 = mNx S0 + 1 + 1 := by omega
  have d3 : ¬ mNx S0 = mNx S0 + 1 + 1 + 1 := by omega
  have d4 : ¬ mNx S0 = mNx S0 + 1 + 1 + 1 + 1 := by omega
  have d5 : ¬ mNx S0 = mNx S0 + 1 + 1 + 1 + 1 + 1 := by omega
  have d6 : ¬ mNx S0 = mNx S0 + 1 + 1 + 1 + 1 + 1 + 1 := by omega
  unfold bs_Sc
  refine ⟨rfl, rfl, ?_, ?_, ?_, ?_, ?_, ?_, ?_, ?_⟩
  · show mSl S0 + 11 + 30 + 200 + 12 + 5 + 224 + 64 ≤ _
    omega
  · intro b hb
    refine ⟨?_, ?_, ?_⟩
    · simp only [kR, kI, mKd_new, nx, nR, nI2]
      repeat rw [if_neg (by omega)]
    · simp only [lR, lI, lN', nx, nR, nI2]
      repeat rw [if_neg (by omega)]
    · funext j
      simp only [iR, bs_mI, iN', nx, nR, nI2]
      repeat rw [if_neg (by omega)]
  · simp only [kR, kI, mKd_new, nx, nR, nI2]
    simp [d1, d2, d3, d4, d5, d6]
  · simp only [lR, lI, lN', nx, nR, nI2]
    simp [d1, d2, d3, d4, d5, d6]
  · simp only [rI, bs_mR, rN', nx, nR, nI2]
    simp [d1, d2, d3, d4, d5, d6]
  · intro k
    simp only [iR, bs_mI, iN', nx, nR, nI2]
    simp [d1, d2, d3, d4, d5, d6]
  · intro k
    simp only [iR, bs_mI, iN', nx, nR, nI2]
    simp [d1, d2, d3, d4, d5, d6]
  · simp only [iR, bs_mI, iN', nx, nR, nI2]
    simp [d1, d2, d3, d4, d5, d6]
