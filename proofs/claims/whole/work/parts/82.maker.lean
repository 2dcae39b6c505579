/-! the reference is made -/
/-- of the reference, which lies at a, so many rows are made; its ints are f -/
def bs_P (S2 S : Mem) (a j : Nat) (f : Nat → Int32) : Prop :=
  mNx S = a + 1 + j ∧ mKd S a = 7 ∧ (∀ k, mOff k ≠ 0 → mOff k ≤ j → mKd S (a + mOff k) = 8 + mZ k ∧ mLn S (a + mOff k) = mLen k) ∧ (∀ b, a < b → b < mNx S → ∀ q, mI S b q = 0 ∧ mL S b q = 0) ∧ (∀ k, mR S a k = if mOff k ≠ 0 ∧ mOff k ≤ j then some (a + mOff k) else none) ∧ (∀ k, mI S a k = f k) ∧
  (mW S = mW S2 ∧ ∀ b, b < a → mKd S b = mKd S2 b ∧ mLn S b = mLn S2 b ∧ mI S b = mI S2 b ∧ mL S b = mL S2 b ∧ mR S b = mR S2 b)
theorem bs_P1 {S2 S : Mem} {a j : Nat} {f : Nat → Int32} (h : bs_P S2 S a j f) {k0 kd ln : Nat} (hk : mOff k0 = j + 1) (hkd : kd = 8 + mZ k0) (hln : ln = mLen k0) : bs_P S2 (mSR (mNew S kd ln ln) a k0 (some (mNx S))) a (j + 1) f := by
  obtain ⟨h1, h2, h3, h4, h5, h6, h7, h8⟩ := h
  have nea : a ≠ mNx S := by omega
  have o := mNew_other S kd ln ln (b := a) nea
  have inj : ∀ k, mOff k = j + 1 → k = k0 := fun k q => mOff_inj k (mOff_big (by omega)) k0 (mOff_big (by omega)) (by omega) (by omega)
  have ro : ∀ b, b ≠ a → mR (mSR (mNew S kd ln ln) a k0 (some (mNx S))) b = mR (mNew S kd ln ln) b := fun b hb => ((mSame_R (mNew S kd ln ln) a k0 (some (mNx S))).2.2.2.2.2 b hb).2.2
  refine ⟨?_, ?_, ?_, ?_, ?_, ?_, h7, ?_⟩
  · show mNx S + 1 = _
    omega
  · show mKd (mNew S kd ln ln) a = 7
    rw [mKd_new, if_neg nea]
    exact h2
  · intro k c1 c2
    by_cases c : mOff k = j + 1
    · have := inj k c
      subst this
      have ea : a + mOff k = mNx S := by omega
      refine ⟨?_, ?_⟩
      · show mKd (mNew S kd ln ln) _ = _
        rw [mKd_new, if_pos ea, hkd]
      · show mLn (mNew S kd ln ln) _ = _
        rw [ea, ← hln]
        simp [mLn, mNew, up1]
    · obtain ⟨z1, z2⟩ := h3 k c1 (by omega)
      have ne : a + mOff k ≠ mNx S := by omega
      refine ⟨?_, ?_⟩
      · show mKd (mNew S kd ln ln) _ = _
        rw [mKd_new, if_neg ne]
        exact z1
      · rw [← z2]
        show mLn (mNew S kd ln ln) _ = _
        simp [mLn, mNew, up1, ne]
  · intro b hb hb2 q
    have hb2 : b < mNx S + 1 := hb2
    show mI (mNew S kd ln ln) b q = 0 ∧ mL (mNew S kd ln ln) b q = 0
    by_cases c : b = mNx S
    · subst c
      exact ⟨by simp [mI, mNew, up1], by simp [mL, mNew, up1]⟩
    · obtain ⟨z1, z2, -⟩ := mNew_other S kd ln ln (b := b) c
      rw [z1, z2]
      exact h4 b hb (by omega) q
  · intro k
    rw [bs_mR]
    by_cases c : k = k0
    · rw [if_pos ⟨rfl, c⟩, c, if_pos ⟨by omega, by omega⟩, hk, show a + (j + 1) = mNx S by omega]
    · rw [if_neg (fun q => c q.2), show mR (mNew S kd ln ln) a k = mR S a k from congrFun o.2.2 k, h5 k]
      by_cases c2 : mOff k ≠ 0 ∧ mOff k ≤ j
      · rw [if_pos c2, if_pos ⟨c2.1, by omega⟩]
      · rw [if_neg c2, if_neg (fun q => c2 ⟨q.1, by have := q.2; have : mOff k ≠ j + 1 := fun z => c (inj k z); omega⟩)]
  · intro k
    show mI (mNew S kd ln ln) a k = f k
    rw [show mI (mNew S kd ln ln) a k = mI S a k from congrFun o.1 k]
    exact h6 k
  · intro b hb
    obtain ⟨z1, z2, z3, z4, z5⟩ := h8 b hb
    have ne : b ≠ mNx S := by omega
    obtain ⟨w1, w2, w3⟩ := mNew_other S kd ln ln ne
    refine ⟨?_, ?_, w1.trans z3, w2.trans z4, (ro b (by omega)).trans (w3.trans z5)⟩
    · show mKd (mNew S kd ln ln) b = _
      rw [mKd_new, if_neg ne]
      exact z1
    · rw [← z2]
      show mLn (mNew S kd ln ln) b = _
      simp [mLn, mNew, up1, ne]
theorem bs_PI {S2 S : Mem} {a j : Nat} {f : Nat → Int32} (h : bs_P S2 S a j f) (k0 : Nat) (v : Int32) : bs_P S2 (mSI S a k0 v) a j (fun k => if k = k0 then v else f k) := by
  obtain ⟨h1, h2, h3, h4, h5, h6, h7, h8⟩ := h
  refine ⟨h1, h2, h3, ?_, h5, ?_, h7, ?_⟩
  · intro b hb hb2 q
    rw [bs_mI_ne (by omega)]
    exact h4 b hb hb2 q
  · intro k
    show mI (mSI S a k0 v) a k = if k = k0 then v else f k
    rw [bs_mI]
    by_cases c : k = k0
    · rw [if_pos ⟨rfl, c⟩, if_pos c]
    · rw [if_neg (fun q => c q.2), if_neg c]
      exact h6 k
  · intro b hb
    obtain ⟨z1, z2, z3, z4, z5⟩ := h8 b hb
    exact ⟨z1, z2, (bs_mI_ne (by omega)).trans z3, z4, z5⟩
theorem bs_P0 (S2 : Mem) : bs_P S2 (mNew S2 7 0 (cN 6)) (mNx S2) 0 (fun _ => 0) := by
  refine ⟨rfl, by rw [mKd_new, if_pos rfl], fun k c1 c2 => absurd c2 (by omega), ?_, ?_, ?_, rfl, ?_⟩
  · intro b hb hb2
    have hb2 : b < mNx S2 + 1 := hb2
    omega
  · intro k
    rw [if_neg (by omega)]
    simp [mR, mNew, up1]
  · intro k
    simp [mI, mNew, up1]
  · intro b hb
    have ne : b ≠ mNx S2 := by omega
    obtain ⟨w1, w2, w3⟩ := mNew_other S2 7 0 (cN 6) ne
    refine ⟨by rw [mKd_new, if_neg ne], ?_, w1, w2, w3⟩
    simp [mLn, mNew, up1, ne]
/-- the reference as it begins -/
def bs_M0 (a : Nat) : MS := (a, fun k => if k = 25 then -5 else if k = 24 then -5 else 0, fun _ _ => 0, fun _ => 0)
theorem bs_fv6 (S : Mem) (a : Nat) : ∀ k, k < 45 → fv 6 S a k = if mOff k = 0 then .int (mI S a k) else va_rf (mR S a k) := by
  intro k hk
  rcases k with _ | _ | _ | _ | _ | _ | _ | _ | _ | _ | _ | _ | _ | _ | _ | _ | _ | _ | _ | _ | _ | _ | _ | _ | _ | _ | _ | _ | _ | _ | _ | _ | _ | _ | _ | _ | _ | _ | _ | _ | _ | _ | _ | _ | _ | k
  · rfl
  · rfl
  · rfl
  · rfl
  · rfl
  · rfl
  · rfl
  · rfl
  · rfl
  · rfl
  · rfl
  · rfl
  · rfl
  · rfl
  · rfl
  · rfl
  · rfl
  · rfl
  · rfl
  · rfl
  · rfl
  · rfl
  · rfl
  · rfl
  · rfl
  · rfl
  · rfl
  · rfl
  · rfl
  · rfl
  · rfl
  · rfl
  · rfl
  · rfl
  · rfl
  · rfl
  · rfl
  · rfl
  · rfl
  · rfl
  · rfl
  · rfl
  · rfl
  · rfl
  · rfl
  · omega
theorem bs_made (S2 : Mem) : ∃ S4, c_X6_init (mNew S2 7 0 (cN 6)) (mNx S2) = some S4 ∧ bs_P S2 S4 (mNx S2) 23 (fun k => if k = 25 then -5 else if k = 24 then -5 else 0) ∧ mSl S4 ≤ mSl S2 + 50000 := by
  have p0 := bs_P0 S2
  have p1 := bs_P1 p0 (k0 := 1) (kd := 8) (ln := 30) (by decide) (by decide) (by decide)
  have p2 := bs_P1 p1 (k0 := 2) (kd := 8) (ln := 30) (by decide) (by decide) (by decide)
  have p3 := bs_P1 p2 (k0 := 3) (kd := 8) (ln := 30) (by decide) (by decide) (by decide)
  have p4 := bs_P1 p3 (k0 := 4) (kd := 8) (ln := 30) (by decide) (by decide) (by decide)
  have p5 := bs_P1 p4 (k0 := 5) (kd := 8) (ln := 30) (by decide) (by decide) (by decide)
  have p6 := bs_P1 p5 (k0 := 6) (kd := 8) (ln := 30) (by decide) (by decide) (by decide)
  have p7 := bs_P1 p6 (k0 := 7) (kd := 8) (ln := 30) (by decide) (by decide) (by decide)
  have p8 := bs_P1 p7 (k0 := 8) (kd := 8) (ln := 540) (by decide) (by decide) (by decide)
  have p9 := bs_P1 p8 (k0 := 9) (kd := 8) (ln := 540) (by decide) (by decide) (by decide)
  have p10 := bs_P1 p9 (k0 := 10) (kd := 8) (ln := 540) (by decide) (by decide) (by decide)
  have p11 := bs_P1 p10 (k0 := 11) (kd := 8) (ln := 540) (by decide) (by decide) (by decide)
  have p12 := bs_P1 p11 (k0 := 17) (kd := 8) (ln := 60) (by decide) (by decide) (by decide)
  have q1 := bs_PI p12 24 (-5)
  have q2 := bs_PI q1 25 (-5)
  have p13 := bs_P1 q2 (k0 := 28) (kd := 8) (ln := 35000) (by decide) (by decide) (by decide)
  have p14 := bs_P1 p13 (k0 := 32) (kd := 10) (ln := 20) (by decide) (by decide) (by decide)
  have p15 := bs_P1 p14 (k0 := 33) (kd := 9) (ln := 400) (by decide) (by decide) (by decide)
  have p16 := bs_P1 p15 (k0 := 35) (kd := 8) (ln := 1200) (by decide) (by decide) (by decide)
  have p17 := bs_P1 p16 (k0 := 37) (kd := 8) (ln := 200) (by decide) (by decide) (by decide)
  have p18 := bs_P1 p17 (k0 := 38) (kd := 8) (ln := 2400) (by decide) (by decide) (by decide)
  have p19 := bs_P1 p18 (k0 := 39) (kd := 10) (ln := 2400) (by decide) (by decide) (by decide)
  have p20 := bs_P1 p19 (k0 := 40) (kd := 8) (ln := 2400) (by decide) (by decide) (by decide)
  have p21 := bs_P1 p20 (k0 := 41) (kd := 8) (ln := 200) (by decide) (by decide) (by decide)
  have p22 := bs_P1 p21 (k0 := 43) (kd := 8) (ln := 12) (by decide) (by decide) (by decide)
  have p23 := bs_P1 p22 (k0 := 44) (kd := 8) (ln := 4) (by decide) (by decide) (by decide)
  have e30 : Int32.toNatClampNeg (30 : Int32) = 30 := bs_cl (n := 30) (by decide)
  have e540 : Int32.toNatClampNeg (540 : Int32) = 540 := bs_cl (n := 540) (by decide)
  have e60 : Int32.toNatClampNeg (60 : Int32) = 60 := bs_cl (n := 60) (by decide)
  have e35000 : Int32.toNatClampNeg (35000 : Int32) = 35000 := bs_cl (n := 35000) (by decide)
  have e20 : Int32.toNatClampNeg (20 : Int32) = 20 := bs_cl (n := 20) (by decide)
  have e400 : Int32.toNatClampNeg (400 : Int32) = 400 := bs_cl (n := 400) (by decide)
  have e1200 : Int32.toNatClampNeg (1200 : Int32) = 1200 := bs_cl (n := 1200) (by decide)
  have e200 : Int32.toNatClampNeg (200 : Int32) = 200 := bs_cl (n := 200) (by decide)
  have e2400 : Int32.toNatClampNeg (2400 : Int32) = 2400 := bs_cl (n := 2400) (by decide)
  have e12 : Int32.toNatClampNeg (12 : Int32) = 12 := bs_cl (n := 12) (by decide)
  have e4 : Int32.toNatClampNeg (4 : Int32) = 4 := bs_cl (n := 4) (by decide)
  have sN : ∀ S kd ln sl, mSl (mNew S kd ln sl) = mSl S + sl := fun _ _ _ _ => rfl
  have sR : ∀ S a k v, mSl (mSR S a k v) = mSl S := fun _ _ _ _ => rfl
  have sI : ∀ S a k v, mSl (mSI S a k v) = mSl S := fun _ _ _ _ => rfl
  have c6 : cN 6 = 45 := rfl
  unfold c_X6_init
  simp only [bs_let, e30, e540, e60, e35000, e20, e400, e1200, e200, e2400, e12, e4]
  refine ⟨_, rfl, p23, ?_⟩
  simp only [sN, sR, sI, c6]
  omega
theorem bs_isN {S2 S4 : Mem} (h : bs_P S2 S4 (mNx S2) 23 (fun k => if k = 25 then -5 else if k = 24 then -5 else 0)) : mIsN S4 (bs_M0 (mNx S2)) ∧ ∀ q, nFree (bs_M0 (mNx S2)) q → mKd S4 q ≠ 0 ∧ mKd S4 q ≠ 14 := by
  obtain ⟨h1, h2, h3, h4, h5, h6, h7, h8⟩ := h
  have lt : ∀ k, mOff k ≠ 0 → mOff k ≤ 23 := fun k hk => by have := mOff_lt k (mOff_big hk); omega
  refine ⟨⟨h2, ?_, ?_⟩, ?_⟩
  · intro k hk
    show fv 6 S4 (mNx S2) k = nfv (bs_M0 (mNx S2)) k
    rw [bs_fv6 _ _ k hk]
    unfold nfv
    by_cases c : mOff k = 0
    · rw [if_pos c, if_pos c, h6 k]
      rfl
    · rw [if_neg c, if_neg c, h5 k, if_pos ⟨c, lt k c⟩]
      rfl
  · intro k hk
    have hl := lt k hk
    obtain ⟨z1, z2⟩ := h3 k hk hl
    refine ⟨z1, z2, ?_⟩
    intro j
    obtain ⟨w1, w2⟩ := h4 (mNx S2 + mOff k) (by omega) (by omega) j
    have hz : mZ k = 0 ∨ mZ k = 1 ∨ mZ k = 2 := by
      unfold mZ
      split <;> omega
    have h33 : k = 33 ↔ mZ k = 1 := by
      constructor
      · rintro rfl; rfl
      · intro q
        unfold mZ at q
        split at q <;> omega
    show avT S4 (mNx S2 + mOff k) j (8 + mZ k) = nav (bs_M0 (mNx S2)) k j
    unfold nav
    rcases hz with q | q | q
    · rw [q, if_neg (fun z => by have := h33.mp z; omega)]
      show Value.int (mI S4 (mNx S2 + mOff k) j) = Value.int 0
      rw [w1]
    · rw [q, if_pos (h33.mpr q)]
      show Value.long (mL S4 (mNx S2 + mOff k) j) = Value.long 0
      rw [w2]
    · rw [q, if_neg (fun z => by have := h33.mp z; omega)]
      show Value.int (mI S4 (mNx S2 + mOff k) j) = Value.int 0
      rw [w1]
  · intro q hq
    have hq : mNx S2 ≤ q ∧ q < mNx S2 + 24 := hq
    by_cases c : q = mNx S2
    · rw [c, h2]
      exact ⟨by decide, by decide⟩
    · have sur : ∀ i, i < 24 → i ≠ 0 → ∃ k, k < 45 ∧ mOff k = i := by decide +kernel
      obtain ⟨k, -, hk⟩ := sur (q - mNx S2) (by omega) (by omega)
      obtain ⟨z1, -⟩ := h3 k (by omega) (lt k (by omega))
      rw [show mNx S2 + mOff k = q by omega] at z1
      rw [z1]
      have hz : mZ k = 0 ∨ mZ k = 1 ∨ mZ k = 2 := by
        unfold mZ
        split <;> omega
      omega
