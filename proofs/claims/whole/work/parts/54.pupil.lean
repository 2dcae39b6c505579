/-! the pupil's row -/
section BsPupil
variable {x0 s0 : Nat} {Y : bs_Ly} {S : Mem} {M : MS}
theorem bs_grow6 (h : bs_Rel x0 s0 Y S M) {N : Nat} (hN : N = 2 * mLn S (Y 6 0)) (hc : ∃ c, N = 64 * c ∧ 0 < c ∧ c ≤ 40) : bs_Rel x0 s0 (bs_Yg Y 6 (mNx S)) (mSR (mCopy S (Y 6 0) N) (Y 0 0) 5 (some (mNx S))) M := by
  obtain ⟨hI, ⟨q1, q2, q3, q4, q5, q6, q7, q8, q9, q10, q11, q12, q13⟩, hi, hr, hP, hE, hO, ⟨m1, m2⟩, hH⟩ := id h
  have hlt := fun t i hv => bs_ltNx h (t := t) (i := i) hv
  have hY : ∀ t i, bs_val M t i → ¬ t = 6 → bs_Yg Y 6 (mNx S) t i = Y t i := fun t i _ c => if_neg (fun q => c q.1)
  have hY6 : bs_Yg Y 6 (mNx S) 6 0 = mNx S := if_pos ⟨rfl, rfl⟩
  have h60 : ∀ i, bs_val M 6 i → i = 0 := fun i q => q
  have hLn : ∀ a, a ≠ mNx S → mLn (mSR (mCopy S (Y 6 0) N) (Y 0 0) 5 (some (mNx S))) a = mLn S a := fun a ha => by simp [mLn, mSR, mCopy, up1, ha]
  have hLn6 : mLn (mSR (mCopy S (Y 6 0) N) (Y 0 0) 5 (some (mNx S))) (mNx S) = N := by simp [mLn, mSR, mCopy, up1]
  have hIn : ∀ a, a ≠ mNx S → mI (mSR (mCopy S (Y 6 0) N) (Y 0 0) 5 (some (mNx S))) a = mI S a := fun a ha => by funext j; simp [mI, mSR, mCopy, up1, ha]
  have hLl : ∀ a, a ≠ mNx S → mL (mSR (mCopy S (Y 6 0) N) (Y 0 0) 5 (some (mNx S))) a = mL S a := fun a ha => by funext j; simp [mL, mSR, mCopy, up1, ha]
  have hne : ∀ t i, bs_val M t i → Y t i ≠ mNx S := fun t i hv => Nat.ne_of_lt (hlt t i hv)
  refine ⟨hI, ⟨?_, ?_, ?_, ?_, ?_, ?_, ?_, ?_, ?_, ?_, ?_, ?_, ?_⟩, ?_, ?_, ?_, ?_, hO, ⟨?_, ?_⟩, hH⟩
  · intro t i hv
    show mKd (mCopy S (Y 6 0) N) _ = _
    rw [mKd_copy]
    by_cases c : t = 6
    · subst c
      rw [h60 i hv, hY6, if_pos rfl]
      rfl
    · rw [hY t i hv c, if_neg (hne t i hv)]
      exact q1 t i hv
  · intro t i t2 i2 hv hv2 e
    by_cases c : t = 6
    · subst c
      have := h60 i hv
      subst this
      by_cases c2 : t2 = 6
      · subst c2
        exact ⟨rfl, (h60 i2 hv2).symm⟩
      · rw [hY6, hY t2 i2 hv2 c2] at e
        exact absurd e.symm (hne t2 i2 hv2)
    · by_cases c2 : t2 = 6
      · subst c2
        have := h60 i2 hv2
        subst this
        rw [hY6, hY t i hv c] at e
        exact absurd e (hne t i hv)
      · rw [hY t i hv c, hY t2 i2 hv2 c2] at e
        exact q2 t i t2 i2 hv hv2 e
  · rw [hY 9 0 rfl (by decide), hLn _ (hne 9 0 rfl)]; exact q3
  · rw [hY 10 0 rfl (by decide), hLn _ (hne 10 0 rfl)]; exact q4
  · intro f hf
    rw [hY 11 f hf (by decide), hLn _ (hne 11 f hf)]; exact q5 f hf
  · intro e he
    rw [hY 8 e he (by decide), hLn _ (hne 8 e he)]; exact q6 e he
  · rw [hY 5 0 rfl (by decide), hLn _ (hne 5 0 rfl)]; exact q7
  · rw [hY 5 0 rfl (by decide), hLn _ (hne 5 0 rfl)]; exact q8
  · rw [hY6, hLn6]; exact hc
  · rw [hY6, hLn6, hN]; omega
  · exact q11
  · rw [hY 13 0 rfl (by decide), hLn _ (hne 13 0 rfl)]; exact q12
  · exact q13
  · intro t i k v hv hw
    by_cases c : t = 6
    · subst c
      rw [h60 i hv] at hw ⊢
      rw [hY6]
      have e : bs_w M 6 0 k = if k < 4 * bs_p M then some (nA M 35 k) else none := rfl
      have hk : k < 4 * bs_p M := by
        rw [e] at hw
        split at hw
        · assumption
        · cases hw
      have e2 : mI (mSR (mCopy S (Y 6 0) N) (Y 0 0) 5 (some (mNx S))) (mNx S) k = if k < mLn S (Y 6 0) then mI S (Y 6 0) k else 0 := by simp [mI, mSR, mCopy, up1]
      rw [e2, if_pos (by omega)]
      exact hi 6 0 k v rfl hw
    · rw [hY t i hv c, hIn _ (hne t i hv)]
      exact hi t i k v hv hw
  · intro t i k v hv hw
    have e0 : ∀ a, a ≠ mNx S → ∀ k, ¬ (a = Y 0 0 ∧ k = 5) → mR (mSR (mCopy S (Y 6 0) N) (Y 0 0) 5 (some (mNx S))) a k = mR S a k := fun a ha k hk => by
      show up2 (mCopy S (Y 6 0) N).2.2.2.2.1 (Y 0 0) 5 (some (mNx S)) a k = _
      unfold up2
      rw [if_neg hk]
      simp [mR, mCopy, up1, ha]
    by_cases c : t = 6
    · subst c
      exact absurd hw (by intro q; cases q)
    · rw [hY t i hv c]
      by_cases c3 : t = 0 ∧ k = 5
      · obtain ⟨rfl, rfl⟩ := c3
        have : i = 0 := hv
        subst this
        have e1 : bs_wr (bs_Yg Y 6 (mNx S)) M 0 0 5 = some (some (mNx S)) := rfl
        rw [e1] at hw
        have e2 : mR (mSR (mCopy S (Y 6 0) N) (Y 0 0) 5 (some (mNx S))) (Y 0 0) 5 = some (mNx S) := by simp [mR, mSR, up2]
        rw [e2]
        exact Option.some.inj hw
      · rw [e0 _ (hne t i hv)]
        · refine hr t i k v hv ?_
          rw [← hw]
          unfold bs_wr
          split <;> first | rfl | exact absurd ⟨rfl, rfl⟩ c3
        · rintro ⟨a1, a2⟩
          exact c3 ⟨(q2 t i 0 0 hv rfl a1).1, a2⟩
  · have e4 : bs_Yg Y 6 (mNx S) 4 0 = Y 4 0 := rfl
    unfold bs_Prt at hP ⊢
    rw [e4, hIn _ (hne 4 0 rfl), hLl _ (hne 4 0 rfl)]
    exact hP
  · intro e he
    rw [hY 7 e he (by decide), hIn _ (hne 7 e he)]
    exact hE e he
  · have q9' := q9
    obtain ⟨c, c1, c2, -⟩ := q9'
    rw [hY6, hLn6, hY 5 0 rfl (by decide), hLn _ (hne 5 0 rfl), hN]
    show mNx S + 1 ≤ _
    omega
  · rw [hY6, hLn6, hY 5 0 rfl (by decide), hLn _ (hne 5 0 rfl), hN]
    show mSl S + 2 * mLn S (Y 6 0) ≤ _
    omega
theorem bs_col (h : bs_Rel x0 s0 Y S M) (j : Nat) (v : Int32) : bs_Rel x0 s0 Y (mSI S (Y 6 0) j v) (nSA M 35 j v) := by
  refine bs_put h (t := 6) (i := 0) (k := j) rfl ⟨by decide, fun q => absurd q (by decide)⟩ ⟨rfl, rfl, rfl, rfl, rfl, rfl, rfl, rfl, rfl⟩ rfl rfl rfl ⟨rfl, rfl, rfl, rfl, rfl⟩ ⟨rfl, rfl, rfl⟩ h.1 h.2.2.2.2.2.2.2.2 ?_
  intro t2 i2 k2 v2 hv2 hw
  by_cases c6 : t2 = 6
  · subst c6
    have : i2 = 0 := hv2
    subst this
    have e1 : bs_w (nSA M 35 j v) 6 0 k2 = if k2 < 4 * bs_p M then some (nA (nSA M 35 j v) 35 k2) else none := rfl
    have e2 : bs_w M 6 0 k2 = if k2 < 4 * bs_p M then some (nA M 35 k2) else none := rfl
    rw [e1] at hw
    split at hw
    · rename_i c
      rw [bs_nA] at hw
      by_cases c2 : k2 = j
      · rw [if_pos ⟨rfl, c2⟩] at hw
        exact Or.inl ⟨rfl, rfl, c2, (Option.some.inj hw).symm⟩
      · rw [if_neg (fun q => c2 q.2)] at hw
        refine Or.inr ⟨fun q => c2 q.2.2, ?_⟩
        rw [e2, if_pos c]
        exact hw
    · cases hw
  · refine Or.inr ⟨fun q => c6 q.1, ?_⟩
    rw [← hw]
    unfold bs_w
    split <;> first | rfl | exact absurd rfl c6
/-- the pupil's row is so long now -/
theorem bs_p34 (h : bs_Rel x0 s0 Y S M) {q : Nat} (hq : q ≤ 300) (hl : 4 * q ≤ mLn S (Y 6 0)) (hr : ∀ j, j < 4 * q → mI S (Y 6 0) j = nA M 35 j) : bs_Rel x0 s0 Y (mSI S (Y 0 0) 6 (nI q)) (nSF M 34 (nI q)) := by
  obtain ⟨i1, i2, i3, i4⟩ := h.1
  have hp : bs_p (nSF M 34 (nI q)) = q := by
    show (nF (nSF M 34 (nI q)) 34).toNatClampNeg = _
    rw [bs_nF_eq, bs_cl (by omega)]
  refine bs_mk h rfl rfl rfl rfl rfl rfl ⟨rfl, rfl, rfl, rfl, rfl, rfl, rfl, rfl, rfl⟩ h.2.1.2.2.2.2.2.2.2.1 (by rw [hp]; exact hl) ⟨i1, i2, ⟨by rw [hp, bs_nF_eq], by rw [hp]; exact hq⟩, i4⟩ ?_ ?_ ?_ h.2.2.2.2.2.2.1 h.2.2.2.2.2.2.2.2
  · intro t2 i2 k2 v2 q1 q2
    rw [bs_mI]
    by_cases c : t2 = 0 ∧ k2 = 6
    · obtain ⟨rfl, rfl⟩ := c
      have q1 : i2 = 0 := q1
      subst q1
      rw [if_pos ⟨rfl, rfl⟩]
      exact Option.some.inj q2
    · rw [if_neg]
      · by_cases c6 : t2 = 6
        · subst c6
          have q1 : i2 = 0 := q1
          subst q1
          have q2 : (if k2 < 4 * bs_p (nSF M 34 (nI q)) then some (nA M 35 k2) else none) = some v2 := q2
          rw [hp] at q2
          split at q2
          · rename_i c7
            rw [hr k2 c7]
            exact Option.some.inj q2
          · cases q2
        · refine h.2.2.1 t2 i2 k2 v2 q1 ?_
          rw [← q2]
          unfold bs_w
          split <;> first | rfl | exact absurd ⟨rfl, rfl⟩ c | exact absurd rfl c6
      · rintro ⟨a1, a2⟩
        have := h.2.1.2.1 t2 i2 0 0 q1 rfl a1
        exact c ⟨this.1, a2⟩
  · exact bs_Prt_of h.2.2.2.2.1 (bs_mI_ne (bs_ne h (t := 4) (i := 0) (t2 := 0) (i2 := 0) rfl rfl (Or.inl (by decide)))) rfl rfl rfl rfl rfl rfl
  · refine bs_Exs_of h.2.2.2.2.2.1 (fun e2 he2 => ?_) rfl rfl rfl rfl
    rw [bs_mI, if_neg]
    rintro ⟨a1, a2⟩
    exact absurd a2 (by decide)
theorem bs_swapCopy (S : Mem) {a a0 n : Nat} {r : Option Nat} (k j : Nat) (w : Int32) (ha : a ≠ a0) (hx : a0 ≠ mNx S) : mSR (mCopy (mSI S a0 k w) a n) a0 j r = mSI (mSR (mCopy S a n) a0 j r) a0 k w := by
  have e : ∀ i, mI (mSI S a0 k w) a i = mI S a i := fun i => congrFun (bs_mI_ne ha) i
  unfold mSR mCopy
  simp only [e]
  unfold mSI
  refine Prod.ext rfl (Prod.ext rfl (Prod.ext ?_ rfl))
  funext b i
  show up1 (up2 S.2.2.1 a0 k w) (mNx S) _ b i = up2 (up1 S.2.2.1 (mNx S) _) a0 k w b i
  unfold up1 up2
  by_cases c : b = mNx S
  · have c2 : ¬ (b = a0 ∧ i = k) := fun q => hx (q.1.symm.trans c)
    simp only [if_pos c, if_neg c2]
    rfl
  · by_cases c2 : b = a0 ∧ i = k
    · simp only [if_neg c, if_pos c2]
    · simp only [if_neg c, if_neg c2]
theorem bs_g6 (h : bs_Rel x0 s0 Y S M) {n : Nat} (hn : n < mLn S (Y 6 0)) : inB (nI n) (mLn S (Y 6 0)) = true := by
  obtain ⟨c9, c91, -, c92⟩ := h.2.1.2.2.2.2.2.2.2.2.1
  exact bs_inB hn (by omega)
theorem bs_wpJ (h : bs_Rel x0 s0 Y S M) {k : Nat} (hk : 4 * k + 4 ≤ mLn S (Y 6 0)) (w a b c d : Int32) : c_X5_writePupil_J35 (mSI S (Y 0 0) 6 w) (Y 0 0) a b c d (nI (4 * k)) = some (mSI (mSI (mSI (mSI (mSI S (Y 6 0) (4 * k) a) (Y 6 0) (4 * k + 1) b) (Y 6 0) (4 * k + 2) c) (Y 6 0) (4 * k + 3) d) (Y 0 0) 6 w) := by
  have ne : Y 0 0 ≠ Y 6 0 := bs_ne h (t := 0) (i := 0) (t2 := 6) (i2 := 0) rfl rfl (Or.inl (by decide))
  obtain ⟨c9, c91, -, c92⟩ := h.2.1.2.2.2.2.2.2.2.2.1
  have r0 : mR (mSI S (Y 0 0) 6 w) (Y 0 0) 5 = some (Y 6 0) := bs_q h 0 0 5 rfl rfl
  have k0 : mKd (mSI S (Y 0 0) 6 w) (Y 6 0) = 8 := bs_kk h 6 0 rfl
  have l0 : ∀ n, n < 4 * k + 4 → inB (nI n) (mLn (mSI S (Y 0 0) 6 w) (Y 6 0)) = true := fun n hn => bs_g6 h (n := n) (by omega)
  have st : ∀ (S2 : Mem) (n : Nat) (v : Int32), mR S2 (Y 0 0) 5 = some (Y 6 0) → mKd S2 (Y 6 0) = 8 → mR (mSI S2 (Y 6 0) n v) (Y 0 0) 5 = some (Y 6 0) ∧ mKd (mSI S2 (Y 6 0) n v) (Y 6 0) = 8 := fun S2 n v x1 x2 => ⟨x1, x2⟩
  unfold c_X5_writePupil_J35
  obtain ⟨r1, k1⟩ := st _ (4 * k) a r0 k0
  obtain ⟨r2, k2⟩ := st _ (4 * k + 1) b r1 k1
  obtain ⟨r3, k3⟩ := st _ (4 * k + 2) c r2 k2
  rw [r0, bs_ob k0, bs_bnd, bs_gd (l0 _ (by omega)), bs_let, bs_cl (by omega), r1, bs_ob k1, bs_bnd, bs_a1, bs_gd (show inB (nI (4 * k + 1)) (mLn (mSI (mSI S (Y 0 0) 6 w) (Y 6 0) (4 * k) a) (Y 6 0)) = true from l0 _ (by omega)), bs_let, bs_cl (by omega), r2, bs_ob k2, bs_bnd, bs_a2, bs_gd (show inB (nI (4 * k + 2)) (mLn (mSI (mSI (mSI S (Y 0 0) 6 w) (Y 6 0) (4 * k) a) (Y 6 0) (4 * k + 1) b) (Y 6 0)) = true from l0 _ (by omega)), bs_let, bs_cl (by omega), r3, bs_ob k3, bs_bnd, bs_a3, bs_gd (show inB (nI (4 * k + 3)) (mLn (mSI (mSI (mSI (mSI S (Y 0 0) 6 w) (Y 6 0) (4 * k) a) (Y 6 0) (4 * k + 1) b) (Y 6 0) (4 * k + 2) c) (Y 6 0)) = true from l0 _ (by omega)), bs_let, bs_cl (by omega)]
  rw [bs_mSI_swap S 6 (4 * k) w a ne, bs_mSI_swap _ 6 (4 * k + 1) w b ne, bs_mSI_swap _ 6 (4 * k + 2) w c ne, bs_mSI_swap _ 6 (4 * k + 3) w d ne]
/-- a pupil's step is written; the count may have been raised already -/
theorem bs_wp (h : bs_Rel x0 s0 Y S M) {k : Nat} (hk : k ≤ bs_p M) (hk2 : k < 300) (w a b c d : Int32) :
    ∃ Y2 S2, c_X5_writePupil (mSI S (Y 0 0) 6 w) (Y 0 0) (nI k) a b c d = some (mSI S2 (Y 0 0) 6 w) ∧ bs_Rel x0 s0 Y2 S2 (nSA (nSA (nSA (nSA M 35 (4 * k) a) 35 (4 * k + 1) b) 35 (4 * k + 2) c) 35 (4 * k + 3) d) ∧ (Y2 0 0, Y2 14 0) = (Y 0 0, Y 14 0) ∧ 4 * k + 4 ≤ mLn S2 (Y2 6 0) ∧ ∀ j, 4 * k ≤ j → j < 4 * k + 4 → mI S2 (Y2 6 0) j = nA (nSA (nSA (nSA (nSA M 35 (4 * k) a) 35 (4 * k + 1) b) 35 (4 * k + 2) c) 35 (4 * k + 3) d) 35 j := by
  have hp := h.1.2.2.1.2
  have q10 := h.2.1.2.2.2.2.2.2.2.2.2.1
  obtain ⟨c9, c91, c90, c92⟩ := h.2.1.2.2.2.2.2.2.2.2.1
  have r0 : mR (mSI S (Y 0 0) 6 w) (Y 0 0) 5 = some (Y 6 0) := bs_q h 0 0 5 rfl rfl
  have k0 : mKd (mSI S (Y 0 0) 6 w) (Y 6 0) = 8 := bs_kk h 6 0 rfl
  have ln : mLn (mSI S (Y 0 0) 6 w) (Y 6 0) = mLn S (Y 6 0) := rfl
  have eqs : ∀ (S2 : Mem) (a6 : Nat) j, 4 * k ≤ j → j < 4 * k + 4 → mI (mSI (mSI (mSI (mSI S2 a6 (4 * k) a) a6 (4 * k + 1) b) a6 (4 * k + 2) c) a6 (4 * k + 3) d) a6 j = nA (nSA (nSA (nSA (nSA M 35 (4 * k) a) 35 (4 * k + 1) b) 35 (4 * k + 2) c) 35 (4 * k + 3) d) 35 j := by
    intro S2 a6 j j1 j2
    simp only [bs_mI, bs_nA, true_and]
    by_cases q3 : j = 4 * k + 3
    · rw [if_pos q3, if_pos q3]
    rw [if_neg q3, if_neg q3]
    by_cases q2 : j = 4 * k + 2
    · rw [if_pos q2, if_pos q2]
    rw [if_neg q2, if_neg q2]
    by_cases q1 : j = 4 * k + 1
    · rw [if_pos q1, if_pos q1]
    rw [if_neg q1, if_neg q1, if_pos (by omega), if_pos (by omega)]
  unfold c_X5_writePupil
  rw [bs_let, bs_m4, r0, bs_ob k0, bs_bnd, bs_a4, ln]
  by_cases cl : 4 * k + 4 ≤ mLn S (Y 6 0)
  · rw [if_pos (nI_le cl (by omega)), bs_wpJ h cl]
    have h4 := bs_col (bs_col (bs_col (bs_col h (4 * k) a) (4 * k + 1) b) (4 * k + 2) c) (4 * k + 3) d
    exact ⟨Y, _, rfl, h4, rfl, cl, eqs S (Y 6 0)⟩
  · have hc : ∃ c, 2 * mLn S (Y 6 0) = 64 * c ∧ 0 < c ∧ c ≤ 40 := ⟨2 * c9, by omega, by omega, by omega⟩
    have hg := bs_grow6 h rfl hc
    have e5 : copyOK (mSI S (Y 0 0) 6 w) (Y 6 0) (nI (2 * mLn S (Y 6 0))) = true := by
      refine decide_eq_true ?_
      rw [ln, bs_cl (by omega)]
      refine ⟨nI_pos (by omega), fun q => ?_, by omega, by omega⟩
      have := (nI_eq (by omega) (by omega)).mp q
      omega
    have n60 : Y 6 0 ≠ Y 0 0 := bs_ne h (t := 6) (i := 0) (t2 := 0) (i2 := 0) rfl rfl (Or.inl (by decide))
    have nx : Y 0 0 ≠ mNx S := Nat.ne_of_lt (bs_ltNx h (t := 0) (i := 0) rfl)
    have e3 : bs_Yg Y 6 (mNx S) 6 0 = mNx S := rfl
    have e4 : mLn (mSR (mCopy S (Y 6 0) (2 * mLn S (Y 6 0))) (Y 0 0) 5 (some (mNx S))) (bs_Yg Y 6 (mNx S) 6 0) = 2 * mLn S (Y 6 0) := by rw [e3]; simp [mLn, mSR, mCopy, up1]
    have hl2 : 4 * k + 4 ≤ mLn (mSR (mCopy S (Y 6 0) (2 * mLn S (Y 6 0))) (Y 0 0) 5 (some (mNx S))) (bs_Yg Y 6 (mNx S) 6 0) := by rw [e4]; omega
    have J := bs_wpJ hg hl2 w a b c d
    rw [if_neg (nI_ge (by omega) (by omega)), bs_bnd, bs_let, bs_m2, ln, bs_gd e5, bs_let, bs_let, bs_let, bs_cl (by omega), show mNx (mSI S (Y 0 0) 6 w) = mNx S from rfl, bs_swapCopy S 6 5 w n60 nx]
    have h4 := bs_col (bs_col (bs_col (bs_col hg (4 * k) a) (4 * k + 1) b) (4 * k + 2) c) (4 * k + 3) d
    exact ⟨_, _, J, h4, rfl, hl2, eqs _ _⟩
theorem bs_op_pupil (h : bs_Rel x0 s0 Y S M) (a b c d : Int32) : bs_OK x0 s0 Y (c_X5_pupil S (Y 0 0) a b c d) (m_X6_pupil M a b c d) := by
  obtain ⟨p1, p2⟩ := h.1.2.2.1
  unfold c_X5_pupil m_X6_pupil
  rw [bs_i h 0 0 6 rfl rfl, p1]
  by_cases c3 : bs_p M = 300
  · rw [if_neg (show ¬ nI (bs_p M) < 300 from nI_nlt (b := 300) (by omega) (by omega)), if_pos (by rw [c3]; rfl)]
    exact bs_same h _
  · obtain ⟨Y2, S2, e1, e2, e3, e4, e5⟩ := bs_wp h (k := bs_p M) (Nat.le_refl _) (by omega) (nI (bs_p M + 1)) a b c d
    have d6 : mI (mSI S (Y 0 0) 6 (nI (bs_p M + 1))) (Y 0 0) 6 - 1 = nI (bs_p M) := by rw [bs_mI, if_pos ⟨rfl, rfl⟩, nI_pred]
    have d7 : mI (mSI S2 (Y 0 0) 6 (nI (bs_p M + 1))) (Y 0 0) 6 = nI (bs_p M + 1) := by rw [bs_mI, if_pos ⟨rfl, rfl⟩]
    rw [if_pos (show nI (bs_p M) < 300 from nI_lt (b := 300) (by omega) (by omega)), if_neg (show ¬ nI (bs_p M) = 300 from fun q => c3 ((nI_eq (b := 300) (by omega) (by omega)).mp q)), bs_let, bs_let, nI_1, d6, e1, bs_bnd, d7]
    have z : ∀ (X : MS) (a : Nat) (u : Int32), nF (nSA X 35 a u) 34 = nF X 34 := fun _ _ _ => rfl
    rw [bs_m4, bs_gd (bs_inB (by omega) (by decide)), bs_let, bs_cl (by omega), z, p1, bs_m4, bs_a1, bs_gd (bs_inB (by omega) (by decide)), bs_let, bs_cl (by omega), z, z, p1, bs_m4, bs_a2, bs_gd (bs_inB (by omega) (by decide)), bs_let, bs_cl (by omega), z, z, z, p1, bs_m4, bs_a3, bs_gd (bs_inB (by omega) (by decide)), bs_let, bs_cl (by omega), bs_let, bs_let, z, z, z, z, p1, nI_1, bs_nF_eq]
    have hY0 : Y2 0 0 = Y 0 0 := congrArg Prod.fst e3
    have hm := bs_p34 e2 (q := bs_p M + 1) (by omega) (by omega) (by
      intro j hj
      by_cases cj : 4 * bs_p M ≤ j
      · exact e5 j cj (by omega)
      · exact bs_i e2 6 0 j rfl (if_pos (show j < 4 * bs_p M by omega)))
    rw [hY0] at hm
    exact ⟨_, _, _, Y2, rfl, rfl, hm, e3⟩
end BsPupil
