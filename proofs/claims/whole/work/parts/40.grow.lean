/-! a row grows; the row of steps; a step more -/
def bs_Yg (Y : bs_Ly) (t0 v : Nat) : bs_Ly := fun t i => if t = t0 ∧ i = 0 then v else Y t i
theorem bs_mKd_lt {S : Mem} {a t : Nat} (h : mKd S a = t) (ht : t ≠ 0) : a < mNx S := by
  unfold mKd at h
  split at h
  · assumption
  · exact absurd h.symm ht
theorem bs_kd0 (t : Nat) : bs_kd t ≠ 0 := by
  unfold bs_kd
  split <;> decide
section BsGrow
variable {x0 s0 : Nat} {Y : bs_Ly} {S : Mem} {M : MS}
theorem bs_ltNx (h : bs_Rel x0 s0 Y S M) {t i : Nat} (hv : bs_val M t i) : Y t i < mNx S := bs_mKd_lt (bs_kk h t i hv) (bs_kd0 t)
theorem bs_grow5 (h : bs_Rel x0 s0 Y S M) {N : Nat} (hN : N = 2 * mLn S (Y 5 0)) (hc : ∃ c, N = 224 * c ∧ 0 < c ∧ c ≤ 313) : bs_Rel x0 s0 (bs_Yg Y 5 (mNx S)) (mSR (mCopy S (Y 5 0) N) (Y 3 0) 1 (some (mNx S))) M := by
  obtain ⟨hI, ⟨q1, q2, q3, q4, q5, q6, q7, q8, q9, q10, q11, q12, q13⟩, hi, hr, hP, hE, hO, ⟨m1, m2⟩, hH⟩ := id h
  have hlt := fun t i hv => bs_ltNx h (t := t) (i := i) hv
  have hY : ∀ t i, bs_val M t i → ¬ t = 5 → bs_Yg Y 5 (mNx S) t i = Y t i := fun t i _ c => if_neg (fun q => c q.1)
  have hY5 : bs_Yg Y 5 (mNx S) 5 0 = mNx S := if_pos ⟨rfl, rfl⟩
  have h50 : ∀ i, bs_val M 5 i → i = 0 := fun i q => q
  have hLn : ∀ a, a ≠ mNx S → mLn (mSR (mCopy S (Y 5 0) N) (Y 3 0) 1 (some (mNx S))) a = mLn S a := fun a ha => by simp [mLn, mSR, mCopy, up1, ha]
  have hLn5 : mLn (mSR (mCopy S (Y 5 0) N) (Y 3 0) 1 (some (mNx S))) (mNx S) = N := by simp [mLn, mSR, mCopy, up1]
  have hIn : ∀ a, a ≠ mNx S → mI (mSR (mCopy S (Y 5 0) N) (Y 3 0) 1 (some (mNx S))) a = mI S a := fun a ha => by funext j; simp [mI, mSR, mCopy, up1, ha]
  have hLl : ∀ a, a ≠ mNx S → mL (mSR (mCopy S (Y 5 0) N) (Y 3 0) 1 (some (mNx S))) a = mL S a := fun a ha => by funext j; simp [mL, mSR, mCopy, up1, ha]
  have hne : ∀ t i, bs_val M t i → Y t i ≠ mNx S := fun t i hv => Nat.ne_of_lt (hlt t i hv)
  refine ⟨hI, ⟨?_, ?_, ?_, ?_, ?_, ?_, ?_, ?_, ?_, ?_, ?_, ?_, ?_⟩, ?_, ?_, ?_, ?_, hO, ⟨?_, ?_⟩, hH⟩
  · intro t i hv
    show mKd (mCopy S (Y 5 0) N) _ = _
    rw [mKd_copy]
    by_cases c : t = 5
    · subst c
      rw [h50 i hv, hY5, if_pos rfl]
      rfl
    · rw [hY t i hv c, if_neg (hne t i hv)]
      exact q1 t i hv
  · intro t i t2 i2 hv hv2 e
    by_cases c : t = 5
    · subst c
      have := h50 i hv
      subst this
      by_cases c2 : t2 = 5
      · subst c2
        exact ⟨rfl, (h50 i2 hv2).symm⟩
      · rw [hY5, hY t2 i2 hv2 c2] at e
        exact absurd e.symm (hne t2 i2 hv2)
    · by_cases c2 : t2 = 5
      · subst c2
        have := h50 i2 hv2
        subst this
        rw [hY5, hY t i hv c] at e
        exact absurd e (hne t i hv)
      · rw [hY t i hv c, hY t2 i2 hv2 c2] at e
        exact q2 t i t2 i2 hv hv2 e
  · rw [hY 9 0 rfl (by decide), hLn _ (hne 9 0 rfl)]; exact q3
  · rw [hY 10 0 rfl (by decide), hLn _ (hne 10 0 rfl)]; exact q4
  · intro f hf
    rw [hY 11 f hf (by decide), hLn _ (hne 11 f hf)]; exact q5 f hf
  · intro e he
    rw [hY 8 e he (by decide), hLn _ (hne 8 e he)]; exact q6 e he
  · rw [hY5, hLn5]; exact hc
  · rw [hY5, hLn5, hN]; omega
  · rw [hY 6 0 rfl (by decide), hLn _ (hne 6 0 rfl)]; exact q9
  · rw [hY 6 0 rfl (by decide), hLn _ (hne 6 0 rfl)]; exact q10
  · exact q11
  · rw [hY 13 0 rfl (by decide), hLn _ (hne 13 0 rfl)]; exact q12
  · exact q13
  · intro t i k v hv hw
    by_cases c : t = 5
    · subst c
      rw [h50 i hv] at hw ⊢
      rw [hY5]
      have e : bs_w M 5 0 k = if k < 7 * bs_s M then some (nA M 28 k) else none := rfl
      have hk : k < 7 * bs_s M := by
        rw [e] at hw
        split at hw
        · assumption
        · cases hw
      have e2 : mI (mSR (mCopy S (Y 5 0) N) (Y 3 0) 1 (some (mNx S))) (mNx S) k = if k < mLn S (Y 5 0) then mI S (Y 5 0) k else 0 := by simp [mI, mSR, mCopy, up1]
      rw [e2, if_pos (by omega)]
      exact hi 5 0 k v rfl hw
    · rw [hY t i hv c, hIn _ (hne t i hv)]
      exact hi t i k v hv hw
  · intro t i k v hv hw
    have e0 : ∀ a, a ≠ mNx S → ∀ k, ¬ (a = Y 3 0 ∧ k = 1) → mR (mSR (mCopy S (Y 5 0) N) (Y 3 0) 1 (some (mNx S))) a k = mR S a k := fun a ha k hk => by
      show up2 (mCopy S (Y 5 0) N).2.2.2.2.1 (Y 3 0) 1 (some (mNx S)) a k = _
      unfold up2
      rw [if_neg hk]
      simp [mR, mCopy, up1, ha]
    by_cases c : t = 5
    · subst c
      exact absurd hw (by intro q; cases q)
    · rw [hY t i hv c]
      by_cases c3 : t = 3 ∧ k = 1
      · obtain ⟨rfl, rfl⟩ := c3
        have : i = 0 := hv
        subst this
        have e1 : bs_wr (bs_Yg Y 5 (mNx S)) M 3 0 1 = some (some (mNx S)) := rfl
        rw [e1] at hw
        have e2 : mR (mSR (mCopy S (Y 5 0) N) (Y 3 0) 1 (some (mNx S))) (Y 3 0) 1 = some (mNx S) := by simp [mR, mSR, up2]
        rw [e2]
        exact Option.some.inj hw
      · rw [e0 _ (hne t i hv)]
        · refine hr t i k v hv ?_
          rw [← hw]
          unfold bs_wr
          split <;> first | rfl | exact absurd ⟨rfl, rfl⟩ c3
        · rintro ⟨a1, a2⟩
          exact c3 ⟨(q2 t i 3 0 hv rfl a1).1, a2⟩
  · have e4 : bs_Yg Y 5 (mNx S) 4 0 = Y 4 0 := rfl
    unfold bs_Prt at hP ⊢
    rw [e4, hIn _ (hne 4 0 rfl), hLl _ (hne 4 0 rfl)]
    exact hP
  · intro e he
    rw [hY 7 e he (by decide), hIn _ (hne 7 e he)]
    exact hE e he
  · have q7' := q7
    obtain ⟨c, c1, c2, -⟩ := q7'
    rw [hY5, hLn5, hY 6 0 rfl (by decide), hLn _ (hne 6 0 rfl), hN]
    show mNx S + 1 ≤ _
    omega
  · rw [hY5, hLn5, hY 6 0 rfl (by decide), hLn _ (hne 6 0 rfl), hN]
    show mSl S + 2 * mLn S (Y 5 0) ≤ _
    omega
theorem bs_rowC (h : bs_Rel x0 s0 Y S M) {j : Nat} (hj : 7 * bs_s M ≤ j) (v : Int32) : bs_Rel x0 s0 Y (mSI S (Y 5 0) j v) M := by
  refine bs_put h (t := 5) (i := 0) (k := j) rfl ⟨by decide, fun q => absurd q (by decide)⟩ ⟨rfl, rfl, rfl, rfl, rfl, rfl, rfl, rfl, rfl⟩ rfl rfl rfl ⟨rfl, rfl, rfl, rfl, rfl⟩ ⟨rfl, rfl, rfl⟩ h.1 h.2.2.2.2.2.2.2.2 ?_
  intro t2 i2 k2 v2 hv2 hw
  refine Or.inr ⟨?_, hw⟩
  rintro ⟨rfl, rfl, rfl⟩
  have e : bs_w M 5 0 k2 = if k2 < 7 * bs_s M then some (nA M 28 k2) else none := rfl
  rw [e, if_neg (by omega)] at hw
  cases hw
/-- the reference's row beyond the steps is its own -/
theorem bs_rowM (h : bs_Rel x0 s0 Y S M) {j : Nat} (hj : 7 * bs_s M ≤ j) (v : Int32) : bs_Rel x0 s0 Y S (nSA M 28 j v) := by
  have e28 : ∀ k, k < 7 * bs_s M → nA (nSA M 28 j v) 28 k = nA M 28 k := fun k hk => by rw [bs_nA, if_neg (fun q => by omega)]
  refine bs_mk h rfl rfl rfl rfl rfl rfl ⟨rfl, rfl, rfl, rfl, rfl, rfl, rfl, rfl, rfl⟩ h.2.1.2.2.2.2.2.2.2.1 h.2.1.2.2.2.2.2.2.2.2.2.1 h.1 ?_ h.2.2.2.2.1 h.2.2.2.2.2.1 ?_ ?_
  · intro t i k w hv hw
    refine h.2.2.1 t i k w hv ?_
    by_cases c : t = 5
    · subst c
      have e1 : bs_w (nSA M 28 j v) 5 i k = if k < 7 * bs_s M then some (nA (nSA M 28 j v) 28 k) else none := rfl
      have e2 : bs_w M 5 i k = if k < 7 * bs_s M then some (nA M 28 k) else none := rfl
      rw [e1] at hw
      rw [e2]
      split at hw
      · rename_i c2
        rw [if_pos c2, ← e28 k c2]
        exact hw
      · cases hw
    · rw [← hw]
      unfold bs_w
      split <;> first | rfl | exact absurd rfl c
  · intro k hk
    have hk : k < bs_s M := hk
    rw [e28 _ (by omega), e28 _ (by omega)]
    exact h.2.2.2.2.2.2.1 k hk
  · intro a b
    obtain ⟨s, hl, hu, r1, r2, r3, r4⟩ := h.2.2.2.2.2.2.2.2 a b
    obtain ⟨s', s1, s2⟩ := h.1.2.2.2.2.2.2.2.2
    have hs := bs_s5 h.1
    have : s = s' := (nI_eq (by omega) (by omega)).mp (r1.symm.trans s1)
    refine ⟨s, hl, hu, r1, r2, r3, ?_⟩
    intro k hk
    rw [e28 _ (by omega), e28 _ (by omega), e28 _ (by omega), e28 _ (by omega)]
    exact r4 k hk
/-- one step more, its row written on both sides -/
theorem bs_more (h : bs_Rel x0 s0 Y S M) (hs : bs_s M + 1 < 5000) (hl : 7 * bs_s M + 7 ≤ mLn S (Y 5 0)) (hw7 : ∀ j, 7 * bs_s M ≤ j → j < 7 * bs_s M + 7 → mI S (Y 5 0) j = nA M 28 j) (f i : Nat) (e0 : nA M 28 (7 * bs_s M) = nI f) (e1 : nA M 28 (7 * bs_s M + 1) = nI i) (hf : f < bs_n M) (hi : i < bs_m M f) (h18 : nF M 18 = 1) (ho : nF M 19 = nI f ∨ Y 12 0 = f + 1) (h22 : nF M 22 = 0) :
    bs_Rel x0 s0 Y (mSI S (Y 3 0) 2 (nI (bs_s M + 1))) (nSF M 21 (nI (bs_s M + 1))) := by
  obtain ⟨i1, i2, i3, i4, i5, i6, i7, i8, -⟩ := h.1
  have es : bs_s (nSF M 21 (nI (bs_s M + 1))) = bs_s M + 1 := by
    show (nF (nSF M 21 (nI (bs_s M + 1))) 21).toNatClampNeg = _
    rw [bs_nF_eq, bs_cl (by omega)]
  refine bs_mk h rfl rfl rfl rfl rfl rfl ⟨rfl, rfl, rfl, rfl, rfl, rfl, rfl, rfl, rfl⟩ (by rw [es]; omega) h.2.1.2.2.2.2.2.2.2.2.2.1 ⟨i1, i2, i3, ⟨by rw [es, bs_nF_eq], by rw [es]; exact hs⟩, i5, i6, i7, i8, 0, h22, Nat.zero_le _⟩ ?_ ?_ ?_ ?_ ?_
  · intro t k j v hv hw
    by_cases c3 : t = 3 ∧ j = 2
    · obtain ⟨rfl, rfl⟩ := c3
      have : k = 0 := hv
      subst this
      rw [bs_mI, if_pos ⟨rfl, rfl⟩]
      exact Option.some.inj hw
    · rw [bs_mI, if_neg]
      · by_cases c : t = 5
        · subst c
          have : k = 0 := hv
          subst this
          have e1 : bs_w (nSF M 21 (nI (bs_s M + 1))) 5 0 j = if j < 7 * bs_s (nSF M 21 (nI (bs_s M + 1))) then some (nA M 28 j) else none := rfl
          rw [e1, es] at hw
          split at hw
          · rename_i c2
            by_cases c4 : j < 7 * bs_s M
            · exact h.2.2.1 5 0 j v rfl ((if_pos c4).trans hw)
            · rw [hw7 j (by omega) (by omega)]
              exact Option.some.inj hw
          · cases hw
        · refine h.2.2.1 t k j v hv ?_
          rw [← hw]
          unfold bs_w
          split <;> first | rfl | exact absurd rfl c | exact absurd ⟨rfl, rfl⟩ c3
      · rintro ⟨a1, a2⟩
        exact c3 ⟨(h.2.1.2.1 t k 3 0 hv rfl a1).1, a2⟩
  · exact bs_Prt_of h.2.2.2.2.1 (bs_mI_ne (bs_ne h (t := 4) (i := 0) (t2 := 3) (i2 := 0) rfl rfl (Or.inl (by decide)))) rfl rfl rfl rfl rfl rfl
  · refine bs_Exs_of h.2.2.2.2.2.1 (fun e2 he2 => ?_) rfl rfl rfl rfl
    rw [bs_mI, if_neg]
    rintro ⟨a1, a2⟩
    exact absurd (h.2.1.2.1 7 e2 3 0 he2 rfl a1).1 (by decide)
  · intro k hk
    rw [es] at hk
    by_cases c : k < bs_s M
    · exact h.2.2.2.2.2.2.1 k c
    · have : k = bs_s M := by omega
      subst this
      exact ⟨f, i, e0, e1, hf, hi, h18, ho⟩
  · intro _ _
    obtain ⟨hl', hu', q⟩ := bs_Hist0 (nSF M 21 (nI (bs_s M + 1)))
    exact ⟨0, hl', hu', h22, by decide, q⟩
end BsGrow
