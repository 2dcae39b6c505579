/-! rods changed, the bar, what a fault does -/
theorem bs_nA (M : MS) (k j : Nat) (v : Int32) (k2 j2 : Nat) : nA (nSA M k j v) k2 j2 = if k2 = k ∧ j2 = j then v else nA M k2 j2 := rfl
theorem bs_mSI_swap (S : Mem) {a b : Nat} (k j : Nat) (v w : Int32) (h : a ≠ b) : mSI (mSI S a k v) b j w = mSI (mSI S b j w) a k v := by
  unfold mSI
  congr 3
  funext c i
  simp only [up2]
  by_cases c1 : c = b ∧ i = j
  · rw [if_pos c1, if_neg (fun q => h (q.1.symm.trans c1.1)), if_pos c1]
  · rw [if_neg c1]
    by_cases c2 : c = a ∧ i = k
    · rw [if_pos c2, if_pos c2]
    · rw [if_neg c2, if_neg c2, if_neg c1]
section BsRods
variable {x0 s0 : Nat} {Y : bs_Ly} {S S2 : Mem} {M M2 : MS}
theorem bs_bar (h : bs_Rel x0 s0 Y S M) : bs_Rel x0 s0 Y (mSI S (Y 3 0) 4 1) (nSF M 20 1) := by
  obtain ⟨i1, i2, i3, i4, i5, i6, i7, i8, s, s1, s2⟩ := h.1
  refine bs_put h (t := 3) (i := 0) (k := 4) rfl ⟨by decide, fun q => absurd q (by decide)⟩ ⟨rfl, rfl, rfl, rfl, rfl, rfl, rfl, rfl, rfl⟩ rfl rfl rfl ⟨rfl, rfl, rfl, rfl, rfl⟩ ⟨rfl, rfl, rfl⟩ ⟨i1, i2, i3, i4, i5, i6, i7, Or.inr rfl, s, s1, s2⟩ (fun q => absurd (show (1 : Int32) = 0 from q) (by decide)) ?_
  intro t2 i2 k2 v2 hv2 hw
  by_cases c : t2 = 3 ∧ k2 = 4
  · obtain ⟨rfl, rfl⟩ := c
    exact Or.inl ⟨rfl, hv2, rfl, (Option.some.inj hw).symm⟩
  · refine Or.inr ⟨fun q => c ⟨q.1, q.2.2⟩, ?_⟩
    rw [← hw]
    unfold bs_w
    split <;> first | rfl | exact absurd ⟨rfl, rfl⟩ c
theorem bs_Hist0 (M : MS) : ∃ hl hu, bs_Hist M 0 hl hu := ⟨fun _ r => nA M 10 r, fun _ r => nA M 11 r, fun r => ⟨rfl, rfl⟩, fun k hk => absurd hk (Nat.not_lt_zero _)⟩
theorem bs_pR9 (h : bs_Rel x0 s0 Y S M) {r : Nat} (hr : bs_rv M r) (hq : nF M 20 = 1 ∨ nF M 22 = 0 ∨ Y 14 0 = 1) (v : Int32) (hg : bs_rg (bs_k M (r / 18)) v (nA M 10 r) (nA M 11 r)) : bs_Rel x0 s0 Y (mSI S (Y 2 r) 4 v) (nSA M 9 r v) := by
  obtain ⟨i1, i2, i3, i4, i5, i6, i7, i8, s, s1, s2⟩ := h.1
  refine bs_put h (t := 2) (i := r) (k := 4) hr ⟨by decide, fun q => absurd q (by decide)⟩ ⟨rfl, rfl, rfl, rfl, rfl, rfl, rfl, rfl, rfl⟩ rfl rfl rfl ⟨rfl, rfl, rfl, rfl, rfl⟩ ⟨rfl, rfl, rfl⟩ ⟨i1, i2, i3, i4, i5, ?_, i7, i8, s, s1, s2⟩ ?_ ?_
  · intro r2 hr2
    by_cases c : r2 = r
    · subst c
      have e : nA (nSA M 9 r2 v) 9 r2 = v := by rw [bs_nA, if_pos ⟨rfl, rfl⟩]
      refine ⟨?_, fun q => absurd hr.1 (Nat.not_lt.mpr q)⟩
      show bs_rg (bs_k M (r2 / 18)) (nA (nSA M 9 r2 v) 9 r2) (nA (nSA M 9 r2 v) 10 r2) (nA (nSA M 9 r2 v) 11 r2)
      rw [e]
      exact hg
    · have e : nA (nSA M 9 r v) 9 r2 = nA M 9 r2 := by rw [bs_nA, if_neg (fun q => c q.2)]
      show bs_rg (bs_k M (r2 / 18)) (nA (nSA M 9 r v) 9 r2) (nA (nSA M 9 r v) 10 r2) (nA (nSA M 9 r v) 11 r2) ∧ (bs_n M ≤ r2 / 18 → nA (nSA M 9 r v) 9 r2 = 0 ∧ nA (nSA M 9 r v) 10 r2 = 0 ∧ nA (nSA M 9 r v) 11 r2 = 0)
      rw [e]
      exact i6 r2 hr2
  · rcases hq with hq | hq | hq
    · intro q
      have q : nF M 20 = 0 := q
      rw [hq] at q
      exact absurd q (by decide)
    · intro _ _
      obtain ⟨hl, hu, q⟩ := bs_Hist0 (nSA M 9 r v)
      exact ⟨0, hl, hu, hq, by decide, q⟩
    · intro _ q
      rw [hq] at q
      exact absurd q (by decide)
  · intro t2 i2 k2 v2 hv2 hw
    by_cases c : t2 = 2 ∧ i2 = r ∧ k2 = 4
    · obtain ⟨rfl, rfl, rfl⟩ := c
      refine Or.inl ⟨rfl, rfl, rfl, ?_⟩
      have e : bs_w (nSA M 9 i2 v) 2 i2 4 = some (nA (nSA M 9 i2 v) 9 i2) := rfl
      rw [e, bs_nA, if_pos ⟨rfl, rfl⟩] at hw
      exact (Option.some.inj hw).symm
    · refine Or.inr ⟨c, ?_⟩
      by_cases c2 : t2 = 2 ∧ k2 = 4
      · obtain ⟨rfl, rfl⟩ := c2
        have e : bs_w (nSA M 9 r v) 2 i2 4 = some (nA (nSA M 9 r v) 9 i2) := rfl
        rw [e, bs_nA, if_neg (fun q => c ⟨rfl, q.2, rfl⟩)] at hw
        exact hw
      · rw [← hw]
        unfold bs_w
        split <;> first | rfl | exact absurd ⟨rfl, rfl⟩ c2
theorem bs_pR10 (h : bs_Rel x0 s0 Y S M) {r : Nat} (hr : bs_rv M r) (hq : nF M 20 = 1 ∨ nF M 22 = 0 ∨ Y 14 0 = 1) (v : Int32) (hg : bs_rg (bs_k M (r / 18)) (nA M 9 r) v (nA M 11 r)) : bs_Rel x0 s0 Y (mSI S (Y 2 r) 5 v) (nSA M 10 r v) := by
  obtain ⟨i1, i2, i3, i4, i5, i6, i7, i8, s, s1, s2⟩ := h.1
  refine bs_put h (t := 2) (i := r) (k := 5) hr ⟨by decide, fun q => absurd q (by decide)⟩ ⟨rfl, rfl, rfl, rfl, rfl, rfl, rfl, rfl, rfl⟩ rfl rfl rfl ⟨rfl, rfl, rfl, rfl, rfl⟩ ⟨rfl, rfl, rfl⟩ ⟨i1, i2, i3, i4, i5, ?_, i7, i8, s, s1, s2⟩ ?_ ?_
  · intro r2 hr2
    by_cases c : r2 = r
    · subst c
      have e : nA (nSA M 10 r2 v) 10 r2 = v := by rw [bs_nA, if_pos ⟨rfl, rfl⟩]
      refine ⟨?_, fun q => absurd hr.1 (Nat.not_lt.mpr q)⟩
      show bs_rg (bs_k M (r2 / 18)) (nA (nSA M 10 r2 v) 9 r2) (nA (nSA M 10 r2 v) 10 r2) (nA (nSA M 10 r2 v) 11 r2)
      rw [e]
      exact hg
    · have e : nA (nSA M 10 r v) 10 r2 = nA M 10 r2 := by rw [bs_nA, if_neg (fun q => c q.2)]
      show bs_rg (bs_k M (r2 / 18)) (nA (nSA M 10 r v) 9 r2) (nA (nSA M 10 r v) 10 r2) (nA (nSA M 10 r v) 11 r2) ∧ (bs_n M ≤ r2 / 18 → nA (nSA M 10 r v) 9 r2 = 0 ∧ nA (nSA M 10 r v) 10 r2 = 0 ∧ nA (nSA M 10 r v) 11 r2 = 0)
      rw [e]
      exact i6 r2 hr2
  · rcases hq with hq | hq | hq
    · intro q
      have q : nF M 20 = 0 := q
      rw [hq] at q
      exact absurd q (by decide)
    · intro _ _
      obtain ⟨hl, hu, q⟩ := bs_Hist0 (nSA M 10 r v)
      exact ⟨0, hl, hu, hq, by decide, q⟩
    · intro _ q
      rw [hq] at q
      exact absurd q (by decide)
  · intro t2 i2 k2 v2 hv2 hw
    by_cases c : t2 = 2 ∧ i2 = r ∧ k2 = 5
    · obtain ⟨rfl, rfl, rfl⟩ := c
      refine Or.inl ⟨rfl, rfl, rfl, ?_⟩
      have e : bs_w (nSA M 10 i2 v) 2 i2 5 = some (nA (nSA M 10 i2 v) 10 i2) := rfl
      rw [e, bs_nA, if_pos ⟨rfl, rfl⟩] at hw
      exact (Option.some.inj hw).symm
    · refine Or.inr ⟨c, ?_⟩
      by_cases c2 : t2 = 2 ∧ k2 = 5
      · obtain ⟨rfl, rfl⟩ := c2
        have e : bs_w (nSA M 10 r v) 2 i2 5 = some (nA (nSA M 10 r v) 10 i2) := rfl
        rw [e, bs_nA, if_neg (fun q => c ⟨rfl, q.2, rfl⟩)] at hw
        exact hw
      · rw [← hw]
        unfold bs_w
        split <;> first | rfl | exact absurd ⟨rfl, rfl⟩ c2
theorem bs_pR11 (h : bs_Rel x0 s0 Y S M) {r : Nat} (hr : bs_rv M r) (hq : nF M 20 = 1 ∨ nF M 22 = 0 ∨ Y 14 0 = 1) (v : Int32) (hg : bs_rg (bs_k M (r / 18)) (nA M 9 r) (nA M 10 r) v) : bs_Rel x0 s0 Y (mSI S (Y 2 r) 6 v) (nSA M 11 r v) := by
  obtain ⟨i1, i2, i3, i4, i5, i6, i7, i8, s, s1, s2⟩ := h.1
  refine bs_put h (t := 2) (i := r) (k := 6) hr ⟨by decide, fun q => absurd q (by decide)⟩ ⟨rfl, rfl, rfl, rfl, rfl, rfl, rfl, rfl, rfl⟩ rfl rfl rfl ⟨rfl, rfl, rfl, rfl, rfl⟩ ⟨rfl, rfl, rfl⟩ ⟨i1, i2, i3, i4, i5, ?_, i7, i8, s, s1, s2⟩ ?_ ?_
  · intro r2 hr2
    by_cases c : r2 = r
    · subst c
      have e : nA (nSA M 11 r2 v) 11 r2 = v := by rw [bs_nA, if_pos ⟨rfl, rfl⟩]
      refine ⟨?_, fun q => absurd hr.1 (Nat.not_lt.mpr q)⟩
      show bs_rg (bs_k M (r2 / 18)) (nA (nSA M 11 r2 v) 9 r2) (nA (nSA M 11 r2 v) 10 r2) (nA (nSA M 11 r2 v) 11 r2)
      rw [e]
      exact hg
    · have e : nA (nSA M 11 r v) 11 r2 = nA M 11 r2 := by rw [bs_nA, if_neg (fun q => c q.2)]
      show bs_rg (bs_k M (r2 / 18)) (nA (nSA M 11 r v) 9 r2) (nA (nSA M 11 r v) 10 r2) (nA (nSA M 11 r v) 11 r2) ∧ (bs_n M ≤ r2 / 18 → nA (nSA M 11 r v) 9 r2 = 0 ∧ nA (nSA M 11 r v) 10 r2 = 0 ∧ nA (nSA M 11 r v) 11 r2 = 0)
      rw [e]
      exact i6 r2 hr2
  · rcases hq with hq | hq | hq
    · intro q
      have q : nF M 20 = 0 := q
      rw [hq] at q
      exact absurd q (by decide)
    · intro _ _
      obtain ⟨hl, hu, q⟩ := bs_Hist0 (nSA M 11 r v)
      exact ⟨0, hl, hu, hq, by decide, q⟩
    · intro _ q
      rw [hq] at q
      exact absurd q (by decide)
  · intro t2 i2 k2 v2 hv2 hw
    by_cases c : t2 = 2 ∧ i2 = r ∧ k2 = 6
    · obtain ⟨rfl, rfl, rfl⟩ := c
      refine Or.inl ⟨rfl, rfl, rfl, ?_⟩
      have e : bs_w (nSA M 11 i2 v) 2 i2 6 = some (nA (nSA M 11 i2 v) 11 i2) := rfl
      rw [e, bs_nA, if_pos ⟨rfl, rfl⟩] at hw
      exact (Option.some.inj hw).symm
    · refine Or.inr ⟨c, ?_⟩
      by_cases c2 : t2 = 2 ∧ k2 = 6
      · obtain ⟨rfl, rfl⟩ := c2
        have e : bs_w (nSA M 11 r v) 2 i2 6 = some (nA (nSA M 11 r v) 11 i2) := rfl
        rw [e, bs_nA, if_neg (fun q => c ⟨rfl, q.2, rfl⟩)] at hw
        exact hw
      · rw [← hw]
        unfold bs_w
        split <;> first | rfl | exact absurd ⟨rfl, rfl⟩ c2
/-- a fault: both sides count it, and answer the same -/
theorem bs_fault (h : bs_Rel x0 s0 Y S M) (k : Int32) : ∃ S2 M2, c_X5_faulted S (Y 0 0) k = some (-10 - k, S2) ∧ m_X6_meets M k = some (-10 - k, M2) ∧ bs_Rel x0 s0 Y S2 M2 := by
  refine ⟨_, _, rfl, rfl, ?_⟩
  have h1 := bs_p14 h k
  have e : mI (mSI S (Y 0 0) 9 k) (Y 0 0) 10 = nF M 13 := bs_i h1 0 0 10 rfl rfl
  have h2 := bs_p13 h1 (nF M 13 + 1)
  rw [show nSF (nSF M 13 (nF M 13 + 1)) 14 k = nSF (nSF M 14 k) 13 (nF M 13 + 1) from ?_]
  · rw [e]
    exact h2
  · unfold nSF
    congr 2
    funext b
    simp only [up1]
    by_cases c : b = 14
    · subst c
      rfl
    · rw [if_neg c]
      by_cases c2 : b = 13
      · rw [if_pos c2, if_pos c2]
      · rw [if_neg c2, if_neg c2, if_neg c]
theorem bs_lost (h : bs_Rel x0 s0 Y S M) (k : Int32) : ∃ S2 M2, c_X5_lost S (Y 0 0) k = some (-9223372036854775808, S2) ∧ m_X6_loses M k = some (-9223372036854775808, M2) ∧ bs_Rel x0 s0 Y S2 M2 := by
  obtain ⟨S2, M2, e1, e2, h2⟩ := bs_fault h k
  refine ⟨S2, M2, ?_, ?_, h2⟩
  · unfold c_X5_lost
    rw [e1, bs_bnd2]
  · unfold m_X6_loses
    rw [e2, bs_bnd2]
end BsRods
