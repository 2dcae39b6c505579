/-! changing both states -/
theorem bs_mI (S : Mem) (a k : Nat) (v : Int32) (b j : Nat) : mI (mSI S a k v) b j = if b = a ∧ j = k then v else mI S b j := rfl
theorem bs_mI_ne {S : Mem} {a k : Nat} {v : Int32} {b : Nat} (hb : b ≠ a) : mI (mSI S a k v) b = mI S b := ((mSame_I S a k v).2.2.2.2.2 b hb).1
section BsPut
variable {x0 s0 : Nat} {Y : bs_Ly} {S S2 : Mem} {M M2 : MS}
theorem bs_ne (h : bs_Rel x0 s0 Y S M) {t i t2 i2 : Nat} (h1 : bs_val M t i) (h2 : bs_val M t2 i2) (hn : t ≠ t2 ∨ i ≠ i2) : Y t i ≠ Y t2 i2 := by
  intro q
  have := h.2.1.2.1 t i t2 i2 h1 h2 q
  rcases hn with hn | hn
  · exact hn this.1
  · exact hn this.2
/-- what the shape of things hangs on is as it was -/
def bs_like (M M2 : MS) : Prop := nF M2 0 = nF M 0 ∧ nF M2 36 = nF M 36 ∧ nA M2 1 = nA M 1 ∧ nA M2 2 = nA M 2 ∧ nA M2 5 = nA M 5 ∧ nA M2 6 = nA M 6 ∧ nA M2 8 = nA M 8 ∧ nF M2 18 = nF M 18 ∧ nF M2 19 = nF M 19
theorem bs_like_n (e : bs_like M M2) : bs_n M2 = bs_n M := by unfold bs_n; rw [e.1]
theorem bs_like_e (e : bs_like M M2) : bs_e M2 = bs_e M := by unfold bs_e; rw [e.2.1]
theorem bs_like_k (e : bs_like M M2) : bs_k M2 = bs_k M := by funext f; unfold bs_k; rw [e.2.2.1]
theorem bs_like_m (e : bs_like M M2) : bs_m M2 = bs_m M := by funext f; unfold bs_m; rw [e.2.2.2.1]
theorem bs_like_1 (e : bs_like M M2) : bs_1 M2 = bs_1 M := by funext f; unfold bs_1; rw [e.2.2.2.2.1]
theorem bs_like_2 (e : bs_like M M2) : bs_2 M2 = bs_2 M := by funext f; unfold bs_2; rw [e.2.2.2.2.2.1]
theorem bs_like_r (e : bs_like M M2) : bs_r M2 = bs_r M := by funext f i; unfold bs_r; rw [e.2.2.2.2.2.2.1]
theorem bs_like_rv (e : bs_like M M2) : bs_rv M2 = bs_rv M := by
  funext r
  unfold bs_rv
  rw [bs_like_n e, bs_like_k e, bs_like_m e]
theorem bs_like_val (e : bs_like M M2) : bs_val M2 = bs_val M := by
  funext t i
  unfold bs_val
  rw [bs_like_n e, bs_like_e e, bs_like_rv e]
theorem bs_like_wr (e : bs_like M M2) : bs_wr Y M2 = bs_wr Y M := by
  funext t i k
  unfold bs_wr
  rw [bs_like_n e, bs_like_e e, bs_like_k e, bs_like_m e, bs_like_1 e, bs_like_2 e, bs_like_r e, e.2.2.2.2.2.2.2.1, e.2.2.2.2.2.2.2.2]
theorem bs_mk (h : bs_Rel x0 s0 Y S M) (hk : mKd S2 = mKd S) (hl : mLn S2 = mLn S) (hx : mNx S2 = mNx S) (hs : mSl S2 = mSl S) (hw : mW S2 = mW S) (hr : mR S2 = mR S) (e : bs_like M M2) (hst : 7 * bs_s M2 ≤ mLn S (Y 5 0)) (hp : 4 * bs_p M2 ≤ mLn S (Y 6 0))
    (hI : bs_Inv M2) (hi : bs_Ints Y S2 M2) (hP : bs_Prt Y S2 M2) (hE : bs_Exs Y S2 M2) (hO : bs_Of M2 (Y 12 0)) (hH : bs_His Y M2) : bs_Rel x0 s0 Y S2 M2 := by
  obtain ⟨-, ⟨q1, q2, q3, q4, q5, q6, q7, q8, q9, q10, q11, q12, q13⟩, -, r, -, -, -, ⟨m1, m2⟩, -⟩ := h
  refine ⟨hI, ⟨?_, ?_, ?_, ?_, ?_, ?_, ?_, ?_, ?_, ?_, ?_, ?_, ?_⟩, hi, ?_, hP, hE, hO, ⟨?_, ?_⟩, hH⟩
  · rw [bs_like_val e, hk]; exact q1
  · rw [bs_like_val e]; exact q2
  · rw [hl]; exact q3
  · rw [hl]; exact q4
  · rw [hl, bs_like_n e, bs_like_m e]; exact q5
  · rw [hl, bs_like_e e]; exact q6
  · rw [hl]; exact q7
  · rw [hl]; exact hst
  · rw [hl]; exact q9
  · rw [hl]; exact hp
  · rw [hw]; exact q11
  · rw [hl]; exact q12
  · rw [bs_like_n e]; exact q13
  · intro t i k v h1 h2
    rw [bs_like_val e] at h1
    rw [bs_like_wr e] at h2
    rw [hr]
    exact r t i k v h1 h2
  · rw [hl, hx, bs_like_n e, bs_like_e e]; exact m1
  · rw [hl, hs, bs_like_n e, bs_like_e e]; exact m2
theorem bs_Prt_of (h : bs_Prt Y S M) (hI : mI S2 (Y 4 0) = mI S (Y 4 0)) (hL : mL S2 (Y 4 0) = mL S (Y 4 0)) (h1 : nF M2 29 = nF M 29) (h2 : nF M2 30 = nF M 30) (h3 : nF M2 31 = nF M 31) (h4 : nA M2 32 = nA M 32) (h5 : nP M2 = nP M) : bs_Prt Y S2 M2 := by
  unfold bs_Prt at h ⊢
  rw [hI, hL, h1, h2, h3, h4, h5]
  exact h
theorem bs_Exs_of (h : bs_Exs Y S M) (hI : ∀ e, e < bs_e M → mI S2 (Y 7 e) 2 = mI S (Y 7 e) 2) (h1 : nF M2 36 = nF M 36) (h2 : nA M2 38 = nA M 38) (h3 : nA M2 39 = nA M 39) (h4 : nA M2 40 = nA M 40) : bs_Exs Y S2 M2 := by
  have he : bs_e M2 = bs_e M := by unfold bs_e; rw [h1]
  intro e q
  rw [he] at q
  obtain ⟨B, b1, b2, b3⟩ := h e q
  exact ⟨B, b1, by rw [hI e q]; exact b2, by rw [h2, h3, h4]; exact b3⟩
theorem bs_Of_of {g : Nat} (h : bs_Of M g) (e : bs_like M M2) (h1 : nF M2 21 = nF M 21) (h2 : nA M2 28 = nA M 28) : bs_Of M2 g := by
  have hs : bs_s M2 = bs_s M := by unfold bs_s; rw [h1]
  unfold bs_Of at h ⊢
  rw [hs, h2, bs_like_n e, bs_like_m e, e.2.2.2.2.2.2.2.1, e.2.2.2.2.2.2.2.2]
  exact h
/-- one int of the class's, one number of the reference's: nothing that the shape hangs on -/
theorem bs_put (h : bs_Rel x0 s0 Y S M) {t i k : Nat} {v : Int32} (hv : bs_val M t i) (h7 : t ≠ 4 ∧ (t = 7 → k ≠ 2)) (e : bs_like M M2) (e21 : nF M2 21 = nF M 21) (e34 : nF M2 34 = nF M 34) (e28 : nA M2 28 = nA M 28)
    (p1 : nF M2 29 = nF M 29 ∧ nF M2 30 = nF M 30 ∧ nF M2 31 = nF M 31 ∧ nA M2 32 = nA M 32 ∧ nP M2 = nP M) (p2 : nA M2 38 = nA M 38 ∧ nA M2 39 = nA M 39 ∧ nA M2 40 = nA M 40)
    (hI : bs_Inv M2) (hH : bs_His Y M2) (hw : ∀ t2 i2 k2 v2, bs_val M t2 i2 → bs_w M2 t2 i2 k2 = some v2 → (t2 = t ∧ i2 = i ∧ k2 = k ∧ v2 = v) ∨ (¬ (t2 = t ∧ i2 = i ∧ k2 = k) ∧ bs_w M t2 i2 k2 = some v2)) : bs_Rel x0 s0 Y (mSI S (Y t i) k v) M2 := by
  have hs : bs_s M2 = bs_s M := by unfold bs_s; rw [e21]
  have hp : bs_p M2 = bs_p M := by unfold bs_p; rw [e34]
  refine bs_mk h rfl rfl rfl rfl rfl rfl e (by rw [hs]; exact h.2.1.2.2.2.2.2.2.2.1) (by rw [hp]; exact h.2.1.2.2.2.2.2.2.2.2.2.1) hI ?_ ?_ ?_ (bs_Of_of h.2.2.2.2.2.2.1 e e21 e28) hH
  · intro t2 i2 k2 v2 q1 q2
    rw [bs_like_val e] at q1
    rw [bs_mI]
    rcases hw t2 i2 k2 v2 q1 q2 with ⟨rfl, rfl, rfl, rfl⟩ | ⟨c1, c2⟩
    · rw [if_pos ⟨rfl, rfl⟩]
    · rw [if_neg]
      · exact h.2.2.1 t2 i2 k2 v2 q1 c2
      · rintro ⟨a1, a2⟩
        have := h.2.1.2.1 t2 i2 t i q1 hv a1
        exact c1 ⟨this.1, this.2, a2⟩
  · exact bs_Prt_of h.2.2.2.2.1 (bs_mI_ne (bs_ne h (t := 4) (i := 0) rfl hv (Or.inl (fun q => h7.1 q.symm)))) rfl p1.1 p1.2.1 p1.2.2.1 p1.2.2.2.1 p1.2.2.2.2
  · refine bs_Exs_of h.2.2.2.2.2.1 (fun e2 he2 => ?_) e.2.1 p2.1 p2.2.1 p2.2.2
    rw [bs_mI, if_neg]
    rintro ⟨a1, a2⟩
    have := h.2.1.2.1 7 e2 t i he2 hv a1
    exact h7.2 this.1.symm a2.symm
theorem bs_p12 (h : bs_Rel x0 s0 Y S M) (v : Int32) : bs_Rel x0 s0 Y (mSI S (Y 0 0) 7 v) (nSF M 12 v) := by
  refine bs_put h (t := 0) (i := 0) (k := 7) rfl ⟨by decide, fun q => absurd q (by decide)⟩ ⟨rfl, rfl, rfl, rfl, rfl, rfl, rfl, rfl, rfl⟩ rfl rfl rfl ⟨rfl, rfl, rfl, rfl, rfl⟩ ⟨rfl, rfl, rfl⟩ h.1 h.2.2.2.2.2.2.2.2 ?_
  intro t2 i2 k2 v2 hv2 hw
  by_cases c : t2 = 0 ∧ k2 = 7
  · obtain ⟨rfl, rfl⟩ := c
    exact Or.inl ⟨rfl, hv2, rfl, (Option.some.inj hw).symm⟩
  · refine Or.inr ⟨fun q => c ⟨q.1, q.2.2⟩, ?_⟩
    rw [← hw]
    unfold bs_w
    split <;> first | rfl | exact absurd ⟨rfl, rfl⟩ c
theorem bs_p15 (h : bs_Rel x0 s0 Y S M) (v : Int32) : bs_Rel x0 s0 Y (mSI S (Y 0 0) 8 v) (nSF M 15 v) := by
  refine bs_put h (t := 0) (i := 0) (k := 8) rfl ⟨by decide, fun q => absurd q (by decide)⟩ ⟨rfl, rfl, rfl, rfl, rfl, rfl, rfl, rfl, rfl⟩ rfl rfl rfl ⟨rfl, rfl, rfl, rfl, rfl⟩ ⟨rfl, rfl, rfl⟩ h.1 h.2.2.2.2.2.2.2.2 ?_
  intro t2 i2 k2 v2 hv2 hw
  by_cases c : t2 = 0 ∧ k2 = 8
  · obtain ⟨rfl, rfl⟩ := c
    exact Or.inl ⟨rfl, hv2, rfl, (Option.some.inj hw).symm⟩
  · refine Or.inr ⟨fun q => c ⟨q.1, q.2.2⟩, ?_⟩
    rw [← hw]
    unfold bs_w
    split <;> first | rfl | exact absurd ⟨rfl, rfl⟩ c
theorem bs_p14 (h : bs_Rel x0 s0 Y S M) (v : Int32) : bs_Rel x0 s0 Y (mSI S (Y 0 0) 9 v) (nSF M 14 v) := by
  refine bs_put h (t := 0) (i := 0) (k := 9) rfl ⟨by decide, fun q => absurd q (by decide)⟩ ⟨rfl, rfl, rfl, rfl, rfl, rfl, rfl, rfl, rfl⟩ rfl rfl rfl ⟨rfl, rfl, rfl, rfl, rfl⟩ ⟨rfl, rfl, rfl⟩ h.1 h.2.2.2.2.2.2.2.2 ?_
  intro t2 i2 k2 v2 hv2 hw
  by_cases c : t2 = 0 ∧ k2 = 9
  · obtain ⟨rfl, rfl⟩ := c
    exact Or.inl ⟨rfl, hv2, rfl, (Option.some.inj hw).symm⟩
  · refine Or.inr ⟨fun q => c ⟨q.1, q.2.2⟩, ?_⟩
    rw [← hw]
    unfold bs_w
    split <;> first | rfl | exact absurd ⟨rfl, rfl⟩ c
theorem bs_p13 (h : bs_Rel x0 s0 Y S M) (v : Int32) : bs_Rel x0 s0 Y (mSI S (Y 0 0) 10 v) (nSF M 13 v) := by
  refine bs_put h (t := 0) (i := 0) (k := 10) rfl ⟨by decide, fun q => absurd q (by decide)⟩ ⟨rfl, rfl, rfl, rfl, rfl, rfl, rfl, rfl, rfl⟩ rfl rfl rfl ⟨rfl, rfl, rfl, rfl, rfl⟩ ⟨rfl, rfl, rfl⟩ h.1 h.2.2.2.2.2.2.2.2 ?_
  intro t2 i2 k2 v2 hv2 hw
  by_cases c : t2 = 0 ∧ k2 = 10
  · obtain ⟨rfl, rfl⟩ := c
    exact Or.inl ⟨rfl, hv2, rfl, (Option.some.inj hw).symm⟩
  · refine Or.inr ⟨fun q => c ⟨q.1, q.2.2⟩, ?_⟩
    rw [← hw]
    unfold bs_w
    split <;> first | rfl | exact absurd ⟨rfl, rfl⟩ c
theorem bs_p23 (h : bs_Rel x0 s0 Y S M) (v : Int32) : bs_Rel x0 s0 Y (mSI S (Y 3 0) 7 v) (nSF M 23 v) := by
  refine bs_put h (t := 3) (i := 0) (k := 7) rfl ⟨by decide, fun q => absurd q (by decide)⟩ ⟨rfl, rfl, rfl, rfl, rfl, rfl, rfl, rfl, rfl⟩ rfl rfl rfl ⟨rfl, rfl, rfl, rfl, rfl⟩ ⟨rfl, rfl, rfl⟩ h.1 h.2.2.2.2.2.2.2.2 ?_
  intro t2 i2 k2 v2 hv2 hw
  by_cases c : t2 = 3 ∧ k2 = 7
  · obtain ⟨rfl, rfl⟩ := c
    exact Or.inl ⟨rfl, hv2, rfl, (Option.some.inj hw).symm⟩
  · refine Or.inr ⟨fun q => c ⟨q.1, q.2.2⟩, ?_⟩
    rw [← hw]
    unfold bs_w
    split <;> first | rfl | exact absurd ⟨rfl, rfl⟩ c
theorem bs_p24 (h : bs_Rel x0 s0 Y S M) (v : Int32) : bs_Rel x0 s0 Y (mSI S (Y 3 0) 8 v) (nSF M 24 v) := by
  refine bs_put h (t := 3) (i := 0) (k := 8) rfl ⟨by decide, fun q => absurd q (by decide)⟩ ⟨rfl, rfl, rfl, rfl, rfl, rfl, rfl, rfl, rfl⟩ rfl rfl rfl ⟨rfl, rfl, rfl, rfl, rfl⟩ ⟨rfl, rfl, rfl⟩ h.1 h.2.2.2.2.2.2.2.2 ?_
  intro t2 i2 k2 v2 hv2 hw
  by_cases c : t2 = 3 ∧ k2 = 8
  · obtain ⟨rfl, rfl⟩ := c
    exact Or.inl ⟨rfl, hv2, rfl, (Option.some.inj hw).symm⟩
  · refine Or.inr ⟨fun q => c ⟨q.1, q.2.2⟩, ?_⟩
    rw [← hw]
    unfold bs_w
    split <;> first | rfl | exact absurd ⟨rfl, rfl⟩ c
theorem bs_p25 (h : bs_Rel x0 s0 Y S M) (v : Int32) : bs_Rel x0 s0 Y (mSI S (Y 3 0) 9 v) (nSF M 25 v) := by
  refine bs_put h (t := 3) (i := 0) (k := 9) rfl ⟨by decide, fun q => absurd q (by decide)⟩ ⟨rfl, rfl, rfl, rfl, rfl, rfl, rfl, rfl, rfl⟩ rfl rfl rfl ⟨rfl, rfl, rfl, rfl, rfl⟩ ⟨rfl, rfl, rfl⟩ h.1 h.2.2.2.2.2.2.2.2 ?_
  intro t2 i2 k2 v2 hv2 hw
  by_cases c : t2 = 3 ∧ k2 = 9
  · obtain ⟨rfl, rfl⟩ := c
    exact Or.inl ⟨rfl, hv2, rfl, (Option.some.inj hw).symm⟩
  · refine Or.inr ⟨fun q => c ⟨q.1, q.2.2⟩, ?_⟩
    rw [← hw]
    unfold bs_w
    split <;> first | rfl | exact absurd ⟨rfl, rfl⟩ c
theorem bs_p26 (h : bs_Rel x0 s0 Y S M) (v : Int32) : bs_Rel x0 s0 Y (mSI S (Y 3 0) 10 v) (nSF M 26 v) := by
  refine bs_put h (t := 3) (i := 0) (k := 10) rfl ⟨by decide, fun q => absurd q (by decide)⟩ ⟨rfl, rfl, rfl, rfl, rfl, rfl, rfl, rfl, rfl⟩ rfl rfl rfl ⟨rfl, rfl, rfl, rfl, rfl⟩ ⟨rfl, rfl, rfl⟩ h.1 h.2.2.2.2.2.2.2.2 ?_
  intro t2 i2 k2 v2 hv2 hw
  by_cases c : t2 = 3 ∧ k2 = 10
  · obtain ⟨rfl, rfl⟩ := c
    exact Or.inl ⟨rfl, hv2, rfl, (Option.some.inj hw).symm⟩
  · refine Or.inr ⟨fun q => c ⟨q.1, q.2.2⟩, ?_⟩
    rw [← hw]
    unfold bs_w
    split <;> first | rfl | exact absurd ⟨rfl, rfl⟩ c
theorem bs_p27 (h : bs_Rel x0 s0 Y S M) (v : Int32) : bs_Rel x0 s0 Y (mSI S (Y 3 0) 11 v) (nSF M 27 v) := by
  refine bs_put h (t := 3) (i := 0) (k := 11) rfl ⟨by decide, fun q => absurd q (by decide)⟩ ⟨rfl, rfl, rfl, rfl, rfl, rfl, rfl, rfl, rfl⟩ rfl rfl rfl ⟨rfl, rfl, rfl, rfl, rfl⟩ ⟨rfl, rfl, rfl⟩ h.1 h.2.2.2.2.2.2.2.2 ?_
  intro t2 i2 k2 v2 hv2 hw
  by_cases c : t2 = 3 ∧ k2 = 11
  · obtain ⟨rfl, rfl⟩ := c
    exact Or.inl ⟨rfl, hv2, rfl, (Option.some.inj hw).symm⟩
  · refine Or.inr ⟨fun q => c ⟨q.1, q.2.2⟩, ?_⟩
    rw [← hw]
    unfold bs_w
    split <;> first | rfl | exact absurd ⟨rfl, rfl⟩ c
end BsPut
