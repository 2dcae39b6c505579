/-! an exercise more: what becomes of the relation -/
def bs_Ye (Y : bs_Ly) (e X D : Nat) : bs_Ly := fun t i => if t = 7 ∧ i = e then X else if t = 8 ∧ i = e then D else Y t i
/-- the reference with an exercise more -/
def bs_M1e (M M2 : MS) : Prop := nF M2 36 = nI (bs_e M + 1) ∧ (∀ k, k ≠ 36 → k ≠ 42 → nF M2 k = nF M k) ∧ (∀ k, k < 37 → nA M2 k = nA M k) ∧ (∀ j, j ≠ bs_e M → nA M2 37 j = nA M 37 j ∧ nA M2 41 j = nA M 41 j) ∧ (∀ j, j / 12 ≠ bs_e M → nA M2 38 j = nA M 38 j ∧ nA M2 39 j = nA M 39 j ∧ nA M2 40 j = nA M 40 j) ∧ nP M2 = nP M
section BsAddE
variable {x0 s0 : Nat} {Y : bs_Ly} {S S2 : Mem} {M M2 : MS}
theorem bs_addE (h : bs_Rel x0 s0 Y S M) (hn : bs_e M < 200) (hE : bs_Ext S S2) (hM : bs_M1e M M2)
    {X D : Nat} (hX : mNx S ≤ X) (hD : mNx S ≤ D) (hXD : X ≠ D) (kX : mKd S2 X = 1) (kD : mKd S2 D = 8) (lD : mLn S2 D = 12)
    (f0 : mI S2 X 0 = nA M2 37 (bs_e M)) (f3 : mI S2 X 3 = nA M2 41 (bs_e M)) (f1 : mR S2 X 1 = some D) (fD : ∀ j, j < 12 → mI S2 D j = nA M2 40 (12 * bs_e M + j))
    (fB : ∃ B : Nat, B < 4096 ∧ mI S2 X 2 = nI B ∧ ∀ p, p < 12 → nA M2 39 (12 * bs_e M + p) = (if B.testBit p then 1 else 0) ∧ (B.testBit p = false → nA M2 38 (12 * bs_e M + p) = nA M2 40 (12 * bs_e M + p)))
    (hx : mNx S2 ≤ mNx S + 2) (hs : mSl S2 ≤ mSl S + 30) :
    bs_Rel x0 s0 (bs_Ye Y (bs_e M) X D) (mSI (mSR S2 (Y 10 0) (bs_e M) (some X)) (Y 0 0) 3 (nI (bs_e M + 1))) M2 := by
  obtain ⟨n0, nFk, nAo, nAj, nA8, nPe⟩ := hM
  have eE : bs_e M2 = bs_e M + 1 := by show (nF M2 36).toNatClampNeg = _; rw [n0, bs_cl (by omega)]
  have nE : bs_n M2 = bs_n M := by unfold bs_n; rw [nFk 0 (by decide) (by decide)]
  have sE : bs_s M2 = bs_s M := by unfold bs_s; rw [nFk 21 (by decide) (by decide)]
  have pE : bs_p M2 = bs_p M := by unfold bs_p; rw [nFk 34 (by decide) (by decide)]
  have kE : bs_k M2 = bs_k M := by funext f; unfold bs_k; rw [nAo 1 (by decide)]
  have mE : bs_m M2 = bs_m M := by funext f; unfold bs_m; rw [nAo 2 (by decide)]
  have bE : bs_b M2 = bs_b M := by funext f; unfold bs_b; rw [nAo 3 (by decide)]
  have dE : bs_d M2 = bs_d M := by funext f; unfold bs_d; rw [nAo 4 (by decide)]
  have oE : bs_1 M2 = bs_1 M := by funext f; unfold bs_1; rw [nAo 5 (by decide)]
  have tE : bs_2 M2 = bs_2 M := by funext f; unfold bs_2; rw [nAo 6 (by decide)]
  have rE : bs_r M2 = bs_r M := by funext f i; unfold bs_r; rw [nAo 8 (by decide)]
  have rvE : bs_rv M2 = bs_rv M := by funext r; unfold bs_rv; rw [nE, kE, mE]
  have vN : ∀ t i, bs_val M2 t i → (bs_val M t i ∧ bs_Ye Y (bs_e M) X D t i = Y t i) ∨ (t = 7 ∧ i = bs_e M) ∨ (t = 8 ∧ i = bs_e M) := by
    intro t i hv
    by_cases t7 : t = 7
    · subst t7
      have hv : i < bs_e M2 := hv
      by_cases c : i = bs_e M
      · exact Or.inr (Or.inl ⟨rfl, c⟩)
      · refine Or.inl ⟨show i < bs_e M by omega, ?_⟩
        unfold bs_Ye
        rw [if_neg (fun q => c q.2), if_neg (fun q => absurd q.1 (by decide))]
    by_cases t8 : t = 8
    · subst t8
      have hv : i < bs_e M2 := hv
      by_cases c : i = bs_e M
      · exact Or.inr (Or.inr ⟨rfl, c⟩)
      · refine Or.inl ⟨show i < bs_e M by omega, ?_⟩
        unfold bs_Ye
        rw [if_neg (fun q => absurd q.1 (by decide)), if_neg (fun q => c q.2)]
    refine Or.inl ⟨?_, ?_⟩
    · unfold bs_val at hv ⊢
      rw [nE, rvE] at hv
      split at hv <;> first | exact hv | exact absurd rfl t7 | exact absurd rfl t8
    · unfold bs_Ye
      rw [if_neg (fun q => t7 q.1), if_neg (fun q => t8 q.1)]
  have YX : bs_Ye Y (bs_e M) X D 7 (bs_e M) = X := if_pos ⟨rfl, rfl⟩
  have YD : bs_Ye Y (bs_e M) X D 8 (bs_e M) = D := by unfold bs_Ye; rw [if_neg (fun q => absurd q.1 (by decide)), if_pos ⟨rfl, rfl⟩]
  have YO : ∀ t i, t ≠ 7 → t ≠ 8 → bs_Ye Y (bs_e M) X D t i = Y t i := fun t i a b => by unfold bs_Ye; rw [if_neg (fun q => a q.1), if_neg (fun q => b q.1)]
  have Y7o : ∀ e, e ≠ bs_e M → bs_Ye Y (bs_e M) X D 7 e = Y 7 e := fun e he => by unfold bs_Ye; rw [if_neg (fun q => he q.2), if_neg (fun q => absurd q.1 (by decide))]
  have Y8o : ∀ e, e ≠ bs_e M → bs_Ye Y (bs_e M) X D 8 e = Y 8 e := fun e he => by unfold bs_Ye; rw [if_neg (fun q => absurd q.1 (by decide)), if_neg (fun q => he q.2)]
  have lt := fun t i hv => bs_ltNx h (t := t) (i := i) hv
  have y10 : Y 10 0 < mNx S := lt 10 0 rfl
  have y0 : Y 0 0 < mNx S := lt 0 0 rfl
  have hx1 := hE.1
  have oK : ∀ a, a < mNx S → mKd (mSI (mSR S2 (Y 10 0) (bs_e M) (some X)) (Y 0 0) 3 (nI (bs_e M + 1))) a = mKd S a := fun a ha => (hE.2.2 a ha).1
  have oL : ∀ a, a < mNx S → mLn (mSI (mSR S2 (Y 10 0) (bs_e M) (some X)) (Y 0 0) 3 (nI (bs_e M + 1))) a = mLn S a := fun a ha => (hE.2.2 a ha).2.1
  have oI : ∀ a k, a < mNx S → ¬ (a = Y 0 0 ∧ k = 3) → mI (mSI (mSR S2 (Y 10 0) (bs_e M) (some X)) (Y 0 0) 3 (nI (bs_e M + 1))) a k = mI S a k := fun a k ha hk => by
    rw [bs_mI, if_neg hk]
    exact congrFun (hE.2.2 a ha).2.2.1 k
  have oR : ∀ a k, a < mNx S → ¬ (a = Y 10 0 ∧ k = bs_e M) → mR (mSI (mSR S2 (Y 10 0) (bs_e M) (some X)) (Y 0 0) 3 (nI (bs_e M + 1))) a k = mR S a k := fun a k ha hk => by
    show mR (mSR S2 (Y 10 0) (bs_e M) (some X)) a k = _
    rw [bs_mR, if_neg hk]
    exact congrFun (hE.2.2 a ha).2.2.2.2 k
  have nI' : ∀ a k, mNx S ≤ a → mI (mSI (mSR S2 (Y 10 0) (bs_e M) (some X)) (Y 0 0) 3 (nI (bs_e M + 1))) a k = mI S2 a k := fun a k ha => by
    rw [bs_mI, if_neg (fun q => by omega)]
    rfl
  have nR' : ∀ a k, mNx S ≤ a → mR (mSI (mSR S2 (Y 10 0) (bs_e M) (some X)) (Y 0 0) 3 (nI (bs_e M + 1))) a k = mR S2 a k := fun a k ha => by
    show mR (mSR S2 (Y 10 0) (bs_e M) (some X)) a k = _
    rw [bs_mR, if_neg (fun q => by omega)]
  obtain ⟨hI, ⟨q1, q2, q3, q4, q5, q6, q7, q8, q9, q10, q11, q12, q13⟩, hi, hr, hP, hEx, hO, ⟨m1, m2⟩, hH⟩ := id h
  obtain ⟨i1, i2, i3, i4, i5, i6, i7, i8, i9⟩ := hI
  refine ⟨⟨by rw [nE, nFk 0 (by decide) (by decide)]; exact i1, ⟨by rw [eE]; exact n0, by rw [eE]; omega⟩, by rw [pE, nFk 34 (by decide) (by decide)]; exact i3, by rw [sE, nFk 21 (by decide) (by decide)]; exact i4, ?_, ?_, ?_, by rw [nFk 20 (by decide) (by decide)]; exact i8, by rw [sE, nFk 22 (by decide) (by decide)]; exact i9⟩, ⟨?_, ?_, ?_, ?_, ?_, ?_, ?_, ?_, ?_, ?_, ?_, ?_, ?_⟩, ?_, ?_, ?_, ?_, ?_, ⟨?_, ?_⟩, ?_⟩
  · intro f hf
    rw [nE] at hf
    have := i5 f hf
    unfold bs_Fr at this ⊢
    rw [kE, mE, bE, dE, oE, tE, rE, rvE, nAo 1 (by decide), nAo 2 (by decide), nAo 3 (by decide), nAo 4 (by decide), nAo 5 (by decide), nAo 6 (by decide), nAo 8 (by decide)]
    exact this
  · intro r hr2
    rw [kE, nE, nAo 9 (by decide), nAo 10 (by decide), nAo 11 (by decide)]
    exact i6 r hr2
  · rw [nFk 18 (by decide) (by decide), nFk 19 (by decide) (by decide), nE]
    exact i7
  · intro t i hv
    rcases vN t i hv with ⟨a, b⟩ | ⟨rfl, rfl⟩ | ⟨rfl, rfl⟩
    · rw [b, oK _ (lt t i a)]
      exact q1 t i a
    · rw [YX]; exact kX
    · rw [YD]; exact kD
  · intro t i t2 i2 hv hv2 e
    rcases vN t i hv with ⟨a, b⟩ | ⟨rfl, rfl⟩ | ⟨rfl, rfl⟩ <;> rcases vN t2 i2 hv2 with ⟨a', b'⟩ | ⟨rfl, rfl⟩ | ⟨rfl, rfl⟩
    · rw [b, b'] at e
      exact q2 t i t2 i2 a a' e
    · rw [b, YX] at e
      have := lt t i a
      omega
    · rw [b, YD] at e
      have := lt t i a
      omega
    · rw [b', YX] at e
      have := lt t2 i2 a'
      omega
    · exact ⟨rfl, rfl⟩
    · rw [YX, YD] at e
      exact absurd e hXD
    · rw [b', YD] at e
      have := lt t2 i2 a'
      omega
    · rw [YX, YD] at e
      exact absurd e.symm hXD
    · exact ⟨rfl, rfl⟩
  · rw [YO 9 0 (by decide) (by decide), oL _ (lt 9 0 rfl)]; exact q3
  · rw [YO 10 0 (by decide) (by decide), oL _ y10]; exact q4
  · intro f hf
    rw [nE] at hf
    rw [YO 11 f (by decide) (by decide), oL _ (lt 11 f hf), mE]
    exact q5 f hf
  · intro e he
    rw [eE] at he
    by_cases c : e = bs_e M
    · rw [c, YD]; exact lD
    · rw [Y8o e c, oL _ (lt 8 e (show e < bs_e M by omega))]
      exact q6 e (by omega)
  · rw [YO 5 0 (by decide) (by decide), oL _ (lt 5 0 rfl)]; exact q7
  · rw [YO 5 0 (by decide) (by decide), oL _ (lt 5 0 rfl), sE]; exact q8
  · rw [YO 6 0 (by decide) (by decide), oL _ (lt 6 0 rfl)]; exact q9
  · rw [YO 6 0 (by decide) (by decide), oL _ (lt 6 0 rfl), pE]; exact q10
  · rw [YO 13 0 (by decide) (by decide)]
    exact hE.2.1.trans q11
  · rw [YO 13 0 (by decide) (by decide), oL _ (lt 13 0 rfl)]; exact q12
  · rw [YO 12 0 (by decide) (by decide), nE]
    exact q13
  · intro t i k v hv hw
    rcases vN t i hv with ⟨a, b⟩ | ⟨rfl, rfl⟩ | ⟨rfl, rfl⟩
    · rw [b]
      by_cases c0 : t = 0 ∧ k = 3
      · obtain ⟨rfl, rfl⟩ := c0
        have : i = 0 := a
        subst this
        rw [bs_mI, if_pos ⟨rfl, rfl⟩]
        exact (show nI (bs_e M + 1) = nF M2 36 from n0.symm).trans (Option.some.inj hw)
      · rw [oI _ _ (lt t i a) (fun q => c0 ⟨(q2 t i 0 0 a rfl q.1).1, q.2⟩)]
        refine hi t i k v a ?_
        by_cases t7 : t = 7
        · subst t7
          have ai : i < bs_e M := a
          have ni : i ≠ bs_e M := by omega
          have e : bs_w M2 7 i k = bs_w M 7 i k := by
            rcases k with _ | _ | _ | _ | k
            · exact (show some (nA M2 37 i) = some (nA M 37 i) from congrArg some (nAj i ni).1)
            · exact (show (none : Option Int32) = none from rfl)
            · exact (show (none : Option Int32) = none from rfl)
            · exact (show some (nA M2 41 i) = some (nA M 41 i) from congrArg some (nAj i ni).2)
            · exact (show (none : Option Int32) = none from rfl)
          rw [← e]
          exact hw
        by_cases t8 : t = 8
        · subst t8
          have ai : i < bs_e M := a
          have e1 : bs_w M2 8 i k = if k < 12 then some (nA M2 40 (12 * i + k)) else none := rfl
          have e2 : bs_w M 8 i k = if k < 12 then some (nA M 40 (12 * i + k)) else none := rfl
          rw [e1] at hw
          rw [e2, ← hw]
          by_cases c : k < 12
          · rw [if_pos c, if_pos c, (nA8 (12 * i + k) (by omega)).2.2]
          · rw [if_neg c, if_neg c]
        rw [← hw]
        unfold bs_w
        rw [sE, pE, kE]
        split <;> first | rfl | exact absurd ⟨rfl, rfl⟩ c0 | exact absurd rfl t7 | exact absurd rfl t8 | (rw [nFk _ (by decide) (by decide)]) | (rw [nAo _ (by decide)]) | (rw [nAo _ (by decide)]; done)
    · rw [YX, nI' _ _ hX]
      have : k = 0 ∨ k = 3 := by
        unfold bs_w at hw
        split at hw <;> first | omega | cases hw
      rcases this with rfl | rfl
      · exact f0.trans (Option.some.inj hw)
      · exact f3.trans (Option.some.inj hw)
    · have e1 : bs_w M2 8 (bs_e M) k = if k < 12 then some (nA M2 40 (12 * bs_e M + k)) else none := rfl
      rw [e1] at hw
      split at hw
      · rename_i c
        rw [YD, nI' _ _ hD]
        exact (fD k c).trans (Option.some.inj hw)
      · cases hw
  · intro t i k v hv hw
    rcases vN t i hv with ⟨a, b⟩ | ⟨rfl, rfl⟩ | ⟨rfl, rfl⟩
    · rw [b]
      by_cases c10 : t = 10 ∧ k = bs_e M
      · obtain ⟨rfl, rfl⟩ := c10
        have : i = 0 := a
        subst this
        show mR (mSR S2 (Y 10 0) (bs_e M) (some X)) (Y 10 0) (bs_e M) = v
        rw [bs_mR, if_pos ⟨rfl, rfl⟩]
        have e : bs_wr (bs_Ye Y (bs_e M) X D) M2 10 0 (bs_e M) = if bs_e M < bs_e M2 then some (some (bs_Ye Y (bs_e M) X D 7 (bs_e M))) else none := rfl
        rw [e, if_pos (by omega), YX] at hw
        exact Option.some.inj hw
      · rw [oR _ _ (lt t i a) (fun q => c10 ⟨(q2 t i 10 0 a rfl q.1).1, q.2⟩)]
        refine hr t i k v a ?_
        by_cases t7 : t = 7
        · subst t7
          have ai : i < bs_e M := a
          have ni : i ≠ bs_e M := by omega
          have e : bs_wr (bs_Ye Y (bs_e M) X D) M2 7 i k = bs_wr Y M 7 i k := by
            rcases k with _ | _ | k
            · exact (show (none : Option (Option Nat)) = none from rfl)
            · exact (show some (some (bs_Ye Y (bs_e M) X D 8 i)) = some (some (Y 8 i)) from congrArg (fun z => some (some z)) (Y8o i ni))
            · exact (show (none : Option (Option Nat)) = none from rfl)
          rw [← e]
          exact hw
        by_cases t10 : t = 10
        · subst t10
          have nk : k ≠ bs_e M := fun q => c10 ⟨rfl, q⟩
          have e1 : bs_wr (bs_Ye Y (bs_e M) X D) M2 10 i k = if k < bs_e M2 then some (some (bs_Ye Y (bs_e M) X D 7 k)) else none := rfl
          have e2 : bs_wr Y M 10 i k = if k < bs_e M then some (some (Y 7 k)) else none := rfl
          rw [e1, eE, Y7o k nk] at hw
          rw [e2]
          by_cases c : k < bs_e M
          · rw [if_pos (by omega)] at hw
            rw [if_pos c]
            exact hw
          · rw [if_neg (by omega)] at hw
            cases hw
        rw [← hw]
        unfold bs_wr
        rw [nE, kE, oE, tE, mE, rE]
        split <;> first | rfl | exact absurd rfl t7 | exact absurd rfl t10 | (rw [nFk 18 (by decide) (by decide), nFk 19 (by decide) (by decide)]; done) | (rw [nFk 18 (by decide) (by decide), nFk 19 (by decide) (by decide)]; rfl)
    · rw [YX, nR' _ _ hX]
      have k1 : k = 1 := by
        unfold bs_wr at hw
        split at hw <;> first | omega | cases hw
      subst k1
      have e : bs_wr (bs_Ye Y (bs_e M) X D) M2 7 (bs_e M) 1 = some (some (bs_Ye Y (bs_e M) X D 8 (bs_e M))) := rfl
      rw [e, YD] at hw
      exact f1.trans (Option.some.inj hw)
    · exact absurd hw (by intro q; cases q)
  · have e4 := YO 4 0 (by decide) (by decide)
    have n40 : ∀ k, ¬ (Y 4 0 = Y 0 0 ∧ k = 3) := fun k q => absurd (q2 4 0 0 0 rfl rfl q.1).1 (by decide)
    unfold bs_Prt at hP ⊢
    rw [e4, nFk 29 (by decide) (by decide), nFk 30 (by decide) (by decide), nFk 31 (by decide) (by decide), nAo 32 (by decide), nPe, show mI (mSI (mSR S2 (Y 10 0) (bs_e M) (some X)) (Y 0 0) 3 (nI (bs_e M + 1))) (Y 4 0) = mI S (Y 4 0) from funext fun k => oI _ k (lt 4 0 rfl) (n40 k), show mL (mSI (mSR S2 (Y 10 0) (bs_e M) (some X)) (Y 0 0) 3 (nI (bs_e M + 1))) (Y 4 0) = mL S (Y 4 0) from (hE.2.2 _ (lt 4 0 rfl)).2.2.2.1]
    exact hP
  · intro e he
    rw [eE] at he
    by_cases c : e = bs_e M
    · rw [c, YX, nI' _ _ hX]
      exact fB
    · have he2 : e < bs_e M := by omega
      obtain ⟨B, b1, b2, b3⟩ := hEx e he2
      refine ⟨B, b1, ?_, ?_⟩
      · rw [Y7o e c, oI _ _ (lt 7 e he2) (fun q => absurd q.2 (by decide))]
        exact b2
      · intro p hp
        obtain ⟨z1, z2, z3⟩ := nA8 (12 * e + p) (by omega)
        rw [z1, z2, z3]
        exact b3 p hp
  · rw [YO 12 0 (by decide) (by decide)]
    intro k hk
    rw [sE] at hk
    obtain ⟨f, i, w1, w2, w3, w4, w5⟩ := hO k hk
    refine ⟨f, i, by rw [nAo 28 (by decide)]; exact w1, by rw [nAo 28 (by decide)]; exact w2, by rw [nE]; exact w3, by rw [mE]; exact w4, by rw [nFk 18 (by decide) (by decide)]; exact w5.1, by rw [nFk 19 (by decide) (by decide)]; exact w5.2⟩
  · rw [YO 5 0 (by decide) (by decide), oL _ (lt 5 0 rfl), YO 6 0 (by decide) (by decide), oL _ (lt 6 0 rfl), nE, eE]
    show mNx S2 ≤ _
    omega
  · rw [YO 5 0 (by decide) (by decide), oL _ (lt 5 0 rfl), YO 6 0 (by decide) (by decide), oL _ (lt 6 0 rfl), nE, eE]
    show mSl S2 ≤ _
    omega
  · intro a b
    rw [nFk 20 (by decide) (by decide)] at a
    rw [YO 14 0 (by decide) (by decide)] at b
    obtain ⟨s, hl, hu, r1, r2, r3⟩ := hH a b
    refine ⟨s, hl, hu, by rw [nFk 22 (by decide) (by decide)]; exact r1, r2, ?_⟩
    unfold bs_Hist at r3 ⊢
    rw [nE, mE, rE, kE, nAo 28 (by decide), nAo 9 (by decide), nAo 10 (by decide), nAo 11 (by decide)]
    exact r3
end BsAddE
