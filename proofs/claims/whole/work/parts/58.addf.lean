/-! a frame more: what becomes of the relation -/
/-- cells are added, the old ones are as they were -/
def bs_Ext (S S2 : Mem) : Prop := mNx S ≤ mNx S2 ∧ mW S2 = mW S ∧ ∀ a, a < mNx S → mKd S2 a = mKd S a ∧ mLn S2 a = mLn S a ∧ mI S2 a = mI S a ∧ mL S2 a = mL S a ∧ mR S2 a = mR S a
theorem bs_Ext_refl (S : Mem) : bs_Ext S S := ⟨Nat.le_refl _, rfl, fun _ _ => ⟨rfl, rfl, rfl, rfl, rfl⟩⟩
theorem bs_Ext_new {S S2 : Mem} (h : bs_Ext S S2) (kd ln sl : Nat) : bs_Ext S (mNew S2 kd ln sl) := by
  obtain ⟨h1, h2, h3⟩ := h
  refine ⟨Nat.le_trans h1 (Nat.le_succ _), h2, fun a ha => ?_⟩
  obtain ⟨a1, a2, a3, a4, a5⟩ := h3 a ha
  have ne : a ≠ mNx S2 := by omega
  obtain ⟨b1, b2, b3⟩ := mNew_other S2 kd ln sl ne
  refine ⟨?_, ?_, b1.trans a3, b2.trans a4, b3.trans a5⟩
  · rw [mKd_new, if_neg ne]; exact a1
  · rw [← a2]
    simp [mLn, mNew, up1, ne]
theorem bs_Ext_I {S S2 : Mem} (h : bs_Ext S S2) {a : Nat} (ha : mNx S ≤ a) (k : Nat) (v : Int32) : bs_Ext S (mSI S2 a k v) := by
  obtain ⟨h1, h2, h3⟩ := h
  refine ⟨h1, h2, fun b hb => ?_⟩
  obtain ⟨a1, a2, a3, a4, a5⟩ := h3 b hb
  exact ⟨a1, a2, (bs_mI_ne (by omega)).trans a3, a4, a5⟩
theorem bs_Ext_R {S S2 : Mem} (h : bs_Ext S S2) {a : Nat} (ha : mNx S ≤ a) (k : Nat) (v : Option Nat) : bs_Ext S (mSR S2 a k v) := by
  obtain ⟨h1, h2, h3⟩ := h
  refine ⟨h1, h2, fun b hb => ?_⟩
  obtain ⟨a1, a2, a3, a4, a5⟩ := h3 b hb
  exact ⟨a1, a2, a3, a4, ((mSame_R S2 a k v).2.2.2.2.2 b (by omega)).2.2.trans a5⟩
theorem bs_mR (S : Mem) (a k : Nat) (v : Option Nat) (b j : Nat) : mR (mSR S a k v) b j = if b = a ∧ j = k then v else mR S b j := rfl
def bs_Yf (Y : bs_Ly) (n F A : Nat) (R : Nat → Nat) : bs_Ly := fun t i => if t = 1 ∧ i = n then F else if t = 11 ∧ i = n then A else if t = 2 ∧ i / 18 = n then R (i % 18) else Y t i
/-- the reference with a frame more -/
def bs_M1 (M M2 : MS) : Prop := nF M2 0 = nI (bs_n M + 1) ∧ (∀ k, k ≠ 0 → nF M2 k = nF M k) ∧ (∀ k, k ≤ 7 → ∀ j, j ≠ bs_n M → nA M2 k j = nA M k j) ∧ (∀ j, j / 18 ≠ bs_n M → nA M2 8 j = nA M 8 j) ∧ (∀ j, j / 18 ≠ bs_n M → nA M2 9 j = nA M 9 j) ∧ (nA M2 10 = nA M 10 ∧ nA M2 11 = nA M 11) ∧ (∀ k, 11 < k → nA M2 k = nA M k) ∧ nP M2 = nP M
section BsAddF
variable {x0 s0 : Nat} {Y : bs_Ly} {S S2 : Mem} {M M2 : MS}
theorem bs_hist0 {s : Nat} {hl hu : Nat → Nat → Int32} (h : bs_Inv M) (hh : bs_Hist M s hl hu) {r : Nat} (hr : bs_n M ≤ r / 18) : ∀ d k, k + d = s → hl k r = nA M 10 r ∧ hu k r = nA M 11 r := by
  intro d
  induction d with
  | zero =>
    intro k hk
    have : k = s := by omega
    subst this
    exact hh.1 r
  | succ d ih =>
    intro k hk
    obtain ⟨⟨f, i, b1, b2, b3, b4, b5⟩, -⟩ := hh.2 k (by omega)
    have v := bs_rV h b3 b4
    have ne : ¬ r = bs_r M f i := by
      rintro rfl
      have := v.1
      omega
    have q := b5 r
    rw [if_neg ne, if_neg ne] at q
    have := ih (k + 1) (by omega)
    exact ⟨q.1.trans this.1, q.2.trans this.2⟩
theorem bs_addF (h : bs_Rel x0 s0 Y S M) (hn : bs_n M < 30) (hE : bs_Ext S S2) (hM : bs_M1 M M2) (hFr : bs_Fr M2 (bs_n M)) (hrg : ∀ r, r < 540 → r / 18 = bs_n M → bs_rg (bs_k M2 (bs_n M)) (nA M2 9 r) 0 0)
    {F A : Nat} {R : Nat → Nat} (hF : mNx S ≤ F) (hA : mNx S ≤ A) (hFA : F ≠ A) (kF : mKd S2 F = 2) (kA : mKd S2 A = 12) (lA : mLn S2 A = bs_m M2 (bs_n M))
    (f0 : mI S2 F 0 = nI (bs_n M)) (f1 : mI S2 F 1 = nA M2 1 (bs_n M)) (f2 : mI S2 F 2 = nA M2 3 (bs_n M)) (f3 : mI S2 F 3 = nA M2 4 (bs_n M)) (f4 : mI S2 F 4 = nA M2 7 (bs_n M)) (f5 : mR S2 F 5 = some A)
    (f6 : mR S2 F 6 = if bs_k M2 (bs_n M) = 4 then some (Y 1 (bs_1 M2 (bs_n M))) else none) (f7 : mR S2 F 7 = if bs_k M2 (bs_n M) = 4 then some (Y 1 (bs_2 M2 (bs_n M))) else none)
    (fR : ∀ i, i < bs_m M2 (bs_n M) → mR S2 A i = some (bs_Yf Y (bs_n M) F A R 2 (bs_r M2 (bs_n M) i)))
    (hR : bs_k M2 (bs_n M) ≠ 4 → ∀ i, i < bs_m M2 (bs_n M) → mNx S ≤ R i ∧ R i ≠ F ∧ R i ≠ A ∧ mKd S2 (R i) = 5 ∧ (∀ j, j < bs_m M2 (bs_n M) → R i = R j → i = j) ∧ ∀ k v, bs_w M2 2 (18 * bs_n M + i) k = some v → mI S2 (R i) k = v)
    (hx : mNx S2 ≤ mNx S + 20) (hs : mSl S2 ≤ mSl S + 300) :
    bs_Rel x0 s0 (bs_Yf Y (bs_n M) F A R) (mSI (mSR S2 (Y 9 0) (bs_n M) (some F)) (Y 0 0) 1 (nI (bs_n M + 1))) M2 := by
  obtain ⟨n0, nFk, nAj, nA8, nA9, ⟨nA10, nA11⟩, nAo, nPe⟩ := hM
  have nE : bs_n M2 = bs_n M + 1 := by show (nF M2 0).toNatClampNeg = _; rw [n0, bs_cl (by omega)]
  have eE : bs_e M2 = bs_e M := by unfold bs_e; rw [nFk 36 (by decide)]
  have sE : bs_s M2 = bs_s M := by unfold bs_s; rw [nFk 21 (by decide)]
  have pE : bs_p M2 = bs_p M := by unfold bs_p; rw [nFk 34 (by decide)]
  have kE : ∀ f, f ≠ bs_n M → bs_k M2 f = bs_k M f := fun f hf => by unfold bs_k; rw [nAj 1 (by decide) f hf]
  have mE : ∀ f, f ≠ bs_n M → bs_m M2 f = bs_m M f := fun f hf => by unfold bs_m; rw [nAj 2 (by decide) f hf]
  have bE : ∀ f, f ≠ bs_n M → bs_b M2 f = bs_b M f := fun f hf => by unfold bs_b; rw [nAj 3 (by decide) f hf]
  have dE : ∀ f, f ≠ bs_n M → bs_d M2 f = bs_d M f := fun f hf => by unfold bs_d; rw [nAj 4 (by decide) f hf]
  have oE : ∀ f, f ≠ bs_n M → bs_1 M2 f = bs_1 M f := fun f hf => by unfold bs_1; rw [nAj 5 (by decide) f hf]
  have tE : ∀ f, f ≠ bs_n M → bs_2 M2 f = bs_2 M f := fun f hf => by unfold bs_2; rw [nAj 6 (by decide) f hf]
  have rE : ∀ f i, f ≠ bs_n M → i < 18 → bs_r M2 f i = bs_r M f i := fun f i hf hi => by unfold bs_r; rw [nA8 (18 * f + i) (by omega)]
  have rvO : ∀ r, bs_rv M r → bs_rv M2 r := fun r hr => by
    have := hr.1
    refine ⟨by rw [nE]; omega, ?_, ?_⟩
    · rw [kE _ (by omega)]; exact hr.2.1
    · rw [mE _ (by omega)]; exact hr.2.2
  have rvN : ∀ r, bs_rv M2 r → bs_rv M r ∨ (r / 18 = bs_n M ∧ bs_k M2 (bs_n M) ≠ 4 ∧ r % 18 < bs_m M2 (bs_n M)) := fun r hr => by
    obtain ⟨a1, a2, a3⟩ := hr
    rw [nE] at a1
    by_cases c : r / 18 = bs_n M
    · rw [c] at a2 a3
      exact Or.inr ⟨c, a2, a3⟩
    · rw [kE _ c] at a2
      rw [mE _ c] at a3
      exact Or.inl ⟨by omega, a2, a3⟩
  -- which things there are
  have vN : ∀ t i, bs_val M2 t i → (bs_val M t i ∧ bs_Yf Y (bs_n M) F A R t i = Y t i) ∨ (t = 1 ∧ i = bs_n M) ∨ (t = 11 ∧ i = bs_n M) ∨ (t = 2 ∧ i / 18 = bs_n M ∧ bs_k M2 (bs_n M) ≠ 4 ∧ i % 18 < bs_m M2 (bs_n M)) := by
    intro t i hv
    by_cases t1 : t = 1
    · subst t1
      have hv : i < bs_n M2 := hv
      by_cases c : i = bs_n M
      · exact Or.inr (Or.inl ⟨rfl, c⟩)
      · refine Or.inl ⟨show i < bs_n M by omega, ?_⟩
        unfold bs_Yf
        rw [if_neg (fun q => c q.2), if_neg (fun q => absurd q.1 (by decide)), if_neg (fun q => absurd q.1 (by decide))]
    by_cases t11 : t = 11
    · subst t11
      have hv : i < bs_n M2 := hv
      by_cases c : i = bs_n M
      · exact Or.inr (Or.inr (Or.inl ⟨rfl, c⟩))
      · refine Or.inl ⟨show i < bs_n M by omega, ?_⟩
        unfold bs_Yf
        rw [if_neg (fun q => absurd q.1 (by decide)), if_neg (fun q => c q.2), if_neg (fun q => absurd q.1 (by decide))]
    by_cases t2 : t = 2
    · subst t2
      have hv : bs_rv M2 i := hv
      rcases rvN i hv with q | ⟨q1, q2, q3⟩
      · refine Or.inl ⟨q, ?_⟩
        have := q.1
        unfold bs_Yf
        rw [if_neg (fun q => absurd q.1 (by decide)), if_neg (fun q => absurd q.1 (by decide)), if_neg (fun q => by omega)]
      · exact Or.inr (Or.inr (Or.inr ⟨rfl, q1, q2, q3⟩))
    refine Or.inl ⟨?_, ?_⟩
    · unfold bs_val at hv ⊢
      rw [eE] at hv
      split at hv <;> first | exact hv | exact absurd rfl t1 | exact absurd rfl t11 | exact absurd rfl t2
    · unfold bs_Yf
      rw [if_neg (fun q => t1 q.1), if_neg (fun q => t11 q.1), if_neg (fun q => t2 q.1)]
  have YF : bs_Yf Y (bs_n M) F A R 1 (bs_n M) = F := if_pos ⟨rfl, rfl⟩
  have YA : bs_Yf Y (bs_n M) F A R 11 (bs_n M) = A := by unfold bs_Yf; rw [if_neg (fun q => absurd q.1 (by decide)), if_pos ⟨rfl, rfl⟩]
  have YR : ∀ i, i / 18 = bs_n M → bs_Yf Y (bs_n M) F A R 2 i = R (i % 18) := fun i hi => by unfold bs_Yf; rw [if_neg (fun q => absurd q.1 (by decide)), if_neg (fun q => absurd q.1 (by decide)), if_pos ⟨rfl, hi⟩]
  have YO : ∀ t i, t ≠ 1 → t ≠ 2 → t ≠ 11 → bs_Yf Y (bs_n M) F A R t i = Y t i := fun t i a b c => by unfold bs_Yf; rw [if_neg (fun q => a q.1), if_neg (fun q => c q.1), if_neg (fun q => b q.1)]
  have Y1o : ∀ f, f ≠ bs_n M → bs_Yf Y (bs_n M) F A R 1 f = Y 1 f := fun f hf => by unfold bs_Yf; rw [if_neg (fun q => hf q.2), if_neg (fun q => absurd q.1 (by decide)), if_neg (fun q => absurd q.1 (by decide))]
  have Y11o : ∀ f, f ≠ bs_n M → bs_Yf Y (bs_n M) F A R 11 f = Y 11 f := fun f hf => by unfold bs_Yf; rw [if_neg (fun q => absurd q.1 (by decide)), if_neg (fun q => hf q.2), if_neg (fun q => absurd q.1 (by decide))]
  have Y2o : ∀ r, r / 18 ≠ bs_n M → bs_Yf Y (bs_n M) F A R 2 r = Y 2 r := fun r hr => by unfold bs_Yf; rw [if_neg (fun q => absurd q.1 (by decide)), if_neg (fun q => absurd q.1 (by decide)), if_neg (fun q => hr q.2)]
  have lt := fun t i hv => bs_ltNx h (t := t) (i := i) hv
  have y9 : Y 9 0 < mNx S := lt 9 0 rfl
  have y0 : Y 0 0 < mNx S := lt 0 0 rfl
  have hx1 := hE.1
  -- the new state, old cells
  have oK : ∀ a, a < mNx S → mKd (mSI (mSR S2 (Y 9 0) (bs_n M) (some F)) (Y 0 0) 1 (nI (bs_n M + 1))) a = mKd S a := fun a ha => (hE.2.2 a ha).1
  have oL : ∀ a, a < mNx S → mLn (mSI (mSR S2 (Y 9 0) (bs_n M) (some F)) (Y 0 0) 1 (nI (bs_n M + 1))) a = mLn S a := fun a ha => (hE.2.2 a ha).2.1
  have oI : ∀ a k, a < mNx S → ¬ (a = Y 0 0 ∧ k = 1) → mI (mSI (mSR S2 (Y 9 0) (bs_n M) (some F)) (Y 0 0) 1 (nI (bs_n M + 1))) a k = mI S a k := fun a k ha hk => by
    rw [bs_mI, if_neg hk]
    exact congrFun (hE.2.2 a ha).2.2.1 k
  have oR : ∀ a k, a < mNx S → ¬ (a = Y 9 0 ∧ k = bs_n M) → mR (mSI (mSR S2 (Y 9 0) (bs_n M) (some F)) (Y 0 0) 1 (nI (bs_n M + 1))) a k = mR S a k := fun a k ha hk => by
    show mR (mSR S2 (Y 9 0) (bs_n M) (some F)) a k = _
    rw [bs_mR, if_neg hk]
    exact congrFun (hE.2.2 a ha).2.2.2.2 k
  have nI' : ∀ a k, mNx S ≤ a → mI (mSI (mSR S2 (Y 9 0) (bs_n M) (some F)) (Y 0 0) 1 (nI (bs_n M + 1))) a k = mI S2 a k := fun a k ha => by
    rw [bs_mI, if_neg (fun q => by omega)]
    rfl
  have nR' : ∀ a k, mNx S ≤ a → mR (mSI (mSR S2 (Y 9 0) (bs_n M) (some F)) (Y 0 0) 1 (nI (bs_n M + 1))) a k = mR S2 a k := fun a k ha => by
    show mR (mSR S2 (Y 9 0) (bs_n M) (some F)) a k = _
    rw [bs_mR, if_neg (fun q => by omega)]
  obtain ⟨hI, ⟨q1, q2, q3, q4, q5, q6, q7, q8, q9, q10, q11, q12, q13⟩, hi, hr, hP, hEx, hO, ⟨m1, m2⟩, hH⟩ := id h
  obtain ⟨i1, i2, i3, i4, i5, i6, i7, i8, i9⟩ := hI
  refine ⟨⟨⟨by rw [nE]; exact n0, by rw [nE]; omega⟩, by rw [eE, nFk 36 (by decide)]; exact i2, by rw [pE, nFk 34 (by decide)]; exact i3, by rw [sE, nFk 21 (by decide)]; exact i4, ?_, ?_, ?_, by rw [nFk 20 (by decide)]; exact i8, by rw [sE, nFk 22 (by decide)]; exact i9⟩, ⟨?_, ?_, ?_, ?_, ?_, ?_, ?_, ?_, ?_, ?_, ?_, ?_, ?_⟩, ?_, ?_, ?_, ?_, ?_, ⟨?_, ?_⟩, ?_⟩
  · -- frames
    intro f hf
    rw [nE] at hf
    by_cases c : f = bs_n M
    · rw [c]; exact hFr
    · obtain ⟨a1, a2, a3, a4, a5, a6, a7⟩ := i5 f (by omega)
      unfold bs_Fr
      rw [kE f c, mE f c, bE f c, dE f c, oE f c, tE f c, nAj 1 (by decide) f c, nAj 2 (by decide) f c, nAj 3 (by decide) f c, nAj 4 (by decide) f c, nAj 5 (by decide) f c, nAj 6 (by decide) f c]
      refine ⟨a1, a2, a3, a4, a5, ?_, ?_⟩
      · intro q
        obtain ⟨⟨x1, x2, x3⟩, y1, y2, y3⟩ := a6 q
        rw [dE _ (show bs_1 M f ≠ bs_n M by omega), dE _ (show bs_2 M f ≠ bs_n M by omega)]
        exact ⟨⟨x1, x2, x3⟩, y1, y2, y3⟩
      · intro i hi2
        have hm := a2.2
        rw [nA8 (18 * f + i) (by omega), rE f i c (by omega)]
        obtain ⟨z1, z2, z3⟩ := a7 i hi2
        exact ⟨z1, rvO _ z2, z3⟩
  · -- rods
    intro r hr2
    by_cases c : r / 18 = bs_n M
    · obtain ⟨-, z2, z3⟩ := (i6 r hr2).2 (by omega)
      rw [nA10, nA11, z2, z3, c]
      exact ⟨hrg r hr2 c, fun q => by rw [nE] at q; omega⟩
    · rw [kE _ c, nA9 r c, nA10, nA11, nE]
      exact ⟨(i6 r hr2).1, fun q => (i6 r hr2).2 (by omega)⟩
  · rw [nFk 18 (by decide), nFk 19 (by decide), nE]
    rcases i7 with q | ⟨q, f, w1, w2⟩
    · exact Or.inl q
    · exact Or.inr ⟨q, f, w1, by omega⟩
  · -- kinds
    intro t i hv
    rcases vN t i hv with ⟨a, b⟩ | ⟨rfl, rfl⟩ | ⟨rfl, rfl⟩ | ⟨rfl, c1, c2, c3⟩
    · rw [b, oK _ (lt t i a)]
      exact q1 t i a
    · rw [YF]; exact kF
    · rw [YA]; exact kA
    · rw [YR i c1]; exact (hR c2 _ c3).2.2.2.1
  · -- no two at one place
    intro t i t2 i2 hv hv2 e
    rcases vN t i hv with ⟨a, b⟩ | ⟨rfl, rfl⟩ | ⟨rfl, rfl⟩ | ⟨rfl, c1, c2, c3⟩ <;> rcases vN t2 i2 hv2 with ⟨a', b'⟩ | ⟨rfl, rfl⟩ | ⟨rfl, rfl⟩ | ⟨rfl, d1, d2, d3⟩
    · rw [b, b'] at e
      exact q2 t i t2 i2 a a' e
    · rw [b, YF] at e
      have := lt t i a
      omega
    · rw [b, YA] at e
      have := lt t i a
      omega
    · rw [b, YR i2 d1] at e
      have := lt t i a
      have := (hR d2 _ d3).1
      omega
    · rw [b', YF] at e
      have := lt t2 i2 a'
      omega
    · exact ⟨rfl, rfl⟩
    · rw [YF, YA] at e
      exact absurd e hFA
    · rw [YF, YR i2 d1] at e
      exact absurd e.symm (hR d2 _ d3).2.1
    · rw [b', YA] at e
      have := lt t2 i2 a'
      omega
    · rw [YF, YA] at e
      exact absurd e.symm hFA
    · exact ⟨rfl, rfl⟩
    · rw [YA, YR i2 d1] at e
      exact absurd e.symm (hR d2 _ d3).2.2.1
    · rw [b', YR i c1] at e
      have := lt t2 i2 a'
      have := (hR c2 _ c3).1
      omega
    · rw [YF, YR i c1] at e
      exact absurd e (hR c2 _ c3).2.1
    · rw [YA, YR i c1] at e
      exact absurd e (hR c2 _ c3).2.2.1
    · rw [YR i c1, YR i2 d1] at e
      have := (hR c2 _ c3).2.2.2.2.1 _ d3 e
      exact ⟨rfl, by omega⟩
  · rw [YO 9 0 (by decide) (by decide) (by decide), oL _ y9]; exact q3
  · rw [YO 10 0 (by decide) (by decide) (by decide), oL _ (lt 10 0 rfl)]; exact q4
  · intro f hf
    rw [nE] at hf
    by_cases c : f = bs_n M
    · rw [c, YA]; exact lA
    · rw [Y11o f c, oL _ (lt 11 f (show f < bs_n M by omega)), mE f c]
      exact q5 f (by omega)
  · intro e he
    rw [eE] at he
    rw [YO 8 e (by decide) (by decide) (by decide), oL _ (lt 8 e he)]
    exact q6 e he
  · rw [YO 5 0 (by decide) (by decide) (by decide), oL _ (lt 5 0 rfl)]; exact q7
  · rw [YO 5 0 (by decide) (by decide) (by decide), oL _ (lt 5 0 rfl), sE]; exact q8
  · rw [YO 6 0 (by decide) (by decide) (by decide), oL _ (lt 6 0 rfl)]; exact q9
  · rw [YO 6 0 (by decide) (by decide) (by decide), oL _ (lt 6 0 rfl), pE]; exact q10
  · rw [YO 13 0 (by decide) (by decide) (by decide)]
    exact hE.2.1.trans q11
  · rw [YO 13 0 (by decide) (by decide) (by decide), oL _ (lt 13 0 rfl)]; exact q12
  · rw [YO 12 0 (by decide) (by decide) (by decide), nE]
    omega
  · -- ints
    intro t i k v hv hw
    rcases vN t i hv with ⟨a, b⟩ | ⟨rfl, rfl⟩ | ⟨rfl, rfl⟩ | ⟨rfl, c1, c2, c3⟩
    · rw [b]
      by_cases c0 : t = 0 ∧ k = 1
      · obtain ⟨rfl, rfl⟩ := c0
        have : i = 0 := a
        subst this
        rw [bs_mI, if_pos ⟨rfl, rfl⟩]
        exact (show nI (bs_n M + 1) = nF M2 0 from n0.symm).trans (Option.some.inj hw)
      · rw [oI _ _ (lt t i a) (fun q => c0 ⟨(q2 t i 0 0 a rfl q.1).1, q.2⟩)]
        refine hi t i k v a ?_
        by_cases t1 : t = 1
        · subst t1
          have ai : i < bs_n M := a
          have ni : i ≠ bs_n M := by omega
          have e : bs_w M2 1 i k = bs_w M 1 i k := by
            rcases k with _ | _ | _ | _ | _ | k
            · exact (show some (nI i) = some (nI i) from rfl)
            · exact (show some (nA M2 1 i) = some (nA M 1 i) from congrArg some (nAj 1 (by decide) i ni))
            · exact (show some (nA M2 3 i) = some (nA M 3 i) from congrArg some (nAj 3 (by decide) i ni))
            · exact (show some (nA M2 4 i) = some (nA M 4 i) from congrArg some (nAj 4 (by decide) i ni))
            · exact (show some (nA M2 7 i) = some (nA M 7 i) from congrArg some (nAj 7 (by decide) i ni))
            · exact (show (none : Option Int32) = none from rfl)
          rw [← e]
          exact hw
        by_cases t2 : t = 2
        · subst t2
          have ai := (show bs_rv M i from a).1
          have ni : i / 18 ≠ bs_n M := by omega
          have e : bs_w M2 2 i k = bs_w M 2 i k := by
            rcases k with _ | _ | _ | _ | _ | _ | _ | k
            · show some (if bs_k M2 (i / 18) = 2 then (1 : Int32) else 0) = some (if bs_k M (i / 18) = 2 then (1 : Int32) else 0)
              rw [kE _ ni]
            · show some (if bs_k M2 (i / 18) = 2 then (1 : Int32) else 2) = some (if bs_k M (i / 18) = 2 then (1 : Int32) else 2)
              rw [kE _ ni]
            · show some (if bs_k M2 (i / 18) = 2 then (10 : Int32) else if bs_k M2 (i / 18) = 0 then 4 else 5) = some (if bs_k M (i / 18) = 2 then (10 : Int32) else if bs_k M (i / 18) = 0 then 4 else 5)
              rw [kE _ ni]
            · show some (if bs_k M2 (i / 18) = 2 then (0 : Int32) else if bs_k M2 (i / 18) = 0 then 1 else 2) = some (if bs_k M (i / 18) = 2 then (0 : Int32) else if bs_k M (i / 18) = 0 then 1 else 2)
              rw [kE _ ni]
            · exact (show some (nA M2 9 i) = some (nA M 9 i) from congrArg some (nA9 i ni))
            · exact (show some (nA M2 10 i) = some (nA M 10 i) from congrArg some (congrFun nA10 i))
            · exact (show some (nA M2 11 i) = some (nA M 11 i) from congrArg some (congrFun nA11 i))
            · exact (show (none : Option Int32) = none from rfl)
          rw [← e]
          exact hw
        rw [← hw]
        unfold bs_w
        rw [sE, pE]
        split <;> first | rfl | exact absurd ⟨rfl, rfl⟩ c0 | exact absurd rfl t1 | exact absurd rfl t2 | (rw [nFk _ (by decide)]) | (rw [nAo _ (by decide)]) | (rw [nAo _ (by decide)]; done)
    · rw [YF, nI' _ _ hF]
      have : k = 0 ∨ k = 1 ∨ k = 2 ∨ k = 3 ∨ k = 4 := by
        unfold bs_w at hw
        split at hw <;> first | omega | cases hw
      rcases this with rfl | rfl | rfl | rfl | rfl
      · exact f0.trans (Option.some.inj hw)
      · exact f1.trans (Option.some.inj hw)
      · exact f2.trans (Option.some.inj hw)
      · exact f3.trans (Option.some.inj hw)
      · exact f4.trans (Option.some.inj hw)
    · exact absurd hw (by intro q; cases q)
    · obtain ⟨g1, -, -, -, -, g6⟩ := hR c2 _ c3
      rw [YR i c1, nI' _ _ g1]
      refine g6 k v ?_
      rw [show 18 * bs_n M + i % 18 = i by omega]
      exact hw
  · -- references
    intro t i k v hv hw
    rcases vN t i hv with ⟨a, b⟩ | ⟨rfl, rfl⟩ | ⟨rfl, rfl⟩ | ⟨rfl, c1, c2, c3⟩
    · rw [b]
      by_cases c9 : t = 9 ∧ k = bs_n M
      · obtain ⟨rfl, rfl⟩ := c9
        have : i = 0 := a
        subst this
        show mR (mSR S2 (Y 9 0) (bs_n M) (some F)) (Y 9 0) (bs_n M) = v
        rw [bs_mR, if_pos ⟨rfl, rfl⟩]
        have e : bs_wr (bs_Yf Y (bs_n M) F A R) M2 9 0 (bs_n M) = if bs_n M < bs_n M2 then some (some (bs_Yf Y (bs_n M) F A R 1 (bs_n M))) else none := rfl
        rw [e, if_pos (by omega), YF] at hw
        exact Option.some.inj hw
      · rw [oR _ _ (lt t i a) (fun q => c9 ⟨(q2 t i 9 0 a rfl q.1).1, q.2⟩)]
        refine hr t i k v a ?_
        by_cases t1 : t = 1
        · subst t1
          have ai : i < bs_n M := a
          have ni : i ≠ bs_n M := by omega
          have e5 : bs_wr (bs_Yf Y (bs_n M) F A R) M2 1 i k = bs_wr Y M 1 i k := by
            rcases k with _ | _ | _ | _ | _ | _ | _ | _ | k
            · exact (show (none : Option (Option Nat)) = none from rfl)
            · exact (show (none : Option (Option Nat)) = none from rfl)
            · exact (show (none : Option (Option Nat)) = none from rfl)
            · exact (show (none : Option (Option Nat)) = none from rfl)
            · exact (show (none : Option (Option Nat)) = none from rfl)
            · exact (show some (some (bs_Yf Y (bs_n M) F A R 11 i)) = some (some (Y 11 i)) from congrArg (fun z => some (some z)) (Y11o i ni))
            · show some (if bs_k M2 i = 4 then some (bs_Yf Y (bs_n M) F A R 1 (bs_1 M2 i)) else none) = some (if bs_k M i = 4 then some (Y 1 (bs_1 M i)) else none)
              rw [kE i ni, oE i ni]
              by_cases c4 : bs_k M i = 4
              · have := ((i5 i ai).2.2.2.2.2.1 c4).1.2.1
                rw [if_pos c4, if_pos c4, Y1o _ (by omega)]
              · rw [if_neg c4, if_neg c4]
            · show some (if bs_k M2 i = 4 then some (bs_Yf Y (bs_n M) F A R 1 (bs_2 M2 i)) else none) = some (if bs_k M i = 4 then some (Y 1 (bs_2 M i)) else none)
              rw [kE i ni, tE i ni]
              by_cases c4 : bs_k M i = 4
              · have := ((i5 i ai).2.2.2.2.2.1 c4).2.2.1
                rw [if_pos c4, if_pos c4, Y1o _ (by omega)]
              · rw [if_neg c4, if_neg c4]
            · exact (show (none : Option (Option Nat)) = none from rfl)
          rw [← e5]
          exact hw
        by_cases t3 : t = 3
        · subst t3
          have e3 : bs_wr (bs_Yf Y (bs_n M) F A R) M2 3 i k = bs_wr Y M 3 i k := by
            rcases k with _ | _ | _ | _ | _ | _ | _ | k
            · exact (show some (some (Y 4 0)) = some (some (Y 4 0)) from rfl)
            · exact (show some (some (Y 5 0)) = some (some (Y 5 0)) from rfl)
            · exact (show (none : Option (Option Nat)) = none from rfl)
            · exact (show (none : Option (Option Nat)) = none from rfl)
            · exact (show (none : Option (Option Nat)) = none from rfl)
            · show some (if nF M2 18 = 0 then none else some (bs_Yf Y (bs_n M) F A R 1 (nF M2 19).toNatClampNeg)) = some (if nF M 18 = 0 then none else some (Y 1 (nF M 19).toNatClampNeg))
              rw [nFk 18 (by decide), nFk 19 (by decide)]
              rcases i7 with q | ⟨q, f, w1, w2⟩
              · rw [if_pos q, if_pos q]
              · rw [if_neg (by rw [q]; decide), if_neg (by rw [q]; decide), w1, bs_cl (by omega), Y1o f (by omega)]
            · show some (if Y 12 0 = 0 then none else some (bs_Yf Y (bs_n M) F A R 1 (Y 12 0 - 1))) = some (if Y 12 0 = 0 then none else some (Y 1 (Y 12 0 - 1)))
              by_cases c12 : Y 12 0 = 0
              · rw [if_pos c12, if_pos c12]
              · rw [if_neg c12, if_neg c12, Y1o _ (by omega)]
            · exact (show (none : Option (Option Nat)) = none from rfl)
          rw [← e3]
          exact hw
        by_cases t11 : t = 11
        · subst t11
          have ai : i < bs_n M := a
          have ni : i ≠ bs_n M := by omega
          have e1 : bs_wr (bs_Yf Y (bs_n M) F A R) M2 11 i k = if k < bs_m M2 i then some (some (bs_Yf Y (bs_n M) F A R 2 (bs_r M2 i k))) else none := rfl
          have e2 : bs_wr Y M 11 i k = if k < bs_m M i then some (some (Y 2 (bs_r M i k))) else none := rfl
          rw [e1, mE i ni] at hw
          rw [e2]
          split at hw
          · rename_i c
            have m18 := (i5 i ai).2.1.2
            have rv := ((i5 i ai).2.2.2.2.2.2 k c).2.1.1
            rw [rE i k ni (by omega), Y2o _ (by omega)] at hw
            rw [if_pos c]
            exact hw
          · cases hw
        by_cases t9 : t = 9
        · subst t9
          have nk : k ≠ bs_n M := fun q => c9 ⟨rfl, q⟩
          have e1 : bs_wr (bs_Yf Y (bs_n M) F A R) M2 9 i k = if k < bs_n M2 then some (some (bs_Yf Y (bs_n M) F A R 1 k)) else none := rfl
          have e2 : bs_wr Y M 9 i k = if k < bs_n M then some (some (Y 1 k)) else none := rfl
          rw [e1, nE, Y1o k nk] at hw
          rw [e2]
          by_cases c : k < bs_n M
          · rw [if_pos (by omega)] at hw
            rw [if_pos c]
            exact hw
          · rw [if_neg (by omega)] at hw
            cases hw
        rw [← hw]
        unfold bs_wr
        rw [eE]
        split <;> first | rfl | exact absurd rfl t1 | exact absurd rfl t3 | exact absurd rfl t11 | exact absurd rfl t9
    · rw [YF, nR' _ _ hF]
      have k56 : k = 5 ∨ k = 6 ∨ k = 7 := by
        unfold bs_wr at hw
        split at hw <;> first | omega | cases hw
      rcases k56 with rfl | rfl | rfl
      · have e : bs_wr (bs_Yf Y (bs_n M) F A R) M2 1 (bs_n M) 5 = some (some (bs_Yf Y (bs_n M) F A R 11 (bs_n M))) := rfl
        rw [e, YA] at hw
        exact f5.trans (Option.some.inj hw)
      · have e : bs_wr (bs_Yf Y (bs_n M) F A R) M2 1 (bs_n M) 6 = some (if bs_k M2 (bs_n M) = 4 then some (bs_Yf Y (bs_n M) F A R 1 (bs_1 M2 (bs_n M))) else none) := rfl
        rw [e] at hw
        rw [f6, ← Option.some.inj hw]
        by_cases c4 : bs_k M2 (bs_n M) = 4
        · have := (hFr.2.2.2.2.2.1 c4).1.2.1
          rw [if_pos c4, if_pos c4, Y1o _ (by omega)]
        · rw [if_neg c4, if_neg c4]
      · have e : bs_wr (bs_Yf Y (bs_n M) F A R) M2 1 (bs_n M) 7 = some (if bs_k M2 (bs_n M) = 4 then some (bs_Yf Y (bs_n M) F A R 1 (bs_2 M2 (bs_n M))) else none) := rfl
        rw [e] at hw
        rw [f7, ← Option.some.inj hw]
        by_cases c4 : bs_k M2 (bs_n M) = 4
        · have := (hFr.2.2.2.2.2.1 c4).2.2.1
          rw [if_pos c4, if_pos c4, Y1o _ (by omega)]
        · rw [if_neg c4, if_neg c4]
    · rw [YA, nR' _ _ hA]
      have e1 : bs_wr (bs_Yf Y (bs_n M) F A R) M2 11 (bs_n M) k = if k < bs_m M2 (bs_n M) then some (some (bs_Yf Y (bs_n M) F A R 2 (bs_r M2 (bs_n M) k))) else none := rfl
      rw [e1] at hw
      split at hw
      · rename_i c
        exact (fR k c).trans (Option.some.inj hw)
      · cases hw
    · exact absurd hw (by intro q; cases q)
  · -- parts
    have e4 := YO 4 0 (by decide) (by decide) (by decide)
    have n40 : ∀ k, ¬ (Y 4 0 = Y 0 0 ∧ k = 1) := fun k q => absurd (q2 4 0 0 0 rfl rfl q.1).1 (by decide)
    unfold bs_Prt at hP ⊢
    rw [e4, nFk 29 (by decide), nFk 30 (by decide), nFk 31 (by decide), nAo 32 (by decide), nPe, show mI (mSI (mSR S2 (Y 9 0) (bs_n M) (some F)) (Y 0 0) 1 (nI (bs_n M + 1))) (Y 4 0) = mI S (Y 4 0) from funext fun k => oI _ k (lt 4 0 rfl) (n40 k), show mL (mSI (mSR S2 (Y 9 0) (bs_n M) (some F)) (Y 0 0) 1 (nI (bs_n M + 1))) (Y 4 0) = mL S (Y 4 0) from (hE.2.2 _ (lt 4 0 rfl)).2.2.2.1]
    exact hP
  · intro e he
    rw [eE] at he
    rw [YO 7 e (by decide) (by decide) (by decide), oI _ _ (lt 7 e he) (fun q => absurd q.2 (by decide)), nAo 38 (by decide), nAo 39 (by decide), nAo 40 (by decide)]
    exact hEx e he
  · rw [YO 12 0 (by decide) (by decide) (by decide)]
    intro k hk
    rw [sE] at hk
    obtain ⟨f, i, w1, w2, w3, w4, w5⟩ := hO k hk
    refine ⟨f, i, by rw [nAo 28 (by decide)]; exact w1, by rw [nAo 28 (by decide)]; exact w2, by omega, by rw [mE f (by omega)]; exact w4, by rw [nFk 18 (by decide)]; exact w5.1, by rw [nFk 19 (by decide)]; exact w5.2⟩
  · rw [YO 5 0 (by decide) (by decide) (by decide), oL _ (lt 5 0 rfl), YO 6 0 (by decide) (by decide) (by decide), oL _ (lt 6 0 rfl), nE, eE]
    show mNx S2 ≤ _
    omega
  · rw [YO 5 0 (by decide) (by decide) (by decide), oL _ (lt 5 0 rfl), YO 6 0 (by decide) (by decide) (by decide), oL _ (lt 6 0 rfl), nE, eE]
    show mSl S2 ≤ _
    omega
  · intro a b
    rw [nFk 20 (by decide)] at a
    rw [YO 14 0 (by decide) (by decide) (by decide)] at b
    obtain ⟨s, hl, hu, r1, r2, r3, r4⟩ := hH a b
    refine ⟨s, hl, hu, by rw [nFk 22 (by decide)]; exact r1, r2, by rw [nA10, nA11]; exact r3, ?_⟩
    intro k hk
    obtain ⟨⟨f, i, b1, b2, b3, b4, b5⟩, b6⟩ := r4 k hk
    have m18 := (i5 f b3).2.1.2
    refine ⟨⟨f, i, by rw [nAo 28 (by decide)]; exact b1, by rw [nAo 28 (by decide)]; exact b2, by omega, by rw [mE f (by omega)]; exact b4, ?_⟩, ?_⟩
    · rw [nAo 28 (by decide), rE f i (by omega) (by omega)]
      exact b5
    · intro r hr2
      by_cases c : r / 18 = bs_n M
      · obtain ⟨-, z2, z3⟩ := (i6 r hr2).2 (by omega)
        have := bs_hist0 h.1 ⟨r3, r4⟩ (r := r) (by omega) (s - k) k (by omega)
        rw [this.1, this.2, z2, z3, c]
        exact hrg r hr2 c
      · rw [kE _ c, nA9 r c]
        exact b6 r hr2
end BsAddF
