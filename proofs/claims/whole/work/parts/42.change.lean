/-! a change: steps until nothing is in hand, or stuck -/
theorem bs_rea_some (u l H sg : Int32) : ∃ re, m_X6_reason u l H sg = some re := by
  unfold m_X6_reason m_X6_reason_J17 m_X6_reason_J36
  repeat' split
  all_goals exact ⟨_, rfl⟩
section BsChange
variable {x0 s0 : Nat} {Y : bs_Ly} {S : Mem} {M : MS}
theorem bs_stepJ (hW : bs_W x0 s0 Y S M) {f i w B : Nat} (hf : bs_own Y M f) (hB : bs_b M f = B) (hi : i < bs_m M f) (hs : bs_s M + 1 < 5000) (hw : w < 16) (hwB : w < B) (A sg D H i7 : Int32) (e : i7 - H * nI B = nI w) (hA : A = sg * D) (hre : ∀ u l, c_X3_reasonFor A H u l = m_X6_reason u l H sg) :
    ∃ Y' S' M', c_X3_oneStep_J66 S (Y 3 0) (some (Y 1 f)) (nI i) A (some (Y 2 (bs_r M f i))) (nA M 11 (bs_r M f i)) (nA M 10 (bs_r M f i)) i7 H = some (H, S') ∧
      (∀ k6, m_X6_change_J71 k6 M (nI f) sg (nI i) D (nI (bs_r M f i)) i7 H = if H = 0 then k6 M' (nI f) sg (nI (i + 1)) 0 else k6 M' (nI f) sg (nI (i + 1)) 1) ∧
      bs_W x0 s0 Y' S' M' ∧ bs_T B Y M Y' M' ∧ bs_TP Y S M S' M' ∧ bs_s M' = bs_s M + 1 ∧ bs_dv M' (bs_r M f i) = w ∧ ∀ q, q ≠ bs_r M f i → bs_dv M' q = bs_dv M q := by
  obtain ⟨h, h22, hl, hu, hh⟩ := hW
  have hr := bs_rV h.1 hf.1 hi
  have h5 := bs_r540 h.1 hf.1 hi
  have hn := bs_n30 h.1
  generalize hrr : bs_r M f i = r at *
  obtain ⟨w1, w2, w3⟩ := bs_write h hr (Or.inr (Or.inl h22)) hw
  have wu := @bs_wu5 (bs_k M (r / 18)) w hw
  obtain ⟨dv1, dv2⟩ := bs_W_dv M (r := r) w wu.1 hw
  have n4 : Y 4 0 ≠ Y 2 r := bs_ne h (t := 4) (i := 0) rfl hr (Or.inl (by decide))
  generalize hS1 : mSI (mSI S (Y 2 r) 6 (nI (bs_wu (bs_k M (r / 18)) w))) (Y 2 r) 5 (nI (w - 5 * bs_wu (bs_k M (r / 18)) w)) = S1 at *
  have p4 : mI S1 (Y 4 0) = mI S (Y 4 0) := by rw [← hS1, bs_mI_ne n4, bs_mI_ne n4]
  have p4L : mL S1 (Y 4 0) = mL S (Y 4 0) := by rw [← hS1]; rfl
  have ln5 : mLn S1 (Y 5 0) = mLn S (Y 5 0) := by rw [← hS1]; rfl
  -- the reference after the write
  have r10 : ∀ q, q ≠ r → nA (nSA (nSA M 11 r (nI (bs_wu (bs_k M (r / 18)) w))) 10 r (nI (w - 5 * bs_wu (bs_k M (r / 18)) w))) 10 q = nA M 10 q := fun q hq => by rw [bs_nA, if_neg (fun z => hq z.2), bs_nA, if_neg (fun z => absurd z.1 (by decide))]
  have r11 : ∀ q, q ≠ r → nA (nSA (nSA M 11 r (nI (bs_wu (bs_k M (r / 18)) w))) 10 r (nI (w - 5 * bs_wu (bs_k M (r / 18)) w))) 11 q = nA M 11 q := fun q hq => by rw [bs_nA, if_neg (fun z => absurd z.1 (by decide)), bs_nA, if_neg (fun z => hq z.2)]
  generalize hM1 : nSA (nSA M 11 r (nI (bs_wu (bs_k M (r / 18)) w))) 10 r (nI (w - 5 * bs_wu (bs_k M (r / 18)) w)) = M1 at *
  have m0 : nF M1 = nF M := by rw [← hM1]; rfl
  have mA : ∀ k, k ≠ 10 → k ≠ 11 → nA M1 k = nA M k := fun k c1 c2 => by
    funext j
    rw [← hM1, bs_nA, if_neg (fun z => c1 z.1), bs_nA, if_neg (fun z => c2 z.1)]
  have mP : nP M1 = nP M := by rw [← hM1]; rfl
  have lk : bs_like M M1 := ⟨by rw [m0], by rw [m0], mA 1 (by decide) (by decide), mA 2 (by decide) (by decide), mA 5 (by decide) (by decide), mA 6 (by decide) (by decide), mA 8 (by decide) (by decide), by rw [m0], by rw [m0]⟩
  have es1 : bs_s M1 = bs_s M := by unfold bs_s; rw [m0]
  have hr1 : bs_rv M1 r := by rw [bs_like_rv lk]; exact hr
  have hi1 : i < bs_m M1 f := by rw [bs_like_m lk]; exact hi
  have h221 : nF M1 22 = 0 := by rw [m0]; exact h22
  obtain ⟨re, hre2⟩ := bs_rea_some (nA M1 11 r - nA M 11 r) (nA M1 10 r - nA M 10 r) H sg
  have hre1 := (hre (nA M1 11 r - nA M 11 r) (nA M1 10 r - nA M 10 r)).trans hre2
  -- what comes of it, the row being long enough
  have fin : ∀ Y2 S2, bs_Rel x0 s0 Y2 S2 M1 → (∀ t i, t ≠ 5 → Y2 t i = Y t i) → 7 * bs_s M + 7 ≤ mLn S2 (Y2 5 0) → mI S2 (Y 4 0) = mI S (Y 4 0) → mL S2 (Y 4 0) = mL S (Y 4 0) →
      ∃ S' M', c_X3_oneStep_J123 S2 (Y 3 0) (some (Y 1 f)) (nI i) A (some (Y 2 r)) (nA M 11 r) (nA M 10 r) H (nI (7 * bs_s M)) = some (H, S') ∧
      (∀ k6, m_X6_change_J71 k6 M (nI f) sg (nI i) D (nI r) i7 H = if H = 0 then k6 M' (nI f) sg (nI (i + 1)) 0 else k6 M' (nI f) sg (nI (i + 1)) 1) ∧
      bs_W x0 s0 Y2 S' M' ∧ bs_T B Y M Y2 M' ∧ bs_TP Y S M S' M' ∧ bs_s M' = bs_s M + 1 ∧ bs_dv M' r = w ∧ ∀ q, q ≠ r → bs_dv M' q = bs_dv M q := by
    intro Y2 S2 h2 hY hlen p1 p2
    have hf2 : bs_own Y2 M1 f := ⟨by rw [bs_like_n lk]; exact hf.1, by rw [m0]; exact hf.2.1, by rw [m0, hY 12 0 (by decide)]; exact hf.2.2⟩
    obtain ⟨S', M', c1, c2, c3, c4, c5, c6⟩ := bs_row h2 h221 (by rw [es1]; exact hs) (by rw [es1]; exact hlen) hf2 hi1 hr1 A sg D H (nA M 11 r) (nA M 10 r) re hA hre1 hre2
    rw [es1] at c1 c3 c4
    rw [hY 3 0 (by decide), hY 1 f (by decide), hY 2 r (by decide)] at c1
    rw [hY 4 0 (by decide)] at c5 c6
    have e28 : ∀ j, j < 7 * bs_s M → nA M' 28 j = nA M 28 j := fun j hj => by
      rw [c4, ← mA 28 (by decide) (by decide)]
      show nA (nSA _ 28 _ _) 28 j = _
      simp only [bs_nA, true_and]
      rw [if_neg (by omega), if_neg (by omega), if_neg (by omega), if_neg (by omega), if_neg (by omega), if_neg (by omega), if_neg (by omega)]
    have f28 : nA M' 28 (7 * bs_s M) = nI f ∧ nA M' 28 (7 * bs_s M + 1) = nI i ∧ nA M' 28 (7 * bs_s M + 2) = nA M1 11 r - nA M 11 r ∧ nA M' 28 (7 * bs_s M + 3) = nA M1 10 r - nA M 10 r := by
      rw [c4]
      refine ⟨?_, ?_, ?_, ?_⟩
      · show nA (nSA _ 28 _ _) 28 _ = _
        simp only [bs_nA, true_and]
        rw [if_neg (by omega), if_neg (by omega), if_neg (by omega), if_neg (by omega), if_neg (by omega), if_neg (by omega), if_pos trivial]
      · show nA (nSA _ 28 _ _) 28 _ = _
        simp only [bs_nA, true_and]
        rw [if_neg (by omega), if_neg (by omega), if_neg (by omega), if_neg (by omega), if_neg (by omega), if_pos trivial]
      · show nA (nSA _ 28 _ _) 28 _ = _
        simp only [bs_nA, true_and]
        rw [if_neg (by omega), if_neg (by omega), if_neg (by omega), if_neg (by omega), if_pos trivial]
      · show nA (nSA _ 28 _ _) 28 _ = _
        simp only [bs_nA, true_and]
        rw [if_neg (by omega), if_neg (by omega), if_neg (by omega), if_pos trivial]
    have mA' : ∀ k, k ≠ 28 → nA M' k = nA M1 k := fun k hk => by
      rw [c4]
      funext j
      show nA (nSA _ 28 _ _) k j = _
      simp only [bs_nA]
      rw [if_neg (fun z => hk z.1), if_neg (fun z => hk z.1), if_neg (fun z => hk z.1), if_neg (fun z => hk z.1), if_neg (fun z => hk z.1), if_neg (fun z => hk z.1), if_neg (fun z => hk z.1)]
    have mF' : ∀ k, k ≠ 21 → nF M' k = nF M1 k := fun k hk => by
      rw [c4]
      show up1 _ 21 _ k = _
      unfold up1
      rw [if_neg hk]
      rfl
    have mP' : nP M' = nP M := by rw [c4, ← mP]; rfl
    have lk' : bs_like M M' := by
      refine bs_like_tr lk ⟨mF' 0 (by decide), mF' 36 (by decide), mA' 1 (by decide), mA' 2 (by decide), mA' 5 (by decide), mA' 6 (by decide), mA' 8 (by decide), mF' 18 (by decide), mF' 19 (by decide)⟩
    have dvE : bs_dv M' = bs_dv M1 := by
      funext q
      unfold bs_dv bs_l bs_u
      rw [mA' 10 (by decide), mA' 11 (by decide)]
    have n9 : nA M' 9 = nA M 9 := (mA' 9 (by decide)).trans (mA 9 (by decide) (by decide))
    refine ⟨S', M', c1, ?_, ⟨c2, ?_, ?_⟩, ⟨hY, lk', ⟨(mA' 3 (by decide)).trans (mA 3 (by decide) (by decide)), n9⟩, ?_⟩, ⟨⟨c5.trans p1, c6.trans p2⟩, ?_, ?_, ?_, ?_, mP'⟩, c3, by rw [dvE]; exact dv1, fun q hq => by rw [dvE]; exact dv2 q hq⟩
    · intro k6
      have hb3 : nA M 3 f = nI B := by rw [bs_bN h.1 hf.1, hB]
      have s1' : nF M1 21 = nI (bs_s M) := by rw [m0]; exact bs_sN h.1
      unfold m_X6_change_J71
      rw [bs_gd (bs_inB h5 (by decide)), bs_let, bs_gd (bs_inB h5 (by decide)), bs_let, bs_gd (bs_inB (n := f) (by have := hf.1; omega) (by decide)), bs_cl (n := r) (by omega), bs_cl (n := f) (by have := hf.1; omega), hb3, e, w2, bs_bnd, bs_let, s1', bs_lit 7, pk_mul]
      rw [bs_gd (bs_inB (by omega) (by decide)), bs_let, bs_cl (by omega), bs_lit 1, nI_add, bs_gd (bs_inB (by omega) (by decide)), bs_let, bs_cl (by omega), bs_gd (bs_inB h5 (by decide)), bs_let, bs_lit 2, nI_add, bs_gd (bs_inB (by omega) (by decide)), bs_let, bs_cl (by omega), bs_gd (bs_inB h5 (by decide)), bs_let, bs_lit 3, nI_add, bs_gd (bs_inB (by omega) (by decide)), bs_let, bs_cl (by omega), bs_gd (bs_inB h5 (by decide)), bs_gd (bs_inB h5 (by decide))]
      have z1 : ∀ (X : MS) (a b c d : Nat) (u v x y : Int32), nA (nSA (nSA (nSA (nSA X 28 a u) 28 b v) 28 c x) 28 d y) 11 r = nA X 11 r := fun _ _ _ _ _ _ _ _ _ => rfl
      have z2 : ∀ (X : MS) (a b c d : Nat) (u v x y : Int32), nA (nSA (nSA (nSA (nSA X 28 a u) 28 b v) 28 c x) 28 d y) 10 r = nA X 10 r := fun _ _ _ _ _ _ _ _ _ => rfl
      have z3 : ∀ (X : MS) (a b : Nat) (u v : Int32), nA (nSA (nSA X 28 a u) 28 b v) 11 r = nA X 11 r := fun _ _ _ _ _ => rfl
      have z4 : ∀ (X : MS) (a b c : Nat) (u v x : Int32), nA (nSA (nSA (nSA X 28 a u) 28 b v) 28 c x) 10 r = nA X 10 r := fun _ _ _ _ _ _ _ => rfl
      rw [z1, z2, z3, z4, hre2, bs_bnd, bs_lit 4, nI_add, bs_gd (bs_inB (by omega) (by decide)), bs_let, bs_cl (by omega), bs_lit 5, nI_add, bs_gd (bs_inB (by omega) (by decide)), bs_let, bs_cl (by omega), bs_let, bs_lit 6, nI_add, bs_gd (bs_inB (by omega) (by decide)), bs_let, bs_cl (by omega), bs_let, bs_let, ← hA, nI_add]
      have z5 : ∀ (X : MS) (a b c d p q t : Nat) (u v x y k l m : Int32), nF (nSA (nSA (nSA (nSA (nSA (nSA (nSA X 28 a u) 28 b v) 28 c x) 28 d y) 28 p k) 28 q l) 28 t m) 21 = nF X 21 := fun _ _ _ _ _ _ _ _ _ _ _ _ _ _ _ => rfl
      rw [z5, s1', nI_add, c4]
    · rw [mF' 22 (by decide)]; exact h221
    · rw [c3]
      obtain ⟨hl2, x1, x2⟩ : ∃ g : Nat → Nat → Int32, (∀ k q, k ≤ bs_s M → g k q = hl k q) ∧ ∀ q, g (bs_s M + 1) q = nA M1 10 q := ⟨fun k q => if k ≤ bs_s M then hl k q else nA M1 10 q, fun k q hk => if_pos hk, fun q => if_neg (by omega)⟩
      obtain ⟨hu2, y1, y2⟩ : ∃ g : Nat → Nat → Int32, (∀ k q, k ≤ bs_s M → g k q = hu k q) ∧ ∀ q, g (bs_s M + 1) q = nA M1 11 q := ⟨fun k q => if k ≤ bs_s M then hu k q else nA M1 11 q, fun k q hk => if_pos hk, fun q => if_neg (by omega)⟩
      refine ⟨hl2, hu2, ?_, ?_⟩
      · intro q
        rw [mA' 10 (by decide), mA' 11 (by decide)]
        exact ⟨x2 q, y2 q⟩
      · intro k hk
        have kE : bs_k M' = bs_k M := bs_like_k lk'
        have nE : bs_n M' = bs_n M := bs_like_n lk'
        have mE : bs_m M' = bs_m M := bs_like_m lk'
        have rE : bs_r M' = bs_r M := bs_like_r lk'
        refine ⟨?_, ?_⟩
        · by_cases c : k < bs_s M
          · obtain ⟨⟨f', i', b1, b2, b3, b4, b5⟩, -⟩ := hh.2 k c
            refine ⟨f', i', by rw [e28 _ (by omega)]; exact b1, by rw [e28 _ (by omega)]; exact b2, by rw [nE]; exact b3, by rw [mE]; exact b4, ?_⟩
            intro q
            rw [e28 _ (by omega), e28 _ (by omega), rE, x1 k q (by omega), x1 (k + 1) q (by omega), y1 k q (by omega), y1 (k + 1) q (by omega)]
            exact b5 q
          · have : k = bs_s M := by omega
            subst this
            refine ⟨f, i, f28.1, f28.2.1, by rw [nE]; exact hf.1, by rw [mE]; exact hi, ?_⟩
            intro q
            rw [f28.2.2.1, f28.2.2.2, rE, hrr, x1 _ q (Nat.le_refl _), y1 _ q (Nat.le_refl _), x2, y2, (hh.1 q).1, (hh.1 q).2]
            by_cases c5 : q = r
            · rw [if_pos c5, if_pos c5, c5, bs_ssub, bs_ssub]
              exact ⟨rfl, rfl⟩
            · rw [if_neg c5, if_neg c5, r10 q c5, r11 q c5]
              exact ⟨rfl, rfl⟩
        · intro q hq
          rw [x1 k q (by omega), y1 k q (by omega), kE, n9]
          by_cases c : k < bs_s M
          · exact (hh.2 k c).2 q hq
          · have : k = bs_s M := by omega
            subst this
            rw [(hh.1 q).1, (hh.1 q).2]
            exact bs_rods h.1 q hq
    · intro q hq
      rw [dvE]
      by_cases c5 : q = r
      · rw [c5, dv1]; exact hwB
      · rw [dv2 q c5]; exact hq
    · rw [mF' 29 (by decide), m0]
    · rw [mF' 30 (by decide), m0]
    · rw [mF' 31 (by decide), m0]
    · rw [mA' 32 (by decide), mA 32 (by decide) (by decide)]
  have s1c : mI S1 (Y 3 0) 2 = nI (bs_s M) := (bs_i w3 3 0 2 rfl rfl).trans (by rw [m0]; exact bs_sN h.1)
  have hlen := h.2.1.2.2.2.2.2.2.2.1
  obtain ⟨c9, c91, c90, c92⟩ := h.2.1.2.2.2.2.2.2.1
  have f2 : mI S (Y 1 f) 2 = nI B := by rw [bs_f2 h hf.1, hB]
  by_cases c : 7 * bs_s M + 7 ≤ mLn S (Y 5 0)
  · obtain ⟨S', M', d1, d2⟩ := fin Y S1 w3 (fun _ _ _ => rfl) (by rw [ln5]; exact c) p4 p4L
    refine ⟨Y, S', M', ?_, d2⟩
    unfold c_X3_oneStep_J66
    rw [bs_o1 h hf.1, bs_bnd, bs_o2 h hr, bs_bnd, f2, e, w1, bs_bnd, bs_let, s1c, bs_lit 7, pk_mul, bs_q w3 3 0 1 rfl rfl, bs_o5 w3, bs_bnd, nI_add, ln5, if_pos (nI_le c (by omega))]
    exact d1
  · have hc : ∃ c, 2 * mLn S1 (Y 5 0) = 224 * c ∧ 0 < c ∧ c ≤ 313 := ⟨2 * c9, by rw [ln5]; omega, by omega, by omega⟩
    have hg := bs_grow5 w3 rfl hc
    have e3 : bs_Yg Y 5 (mNx S1) 5 0 = mNx S1 := rfl
    have e4 : mLn (mSR (mCopy S1 (Y 5 0) (2 * mLn S1 (Y 5 0))) (Y 3 0) 1 (some (mNx S1))) (mNx S1) = 2 * mLn S1 (Y 5 0) := by simp [mLn, mSR, mCopy, up1]
    have n4x : Y 4 0 ≠ mNx S1 := Nat.ne_of_lt (bs_ltNx w3 (t := 4) (i := 0) rfl)
    obtain ⟨S', M', d1, d2⟩ := fin (bs_Yg Y 5 (mNx S1)) _ hg (fun t i q => if_neg (fun z => q z.1)) (by rw [e3, e4, ln5]; omega) (by rw [← p4]; funext j; simp [mI, mSR, mCopy, up1, n4x]) (by rw [← p4L]; funext j; simp [mL, mSR, mCopy, up1, n4x])
    refine ⟨bs_Yg Y 5 (mNx S1), S', M', ?_, d2⟩
    unfold c_X3_oneStep_J66
    rw [bs_o1 h hf.1, bs_bnd, bs_o2 h hr, bs_bnd, f2, e, w1, bs_bnd, bs_let, s1c, bs_lit 7, pk_mul, bs_q w3 3 0 1 rfl rfl, bs_o5 w3, bs_bnd, nI_add, ln5, if_neg (nI_ge (by omega) (by omega)), bs_bnd, bs_let, bs_lit 2, pk_mul]
    have e5 : copyOK S1 (Y 5 0) (nI (2 * mLn S1 (Y 5 0))) = true := by
      refine decide_eq_true ?_
      rw [ln5, bs_cl (by omega)]
      refine ⟨nI_pos (by omega), fun q => ?_, by omega, by omega⟩
      have := (nI_eq (by omega) (by omega)).mp q
      omega
    rw [bs_gd e5, bs_let, bs_let, bs_let, bs_cl (by omega)]
    exact d1
end BsChange
