/-! a step is taken back; undo -/
theorem bs_nSF_swap (M : MS) {k j : Nat} (v w : Int32) (h : k ≠ j) : nSF (nSF M k v) j w = nSF (nSF M j w) k v := by
  unfold nSF
  congr 2
  funext b
  simp only [up1]
  by_cases c : b = j
  · rw [if_pos c, if_neg (fun q => h (q.symm.trans c)), if_pos c]
  · rw [if_neg c, if_neg c]
theorem bs_t10 (X : MS) (r0 r : Nat) (a b : Int32) : nA (nSA (nSA X 11 r0 a) 10 r0 b) 10 r = if r = r0 then b else nA X 10 r := by
  rw [bs_nA]
  by_cases c : r = r0
  · rw [if_pos ⟨rfl, c⟩, if_pos c]
  · rw [if_neg (fun q => c q.2), if_neg c]
    rfl
theorem bs_t11 (X : MS) (r0 r : Nat) (a b : Int32) : nA (nSA (nSA X 11 r0 a) 10 r0 b) 11 r = if r = r0 then a else nA X 11 r := by
  have e : nA (nSA (nSA X 11 r0 a) 10 r0 b) 11 r = nA (nSA X 11 r0 a) 11 r := rfl
  rw [e, bs_nA]
  by_cases c : r = r0
  · rw [if_pos ⟨rfl, c⟩, if_pos c]
  · rw [if_neg (fun q => c q.2), if_neg c]
section BsUndo
variable {x0 s0 : Nat} {Y : bs_Ly} {S : Mem} {M : MS}
theorem bs_p22 (h : bs_Rel x0 s0 Y S M) {s : Nat} (hs : s ≤ bs_s M) (hH : bs_His Y (nSF M 22 (nI s))) : bs_Rel x0 s0 Y (mSI S (Y 3 0) 3 (nI s)) (nSF M 22 (nI s)) := by
  obtain ⟨i1, i2, i3, i4, i5, i6, i7, i8, -⟩ := h.1
  refine bs_put h (t := 3) (i := 0) (k := 3) rfl ⟨by decide, fun q => absurd q (by decide)⟩ ⟨rfl, rfl, rfl, rfl, rfl, rfl, rfl, rfl, rfl⟩ rfl rfl rfl ⟨rfl, rfl, rfl, rfl, rfl⟩ ⟨rfl, rfl, rfl⟩ ⟨i1, i2, i3, i4, i5, i6, i7, i8, s, rfl, hs⟩ hH ?_
  intro t2 i2 k2 v2 hv2 hw
  by_cases c : t2 = 3 ∧ k2 = 3
  · obtain ⟨rfl, rfl⟩ := c
    exact Or.inl ⟨rfl, hv2, rfl, (Option.some.inj hw).symm⟩
  · refine Or.inr ⟨fun q => c ⟨q.1, q.2.2⟩, ?_⟩
    rw [← hw]
    unfold bs_w
    split <;> first | rfl | exact absurd ⟨rfl, rfl⟩ c
/-- the frame of a step, as the class finds it -/
theorem bs_c_tb (h : bs_Rel x0 s0 Y S M) {k f : Nat} (hk : k < bs_s M) (e0 : nA M 28 (7 * k) = nI f) (hf : f < bs_n M) (h18 : nF M 18 = 1) (ho : nF M 19 = nI f ∨ Y 12 0 = f + 1) : c_X3_takeBack S (Y 3 0) (nI k) = c_X3_takeBack_J34 S (Y 3 0) (nI k) (some (Y 1 f)) := by
  have hn := bs_n30 h.1
  have t0 := bs_c_tell h hk (j := 0) (by decide)
  have q3 : ¬ nF M 18 = 0 := by rw [h18]; decide
  rcases h.1.2.2.2.2.2.2.1 with q | ⟨-, f', q2, hf'⟩
  · exact absurd q q3
  · have q4 : mR S (Y 3 0) 5 = some (Y 1 f') := by rw [bs_q h 3 0 5 rfl rfl, if_neg q3, q2, bs_cl (by omega)]
    unfold c_X3_takeBack
    rw [q4, bs_ocS, bs_o1 h hf', bs_bnd, bs_lit 0, t0, bs_bnd, bs_f0 h hf', Nat.add_zero, e0]
    by_cases c : f' = f
    · rw [if_pos (by rw [c]), c]
    · rw [if_neg (fun q => c ((nI_eq (by omega) (by omega)).mp q))]
      rcases ho with ho | ho
      · rw [q2] at ho
        exact absurd ((nI_eq (by omega) (by omega)).mp ho) c
      · rw [bs_q h 3 0 6 rfl rfl, if_neg (by omega), ho]
        rfl
theorem bs_back (h : bs_Rel x0 s0 Y S M) {k f i : Nat} (hk : k < bs_s M) (e0 : nA M 28 (7 * k) = nI f) (e1 : nA M 28 (7 * k + 1) = nI i) (hf : f < bs_n M) (hi : i < bs_m M f) (h18 : nF M 18 = 1) (ho : nF M 19 = nI f ∨ Y 12 0 = f + 1) (hq : nF M 20 = 1 ∨ nF M 22 = 0 ∨ Y 14 0 = 1)
    (hg : bs_rg (bs_k M (bs_r M f i / 18)) (nA M 9 (bs_r M f i)) (nA M 10 (bs_r M f i) - nA M 28 (7 * k + 3)) (nA M 11 (bs_r M f i) - nA M 28 (7 * k + 2))) :
    ∃ S', c_X3_takeBack S (Y 3 0) (nI k) = some S' ∧ m_X6_back M (nI k) = some (nSA (nSA M 11 (bs_r M f i) (nA M 11 (bs_r M f i) - nA M 28 (7 * k + 2))) 10 (bs_r M f i) (nA M 10 (bs_r M f i) - nA M 28 (7 * k + 3))) ∧
      bs_Rel x0 s0 Y S' (nSA (nSA M 11 (bs_r M f i) (nA M 11 (bs_r M f i) - nA M 28 (7 * k + 2))) 10 (bs_r M f i) (nA M 10 (bs_r M f i) - nA M 28 (7 * k + 3))) := by
  have hv := bs_rV h.1 hf hi
  have h5 := bs_r540 h.1 hf hi
  have hs := bs_s5 h.1
  have t1 := bs_c_tell h hk (j := 1) (by decide)
  have t2 := bs_c_tell h hk (j := 2) (by decide)
  rw [bs_c_tb h hk e0 hf h18 ho]
  unfold c_X3_takeBack_J34 m_X6_back
  rw [bs_lit 1, bs_lit 2, bs_lit 7, t1, t2, bs_bnd, bs_ocS, bs_gd (bs_k1 h hf), e1, bs_c_holds h hf hi, bs_bnd, if_neg bs_10, bs_c_rod h hf hi, bs_bnd, bs_let, bs_let]
  rw [pk_mul, bs_lit 3, nI_add, nI_add, nI_add, bs_gd (bs_inB (by omega) (by decide)), bs_gd (bs_inB (by omega) (by decide)), bs_cl (by omega), bs_cl (by omega), bs_cl (by omega), bs_cl (by omega), e0, e1, bs_m_rodOf h.1 hf hi, bs_bnd, bs_gd (bs_inB h5 (by decide)), bs_gd (bs_inB (by omega) (by decide)), bs_let, bs_gd (bs_inB h5 (by decide)), bs_let, bs_gd (bs_inB h5 (by decide)), bs_gd (bs_inB (by omega) (by decide)), bs_let, bs_gd (bs_inB h5 (by decide)), bs_let, bs_cl (by omega)]
  generalize hrr : bs_r M f i = r at *
  have e6 : mI S (Y 2 r) 6 = nA M 11 r := bs_i h 2 r 6 hv rfl
  have g := bs_rgN h.1 hv
  have h1 := bs_pR11 h hv hq (nA M 11 r - nA M 28 (7 * k + 2)) ⟨g.1, g.2.1, hg.2.2⟩
  rw [e6]
  have e5 : mI (mSI S (Y 2 r) 6 (nA M 11 r - nA M 28 (7 * k + 2))) (Y 2 r) 5 = nA M 10 r := bs_i h1 2 r 5 hv rfl
  have t3 := bs_c_tell h1 (k := k) hk (j := 3) (by decide)
  rw [t3, bs_bnd, bs_let, bs_let, e5]
  have g1 := bs_rgN h1.1 (r := r) hv
  exact ⟨_, rfl, rfl, bs_pR10 h1 (r := r) hv hq (nA M 10 r - nA M 28 (7 * k + 3)) ⟨g1.1, hg.2.1, g1.2.2⟩⟩
theorem bs_op_undo (h : bs_Rel x0 s0 Y S M) (hY : Y 14 0 = 0) : bs_OK x0 s0 Y (c_X5_undo S (Y 0 0)) (m_X6_undo M) := by
  have hs := bs_s5 h.1
  obtain ⟨i1, i2, i3, i4, i5, i6, i7, i8, s, s1, s2⟩ := h.1
  unfold c_X5_undo m_X6_undo
  rw [bs_q h 0 0 4 rfl rfl, bs_o3 h, bs_bnd, bs_bnd, bs_bnd, bs_i h 3 0 3 rfl rfl, bs_i h 3 0 4 rfl rfl, s1]
  by_cases c : s = 0
  · subst c
    rw [if_pos (by decide), if_pos (show nI 0 = 0 from rfl)]
    exact bs_same h _
  · rw [if_neg (nI_nle (by omega) (by omega)), if_neg (nI_ne0 (by omega) (by omega))]
    by_cases c2 : nF M 20 = 0
    · rw [if_pos c2, if_pos c2, bs_let, bs_let, bs_let, bs_let]
      obtain ⟨k, rfl⟩ : ∃ k, s = k + 1 := ⟨s - 1, by omega⟩
      rw [nI_pred]
      have hw := bs_waive h 1 (fun _ q => absurd (show 1 = 0 from q) (by decide))
      have h2 := bs_p22 hw (s := k) (by omega) (fun _ q => absurd (show 1 = 0 from q) (by decide))
      have hY0 : ∀ t i, t ≠ 14 → bs_Yw Y 1 t i = Y t i := fun t i q => if_neg q
      have d1 : mR (mSI S (Y 3 0) 3 (nI k)) (Y 0 0) 4 = some (Y 3 0) := bs_q h 0 0 4 rfl rfl
      have d2 : mKd (mSI S (Y 3 0) 3 (nI k)) (Y 3 0) = 4 := bs_kk h 3 0 rfl
      have d3 : mI (mSI S (Y 3 0) 3 (nI k)) (Y 3 0) 3 = nI k := by rw [bs_mI, if_pos ⟨rfl, rfl⟩]
      rw [d1, bs_ob d2, bs_bnd, d3, bs_nF_eq]
      obtain ⟨f, i, a1, a2, a3, a4, a5, a6⟩ := h.2.2.2.2.2.2.1 k (by omega)
      have hfin : ∀ S' M', c_X3_takeBack (mSI S (Y 3 0) 3 (nI k)) (Y 3 0) (nI k) = some S' → m_X6_back (nSF M 22 (nI k)) (nI k) = some M' → bs_Rel x0 s0 (bs_Yw (bs_Yw Y 1) 0) S' M' → nF M' 22 = nI k →
          bs_OK x0 s0 Y (bnd (c_X3_takeBack (mSI S (Y 3 0) 3 (nI k)) (Y 3 0) (nI k)) fun S17 => bnd (ob S17 (mR S17 (Y 0 0) 4) 4) fun a19 => some (mI S17 a19 3, S17)) (bnd (m_X6_back (nSF M 22 (nI k)) (nI k)) fun S9 => some (nF S9 22, S9)) := by
        intro S' M' q1 q2 q3 q4
        have q5 : mR S' (Y 0 0) 4 = some (Y 3 0) := bs_q q3 0 0 4 rfl rfl
        have q6 : mKd S' (Y 3 0) = 4 := bs_kk q3 3 0 rfl
        have q7 : mI S' (Y 3 0) 3 = nF M' 22 := bs_i q3 3 0 3 rfl rfl
        rw [q1, q2, bs_bnd, bs_bnd, q5, bs_ob q6, bs_bnd, q7, q4]
        exact ⟨_, _, _, _, rfl, rfl, q3, by rw [hY]; rfl⟩
      obtain ⟨s', hl, hu, r1, r2, r3, r4⟩ := h.2.2.2.2.2.2.2.2 c2 hY
      have : s' = k + 1 := by
        rw [s1] at r1
        exact ((nI_eq (by omega) (by omega)).mp r1).symm
      subst this
      obtain ⟨⟨f', i', b1, b2, b3, b4, b5⟩, b6⟩ := r4 k (by omega)
      have m30 := bs_n30 h.1
      have hff : f' = f := (nI_eq (by omega) (by omega)).mp (b1.symm.trans a1)
      subst hff
      have m18 := bs_m18 h.1 a3
      have hii : i' = i := (nI_eq (by omega) (by omega)).mp (b2.symm.trans a2)
      subst hii
      have hr5 := bs_r540 h.1 b3 b4
      have g0 := b6 (bs_r M f' i') hr5
      rw [(b5 _).1, (b5 _).2, if_pos rfl, if_pos rfl, (r3 _).1, (r3 _).2] at g0
      obtain ⟨S', q1, q2, q3⟩ := bs_back h2 (k := k) (f := f') (i := i') (show k < bs_s M by omega) a1 a2 a3 a4 a5 a6 (Or.inr (Or.inr rfl)) g0
      refine hfin S' _ q1 q2 (bs_waive q3 0 ?_) rfl
      intro _ _
      refine ⟨k, hl, hu, rfl, by omega, ?_, ?_⟩
      · intro r
        constructor
        · rw [(b5 r).1, (r3 r).1]
          by_cases cr : r = bs_r M f' i'
          · rw [if_pos cr, bs_t10, cr]
            exact (if_pos rfl).symm
          · rw [if_neg cr, bs_t10]
            exact (if_neg cr).symm
        · rw [(b5 r).2, (r3 r).2]
          by_cases cr : r = bs_r M f' i'
          · rw [if_pos cr, bs_t11, cr]
            exact (if_pos rfl).symm
          · rw [if_neg cr, bs_t11]
            exact (if_neg cr).symm
      · intro j hj
        exact r4 j (by omega)
    · rw [if_neg c2, if_neg c2]
      exact bs_same h _
end BsUndo
