/-! exercise -/
section BeOp
variable {x0 s0 : Nat} {Y : bs_Ly} {S : Mem} {M : MS}
theorem bs_op_exercise (h : bs_Rel x0 s0 Y S M) (x y : Int32) : bs_OK x0 s0 Y (c_X5_exercise S (Y 0 0) x y) (m_X6_exercise M x y) := by
  have e200 := bs_e200 h.1
  have h36 : nF M 36 = nI (bs_e M) := h.1.2.1.1
  have i3 : mI S (Y 0 0) 3 = nI (bs_e M) := (bs_i h 0 0 3 rfl rfl).trans h36
  rcases bs_span x (n := 3) (by decide) with hx | ⟨k, hk, rfl⟩
  · have c : c_X5_exercise S (Y 0 0) x y = some (-2, S) := by
      unfold c_X5_exercise
      rcases hx with q | q
      · rw [if_pos q]
      · by_cases q0 : x < 0
        · rw [if_pos q0]
        · have : ¬ x ≤ 2 := by
            rw [Int32.le_iff_toInt_le] at q ⊢
            have z : (nI 3).toInt = 3 := rfl
            have z2 : (2 : Int32).toInt = 2 := rfl
            omega
          rw [if_neg q0, if_neg this]
    have m : m_X6_exercise M x y = some (-2, M) := by
      unfold m_X6_exercise
      rw [bs_in_d hx (by decide) 2 rfl, bs_bnd, if_pos rfl]
    rw [c, m]
    exact bs_same h _
  · have ht : m_X6_in (nI k).toInt64 0 2 = some 1 := bs_in_c hk (by decide) 2 rfl
    unfold c_X5_exercise
    rw [if_neg (nI_pos (by omega)), if_pos (show nI k ≤ 2 from nI_le (b := 2) (by omega) (by decide)), i3]
    by_cases c : bs_e M = 200
    · rw [c, if_neg (show ¬ nI 200 < 200 by decide)]
      unfold m_X6_exercise
      rw [ht, bs_bnd, if_neg bs_10, h36, c, if_pos (show nI 200 = 200 from rfl)]
      exact bs_same h _
    · have he : bs_e M < 200 := by omega
      generalize nI k = t at *
      obtain ⟨M', m1, m2, m3, m4, m5, m6, m7⟩ := be_m_ex (M := M) (t := t) y ht h36 he
      obtain ⟨S0, S1, c0, c1, c2, c3, c4, c5, c6, c7, c8⟩ := be_c_make h t y
      obtain ⟨ha, hb, hc, ho⟩ := be_abc t y
      obtain ⟨pos, S2, S3, d1, d2, d3, d4, d5, d6, d7⟩ := be_c_solve c3 c4 c5 ha hb hc ho
      have m7 := m7 pos
      generalize hD : be_D (be_a t y) (be_b t y) (be_c t y) = D at *
      generalize hR : be_R (be_B y) D t = R at *
      have E2 : bs_Ext S S2 := be_Ext_same c2 d2 (Nat.le_refl _)
      have E3 : bs_Ext S S3 := be_Ext_same E2 d5 (by omega)
      have lt10 : Y 10 0 < mNx S := bs_ltNx h (t := 10) (i := 0) rfl
      have lt0 : Y 0 0 < mNx S := bs_ltNx h (t := 0) (i := 0) rfl
      have r10 : mR S3 (Y 0 0) 2 = some (Y 10 0) := (congrFun (E3.2.2 _ lt0).2.2.2.2 2).trans (bs_q h 0 0 2 rfl rfl)
      have k10 : mKd S3 (Y 10 0) = 13 := (E3.2.2 _ lt10).1.trans (h.2.1.1 10 0 rfl)
      have l10 : mLn S3 (Y 10 0) = 200 := (E3.2.2 _ lt10).2.1.trans h.2.1.2.2.2.1
      have i33 : mI S3 (Y 0 0) 3 = nI (bs_e M) := (congrFun (E3.2.2 _ lt0).2.2.1 3).trans i3
      have x3 : mI S3 (mNx S) = mI S2 (mNx S) := (d5.2.2.2.2.2 (mNx S) (by omega)).1
      have xr : mR S3 (mNx S) = mR S2 (mNx S) := (d5.2.2.2.2.2 (mNx S) (by omega)).2.2
      have cR : c_X5_exercise S (Y 0 0) t y = c_X5_exercise S (Y 0 0) t y := rfl
      rw [if_pos (show nI (bs_e M) < 200 from nI_lt (b := 200) he (by decide)), bs_let, bs_let, c0, bs_bnd, c1, bs_bnd, d1, bs_bnd, r10, bs_ob k10, bs_bnd, i33, l10, bs_gd (bs_inB he (by decide)), bs_cl (by omega), bs_let]
      have i34 : mI (mSR S3 (Y 10 0) (bs_e M) (some (mNx S))) (Y 0 0) 3 = nI (bs_e M) := i33
      rw [i34, nI_1, bs_let, bs_let, bs_mI, if_pos ⟨rfl, rfl⟩, bs_s1 (by omega), Nat.add_sub_cancel, m1]
      refine ⟨nI (bs_e M), _, _, bs_Ye Y (bs_e M) (mNx S) (mNx S + 1), rfl, rfl, ?_, rfl⟩
      refine bs_addE h he E3 ?_ (Nat.le_refl _) (Nat.le_succ _) (by omega) ?_ ?_ ?_ ?_ ?_ ?_ ?_ ?_ ?_ ?_
      · refine ⟨bs_nF_eq _ _ _, fun k k1 k2 => ?_, m2.2.2.1, m2.2.2.2.1, m2.2.2.2.2, m2.2.1⟩
        show up1 M'.2.1 36 _ k = _
        unfold up1
        rw [if_neg k1]
        exact m2.1 k k2
      · rw [d5.2.2.2.1, d2.2.2.2.1]; exact c6
      · rw [d5.2.2.2.1, d2.2.2.2.1]; exact c3.2.2.2.1.1
      · rw [d5.2.2.2.2.1, d2.2.2.2.2.1]; exact c3.2.2.2.1.2.1
      · rw [x3, d4 0 (by decide) (by decide), c3.2.1]
        exact m3.symm
      · rw [x3, d6]
        exact m6.symm
      · rw [xr, d3]; exact c3.2.2.1
      · intro j hj
        have := d7 (11 - j) (by omega)
        rw [show 11 - (11 - j) = j by omega] at this
        rw [this]
        have := m7 (11 - j) (by omega)
        rw [show 11 - (11 - j) = j by omega] at this
        exact this.symm
      · refine ⟨be_B y, c3.1.2, ?_, ?_⟩
        · rw [x3, d4 2 (by decide) (by decide)]; exact c3.1.1
        · intro p hp
          refine ⟨m5 p hp, fun hb => ?_⟩
          have a1 := m4 (11 - p) (by omega)
          have a2 := m7 (11 - p) (by omega)
          rw [show 11 - (11 - p) = p by omega] at a1 a2
          show nA M' 38 _ = nA M' 40 _
          rw [a1, a2]
          unfold be_T be_bl
          rw [show 11 - (11 - p) = p by omega, hb]
          rfl
      · rw [d5.2.1, d2.2.1, c7]
        exact Nat.le_refl _
      · rw [d5.2.2.1, d2.2.2.1]; exact c8
end BeOp
