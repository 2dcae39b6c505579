/-! push, rod, size, meant, what is only told -/
section BsOpsB
variable {x0 s0 : Nat} {Y : bs_Ly} {S S2 : Mem} {M M2 : MS}
theorem bs_barR (h : bs_Rel x0 s0 Y S M) {r : Nat} (hr : bs_rv M r) (k : Nat) (v : Int32) : mR (mSI S (Y 2 r) k v) (Y 0 0) 4 = some (Y 3 0) := bs_q h 0 0 4 rfl rfl
theorem bs_rgN (h : bs_Inv M) {r : Nat} (hr : bs_rv M r) : bs_rg (bs_k M (r / 18)) (nA M 9 r) (nA M 10 r) (nA M 11 r) := bs_rods h r (bs_rv540 h hr)
theorem bs_op_push (h : bs_Rel x0 s0 Y S M) (x y w z : Int32) : bs_OK x0 s0 Y (c_X5_push S (Y 0 0) x y w z) (m_X6_push M x y w z) := by
  unfold c_X5_push m_X6_push
  rcases bs_which h.1 x with hx | ⟨f, hf, rfl⟩
  · rw [bs_c_unknown h hx, bs_m_noF h.1 hx]
    exact bs_same h _
  · rw [bs_c_known h hf, bs_m_isF h.1 hf, bs_bnd, bs_bnd, bs_ocS, bs_gd (bs_k1 h hf), if_neg bs_10]
    rcases bs_01 w with hw | hw
    · rw [bs_in01 hw, bs_bnd, if_pos rfl]
      by_cases c : w < 0
      · rw [if_pos c]
        exact bs_same h _
      · rw [if_neg c, if_neg (hw.resolve_left c)]
        exact bs_same h _
    · have e1 : ¬ w < 0 := by rcases hw with rfl | rfl <;> decide
      have e2 : w ≤ 1 := by rcases hw with rfl | rfl <;> decide
      have e3 : m_X6_in w.toInt64 0 1 = some 1 := by rcases hw with rfl | rfl <;> rfl
      rw [if_neg e1, if_pos e2, e3, bs_bnd, if_neg bs_10]
      rcases bs_place h.1 hf y with hy | ⟨i, hi, rfl⟩
      · rw [bs_c_nfB h hf hy, bs_m_aoB h.1 hf hy, bs_bnd, bs_bnd, if_neg bs_20, if_neg bs_2le]
        exact bs_flt h 2
      · have hv := bs_rV h.1 hf hi
        have h5 := bs_r540 h.1 hf hi
        rw [bs_c_nfF h hf hi, bs_m_ao h.1 hf hi, bs_bnd, bs_bnd]
        by_cases c : bs_nf M (bs_r M f i) w = 0
        · rw [if_pos c, if_pos ((bs_nf_le _ _ _).mpr c), bs_c_rod h hf hi, bs_m_rodOf h.1 hf hi, bs_bnd, bs_gd (bs_inB h5 (by decide)), bs_gd (bs_inB h5 (by decide)), bs_cl (by omega)]
          generalize hrr : bs_r M f i = r at *
          have hl := bs_lN h.1 h5
          have hu := bs_uN h.1 h5
          have hg := bs_rgN h.1 hv
          unfold c_X4_number c_X4_most c_X4_put m_X6_push_J76
          have q2 : mI S (Y 2 r) 2 = if bs_k M (r / 18) = 2 then 10 else if bs_k M (r / 18) = 0 then 4 else 5 := bs_i h 2 r 2 hv rfl
          have q3 : mI S (Y 2 r) 3 = if bs_k M (r / 18) = 2 then 0 else if bs_k M (r / 18) = 0 then 1 else 2 := bs_i h 2 r 3 hv rfl
          have h6 := bs_k4 h.1 hv.1
          rw [bs_R5 h hv, bs_R6 h hv, q2, q3, bs_let, bs_m_kindOf h.1 hv, bs_bnd]
          have hb := bs_bar h
          have hbv : bs_rv (nSF M 20 1) r := hv
          have hne : Y 2 r ≠ Y 3 0 := bs_ne h hv (t2 := 3) (i2 := 0) rfl (Or.inl (by decide))
          rcases hw with rfl | rfl
          · simp only [bs_bnd, bs_let, ite_true, eq_self_iff_true, hl.1]
            have em : m_X6_mostOf (nI (bs_k M (r / 18))) 0 = some (if bs_k M (r / 18) = 2 then 10 else if bs_k M (r / 18) = 0 then 4 else 5) := by
              unfold m_X6_mostOf
              rw [if_pos rfl]
              by_cases d0 : bs_k M (r / 18) = 0
              · rw [if_pos ((bs_kis0 h.1 hv.1).mpr d0), d0]
                rfl
              · rw [if_neg (fun q => d0 ((bs_kis0 h.1 hv.1).mp q)), if_neg d0]
                by_cases d2 : bs_k M (r / 18) = 2
                · rw [if_pos ((bs_kis2 h.1 hv.1).mpr d2), if_pos d2]
                · rw [if_neg (fun q => d2 ((bs_kis2 h.1 hv.1).mp q)), if_neg d2]
            obtain ⟨mo, e4, e5⟩ : ∃ mo : Nat, (if bs_k M (r / 18) = 2 then (10 : Int32) else if bs_k M (r / 18) = 0 then 4 else 5) = nI mo ∧ mo ≤ 10 ∧ (bs_k M (r / 18) ≠ 2 → mo ≤ 5) := by
              by_cases d2 : bs_k M (r / 18) = 2
              · rw [if_pos d2]; exact ⟨10, rfl, by omega, fun q => absurd d2 q⟩
              · rw [if_neg d2]
                by_cases d0 : bs_k M (r / 18) = 0
                · rw [if_pos d0]; exact ⟨4, rfl, by omega, fun _ => by omega⟩
                · rw [if_neg d0]; exact ⟨5, rfl, by omega, fun _ => by omega⟩
            rw [em, bs_bnd, e4, Int64.add_comm z.toInt64]
            generalize (nI (bs_l M r)).toInt64 + z.toInt64 = j
            unfold m_X6_in
            by_cases d : j < 0
            · rw [if_pos d, if_pos d, bs_bnd, if_pos rfl]
              exact bs_same h _
            · rw [if_neg d, if_neg d]
              obtain ⟨u, u1, rfl⟩ := pk_lOf d
              rw [nI_l (by omega)]
              by_cases d3 : u ≤ mo
              · rw [if_pos ((pk_lLE u1 (by omega)).mpr d3), if_neg (fun q => absurd ((pk_lLT (by omega) u1).mp q) (by omega)), bs_bnd, if_neg bs_10, bs_gd (bs_inB h5 (by decide)), lN_i]
                rw [bs_barR h hv, bs_ob (S := mSI S (Y 2 r) 5 (nI u)) (t := 4) (bs_kk h 3 0 rfl), bs_bnd, bs_mSI_swap S 5 4 (nI u) 1 hne, bs_cl (by omega)]
                refine bs_same (bs_pR10 hb hbv (Or.inl rfl) (nI u) ?_) _
                exact ⟨hg.1, ⟨u, rfl, by omega, fun q => by have := e5.2 q; omega⟩, hg.2.2⟩
              · rw [if_neg (fun q => d3 ((pk_lLE u1 (by omega)).mp q)), if_pos ((pk_lLT (by omega) u1).mpr (by omega)), bs_bnd, if_pos rfl]
                exact bs_same h _
          · have hk2 : bs_k M (r / 18) ≠ 2 := by
              intro d2
              have := hg.1.2.2 d2
              unfold bs_nf at c
              split at c
              · split at c
                · rename_i c5
                  rw [Int32.lt_iff_toInt_lt] at c5
                  rw [Int32.le_iff_toInt_le] at this
                  omega
                · exact absurd c (by decide)
              · exact absurd c (by decide)
            simp only [bs_bnd, bs_let, if_neg bs_10, hu.1, if_neg hk2]
            have em : m_X6_mostOf (nI (bs_k M (r / 18))) 1 = some (if bs_k M (r / 18) = 0 then 1 else 2) := by
              unfold m_X6_mostOf
              rw [if_neg bs_10]
              by_cases d0 : bs_k M (r / 18) = 0
              · rw [if_pos ((bs_kis0 h.1 hv.1).mpr d0), if_pos d0]
              · rw [if_neg (fun q => d0 ((bs_kis0 h.1 hv.1).mp q)), if_neg d0]
            obtain ⟨mo, e4, e5⟩ : ∃ mo : Nat, (if bs_k M (r / 18) = 0 then (1 : Int32) else 2) = nI mo ∧ mo ≤ 2 := by
              by_cases d0 : bs_k M (r / 18) = 0
              · rw [if_pos d0]; exact ⟨1, rfl, by omega⟩
              · rw [if_neg d0]; exact ⟨2, rfl, by omega⟩
            rw [em, bs_bnd, e4, Int64.add_comm z.toInt64]
            generalize (nI (bs_u M r)).toInt64 + z.toInt64 = j
            unfold m_X6_in
            by_cases d : j < 0
            · rw [if_pos d, if_pos d, bs_bnd, if_pos rfl]
              exact bs_same h _
            · rw [if_neg d, if_neg d]
              obtain ⟨u, u1, rfl⟩ := pk_lOf d
              rw [nI_l (by omega)]
              by_cases d3 : u ≤ mo
              · rw [if_pos ((pk_lLE u1 (by omega)).mpr d3), if_neg (fun q => absurd ((pk_lLT (by omega) u1).mp q) (by omega)), bs_bnd, if_neg bs_10, bs_gd (bs_inB h5 (by decide)), lN_i]
                rw [bs_barR h hv, bs_ob (S := mSI S (Y 2 r) 6 (nI u)) (t := 4) (bs_kk h 3 0 rfl), bs_bnd, bs_mSI_swap S 6 4 (nI u) 1 hne, bs_cl (by omega)]
                refine bs_same (bs_pR11 hb hbv (Or.inl rfl) (nI u) ?_) _
                exact ⟨hg.1, hg.2.1, ⟨u, rfl, by omega, fun q => absurd q hk2⟩⟩
              · rw [if_neg (fun q => d3 ((pk_lLE u1 (by omega)).mp q)), if_pos ((pk_lLT (by omega) u1).mpr (by omega)), bs_bnd, if_pos rfl]
                exact bs_same h _
        · rw [if_neg c, if_neg (fun q => c ((bs_nf_le _ _ _).mp q))]
          exact bs_flt h _
theorem bs_op_trace (h : bs_Rel x0 s0 Y S M) : bs_OKr (c_X5_trace S (Y 0 0)) (m_X6_trace M) := ⟨_, rfl, congrArg some (bs_i h 0 0 7 rfl rfl).symm⟩
theorem bs_op_copied (h : bs_Rel x0 s0 Y S M) : bs_OKr (c_X5_copied S (Y 0 0)) (m_X6_copied M) := ⟨_, rfl, congrArg some (bs_i h 0 0 8 rfl rfl).symm⟩
theorem bs_op_fault (h : bs_Rel x0 s0 Y S M) : bs_OKr (c_X5_fault S (Y 0 0)) (m_X6_fault M) := ⟨_, rfl, congrArg some (bs_i h 0 0 9 rfl rfl).symm⟩
theorem bs_op_steps (h : bs_Rel x0 s0 Y S M) : bs_OKr (c_X5_steps S (Y 0 0)) (m_X6_steps M) := by
  unfold c_X5_steps m_X6_steps
  rw [bs_q h 0 0 4 rfl rfl, bs_o3 h, bs_bnd, bs_i h 3 0 2 rfl rfl]
  exact ⟨_, rfl, rfl⟩
theorem bs_op_stuck (h : bs_Rel x0 s0 Y S M) (x : Int32) : bs_OKr (c_X5_stuck S (Y 0 0) x) (m_X6_stuck M x) := by
  unfold c_X5_stuck m_X6_stuck
  rw [bs_q h 0 0 4 rfl rfl, bs_o3 h, bs_bnd, bs_bnd, bs_bnd, bs_i h 3 0 7 rfl rfl, bs_i h 3 0 8 rfl rfl, bs_i h 3 0 9 rfl rfl]
  repeat' split
  all_goals exact ⟨_, rfl, rfl⟩
theorem bs_op_meant (h : bs_Rel x0 s0 Y S M) (x y : Int32) : bs_OK x0 s0 Y (c_X5_meant S (Y 0 0) x y) (m_X6_meant M x y) := by
  unfold c_X5_meant m_X6_meant
  have hn := bs_n30 h.1
  rcases bs_which h.1 x with hx | ⟨f, hf, rfl⟩
  · rw [bs_c_unknown h hx, bs_m_noF h.1 hx]
    exact bs_same h _
  · rw [bs_c_known h hf, bs_m_isF h.1 hf, bs_bnd, bs_bnd, bs_ocS, bs_gd (bs_k1 h hf), if_neg bs_10, bs_inS y 0 4 0 4 rfl rfl, bs_bnd, bs_gd (bs_inB (by omega) (by decide)), bs_cl (by omega), bs_let, bs_kN h.1 hf, bs_f1 h hf]
    by_cases c : 0 ≤ y.toInt ∧ y.toInt ≤ 4
    · rw [if_pos c, if_neg bs_10, if_neg (by rw [Int32.lt_iff_toInt_lt]; show ¬ y.toInt < 0; omega), if_pos (by rw [Int32.le_iff_toInt_le]; show y.toInt ≤ 4; omega)]
      unfold c_X5_isA
      generalize nI (bs_k M f) = k
      have t0 := bs_flt h 3
      have t1 : bs_OK x0 s0 Y (some ((1 : Int32), S)) (some ((1 : Int32), M)) := bs_same h 1
      unfold c_X5_isA_J14 m_X6_meant_J46 m_X6_meant_J65
      by_cases c1 : k = y
      · simpa [c1, bnd] using t1
      · by_cases c2 : k = 1
        · by_cases c3 : y = 0
          · simpa [c1, c2, c3, bnd] using t1
          · have c1' : ¬ 1 = y := by rw [← c2]; exact c1
            simpa [c1', c2, c3, bnd] using t0
        · by_cases c3 : k = 3
          · by_cases c4 : y = 1
            · simpa [c1, c2, c3, c4, bnd] using t1
            · by_cases c5 : y = 0
              · simpa [c1, c2, c3, c4, c5, bnd] using t1
              · have c1' : ¬ 3 = y := by rw [← c3]; exact c1
                simpa [c1', c2, c3, c4, c5, bnd] using t0
          · simpa [c1, c2, c3, bnd] using t0
    · rw [if_neg c, if_pos rfl]
      by_cases c1 : y < 0
      · rw [if_pos c1]
        exact bs_same h _
      · rw [if_neg c1, if_neg]
        · exact bs_same h _
        · rw [Int32.lt_iff_toInt_lt] at c1
          rw [Int32.le_iff_toInt_le]
          have e0 : (0 : Int32).toInt = 0 := rfl
          have e4 : (4 : Int32).toInt = 4 := rfl
          omega
end BsOpsB
