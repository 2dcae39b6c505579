/-! divide: the call -/
section BsDivide
variable {x0 s0 : Nat} {Y : bs_Ly} {S : Mem} {M : MS}
theorem bs_divB (h : bs_Rel x0 s0 Y S M) {f g u : Nat} (hf : f < bs_n M) (hg : g < bs_n M) (hu : u < 2 ^ 63) (hu0 : 0 < u) : ∀ S1 M1, bs_W x0 s0 (bs_Yo Y (g + 1)) S1 M1 → bs_s M1 = 0 → nA M1 = nA M → bs_own (bs_Yo Y (g + 1)) M1 f → bs_own (bs_Yo Y (g + 1)) M1 g → bs_n M1 = bs_n M → bs_LT M f → bs_LT M g → (∀ k, k < bs_m M f → bs_rf M (bs_r M f k) = 0) → bs_sv M f (bs_m M f) 0 < 2 ^ 63 → (true = true → bs_b M f = bs_b M g) → false = false →
      ∃ r S' M' Y', (bnd2 (c_X3_quotient S1 (Y 3 0) (some (Y 1 f)) (some (Y 1 g)) (lN u)) fun z S2 => bnd2 (c_X3_close S2 (Y 3 0) z) fun r S3 => some (r, S3)) = some (r, S') ∧ (bnd2 (m_X6_divided M1 (nI f) (nI g) (lN (bs_sv M f (bs_m M f) 0)) (lN u)) fun i20_ S21 => bnd2 (m_X6_ended S21 i20_) fun a b => some (a, b)) = some (r, M') ∧ bs_Rel x0 s0 Y' S' M' ∧ (Y' 0 0, Y' 14 0) = (Y 0 0, Y 14 0) := by
  intro S1 M1 W1 s1 nA1 of1 og1 n1 LTf LTg rdf X63 lbe _
  have hn30 := bs_n30 h.1
  have hbf := bs_bb h.1 hf
  have b1 : bs_b M1 = bs_b M := by funext r; unfold bs_b; rw [nA1]
  have m1 : bs_m M1 = bs_m M := by funext r; unfold bs_m; rw [nA1]
  have r1 : bs_r M1 = bs_r M := by funext r i; unfold bs_r; rw [nA1]
  have rf1 : bs_rf M1 = bs_rf M := by funext r; unfold bs_rf bs_k; rw [nA1]
  have hLf := bs_LT_A nA1 LTf
  have hLg := bs_LT_A nA1 LTg
  have hbe := lbe rfl
  obtain ⟨z, Y2, S2, M2, k1, k2, k3, k4, k5, -, k7, -, -⟩ := bs_clear W1 og1 hLg (by rw [s1]; decide)
  rw [b1, ← hbe] at k5
  have k1' : c_X3_clear S1 (Y 3 0) (some (Y 1 g)) = some (z, S2) := k1
  have hYo : bs_Yo Y (g + 1) 3 0 = Y 3 0 ∧ bs_Yo Y (g + 1) 0 0 = Y 0 0 ∧ bs_Yo Y (g + 1) 14 0 = Y 14 0 := ⟨rfl, rfl, rfl⟩
  have e1 : c_X1_sum S1 (Y 1 f) = some (lN (bs_sv M f (bs_m M f) 0)) := by
    have := bs_c_sum W1.1 of1.1
    rw [bs_sv_E nA1 f] at this
    exact this
  have o1 : ob S1 (some (Y 1 f)) 2 = some (Y 1 f) := bs_o1 W1.1 of1.1
  have f21 : mI S1 (Y 1 f) 2 = nI (bs_b M f) := by
    have := bs_f2 W1.1 (f := f) of1.1
    rw [b1] at this
    exact this
  have f3 : nA M1 3 f = nI (bs_b M f) := by rw [nA1]; exact bs_bN h.1 hf
  generalize bs_sv M f (bs_m M f) 0 = X at *
  generalize hb0 : bs_b M f = b at *
  have dX := bs_dg19 (b := b) (by omega) X63
  have dv := bs_dg19 (b := b) (by omega) hu
  have dv1 := bs_dg1 (b := b) hu0
  have mdi : m_X6_divided M1 (nI f) (nI g) (lN X) (lN u) = m_X6_divided_L48 bigN M2 (nI f) (nI g) (lN u) (nI b) (nI (bs_dg b 64 u)) (nI (bs_dig b u (bs_dg b 64 u - 1))) z (nI (bs_dg b 64 X) - nI (bs_dg b 64 u)) := by
    unfold m_X6_divided
    rw [bs_gd (bs_inB (n := f) (by omega) (by decide)), bs_let, bs_cl (n := f) (by omega), f3, bs_m_dg (by omega) (by omega) hu, bs_bnd, bs_s1 dv1, bs_m_dig (by omega) (by omega) hu (by omega), bs_bnd, k2, bs_bnd2, bs_m_dg (by omega) (by omega) X63, bs_bnd, bs_let]
  unfold c_X3_quotient
  rw [o1, bs_bnd, f21, bs_c_dg (by omega) (by omega) hu, bs_bnd, e1, bs_bnd, bs_c_dg (by omega) (by omega) X63, bs_bnd, bs_let, k1', bs_bnd2, mdi]
  rcases k3 with rfl | rfl
  · have z0 : m_X6_divided_L48 bigN M2 (nI f) (nI g) (lN u) (nI b) (nI (bs_dg b 64 u)) (nI (bs_dig b u (bs_dg b 64 u - 1))) 0 (nI (bs_dg b 64 X) - nI (bs_dg b 64 u)) = some (0, M2) := by
      rw [show bigN = 999999 + 1 from rfl, m_X6_divided_L48, if_pos rfl, bs_gd bs_zb0]
      split <;> rfl
    rw [if_pos rfl, bs_bnd2, z0, bs_bnd2]
    obtain ⟨r, S', M', c1, c2, c3, c4⟩ := bs_clOK k4 (Or.inl rfl) k5 hYo
    exact ⟨r, S', M', Y2, c1, c2, c3, c4⟩
  · rw [if_neg bs_10]
    rw [s1] at k7
    by_cases c : bs_dg b 64 u ≤ bs_dg b 64 X
    · have hD := bs_D19 (bs_dg b 64 X - bs_dg b 64 u + 1) (by omega)
      have hPow : ∀ q, q + 1 ≤ bs_dg b 64 X → b ^ q < 2 ^ 63 := by
        intro q hq
        have h2 := bs_dg_pow (b := b) (by omega) 64 X (bs_dg b 64 X - 1) (by omega)
        exact Nat.lt_of_le_of_lt (Nat.le_trans (Nat.pow_le_pow_right (by omega) (by omega)) h2) X63
      obtain ⟨z3, Y3, S3, M3, p1, p2, p3, p4, p5⟩ := bs_divL (f := f) (g := g) hbf hu hu0 dX hPow (bs_dg b 64 X - bs_dg b 64 u + 1) bigN bigN Y2 S2 M2 k4 (bs_own_T k5 of1) (bs_own_T k5 og1) (by rw [bs_T_b k5, b1]; exact hb0) (by rw [bs_T_b k5, b1, ← hbe]) (bs_LT_T k5 (by rw [b1]; exact hb0) hLf) (bs_LT_T k5 (by rw [b1, hbe]) hLg) (by intro k hk; rw [bs_T_m k5, m1] at hk; rw [bs_T_rf k5, bs_T_r k5, rf1, r1]; exact rdf k hk) (by omega) (by unfold bigN; omega) (by unfold bigN; omega) (by omega)
      rw [k5.1 3 0 (by decide), k5.1 1 f (by decide), k5.1 1 g (by decide)] at p1
      rw [pk_m1] at p1 p2
      have p1' : c_X3_quotient_L40 bigN S2 (Y 3 0) (some (Y 1 f)) (some (Y 1 g)) (lN u) (nI (bs_dg b 64 u)) (nI (bs_dg b 64 X - bs_dg b 64 u)) = some (z3, S3) := p1
      rw [pk_sub c, p1', bs_bnd2, p2, bs_bnd2]
      obtain ⟨r, S', M', c1, c2, c3, c4⟩ := bs_clOK p4 p3 (bs_T_tr k5 p5) hYo
      exact ⟨r, S', M', Y3, c1, c2, c3, c4⟩
    · have neg : nI (bs_dg b 64 X) - nI (bs_dg b 64 u) < 0 := pk_sneg (by omega) (by omega)
      rw [show bigN = 999999 + 1 from rfl, c_X3_quotient_L40, if_pos neg, bs_bnd2, m_X6_divided_L48, if_pos neg, bs_gd bs_zb1, bs_bnd2]
      obtain ⟨r, S', M', c1, c2, c3, c4⟩ := bs_clOK k4 (Or.inr rfl) k5 hYo
      exact ⟨r, S', M', Y2, c1, c2, c3, c4⟩
theorem bs_op_divide (h : bs_Rel x0 s0 Y S M) (x y : Int32) (v : Int64) : bs_OK x0 s0 Y (c_X5_divide S (Y 0 0) x y v) (m_X6_divide M x y v) := by
  unfold c_X5_divide m_X6_divide
  rcases bs_which h.1 x with hx | ⟨f, hf, rfl⟩
  · rw [bs_c_unknown h hx, bs_m_noF h.1 hx, bs_bnd]
    rcases bs_which h.1 y with hy | ⟨g, hg, rfl⟩
    · rw [bs_c_unknown h hy]
      exact bs_same h _
    · rw [bs_c_known h hg]
      exact bs_same h _
  · rcases bs_which h.1 y with hy | ⟨g, hg, rfl⟩
    · rw [bs_c_known h hf, bs_c_unknown h hy, bs_m_isF h.1 hf, bs_m_noF h.1 hy]
      exact bs_same h _
    · rw [bs_c_known h hf, bs_c_known h hg, bs_m_isF h.1 hf, bs_m_isF h.1 hg, bs_bnd, bs_bnd, bs_bnd, bs_bnd, bs_ocS, bs_ocS, if_neg bs_10, if_neg bs_10]
      by_cases c : (0 : Int64) ≤ v
      · rw [if_pos c]
        have c2 : ¬ v < 0 := by
          rw [Int64.le_iff_toInt_le] at c
          rw [Int64.lt_iff_toInt_lt]
          omega
        obtain ⟨u, hu, rfl⟩ := pk_lOf c2
        by_cases c0 : u = 0
        · subst c0
          have l0 : lN 0 = (0 : Int64) := rfl
          have := bs_front h hf hg c true true 1 1 rfl rfl (fun S a => c_X3_quotient S a (some (Y 1 f)) (some (Y 1 g)) (lN 0)) (fun S25 j15_ => bnd2 (m_X6_divided S25 (nI f) (nI g) j15_ (lN 0)) fun i20_ S21 => bnd2 (m_X6_ended S21 i20_) fun a b => some (a, b)) (by intro _ _ _ _ _ _ _ _ _ _ _ _ _ q; exact absurd q (by decide))
          simp only [if_pos (show (true = true) from rfl)] at this
          unfold c_X5_divide_J51
          simp only [if_pos l0]
          exact this
        · have l0 : ¬ lN u = (0 : Int64) := fun q => c0 ((bs_le0 hu).mp (by rw [q]; decide))
          have := bs_front h hf hg c true false 1 0 rfl rfl (fun S a => c_X3_quotient S a (some (Y 1 f)) (some (Y 1 g)) (lN u)) (fun S25 j15_ => bnd2 (m_X6_divided S25 (nI f) (nI g) j15_ (lN u)) fun i20_ S21 => bnd2 (m_X6_ended S21 i20_) fun a b => some (a, b)) (bs_divB h hf hg hu (by omega))
          simp only [if_neg Bool.false_ne_true] at this
          unfold c_X5_divide_J51
          simp only [if_neg l0]
          exact this
      · have l0 : ¬ v = 0 := by rintro rfl; exact c (by decide)
        unfold c_X5_refusalOfTwo c_X5_divide_J51 c_X5_opened
        rw [if_neg c, if_neg c, bs_bnd, if_neg l0, if_neg (by decide), bs_bnd2, if_neg (by decide)]
        exact bs_same h _
end BsDivide
