/-! part -/
section BsPart
variable {x0 s0 : Nat} {Y : bs_Ly} {S : Mem} {M : MS}
theorem bs_op_part (h : bs_Rel x0 s0 Y S M) (x y : Int32) : bs_OK x0 s0 Y (c_X5_part S (Y 0 0) x y) (m_X6_part M x y) := by
  unfold c_X5_part m_X6_part
  rw [bs_q h 0 0 4 rfl rfl, bs_o3 h, bs_bnd, bs_q h 3 0 0 rfl rfl, bs_o4 h, bs_bnd]
  unfold c_X2_faultAt
  rcases h.2.2.2.2.1 with ⟨p1, p2⟩ | ⟨p1, b, u, v, li, lj, pb, p2, pu, pv, p3, p4, l1, l2, p5, p6, p7, p8, p9, p10⟩
  · rw [p1, p2, if_pos rfl, if_pos rfl, bs_bnd, if_neg bs_10]
    exact bs_lst h 1
  · have hb1 : 10 ≤ b := by omega
    have hb2 : b < 2 ^ 31 := by omega
    have du := bs_dg19 hb1 pu
    have dv := bs_dg19 hb1 pv
    have b0 : ¬ nI b = 0 := nI_ne0 (by omega) hb2
    rw [p1, p2, p3, p4, if_neg b0, if_neg bs_10, bs_c_dg hb1 hb2 pu, bs_bnd, bs_c_dg hb1 hb2 pv, bs_bnd, p7, p8]
    rcases bs_span x (n := bs_dg b 64 u) (by omega) with hx | ⟨i, hi, rfl⟩
    · rw [bs_outS hx, bs_in_no (by omega) hx, bs_bnd, bs_bnd, if_neg bs_20, if_pos rfl]
      exact bs_lst h 2
    · have hd : bs_dig b u i < b := Nat.mod_lt _ (by omega)
      rw [bs_insS hi (by omega), bs_in_yes hi (by omega), bs_bnd, if_neg bs_10, bs_c_dig hb1 hb2 pu (by omega), bs_bnd, bs_gd (bs_inB (by omega) (by decide)), bs_cl (by omega), p9 i hi]
      by_cases c : bs_dig b u i = 0
      · rw [if_pos c, if_pos rfl, c, if_pos (show nI 0 = 0 from rfl), bs_bnd, if_neg bs_10]
        exact bs_lst h 1
      · rw [if_neg c, if_neg bs_10, if_neg (nI_ne0 (by omega) (by omega))]
        rcases bs_span y (n := bs_dg b 64 v) (by omega) with hy | ⟨j, hj, rfl⟩
        · rw [bs_outS hy, bs_in_no (by omega) hy, bs_bnd, bs_bnd, if_neg bs_20, if_pos rfl]
          exact bs_lst h 2
        · have hdv : bs_dig b v j < b := Nat.mod_lt _ (by omega)
          have hprod : bs_dig b u i * bs_dig b v j < 2 ^ 31 := Nat.lt_of_le_of_lt (Nat.mul_le_mul (show _ ≤ 16 by omega) (show _ ≤ 16 by omega)) (by decide)
          rw [bs_insS hj (by omega), bs_in_yes hj (by omega), bs_bnd, bs_bnd, if_pos rfl, if_neg bs_10, bs_lit 20, pk_mul, nI_add, bs_gd (bs_inB (by omega) (by decide)), bs_cl (by omega), p10 i j hi hj c]
          unfold c_X2_at c_X2_at_J38
          rw [p2, p3, p4, p5, p6, if_neg b0, bs_c_dig hb1 hb2 pu (by omega), bs_bnd, bs_c_dig hb1 hb2 pv (by omega), bs_bnd, pk_mul, nI_l hprod]
          by_cases c1 : li < i
          · rw [if_pos (nI_lt c1 (by omega)), if_pos (Or.inl c1), if_neg bs_10, bs_bnd]
            exact bs_same h _
          · rw [if_neg (nI_nlt (by omega) (by omega))]
            by_cases c2 : i = li
            · rw [if_pos (by rw [c2])]
              by_cases c3 : lj ≤ j
              · rw [if_neg (nI_nlt (by omega) (by omega)), if_pos (Or.inr ⟨c2, c3⟩), if_neg bs_10, bs_bnd]
                exact bs_same h _
              · rw [if_pos (nI_lt (by omega) (by omega)), if_neg (show ¬ (li < i ∨ (i = li ∧ lj ≤ j)) by omega), if_pos rfl, bs_bnd]
                exact bs_same h _
            · rw [if_neg (fun q => c2 ((nI_eq (by omega) (by omega)).mp q)), if_neg (show ¬ (li < i ∨ (i = li ∧ lj ≤ j)) by omega), if_pos rfl, bs_bnd]
              exact bs_same h _
end BsPart
