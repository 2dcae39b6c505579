/-! slip, lapse, fix -/
def bs_al (M : MS) (k j : Nat) : Prop := nA M 35 (4 * k + j) = nA M 28 (7 * k + j)
section BsSlip
variable {x0 s0 : Nat} {Y : bs_Ly} {S : Mem} {M : MS}
theorem bs_pN (h : bs_Inv M) : nF M 34 = nI (bs_p M) := h.2.2.1.1
theorem bs_p300 (h : bs_Inv M) : bs_p M ≤ 300 := h.2.2.1.2
theorem bs_c_alY (h : bs_Rel x0 s0 Y S M) {k : Nat} (hp : k < bs_p M) (hs : k < bs_s M) (j : Nat) (hj : j < 4) (J : Int32) (hJ : J = nI j) : (bs_al M k j → c_X5_alike S (Y 0 0) (nI k) J = some 1) ∧ (¬ bs_al M k j → c_X5_alike S (Y 0 0) (nI k) J = some 0) := by
  have p3 := bs_p300 h.1
  have q10 := h.2.1.2.2.2.2.2.2.2.2.2.1
  have e : c_X5_alike S (Y 0 0) (nI k) J = if nA M 35 (4 * k + j) = nA M 28 (7 * k + j) then some 1 else some 0 := by
    unfold c_X5_alike
    rw [hJ, bs_q h 0 0 5 rfl rfl, bs_o6 h, bs_bnd, bs_m4, nI_add, bs_gd (bs_g6 h (by omega)), bs_q h 0 0 4 rfl rfl, bs_o3 h, bs_bnd, bs_c_tell h hs (by omega), bs_bnd, bs_cl (by omega), bs_i h 6 0 (4 * k + j) rfl (if_pos (by omega))]
  exact ⟨fun q => e.trans (if_pos q), fun q => e.trans (if_neg q)⟩
theorem bs_m_like (h : bs_Inv M) {k : Nat} (hp : k < bs_p M) (hs : k < bs_s M) (j : Nat) (hj : j < 3) (J : Int32) (hJ : J = nI j) : (bs_al M k j ∧ bs_al M k (j + 1) → m_X6_isLike M (nI k) J = some 1) ∧ (¬ (bs_al M k j ∧ bs_al M k (j + 1)) → m_X6_isLike M (nI k) J = some 0) := by
  have p3 := bs_p300 h
  have s5 := bs_s5 h
  have e : m_X6_isLike M (nI k) J = if nA M 35 (4 * k + j) = nA M 28 (7 * k + j) then (if nA M 35 (4 * k + (j + 1)) = nA M 28 (7 * k + (j + 1)) then some 1 else some 0) else some 0 := by
    unfold m_X6_isLike
    rw [hJ, bs_m4, bs_m7, nI_add, nI_add, nI_1, nI_1, bs_gd (bs_inB (by omega) (by decide)), bs_gd (bs_inB (by omega) (by decide)), bs_gd (bs_inB (by omega) (by decide)), bs_gd (bs_inB (by omega) (by decide)), bs_cl (by omega), bs_cl (by omega), bs_cl (by omega), bs_cl (by omega), Nat.add_assoc, Nat.add_assoc]
  constructor
  · rintro ⟨q1, q2⟩
    rw [e]
    exact (if_pos q1).trans (if_pos q2)
  · intro q
    rw [e]
    by_cases c : nA M 35 (4 * k + j) = nA M 28 (7 * k + j)
    · exact (if_pos c).trans (if_neg (fun q2 => q ⟨c, q2⟩))
    · rw [if_neg c]
/-- where the slip is -/
def bs_sR (M : MS) (r : Int32) : Prop := (r = -5 ∧ bs_p M = bs_s M) ∨ ∃ k, r = nI k ∧ k ≤ bs_p M ∧ k ≤ bs_s M ∧ (k = bs_p M ∨ k = bs_s M → bs_p M ≠ bs_s M)
theorem bs_slipL (h : bs_Rel x0 s0 Y S M) (L : Nat) (hL : (L = bs_p M ∧ bs_p M ≤ bs_s M) ∨ (L = bs_s M ∧ bs_s M ≤ bs_p M)) : ∀ d n n2 i, i + d = L → d < n → d < n2 → ∃ r, c_X5_slipPlace_L17 S n (Y 0 0) (nI L) (nI i) = some r ∧ m_X6_slip_L25 M n2 (nI L) (nI i) = some r ∧ bs_sR M r
  | d, 0, _, _, _, hn, _ => absurd hn (Nat.not_lt_zero _)
  | d, _ + 1, 0, _, _, _, hn => absurd hn (Nat.not_lt_zero _)
  | 0, n + 1, n2 + 1, i, hi, _, _ => by
    have p3 := bs_p300 h.1
    have s5 := bs_s5 h.1
    rw [c_X5_slipPlace_L17, m_X6_slip_L25, if_pos (nI_le (by omega) (by omega)), if_pos (nI_le (by omega) (by omega)), bs_q h 0 0 4 rfl rfl, bs_o3 h, bs_bnd, bs_i h 0 0 6 rfl rfl, bs_i h 3 0 2 rfl rfl, bs_pN h.1, bs_sN h.1]
    by_cases c : bs_p M = bs_s M
    · rw [if_pos (by rw [c])]
      exact ⟨_, rfl, rfl, Or.inl ⟨rfl, c⟩⟩
    · rw [if_neg (fun q => c ((nI_eq (by omega) (by omega)).mp q))]
      exact ⟨_, rfl, rfl, Or.inr ⟨L, rfl, by omega, by omega, fun _ => c⟩⟩
  | d + 1, n + 1, n2 + 1, i, hi, hn, hn2 => by
    have p3 := bs_p300 h.1
    have s5 := bs_s5 h.1
    have hp : i < bs_p M := by omega
    have hs : i < bs_s M := by omega
    have a0 := bs_c_alY h hp hs 0 (by decide) 0 rfl
    have a1 := bs_c_alY h hp hs 1 (by decide) 1 rfl
    have a2 := bs_c_alY h hp hs 2 (by decide) 2 rfl
    have a3 := bs_c_alY h hp hs 3 (by decide) 3 rfl
    have b0 := bs_m_like h.1 hp hs 0 (by decide) 0 rfl
    have b2 := bs_m_like h.1 hp hs 2 (by decide) 2 rfl
    rw [c_X5_slipPlace_L17, m_X6_slip_L25, if_neg (nI_ge (by omega) (by omega)), if_neg (nI_ge (by omega) (by omega))]
    have bad : bs_sR M (nI i) := Or.inr ⟨i, rfl, by omega, by omega, fun q => by omega⟩
    by_cases c0 : bs_al M i 0
    · rw [a0.1 c0, bs_bnd, if_neg bs_10]
      by_cases c1 : bs_al M i 1
      · rw [a1.1 c1, bs_bnd, if_neg bs_10, b0.1 ⟨c0, c1⟩, bs_bnd, if_neg bs_10]
        by_cases c2 : bs_al M i 2
        · rw [a2.1 c2, bs_bnd, if_neg bs_10]
          by_cases c3 : bs_al M i 3
          · rw [a3.1 c3, bs_bnd, if_neg bs_10, b2.1 ⟨c2, c3⟩, bs_bnd, if_neg bs_10, nI_1]
            exact bs_slipL h L hL d n n2 (i + 1) (by omega) (by omega) (by omega)
          · rw [a3.2 c3, bs_bnd, if_pos rfl, b2.2 (fun q => c3 q.2), bs_bnd, if_pos rfl]
            exact ⟨_, rfl, rfl, bad⟩
        · rw [a2.2 c2, bs_bnd, if_pos rfl, b2.2 (fun q => c2 q.1), bs_bnd, if_pos rfl]
          exact ⟨_, rfl, rfl, bad⟩
      · rw [a1.2 c1, bs_bnd, if_pos rfl, b0.2 (fun q => c1 q.2), bs_bnd, if_pos rfl]
        exact ⟨_, rfl, rfl, bad⟩
    · rw [a0.2 c0, bs_bnd, if_pos rfl, b0.2 (fun q => c0 q.1), bs_bnd, if_pos rfl]
      exact ⟨_, rfl, rfl, bad⟩
theorem bs_slip (h : bs_Rel x0 s0 Y S M) : ∃ r, c_X5_slipPlace S (Y 0 0) = some r ∧ m_X6_slip M = some r ∧ bs_sR M r := by
  have p3 := bs_p300 h.1
  have s5 := bs_s5 h.1
  unfold c_X5_slipPlace m_X6_slip
  rw [bs_q h 0 0 4 rfl rfl, bs_o3 h, bs_bnd, bs_let, bs_i h 0 0 6 rfl rfl, bs_i h 3 0 2 rfl rfl, bs_pN h.1, bs_sN h.1, bs_let, bs_let]
  by_cases c : bs_s M ≤ bs_p M
  · rw [if_pos (nI_le c (by omega))]
    have e : (if nI (bs_s M) < nI (bs_p M) then nI (bs_s M) else nI (bs_p M)) = nI (bs_s M) := by
      by_cases c2 : bs_s M < bs_p M
      · rw [if_pos (nI_lt c2 (by omega))]
      · rw [if_neg (nI_nlt (by omega) (by omega)), show bs_p M = bs_s M by omega]
    rw [e]
    exact bs_slipL h (bs_s M) (Or.inr ⟨rfl, c⟩) (bs_s M) bigN bigN 0 (by omega) (by unfold bigN; omega) (by unfold bigN; omega)
  · rw [if_neg (nI_ge (by omega) (by omega)), if_neg (nI_nlt (by omega) (by omega))]
    exact bs_slipL h (bs_p M) (Or.inl ⟨rfl, by omega⟩) (bs_p M) bigN bigN 0 (by omega) (by unfold bigN; omega) (by unfold bigN; omega)
theorem bs_op_slip (h : bs_Rel x0 s0 Y S M) : bs_OKr (c_X5_slip S (Y 0 0)) (m_X6_slip M) := by
  obtain ⟨r, e1, e2, -⟩ := bs_slip h
  unfold c_X5_slip
  rw [e1, e2, bs_bnd]
  exact ⟨r, rfl, rfl⟩
theorem bs_nIm5 {k : Nat} (hk : k < 2 ^ 31) : ¬ nI k = -5 := by
  intro q
  have := nI_pos hk
  rw [q] at this
  exact this (by decide)
theorem bs_lapse (h : bs_Rel x0 s0 Y S M) {r : Int32} (hr : bs_sR M r) : ∃ z, c_X5_lapseAt S (Y 0 0) r = some z ∧ (if r = -5 then some 0 else if r = nF M 34 then some 3 else if r = nF M 21 then some 4 else bnd (m_X6_isLike M r 0) fun i9_ => if i9_ = 0 then some 1 else some 2) = some z ∧
    ((r = -5 ∧ z = 0) ∨ ∃ k, r = nI k ∧ ((k = bs_p M ∧ k < bs_s M ∧ z = 3) ∨ (k = bs_s M ∧ k < bs_p M ∧ z = 4) ∨ (k < bs_p M ∧ k < bs_s M ∧ (z = 1 ∨ z = 2)))) := by
  have p3 := bs_p300 h.1
  have s5 := bs_s5 h.1
  unfold c_X5_lapseAt
  rcases hr with ⟨rfl, -⟩ | ⟨k, rfl, k1, k2, k3⟩
  · rw [if_neg (by decide), if_pos rfl]
    exact ⟨_, rfl, rfl, Or.inl ⟨rfl, rfl⟩⟩
  · rw [if_pos (nI_pos' (by omega)), if_neg (bs_nIm5 (by omega)), bs_i h 0 0 6 rfl rfl, bs_pN h.1, bs_q h 0 0 4 rfl rfl, bs_o3 h, bs_bnd, bs_i h 3 0 2 rfl rfl, bs_sN h.1]
    by_cases c1 : k = bs_p M
    · have := k3 (Or.inl c1)
      rw [if_neg (nI_nlt (by omega) (by omega)), if_pos (by rw [c1])]
      exact ⟨_, rfl, rfl, Or.inr ⟨k, rfl, Or.inl ⟨c1, by omega, rfl⟩⟩⟩
    · rw [if_pos (nI_lt (by omega) (by omega)), if_neg (fun q => c1 ((nI_eq (by omega) (by omega)).mp q))]
      by_cases c2 : k = bs_s M
      · rw [if_neg (nI_nlt (by omega) (by omega)), if_pos (by rw [c2])]
        exact ⟨_, rfl, rfl, Or.inr ⟨k, rfl, Or.inr (Or.inl ⟨c2, by omega, rfl⟩)⟩⟩
      · have hp : k < bs_p M := by omega
        have hs : k < bs_s M := by omega
        have a0 := bs_c_alY h hp hs 0 (by decide) 0 rfl
        have a1 := bs_c_alY h hp hs 1 (by decide) 1 rfl
        have b0 := bs_m_like h.1 hp hs 0 (by decide) 0 rfl
        rw [if_pos (nI_lt (by omega) (by omega)), if_neg (fun q => c2 ((nI_eq (by omega) (by omega)).mp q))]
        by_cases d0 : bs_al M k 0
        · rw [a0.1 d0, bs_bnd, if_neg bs_10]
          by_cases d1 : bs_al M k 1
          · rw [a1.1 d1, bs_bnd, if_neg bs_10, b0.1 ⟨d0, d1⟩, bs_bnd, if_neg bs_10]
            exact ⟨_, rfl, rfl, Or.inr ⟨k, rfl, Or.inr (Or.inr ⟨hp, hs, Or.inr rfl⟩)⟩⟩
          · rw [a1.2 d1, bs_bnd, if_pos rfl, b0.2 (fun q => d1 q.2), bs_bnd, if_pos rfl]
            exact ⟨_, rfl, rfl, Or.inr ⟨k, rfl, Or.inr (Or.inr ⟨hp, hs, Or.inl rfl⟩)⟩⟩
        · rw [a0.2 d0, bs_bnd, if_pos rfl, b0.2 (fun q => d0 q.1), bs_bnd, if_pos rfl]
          exact ⟨_, rfl, rfl, Or.inr ⟨k, rfl, Or.inr (Or.inr ⟨hp, hs, Or.inl rfl⟩)⟩⟩
theorem bs_op_lapse (h : bs_Rel x0 s0 Y S M) : bs_OKr (c_X5_lapse S (Y 0 0)) (m_X6_lapse M) := by
  obtain ⟨r, e1, e2, e3⟩ := bs_slip h
  obtain ⟨z, z1, z2, -⟩ := bs_lapse h e3
  unfold c_X5_lapse m_X6_lapse
  rw [e1, e2, bs_bnd, bs_bnd, z1, bs_bnd]
  exact ⟨z, rfl, z2⟩
theorem bs_mSI_id (S : Mem) (a k : Nat) : mSI S a k (mI S a k) = S := by
  have : up2 S.2.2.1 a k (S.2.2.1 a k) = S.2.2.1 := by
    funext b j
    unfold up2
    split
    · rename_i q
      rw [q.1, q.2]
    · rfl
  show (S.1, S.2.1, up2 S.2.2.1 a k (S.2.2.1 a k), S.2.2.2) = S
  rw [this]
theorem bs_nSF_id (M : MS) (k : Nat) : nSF M k (nF M k) = M := by
  have : up1 M.2.1 k (M.2.1 k) = M.2.1 := by
    funext b
    unfold up1
    split
    · rename_i q
      rw [q]
    · rfl
  show (M.1, up1 M.2.1 k (M.2.1 k), M.2.2) = M
  rw [this]
theorem bs_m_fixL (h : bs_Inv M) {k : Nat} (hk : k < 300) (hs : k < bs_s M) : m_X6_fix_L44 bigN M (nI k) 0 = (let M2 := nSA (nSA (nSA (nSA M 35 (4 * k) (nA M 28 (7 * k))) 35 (4 * k + 1) (nA M 28 (7 * k + 1))) 35 (4 * k + 2) (nA M 28 (7 * k + 2))) 35 (4 * k + 3) (nA M 28 (7 * k + 3)); if nI k = nF M 34 then bnd (m_X6_slip (nSF M2 34 (nI (k + 1)))) fun i9_ => some (i9_, nSF M2 34 (nI (k + 1))) else bnd (m_X6_slip M2) fun i9_ => some (i9_, M2)) := by
  have s5 := bs_s5 h
  have z : ∀ (X : MS) (a j : Nat) (u : Int32), nA (nSA X 35 a u) 28 j = nA X 28 j := fun _ _ _ _ => rfl
  have z2 : ∀ (X : MS) (a : Nat) (u : Int32), nF (nSA X 35 a u) 34 = nF X 34 := fun _ _ _ => rfl
  have step : ∀ (n : Nat) (X : MS) (j : Nat), j < 4 → m_X6_fix_L44 (n + 1) X (nI k) (nI j) = m_X6_fix_L44 n (nSA X 35 (4 * k + j) (nA X 28 (7 * k + j))) (nI k) (nI (j + 1)) := by
    intro n X j hj
    rw [m_X6_fix_L44, if_neg (show ¬ (4 : Int32) ≤ nI j from nI_ge (b := 4) hj (by decide)), bs_m7, nI_add, bs_gd (bs_inB (by omega) (by decide)), bs_let, bs_m4, nI_add, bs_gd (bs_inB (by omega) (by decide)), bs_let, bs_cl (by omega), bs_cl (by omega), nI_1]
  have e : m_X6_fix_L44 bigN M (nI k) 0 = m_X6_fix_L44 (999995 + 1 + 1 + 1 + 1 + 1) M (nI k) (nI 0) := rfl
  rw [e, step _ _ 0 (by decide), step _ _ 1 (by decide), step _ _ 2 (by decide), step _ _ 3 (by decide), z, z, z, z, z, z, m_X6_fix_L44, if_pos (show (4 : Int32) ≤ nI 4 by decide), z2, z2, z2, z2, bs_let, bs_let, bs_let, bs_let, nI_1]
  show (if nI k = nF M 34 then _ else _) = _
  have id1 : ∀ X : MS, nSF X 34 (nF X 34) = X := fun X => bs_nSF_id X 34
  have e2 : nF M 34 = nF (nSA (nSA (nSA (nSA M 35 (4 * k + 0) (nA M 28 (7 * k + 0))) 35 (4 * k + 1) (nA M 28 (7 * k + 1))) 35 (4 * k + 2) (nA M 28 (7 * k + 2))) 35 (4 * k + 3) (nA M 28 (7 * k + 3))) 34 := rfl
  by_cases c : nI k = nF M 34
  · rw [if_pos c]
    exact (if_pos c).symm
  · rw [if_neg c, e2, id1]
    exact (if_neg c).symm
/-- slip, told of a new state -/
theorem bs_slOK (h : bs_Rel x0 s0 Y S M) (Y0 : bs_Ly) (e : (Y 0 0, Y 14 0) = (Y0 0 0, Y0 14 0)) : bs_OK x0 s0 Y0 (bnd (c_X5_slipPlace S (Y0 0 0)) fun r => some (r, S)) (bnd (m_X6_slip M) fun r => some (r, M)) := by
  obtain ⟨r, e1, e2, -⟩ := bs_slip h
  have hY0 : Y 0 0 = Y0 0 0 := congrArg Prod.fst e
  rw [← hY0, e1, e2, bs_bnd, bs_bnd]
  exact ⟨r, S, M, Y, rfl, rfl, h, e⟩
theorem bs_op_fix (h : bs_Rel x0 s0 Y S M) : bs_OK x0 s0 Y (c_X5_fix S (Y 0 0)) (m_X6_fix M) := by
  have p3 := bs_p300 h.1
  have s5 := bs_s5 h.1
  have q10 := h.2.1.2.2.2.2.2.2.2.2.2.1
  obtain ⟨r, e1, e2, e3⟩ := bs_slip h
  obtain ⟨z, z1, z2, z3⟩ := bs_lapse h e3
  unfold c_X5_fix m_X6_fix
  rw [e1, e2, bs_bnd, bs_bnd, z1, bs_bnd]
  -- the row written, from the step's
  have J61 : ∀ (k : Nat) (w : Int32), k < bs_s M → k ≤ bs_p M → k < 300 → ∃ Y2 S2, c_X5_fix_J61 (mSI S (Y 0 0) 6 w) (Y 0 0) (nI k) = (bnd (c_X5_slipPlace (mSI S2 (Y 0 0) 6 w) (Y 0 0)) fun r => some (r, mSI S2 (Y 0 0) 6 w)) ∧ bs_Rel x0 s0 Y2 S2 (nSA (nSA (nSA (nSA M 35 (4 * k) (nA M 28 (7 * k))) 35 (4 * k + 1) (nA M 28 (7 * k + 1))) 35 (4 * k + 2) (nA M 28 (7 * k + 2))) 35 (4 * k + 3) (nA M 28 (7 * k + 3))) ∧ (Y2 0 0, Y2 14 0) = (Y 0 0, Y 14 0) ∧ 4 * k + 4 ≤ mLn S2 (Y2 6 0) ∧ ∀ j, 4 * k ≤ j → j < 4 * k + 4 → mI S2 (Y2 6 0) j = nA (nSA (nSA (nSA (nSA M 35 (4 * k) (nA M 28 (7 * k))) 35 (4 * k + 1) (nA M 28 (7 * k + 1))) 35 (4 * k + 2) (nA M 28 (7 * k + 2))) 35 (4 * k + 3) (nA M 28 (7 * k + 3))) 35 j := by
    intro k w ks kp k3
    obtain ⟨Y2, S2, f1, f2, f3, f4, f5⟩ := bs_wp h kp k3 w (nA M 28 (7 * k)) (nA M 28 (7 * k + 1)) (nA M 28 (7 * k + 2)) (nA M 28 (7 * k + 3))
    refine ⟨Y2, S2, ?_, f2, f3, f4, f5⟩
    have ne35 : Y 3 0 ≠ Y 0 0 := bs_ne h (t := 3) (i := 0) (t2 := 0) (i2 := 0) rfl rfl (Or.inl (by decide))
    have ne50 : Y 5 0 ≠ Y 0 0 := bs_ne h (t := 5) (i := 0) (t2 := 0) (i2 := 0) rfl rfl (Or.inl (by decide))
    have tl : ∀ j (J : Int32), j < 7 → J = nI j → c_X3_tell (mSI S (Y 0 0) 6 w) (Y 3 0) (nI k) J = some (nA M 28 (7 * k + j)) := by
      intro j J hj hJ
      have := bs_c_tell h ks hj
      rw [hJ]
      unfold c_X3_tell at this ⊢
      rw [show mR (mSI S (Y 0 0) 6 w) (Y 3 0) 1 = mR S (Y 3 0) 1 from rfl, bs_q h 3 0 1 rfl rfl, bs_ob (show mKd (mSI S (Y 0 0) 6 w) (Y 5 0) = 8 from bs_kk h 5 0 rfl), bs_bnd]
      rw [bs_q h 3 0 1 rfl rfl, bs_o5 h, bs_bnd] at this
      rw [bs_mI_ne ne50]
      exact this
    have r0 : mR (mSI S (Y 0 0) 6 w) (Y 0 0) 4 = some (Y 3 0) := bs_q h 0 0 4 rfl rfl
    have k0 : mKd (mSI S (Y 0 0) 6 w) (Y 3 0) = 4 := bs_kk h 3 0 rfl
    unfold c_X5_fix_J61
    rw [r0, bs_ob k0, bs_bnd, tl 0 0 (by decide) rfl, bs_bnd, bs_bnd, tl 1 1 (by decide) rfl, bs_bnd, bs_bnd, tl 2 2 (by decide) rfl, bs_bnd, bs_bnd, tl 3 3 (by decide) rfl, bs_bnd]
    show bnd (c_X5_writePupil (mSI S (Y 0 0) 6 w) (Y 0 0) (nI k) (nA M 28 (7 * k)) (nA M 28 (7 * k + 1)) (nA M 28 (7 * k + 2)) (nA M 28 (7 * k + 3))) _ = _
    rw [f1, bs_bnd]
  rcases z3 with ⟨rfl, rfl⟩ | ⟨k, rfl, z3⟩
  · rw [if_pos rfl, if_pos rfl]
    exact bs_same h _
  · rw [if_neg (bs_nIm5 (show k < 2 ^ 31 by omega)), bs_sN h.1]
    rcases z3 with ⟨c1, c2, rfl⟩ | ⟨c1, c2, rfl⟩ | ⟨c1, c2, hz⟩
    · rw [if_neg (by decide), if_neg (by decide), if_pos rfl, bs_i h 0 0 6 rfl rfl, bs_pN h.1]
      by_cases c3 : k = 300
      · rw [if_pos (show nI k = 300 by rw [c3]; rfl), if_neg (show ¬ nI (bs_p M) < 300 from nI_nlt (b := 300) (by omega) (by omega))]
        exact bs_same h _
      · rw [if_neg (show ¬ nI k = 300 from fun q => c3 ((nI_eq (b := 300) (by omega) (by omega)).mp q)), if_neg (fun q => absurd ((nI_eq (by omega) (by omega)).mp q) (by omega)), if_pos (show nI (bs_p M) < 300 from nI_lt (b := 300) (by omega) (by omega)), bs_let, bs_let, nI_1]
        obtain ⟨Y2, S2, j1, j2, j3, j4, j5⟩ := J61 k (nI (bs_p M + 1)) (by omega) (by omega) (by omega)
        have hY0 : Y2 0 0 = Y 0 0 := congrArg Prod.fst j3
        have hm := bs_p34 j2 (q := bs_p M + 1) (by omega) (by omega) (by
          intro j hj
          by_cases cj : 4 * k ≤ j
          · exact j5 j cj (by omega)
          · exact bs_i j2 6 0 j rfl (if_pos (show j < 4 * bs_p M by omega)))
        rw [hY0] at hm
        rw [j1, bs_m_fixL h.1 (by omega) (by omega), bs_pN h.1]
        show bs_OK x0 s0 Y _ (if nI k = nI (bs_p M) then _ else _)
        rw [if_pos (by rw [c1]), c1]
        rw [c1] at hm
        exact bs_slOK hm Y j3
    · rw [if_neg (by decide), if_pos rfl, if_neg (show ¬ nI k = 300 from fun q => absurd ((nI_eq (b := 300) (by omega) (by omega)).mp q) (by omega)), if_pos (by rw [c1]), bs_let, bs_let]
      have hm := bs_p34 h (q := k) (by omega) (by omega) (by
        intro j hj
        exact bs_i h 6 0 j rfl (if_pos (show j < 4 * bs_p M by omega)))
      exact bs_slOK hm Y rfl
    · have z0 : ¬ z = 0 ∧ ¬ z = 4 ∧ ¬ z = 3 := by rcases hz with rfl | rfl <;> decide
      rw [if_neg z0.1, if_neg z0.2.1, if_neg z0.2.2, if_neg (show ¬ nI k = 300 from fun q => absurd ((nI_eq (b := 300) (by omega) (by omega)).mp q) (by omega)), if_neg (fun q => absurd ((nI_eq (by omega) (by omega)).mp q) (by omega))]
      obtain ⟨Y2, S2, j1, j2, j3, j4, j5⟩ := J61 k (nI (bs_p M)) (by omega) (by omega) (by omega)
      have hY0 : Y2 0 0 = Y 0 0 := congrArg Prod.fst j3
      have i1 : mSI S (Y 0 0) 6 (nI (bs_p M)) = S := by
        have := bs_mSI_id S (Y 0 0) 6
        rw [bs_i h 0 0 6 rfl rfl, bs_pN h.1] at this
        exact this
      have i2 : mSI S2 (Y 0 0) 6 (nI (bs_p M)) = S2 := by
        have := bs_mSI_id S2 (Y2 0 0) 6
        rw [bs_i j2 0 0 6 rfl rfl, hY0] at this
        have e : nF (nSA (nSA (nSA (nSA M 35 (4 * k) (nA M 28 (7 * k))) 35 (4 * k + 1) (nA M 28 (7 * k + 1))) 35 (4 * k + 2) (nA M 28 (7 * k + 2))) 35 (4 * k + 3) (nA M 28 (7 * k + 3))) 34 = nI (bs_p M) := bs_pN h.1
        rw [e] at this
        exact this
      rw [i1, i2] at j1
      rw [j1, bs_m_fixL h.1 (by omega) (by omega), bs_pN h.1]
      show bs_OK x0 s0 Y _ (if nI k = nI (bs_p M) then _ else _)
      rw [if_neg (fun q => absurd ((nI_eq (by omega) (by omega)).mp q) (by omega))]
      exact bs_slOK j2 Y j3
end BsSlip
