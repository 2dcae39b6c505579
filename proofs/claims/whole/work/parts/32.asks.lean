/-! what frames are asked -/
section BsAsks
variable {x0 s0 : Nat} {Y : bs_Ly}
theorem bs_begun {S : Mem} {M : MS} (h : bs_Rel x0 s0 Y S M) (k : Int32) : ∃ v, c_X5_begun S (Y 0 0) k = some (mSI S (Y 0 0) 7 v) ∧ m_X6_body M k = some (nSF M 12 v) ∧ bs_Rel x0 s0 Y (mSI S (Y 0 0) 7 v) (nSF M 12 v) := by
  refine ⟨31 * nF M 12 + k, ?_, rfl, bs_p12 h _⟩
  unfold c_X5_begun
  rw [bs_let, bs_let, bs_i h 0 0 7 rfl rfl]
theorem bs_askBase : ∀ dd n n2 (S : Mem) (M : MS) (f t : Nat), bs_Rel x0 s0 Y S M → f < bs_n M → bs_d M f ≤ dd → dd < n → dd < n2 → t + dd ≤ 5 →
    ∃ z S' v, c_X5_askBase n S (Y 0 0) (some (Y 1 f)) (nI t) = some (z, S') ∧ m_X6_askedBase_L2 n2 M (nI f) = some (z, nSF M 12 v) ∧ bs_Rel x0 s0 Y S' (nSF M 12 v) ∧ (z = 10 ∨ z = 16)
  | dd, 0, _, _, _, _, _, _, _, _, hn, _, _ => absurd hn (Nat.not_lt_zero _)
  | dd, _ + 1, 0, _, _, _, _, _, _, _, _, hn, _ => absurd hn (Nat.not_lt_zero _)
  | dd, n + 1, n2 + 1, S, M, f, t, h, hf, hd, hn, hn2, ht => by
    have h3 := bs_n30 h.1
    rw [c_X5_askBase, m_X6_askedBase_L2, bs_o1 h hf, bs_bnd, bs_gd (bs_inB (by omega) (by decide)), bs_cl (by omega), bs_f1 h hf, bs_kN h.1 hf]
    by_cases c : bs_k M f = 4
    · rw [if_pos ((bs_kis4 h.1 hf).mpr c), if_pos ((bs_kis4 h.1 hf).mpr c)]
      obtain ⟨v, e1, e2, h2⟩ := bs_begun h 3
      obtain ⟨⟨g1, g2, g3⟩, -⟩ := (bs_fr h.1 hf).2.2.2.2.2.1 c
      have e3 : mR (mSI S (Y 0 0) 7 v) (Y 1 f) 6 = some (Y 1 (bs_1 M f)) := by
        have := bs_q h2 1 f 6 hf rfl
        rw [this]
        exact if_pos c
      rw [e1, e2, bs_bnd, bs_bnd, e3, bs_ocS, bs_gd (bs_inB (by omega) (by decide)), bs_let]
      have e4 : nA (nSF M 12 v) 5 f = nI (bs_1 M f) := g1
      cases dd with
      | zero => omega
      | succ dd =>
        rw [e4, bs_lit 5, if_pos (nI_le (by omega) (by decide)), nI_1]
        obtain ⟨z, S', v2, q1, q2, q3, q4⟩ := bs_askBase dd n n2 (mSI S (Y 0 0) 7 v) (nSF M 12 v) (bs_1 M f) (t + 1) h2 (by show bs_1 M f < bs_n M; omega) (by show bs_d M (bs_1 M f) ≤ dd; omega) (by omega) (by omega) (by omega)
        rw [q1, bs_bnd2]
        rw [bs_nSF2] at q2 q3
        exact ⟨z, S', v2, rfl, q2, q3, q4⟩
    · rw [if_neg (fun q => c ((bs_kis4 h.1 hf).mp q)), if_neg (fun q => c ((bs_kis4 h.1 hf).mp q)), bs_gd (bs_inB (by omega) (by decide))]
      unfold m_X6_askedBase_J43
      by_cases c3 : bs_k M f = 3
      · obtain ⟨v, e1, e2, h2⟩ := bs_begun h 2
        have e4 : nA (nSF M 12 v) 1 f = nI (bs_k M f) := bs_kN h.1 hf
        rw [if_pos ((bs_kis3 h.1 hf).mpr c3), if_pos ((bs_kis3 h.1 hf).mpr c3), e1, e2, bs_bnd, bs_bnd, bs_gd (bs_inB (by omega) (by decide)), bs_cl (by omega), e4, if_pos ((bs_kis3 h.1 hf).mpr c3)]
        exact ⟨16, _, v, rfl, rfl, h2, Or.inr rfl⟩
      · obtain ⟨v, e1, e2, h2⟩ := bs_begun h 1
        have e4 : nA (nSF M 12 v) 1 f = nI (bs_k M f) := bs_kN h.1 hf
        rw [if_neg (fun q => c3 ((bs_kis3 h.1 hf).mp q)), if_neg (fun q => c3 ((bs_kis3 h.1 hf).mp q)), e1, e2, bs_bnd, bs_bnd, bs_gd (bs_inB (by omega) (by decide)), bs_cl (by omega), e4, if_neg (fun q => c3 ((bs_kis3 h.1 hf).mp q))]
        exact ⟨10, _, v, rfl, rfl, h2, Or.inl rfl⟩
theorem bs_askBeads {S : Mem} {M : MS} (h : bs_Rel x0 s0 Y S M) {f : Nat} (hf : f < bs_n M) (hk : bs_k M f ≠ 4) : ∃ z S' v, c_X5_askBeads S (Y 0 0) (some (Y 1 f)) = some (z, S') ∧ m_X6_askedBeads M (nI f) = some (z, nSF M 12 v) ∧ bs_Rel x0 s0 Y S' (nSF M 12 v) ∧ (z = 10 ∨ z = 5 ∨ z = 7) := by
  have h3 := bs_n30 h.1
  unfold c_X5_askBeads m_X6_askedBeads m_X6_askedBeads_J33 m_X6_askedBeads_J43
  rw [bs_o1 h hf, bs_bnd, bs_gd (bs_inB (by omega) (by decide)), bs_gd (bs_inB (by omega) (by decide)), bs_cl (by omega), bs_f1 h hf, bs_kN h.1 hf, if_neg (fun q => hk ((bs_kis4 h.1 hf).mp q))]
  by_cases c2 : bs_k M f = 2
  · rw [if_pos ((bs_kis2 h.1 hf).mpr c2), if_pos ((bs_kis2 h.1 hf).mpr c2)]
    obtain ⟨v, e1, e2, h2⟩ := bs_begun h 6
    rw [e1, e2, bs_bnd, bs_bnd]
    exact ⟨10, _, v, rfl, rfl, h2, Or.inl rfl⟩
  · rw [if_neg (fun q => c2 ((bs_kis2 h.1 hf).mp q)), if_neg (fun q => c2 ((bs_kis2 h.1 hf).mp q))]
    by_cases c0 : bs_k M f = 0
    · rw [if_pos ((bs_kis0 h.1 hf).mpr c0), if_pos ((bs_kis0 h.1 hf).mpr c0), if_pos rfl]
      obtain ⟨v, e1, e2, h2⟩ := bs_begun h 4
      rw [e1, e2, bs_bnd, bs_bnd, if_pos rfl]
      exact ⟨5, _, v, rfl, rfl, h2, Or.inr (Or.inl rfl)⟩
    · rw [if_neg (fun q => c0 ((bs_kis0 h.1 hf).mp q)), if_neg (fun q => c0 ((bs_kis0 h.1 hf).mp q)), if_neg bs_10]
      obtain ⟨v, e1, e2, h2⟩ := bs_begun h 5
      obtain ⟨v2, e3, e4, h4⟩ := bs_begun h2 4
      rw [e1, e2, bs_bnd, bs_bnd, e3, e4, bs_bnd, bs_bnd, if_neg bs_10]
      rw [bs_nSF2] at h4 ⊢
      exact ⟨7, _, v2, rfl, rfl, h4, Or.inr (Or.inr rfl)⟩
end BsAsks
