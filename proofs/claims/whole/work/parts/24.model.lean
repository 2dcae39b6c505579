/-! the same loops on the reference's side -/
theorem bs_nSF2 (M : MS) (k : Nat) (v w : Int32) : nSF (nSF M k v) k w = nSF M k w := by
  unfold nSF
  congr 2
  funext b
  simp only [up1]
  split <;> rfl
theorem bs_nF_eq (M : MS) (k : Nat) (v : Int32) : nF (nSF M k v) k = v := by simp [nF, nSF, up1]
section BsModel
variable {x0 s0 : Nat} {Y : bs_Ly} {S : Mem} {M : MS}
theorem bs_Inv16 {x : Int32} (h : bs_Inv M) : bs_Inv (nSF M 16 x) := h
theorem bs_Rel16 {x : Int32} (h : bs_Rel x0 s0 Y S M) : bs_Rel x0 s0 Y S (nSF M 16 x) := h
theorem bs_m_upperOf {d : Nat} (hd : d < 1000) : m_X6_upperOf (nI d) = some (nI (bs_wu 0 d)) := by
  unfold m_X6_upperOf bs_wu
  rw [bs_lit 5, bs_lit 2, pk_div (by omega) (by decide) (by decide), if_neg (show ¬ (0 : Nat) = 2 by decide)]
  by_cases c : d < 10
  · rw [if_pos (nI_le (by omega) (by decide)), if_pos c]
  · rw [if_neg c]
    by_cases c2 : d / 5 ≤ 2
    · rw [if_pos (nI_le c2 (by decide)), show d / 5 = 2 by omega]
    · rw [if_neg (nI_ge (by omega) (by omega))]
theorem bs_m_apL (h : bs_Inv M) {f : Nat} (hf : f < bs_n M) : ∀ d n i (q : Bool), i + d = bs_m M f → d < n → m_X6_isProper_L4 M n (nI f) (if q then 1 else 0) (nI i) = some (if q && bs_ap M f d i then 1 else 0)
  | d, 0, i, q, _, hn => absurd hn (Nat.not_lt_zero _)
  | 0, n + 1, i, q, hi, _ => by
    have h2 := bs_m18 h hf
    have h3 := bs_n30 h
    rw [m_X6_isProper_L4, bs_gd (bs_inB (by omega) (by decide)), bs_cl (by omega), bs_mN h hf, if_pos (nI_le (by omega) (by omega))]
    cases q <;> rfl
  | d + 1, n + 1, i, q, hi, hn => by
    have h2 := bs_m18 h hf
    have h3 := bs_n30 h
    have hl : i < bs_m M f := by omega
    have hb := bs_bb h hf
    have hv := bs_rV h hf hl
    have hd := bs_dv_le h (bs_rv540 h hv)
    have h5 := bs_uN h (bs_rv540 h hv)
    have h6 := bs_rv540 h hv
    have ih := fun q => bs_m_apL h hf d n (i + 1) q (by omega) (by omega)
    have ih1 := ih true
    have ih0 := ih false
    rw [if_pos rfl] at ih1
    rw [if_neg (by decide)] at ih0
    rw [m_X6_isProper_L4, bs_gd (bs_inB (by omega) (by decide)), bs_cl (by omega), bs_mN h hf, if_neg (nI_ge hl (by omega)), bs_m_ag h hf hl, bs_bnd, nI_1, bs_ap]
    by_cases c : bs_rf M (bs_r M f i) = 0
    · rw [if_pos c, bs_m_rodOf h hf hl, bs_bnd, bs_m_digit h hv, bs_bnd, bs_gd (bs_inB (by omega) (by decide)), bs_bN h hf]
      cases q
      · rw [if_pos (by decide), ih0]
        simp
      · rw [if_neg (by decide)]
        unfold bs_pr
        by_cases c2 : bs_dv M (bs_r M f i) < bs_b M f
        · rw [if_neg (nI_ge c2 (by omega)), bs_m_kindOf h hv, bs_bnd]
          by_cases c3 : bs_k M (bs_r M f i / 18) = 2
          · rw [if_pos ((bs_kis2 h hv.1).mpr c3), ih1]
            have := h5.2.2 c3
            simp [c, c2, c3, this, bs_wu]
          · rw [if_neg (fun q => c3 ((bs_kis2 h hv.1).mp q)), bs_gd (bs_inB (by omega) (by decide)), bs_cl (by omega), h5.1, bs_m_upperOf (by omega), bs_bnd]
            have e : bs_wu 0 (bs_dv M (bs_r M f i)) = bs_wu (bs_k M (bs_r M f i / 18)) (bs_dv M (bs_r M f i)) := by unfold bs_wu; rw [if_neg (by decide), if_neg c3]
            rw [e]
            have h7 := @bs_wu_le (bs_k M (bs_r M f i / 18)) (bs_dv M (bs_r M f i))
            by_cases c4 : bs_u M (bs_r M f i) = bs_wu (bs_k M (bs_r M f i / 18)) (bs_dv M (bs_r M f i))
            · rw [if_pos (by rw [c4]), ih1]
              simp [c, c2, c4]
            · rw [if_neg (fun q => c4 ((nI_eq (by omega) (by omega)).mp q)), ih0]
              simp [c, c4]
        · rw [if_pos (nI_le (by omega) (by omega)), ih0]
          simp [c, c2]
    · rw [if_neg c, ih q]
      simp [c]
theorem bs_m_ap (h : bs_Inv M) {f : Nat} (hf : f < bs_n M) : m_X6_isProper M (nI f) = some (if bs_ap M f (bs_m M f) 0 then 1 else 0) := by
  have h2 := bs_m18 h hf
  have := bs_m_apL h hf (bs_m M f) bigN 0 true (by omega) (by unfold bigN; omega)
  rw [Bool.true_and, if_pos rfl] at this
  exact this
theorem bs_m_svL {f : Nat} : ∀ d n (M : MS) (i v u : Nat), bs_Inv M → f < bs_n M → nF M 16 = 0 → i + d = bs_m M f → d < n → ∃ w, m_X6_shown_L13 n M (nI f) (lN v) (lN u) (nI i) = some (w, nSF M 16 (bs_ff M f d i)) ∧ (bs_ff M f d i = 0 → w = lN (v + u * bs_sv M f d i))
  | d, 0, M, i, v, u, _, _, _, _, hn => absurd hn (Nat.not_lt_zero _)
  | 0, n + 1, M, i, v, u, h, hf, hz, hi, _ => by
    have h2 := bs_m18 h hf
    have h3 := bs_n30 h
    rw [m_X6_shown_L13, bs_gd (bs_inB (by omega) (by decide)), bs_cl (by omega), bs_mN h hf, if_pos (nI_le (by omega) (by omega))]
    refine ⟨_, ?_, fun _ => rfl⟩
    rw [bs_ff, ← hz]
    have e : nSF M 16 (nF M 16) = M := by
      unfold nSF nF
      have : up1 M.2.1 16 (M.2.1 16) = M.2.1 := by
        funext b
        simp only [up1]
        split
        · rename_i q; rw [q]
        · rfl
      rw [this]
    rw [e]
    rfl
  | d + 1, n + 1, M, i, v, u, h, hf, hz, hi, hn => by
    have h2 := bs_m18 h hf
    have h3 := bs_n30 h
    have hl : i < bs_m M f := by omega
    have hb := bs_bb h hf
    have hv := bs_rV h hf hl
    have hd := bs_dv_le h (bs_rv540 h hv)
    rw [m_X6_shown_L13, bs_gd (bs_inB (by omega) (by decide)), bs_cl (by omega), bs_mN h hf, if_neg (nI_ge hl (by omega)), if_pos hz, bs_m_ag h hf hl, bs_bnd, bs_let, bs_nF_eq]
    have h' : bs_Inv (nSF M 16 (bs_rf M (bs_r M f i))) := h
    by_cases c : bs_rf M (bs_r M f i) = 0
    · rw [if_pos c]
      have e0 : m_X6_rodOf (nSF M 16 (bs_rf M (bs_r M f i))) (nI f) (nI i) = some (nI (bs_r M f i)) := bs_m_rodOf (M := nSF M 16 (bs_rf M (bs_r M f i))) h' hf hl
      have e1 : m_X6_digitAt (nSF M 16 (bs_rf M (bs_r M f i))) (nI (bs_r M f i)) = some (nI (bs_dv M (bs_r M f i))) := bs_m_digit (M := nSF M 16 (bs_rf M (bs_r M f i))) h' hv
      have e2 : nA (nSF M 16 (bs_rf M (bs_r M f i))) 3 f = nI (bs_b M f) := bs_bN (M := nSF M 16 (bs_rf M (bs_r M f i))) h' hf
      rw [e0, bs_bnd, e1, bs_bnd]
      unfold m_X6_shown_J69
      rw [bs_let, bs_gd (bs_inB (by omega) (by decide)), bs_cl (by omega), e2, bs_let, nI_1]
      rw [nI_l (by omega), nI_l (by omega), lN_mul, lN_mul, lN_add]
      obtain ⟨w, w1, w2⟩ := bs_m_svL d n (nSF M 16 (bs_rf M (bs_r M f i))) (i + 1) (v + bs_dv M (bs_r M f i) * u) (u * bs_b M f) h' hf (by rw [bs_nF_eq, c]) (by show i + 1 + d = bs_m M f; omega) (by omega)
      have eA : nA (nSF M 16 (bs_rf M (bs_r M f i))) = nA M := rfl
      rw [bs_ff_A eA, bs_sv_A eA] at w2
      rw [bs_ff_A eA] at w1
      refine ⟨w, ?_, ?_⟩
      · rw [w1, bs_nSF2, bs_ff, if_pos c]
      · rw [bs_ff, if_pos c]
        intro q
        rw [w2 q, bs_sv]
        congr 1
        rw [Nat.mul_add, Nat.mul_comm (bs_dv M (bs_r M f i)) u, Nat.mul_assoc, Nat.add_assoc]
    · rw [if_neg c]
      unfold m_X6_shown_J69
      rw [bs_let, bs_gd (bs_inB (by omega) (by decide)), bs_let]
      refine ⟨lN v + 0, ?_, ?_⟩
      · rw [bs_ff, if_neg c]
        cases n with
        | zero => omega
        | succ n =>
          rw [m_X6_shown_L13, bs_gd (bs_inB (by omega) (by decide)), bs_nF_eq, if_neg c]
          split <;> rfl
      · rw [bs_ff, if_neg c]
        exact fun q => absurd q c
theorem bs_m_sv (h : bs_Inv M) {f : Nat} (hf : f < bs_n M) : ∃ w, m_X6_shown M (nI f) = some (w, nSF M 16 (bs_ff M f (bs_m M f) 0)) ∧ (bs_ff M f (bs_m M f) 0 = 0 → w = lN (bs_sv M f (bs_m M f) 0)) := by
  have h2 := bs_m18 h hf
  obtain ⟨w, w1, w2⟩ := bs_m_svL (f := f) (bs_m M f) bigN (nSF M 16 0) 0 0 1 h hf (bs_nF_eq _ _ _) (by show 0 + bs_m M f = bs_m M f; omega) (by unfold bigN; omega)
  have eA : nA (nSF M 16 0) = nA M := rfl
  rw [bs_ff_A eA] at w1
  rw [bs_ff_A eA, bs_sv_A eA] at w2
  refine ⟨w, ?_, fun q => ?_⟩
  · unfold m_X6_shown
    rw [bs_let]
    rw [bs_nSF2] at w1
    exact w1
  · rw [w2 q, Nat.zero_add, Nat.one_mul]
end BsModel
