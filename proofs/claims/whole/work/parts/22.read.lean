/-! reading rods and frames, on both sides -/
/-- what is against reading a rod -/
def bs_rf (M : MS) (r : Nat) : Int32 := if 0 ≤ nA M 9 r then (if (if bs_k M (r / 18) = 2 then (1 : Int32) else 2) ≤ nA M 9 r then 0 else 2) else 1
/-- what is against one of its numbers -/
def bs_nf (M : MS) (r : Nat) (w : Int32) : Int32 := if 0 ≤ nA M 9 r then (if w < nA M 9 r then 0 else 2) else 1
def bs_dv (M : MS) (r : Nat) : Nat := bs_l M r + 5 * bs_u M r
section BsRead
variable {x0 s0 : Nat} {Y : bs_Ly} {S : Mem} {M : MS}
theorem bs_lN (h : bs_Inv M) {r : Nat} (hr : r < 540) : nA M 10 r = nI (bs_l M r) ∧ bs_l M r ≤ 15 ∧ (bs_k M (r / 18) ≠ 2 → bs_l M r ≤ 5) := by
  obtain ⟨l, h1, h2, h3⟩ := (bs_rods h r hr).2.1
  have : bs_l M r = l := by unfold bs_l; rw [h1]; exact bs_cl (by omega)
  rw [this]
  exact ⟨h1, h2, h3⟩
theorem bs_uN (h : bs_Inv M) {r : Nat} (hr : r < 540) : nA M 11 r = nI (bs_u M r) ∧ bs_u M r ≤ 2 ∧ (bs_k M (r / 18) = 2 → bs_u M r = 0) := by
  obtain ⟨l, h1, h2, h3⟩ := (bs_rods h r hr).2.2
  have : bs_u M r = l := by unfold bs_u; rw [h1]; exact bs_cl (by omega)
  rw [this]
  exact ⟨h1, h2, h3⟩
theorem bs_dv_le (h : bs_Inv M) {r : Nat} (hr : r < 540) : bs_dv M r ≤ 15 := by
  obtain ⟨-, h1, h2⟩ := bs_lN h hr
  obtain ⟨-, h3, h4⟩ := bs_uN h hr
  unfold bs_dv
  by_cases c : bs_k M (r / 18) = 2
  · have := h4 c; omega
  · have := h2 c; omega
theorem bs_R1 (h : bs_Rel x0 s0 Y S M) {r : Nat} (hr : bs_rv M r) : mI S (Y 2 r) 1 = if bs_k M (r / 18) = 2 then 1 else 2 := bs_i h 2 r 1 hr rfl
theorem bs_R4 (h : bs_Rel x0 s0 Y S M) {r : Nat} (hr : bs_rv M r) : mI S (Y 2 r) 4 = nA M 9 r := bs_i h 2 r 4 hr rfl
theorem bs_R5 (h : bs_Rel x0 s0 Y S M) {r : Nat} (hr : bs_rv M r) : mI S (Y 2 r) 5 = nI (bs_l M r) := (bs_i h 2 r 5 hr rfl).trans (bs_lN h.1 (bs_rv540 h.1 hr)).1
theorem bs_R6 (h : bs_Rel x0 s0 Y S M) {r : Nat} (hr : bs_rv M r) : mI S (Y 2 r) 6 = nI (bs_u M r) := (bs_i h 2 r 6 hr rfl).trans (bs_uN h.1 (bs_rv540 h.1 hr)).1
theorem bs_c_rf (h : bs_Rel x0 s0 Y S M) {r : Nat} (hr : bs_rv M r) : c_X4_readFault S (Y 2 r) = some (bs_rf M r) := by
  unfold c_X4_readFault bs_rf
  rw [bs_R1 h hr, bs_R4 h hr]
  generalize (if bs_k M (r / 18) = 2 then (1 : Int32) else 2) = w
  split
  · split <;> rfl
  · rfl
theorem bs_c_nf (h : bs_Rel x0 s0 Y S M) {r : Nat} (hr : bs_rv M r) (w : Int32) : c_X4_numberFault S (Y 2 r) w = some (bs_nf M r w) := by
  unfold c_X4_numberFault bs_nf
  rw [bs_R4 h hr]
  split
  · split <;> rfl
  · rfl
theorem bs_c_value (h : bs_Rel x0 s0 Y S M) {r : Nat} (hr : bs_rv M r) : c_X4_value S (Y 2 r) = some (nI (bs_dv M r)) := by
  unfold c_X4_value bs_dv
  rw [bs_R5 h hr, bs_R6 h hr, bs_lit 5, pk_mul, nI_add]
theorem bs_m_rodOf (h : bs_Inv M) {f i : Nat} (hf : f < bs_n M) (hi : i < bs_m M f) : m_X6_rodOf M (nI f) (nI i) = some (nI (bs_r M f i)) := by
  have h1 := bs_n30 h
  have h2 := bs_m18 h hf
  unfold m_X6_rodOf
  rw [bs_lit 18, pk_mul, nI_add, bs_gd (bs_inB (by omega) (by decide)), bs_cl (by omega), bs_rN h hf hi]
theorem bs_m_kindOf (h : bs_Inv M) {r : Nat} (hr : bs_rv M r) : m_X6_kindOf M (nI r) = some (nI (bs_k M (r / 18))) := by
  have h1 := bs_rv540 h hr
  unfold m_X6_kindOf
  rw [bs_lit 18, pk_div (by omega) (by decide) (by decide), bs_gd (bs_inB (by omega) (by decide)), bs_cl (by omega), bs_kN h hr.1]
theorem bs_kis0 (h : bs_Inv M) {f : Nat} (hf : f < bs_n M) : nI (bs_k M f) = (0 : Int32) ↔ bs_k M f = 0 := by
  have := bs_k4 h hf
  exact nI_eq (b := 0) (by omega) (by omega)
theorem bs_kis1 (h : bs_Inv M) {f : Nat} (hf : f < bs_n M) : nI (bs_k M f) = (1 : Int32) ↔ bs_k M f = 1 := by
  have := bs_k4 h hf
  exact nI_eq (b := 1) (by omega) (by omega)
theorem bs_kis2 (h : bs_Inv M) {f : Nat} (hf : f < bs_n M) : nI (bs_k M f) = (2 : Int32) ↔ bs_k M f = 2 := by
  have := bs_k4 h hf
  exact nI_eq (b := 2) (by omega) (by omega)
theorem bs_kis3 (h : bs_Inv M) {f : Nat} (hf : f < bs_n M) : nI (bs_k M f) = (3 : Int32) ↔ bs_k M f = 3 := by
  have := bs_k4 h hf
  exact nI_eq (b := 3) (by omega) (by omega)
theorem bs_kis4 (h : bs_Inv M) {f : Nat} (hf : f < bs_n M) : nI (bs_k M f) = (4 : Int32) ↔ bs_k M f = 4 := by
  have := bs_k4 h hf
  exact nI_eq (b := 4) (by omega) (by omega)
theorem bs_m_J41 (h : bs_Inv M) {r : Nat} (hr : bs_rv M r) (w : Int32) : m_X6_against_J41 M (nI r) w = some (if 0 ≤ nA M 9 r then (if w ≤ nA M 9 r then 0 else 2) else 1) := by
  have h1 := bs_rv540 h hr
  unfold m_X6_against_J41
  rw [bs_gd (bs_inB h1 (by decide)), bs_cl (by omega)]
  split
  · rw [bs_gd (bs_inB h1 (by decide))]
    split <;> rfl
  · rfl
theorem bs_m_ag (h : bs_Inv M) {f i : Nat} (hf : f < bs_n M) (hi : i < bs_m M f) : m_X6_against M (nI f) (nI i) = some (bs_rf M (bs_r M f i)) := by
  have h1 := bs_n30 h
  have h2 := bs_m18 h hf
  have hv := bs_rV h hf hi
  unfold m_X6_against
  rw [bs_gd (bs_inB (by omega) (by decide)), bs_cl (by omega), bs_mN h hf, bs_in_yes hi (by omega), bs_bnd, if_neg (by decide), bs_m_rodOf h hf hi, bs_bnd, bs_m_kindOf h hv, bs_bnd]
  unfold bs_rf
  by_cases c : bs_k M (bs_r M f i / 18) = 2
  · rw [if_pos ((bs_kis2 h hv.1).mpr c), bs_m_J41 h hv, if_pos c]
  · rw [if_neg (fun q => c ((bs_kis2 h hv.1).mp q)), bs_m_J41 h hv, if_neg c]
theorem bs_m_agB (h : bs_Inv M) {f : Nat} (hf : f < bs_n M) {x : Int32} (hx : x < 0 ∨ nI (bs_m M f) ≤ x) : m_X6_against M (nI f) x = some 2 := by
  have h1 := bs_n30 h
  have h2 := bs_m18 h hf
  unfold m_X6_against
  rw [bs_gd (bs_inB (by omega) (by decide)), bs_cl (by omega), bs_mN h hf, bs_in_no (by omega) hx, bs_bnd, if_pos rfl]
theorem bs_m_digit (h : bs_Inv M) {r : Nat} (hr : bs_rv M r) : m_X6_digitAt M (nI r) = some (nI (bs_dv M r)) := by
  have h1 := bs_rv540 h hr
  obtain ⟨h2, h3, -⟩ := bs_lN h h1
  obtain ⟨h4, h5, h6⟩ := bs_uN h h1
  unfold m_X6_digitAt bs_dv
  rw [bs_m_kindOf h hr, bs_bnd]
  by_cases c : bs_k M (r / 18) = 2
  · rw [if_pos ((bs_kis2 h hr.1).mpr c), bs_gd (bs_inB h1 (by decide)), bs_cl (by omega), h2, h6 c]
    rfl
  · rw [if_neg (fun q => c ((bs_kis2 h hr.1).mp q)), bs_gd (bs_inB h1 (by decide)), bs_gd (bs_inB h1 (by decide)), bs_cl (by omega), h2, h4, bs_lit 5, pk_mul, nI_add]
theorem bs_c_holds (h : bs_Rel x0 s0 Y S M) {f i : Nat} (hf : f < bs_n M) (hi : i < bs_m M f) : c_X1_holds S (Y 1 f) (nI i) = some 1 := by
  have h2 := bs_m18 h.1 hf
  unfold c_X1_holds
  rw [if_neg (nI_pos (by omega)), bs_f5 h hf, bs_o11 h hf, bs_bnd, bs_l11 h hf, if_neg (nI_ge hi (by omega))]
theorem bs_c_holdsN (h : bs_Rel x0 s0 Y S M) {f : Nat} (hf : f < bs_n M) {x : Int32} (hx : x < 0 ∨ nI (bs_m M f) ≤ x) : c_X1_holds S (Y 1 f) x = some 0 := by
  unfold c_X1_holds
  by_cases c : x < 0
  · rw [if_pos c]
  · rw [if_neg c, bs_f5 h hf, bs_o11 h hf, bs_bnd, bs_l11 h hf, if_pos (hx.resolve_left c)]
/-- the way from a frame to a rod -/
theorem bs_c_rod (h : bs_Rel x0 s0 Y S M) {f i : Nat} (hf : f < bs_n M) (hi : i < bs_m M f) {β : Type} (K : Nat → Option β) : (bnd (ob S (mR S (Y 1 f) 5) 12) fun a => gd (inB (nI i) (mLn S a)) (bnd (ob S (mR S a (Int32.toNatClampNeg (nI i))) 5) K)) = K (Y 2 (bs_r M f i)) := by
  have h2 := bs_m18 h.1 hf
  rw [bs_f5 h hf, bs_o11 h hf, bs_bnd, bs_l11 h hf, bs_gd (bs_inB hi (by omega)), bs_cl (by omega), bs_rr h hf hi, bs_o2 h (bs_rV h.1 hf hi), bs_bnd]
end BsRead
