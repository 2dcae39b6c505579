/-! the calls, both sides: the same answer, and the relation again -/
def bs_OK (x0 s0 : Nat) (Y : bs_Ly) {α : Type} (c : Option (α × Mem)) (m : Option (α × MS)) : Prop := ∃ r S2 M2 Y2, c = some (r, S2) ∧ m = some (r, M2) ∧ bs_Rel x0 s0 Y2 S2 M2 ∧ (Y2 0 0, Y2 14 0) = (Y 0 0, Y 14 0)
def bs_OKr {α : Type} (c m : Option α) : Prop := ∃ r, c = some r ∧ m = some r
theorem bs_10 : ¬ (1 : Int32) = 0 := by decide
theorem bs_20 : ¬ (2 : Int32) = 0 := by decide
theorem bs_2le : ¬ (2 : Int32) ≤ 0 := by decide
section BsOpsA
variable {x0 s0 : Nat} {Y : bs_Ly} {S S2 : Mem} {M M2 : MS}
theorem bs_same (h : bs_Rel x0 s0 Y S M) {α : Type} (r : α) : bs_OK x0 s0 Y (some (r, S)) (some (r, M)) := ⟨r, S, M, Y, rfl, rfl, h, rfl⟩
theorem bs_flt (h : bs_Rel x0 s0 Y S M) (k : Int32) : bs_OK x0 s0 Y (bnd2 (c_X5_faulted S (Y 0 0) k) fun a b => some (a, b)) (bnd2 (m_X6_meets M k) fun a b => some (a, b)) := by
  obtain ⟨S2, M2, e1, e2, h2⟩ := bs_fault h k
  rw [e1, e2]
  exact bs_same h2 _
theorem bs_lst (h : bs_Rel x0 s0 Y S M) (k : Int32) : bs_OK x0 s0 Y (bnd2 (c_X5_lost S (Y 0 0) k) fun a b => some (a, b)) (bnd2 (m_X6_loses M k) fun a b => some (a, b)) := by
  obtain ⟨S2, M2, e1, e2, h2⟩ := bs_lost h k
  rw [e1, e2]
  exact bs_same h2 _
theorem bs_rf_le (M : MS) (r : Nat) : bs_rf M r ≤ 0 ↔ bs_rf M r = 0 := by
  unfold bs_rf
  generalize (if bs_k M (r / 18) = 2 then (1 : Int32) else 2) = w
  split
  · split
    · simp
    · decide
  · decide
theorem bs_nf_le (M : MS) (r : Nat) (w : Int32) : bs_nf M r w ≤ 0 ↔ bs_nf M r w = 0 := by
  unfold bs_nf
  split
  · split
    · simp
    · decide
  · decide
theorem bs_ff_le (M : MS) (f : Nat) : ∀ d i, bs_ff M f d i ≤ 0 ↔ bs_ff M f d i = 0 := by
  intro d
  induction d with
  | zero => intro i; rw [bs_ff]; decide
  | succ d ih =>
    intro i
    rw [bs_ff]
    split
    · exact ih _
    · exact bs_rf_le M _
/-- a number is a rod's place, or none's -/
theorem bs_place (h : bs_Inv M) {f : Nat} (hf : f < bs_n M) (x : Int32) : (x < 0 ∨ nI (bs_m M f) ≤ x) ∨ ∃ i, i < bs_m M f ∧ x = nI i := by
  have h1 := bs_m18 h hf
  rcases pk_ix x (n := bs_m M f) (by omega) with q | q | q
  · exact Or.inl (Or.inl q)
  · exact Or.inl (Or.inr q)
  · exact Or.inr q
theorem bs_op_digit (h : bs_Rel x0 s0 Y S M) (x y : Int32) : bs_OK x0 s0 Y (c_X5_digit S (Y 0 0) x y) (m_X6_digit M x y) := by
  unfold c_X5_digit m_X6_digit
  rcases bs_which h.1 x with hx | ⟨f, hf, rfl⟩
  · rw [bs_c_unknown h hx, bs_m_noF h.1 hx]
    exact bs_same h _
  · rw [bs_c_known h hf, bs_m_isF h.1 hf, bs_bnd, bs_bnd, bs_ocS, bs_gd (bs_k1 h hf), if_neg bs_10]
    unfold c_X1_readFault
    rcases bs_place h.1 hf y with hy | ⟨i, hi, rfl⟩
    · rw [bs_c_holdsN h hf hy, bs_m_agB h.1 hf hy, bs_bnd, bs_bnd, if_pos rfl, bs_bnd, if_neg bs_20, if_neg bs_2le]
      exact bs_flt h 2
    · rw [bs_c_holds h hf hi, bs_m_ag h.1 hf hi, bs_bnd, bs_bnd, if_neg bs_10, bs_c_rod h hf hi, bs_c_rod h hf hi, bs_c_rf h (bs_rV h.1 hf hi), bs_bnd, bs_bnd, bs_c_value h (bs_rV h.1 hf hi), bs_bnd, bs_m_rodOf h.1 hf hi, bs_bnd, bs_m_digit h.1 (bs_rV h.1 hf hi), bs_bnd]
      by_cases c : bs_rf M (bs_r M f i) = 0
      · rw [if_pos c, if_pos ((bs_rf_le _ _).mpr c)]
        exact bs_same h _
      · rw [if_neg c, if_neg (fun q => c ((bs_rf_le _ _).mp q))]
        exact bs_flt h _
theorem bs_op_shows (h : bs_Rel x0 s0 Y S M) (x : Int32) : bs_OK x0 s0 Y (c_X5_shows S (Y 0 0) x) (m_X6_shows M x) := by
  unfold c_X5_shows m_X6_shows
  rcases bs_which h.1 x with hx | ⟨f, hf, rfl⟩
  · rw [bs_c_unknown h hx, bs_m_noF h.1 hx]
    exact bs_same h _
  · obtain ⟨w, w1, w2⟩ := bs_m_sv h.1 hf
    rw [bs_c_known h hf, bs_m_isF h.1 hf, bs_bnd, bs_bnd, bs_ocS, bs_gd (bs_k1 h hf), if_neg (by decide), bs_c_ff h hf, bs_bnd, bs_c_sum h hf, bs_bnd, w1, bs_bnd2, bs_nF_eq]
    have h' : bs_Rel x0 s0 Y S (nSF M 16 (bs_ff M f (bs_m M f) 0)) := h
    by_cases c : bs_ff M f (bs_m M f) 0 = 0
    · rw [if_pos c, if_pos ((bs_ff_le _ _ _ _).mpr c), w2 c]
      exact bs_same h' _
    · rw [if_neg c, if_neg (fun q => c ((bs_ff_le _ _ _ _).mp q))]
      exact bs_lst h' _
theorem bs_op_proper (h : bs_Rel x0 s0 Y S M) (x : Int32) : bs_OKr (c_X5_proper S (Y 0 0) x) (m_X6_proper M x) := by
  unfold c_X5_proper m_X6_proper
  rcases bs_which h.1 x with hx | ⟨f, hf, rfl⟩
  · rw [bs_c_unknown h hx, bs_m_noF h.1 hx]
    exact ⟨_, rfl, rfl⟩
  · rw [bs_c_known h hf, bs_m_isF h.1 hf, bs_bnd, bs_bnd, bs_ocS, bs_gd (bs_k1 h hf), if_neg (by decide), bs_c_ap h hf, bs_bnd, bs_m_ap h.1 hf, bs_bnd]
    cases bs_ap M f (bs_m M f) 0 <;> exact ⟨_, rfl, rfl⟩
theorem bs_c_nfF (h : bs_Rel x0 s0 Y S M) {f i : Nat} (hf : f < bs_n M) (hi : i < bs_m M f) (w : Int32) : c_X1_numberFault S (Y 1 f) (nI i) w = some (bs_nf M (bs_r M f i) w) := by
  unfold c_X1_numberFault
  rw [bs_c_holds h hf hi, bs_bnd, if_neg (by decide), bs_c_rod h hf hi, bs_c_nf h (bs_rV h.1 hf hi), bs_bnd]
theorem bs_c_nfB (h : bs_Rel x0 s0 Y S M) {f : Nat} (hf : f < bs_n M) {y : Int32} (hy : y < 0 ∨ nI (bs_m M f) ≤ y) (w : Int32) : c_X1_numberFault S (Y 1 f) y w = some 2 := by
  unfold c_X1_numberFault
  rw [bs_c_holdsN h hf hy, bs_bnd, if_pos rfl]
theorem bs_m_ao (h : bs_Inv M) {f i : Nat} (hf : f < bs_n M) (hi : i < bs_m M f) (w : Int32) : m_X6_againstOne M (nI f) (nI i) w = some (bs_nf M (bs_r M f i) w) := by
  have h1 := bs_n30 h
  have h2 := bs_m18 h hf
  have h3 := bs_r540 h hf hi
  unfold m_X6_againstOne bs_nf
  rw [bs_gd (bs_inB (by omega) (by decide)), bs_cl (by omega), bs_mN h hf, bs_in_yes hi (by omega), bs_bnd, if_neg (by decide), bs_m_rodOf h hf hi, bs_bnd, bs_gd (bs_inB h3 (by decide)), bs_let, bs_cl (by omega)]
  split
  · split <;> rfl
  · rfl
theorem bs_m_aoB (h : bs_Inv M) {f : Nat} (hf : f < bs_n M) {y : Int32} (hy : y < 0 ∨ nI (bs_m M f) ≤ y) (w : Int32) : m_X6_againstOne M (nI f) y w = some 2 := by
  have h1 := bs_n30 h
  have h2 := bs_m18 h hf
  unfold m_X6_againstOne
  rw [bs_gd (bs_inB (by omega) (by decide)), bs_cl (by omega), bs_mN h hf, bs_in_no (by omega) hy, bs_bnd, if_pos rfl]
/-- 0, 1, or outside -/
theorem bs_01 (w : Int32) : (w < 0 ∨ ¬ w ≤ 1) ∨ w = 0 ∨ w = 1 := by
  rcases pk_ix w (n := 2) (by decide) with q | q | ⟨j, hj, rfl⟩
  · exact Or.inl (Or.inl q)
  · left; right
    intro q2
    rw [Int32.le_iff_toInt_le] at q q2
    have e1 : (nI 2).toInt = 2 := rfl
    have e2 : (1 : Int32).toInt = 1 := rfl
    omega
  · right
    have : j = 0 ∨ j = 1 := by omega
    rcases this with rfl | rfl
    · exact Or.inl rfl
    · exact Or.inr rfl
theorem bs_in01 {w : Int32} (hw : w < 0 ∨ ¬ w ≤ 1) : m_X6_in w.toInt64 0 1 = some 0 := by
  rw [bs_inS w 0 1 0 1 rfl rfl, if_neg]
  rw [Int32.lt_iff_toInt_lt, Int32.le_iff_toInt_le] at hw
  have e1 : (0 : Int32).toInt = 0 := rfl
  have e2 : (1 : Int32).toInt = 1 := rfl
  omega
theorem bs_op_beads (h : bs_Rel x0 s0 Y S M) (x y w : Int32) : bs_OK x0 s0 Y (c_X5_beads S (Y 0 0) x y w) (m_X6_beads M x y w) := by
  unfold c_X5_beads m_X6_beads
  rcases bs_which h.1 x with hx | ⟨f, hf, rfl⟩
  · rw [bs_c_unknown h hx, bs_m_noF h.1 hx]
    exact bs_same h _
  · rw [bs_c_known h hf, bs_m_isF h.1 hf, bs_bnd, bs_bnd, bs_ocS, bs_gd (bs_k1 h hf), if_neg bs_10]
    rcases bs_01 w with hw | hw
    · rw [bs_in01 hw, bs_bnd, if_pos rfl]
      by_cases c : w < 0
      · rw [if_pos c]
        exact bs_same h _
      · rw [if_neg c, if_neg (hw.resolve_left c)]
        exact bs_same h _
    · have e1 : ¬ w < 0 := by rcases hw with rfl | rfl <;> decide
      have e2 : w ≤ 1 := by rcases hw with rfl | rfl <;> decide
      have e3 : m_X6_in w.toInt64 0 1 = some 1 := by rcases hw with rfl | rfl <;> rfl
      rw [if_neg e1, if_pos e2, e3, bs_bnd, if_neg bs_10]
      rcases bs_place h.1 hf y with hy | ⟨i, hi, rfl⟩
      · rw [bs_c_nfB h hf hy, bs_m_aoB h.1 hf hy, bs_bnd, bs_bnd, if_neg bs_20, if_neg bs_2le]
        exact bs_flt h 2
      · have hv := bs_rV h.1 hf hi
        have h5 := bs_r540 h.1 hf hi
        rw [bs_c_nfF h hf hi, bs_m_ao h.1 hf hi, bs_bnd, bs_bnd]
        by_cases c : bs_nf M (bs_r M f i) w = 0
        · rw [if_pos c, if_pos ((bs_nf_le _ _ _).mpr c), bs_c_rod h hf hi, bs_m_rodOf h.1 hf hi, bs_bnd, bs_bnd, bs_gd (bs_inB h5 (by decide)), bs_gd (bs_inB h5 (by decide)), bs_cl (by omega)]
          unfold c_X4_number
          rw [bs_R5 h hv, bs_R6 h hv, (bs_lN h.1 h5).1, (bs_uN h.1 h5).1]
          rcases hw with rfl | rfl
          · rw [if_pos rfl, if_pos rfl]
            exact bs_same h _
          · rw [if_neg (by decide), if_neg (by decide)]
            exact bs_same h _
        · rw [if_neg c, if_neg (fun q => c ((bs_nf_le _ _ _).mp q))]
          exact bs_flt h _
end BsOpsA
