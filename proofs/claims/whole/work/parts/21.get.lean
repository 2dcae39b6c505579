/-! getting at the two states -/
theorem bs_two (x : Int32) : (Int32.toInt64 x).toInt = x.toInt := Int32.toInt_toInt64 x
theorem bs_in_yes {k n : Nat} (h : k < n) (hn : n < 2 ^ 30) : m_X6_in (nI k).toInt64 0 (nI n - 1).toInt64 = some 1 := by
  unfold m_X6_in
  rw [if_neg, if_neg]
  · rw [Int64.lt_iff_toInt_lt, bs_two, bs_two, show (1 : Int32) = nI 1 from rfl, pk_sub_toInt hn (by decide), nI_toInt (by omega)]
    omega
  · rw [Int64.lt_iff_toInt_lt, bs_two, nI_toInt (by omega)]
    show ¬ (k : Int) < 0
    omega
theorem bs_in_no {x : Int32} {n : Nat} (hn : n < 2 ^ 30) (h : x < 0 ∨ nI n ≤ x) : m_X6_in x.toInt64 0 (nI n - 1).toInt64 = some 0 := by
  unfold m_X6_in
  by_cases c : x.toInt64 < 0
  · rw [if_pos c]
  · rw [if_neg c, if_pos]
    rw [Int64.lt_iff_toInt_lt, bs_two, bs_two, show (1 : Int32) = nI 1 from rfl, pk_sub_toInt hn (by decide)]
    rcases h with h | h
    · exfalso
      apply c
      rw [Int64.lt_iff_toInt_lt, bs_two]
      rw [Int32.lt_iff_toInt_lt] at h
      exact h
    · rw [Int32.le_iff_toInt_le, nI_toInt (by omega)] at h
      omega
/-- a small span: in it, or not -/
theorem bs_inS (x : Int32) (a b : Int) (A B : Int64) (hA : A.toInt = a) (hB : B.toInt = b) : m_X6_in x.toInt64 A B = some (if a ≤ x.toInt ∧ x.toInt ≤ b then 1 else 0) := by
  unfold m_X6_in
  by_cases c : x.toInt64 < A
  · rw [if_pos c, if_neg]
    rw [Int64.lt_iff_toInt_lt, bs_two, hA] at c
    omega
  · rw [if_neg c]
    rw [Int64.lt_iff_toInt_lt, bs_two, hA] at c
    by_cases c2 : B < x.toInt64
    · rw [if_pos c2, if_neg]
      rw [Int64.lt_iff_toInt_lt, bs_two, hB] at c2
      omega
    · rw [if_neg c2, if_pos]
      rw [Int64.lt_iff_toInt_lt, bs_two, hB] at c2
      omega
section BsGet
variable {x0 s0 : Nat} {Y : bs_Ly} {S : Mem} {M : MS}
theorem bs_i (h : bs_Rel x0 s0 Y S M) (t i k : Nat) {v : Int32} (hv : bs_val M t i) (hw : bs_w M t i k = some v) : mI S (Y t i) k = v := h.2.2.1 t i k v hv hw
theorem bs_q (h : bs_Rel x0 s0 Y S M) (t i k : Nat) {v : Option Nat} (hv : bs_val M t i) (hw : bs_wr Y M t i k = some v) : mR S (Y t i) k = v := h.2.2.2.1 t i k v hv hw
theorem bs_kk (h : bs_Rel x0 s0 Y S M) (t i : Nat) (hv : bs_val M t i) : mKd S (Y t i) = bs_kd t := h.2.1.1 t i hv
theorem bs_nN (h : bs_Inv M) : nF M 0 = nI (bs_n M) := h.1.1
theorem bs_n30 (h : bs_Inv M) : bs_n M ≤ 30 := h.1.2
theorem bs_fr (h : bs_Inv M) {f : Nat} (hf : f < bs_n M) : bs_Fr M f := h.2.2.2.2.1 f hf
theorem bs_rods (h : bs_Inv M) : ∀ r, r < 540 → bs_rg (bs_k M (r / 18)) (nA M 9 r) (nA M 10 r) (nA M 11 r) := fun r hr => (h.2.2.2.2.2.1 r hr).1
theorem bs_zeros (h : bs_Inv M) {r : Nat} (hr : r < 540) (hn : bs_n M ≤ r / 18) : nA M 9 r = 0 ∧ nA M 10 r = 0 ∧ nA M 11 r = 0 := (h.2.2.2.2.2.1 r hr).2 hn
theorem bs_kN (h : bs_Inv M) {f : Nat} (hf : f < bs_n M) : nA M 1 f = nI (bs_k M f) := (bs_fr h hf).1.1
theorem bs_k4 (h : bs_Inv M) {f : Nat} (hf : f < bs_n M) : bs_k M f ≤ 4 := (bs_fr h hf).1.2
theorem bs_mN (h : bs_Inv M) {f : Nat} (hf : f < bs_n M) : nA M 2 f = nI (bs_m M f) := (bs_fr h hf).2.1.1
theorem bs_m18 (h : bs_Inv M) {f : Nat} (hf : f < bs_n M) : bs_m M f ≤ 18 := (bs_fr h hf).2.1.2
theorem bs_bN (h : bs_Inv M) {f : Nat} (hf : f < bs_n M) : nA M 3 f = nI (bs_b M f) := (bs_fr h hf).2.2.1.1
theorem bs_bb (h : bs_Inv M) {f : Nat} (hf : f < bs_n M) : bs_b M f = 10 ∨ bs_b M f = 16 := by
  rcases (bs_fr h hf).2.2.1.2 with q | q
  · exact Or.inl q
  · exact Or.inr q.1
theorem bs_rN (h : bs_Inv M) {f i : Nat} (hf : f < bs_n M) (hi : i < bs_m M f) : nA M 8 (18 * f + i) = nI (bs_r M f i) := ((bs_fr h hf).2.2.2.2.2.2 i hi).1
theorem bs_rV (h : bs_Inv M) {f i : Nat} (hf : f < bs_n M) (hi : i < bs_m M f) : bs_rv M (bs_r M f i) := ((bs_fr h hf).2.2.2.2.2.2 i hi).2.1
theorem bs_rv540 (h : bs_Inv M) {r : Nat} (hr : bs_rv M r) : r < 540 := by
  have h1 := hr.1
  have h2 := bs_n30 h
  omega
theorem bs_r540 (h : bs_Inv M) {f i : Nat} (hf : f < bs_n M) (hi : i < bs_m M f) : bs_r M f i < 540 := bs_rv540 h (bs_rV h hf hi)
/-- a number is a frame's, or none's -/
theorem bs_which (h : bs_Inv M) (x : Int32) : (x < 0 ∨ nF M 0 ≤ x) ∨ ∃ f, f < bs_n M ∧ x = nI f := by
  have h1 := bs_n30 h
  rw [bs_nN h]
  rcases pk_ix x (n := bs_n M) (by omega) with q | q | q
  · exact Or.inl (Or.inl q)
  · exact Or.inl (Or.inr q)
  · exact Or.inr q
theorem bs_m_isF (h : bs_Inv M) {f : Nat} (hf : f < bs_n M) : m_X6_isFrame M (nI f) = some 1 := by
  have h1 := bs_n30 h
  unfold m_X6_isFrame
  rw [bs_nN h, bs_in_yes hf (by omega)]
  rfl
theorem bs_m_noF (h : bs_Inv M) {x : Int32} (hx : x < 0 ∨ nF M 0 ≤ x) : m_X6_isFrame M x = some 0 := by
  have h1 := bs_n30 h
  unfold m_X6_isFrame
  rw [bs_nN h] at hx ⊢
  rw [bs_in_no (by omega) hx]
  rfl
theorem bs_o1 (h : bs_Rel x0 s0 Y S M) {f : Nat} (hf : f < bs_n M) : ob S (some (Y 1 f)) 2 = some (Y 1 f) := bs_ob (bs_kk h 1 f hf)
theorem bs_o2 (h : bs_Rel x0 s0 Y S M) {r : Nat} (hr : bs_rv M r) : ob S (some (Y 2 r)) 5 = some (Y 2 r) := bs_ob (bs_kk h 2 r hr)
theorem bs_o3 (h : bs_Rel x0 s0 Y S M) : ob S (some (Y 3 0)) 4 = some (Y 3 0) := bs_ob (bs_kk h 3 0 rfl)
theorem bs_o4 (h : bs_Rel x0 s0 Y S M) : ob S (some (Y 4 0)) 3 = some (Y 4 0) := bs_ob (bs_kk h 4 0 rfl)
theorem bs_o5 (h : bs_Rel x0 s0 Y S M) : ob S (some (Y 5 0)) 8 = some (Y 5 0) := bs_ob (bs_kk h 5 0 rfl)
theorem bs_o6 (h : bs_Rel x0 s0 Y S M) : ob S (some (Y 6 0)) 8 = some (Y 6 0) := bs_ob (bs_kk h 6 0 rfl)
theorem bs_o7 (h : bs_Rel x0 s0 Y S M) {e : Nat} (he : e < bs_e M) : ob S (some (Y 7 e)) 1 = some (Y 7 e) := bs_ob (bs_kk h 7 e he)
theorem bs_o8 (h : bs_Rel x0 s0 Y S M) {e : Nat} (he : e < bs_e M) : ob S (some (Y 8 e)) 8 = some (Y 8 e) := bs_ob (bs_kk h 8 e he)
theorem bs_o9 (h : bs_Rel x0 s0 Y S M) : ob S (some (Y 9 0)) 11 = some (Y 9 0) := bs_ob (bs_kk h 9 0 rfl)
theorem bs_o10 (h : bs_Rel x0 s0 Y S M) : ob S (some (Y 10 0)) 13 = some (Y 10 0) := bs_ob (bs_kk h 10 0 rfl)
theorem bs_o11 (h : bs_Rel x0 s0 Y S M) {f : Nat} (hf : f < bs_n M) : ob S (some (Y 11 f)) 12 = some (Y 11 f) := bs_ob (bs_kk h 11 f hf)
theorem bs_k1 (h : bs_Rel x0 s0 Y S M) {f : Nat} (hf : f < bs_n M) : kb S (Y 1 f) 2 = true := bs_kb (bs_kk h 1 f hf)
theorem bs_l11 (h : bs_Rel x0 s0 Y S M) {f : Nat} (hf : f < bs_n M) : mLn S (Y 11 f) = bs_m M f := h.2.1.2.2.2.2.1 f hf
/-- a frame's fields -/
theorem bs_f0 (h : bs_Rel x0 s0 Y S M) {f : Nat} (hf : f < bs_n M) : mI S (Y 1 f) 0 = nI f := bs_i h 1 f 0 hf rfl
theorem bs_f1 (h : bs_Rel x0 s0 Y S M) {f : Nat} (hf : f < bs_n M) : mI S (Y 1 f) 1 = nI (bs_k M f) := (bs_i h 1 f 1 hf rfl).trans (bs_kN h.1 hf)
theorem bs_f2 (h : bs_Rel x0 s0 Y S M) {f : Nat} (hf : f < bs_n M) : mI S (Y 1 f) 2 = nI (bs_b M f) := (bs_i h 1 f 2 hf rfl).trans (bs_bN h.1 hf)
theorem bs_f3 (h : bs_Rel x0 s0 Y S M) {f : Nat} (hf : f < bs_n M) : mI S (Y 1 f) 3 = nI (bs_d M f) := (bs_i h 1 f 3 hf rfl).trans (bs_fr h.1 hf).2.2.2.1.1
theorem bs_f4 (h : bs_Rel x0 s0 Y S M) {f : Nat} (hf : f < bs_n M) : mI S (Y 1 f) 4 = nA M 7 f := bs_i h 1 f 4 hf rfl
theorem bs_f5 (h : bs_Rel x0 s0 Y S M) {f : Nat} (hf : f < bs_n M) : mR S (Y 1 f) 5 = some (Y 11 f) := bs_q h 1 f 5 hf rfl
theorem bs_rr (h : bs_Rel x0 s0 Y S M) {f i : Nat} (hf : f < bs_n M) (hi : i < bs_m M f) : mR S (Y 11 f) i = some (Y 2 (bs_r M f i)) := bs_q h 11 f i hf (if_pos hi)
theorem bs_c_known (h : bs_Rel x0 s0 Y S M) {f : Nat} (hf : f < bs_n M) : c_X5_known S (Y 0 0) (nI f) = some (some (Y 1 f)) := by
  have h1 := bs_n30 h.1
  unfold c_X5_known
  rw [bs_i h 0 0 1 rfl rfl, bs_q h 0 0 0 rfl rfl, bs_nN h.1, if_neg (nI_pos (by omega)), if_pos (nI_lt hf (by omega)), bs_o9 h, bs_bnd, h.2.1.2.2.1, bs_gd (bs_inB (by omega) (by decide)), bs_cl (by omega), bs_q h 9 0 f rfl (if_pos hf)]
theorem bs_c_unknown (h : bs_Rel x0 s0 Y S M) {x : Int32} (hx : x < 0 ∨ nF M 0 ≤ x) : c_X5_known S (Y 0 0) x = some none := by
  unfold c_X5_known
  rw [bs_i h 0 0 1 rfl rfl]
  by_cases c : x < 0
  · rw [if_pos c]
  · rw [if_neg c, if_neg]
    rcases hx with q | q
    · exact absurd q c
    · rw [Int32.lt_iff_toInt_lt]
      rw [Int32.le_iff_toInt_le] at q
      omega
end BsGet
