/-! one step, both sides -/
def bs_ph (M : MS) : Nat → Nat
  | 0 => 0
  | n + 1 => bs_ph M n + bs_dv M n
theorem bs_ph_up {M M2 : MS} {r : Nat} (h : ∀ q, q ≠ r → bs_dv M2 q = bs_dv M q) : ∀ n, bs_ph M2 n + (if r < n then bs_dv M r else 0) = bs_ph M n + (if r < n then bs_dv M2 r else 0) := by
  intro n
  induction n with
  | zero => rw [if_neg (Nat.not_lt_zero _), if_neg (Nat.not_lt_zero _)]; rfl
  | succ n ih =>
    rw [bs_ph, bs_ph]
    by_cases c : n = r
    · subst c
      rw [if_pos (Nat.lt_succ_self _), if_pos (Nat.lt_succ_self _)]
      rw [if_neg (Nat.lt_irrefl _), if_neg (Nat.lt_irrefl _)] at ih
      omega
    · rw [h n c]
      by_cases c2 : r < n
      · rw [if_pos (show r < n + 1 by omega), if_pos (show r < n + 1 by omega)]
        rw [if_pos c2, if_pos c2] at ih
        omega
      · rw [if_neg (show ¬ r < n + 1 by omega), if_neg (show ¬ r < n + 1 by omega)]
        rw [if_neg c2, if_neg c2] at ih
        omega
theorem bs_ph_le {M : MS} (h : bs_Inv M) : ∀ n, n ≤ 540 → bs_ph M n ≤ 15 * n := by
  intro n
  induction n with
  | zero => intro _; exact Nat.le_refl _
  | succ n ih =>
    intro hn
    have h1 := ih (by omega)
    have h2 := bs_dv_le h (r := n) (by omega)
    rw [bs_ph]
    omega
/-- within a method: the relation, no step stands, all can be taken back -/
def bs_W (x0 s0 : Nat) (Y : bs_Ly) (S : Mem) (M : MS) : Prop := bs_Rel x0 s0 Y S M ∧ nF M 22 = 0 ∧ ∃ hl hu, bs_Hist M (bs_s M) hl hu
/-- what a method's way leaves alone; digits stay below B -/
def bs_T (B : Nat) (Y : bs_Ly) (M : MS) (Y2 : bs_Ly) (M2 : MS) : Prop :=
  (∀ t i, t ≠ 5 → Y2 t i = Y t i) ∧ bs_like M M2 ∧ (nA M2 3 = nA M 3 ∧ nA M2 9 = nA M 9) ∧ ∀ r, bs_dv M r < B → bs_dv M2 r < B
/-- the parts are left alone -/
def bs_TP (Y : bs_Ly) (S : Mem) (M : MS) (S2 : Mem) (M2 : MS) : Prop :=
  (mI S2 (Y 4 0) = mI S (Y 4 0) ∧ mL S2 (Y 4 0) = mL S (Y 4 0)) ∧ nF M2 29 = nF M 29 ∧ nF M2 30 = nF M 30 ∧ nF M2 31 = nF M 31 ∧ nA M2 32 = nA M 32 ∧ nP M2 = nP M
theorem bs_T_refl (B : Nat) (Y : bs_Ly) (M : MS) : bs_T B Y M Y M := ⟨fun _ _ _ => rfl, ⟨rfl, rfl, rfl, rfl, rfl, rfl, rfl, rfl, rfl⟩, ⟨rfl, rfl⟩, fun _ q => q⟩
theorem bs_TP_refl (Y : bs_Ly) (S : Mem) (M : MS) : bs_TP Y S M S M := ⟨⟨rfl, rfl⟩, rfl, rfl, rfl, rfl, rfl⟩
theorem bs_like_tr {M M2 M3 : MS} (a : bs_like M M2) (b : bs_like M2 M3) : bs_like M M3 := by
  obtain ⟨a1, a2, a3, a4, a5, a6, a7, a8, a9⟩ := a
  obtain ⟨b1, b2, b3, b4, b5, b6, b7, b8, b9⟩ := b
  exact ⟨b1.trans a1, b2.trans a2, b3.trans a3, b4.trans a4, b5.trans a5, b6.trans a6, b7.trans a7, b8.trans a8, b9.trans a9⟩
theorem bs_T_tr {B : Nat} {Y Y2 Y3 : bs_Ly} {M M2 M3 : MS} (a : bs_T B Y M Y2 M2) (b : bs_T B Y2 M2 Y3 M3) : bs_T B Y M Y3 M3 := by
  obtain ⟨a1, a2, ⟨a3, a4⟩, a5⟩ := a
  obtain ⟨b1, b2, ⟨b3, b4⟩, b5⟩ := b
  exact ⟨fun t i q => (b1 t i q).trans (a1 t i q), bs_like_tr a2 b2, ⟨b3.trans a3, b4.trans a4⟩, fun r q => b5 r (a5 r q)⟩
theorem bs_TP_tr {Y Y2 : bs_Ly} {S S2 S3 : Mem} {M M2 M3 : MS} (a : bs_TP Y S M S2 M2) (e : Y2 4 0 = Y 4 0) (b : bs_TP Y2 S2 M2 S3 M3) : bs_TP Y S M S3 M3 := by
  obtain ⟨⟨a1, a2⟩, a3, a4, a5, a6, a7⟩ := a
  obtain ⟨⟨b1, b2⟩, b3, b4, b5, b6, b7⟩ := b
  rw [e] at b1 b2
  exact ⟨⟨b1.trans a1, b2.trans a2⟩, b3.trans a3, b4.trans a4, b5.trans a5, b6.trans a6, b7.trans a7⟩
/-- whose steps they may be -/
def bs_own (Y : bs_Ly) (M : MS) (f : Nat) : Prop := f < bs_n M ∧ nF M 18 = 1 ∧ (nF M 19 = nI f ∨ Y 12 0 = f + 1)
/-- the digits of a frame's rods that can be read are below its base -/
def bs_LT (M : MS) (f : Nat) : Prop := ∀ i, i < bs_m M f → bs_rf M (bs_r M f i) = 0 → bs_dv M (bs_r M f i) < bs_b M f
theorem bs_own_T {B : Nat} {Y Y2 : bs_Ly} {M M2 : MS} (t : bs_T B Y M Y2 M2) {f : Nat} (h : bs_own Y M f) : bs_own Y2 M2 f := by
  obtain ⟨a1, a2, -, -⟩ := t
  obtain ⟨h1, h2, h3⟩ := h
  refine ⟨by rw [bs_like_n a2]; exact h1, by rw [a2.2.2.2.2.2.2.2.1]; exact h2, ?_⟩
  rw [a2.2.2.2.2.2.2.2.2, a1 12 0 (by decide)]
  exact h3
theorem bs_T_m {B : Nat} {Y Y2 : bs_Ly} {M M2 : MS} (t : bs_T B Y M Y2 M2) : bs_m M2 = bs_m M := bs_like_m t.2.1
theorem bs_T_b {B : Nat} {Y Y2 : bs_Ly} {M M2 : MS} (t : bs_T B Y M Y2 M2) : bs_b M2 = bs_b M := by funext f; unfold bs_b; rw [t.2.2.1.1]
theorem bs_T_r {B : Nat} {Y Y2 : bs_Ly} {M M2 : MS} (t : bs_T B Y M Y2 M2) : bs_r M2 = bs_r M := bs_like_r t.2.1
theorem bs_T_rf {B : Nat} {Y Y2 : bs_Ly} {M M2 : MS} (t : bs_T B Y M Y2 M2) : bs_rf M2 = bs_rf M := by funext r; unfold bs_rf; rw [t.2.2.1.2, bs_like_k t.2.1]
theorem bs_T_n {B : Nat} {Y Y2 : bs_Ly} {M M2 : MS} (t : bs_T B Y M Y2 M2) : bs_n M2 = bs_n M := bs_like_n t.2.1
theorem bs_LT_T {B : Nat} {Y Y2 : bs_Ly} {M M2 : MS} (t : bs_T B Y M Y2 M2) {f : Nat} (hB : bs_b M f = B) (h : bs_LT M f) : bs_LT M2 f := by
  intro i hi hr
  rw [bs_T_m t] at hi
  rw [bs_T_r t, bs_T_rf t] at hr
  rw [bs_T_r t, bs_T_b t, hB]
  exact t.2.2.2 _ (hB ▸ h i hi hr)
theorem bs_T_ff {B : Nat} {Y Y2 : bs_Ly} {M M2 : MS} (t : bs_T B Y M Y2 M2) (f : Nat) : ∀ d i, bs_ff M2 f d i = bs_ff M f d i := by
  intro d
  induction d with
  | zero => intro i; rfl
  | succ d ih => intro i; rw [bs_ff, bs_ff, ih, bs_T_r t, bs_T_rf t]
theorem bs_neg1 (x : Int32) : (-1 : Int32) * x = -x := by rw [Int32.neg_mul, Int32.one_mul]
theorem bs_nle {x : Int32} : (0 : Int32) ≤ x ↔ ¬ x < 0 := by
  rw [Int32.le_iff_toInt_le, Int32.lt_iff_toInt_lt]
  omega
theorem bs_nlt {x : Int32} : x ≤ (0 : Int32) ↔ ¬ 0 < x := by
  rw [Int32.le_iff_toInt_le, Int32.lt_iff_toInt_lt]
  omega
theorem bs_reaJ (u l hd : Int32) : c_X3_reasonFor_J22 hd u l = if u < 0 then m_X6_reason_J17 u l hd 1 1 else if 0 ≤ l then m_X6_reason_J17 u l hd 1 0 else m_X6_reason_J17 u l hd 1 1 := by
  unfold c_X3_reasonFor_J22 m_X6_reason_J17 m_X6_reason_J36
  rw [Int32.one_mul, Int32.one_mul]
  by_cases c0 : hd = 0 <;> by_cases c1 : u < 0 <;> by_cases c2 : l < 0 <;> by_cases c3 : 0 < u <;> by_cases c4 : 0 < l <;> simp [c0, c1, c2, c3, c4, bs_nle, bs_nlt]
theorem bs_rea1 {a : Int32} (ha : 0 ≤ a) (u l hd : Int32) : c_X3_reasonFor a hd u l = m_X6_reason u l hd 1 := by
  unfold c_X3_reasonFor c_X3_reasonFor_J10 m_X6_reason
  rw [if_pos ha, if_pos ha, bs_reaJ, Int32.one_mul, Int32.one_mul]
theorem bs_J17 (u l hd k : Int32) : m_X6_reason_J17 u l hd (-1) k = m_X6_reason_J17 (-u) (-l) hd 1 k := by
  unfold m_X6_reason_J17
  rw [Int32.one_mul, Int32.one_mul, bs_neg1, bs_neg1]
theorem bs_rea2 {a : Int32} (ha : ¬ 0 ≤ a) (u l hd : Int32) : c_X3_reasonFor a hd u l = m_X6_reason u l hd (-1) := by
  unfold c_X3_reasonFor c_X3_reasonFor_J10 m_X6_reason
  rw [if_neg ha, if_neg ha, bs_reaJ, bs_neg1, bs_neg1, bs_J17, bs_J17]
theorem bs_ssub (a b : Int32) : a - (a - b) = b := by
  rw [Int32.sub_eq_add_neg a (a - b), Int32.neg_sub, Int32.sub_eq_add_neg, Int32.add_comm b, ← Int32.add_assoc, Int32.add_right_neg, Int32.zero_add]
section BsStep
variable {x0 s0 : Nat} {Y : bs_Ly} {S : Mem} {M : MS}
theorem bs_W_dv (M : MS) {r : Nat} (d : Nat) (w1 : 5 * bs_wu (bs_k M (r / 18)) d ≤ d) (hd : d < 16) : bs_dv (nSA (nSA M 11 r (nI (bs_wu (bs_k M (r / 18)) d))) 10 r (nI (d - 5 * bs_wu (bs_k M (r / 18)) d))) r = d ∧ ∀ q, q ≠ r → bs_dv (nSA (nSA M 11 r (nI (bs_wu (bs_k M (r / 18)) d))) 10 r (nI (d - 5 * bs_wu (bs_k M (r / 18)) d))) q = bs_dv M q := by
  constructor
  · unfold bs_dv bs_l bs_u
    rw [bs_nA, if_pos ⟨rfl, rfl⟩, bs_nA, if_neg (fun q => absurd q.1 (by decide)), bs_nA, if_pos ⟨rfl, rfl⟩, bs_cl (by omega), bs_cl (by omega)]
    omega
  · intro q hq
    unfold bs_dv bs_l bs_u
    rw [bs_nA, if_neg (fun e => hq e.2), bs_nA, if_neg (fun e => hq e.2), bs_nA, if_neg (fun e => hq e.2), bs_nA, if_neg (fun e => hq e.2)]
theorem bs_g5 (h : bs_Rel x0 s0 Y S M) {n : Nat} (hn : n < mLn S (Y 5 0)) : inB (nI n) (mLn S (Y 5 0)) = true := by
  obtain ⟨c9, c91, -, c92⟩ := h.2.1.2.2.2.2.2.2.1
  exact bs_inB hn (by omega)
/-- the row's seven numbers, the count: both sides -/
theorem bs_row (h : bs_Rel x0 s0 Y S M) (h22 : nF M 22 = 0) (hs : bs_s M + 1 < 5000) (hl : 7 * bs_s M + 7 ≤ mLn S (Y 5 0)) {f i r : Nat} (hf : bs_own Y M f) (hi : i < bs_m M f) (hr : bs_rv M r) (A sg D H u0 l0 re : Int32) (hA : A = sg * D)
    (hre : c_X3_reasonFor A H (nA M 11 r - u0) (nA M 10 r - l0) = some re) (hre2 : m_X6_reason (nA M 11 r - u0) (nA M 10 r - l0) H sg = some re) :
    ∃ S' M', c_X3_oneStep_J123 S (Y 3 0) (some (Y 1 f)) (nI i) A (some (Y 2 r)) u0 l0 H (nI (7 * bs_s M)) = some (H, S') ∧ bs_Rel x0 s0 Y S' M' ∧ bs_s M' = bs_s M + 1 ∧
      M' = nSF (nSA (nSA (nSA (nSA (nSA (nSA (nSA M 28 (7 * bs_s M) (nI f)) 28 (7 * bs_s M + 1) (nI i)) 28 (7 * bs_s M + 2) (nA M 11 r - u0)) 28 (7 * bs_s M + 3) (nA M 10 r - l0)) 28 (7 * bs_s M + 4) re) 28 (7 * bs_s M + 5) H) 28 (7 * bs_s M + 6) A) 21 (nI (bs_s M + 1)) ∧
      mI S' (Y 4 0) = mI S (Y 4 0) ∧ mL S' (Y 4 0) = mL S (Y 4 0) := by
  have h5 := bs_rv540 h.1 hr
  obtain ⟨c9, c91, -, c92⟩ := h.2.1.2.2.2.2.2.2.1
  have a1 := bs_rowC h (j := 7 * bs_s M) (Nat.le_refl _) (nI f)
  have a2 := bs_rowC a1 (j := 7 * bs_s M + 1) (by omega) (nI i)
  have a3 := bs_rowC a2 (j := 7 * bs_s M + 2) (by omega) (nA M 11 r - u0)
  have a4 := bs_rowC a3 (j := 7 * bs_s M + 3) (by omega) (nA M 10 r - l0)
  have a5 := bs_rowC a4 (j := 7 * bs_s M + 4) (by omega) re
  have a6 := bs_rowC a5 (j := 7 * bs_s M + 5) (by omega) H
  have a7 := bs_rowC a6 (j := 7 * bs_s M + 6) (by omega) A
  have b1 := bs_rowM a7 (j := 7 * bs_s M) (Nat.le_refl _) (nI f)
  have b2 := bs_rowM b1 (j := 7 * bs_s M + 1) (by show 7 * bs_s M ≤ _; omega) (nI i)
  have b3 := bs_rowM b2 (j := 7 * bs_s M + 2) (by show 7 * bs_s M ≤ _; omega) (nA M 11 r - u0)
  have b4 := bs_rowM b3 (j := 7 * bs_s M + 3) (by show 7 * bs_s M ≤ _; omega) (nA M 10 r - l0)
  have b5 := bs_rowM b4 (j := 7 * bs_s M + 4) (by show 7 * bs_s M ≤ _; omega) re
  have b6 := bs_rowM b5 (j := 7 * bs_s M + 5) (by show 7 * bs_s M ≤ _; omega) H
  have b7 := bs_rowM b6 (j := 7 * bs_s M + 6) (by show 7 * bs_s M ≤ _; omega) A
  have ne4 : Y 4 0 ≠ Y 5 0 := bs_ne h (t := 4) (i := 0) (t2 := 5) (i2 := 0) rfl rfl (Or.inl (by decide))
  have ne43 : Y 4 0 ≠ Y 3 0 := bs_ne h (t := 4) (i := 0) (t2 := 3) (i2 := 0) rfl rfl (Or.inl (by decide))
  have hm := bs_more b7 (show bs_s M + 1 < 5000 from hs) (show 7 * bs_s M + 7 ≤ mLn S (Y 5 0) from hl) (by
    intro j j1 j2
    have j1 : 7 * bs_s M ≤ j := j1
    have j2 : j < 7 * bs_s M + 7 := j2
    simp only [bs_mI, bs_nA, true_and]
    by_cases q6 : j = 7 * bs_s M + 6
    · rw [if_pos q6, if_pos q6]
    rw [if_neg q6, if_neg q6]
    by_cases q5 : j = 7 * bs_s M + 5
    · rw [if_pos q5, if_pos q5]
    rw [if_neg q5, if_neg q5]
    by_cases q4 : j = 7 * bs_s M + 4
    · rw [if_pos q4, if_pos q4]
    rw [if_neg q4, if_neg q4]
    by_cases q3 : j = 7 * bs_s M + 3
    · rw [if_pos q3, if_pos q3]
    rw [if_neg q3, if_neg q3]
    by_cases q2 : j = 7 * bs_s M + 2
    · rw [if_pos q2, if_pos q2]
    rw [if_neg q2, if_neg q2]
    by_cases q1 : j = 7 * bs_s M + 1
    · rw [if_pos q1, if_pos q1]
    rw [if_neg q1, if_neg q1, if_pos (by omega), if_pos (by omega)]) f i (by
    show nA (nSA (nSA (nSA (nSA (nSA (nSA (nSA M 28 (7 * bs_s M) (nI f)) 28 (7 * bs_s M + 1) (nI i)) 28 (7 * bs_s M + 2) (nA M 11 r - u0)) 28 (7 * bs_s M + 3) (nA M 10 r - l0)) 28 (7 * bs_s M + 4) re) 28 (7 * bs_s M + 5) H) 28 (7 * bs_s M + 6) A) 28 (7 * bs_s M) = nI f
    simp only [bs_nA, true_and]
    rw [if_neg (by omega), if_neg (by omega), if_neg (by omega), if_neg (by omega), if_neg (by omega), if_neg (by omega), if_pos trivial]) (by
    show nA (nSA (nSA (nSA (nSA (nSA (nSA (nSA M 28 (7 * bs_s M) (nI f)) 28 (7 * bs_s M + 1) (nI i)) 28 (7 * bs_s M + 2) (nA M 11 r - u0)) 28 (7 * bs_s M + 3) (nA M 10 r - l0)) 28 (7 * bs_s M + 4) re) 28 (7 * bs_s M + 5) H) 28 (7 * bs_s M + 6) A) 28 (7 * bs_s M + 1) = nI i
    simp only [bs_nA, true_and]
    rw [if_neg (by omega), if_neg (by omega), if_neg (by omega), if_neg (by omega), if_neg (by omega), if_pos trivial]) hf.1 hi hf.2.1 hf.2.2 h22
  refine ⟨_, _, ?_, hm, ?_, rfl, ?_, rfl⟩
  · unfold c_X3_oneStep_J123
    have r1 := bs_q a1 3 0 1 rfl rfl
    have r2 := bs_q a2 3 0 1 rfl rfl
    have r3 := bs_q a3 3 0 1 rfl rfl
    have r4 := bs_q a4 3 0 1 rfl rfl
    have r5 := bs_q a5 3 0 1 rfl rfl
    have r6 := bs_q a6 3 0 1 rfl rfl
    have u2 : mI (mSI (mSI S (Y 5 0) (7 * bs_s M) (nI f)) (Y 5 0) (7 * bs_s M + 1) (nI i)) (Y 2 r) 6 = nA M 11 r := bs_i a2 2 r 6 hr rfl
    have l3 : mI (mSI (mSI (mSI S (Y 5 0) (7 * bs_s M) (nI f)) (Y 5 0) (7 * bs_s M + 1) (nI i)) (Y 5 0) (7 * bs_s M + 2) (nA M 11 r - u0)) (Y 2 r) 5 = nA M 10 r := bs_i a3 2 r 5 hr rfl
    have u4 := bs_i a4 2 r 6 hr rfl
    have l4 := bs_i a4 2 r 5 hr rfl
    have c7 : mI (mSI (mSI (mSI (mSI (mSI (mSI (mSI S (Y 5 0) (7 * bs_s M) (nI f)) (Y 5 0) (7 * bs_s M + 1) (nI i)) (Y 5 0) (7 * bs_s M + 2) (nA M 11 r - u0)) (Y 5 0) (7 * bs_s M + 3) (nA M 10 r - l0)) (Y 5 0) (7 * bs_s M + 4) re) (Y 5 0) (7 * bs_s M + 5) H) (Y 5 0) (7 * bs_s M + 6) A) (Y 3 0) 2 = nI (bs_s M) := (bs_i a7 3 0 2 rfl rfl).trans (bs_sN h.1)
    rw [bs_o1 h hf.1, bs_bnd, bs_let, bs_f0 h hf.1, bs_q h 3 0 1 rfl rfl, bs_o5 h, bs_bnd, bs_gd (bs_inB (by omega) (by omega)), bs_let, bs_cl (by omega)]
    rw [bs_lit 1, nI_add, r1, bs_o5 a1, bs_bnd, bs_gd (bs_g5 a1 (n := 7 * bs_s M + 1) (show _ < mLn S (Y 5 0) by omega)), bs_let, bs_cl (by omega)]
    rw [bs_o2 a2 hr, bs_bnd, bs_let, u2, bs_lit 2, nI_add, r2, bs_o5 a2, bs_bnd, bs_gd (bs_g5 a2 (n := 7 * bs_s M + 2) (show _ < mLn S (Y 5 0) by omega)), bs_let, bs_cl (by omega)]
    rw [bs_let, l3, bs_lit 3, nI_add, r3, bs_o5 a3, bs_bnd, bs_gd (bs_g5 a3 (n := 7 * bs_s M + 3) (show _ < mLn S (Y 5 0) by omega)), bs_let, bs_cl (by omega)]
    rw [u4, l4, hre, bs_bnd, bs_lit 4, nI_add, r4, bs_o5 a4, bs_bnd, bs_gd (bs_g5 a4 (n := 7 * bs_s M + 4) (show _ < mLn S (Y 5 0) by omega)), bs_let, bs_cl (by omega)]
    rw [bs_lit 5, nI_add, r5, bs_o5 a5, bs_bnd, bs_gd (bs_g5 a5 (n := 7 * bs_s M + 5) (show _ < mLn S (Y 5 0) by omega)), bs_let, bs_cl (by omega)]
    rw [bs_lit 6, nI_add, r6, bs_o5 a6, bs_bnd, bs_gd (bs_g5 a6 (n := 7 * bs_s M + 6) (show _ < mLn S (Y 5 0) by omega)), bs_let, bs_cl (by omega)]
    rw [bs_let, bs_let, c7, nI_add]
    rfl
  · show (nF (nSF _ 21 (nI (bs_s M + 1))) 21).toNatClampNeg = _
    rw [bs_nF_eq, bs_cl (by omega)]
  · rw [bs_mI_ne ne43, bs_mI_ne ne4, bs_mI_ne ne4, bs_mI_ne ne4, bs_mI_ne ne4, bs_mI_ne ne4, bs_mI_ne ne4, bs_mI_ne ne4]
end BsStep
