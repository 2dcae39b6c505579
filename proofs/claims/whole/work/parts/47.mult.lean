/-! TIMES, within a method -/
theorem bs_nP (M : MS) (j : Nat) (v : Int64) (k : Nat) : nP (nSP M j v) k = if k = j then v else nP M k := rfl
/-- the parts' table: rows above i are told, and of row i the columns from J on -/
def bs_Tb (Y : bs_Ly) (S : Mem) (M : MS) (b x v i J : Nat) : Prop :=
  nF M 29 = 1 ∧ (mI S (Y 4 0) 0 = nI b ∧ mL S (Y 4 0) 1 = lN x ∧ mL S (Y 4 0) 2 = lN v) ∧ nF M 30 = nI (bs_dg b 64 x) ∧ nF M 31 = nI (bs_dg b 64 v) ∧ (∀ i, i < bs_dg b 64 x → nA M 32 i = if bs_dig b x i = 0 then 0 else 1) ∧
    ∀ p q, p < bs_dg b 64 x → q < bs_dg b 64 v → bs_dig b x p ≠ 0 → nP M (20 * p + q) = if i < p ∨ (p = i ∧ J ≤ q) then lN (bs_dig b x p * bs_dig b v q) else 0
theorem bs_Tb_TP {Y Y2 : bs_Ly} {S S2 : Mem} {M M2 : MS} {b x v i J : Nat} (h : bs_Tb Y S M b x v i J) (t : bs_TP Y S M S2 M2) (e : Y2 4 0 = Y 4 0) : bs_Tb Y2 S2 M2 b x v i J := by
  obtain ⟨⟨a1, a2⟩, a3, a4, a5, a6, a7⟩ := t
  unfold bs_Tb at h ⊢
  rw [e, a1, a2, a3, a4, a5, a6, a7]
  exact h
theorem bs_Tb_row {Y : bs_Ly} {S : Mem} {M : MS} {b x v i : Nat} (h : bs_Tb Y S M b x v (i + 1) 0) : bs_Tb Y S M b x v i (bs_dg b 64 v) := by
  obtain ⟨h1, h2, h3, h4, h5, h6⟩ := h
  refine ⟨h1, h2, h3, h4, h5, ?_⟩
  intro p q hp hq hd
  rw [h6 p q hp hq hd]
  by_cases c : i < p
  · rw [if_pos (by omega), if_pos (Or.inl c)]
  · rw [if_neg (by omega), if_neg (by omega)]
theorem bs_Tb_skip {Y : bs_Ly} {S : Mem} {M : MS} {b x v i J : Nat} (h : bs_Tb Y S M b x v i J) (hd0 : bs_dig b x i = 0) : bs_Tb Y S M b x v i 0 := by
  obtain ⟨h1, h2, h3, h4, h5, h6⟩ := h
  refine ⟨h1, h2, h3, h4, h5, ?_⟩
  intro p q hp hq hd
  rw [h6 p q hp hq hd]
  by_cases c : p = i
  · rw [c] at hd
    exact absurd hd0 hd
  · by_cases c2 : i < p
    · rw [if_pos (Or.inl c2), if_pos (Or.inl c2)]
    · rw [if_neg (by omega), if_neg (by omega)]
theorem bs_ph_P (M : MS) (j : Nat) (v : Int64) : ∀ n, bs_ph (nSP M j v) n = bs_ph M n := by
  intro n
  induction n with
  | zero => rfl
  | succ n ih => rw [bs_ph, bs_ph, ih]; rfl
section BsMult
variable {x0 s0 : Nat}
theorem bs_R_0 {Y : bs_Ly} {S : Mem} {M : MS} (h : bs_Rel x0 s0 Y S M) : bs_Rel0 x0 s0 Y S M := ⟨h.1, h.2.1, h.2.2.1, h.2.2.2.1, h.2.2.2.2.2.1, h.2.2.2.2.2.2.1, h.2.2.2.2.2.2.2.1, h.2.2.2.2.2.2.2.2⟩
theorem bs_0_R {Y : bs_Ly} {S : Mem} {M : MS} (h : bs_Rel0 x0 s0 Y S M) (hP : bs_Prt Y S M) : bs_Rel x0 s0 Y S M := ⟨h.1, h.2.1, h.2.2.1, h.2.2.2.1, hP, h.2.2.2.2.1, h.2.2.2.2.2.1, h.2.2.2.2.2.2.1, h.2.2.2.2.2.2.2⟩
/-- the parts' object is its own -/
theorem bs_R0S {Y : bs_Ly} {S S2 : Mem} {M : MS} (h : bs_Rel0 x0 s0 Y S M) (e : mSame S S2 (Y 4 0)) : bs_Rel0 x0 s0 Y S2 M := by
  obtain ⟨hI, ⟨q1, q2, q3⟩, hi, hr, hE, hO, hm, hH⟩ := h
  obtain ⟨e1, e2, e3, e4, e5, e6⟩ := e
  have ne : ∀ t i, bs_val M t i → t ≠ 4 → Y t i ≠ Y 4 0 := fun t i hv ht q => ht (q2 t i 4 0 hv rfl q).1
  refine ⟨hI, ⟨by rw [e4]; exact q1, q2, by rw [e5, e1]; exact q3⟩, ?_, ?_, ?_, hO, ?_, hH⟩
  · intro t i k v hv hw
    by_cases c : t = 4
    · subst c
      exact absurd hw (by intro q; cases q)
    · rw [(e6 _ (ne t i hv c)).1]
      exact hi t i k v hv hw
  · intro t i k v hv hw
    by_cases c : t = 4
    · subst c
      exact absurd hw (by intro q; cases q)
    · rw [(e6 _ (ne t i hv c)).2.2]
      exact hr t i k v hv hw
  · intro e he
    rw [(e6 _ (ne 7 e he (by decide))).1]
    exact hE e he
  · unfold bs_Room at hm ⊢
    rw [e2, e3, e5]
    exact hm
theorem bs_mSame_tr {S S2 S3 : Mem} {a : Nat} (h : mSame S S2 a) (k : mSame S2 S3 a) : mSame S S3 a := by
  obtain ⟨a1, a2, a3, a4, a5, a6⟩ := h
  obtain ⟨b1, b2, b3, b4, b5, b6⟩ := k
  refine ⟨b1.trans a1, b2.trans a2, b3.trans a3, b4.trans a4, b5.trans a5, fun b hb => ?_⟩
  exact ⟨(b6 b hb).1.trans (a6 b hb).1, (b6 b hb).2.1.trans (a6 b hb).2.1, (b6 b hb).2.2.trans (a6 b hb).2.2⟩
/-- come to a part: both sides -/
theorem bs_come {Y : bs_Ly} {S : Mem} {M : MS} {b x v i j : Nat} (hb : b = 10 ∨ b = 16) (hx : x < 2 ^ 63) (hv : v < 2 ^ 63) (hW : bs_W x0 s0 Y S M) (hT : bs_Tb Y S M b x v i (j + 1)) (hi : i < bs_dg b 64 x) (hj : j < bs_dg b 64 v) :
    bs_W x0 s0 Y (mSI (mSI S (Y 4 0) 3 (nI i)) (Y 4 0) 4 (nI j)) (nSP M (20 * i + j) (lN (bs_dig b x i * bs_dig b v j))) ∧ bs_Tb Y (mSI (mSI S (Y 4 0) 3 (nI i)) (Y 4 0) 4 (nI j)) (nSP M (20 * i + j) (lN (bs_dig b x i * bs_dig b v j))) b x v i j := by
  obtain ⟨h, h22, hh⟩ := hW
  have dx := bs_dg19 (b := b) (by omega) hx
  have dv := bs_dg19 (b := b) (by omega) hv
  have T2 : bs_Tb Y (mSI (mSI S (Y 4 0) 3 (nI i)) (Y 4 0) 4 (nI j)) (nSP M (20 * i + j) (lN (bs_dig b x i * bs_dig b v j))) b x v i j := by
    obtain ⟨h1, ⟨h2, h2b, h2c⟩, h3, h4, h5, h6⟩ := hT
    refine ⟨h1, ⟨?_, h2b, h2c⟩, h3, h4, h5, ?_⟩
    · rw [bs_mI, if_neg (fun q => absurd q.2 (by decide)), bs_mI, if_neg (fun q => absurd q.2 (by decide))]
      exact h2
    · intro p q hp hq hd
      rw [bs_nP]
      by_cases c : 20 * p + q = 20 * i + j
      · have : p = i ∧ q = j := by omega
        obtain ⟨rfl, rfl⟩ := this
        rw [if_pos rfl, if_pos (Or.inr ⟨rfl, Nat.le_refl _⟩)]
      · rw [if_neg c, h6 p q hp hq hd]
        by_cases c2 : i < p ∨ (p = i ∧ j + 1 ≤ q)
        · rw [if_pos c2, if_pos (by omega)]
        · rw [if_neg c2, if_neg (by omega)]
  have R0 : bs_Rel0 x0 s0 Y (mSI (mSI S (Y 4 0) 3 (nI i)) (Y 4 0) 4 (nI j)) (nSP M (20 * i + j) (lN (bs_dig b x i * bs_dig b v j))) := by
    have r0 : bs_Rel0 x0 s0 Y S M := bs_R_0 h
    have r1 : bs_Rel0 x0 s0 Y S (nSP M (20 * i + j) (lN (bs_dig b x i * bs_dig b v j))) := r0
    exact bs_R0S r1 (bs_mSame_tr (mSame_I _ _ _ _) (mSame_I _ _ _ _))
  refine ⟨⟨bs_0_R R0 ?_, h22, hh⟩, T2⟩
  obtain ⟨h1, ⟨h2, h2b, h2c⟩, h3, h4, h5, h6⟩ := T2
  refine Or.inr ⟨h1, b, x, v, i, j, hb, h2, hx, hv, h2b, h2c, by omega, by omega, ?_, ?_, h3, h4, h5, h6⟩
  · rw [bs_mI, if_neg (fun q => absurd q.2 (by decide)), bs_mI, if_pos ⟨rfl, rfl⟩]
  · rw [bs_mI, if_pos ⟨rfl, rfl⟩]
theorem bs_multR {f b x v i a : Nat} (hb : b = 10 ∨ b = 16) (hx : x < 2 ^ 63) (hv : v < 2 ^ 63) (ha : a = bs_dig b x i) (ha0 : a ≠ 0) (hi : i < bs_dg b 64 x) (k53 : Mem → Nat → Option Nat → Int64 → Int64 → Int32 → Int32 → Option (Int32 × Mem)) (k122 : MS → Int32 → Int64 → Int64 → Int32 → Int32 → Int32 → Option (Int32 × MS)) (nv : Int32) :
    ∀ j n n2 (Y : bs_Ly) (S : Mem) (M : MS), bs_W x0 s0 Y S M → bs_own Y M f → bs_b M f = b → bs_LT M f → bs_Tb Y S M b x v i j → j ≤ bs_dg b 64 v → j < n → j + 1 < n2 → (b - 1) * bs_s M + bs_ph M 540 + 4 * (b - 1) * j ≤ (b - 1) * 4900 →
    ∃ Y' S' M', bs_W x0 s0 Y' S' M' ∧ bs_T b Y M Y' M' ∧ (b - 1) * bs_s M' + bs_ph M' 540 ≤ (b - 1) * bs_s M + bs_ph M 540 + 4 * (b - 1) * j ∧
      ((c_X3_multiply_L77 k53 n S (Y 3 0) (some (Y 1 f)) (lN v) (lN x) nv (nI i) (nI a) (nI j + (-1)) = some (0, S') ∧ m_X6_multiply_L140 k122 n2 M (nI f) (lN x) (lN v) (nI b) 1 (nI i) (nI j + (-1)) = k122 M' (nI f) (lN x) (lN v) (nI b) 0 (nI i + (-1))) ∨
       (c_X3_multiply_L77 k53 n S (Y 3 0) (some (Y 1 f)) (lN v) (lN x) nv (nI i) (nI a) (nI j + (-1)) = k53 S' (Y 3 0) (some (Y 1 f)) (lN v) (lN x) nv (nI i + (-1)) ∧ m_X6_multiply_L140 k122 n2 M (nI f) (lN x) (lN v) (nI b) 1 (nI i) (nI j + (-1)) = k122 M' (nI f) (lN x) (lN v) (nI b) 1 (nI i + (-1)) ∧ bs_Tb Y' S' M' b x v i 0))
  | j, 0, _, _, _, _, _, _, _, _, _, _, hn, _, _ => absurd hn (Nat.not_lt_zero _)
  | j, _ + 1, 0, _, _, _, _, _, _, _, _, _, _, hn, _ => absurd hn (Nat.not_lt_zero _)
  | 0, n + 1, n2 + 1, Y, S, M, hW, hf, hB, hLT, hT, _, _, _, _ => by
    rw [c_X3_multiply_L77, m_X6_multiply_L140, if_pos bs_m11, if_pos bs_m11]
    exact ⟨Y, S, M, hW, bs_T_refl _ _ _, by omega, Or.inr ⟨rfl, rfl, hT⟩⟩
  | j + 1, n + 1, n2 + 1, Y, S, M, hW, hf, hB, hLT, hT, hj, hn, hn2, hbud => by
    have h := hW.1
    have hn30 := bs_n30 h.1
    have hfn := hf.1
    have hm := bs_m18 h.1 hf.1
    have dx := bs_dg19 (b := b) (by omega) hx
    have dv := bs_dg19 (b := b) (by omega) hv
    have hab : a < b := by rw [ha]; exact Nat.mod_lt _ (by omega)
    have hdv : bs_dig b v j < b := Nat.mod_lt _ (by omega)
    have hp : a * bs_dig b v j < b * b := Nat.mul_lt_mul'' hab hdv
    have hpl : a * bs_dig b v j < 256 := Nat.lt_of_lt_of_le hp (by rcases hb with rfl | rfl <;> decide)
    obtain ⟨p1, p2, p3⟩ := bs_digP hb hp
    obtain ⟨W1, T1⟩ := bs_come hb hx hv hW hT hi (show j < bs_dg b 64 v by omega)
    rw [← ha] at W1 T1
    have hs49 : bs_s M ≤ 4900 := by rcases hb with rfl | rfl <;> omega
    obtain ⟨z1, Y1, S1, M1, g1, g2, g3, g4⟩ := bs_two2 (at0 := i + j) W1 (f := f) hf hB hLT (by omega) hp (Or.inl ⟨rfl, rfl⟩) (show bs_s M + 2 * (bs_m M f - (i + j)) < 5000 by omega)
    rw [Int32.one_mul] at g1
    have a32 : nA M 32 i = 1 := by rw [hT.2.2.2.2.1 i hi, ← ha, if_neg ha0]
    have f2 : mI (mSI (mSI S (Y 4 0) 3 (nI i)) (Y 4 0) 4 (nI j)) (Y 1 f) 2 = nI b := by rw [bs_f2 W1.1 hfn]; exact congrArg nI hB
    have hT1b : bs_T b Y M Y1 M1 := g3
    have f21 : mI S1 (Y 1 f) 2 = nI b := by
      have := bs_f2 g2.1 (f := f) (by rw [bs_T_n hT1b]; exact hfn)
      rw [hT1b.1 1 f (by decide), bs_T_b hT1b, hB] at this
      exact this
    rw [c_X3_multiply_L77, m_X6_multiply_L140, pk_m1, if_neg (nI_pos (by omega)), if_neg (nI_pos (by omega)), if_neg bs_10, if_neg (nI_ne0 (by omega) (by omega)), bs_q h 3 0 0 rfl rfl, bs_o4 h, bs_bnd]
    unfold c_X2_comeTo
    rw [bs_let, bs_let, bs_bnd, bs_o1 W1.1 hfn, bs_bnd, f2, bs_c_dig (by omega) (by omega) hv (by omega), bs_bnd, bs_let, pk_mul, nI_l (by omega)]
    have d1 : c_X5_digitAt (lN (a * bs_dig b v j)) (nI b) 1 = some (nI (a * bs_dig b v j / b)) := by
      have := bs_c_dig (b := b) (v := a * bs_dig b v j) (i := 1) (by omega) (by omega) (by omega) (by decide)
      rw [p1] at this
      exact this
    have d0 : c_X5_digitAt (lN (a * bs_dig b v j)) (nI b) 0 = some (nI (a * bs_dig b v j % b)) := by
      have := bs_c_dig (b := b) (v := a * bs_dig b v j) (i := 0) (by omega) (by omega) (by omega) (by decide)
      rw [p2] at this
      exact this
    have m1 : m_X6_digitOf (lN x) (nI b) (nI i) = some (nI a) := by rw [ha]; exact bs_m_dig (by omega) (by omega) hx (by omega)
    rw [d1, bs_bnd, nI_add, bs_a1, g1, bs_bnd2, f21, d0, bs_bnd]
    rw [bs_gd (bs_inB (n := i) (by omega) (by decide)), bs_cl (n := i) (by omega), a32, if_neg bs_10, m1, bs_bnd, bs_m_dig (by omega) (by omega) hv (by omega), bs_bnd, bs_let, pk_mul, bs_let, nI_l (by omega), bs_m20, nI_add, bs_gd (bs_inB (by omega) (by decide)), bs_let, bs_cl (by omega)]
    have hlf : ∀ M0 x1, m_X6_multiply_L140 k122 n2 M0 (nI f) (lN x) (lN v) (nI b) 0 (nI i) x1 = k122 M0 (nI f) (lN x) (lN v) (nI b) 0 (nI i + (-1)) := by
      intro M0 x1
      cases n2 with
      | zero => omega
      | succ n2 =>
        rw [m_X6_multiply_L140, if_pos rfl]
        split <;> rfl
    rcases g4 with ⟨rfl, g5, g6, g7, g8, g9, g10⟩ | ⟨rfl, z2, Y2, S2, M2, k1, k2, k3, k4, k5, k6, k7, k8⟩
    · rw [if_pos rfl, g5, bs_bnd2, hlf]
      refine ⟨Y1, S1, M1, g6, g7, ?_, Or.inl ⟨rfl, rfl⟩⟩
      have t1 := g10 rfl
      have e1 : bs_s (nSP M (20 * i + j) (lN (a * bs_dig b v j))) = bs_s M := rfl
      have e2 : bs_ph (nSP M (20 * i + j) (lN (a * bs_dig b v j))) 540 = bs_ph M 540 := bs_ph_P _ _ _ _
      rw [e1, e2] at t1
      rcases hb with rfl | rfl <;> omega
    · rw [Int32.one_mul] at k1
      rw [if_neg bs_10, k1, bs_bnd2, k3, bs_bnd2]
      have t1 := k8 rfl
      have e1 : bs_s (nSP M (20 * i + j) (lN (a * bs_dig b v j))) = bs_s M := rfl
      have e2 : bs_ph (nSP M (20 * i + j) (lN (a * bs_dig b v j))) 540 = bs_ph M 540 := bs_ph_P _ _ _ _
      rw [e1, e2] at t1
      have k5' : bs_T b Y M Y2 M2 := k5
      rcases k2 with rfl | rfl
      · rw [if_pos rfl, hlf]
        refine ⟨Y2, S2, M2, k4, k5', ?_, Or.inl ⟨rfl, rfl⟩⟩
        rcases hb with rfl | rfl <;> omega
      · rw [if_neg bs_10]
        obtain ⟨Y3, S3, M3, l1, l2, l3, l4⟩ := bs_multR hb hx hv ha ha0 hi k53 k122 nv j n n2 Y2 S2 M2 k4 (bs_own_T k5' hf) (by rw [bs_T_b k5']; exact hB) (bs_LT_T k5' hB hLT) (bs_Tb_TP T1 k6 (k5'.1 4 0 (by decide))) (by omega) (by omega) (by omega) (by rcases hb with rfl | rfl <;> omega)
        rw [k5'.1 3 0 (by decide), k5'.1 1 f (by decide)] at l4
        exact ⟨Y3, S3, M3, l1, bs_T_tr k5' l2, by rcases hb with rfl | rfl <;> omega, l4⟩
end BsMult
