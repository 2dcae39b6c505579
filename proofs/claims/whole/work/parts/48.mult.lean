/-! TIMES: the whole of it -/
section BsMul2
variable {x0 s0 : Nat}
theorem bs_multO {f b x v : Nat} (hb : b = 10 ∨ b = 16) (hx : x < 2 ^ 63) (hv : v < 2 ^ 63) :
    ∀ i n n2 (Y : bs_Ly) (S : Mem) (M : MS), bs_W x0 s0 Y S M → bs_own Y M f → bs_b M f = b → bs_LT M f → bs_Tb Y S M b x v i 0 → i ≤ bs_dg b 64 x → i < n → i + 1 < n2 → (b - 1) * bs_s M + bs_ph M 540 + 4 * (b - 1) * (bs_dg b 64 v * i) ≤ (b - 1) * 4900 →
    ∃ z Y' S' M', c_X3_multiply_L53 n S (Y 3 0) (some (Y 1 f)) (lN v) (lN x) (nI (bs_dg b 64 v)) (nI i + (-1)) = some (z, S') ∧ m_X6_multiply_L122 n2 M (nI f) (lN x) (lN v) (nI b) 1 (nI i + (-1)) = some (z, M') ∧ (z = 0 ∨ z = 1) ∧ bs_W x0 s0 Y' S' M' ∧ bs_T b Y M Y' M' ∧ (b - 1) * bs_s M' + bs_ph M' 540 ≤ (b - 1) * bs_s M + bs_ph M 540 + 4 * (b - 1) * (bs_dg b 64 v * i)
  | i, 0, _, _, _, _, _, _, _, _, _, _, hn, _, _ => absurd hn (Nat.not_lt_zero _)
  | i, _ + 1, 0, _, _, _, _, _, _, _, _, _, _, hn, _ => absurd hn (Nat.not_lt_zero _)
  | 0, n + 1, n2 + 1, Y, S, M, hW, hf, hB, hLT, hT, _, _, _, _ => by
    rw [c_X3_multiply_L53, m_X6_multiply_L122, if_pos bs_m11, if_pos bs_m11, bs_gd bs_zb1]
    exact ⟨1, Y, S, M, rfl, rfl, Or.inr rfl, hW, bs_T_refl _ _ _, by omega⟩
  | i + 1, n + 1, n2 + 1, Y, S, M, hW, hf, hB, hLT, hT, hi, hn, hn2, hbud => by
    have h := hW.1
    have hfn := hf.1
    have dx := bs_dg19 (b := b) (by omega) hx
    have dv := bs_dg19 (b := b) (by omega) hv
    have hmul : bs_dg b 64 v * (i + 1) = bs_dg b 64 v * i + bs_dg b 64 v := Nat.mul_succ _ _
    rw [hmul] at hbud ⊢
    have f2 : mI S (Y 1 f) 2 = nI b := by rw [bs_f2 h hf.1, hB]
    have hTr := bs_Tb_row hT
    have hab : bs_dig b x i < b := Nat.mod_lt _ (by omega)
    rw [c_X3_multiply_L53, m_X6_multiply_L122, pk_m1, if_neg (nI_pos (by omega)), if_neg (nI_pos (by omega)), if_neg bs_10, bs_o1 h hfn, bs_bnd, f2, bs_c_dig (by omega) (by omega) hx (by omega), bs_bnd, bs_let, bs_let, hT.2.2.2.1, Int32.sub_eq_add_neg]
    by_cases c : bs_dig b x i = 0
    · have a32 : nA M 32 i = 0 := by rw [hT.2.2.2.2.1 i (by omega), if_pos c]
      have e1 : c_X3_multiply_L77 (c_X3_multiply_L53 n) bigN S (Y 3 0) (some (Y 1 f)) (lN v) (lN x) (nI (bs_dg b 64 v)) (nI i) (nI (bs_dig b x i)) (nI (bs_dg b 64 v) + (-1)) = c_X3_multiply_L53 n S (Y 3 0) (some (Y 1 f)) (lN v) (lN x) (nI (bs_dg b 64 v)) (nI i + (-1)) := by
        rw [show bigN = 999999 + 1 from rfl, c_X3_multiply_L77, c, if_pos (show nI 0 = 0 from rfl)]
        split <;> rfl
      have e2 : m_X6_multiply_L140 (m_X6_multiply_L122 n2) bigN M (nI f) (lN x) (lN v) (nI b) 1 (nI i) (nI (bs_dg b 64 v) + (-1)) = m_X6_multiply_L122 n2 M (nI f) (lN x) (lN v) (nI b) 1 (nI i + (-1)) := by
        rw [show bigN = 999999 + 1 from rfl, m_X6_multiply_L140, if_neg bs_10, bs_gd (bs_inB (n := i) (by omega) (by decide)), bs_cl (n := i) (by omega), a32, if_pos rfl]
        split <;> rfl
      obtain ⟨z, Y', S', M', l1, l2, l3, l4, l5, l6⟩ := bs_multO hb hx hv i n n2 Y S M hW hf hB hLT (bs_Tb_skip hTr c) (by omega) (by omega) (by omega) (by rcases hb with rfl | rfl <;> omega)
      exact ⟨z, Y', S', M', e1.trans l1, e2.trans l2, l3, l4, l5, by rcases hb with rfl | rfl <;> omega⟩
    · obtain ⟨Y1, S1, M1, g1, g2, g3, g4⟩ := bs_multR hb hx hv rfl c (show i < bs_dg b 64 x by omega) (c_X3_multiply_L53 n) (m_X6_multiply_L122 n2) (nI (bs_dg b 64 v)) (bs_dg b 64 v) bigN bigN Y S M hW hf hB hLT hTr (Nat.le_refl _) (by unfold bigN; omega) (by unfold bigN; omega) (by rcases hb with rfl | rfl <;> omega)
      rcases g4 with ⟨k1, k2⟩ | ⟨k1, k2, k3⟩
      · refine ⟨0, Y1, S1, M1, k1, k2.trans ?_, Or.inl rfl, g1, g2, by rcases hb with rfl | rfl <;> omega⟩
        cases n2 with
        | zero => omega
        | succ n2 =>
          rw [m_X6_multiply_L122, if_pos rfl, bs_gd bs_zb0]
          split <;> rfl
      · obtain ⟨z, Y', S', M', l1, l2, l3, l4, l5, l6⟩ := bs_multO hb hx hv i n n2 Y1 S1 M1 g1 (bs_own_T g2 hf) (by rw [bs_T_b g2]; exact hB) (bs_LT_T g2 hB hLT) k3 (by omega) (by omega) (by omega) (by rcases hb with rfl | rfl <;> omega)
        rw [g2.1 3 0 (by decide), g2.1 1 f (by decide)] at l1
        exact ⟨z, Y', S', M', k1.trans l1, k2.trans l2, l3, l4, bs_T_tr g2 l5, by rcases hb with rfl | rfl <;> omega⟩
/-- the reference's table is laid: a row of zeros -/
theorem bs_tab0 {cols i : Nat} (hc : cols ≤ 20) (hi : i < 20) (k37 : MS → Int32 → Int64 → Int64 → Int32 → Int32 → Option (Int32 × MS)) (f : Int32) (x v : Int64) (b : Int32) : ∀ d n (M : MS) (j : Nat), j + d = cols → d < n → nF M 31 = nI cols →
    ∃ M', m_X6_multiply_L72 k37 n M f x v b (nI i) (nI j) = k37 M' f x v b (nI (i + 1)) ∧ nF M' = nF M ∧ nA M' = nA M ∧ (∀ q, j ≤ q → q < cols → nP M' (20 * i + q) = 0) ∧ ∀ q, q < 20 * i + j → nP M' q = nP M q
  | d, 0, _, _, _, hn, _ => absurd hn (Nat.not_lt_zero _)
  | 0, n + 1, M, j, hj, _, h31 => by
    rw [m_X6_multiply_L72, h31, if_pos (nI_le (by omega) (by omega)), bs_a1]
    exact ⟨M, rfl, rfl, rfl, fun q a b => by omega, fun _ _ => rfl⟩
  | d + 1, n + 1, M, j, hj, hn, h31 => by
    rw [m_X6_multiply_L72, h31, if_neg (nI_ge (by omega) (by omega)), bs_m20, nI_add, bs_gd (bs_inB (by omega) (by decide)), bs_let, bs_cl (by omega), bs_a1]
    obtain ⟨M', e1, e2, e3, e4, e5⟩ := bs_tab0 hc hi k37 f x v b d n (nSP M (20 * i + j) 0) (j + 1) (by omega) (by omega) h31
    refine ⟨M', e1, e2, e3, ?_, ?_⟩
    · intro q a c
      by_cases c2 : q = j
      · rw [c2, e5 _ (by omega), bs_nP, if_pos rfl]
      · exact e4 q (by omega) c
    · intro q hq
      rw [e5 q (by omega), bs_nP, if_neg (by omega)]
theorem bs_R0P {Y : bs_Ly} {S : Mem} {M M' : MS} (e1 : nF M' = nF M) (e2 : nA M' = nA M) {s : Nat} {hl hu : Nat → Nat → Int32} (h : bs_Rel0 x0 s0 Y S M ∧ bs_Hist M s hl hu) : bs_Rel0 x0 s0 Y S M' ∧ bs_Hist M' s hl hu := by
  obtain ⟨a, b, c, d⟩ := M
  obtain ⟨a', b', c', d'⟩ := M'
  have h1 : b' = b := e1
  have h2 : c' = c := e2
  subst h1 h2
  exact h
theorem bs_tab {Y : bs_Ly} {S : Mem} {b x rows cols s : Nat} {hl hu : Nat → Nat → Int32} (hb : b = 10 ∨ b = 16) (hx : x < 2 ^ 63) (hrw : rows ≤ 19) (hc : cols ≤ 19) (f : Int32) (v : Int64) : ∀ d n (M : MS) (i : Nat), i + d = rows → d < n → nF M 30 = nI rows → nF M 31 = nI cols → bs_Rel0 x0 s0 Y S M ∧ bs_Hist M s hl hu → (∀ p, p < i → nA M 32 p = if bs_dig b x p = 0 then 0 else 1) → (∀ p q, p < i → q < cols → nP M (20 * p + q) = 0) →
    ∃ M', m_X6_multiply_L37 n M f (lN x) v (nI b) (nI i) = (bnd2 (m_X6_clear M' f) fun i3_ S4 => jLet (nF S4 30 - 1) fun i6_ => m_X6_multiply_L122 bigN S4 f (lN x) v (nI b) i3_ i6_) ∧ (bs_Rel0 x0 s0 Y S M' ∧ bs_Hist M' s hl hu) ∧ nF M' = nF M ∧ (∀ k, k ≠ 32 → nA M' k = nA M k) ∧ (∀ p, p < rows → nA M' 32 p = if bs_dig b x p = 0 then 0 else 1) ∧ ∀ p q, p < rows → q < cols → nP M' (20 * p + q) = 0
  | d, 0, _, _, _, hn, _, _, _, _, _ => absurd hn (Nat.not_lt_zero _)
  | 0, n + 1, M, i, hi, _, h30, h31, hR, hr, hz => by
    rw [m_X6_multiply_L37, h30, if_pos (nI_le (by omega) (by omega))]
    have : i = rows := by omega
    subst this
    exact ⟨M, rfl, hR, rfl, fun _ _ => rfl, hr, hz⟩
  | d + 1, n + 1, M, i, hi, hn, h30, h31, hR, hr, hz => by
    rw [m_X6_multiply_L37, h30, if_neg (nI_ge (by omega) (by omega)), bs_m_dig (by omega) (by omega) hx (by omega), bs_bnd, bs_gd (bs_inB (n := i) (by omega) (by decide)), bs_gd (bs_inB (n := i) (by omega) (by decide)), bs_let, bs_let, bs_cl (n := i) (by omega)]
    have key : ∀ w : Int32, w = (if bs_dig b x i = 0 then 0 else 1) → ∃ M', m_X6_multiply_L72 (m_X6_multiply_L37 n) bigN (nSA M 32 i w) f (lN x) v (nI b) (nI i) 0 = (bnd2 (m_X6_clear M' f) fun i3_ S4 => jLet (nF S4 30 - 1) fun i6_ => m_X6_multiply_L122 bigN S4 f (lN x) v (nI b) i3_ i6_) ∧ (bs_Rel0 x0 s0 Y S M' ∧ bs_Hist M' s hl hu) ∧ nF M' = nF M ∧ (∀ k, k ≠ 32 → nA M' k = nA M k) ∧ (∀ p, p < rows → nA M' 32 p = if bs_dig b x p = 0 then 0 else 1) ∧ ∀ p q, p < rows → q < cols → nP M' (20 * p + q) = 0 := by
      intro w hw
      obtain ⟨M1, e1, e2, e3, e4, e5⟩ := bs_tab0 (cols := cols) (i := i) (by omega) (by omega) (m_X6_multiply_L37 n) f (lN x) v (nI b) cols bigN (nSA M 32 i w) 0 (by omega) (by unfold bigN; omega) h31
      have r1 : bs_Rel0 x0 s0 Y S (nSA M 32 i w) ∧ bs_Hist (nSA M 32 i w) s hl hu := hR
      have n32 : ∀ p, nA M1 32 p = if p = i then w else nA M 32 p := by
        intro p
        rw [e3, bs_nA]
        by_cases c : p = i
        · rw [if_pos ⟨rfl, c⟩, if_pos c]
        · rw [if_neg (fun q => c q.2), if_neg c]
      obtain ⟨M2, k1, k2, k3, k4, k5, k6⟩ := bs_tab hb hx hrw hc f v d n M1 (i + 1) (by omega) (by omega) (by rw [e2]; exact h30) (by rw [e2]; exact h31) (bs_R0P e2 e3 r1) (by
        intro p hp
        rw [n32]
        by_cases c : p = i
        · rw [if_pos c, c, hw]
        · rw [if_neg c]
          exact hr p (by omega)) (by
        intro p q hp hq
        by_cases c : p = i
        · rw [c]
          exact e4 q (Nat.zero_le _) hq
        · rw [e5 _ (by omega)]
          exact hz p q (by omega) hq)
      refine ⟨M2, e1.trans k1, k2, k3.trans e2, ?_, k5, k6⟩
      intro k hk
      rw [k4 k hk, e3]
      funext j
      rw [bs_nA, if_neg (fun q => hk q.1)]
    by_cases c : bs_dig b x i = 0
    · rw [if_pos (show nI (bs_dig b x i) ≤ 0 by rw [c]; decide)]
      exact key 0 (if_pos c).symm
    · have hab : bs_dig b x i < b := Nat.mod_lt _ (by omega)
      rw [if_neg (nI_nle (by omega) (by omega))]
      exact key 1 (if_neg c).symm
theorem bs_mult {Y : bs_Ly} {S : Mem} {M : MS} {f v b X : Nat} (hW : bs_W x0 s0 Y S M) (hf : bs_own Y M f) (hB : bs_b M f = b) (hLT : bs_LT M f) (hX : X = bs_sv M f (bs_m M f) 0) (hX2 : X < 2 ^ 63) (hv : v < 2 ^ 63) (hbud : (b - 1) * bs_s M + bs_ph M 540 + (b - 1) * 18 + 4 * (b - 1) * (bs_dg b 64 v * bs_dg b 64 X) ≤ (b - 1) * 4800) :
    ∃ z Y' S' M', c_X3_multiply S (Y 3 0) (some (Y 1 f)) (lN v) = some (z, S') ∧ m_X6_multiply M (nI f) (lN X) (lN v) = some (z, M') ∧ (z = 0 ∨ z = 1) ∧ bs_W x0 s0 Y' S' M' ∧ bs_T b Y M Y' M' ∧ (b - 1) * bs_s M' + bs_ph M' 540 ≤ (b - 1) * bs_s M + bs_ph M 540 + (b - 1) * 18 + 4 * (b - 1) * (bs_dg b 64 v * bs_dg b 64 X) := by
  obtain ⟨h, h22, hl, hu, hh⟩ := id hW
  have hn30 := bs_n30 h.1
  have hfn := hf.1
  have hb := bs_bb h.1 hf.1
  rw [hB] at hb
  have dx := bs_dg19 (b := b) (by omega) hX2
  have dv := bs_dg19 (b := b) (by omega) hv
  have f2 : mI S (Y 1 f) 2 = nI b := by rw [bs_f2 h hf.1, hB]
  have b3 : nA M 3 f = nI b := by rw [bs_bN h.1 hf.1, hB]
  have r0 : bs_Rel0 x0 s0 Y S M := bs_R_0 h
  have r1 : bs_Rel0 x0 s0 Y S (nSF (nSF (nSF M 29 1) 30 (nI (bs_dg b 64 X))) 31 (nI (bs_dg b 64 v))) ∧ bs_Hist (nSF (nSF (nSF M 29 1) 30 (nI (bs_dg b 64 X))) 31 (nI (bs_dg b 64 v))) (bs_s M) hl hu := ⟨r0, hh⟩
  obtain ⟨M1, t1, ⟨t2, t3⟩, t4, t5, t6, t7⟩ := bs_tab (cols := bs_dg b 64 v) hb hX2 dx dv (nI f) (lN v) (bs_dg b 64 X) bigN _ 0 (by omega) (by unfold bigN; omega) rfl rfl r1 (fun p hp => absurd hp (Nat.not_lt_zero _)) (fun p q hp _ => absurd hp (Nat.not_lt_zero _))
  have nF1 : ∀ k, k ≠ 29 → k ≠ 30 → k ≠ 31 → nF M1 k = nF M k := by
    intro k a1 a2 a3
    rw [t4]
    show up1 (up1 (up1 M.2.1 29 1) 30 _) 31 _ k = _
    unfold up1
    rw [if_neg a3, if_neg a2, if_neg a1]
    rfl
  have nA1 : ∀ k, k ≠ 32 → nA M1 k = nA M k := fun k hk => (t5 k hk).trans rfl
  have s1 : bs_s M1 = bs_s M := by unfold bs_s; rw [nF1 21 (by decide) (by decide) (by decide)]
  have dv1 : bs_dv M1 = bs_dv M := by funext r; unfold bs_dv bs_l bs_u; rw [nA1 10 (by decide), nA1 11 (by decide)]
  have ph1 : bs_ph M1 540 = bs_ph M 540 := by
    have : ∀ n, bs_ph M1 n = bs_ph M n := by
      intro n
      induction n with
      | zero => rfl
      | succ n ih => rw [bs_ph, bs_ph, ih, dv1]
    exact this 540
  have T1 : bs_T b Y M Y M1 := ⟨fun _ _ _ => rfl, ⟨nF1 0 (by decide) (by decide) (by decide), nF1 36 (by decide) (by decide) (by decide), nA1 1 (by decide), nA1 2 (by decide), nA1 5 (by decide), nA1 6 (by decide), nA1 8 (by decide), nF1 18 (by decide) (by decide) (by decide), nF1 19 (by decide) (by decide) (by decide)⟩, ⟨nA1 3 (by decide), nA1 9 (by decide)⟩, fun r q => by rw [dv1]; exact q⟩
  -- the class's parts
  have sm : mSame S (mSI (mSI (mSL (mSL (mSI S (Y 4 0) 0 (nI b)) (Y 4 0) 1 (lN X)) (Y 4 0) 2 (lN v)) (Y 4 0) 3 64) (Y 4 0) 4 64) (Y 4 0) := bs_mSame_tr (bs_mSame_tr (bs_mSame_tr (bs_mSame_tr (mSame_I _ _ _ _) (mSame_L _ _ _ _)) (mSame_L _ _ _ _)) (mSame_I _ _ _ _)) (mSame_I _ _ _ _)
  generalize hS1 : mSI (mSI (mSL (mSL (mSI S (Y 4 0) 0 (nI b)) (Y 4 0) 1 (lN X)) (Y 4 0) 2 (lN v)) (Y 4 0) 3 64) (Y 4 0) 4 64 = S1 at sm
  have v0 : mI S1 (Y 4 0) 0 = nI b := by rw [← hS1]; simp [mI, mSI, mSL, up2]
  have v3 : mI S1 (Y 4 0) 3 = nI 64 := by rw [← hS1]; simp [mI, mSI, mSL, up2]; rfl
  have v4 : mI S1 (Y 4 0) 4 = nI 64 := by rw [← hS1]; simp [mI, mSI, mSL, up2]; rfl
  have v1 : mL S1 (Y 4 0) 1 = lN X := by rw [← hS1]; simp [mL, mSI, mSL, up2]
  have v2 : mL S1 (Y 4 0) 2 = lN v := by rw [← hS1]; simp [mL, mSI, mSL, up2]
  have Tb1 : bs_Tb Y S1 M1 b X v (bs_dg b 64 X) 0 := by
    refine ⟨by rw [t4]; rfl, ⟨v0, v1, v2⟩, by rw [t4]; rfl, by rw [t4]; rfl, t6, ?_⟩
    intro p q hp hq _
    rw [t7 p q hp hq, if_neg (by omega)]
  have W1 : bs_W x0 s0 Y S1 M1 := by
    refine ⟨bs_0_R (bs_R0S t2 sm) ?_, by rw [nF1 22 (by decide) (by decide) (by decide)]; exact h22, hl, hu, by rw [s1]; exact t3⟩
    obtain ⟨z1, ⟨z2, z3, z4⟩, z5, z6, z7, z8⟩ := Tb1
    refine Or.inr ⟨z1, b, X, v, 64, 64, hb, z2, hX2, hv, z3, z4, by omega, by omega, v3, v4, z5, z6, z7, ?_⟩
    intro p q hp hq hd
    rw [t7 p q hp hq, if_neg (by omega)]
  have hs48 : bs_s M ≤ 4800 := by rcases hb with rfl | rfl <;> omega
  have hB1 : bs_b M1 f = b := by rw [bs_T_b T1]; exact hB
  obtain ⟨z, Y2, S2, M2, k1, k2, k3, k4, k5, k6, k7, k8, -⟩ := bs_clear W1 (bs_own_T T1 hf) (bs_LT_T T1 hB hLT) (by rw [s1]; omega)
  rw [hB1, s1, ph1] at k8
  rw [hB1] at k5
  have T2 := bs_T_tr T1 k5
  have Tb2 := bs_Tb_TP Tb1 k6 (k5.1 4 0 (by decide))
  have cm : c_X3_multiply S (Y 3 0) (some (Y 1 f)) (lN v) = if z = 0 then some (0, S2) else bnd (c_X5_digitCount (lN X) (mI S2 (Y 1 f) 2)) fun i16_ => jLet (i16_ - 1) fun i18_ => c_X3_multiply_L53 bigN S2 (Y 3 0) (some (Y 1 f)) (lN v) (lN X) (nI (bs_dg b 64 v)) i18_ := by
    unfold c_X3_multiply c_X2_open
    rw [bs_o1 h hfn, bs_bnd, bs_c_sum h hfn, bs_bnd, f2, bs_c_dg (by omega) (by omega) hv, bs_bnd, bs_q h 3 0 0 rfl rfl, bs_o4 h, bs_bnd, bs_let, bs_let, bs_let, bs_let, bs_let, bs_bnd, ← hX, hS1, k1, bs_bnd2]
  have mm : m_X6_multiply M (nI f) (lN X) (lN v) = jLet (nF M2 30 - 1) fun i6_ => m_X6_multiply_L122 bigN M2 (nI f) (lN X) (lN v) (nI b) z i6_ := by
    unfold m_X6_multiply
    rw [bs_gd (bs_inB (n := f) (by omega) (by decide)), bs_let, bs_cl (n := f) (by omega), b3, bs_let, bs_m_dg (by omega) (by omega) hX2, bs_bnd, bs_let, bs_m_dg (by omega) (by omega) hv, bs_bnd, bs_let]
    refine Eq.trans (show _ = m_X6_multiply_L37 bigN (nSF (nSF (nSF M 29 1) 30 (nI (bs_dg b 64 X))) 31 (nI (bs_dg b 64 v))) (nI f) (lN X) (lN v) (nI b) (nI 0) from rfl) ?_
    rw [t1, k2, bs_bnd2]
  rw [cm, mm, bs_let, Tb2.2.2.1, Int32.sub_eq_add_neg]
  rcases k3 with rfl | rfl
  · rw [if_pos rfl]
    refine ⟨0, Y2, S2, M2, rfl, ?_, Or.inl rfl, k4, T2, by omega⟩
    rw [show bigN = 999999 + 1 from rfl, m_X6_multiply_L122, if_pos rfl, bs_gd bs_zb0]
    split <;> rfl
  · have f22 : mI S2 (Y 1 f) 2 = nI b := by
      have := bs_f2 k4.1 (f := f) (by rw [bs_T_n T2]; exact hfn)
      rw [T2.1 1 f (by decide), bs_T_b T2, hB] at this
      exact this
    obtain ⟨z', Y', S', M', l1, l2, l3, l4, l5, l6⟩ := bs_multO hb hX2 hv (bs_dg b 64 X) bigN bigN Y2 S2 M2 k4 (bs_own_T T2 hf) (by rw [bs_T_b T2]; exact hB) (bs_LT_T T2 hB hLT) Tb2 (Nat.le_refl _) (by unfold bigN; omega) (by unfold bigN; omega) (by rcases hb with rfl | rfl <;> omega)
    rw [T2.1 3 0 (by decide), T2.1 1 f (by decide)] at l1
    rw [if_neg bs_10, f22, bs_c_dg (by omega) (by omega) hX2, bs_bnd, bs_let, Int32.sub_eq_add_neg]
    exact ⟨z', Y', S', M', l1, l2, l3, l4, bs_T_tr T2 l5, by rcases hb with rfl | rfl <;> omega⟩
end BsMul2
