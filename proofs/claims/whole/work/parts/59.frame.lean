/-! frame -/
theorem bs_Ext_same {S T T2 : Mem} {a : Nat} (h : bs_Ext S T) (e : mSame T T2 a) (ha : mNx S ≤ a) : bs_Ext S T2 := by
  obtain ⟨h1, h2, h3⟩ := h
  obtain ⟨e1, e2, e3, e4, e5, e6⟩ := e
  refine ⟨by rw [e2]; exact h1, e1.trans h2, fun b hb => ?_⟩
  obtain ⟨a1, a2, a3, a4, a5⟩ := h3 b hb
  obtain ⟨b1, b2, b3⟩ := e6 b (by omega)
  exact ⟨(congrFun e4 b).trans a1, (congrFun e5 b).trans a2, b1.trans a3, b2.trans a4, b3.trans a5⟩
/-- a new rod's numbers -/
def bs_nr (T : Mem) (a k : Nat) : Prop := mI T a 0 = (if k = 2 then 1 else 0) ∧ mI T a 1 = (if k = 2 then 1 else 2) ∧ mI T a 2 = (if k = 2 then 10 else if k = 0 then 4 else 5) ∧ mI T a 3 = (if k = 2 then 0 else if k = 0 then 1 else 2) ∧ mI T a 4 = (if k = 2 then 1 else 2) ∧ mI T a 5 = 0 ∧ mI T a 6 = 0
theorem bs_J64a (S : Mem) (a : Nat) (v : Int32) (t0 : mI S a 0 = 0) : c_X4_init_J64 S a v = some (mSI (mSI (mSI S a 3 v) a 1 2) a 4 2) := by
  have e1 : mI (mSI S a 3 v) a 0 = 0 := by rw [bs_mI, if_neg (fun q => absurd q.2 (by decide))]; exact t0
  have e2 : mI (mSI (mSI S a 3 v) a 1 2) a 1 = 2 := by rw [bs_mI, if_pos ⟨rfl, rfl⟩]
  unfold c_X4_init_J64
  rw [bs_let, if_pos e1, bs_let, bs_let, bs_let, e2]
theorem bs_J64b (S : Mem) (a : Nat) (v : Int32) (t0 : mI S a 0 = 1) : c_X4_init_J64 S a v = some (mSI (mSI (mSI S a 3 v) a 1 1) a 4 1) := by
  have e1 : ¬ mI (mSI S a 3 v) a 0 = 0 := by rw [bs_mI, if_neg (fun q => absurd q.2 (by decide)), t0]; decide
  have e2 : mI (mSI (mSI S a 3 v) a 1 1) a 1 = 1 := by rw [bs_mI, if_pos ⟨rfl, rfl⟩]
  unfold c_X4_init_J64
  rw [bs_let, if_neg e1, bs_let, bs_let, bs_let, e2]
theorem bs_rodNew (T : Mem) (a k : Nat) (hk : k ≤ 3) (h5 : mI T a 5 = 0) (h6 : mI T a 6 = 0) : ∃ T2, c_X4_init T a (nI k) = some T2 ∧ mSame T T2 a ∧ bs_nr T2 a k := by
  have c2 : nI k = (2 : Int32) ↔ k = 2 := nI_eq (b := 2) (by omega) (by omega)
  have c0 : nI k = (0 : Int32) ↔ k = 0 := nI_eq (b := 0) (by omega) (by omega)
  have tr := @bs_mSame_tr
  have fin : ∀ t ml mu nd : Int32, t = (if k = 2 then 1 else 0) → nd = (if k = 2 then 1 else 2) → ml = (if k = 2 then 10 else if k = 0 then 4 else 5) → mu = (if k = 2 then 0 else if k = 0 then 1 else 2) → mSame T (mSI (mSI (mSI (mSI (mSI T a 0 t) a 2 ml) a 3 mu) a 1 nd) a 4 nd) a ∧ bs_nr (mSI (mSI (mSI (mSI (mSI T a 0 t) a 2 ml) a 3 mu) a 1 nd) a 4 nd) a k := by
    intro t ml mu nd w1 w2 w3 w4
    refine ⟨tr (tr (tr (tr (mSame_I _ _ _ _) (mSame_I _ _ _ _)) (mSame_I _ _ _ _)) (mSame_I _ _ _ _)) (mSame_I _ _ _ _), ?_⟩
    unfold bs_nr
    rw [← w1, ← w2, ← w3, ← w4]
    simp only [bs_mI]
    refine ⟨?_, ?_, ?_, ?_, ?_, ?_, ?_⟩ <;> simp [h5, h6]
  have z0 : ∀ v w : Int32, mI (mSI (mSI T a 0 v) a 2 w) a 0 = v := fun v w => by rw [bs_mI, if_neg (fun q => absurd q.2 (by decide)), bs_mI, if_pos ⟨rfl, rfl⟩]
  have z1 : ∀ v : Int32, mI (mSI T a 0 v) a 0 = v := fun v => by rw [bs_mI, if_pos ⟨rfl, rfl⟩]
  unfold c_X4_init c_X4_init_J15
  by_cases k2 : k = 2
  · rw [if_pos (c2.mpr k2), bs_gd bs_zb1, bs_let, if_neg (show ¬ mI (mSI T a 0 1) a 0 = 0 by rw [z1]; decide)]
    unfold c_X4_init_J40
    rw [bs_let, if_neg (show ¬ mI (mSI (mSI T a 0 1) a 2 10) a 0 = 0 by rw [z0]; decide), bs_J64b _ _ _ (z0 1 10)]
    exact ⟨_, rfl, fin 1 10 0 1 (if_pos k2).symm (if_pos k2).symm (if_pos k2).symm (if_pos k2).symm⟩
  · rw [if_neg (fun q => k2 (c2.mp q)), bs_gd bs_zb0, bs_let, if_pos (show mI (mSI T a 0 0) a 0 = 0 from z1 0)]
    unfold c_X4_init_J40
    by_cases k0 : k = 0
    · rw [if_pos (c0.mpr k0), bs_let, if_pos (z0 0 4), if_pos (c0.mpr k0), bs_J64a _ _ _ (z0 0 4)]
      exact ⟨_, rfl, fin 0 4 1 2 (if_neg k2).symm (if_neg k2).symm (by rw [if_neg k2, if_pos k0]) (by rw [if_neg k2, if_pos k0])⟩
    · have k0' : ¬ nI k = 0 := fun q => k0 (c0.mp q)
      rw [if_neg k0', bs_let, if_pos (z0 0 5), if_neg k0', bs_J64a _ _ _ (z0 0 5)]
      exact ⟨_, rfl, fin 0 5 2 2 (if_neg k2).symm (if_neg k2).symm (by rw [if_neg k2, if_neg k0]) (by rw [if_neg k2, if_neg k0])⟩
/-- a frame being made: so many of its rods are there -/
def bs_mkF (S T : Mem) (n k m i : Nat) (b hs : Int32) : Prop :=
  bs_Ext S T ∧ (mKd T (mNx S) = 2 ∧ mKd T (mNx S + 1) = 12 ∧ mLn T (mNx S + 1) = m) ∧ (mI T (mNx S) 0 = nI n ∧ mI T (mNx S) 1 = nI k ∧ mI T (mNx S) 2 = b ∧ mI T (mNx S) 3 = 0 ∧ mI T (mNx S) 4 = hs) ∧ mR T (mNx S) 5 = some (mNx S + 1) ∧
  (mNx T = mNx S + 2 + i ∧ mSl T = mSl S + 8 + m + 7 * i) ∧ ∀ j, j < i → mR T (mNx S + 1) j = some (mNx S + 2 + j) ∧ mKd T (mNx S + 2 + j) = 5 ∧ bs_nr T (mNx S + 2 + j) k
theorem bs_mkFL {S : Mem} {n k m : Nat} {b hs : Int32} (hk : k ≤ 3) (hm : m ≤ 18) : ∀ d nn (T : Mem) i, i + d = m → d < nn → bs_mkF S T n k m i b hs → ∃ T2, c_X1_init_L49 nn T (mNx S) (nI k) (nI i) = some T2 ∧ bs_mkF S T2 n k m m b hs ∧ mR T2 (mNx S) 6 = none ∧ mR T2 (mNx S) 7 = none
  | d, 0, _, _, _, hn, _ => absurd hn (Nat.not_lt_zero _)
  | 0, nn + 1, T, i, hi, _, h => by
    have : i = m := by omega
    subst this
    obtain ⟨h1, ⟨h2, h3, h4⟩, h5, h6, ⟨h7, h8⟩, h9⟩ := h
    rw [c_X1_init_L49, h6, bs_ob h3, bs_bnd, h4, if_pos (nI_le (Nat.le_refl _) (by omega)), bs_let, bs_let]
    refine ⟨_, rfl, ⟨bs_Ext_R (bs_Ext_R h1 (Nat.le_refl _) 6 none) (Nat.le_refl _) 7 none, ⟨h2, h3, h4⟩, h5, ?_, ⟨h7, h8⟩, ?_⟩, ?_, ?_⟩
    · rw [bs_mR, if_neg (fun q => absurd q.2 (by decide)), bs_mR, if_neg (fun q => absurd q.2 (by decide))]
      exact h6
    · intro j hj
      obtain ⟨a1, a2, a3⟩ := h9 j hj
      refine ⟨?_, a2, a3⟩
      rw [bs_mR, if_neg (fun q => by omega), bs_mR, if_neg (fun q => by omega)]
      exact a1
    · rw [bs_mR, if_neg (fun q => absurd q.2 (by decide)), bs_mR, if_pos ⟨rfl, rfl⟩]
    · rw [bs_mR, if_pos ⟨rfl, rfl⟩]
  | d + 1, nn + 1, T, i, hi, hn, h => by
    obtain ⟨h1, ⟨h2, h3, h4⟩, ⟨g0, g1, g2, g3, g4⟩, h6, ⟨h7, h8⟩, h9⟩ := h
    rw [c_X1_init_L49, h6, bs_ob h3, bs_bnd, h4, if_neg (nI_ge (by omega) (by omega)), bs_let, bs_let]
    have z5 : mI (mNew T 5 0 (cN 4)) (mNx T) 5 = 0 := by simp [mI, mNew, up1]
    have z6 : mI (mNew T 5 0 (cN 4)) (mNx T) 6 = 0 := by simp [mI, mNew, up1]
    obtain ⟨T1, e1, e2, e3⟩ := bs_rodNew (mNew T 5 0 (cN 4)) (mNx T) k hk z5 z6
    obtain ⟨s1, s2, s3, s4, s5, s6⟩ := e2
    have oth : ∀ a, a ≠ mNx T → mKd T1 a = mKd T a ∧ mLn T1 a = mLn T a ∧ mI T1 a = mI T a ∧ mR T1 a = mR T a := by
      intro a ha
      obtain ⟨b1, b2, b3⟩ := s6 a ha
      obtain ⟨c1, c2, c3⟩ := mNew_other T 5 0 (cN 4) ha
      refine ⟨by rw [s4, mKd_new, if_neg ha], ?_, b1.trans c1, b3.trans c3⟩
      rw [s5]
      simp [mLn, mNew, up1, ha]
    have kA : mKd T1 (mNx S + 1) = 12 := (oth _ (by omega)).1.trans h3
    have lA : mLn T1 (mNx S + 1) = m := (oth _ (by omega)).2.1.trans h4
    rw [e1, bs_bnd, bs_ob kA, bs_bnd, lA, bs_gd (bs_inB (by omega) (by omega)), bs_let, bs_cl (by omega), nI_1]
    have nx1 : mNx T1 = mNx T + 1 := s2
    have sl1 : mSl T1 = mSl T + 7 := s3
    refine bs_mkFL hk hm d nn _ (i + 1) (by omega) (by omega) ⟨?_, ⟨?_, ?_, ?_⟩, ⟨?_, ?_, ?_, ?_, ?_⟩, ?_, ⟨?_, ?_⟩, ?_⟩
    · exact bs_Ext_R (bs_Ext_same (bs_Ext_new h1 5 0 (cN 4)) ⟨s1, s2, s3, s4, s5, s6⟩ (by omega)) (by omega) _ _
    · exact (oth _ (by omega)).1.trans h2
    · exact kA
    · exact lA
    · exact (congrFun (oth _ (by omega)).2.2.1 0).trans g0
    · exact (congrFun (oth _ (by omega)).2.2.1 1).trans g1
    · exact (congrFun (oth _ (by omega)).2.2.1 2).trans g2
    · exact (congrFun (oth _ (by omega)).2.2.1 3).trans g3
    · exact (congrFun (oth _ (by omega)).2.2.1 4).trans g4
    · rw [bs_mR, if_neg (fun q => by omega)]
      exact (congrFun (oth _ (by omega)).2.2.2 5).trans h6
    · show mNx T1 = _
      omega
    · show mSl T1 = _
      omega
    · intro j hj
      by_cases c : j = i
      · subst c
        have ea : mNx S + 2 + j = mNx T := by omega
        refine ⟨?_, ?_, ?_⟩
        · rw [bs_mR, if_pos ⟨rfl, rfl⟩, ea]
        · rw [ea]
          show mKd T1 (mNx T) = 5
          rw [s4, mKd_new, if_pos rfl]
        · rw [ea]
          exact e3
      · obtain ⟨a1, a2, a3⟩ := h9 j (by omega)
        have ne : mNx S + 2 + j ≠ mNx T := by omega
        refine ⟨?_, (oth _ ne).1.trans a2, ?_⟩
        · rw [bs_mR, if_neg (fun q => c q.2)]
          exact (congrFun (oth _ (by omega)).2.2.2 j).trans a1
        · unfold bs_nr at a3 ⊢
          show mI T1 (mNx S + 2 + j) 0 = _ ∧ _
          have := (oth _ ne).2.2.1
          refine ⟨(congrFun this 0).trans a3.1, (congrFun this 1).trans a3.2.1, (congrFun this 2).trans a3.2.2.1, (congrFun this 3).trans a3.2.2.2.1, (congrFun this 4).trans a3.2.2.2.2.1, (congrFun this 5).trans a3.2.2.2.2.2.1, (congrFun this 6).trans a3.2.2.2.2.2.2⟩
theorem bs_mkF0 (S : Mem) {n k m : Nat} (hn : n < 30) (hk : k ≤ 3) (hm : m ≤ 18) : ∃ T2, c_X1_init (mNew S 2 0 (cN 1)) (mNx S) (nI n) (nI k) (nI m) = some T2 ∧ bs_mkF S T2 n k m m (if k = 3 then 16 else 10) ((1 : Int32) <<< (nI n &&& 31)) ∧ mR T2 (mNx S) 6 = none ∧ mR T2 (mNx S) 7 = none := by
  have c3 : nI k = (3 : Int32) ↔ k = 3 := nI_eq (b := 3) (by omega) (by omega)
  have hb : c_X5_baseOf (nI k) = some (if k = 3 then 16 else 10) := by
    unfold c_X5_baseOf
    by_cases q : k = 3
    · rw [if_pos (c3.mpr q), if_pos q]
    · rw [if_neg (fun z => q (c3.mp z)), if_neg q]
  have ok : newOK (nI m) = true := decide_eq_true ⟨nI_pos (by omega), by rw [bs_cl (by omega)]; omega⟩
  unfold c_X1_init
  rw [bs_let, bs_let, hb, bs_bnd, bs_let, bs_let, bs_let, bs_let, bs_let, if_neg (show ¬ nI m < 0 from nI_pos (by omega)), bs_gd ok, bs_let, bs_let, bs_let, bs_cl (by omega)]
  generalize (if k = 3 then (16 : Int32) else 10) = b
  generalize ((1 : Int32) <<< (nI n &&& 31)) = hs
  refine bs_mkFL (S := S) hk hm m bigN _ 0 (by omega) (by unfold bigN; omega) ?_
  have e0 : bs_Ext S (mNew S 2 0 (cN 1)) := bs_Ext_new (bs_Ext_refl S) _ _ _
  have e1 := bs_Ext_I (bs_Ext_I (bs_Ext_I (bs_Ext_I (bs_Ext_I e0 (Nat.le_refl _) 0 (nI n)) (Nat.le_refl _) 1 (nI k)) (Nat.le_refl _) 2 b) (Nat.le_refl _) 3 0) (Nat.le_refl _) 4 hs
  have ne : mNx S ≠ mNx S + 1 := by omega
  generalize hT : mSI (mSI (mSI (mSI (mSI (mNew S 2 0 (cN 1)) (mNx S) 0 (nI n)) (mNx S) 1 (nI k)) (mNx S) 2 b) (mNx S) 3 0) (mNx S) 4 hs = T at *
  have x1 : mNx T = mNx S + 1 := by rw [← hT]; rfl
  have x2 : mSl T = mSl S + 8 := by rw [← hT]; rfl
  have x3 : mKd T (mNx S) = 2 := by rw [← hT]; show mKd (mNew S 2 0 (cN 1)) (mNx S) = 2; rw [mKd_new, if_pos rfl]
  have xi : mI T (mNx S) 0 = nI n ∧ mI T (mNx S) 1 = nI k ∧ mI T (mNx S) 2 = b ∧ mI T (mNx S) 3 = 0 ∧ mI T (mNx S) 4 = hs := by
    rw [← hT]
    simp only [bs_mI]
    simp
  obtain ⟨o1, o2, o3⟩ := mNew_other T 12 m m (b := mNx S) (by omega)
  refine ⟨bs_Ext_R (bs_Ext_new e1 12 m m) (Nat.le_refl _) _ _, ⟨?_, ?_, ?_⟩, ⟨?_, ?_, ?_, ?_, ?_⟩, ?_, ⟨?_, ?_⟩, fun j hj => absurd hj (Nat.not_lt_zero _)⟩
  · show mKd (mNew T 12 m m) (mNx S) = 2
    rw [mKd_new, if_neg (by omega)]
    exact x3
  · show mKd (mNew T 12 m m) (mNx S + 1) = 12
    rw [mKd_new, if_pos x1.symm]
  · show mLn (mNew T 12 m m) (mNx S + 1) = m
    simp [mLn, mNew, up1, x1]
  · exact (congrFun o1 0).trans xi.1
  · exact (congrFun o1 1).trans xi.2.1
  · exact (congrFun o1 2).trans xi.2.2.1
  · exact (congrFun o1 3).trans xi.2.2.2.1
  · exact (congrFun o1 4).trans xi.2.2.2.2
  · rw [bs_mR, if_pos ⟨rfl, rfl⟩, x1]
  · show mNx T + 1 = _
    omega
  · show mSl T + m = _
    omega
/-- the reference's new rods -/
theorem bs_m_frL {n k m : Nat} (hn : n < 30) (hk : k ≤ 3) (hm : m ≤ 18) : ∀ d nn (X : MS) i, i + d = m → d < nn → (∀ j, j < 18 → nA X 10 (18 * n + j) = 0 ∧ nA X 11 (18 * n + j) = 0) →
    ∃ X2, m_X6_frame_L109 nn X (nI k) (nI m) (nI n) (nI i) = some (nI n, nSF X2 0 (nF X2 0 + 1)) ∧ nF X2 = nF X ∧ (∀ q, q < 8 ∨ 9 < q → nA X2 q = nA X q) ∧ nP X2 = nP X ∧ (∀ j, nA X2 8 j = if 18 * n + i ≤ j ∧ j < 18 * n + m then nI j else nA X 8 j) ∧ (∀ j, nA X2 9 j = if 18 * n + i ≤ j ∧ j < 18 * n + m then (if k = 2 then 1 else 2) else nA X 9 j)
  | d, 0, _, _, _, hn, _ => absurd hn (Nat.not_lt_zero _)
  | 0, nn + 1, X, i, hi, _, _ => by
    rw [m_X6_frame_L109, if_pos (nI_le (by omega) (by omega)), bs_let, bs_let]
    exact ⟨X, rfl, rfl, fun _ _ => rfl, rfl, fun j => by rw [if_neg (by omega)], fun j => by rw [if_neg (by omega)]⟩
  | d + 1, nn + 1, X, i, hi, hnn, hz => by
    have c2 : nI k = (2 : Int32) ↔ k = 2 := nI_eq (b := 2) (by omega) (by omega)
    rw [m_X6_frame_L109, if_neg (nI_ge (by omega) (by omega)), bs_let, show (18 : Int32) * nI n + nI i = nI (18 * n + i) from (by rw [show (18 : Int32) * nI n = nI (18 * n) from pk_mul 18 n, nI_add]), bs_gd (bs_inB (by omega) (by decide)), bs_let, bs_cl (by omega)]
    have key : ∀ w : Int32, w = (if k = 2 then 1 else 2) → ∃ X2, m_X6_frame_J149 (m_X6_frame_L109 nn) (nSA X 8 (18 * n + i) (nI (18 * n + i))) (nI k) (nI m) (nI n) (nI i) (nI (18 * n + i)) (nI (18 * n + i)) w = some (nI n, nSF X2 0 (nF X2 0 + 1)) ∧ nF X2 = nF X ∧ (∀ q, q < 8 ∨ 9 < q → nA X2 q = nA X q) ∧ nP X2 = nP X ∧ (∀ j, nA X2 8 j = if 18 * n + i ≤ j ∧ j < 18 * n + m then nI j else nA X 8 j) ∧ (∀ j, nA X2 9 j = if 18 * n + i ≤ j ∧ j < 18 * n + m then (if k = 2 then 1 else 2) else nA X 9 j) := by
      intro w hw
      unfold m_X6_frame_J149
      rw [bs_gd (bs_inB (by omega) (by decide)), bs_let, bs_gd (bs_inB (by omega) (by decide)), bs_let, bs_gd (bs_inB (by omega) (by decide)), bs_let, bs_cl (by omega), nI_1]
      have z := hz i (by omega)
      obtain ⟨X2, e1, e2, e3, e4, e5, e6⟩ := bs_m_frL hn hk hm d nn (nSA (nSA (nSA (nSA X 8 (18 * n + i) (nI (18 * n + i))) 9 (18 * n + i) w) 10 (18 * n + i) 0) 11 (18 * n + i) 0) (i + 1) (by omega) (by omega) (by
        intro j hj
        constructor
        · show (if 10 = 10 ∧ 18 * n + j = 18 * n + i then (0 : Int32) else nA X 10 (18 * n + j)) = 0
          split
          · rfl
          · exact (hz j hj).1
        · show (if 11 = 11 ∧ 18 * n + j = 18 * n + i then (0 : Int32) else nA X 11 (18 * n + j)) = 0
          split
          · rfl
          · exact (hz j hj).2)
      refine ⟨X2, e1, e2, ?_, e4, ?_, ?_⟩
      · intro q hq
        rw [e3 q hq]
        funext j
        by_cases q11 : q = 11
        · subst q11
          show (if 11 = 11 ∧ j = 18 * n + i then (0 : Int32) else nA X 11 j) = nA X 11 j
          split
          · rename_i c
            rw [c.2, z.2]
          · rfl
        · by_cases q10 : q = 10
          · subst q10
            show (if 10 = 10 ∧ j = 18 * n + i then (0 : Int32) else nA X 10 j) = nA X 10 j
            split
            · rename_i c
              rw [c.2, z.1]
            · rfl
          · rw [bs_nA, if_neg (fun c => q11 c.1), bs_nA, if_neg (fun c => q10 c.1), bs_nA, if_neg (fun c => by omega), bs_nA, if_neg (fun c => by omega)]
      · intro j
        rw [e5 j]
        by_cases c : 18 * n + (i + 1) ≤ j ∧ j < 18 * n + m
        · rw [if_pos c, if_pos (by omega)]
        · rw [if_neg c]
          show (if 8 = 8 ∧ j = 18 * n + i then nI (18 * n + i) else nA X 8 j) = _
          by_cases c2 : j = 18 * n + i
          · rw [if_pos ⟨rfl, c2⟩, if_pos (by omega), c2]
          · rw [if_neg (fun q => c2 q.2), if_neg (by omega)]
      · intro j
        rw [e6 j]
        by_cases c : 18 * n + (i + 1) ≤ j ∧ j < 18 * n + m
        · rw [if_pos c, if_pos (show 18 * n + i ≤ j ∧ j < 18 * n + m by omega)]
        · rw [if_neg c]
          show (if 9 = 9 ∧ j = 18 * n + i then w else nA X 9 j) = _
          by_cases c2 : j = 18 * n + i
          · rw [if_pos ⟨rfl, c2⟩, if_pos (by omega), hw]
          · rw [if_neg (fun q => c2 q.2), if_neg (by omega)]
    by_cases c : k = 2
    · rw [if_pos (c2.mpr c)]
      exact key 1 (if_pos c).symm
    · rw [if_neg (fun q => c (c2.mp q))]
      exact key 2 (if_neg c).symm
