/-! both -/
section BsBoth
variable {x0 s0 : Nat} {Y : bs_Ly} {S : Mem} {M : MS}
/-- the rods of a frame of two -/
def bs_rr2 (M : MS) (f g i : Nat) : Nat := if i < bs_m M g then bs_r M g i else bs_r M f (i - bs_m M g)
theorem bs_rr2_rv (h : bs_Inv M) {f g i : Nat} (hf : f < bs_n M) (hg : g < bs_n M) (hi : i < bs_m M f + bs_m M g) : bs_rv M (bs_rr2 M f g i) := by
  unfold bs_rr2
  split
  · rename_i c
    exact bs_rV h hg c
  · exact bs_rV h hf (by omega)
def bs_mkB (Y : bs_Ly) (S T : Mem) (M : MS) (f g n m i : Nat) (b d hs : Int32) : Prop :=
  bs_Ext S T ∧ (mKd T (mNx S) = 2 ∧ mKd T (mNx S + 1) = 12 ∧ mLn T (mNx S + 1) = m) ∧ (mI T (mNx S) 0 = nI n ∧ mI T (mNx S) 1 = 4 ∧ mI T (mNx S) 2 = b ∧ mI T (mNx S) 3 = d ∧ mI T (mNx S) 4 = hs) ∧ mR T (mNx S) 5 = some (mNx S + 1) ∧
  (mNx T = mNx S + 2 ∧ mSl T = mSl S + 8 + m) ∧ ∀ j, j < i → mR T (mNx S + 1) j = some (Y 2 (bs_rr2 M f g j))
theorem bs_mkBL (h : bs_Rel x0 s0 Y S M) {f g n m : Nat} {b d hs : Int32} (hf : f < bs_n M) (hg : g < bs_n M) (hm : m = bs_m M f + bs_m M g) (hm18 : m ≤ 18) : ∀ e nn (T : Mem) i, i + e = m → e < nn → bs_mkB Y S T M f g n m i b d hs → ∃ T2, c_X1_init__L81 nn T (mNx S) (some (Y 1 f)) (some (Y 1 g)) (nI (bs_m M g)) (nI i) = some T2 ∧ bs_mkB Y S T2 M f g n m m b d hs ∧ mR T2 (mNx S) 6 = some (Y 1 f) ∧ mR T2 (mNx S) 7 = some (Y 1 g)
  | e, 0, _, _, _, hn, _ => absurd hn (Nat.not_lt_zero _)
  | 0, nn + 1, T, i, hi, _, q => by
    have : i = m := by omega
    rw [this] at q ⊢
    obtain ⟨h1, ⟨h2, h3, h4⟩, h5, h6, ⟨h7, h8⟩, h9⟩ := q
    rw [c_X1_init__L81, h6, bs_ob h3, bs_bnd, h4, if_pos (nI_le (Nat.le_refl _) (by omega)), bs_let, bs_let]
    refine ⟨_, rfl, ⟨bs_Ext_R (bs_Ext_R h1 (Nat.le_refl _) 6 _) (Nat.le_refl _) 7 _, ⟨h2, h3, h4⟩, h5, ?_, ⟨h7, h8⟩, ?_⟩, ?_, ?_⟩
    · rw [bs_mR, if_neg (fun q => absurd q.2 (by decide)), bs_mR, if_neg (fun q => absurd q.2 (by decide))]
      exact h6
    · intro j hj
      rw [bs_mR, if_neg (fun q => by omega), bs_mR, if_neg (fun q => by omega)]
      exact h9 j hj
    · rw [bs_mR, if_neg (fun q => absurd q.2 (by decide)), bs_mR, if_pos ⟨rfl, rfl⟩]
    · rw [bs_mR, if_pos ⟨rfl, rfl⟩]
  | e + 1, nn + 1, T, i, hi, hn, q => by
    obtain ⟨h1, ⟨h2, h3, h4⟩, h5, h6, ⟨h7, h8⟩, h9⟩ := q
    have lt := fun t i hv => bs_ltNx h (t := t) (i := i) hv
    have old := h1.2.2
    have nxt : ∃ T2, c_X1_init__L81 nn (mSR T (mNx S + 1) i (some (Y 2 (bs_rr2 M f g i)))) (mNx S) (some (Y 1 f)) (some (Y 1 g)) (nI (bs_m M g)) (nI (i + 1)) = some T2 ∧ bs_mkB Y S T2 M f g n m m b d hs ∧ mR T2 (mNx S) 6 = some (Y 1 f) ∧ mR T2 (mNx S) 7 = some (Y 1 g) := by
      refine bs_mkBL h hf hg hm hm18 e nn _ (i + 1) (by omega) (by omega) ⟨bs_Ext_R h1 (by omega) _ _, ⟨h2, h3, h4⟩, h5, ?_, ⟨h7, h8⟩, ?_⟩
      · rw [bs_mR, if_neg (fun q => by omega)]
        exact h6
      · intro j hj
        rw [bs_mR]
        by_cases c : j = i
        · rw [if_pos ⟨rfl, c⟩, c]
        · rw [if_neg (fun q => c q.2)]
          exact h9 j (by omega)
    have row : ∀ z a, z < bs_n M → a < bs_m M z → mR T (Y 1 z) 5 = some (Y 11 z) ∧ mKd T (Y 1 z) = 2 ∧ mKd T (Y 11 z) = 12 ∧ mLn T (Y 11 z) = bs_m M z ∧ mR T (Y 11 z) a = some (Y 2 (bs_r M z a)) ∧ mKd T (Y 2 (bs_r M z a)) = 5 := by
      intro z a hz ha
      have o1 := old _ (lt 1 z hz)
      have o11 := old _ (lt 11 z hz)
      have o2 := old _ (lt 2 _ (bs_rV h.1 hz ha))
      exact ⟨(congrFun o1.2.2.2.2 5).trans (bs_f5 h hz), o1.1.trans (bs_kk h 1 z hz), o11.1.trans (bs_kk h 11 z hz), o11.2.1.trans (bs_l11 h hz), (congrFun o11.2.2.2.2 a).trans (bs_rr h hz ha), o2.1.trans (bs_kk h 2 _ (bs_rV h.1 hz ha))⟩
    rw [c_X1_init__L81, h6, bs_ob h3, bs_bnd, h4, if_neg (nI_ge (by omega) (by omega))]
    by_cases c : i < bs_m M g
    · obtain ⟨r1, r2, r3, r4, r5, r6⟩ := row g i hg c
      have er : bs_rr2 M f g i = bs_r M g i := if_pos c
      rw [if_neg (nI_ge c (by omega)), bs_ob r2, bs_bnd, r1, bs_ob r3, bs_bnd, r4, bs_gd (bs_inB c (by omega)), bs_bnd, bs_cl (by omega), r5, bs_ob r6, bs_bnd, bs_gd (bs_inB (by omega) (by omega)), bs_let, nI_1, ← er]
      exact nxt
    · obtain ⟨r1, r2, r3, r4, r5, r6⟩ := row f (i - bs_m M g) hf (by omega)
      have er : bs_rr2 M f g i = bs_r M f (i - bs_m M g) := if_neg c
      rw [if_pos (nI_le (by omega) (by omega)), bs_ob r2, bs_bnd, r1, bs_ob r3, bs_bnd, r4, pk_sub (by omega), bs_gd (bs_inB (by omega) (by omega)), bs_bnd, bs_cl (by omega), r5, bs_ob r6, bs_bnd, bs_gd (bs_inB (by omega) (by omega)), bs_let, bs_cl (by omega), nI_1, ← er]
      exact nxt
theorem bs_mkB0 (h : bs_Rel x0 s0 Y S M) {f g n m : Nat} (hf : f < bs_n M) (hg : g < bs_n M) (hm : m = bs_m M f + bs_m M g) (hm18 : m ≤ 18) (dd : Int32) (hdd : dd = 1 + (if nI (bs_d M f) < nI (bs_d M g) then nI (bs_d M g) else nI (bs_d M f))) :
    ∃ T2, c_X1_init_ (mNew S 2 0 (cN 1)) (mNx S) (nI n) (some (Y 1 f)) (some (Y 1 g)) = some T2 ∧ bs_mkB Y S T2 M f g n m m (nI (bs_b M f)) dd ((nA M 7 f ||| nA M 7 g) ||| ((1 : Int32) <<< (nI n &&& 31))) ∧ mR T2 (mNx S) 6 = some (Y 1 f) ∧ mR T2 (mNx S) 7 = some (Y 1 g) := by
  have lt := fun t i hv => bs_ltNx h (t := t) (i := i) hv
  have lf := lt 1 f hf
  have lg := lt 1 g hg
  have l11f := lt 11 f hf
  have l11g := lt 11 g hg
  have e0 : bs_Ext S (mNew S 2 0 (cN 1)) := bs_Ext_new (bs_Ext_refl S) _ _ _
  have ok : newOK (nI m) = true := decide_eq_true ⟨nI_pos (by omega), by rw [bs_cl (by omega)]; omega⟩
  -- old cells, while the new one is filled
  have rd : ∀ T, bs_Ext S T → mKd T (Y 1 f) = 2 ∧ mKd T (Y 1 g) = 2 ∧ mI T (Y 1 f) 2 = nI (bs_b M f) ∧ mI T (Y 1 f) 3 = nI (bs_d M f) ∧ mI T (Y 1 g) 3 = nI (bs_d M g) ∧ mI T (Y 1 f) 4 = nA M 7 f ∧ mI T (Y 1 g) 4 = nA M 7 g ∧ mR T (Y 1 f) 5 = some (Y 11 f) ∧ mR T (Y 1 g) 5 = some (Y 11 g) ∧ mKd T (Y 11 f) = 12 ∧ mKd T (Y 11 g) = 12 ∧ mLn T (Y 11 f) = bs_m M f ∧ mLn T (Y 11 g) = bs_m M g := by
    intro T hT
    have o1 := hT.2.2 _ lf
    have o2 := hT.2.2 _ lg
    have o3 := hT.2.2 _ l11f
    have o4 := hT.2.2 _ l11g
    exact ⟨o1.1.trans (bs_kk h 1 f hf), o2.1.trans (bs_kk h 1 g hg), (congrFun o1.2.2.1 2).trans (bs_f2 h hf), (congrFun o1.2.2.1 3).trans (bs_f3 h hf), (congrFun o2.2.2.1 3).trans (bs_f3 h hg), (congrFun o1.2.2.1 4).trans (bs_f4 h hf), (congrFun o2.2.2.1 4).trans (bs_f4 h hg), (congrFun o1.2.2.2.2 5).trans (bs_f5 h hf), (congrFun o2.2.2.2.2 5).trans (bs_f5 h hg), o3.1.trans (bs_kk h 11 f hf), o4.1.trans (bs_kk h 11 g hg), o3.2.1.trans (bs_l11 h hf), o4.2.1.trans (bs_l11 h hg)⟩
  unfold c_X1_init_
  rw [bs_let, bs_let]
  have x3 := bs_Ext_I (bs_Ext_I e0 (Nat.le_refl _) 0 (nI n)) (Nat.le_refl _) 1 4
  obtain ⟨a1, a2, a3, -⟩ := rd _ x3
  rw [bs_ob a1, bs_bnd, bs_let, bs_let, a3]
  have x9 := bs_Ext_I x3 (Nat.le_refl _) 2 (nI (bs_b M f))
  obtain ⟨-, b2, -, b4, b5, -⟩ := rd _ x9
  rw [bs_ob b2, bs_bnd, bs_let, bs_let, b4, b5, ← hdd]
  have x15 := bs_Ext_I x9 (Nat.le_refl _) 3 dd
  obtain ⟨-, -, -, -, -, c6, c7, -⟩ := rd _ x15
  rw [bs_let, bs_let, c6, c7]
  generalize ((nA M 7 f ||| nA M 7 g) ||| ((1 : Int32) <<< (nI n &&& 31))) = hs
  have x19 := bs_Ext_I x15 (Nat.le_refl _) 4 hs
  obtain ⟨-, -, -, -, -, -, -, d8, d9, d10, d11, d12, d13⟩ := rd _ x19
  rw [d9, bs_ob d11, bs_bnd, bs_let, d13, d8, bs_ob d10, bs_bnd, bs_let, d12, nI_add, show bs_m M g + bs_m M f = m by omega, bs_gd ok, bs_let, bs_let, bs_let, bs_cl (by omega)]
  refine bs_mkBL h hf hg hm hm18 m bigN _ 0 (by omega) (by unfold bigN; omega) ?_
  generalize hT : mSI (mSI (mSI (mSI (mSI (mNew S 2 0 (cN 1)) (mNx S) 0 (nI n)) (mNx S) 1 4) (mNx S) 2 (nI (bs_b M f))) (mNx S) 3 dd) (mNx S) 4 hs = T at *
  have y1 : mNx T = mNx S + 1 := by rw [← hT]; rfl
  have y2 : mSl T = mSl S + 8 := by rw [← hT]; rfl
  have y3 : mKd T (mNx S) = 2 := by rw [← hT]; show mKd (mNew S 2 0 (cN 1)) (mNx S) = 2; rw [mKd_new, if_pos rfl]
  have yi : mI T (mNx S) 0 = nI n ∧ mI T (mNx S) 1 = 4 ∧ mI T (mNx S) 2 = nI (bs_b M f) ∧ mI T (mNx S) 3 = dd ∧ mI T (mNx S) 4 = hs := by
    rw [← hT]
    simp only [bs_mI]
    simp
  obtain ⟨o1, o2, o3⟩ := mNew_other T 12 m m (b := mNx S) (by omega)
  refine ⟨bs_Ext_R (bs_Ext_new x19 12 m m) (Nat.le_refl _) _ _, ⟨?_, ?_, ?_⟩, ⟨?_, ?_, ?_, ?_, ?_⟩, ?_, ⟨?_, ?_⟩, fun j hj => absurd hj (Nat.not_lt_zero _)⟩
  · show mKd (mNew T 12 m m) (mNx S) = 2
    rw [mKd_new, if_neg (by omega)]
    exact y3
  · show mKd (mNew T 12 m m) (mNx S + 1) = 12
    rw [mKd_new, if_pos y1.symm]
  · show mLn (mNew T 12 m m) (mNx S + 1) = m
    simp [mLn, mNew, up1, y1]
  · exact (congrFun o1 0).trans yi.1
  · exact (congrFun o1 1).trans yi.2.1
  · exact (congrFun o1 2).trans yi.2.2.1
  · exact (congrFun o1 3).trans yi.2.2.2.1
  · exact (congrFun o1 4).trans yi.2.2.2.2
  · rw [bs_mR, if_pos ⟨rfl, rfl⟩, y1]
  · show mNx T + 1 = _
    omega
  · show mSl T + m = _
    omega
theorem bs_m_boL {n f g mf mg : Nat} (hn : n < 30) (hf : f < n) (hg : g < n) (hm18 : mf + mg ≤ 18) (rr : Nat → Nat) : ∀ e nn (X : MS) i, i + e = mf + mg → e < nn → nA X 2 n = nI (mf + mg) → nA X 2 g = nI mg → (∀ j, j < mg → nA X 8 (18 * g + j) = nI (rr j)) → (∀ j, j < mf → nA X 8 (18 * f + j) = nI (rr (mg + j))) →
    ∃ X2, m_X6_both_L235 nn X (nI f) (nI g) (nI n) (nI i) = some (nI n, nSF X2 0 (nF X2 0 + 1)) ∧ nF X2 = nF X ∧ (∀ q, q ≠ 8 → nA X2 q = nA X q) ∧ nP X2 = nP X ∧ ∀ j, nA X2 8 j = if 18 * n + i ≤ j ∧ j < 18 * n + (mf + mg) then nI (rr (j - 18 * n)) else nA X 8 j
  | e, 0, _, _, _, hn, _, _, _, _ => absurd hn (Nat.not_lt_zero _)
  | 0, nn + 1, X, i, hi, _, h2, _, _, _ => by
    rw [m_X6_both_L235, bs_gd (bs_inB (n := n) (by omega) (by decide)), bs_cl (n := n) (by omega), h2, if_pos (nI_le (by omega) (by omega)), bs_let, bs_let]
    exact ⟨X, rfl, rfl, fun _ _ => rfl, rfl, fun j => by rw [if_neg (by omega)]⟩
  | e + 1, nn + 1, X, i, hi, hnn, h2, h2g, hrg, hrf => by
    have key : ∃ X2, m_X6_both_L235 nn (nSA X 8 (18 * n + i) (nI (rr i))) (nI f) (nI g) (nI n) (nI (i + 1)) = some (nI n, nSF X2 0 (nF X2 0 + 1)) ∧ nF X2 = nF X ∧ (∀ q, q ≠ 8 → nA X2 q = nA X q) ∧ nP X2 = nP X ∧ ∀ j, nA X2 8 j = if 18 * n + i ≤ j ∧ j < 18 * n + (mf + mg) then nI (rr (j - 18 * n)) else nA X 8 j := by
      obtain ⟨X2, e1, e2, e3, e4, e5⟩ := bs_m_boL hn hf hg hm18 rr e nn (nSA X 8 (18 * n + i) (nI (rr i))) (i + 1) (by omega) (by omega) h2 h2g (by
        intro j hj
        rw [bs_nA, if_neg (fun q => by omega)]
        exact hrg j hj) (by
        intro j hj
        rw [bs_nA, if_neg (fun q => by omega)]
        exact hrf j hj)
      refine ⟨X2, e1, e2, ?_, e4, ?_⟩
      · intro q hq
        rw [e3 q hq]
        funext j
        rw [bs_nA, if_neg (fun z => hq z.1)]
      · intro j
        rw [e5 j]
        by_cases c : 18 * n + (i + 1) ≤ j ∧ j < 18 * n + (mf + mg)
        · rw [if_pos c, if_pos (by omega)]
        · rw [if_neg c, bs_nA]
          by_cases c2 : j = 18 * n + i
          · rw [if_pos ⟨rfl, c2⟩, if_pos (by omega), c2, show 18 * n + i - 18 * n = i by omega]
          · rw [if_neg (fun q => c2 q.2), if_neg (by omega)]
    have e18 : (18 : Int32) * nI n + nI i = nI (18 * n + i) := by rw [show (18 : Int32) * nI n = nI (18 * n) from pk_mul 18 n, nI_add]
    rw [m_X6_both_L235, bs_gd (bs_inB (n := n) (by omega) (by decide)), bs_cl (n := n) (by omega), h2, if_neg (nI_ge (by omega) (by omega)), bs_gd (bs_inB (n := g) (by omega) (by decide)), bs_gd (bs_inB (n := g) (by omega) (by decide)), bs_cl (n := g) (by omega), h2g, e18]
    unfold m_X6_rodOf
    by_cases c : i < mg
    · rw [if_neg (nI_ge c (by omega)), show (18 : Int32) * nI g + nI i = nI (18 * g + i) from (by rw [show (18 : Int32) * nI g = nI (18 * g) from pk_mul 18 g, nI_add]), bs_gd (bs_inB (n := 18 * g + i) (by omega) (by decide)), bs_cl (n := 18 * g + i) (by omega), hrg i c, bs_bnd, bs_gd (bs_inB (n := 18 * n + i) (by omega) (by decide)), bs_let, bs_cl (n := 18 * n + i) (by omega), nI_1]
      exact key
    · rw [if_pos (nI_le (by omega) (by omega)), pk_sub (show mg ≤ i by omega), show (18 : Int32) * nI f + nI (i - mg) = nI (18 * f + (i - mg)) from (by rw [show (18 : Int32) * nI f = nI (18 * f) from pk_mul 18 f, nI_add]), bs_gd (bs_inB (n := 18 * f + (i - mg)) (by omega) (by decide)), bs_cl (n := 18 * f + (i - mg)) (by omega), hrf (i - mg) (by omega), bs_bnd, bs_gd (bs_inB (n := 18 * n + i) (by omega) (by decide)), bs_let, bs_cl (n := 18 * n + i) (by omega), nI_1, show mg + (i - mg) = i by omega]
      exact key
end BsBoth
