/-! frame: the call -/
section BsFrame
variable {x0 s0 : Nat} {Y : bs_Ly} {S : Mem} {M : MS}
theorem bs_frNew (h : bs_Rel x0 s0 Y S M) {k m : Nat} (hn : bs_n M < 30) (hk : k ≤ 3) (hm : m ≤ 18) (hm2 : k = 3 → m ≤ 14) (b : Int32) (hb : b = if k = 3 then 16 else 10) :
    bs_OK x0 s0 Y (jLet (mNx S) fun a16 => jLet (mNew S 2 0 (cN 1)) fun S15 => bnd (c_X1_init S15 a16 (mI S15 (Y 0 0) 1) (nI k) (nI m)) fun S19 => bnd (ob S19 (mR S (Y 0 0) 0) 11) fun a21 => gd (inB (mI S (Y 0 0) 1) (mLn S19 a21)) (jLet (mSR S19 a21 (Int32.toNatClampNeg (mI S (Y 0 0) 1)) (some a16)) fun S25 => jLet ((mI S25 (Y 0 0) 1) + 1) fun i27_ => jLet (mSI S25 (Y 0 0) 1 i27_) fun S29 => some ((mI S29 (Y 0 0) 1) - 1, S29)))
      (jLet (nF M 0) fun i7_ => gd (inB i7_ 30) (jLet (nSA M 1 (Int32.toNatClampNeg i7_) (nI k)) fun S11 => gd (inB i7_ 30) (jLet (nSA S11 2 (Int32.toNatClampNeg i7_) (nI m)) fun S15 => m_X6_frame_J89 S15 (nI k) (nI m) i7_ i7_ b))) := by
  have lt := fun t i hv => bs_ltNx h (t := t) (i := i) hv
  have y0 : Y 0 0 < mNx S := lt 0 0 rfl
  have y9 : Y 9 0 < mNx S := lt 9 0 rfl
  have e1 : mI S (Y 0 0) 1 = nI (bs_n M) := (bs_i h 0 0 1 rfl rfl).trans (bs_nN h.1)
  have e2 : mI (mNew S 2 0 (cN 1)) (Y 0 0) 1 = nI (bs_n M) := (congrFun (mNew_other S 2 0 (cN 1) (b := Y 0 0) (by omega)).1 1).trans e1
  obtain ⟨T, t1, t2, t3, t4⟩ := bs_mkF0 S hn hk hm
  obtain ⟨g1, ⟨g2, g3, g4⟩, ⟨g5, g6, g7, g8, g9⟩, g10, ⟨g11, g12⟩, g13⟩ := t2
  have kd9 : mKd T (Y 9 0) = 11 := (g1.2.2 _ y9).1.trans (bs_kk h 9 0 rfl)
  have ln9 : mLn T (Y 9 0) = 30 := (g1.2.2 _ y9).2.1.trans h.2.1.2.2.1
  have i0T : mI T (Y 0 0) 1 = nI (bs_n M) := (congrFun (g1.2.2 _ y0).2.2.1 1).trans e1
  have d3 : mI (mSR T (Y 9 0) (bs_n M) (some (mNx S))) (Y 0 0) 1 = nI (bs_n M) := i0T
  have d4 : mI (mSI (mSR T (Y 9 0) (bs_n M) (some (mNx S))) (Y 0 0) 1 (nI (bs_n M + 1))) (Y 0 0) 1 = nI (bs_n M + 1) := by rw [bs_mI, if_pos ⟨rfl, rfl⟩]
  rw [bs_let, bs_let, e2, t1, bs_bnd, bs_q h 0 0 0 rfl rfl, bs_ob kd9, bs_bnd, e1, ln9, bs_gd (bs_inB hn (by decide)), bs_let, bs_let, bs_let, bs_cl (by omega), d3, nI_1, d4, nI_pred]
  -- the reference
  unfold m_X6_frame_J89
  rw [bs_let, bs_nN h.1, bs_gd (bs_inB hn (by decide)), bs_let, bs_gd (bs_inB hn (by decide)), bs_let, bs_gd (bs_inB hn (by decide)), bs_let, bs_gd (bs_inB hn (by decide)), bs_let, bs_let, bs_gd (bs_inB hn (by decide)), bs_let, bs_cl (by omega)]
  have zz := fun r hr => bs_zeros h.1 (r := r) hr
  obtain ⟨X2, x1, x2, x3, x4, x5, x6⟩ := bs_m_frL hn hk hm m bigN (nSA (nSA (nSA (nSA (nSA M 1 (bs_n M) (nI k)) 2 (bs_n M) (nI m)) 3 (bs_n M) b) 4 (bs_n M) 0) 7 (bs_n M) ((1 : Int32) <<< (nI (bs_n M) &&& 31))) 0 (by omega) (by unfold bigN; omega) (fun j hj => (zz (18 * bs_n M + j) (by omega) (by omega)).2)
  have x1' : m_X6_frame_L109 bigN (nSA (nSA (nSA (nSA (nSA M 1 (bs_n M) (nI k)) 2 (bs_n M) (nI m)) 3 (bs_n M) b) 4 (bs_n M) 0) 7 (bs_n M) ((1 : Int32) <<< (nI (bs_n M) &&& 31))) (nI k) (nI m) (nI (bs_n M)) 0 = some (nI (bs_n M), nSF X2 0 (nF X2 0 + 1)) := x1
  rw [x1', x2]
  have f0 : nF (nSA (nSA (nSA (nSA (nSA M 1 (bs_n M) (nI k)) 2 (bs_n M) (nI m)) 3 (bs_n M) b) 4 (bs_n M) 0) 7 (bs_n M) ((1 : Int32) <<< (nI (bs_n M) &&& 31))) 0 = nI (bs_n M) := (show nF M 0 = nI (bs_n M) from bs_nN h.1)
  rw [f0, nI_1]
  -- its numbers
  have A1 : ∀ q, q < 8 → q ≠ 1 → q ≠ 2 → q ≠ 3 → q ≠ 4 → q ≠ 7 → nA X2 q = nA M q := by
    intro q hq c1 c2 c3 c4 c7
    rw [x3 q (Or.inl hq)]
    funext j
    rw [bs_nA, if_neg (fun z => c7 z.1), bs_nA, if_neg (fun z => c4 z.1), bs_nA, if_neg (fun z => c3 z.1), bs_nA, if_neg (fun z => c2 z.1), bs_nA, if_neg (fun z => c1 z.1)]
  have v1 : nA X2 1 (bs_n M) = nI k := by rw [x3 1 (by decide)]; show nA (nSA M 1 (bs_n M) (nI k)) 1 (bs_n M) = nI k; rw [bs_nA, if_pos ⟨rfl, rfl⟩]
  have v2 : nA X2 2 (bs_n M) = nI m := by rw [x3 2 (by decide)]; show nA (nSA (nSA M 1 (bs_n M) (nI k)) 2 (bs_n M) (nI m)) 2 (bs_n M) = nI m; rw [bs_nA, if_pos ⟨rfl, rfl⟩]
  have v3 : nA X2 3 (bs_n M) = b := by rw [x3 3 (by decide)]; show nA (nSA (nSA (nSA M 1 (bs_n M) (nI k)) 2 (bs_n M) (nI m)) 3 (bs_n M) b) 3 (bs_n M) = b; rw [bs_nA, if_pos ⟨rfl, rfl⟩]
  have v4 : nA X2 4 (bs_n M) = 0 := by rw [x3 4 (by decide)]; show nA (nSA (nSA (nSA (nSA M 1 (bs_n M) (nI k)) 2 (bs_n M) (nI m)) 3 (bs_n M) b) 4 (bs_n M) 0) 4 (bs_n M) = 0; rw [bs_nA, if_pos ⟨rfl, rfl⟩]
  have v7 : nA X2 7 (bs_n M) = ((1 : Int32) <<< (nI (bs_n M) &&& 31)) := by rw [x3 7 (by decide), bs_nA, if_pos ⟨rfl, rfl⟩]
  have oj : ∀ q, q ≤ 7 → ∀ j, j ≠ bs_n M → nA X2 q j = nA M q j := by
    intro q hq j hj
    rw [x3 q (Or.inl (by omega)), bs_nA, if_neg (fun z => hj z.2), bs_nA, if_neg (fun z => hj z.2), bs_nA, if_neg (fun z => hj z.2), bs_nA, if_neg (fun z => hj z.2), bs_nA, if_neg (fun z => hj z.2)]
  have ob8 : ∀ q, 9 < q → nA X2 q = nA M q := by
    intro q hq
    rw [x3 q (Or.inr hq)]
    funext j
    rw [bs_nA, if_neg (fun z => by omega), bs_nA, if_neg (fun z => by omega), bs_nA, if_neg (fun z => by omega), bs_nA, if_neg (fun z => by omega), bs_nA, if_neg (fun z => by omega)]
  have M1 : bs_M1 M (nSF X2 0 (nI (bs_n M + 1))) := by
    refine ⟨bs_nF_eq _ _ _, ?_, oj, ?_, ?_, ⟨ob8 10 (by decide), ob8 11 (by decide)⟩, fun q hq => ob8 q (by omega), x4⟩
    · intro q hq
      show up1 X2.2.1 0 _ q = _
      unfold up1
      rw [if_neg hq]
      exact congrFun x2 q
    · intro j hj
      show nA X2 8 j = _
      rw [x5 j, if_neg (by omega)]
      rfl
    · intro j hj
      show nA X2 9 j = _
      rw [x6 j, if_neg (by omega)]
      rfl
  have hkk : bs_k (nSF X2 0 (nI (bs_n M + 1))) (bs_n M) = k := by show (nA X2 1 (bs_n M)).toNatClampNeg = k; rw [v1, bs_cl (by omega)]
  have hmm : bs_m (nSF X2 0 (nI (bs_n M + 1))) (bs_n M) = m := by show (nA X2 2 (bs_n M)).toNatClampNeg = m; rw [v2, bs_cl (by omega)]
  have hbb : b = nI (if k = 3 then 16 else 10) := by rw [hb]; split <;> rfl
  have hbv : bs_b (nSF X2 0 (nI (bs_n M + 1))) (bs_n M) = if k = 3 then 16 else 10 := by show (nA X2 3 (bs_n M)).toNatClampNeg = _; rw [v3, hbb, bs_cl (by split <;> omega)]
  have hdd : bs_d (nSF X2 0 (nI (bs_n M + 1))) (bs_n M) = 0 := by show (nA X2 4 (bs_n M)).toNatClampNeg = _; rw [v4]; rfl
  have hrr : ∀ i, i < m → bs_r (nSF X2 0 (nI (bs_n M + 1))) (bs_n M) i = 18 * bs_n M + i ∧ nA X2 8 (18 * bs_n M + i) = nI (18 * bs_n M + i) := by
    intro i hi
    have : nA X2 8 (18 * bs_n M + i) = nI (18 * bs_n M + i) := by rw [x5, if_pos (by omega)]
    refine ⟨?_, this⟩
    show (nA X2 8 (18 * bs_n M + i)).toNatClampNeg = _
    rw [this, bs_cl (by omega)]
  have hnn : bs_n (nSF X2 0 (nI (bs_n M + 1))) = bs_n M + 1 := by show (nF (nSF X2 0 (nI (bs_n M + 1))) 0).toNatClampNeg = _; rw [bs_nF_eq, bs_cl (by omega)]
  have k4 : k ≠ 4 := by omega
  have hFr : bs_Fr (nSF X2 0 (nI (bs_n M + 1))) (bs_n M) := by
    unfold bs_Fr
    rw [hkk, hmm, hbv, hdd]
    refine ⟨⟨v1, by omega⟩, ⟨v2, hm⟩, ⟨v3.trans hbb, ?_⟩, ⟨v4, by omega⟩, fun _ => rfl, fun q => absurd q k4, ?_⟩
    · by_cases c : k = 3
      · rw [if_pos c]; exact Or.inr ⟨rfl, hm2 c⟩
      · rw [if_neg c]; exact Or.inl rfl
    · intro i hi
      obtain ⟨r1, r2⟩ := hrr i hi
      rw [r1]
      refine ⟨r2, ⟨?_, ?_, ?_⟩, fun _ => rfl⟩
      · rw [hnn]; omega
      · rw [show (18 * bs_n M + i) / 18 = bs_n M by omega, hkk]; exact k4
      · rw [show (18 * bs_n M + i) / 18 = bs_n M by omega, hmm]; omega
  have hx6 : ∀ r, r / 18 = bs_n M → r < 540 → nA X2 9 r = 0 ∨ (nA X2 9 r = if k = 2 then 1 else 2) := by
    intro r hr hr5
    rw [x6 r]
    split
    · exact Or.inr rfl
    · left
      exact (zz r hr5 (by omega)).1
  have R := bs_addF (F := mNx S) (A := mNx S + 1) (R := fun i => mNx S + 2 + i) h hn g1 M1 hFr (by
      intro r hr hr2
      rw [hkk]
      refine ⟨?_, ⟨0, rfl, by omega, fun _ => by omega⟩, ⟨0, rfl, by omega, fun _ => rfl⟩⟩
      show -1 ≤ nA X2 9 r ∧ nA X2 9 r ≤ 2 ∧ (k = 2 → nA X2 9 r ≤ 1)
      rcases hx6 r hr2 hr with q | q
      · rw [q]; exact ⟨by decide, by decide, fun _ => by decide⟩
      · rw [q]
        by_cases c : k = 2
        · rw [if_pos c]; exact ⟨by decide, by decide, fun _ => by decide⟩
        · rw [if_neg c]; exact ⟨by decide, by decide, fun z => absurd z c⟩) (Nat.le_refl _) (by omega) (by omega) g2 g3 (by rw [hmm]; exact g4) g5 (g6.trans v1.symm) (by rw [g7, ← hb]; exact v3.symm) (g8.trans v4.symm) (g9.trans v7.symm) g10 (by rw [hkk, if_neg k4]; exact t3) (by rw [hkk, if_neg k4]; exact t4) (by
      rw [hmm]
      intro i hi
      rw [(hrr i hi).1, (g13 i hi).1]
      unfold bs_Yf
      rw [if_neg (fun q => absurd q.1 (by decide)), if_neg (fun q => absurd q.1 (by decide)), if_pos ⟨rfl, by omega⟩, show (18 * bs_n M + i) % 18 = i by omega]) (by
      rw [hmm]
      intro _ i hi
      obtain ⟨z1, z2, z3⟩ := g13 i hi
      refine ⟨by omega, by omega, by omega, z2, fun j _ e => by omega, ?_⟩
      intro q v hw
      have kr : bs_k (nSF X2 0 (nI (bs_n M + 1))) ((18 * bs_n M + i) / 18) = k := by rw [show (18 * bs_n M + i) / 18 = bs_n M by omega]; exact hkk
      have n9 : nA X2 9 (18 * bs_n M + i) = if k = 2 then 1 else 2 := by rw [x6, if_pos (by omega)]
      have n10 : nA X2 10 (18 * bs_n M + i) = 0 := by rw [ob8 10 (by decide)]; exact (zz _ (by omega) (by omega)).2.1
      have n11 : nA X2 11 (18 * bs_n M + i) = 0 := by rw [ob8 11 (by decide)]; exact (zz _ (by omega) (by omega)).2.2
      rcases q with _ | _ | _ | _ | _ | _ | _ | q
      · have hw : some (if bs_k (nSF X2 0 (nI (bs_n M + 1))) ((18 * bs_n M + i) / 18) = 2 then (1 : Int32) else 0) = some v := hw
        rw [kr] at hw
        exact z3.1.trans (Option.some.inj hw)
      · have hw : some (if bs_k (nSF X2 0 (nI (bs_n M + 1))) ((18 * bs_n M + i) / 18) = 2 then (1 : Int32) else 2) = some v := hw
        rw [kr] at hw
        exact z3.2.1.trans (Option.some.inj hw)
      · have hw : some (if bs_k (nSF X2 0 (nI (bs_n M + 1))) ((18 * bs_n M + i) / 18) = 2 then (10 : Int32) else if bs_k (nSF X2 0 (nI (bs_n M + 1))) ((18 * bs_n M + i) / 18) = 0 then 4 else 5) = some v := hw
        rw [kr] at hw
        exact z3.2.2.1.trans (Option.some.inj hw)
      · have hw : some (if bs_k (nSF X2 0 (nI (bs_n M + 1))) ((18 * bs_n M + i) / 18) = 2 then (0 : Int32) else if bs_k (nSF X2 0 (nI (bs_n M + 1))) ((18 * bs_n M + i) / 18) = 0 then 1 else 2) = some v := hw
        rw [kr] at hw
        exact z3.2.2.2.1.trans (Option.some.inj hw)
      · have hw : some (nA X2 9 (18 * bs_n M + i)) = some v := hw
        rw [n9] at hw
        exact z3.2.2.2.2.1.trans (Option.some.inj hw)
      · have hw : some (nA X2 10 (18 * bs_n M + i)) = some v := hw
        rw [n10] at hw
        exact z3.2.2.2.2.2.1.trans (Option.some.inj hw)
      · have hw : some (nA X2 11 (18 * bs_n M + i)) = some v := hw
        rw [n11] at hw
        exact z3.2.2.2.2.2.2.trans (Option.some.inj hw)
      · have hw : (none : Option Int32) = some v := hw
        cases hw) (by omega) (by omega)
  refine ⟨nI (bs_n M), _, _, _, rfl, rfl, R, ?_⟩
  show (bs_Yf Y (bs_n M) _ _ _ 0 0, bs_Yf Y (bs_n M) _ _ _ 14 0) = _
  unfold bs_Yf
  rw [if_neg (fun q => absurd q.1 (by decide)), if_neg (fun q => absurd q.1 (by decide)), if_neg (fun q => absurd q.1 (by decide)), if_neg (fun q => absurd q.1 (by decide)), if_neg (fun q => absurd q.1 (by decide)), if_neg (fun q => absurd q.1 (by decide))]
theorem bs_op_frame (h : bs_Rel x0 s0 Y S M) (x y : Int32) : bs_OK x0 s0 Y (c_X5_frame S (Y 0 0) x y) (m_X6_frame M x y) := by
  have hn30 := bs_n30 h.1
  unfold c_X5_frame m_X6_frame
  rcases bs_span x (n := 4) (by decide) with hx | ⟨k, hk, rfl⟩
  · rw [bs_in_d hx (by decide) 3 rfl, bs_bnd, if_pos rfl]
    by_cases c : x < 0
    · rw [if_pos c]
      exact bs_same h _
    · rw [if_neg c, if_pos]
      · exact bs_same h _
      · have := hx.resolve_left c
        rw [Int32.le_iff_toInt_le] at this
        rw [Int32.lt_iff_toInt_lt]
        have e3 : (3 : Int32).toInt = 3 := rfl
        have e4 : (nI 4).toInt = 4 := rfl
        omega
  · have c3 : nI k = (3 : Int32) ↔ k = 3 := nI_eq (b := 3) (by omega) (by omega)
    rw [bs_in_c hk (by decide) 3 rfl, bs_bnd, if_neg bs_10, if_neg (nI_pos (by omega)), if_neg (show ¬ (3 : Int32) < nI k from nI_nlt (b := k) (a := 3) (by omega) (by decide))]
    have main : ∀ (L b : Int32) (l : Nat), L = nI l → l ≤ 18 → (k = 3 → l ≤ 14) → b = (if k = 3 then 16 else 10) → (if nI k = 3 then m_X6_frame_J89 else m_X6_frame_J89) = m_X6_frame_J89 → ∀ (MJ : Option (Int32 × MS)), MJ = m_X6_frame_J25 M (nI k) y y L →
        bs_OK x0 s0 Y (if y ≤ L then (if (mI S (Y 0 0) 1) < 30 then (if 0 ≤ y then (jLet (mNx S) fun a16 => jLet (mNew S 2 0 (cN 1)) fun S15 => bnd (c_X1_init S15 a16 (mI S15 (Y 0 0) 1) (nI k) y) fun S19 => bnd (ob S19 (mR S (Y 0 0) 0) 11) fun a21 => gd (inB (mI S (Y 0 0) 1) (mLn S19 a21)) (jLet (mSR S19 a21 (Int32.toNatClampNeg (mI S (Y 0 0) 1)) (some a16)) fun S25 => jLet ((mI S25 (Y 0 0) 1) + 1) fun i27_ => jLet (mSI S25 (Y 0 0) 1 i27_) fun S29 => some ((mI S29 (Y 0 0) 1) - 1, S29))) else (bnd2 (c_X5_faulted S (Y 0 0) 4) fun a b => some (a, b))) else some (-4, S)) else some (-2, S)) MJ := by
      rintro L b l rfl hl hl3 hb - MJ rfl
      unfold m_X6_frame_J25
      by_cases c1 : y ≤ nI l
      · rw [if_pos c1, if_pos c1, bs_i h 0 0 1 rfl rfl, bs_nN h.1]
        by_cases c2 : bs_n M < 30
        · rw [if_pos (show nI (bs_n M) < 30 from nI_lt (b := 30) c2 (by decide)), if_neg (show ¬ nI (bs_n M) = 30 from fun q => absurd ((nI_eq (b := 30) (by omega) (by omega)).mp q) (by omega))]
          by_cases c4 : 0 ≤ y
          · obtain ⟨m, hm, rfl⟩ := nI_of2 (M := nI l) (n := l) (nI_toInt (by omega)) (bs_nle.mp c4) c1
            have := bs_frNew h (k := k) (m := m) c2 (by omega) (by omega) (fun q => by have := hl3 q; omega) b hb
            rw [bs_i h 0 0 1 rfl rfl, bs_nN h.1] at this
            rw [if_pos c4, if_pos c4]
            by_cases c5 : k = 3
            · simp only [if_pos (c3.mpr c5)]
              rw [hb, if_pos c5] at this
              exact this
            · have c5' : ¬ nI k = 3 := fun q => c5 (c3.mp q)
              simp only [if_neg c5']
              rw [hb, if_neg c5] at this
              exact this
          · rw [if_neg c4, if_neg c4]
            exact bs_flt h 4
        · rw [if_neg (show ¬ nI (bs_n M) < 30 from nI_nlt (b := 30) (by omega) (by omega)), if_pos (show nI (bs_n M) = 30 by rw [show bs_n M = 30 by omega]; rfl)]
          exact bs_same h _
      · rw [if_neg c1, if_neg c1]
        exact bs_same h _
    unfold c_X5_baseOf
    by_cases c5 : k = 3
    · rw [if_pos (c3.mpr c5), if_pos (c3.mpr c5), bs_bnd]
      unfold c_X5_mostRods
      rw [if_pos rfl, bs_bnd]
      exact main 14 16 14 rfl (by decide) (fun _ => Nat.le_refl _) (if_pos c5).symm (by split <;> rfl) _ rfl
    · rw [if_neg (fun q => c5 (c3.mp q)), if_neg (fun q => c5 (c3.mp q)), bs_bnd]
      unfold c_X5_mostRods
      rw [if_neg (by decide), bs_bnd]
      exact main 18 10 18 rfl (by decide) (fun q => absurd q c5) (if_neg c5).symm (by split <;> rfl) _ rfl
end BsFrame
