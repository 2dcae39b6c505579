/-! both: the call -/
section BsBoth2
variable {x0 s0 : Nat} {Y : bs_Ly} {S : Mem} {M : MS}
theorem bs_boNew (h : bs_Rel x0 s0 Y S M) {f g : Nat} (hf : f < bs_n M) (hg : g < bs_n M) (hn : bs_n M < 30) (hb : bs_b M f = bs_b M g) (hm18 : bs_m M f + bs_m M g ≤ 18) (hm14 : bs_b M f = 16 → bs_m M f + bs_m M g ≤ 14) (D : Nat) (hD : D = max (bs_d M f) (bs_d M g)) (hD5 : D < 5) :
    bs_OK x0 s0 Y (jLet (mNx S) fun a30 => jLet (mNew S 2 0 (cN 1)) fun S29 => bnd (c_X1_init_ S29 a30 (mI S29 (Y 0 0) 1) (some (Y 1 f)) (some (Y 1 g))) fun S33 => bnd (ob S33 (mR S (Y 0 0) 0) 11) fun a35 => gd (inB (mI S (Y 0 0) 1) (mLn S33 a35)) (jLet (mSR S33 a35 (Int32.toNatClampNeg (mI S (Y 0 0) 1)) (some a30)) fun S39 => jLet ((mI S39 (Y 0 0) 1) + 1) fun i41_ => jLet (mSI S39 (Y 0 0) 1 i41_) fun S43 => some ((mI S43 (Y 0 0) 1) - 1, S43)))
      (m_X6_both_L235 bigN (nSA (nSA (nSA (nSA (nSA (nSA (nSA M 1 (bs_n M) 4) 2 (bs_n M) (nI (bs_m M f + bs_m M g))) 3 (bs_n M) (nI (bs_b M f))) 4 (bs_n M) (nI (D + 1))) 5 (bs_n M) (nI f)) 6 (bs_n M) (nI g)) 7 (bs_n M) ((nA M 7 f ||| nA M 7 g) ||| ((1 : Int32) <<< (nI (bs_n M) &&& 31)))) (nI f) (nI g) (nI (bs_n M)) 0) := by
  have hn30 := bs_n30 h.1
  have lt := fun t i hv => bs_ltNx h (t := t) (i := i) hv
  have y0 : Y 0 0 < mNx S := lt 0 0 rfl
  have y9 : Y 9 0 < mNx S := lt 9 0 rfl
  have dlf := (bs_fr h.1 hf).2.2.2.1.2
  have dlg := (bs_fr h.1 hg).2.2.2.1.2
  have hbb := bs_bb h.1 hf
  have e1 : mI S (Y 0 0) 1 = nI (bs_n M) := (bs_i h 0 0 1 rfl rfl).trans (bs_nN h.1)
  have e2 : mI (mNew S 2 0 (cN 1)) (Y 0 0) 1 = nI (bs_n M) := (congrFun (mNew_other S 2 0 (cN 1) (b := Y 0 0) (by omega)).1 1).trans e1
  have hdd : nI (D + 1) = 1 + (if nI (bs_d M f) < nI (bs_d M g) then nI (bs_d M g) else nI (bs_d M f)) := by
    rw [hD]
    by_cases c : bs_d M f < bs_d M g
    · rw [if_pos (nI_lt c (by omega)), show max (bs_d M f) (bs_d M g) = bs_d M g by omega, Int32.add_comm, nI_1]
    · rw [if_neg (nI_nlt (by omega) (by omega)), show max (bs_d M f) (bs_d M g) = bs_d M f by omega, Int32.add_comm, nI_1]
  obtain ⟨T, t1, t2, t3, t4⟩ := bs_mkB0 h (n := bs_n M) hf hg rfl hm18 (nI (D + 1)) hdd
  obtain ⟨g1, ⟨g2, g3, g4⟩, ⟨g5, g6, g7, g8, g9⟩, g10, ⟨g11, g12⟩, g13⟩ := t2
  have kd9 : mKd T (Y 9 0) = 11 := (g1.2.2 _ y9).1.trans (bs_kk h 9 0 rfl)
  have ln9 : mLn T (Y 9 0) = 30 := (g1.2.2 _ y9).2.1.trans h.2.1.2.2.1
  have i0T : mI T (Y 0 0) 1 = nI (bs_n M) := (congrFun (g1.2.2 _ y0).2.2.1 1).trans e1
  have d3 : mI (mSR T (Y 9 0) (bs_n M) (some (mNx S))) (Y 0 0) 1 = nI (bs_n M) := i0T
  have d4 : mI (mSI (mSR T (Y 9 0) (bs_n M) (some (mNx S))) (Y 0 0) 1 (nI (bs_n M + 1))) (Y 0 0) 1 = nI (bs_n M + 1) := by rw [bs_mI, if_pos ⟨rfl, rfl⟩]
  rw [bs_let, bs_let, e2, t1, bs_bnd, bs_q h 0 0 0 rfl rfl, bs_ob kd9, bs_bnd, e1, ln9, bs_gd (bs_inB hn (by decide)), bs_let, bs_let, bs_let, bs_cl (by omega), d3, nI_1, d4, nI_pred]
  generalize hhs : ((nA M 7 f ||| nA M 7 g) ||| ((1 : Int32) <<< (nI (bs_n M) &&& 31))) = hs at *
  have nf : f ≠ bs_n M := by omega
  have ng : g ≠ bs_n M := by omega
  obtain ⟨X2, x1, x2, x3, x4, x5⟩ := bs_m_boL (n := bs_n M) (f := f) (g := g) (mf := bs_m M f) (mg := bs_m M g) hn hf hg hm18 (bs_rr2 M f g) (bs_m M f + bs_m M g) bigN (nSA (nSA (nSA (nSA (nSA (nSA (nSA M 1 (bs_n M) 4) 2 (bs_n M) (nI (bs_m M f + bs_m M g))) 3 (bs_n M) (nI (bs_b M f))) 4 (bs_n M) (nI (D + 1))) 5 (bs_n M) (nI f)) 6 (bs_n M) (nI g)) 7 (bs_n M) hs) 0 (by omega) (by unfold bigN; omega) (by
      show nA (nSA (nSA M 1 (bs_n M) 4) 2 (bs_n M) (nI (bs_m M f + bs_m M g))) 2 (bs_n M) = _
      rw [bs_nA, if_pos ⟨rfl, rfl⟩]) (by
      show nA (nSA (nSA M 1 (bs_n M) 4) 2 (bs_n M) (nI (bs_m M f + bs_m M g))) 2 g = _
      rw [bs_nA, if_neg (fun q => ng q.2)]
      exact bs_mN h.1 hg) (by
      intro j hj
      show nA M 8 (18 * g + j) = _
      rw [bs_rN h.1 hg hj]
      unfold bs_rr2
      rw [if_pos hj]) (by
      intro j hj
      show nA M 8 (18 * f + j) = _
      rw [bs_rN h.1 hf hj]
      unfold bs_rr2
      rw [if_neg (by omega), show bs_m M g + j - bs_m M g = j by omega])
  have x1' : m_X6_both_L235 bigN (nSA (nSA (nSA (nSA (nSA (nSA (nSA M 1 (bs_n M) 4) 2 (bs_n M) (nI (bs_m M f + bs_m M g))) 3 (bs_n M) (nI (bs_b M f))) 4 (bs_n M) (nI (D + 1))) 5 (bs_n M) (nI f)) 6 (bs_n M) (nI g)) 7 (bs_n M) hs) (nI f) (nI g) (nI (bs_n M)) 0 = some (nI (bs_n M), nSF X2 0 (nF X2 0 + 1)) := x1
  rw [x1', x2]
  have f0 : nF (nSA (nSA (nSA (nSA (nSA (nSA (nSA M 1 (bs_n M) 4) 2 (bs_n M) (nI (bs_m M f + bs_m M g))) 3 (bs_n M) (nI (bs_b M f))) 4 (bs_n M) (nI (D + 1))) 5 (bs_n M) (nI f)) 6 (bs_n M) (nI g)) 7 (bs_n M) hs) 0 = nI (bs_n M) := (show nF M 0 = nI (bs_n M) from bs_nN h.1)
  rw [f0, nI_1]
  have zz := fun r hr => bs_zeros h.1 (r := r) hr
  have v1 : nA X2 1 (bs_n M) = 4 := by rw [x3 1 (by decide)]; show nA (nSA M 1 (bs_n M) 4) 1 (bs_n M) = 4; rw [bs_nA, if_pos ⟨rfl, rfl⟩]
  have v2 : nA X2 2 (bs_n M) = nI (bs_m M f + bs_m M g) := by rw [x3 2 (by decide)]; show nA (nSA (nSA M 1 (bs_n M) 4) 2 (bs_n M) (nI (bs_m M f + bs_m M g))) 2 (bs_n M) = _; rw [bs_nA, if_pos ⟨rfl, rfl⟩]
  have v3 : nA X2 3 (bs_n M) = nI (bs_b M f) := by rw [x3 3 (by decide)]; show nA (nSA (nSA (nSA M 1 (bs_n M) 4) 2 (bs_n M) (nI (bs_m M f + bs_m M g))) 3 (bs_n M) (nI (bs_b M f))) 3 (bs_n M) = _; rw [bs_nA, if_pos ⟨rfl, rfl⟩]
  have v4 : nA X2 4 (bs_n M) = nI (D + 1) := by rw [x3 4 (by decide)]; show nA (nSA (nSA (nSA (nSA M 1 (bs_n M) 4) 2 (bs_n M) (nI (bs_m M f + bs_m M g))) 3 (bs_n M) (nI (bs_b M f))) 4 (bs_n M) (nI (D + 1))) 4 (bs_n M) = _; rw [bs_nA, if_pos ⟨rfl, rfl⟩]
  have v5 : nA X2 5 (bs_n M) = nI f := by rw [x3 5 (by decide)]; show nA (nSA (nSA (nSA (nSA (nSA M 1 (bs_n M) 4) 2 (bs_n M) (nI (bs_m M f + bs_m M g))) 3 (bs_n M) (nI (bs_b M f))) 4 (bs_n M) (nI (D + 1))) 5 (bs_n M) (nI f)) 5 (bs_n M) = _; rw [bs_nA, if_pos ⟨rfl, rfl⟩]
  have v6 : nA X2 6 (bs_n M) = nI g := by rw [x3 6 (by decide)]; show nA (nSA (nSA (nSA (nSA (nSA (nSA M 1 (bs_n M) 4) 2 (bs_n M) (nI (bs_m M f + bs_m M g))) 3 (bs_n M) (nI (bs_b M f))) 4 (bs_n M) (nI (D + 1))) 5 (bs_n M) (nI f)) 6 (bs_n M) (nI g)) 6 (bs_n M) = _; rw [bs_nA, if_pos ⟨rfl, rfl⟩]
  have v7 : nA X2 7 (bs_n M) = hs := by rw [x3 7 (by decide), bs_nA, if_pos ⟨rfl, rfl⟩]
  have oj : ∀ q, q ≤ 7 → ∀ j, j ≠ bs_n M → nA X2 q j = nA M q j := by
    intro q hq j hj
    rw [x3 q (by omega), bs_nA, if_neg (fun z => hj z.2), bs_nA, if_neg (fun z => hj z.2), bs_nA, if_neg (fun z => hj z.2), bs_nA, if_neg (fun z => hj z.2), bs_nA, if_neg (fun z => hj z.2), bs_nA, if_neg (fun z => hj z.2), bs_nA, if_neg (fun z => hj z.2)]
  have ob8 : ∀ q, 8 < q → nA X2 q = nA M q := by
    intro q hq
    rw [x3 q (by omega)]
    funext j
    rw [bs_nA, if_neg (fun z => by omega), bs_nA, if_neg (fun z => by omega), bs_nA, if_neg (fun z => by omega), bs_nA, if_neg (fun z => by omega), bs_nA, if_neg (fun z => by omega), bs_nA, if_neg (fun z => by omega), bs_nA, if_neg (fun z => by omega)]
  have M1 : bs_M1 M (nSF X2 0 (nI (bs_n M + 1))) := by
    refine ⟨bs_nF_eq _ _ _, ?_, oj, ?_, ?_, ⟨ob8 10 (by decide), ob8 11 (by decide)⟩, fun q hq => ob8 q (by omega), x4⟩
    · intro q hq
      show up1 X2.2.1 0 _ q = _
      unfold up1
      rw [if_neg hq]
      exact congrFun x2 q
    · intro j hj
      show nA X2 8 j = _
      rw [x5 j, if_neg (by omega)]
      rfl
    · intro j hj
      exact congrFun (ob8 9 (by decide)) j
  have hkk : bs_k (nSF X2 0 (nI (bs_n M + 1))) (bs_n M) = 4 := by show (nA X2 1 (bs_n M)).toNatClampNeg = 4; rw [v1]; rfl
  have hmm : bs_m (nSF X2 0 (nI (bs_n M + 1))) (bs_n M) = bs_m M f + bs_m M g := by show (nA X2 2 (bs_n M)).toNatClampNeg = _; rw [v2, bs_cl (by omega)]
  have hbv : bs_b (nSF X2 0 (nI (bs_n M + 1))) (bs_n M) = bs_b M f := by show (nA X2 3 (bs_n M)).toNatClampNeg = _; rw [v3, bs_cl (by omega)]
  have hdv : bs_d (nSF X2 0 (nI (bs_n M + 1))) (bs_n M) = D + 1 := by show (nA X2 4 (bs_n M)).toNatClampNeg = _; rw [v4, bs_cl (by omega)]
  have hdo : ∀ q, q ≠ bs_n M → bs_d (nSF X2 0 (nI (bs_n M + 1))) q = bs_d M q := fun q hq => by show (nA X2 4 q).toNatClampNeg = _; rw [oj 4 (by decide) q hq]; rfl
  have h1v : bs_1 (nSF X2 0 (nI (bs_n M + 1))) (bs_n M) = f := by show (nA X2 5 (bs_n M)).toNatClampNeg = _; rw [v5, bs_cl (by omega)]
  have h2v : bs_2 (nSF X2 0 (nI (bs_n M + 1))) (bs_n M) = g := by show (nA X2 6 (bs_n M)).toNatClampNeg = _; rw [v6, bs_cl (by omega)]
  have hnn : bs_n (nSF X2 0 (nI (bs_n M + 1))) = bs_n M + 1 := by show (nF (nSF X2 0 (nI (bs_n M + 1))) 0).toNatClampNeg = _; rw [bs_nF_eq, bs_cl (by omega)]
  have hrr : ∀ i, i < bs_m M f + bs_m M g → bs_r (nSF X2 0 (nI (bs_n M + 1))) (bs_n M) i = bs_rr2 M f g i ∧ nA X2 8 (18 * bs_n M + i) = nI (bs_rr2 M f g i) := by
    intro i hi
    have hv := bs_rv540 h.1 (bs_rr2_rv h.1 hf hg hi)
    have : nA X2 8 (18 * bs_n M + i) = nI (bs_rr2 M f g i) := by rw [x5, if_pos (by omega), show 18 * bs_n M + i - 18 * bs_n M = i by omega]
    refine ⟨?_, this⟩
    show (nA X2 8 (18 * bs_n M + i)).toNatClampNeg = _
    rw [this, bs_cl (by omega)]
  have hrv : ∀ r, bs_rv M r → bs_rv (nSF X2 0 (nI (bs_n M + 1))) r := by
    intro r hr
    have := hr.1
    refine ⟨by rw [hnn]; omega, ?_, ?_⟩
    · show (nA X2 1 (r / 18)).toNatClampNeg ≠ 4
      rw [oj 1 (by decide) _ (by omega)]
      exact hr.2.1
    · show r % 18 < (nA X2 2 (r / 18)).toNatClampNeg
      rw [oj 2 (by decide) _ (by omega)]
      exact hr.2.2
  have hFr : bs_Fr (nSF X2 0 (nI (bs_n M + 1))) (bs_n M) := by
    unfold bs_Fr
    rw [hkk, hmm, hbv, hdv, h1v, h2v, hdo f nf, hdo g ng]
    refine ⟨⟨v1, by decide⟩, ⟨v2, hm18⟩, ⟨v3, ?_⟩, ⟨v4, by omega⟩, fun q => absurd rfl q, fun _ => ⟨⟨v5, hf, by omega⟩, v6, hg, by omega⟩, ?_⟩
    · rcases hbb with q | q
      · exact Or.inl q
      · exact Or.inr ⟨q, hm14 q⟩
    · intro i hi
      obtain ⟨r1, r2⟩ := hrr i hi
      rw [r1]
      exact ⟨r2, hrv _ (bs_rr2_rv h.1 hf hg hi), fun q => absurd rfl q⟩
  have R := bs_addF (F := mNx S) (A := mNx S + 1) (R := fun i => mNx S + 2 + i) h hn g1 M1 hFr (by
      intro r hr hr2
      rw [hkk]
      refine ⟨?_, ⟨0, rfl, by omega, fun _ => by omega⟩, ⟨0, rfl, by omega, fun _ => rfl⟩⟩
      show -1 ≤ nA X2 9 r ∧ nA X2 9 r ≤ 2 ∧ (4 = 2 → nA X2 9 r ≤ 1)
      rw [ob8 9 (by decide), (zz r hr (by omega)).1]
      exact ⟨by decide, by decide, fun _ => by decide⟩) (Nat.le_refl _) (by omega) (by omega) g2 g3 (by rw [hmm]; exact g4) g5 (g6.trans v1.symm) (g7.trans v3.symm) (g8.trans v4.symm) (g9.trans v7.symm) g10 (by rw [hkk, if_pos rfl, h1v]; exact t3) (by rw [hkk, if_pos rfl, h2v]; exact t4) (by
      rw [hmm]
      intro i hi
      have hv := (bs_rr2_rv h.1 hf hg hi).1
      rw [(hrr i hi).1, g13 i hi]
      unfold bs_Yf
      rw [if_neg (fun q => absurd q.1 (by decide)), if_neg (fun q => absurd q.1 (by decide)), if_neg (fun q => by omega)]) (fun q => absurd hkk q) (by omega) (by omega)
  refine ⟨nI (bs_n M), _, _, _, rfl, rfl, R, ?_⟩
  show (bs_Yf Y (bs_n M) _ _ _ 0 0, bs_Yf Y (bs_n M) _ _ _ 14 0) = _
  unfold bs_Yf
  rw [if_neg (fun q => absurd q.1 (by decide)), if_neg (fun q => absurd q.1 (by decide)), if_neg (fun q => absurd q.1 (by decide)), if_neg (fun q => absurd q.1 (by decide)), if_neg (fun q => absurd q.1 (by decide)), if_neg (fun q => absurd q.1 (by decide))]
theorem bs_op_both (h : bs_Rel x0 s0 Y S M) (x y : Int32) : bs_OK x0 s0 Y (c_X5_both S (Y 0 0) x y) (m_X6_both M x y) := by
  have hn30 := bs_n30 h.1
  unfold c_X5_both m_X6_both
  rcases bs_which h.1 x with hx | ⟨f, hf, rfl⟩
  · rw [bs_c_unknown h hx, bs_m_noF h.1 hx, bs_bnd]
    rcases bs_which h.1 y with hy | ⟨g, hg, rfl⟩
    · rw [bs_c_unknown h hy]
      exact bs_same h _
    · rw [bs_c_known h hg]
      exact bs_same h _
  · rcases bs_which h.1 y with hy | ⟨g, hg, rfl⟩
    · rw [bs_c_known h hf, bs_c_unknown h hy, bs_m_isF h.1 hf, bs_m_noF h.1 hy]
      exact bs_same h _
    · have dlf := (bs_fr h.1 hf).2.2.2.1
      have dlg := (bs_fr h.1 hg).2.2.2.1
      have hbb := bs_bb h.1 hf
      have hbg := bs_bb h.1 hg
      have mf := bs_m18 h.1 hf
      have mg := bs_m18 h.1 hg
      have inf : ∀ {β : Type} (k : Option β), gd (inB (nI f) 30) k = k := fun k => bs_gd (bs_inB (by omega) (by decide))
      have ing : ∀ {β : Type} (k : Option β), gd (inB (nI g) 30) k = k := fun k => bs_gd (bs_inB (by omega) (by decide))
      have clf : Int32.toNatClampNeg (nI f) = f := bs_cl (by omega)
      have clg : Int32.toNatClampNeg (nI g) = g := bs_cl (by omega)
      rw [bs_c_known h hf, bs_c_known h hg, bs_m_isF h.1 hf, bs_m_isF h.1 hg, bs_bnd, bs_bnd, bs_bnd, bs_bnd, bs_ocS, bs_ocS, if_neg bs_10, if_neg bs_10, bs_gd (bs_k1 h hf), bs_gd (bs_k1 h hg), bs_f2 h hf, bs_f2 h hg, bs_f3 h hf, bs_f3 h hg, bs_f4 h hf, bs_f4 h hg, bs_f5 h hf, bs_f5 h hg, bs_o11 h hf, bs_bnd, bs_o11 h hg, bs_bnd, bs_l11 h hf, bs_l11 h hg, nI_add]
      -- the reference: the greater depth
      have mx : (gd (inB (nI f) 30) (gd (inB (nI g) 30) (if nA M 4 (Int32.toNatClampNeg (nI f)) ≤ nA M 4 (Int32.toNatClampNeg (nI g)) then gd (inB (nI g) 30) (m_X6_both_J49 M (nI f) (nI g) 1 (nA M 4 (Int32.toNatClampNeg (nI g)))) else gd (inB (nI f) 30) (m_X6_both_J49 M (nI f) (nI g) 1 (nA M 4 (Int32.toNatClampNeg (nI f))))))) = m_X6_both_J49 M (nI f) (nI g) 1 (nI (max (bs_d M f) (bs_d M g))) := by
        rw [inf, ing, clf, clg, dlf.1, dlg.1, ing, inf]
        by_cases c : bs_d M f ≤ bs_d M g
        · rw [if_pos (nI_le c (by omega)), show max (bs_d M f) (bs_d M g) = bs_d M g by omega]
        · rw [if_neg (nI_ge (by omega) (by omega)), show max (bs_d M f) (bs_d M g) = bs_d M f by omega]
      have cmx : (if nI (bs_d M f) < nI (bs_d M g) then nI (bs_d M g) else nI (bs_d M f)) = nI (max (bs_d M f) (bs_d M g)) := by
        by_cases c : bs_d M f < bs_d M g
        · rw [if_pos (nI_lt c (by omega)), show max (bs_d M f) (bs_d M g) = bs_d M g by omega]
        · rw [if_neg (nI_nlt (by omega) (by omega)), show max (bs_d M f) (bs_d M g) = bs_d M f by omega]
      rw [mx, cmx]
      generalize hD : max (bs_d M f) (bs_d M g) = D
      unfold m_X6_both_J49
      simp only [inf, ing, clf, clg, bs_bN h.1 hf, bs_bN h.1 hg, bs_mN h.1 hf, bs_mN h.1 hg, bs_let, nI_add]
      rw [show (1 : Int32) + nI D = nI (D + 1) from by rw [Int32.add_comm, nI_1]]
      by_cases c1 : bs_b M f = bs_b M g
      · have cb : nI (bs_b M f) = nI (bs_b M g) := by rw [c1]
        rw [if_pos cb, if_pos cb]
        by_cases c2 : nA M 7 f &&& nA M 7 g = 0
        · rw [if_pos c2, if_pos c2]
          have main : ∀ (l : Nat), l ≤ 18 → (bs_b M f = 16 → l ≤ 14) → bs_OK x0 s0 Y (if nI l < nI (bs_m M f + bs_m M g) then some (-3, S) else (if nI D < 5 then (if (mI S (Y 0 0) 1) < 30 then (jLet (mNx S) fun a30 => jLet (mNew S 2 0 (cN 1)) fun S29 => bnd (c_X1_init_ S29 a30 (mI S29 (Y 0 0) 1) (some (Y 1 f)) (some (Y 1 g))) fun S33 => bnd (ob S33 (mR S (Y 0 0) 0) 11) fun a35 => gd (inB (mI S (Y 0 0) 1) (mLn S33 a35)) (jLet (mSR S33 a35 (Int32.toNatClampNeg (mI S (Y 0 0) 1)) (some a30)) fun S39 => jLet ((mI S39 (Y 0 0) 1) + 1) fun i41_ => jLet (mSI S39 (Y 0 0) 1 i41_) fun S43 => some ((mI S43 (Y 0 0) 1) - 1, S43))) else some (-4, S)) else some (-3, S))) (m_X6_both_J113 M (nI f) (nI g) (nI (D + 1)) (nI (bs_m M f + bs_m M g)) (nI l)) := by
            intro l hl hl2
            unfold m_X6_both_J113
            by_cases c3 : l < bs_m M f + bs_m M g
            · rw [if_pos (nI_lt c3 (by omega)), if_pos (nI_lt c3 (by omega))]
              exact bs_same h _
            · rw [if_neg (nI_nlt (by omega) (by omega)), if_neg (nI_nlt (by omega) (by omega))]
              by_cases c4 : D < 5
              · rw [if_pos (show nI D < 5 from nI_lt (b := 5) c4 (by decide)), if_pos (show nI (D + 1) ≤ 5 from nI_le (b := 5) (by omega) (by decide))]
                by_cases c5 : bs_n M < 30
                · have := bs_boNew h hf hg c5 c1 (by omega) (fun q => by have := hl2 q; omega) D hD.symm c4
                  have inn : ∀ {β : Type} (k : Option β), gd (inB (nI (bs_n M)) 30) k = k := fun k => bs_gd (bs_inB c5 (by decide))
                  have cln : Int32.toNatClampNeg (nI (bs_n M)) = bs_n M := bs_cl (by omega)
                  rw [if_pos (show (mI S (Y 0 0) 1) < 30 by rw [bs_i h 0 0 1 rfl rfl, bs_nN h.1]; exact nI_lt (b := 30) c5 (by decide)), if_neg (show ¬ nF M 0 = 30 by rw [bs_nN h.1]; exact fun q => absurd ((nI_eq (b := 30) (by omega) (by omega)).mp q) (by omega)), bs_let, bs_nN h.1]
                  simp only [inf, ing, inn, clf, clg, cln, bs_let]
                  have z1 : nA (nSA M 1 (bs_n M) 4) 2 f + nA (nSA M 1 (bs_n M) 4) 2 g = nI (bs_m M f + bs_m M g) := by
                    show nA M 2 f + nA M 2 g = _
                    rw [bs_mN h.1 hf, bs_mN h.1 hg, nI_add]
                  rw [z1]
                  have z2 : nA (nSA (nSA M 1 (bs_n M) 4) 2 (bs_n M) (nI (bs_m M f + bs_m M g))) 3 f = nI (bs_b M f) := bs_bN h.1 hf
                  rw [z2]
                  exact this
                · rw [if_neg (show ¬ (mI S (Y 0 0) 1) < 30 by rw [bs_i h 0 0 1 rfl rfl, bs_nN h.1]; exact nI_nlt (b := 30) (by omega) (by omega)), if_pos (show nF M 0 = 30 by rw [bs_nN h.1, show bs_n M = 30 by omega]; rfl)]
                  exact bs_same h _
              · rw [if_neg (show ¬ nI D < 5 from nI_nlt (b := 5) (by omega) (by omega)), if_neg (show ¬ nI (D + 1) ≤ 5 from nI_ge (a := 5) (by omega) (by omega))]
                exact bs_same h _
          unfold c_X5_mostRods
          by_cases c6 : bs_b M f = 16
          · have e16 : nI (bs_b M f) = 16 := by rw [c6]; rfl
            rw [if_pos e16, if_pos e16, bs_bnd]
            exact main 14 (by decide) (fun _ => Nat.le_refl _)
          · have e16 : ¬ nI (bs_b M f) = 16 := fun q => c6 ((nI_eq (b := 16) (by omega) (by decide)).mp q)
            rw [if_neg e16, if_neg e16, bs_bnd]
            exact main 18 (by decide) (fun q => absurd q c6)
        · rw [if_neg c2, if_neg c2]
          exact bs_same h _
      · have c1' : ¬ nI (bs_b M f) = nI (bs_b M g) := fun q => c1 ((nI_eq (by omega) (by omega)).mp q)
        rw [if_neg c1', if_neg c1']
        exact bs_same h _
end BsBoth2
