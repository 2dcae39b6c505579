/-! copy -/
section BsCopy
variable {x0 s0 : Nat} {Y : bs_Ly} {S : Mem} {M : MS}
/-- a rod comes to another's place: both sides -/
theorem bs_come1 (h : bs_Rel x0 s0 Y S M) {r1 r2 : Nat} (h1 : bs_rv M r1) (h2 : bs_rv M r2) (h20 : nF M 20 = 1) (hk : bs_k M (r1 / 18) = 2 ↔ bs_k M (r2 / 18) = 2) : ∃ S', c_X4_become S (Y 2 r2) (some (Y 2 r1)) = some S' ∧ bs_Rel x0 s0 Y S' (nSA (nSA (nSA M 9 r2 (nA M 9 r1)) 10 r2 (nA M 10 r1)) 11 r2 (nA M 11 r1)) := by
  have g1 := bs_rgN h.1 h1
  have g2 := bs_rgN h.1 h2
  obtain ⟨⟨a1, a2, a3⟩, ⟨l, b1, b2, b3⟩, ⟨u, d1, d2, d3⟩⟩ := g1
  have q1 := bs_pR9 h h2 (Or.inl h20) (nA M 9 r1) ⟨⟨a1, a2, fun q => a3 (hk.mpr q)⟩, g2.2.1, g2.2.2⟩
  have G1 := bs_rgN q1.1 (r := r2) h2
  have q2 := bs_pR10 q1 (r := r2) h2 (Or.inl h20) (nA M 10 r1) ⟨G1.1, ⟨l, b1, b2, fun q => b3 (fun z => q (hk.mp z))⟩, G1.2.2⟩
  have G2 := bs_rgN q2.1 (r := r2) h2
  have q3 := bs_pR11 q2 (r := r2) h2 (Or.inl h20) (nA M 11 r1) ⟨G2.1, G2.2.1, ⟨u, d1, d2, fun q => d3 (hk.mpr q)⟩⟩
  refine ⟨_, ?_, q3⟩
  unfold c_X4_become
  have e4 : mI S (Y 2 r1) 4 = nA M 9 r1 := bs_i h 2 r1 4 h1 rfl
  have e5 : mI (mSI S (Y 2 r2) 4 (nA M 9 r1)) (Y 2 r1) 5 = nA M 10 r1 := bs_i q1 2 r1 5 h1 rfl
  have e6 : mI (mSI (mSI S (Y 2 r2) 4 (nA M 9 r1)) (Y 2 r2) 5 (nA M 10 r1)) (Y 2 r1) 6 = nA M 11 r1 := bs_i q2 2 r1 6 h1 rfl
  rw [bs_o2 h h1, bs_bnd, bs_let, bs_let, bs_let, bs_let, bs_let, bs_let, e4, e5, e6]
theorem bs_m_carry (M : MS) {r1 r2 : Nat} (h1 : r1 < 540) (h2 : r2 < 540) : m_X6_carry M (nI r1) (nI r2) = some (nSA (nSA (nSA M 9 r2 (nA M 9 r1)) 10 r2 (nA M 10 r1)) 11 r2 (nA M 11 r1)) := by
  unfold m_X6_carry
  rw [bs_gd (bs_inB h1 (by decide)), bs_let, bs_gd (bs_inB h2 (by decide)), bs_let, bs_gd (bs_inB h1 (by decide)), bs_let, bs_gd (bs_inB h2 (by decide)), bs_let, bs_gd (bs_inB h1 (by decide)), bs_let, bs_gd (bs_inB h2 (by decide)), bs_let, bs_cl (n := r1) (by omega), bs_cl (n := r2) (by omega)]
  rfl
theorem bs_18r (h : bs_Inv M) {f i : Nat} (hf : f < bs_n M) (h4 : bs_k M f ≠ 4) (hi : i < bs_m M f) : bs_r M f i = 18 * f + i ∧ bs_rv M (18 * f + i) ∧ (18 * f + i) / 18 = f := by
  have e := ((bs_fr h hf).2.2.2.2.2.2 i hi).2.2 h4
  have v := bs_rV h hf hi
  have m := bs_m18 h hf
  rw [e] at v
  exact ⟨e, v, by omega⟩
/-- one rod of a frame comes to one of another's -/
theorem bs_oneRod (h : bs_Rel x0 s0 Y S M) {f g a b : Nat} (hf : f < bs_n M) (hg : g < bs_n M) (f4 : bs_k M f ≠ 4) (g4 : bs_k M g ≠ 4) (ha : a < bs_m M f) (hb : b < bs_m M g) (h20 : nF M 20 = 1) (hk : bs_k M f = 2 ↔ bs_k M g = 2) {β : Type} (K : Mem → Option β) : ∃ S', (bnd (ob S (mR S (Y 1 g) 5) 12) fun a15 => gd (inB (nI b) (mLn S a15)) (bnd (ob S (mR S (Y 1 f) 5) 12) fun a19 => gd (inB (nI a) (mLn S a19)) (bnd (ob S (mR S a15 (Int32.toNatClampNeg (nI b))) 5) fun a23 => bnd (c_X4_become S a23 (mR S a19 (Int32.toNatClampNeg (nI a)))) K))) = K S' ∧
    bs_Rel x0 s0 Y S' (nSA (nSA (nSA M 9 (18 * g + b) (nA M 9 (18 * f + a))) 10 (18 * g + b) (nA M 10 (18 * f + a))) 11 (18 * g + b) (nA M 11 (18 * f + a))) := by
  have mf := bs_m18 h.1 hf
  have mg := bs_m18 h.1 hg
  obtain ⟨e1, v1, d1⟩ := bs_18r h.1 hf f4 ha
  obtain ⟨e2, v2, d2⟩ := bs_18r h.1 hg g4 hb
  obtain ⟨S', q1, q2⟩ := bs_come1 h v1 v2 h20 (by rw [d1, d2]; exact hk)
  refine ⟨S', ?_, q2⟩
  rw [bs_f5 h hg, bs_o11 h hg, bs_bnd, bs_l11 h hg, bs_gd (bs_inB hb (by omega)), bs_f5 h hf, bs_o11 h hf, bs_bnd, bs_l11 h hf, bs_gd (bs_inB ha (by omega)), bs_cl (n := b) (by omega), bs_rr h hg hb, e2, bs_o2 h v2, bs_bnd, bs_cl (n := a) (by omega), bs_rr h hf ha, e1, q1, bs_bnd]
theorem bs_inL {u : Nat} {n : Nat} (hu : u < 2 ^ 62) (hn : n < 2 ^ 30) : m_X6_in (lN u) 0 (nI n - 1).toInt64 = some (if u < n then 1 else 0) := by
  unfold m_X6_in
  have e : ((nI n - 1).toInt64).toInt = (n : Int) - 1 := by rw [bs_two, show (1 : Int32) = nI 1 from rfl, pk_sub_toInt hn (by decide)]; rfl
  rw [if_neg]
  · by_cases c : u < n
    · rw [if_neg, if_pos c]
      rw [Int64.lt_iff_toInt_lt, e, pk_lT (by omega)]
      omega
    · rw [if_pos, if_neg c]
      rw [Int64.lt_iff_toInt_lt, e, pk_lT (by omega)]
      omega
  · rw [Int64.lt_iff_toInt_lt, pk_lT (by omega)]
    show ¬ (u : Int) < 0
    omega
theorem bs_acrL {f g i k : Nat} {N c0 : Int32} (hfg : f ≠ g) : ∀ q n n2 (S : Mem) (M : MS) (m : Nat), bs_Rel x0 s0 Y S (nSF M 15 c0) → f < bs_n M → g < bs_n M → bs_k M f ≠ 4 → bs_k M g ≠ 4 → (bs_k M f = 2 ↔ bs_k M g = 2) → nF M 20 = 1 → nF M 15 = nI m → i < 2 ^ 31 → k < 2 ^ 31 → (0 < m → i + m ≤ 18 ∧ k + m ≤ 18) → m + q = 19 → q < n → q < n2 → nI m ≤ N →
    ∃ v S' M', c_X5_copyAcross_L3 n S (some (Y 1 f)) (nI i) (some (Y 1 g)) (nI k) N (nI m) = some (v, S') ∧ bs_Rel x0 s0 Y S' (nSF M' 15 c0) ∧ nF M' 15 = v ∧ ((v = N ∧ m_X6_copy_L257 n2 M (nI f) (nI i) (nI g) (nI k) N (nI m) = some (N, M')) ∨ (¬ N ≤ v ∧ m_X6_copy_L257 n2 M (nI f) (nI i) (nI g) (nI k) N (nI m) = (bnd2 (m_X6_meets M' 2) fun a b => some (a, b))))
  | q, 0, _, _, _, _, _, _, _, _, _, _, _, _, _, _, _, _, hn, _, _ => absurd hn (Nat.not_lt_zero _)
  | q, _ + 1, 0, _, _, _, _, _, _, _, _, _, _, _, _, _, _, _, _, hn, _ => absurd hn (Nat.not_lt_zero _)
  | q, n + 1, n2 + 1, S, M, m, h, hf, hg, f4, g4, hk, h20, h15, hi, hk2, hm, hq, hn, hn2, hN => by
    have hn30 : bs_n M ≤ 30 := bs_n30 h.1
    have mf : bs_m M f ≤ 18 := bs_m18 h.1 hf
    have mg : bs_m M g ≤ 18 := bs_m18 h.1 hg
    rw [c_X5_copyAcross_L3, m_X6_copy_L257]
    by_cases c : N ≤ nI m
    · have : N = nI m := by
        apply Int32.toInt_inj.mp
        rw [Int32.le_iff_toInt_le] at c hN
        omega
      have nn : ¬ N < 0 := by rw [this]; exact nI_pos (by omega)
      rw [if_pos c, if_pos c, if_neg nn]
      exact ⟨N, S, M, rfl, h, h15.trans this.symm, Or.inl ⟨rfl, rfl⟩⟩
    · rw [if_neg c, if_neg c]
      have hwrap : i + m < 2 ^ 31 ∧ k + m < 2 ^ 31 := by
        by_cases m0 : m = 0
        · omega
        · have := hm (by omega)
          omega
      have n2f : nA M 2 f = nI (bs_m M f) := bs_mN h.1 hf
      have n2g : nA M 2 g = nI (bs_m M g) := bs_mN h.1 hg
      have o1 : ob S (some (Y 1 f)) 2 = some (Y 1 f) := bs_o1 h hf
      have o2 : ob S (some (Y 1 g)) 2 = some (Y 1 g) := bs_o1 h hg
      rw [o1, bs_bnd, nI_add, bs_gd (bs_inB (n := f) (by omega) (by decide)), bs_cl (n := f) (by omega), n2f, nI_l hi, nI_l (show m < 2 ^ 31 by omega), lN_add, bs_inL (by omega) (by omega), bs_bnd]
      by_cases c1 : i + m < bs_m M f
      · have hh : c_X1_holds S (Y 1 f) (nI (i + m)) = some 1 := bs_c_holds h hf c1
        rw [hh, bs_bnd, if_neg bs_10, if_pos c1, if_neg bs_10, o2, bs_bnd, nI_add, bs_gd (bs_inB (n := g) (by omega) (by decide)), bs_cl (n := g) (by omega), n2g, nI_l hk2, lN_add, bs_inL (by omega) (by omega), bs_bnd]
        by_cases c2 : k + m < bs_m M g
        · have hh2 : c_X1_holds S (Y 1 g) (nI (k + m)) = some 1 := bs_c_holds h hg c2
          rw [hh2, bs_bnd, if_neg bs_10, if_pos c2, if_neg bs_10]
          obtain ⟨S', q1, q2⟩ := bs_oneRod (f := f) (g := g) h hf hg f4 g4 c1 c2 h20 hk (fun S25 => c_X5_copyAcross_L3 n S25 (some (Y 1 f)) (nI i) (some (Y 1 g)) (nI k) N (nI m + 1))
          rw [q1, show (18 : Int32) * nI f + nI i + nI m = nI (18 * f + (i + m)) from (by rw [show (18 : Int32) * nI f = nI (18 * f) from pk_mul 18 f, nI_add, nI_add, Nat.add_assoc]), show (18 : Int32) * nI g + nI k + nI m = nI (18 * g + (k + m)) from (by rw [show (18 : Int32) * nI g = nI (18 * g) from pk_mul 18 g, nI_add, nI_add, Nat.add_assoc]), bs_m_carry M (by omega) (by omega), bs_bnd, bs_let, bs_let, nI_1]
          rw [show nF (nSA (nSA (nSA M 9 (18 * g + (k + m)) (nA M 9 (18 * f + (i + m)))) 10 (18 * g + (k + m)) (nA M 10 (18 * f + (i + m)))) 11 (18 * g + (k + m)) (nA M 11 (18 * f + (i + m)))) 15 = nI m from h15, nI_1]
          cases q with
          | zero => omega
          | succ q =>
            have R2 : bs_Rel x0 s0 Y S' (nSF (nSF (nSA (nSA (nSA M 9 (18 * g + (k + m)) (nA M 9 (18 * f + (i + m)))) 10 (18 * g + (k + m)) (nA M 10 (18 * f + (i + m)))) 11 (18 * g + (k + m)) (nA M 11 (18 * f + (i + m)))) 15 (nI (m + 1))) 15 c0) := by
              rw [bs_nSF2]
              exact q2
            refine bs_acrL hfg q n n2 S' _ (m + 1) R2 hf hg f4 g4 hk h20 (bs_nF_eq _ _ _) hi hk2 (fun _ => by omega) (by omega) (by omega) (by omega) ?_
            rw [Int32.le_iff_toInt_le] at c ⊢
            rw [nI_toInt (by omega)] at c ⊢
            omega
        · have hh2 : c_X1_holds S (Y 1 g) (nI (k + m)) = some 0 := bs_c_holdsN h hg (Or.inr (nI_le (by show bs_m M g ≤ _; omega) (by omega)))
          rw [hh2, bs_bnd, if_pos rfl, if_neg c2, if_pos rfl]
          exact ⟨nI m, S, M, rfl, h, h15, Or.inr ⟨c, rfl⟩⟩
      · have hh : c_X1_holds S (Y 1 f) (nI (i + m)) = some 0 := bs_c_holdsN h hf (Or.inr (nI_le (by show bs_m M f ≤ _; omega) (by omega)))
        rw [hh, bs_bnd, if_pos rfl, if_neg c1, if_pos rfl]
        exact ⟨nI m, S, M, rfl, h, h15, Or.inr ⟨c, rfl⟩⟩
theorem bs_witL {f i k N : Nat} {c0 : Int32} : ∀ q n n2 (S : Mem) (M : MS) (m : Nat), bs_Rel x0 s0 Y S (nSF M 15 c0) → f < bs_n M → bs_k M f ≠ 4 → nF M 20 = 1 → i + N ≤ bs_m M f → k + N ≤ bs_m M f → m + q = N → q < n → q < n2 →
    ∃ S' M', c_X5_copyWithin_L3 n S (some (Y 1 f)) (nI i) (nI k) (nI N) (nI m) = some (nI N, S') ∧ m_X6_copy_L182 n2 M (nI f) (nI i) (nI k) (nI N) (nI m) = some (nI N, nSF M' 15 (nI N)) ∧ bs_Rel x0 s0 Y S' (nSF M' 15 c0)
  | q, 0, _, _, _, _, _, _, _, _, _, _, _, hn, _ => absurd hn (Nat.not_lt_zero _)
  | q, _ + 1, 0, _, _, _, _, _, _, _, _, _, _, _, hn => absurd hn (Nat.not_lt_zero _)
  | 0, n + 1, n2 + 1, S, M, m, h, hf, f4, h20, hi, hk, hq, hn, hn2 => by
    have mf : bs_m M f ≤ 18 := bs_m18 h.1 hf
    rw [c_X5_copyWithin_L3, m_X6_copy_L182, if_pos (nI_le (by omega) (by omega)), if_pos (nI_le (by omega) (by omega)), bs_let]
    exact ⟨S, M, rfl, rfl, h⟩
  | q + 1, n + 1, n2 + 1, S, M, m, h, hf, f4, h20, hi, hk, hq, hn, hn2 => by
    have hn30 : bs_n M ≤ 30 := bs_n30 h.1
    have mf : bs_m M f ≤ 18 := bs_m18 h.1 hf
    have o1 : ob S (some (Y 1 f)) 2 = some (Y 1 f) := bs_o1 h hf
    rw [c_X5_copyWithin_L3, m_X6_copy_L182, if_neg (nI_ge (by omega) (by omega)), if_neg (nI_ge (by omega) (by omega))]
    have one : ∀ at0, at0 < N → ∃ S' M', c_X5_copyWithin_J25 (c_X5_copyWithin_L3 n) S (some (Y 1 f)) (nI i) (nI k) (nI N) (nI m) (nI at0) = some (nI N, S') ∧ m_X6_copy_J207 (m_X6_copy_L182 n2) M (nI f) (nI i) (nI k) (nI N) (nI m) (nI at0) = some (nI N, nSF M' 15 (nI N)) ∧ bs_Rel x0 s0 Y S' (nSF M' 15 c0) := by
      intro at0 hat
      unfold c_X5_copyWithin_J25 m_X6_copy_J207
      obtain ⟨S', q1, q2⟩ := bs_oneRod (f := f) (g := f) (a := i + at0) (b := k + at0) h hf hf f4 f4 (show i + at0 < bs_m M f by omega) (show k + at0 < bs_m M f by omega) h20 Iff.rfl (fun S13 => c_X5_copyWithin_L3 n S13 (some (Y 1 f)) (nI i) (nI k) (nI N) (nI m + 1))
      rw [o1, bs_bnd, nI_add, nI_add, q1, show (18 : Int32) * nI f + nI i + nI at0 = nI (18 * f + (i + at0)) from (by rw [show (18 : Int32) * nI f = nI (18 * f) from pk_mul 18 f, nI_add, nI_add, Nat.add_assoc]), show (18 : Int32) * nI f + nI k + nI at0 = nI (18 * f + (k + at0)) from (by rw [show (18 : Int32) * nI f = nI (18 * f) from pk_mul 18 f, nI_add, nI_add, Nat.add_assoc]), bs_m_carry M (by omega) (by omega), bs_bnd, nI_1]
      exact bs_witL q n n2 S' _ (m + 1) q2 hf f4 h20 hi hk (by omega) (by omega) (by omega)
    by_cases c : i < k
    · rw [if_pos (nI_lt c (by omega)), if_neg (nI_ge c (by omega)), bs_s1 (by omega), pk_sub (by omega)]
      exact one (N - 1 - m) (by omega)
    · rw [if_neg (nI_nlt (by omega) (by omega)), if_pos (nI_le (by omega) (by omega))]
      exact one m (by omega)
theorem bs_hall (h : bs_Rel x0 s0 Y S M) {f : Nat} (hf : f < bs_n M) (i k n : Int32) {β : Type} (G : Int32 → Option β) :
    (∃ N I K, n = nI N ∧ i = nI I ∧ k = nI K ∧ I + N ≤ bs_m M f ∧ K + N ≤ bs_m M f ∧ c_X1_holdsAll S (Y 1 f) i k n = some 1 ∧ (if n < 0 then G 0 else if i < 0 then G 0 else if k < 0 then G 0 else gd (inB (nI f) 30) (if (nA M 2 (Int32.toNatClampNeg (nI f))).toInt64 < i.toInt64 + n.toInt64 then G 0 else gd (inB (nI f) 30) (if (nA M 2 (Int32.toNatClampNeg (nI f))).toInt64 < k.toInt64 + n.toInt64 then G 0 else G 1))) = G 1) ∨
    (c_X1_holdsAll S (Y 1 f) i k n = some 0 ∧ (if n < 0 then G 0 else if i < 0 then G 0 else if k < 0 then G 0 else gd (inB (nI f) 30) (if (nA M 2 (Int32.toNatClampNeg (nI f))).toInt64 < i.toInt64 + n.toInt64 then G 0 else gd (inB (nI f) 30) (if (nA M 2 (Int32.toNatClampNeg (nI f))).toInt64 < k.toInt64 + n.toInt64 then G 0 else G 1))) = G 0) := by
  have hn30 := bs_n30 h.1
  have mf := bs_m18 h.1 hf
  unfold c_X1_holdsAll
  rw [bs_f5 h hf, bs_o11 h hf, bs_bnd, bs_let, bs_l11 h hf, bs_gd (bs_inB (n := f) (by omega) (by decide)), bs_gd (bs_inB (n := f) (by omega) (by decide)), bs_cl (n := f) (by omega), bs_mN h.1 hf]
  by_cases c1 : n < 0
  · right
    rw [if_pos c1, if_pos c1]
    exact ⟨rfl, rfl⟩
  rw [if_neg c1, if_neg c1]
  obtain ⟨N, hN, rfl⟩ := nI_of c1
  by_cases c2 : i < 0
  · right
    rw [if_pos c2, if_pos c2]
    refine ⟨?_, rfl⟩
    split <;> rfl
  rw [if_neg c2, if_neg c2]
  obtain ⟨I, hI, rfl⟩ := nI_of c2
  by_cases c3 : k < 0
  · right
    rw [if_pos c3, if_pos c3]
    refine ⟨?_, rfl⟩
    split
    · rfl
    · split <;> rfl
  rw [if_neg c3, if_neg c3]
  obtain ⟨K, hK, rfl⟩ := nI_of c3
  rw [nI_l (by omega), nI_l hI, nI_l hN, nI_l hK, lN_add, lN_add]
  by_cases c4 : I + N ≤ bs_m M f
  · have l1 : ¬ lN (bs_m M f) < lN (I + N) := fun q => by have := (pk_lLT (by omega) (by omega)).mp q; omega
    rw [if_neg (show ¬ nI (bs_m M f) < nI N from nI_nlt (by omega) (by omega)), pk_sub (by omega), if_neg (show ¬ nI (bs_m M f - N) < nI I from nI_nlt (by omega) (by omega)), if_neg l1]
    by_cases c5 : K + N ≤ bs_m M f
    · left
      have l2 : ¬ lN (bs_m M f) < lN (K + N) := fun q => by have := (pk_lLT (by omega) (by omega)).mp q; omega
      rw [if_neg (show ¬ nI (bs_m M f - N) < nI K from nI_nlt (by omega) (by omega)), if_neg l2]
      exact ⟨N, I, K, rfl, rfl, rfl, c4, c5, rfl, rfl⟩
    · right
      rw [if_pos (show nI (bs_m M f - N) < nI K from nI_lt (by omega) (by omega)), if_pos (show lN (bs_m M f) < lN (K + N) from (pk_lLT (by omega) (by omega)).mpr (by omega))]
      exact ⟨rfl, rfl⟩
  · right
    rw [if_pos (show lN (bs_m M f) < lN (I + N) from (pk_lLT (by omega) (by omega)).mpr (by omega))]
    refine ⟨?_, rfl⟩
    by_cases c6 : bs_m M f < N
    · rw [if_pos (nI_lt c6 hN)]
    · rw [if_neg (nI_nlt (by omega) (by omega)), pk_sub (by omega), if_pos (nI_lt (by omega) (by omega))]
theorem bs_copyJ90 (h : bs_Rel x0 s0 Y S M) {f g : Nat} (hf : f < bs_n M) (hg : g < bs_n M) (f4 : bs_k M f ≠ 4) (g4 : bs_k M g ≠ 4) (hk : bs_k M f = 2 ↔ bs_k M g = 2) (i k n : Int32) : bs_OK x0 s0 Y (c_X5_copy_J90 S (Y 0 0) (nI f) i (nI g) k n (some (Y 1 f)) (some (Y 1 g)) 0) (m_X6_copy_J86 M (nI f) i (nI g) k n 0) := by
  have hn30 := bs_n30 h.1
  have mf := bs_m18 h.1 hf
  have mg := bs_m18 h.1 hg
  have hb := bs_bar h
  unfold c_X5_copy_J90 m_X6_copy_J86
  rw [if_pos rfl, if_pos rfl, bs_q h 0 0 4 rfl rfl, bs_o3 h, bs_bnd]
  simp only [bs_let]
  -- the class's old count
  have hc : ∀ c, bs_Rel x0 s0 Y (mSI S (Y 3 0) 4 1) (nSF M 20 1) → bs_Rel x0 s0 Y (mSI S (Y 3 0) 4 1) (nSF (nSF (nSF M 20 1) 15 c) 15 (nF M 15)) := by
    intro c q
    rw [bs_nSF2]
    have : nSF (nSF M 20 1) 15 (nF M 15) = nSF M 20 1 := bs_nSF_id (nSF M 20 1) 15
    rw [this]
    exact q
  have hc0 := hc 0 hb
  generalize hS1 : mSI S (Y 3 0) 4 1 = S1 at *
  generalize nF M 15 = c0 at *
  have fin : ∀ S' M' v, bs_Rel x0 s0 Y S' (nSF M' 15 c0) → bs_Rel x0 s0 Y (mSI S' (Y 0 0) 8 v) (nSF M' 15 v) := by
    intro S' M' v q
    have := bs_p15 q v
    rw [bs_nSF2] at this
    exact this
  have J169 : ∀ S' M' v, bs_Rel x0 s0 Y S' (nSF M' 15 c0) → nF M' 15 = v → ¬ n ≤ v → bs_OK x0 s0 Y (c_X5_copy_J169 S' (Y 0 0) n v) (bnd2 (m_X6_meets M' 2) fun a b => some (a, b)) := by
    intro S' M' v q1 q2 q3
    have q4 := fin S' M' v q1
    have e : nSF M' 15 v = M' := by rw [← q2]; exact bs_nSF_id M' 15
    rw [e] at q4
    unfold c_X5_copy_J169
    have e8 : mI (mSI S' (Y 0 0) 8 v) (Y 0 0) 8 = v := by rw [bs_mI, if_pos ⟨rfl, rfl⟩]
    rw [bs_let, e8, if_neg q3]
    exact bs_flt q4 2
  have J169b : ∀ S' M' v, bs_Rel x0 s0 Y S' (nSF M' 15 c0) → n ≤ v → bs_OK x0 s0 Y (c_X5_copy_J169 S' (Y 0 0) n v) (some (v, nSF M' 15 v)) := by
    intro S' M' v q1 q3
    unfold c_X5_copy_J169
    have e8 : mI (mSI S' (Y 0 0) 8 v) (Y 0 0) 8 = v := by rw [bs_mI, if_pos ⟨rfl, rfl⟩]
    rw [bs_let, e8, if_pos q3]
    exact bs_same (fin S' M' v q1) _
  by_cases c : f = g
  · subst c
    rw [if_pos rfl, if_pos rfl]
    have o1 : ob S1 (some (Y 1 f)) 2 = some (Y 1 f) := bs_o1 hc0 hf
    rw [o1, bs_bnd]
    rcases bs_hall hc0 (f := f) hf i k n (m_X6_copy_J166 (nSF (nSF M 20 1) 15 0) (nI f) i k n) with ⟨N, I, K, rfl, rfl, rfl, a1, a2, a3, a4⟩ | ⟨a3, a4⟩
    · have a1 : I + N ≤ bs_m M f := a1
      have a2 : K + N ≤ bs_m M f := a2
      have a4' := a4
      rw [a3, bs_bnd, if_neg bs_10]
      refine Eq.mpr (congrArg (bs_OK x0 s0 Y _) a4') ?_
      unfold c_X5_copy_J138 m_X6_copy_J166
      rw [if_pos rfl, if_neg bs_10]
      obtain ⟨S', M', w1, w2, w3⟩ := bs_witL (f := f) (i := I) (k := K) N bigN bigN S1 (nSF (nSF M 20 1) 15 0) 0 hc0 hf f4 rfl a1 a2 (by omega) (by unfold bigN; omega) (by unfold bigN; omega)
      have w1' : c_X5_copyWithin S1 (some (Y 1 f)) (nI I) (nI K) (nI N) = some (nI N, S') := w1
      have w2' : m_X6_copy_L182 bigN (nSF (nSF M 20 1) 15 0) (nI f) (nI I) (nI K) (nI N) 0 = some (nI N, nSF M' 15 (nI N)) := w2
      rw [w1', w2', bs_bnd2]
      exact J169b S' M' (nI N) w3 (nI_le (Nat.le_refl _) (by omega))
    · rw [a3, bs_bnd, if_pos rfl]
      refine Eq.mpr (congrArg (bs_OK x0 s0 Y _) a4) ?_
      unfold m_X6_copy_J166
      rw [if_pos rfl]
      have := fin S1 (nSF (nSF M 20 1) 15 0) 0 hc0
      rw [bs_nSF2] at this
      exact bs_flt this 2
  · have cfg : ¬ nI f = nI g := fun q => c ((nI_eq (by omega) (by omega)).mp q)
    rw [if_neg cfg, if_neg cfg]
    unfold c_X5_copy_J138
    rw [if_neg cfg]
    by_cases c1 : 0 ≤ n
    · rw [if_pos c1]
      -- places out of the frames' at once
      by_cases ci : i < 0
      · have hx : c_X5_copyAcross S1 (some (Y 1 f)) i (some (Y 1 g)) k n = if n ≤ 0 then some (n, S1) else some (0, S1) := by
          unfold c_X5_copyAcross
          rw [show bigN = 999999 + 1 from rfl, c_X5_copyAcross_L3, Int32.add_zero]
          by_cases c2 : n ≤ 0
          · rw [if_pos c2, if_pos c2, if_neg (fun q => (bs_nle.mp c1) q)]
          · rw [if_neg c2, if_neg c2, bs_o1 hc0 hf, bs_bnd, bs_c_holdsN hc0 hf (Or.inl ci), bs_bnd, if_pos rfl]
        have hy : m_X6_copy_L257 bigN (nSF (nSF M 20 1) 15 0) (nI f) i (nI g) k n 0 = if n ≤ 0 then some (n, nSF (nSF M 20 1) 15 0) else (bnd2 (m_X6_meets (nSF (nSF M 20 1) 15 0) 2) fun a b => some (a, b)) := by
          rw [show bigN = 999999 + 1 from rfl, m_X6_copy_L257]
          by_cases c2 : n ≤ 0
          · rw [if_pos c2, if_pos c2]
          · rw [if_neg c2, if_neg c2, bs_gd (bs_inB (n := f) (by omega) (by decide)), bs_cl (n := f) (by omega), show nA (nSF (nSF M 20 1) 15 0) 2 f = nI (bs_m M f) from bs_mN h.1 hf, show Int32.toInt64 0 = 0 from rfl, Int64.add_zero, bs_in_no (by omega) (Or.inl ci), bs_bnd, if_pos rfl]
        rw [hx, hy]
        by_cases c2 : n ≤ 0
        · rw [if_pos c2, if_pos c2, bs_bnd2]
          have n0 : n = 0 := by
            apply Int32.toInt_inj.mp
            rw [Int32.le_iff_toInt_le] at c1 c2
            omega
          have := J169b S1 (nSF (nSF M 20 1) 15 0) 0 hc0 c2
          rw [bs_nSF2] at this
          rw [n0] at this ⊢
          exact this
        · rw [if_neg c2, if_neg c2, bs_bnd2]
          exact J169 S1 _ 0 hc0 rfl c2
      · obtain ⟨I, hI, rfl⟩ := nI_of ci
        by_cases ck : k < 0
        · have hx : c_X5_copyAcross S1 (some (Y 1 f)) (nI I) (some (Y 1 g)) k n = if n ≤ 0 then some (n, S1) else some (0, S1) := by
            unfold c_X5_copyAcross
            rw [show bigN = 999999 + 1 from rfl, c_X5_copyAcross_L3, Int32.add_zero, Int32.add_zero]
            by_cases c2 : n ≤ 0
            · rw [if_pos c2, if_pos c2, if_neg (fun q => (bs_nle.mp c1) q)]
            · rw [if_neg c2, if_neg c2, bs_o1 hc0 hf, bs_bnd]
              by_cases c3 : I < bs_m M f
              · rw [bs_c_holds hc0 (f := f) hf c3, bs_bnd, if_neg bs_10, bs_o1 hc0 hg, bs_bnd, bs_c_holdsN hc0 hg (Or.inl ck), bs_bnd, if_pos rfl]
              · rw [bs_c_holdsN hc0 (f := f) hf (Or.inr (nI_le (by show bs_m M f ≤ _; omega) (by omega))), bs_bnd, if_pos rfl]
          have hy : m_X6_copy_L257 bigN (nSF (nSF M 20 1) 15 0) (nI f) (nI I) (nI g) k n 0 = if n ≤ 0 then some (n, nSF (nSF M 20 1) 15 0) else (bnd2 (m_X6_meets (nSF (nSF M 20 1) 15 0) 2) fun a b => some (a, b)) := by
            rw [show bigN = 999999 + 1 from rfl, m_X6_copy_L257]
            by_cases c2 : n ≤ 0
            · rw [if_pos c2, if_pos c2]
            · rw [if_neg c2, if_neg c2, bs_gd (bs_inB (n := f) (by omega) (by decide)), bs_cl (n := f) (by omega), show nA (nSF (nSF M 20 1) 15 0) 2 f = nI (bs_m M f) from bs_mN h.1 hf, show Int32.toInt64 0 = 0 from rfl, Int64.add_zero, Int64.add_zero]
              by_cases c3 : I < bs_m M f
              · rw [bs_in_yes c3 (by omega), bs_bnd, if_neg bs_10, bs_gd (bs_inB (n := g) (by omega) (by decide)), bs_cl (n := g) (by omega), show nA (nSF (nSF M 20 1) 15 0) 2 g = nI (bs_m M g) from bs_mN h.1 hg, bs_in_no (by omega) (Or.inl ck), bs_bnd, if_pos rfl]
              · rw [bs_in_no (by omega) (Or.inr (nI_le (by omega) (by omega))), bs_bnd, if_pos rfl]
          rw [hx, hy]
          by_cases c2 : n ≤ 0
          · rw [if_pos c2, if_pos c2, bs_bnd2]
            have n0 : n = 0 := by
              apply Int32.toInt_inj.mp
              rw [Int32.le_iff_toInt_le] at c1 c2
              omega
            have := J169b S1 (nSF (nSF M 20 1) 15 0) 0 hc0 c2
            rw [bs_nSF2] at this
            rw [n0] at this ⊢
            exact this
          · rw [if_neg c2, if_neg c2, bs_bnd2]
            exact J169 S1 _ 0 hc0 rfl c2
        · obtain ⟨K, hK, rfl⟩ := nI_of ck
          obtain ⟨v, S', M', w1, w2, w3, w4⟩ := bs_acrL (f := f) (g := g) (i := I) (k := K) (N := n) c 19 bigN bigN S1 (nSF (nSF M 20 1) 15 0) 0 hc0 hf hg f4 g4 hk rfl rfl hI hK (fun q => absurd q (by decide)) (by decide) (by decide) (by decide) c1
          have w1' : c_X5_copyAcross S1 (some (Y 1 f)) (nI I) (some (Y 1 g)) (nI K) n = some (v, S') := w1
          rw [w1', bs_bnd2]
          rcases w4 with ⟨rfl, w4⟩ | ⟨w5, w4⟩
          · have w4' : m_X6_copy_L257 bigN (nSF (nSF M 20 1) 15 0) (nI f) (nI I) (nI g) (nI K) v 0 = some (v, M') := w4
            rw [w4']
            have := J169b S' M' v w2 (by rw [Int32.le_iff_toInt_le]; omega)
            have e : nSF M' 15 v = M' := by
              have := bs_nSF_id M' 15
              rw [w3] at this
              exact this
            rw [e] at this
            exact this
          · have w4' : m_X6_copy_L257 bigN (nSF (nSF M 20 1) 15 0) (nI f) (nI I) (nI g) (nI K) n 0 = (bnd2 (m_X6_meets M' 2) fun a b => some (a, b)) := w4
            rw [w4']
            exact J169 S' M' v w2 w3 w5
    · have c1' : n < 0 := by
        rw [Int32.le_iff_toInt_le] at c1
        rw [Int32.lt_iff_toInt_lt]
        omega
      have c2 : n ≤ 0 := by
        rw [Int32.lt_iff_toInt_lt] at c1'
        rw [Int32.le_iff_toInt_le]
        omega
      have hx : c_X5_copyAcross S1 (some (Y 1 f)) i (some (Y 1 g)) k n = some (0, S1) := by
        unfold c_X5_copyAcross
        rw [show bigN = 999999 + 1 from rfl, c_X5_copyAcross_L3, if_pos c2, if_pos c1']
      rw [if_neg c1, hx, bs_bnd2]
      have := J169b S1 (nSF (nSF M 20 1) 15 0) 0 hc0 c2
      rw [bs_nSF2] at this
      exact this
theorem bs_op_copy (h : bs_Rel x0 s0 Y S M) (x i y k n : Int32) : bs_OK x0 s0 Y (c_X5_copy S (Y 0 0) x i y k n) (m_X6_copy M x i y k n) := by
  have hn30 := bs_n30 h.1
  unfold c_X5_copy m_X6_copy
  rcases bs_which h.1 x with hx | ⟨f, hf, rfl⟩
  · rw [bs_c_unknown h hx, bs_m_noF h.1 hx, bs_bnd]
    rcases bs_which h.1 y with hy | ⟨g, hg, rfl⟩
    · rw [bs_c_unknown h hy]
      exact bs_same h _
    · rw [bs_c_known h hg]
      exact bs_same h _
  · rcases bs_which h.1 y with hy | ⟨g, hg, rfl⟩
    · rw [bs_c_known h hf, bs_c_unknown h hy, bs_m_isF h.1 hf, bs_m_noF h.1 hy]
      exact bs_same h _
    · rw [bs_c_known h hf, bs_c_known h hg, bs_m_isF h.1 hf, bs_m_isF h.1 hg, bs_bnd, bs_bnd, bs_bnd, bs_bnd, bs_ocS, bs_ocS, if_neg bs_10, if_neg bs_10, bs_gd (bs_k1 h hf), bs_gd (bs_k1 h hg), bs_f1 h hf, bs_f1 h hg, bs_gd (bs_inB (n := f) (by omega) (by decide)), bs_gd (bs_inB (n := g) (by omega) (by decide)), bs_cl (n := f) (by omega), bs_cl (n := g) (by omega), bs_kN h.1 hf, bs_kN h.1 hg]
      have dbl : bs_OK x0 s0 Y (c_X5_copy_J49 S (Y 0 0) (nI f) i (nI g) k n (some (Y 1 f)) (some (Y 1 g)) 1) (m_X6_copy_J43 M (nI f) i (nI g) k n 1) := by
        unfold c_X5_copy_J49 m_X6_copy_J43 c_X5_copy_J90 m_X6_copy_J86
        rw [if_neg bs_10, if_neg bs_10, if_neg bs_10, if_neg bs_10]
        exact bs_flt h 3
      by_cases f4 : bs_k M f = 4
      · rw [if_pos ((bs_kis4 h.1 hf).mpr f4), if_pos ((bs_kis4 h.1 hf).mpr f4)]
        exact dbl
      · rw [if_neg (fun q => f4 ((bs_kis4 h.1 hf).mp q)), if_neg (fun q => f4 ((bs_kis4 h.1 hf).mp q))]
        by_cases g4 : bs_k M g = 4
        · rw [if_pos ((bs_kis4 h.1 hg).mpr g4), if_pos ((bs_kis4 h.1 hg).mpr g4)]
          exact dbl
        · rw [if_neg (fun q => g4 ((bs_kis4 h.1 hg).mp q)), if_neg (fun q => g4 ((bs_kis4 h.1 hg).mp q))]
          unfold c_X5_copy_J49 m_X6_copy_J43 c_X5_copy_J70 m_X6_copy_J65
          rw [if_pos rfl, if_pos rfl, bs_o1 h hf, bs_bnd, bs_o1 h hg, bs_bnd, bs_f1 h hf, bs_f1 h hg, bs_gd (bs_inB (n := f) (by omega) (by decide)), bs_gd (bs_inB (n := g) (by omega) (by decide)), bs_cl (n := f) (by omega), bs_cl (n := g) (by omega), bs_kN h.1 hf, bs_kN h.1 hg]
          by_cases f2 : bs_k M f = 2
          · rw [if_pos ((bs_kis2 h.1 hf).mpr f2), if_pos ((bs_kis2 h.1 hf).mpr f2)]
            by_cases g2 : bs_k M g = 2
            · rw [if_pos ((bs_kis2 h.1 hg).mpr g2), if_pos ((bs_kis2 h.1 hg).mpr g2), if_pos rfl, if_pos rfl]
              exact bs_copyJ90 h hf hg f4 g4 ⟨fun _ => g2, fun _ => f2⟩ i k n
            · rw [if_neg (fun q => g2 ((bs_kis2 h.1 hg).mp q)), if_neg (fun q => g2 ((bs_kis2 h.1 hg).mp q)), if_neg bs_10, if_neg bs_10]
              exact bs_same h _
          · rw [if_neg (fun q => f2 ((bs_kis2 h.1 hf).mp q)), if_neg (fun q => f2 ((bs_kis2 h.1 hf).mp q)), bs_bnd, bs_f1 h hg, bs_gd (bs_inB (n := g) (by omega) (by decide))]
            by_cases g2 : bs_k M g = 2
            · rw [if_pos ((bs_kis2 h.1 hg).mpr g2), if_pos ((bs_kis2 h.1 hg).mpr g2), if_neg (show ¬ (0 : Int32) = 1 by decide), if_neg (show ¬ (0 : Int32) = 1 by decide)]
              exact bs_same h _
            · rw [if_neg (fun q => g2 ((bs_kis2 h.1 hg).mp q)), if_neg (fun q => g2 ((bs_kis2 h.1 hg).mp q)), if_pos rfl, if_pos rfl]
              exact bs_copyJ90 h hf hg f4 g4 ⟨fun q => absurd q f2, fun q => absurd q g2⟩ i k n
end BsCopy
