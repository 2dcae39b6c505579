/-! stuck, or not; the loop of a change -/
section BsPutL
variable {x0 s0 : Nat}
theorem bs_rf3 (M : MS) (r : Nat) : bs_rf M r = 0 ∨ bs_rf M r = 1 ∨ bs_rf M r = 2 := by
  unfold bs_rf
  generalize (if bs_k M (r / 18) = 2 then (1 : Int32) else 2) = w
  split
  · split
    · exact Or.inl rfl
    · exact Or.inr (Or.inr rfl)
  · exact Or.inr (Or.inl rfl)
theorem bs_canY {Y : bs_Ly} {S : Mem} {M : MS} (h : bs_Rel x0 s0 Y S M) {f i : Nat} (hf : f < bs_n M) (hi : i < bs_m M f) (hr : bs_rf M (bs_r M f i) = 0) : c_X3_canRead S (Y 3 0) (some (Y 1 f)) (nI i) = some (1, S) ∧ m_X6_isStuck M (nI f) (nI i) = some (0, M) := by
  constructor
  · unfold c_X3_canRead c_X3_canRead_J21
    rw [bs_o1 h hf, bs_bnd, bs_c_holds h hf hi, bs_bnd, if_neg bs_10, bs_c_rod h hf hi, bs_c_rf h (bs_rV h.1 hf hi), bs_bnd, hr, if_pos rfl, if_pos rfl]
  · unfold m_X6_isStuck
    rw [bs_m_ag h.1 hf hi, bs_bnd, hr, if_pos rfl]
theorem bs_stuckJ {Y : bs_Ly} {S : Mem} {M : MS} (hW : bs_W x0 s0 Y S M) {f : Nat} (hf : f < bs_n M) (x v : Int32) (hv : ¬ v = 0) (B : Nat) : ∃ S' M', c_X3_canRead_J21 S (Y 3 0) (some (Y 1 f)) x v = some (0, S') ∧ M' = nSF (nSF (nSF M 23 v) 24 x) 25 (nI f) ∧ bs_W x0 s0 Y S' M' ∧ bs_T B Y M Y M' ∧ bs_TP Y S M S' M' ∧ bs_s M' = bs_s M ∧ bs_ph M' 540 = bs_ph M 540 := by
  obtain ⟨h, h22, hh⟩ := hW
  have h1 := bs_p23 h v
  have h2 := bs_p24 h1 x
  have h3 := bs_p25 h2 (nI f)
  have e0 : mI (mSI (mSI S (Y 3 0) 7 v) (Y 3 0) 8 x) (Y 1 f) 0 = nI f := bs_f0 h2 hf
  have n43 : Y 4 0 ≠ Y 3 0 := bs_ne h (t := 4) (i := 0) (t2 := 3) (i2 := 0) rfl rfl (Or.inl (by decide))
  have hp : ∀ n, bs_ph (nSF (nSF (nSF M 23 v) 24 x) 25 (nI f)) n = bs_ph M n := by
    intro n
    induction n with
    | zero => rfl
    | succ n ih => rw [bs_ph, bs_ph, ih]; rfl
  refine ⟨_, _, ?_, rfl, ⟨h3, h22, hh⟩, ⟨fun _ _ _ => rfl, ⟨rfl, rfl, rfl, rfl, rfl, rfl, rfl, rfl, rfl⟩, ⟨rfl, rfl⟩, fun _ q => q⟩, ⟨⟨?_, rfl⟩, rfl, rfl, rfl, rfl, rfl⟩, rfl, hp 540⟩
  · unfold c_X3_canRead_J21
    rw [if_neg hv, bs_let, bs_let, bs_o1 h2 hf, bs_bnd, bs_let, bs_let, e0, if_neg hv]
  · rw [bs_mI_ne n43, bs_mI_ne n43, bs_mI_ne n43]
/-- it is stuck there -/
theorem bs_canN {Y : bs_Ly} {S : Mem} {M : MS} (hW : bs_W x0 s0 Y S M) {f i : Nat} (hf : f < bs_n M) (hi2 : i < 2 ^ 30) (hn : ¬ (i < bs_m M f ∧ bs_rf M (bs_r M f i) = 0)) (B : Nat) : ∃ S' M', c_X3_canRead S (Y 3 0) (some (Y 1 f)) (nI i) = some (0, S') ∧ m_X6_isStuck M (nI f) (nI i) = some (1, M') ∧ bs_W x0 s0 Y S' M' ∧ bs_T B Y M Y M' ∧ bs_TP Y S M S' M' ∧ bs_s M' = bs_s M ∧ bs_ph M' 540 = bs_ph M 540 := by
  have h := hW.1
  unfold c_X3_canRead m_X6_isStuck
  rw [bs_o1 h hf, bs_bnd]
  by_cases c : i < bs_m M f
  · have c2 : ¬ bs_rf M (bs_r M f i) = 0 := fun q => hn ⟨c, q⟩
    obtain ⟨S', M', e1, e2, e3⟩ := bs_stuckJ hW hf (nI i) (bs_rf M (bs_r M f i)) c2 B
    refine ⟨S', M', ?_, ?_, e3⟩
    · rw [bs_c_holds h hf c, bs_bnd, if_neg bs_10, bs_c_rod h hf c, bs_c_rf h (bs_rV h.1 hf c), bs_bnd]
      exact e1
    · rw [bs_m_ag h.1 hf c, bs_bnd, if_neg c2, e2]
      rcases bs_rf3 M (bs_r M f i) with q | q | q
      · exact absurd q c2
      · rw [q, if_pos rfl]
        rfl
      · rw [q, if_neg (by decide)]
        rfl
  · have hx : nI i < 0 ∨ nI (bs_m M f) ≤ nI i := Or.inr (nI_le (by omega) (by omega))
    obtain ⟨S', M', e1, e2, e3⟩ := bs_stuckJ hW hf (nI i) 2 bs_20 B
    refine ⟨S', M', ?_, ?_, e3⟩
    · rw [bs_c_holdsN h hf hx, bs_bnd, if_pos rfl]
      exact e1
    · rw [bs_m_agB h.1 hf hx, bs_bnd, if_neg bs_20, if_neg (by decide), e2]
      rfl
theorem bs_nIn1 (d : Nat) (hd : 0 < d) (h2 : d < 2 ^ 30) : ¬ (0 : Int32) ≤ -nI d := by
  rw [Int32.le_iff_toInt_le]
  have e : (-nI d).toInt = -(d : Int) := by
    have := pk_sub_toInt (a := 0) (b := d) (by decide) h2
    rw [nI_0, Int32.zero_sub] at this
    rw [this]
    show (0 : Int) - d = _
    omega
  rw [e]
  show ¬ (0 : Int) ≤ _
  omega
/-- what a change does to count and sum: to add; to take no more than there is -/
def bs_Q (B sgn d : Nat) (ok : Prop) (M M2 : MS) : Prop :=
  (sgn = 1 → (B - 1) * bs_s M2 + bs_ph M2 540 ≤ (B - 1) * bs_s M + bs_ph M 540 + (B - 1) + d) ∧ (sgn = 0 → ok → (B - 1) * bs_s M2 + bs_ph M2 540 ≤ (B - 1) * bs_s M + bs_ph M 540 + (B - 1))
theorem bs_putL (f i B : Nat) (hB2 : B = 10 ∨ B = 16) (hi2 : i < 1000) : ∀ q n n2 (Y : bs_Ly) (S : Mem) (M : MS) (k d sgn : Nat) (A sg : Int32), bs_W x0 s0 Y S M → bs_own Y M f → bs_b M f = B → bs_LT M f → bs_m M f ≤ i + k + q → k + q ≤ 40 → q + 1 < n → q + 1 < n2 → d < B → ((sgn = 1 ∧ sg = 1 ∧ A = nI d) ∨ (sgn = 0 ∧ sg = -1 ∧ A = -nI d)) → bs_s M + (bs_m M f - (i + k)) < 5000 →
    ∃ z Y' S' M', c_X3_put_L6 n S (Y 3 0) (some (Y 1 f)) (nI i) A (nI k) = some (z, S') ∧ m_X6_change_L6 n2 M (nI f) sg (nI (i + k)) (nI d) = some (z, M') ∧ (z = 0 ∨ z = 1) ∧ bs_W x0 s0 Y' S' M' ∧ bs_T B Y M Y' M' ∧ bs_TP Y S M S' M' ∧ bs_s M' ≤ bs_s M + (bs_m M f - (i + k)) ∧ bs_Q B sgn d (d ≤ bs_dv M (bs_r M f (i + k))) M M'
  | q, 0, _, _, _, _, _, _, _, _, _, _, _, _, _, _, _, hn, _, _, _, _ => absurd hn (by omega)
  | q, _ + 1, 0, _, _, _, _, _, _, _, _, _, _, _, _, _, _, _, hn, _, _, _ => absurd hn (by omega)
  | q, n + 1, n2 + 1, Y, S, M, k, d, sgn, A, sg, hW, hf, hB, hLT, hm, hk, hn, hn2, hd, hA, hs => by
    have h := hW.1
    rw [c_X3_put_L6, m_X6_change_L6, bs_lit 64, if_neg (nI_ge (by omega) (by decide))]
    by_cases c0 : d = 0
    · subst c0
      have a0 : A = 0 := by rcases hA with ⟨-, -, rfl⟩ | ⟨-, -, rfl⟩ <;> rfl
      rw [if_pos a0, if_pos (show nI 0 ≤ 0 by decide)]
      refine ⟨1, Y, S, M, rfl, rfl, Or.inr rfl, hW, bs_T_refl _ _ _, bs_TP_refl _ _ _, by omega, ?_, ?_⟩
      · intro _; omega
      · intro _ _; omega
    · have a0 : ¬ A = 0 := by
        rcases hA with ⟨-, -, rfl⟩ | ⟨-, -, rfl⟩
        · exact nI_ne0 (by omega) (by omega)
        · intro q0
          have := bs_nIn1 d (by omega) (by omega)
          rw [q0] at this
          exact this (by decide)
      rw [if_neg a0, if_neg (nI_nle (by omega) (by omega)), nI_add]
      unfold c_X3_oneStep
      by_cases c : i + k < bs_m M f ∧ bs_rf M (bs_r M f (i + k)) = 0
      · obtain ⟨ci, cr⟩ := c
        obtain ⟨e1, e2⟩ := bs_canY h hf.1 ci cr
        have hv := bs_rV h.1 hf.1 ci
        have h5 := bs_r540 h.1 hf.1 ci
        have hc := hLT _ ci cr
        rw [hB] at hc
        have hn30 := bs_n30 h.1
        have hfn := hf.1
        have f2 : mI S (Y 1 f) 2 = nI B := by rw [bs_f2 h hf.1, hB]
        have b3 : nA M 3 f = nI B := by rw [bs_bN h.1 hf.1, hB]
        have e6 : mI S (Y 2 (bs_r M f (i + k))) 6 = nA M 11 (bs_r M f (i + k)) := bs_i h 2 _ 6 hv rfl
        have e5 : mI S (Y 2 (bs_r M f (i + k))) 5 = nA M 10 (bs_r M f (i + k)) := bs_i h 2 _ 5 hv rfl
        rw [e1, e2, bs_bnd2, bs_bnd2, if_neg bs_10, if_pos rfl, bs_o1 h hf.1, bs_bnd, bs_c_rod h hf.1 ci, bs_let, bs_let, bs_c_value h hv, bs_bnd, bs_let, bs_m_rodOf h.1 hf.1 ci, bs_bnd, bs_m_digit h.1 hv, bs_bnd, bs_let, e5, e6, f2, bs_gd (bs_inB (n := f) (by omega) (by decide)), bs_cl (n := f) (by omega), b3]
        have hs1 : bs_s M + 1 < 5000 := by omega
        generalize hcc : bs_dv M (bs_r M f (i + k)) = cc at *
        -- what follows a step
        have nxt : ∀ (w dd : Nat) (H i7 : Int32), w < B → dd < 2 → i7 - H * nI B = nI w → (∀ u l, c_X3_reasonFor A H u l = m_X6_reason u l H sg) → ¬ H = 99 → ((H = 0 ∧ dd = 0) ∨ (¬ H = 0 ∧ dd = 1)) → ((sgn = 1 ∧ H = nI dd) ∨ (sgn = 0 ∧ H = -nI dd)) → (sgn = 1 → w + B * dd = cc + d) → (sgn = 0 → w + d = cc + B * dd) →
            ∃ z Y' S' M', (bnd2 (c_X3_oneStep_J66 S (Y 3 0) (some (Y 1 f)) (nI (i + k)) A (some (Y 2 (bs_r M f (i + k)))) (nA M 11 (bs_r M f (i + k))) (nA M 10 (bs_r M f (i + k))) i7 H) fun i5_ S6 => if i5_ = (99 : Int32) then some ((0 : Int32), S6) else c_X3_put_L6 n S6 (Y 3 0) (some (Y 1 f)) (nI i) i5_ (nI k + 1)) = some (z, S') ∧ m_X6_change_J71 (m_X6_change_L6 n2) M (nI f) sg (nI (i + k)) (nI d) (nI (bs_r M f (i + k))) i7 H = some (z, M') ∧ (z = 0 ∨ z = 1) ∧ bs_W x0 s0 Y' S' M' ∧ bs_T B Y M Y' M' ∧ bs_TP Y S M S' M' ∧ bs_s M' ≤ bs_s M + (bs_m M f - (i + k)) ∧ bs_Q B sgn d (d ≤ cc) M M' := by
          intro w dd H i7 hwB hdd e7 hre h99 hH hH2 hpos hneg
          have hAs : A = sg * nI d := by
            rcases hA with ⟨-, q1, q2⟩ | ⟨-, q1, q2⟩
            · rw [q1, q2, Int32.one_mul]
            · rw [q1, q2, bs_neg1]
          have hA2 : (sgn = 1 ∧ sg = 1 ∧ H = nI dd) ∨ (sgn = 0 ∧ sg = -1 ∧ H = -nI dd) := by
            rcases hA with ⟨a1, a2, -⟩ | ⟨a1, a2, -⟩
            · rcases hH2 with ⟨-, a4⟩ | ⟨a3, -⟩
              · exact Or.inl ⟨a1, a2, a4⟩
              · omega
            · rcases hH2 with ⟨a3, -⟩ | ⟨-, a4⟩
              · omega
              · exact Or.inr ⟨a1, a2, a4⟩
          obtain ⟨Y1, S1, M1, g1, g2, g3, g4, g5, g6, g7, g8⟩ := bs_stepJ hW hf hB ci hs1 (show w < 16 by omega) hwB A sg (nI d) H i7 e7 hAs hre
          have hph := bs_ph_up g8 540
          rw [if_pos h5, if_pos h5, g7, hcc] at hph
          cases q with
          | zero => omega
          | succ q =>
            have hmm := bs_T_m g4
            obtain ⟨z, Y2, S2, M2, k1, k2, k3, k4, k5, k6, k7, k8⟩ := bs_putL f i B hB2 hi2 q n n2 Y1 S1 M1 (k + 1) dd sgn H sg g3 (bs_own_T g4 hf) (by rw [bs_T_b g4]; exact hB) (bs_LT_T g4 hB hLT) (by rw [hmm]; omega) (by omega) (by omega) (by omega) (by omega) hA2 (by rw [hmm, g6]; omega)
            rw [g4.1 3 0 (by decide), g4.1 1 f (by decide)] at k1
            rw [hmm, g6] at k7
            refine ⟨z, Y2, S2, M2, ?_, ?_, k3, k4, bs_T_tr g4 k5, bs_TP_tr g5 (g4.1 4 0 (by decide)) k6, by omega, ?_⟩
            · rw [g1, bs_bnd2, if_neg h99, nI_1]
              exact k1
            · rw [g2]
              rcases hH with ⟨a1, a2⟩ | ⟨a1, a2⟩
              · rw [if_pos a1]
                rw [a2] at k2
                exact k2
              · rw [if_neg a1]
                rw [a2] at k2
                exact k2
            · have e9 : dd = 0 → M2 = M1 := by
                intro q0
                rw [q0] at k2
                cases n2 with
                | zero => omega
                | succ n2 =>
                  rw [m_X6_change_L6, if_pos (show nI 0 ≤ 0 by decide)] at k2
                  exact (congrArg Prod.snd (Option.some.inj k2)).symm
              constructor
              · intro a1
                have t1 := k8.1 a1
                have t2 := hpos a1
                rw [g6] at t1
                have : dd = 0 ∨ dd = 1 := by omega
                rcases this with rfl | rfl
                · rw [e9 rfl, g6]
                  rcases hB2 with rfl | rfl <;> omega
                · rcases hB2 with rfl | rfl <;> omega
              · intro a1 a2
                have t2 := hneg a1
                have dd0 : dd = 0 := by
                  rcases Nat.lt_or_ge dd 1 with c | c
                  · omega
                  · have : dd = 1 := by omega
                    subst this
                    omega
                subst dd0
                rw [e9 rfl, g6]
                rcases hB2 with rfl | rfl <;> omega
        rcases hA with ⟨a1, rfl, rfl⟩ | ⟨a1, rfl, rfl⟩
        · have hre := fun H u l => bs_rea1 (a := nI d) (nI_pos' (by omega)) u l H
          rw [Int32.one_mul, nI_add, if_pos (nI_pos' (by omega))]
          by_cases c1 : cc + d < B
          · rw [if_pos (nI_lt c1 (by omega)), if_pos (nI_pos' (by omega)), if_pos (nI_lt c1 (by omega))]
            exact nxt (cc + d) 0 0 _ c1 (by omega) (by rw [Int32.zero_mul, Int32.sub_zero]) (hre 0) (by decide) (Or.inl ⟨rfl, rfl⟩) (Or.inl ⟨a1, rfl⟩) (fun _ => by omega) (fun q0 => by omega)
          · rw [if_neg (nI_nlt (by omega) (by omega)), if_neg (nI_nlt (by omega) (by omega)), if_pos (nI_pos' (by omega))]
            exact nxt (cc + d - B) 1 1 _ (by omega) (by omega) (by rw [Int32.one_mul, pk_sub (a := cc + d) (b := B) (by omega)]) (hre 1) (by decide) (Or.inr ⟨bs_10, rfl⟩) (Or.inl ⟨a1, rfl⟩) (fun _ => by omega) (fun q0 => by omega)
        · have hre := fun H u l => bs_rea2 (a := -nI d) (bs_nIn1 d (by omega) (by omega)) u l H
          rw [bs_neg1, ← Int32.sub_eq_add_neg]
          by_cases c1 : d ≤ cc
          · rw [pk_sub c1, if_pos (nI_lt (by omega) (by omega)), if_pos (nI_pos' (by omega)), if_pos (nI_pos' (by omega)), if_pos (nI_lt (by omega) (by omega))]
            exact nxt (cc - d) 0 0 _ (by omega) (by omega) (by rw [Int32.zero_mul, Int32.sub_zero]) (hre 0) (by decide) (Or.inl ⟨rfl, rfl⟩) (Or.inr ⟨a1, rfl⟩) (fun q0 => by omega) (fun _ => by omega)
          · have neg : nI cc - nI d < 0 := pk_sneg (by omega) (by omega)
            have lt : nI cc - nI d < nI B := by
              rw [Int32.lt_iff_toInt_lt] at neg ⊢
              rw [nI_toInt (by omega)]
              have : (0 : Int32).toInt = 0 := rfl
              omega
            have nn : ¬ (0 : Int32) ≤ nI cc - nI d := by rw [bs_nle]; exact fun q => q neg
            rw [if_pos lt, if_neg nn, if_neg nn]
            refine nxt (cc + B - d) 1 (-1) _ (by omega) (by omega) ?_ (hre (-1)) (by decide) (Or.inr ⟨by decide, rfl⟩) (Or.inr ⟨a1, rfl⟩) (fun q0 => by omega) (fun _ => by omega)
            rw [bs_neg1, Int32.sub_eq_add_neg, Int32.neg_neg, Int32.sub_eq_add_neg, Int32.add_assoc, Int32.add_comm (-nI d), ← Int32.add_assoc, nI_add, ← Int32.sub_eq_add_neg, pk_sub (by omega)]
      · obtain ⟨S', M', g1, g2, g3, g4, g5, g6, g7⟩ := bs_canN hW hf.1 (show i + k < 2 ^ 30 by omega) c B
        rw [g1, g2, bs_bnd2, if_pos rfl, bs_bnd2, bs_bnd2, if_pos rfl, if_neg bs_10]
        refine ⟨0, Y, S', M', rfl, rfl, Or.inl rfl, g3, g4, g5, by omega, ?_, ?_⟩
        · intro _; rw [g6, g7]; omega
        · intro _ _; rw [g6, g7]; omega
/-- to add or to take a digit at a rod -/
theorem bs_put1 {Y : bs_Ly} {S : Mem} {M : MS} {f i d sgn : Nat} {A sg : Int32} (hW : bs_W x0 s0 Y S M) (hf : bs_own Y M f) (hLT : bs_LT M f) (hi2 : i < 1000) (hd : d < bs_b M f) (hA : (sgn = 1 ∧ sg = 1 ∧ A = nI d) ∨ (sgn = 0 ∧ sg = -1 ∧ A = -nI d)) (hs : bs_s M + (bs_m M f - i) < 5000) :
    ∃ z Y' S' M', c_X3_put S (Y 3 0) (some (Y 1 f)) (nI i) A = some (z, S') ∧ m_X6_change M (nI f) (nI i) (nI d) sg = some (z, M') ∧ (z = 0 ∨ z = 1) ∧ bs_W x0 s0 Y' S' M' ∧ bs_T (bs_b M f) Y M Y' M' ∧ bs_TP Y S M S' M' ∧ bs_s M' ≤ bs_s M + (bs_m M f - i) ∧ bs_Q (bs_b M f) sgn d (d ≤ bs_dv M (bs_r M f i)) M M' := by
  have hm := bs_m18 hW.1.1 hf.1
  exact bs_putL f i (bs_b M f) (bs_bb hW.1.1 hf.1) hi2 (bs_m M f) bigN bigN Y S M 0 d sgn A sg hW hf rfl hLT (by omega) (by omega) (by unfold bigN; omega) (by unfold bigN; omega) hd hA hs
end BsPutL
