/-! divide -/
theorem bs_dg_pow {b : Nat} (hb : 10 ≤ b) : ∀ n v k, bs_dg b n v = k + 1 → b ^ k ≤ v
  | 0, v, k, h => absurd h (by unfold bs_dg; omega)
  | n + 1, v, k, h => by
    rw [bs_dg] at h
    split at h
    · omega
    · rename_i c
      cases k with
      | zero => rw [Nat.pow_zero]; omega
      | succ k =>
        have := bs_dg_pow hb n (v / b) k (by omega)
        rw [Nat.pow_succ]
        exact (Nat.le_div_iff_mul_le (by omega)).mp this
theorem bs_dg_up {b : Nat} (hb : 10 ≤ b) : ∀ n v, v < 10 ^ n → v < b ^ bs_dg b n v
  | 0, v, h => by
    rw [Nat.pow_zero] at h
    have : v = 0 := by omega
    subst this
    exact Nat.one_pos
  | n + 1, v, h => by
    rw [bs_dg]
    split
    · rename_i c
      rw [c]
      exact Nat.one_pos
    · have h1 : v / b < 10 ^ n := by
        have h2 : v / b ≤ v / 10 := Nat.div_le_div_left hb (by decide)
        have h3 : v / 10 < 10 ^ n := by
          rw [Nat.pow_succ] at h
          omega
        omega
      have := bs_dg_up hb n (v / b) h1
      rw [Nat.pow_succ]
      exact (Nat.div_lt_iff_lt_mul (by omega)).mp this
theorem bs_dg1 {b v : Nat} (h0 : 0 < v) : 1 ≤ bs_dg b 64 v := by
  rw [bs_dg, if_neg (by omega)]
  omega
/-- the highest digit -/
theorem bs_top {b v : Nat} (hb : 10 ≤ b) (hv : v < 2 ^ 63) (h0 : 0 < v) : 0 < bs_dig b v (bs_dg b 64 v - 1) := by
  have h1 := bs_dg1 (b := b) h0
  have h2 := bs_dg_pow hb 64 v (bs_dg b 64 v - 1) (by omega)
  have h3 := bs_dg_up hb 64 v (Nat.lt_trans hv (by decide))
  have hp : 0 < b ^ (bs_dg b 64 v - 1) := Nat.pow_pos (by omega)
  have e : b ^ bs_dg b 64 v = b * b ^ (bs_dg b 64 v - 1) := by
    rw [← Nat.pow_succ', show (bs_dg b 64 v - 1).succ = bs_dg b 64 v by omega]
  unfold bs_dig
  have h4 : v / b ^ (bs_dg b 64 v - 1) < b := by
    rw [Nat.div_lt_iff_lt_mul hp, ← e]
    exact h3
  rw [Nat.mod_eq_of_lt h4]
  exact Nat.div_pos h2 hp
def bs_tr (R P h b : Nat) : Nat := if b - 1 < R / P / h then b - 1 else R / P / h
theorem bs_c_trial {R b h q : Nat} (hb : b = 10 ∨ b = 16) (hR : R < 2 ^ 63) (hh : 0 < h) (hh2 : h < b) (hq : q < 1000) (hP : b ^ q < 2 ^ 63) : c_X3_firstTrial (lN R) (nI b) (nI h) (nI q) = some (nI (bs_tr R (b ^ q) h b)) := by
  have hp : 0 < b ^ q := Nat.pow_pos (by omega)
  have h1 : R / b ^ q < 2 ^ 63 := Nat.lt_of_le_of_lt (Nat.div_le_self _ _) hR
  have h2 : R / b ^ q / h < 2 ^ 63 := Nat.lt_of_le_of_lt (Nat.div_le_self _ _) h1
  have nz1 : nzL (lN (b ^ q)) = true := decide_eq_true (fun e => by have := (bs_le0 hP).mp (by rw [e]; decide); omega)
  unfold c_X3_firstTrial bs_tr
  rw [bs_c_pow (by omega) hq, bs_bnd, if_neg (fun e => by have := (bs_le0 hP).mp e; omega), if_pos (show (0 : Int32) < nI h from nI_lt (a := 0) hh (by omega)), bs_gd nz1, bs_gd (bs_nz hh (by omega)), bs_s1 (by omega), nI_l (by omega), nI_l (by omega), pk_lDiv hR hp hP, pk_lDiv h1 hh (by omega)]
  by_cases c : b - 1 < R / b ^ q / h
  · rw [if_pos ((pk_lLT (by omega) h2).mpr c), if_pos c, lN_i]
  · rw [if_neg (fun e => c ((pk_lLT (by omega) h2).mp e)), if_neg c, lN_i]
def bs_D : Nat → Nat
  | 0 => 0
  | k + 1 => bs_D k + 13 * (18 - k) + 2 * (171 - bs_U k)
theorem bs_D19 : ∀ k, k ≤ 19 → bs_D k ≤ 4503 := by decide +kernel
section BsDiv
variable {x0 s0 : Nat}
theorem bs_tpL {f g b v k t nv h : Nat} (hb : b = 10 ∨ b = 16) (hv : v < 2 ^ 63) (ht : t < b) (hk : k < 40) (k48 : MS → Int32 → Int32 → Int64 → Int32 → Int32 → Int32 → Int32 → Int32 → Option (Int32 × MS)) :
    ∀ j n n2 (Y : bs_Ly) (S : Mem) (M : MS), bs_W x0 s0 Y S M → bs_own Y M f → bs_b M f = b → bs_LT M f → j ≤ 64 → j < n → j + 1 < n2 → bs_s M + 2 * bs_U (k + j) < 5000 + 2 * bs_U k →
    ∃ z Y' S' M', c_X3_takeProducts_L12 n S (Y 3 0) (some (Y 1 f)) (lN v) (nI k) (nI t) (nI j + (-1)) = some (z, S') ∧ m_X6_divided_L176 k48 n2 M (nI f) (nI g) (lN v) (nI b) (nI nv) (nI h) 1 (nI k) (lN t) (nI j + (-1)) = k48 M' (nI f) (nI g) (lN v) (nI b) (nI nv) (nI h) z (nI k + (-1)) ∧ (z = 0 ∨ z = 1) ∧ bs_W x0 s0 Y' S' M' ∧ bs_T b Y M Y' M' ∧ bs_s M' + 2 * bs_U k ≤ bs_s M + 2 * bs_U (k + j)
  | j, 0, _, _, _, _, _, _, _, _, _, hn, _, _ => absurd hn (Nat.not_lt_zero _)
  | j, _ + 1, 0, _, _, _, _, _, _, _, _, _, hn, _ => absurd hn (Nat.not_lt_zero _)
  | 0, n + 1, n2 + 1, Y, S, M, hW, hf, hB, hLT, _, _, _, _ => by
    rw [c_X3_takeProducts_L12, m_X6_divided_L176, if_pos bs_m11, if_pos bs_m11]
    exact ⟨1, Y, S, M, rfl, rfl, Or.inr rfl, hW, bs_T_refl _ _ _, by rw [Nat.add_zero]; omega⟩
  | j + 1, n + 1, n2 + 1, Y, S, M, hW, hf, hB, hLT, hj, hn, hn2, hs => by
    have hr := hW.1
    have hfn := hf.1
    have hm := bs_m18 hr.1 hf.1
    have hU := bs_U_mono j k
    have eU : bs_U (k + (j + 1)) = bs_U (k + j) + (18 - (k + j)) := rfl
    have hdv : bs_dig b v j < b := Nat.mod_lt _ (by omega)
    have hp : t * bs_dig b v j < b * b := Nat.mul_lt_mul'' ht hdv
    have hpl : t * bs_dig b v j < 256 := Nat.lt_of_lt_of_le hp (by rcases hb with rfl | rfl <;> decide)
    obtain ⟨p1, p2, p3⟩ := bs_digP hb hp
    obtain ⟨z1, Y1, S1, M1, g1, g2, g3, g4⟩ := bs_two2 (at0 := k + j) (sgn := 0) (sg := -1) hW hf hB hLT (by omega) hp (Or.inr ⟨rfl, rfl⟩) (by omega)
    rw [bs_neg1] at g1
    have f2 : mI S (Y 1 f) 2 = nI b := by rw [bs_f2 hr hfn, hB]
    have f21 : mI S1 (Y 1 f) 2 = nI b := by
      have := bs_f2 g2.1 (f := f) (by rw [bs_T_n g3]; exact hfn)
      rw [g3.1 1 f (by decide), bs_T_b g3, hB] at this
      exact this
    have d1 : c_X5_digitAt (lN (t * bs_dig b v j)) (nI b) 1 = some (nI (t * bs_dig b v j / b)) := by
      have := bs_c_dig (b := b) (v := t * bs_dig b v j) (i := 1) (by omega) (by omega) (by omega) (by decide)
      rw [p1] at this
      exact this
    have d0 : c_X5_digitAt (lN (t * bs_dig b v j)) (nI b) 0 = some (nI (t * bs_dig b v j % b)) := by
      have := bs_c_dig (b := b) (v := t * bs_dig b v j) (i := 0) (by omega) (by omega) (by omega) (by decide)
      rw [p2] at this
      exact this
    have hlf : ∀ M0 x1, m_X6_divided_L176 k48 n2 M0 (nI f) (nI g) (lN v) (nI b) (nI nv) (nI h) 0 (nI k) (lN t) x1 = k48 M0 (nI f) (nI g) (lN v) (nI b) (nI nv) (nI h) 0 (nI k + (-1)) := by
      intro M0 x1
      cases n2 with
      | zero => omega
      | succ n2 =>
        rw [m_X6_divided_L176, if_pos rfl]
        split <;> rfl
    rw [c_X3_takeProducts_L12, m_X6_divided_L176, pk_m1, if_neg (nI_pos (by omega)), if_neg (nI_pos (by omega)), if_neg bs_10, bs_o1 hr hfn, bs_bnd, f2, bs_c_dig (by omega) (by omega) hv (by omega), bs_bnd, bs_let, pk_mul, nI_l (by omega), d1, bs_bnd, nI_add, bs_a1, g1, bs_bnd2, f21, d0, bs_bnd, bs_m_dig (by omega) (by omega) hv (by omega), bs_bnd, lN_i, pk_mul]
    rcases g4 with ⟨rfl, g5, g6, g7, -, g9, -⟩ | ⟨rfl, z2, Y2, S2, M2, k1, k2, k3, k4, k5, -, k7, -⟩
    · rw [if_pos rfl, g5, bs_bnd2, hlf]
      exact ⟨0, Y1, S1, M1, rfl, rfl, Or.inl rfl, g6, g7, by omega⟩
    · rw [bs_neg1] at k1
      rw [if_neg bs_10, k1, bs_bnd2, k3, bs_bnd2]
      rcases k2 with rfl | rfl
      · rw [if_pos rfl, hlf]
        exact ⟨0, Y2, S2, M2, rfl, rfl, Or.inl rfl, k4, k5, by omega⟩
      · rw [if_neg bs_10]
        obtain ⟨z3, Y3, S3, M3, l1, l2, l3, l4, l5, l6⟩ := bs_tpL (g := g) (nv := nv) (h := h) hb hv ht hk k48 j n n2 Y2 S2 M2 k4 (bs_own_T k5 hf) (by rw [bs_T_b k5]; exact hB) (bs_LT_T k5 hB hLT) (by omega) (by omega) (by omega) (by omega)
        rw [k5.1 3 0 (by decide), k5.1 1 f (by decide)] at l1
        exact ⟨z3, Y3, S3, M3, l1, l2, l3, l4, bs_T_tr k5 l5, by omega⟩
theorem bs_trL {f g b v k h R c : Nat} (hb : b = 10 ∨ b = 16) (hv : v < 2 ^ 63) (hk : k < 40) (hR : R < 2 ^ 63) (k40 : Mem → Nat → Option Nat → Option Nat → Int64 → Int32 → Int32 → Option (Int32 × Mem)) (k48 : MS → Int32 → Int32 → Int64 → Int32 → Int32 → Int32 → Int32 → Int32 → Option (Int32 × MS)) :
    ∀ t n n2 (Y : bs_Ly) (S : Mem) (M : MS), bs_W x0 s0 Y S M → bs_own Y M f → bs_own Y M g → bs_b M f = b → bs_b M g = b → bs_LT M f → bs_LT M g → bs_m M g - k ≤ c → t < b → t < n → t + 1 < n2 → bs_s M + t * c + 2 * bs_U (k + bs_dg b 64 v) < 5000 + 2 * bs_U k →
    ∃ Y' S' M', bs_W x0 s0 Y' S' M' ∧ bs_T b Y M Y' M' ∧ bs_s M' + 2 * bs_U k ≤ bs_s M + t * c + 2 * bs_U (k + bs_dg b 64 v) ∧
      ((c_X3_quotient_L108 k40 n S (Y 3 0) (some (Y 1 f)) (some (Y 1 g)) (lN v) (nI (bs_dg b 64 v)) (nI k) (lN R) (nI t) (lN (v * b ^ k)) = some (0, S') ∧ m_X6_divided_L131 k48 n2 M (nI f) (nI g) (lN v) (nI b) (nI (bs_dg b 64 v)) (nI h) 1 (nI k) (lN R) (lN (b ^ k)) (lN t) = k48 M' (nI f) (nI g) (lN v) (nI b) (nI (bs_dg b 64 v)) (nI h) 0 (nI k + (-1))) ∨
       (c_X3_quotient_L108 k40 n S (Y 3 0) (some (Y 1 f)) (some (Y 1 g)) (lN v) (nI (bs_dg b 64 v)) (nI k) (lN R) (nI t) (lN (v * b ^ k)) = k40 S' (Y 3 0) (some (Y 1 f)) (some (Y 1 g)) (lN v) (nI (bs_dg b 64 v)) (nI k + (-1)) ∧ m_X6_divided_L131 k48 n2 M (nI f) (nI g) (lN v) (nI b) (nI (bs_dg b 64 v)) (nI h) 1 (nI k) (lN R) (lN (b ^ k)) (lN t) = k48 M' (nI f) (nI g) (lN v) (nI b) (nI (bs_dg b 64 v)) (nI h) 1 (nI k + (-1))))
  | t, 0, _, _, _, _, _, _, _, _, _, _, _, _, _, hn, _, _ => absurd hn (Nat.not_lt_zero _)
  | t, _ + 1, 0, _, _, _, _, _, _, _, _, _, _, _, _, _, hn, _ => absurd hn (Nat.not_lt_zero _)
  | t, n + 1, n2 + 1, Y, S, M, hW, hf, hg, hBf, hBg, hLf, hLg, hc, ht, hn, hn2, hs => by
    have hr := hW.1
    have hfn := hf.1
    have h19 := bs_dg19 (b := b) (by omega) hv
    have f2 : mI S (Y 1 f) 2 = nI b := by rw [bs_f2 hr hfn, hBf]
    have hmul : lN t * lN (v * b ^ k) = lN t * lN v * lN (b ^ k) := by rw [lN_mul, lN_mul, lN_mul, Nat.mul_assoc]
    rw [c_X3_quotient_L108, m_X6_divided_L131, if_neg bs_10, nI_l (by omega), hmul]
    -- products are taken
    have fin : ∃ Y' S' M', bs_W x0 s0 Y' S' M' ∧ bs_T b Y M Y' M' ∧ bs_s M' + 2 * bs_U k ≤ bs_s M + t * c + 2 * bs_U (k + bs_dg b 64 v) ∧
        ((c_X3_quotient_J144 k40 S (Y 3 0) (some (Y 1 f)) (some (Y 1 g)) (lN v) (nI (bs_dg b 64 v)) (nI k) (nI t) = some (0, S') ∧ (jLet (nI (bs_dg b 64 v) - 1) fun i3_ => m_X6_divided_L176 k48 bigN M (nI f) (nI g) (lN v) (nI b) (nI (bs_dg b 64 v)) (nI h) 1 (nI k) (lN t) i3_) = k48 M' (nI f) (nI g) (lN v) (nI b) (nI (bs_dg b 64 v)) (nI h) 0 (nI k + (-1))) ∨
         (c_X3_quotient_J144 k40 S (Y 3 0) (some (Y 1 f)) (some (Y 1 g)) (lN v) (nI (bs_dg b 64 v)) (nI k) (nI t) = k40 S' (Y 3 0) (some (Y 1 f)) (some (Y 1 g)) (lN v) (nI (bs_dg b 64 v)) (nI k + (-1)) ∧ (jLet (nI (bs_dg b 64 v) - 1) fun i3_ => m_X6_divided_L176 k48 bigN M (nI f) (nI g) (lN v) (nI b) (nI (bs_dg b 64 v)) (nI h) 1 (nI k) (lN t) i3_) = k48 M' (nI f) (nI g) (lN v) (nI b) (nI (bs_dg b 64 v)) (nI h) 1 (nI k + (-1)))) := by
      obtain ⟨z3, Y3, S3, M3, l1, l2, l3, l4, l5, l6⟩ := bs_tpL (g := g) (nv := bs_dg b 64 v) (h := h) hb hv ht hk k48 (bs_dg b 64 v) bigN bigN Y S M hW hf hBf hLf (by omega) (by unfold bigN; omega) (by unfold bigN; omega) (by omega)
      refine ⟨Y3, S3, M3, l4, l5, by omega, ?_⟩
      unfold c_X3_quotient_J144 c_X3_takeProducts
      rw [bs_o1 hr hfn, bs_bnd, f2, bs_c_dg (by omega) (by omega) hv, bs_bnd, bs_let, bs_let, Int32.sub_eq_add_neg, l1, bs_bnd2, l2]
      rcases l3 with rfl | rfl
      · rw [if_pos rfl]
        exact Or.inl ⟨rfl, rfl⟩
      · rw [if_neg bs_10]
        exact Or.inr ⟨rfl, rfl⟩
    by_cases c0 : t = 0
    · subst c0
      have z0 : lN 0 * lN v * lN (b ^ k) ≤ lN R := by
        rw [lN_mul, lN_mul, Nat.zero_mul, Nat.zero_mul]
        exact (pk_lLE (a := 0) (by decide) hR).mpr (Nat.zero_le _)
      rw [if_pos (show nI 0 ≤ 0 by decide), if_pos z0]
      exact fin
    · rw [if_neg (nI_nle (by omega) (by omega))]
      by_cases c1 : lN t * lN v * lN (b ^ k) ≤ lN R
      · rw [if_pos c1, if_pos c1]
        exact fin
      · rw [if_neg c1, if_neg c1]
        obtain ⟨t, rfl⟩ : ∃ t1, t = t1 + 1 := ⟨t - 1, by omega⟩
        have hsu : (t + 1) * c = t * c + c := Nat.succ_mul _ _
        have hUm := bs_U_mono (bs_dg b 64 v) k
        obtain ⟨z, Y1, S1, M1, g1, g2, g3, g4, g5, g6, g7, -⟩ := bs_put1 (i := k) (d := 1) hW hg hLg (by omega) (by omega) (Or.inr ⟨rfl, rfl, rfl⟩) (by omega)
        have T1 : bs_T b Y M Y1 M1 := hBg ▸ g5
        have g1' : c_X3_put S (Y 3 0) (some (Y 1 g)) (nI k) (-1) = some (z, S1) := g1
        have g2' : m_X6_change M (nI g) (nI k) 1 (-1) = some (z, M1) := g2
        have hm1 := bs_T_m T1
        rw [g1', g2', bs_bnd2, bs_bnd2, bs_let, show lN (t + 1) - 1 = lN t from lN_sub (a := t + 1) (b := 1) (by omega)]
        rcases g3 with rfl | rfl
        · rw [if_pos rfl]
          refine ⟨Y1, S1, M1, g4, T1, by omega, Or.inl ⟨rfl, ?_⟩⟩
          cases n2 with
          | zero => omega
          | succ n2 =>
            rw [m_X6_divided_L131, if_pos rfl, bs_let, show bigN = 999999 + 1 from rfl, m_X6_divided_L176, if_pos rfl]
            split <;> rfl
        · rw [if_neg bs_10, pk_m1]
          obtain ⟨Y3, S3, M3, l1, l2, l3, l4⟩ := bs_trL (h := h) hb hv hk hR k40 k48 t n n2 Y1 S1 M1 g4 (bs_own_T T1 hf) (bs_own_T T1 hg) (by rw [bs_T_b T1]; exact hBf) (by rw [bs_T_b T1]; exact hBg) (bs_LT_T T1 hBf hLf) (bs_LT_T T1 hBg hLg) (by rw [hm1]; exact hc) (by omega) (by omega) (by omega) (by omega)
          rw [T1.1 3 0 (by decide), T1.1 1 f (by decide), T1.1 1 g (by decide)] at l4
          exact ⟨Y3, S3, M3, l1, bs_T_tr T1 l2, by omega, l4⟩
theorem bs_divL {f g b v DX : Nat} (hb : b = 10 ∨ b = 16) (hv : v < 2 ^ 63) (h0 : 0 < v) (hDX : DX ≤ 19) (hP : ∀ q, q + 1 ≤ DX → b ^ q < 2 ^ 63) : ∀ k n n2 (Y : bs_Ly) (S : Mem) (M : MS), bs_W x0 s0 Y S M → bs_own Y M f → bs_own Y M g → bs_b M f = b → bs_b M g = b → bs_LT M f → bs_LT M g → (∀ i, i < bs_m M f → bs_rf M (bs_r M f i) = 0) → k + bs_dg b 64 v ≤ DX + 1 → k < n → k + 1 < n2 → bs_s M + bs_D k ≤ 4700 →
    ∃ z Y' S' M', c_X3_quotient_L40 n S (Y 3 0) (some (Y 1 f)) (some (Y 1 g)) (lN v) (nI (bs_dg b 64 v)) (nI k + (-1)) = some (z, S') ∧ m_X6_divided_L48 n2 M (nI f) (nI g) (lN v) (nI b) (nI (bs_dg b 64 v)) (nI (bs_dig b v (bs_dg b 64 v - 1))) 1 (nI k + (-1)) = some (z, M') ∧ (z = 0 ∨ z = 1) ∧ bs_W x0 s0 Y' S' M' ∧ bs_T b Y M Y' M'
  | k, 0, _, _, _, _, _, _, _, _, _, _, _, _, _, hn, _, _ => absurd hn (Nat.not_lt_zero _)
  | k, _ + 1, 0, _, _, _, _, _, _, _, _, _, _, _, _, _, hn, _ => absurd hn (Nat.not_lt_zero _)
  | 0, n + 1, n2 + 1, Y, S, M, hW, hf, hg, hBf, hBg, hLf, hLg, hr, _, _, _, _ => by
    rw [c_X3_quotient_L40, m_X6_divided_L48, if_pos bs_m11, if_pos bs_m11, bs_gd bs_zb1]
    exact ⟨1, Y, S, M, rfl, rfl, Or.inr rfl, hW, bs_T_refl _ _ _⟩
  | k + 1, n + 1, n2 + 1, Y, S, M, hW, hf, hg, hBf, hBg, hLf, hLg, hr, hk, hn, hn2, hs => by
    have h := hW.1
    have hfn := hf.1
    have h19 := bs_dg19 (b := b) (by omega) hv
    have h1 := bs_dg1 (b := b) h0
    have hmg := bs_m18 h.1 hg.1
    have hgm : 13 * (18 - k) ≥ b * (bs_m M g - k) := by
      have h14 := (bs_fr h.1 hg.1).2.2.1.2
      rw [hBg] at h14
      rcases h14 with q | ⟨q, q2⟩
      · rw [q]; omega
      · rw [q]; omega
    have eD : bs_D (k + 1) = bs_D k + 13 * (18 - k) + 2 * (171 - bs_U k) := rfl
    rw [eD] at hs
    have hUl := bs_U_le (k + bs_dg b 64 v)
    have hUk := bs_U_le k
    have hUm := bs_U_mono (bs_dg b 64 v) k
    have hh := bs_top (b := b) (by omega) hv h0
    have hh2 : bs_dig b v (bs_dg b 64 v - 1) < b := Nat.mod_lt _ (by omega)
    have f2 : mI S (Y 1 f) 2 = nI b := by rw [bs_f2 h hfn, hBf]
    have hlf : ∀ M0 x1, m_X6_divided_L48 n2 M0 (nI f) (nI g) (lN v) (nI b) (nI (bs_dg b 64 v)) (nI (bs_dig b v (bs_dg b 64 v - 1))) 0 x1 = some (0, M0) := by
      intro M0 x1
      cases n2 with
      | zero => omega
      | succ n2 =>
        rw [m_X6_divided_L48, if_pos rfl, bs_gd bs_zb0]
        split <;> rfl
    obtain ⟨w, w1, w2⟩ := bs_m_sv h.1 hf.1
    have ff0 : bs_ff M f (bs_m M f) 0 = 0 := bs_ff_of _ _ (fun k _ hk => hr k (by omega))
    rw [ff0] at w1 w2
    have hR := bs_X63 h.1 hf.1 hLf hr
    have W0 : bs_W x0 s0 Y S (nSF M 16 0) := hW
    have g0 : bs_own Y (nSF M 16 0) g := hg
    have Lg0 : bs_LT (nSF M 16 0) g := hLg
    generalize hRR : bs_sv M f (bs_m M f) 0 = R at *
    have hPq := hP (k + bs_dg b 64 v - 1) (by omega)
    have hp0 : 0 < b ^ (k + bs_dg b 64 v - 1) := Nat.pow_pos (by omega)
    generalize hHH : bs_dig b v (bs_dg b 64 v - 1) = H at *
    have ctr := bs_c_trial hb hR hh hh2 (q := k + bs_dg b 64 v - 1) (by omega) hPq
    have htb : bs_tr R (b ^ (k + bs_dg b 64 v - 1)) H b < b := by unfold bs_tr; split <;> omega
    have mtr : ∀ K : Int64 → Option (Int32 × MS), (gd (nzL (lN (b ^ (k + bs_dg b 64 v - 1)))) (gd (nzL (nI H).toInt64) (jLet (lN R / lN (b ^ (k + bs_dg b 64 v - 1)) / (nI H).toInt64) fun j20_ => if j20_ ≤ (nI b - 1).toInt64 then K j20_ else K (nI b - 1).toInt64))) = K (lN (bs_tr R (b ^ (k + bs_dg b 64 v - 1)) H b)) := by
      intro K
      have q1 : R / b ^ (k + bs_dg b 64 v - 1) < 2 ^ 63 := Nat.lt_of_le_of_lt (Nat.div_le_self _ _) hR
      have q2 : R / b ^ (k + bs_dg b 64 v - 1) / H < 2 ^ 63 := Nat.lt_of_le_of_lt (Nat.div_le_self _ _) q1
      have nz1 : nzL (lN (b ^ (k + bs_dg b 64 v - 1))) = true := decide_eq_true (fun e => by have := (bs_le0 hPq).mp (by rw [e]; decide); omega)
      rw [bs_gd nz1, bs_gd (bs_nz hh (by omega)), bs_let, bs_s1 (by omega), nI_l (by omega), nI_l (by omega), pk_lDiv hR hp0 hPq, pk_lDiv q1 hh (by omega)]
      unfold bs_tr
      by_cases c : b - 1 < R / b ^ (k + bs_dg b 64 v - 1) / H
      · rw [if_neg (fun e => by have := (pk_lLE q2 (by omega)).mp e; omega), if_pos c]
      · rw [if_pos ((pk_lLE q2 (by omega)).mpr (by omega)), if_neg c]
    generalize htt : bs_tr R (b ^ (k + bs_dg b 64 v - 1)) H b = t at *
    obtain ⟨z, Y1, S1, M1, g1, g2, g3, g4, g5, g6, g7, -⟩ := bs_put1 (i := k) W0 g0 Lg0 (by omega) (show t < bs_b M g by omega) (Or.inl ⟨rfl, rfl, rfl⟩) (show bs_s M + (bs_m M g - k) < 5000 by omega)
    have g7' : bs_s M1 ≤ bs_s M + (bs_m M g - k) := g7
    have T1 : bs_T b Y M Y1 M1 := hBg ▸ g5
    have e1 : c_X5_digitAt (lN v) (nI b) (nI (bs_dg b 64 v - 1)) = some (nI H) := by
      rw [← hHH]
      exact bs_c_dig (by omega) (by omega) hv (by omega)
    rw [c_X3_quotient_L40, m_X6_divided_L48, pk_m1, if_neg (nI_pos (by omega)), if_neg (nI_pos (by omega)), if_neg bs_10, bs_o1 h hfn, bs_bnd, bs_c_sum h hfn, bs_bnd, f2, bs_s1 h1, e1, bs_bnd, nI_add, bs_s1 (by omega), hRR, ctr, bs_bnd, g1, bs_bnd2, w1, bs_bnd2, w2 rfl, bs_m_pow (by omega) (by omega), bs_bnd, bs_m_pow (by omega) (by omega), bs_bnd, mtr]
    unfold m_X6_divided_J116
    rw [lN_i, g2, bs_bnd2]
    have hm1 := bs_T_m T1
    rcases g3 with rfl | rfl
    · rw [if_pos rfl]
      refine ⟨0, Y1, S1, M1, rfl, ?_, Or.inl rfl, g4, T1⟩
      rw [show bigN = 999998 + 1 + 1 from rfl, m_X6_divided_L131, if_pos rfl, bs_let, show bigN = 999999 + 1 from rfl, m_X6_divided_L176, if_pos rfl]
      split <;> exact hlf _ _
    · have f1 := bs_own_T T1 hf
      have f21 : mI S1 (Y 1 f) 2 = nI b := by
        have := bs_f2 g4.1 f1.1
        rw [T1.1 1 f (by decide), bs_T_b T1, hBf] at this
        exact this
      have htc : t * (bs_m M g - k) + (bs_m M g - k) ≤ b * (bs_m M g - k) := by
        rw [← Nat.succ_mul]
        exact Nat.mul_le_mul_right _ htb
      obtain ⟨Y3, S3, M3, l1, l2, l3, l4⟩ := bs_trL (f := f) (g := g) (k := k) (h := H) (c := bs_m M g - k) hb hv (by omega) hR (c_X3_quotient_L40 n) (m_X6_divided_L48 n2) t bigN bigN Y1 S1 M1 g4 f1 (bs_own_T T1 hg) (by rw [bs_T_b T1]; exact hBf) (by rw [bs_T_b T1]; exact hBg) (bs_LT_T T1 hBf hLf) (bs_LT_T T1 hBg hLg) (by rw [hm1]; omega) htb (by unfold bigN; omega) (by unfold bigN; omega) (by omega)
      rw [T1.1 3 0 (by decide), T1.1 1 f (by decide), T1.1 1 g (by decide)] at l4
      have T3 := bs_T_tr T1 l2
      rw [if_neg bs_10, f21, bs_c_pow (by omega) (by omega), bs_bnd, bs_let, lN_mul]
      rcases l4 with ⟨a1, a2⟩ | ⟨a1, a2⟩
      · exact ⟨0, Y3, S3, M3, a1, a2.trans (hlf _ _), Or.inl rfl, l1, T3⟩
      · obtain ⟨z4, Y4, S4, M4, p1, p2, p3, p4, p5⟩ := bs_divL (f := f) (g := g) hb hv h0 hDX hP k n n2 Y3 S3 M3 l1 (bs_own_T T3 hf) (bs_own_T T3 hg) (by rw [bs_T_b T3]; exact hBf) (by rw [bs_T_b T3]; exact hBg) (bs_LT_T T3 hBf hLf) (bs_LT_T T3 hBg hLg) (by intro k hk; rw [bs_T_m T3] at hk; rw [bs_T_rf T3, bs_T_r T3]; exact hr k hk) (by omega) (by omega) (by omega) (by omega)
        rw [T3.1 3 0 (by decide), T3.1 1 f (by decide), T3.1 1 g (by decide)] at p1
        rw [hHH] at p2
        exact ⟨z4, Y4, S4, M4, a1.trans p1, a2.trans p2, p3, p4, bs_T_tr T3 p5⟩
end BsDiv
