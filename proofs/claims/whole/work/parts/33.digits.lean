/-! digits and powers, on both sides the same -/
theorem bs_dg_le (b : Nat) (hb : 10 ≤ b) : ∀ n v k, v < 10 ^ k → k ≤ n → bs_dg b n v ≤ k
  | 0, v, k, _, _ => Nat.zero_le _
  | n + 1, v, k, hv, hk => by
    rw [bs_dg]
    split
    · exact Nat.zero_le _
    · rename_i c
      cases k with
      | zero => rw [Nat.pow_zero] at hv; omega
      | succ k =>
        have h1 : v / b < 10 ^ k := by
          have h2 : v / b ≤ v / 10 := Nat.div_le_div_left hb (by decide)
          have h3 : v / 10 < 10 ^ k := by
            rw [Nat.pow_succ] at hv
            omega
          omega
        have := bs_dg_le b hb n (v / b) k h1 (by omega)
        omega
theorem bs_t19 {v : Nat} (hv : v < 2 ^ 63) : v < 10 ^ 19 := Nat.lt_trans hv (by decide)
theorem bs_dg19 {b v : Nat} (hb : 10 ≤ b) (hv : v < 2 ^ 63) : bs_dg b 64 v ≤ 19 := bs_dg_le b hb 64 v 19 (bs_t19 hv) (by decide)
theorem bs_le0 {v : Nat} (hv : v < 2 ^ 63) : lN v ≤ (0 : Int64) ↔ v = 0 := by
  have := pk_lLE (a := v) (b := 0) hv (by decide)
  exact this.trans (by omega)
theorem bs_nz {b : Nat} (h0 : 0 < b) (hb : b < 2 ^ 31) : nzL (Int32.toInt64 (nI b)) = true := by
  refine decide_eq_true ?_
  rw [nI_l hb]
  intro q
  have := (pk_lEQ (a := b) (b := 0) (by omega) (by decide)).mp q
  omega
theorem bs_m_dgL {b : Nat} (hb : 10 ≤ b) (hb2 : b < 2 ^ 31) : ∀ n m v c, v < 2 ^ 63 → v < 10 ^ m → m < n → m ≤ 64 → m_X6_digits_L5 n (nI b) (nI c) (lN v) = some (nI (c + bs_dg b m v))
  | 0, m, v, c, _, _, hn, _ => absurd hn (Nat.not_lt_zero _)
  | n + 1, m, v, c, hv, hm, hn, h64 => by
    rw [m_X6_digits_L5]
    cases m with
    | zero =>
      rw [Nat.pow_zero] at hm
      have : v = 0 := by omega
      subst this
      rw [if_pos ((bs_le0 (v := 0) (by decide)).mpr rfl)]
      rfl
    | succ m =>
      rw [bs_dg]
      by_cases c0 : v = 0
      · subst c0
        rw [if_pos ((bs_le0 (v := 0) (by decide)).mpr rfl), if_pos rfl]
        rfl
      · rw [if_neg (fun q => c0 ((bs_le0 hv).mp q)), if_neg c0, bs_gd (bs_nz (by omega) hb2), bs_let, nI_l hb2, pk_lDiv hv (by omega) (by omega), nI_1]
        have h1 : v / b < 10 ^ m := by
          have h2 : v / b ≤ v / 10 := Nat.div_le_div_left hb (by decide)
          have h3 : v / 10 < 10 ^ m := by
            rw [Nat.pow_succ] at hm
            omega
          omega
        rw [bs_m_dgL hb hb2 n m (v / b) (c + 1) (Nat.lt_of_le_of_lt (Nat.div_le_self _ _) hv) h1 (by omega) (by omega)]
        congr 2
        omega
/-- more than enough room for the digits is the same -/
theorem bs_dg_more {b : Nat} (hb : 10 ≤ b) : ∀ m n v, v < 10 ^ m → m ≤ n → bs_dg b n v = bs_dg b m v
  | 0, n, v, hv, _ => by
    rw [Nat.pow_zero] at hv
    have : v = 0 := by omega
    subst this
    cases n <;> rfl
  | m + 1, 0, v, _, hn => by omega
  | m + 1, n + 1, v, hv, hn => by
    rw [bs_dg, bs_dg]
    split
    · rfl
    · have h1 : v / b < 10 ^ m := by
        have h2 : v / b ≤ v / 10 := Nat.div_le_div_left hb (by decide)
        have h3 : v / 10 < 10 ^ m := by
          rw [Nat.pow_succ] at hv
          omega
        omega
      rw [bs_dg_more hb m n (v / b) h1 (by omega)]
theorem bs_m_dg {b v : Nat} (hb : 10 ≤ b) (hb2 : b < 2 ^ 31) (hv : v < 2 ^ 63) : m_X6_digits (lN v) (nI b) = some (nI (bs_dg b 64 v)) := by
  have h1 : v < 10 ^ 19 := bs_t19 hv
  have := bs_m_dgL hb hb2 bigN 19 v 0 hv h1 (by decide) (by decide)
  rw [Nat.zero_add] at this
  rw [bs_dg_more hb 19 64 v h1 (by decide)]
  exact this
theorem bs_c_dgL {b : Nat} (hb : 10 ≤ b) (hb2 : b < 2 ^ 31) : ∀ n m v c, v < 2 ^ 63 → v < 10 ^ m → m < n → m + c ≤ 63 → c_X5_digitCount_L12 n (nI b) (lN v) (nI c) = some (nI (c + bs_dg b m v))
  | 0, m, v, c, _, _, hn, _ => absurd hn (Nat.not_lt_zero _)
  | n + 1, m, v, c, hv, hm, hn, h64 => by
    rw [c_X5_digitCount_L12, bs_lit 64, if_neg (nI_ge (by omega) (by decide))]
    cases m with
    | zero =>
      rw [Nat.pow_zero] at hm
      have : v = 0 := by omega
      subst this
      rw [if_pos ((bs_le0 (v := 0) (by decide)).mpr rfl)]
      rfl
    | succ m =>
      rw [bs_dg]
      by_cases c0 : v = 0
      · subst c0
        rw [if_pos ((bs_le0 (v := 0) (by decide)).mpr rfl), if_pos rfl]
        rfl
      · rw [if_neg (fun q => c0 ((bs_le0 hv).mp q)), if_neg c0, bs_gd (bs_nz (by omega) hb2), bs_let, nI_l hb2, pk_lDiv hv (by omega) (by omega), nI_1]
        have h1 : v / b < 10 ^ m := by
          have h2 : v / b ≤ v / 10 := Nat.div_le_div_left hb (by decide)
          have h3 : v / 10 < 10 ^ m := by
            rw [Nat.pow_succ] at hm
            omega
          omega
        rw [bs_c_dgL hb hb2 n m (v / b) (c + 1) (Nat.lt_of_le_of_lt (Nat.div_le_self _ _) hv) h1 (by omega) (by omega)]
        congr 2
        omega
theorem bs_c_dg {b v : Nat} (hb : 10 ≤ b) (hb2 : b < 2 ^ 31) (hv : v < 2 ^ 63) : c_X5_digitCount (lN v) (nI b) = some (nI (bs_dg b 64 v)) := by
  have h1 : v < 10 ^ 19 := bs_t19 hv
  have := bs_c_dgL hb hb2 bigN 19 v 0 hv h1 (by decide) (by decide)
  rw [Nat.zero_add] at this
  rw [bs_dg_more hb 19 64 v h1 (by decide)]
  unfold c_X5_digitCount
  rw [bs_lit 1, if_pos (nI_lt (by omega) hb2)]
  exact this
theorem bs_c_digL {b : Nat} (hb : 10 ≤ b) (hb2 : b < 2 ^ 31) : ∀ d n v i, v < 2 ^ 63 → d < n → i + d < 2 ^ 31 → c_X5_digitAt_L13 n (nI b) (nI (i + d)) (lN v) (nI i) = some (nI (v / b ^ d % b))
  | d, 0, v, i, _, hn, _ => absurd hn (Nat.not_lt_zero _)
  | 0, n + 1, v, i, hv, _, hi => by
    rw [c_X5_digitAt_L13, if_pos (nI_le (by omega) (by omega)), bs_gd (bs_nz (by omega) hb2), nI_l hb2, pk_lRem hv (by omega) (by omega), lN_i, Nat.pow_zero, Nat.div_one]
  | d + 1, n + 1, v, i, hv, hn, hi => by
    rw [c_X5_digitAt_L13, if_neg (nI_ge (by omega) (by omega)), bs_gd (bs_nz (by omega) hb2), nI_l hb2, pk_lDiv hv (by omega) (by omega), bs_let, nI_1, show i + (d + 1) = i + 1 + d by omega, bs_c_digL hb hb2 d n (v / b) (i + 1) (Nat.lt_of_le_of_lt (Nat.div_le_self _ _) hv) (by omega) (by omega), Nat.div_div_eq_div_mul, ← Nat.pow_succ']
theorem bs_c_dig {b v i : Nat} (hb : 10 ≤ b) (hb2 : b < 2 ^ 31) (hv : v < 2 ^ 63) (hi : i < 1000) : c_X5_digitAt (lN v) (nI b) (nI i) = some (nI (bs_dig b v i)) := by
  unfold c_X5_digitAt bs_dig
  rw [bs_lit 1, if_pos (nI_lt (by omega) hb2)]
  have := bs_c_digL hb hb2 i bigN v 0 hv (by unfold bigN; omega) (by omega)
  rw [Nat.zero_add] at this
  exact this
theorem bs_m_digL {b : Nat} (hb : 10 ≤ b) (hb2 : b < 2 ^ 31) : ∀ d n v i, v < 2 ^ 63 → d < n → i + d < 2 ^ 31 → m_X6_digitOf_L6 n (nI b) (nI (i + d)) (lN v) (nI i) = some (nI (v / b ^ d % b))
  | d, 0, v, i, _, hn, _ => absurd hn (Nat.not_lt_zero _)
  | 0, n + 1, v, i, hv, _, hi => by
    rw [m_X6_digitOf_L6, if_pos (nI_le (by omega) (by omega)), bs_gd (bs_nz (by omega) hb2), nI_l hb2, pk_lRem hv (by omega) (by omega), lN_i, Nat.pow_zero, Nat.div_one]
  | d + 1, n + 1, v, i, hv, hn, hi => by
    rw [m_X6_digitOf_L6, if_neg (nI_ge (by omega) (by omega)), bs_gd (bs_nz (by omega) hb2), nI_l hb2, pk_lDiv hv (by omega) (by omega), bs_let, nI_1, show i + (d + 1) = i + 1 + d by omega, bs_m_digL hb hb2 d n (v / b) (i + 1) (Nat.lt_of_le_of_lt (Nat.div_le_self _ _) hv) (by omega) (by omega), Nat.div_div_eq_div_mul, ← Nat.pow_succ']
theorem bs_m_dig {b v i : Nat} (hb : 10 ≤ b) (hb2 : b < 2 ^ 31) (hv : v < 2 ^ 63) (hi : i < 1000) : m_X6_digitOf (lN v) (nI b) (nI i) = some (nI (bs_dig b v i)) := by
  unfold m_X6_digitOf bs_dig
  have := bs_m_digL hb hb2 i bigN v 0 hv (by unfold bigN; omega) (by omega)
  rw [Nat.zero_add] at this
  exact this
