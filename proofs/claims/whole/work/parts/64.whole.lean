/-! the whole part of a float, of a double -/
theorem bs_ss (x y z : Int32) : x - y - z = x - (y + z) := by
  rw [Int32.sub_eq_add_neg, Int32.sub_eq_add_neg, Int32.sub_eq_add_neg, Int32.neg_add, Int32.sub_eq_add_neg, Int32.add_assoc]
theorem bs_maxs : ∀ s, s < 63 → ((9223372036854775807 : Int64) >>> ((nI s).toInt64 &&& 63)) = lN ((2 ^ 63 - 1) / 2 ^ s) := by decide +kernel
/-- c times a power of 2, its whole part, the greatest long at most -/
def bs_cut (c a m : Nat) : Nat := min (2 ^ 63 - 1) (c * 2 ^ (a - m) / 2 ^ (m - a))
theorem bs_c_shift {c a m : Nat} (hc : c < 2 ^ 53) (ha : a < 4000) (hm : m < 4000) : c_X5_shifted (lN c) (nI a - nI m) = some (lN (bs_cut c a m)) := by
  unfold c_X5_shifted bs_cut
  have ti := pk_sub_toInt (a := a) (b := m) (by omega) (by omega)
  by_cases c0 : c = 0
  · subst c0
    rw [if_pos (show lN 0 = 0 from rfl), Nat.zero_mul, Nat.zero_div]
    rfl
  · rw [if_neg (show ¬ lN c = 0 from fun q => c0 ((pk_lEQ (b := 0) (by omega) (by decide)).mp q))]
    by_cases c1 : m < a + 64
    · rw [if_pos (show (-64 : Int32) < nI a - nI m by rw [Int32.lt_iff_toInt_lt, ti]; show (-64 : Int) < _; omega)]
      by_cases c2 : m < a
      · rw [if_pos (show (0 : Int32) < nI a - nI m by rw [Int32.lt_iff_toInt_lt, ti]; show (0 : Int) < _; omega), pk_sub (by omega)]
        rw [show m - a = 0 by omega, Nat.pow_zero, Nat.div_one]
        generalize hs : a - m = s
        by_cases c3 : 62 < s
        · rw [if_pos (show (62 : Int32) < nI s from nI_lt (a := 62) c3 (by omega))]
          have h1 : 2 ^ 63 ≤ 2 ^ s := Nat.pow_le_pow_right (by decide) (by omega)
          have h2 : 1 * 2 ^ s ≤ c * 2 ^ s := Nat.mul_le_mul_right _ (by omega)
          rw [show min (2 ^ 63 - 1) (c * 2 ^ s) = 2 ^ 63 - 1 by omega]
          rfl
        · rw [if_neg (show ¬ (62 : Int32) < nI s from nI_nlt (b := s) (a := 62) (by omega) (by omega)), bs_maxs s (by omega), wb_shl c (by omega)]
          have hp : 0 < 2 ^ s := Nat.pow_pos (by decide)
          by_cases c4 : c * 2 ^ s ≤ 2 ^ 63 - 1
          · rw [if_pos ((pk_lLE (by omega) (Nat.lt_of_le_of_lt (Nat.div_le_self _ _) (by decide))).mpr ((Nat.le_div_iff_mul_le hp).mpr c4)), show min (2 ^ 63 - 1) (c * 2 ^ s) = c * 2 ^ s by omega]
          · rw [if_neg (fun q => c4 ((Nat.le_div_iff_mul_le hp).mp ((pk_lLE (by omega) (Nat.lt_of_le_of_lt (Nat.div_le_self _ _) (by decide))).mp q))), show min (2 ^ 63 - 1) (c * 2 ^ s) = 2 ^ 63 - 1 by omega]
            rfl
      · rw [if_neg (show ¬ (0 : Int32) < nI a - nI m by rw [Int32.lt_iff_toInt_lt, ti]; show ¬ (0 : Int) < _; omega), Int32.neg_sub, pk_sub (by omega), wb_shr (by omega) (by omega), show a - m = 0 by omega, Nat.pow_zero, Nat.mul_one]
        have : c / 2 ^ (m - a) ≤ c := Nat.div_le_self _ _
        rw [show min (2 ^ 63 - 1) (c / 2 ^ (m - a)) = c / 2 ^ (m - a) by omega]
    · rw [if_neg (show ¬ (-64 : Int32) < nI a - nI m by rw [Int32.lt_iff_toInt_lt, ti]; show ¬ (-64 : Int) < _; omega), show a - m = 0 by omega, Nat.pow_zero, Nat.mul_one]
      have h1 : 2 ^ 64 ≤ 2 ^ (m - a) := Nat.pow_le_pow_right (by decide) (by omega)
      rw [Nat.div_eq_of_lt (show c < 2 ^ (m - a) by omega)]
      rfl
/-- the format as the machine's arithmetic has it -/
def bs_fm (W K : Nat) : Jvm.FP.Core.Fmt := ⟨K, W + 1⟩
def bs_bS (W K n : Nat) : Nat := n / 2 ^ W / 2 ^ K % 2
def bs_ex (W K n : Nat) : Nat := max (bs_bE W K n) 1
theorem bs_dec {W K n : Nat} (hE : bs_bE W K n ≠ 2 ^ K - 1) : Jvm.FP.Core.decode (bs_fm W K) n = .fin (bs_bS W K n == 1) (bs_sig W K n) ((bs_fm W K).qmin + ((bs_ex W K n : Int) - 1)) := by
  have e1 : Jvm.FP.Core.fieldE (bs_fm W K) n = bs_bE W K n := by
    show n / 2 ^ (W + 1 - 1) % 2 ^ K = _
    rw [Nat.add_sub_cancel]
    rfl
  have e2 : Jvm.FP.Core.fieldT (bs_fm W K) n = bs_bT W n := by
    show n % 2 ^ (W + 1 - 1) = _
    rw [Nat.add_sub_cancel]
    rfl
  have e3 : Jvm.FP.Core.fieldS (bs_fm W K) n = (bs_bS W K n == 1) := by
    show (n / 2 ^ (W + 1 - 1) / 2 ^ K % 2 == 1) = _
    rw [Nat.add_sub_cancel]
    rfl
  have e4 : (bs_fm W K).tails = 2 ^ W := by
    show 2 ^ (W + 1 - 1) = _
    rw [Nat.add_sub_cancel]
  have e5 : (bs_fm W K).exps = 2 ^ K := rfl
  unfold Jvm.FP.Core.decode bs_sig bs_ex
  rw [e1, e2, e3, e4, e5, if_neg hE]
  by_cases c : bs_bE W K n = 0
  · rw [if_pos c, if_pos c, c]
    simp
  · rw [if_neg c, if_neg c, show max (bs_bE W K n) 1 = bs_bE W K n by omega]
theorem bs_qmin {W K : Nat} (h : bs_Fm W K) : (bs_fm W K).qmin = 1 - ((2 ^ (K - 1) - 1 : Nat) : Int) - (W : Int) := by
  rcases h with ⟨rfl, rfl⟩ | ⟨rfl, rfl⟩ <;> rfl
/-- what is cast to a long, of one that is not below 0 -/
theorem bs_toL {W K n : Nat} (h : bs_Fm W K) (hE : bs_bE W K n ≠ 2 ^ K - 1) (h0 : bs_bS W K n = 0 ∨ bs_sig W K n = 0) : Jvm.FP.Core.toL (Jvm.FP.Core.decode (bs_fm W K) n) = lN (bs_cut (bs_sig W K n) (bs_ex W K n) (2 ^ (K - 1) - 1 + W)) := by
  rw [bs_dec hE]
  have hm : bs_ex W K n ≥ 1 := by unfold bs_ex; omega
  have hM : (2 ^ (K - 1) - 1 : Nat) < 2000 := by rcases h with ⟨rfl, rfl⟩ | ⟨rfl, rfl⟩ <;> decide
  have q : (bs_fm W K).qmin + ((bs_ex W K n : Int) - 1) = (bs_ex W K n : Int) - ((2 ^ (K - 1) - 1 + W : Nat) : Int) := by
    rw [bs_qmin h, Int.natCast_add]
    omega
  rw [q]
  generalize 2 ^ (K - 1) - 1 + W = m at *
  generalize bs_ex W K n = a at *
  have t : Jvm.FP.Core.truncate (bs_bS W K n == 1) (bs_sig W K n) ((a : Int) - (m : Int)) = ((bs_sig W K n * 2 ^ (a - m) / 2 ^ (m - a) : Nat) : Int) := by
    unfold Jvm.FP.Core.truncate Jvm.FP.Core.signed
    rw [show ((a : Int) - (m : Int)).toNat = a - m by omega, show (-((a : Int) - (m : Int))).toNat = m - a by omega]
    rcases h0 with q0 | q0
    · rw [q0]
      rfl
    · rw [q0, Nat.zero_mul, Nat.zero_div]
      split <;> rfl
  unfold bs_cut
  show Int64.ofInt (max (-2 ^ 63) (min (2 ^ 63 - 1) (Jvm.FP.Core.truncate (bs_bS W K n == 1) (bs_sig W K n) ((a : Int) - (m : Int))))) = _
  rw [t]
  generalize bs_sig W K n * 2 ^ (a - m) / 2 ^ (m - a) = v
  apply Int64.toInt_inj.mp
  rw [pk_lT (by omega), Int64.toInt_ofInt_of_le (by omega) (by omega)]
  omega
