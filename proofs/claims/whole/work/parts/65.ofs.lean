/-! ofFloat, ofDouble -/
theorem bs_testS (n t : Nat) : n &&& 2 ^ t = n / 2 ^ t % 2 * 2 ^ t := by
  apply Nat.eq_of_testBit_eq
  intro i
  rw [Nat.testBit_and, Nat.testBit_two_pow]
  have h2 : n / 2 ^ t % 2 < 2 := Nat.mod_lt _ (by decide)
  have e : n.testBit t = decide (n / 2 ^ t % 2 = 1) := Nat.testBit_eq_decide_div_mod_eq
  by_cases c : n / 2 ^ t % 2 = 1
  · rw [c, Nat.one_mul, Nat.testBit_two_pow]
    by_cases d : t = i
    · subst d
      rw [e, c]
      simp
    · simp [d]
  · rw [show n / 2 ^ t % 2 = 0 by omega, Nat.zero_mul, Nat.zero_testBit]
    by_cases d : t = i
    · subst d
      rw [e]
      simp [c]
    · simp [d]
theorem bs_c_sgn {W K n : Nat} (h : bs_Fm W K) (hn : n < 2 ^ 64) : c_X5_signBit (lN n) (nI W) = some (lN (bs_bS W K n * 2 ^ (W + K))) := by
  have e : bs_bS W K n * 2 ^ (W + K) = n &&& 2 ^ (W + K) := by
    rw [bs_testS]
    unfold bs_bS
    rw [Nat.div_div_eq_div_mul, ← Nat.pow_add]
  rw [e]
  unfold c_X5_signBit
  rcases h with ⟨rfl, rfl⟩ | ⟨rfl, rfl⟩
  · rw [if_pos (show nI 23 = 23 from rfl), show (2147483648 : Int64) = lN (2 ^ 31) from rfl, wb_and hn (by decide)]
  · rw [if_neg (show ¬ nI 52 = 23 by decide), show (-9223372036854775808 : Int64) = lN (2 ^ 63) from by decide, wb_and hn (by decide)]
theorem bs_bS2 {W K n : Nat} : bs_bS W K n = 0 ∨ bs_bS W K n = 1 := by
  have : bs_bS W K n < 2 := Nat.mod_lt _ (by decide)
  omega
/-- whether the machine finds it below 0 -/
theorem bs_ord {W K n : Nat} (h : bs_Fm W K) (hE : bs_bE W K n ≠ 2 ^ K - 1) : (0 : Int32) ≤ Op.cmpValue (Jvm.FP.Core.cmp (bs_fm W K) n 0) .g ↔ (bs_bS W K n = 0 ∨ bs_sig W K n = 0) := by
  have d0 : Jvm.FP.Core.decode (bs_fm W K) 0 = .fin false 0 (bs_fm W K).qmin := by
    rcases h with ⟨rfl, rfl⟩ | ⟨rfl, rfl⟩ <;> rfl
  unfold Jvm.FP.Core.cmp
  rw [bs_dec hE, d0]
  generalize (bs_fm W K).qmin + ((bs_ex W K n : Int) - 1) = q
  generalize (bs_fm W K).qmin = r
  show (0 : Int32) ≤ Op.cmpValue (some (compare (Jvm.FP.Core.signed (bs_bS W K n == 1) (Jvm.FP.Core.inUnits (bs_sig W K n) q (min q r))) (Jvm.FP.Core.signed false (Jvm.FP.Core.inUnits 0 r (min q r))))) .g ↔ _
  have z : Jvm.FP.Core.signed false (Jvm.FP.Core.inUnits 0 r (min q r)) = 0 := by
    unfold Jvm.FP.Core.signed Jvm.FP.Core.inUnits
    rw [Nat.zero_mul]
    rfl
  rw [z]
  unfold Jvm.FP.Core.inUnits
  have hp : 0 < 2 ^ (q - min q r).toNat := Nat.pow_pos (by decide)
  generalize 2 ^ (q - min q r).toNat = p at *
  have gt0 : ∀ x : Int, 0 ≤ x → (0 : Int32) ≤ Op.cmpValue (some (compare x 0)) .g := by
    intro x hx
    by_cases c : x = 0
    · rw [c]; decide
    · have : compare x 0 = .gt := by
        rw [Int.compare_eq_gt]
        omega
      rw [this]
      decide
  have lt0 : ∀ x : Int, x < 0 → ¬ (0 : Int32) ≤ Op.cmpValue (some (compare x 0)) .g := by
    intro x hx
    have : compare x 0 = .lt := by
      rw [Int.compare_eq_lt]
      exact hx
    rw [this]
    decide
  rcases bs_bS2 (W := W) (K := K) (n := n) with c | c
  · rw [c]
    refine ⟨fun _ => Or.inl rfl, fun _ => gt0 _ ?_⟩
    show (0 : Int) ≤ ((bs_sig W K n * p : Nat) : Int)
    omega
  · rw [c]
    constructor
    · intro q1
      right
      by_cases c2 : bs_sig W K n = 0
      · exact c2
      · exfalso
        have : 0 < bs_sig W K n * p := Nat.mul_pos (by omega) hp
        refine lt0 _ ?_ q1
        show -((bs_sig W K n * p : Nat) : Int) < 0
        omega
    · rintro (q1 | q1)
      · omega
      · rw [q1, Nat.zero_mul]
        exact gt0 _ (by decide)
section BsOfs
variable {x0 s0 : Nat} {Y : bs_Ly} {S : Mem} {M : MS}
theorem bs_c_whole (h : bs_Rel x0 s0 Y S M) {f W K n : Nat} (hf : f < bs_n M) (hF : bs_Fm W K) (hn : n < 2 ^ 64) :
    c_X5_writeWhole S (Y 0 0) (some (Y 1 f)) (lN n) (nI W) = if bs_bE W K n = 2 ^ K - 1 then some (-2, S) else if bs_bS W K n = 0 ∨ bs_sig W K n = 0 then (bnd2 (c_X5_writeAll S (Y 0 0) (some (Y 1 f)) (lN (bs_cut (bs_sig W K n) (bs_ex W K n) (2 ^ (K - 1) - 1 + W)))) fun a b => some (a, b)) else some (-2, S) := by
  have hE : bs_bE W K n < 2 ^ K := Nat.mod_lt _ (Nat.pow_pos (by decide))
  have hK : 2 ^ K ≤ 2048 := by rcases hF with ⟨rfl, rfl⟩ | ⟨rfl, rfl⟩ <;> decide
  have hs : bs_sig W K n < 2 ^ 53 := Nat.lt_of_lt_of_le bs_sig_lt (by rcases hF with ⟨rfl, rfl⟩ | ⟨rfl, rfl⟩ <;> decide)
  have hB : nI (2 ^ K - 1) / 2 = nI (2 ^ (K - 1) - 1) := by rcases hF with ⟨rfl, rfl⟩ | ⟨rfl, rfl⟩ <;> decide
  have hM : 2 ^ (K - 1) - 1 + W < 4000 := by rcases hF with ⟨rfl, rfl⟩ | ⟨rfl, rfl⟩ <;> decide
  have hx : (if nI (bs_bE W K n) < 1 then (1 : Int32) else nI (bs_bE W K n)) = nI (bs_ex W K n) := by
    unfold bs_ex
    by_cases c : bs_bE W K n < 1
    · rw [if_pos (show nI (bs_bE W K n) < 1 from nI_lt (b := 1) c (by decide)), show max (bs_bE W K n) 1 = 1 by omega]
      rfl
    · rw [if_neg (show ¬ nI (bs_bE W K n) < 1 from nI_nlt (b := 1) (by omega) (by omega)), show max (bs_bE W K n) 1 = bs_bE W K n by omega]
  have hex : bs_ex W K n < 4000 := by unfold bs_ex; omega
  unfold c_X5_writeWhole c_X5_writeWhole_J53
  rw [bs_ocS, bs_c_exp hF hn, bs_bnd, bs_c_sig hF hn, bs_bnd, bs_c_end hF, bs_bnd, bs_c_sgn hF hn, bs_bnd, bs_bnd, bs_let, hx, hB, bs_ss, nI_add, bs_c_shift hs hex hM, bs_bnd]
  by_cases c : bs_bE W K n = 2 ^ K - 1
  · rw [if_pos c, if_pos (by rw [c])]
  · rw [if_neg c, if_neg (fun q => c ((nI_eq (by omega) (by omega)).mp q))]
    rcases bs_bS2 (W := W) (K := K) (n := n) with c1 | c1
    · rw [c1, Nat.zero_mul, if_pos (show lN 0 = 0 from rfl), if_pos (Or.inl rfl)]
    · have ne : ¬ lN (1 * 2 ^ (W + K)) = 0 := by rcases hF with ⟨rfl, rfl⟩ | ⟨rfl, rfl⟩ <;> decide
      rw [c1, if_neg ne]
      by_cases c2 : bs_sig W K n = 0
      · rw [c2, if_pos (show lN 0 = 0 from rfl), if_pos (Or.inr rfl)]
      · rw [if_neg (show ¬ lN (bs_sig W K n) = 0 from fun q => c2 ((pk_lEQ (b := 0) (by omega) (by decide)).mp q)), if_neg (fun q => by rcases q with q | q <;> omega)]
end BsOfs
