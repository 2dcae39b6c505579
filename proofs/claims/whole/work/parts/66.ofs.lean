/-! ofFloat and ofDouble are what the machine says -/
theorem bs_u32 {n : Nat} (h : n < 2 ^ 32) : (nI n).toUInt32.toNat = n := by
  show (BitVec.ofNat 32 n).toNat = n
  rw [BitVec.toNat_ofNat, Nat.mod_eq_of_lt h]
theorem bs_u64 {n : Nat} (h : n < 2 ^ 64) : (lN n).toUInt64.toNat = n := wb_tn h
theorem bs_lo {n : Nat} (h : n < 2 ^ 32) : (nI n).toInt64 &&& 4294967295 = lN n := by
  by_cases c : n < 2 ^ 31
  · have e : (nI n).toInt64 = lN n := by
      apply Int64.toInt_inj.mp
      rw [pk_lT (by omega), Int32.toInt_toInt64]
      exact nI_toInt c
    rw [e, show (4294967295 : Int64) = lN (2 ^ 32 - 1) from rfl, wb_mask (by omega) (by decide), Nat.mod_eq_of_lt h]
  · have e : (nI n).toInt64 = lN (n + (2 ^ 64 - 2 ^ 32)) := by
      apply Int64.toInt_inj.mp
      rw [Int32.toInt_toInt64]
      have a1 : (nI n).toInt = (n : Int) - 2 ^ 32 := by
        show (BitVec.ofNat 32 n).toInt = _
        rw [BitVec.toInt_eq_toNat_cond, BitVec.toNat_ofNat]
        split <;> omega
      have a2 : (lN (n + (2 ^ 64 - 2 ^ 32))).toInt = (n : Int) - 2 ^ 32 := by
        show (BitVec.ofNat 64 _).toInt = _
        rw [BitVec.toInt_eq_toNat_cond, BitVec.toNat_ofNat]
        split <;> omega
      rw [a1, a2]
    rw [e, show (4294967295 : Int64) = lN (2 ^ 32 - 1) from rfl, wb_mask (by omega) (by decide)]
    rw [show (n + (2 ^ 64 - 2 ^ 32)) % 2 ^ 32 = n by omega]
section BsOfs2
variable {x0 s0 : Nat} {Y : bs_Ly} {S : Mem} {M : MS}
theorem bs_wOK (h : bs_Rel x0 s0 Y S M) {f W K n : Nat} (hf : f < bs_n M) (hF : bs_Fm W K) (hn : n < 2 ^ 64) :
    bs_OK x0 s0 Y (bnd2 (c_X5_writeWhole S (Y 0 0) (some (Y 1 f)) (lN n) (nI W)) fun a b => some (a, b)) (if bs_bE W K n = 2 ^ K - 1 then some (-2, M) else if (0 : Int32) ≤ Op.cmpValue (Jvm.FP.Core.cmp (bs_fm W K) n 0) .g then (bnd2 (m_X6_set M (nI f) (Jvm.FP.Core.toL (Jvm.FP.Core.decode (bs_fm W K) n))) fun a b => some (a, b)) else some (-2, M)) := by
  rw [bs_c_whole h hf hF hn]
  by_cases c : bs_bE W K n = 2 ^ K - 1
  · rw [if_pos c, if_pos c]
    exact bs_same h _
  · rw [if_neg c, if_neg c]
    by_cases d : bs_bS W K n = 0 ∨ bs_sig W K n = 0
    · rw [if_pos d, if_pos ((bs_ord hF c).mpr d), bs_toL hF c d]
      obtain ⟨r, S2, M2, Y2, e1, e2, h2, e3⟩ := bs_wAll h hf (lN (bs_cut (bs_sig W K n) (bs_ex W K n) (2 ^ (K - 1) - 1 + W)))
      rw [e1, e2]
      exact ⟨r, S2, M2, Y2, rfl, rfl, h2, e3⟩
    · rw [if_neg d, if_neg (fun q => d ((bs_ord hF c).mp q))]
      exact bs_same h _
theorem bs_op_ofFloat (h : bs_Rel x0 s0 Y S M) (x y : Int32) : bs_OK x0 s0 Y (c_X5_ofFloat S (Y 0 0) x y) (m_X6_ofFloat M x y) := by
  obtain ⟨n, hn, rfl⟩ := wb_of32 y
  unfold c_X5_ofFloat m_X6_ofFloat
  rcases bs_which h.1 x with hx | ⟨f, hf, rfl⟩
  · rw [bs_c_unknown h hx, bs_m_noF h.1 hx]
    exact bs_same h _
  · rw [bs_c_known h hf, bs_bnd, bs_m_isF h.1 hf, bs_bnd, if_neg bs_10, bs_lo hn]
    have hF : bs_Fm 23 8 := Or.inl ⟨rfl, rfl⟩
    have k := bs_wOK h hf hF (show n < 2 ^ 64 by omega)
    have e : nI n &&& 2147483647 = nI (n % 2 ^ 31) := bs_iAnd n 31 (by decide) rfl
    have u : (nI n).toUInt32.toNat = n := bs_u32 hn
    rw [e]
    by_cases c : bs_bE 23 8 n = 2 ^ 8 - 1
    · rw [if_pos c] at k
      have c' : ¬ n % 2 ^ 31 < 2139095040 := by
        unfold bs_bE at c
        omega
      rw [if_neg (show ¬ nI (n % 2 ^ 31) < 2139095040 from nI_nlt (b := 2139095040) (by omega) (by omega))]
      exact k
    · rw [if_neg c] at k
      have c' : n % 2 ^ 31 < 2139095040 := by
        unfold bs_bE at c
        omega
      have s : sn32 (nI n) = true := by
        unfold sn32 vn_sni2f
        have a : ¬ (nI n).toUInt32 &&& 0x7fffffff > 0x7f800000 := by
          show ¬ _ < _
          rw [UInt32.lt_iff_toNat_lt, UInt32.toNat_and, u]
          show ¬ 2139095040 < n &&& 2 ^ 31 - 1
          rw [Nat.and_two_pow_sub_one_eq_mod]
          omega
        rw [decide_eq_false a]
        rfl
      rw [if_pos (show nI (n % 2 ^ 31) < 2139095040 from nI_lt (b := 2139095040) c' (by decide)), s]
      have u1 : Jvm.FP.fcmp (nI n).toUInt32 0 = Jvm.FP.Core.cmp (bs_fm 23 8) n 0 := by
        show Jvm.FP.Core.cmp (bs_fm 23 8) (nI n).toUInt32.toNat 0 = _
        rw [u]
      have u2 : Jvm.FP.f2l (nI n).toUInt32 = Jvm.FP.Core.toL (Jvm.FP.Core.decode (bs_fm 23 8) n) := by
        show Jvm.FP.Core.toL (Jvm.FP.Core.decode (bs_fm 23 8) (nI n).toUInt32.toNat) = _
        rw [u]
      rw [u1, u2]
      exact k
theorem bs_op_ofDouble (h : bs_Rel x0 s0 Y S M) (x : Int32) (v : Int64) : bs_OK x0 s0 Y (c_X5_ofDouble S (Y 0 0) x v) (m_X6_ofDouble M x v) := by
  obtain ⟨n, hn, rfl⟩ := wb_of v
  unfold c_X5_ofDouble m_X6_ofDouble
  rcases bs_which h.1 x with hx | ⟨f, hf, rfl⟩
  · rw [bs_c_unknown h hx, bs_m_noF h.1 hx]
    exact bs_same h _
  · rw [bs_c_known h hf, bs_bnd, bs_m_isF h.1 hf, bs_bnd, if_neg bs_10]
    have hF : bs_Fm 52 11 := Or.inr ⟨rfl, rfl⟩
    have k := bs_wOK h hf hF hn
    have e : lN n &&& 9223372036854775807 = lN (n % 2 ^ 63) := wb_mask hn (k := 63) (by decide)
    have u : (lN n).toUInt64.toNat = n := bs_u64 hn
    rw [e]
    by_cases c : bs_bE 52 11 n = 2 ^ 11 - 1
    · rw [if_pos c] at k
      have c' : ¬ n % 2 ^ 63 < 9218868437227405312 := by
        unfold bs_bE at c
        omega
      rw [if_neg (show ¬ lN (n % 2 ^ 63) < 9218868437227405312 from fun q => c' ((pk_lLT (b := 9218868437227405312) (by omega) (by decide)).mp q))]
      exact k
    · rw [if_neg c] at k
      have c' : n % 2 ^ 63 < 9218868437227405312 := by
        unfold bs_bE at c
        omega
      have s : sn64 (lN n) = true := by
        unfold sn64 vn_snl2d
        have a : ¬ (lN n).toUInt64 &&& 0x7fffffffffffffff > 0x7ff0000000000000 := by
          show ¬ _ < _
          rw [UInt64.lt_iff_toNat_lt, UInt64.toNat_and, u]
          show ¬ 9218868437227405312 < n &&& 2 ^ 63 - 1
          rw [Nat.and_two_pow_sub_one_eq_mod]
          omega
        rw [decide_eq_false a]
        rfl
      rw [if_pos (show lN (n % 2 ^ 63) < 9218868437227405312 from (pk_lLT (b := 9218868437227405312) (by omega) (by decide)).mpr c'), s]
      have u1 : Jvm.FP.dcmp (lN n).toUInt64 0 = Jvm.FP.Core.cmp (bs_fm 52 11) n 0 := by
        show Jvm.FP.Core.cmp (bs_fm 52 11) (lN n).toUInt64.toNat 0 = _
        rw [u]
      have u2 : Jvm.FP.d2l (lN n).toUInt64 = Jvm.FP.Core.toL (Jvm.FP.Core.decode (bs_fm 52 11) n) := by
        show Jvm.FP.Core.toL (Jvm.FP.Core.decode (bs_fm 52 11) (lN n).toUInt64.toNat) = _
        rw [u]
      rw [u1, u2]
      exact k
end BsOfs2
