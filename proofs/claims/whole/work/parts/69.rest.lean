/-! restFloat and restDouble are what the machine says -/
theorem bs_restV {W K x y : Nat} (h : bs_Fm W K) (hx : x < 2 ^ (W + K + 1)) (hE : bs_bE W K x ≠ 2 ^ K - 1) (h0 : bs_sig W K y ≠ 0) (hy : bs_bE W K y = 2 ^ K - 1 → bs_bT W y = 0) :
    (if bs_bE W K x = 2 ^ K - 1 then bs_nan W else if bs_sig W K y = 0 then bs_nan W else if bs_bE W K y = 2 ^ K - 1 then (if bs_bT W y = 0 then x else bs_nan W) else if bs_ex W K y ≤ bs_ex W K x then bs_bS W K x * 2 ^ (W + K) + bs_pk W (bs_sig W K x * 2 ^ (bs_ex W K x - bs_ex W K y) % bs_sig W K y) (bs_ex W K y) else x) = Jvm.FP.Core.rem (bs_fm W K) x y ∧ bs_bE W K (Jvm.FP.Core.rem (bs_fm W K) x y) ≠ 2 ^ K - 1 ∧ Jvm.FP.Core.rem (bs_fm W K) x y < 2 ^ (W + K + 1) := by
  obtain ⟨w1, w2, w3, w4, w5⟩ := bs_FmW h
  rw [if_neg hE, if_neg h0]
  by_cases c : bs_bE W K y = 2 ^ K - 1
  · rw [if_pos c, if_pos (hy c), bs_rem_inf h hE hx c (hy c)]
    exact ⟨rfl, hE, hx⟩
  · rw [if_neg c, bs_rem_fin h hE hx c h0]
    refine ⟨rfl, ?_⟩
    by_cases d : bs_ex W K y ≤ bs_ex W K x
    · rw [if_pos d]
      obtain ⟨e1, e2⟩ := bs_exB h c
      have hsy : bs_sig W K y < 2 ^ (W + 1) := bs_sig_lt
      have hm : bs_sig W K x * 2 ^ (bs_ex W K x - bs_ex W K y) % bs_sig W K y < bs_sig W K y := Nat.mod_lt _ (by omega)
      refine ⟨bs_pkE _ h (by omega) e2, ?_⟩
      have hk : 0 < 2 ^ K := Nat.pow_pos (by decide)
      have a1 := bs_pk_lt (W := W) (K := K) (c := bs_sig W K x * 2 ^ (bs_ex W K x - bs_ex W K y) % bs_sig W K y) (lo := bs_ex W K y) (by omega) (by omega) w5
      have s2 : bs_bS W K x * 2 ^ (W + K) ≤ 1 * 2 ^ (W + K) := Nat.mul_le_mul_right _ (by rcases bs_bS2 (W := W) (K := K) (n := x) with q | q <;> omega)
      rw [Nat.pow_succ]
      omega
    · rw [if_neg d]
      exact ⟨hE, hx⟩
theorem bs_op_restFloat (a : Nat) (x y : Int32) : bs_OKr (c_X5_restFloat a x y) (m_X6_restFloat x y) := by
  obtain ⟨n, hn, rfl⟩ := wb_of32 x
  obtain ⟨k, hk, rfl⟩ := wb_of32 y
  have hF : bs_Fm 23 8 := Or.inl ⟨rfl, rfl⟩
  have c := bs_c_rest hF (show n < 2 ^ 64 by omega) (show k < 2 ^ 64 by omega)
  have e1 : nI n &&& 2147483647 = nI (n % 2 ^ 31) := bs_iAnd n 31 (by decide) rfl
  have e2 : nI k &&& 2147483647 = nI (k % 2 ^ 31) := bs_iAnd k 31 (by decide) rfl
  have un : (nI n).toUInt32.toNat = n := bs_u32 hn
  have uk : (nI k).toUInt32.toNat = k := bs_u32 hk
  unfold c_X5_restFloat m_X6_restFloat
  rw [bs_lo hn, bs_lo hk, show (23 : Int32) = nI 23 from rfl, c, bs_bnd, e1, e2, bs_let, bs_let, lN_i]
  by_cases q1 : bs_bE 23 8 n = 2 ^ 8 - 1
  · have q1' : 2139095040 ≤ n % 2 ^ 31 := by unfold bs_bE at q1; omega
    rw [if_pos q1, if_pos (show (2139095040 : Int32) ≤ nI (n % 2 ^ 31) from nI_le (a := 2139095040) q1' (by omega))]
    exact ⟨_, rfl, rfl⟩
  · have q1' : ¬ 2139095040 ≤ n % 2 ^ 31 := by unfold bs_bE at q1; omega
    rw [if_neg (show ¬ (2139095040 : Int32) ≤ nI (n % 2 ^ 31) from nI_ge (b := 2139095040) (by omega) (by decide))]
    by_cases q2 : bs_sig 23 8 k = 0
    · have q2' : k % 2 ^ 31 = 0 := by
        unfold bs_sig bs_bE bs_bT at q2
        split at q2 <;> omega
      rw [if_neg q1, if_pos q2, q2', if_neg (show ¬ (2139095040 : Int32) < nI 0 by decide), if_pos (show nI 0 = 0 from rfl)]
      exact ⟨_, rfl, rfl⟩
    · have q2' : ¬ k % 2 ^ 31 = 0 := by
        unfold bs_sig bs_bE bs_bT at q2
        split at q2 <;> omega
      by_cases q3 : bs_bE 23 8 k = 2 ^ 8 - 1 ∧ bs_bT 23 k ≠ 0
      · have q3' : 2139095040 < k % 2 ^ 31 := by
          unfold bs_bE bs_bT at q3
          omega
        rw [if_neg q1, if_neg q2, if_pos q3.1, if_neg q3.2, if_pos (show (2139095040 : Int32) < nI (k % 2 ^ 31) from nI_lt (a := 2139095040) q3' (by omega))]
        exact ⟨_, rfl, rfl⟩
      · have q3' : ¬ 2139095040 < k % 2 ^ 31 := by
          unfold bs_bE bs_bT at q3
          omega
        obtain ⟨v1, v2, v3⟩ := bs_restV hF (x := n) (y := k) (by omega) q1 q2 (fun q => by
          by_cases r : bs_bT 23 k = 0
          · exact r
          · exact absurd ⟨q, r⟩ q3)
        have sn : ∀ z, z < 2 ^ 32 → z % 2 ^ 31 ≤ 2139095040 → sn32 (nI z) = true := by
          intro z hz hz2
          unfold sn32 vn_sni2f
          have a : ¬ (nI z).toUInt32 &&& 0x7fffffff > 0x7f800000 := by
            show ¬ _ < _
            rw [UInt32.lt_iff_toNat_lt, UInt32.toNat_and, bs_u32 hz]
            show ¬ 2139095040 < z &&& 2 ^ 31 - 1
            rw [Nat.and_two_pow_sub_one_eq_mod]
            omega
          rw [decide_eq_false a]
          rfl
        have fr : Jvm.FP.frem (nI n).toUInt32 (nI k).toUInt32 = UInt32.ofNat (Jvm.FP.Core.rem (bs_fm 23 8) n k) := by
          show UInt32.ofNat (Jvm.FP.Core.rem (bs_fm 23 8) (nI n).toUInt32.toNat (nI k).toUInt32.toNat) = _
          rw [un, uk]
        rw [v1, if_neg (show ¬ (2139095040 : Int32) < nI (k % 2 ^ 31) from nI_nlt (a := 2139095040) (by omega) (by decide)), if_neg (nI_ne0 (by omega) (by omega)), bs_gd (sn n hn (by omega)), bs_gd (sn k hk (by omega)), fr]
        generalize Jvm.FP.Core.rem (bs_fm 23 8) n k = v at *
        have v4 : v < 2 ^ 32 := v3
        have uv : (UInt32.ofNat v).toNat = v := by
          show (BitVec.ofNat 32 v).toNat = v
          rw [BitVec.toNat_ofNat, Nat.mod_eq_of_lt v4]
        have g : vfB32 (UInt32.ofNat v) = true := by
          unfold vfB32
          refine decide_eq_true ?_
          rw [UInt32.le_iff_toNat_le, UInt32.toNat_and, uv]
          show v &&& 2 ^ 31 - 1 ≤ 2139095040
          rw [Nat.and_two_pow_sub_one_eq_mod]
          unfold bs_bE at v2
          omega
        have fc : Jvm.FP.fcmp (UInt32.ofNat v) (UInt32.ofNat v) = Jvm.FP.Core.cmp (bs_fm 23 8) v v := by
          show Jvm.FP.Core.cmp (bs_fm 23 8) (UInt32.ofNat v).toNat (UInt32.ofNat v).toNat = _
          rw [uv]
        unfold m_Jxf58ca_floatToIntBits_5c35a m_Jxf58ca_isNaN_12338
        rw [bs_gd (decide_eq_true g), fc, bs_eqs v2, if_pos rfl, bs_bnd, if_pos rfl, bs_bnd]
        exact ⟨_, rfl, rfl⟩
theorem bs_op_restDouble (a : Nat) (x y : Int64) : bs_OKr (c_X5_restDouble a x y) (m_X6_restDouble x y) := by
  obtain ⟨n, hn, rfl⟩ := wb_of x
  obtain ⟨k, hk, rfl⟩ := wb_of y
  have hF : bs_Fm 52 11 := Or.inr ⟨rfl, rfl⟩
  have c := bs_c_rest hF hn hk
  have e1 : lN n &&& 9223372036854775807 = lN (n % 2 ^ 63) := wb_mask hn (k := 63) (by decide)
  have e2 : lN k &&& 9223372036854775807 = lN (k % 2 ^ 63) := wb_mask hk (k := 63) (by decide)
  have un : (lN n).toUInt64.toNat = n := bs_u64 hn
  have uk : (lN k).toUInt64.toNat = k := bs_u64 hk
  unfold c_X5_restDouble m_X6_restDouble
  rw [show (52 : Int32) = nI 52 from rfl, c, bs_bnd, e1, e2, bs_let, bs_let]
  by_cases q1 : bs_bE 52 11 n = 2 ^ 11 - 1
  · have q1' : 9218868437227405312 ≤ n % 2 ^ 63 := by unfold bs_bE at q1; omega
    rw [if_pos q1, if_pos (show (9218868437227405312 : Int64) ≤ lN (n % 2 ^ 63) from (pk_lLE (a := 9218868437227405312) (by decide) (by omega)).mpr q1')]
    exact ⟨_, rfl, rfl⟩
  · have q1' : ¬ 9218868437227405312 ≤ n % 2 ^ 63 := by unfold bs_bE at q1; omega
    rw [if_neg (show ¬ (9218868437227405312 : Int64) ≤ lN (n % 2 ^ 63) from fun q => q1' ((pk_lLE (a := 9218868437227405312) (by decide) (by omega)).mp q))]
    by_cases q2 : bs_sig 52 11 k = 0
    · have q2' : k % 2 ^ 63 = 0 := by
        unfold bs_sig bs_bE bs_bT at q2
        split at q2 <;> omega
      rw [if_neg q1, if_pos q2, q2', if_neg (show ¬ (9218868437227405312 : Int64) < lN 0 by decide), if_pos (show lN 0 = 0 from rfl)]
      exact ⟨_, rfl, rfl⟩
    · have q2' : ¬ k % 2 ^ 63 = 0 := by
        unfold bs_sig bs_bE bs_bT at q2
        split at q2 <;> omega
      by_cases q3 : bs_bE 52 11 k = 2 ^ 11 - 1 ∧ bs_bT 52 k ≠ 0
      · have q3' : 9218868437227405312 < k % 2 ^ 63 := by
          unfold bs_bE bs_bT at q3
          omega
        rw [if_neg q1, if_neg q2, if_pos q3.1, if_neg q3.2, if_pos (show (9218868437227405312 : Int64) < lN (k % 2 ^ 63) from (pk_lLT (a := 9218868437227405312) (by decide) (by omega)).mpr q3')]
        exact ⟨_, rfl, rfl⟩
      · have q3' : ¬ 9218868437227405312 < k % 2 ^ 63 := by
          unfold bs_bE bs_bT at q3
          omega
        obtain ⟨v1, v2, v3⟩ := bs_restV hF (x := n) (y := k) (by omega) q1 q2 (fun q => by
          by_cases r : bs_bT 52 k = 0
          · exact r
          · exact absurd ⟨q, r⟩ q3)
        have sn : ∀ z, z < 2 ^ 64 → z % 2 ^ 63 ≤ 9218868437227405312 → sn64 (lN z) = true := by
          intro z hz hz2
          unfold sn64 vn_snl2d
          have a : ¬ (lN z).toUInt64 &&& 0x7fffffffffffffff > 0x7ff0000000000000 := by
            show ¬ _ < _
            rw [UInt64.lt_iff_toNat_lt, UInt64.toNat_and, bs_u64 hz]
            show ¬ 9218868437227405312 < z &&& 2 ^ 63 - 1
            rw [Nat.and_two_pow_sub_one_eq_mod]
            omega
          rw [decide_eq_false a]
          rfl
        have fr : Jvm.FP.drem (lN n).toUInt64 (lN k).toUInt64 = UInt64.ofNat (Jvm.FP.Core.rem (bs_fm 52 11) n k) := by
          show UInt64.ofNat (Jvm.FP.Core.rem (bs_fm 52 11) (lN n).toUInt64.toNat (lN k).toUInt64.toNat) = _
          rw [un, uk]
        rw [v1, if_neg (show ¬ (9218868437227405312 : Int64) < lN (k % 2 ^ 63) from fun q => q3' ((pk_lLT (a := 9218868437227405312) (by decide) (by omega)).mp q)), if_neg (show ¬ lN (k % 2 ^ 63) = 0 from fun q => q2' ((pk_lEQ (b := 0) (by omega) (by decide)).mp q)), bs_gd (sn n hn (by omega)), bs_gd (sn k hk (by omega)), fr]
        generalize Jvm.FP.Core.rem (bs_fm 52 11) n k = v at *
        have v4 : v < 2 ^ 64 := v3
        have uv : (UInt64.ofNat v).toNat = v := by
          show (BitVec.ofNat 64 v).toNat = v
          rw [BitVec.toNat_ofNat, Nat.mod_eq_of_lt v4]
        have g : vfB64 (UInt64.ofNat v) = true := by
          unfold vfB64
          refine decide_eq_true ?_
          rw [UInt64.le_iff_toNat_le, UInt64.toNat_and, uv]
          show v &&& 2 ^ 63 - 1 ≤ 9218868437227405312
          rw [Nat.and_two_pow_sub_one_eq_mod]
          unfold bs_bE at v2
          omega
        have fc : Jvm.FP.dcmp (UInt64.ofNat v) (UInt64.ofNat v) = Jvm.FP.Core.cmp (bs_fm 52 11) v v := by
          show Jvm.FP.Core.cmp (bs_fm 52 11) (UInt64.ofNat v).toNat (UInt64.ofNat v).toNat = _
          rw [uv]
        unfold m_Jxe99ae_doubleToLongBits_ccdee m_Jxe99ae_isNaN_b9ae7
        rw [bs_gd (decide_eq_true g), fc, bs_eqs v2, if_pos rfl, bs_bnd, if_pos rfl, bs_bnd]
        exact ⟨_, rfl, rfl⟩
