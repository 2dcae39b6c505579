/-! what is left over, of floats and of doubles: the machine -/
theorem bs_asm {W K : Nat} (s : Bool) (e t : Nat) : Jvm.FP.Core.assemble (bs_fm W K) s e t = s.toNat * 2 ^ (W + K) + (e * 2 ^ W + t) := by
  show (s.toNat * 2 ^ K + e) * 2 ^ (W + 1 - 1) + t = _
  rw [Nat.add_sub_cancel, Nat.add_mul, Nat.mul_assoc, ← Nat.pow_add, Nat.add_comm K W, Nat.add_assoc]
theorem bs_enc {W K c lo : Nat} (s : Bool) (h1 : 1 ≤ lo) : Jvm.FP.Core.encode (bs_fm W K) (.fin s c ((bs_fm W K).qmin + ((lo : Int) - 1))) = s.toNat * 2 ^ (W + K) + bs_pf W c lo := by
  unfold Jvm.FP.Core.encode bs_pf
  have e4 : (bs_fm W K).tails = 2 ^ W := by
    show 2 ^ (W + 1 - 1) = _
    rw [Nat.add_sub_cancel]
  show (if c < (bs_fm W K).tails then Jvm.FP.Core.assemble (bs_fm W K) s 0 c else Jvm.FP.Core.assemble (bs_fm W K) s (((bs_fm W K).qmin + ((lo : Int) - 1) - (bs_fm W K).qmin).toNat + 1) (c - (bs_fm W K).tails)) = _
  rw [e4, bs_asm, bs_asm, show ((bs_fm W K).qmin + ((lo : Int) - 1) - (bs_fm W K).qmin).toNat + 1 = lo by omega]
  by_cases d : 2 ^ W ≤ c
  · rw [if_pos d, if_neg (by omega)]
  · rw [if_neg d, if_pos (by omega), Nat.zero_mul, Nat.zero_add]
theorem bs_rnd {W K R lo : Nat} (h : bs_Fm W K) (s : Bool) (hR : R < 2 ^ (W + 1)) (h1 : 1 ≤ lo) (h2 : lo ≤ 2 ^ K - 2) : Jvm.FP.Core.encode (bs_fm W K) (Jvm.FP.Core.round (bs_fm W K) (.fin s R ((bs_fm W K).qmin + ((lo : Int) - 1)))) = s.toNat * 2 ^ (W + K) + bs_pk W R lo := by
  by_cases c0 : R = 0
  · subst c0
    have e : Jvm.FP.Core.round (bs_fm W K) (.fin s 0 ((bs_fm W K).qmin + ((lo : Int) - 1))) = .fin s 0 (bs_fm W K).qmin := rfl
    have e2 := bs_enc (W := W) (K := K) (c := 0) (lo := 1) s (by decide)
    rw [show (bs_fm W K).qmin + (((1 : Nat) : Int) - 1) = (bs_fm W K).qmin by omega] at e2
    rw [e, e2]
    have hp : 0 < 2 ^ W := Nat.pow_pos (by decide)
    unfold bs_pk bs_pf
    rw [Nat.zero_mul, if_neg (by omega), if_neg (by omega)]
  · have hl := bs_lgW hR
    obtain ⟨l1, l2⟩ := bs_lg (show 0 < R by omega)
    have hqx : (bs_fm W K).qmax = (bs_fm W K).qmin + ((2 ^ K - 3 : Nat) : Int) := by
      rcases h with ⟨rfl, rfl⟩ | ⟨rfl, rfl⟩ <;> rfl
    have hld : Jvm.FP.Core.leading R 1 = (R.log2 : Int) := by
      have a : ((R.log2 : Int) - ((Nat.log2 1 : Nat) : Int)) = (R.log2 : Int) := by
        rw [show Nat.log2 1 = 0 by decide]
        omega
      unfold Jvm.FP.Core.leading
      rw [a]
      show (if 1 * 2 ^ ((R.log2 : Int)).toNat ≤ R * 2 ^ (-(R.log2 : Int)).toNat then (R.log2 : Int) else (R.log2 : Int) - 1) = _
      rw [show ((R.log2 : Int)).toNat = R.log2 by omega, show (-(R.log2 : Int)).toNat = 0 by omega, Nat.one_mul, Nat.pow_zero, Nat.mul_one, if_pos l1]
    have hq : Jvm.FP.Core.quantum (bs_fm W K) R 1 ((bs_fm W K).qmin + ((lo : Int) - 1)) = (bs_fm W K).qmin + (((lo - bs_pt W R lo : Nat) : Int) - 1) := by
      unfold Jvm.FP.Core.quantum
      rw [hld]
      show max _ ((R.log2 : Int) + _ - (((W + 1 : Nat) : Int) - 1)) = _
      unfold bs_pt
      omega
    have ht : bs_pt W R lo ≤ lo - 1 := by unfold bs_pt; omega
    have hc := bs_pkc (lo := lo) hR
    show Jvm.FP.Core.encode (bs_fm W K) (Jvm.FP.Core.roundRatio (bs_fm W K) s R 1 ((bs_fm W K).qmin + ((lo : Int) - 1))) = _
    unfold Jvm.FP.Core.roundRatio Jvm.FP.Core.roundAt
    rw [if_neg c0, hq]
    unfold bs_pk
    generalize bs_pt W R lo = t at *
    have u1 : Jvm.FP.Core.unitsNum R ((bs_fm W K).qmin + ((lo : Int) - 1)) ((bs_fm W K).qmin + (((lo - t : Nat) : Int) - 1)) = R * 2 ^ t := by
      unfold Jvm.FP.Core.unitsNum
      congr 2
      omega
    have u2 : Jvm.FP.Core.unitsDen 1 ((bs_fm W K).qmin + ((lo : Int) - 1)) ((bs_fm W K).qmin + (((lo - t : Nat) : Int) - 1)) = 1 := by
      unfold Jvm.FP.Core.unitsDen
      rw [show ((bs_fm W K).qmin + (((lo - t : Nat) : Int) - 1) - ((bs_fm W K).qmin + ((lo : Int) - 1))).toNat = 0 by omega]
    have u3 : Jvm.FP.Core.nearest (R * 2 ^ t) 1 = R * 2 ^ t := by
      unfold Jvm.FP.Core.nearest
      rw [Nat.mod_one, if_pos (by decide), Nat.div_one]
    rw [u1, u2, u3]
    unfold Jvm.FP.Core.settle Jvm.FP.Core.bound
    rw [if_pos (show R * 2 ^ t < 2 ^ (bs_fm W K).p from hc), hqx, if_pos (by omega), bs_enc s (by omega)]
theorem bs_bSx {W K n : Nat} : (bs_bS W K n == 1).toNat = bs_bS W K n := by
  rcases bs_bS2 (W := W) (K := K) (n := n) with q | q <;> rw [q] <;> rfl
theorem bs_exB {W K n : Nat} (h : bs_Fm W K) (hE : bs_bE W K n ≠ 2 ^ K - 1) : 1 ≤ bs_ex W K n ∧ bs_ex W K n ≤ 2 ^ K - 2 := by
  have : bs_bE W K n < 2 ^ K := Nat.mod_lt _ (Nat.pow_pos (by decide))
  have : 2 ^ 2 ≤ 2 ^ K := Nat.pow_le_pow_right (by decide) (by rcases h with ⟨rfl, rfl⟩ | ⟨rfl, rfl⟩ <;> decide)
  unfold bs_ex
  omega
/-- one that is finite, made again -/
theorem bs_self {W K x : Nat} (h : bs_Fm W K) (hE : bs_bE W K x ≠ 2 ^ K - 1) (hx : x < 2 ^ (W + K + 1)) : Jvm.FP.Core.encode (bs_fm W K) (Jvm.FP.Core.round (bs_fm W K) (Jvm.FP.Core.decode (bs_fm W K) x)) = x := by
  obtain ⟨e1, e2⟩ := bs_exB h hE
  rw [bs_dec hE, bs_rnd h _ bs_sig_lt e1 e2, bs_bSx]
  have hT : bs_bT W x < 2 ^ W := Nat.mod_lt _ (Nat.pow_pos (by decide))
  have k : bs_pk W (bs_sig W K x) (bs_ex W K x) = bs_bE W K x * 2 ^ W + bs_bT W x := by
    by_cases c : bs_bE W K x = 0
    · have a1 : bs_sig W K x = bs_bT W x := by unfold bs_sig; rw [if_pos c]
      have a2 : bs_pt W (bs_sig W K x) (bs_ex W K x) = 0 := by unfold bs_pt bs_ex; rw [c]; omega
      unfold bs_pk
      rw [a2, Nat.pow_zero, Nat.mul_one, a1, c, Nat.zero_mul, Nat.zero_add]
      unfold bs_pf
      rw [if_neg (by omega)]
    · have a1 : bs_sig W K x = 2 ^ W + bs_bT W x := by unfold bs_sig; rw [if_neg c]
      have a3 : W ≤ (bs_sig W K x).log2 := by
        rw [Nat.le_log2 (by omega)]
        omega
      have a2 : bs_pt W (bs_sig W K x) (bs_ex W K x) = 0 := by unfold bs_pt; omega
      unfold bs_pk
      rw [a2, Nat.pow_zero, Nat.mul_one, a1]
      unfold bs_pf bs_ex
      rw [if_pos (by omega), show max (bs_bE W K x) 1 - 0 = bs_bE W K x by omega, Nat.add_sub_cancel_left]
  rw [k]
  have f1 : x / 2 ^ W < 2 ^ K * 2 := by
    rw [Nat.div_lt_iff_lt_mul (Nat.pow_pos (by decide)), ← Nat.pow_succ, ← Nat.pow_add, show K + 1 + W = W + K + 1 by omega]
    exact hx
  have f2 : x / 2 ^ W / 2 ^ K < 2 := by
    rw [Nat.div_lt_iff_lt_mul (Nat.pow_pos (by decide)), Nat.mul_comm]
    exact f1
  have g1 := Nat.div_add_mod x (2 ^ W)
  have g2 := Nat.div_add_mod (x / 2 ^ W) (2 ^ K)
  have g3 : bs_bS W K x = x / 2 ^ W / 2 ^ K := Nat.mod_eq_of_lt f2
  rw [g3]
  unfold bs_bE bs_bT
  rw [Nat.pow_add, Nat.mul_comm (2 ^ W) (2 ^ K), ← Nat.mul_assoc, ← Nat.add_assoc, ← Nat.add_mul, Nat.mul_comm (x / 2 ^ W / 2 ^ K), g2, Nat.mul_comm, g1]
theorem bs_rem_inf {W K x y : Nat} (h : bs_Fm W K) (hE : bs_bE W K x ≠ 2 ^ K - 1) (hx : x < 2 ^ (W + K + 1)) (hy : bs_bE W K y = 2 ^ K - 1) (hT : bs_bT W y = 0) : Jvm.FP.Core.rem (bs_fm W K) x y = x := by
  have d : Jvm.FP.Core.decode (bs_fm W K) y = .inf (Jvm.FP.Core.fieldS (bs_fm W K) y) := by
    have e1 : Jvm.FP.Core.fieldE (bs_fm W K) y = bs_bE W K y := by
      show y / 2 ^ (W + 1 - 1) % 2 ^ K = _
      rw [Nat.add_sub_cancel]
      rfl
    have e2 : Jvm.FP.Core.fieldT (bs_fm W K) y = bs_bT W y := by
      show y % 2 ^ (W + 1 - 1) = _
      rw [Nat.add_sub_cancel]
      rfl
    unfold Jvm.FP.Core.decode
    rw [e1, e2, hT, if_pos (show bs_bE W K y = (bs_fm W K).exps - 1 from hy), if_pos rfl]
  unfold Jvm.FP.Core.rem
  have e : Jvm.FP.Core.exactRemainder (Jvm.FP.Core.decode (bs_fm W K) x) (Jvm.FP.Core.decode (bs_fm W K) y) = Jvm.FP.Core.decode (bs_fm W K) x := by
    rw [bs_dec hE, d]
    rfl
  rw [e]
  exact bs_self h hE hx
theorem bs_rem_fin {W K x y : Nat} (h : bs_Fm W K) (hE : bs_bE W K x ≠ 2 ^ K - 1) (hx : x < 2 ^ (W + K + 1)) (hy : bs_bE W K y ≠ 2 ^ K - 1) (h0 : bs_sig W K y ≠ 0) : Jvm.FP.Core.rem (bs_fm W K) x y = if bs_ex W K y ≤ bs_ex W K x then bs_bS W K x * 2 ^ (W + K) + bs_pk W (bs_sig W K x * 2 ^ (bs_ex W K x - bs_ex W K y) % bs_sig W K y) (bs_ex W K y) else x := by
  obtain ⟨e1, e2⟩ := bs_exB h hy
  have hsx : bs_sig W K x < 2 ^ (W + 1) := bs_sig_lt
  have hsy : bs_sig W K y < 2 ^ (W + 1) := bs_sig_lt
  unfold Jvm.FP.Core.rem
  have e : Jvm.FP.Core.exactRemainder (Jvm.FP.Core.decode (bs_fm W K) x) (Jvm.FP.Core.decode (bs_fm W K) y) = if bs_ex W K y ≤ bs_ex W K x then .fin (bs_bS W K x == 1) (bs_sig W K x * 2 ^ (bs_ex W K x - bs_ex W K y) % bs_sig W K y) ((bs_fm W K).qmin + ((bs_ex W K y : Int) - 1)) else Jvm.FP.Core.decode (bs_fm W K) x := by
    rw [bs_dec hE, bs_dec hy]
    unfold Jvm.FP.Core.exactRemainder Jvm.FP.Core.inUnits
    show (if bs_sig W K y = 0 then _ else _) = _
    rw [if_neg h0]
    generalize (bs_fm W K).qmin = Q
    by_cases c : bs_ex W K y ≤ bs_ex W K x
    · rw [if_pos c, show min (Q + ((bs_ex W K x : Int) - 1)) (Q + ((bs_ex W K y : Int) - 1)) = Q + ((bs_ex W K y : Int) - 1) by omega, show (Q + ((bs_ex W K x : Int) - 1) - (Q + ((bs_ex W K y : Int) - 1))).toNat = bs_ex W K x - bs_ex W K y by omega, show (Q + ((bs_ex W K y : Int) - 1) - (Q + ((bs_ex W K y : Int) - 1))).toNat = 0 by omega, Nat.pow_zero, Nat.mul_one]
    · rw [if_neg c, show min (Q + ((bs_ex W K x : Int) - 1)) (Q + ((bs_ex W K y : Int) - 1)) = Q + ((bs_ex W K x : Int) - 1) by omega, show (Q + ((bs_ex W K x : Int) - 1) - (Q + ((bs_ex W K x : Int) - 1))).toNat = 0 by omega, show (Q + ((bs_ex W K y : Int) - 1) - (Q + ((bs_ex W K x : Int) - 1))).toNat = bs_ex W K y - bs_ex W K x by omega, Nat.pow_zero, Nat.mul_one]
      have big : 2 ^ W ≤ bs_sig W K y := by
        have : bs_bE W K y ≠ 0 := by
          intro q
          unfold bs_ex at c
          omega
        unfold bs_sig
        rw [if_neg this]
        omega
      have lt : bs_sig W K x < bs_sig W K y * 2 ^ (bs_ex W K y - bs_ex W K x) := by
        have a1 : 2 ^ 1 ≤ 2 ^ (bs_ex W K y - bs_ex W K x) := Nat.pow_le_pow_right (by decide) (by omega)
        have a2 : 2 ^ W * 2 ^ 1 ≤ bs_sig W K y * 2 ^ (bs_ex W K y - bs_ex W K x) := Nat.mul_le_mul big a1
        rw [← Nat.pow_add] at a2
        omega
      rw [Nat.mod_eq_of_lt lt]
  rw [e]
  by_cases c : bs_ex W K y ≤ bs_ex W K x
  · have hm : bs_sig W K x * 2 ^ (bs_ex W K x - bs_ex W K y) % bs_sig W K y < bs_sig W K y := Nat.mod_lt _ (by omega)
    rw [if_pos c, if_pos c, bs_rnd h _ (by omega) e1 e2, bs_bSx]
  · rw [if_neg c, if_neg c]
    exact bs_self h hE hx
/-- what is made is finite -/
theorem bs_pkE {W K c lo : Nat} (s : Nat) (h : bs_Fm W K) (hc : c < 2 ^ (W + 1)) (h2 : lo ≤ 2 ^ K - 2) : bs_bE W K (s * 2 ^ (W + K) + bs_pk W c lo) ≠ 2 ^ K - 1 := by
  have hk : 2 ^ 2 ≤ 2 ^ K := Nat.pow_le_pow_right (by decide) (by rcases h with ⟨rfl, rfl⟩ | ⟨rfl, rfl⟩ <;> decide)
  have k : bs_pk W c lo / 2 ^ W < 2 ^ K - 1 := by
    have hc2 := bs_pkc (lo := lo) hc
    unfold bs_pk bs_pf
    rw [Nat.pow_succ] at hc2
    split
    · rw [Nat.mul_comm, Nat.mul_add_div (Nat.pow_pos (by decide)), Nat.div_eq_of_lt (by omega)]
      omega
    · rw [Nat.div_eq_of_lt (by omega)]
      omega
  unfold bs_bE
  rw [Nat.pow_add, Nat.mul_comm (2 ^ W), ← Nat.mul_assoc, Nat.mul_comm _ (2 ^ W), Nat.mul_add_div (Nat.pow_pos (by decide)), Nat.mul_comm s, Nat.mul_add_mod, Nat.mod_eq_of_lt (by omega)]
  omega
theorem bs_eqs {W K v : Nat} (hE : bs_bE W K v ≠ 2 ^ K - 1) : Op.cmpValue (Jvm.FP.Core.cmp (bs_fm W K) v v) .l = 0 := by
  unfold Jvm.FP.Core.cmp
  rw [bs_dec hE]
  show Op.cmpValue (some (compare (Jvm.FP.Core.signed _ _) (Jvm.FP.Core.signed _ _))) .l = 0
  rw [Std.compare_self]
  rfl
