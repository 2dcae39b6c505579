/-! what is left over, of floats and of doubles: the class -/
def bs_pf (W c lo : Nat) : Nat := if 2 ^ W ≤ c then lo * 2 ^ W + (c - 2 ^ W) else c
def bs_pt (W c lo : Nat) : Nat := min (lo - 1) (W - c.log2)
def bs_pk (W c lo : Nat) : Nat := bs_pf W (c * 2 ^ bs_pt W c lo) (lo - bs_pt W c lo)
theorem bs_FmW {W K : Nat} (h : bs_Fm W K) : W < 64 ∧ K ≤ 11 ∧ W + K < 64 ∧ 2 ^ (W + 1) ≤ 2 ^ 53 ∧ 0 < K := by
  rcases h with ⟨rfl, rfl⟩ | ⟨rfl, rfl⟩ <;> decide
theorem bs_pJ {W K c lo : Nat} (h : bs_Fm W K) (hc : c < 2 ^ (W + 1)) (hlo : lo < 2 ^ K) : c_X5_packed_J45 (nI W) (lN c) (nI lo) = some (lN (bs_pf W c lo)) := by
  obtain ⟨w1, w2, w3, w4, w5⟩ := bs_FmW h
  have hl : lo < 2 ^ 31 := Nat.lt_of_lt_of_le hlo (Nat.pow_le_pow_right (by decide) (by omega))
  have p1 : 2 ^ W < 2 ^ 53 := by rw [Nat.pow_succ] at w4; have : 0 < 2 ^ W := Nat.pow_pos (by decide); omega
  unfold c_X5_packed_J45 bs_pf
  rw [bs_one h, bs_c_frac h (by omega), bs_bnd]
  by_cases d : 2 ^ W ≤ c
  · rw [if_pos d, if_pos ((pk_lLE (by omega) (by omega)).mpr d), nI_l hl, wb_shl _ w1]
    have e1 : bs_bT W c = c - 2 ^ W := by
      unfold bs_bT
      rw [Nat.mod_eq_sub_mod d, Nat.mod_eq_of_lt]
      rw [Nat.pow_succ] at hc
      omega
    have e2 : lo * 2 ^ W < 2 ^ 64 := by
      have a1 : lo * 2 ^ W ≤ 2 ^ K * 2 ^ W := Nat.mul_le_mul_right _ (by omega)
      rw [← Nat.pow_add] at a1
      have a2 : 2 ^ (K + W) < 2 ^ 64 := wb_lt2 (by omega)
      omega
    have e3 : bs_bT W c < 2 ^ W := Nat.mod_lt _ (Nat.pow_pos (by decide))
    rw [wb_or e2 (by omega), Nat.mul_comm lo, ← Nat.two_pow_add_eq_or_of_lt e3, e1]
  · rw [if_neg d, if_neg (fun q => d ((pk_lLE (by omega) (by omega)).mp q))]
theorem bs_pL {W K : Nat} (h : bs_Fm W K) : ∀ (t n c lo i : Nat), (∀ j, j < t → c * 2 ^ j < 2 ^ W ∧ 1 < lo - j ∧ i + j < W) → (lo - t ≤ 1 ∨ 2 ^ W ≤ c * 2 ^ t ∨ W ≤ i + t) → c * 2 ^ t < 2 ^ (W + 1) → lo < 2 ^ K → t < n → i ≤ 64 →
    c_X5_packed_L9 n (nI W) (lN c) (nI lo) (nI i) = some (lN (bs_pf W (c * 2 ^ t) (lo - t))) := by
  obtain ⟨w1, w2, w3, w4, w5⟩ := bs_FmW h
  have hK : 2 ^ K < 2 ^ 31 := wb_lt2 (by omega)
  have p1 : 2 ^ W < 2 ^ 53 := by rw [Nat.pow_succ] at w4; have : 0 < 2 ^ W := Nat.pow_pos (by decide); omega
  intro t
  induction t with
  | zero =>
    intro n c lo i _ he hc hlo hn hi
    obtain ⟨n, rfl⟩ : ∃ m, n = m + 1 := ⟨n - 1, by omega⟩
    rw [Nat.pow_zero, Nat.mul_one] at *
    rw [Nat.sub_zero] at *
    rw [c_X5_packed_L9, bs_pJ h hc hlo, bs_one h]
    by_cases a1 : W ≤ i
    · rw [if_pos (nI_le a1 (by omega))]
    · rw [if_neg (nI_ge (by omega) (by omega))]
      by_cases a2 : lo ≤ 1
      · rw [if_pos (show nI lo ≤ 1 from nI_le (b := 1) a2 (by decide))]
      · rw [if_neg (show ¬ nI lo ≤ 1 from nI_ge (a := 1) (by omega) (by omega)), if_pos ((pk_lLE (by omega) (by omega)).mpr (by omega))]
  | succ t ih =>
    intro n c lo i ha he hc hlo hn hi
    obtain ⟨n, rfl⟩ : ∃ m, n = m + 1 := ⟨n - 1, by omega⟩
    obtain ⟨b1, b2, b3⟩ := ha 0 (by omega)
    rw [Nat.pow_zero, Nat.mul_one] at b1
    have e1 : c * 2 ^ (t + 1) = 2 * c * 2 ^ t := by rw [Nat.pow_succ, Nat.mul_comm 2 c, Nat.mul_assoc, Nat.mul_comm 2]
    rw [e1] at he hc
    rw [c_X5_packed_L9, bs_one h, if_neg (nI_ge (by omega) (by omega)), if_neg (show ¬ nI lo ≤ 1 from nI_ge (a := 1) (by omega) (by omega)), if_neg (fun q => by have := (pk_lLE (by omega) (by omega)).mp q; omega), bs_let, show (1 : Int32) = nI 1 from rfl, wb_shl c (by decide), nI_add]
    have e2 : nI lo + -nI 1 = nI (lo - 1) := by
      rw [← pk_sub (show 1 ≤ lo by omega), Int32.sub_eq_add_neg]
    rw [e2, e1, show c * 2 ^ 1 = 2 * c by omega, show lo - (t + 1) = lo - 1 - t by omega]
    refine ih n (2 * c) (lo - 1) (i + 1) ?_ ?_ hc (by omega) (by omega) (by omega)
    · intro j hj
      obtain ⟨f1, f2, f3⟩ := ha (j + 1) (by omega)
      refine ⟨?_, by omega, by omega⟩
      rw [Nat.pow_succ] at f1
      rw [Nat.mul_comm 2 c, Nat.mul_assoc, Nat.mul_comm 2]
      exact f1
    · rcases he with q | q | q
      · left; omega
      · right; left; exact q
      · right; right; omega
theorem bs_lg {c : Nat} (h : 0 < c) : 2 ^ c.log2 ≤ c ∧ c < 2 ^ (c.log2 + 1) := ⟨Nat.log2_self_le (by omega), Nat.lt_log2_self⟩
theorem bs_lgW {W c : Nat} (h : c < 2 ^ (W + 1)) : c.log2 ≤ W := by
  by_cases c0 : c = 0
  · subst c0
    rw [Nat.log2_zero]
    omega
  · have := (Nat.log2_lt c0).mpr h
    omega
theorem bs_c_pk {W K c lo : Nat} (h : bs_Fm W K) (hc : c < 2 ^ (W + 1)) (hlo : lo < 2 ^ K) : c_X5_packed (lN c) (nI lo) (nI W) = some (lN (bs_pk W c lo)) := by
  obtain ⟨w1, w2, w3, w4, w5⟩ := bs_FmW h
  have hl := bs_lgW hc
  unfold c_X5_packed bs_pk
  have ht : bs_pt W c lo ≤ W - c.log2 ∧ bs_pt W c lo ≤ lo - 1 ∧ (bs_pt W c lo = lo - 1 ∨ bs_pt W c lo = W - c.log2) := by unfold bs_pt; omega
  generalize bs_pt W c lo = t at *
  obtain ⟨t1, t2, t3⟩ := ht
  have up : ∀ j, c.log2 + 1 + j ≤ W + 1 → c * 2 ^ j < 2 ^ (W + 1) := by
    intro j hj
    have a1 : c < 2 ^ (c.log2 + 1) := Nat.lt_log2_self
    have a2 : c * 2 ^ j < 2 ^ (c.log2 + 1) * 2 ^ j := Nat.mul_lt_mul_of_pos_right a1 (Nat.pow_pos (by decide))
    rw [← Nat.pow_add] at a2
    exact Nat.lt_of_lt_of_le a2 (Nat.pow_le_pow_right (by decide) hj)
  refine bs_pL h t bigN c lo 0 ?_ ?_ (up t (by omega)) hlo (by unfold bigN; omega) (by decide)
  · intro j hj
    refine ⟨?_, by omega, by omega⟩
    have a1 : c < 2 ^ (c.log2 + 1) := Nat.lt_log2_self
    have a2 : c * 2 ^ j < 2 ^ (c.log2 + 1) * 2 ^ j := Nat.mul_lt_mul_of_pos_right a1 (Nat.pow_pos (by decide))
    rw [← Nat.pow_add] at a2
    exact Nat.lt_of_lt_of_le a2 (Nat.pow_le_pow_right (by decide) (by omega))
  · rcases t3 with q | q
    · left; omega
    · by_cases c0 : c = 0
      · subst c0
        rw [Nat.log2_zero] at q
        right; right; omega
      · right; left
        have a2 : 2 ^ c.log2 * 2 ^ t ≤ c * 2 ^ t := Nat.mul_le_mul_right _ (bs_lg (by omega)).1
        rw [← Nat.pow_add, q, show c.log2 + (W - c.log2) = W by omega] at a2
        rw [q]
        exact a2
theorem bs_pf_lt {W K c lo : Nat} (hc : c < 2 ^ (W + 1)) (hlo : lo < 2 ^ K) (hK : 0 < K) : bs_pf W c lo < 2 ^ (W + K) := by
  unfold bs_pf
  have e : 2 ^ (W + K) = 2 ^ K * 2 ^ W := by rw [Nat.pow_add, Nat.mul_comm]
  rw [Nat.pow_succ] at hc
  split
  · have : (lo + 1) * 2 ^ W ≤ 2 ^ K * 2 ^ W := Nat.mul_le_mul_right _ (by omega)
    rw [Nat.add_mul, Nat.one_mul] at this
    omega
  · have : 2 ^ W ≤ 2 ^ (W + K) := Nat.pow_le_pow_right (by decide) (by omega)
    omega
theorem bs_pkc {W c lo : Nat} (hc : c < 2 ^ (W + 1)) : c * 2 ^ bs_pt W c lo < 2 ^ (W + 1) := by
  have hl := bs_lgW hc
  have a1 : c < 2 ^ (c.log2 + 1) := Nat.lt_log2_self
  have a2 : c * 2 ^ bs_pt W c lo < 2 ^ (c.log2 + 1) * 2 ^ bs_pt W c lo := Nat.mul_lt_mul_of_pos_right a1 (Nat.pow_pos (by decide))
  rw [← Nat.pow_add] at a2
  refine Nat.lt_of_lt_of_le a2 (Nat.pow_le_pow_right (by decide) ?_)
  unfold bs_pt
  omega
theorem bs_pk_lt {W K c lo : Nat} (hc : c < 2 ^ (W + 1)) (hlo : lo < 2 ^ K) (hK : 0 < K) : bs_pk W c lo < 2 ^ (W + K) :=
  bs_pf_lt (bs_pkc hc) (by omega) hK
/-- the loop that takes ten bits at a time -/
theorem bs_rL {W K x d lo : Nat} (h : bs_Fm W K) (hx : x < 2 ^ 64) (hd : d < 2 ^ (W + 1)) (h0 : 0 < d) (hlo : lo < 2 ^ K) : ∀ (L n v : Nat), v < d → L < n → L < 5000 →
    c_X5_rest_L134 n (lN x) (nI W) (lN d) (nI lo) (lN v) (nI L) = some (lN (bs_bS W K x * 2 ^ (W + K) + bs_pk W (v * 2 ^ L % d) lo)) := by
  obtain ⟨w1, w2, w3, w4, w5⟩ := bs_FmW h
  have fin : ∀ (n v : Nat) (i : Int32), i ≤ 0 → v < d → c_X5_rest_L134 (n + 1) (lN x) (nI W) (lN d) (nI lo) (lN v) i = some (lN (bs_bS W K x * 2 ^ (W + K) + bs_pk W v lo)) := by
    intro n v i hi hv
    rw [c_X5_rest_L134, if_pos hi, bs_c_sgn h hx, bs_bnd, bs_c_pk h (by omega) hlo, bs_bnd]
    have hp := bs_pk_lt (W := W) (c := v) (by omega) hlo w5
    have p2 : 2 ^ (W + K) ≤ 2 ^ 63 := Nat.pow_le_pow_right (by decide) (by omega)
    have s2 : bs_bS W K x * 2 ^ (W + K) ≤ 1 * 2 ^ (W + K) := Nat.mul_le_mul_right _ (by rcases bs_bS2 (W := W) (K := K) (n := x) with q | q <;> omega)
    rw [wb_or (by omega) (by omega), Nat.mul_comm (bs_bS W K x), ← Nat.two_pow_add_eq_or_of_lt hp]
  intro L
  induction L using Nat.strongRecOn with
  | ind L ih =>
    intro n v hv hn hL
    obtain ⟨n, rfl⟩ : ∃ m, n = m + 1 := ⟨n - 1, by omega⟩
    by_cases c0 : L = 0
    · subst c0
      rw [fin n v _ (by decide) hv, Nat.pow_zero, Nat.mul_one, Nat.mod_eq_of_lt hv]
    · obtain ⟨n, rfl⟩ : ∃ m, n = m + 1 := ⟨n - 1, by omega⟩
      have nz : nzL (lN d) = true := decide_eq_true (fun q => by have := (pk_lEQ (b := 0) (by omega) (by decide)).mp q; omega)
      have m10 : (if (10 : Int32) < nI L then (10 : Int32) else nI L) = nI (min 10 L) := by
        by_cases a : 10 < L
        · rw [if_pos (show (10 : Int32) < nI L from nI_lt (a := 10) a (by omega)), show min 10 L = 10 by omega]
          rfl
        · rw [if_neg (show ¬ (10 : Int32) < nI L from nI_nlt (a := 10) (b := L) (by omega) (by decide)), show min 10 L = L by omega]
      have v10 : v * 2 ^ min 10 L < 2 ^ 63 := by
        have a1 : v * 2 ^ min 10 L ≤ v * 2 ^ 10 := Nat.mul_le_mul_left _ (Nat.pow_le_pow_right (by decide) (by omega))
        omega
      rw [c_X5_rest_L134, if_neg (nI_nle (by omega) (by omega)), bs_gd nz, m10, wb_shl v (by omega), pk_lRem v10 h0 (by omega), bs_let]
      have hv2 : v * 2 ^ min 10 L % d < d := Nat.mod_lt _ h0
      by_cases a : 10 < L
      · have e : nI L + (-10 : Int32) = nI (L - 10) := by
          rw [← pk_sub (show 10 ≤ L by omega), Int32.sub_eq_add_neg]
          rfl
        rw [e, ih (L - 10) (by omega) (n + 1) _ hv2 (by omega) (by omega), show min 10 L = 10 by omega]
        have e2 : v * 2 ^ 10 % d * 2 ^ (L - 10) % d = v * 2 ^ L % d := by
          rw [Nat.mod_mul_mod, Nat.mul_assoc, ← Nat.pow_add, show 10 + (L - 10) = L by omega]
        rw [e2]
      · have le : nI L + (-10 : Int32) ≤ 0 := by
          have : nI L + (-10 : Int32) = nI L - nI 10 := by
            rw [Int32.sub_eq_add_neg]
            rfl
          rw [this, Int32.le_iff_toInt_le, pk_sub_toInt (by omega) (by decide)]
          show _ ≤ (0 : Int)
          omega
        rw [fin n _ _ le hv2, show min 10 L = L by omega]
def bs_nan (W : Nat) : Nat := if W = 23 then 2143289344 else 9221120237041090560
theorem bs_c_rest {W K x y : Nat} (h : bs_Fm W K) (hx : x < 2 ^ 64) (hy : y < 2 ^ 64) : c_X5_rest (lN x) (lN y) (nI W) = some (lN (
    if bs_bE W K x = 2 ^ K - 1 then bs_nan W else if bs_sig W K y = 0 then bs_nan W else if bs_bE W K y = 2 ^ K - 1 then (if bs_bT W y = 0 then x else bs_nan W) else if bs_ex W K y ≤ bs_ex W K x then bs_bS W K x * 2 ^ (W + K) + bs_pk W (bs_sig W K x * 2 ^ (bs_ex W K x - bs_ex W K y) % bs_sig W K y) (bs_ex W K y) else x)) := by
  obtain ⟨w1, w2, w3, w4, w5⟩ := bs_FmW h
  have hN : c_X5_rest (lN x) (lN y) (nI W) = c_X5_rest_J16 (lN x) (lN y) (nI W) (lN (bs_nan W)) := by
    unfold c_X5_rest
    rcases h with ⟨rfl, rfl⟩ | ⟨rfl, rfl⟩ <;> rfl
  have hK : 2 ^ K ≤ 2048 := Nat.pow_le_pow_right (n := 2) (by decide) w2
  have hEx : bs_bE W K x < 2 ^ K := Nat.mod_lt _ (Nat.pow_pos (by decide))
  have hEy : bs_bE W K y < 2 ^ K := Nat.mod_lt _ (Nat.pow_pos (by decide))
  have hsx : bs_sig W K x < 2 ^ (W + 1) := bs_sig_lt
  have hsy : bs_sig W K y < 2 ^ (W + 1) := bs_sig_lt
  have hb : ∀ z, bs_bE W K z < 2 ^ K → (if nI (bs_bE W K z) < 1 then (1 : Int32) else nI (bs_bE W K z)) = nI (bs_ex W K z) := by
    intro z hz
    unfold bs_ex
    by_cases c : bs_bE W K z < 1
    · rw [if_pos (show nI (bs_bE W K z) < 1 from nI_lt (b := 1) c (by decide)), show max (bs_bE W K z) 1 = 1 by omega]
      rfl
    · rw [if_neg (show ¬ nI (bs_bE W K z) < 1 from nI_nlt (b := 1) (by omega) (by omega)), show max (bs_bE W K z) 1 = bs_bE W K z by omega]
  have hT : bs_bT W y < 2 ^ 53 := by
    have a : bs_bT W y < 2 ^ W := Nat.mod_lt _ (Nat.pow_pos (by decide))
    rw [Nat.pow_succ] at w4
    omega
  rw [hN]
  unfold c_X5_rest_J16
  rw [bs_c_end h, bs_bnd, bs_c_sig h hy, bs_bnd, bs_c_exp h hx, bs_bnd, bs_c_exp h hy, bs_bnd, bs_c_frac h hy, bs_bnd, bs_bnd, bs_let, bs_bnd, bs_let, hb x hEx, hb y hEy, bs_c_sig h hx, bs_bnd]
  by_cases c1 : bs_bE W K x = 2 ^ K - 1
  · rw [if_pos c1, if_pos (by rw [c1])]
  · rw [if_neg c1, if_neg (fun q => c1 ((nI_eq (by omega) (by omega)).mp q))]
    by_cases c2 : bs_sig W K y = 0
    · rw [if_pos c2, c2, if_pos (show lN 0 = 0 from rfl)]
    · rw [if_neg c2, if_neg (show ¬ lN (bs_sig W K y) = 0 from fun q => c2 ((pk_lEQ (b := 0) (by omega) (by decide)).mp q))]
      by_cases c3 : bs_bE W K y = 2 ^ K - 1
      · rw [if_pos c3, if_pos (by rw [c3])]
        by_cases c4 : bs_bT W y = 0
        · rw [if_pos c4, c4, if_pos (show lN 0 = 0 from rfl)]
        · rw [if_neg c4, if_neg (show ¬ lN (bs_bT W y) = 0 from fun q => c4 ((pk_lEQ (b := 0) (by omega) (by decide)).mp q))]
      · have nz : nzL (lN (bs_sig W K y)) = true := decide_eq_true (fun q => by have := (pk_lEQ (b := 0) (by omega) (by decide)).mp q; omega)
        have ex : bs_ex W K x < 4000 := by unfold bs_ex; omega
        have ey : bs_ex W K y < 4000 := by unfold bs_ex; omega
        have ey2 : bs_ex W K y < 2 ^ K := by
          unfold bs_ex
          have : 2 ^ 1 ≤ 2 ^ K := Nat.pow_le_pow_right (by decide) w5
          omega
        rw [if_neg c3, if_neg (fun q => c3 ((nI_eq (by omega) (by omega)).mp q)), bs_gd nz, bs_let, bs_let, pk_lRem (by omega) (by omega) (by omega)]
        by_cases c5 : bs_ex W K y ≤ bs_ex W K x
        · rw [if_pos c5, if_pos (nI_le c5 (by omega)), pk_sub c5, bs_rL h hx hsy (by omega) ey2 _ bigN _ (Nat.mod_lt _ (by omega)) (by unfold bigN; omega) (by omega), Nat.mod_mul_mod]
        · rw [if_neg c5, if_neg (nI_ge (by omega) (by omega))]
