/-! the class writes an exercise's digits -/
def be_D (a b c r : Nat) : Nat := if r < 6 then c / 10 ^ r % 10 else if r < 9 then b / 10 ^ (r - 6) % 10 else a / 10 ^ (r - 9) % 10
theorem be_D9 (a b c r : Nat) : be_D a b c r ≤ 9 := by
  unfold be_D
  split
  · omega
  · split <;> omega
theorem be_smT {S1 S2 S3 : Mem} {a : Nat} (h : mSame S1 S2 a) (k : mSame S2 S3 a) : mSame S1 S3 a := by
  obtain ⟨a1, a2, a3, a4, a5, a6⟩ := h
  obtain ⟨b1, b2, b3, b4, b5, b6⟩ := k
  refine ⟨b1.trans a1, b2.trans a2, b3.trans a3, b4.trans a4, b5.trans a5, fun b hb => ?_⟩
  obtain ⟨c1, c2, c3⟩ := a6 b hb
  obtain ⟨d1, d2, d3⟩ := b6 b hb
  exact ⟨d1.trans c1, d2.trans c2, d3.trans c3⟩
theorem be_sm0 (S : Mem) (a : Nat) : mSame S S a := ⟨rfl, rfl, rfl, rfl, rfl, fun _ _ => ⟨rfl, rfl, rfl⟩⟩
theorem be_c_L47 {a b R : Nat} (ha : a < 1000) (hb : b < 1000) : ∀ j n i (S : Mem), i + j = 3 → j < n → mKd S R = 8 → mLn S R = 12 → ∃ S', c_X0_spread_L47 n S (nI a) (nI b) (some R) (nI i) = some S' ∧ mSame S S' R ∧
    (∀ p, i ≤ p → p < 3 → mI S' R p = nI (a / 10 ^ (2 - p) % 10) ∧ mI S' R (p + 3) = nI (b / 10 ^ (2 - p) % 10)) ∧ ∀ p, 6 ≤ p ∨ p < i ∨ (3 ≤ p ∧ p < i + 3) → mI S' R p = mI S R p := by
  intro j
  induction j with
  | zero =>
    intro n i S hi hn _ _
    obtain ⟨n, rfl⟩ : ∃ m, n = m + 1 := ⟨n - 1, by omega⟩
    refine ⟨S, ?_, be_sm0 S R, fun p a b => by omega, fun _ _ => rfl⟩
    rw [c_X0_spread_L47, if_pos (show (3 : Int32) ≤ nI i from nI_le (a := 3) (by omega) (by omega))]
  | succ j ih =>
    intro n i S hi hn hK hL
    obtain ⟨n, rfl⟩ : ∃ m, n = m + 1 := ⟨n - 1, by omega⟩
    have s1 := mSame_I S R i (nI (a / 10 ^ (2 - i) % 10))
    have s2 := mSame_I (mSI S R i (nI (a / 10 ^ (2 - i) % 10))) R (i + 3) (nI (b / 10 ^ (2 - i) % 10))
    have s3 := be_smT s1 s2
    obtain ⟨S', e1, e2, e3, e4⟩ := ih n (i + 1) (mSI (mSI S R i (nI (a / 10 ^ (2 - i) % 10))) R (i + 3) (nI (b / 10 ^ (2 - i) % 10))) (by omega) (by omega) hK hL
    refine ⟨S', ?_, be_smT s3 e2, ?_, ?_⟩
    · have d1 := bs_c_dig (b := 10) (v := a) (i := 2 - i) (by decide) (by decide) (by omega) (by omega)
      have d2 := bs_c_dig (b := 10) (v := b) (i := 2 - i) (by decide) (by decide) (by omega) (by omega)
      have hL2 : mLn (mSI S R i (nI (a / 10 ^ (2 - i) % 10))) R = 12 := hL
      rw [c_X0_spread_L47, if_neg (show ¬ (3 : Int32) ≤ nI i from nI_ge (b := 3) (by omega) (by decide)), nI_l (by omega), nI_l (by omega), show (2 : Int32) - nI i = nI (2 - i) from pk_sub (a := 2) (by omega), show (10 : Int32) = nI 10 from rfl, d1, bs_bnd, bs_ob hK, bs_bnd, hL, bs_gd (bs_inB (by omega) (by decide)), bs_let, bs_cl (by omega), d2, bs_bnd]
      unfold bs_dig
      rw [show nI i + (3 : Int32) = nI (i + 3) from nI_add i 3, hL2, bs_gd (bs_inB (by omega) (by decide)), bs_let, bs_cl (by omega), nI_1]
      exact e1
    · intro p p1 p2
      by_cases c : p = i
      · subst c
        refine ⟨?_, ?_⟩
        · rw [e4 p (by omega), bs_mI, if_neg (fun q => by omega), bs_mI, if_pos ⟨rfl, rfl⟩]
        · rw [e4 (p + 3) (by omega), bs_mI, if_pos ⟨rfl, rfl⟩]
      · exact e3 p (by omega) p2
    · intro p hp
      rw [e4 p (by omega), bs_mI, if_neg (fun q => by omega), bs_mI, if_neg (fun q => by omega)]
theorem be_c_L15 {a b c R : Nat} (ha : a < 1000) (hb : b < 1000) (hc : c < 1000000) : ∀ j n (S : Mem), j ≤ 6 → j < n → mKd S R = 8 → mLn S R = 12 → ∃ S', c_X0_spread_L15 n S (nI a) (nI b) (some R) (nI (c / 10 ^ (6 - j))) (nI (5 + j)) = some S' ∧ mSame S S' R ∧
    (∀ p, p < 3 → mI S' R p = nI (a / 10 ^ (2 - p) % 10) ∧ mI S' R (p + 3) = nI (b / 10 ^ (2 - p) % 10)) ∧ (∀ r, 6 - j ≤ r → r < 6 → mI S' R (11 - r) = nI (c / 10 ^ r % 10)) ∧ ∀ p, 6 + j ≤ p → mI S' R p = mI S R p := by
  intro j
  induction j with
  | zero =>
    intro n S _ hn hK hL
    obtain ⟨n, rfl⟩ : ∃ m, n = m + 1 := ⟨n - 1, by omega⟩
    obtain ⟨S', e1, e2, e3, e4⟩ := be_c_L47 ha hb 3 bigN 0 S rfl (by decide) hK hL
    refine ⟨S', ?_, e2, fun p hp => e3 p (by omega) hp, fun r a b => by omega, fun p hp => e4 p (by omega)⟩
    rw [c_X0_spread_L15, if_pos (show nI (5 + 0) < 6 by decide)]
    exact e1
  | succ j ih =>
    intro n S hj hn hK hL
    obtain ⟨n, rfl⟩ : ∃ m, n = m + 1 := ⟨n - 1, by omega⟩
    have hlt : c / 10 ^ (6 - (j + 1)) < 2 ^ 31 := Nat.lt_of_le_of_lt (Nat.div_le_self _ _) (by omega)
    have e2 : c / 10 ^ (6 - (j + 1)) / 10 = c / 10 ^ (6 - j) := by
      rw [Nat.div_div_eq_div_mul, ← Nat.pow_succ]
      congr 2
      omega
    have s1 := mSame_I S R (6 + j) (nI (c / 10 ^ (6 - (j + 1)) % 10))
    obtain ⟨S', f1, f2, f3, f4, f5⟩ := ih n (mSI S R (6 + j) (nI (c / 10 ^ (6 - (j + 1)) % 10))) (by omega) (by omega) hK hL
    refine ⟨S', ?_, be_smT s1 f2, f3, ?_, ?_⟩
    · rw [c_X0_spread_L15, if_neg (show ¬ nI (5 + (j + 1)) < 6 from nI_nlt (b := 6) (by omega) (by omega)), bs_lit 10, pk_rem hlt (by decide) (by decide), pk_div hlt (by decide) (by decide), e2, bs_let, bs_ob hK, bs_bnd, hL, bs_gd (bs_inB (by omega) (by decide)), bs_let, bs_let, bs_cl (by omega), show 5 + (j + 1) = 5 + j + 1 by omega, pk_m1, show 5 + j + 1 = 6 + j by omega]
      exact f1
    · intro r r1 r2
      by_cases q : r = 5 - j
      · subst q
        rw [show 11 - (5 - j) = 6 + j by omega, f5 (6 + j) (Nat.le_refl _), bs_mI, if_pos ⟨rfl, rfl⟩, show 6 - (j + 1) = 5 - j by omega]
      · exact f4 r (by omega) r2
    · intro p hp
      rw [f5 p (by omega), bs_mI, if_neg (fun q => by omega)]
theorem be_c_spread {S : Mem} {a b c R : Nat} (ha : a < 1000) (hb : b < 1000) (hc : c < 1000000) (hK : mKd S R = 8) (hL : mLn S R = 12) : ∃ S', c_X0_spread S (nI a) (nI b) (nI c) (some R) = some S' ∧ mSame S S' R ∧ ∀ r, r < 12 → mI S' R (11 - r) = nI (be_D a b c r) := by
  obtain ⟨S', f1, f2, f3, f4, f5⟩ := be_c_L15 ha hb hc 6 bigN S (by omega) (by decide) hK hL
  refine ⟨S', ?_, f2, ?_⟩
  · unfold c_X0_spread
    rw [bs_ob hK, bs_bnd, hL, if_pos (show (12 : Int32) ≤ nI 12 by decide)]
    rw [show c / 10 ^ (6 - 6) = c by rw [Nat.sub_self, Nat.pow_zero, Nat.div_one]] at f1
    exact f1
  · intro r hr
    unfold be_D
    by_cases c1 : r < 6
    · rw [if_pos c1]
      exact f4 r (by omega) c1
    · rw [if_neg c1]
      by_cases c2 : r < 9
      · rw [if_pos c2]
        have := (f3 (8 - r) (by omega)).2
        rw [show 8 - r + 3 = 11 - r by omega, show 2 - (8 - r) = r - 6 by omega] at this
        exact this
      · rw [if_neg c2]
        have := (f3 (11 - r) (by omega)).1
        rw [show 2 - (11 - r) = r - 9 by omega] at this
        exact this
/-! what is drawn -/
def be_nx (s : Int32) : Int32 := (1103515245 : Int32) * s + (12345 : Int32)
def be_v (s : Int32) : Nat := s.toBitVec.toNat / 65536
theorem be_v_lt (s : Int32) : be_v s < 65536 := by
  unfold be_v
  have := s.toBitVec.isLt
  omega
theorem be_sh (s : Int32) : (Int32.toUInt32 s >>> (Int32.toUInt32 (16 : Int32) &&& Int32.toUInt32 31)).toInt32 = nI (be_v s) := by
  have c : (Int32.toUInt32 (16 : Int32) &&& Int32.toUInt32 31) = UInt32.ofNat 16 := by decide
  rw [c]
  apply Int32.toBitVec_inj.mp
  apply BitVec.eq_of_toNat_eq
  show (Int32.toUInt32 s >>> UInt32.ofNat 16).toNat = (BitVec.ofNat 32 (be_v s)).toNat
  have h1 : (UInt32.ofNat 16).toNat = 16 := rfl
  have h2 : (Int32.toUInt32 s).toNat = s.toBitVec.toNat := rfl
  have := be_v_lt s
  rw [UInt32.toNat_shiftRight, h1, h2, BitVec.toNat_ofNat, Nat.mod_eq_of_lt (show be_v s < 2 ^ 32 by omega), Nat.shiftRight_eq_div_pow]
  rfl
theorem be_c_next (s : Int32) : c_X0_next s = some (be_nx s) := rfl
theorem be_c_drawn (s : Int32) {k : Nat} (h0 : 0 < k) (hk : k < 2 ^ 31) : c_X0_drawn s (nI k) = some (nI (be_v s % k)) := by
  have := be_v_lt s
  have nz : nz (nI k) = true := decide_eq_true (nI_ne0 h0 hk)
  unfold c_X0_drawn
  rw [if_pos (show (0 : Int32) < nI k from nI_lt (a := 0) h0 hk), bs_gd nz, be_sh, pk_rem (by omega) h0 hk]
theorem be_m_draw (M : MS) : m_X6_draw M = some (nI (be_v (be_nx (nF M 42))), nSF M 42 (be_nx (nF M 42))) := by
  unfold m_X6_draw
  rw [bs_let, bs_let, bs_nF_eq, be_sh]
  rfl
/-- the next free place from p on -/
def be_fp : Nat → Nat → Nat → Nat
  | 0, _, p => p
  | n + 1, B, p => if B.testBit p then be_fp n B ((p + 1) % 12) else p
theorem be_fp_lt : ∀ n B p, p < 12 → be_fp n B p < 12
  | 0, _, p, h => h
  | n + 1, B, p, h => by
    show (if B.testBit p then be_fp n B ((p + 1) % 12) else p) < 12
    split
    · exact be_fp_lt n B _ (Nat.mod_lt _ (by decide))
    · exact h
theorem be_fp_all : ∀ (n B p : Nat), p < 12 → B.testBit (be_fp n B p) = true → ∀ j, j ≤ n → B.testBit ((p + j) % 12) = true
  | 0, B, p, hp, h, j, hj => by
    have : j = 0 := by omega
    subst this
    rw [Nat.add_zero, Nat.mod_eq_of_lt hp]
    exact h
  | n + 1, B, p, hp, h, j, hj => by
    have e : be_fp (n + 1) B p = if B.testBit p then be_fp n B ((p + 1) % 12) else p := rfl
    rw [e] at h
    by_cases c : B.testBit p = true
    · rw [if_pos c] at h
      by_cases j0 : j = 0
      · subst j0
        rw [Nat.add_zero, Nat.mod_eq_of_lt hp]
        exact c
      · have := be_fp_all n B ((p + 1) % 12) (Nat.mod_lt _ (by decide)) h (j - 1) (by omega)
        rw [show ((p + 1) % 12 + (j - 1)) % 12 = (p + j) % 12 by omega] at this
        exact this
    · rw [if_neg c] at h
      exact absurd h c
theorem be_ct_all {B : Nat} (h : ∀ p, p < 12 → B.testBit p = true) : be_ct B 12 = 12 := by
  have k : ∀ r, r ≤ 12 → be_ct B r = r := by
    intro r
    induction r with
    | zero => intro _; rfl
    | succ r ih =>
      intro hr
      show be_ct B r + (if be_bl B r then 1 else 0) = r + 1
      have : be_bl B r = true := h (11 - r) (by omega)
      rw [this, ih (by omega)]
      rfl
  exact k 12 (Nat.le_refl _)
theorem be_free {B p : Nat} (hp : p < 12) (h : be_ct B 12 < 12) : B.testBit (be_fp 12 B p) = false := by
  cases c : B.testBit (be_fp 12 B p)
  · rfl
  · exfalso
    have := be_fp_all 12 B p hp c
    have : be_ct B 12 = 12 := be_ct_all (fun q hq => by
      have := this ((q + 12 - p) % 12) (by omega)
      rw [show (p + (q + 12 - p) % 12) % 12 = q by omega] at this
      exact this)
    omega
theorem be_ct_or {B p : Nat} (hp : p < 12) (h : B.testBit p = false) : be_ct (B ||| 2 ^ p) 12 = be_ct B 12 + 1 := by
  have k : ∀ r, r ≤ 12 → be_ct (B ||| 2 ^ p) r = be_ct B r + (if 11 - p < r then 1 else 0) := by
    intro r
    induction r with
    | zero => intro _; rfl
    | succ r ih =>
      intro hr
      have e : be_bl (B ||| 2 ^ p) r = (be_bl B r || decide (p = 11 - r)) := by
        unfold be_bl
        rw [Nat.testBit_or, Nat.testBit_two_pow]
      show be_ct (B ||| 2 ^ p) r + (if be_bl (B ||| 2 ^ p) r then 1 else 0) = be_ct B r + (if be_bl B r then 1 else 0) + _
      rw [ih (by omega), e]
      by_cases c : p = 11 - r
      · have z : be_bl B r = false := by unfold be_bl; rw [← c]; exact h
        rw [z, decide_eq_true c, if_neg (show ¬ 11 - p < r by omega), if_pos (show 11 - p < r + 1 by omega)]
        rfl
      · rw [decide_eq_false c, Bool.or_false]
        by_cases d : 11 - p < r
        · rw [if_pos d, if_pos (show 11 - p < r + 1 by omega)]
          omega
        · rw [if_neg d, if_neg (show ¬ 11 - p < r + 1 by omega)]
          omega
  rw [k 12 (Nat.le_refl _), if_pos (by omega)]
/-- so many blanks more -/
def be_bk : Nat → Int32 → Nat → Nat
  | 0, _, B => B
  | k + 1, s, B => be_bk k (be_nx s) (B ||| 2 ^ be_fp 12 B (be_v (be_nx s) % 12))
theorem be_or_lt {B p : Nat} (hB : B < 4096) (hp : p < 12) : B ||| 2 ^ p < 4096 := Nat.or_lt_two_pow (n := 12) hB (Nat.pow_lt_pow_right (by decide) hp)
theorem be_c_fpL {B : Nat} (hB : B < 4096) : ∀ j n p i, i + j = 12 → j < n → p < 12 → c_X0_freePlace_L4 n (nI B) (nI p) (nI i) = some (nI (be_fp j B p)) := by
  intro j
  induction j with
  | zero =>
    intro n p i hi hn hp
    obtain ⟨n, rfl⟩ : ∃ m, n = m + 1 := ⟨n - 1, by omega⟩
    rw [c_X0_freePlace_L4, if_pos (show (12 : Int32) ≤ nI i from nI_le (a := 12) (by omega) (by omega))]
    rfl
  | succ j ih =>
    intro n p i hi hn hp
    obtain ⟨n, rfl⟩ : ∃ m, n = m + 1 := ⟨n - 1, by omega⟩
    have e : be_fp (j + 1) B p = if B.testBit p then be_fp j B ((p + 1) % 12) else p := rfl
    rw [c_X0_freePlace_L4, if_neg (show ¬ (12 : Int32) ≤ nI i from nI_ge (b := 12) (by omega) (by decide)), be_bit hB hp, e, nI_1, nI_1, bs_let]
    cases c : B.testBit p
    · rw [if_neg (show ¬ false = true by decide), if_pos rfl, if_neg (show ¬ false = true by decide)]
    · rw [if_pos rfl, if_neg (show ¬ (1 : Int32) = 0 by decide), if_pos rfl]
      by_cases d : 12 ≤ p + 1
      · rw [if_pos (show (12 : Int32) ≤ nI (p + 1) from nI_le (a := 12) d (by omega)), show (p + 1) % 12 = 0 by omega]
        exact ih n 0 (i + 1) (by omega) (by omega) (by decide)
      · rw [if_neg (show ¬ (12 : Int32) ≤ nI (p + 1) from nI_ge (b := 12) (by omega) (by decide)), show (p + 1) % 12 = p + 1 by omega]
        exact ih n (p + 1) (i + 1) (by omega) (by omega) (by omega)
theorem be_c_fp {B p : Nat} (hB : B < 4096) (hp : p < 12) : c_X0_freePlace (nI B) (nI p) = some (nI (be_fp 12 B p)) := be_c_fpL hB 12 bigN p 0 rfl (by decide) hp
theorem be_shl1 : ∀ p, p < 12 → ((1 : Int32) <<< (nI p &&& 31)) = nI (2 ^ p) := by decide +kernel
theorem be_ior {a b : Nat} (ha : a < 4096) (hb : b < 4096) : nI a ||| nI b = nI (a ||| b) := by
  apply Int32.toBitVec_inj.mp
  rw [Int32.toBitVec_or]
  show BitVec.ofNat 32 a ||| BitVec.ofNat 32 b = BitVec.ofNat 32 (a ||| b)
  apply BitVec.eq_of_toNat_eq
  have : a ||| b < 2 ^ 12 := Nat.or_lt_two_pow ha hb
  rw [BitVec.toNat_or, BitVec.toNat_ofNat, BitVec.toNat_ofNat, BitVec.toNat_ofNat, Nat.mod_eq_of_lt (by omega), Nat.mod_eq_of_lt (by omega), Nat.mod_eq_of_lt (by omega)]
theorem be_c_L124 {X N : Nat} (hN : N ≤ 4) : ∀ j n i (S : Mem) (s : Int32) (B : Nat), i + j = N → j < n → mI S X 2 = nI B → B < 4096 → ∃ S', c_X0_draw_L107 n S X s (nI N) (nI i) = some S' ∧ mSame S S' X ∧ mR S' X = mR S X ∧ mI S' X 2 = nI (be_bk j s B) ∧ be_bk j s B < 4096 ∧ ∀ k, k ≠ 2 → mI S' X k = mI S X k := by
  intro j
  induction j with
  | zero =>
    intro n i S s B hi hn hB hB2
    obtain ⟨n, rfl⟩ : ∃ m, n = m + 1 := ⟨n - 1, by omega⟩
    refine ⟨S, ?_, be_sm0 S X, rfl, hB, hB2, fun _ _ => rfl⟩
    rw [c_X0_draw_L107, if_pos (nI_le (by omega) (by omega))]
  | succ j ih =>
    intro n i S s B hi hn hB hB2
    obtain ⟨n, rfl⟩ : ∃ m, n = m + 1 := ⟨n - 1, by omega⟩
    have hp : be_v (be_nx s) % 12 < 12 := Nat.mod_lt _ (by decide)
    have hq := be_fp_lt 12 B _ hp
    obtain ⟨S', e1, e2, e3, e4, e5, e6⟩ := ih n (i + 1) (mSI S X 2 (nI (B ||| 2 ^ be_fp 12 B (be_v (be_nx s) % 12)))) (be_nx s) (B ||| 2 ^ be_fp 12 B (be_v (be_nx s) % 12)) (by omega) (by omega) (by rw [bs_mI, if_pos ⟨rfl, rfl⟩]) (be_or_lt hB2 hq)
    refine ⟨S', ?_, be_smT (mSame_I _ _ _ _) e2, e3, e4, e5, ?_⟩
    · rw [c_X0_draw_L107, if_neg (nI_ge (by omega) (by omega)), be_c_next, bs_bnd, show (12 : Int32) = nI 12 from rfl, be_c_drawn _ (by decide) (by decide), bs_bnd, hB, be_c_fp hB2 hp, bs_bnd, be_shl1 _ hq, be_ior hB2 (show 2 ^ be_fp 12 B (be_v (be_nx s) % 12) < 2 ^ 12 from Nat.pow_lt_pow_right (by decide) hq), bs_let, bs_let, nI_1]
      exact e1
    · intro k hk
      rw [e6 k hk, bs_mI, if_neg (fun q => hk q.2)]
