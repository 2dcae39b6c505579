/-! the class looks for the fillings -/
def be_st (S : Mem) (X : Nat) (w f : Int32) : Mem := mSI (mSI S X 3 w) X 4 f
theorem be_st_I (S : Mem) (X : Nat) (w f : Int32) (a k : Nat) : mI (be_st S X w f) a k = if a = X ∧ k = 4 then f else if a = X ∧ k = 3 then w else mI S a k := rfl
theorem be_st_ne (S : Mem) (X : Nat) (w f : Int32) {a k : Nat} (h : a ≠ X ∨ (k ≠ 3 ∧ k ≠ 4)) : mI (be_st S X w f) a k = mI S a k := by
  rw [be_st_I, if_neg (fun q => by rcases h with h | h; exact h q.1; exact h.2 q.2), if_neg (fun q => by rcases h with h | h; exact h q.1; exact h.1 q.2)]
theorem be_st_up (S : Mem) (X : Nat) (w f g v : Int32) : mSI (mSI (be_st S X w f) X 4 g) X 3 v = be_st S X v g := by
  unfold be_st mSI
  have : up2 (up2 (up2 (up2 S.2.2.1 X 3 w) X 4 f) X 4 g) X 3 v = up2 (up2 S.2.2.1 X 3 v) X 4 g := by
    funext b j
    unfold up2
    by_cases c1 : b = X ∧ j = 3
    · rw [if_pos c1, if_neg (fun q => by omega), if_pos c1]
    · rw [if_neg c1]
      by_cases c2 : b = X ∧ j = 4
      · rw [if_pos c2, if_pos c2]
      · rw [if_neg c2, if_neg c2, if_neg c2, if_neg c1, if_neg c1]
  exact congrArg (fun z => (S.1, S.2.1, z, S.2.2.2)) this
theorem be_st_self {S : Mem} {X : Nat} {w f : Int32} (h3 : mI S X 3 = w) (h4 : mI S X 4 = f) : be_st S X w f = S := by
  unfold be_st mSI
  have : up2 (up2 S.2.2.1 X 3 w) X 4 f = S.2.2.1 := by
    funext b j
    unfold up2
    by_cases c2 : b = X ∧ j = 4
    · rw [if_pos c2, c2.1, c2.2]; exact h4.symm
    · rw [if_neg c2]
      by_cases c1 : b = X ∧ j = 3
      · rw [if_pos c1, c1.1, c1.2]; exact h3.symm
      · rw [if_neg c1]
  exact (congrArg (fun z => (S.1, S.2.1, z, S.2.2.2)) this)
/-- an exercise in the class's memory: X, its row R, the blanks B, the digits D, the kind t -/
def be_Ex (S : Mem) (X R B : Nat) (D : Nat → Nat) (t : Int32) : Prop :=
  (mI S X 2 = nI B ∧ B < 4096) ∧ mI S X 0 = t ∧ mR S X 1 = some R ∧ (mKd S R = 8 ∧ mLn S R = 12 ∧ R ≠ X) ∧ (∀ r, r < 12 → mI S R (11 - r) = nI (D r)) ∧ (∀ r, D r ≤ 9) ∧
  (mKd S (mW S) = 14 ∧ mLn S (mW S) = 6 ∧ mW S ≠ X) ∧ ∀ r, r < 6 → mI S (mW S) (5 - r) = nI (10 ^ r)
theorem be_Ex_st {S : Mem} {X R B : Nat} {D : Nat → Nat} {t : Int32} (h : be_Ex S X R B D t) (w f : Int32) : be_Ex (be_st S X w f) X R B D t := by
  obtain ⟨a1, a2, a3, a4, a5, a6, a7, a8⟩ := h
  refine ⟨⟨(be_st_ne S X w f (Or.inr ⟨by decide, by decide⟩)).trans a1.1, a1.2⟩, (be_st_ne S X w f (Or.inr ⟨by decide, by decide⟩)).trans a2, a3, a4, ?_, a6, a7, ?_⟩
  · intro r hr
    rw [be_st_ne S X w f (Or.inl a4.2.2)]
    exact a5 r hr
  · intro r hr
    show mI (be_st S X w f) (mW S) (5 - r) = _
    rw [be_st_ne S X w f (Or.inl a7.2.2)]
    exact a8 r hr
theorem be_c_res (t a b : Int32) : c_X0_result t a b = some (be_opI t a b) := by
  unfold c_X0_result be_opI
  by_cases c : t = 0
  · rw [if_pos c, if_pos c]
  · rw [if_neg c, if_neg c]
    by_cases d : t = 1
    · rw [if_pos d, if_pos d]
    · rw [if_neg d, if_neg d]
theorem be_bit {B p : Nat} (hB : B < 4096) (hp : p < 12) : (nI B >>> (nI p &&& 31)) &&& 1 = if B.testBit p then (1 : Int32) else 0 := by
  have e1 : nI B >>> (nI p &&& 31) = nI (B / 2 ^ p) := pk_shrN (by omega) _ p (bs_sl p (by omega))
  have e2 : nI (B / 2 ^ p) &&& 1 = nI (B / 2 ^ p % 2) := by
    have hlt : B / 2 ^ p < 2 ^ 32 := Nat.lt_of_le_of_lt (Nat.div_le_self _ _) (by omega)
    exact pk_andN hlt 1 rfl
  rw [e1, e2]
  have e3 : B.testBit p = decide (B / 2 ^ p % 2 = 1) := by rw [Nat.testBit_eq_decide_div_mod_eq]
  rw [e3]
  have : B / 2 ^ p % 2 = 0 ∨ B / 2 ^ p % 2 = 1 := by omega
  rcases this with q | q <;> rw [q] <;> rfl
section BeSolve
variable {S : Mem} {X R B : Nat} {D : Nat → Nat} {t : Int32}
theorem be_c_blank (h : be_Ex S X R B D t) {r : Nat} (hr : r < 12) : c_X0_isBlank S X (nI (11 - r)) = some (if be_bl B r then 1 else 0) := by
  unfold c_X0_isBlank be_bl
  rw [h.1.1, be_bit h.1.2 (by omega)]
  cases B.testBit (11 - r) <;> rfl
theorem be_ob (h : be_Ex S X R B D t) : ob S (mR S X 1) 8 = some R := by rw [h.2.2.1]; exact bs_ob h.2.2.2.1.1
theorem be_fneg (h : be_Ex S X R B D t) {c : Int32} (hc : c < 0) : ∀ j n (v : Int32), j ≤ 6 → j < n → c_X0_fits_L5 S n X c v (nI (5 + j)) = some 0 := by
  intro j
  induction j with
  | zero =>
    intro n v _ hn
    obtain ⟨n, rfl⟩ : ∃ m, n = m + 1 := ⟨n - 1, by omega⟩
    rw [c_X0_fits_L5, if_pos (show nI (5 + 0) < 6 by decide), if_pos hc]
  | succ j ih =>
    intro n v hj hn
    obtain ⟨n, rfl⟩ : ∃ m, n = m + 1 := ⟨n - 1, by omega⟩
    have e : nI (5 + (j + 1)) = nI (11 - (5 - j)) := by congr 1; omega
    rw [c_X0_fits_L5, if_neg (show ¬ nI (5 + (j + 1)) < 6 from nI_nlt (b := 6) (by omega) (by omega)), e, be_c_blank h (by omega), bs_bnd, be_ob h, bs_bnd, h.2.2.2.1.2.1, bs_gd (bs_inB (by omega) (by decide)), bs_let, show 11 - (5 - j) = 5 + j + 1 by omega, pk_m1, ih n _ (by omega) (by omega)]
    cases be_bl B (5 - j)
    · rw [if_neg (show ¬ false = true by decide), if_pos rfl]
      split <;> rfl
    · rw [if_pos rfl, if_neg (by decide)]
theorem be_fL (h : be_Ex S X R B D t) {C : Nat} (hC : C < 1000000) : ∀ j n, j ≤ 6 → j < n →
    ((∀ r, 6 - j ≤ r → r < 6 → be_bl B r = false → C / 10 ^ r % 10 = D r) → c_X0_fits_L5 S n X (nI C) (nI (C / 10 ^ (6 - j))) (nI (5 + j)) = some 1) ∧
    ((¬ ∀ r, 6 - j ≤ r → r < 6 → be_bl B r = false → C / 10 ^ r % 10 = D r) → c_X0_fits_L5 S n X (nI C) (nI (C / 10 ^ (6 - j))) (nI (5 + j)) = some 0) := by
  intro j
  induction j with
  | zero =>
    intro n _ hn
    obtain ⟨n, rfl⟩ : ∃ m, n = m + 1 := ⟨n - 1, by omega⟩
    refine ⟨fun _ => ?_, fun q => absurd (fun r a b => by omega) q⟩
    rw [c_X0_fits_L5, if_pos (show nI (5 + 0) < 6 by decide), if_neg (nI_pos (by omega))]
  | succ j ih =>
    intro n hj hn
    obtain ⟨n, rfl⟩ : ∃ m, n = m + 1 := ⟨n - 1, by omega⟩
    obtain ⟨ih1, ih2⟩ := ih n (by omega) (by omega)
    have e : nI (5 + (j + 1)) = nI (11 - (5 - j)) := by congr 1; omega
    have hlt : C / 10 ^ (6 - (j + 1)) < 2 ^ 31 := Nat.lt_of_le_of_lt (Nat.div_le_self _ _) (by omega)
    have e2 : C / 10 ^ (6 - (j + 1)) / 10 = C / 10 ^ (6 - j) := by
      rw [Nat.div_div_eq_div_mul, ← Nat.pow_succ]
      congr 2
      omega
    have stp : c_X0_fits_L5 S (n + 1) X (nI C) (nI (C / 10 ^ (6 - (j + 1)))) (nI (5 + (j + 1))) = if be_bl B (5 - j) = false ∧ C / 10 ^ (5 - j) % 10 ≠ D (5 - j) then some 0 else c_X0_fits_L5 S n X (nI C) (nI (C / 10 ^ (6 - j))) (nI (5 + j)) := by
      have d9 := h.2.2.2.2.2.1 (5 - j)
      rw [c_X0_fits_L5, if_neg (show ¬ nI (5 + (j + 1)) < 6 from nI_nlt (b := 6) (by omega) (by omega)), e, be_c_blank h (by omega), bs_bnd, be_ob h, bs_bnd, h.2.2.2.1.2.1, bs_gd (bs_inB (by omega) (by decide)), bs_let, bs_cl (by omega), h.2.2.2.2.1 (5 - j) (by omega), bs_lit 10, pk_rem hlt (by decide) (by decide), pk_div hlt (by decide) (by decide), e2, show 11 - (5 - j) = 5 + j + 1 by omega, pk_m1, show 6 - (j + 1) = 5 - j by omega]
      cases be_bl B (5 - j)
      · rw [if_neg (show ¬ false = true by decide), if_pos rfl]
        by_cases c : C / 10 ^ (5 - j) % 10 = D (5 - j)
        · rw [if_pos (show nI (D (5 - j)) = nI (C / 10 ^ (5 - j) % 10) by rw [c]), if_neg (fun q => q.2 c)]
        · rw [if_neg (show ¬ nI (D (5 - j)) = nI (C / 10 ^ (5 - j) % 10) from fun q => c ((nI_eq (by omega) (by omega)).mp q).symm), if_pos ⟨rfl, c⟩]
      · rw [if_pos rfl, if_neg (by decide), if_neg (fun q => absurd q.1 (by decide))]
    rw [stp]
    constructor
    · intro q
      rw [if_neg (fun z => z.2 (q (5 - j) (by omega) (by omega) z.1))]
      exact ih1 (fun r a b c => q r (by omega) b c)
    · intro q
      by_cases c : be_bl B (5 - j) = false ∧ C / 10 ^ (5 - j) % 10 ≠ D (5 - j)
      · rw [if_pos c]
      · rw [if_neg c]
        refine ih2 (fun z => q (fun r a b d => ?_))
        by_cases k : r = 5 - j
        · subst k
          by_cases k2 : C / 10 ^ (5 - j) % 10 = D (5 - j)
          · exact k2
          · exact absurd ⟨d, k2⟩ c
        · exact z r (by omega) b d
theorem be_c_fits (h : be_Ex S X R B D t) {x : Nat} (hx : x < 1000000) : c_X0_fits S X (be_oX t x) = some (if be_ok1 B D t x then 1 else 0) := by
  unfold c_X0_fits
  rcases be_oX_C t hx with q | ⟨C, hC, q⟩
  · have no : ¬ be_ok1 B D t x = true := fun z => by
      have := (be_ok1_iff.mp z).1
      rw [Int32.lt_iff_toInt_lt] at q
      rw [Int32.le_iff_toInt_le] at this
      omega
    rw [if_neg no]
    exact be_fneg h q 6 bigN _ (by omega) (by decide)
  · obtain ⟨f1, f2⟩ := be_fL h hC 6 bigN (by omega) (by decide)
    rw [show C / 10 ^ (6 - 6) = C by rw [Nat.sub_self, Nat.pow_zero, Nat.div_one]] at f1 f2
    rw [q]
    by_cases k : be_ok1 B D t x = true
    · rw [if_pos k]
      have := (be_ok1_iff.mp k).2
      rw [q, bs_cl (by omega)] at this
      exact f1 (fun r _ b c => this r b c)
    · rw [if_neg k]
      refine f2 (fun z => k (be_ok1_iff.mpr ?_))
      rw [q, bs_cl (by omega)]
      exact ⟨nI_pos' (by omega), fun r a b => z r (by omega) a b⟩
/-- the class's memory behind so many of the first six places' fillings -/
noncomputable def be_ok (B : Nat) (D : Nat → Nat) (t : Int32) (u : Nat) : Bool := be_ok1 B D t (be_X B D u)
noncomputable def be_f (B : Nat) (D : Nat → Nat) (t : Int32) (k : Nat) : Int32 := if (be_run (be_ok B D t) k).1 = 0 then -1 else nI (be_X B D (be_run (be_ok B D t) k).2)
noncomputable def be_S (S : Mem) (X B : Nat) (D : Nat → Nat) (t : Int32) (k : Nat) : Mem := be_st S X (nI (be_run (be_ok B D t) k).1) (be_f B D t k)
theorem be_c_note (h : be_Ex S X R B D t) (k : Nat) : c_X0_note (be_S S X B D t k) X (nI (be_X B D k)) = some (be_S S X B D t (k + 1)) := by
  have hx := be_X_lt (B := B) h.2.2.2.2.2.1 k
  have hE : be_Ex (be_S S X B D t k) X R B D t := be_Ex_st h _ _
  unfold c_X0_note
  rw [hE.2.1, bs_lit 1000, pk_rem (by omega) (by decide) (by decide), pk_div (by omega) (by decide) (by decide), be_c_res, bs_bnd]
  show bnd (c_X0_fits (be_S S X B D t k) X (be_oX t (be_X B D k))) _ = _
  rw [be_c_fits hE hx, bs_bnd]
  have e4 : mI (be_S S X B D t k) X 4 = be_f B D t k := by unfold be_S; rw [be_st_I, if_pos ⟨rfl, rfl⟩]
  have e3 : ∀ g, mI (mSI (be_S S X B D t k) X 4 g) X 3 = nI (be_run (be_ok B D t) k).1 := fun g => by
    rw [bs_mI, if_neg (fun q => absurd q.2 (by decide))]
    unfold be_S
    rw [be_st_I, if_neg (fun q => absurd q.2 (by decide)), if_pos ⟨rfl, rfl⟩]
  have er : be_run (be_ok B D t) (k + 1) = if be_ok B D t k then ((be_run (be_ok B D t) k).1 + 1, if (be_run (be_ok B D t) k).1 = 0 then k else (be_run (be_ok B D t) k).2) else be_run (be_ok B D t) k := rfl
  by_cases c : be_ok1 B D t (be_X B D k) = true
  · rw [if_pos c, if_neg bs_10, e4, bs_let, bs_let, e3, bs_let, bs_let, bs_let, e3, bs_let, bs_let, nI_1]
    rw [if_pos (show be_ok B D t k = true from c)] at er
    have e5 : ∀ g, mSI (mSI (be_S S X B D t k) X 4 g) X 3 (nI ((be_run (be_ok B D t) k).1 + 1)) = be_st S X (nI ((be_run (be_ok B D t) k).1 + 1)) g := fun g => be_st_up _ _ _ _ _ _
    rw [e5, e5]
    have e6 : be_S S X B D t (k + 1) = be_st S X (nI ((be_run (be_ok B D t) k).1 + 1)) (nI (be_X B D (if (be_run (be_ok B D t) k).1 = 0 then k else (be_run (be_ok B D t) k).2))) := by
      unfold be_S be_f
      rw [er, if_neg (Nat.succ_ne_zero _)]
    rw [e6]
    by_cases d : (be_run (be_ok B D t) k).1 = 0
    · have e7 : be_f B D t k = -1 := by unfold be_f; rw [if_pos d]
      rw [e7, if_neg (by decide), if_pos d]
    · have e7 : be_f B D t k = nI (be_X B D (be_run (be_ok B D t) k).2) := by unfold be_f; rw [if_neg d]
      have hx2 := be_X_lt (B := B) h.2.2.2.2.2.1 (be_run (be_ok B D t) k).2
      rw [e7, if_pos (nI_pos' (by omega)), if_neg d]
  · rw [if_neg c, if_pos rfl]
    rw [if_neg (show ¬ be_ok B D t k = true from c)] at er
    have e6 : be_S S X B D t (k + 1) = be_S S X B D t k := by
      unfold be_S be_f
      rw [er]
    rw [e6]
/-- the digits of one place, one after another -/
theorem be_L59 {rec : Mem → Nat → Int32 → Int32 → Option Mem} {F : Nat → Mem} {p r pre hi : Nat} (hp : p < 6) (hpr : p = 5 - r) (hr : r < 6) (hF : ∀ d, be_Ex (F d) X R B D t) (hh : hi ≤ 9) :
    ∀ j n lo, lo + j = hi + 1 → j < n → (∀ d, lo ≤ d → d ≤ hi → rec (F d) X (nI (p + 1)) (nI (pre + 10 ^ r * d)) = some (F (d + 1))) → c_X0_tryFrom_L59 rec n (F lo) X (nI p) (nI pre) (nI hi) (nI lo) = some (F (hi + 1)) := by
  intro j
  induction j with
  | zero =>
    intro n lo hl hn _
    obtain ⟨n, rfl⟩ : ∃ m, n = m + 1 := ⟨n - 1, by omega⟩
    rw [c_X0_tryFrom_L59, if_pos (nI_lt (by omega) (by omega)), show lo = hi + 1 by omega]
  | succ j ih =>
    intro n lo hl hn hrec
    obtain ⟨n, rfl⟩ : ∃ m, n = m + 1 := ⟨n - 1, by omega⟩
    have k := (hF lo).2.2.2.2.2.2
    rw [c_X0_tryFrom_L59, if_neg (nI_nlt (by omega) (by omega)), bs_gd (bs_kb k.1.1), k.1.2.1, bs_gd (bs_inB hp (by decide)), bs_cl (by omega), show p = 5 - r from hpr, k.2 r hr, ← hpr, pk_mul, nI_1, nI_add, hrec lo (by omega) (by omega), bs_bnd, nI_1]
    exact ih n (lo + 1) (by omega) (by omega) (fun d a b => hrec d (by omega) b)
def be_kk (B r : Nat) : Nat := be_ct B (6 + r) - be_ct B 6
theorem be_kk1 (B r : Nat) : be_kk B (r + 1) = be_kk B r + (if be_bl B (6 + r) then 1 else 0) := by
  unfold be_kk
  have a : be_ct B 6 ≤ be_ct B (6 + r) := be_ct_mono (by omega)
  have b : be_ct B (6 + (r + 1)) = be_ct B (6 + r) + (if be_bl B (6 + r) then 1 else 0) := rfl
  omega
theorem be_U_kk (u r : Nat) : be_U B D u r = if be_bl B (6 + r) then u / 10 ^ be_kk B r % 10 else D (6 + r) := rfl
theorem be_try (h : be_Ex S X R B D t) : ∀ r, r ≤ 6 → ∀ n hi pre, r < n → (∀ u, u < 10 ^ be_kk B r → be_X B D (hi * 10 ^ be_kk B r + u) = pre + be_N (be_U B D u) r) →
    c_X0_tryFrom n (be_S S X B D t (hi * 10 ^ be_kk B r)) X (nI (6 - r)) (nI pre) = some (be_S S X B D t ((hi + 1) * 10 ^ be_kk B r)) := by
  have D9 := h.2.2.2.2.2.1
  intro r
  induction r with
  | zero =>
    intro _ n hi pre hn hp
    obtain ⟨n, rfl⟩ : ∃ m, n = m + 1 := ⟨n - 1, by omega⟩
    have k0 : be_kk B 0 = 0 := Nat.sub_self _
    rw [k0, Nat.pow_zero, Nat.mul_one] at hp
    have e := hp 0 (by decide)
    have e : be_X B D hi = pre := e
    rw [k0, Nat.pow_zero, Nat.mul_one, Nat.mul_one, c_X0_tryFrom, if_neg (show ¬ nI (6 - 0) < 0 by decide), if_neg (show ¬ nI (6 - 0) < 6 by decide), ← e, be_c_note h hi, bs_bnd]
  | succ r ih =>
    intro hr n hi pre hn hp
    obtain ⟨n, rfl⟩ : ∃ m, n = m + 1 := ⟨n - 1, by omega⟩
    have hE : ∀ k, be_Ex (be_S S X B D t k) X R B D t := fun k => be_Ex_st h _ _
    have e6 : 6 - (r + 1) = 11 - (6 + r) := by omega
    have k1 := be_kk1 B r
    have P0 := be_p10 (be_kk B r)
    rw [c_X0_tryFrom, if_neg (nI_pos (by omega)), if_pos (show nI (6 - (r + 1)) < 6 from nI_lt (b := 6) (by omega) (by decide)), e6, be_c_blank (hE _) (by omega), bs_bnd, be_ob (hE _), bs_bnd, (hE _).2.2.2.1.2.1, bs_gd (bs_inB (by omega) (by decide)), bs_cl (by omega), (hE _).2.2.2.2.1 (6 + r) (by omega)]
    unfold c_X0_tryFrom_J34
    rw [be_c_blank (hE _) (by omega), bs_bnd, be_ob (hE _), bs_bnd, (hE _).2.2.2.1.2.1, bs_gd (bs_inB (by omega) (by decide)), bs_cl (by omega), (hE _).2.2.2.2.1 (6 + r) (by omega), bs_let]
    cases q : be_bl B (6 + r)
    · rw [q] at k1
      have k1 : be_kk B (r + 1) = be_kk B r := k1
      rw [k1] at hp ⊢
      rw [if_neg (show ¬ false = true by decide), if_pos rfl, if_pos rfl]
      have g := be_L59 (rec := c_X0_tryFrom n) (F := fun d => be_S S X B D t ((hi + (d - D (6 + r))) * 10 ^ be_kk B r)) (X := X) (R := R) (B := B) (D := D) (t := t) (p := 11 - (6 + r)) (r := r) (pre := pre) (hi := D (6 + r)) (by omega) (by omega) (by omega) (fun d => hE _) (D9 _) 1 bigN (D (6 + r)) rfl (by decide) ?_
      · have g : c_X0_tryFrom_L59 (c_X0_tryFrom n) bigN (be_S S X B D t ((hi + (D (6 + r) - D (6 + r))) * 10 ^ be_kk B r)) X (nI (11 - (6 + r))) (nI pre) (nI (D (6 + r))) (nI (D (6 + r))) = some (be_S S X B D t ((hi + (D (6 + r) + 1 - D (6 + r))) * 10 ^ be_kk B r)) := g
        rw [Nat.sub_self, Nat.add_zero, Nat.add_sub_cancel_left] at g
        exact g
      · intro d d1 d2
        have : d = D (6 + r) := by omega
        subst this
        show c_X0_tryFrom n (be_S S X B D t ((hi + (D (6 + r) - D (6 + r))) * 10 ^ be_kk B r)) X (nI (11 - (6 + r) + 1)) (nI (pre + 10 ^ r * D (6 + r))) = some (be_S S X B D t ((hi + (D (6 + r) + 1 - D (6 + r))) * 10 ^ be_kk B r))
        rw [Nat.sub_self, Nat.add_zero, Nat.add_sub_cancel_left, show 11 - (6 + r) + 1 = 6 - r by omega]
        refine ih (by omega) n hi _ (by omega) (fun u hu => ?_)
        rw [hp u hu]
        show pre + (be_N (be_U B D u) r + be_U B D u r * 10 ^ r) = _
        have : be_U B D u r = D (6 + r) := by rw [be_U_kk, q]; rfl
        rw [this, Nat.mul_comm (D (6 + r))]
        omega
    · rw [q] at k1
      have k1 : be_kk B (r + 1) = be_kk B r + 1 := k1
      rw [k1] at hp ⊢
      rw [if_pos rfl, if_neg (show ¬ (1 : Int32) = 0 by decide), bs_bnd, if_neg (show ¬ (1 : Int32) = 0 by decide)]
      have eP : ∀ h2, h2 * 10 ^ (be_kk B r + 1) = h2 * 10 * 10 ^ be_kk B r := fun h2 => by rw [Nat.pow_succ, Nat.mul_assoc, Nat.mul_comm (10 ^ be_kk B r)]
      have g := be_L59 (rec := c_X0_tryFrom n) (F := fun d => be_S S X B D t ((hi * 10 + d) * 10 ^ be_kk B r)) (X := X) (R := R) (B := B) (D := D) (t := t) (p := 11 - (6 + r)) (r := r) (pre := pre) (hi := 9) (by omega) (by omega) (by omega) (fun d => hE _) (by decide) 10 bigN 0 rfl (by decide) ?_
      · have g : c_X0_tryFrom_L59 (c_X0_tryFrom n) bigN (be_S S X B D t ((hi * 10 + 0) * 10 ^ be_kk B r)) X (nI (11 - (6 + r))) (nI pre) 9 0 = some (be_S S X B D t ((hi * 10 + (9 + 1)) * 10 ^ be_kk B r)) := g
        rw [eP, eP, show (hi + 1) * 10 = hi * 10 + (9 + 1) by omega]
        exact g
      · intro d _ d2
        show c_X0_tryFrom n (be_S S X B D t ((hi * 10 + d) * 10 ^ be_kk B r)) X (nI (11 - (6 + r) + 1)) (nI (pre + 10 ^ r * d)) = some (be_S S X B D t ((hi * 10 + (d + 1)) * 10 ^ be_kk B r))
        rw [show 11 - (6 + r) + 1 = 6 - r by omega, ← Nat.add_assoc]
        refine ih (by omega) n (hi * 10 + d) _ (by omega) (fun u hu => ?_)
        have lt : d * 10 ^ be_kk B r + u < 10 ^ (be_kk B r + 1) := by
          have : d * 10 ^ be_kk B r ≤ 9 * 10 ^ be_kk B r := Nat.mul_le_mul_right _ d2
          rw [Nat.pow_succ]
          omega
        have e1 := hp (d * 10 ^ be_kk B r + u) lt
        rw [eP, ← Nat.add_assoc, ← Nat.add_mul] at e1
        rw [e1]
        show pre + (be_N (be_U B D (d * 10 ^ be_kk B r + u)) r + be_U B D (d * 10 ^ be_kk B r + u) r * 10 ^ r) = _
        have e2 : be_U B D (d * 10 ^ be_kk B r + u) r = d := by
          have := be_dm (q := 0) P0 hu d2
          rw [Nat.zero_mul, Nat.add_zero, Nat.add_comm] at this
          rw [be_U_kk, q, if_pos rfl, this]
        have e3 : be_N (be_U B D (d * 10 ^ be_kk B r + u)) r = be_N (be_U B D u) r := by
          refine be_N_ext r (fun s hs => ?_)
          rw [be_U_kk, be_U_kk]
          cases z : be_bl B (6 + s)
          · rfl
          · have : be_kk B s + 1 ≤ be_kk B r := by
              have a : be_ct B 6 ≤ be_ct B (6 + s) := be_ct_mono (by omega)
              have b := be_ct_bl z (show 6 + s < 6 + r by omega)
              unfold be_kk
              omega
            rw [if_pos rfl, if_pos rfl, be_low this]
        rw [e2, e3, Nat.mul_comm d]
        omega
theorem be_tryAll (h : be_Ex S X R B D t) (h3 : mI S X 3 = 0) (h4 : mI S X 4 = -1) : c_X0_tryFrom 10 S X 0 0 = some (be_S S X B D t (10 ^ be_kk B 6)) := by
  have e : be_S S X B D t 0 = S := be_st_self h3 h4
  have := be_try h 6 (by decide) 10 0 0 (by decide) (fun u hu => by rw [Nat.zero_mul, Nat.zero_add, Nat.zero_add]; rfl)
  rw [Nat.zero_mul, e, Nat.zero_add, Nat.one_mul] at this
  exact this
end BeSolve
