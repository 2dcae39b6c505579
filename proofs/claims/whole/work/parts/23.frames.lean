/-! a frame's rods, one by one -/
/-- the first fault from a rod on -/
def bs_ff (M : MS) (f : Nat) : Nat → Nat → Int32
  | 0, _ => 0
  | d + 1, i => if bs_rf M (bs_r M f i) = 0 then bs_ff M f d (i + 1) else bs_rf M (bs_r M f i)
/-- what the rods from one on show -/
def bs_sv (M : MS) (f : Nat) : Nat → Nat → Nat
  | 0, _ => 0
  | d + 1, i => bs_dv M (bs_r M f i) + bs_b M f * bs_sv M f d (i + 1)
def bs_wu (k d : Nat) : Nat := if k = 2 then 0 else if d < 10 then d / 5 else 2
/-- a rod is proper, to a base -/
def bs_pr (M : MS) (b r : Nat) : Bool := decide (bs_dv M r < b) && decide (bs_u M r = bs_wu (bs_k M (r / 18)) (bs_dv M r))
def bs_ap (M : MS) (f : Nat) : Nat → Nat → Bool
  | 0, _ => true
  | d + 1, i => (decide (bs_rf M (bs_r M f i) ≠ 0) || bs_pr M (bs_b M f) (bs_r M f i)) && bs_ap M f d (i + 1)
def bs_rc (M : MS) (f : Nat) : Nat → Nat → Nat
  | 0, _ => 0
  | d + 1, i => (if bs_rf M (bs_r M f i) = 0 then 1 else 0) + bs_rc M f d (i + 1)
theorem bs_wu_le {k d : Nat} : bs_wu k d ≤ 2 := by
  unfold bs_wu
  split
  · omega
  · split <;> omega
theorem bs_ff_A {M M2 : MS} (e : nA M2 = nA M) {f : Nat} : ∀ d i, bs_ff M2 f d i = bs_ff M f d i := by
  intro d
  induction d with
  | zero => intro i; rfl
  | succ d ih => intro i; rw [bs_ff, bs_ff, ih]; unfold bs_rf bs_r bs_k; rw [e]
theorem bs_sv_A {M M2 : MS} (e : nA M2 = nA M) {f : Nat} : ∀ d i, bs_sv M2 f d i = bs_sv M f d i := by
  intro d
  induction d with
  | zero => intro i; rfl
  | succ d ih => intro i; rw [bs_sv, bs_sv, ih]; unfold bs_dv bs_l bs_u bs_r bs_b; rw [e]
theorem bs_ap_A {M M2 : MS} (e : nA M2 = nA M) {f : Nat} : ∀ d i, bs_ap M2 f d i = bs_ap M f d i := by
  intro d
  induction d with
  | zero => intro i; rfl
  | succ d ih => intro i; rw [bs_ap, bs_ap, ih]; unfold bs_pr bs_rf bs_dv bs_l bs_u bs_r bs_b bs_k; rw [e]
theorem bs_rc_A {M M2 : MS} (e : nA M2 = nA M) {f : Nat} : ∀ d i, bs_rc M2 f d i = bs_rc M f d i := by
  intro d
  induction d with
  | zero => intro i; rfl
  | succ d ih => intro i; rw [bs_rc, bs_rc, ih]; unfold bs_rf bs_r bs_k; rw [e]
section BsFrames
variable {x0 s0 : Nat} {Y : bs_Ly} {S : Mem} {M : MS}
theorem bs_c_ffL (h : bs_Rel x0 s0 Y S M) {f : Nat} (hf : f < bs_n M) : ∀ d n i, i + d = bs_m M f → d < n → c_X1_firstFault_L2 S n (Y 1 f) (nI i) = some (bs_ff M f d i)
  | d, 0, i, _, hn => absurd hn (Nat.not_lt_zero _)
  | 0, n + 1, i, hi, _ => by
    have h2 := bs_m18 h.1 hf
    rw [c_X1_firstFault_L2, bs_f5 h hf, bs_o11 h hf, bs_bnd, bs_l11 h hf, if_pos (nI_le (by omega) (by omega))]
    rfl
  | d + 1, n + 1, i, hi, hn => by
    have h2 := bs_m18 h.1 hf
    have hl : i < bs_m M f := by omega
    rw [c_X1_firstFault_L2, bs_c_rod h hf hl, bs_c_rf h (bs_rV h.1 hf hl), bs_f5 h hf, bs_o11 h hf, bs_bnd, bs_l11 h hf, if_neg (nI_ge hl (by omega)), bs_bnd, bs_ff]
    split
    · rw [nI_1]
      exact bs_c_ffL h hf d n (i + 1) (by omega) (by omega)
    · rfl
theorem bs_c_ff (h : bs_Rel x0 s0 Y S M) {f : Nat} (hf : f < bs_n M) : c_X1_firstFault S (Y 1 f) = some (bs_ff M f (bs_m M f) 0) := by
  have h2 := bs_m18 h.1 hf
  exact bs_c_ffL h hf (bs_m M f) bigN 0 (by omega) (by unfold bigN; omega)
theorem bs_c_svL (h : bs_Rel x0 s0 Y S M) {f : Nat} (hf : f < bs_n M) : ∀ i n v, i ≤ bs_m M f → i < n → v = bs_sv M f (bs_m M f - i) i → c_X1_sum_L10 S n (Y 1 f) (lN v) (nI i + (-1)) = some (lN (bs_sv M f (bs_m M f) 0))
  | i, 0, v, _, hn, _ => absurd hn (Nat.not_lt_zero _)
  | 0, n + 1, v, hi, _, hv => by
    rw [c_X1_sum_L10, if_pos (by decide), hv]
    rfl
  | i + 1, n + 1, v, hi, hn, hv => by
    have h2 := bs_m18 h.1 hf
    have hl : i < bs_m M f := by omega
    rw [c_X1_sum_L10, pk_m1, if_neg (nI_pos (by omega)), bs_c_rod h hf hl, bs_c_value h (bs_rV h.1 hf hl), bs_bnd, bs_f2 h hf, bs_let]
    have hb := bs_bb h.1 hf
    have hd := bs_dv_le h.1 (bs_r540 h.1 hf hl)
    rw [nI_l (by omega), nI_l (by omega), lN_mul, lN_add]
    refine bs_c_svL h hf i n _ (by omega) (by omega) ?_
    rw [show bs_m M f - i = (bs_m M f - (i + 1)) + 1 by omega, bs_sv, hv, Nat.mul_comm, Nat.add_comm]
theorem bs_c_sum (h : bs_Rel x0 s0 Y S M) {f : Nat} (hf : f < bs_n M) : c_X1_sum S (Y 1 f) = some (lN (bs_sv M f (bs_m M f) 0)) := by
  have h2 := bs_m18 h.1 hf
  unfold c_X1_sum
  rw [bs_f5 h hf, bs_o11 h hf, bs_bnd, bs_l11 h hf, bs_let, Int32.sub_eq_add_neg]
  refine bs_c_svL h hf (bs_m M f) bigN 0 (Nat.le_refl _) (by unfold bigN; omega) ?_
  rw [Nat.sub_self]
  rfl
theorem bs_c_wu (h : bs_Rel x0 s0 Y S M) {r : Nat} (hr : bs_rv M r) {d : Nat} (hd : d < 1000) : c_X4_writtenUpper S (Y 2 r) (nI d) = some (nI (bs_wu (bs_k M (r / 18)) d)) := by
  have e : mI S (Y 2 r) 0 = if bs_k M (r / 18) = 2 then 1 else 0 := bs_i h 2 r 0 hr rfl
  unfold c_X4_writtenUpper bs_wu
  rw [e]
  by_cases c : bs_k M (r / 18) = 2
  · rw [if_pos c, if_pos c, if_neg (by decide)]
    rfl
  · rw [if_neg c, if_neg c, if_pos rfl, bs_lit 10, bs_lit 5, bs_lit 2]
    by_cases c2 : d < 10
    · rw [if_neg (nI_ge c2 (by decide)), if_pos c2, pk_div (by omega) (by decide) (by decide)]
    · rw [if_pos (nI_le (by omega) (by omega)), if_neg c2]
theorem bs_c_pr (h : bs_Rel x0 s0 Y S M) {r b : Nat} (hr : bs_rv M r) (hb : b ≤ 1000) : c_X4_isProper S (Y 2 r) (nI b) = some (if bs_pr M b r then 1 else 0) := by
  have h1 := bs_dv_le h.1 (bs_rv540 h.1 hr)
  have h3 := (bs_uN h.1 (bs_rv540 h.1 hr)).2.1
  have h4 := @bs_wu_le (bs_k M (r / 18)) (bs_dv M r)
  unfold c_X4_isProper bs_pr
  rw [bs_c_value h hr, bs_bnd]
  by_cases c : bs_dv M r < b
  · rw [if_neg (nI_ge c (by omega)), bs_c_wu h hr (by omega), bs_bnd, bs_R6 h hr]
    by_cases c2 : bs_u M r = bs_wu (bs_k M (r / 18)) (bs_dv M r)
    · rw [if_pos (by rw [← c2])]
      simp [c, ← c2]
    · rw [if_neg (fun q => c2 ((nI_eq (by omega) (by omega)).mp q))]
      simp [c2]
  · rw [if_pos (nI_le (by omega) (by omega))]
    simp [c]
theorem bs_c_apL (h : bs_Rel x0 s0 Y S M) {f : Nat} (hf : f < bs_n M) : ∀ d n i, i + d = bs_m M f → d < n → c_X1_allProper_L2 S n (Y 1 f) (nI i) = some (if bs_ap M f d i then 1 else 0)
  | d, 0, i, _, hn => absurd hn (Nat.not_lt_zero _)
  | 0, n + 1, i, hi, _ => by
    have h2 := bs_m18 h.1 hf
    rw [c_X1_allProper_L2, bs_f5 h hf, bs_o11 h hf, bs_bnd, bs_l11 h hf, if_pos (nI_le (by omega) (by omega))]
    rfl
  | d + 1, n + 1, i, hi, hn => by
    have h2 := bs_m18 h.1 hf
    have hl : i < bs_m M f := by omega
    have hb := bs_bb h.1 hf
    rw [c_X1_allProper_L2, bs_c_rod h hf hl, bs_c_rod h hf hl, bs_c_rf h (bs_rV h.1 hf hl), bs_f5 h hf, bs_o11 h hf, bs_bnd, bs_l11 h hf, if_neg (nI_ge hl (by omega)), bs_bnd, bs_f2 h hf, bs_c_pr h (bs_rV h.1 hf hl) (by omega), bs_bnd, bs_ap, nI_1]
    have ih := bs_c_apL h hf d n (i + 1) (by omega) (by omega)
    by_cases c : bs_rf M (bs_r M f i) = 0
    · rw [if_pos c]
      cases c2 : bs_pr M (bs_b M f) (bs_r M f i)
      · simp [c]
      · simp [c, ih]
    · rw [if_neg c, ih]
      simp [c]
theorem bs_c_ap (h : bs_Rel x0 s0 Y S M) {f : Nat} (hf : f < bs_n M) : c_X1_allProper S (Y 1 f) = some (if bs_ap M f (bs_m M f) 0 then 1 else 0) := by
  have h2 := bs_m18 h.1 hf
  exact bs_c_apL h hf (bs_m M f) bigN 0 (by omega) (by unfold bigN; omega)
theorem bs_c_rcL (h : bs_Rel x0 s0 Y S M) {f : Nat} (hf : f < bs_n M) : ∀ d n i c, i + d = bs_m M f → d < n → c_X1_readable_L4 S n (Y 1 f) (nI c) (nI i) = some (nI (c + bs_rc M f d i))
  | d, 0, i, c, _, hn => absurd hn (Nat.not_lt_zero _)
  | 0, n + 1, i, c, hi, _ => by
    have h2 := bs_m18 h.1 hf
    rw [c_X1_readable_L4, bs_f5 h hf, bs_o11 h hf, bs_bnd, bs_l11 h hf, if_pos (nI_le (by omega) (by omega))]
    rfl
  | d + 1, n + 1, i, c, hi, hn => by
    have h2 := bs_m18 h.1 hf
    have hl : i < bs_m M f := by omega
    rw [c_X1_readable_L4, bs_c_rod h hf hl, bs_c_rf h (bs_rV h.1 hf hl), bs_f5 h hf, bs_o11 h hf, bs_bnd, bs_l11 h hf, if_neg (nI_ge hl (by omega)), bs_bnd, bs_rc, nI_1, nI_1]
    by_cases c3 : bs_rf M (bs_r M f i) = 0
    · rw [if_pos c3, if_pos c3, bs_c_rcL h hf d n (i + 1) (c + 1) (by omega) (by omega), Nat.add_assoc]
    · rw [if_neg c3, if_neg c3, bs_c_rcL h hf d n (i + 1) c (by omega) (by omega), Nat.zero_add]
theorem bs_c_rc (h : bs_Rel x0 s0 Y S M) {f : Nat} (hf : f < bs_n M) : c_X1_readable S (Y 1 f) = some (nI (bs_rc M f (bs_m M f) 0)) := by
  have h2 := bs_m18 h.1 hf
  have := bs_c_rcL h hf (bs_m M f) bigN 0 0 (by omega) (by unfold bigN; omega)
  rw [Nat.zero_add] at this
  exact this
end BsFrames
