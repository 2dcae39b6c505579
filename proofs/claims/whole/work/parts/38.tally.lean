/-! tally -/
theorem bs_a0 (k : Nat) : nI k + 0 = nI (k + 0) := nI_add k 0
theorem bs_a1 (k : Nat) : nI k + 1 = nI (k + 1) := nI_add k 1
theorem bs_a2 (k : Nat) : nI k + 2 = nI (k + 2) := nI_add k 2
theorem bs_a3 (k : Nat) : nI k + 3 = nI (k + 3) := nI_add k 3
theorem bs_a4 (k : Nat) : nI k + 4 = nI (k + 4) := nI_add k 4
theorem bs_a5 (k : Nat) : nI k + 5 = nI (k + 5) := nI_add k 5
theorem bs_a6 (k : Nat) : nI k + 6 = nI (k + 6) := nI_add k 6
theorem bs_m2 (k : Nat) : (2 : Int32) * nI k = nI (2 * k) := pk_mul 2 k
theorem bs_m4 (k : Nat) : (4 : Int32) * nI k = nI (4 * k) := pk_mul 4 k
theorem bs_m7 (k : Nat) : (7 : Int32) * nI k = nI (7 * k) := pk_mul 7 k
theorem bs_m20 (k : Nat) : (20 : Int32) * nI k = nI (20 * k) := pk_mul 20 k
/-- how many steps from one on are of a frame, a rod, and of a reason as asked -/
def bs_ct (M : MS) (f x : Int32) (P : Int32 → Bool) : Nat → Nat → Nat
  | 0, _ => 0
  | d + 1, i => (if nA M 28 (7 * i) = f ∧ nA M 28 (7 * i + 1) = x ∧ P (nA M 28 (7 * i + 4)) = true then 1 else 0) + bs_ct M f x P d (i + 1)
theorem bs_ct_le (M : MS) (f x : Int32) (P : Int32 → Bool) : ∀ d i, bs_ct M f x P d i ≤ d := by
  intro d
  induction d with
  | zero => intro i; exact Nat.le_refl _
  | succ d ih =>
    intro i
    have := ih (i + 1)
    rw [bs_ct]
    split <;> omega
section BsTally
variable {x0 s0 : Nat} {Y : bs_Ly} {S : Mem} {M : MS}
theorem bs_sN (h : bs_Inv M) : nF M 21 = nI (bs_s M) := h.2.2.2.1.1
theorem bs_s5 (h : bs_Inv M) : bs_s M < 5000 := h.2.2.2.1.2
theorem bs_c_tell (h : bs_Rel x0 s0 Y S M) {k j : Nat} (hk : k < bs_s M) (hj : j < 7) : c_X3_tell S (Y 3 0) (nI k) (nI j) = some (nA M 28 (7 * k + j)) := by
  have h1 := bs_s5 h.1
  have hlen := h.2.1.2.2.2.2.2.2.2.1
  obtain ⟨c9, c91, -, c92⟩ := h.2.1.2.2.2.2.2.2.1
  unfold c_X3_tell
  rw [bs_q h 3 0 1 rfl rfl, bs_o5 h, bs_bnd, bs_lit 7, pk_mul, nI_add, bs_gd (bs_inB (by omega) (by omega)), bs_cl (by omega), bs_i h 5 0 (7 * k + j) rfl (if_pos (by omega))]
theorem bs_c_ctL (h : bs_Rel x0 s0 Y S M) (f x w : Int32) : ∀ d n i c, i + d = bs_s M → d < n → c_X3_countOn_L6 S n (Y 3 0) f x w (nI c) (nI i) = some (nI (c + bs_ct M f x (fun e => decide (w = 0) || decide (e = w)) d i))
  | d, 0, i, c, _, hn => absurd hn (Nat.not_lt_zero _)
  | 0, n + 1, i, c, hi, _ => by
    have h1 := bs_s5 h.1
    rw [c_X3_countOn_L6, bs_i h 3 0 2 rfl rfl, bs_sN h.1, if_pos (nI_le (by omega) (by omega))]
    rfl
  | d + 1, n + 1, i, c, hi, hn => by
    have h1 := bs_s5 h.1
    have hl : i < bs_s M := by omega
    have ih := fun c => bs_c_ctL h f x w d n (i + 1) c (by omega) (by omega)
    have t0 : c_X3_tell S (Y 3 0) (nI i) 0 = some (nA M 28 (7 * i)) := bs_c_tell h hl (j := 0) (by decide)
    have t1 : c_X3_tell S (Y 3 0) (nI i) 1 = some (nA M 28 (7 * i + 1)) := bs_c_tell h hl (j := 1) (by decide)
    have t4 : c_X3_tell S (Y 3 0) (nI i) 4 = some (nA M 28 (7 * i + 4)) := bs_c_tell h hl (j := 4) (by decide)
    rw [c_X3_countOn_L6, bs_i h 3 0 2 rfl rfl, bs_sN h.1, if_neg (nI_ge hl (by omega)), t0, t1, t4, bs_bnd, bs_bnd, bs_bnd, bs_a1, bs_a1, ih, ih, bs_ct]
    by_cases c1 : nA M 28 (7 * i) = f
    · rw [if_pos c1]
      by_cases c2 : nA M 28 (7 * i + 1) = x
      · rw [if_pos c2]
        by_cases c3 : w = 0
        · rw [if_pos c3, if_pos (⟨c1, c2, by simp [c3]⟩ : nA M 28 (7 * i) = f ∧ _ ∧ _), Nat.add_assoc]
        · rw [if_neg c3]
          by_cases c4 : nA M 28 (7 * i + 4) = w
          · rw [if_pos c4, if_pos (⟨c1, c2, by simp [c4]⟩ : nA M 28 (7 * i) = f ∧ _ ∧ _), Nat.add_assoc]
          · rw [if_neg c4, if_neg, Nat.zero_add]
            rintro ⟨-, -, q⟩
            rw [Bool.or_eq_true, decide_eq_true_iff, decide_eq_true_iff] at q
            rcases q with q | q
            · exact c3 q
            · exact c4 q
      · rw [if_neg c2, if_neg (fun q => c2 q.2.1), Nat.zero_add]
    · rw [if_neg c1, if_neg (fun q => c1 q.1), Nat.zero_add]
theorem bs_c_ct (h : bs_Rel x0 s0 Y S M) (f x w : Int32) : c_X3_countOn S (Y 3 0) f x w = some (nI (bs_ct M f x (fun e => decide (w = 0) || decide (e = w)) (bs_s M) 0)) := by
  have h1 := bs_s5 h.1
  have := bs_c_ctL h f x w (bs_s M) bigN 0 0 (by omega) (by unfold bigN; omega)
  rw [Nat.zero_add] at this
  exact this
theorem bs_m_ctL (h : bs_Inv M) (x w : Int32) : ∀ d n i a l, i + d = bs_s M → d < n → m_X6_tally_L48 n M x w (nI a) (nI l) (nI i) =
    (if nI (a + bs_ct M (nF M 19) x (fun _ => true) d i) = 0 then (bnd2 (m_X6_meets M 1) fun a b => some (a, b)) else bnd (m_X6_in w.toInt64 1 4) fun q => if q = 0 then (bnd2 (m_X6_meets M 2) fun a b => some (a, b)) else some (nI (l + bs_ct M (nF M 19) x (fun e => decide (e = w)) d i), M))
  | d, 0, i, a, l, _, hn => absurd hn (Nat.not_lt_zero _)
  | 0, n + 1, i, a, l, hi, _ => by
    have h1 := bs_s5 h
    rw [m_X6_tally_L48, bs_sN h, if_pos (nI_le (by omega) (by omega))]
    rfl
  | d + 1, n + 1, i, a, l, hi, hn => by
    have h1 := bs_s5 h
    have hl : i < bs_s M := by omega
    have ih := fun a l => bs_m_ctL h x w d n (i + 1) a l (by omega) (by omega)
    rw [m_X6_tally_L48, bs_sN h, if_neg (nI_ge hl (by omega)), bs_m7, bs_a1, bs_gd (bs_inB (by omega) (by decide)), bs_gd (bs_inB (by omega) (by decide)), bs_cl (by omega), bs_cl (by omega)]
    unfold m_X6_tally_J95 m_X6_tally_J108
    simp only [bs_let, bs_m7, bs_a0, bs_a1, bs_a4, if_neg bs_10, if_pos (show (0 : Int32) = 0 from rfl), eq_self_iff_true, ite_true]
    rw [bs_gd (bs_inB (by omega) (by decide)), bs_cl (by omega), ih, ih, ih, bs_ct, bs_ct, Nat.add_zero, Nat.add_zero]
    by_cases c1 : nA M 28 (7 * i) = nF M 19
    · rw [if_pos c1]
      by_cases c2 : nA M 28 (7 * i + 1) = x
      · rw [if_pos c2, if_pos (⟨c1, c2, rfl⟩ : nA M 28 (7 * i) = nF M 19 ∧ nA M 28 (7 * i + 1) = x ∧ true = true)]
        by_cases c4 : nA M 28 (7 * i + 4) = w
        · rw [if_pos c4, if_pos (⟨c1, c2, by simp [c4]⟩ : nA M 28 (7 * i) = nF M 19 ∧ nA M 28 (7 * i + 1) = x ∧ _), Nat.add_assoc, Nat.add_assoc]
        · simp [c1, c2, c4, Nat.add_assoc]
      · simp [c2]
    · simp [c1]
theorem bs_op_tally (h : bs_Rel x0 s0 Y S M) (x w : Int32) : bs_OK x0 s0 Y (c_X5_tally S (Y 0 0) x w) (m_X6_tally M x w) := by
  have h1 := bs_s5 h.1
  have hn := bs_n30 h.1
  unfold c_X5_tally m_X6_tally
  rw [bs_q h 0 0 4 rfl rfl, bs_o3 h, bs_bnd]
  simp only [bs_bnd (Y 3 0)]
  rcases h.1.2.2.2.2.2.2.1 with q | ⟨q, f, q2, hf⟩
  · rw [bs_q h 3 0 5 rfl rfl, if_pos q, bs_ocN, if_pos q]
    exact bs_flt h 1
  · have hm := bs_m18 h.1 hf
    have q3 : ¬ nF M 18 = 0 := by rw [q]; decide
    have q4 : mR S (Y 3 0) 5 = some (Y 1 f) := by rw [bs_q h 3 0 5 rfl rfl, if_neg q3, q2, bs_cl (by omega)]
    have hm2 := bs_m_ctL h.1 x w (bs_s M) bigN 0 0 0 (by omega) (by unfold bigN; omega)
    rw [q2, Nat.zero_add, Nat.zero_add] at hm2
    rw [q4, bs_ocS, if_neg q3, bs_gd (bs_k1 h hf), q2, bs_gd (bs_inB (by omega) (by decide)), bs_cl (by omega), bs_mN h.1 hf, show m_X6_tally_L48 bigN M x w 0 0 0 = _ from hm2]
    rcases bs_place h.1 hf x with hx | ⟨i, hi, rfl⟩
    · rw [bs_c_holdsN h hf hx, bs_in_no (by omega) hx, bs_bnd, bs_bnd, if_pos rfl, if_pos rfl]
      exact bs_flt h 2
    · rw [bs_c_holds h hf hi, bs_in_yes hi (by omega), bs_bnd, bs_bnd, if_neg bs_10, if_neg bs_10, bs_f0 h hf, bs_c_ct h, bs_bnd, bs_c_ct h, bs_bnd]
      have e0 : (fun e : Int32 => decide ((0 : Int32) = 0) || decide (e = 0)) = fun _ => true := by funext e; simp
      rw [e0]
      by_cases c : nI (bs_ct M (nI f) (nI i) (fun _ => true) (bs_s M) 0) = 0
      · rw [if_pos c, if_pos c]
        exact bs_flt h 1
      · rw [if_neg c, if_neg c, bs_inS w 1 4 1 4 rfl rfl, bs_bnd]
        by_cases c2 : 1 ≤ w.toInt ∧ w.toInt ≤ 4
        · rw [if_pos c2, if_neg bs_10, if_neg (by rw [Int32.lt_iff_toInt_lt]; show ¬ w.toInt < 1; omega), if_pos (by rw [Int32.le_iff_toInt_le]; show w.toInt ≤ 4; omega)]
          have e1 : (fun e : Int32 => decide (w = 0) || decide (e = w)) = fun e => decide (e = w) := by
            funext e
            have : ¬ w = 0 := by
              intro q
              rw [q] at c2
              have : (0 : Int32).toInt = 0 := rfl
              omega
            simp [this]
          rw [e1]
          exact bs_same h _
        · rw [if_neg c2, if_pos rfl]
          by_cases c3 : w < 1
          · rw [if_pos c3]
            exact bs_flt h 2
          · rw [if_neg c3, if_neg]
            · exact bs_flt h 2
            · rw [Int32.lt_iff_toInt_lt] at c3
              rw [Int32.le_iff_toInt_le]
              have e0 : (1 : Int32).toInt = 1 := rfl
              have e4 : (4 : Int32).toInt = 4 := rfl
              omega
end BsTally
