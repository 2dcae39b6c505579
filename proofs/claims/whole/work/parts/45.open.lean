/-! a method is opened, and closed -/
def bs_Yo (Y : bs_Ly) (g : Nat) : bs_Ly := fun t i => if t = 12 then g else Y t i
section BsOpen
variable {x0 s0 : Nat} {Y : bs_Ly} {S : Mem} {M : MS}
theorem bs_open (h : bs_Rel x0 s0 Y S M) {f g : Nat} (hf : f < bs_n M) (hg : g = 0 ∨ g - 1 < bs_n M) :
    ∃ S' M', c_X3_open S (Y 3 0) (some (Y 1 f)) (if g = 0 then none else some (Y 1 (g - 1))) = some S' ∧ m_X6_start M (nI f) = some M' ∧ bs_W x0 s0 (bs_Yo Y g) S' M' ∧ bs_s M' = 0 ∧ nA M' = nA M ∧ nF M' 18 = 1 ∧ nF M' 19 = nI f ∧ nF M' 0 = nF M 0 := by
  have hn30 := bs_n30 h.1
  obtain ⟨i1, i2, i3, i4, i5, i6, i7, i8, i9⟩ := h.1
  have hYo : ∀ t i, t ≠ 12 → bs_Yo Y g t i = Y t i := fun t i q => if_neg q
  have hvY : ∀ t i, bs_val M t i → bs_Yo Y g t i = Y t i := fun t i q => hYo t i (by rintro rfl; exact q)
  have h0 : bs_Rel x0 s0 (bs_Yo Y g) (mSI (mSI (mSI (mSR (mSR S (Y 3 0) 5 (some (Y 1 f))) (Y 3 0) 6 (if g = 0 then none else some (Y 1 (g - 1)))) (Y 3 0) 2 0) (Y 3 0) 3 0) (Y 3 0) 4 0) (nSF (nSF (nSF (nSF (nSF M 18 1) 19 (nI f)) 20 0) 21 0) 22 0) := by
    obtain ⟨-, ⟨q1, q2, q3, q4, q5, q6, q7, q8, q9, q10, q11, q12, q13⟩, hi, hr, hP, hE, hO, hRm, hH⟩ := id h
    have n43 : Y 4 0 ≠ Y 3 0 := bs_ne h (t := 4) (i := 0) (t2 := 3) (i2 := 0) rfl rfl (Or.inl (by decide))
    refine ⟨⟨i1, i2, i3, ⟨rfl, show (0 : Nat) < 5000 by decide⟩, i5, i6, Or.inr ⟨rfl, f, rfl, hf⟩, Or.inl rfl, 0, rfl, Nat.zero_le _⟩, ⟨?_, ?_, q3, q4, q5, q6, q7, Nat.zero_le _, q9, q10, q11, q12, hg⟩, ?_, ?_, ?_, ?_, ?_, hRm, ?_⟩
    · intro t i hv
      rw [hvY t i hv]
      exact q1 t i hv
    · intro t i t2 i2 hv hv2 e
      rw [hvY t i hv, hvY t2 i2 hv2] at e
      exact q2 t i t2 i2 hv hv2 e
    · intro t i k v hv hw
      have ne : ∀ j, ¬ (t = 3 ∧ k = j) → ¬ (Y t i = Y 3 0 ∧ k = j) := fun j q1 q => q1 ⟨(q2 t i 3 0 hv rfl q.1).1, q.2⟩
      rw [hvY t i hv, bs_mI, bs_mI, bs_mI]
      by_cases k4 : t = 3 ∧ k = 4
      · obtain ⟨rfl, rfl⟩ := k4
        have : i = 0 := hv
        subst this
        rw [if_pos ⟨rfl, rfl⟩]
        exact Option.some.inj hw
      rw [if_neg (ne 4 k4)]
      by_cases k3 : t = 3 ∧ k = 3
      · obtain ⟨rfl, rfl⟩ := k3
        have : i = 0 := hv
        subst this
        rw [if_pos ⟨rfl, rfl⟩]
        exact Option.some.inj hw
      rw [if_neg (ne 3 k3)]
      by_cases k2 : t = 3 ∧ k = 2
      · obtain ⟨rfl, rfl⟩ := k2
        have : i = 0 := hv
        subst this
        rw [if_pos ⟨rfl, rfl⟩]
        exact Option.some.inj hw
      rw [if_neg (ne 2 k2)]
      refine hi t i k v hv ?_
      by_cases c5 : t = 5
      · subst c5
        have : (if k < 7 * 0 then some (nA M 28 k) else none) = some v := hw
        rw [if_neg (by omega)] at this
        cases this
      · rw [← hw]
        unfold bs_w
        split <;> first | rfl | exact absurd ⟨rfl, rfl⟩ k4 | exact absurd ⟨rfl, rfl⟩ k3 | exact absurd ⟨rfl, rfl⟩ k2 | exact absurd rfl c5
    · intro t i k v hv hw
      rw [hvY t i hv]
      show up2 (up2 S.2.2.2.2.1 (Y 3 0) 5 (some (Y 1 f))) (Y 3 0) 6 (if g = 0 then none else some (Y 1 (g - 1))) (Y t i) k = v
      unfold up2
      by_cases c : t = 3
      · subst c
        have : i = 0 := hv
        subst this
        by_cases k6 : k = 6
        · subst k6
          rw [if_pos ⟨rfl, rfl⟩]
          have e : some (if g = 0 then none else some (Y 1 (g - 1))) = some v := hw
          exact Option.some.inj e
        · rw [if_neg (fun q => k6 q.2)]
          by_cases k5 : k = 5
          · subst k5
            rw [if_pos ⟨rfl, rfl⟩]
            have e : some (some (Y 1 (nI f).toNatClampNeg)) = some v := hw
            rw [bs_cl (by omega)] at e
            exact Option.some.inj e
          · rw [if_neg (fun q => k5 q.2)]
            refine hr 3 0 k v rfl ?_
            rw [← hw]
            unfold bs_wr
            split <;> first | rfl | exact absurd rfl k6 | exact absurd rfl k5
      · have ne : Y t i ≠ Y 3 0 := bs_ne h hv (t2 := 3) (i2 := 0) rfl (Or.inl c)
        rw [if_neg (fun q => ne q.1), if_neg (fun q => ne q.1)]
        refine hr t i k v hv ?_
        rw [← hw]
        unfold bs_wr
        split <;> first | rfl | exact absurd rfl c
    · exact bs_Prt_of (Y := Y) hP (by rw [bs_mI_ne n43, bs_mI_ne n43, bs_mI_ne n43]; rfl) rfl rfl rfl rfl rfl rfl
    · intro e he
      rw [hYo 7 e (by decide)]
      have ne : Y 7 e ≠ Y 3 0 := bs_ne h (t := 7) (i := e) he (t2 := 3) (i2 := 0) rfl (Or.inl (by decide))
      rw [bs_mI_ne ne, bs_mI_ne ne, bs_mI_ne ne]
      exact hE e he
    · intro k hk
      exact absurd hk (Nat.not_lt_zero _)
    · intro _ _
      obtain ⟨hl, hu, q⟩ := bs_Hist0 (nSF (nSF (nSF (nSF (nSF M 18 1) 19 (nI f)) 20 0) 21 0) 22 0)
      exact ⟨0, hl, hu, rfl, by decide, q⟩
  have h1 := bs_p23 h0 0
  have h2 := bs_p24 h1 (-5)
  have h3 := bs_p25 h2 (-5)
  refine ⟨_, _, rfl, rfl, ⟨h3, rfl, bs_Hist0 _⟩, rfl, rfl, rfl, rfl, rfl⟩
theorem bs_hist_back {k f i : Nat} {hl hu : Nat → Nat → Int32} (hh : bs_Hist M (k + 1) hl hu) (h : bs_Inv M) (e0 : nA M 28 (7 * k) = nI f) (e1 : nA M 28 (7 * k + 1) = nI i) (hf : f < bs_n M) (hi : i < bs_m M f) :
    bs_rg (bs_k M (bs_r M f i / 18)) (nA M 9 (bs_r M f i)) (nA M 10 (bs_r M f i) - nA M 28 (7 * k + 3)) (nA M 11 (bs_r M f i) - nA M 28 (7 * k + 2)) ∧
    bs_Hist (nSA (nSA M 11 (bs_r M f i) (nA M 11 (bs_r M f i) - nA M 28 (7 * k + 2))) 10 (bs_r M f i) (nA M 10 (bs_r M f i) - nA M 28 (7 * k + 3))) k hl hu := by
  obtain ⟨r3, r4⟩ := hh
  obtain ⟨⟨f', i', b1, b2, b3, b4, b5⟩, b6⟩ := r4 k (by omega)
  have m30 := bs_n30 h
  have hff : f' = f := (nI_eq (by omega) (by omega)).mp (b1.symm.trans e0)
  subst hff
  have m18 := bs_m18 h hf
  have hii : i' = i := (nI_eq (by omega) (by omega)).mp (b2.symm.trans e1)
  subst hii
  have hr5 := bs_r540 h b3 b4
  have g0 := b6 (bs_r M f' i') hr5
  rw [(b5 _).1, (b5 _).2, if_pos rfl, if_pos rfl, (r3 _).1, (r3 _).2] at g0
  refine ⟨g0, ?_, ?_⟩
  · intro r
    constructor
    · rw [(b5 r).1, (r3 r).1]
      by_cases cr : r = bs_r M f' i'
      · rw [if_pos cr, bs_t10, cr]
        exact (if_pos rfl).symm
      · rw [if_neg cr, bs_t10]
        exact (if_neg cr).symm
    · rw [(b5 r).2, (r3 r).2]
      by_cases cr : r = bs_r M f' i'
      · rw [if_pos cr, bs_t11, cr]
        exact (if_pos rfl).symm
      · rw [if_neg cr, bs_t11]
        exact (if_neg cr).symm
  · intro j hj
    exact r4 j (by omega)
theorem bs_closeL : ∀ k n n2 (S : Mem) (M : MS), bs_Rel x0 s0 Y S M → nF M 22 = 0 → k ≤ bs_s M → (∃ hl hu, bs_Hist M k hl hu) → k < n → k < n2 →
    ∃ r S' M', c_X3_close_L34 n S (Y 3 0) (nI k + (-1)) = some (r, S') ∧ m_X6_ended_L34 n2 M (nI k + (-1)) = some (r, M') ∧ bs_Rel x0 s0 Y S' M'
  | k, 0, _, _, _, _, _, _, _, hn, _ => absurd hn (Nat.not_lt_zero _)
  | k, _ + 1, 0, _, _, _, _, _, _, _, hn => absurd hn (Nat.not_lt_zero _)
  | 0, n + 1, n2 + 1, S, M, h, _, _, _, _, _ => by
    have h1 := bs_p27 h (nF M 27 + 1)
    have e2 : mI (mSI S (Y 3 0) 11 (nF M 27 + 1)) (Y 3 0) 2 = nF M 21 := bs_i h1 3 0 2 rfl rfl
    rw [c_X3_close_L34, m_X6_ended_L34, if_pos bs_m11, if_pos bs_m11, bs_let, bs_let, bs_let, bs_let, bs_i h 3 0 11 rfl rfl, e2]
    exact ⟨_, _, _, rfl, rfl, h1⟩
  | k + 1, n + 1, n2 + 1, S, M, h, h22, hk, ⟨hl, hu, hh⟩, hn, hn2 => by
    have hs := bs_s5 h.1
    obtain ⟨f, i, a1, a2, a3, a4, a5, a6⟩ := h.2.2.2.2.2.2.1 k (by omega)
    obtain ⟨g0, g1⟩ := bs_hist_back hh h.1 a1 a2 a3 a4
    obtain ⟨S', q1, q2, q3⟩ := bs_back h (show k < bs_s M by omega) a1 a2 a3 a4 a5 a6 (Or.inr (Or.inl h22)) g0
    rw [c_X3_close_L34, m_X6_ended_L34, pk_m1, if_neg (nI_pos (by omega)), if_neg (nI_pos (by omega)), q1, q2, bs_bnd, bs_bnd]
    exact bs_closeL k n n2 S' _ q3 h22 (show k ≤ bs_s M by omega) ⟨hl, hu, g1⟩ (by omega) (by omega)
theorem bs_close (hW : bs_W x0 s0 Y S M) {z : Int32} (hz : z = 0 ∨ z = 1) : ∃ r S' M', c_X3_close S (Y 3 0) z = some (r, S') ∧ m_X6_ended M z = some (r, M') ∧ bs_Rel x0 s0 Y S' M' := by
  obtain ⟨h, h22, hl, hu, hh⟩ := hW
  have hs := bs_s5 h.1
  unfold c_X3_close m_X6_ended
  rw [bs_i h 3 0 2 rfl rfl, bs_sN h.1]
  rcases hz with rfl | rfl
  · rw [if_pos rfl, if_pos rfl, bs_let, bs_let, Int32.sub_eq_add_neg]
    exact bs_closeL (bs_s M) bigN bigN S M h h22 (Nat.le_refl _) ⟨hl, hu, hh⟩ (by unfold bigN; omega) (by unfold bigN; omega)
  · have h1 := bs_p22 h (s := bs_s M) (Nat.le_refl _) (fun _ _ => ⟨bs_s M, hl, hu, rfl, hs, hh⟩)
    have e10 : mI (mSI S (Y 3 0) 3 (nI (bs_s M))) (Y 3 0) 10 = nF M 26 := bs_i h1 3 0 10 rfl rfl
    have h2 := bs_p26 h1 (nF M 26 + 1)
    have e2 : mI (mSI (mSI S (Y 3 0) 3 (nI (bs_s M))) (Y 3 0) 10 (nF M 26 + 1)) (Y 3 0) 2 = nF M 21 := bs_i h2 3 0 2 rfl rfl
    rw [if_neg bs_10, if_neg bs_10, bs_let, bs_let, bs_let, bs_let, bs_let, bs_let, bs_let, bs_let, e10, e2]
    exact ⟨_, _, _, rfl, rfl, h2⟩
/-- a proper frame's digits are below its base -/
theorem bs_ap_LT (h : bs_Inv M) {f : Nat} : ∀ d i, bs_ap M f d i = true → ∀ k, i ≤ k → k < i + d → bs_rf M (bs_r M f k) = 0 → bs_dv M (bs_r M f k) < bs_b M f := by
  intro d
  induction d with
  | zero => intro i _ k h1 h2; omega
  | succ d ih =>
    intro i hap k h1 h2 h3
    rw [bs_ap, Bool.and_eq_true, Bool.or_eq_true] at hap
    by_cases c : k = i
    · subst c
      rcases hap.1 with q | q
      · exact absurd h3 (of_decide_eq_true q)
      · unfold bs_pr at q
        rw [Bool.and_eq_true] at q
        exact of_decide_eq_true q.1
    · exact ih (i + 1) hap.2 k (by omega) (by omega) h3
theorem bs_LTap (h : bs_Inv M) {f : Nat} (hap : bs_ap M f (bs_m M f) 0 = true) : bs_LT M f := fun i hi hr => bs_ap_LT h _ _ hap i (Nat.zero_le _) (by omega) hr
theorem bs_LT_A {M2 : MS} (e : nA M2 = nA M) {f : Nat} (h : bs_LT M f) : bs_LT M2 f := by
  intro i hi hr
  have e1 : bs_m M2 = bs_m M := by funext f; unfold bs_m; rw [e]
  have e2 : bs_r M2 = bs_r M := by funext f i; unfold bs_r; rw [e]
  have e3 : bs_rf M2 = bs_rf M := by funext r; unfold bs_rf bs_k; rw [e]
  have e4 : bs_dv M2 = bs_dv M := by funext r; unfold bs_dv bs_l bs_u; rw [e]
  have e5 : bs_b M2 = bs_b M := by funext r; unfold bs_b; rw [e]
  rw [e1] at hi
  rw [e2, e3] at hr
  rw [e2, e4, e5]
  exact h i hi hr
theorem bs_sumUp (h : bs_Rel x0 s0 Y S M) (x : Int32) (v : Int64) (sgn : Nat) (sg : Int32) (hsg : (sgn = 1 ∧ sg = 1) ∨ (sgn = 0 ∧ sg = -1)) : bs_OK x0 s0 Y (bnd (c_X5_known S (Y 0 0) x) fun r1_ => bnd2 (c_X5_sumUp S (Y 0 0) r1_ v sg) fun i3_ S4 => some (i3_, S4)) (bnd2 (m_X6_sum M x v sg) fun a b => some (a, b)) := by
  unfold c_X5_sumUp m_X6_sum
  rcases bs_which h.1 x with hx | ⟨f, hf, rfl⟩
  · rw [bs_c_unknown h hx, bs_m_noF h.1 hx]
    exact bs_same h _
  · rw [bs_c_known h hf, bs_m_isF h.1 hf, bs_bnd, bs_bnd, bs_ocS, if_neg bs_10]
    unfold c_X5_refusalOf
    by_cases c : (0 : Int64) ≤ v
    · rw [if_pos c, if_pos c, bs_o1 h hf, bs_bnd, bs_c_ap h hf, bs_bnd, bs_m_ap h.1 hf, bs_bnd]
      cases hap : bs_ap M f (bs_m M f) 0
      · rw [if_neg Bool.false_ne_true, if_pos rfl, if_pos rfl, bs_bnd, if_neg (by decide)]
        exact bs_same h _
      · rw [if_pos rfl, if_neg bs_10, if_neg bs_10, bs_bnd, if_pos rfl, bs_q h 0 0 4 rfl rfl, bs_o3 h, bs_bnd]
        obtain ⟨S1, M1, o1, o2, o3, o4, o5, o6, o7, o8⟩ := bs_open h hf (g := 0) (Or.inl rfl)
        have o1' : c_X3_open S (Y 3 0) (some (Y 1 f)) none = some S1 := o1
        have q5 : mR S1 (Y 0 0) 4 = some (Y 3 0) := bs_q o3.1 0 0 4 rfl rfl
        have q6 : mKd S1 (Y 3 0) = 4 := bs_kk o3.1 3 0 rfl
        have c2 : ¬ v < 0 := by
          rw [Int64.le_iff_toInt_le] at c
          rw [Int64.lt_iff_toInt_lt]
          omega
        obtain ⟨u, hu, rfl⟩ := pk_lOf c2
        have hn1 : bs_n M1 = bs_n M := by unfold bs_n; rw [o8]
        have hown : bs_own (bs_Yo Y 0) M1 f := ⟨by rw [hn1]; exact hf, o6, Or.inl o7⟩
        obtain ⟨z, Y2, S2, M2, k1, k2, k3, k4, k5, k6, -⟩ := bs_pd o3 hown (bs_LT_A o5 (bs_LTap h.1 hap)) hu (i0 := 0) (by decide) sgn sg hsg (by rw [o4]; decide)
        obtain ⟨r, S3, M3, l1, l2, l3⟩ := bs_close k4 k3
        rw [k5.1 3 0 (by decide)] at l1
        have k1' : c_X3_putDigits S1 (Y 3 0) (some (Y 1 f)) (lN u) 0 sg = some (z, S2) := k1
        have k2' : m_X6_changeAll M1 (nI f) 0 (lN u) sg = some (z, M2) := k2
        have l1' : c_X3_close S2 (Y 3 0) z = some (r, S3) := l1
        rw [o1', o2, bs_bnd, bs_bnd, q5, bs_ob q6, bs_bnd, k1', k2', bs_bnd2, bs_bnd2, l1', l2, bs_bnd2, bs_bnd2]
        exact ⟨r, S3, M3, Y2, rfl, rfl, l3, by rw [k5.1 0 0 (by decide), k5.1 14 0 (by decide)]; rfl⟩
    · rw [if_neg c, if_neg c, bs_bnd, if_neg (by decide)]
      exact bs_same h _
theorem bs_op_add (h : bs_Rel x0 s0 Y S M) (x : Int32) (v : Int64) : bs_OK x0 s0 Y (c_X5_add S (Y 0 0) x v) (m_X6_add M x v) := bs_sumUp h x v 1 1 (Or.inl ⟨rfl, rfl⟩)
theorem bs_op_less (h : bs_Rel x0 s0 Y S M) (x : Int32) (v : Int64) : bs_OK x0 s0 Y (c_X5_less S (Y 0 0) x v) (m_X6_less M x v) := bs_sumUp h x v 0 (-1) (Or.inr ⟨rfl, rfl⟩)
end BsOpen
