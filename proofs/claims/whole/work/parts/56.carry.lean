/-! CARRY; asks -/
/-- the trace and the waiting row apart, from a place on -/
def bs_Z (M M2 : MS) (p : Nat) : Prop := (∀ k, k ≠ 12 → nF M2 k = nF M k) ∧ (∀ k, k ≠ 17 → nA M2 k = nA M k) ∧ ∀ q, q < p → nA M2 17 q = nA M 17 q
theorem bs_Z_refl (M : MS) (p : Nat) : bs_Z M M p := ⟨fun _ _ => rfl, fun _ _ => rfl, fun _ _ => rfl⟩
theorem bs_Z_tr {M M2 M3 : MS} {p q : Nat} (a : bs_Z M M2 p) (b : bs_Z M2 M3 q) (h : p ≤ q) : bs_Z M M3 p := ⟨fun k c => (b.1 k c).trans (a.1 k c), fun k c => (b.2.1 k c).trans (a.2.1 k c), fun k c => (b.2.2 k (by omega)).trans (a.2.2 k c)⟩
theorem bs_Z12 (M : MS) (v : Int32) (p : Nat) : bs_Z M (nSF M 12 v) p := ⟨fun k c => by show up1 M.2.1 12 v k = _; unfold up1; rw [if_neg c]; rfl, fun _ _ => rfl, fun _ _ => rfl⟩
theorem bs_Z17 (M : MS) (v : Int32) {p j : Nat} (h : p ≤ j) : bs_Z M (nSA M 17 j v) p := ⟨fun _ _ => rfl, fun k c => by funext q; rw [bs_nA, if_neg (fun z => c z.1)], fun q c => by rw [bs_nA, if_neg (fun z => by omega)]⟩
section BsCarry
variable {x0 s0 : Nat} {Y : bs_Ly}
theorem bs_carry : ∀ dd n (S : Mem) (M : MS) (f t p : Nat), bs_Rel x0 s0 Y S M → f < bs_n M → bs_d M f ≤ dd → dd < n → t + dd ≤ 5 → p + dd < 58 → nA M 17 p = nI f →
    ∃ (z : Int32) (S' : Mem) (M' : MS) (K : Nat), c_X5_askCarry n S (Y 0 0) (some (Y 1 f)) (nI t) = some (z, S') ∧ bs_Rel x0 s0 Y S' M' ∧ bs_Z M M' p ∧ 1 ≤ K ∧ K ≤ 4 ^ (dd + 1) ∧
      ((∃ zz : Nat, z = nI zz ∧ zz ≤ 20 * 2 ^ dd ∧ ∀ fu sum, m_X6_askedCarry_L11 (fu + K) M (nI (p + 1)) sum = m_X6_askedCarry_L11 fu M' (nI p) (sum + z)) ∨ (z = -1 ∧ ∀ fu sum, m_X6_askedCarry_L11 (fu + K) M (nI (p + 1)) sum = (bnd2 (m_X6_meets M' 3) fun a b => some (a, b))))
  | dd, 0, _, _, _, _, _, _, _, _, hn, _, _, _ => absurd hn (Nat.not_lt_zero _)
  | dd, n + 1, S, M, f, t, p, h, hf, hd, hn, ht, hp, hw => by
    have h3 := bs_n30 h.1
    have hk := bs_k4 h.1 hf
    have h4 : 1 ≤ 4 ^ (dd + 1) := Nat.pow_pos (by decide)
    have h2 : 1 ≤ 2 ^ dd := Nat.pow_pos (by decide)
    have head : ∀ fu sum, m_X6_askedCarry_L11 (fu + 1) M (nI (p + 1)) sum = if nI (bs_k M f) = 2 then (bnd2 (m_X6_meets M 3) fun a b => some (a, b)) else if nI (bs_k M f) = 4 then (bnd (m_X6_body M 9) fun S18 => jLet (nA S18 6 f) fun i22_ => jLet (nSA S18 17 p i22_) fun S26 => jLet (nA S26 5 f) fun i30_ => jLet (nSA S26 17 (p + 1) i30_) fun S34 => m_X6_askedCarry_L11 fu S34 (nI (p + 2)) sum) else if nI (bs_k M f) = 0 then (bnd (m_X6_body M 7) fun S40 => bnd2 (m_X6_askedBase S40 (nI f)) fun i42_ S43 => jLet (sum + (i42_ - 1)) fun i45_ => m_X6_askedCarry_L11 fu S43 (nI p) i45_) else (bnd (m_X6_body M 8) fun S47 => bnd2 (m_X6_askedBeads S47 (nI f)) fun i49_ S50 => jLet (sum + (5 + i49_)) fun i52_ => m_X6_askedCarry_L11 fu S50 (nI p) i52_) := by
      intro fu sum
      have i60 : ∀ {β : Type} (k : Option β), gd (inB (nI p) 60) k = k := fun k => bs_gd (bs_inB (by omega) (by decide))
      have i61 : ∀ {β : Type} (k : Option β), gd (inB (nI (p + 1)) 60) k = k := fun k => bs_gd (bs_inB (by omega) (by decide))
      have i30 : ∀ {β : Type} (k : Option β), gd (inB (nI f) 30) k = k := fun k => bs_gd (bs_inB (by omega) (by decide))
      rw [m_X6_askedCarry_L11, if_neg (nI_nle (by omega) (by omega)), pk_m1, i60, bs_let, bs_cl (n := p) (by omega), hw, i30, bs_cl (n := f) (by omega), bs_kN h.1 hf]
      simp only [i60, i30, bs_a1, bs_a2, i61, bs_cl (show p + 1 < 2 ^ 31 by omega)]
    have ob1 := bs_o1 h hf
    by_cases k2 : bs_k M f = 2
    · refine ⟨-1, S, M, 1, ?_, h, bs_Z_refl _ _, Nat.le_refl _, h4, Or.inr ⟨rfl, ?_⟩⟩
      · rw [c_X5_askCarry, ob1, bs_bnd, bs_f1 h hf, if_pos ((bs_kis2 h.1 hf).mpr k2)]
      · intro fu sum
        rw [head, if_pos ((bs_kis2 h.1 hf).mpr k2)]
    · have k2' : ¬ nI (bs_k M f) = 2 := fun q => k2 ((bs_kis2 h.1 hf).mp q)
      by_cases k4 : bs_k M f = 4
      · have k4' := (bs_kis4 h.1 hf).mpr k4
        have k0' : ¬ nI (bs_k M f) = 0 := fun q => absurd ((bs_kis0 h.1 hf).mp q) (by omega)
        obtain ⟨⟨a1, a2, a3⟩, b1, b2, b3⟩ := (bs_fr h.1 hf).2.2.2.2.2.1 k4
        cases dd with
        | zero => omega
        | succ dd =>
          obtain ⟨v, e1, e2, hb⟩ := bs_begun h 9
          -- the two parts wait
          have hM2 : bs_Rel x0 s0 Y (mSI S (Y 0 0) 7 v) (nSA (nSA (nSF M 12 v) 17 p (nI (bs_2 M f))) 17 (p + 1) (nI (bs_1 M f))) := hb
          have Z2 : bs_Z M (nSA (nSA (nSF M 12 v) 17 p (nI (bs_2 M f))) 17 (p + 1) (nI (bs_1 M f))) p := bs_Z_tr (bs_Z_tr (bs_Z12 M v p) (bs_Z17 _ _ (Nat.le_refl _)) (Nat.le_refl _)) (bs_Z17 _ _ (by omega)) (Nat.le_refl p)
          have w1 : nA (nSA (nSA (nSF M 12 v) 17 p (nI (bs_2 M f))) 17 (p + 1) (nI (bs_1 M f))) 17 (p + 1) = nI (bs_1 M f) := by rw [bs_nA, if_pos ⟨rfl, rfl⟩]
          have w0 : nA (nSA (nSA (nSF M 12 v) 17 p (nI (bs_2 M f))) 17 (p + 1) (nI (bs_1 M f))) 17 p = nI (bs_2 M f) := by rw [bs_nA, if_neg (fun q => by omega), bs_nA, if_pos ⟨rfl, rfl⟩]
          have mstep : ∀ fu sum, m_X6_askedCarry_L11 (fu + 1) M (nI (p + 1)) sum = m_X6_askedCarry_L11 fu (nSA (nSA (nSF M 12 v) 17 p (nI (bs_2 M f))) 17 (p + 1) (nI (bs_1 M f))) (nI (p + 2)) sum := by
            intro fu sum
            rw [head, if_neg k2', if_pos k4', e2, bs_bnd, bs_let, bs_let, bs_let, bs_let, show nA (nSF M 12 v) 6 f = nI (bs_2 M f) from b1]
            rw [show nA (nSA (nSF M 12 v) 17 p (nI (bs_2 M f))) 5 f = nI (bs_1 M f) from a1]
          generalize hM2' : nSA (nSA (nSF M 12 v) 17 p (nI (bs_2 M f))) 17 (p + 1) (nI (bs_1 M f)) = M2 at *
          have n2 : bs_n M2 = bs_n M := by unfold bs_n; rw [Z2.1 0 (by decide)]
          have d2 : bs_d M2 = bs_d M := by funext q; unfold bs_d; rw [Z2.2.1 4 (by decide)]
          obtain ⟨z1, S1, M1, K1, c1, c2, c3, c4, c5, c6⟩ := bs_carry dd n (mSI S (Y 0 0) 7 v) M2 (bs_1 M f) (t + 1) (p + 1) hM2 (by rw [n2]; omega) (by rw [d2]; omega) (by omega) (by omega) (by omega) w1
          have r6 : mR (mSI S (Y 0 0) 7 v) (Y 1 f) 6 = some (Y 1 (bs_1 M f)) := (bs_q h 1 f 6 hf rfl).trans (if_pos k4)
          have r7 : mR (mSI S (Y 0 0) 7 v) (Y 1 f) 7 = some (Y 1 (bs_2 M f)) := (bs_q h 1 f 7 hf rfl).trans (if_pos k4)
          have cstep : c_X5_askCarry (n + 1) S (Y 0 0) (some (Y 1 f)) (nI t) = (if 0 ≤ z1 then (bnd2 (c_X5_askCarry n S1 (Y 0 0) (some (Y 1 (bs_2 M f))) (nI (t + 1))) fun i27_ S28 => if 0 ≤ i27_ then some (z1 + i27_, S28) else some (i27_, S28)) else some (z1, S1)) := by
            rw [c_X5_askCarry, ob1, bs_bnd, bs_f1 h hf, if_neg k2', if_neg k0', if_pos k4', e1, bs_bnd, r6, bs_ocS, r7, bs_ocS, if_pos (show nI t ≤ 5 from nI_le (b := 5) (by omega) (by decide)), bs_a1, c1, bs_bnd2]
          have p4 : 4 ^ (dd + 1 + 1) = 4 * 4 ^ (dd + 1) := by rw [Nat.pow_succ 4 (dd + 1), Nat.mul_comm]
          have p2 : 2 ^ (dd + 1) = 2 * 2 ^ dd := by rw [Nat.pow_succ, Nat.mul_comm]
          have hd5 : 2 ^ dd ≤ 2 ^ 5 := Nat.pow_le_pow_right (by decide) (by omega)
          rcases c6 with ⟨zz, rfl, zb, c6⟩ | ⟨rfl, c6⟩
          · have Z3 : bs_Z M M1 p := bs_Z_tr Z2 c3 (by omega)
            have n3 : bs_n M1 = bs_n M := by unfold bs_n; rw [Z3.1 0 (by decide)]
            have d3 : bs_d M1 = bs_d M := by funext q; unfold bs_d; rw [Z3.2.1 4 (by decide)]
            obtain ⟨z2, S3, M3, K2, g1, g2, g3, g4, g5, g6⟩ := bs_carry dd n S1 M1 (bs_2 M f) (t + 1) p c2 (by rw [n3]; omega) (by rw [d3]; omega) (by omega) (by omega) (by omega) ((c3.2.2 p (by omega)).trans w0)
            rw [if_pos (nI_pos' (by omega)), g1, bs_bnd2] at cstep
            have Zf : bs_Z M M3 p := bs_Z_tr Z3 g3 (Nat.le_refl _)
            rcases g6 with ⟨z3, rfl, zb3, g6⟩ | ⟨rfl, g6⟩
            · rw [if_pos (nI_pos' (by omega)), nI_add] at cstep
              refine ⟨_, S3, M3, K2 + K1 + 1, cstep, g2, Zf, by omega, by omega, Or.inl ⟨zz + z3, rfl, by omega, ?_⟩⟩
              intro fu sum
              rw [show fu + (K2 + K1 + 1) = fu + K2 + K1 + 1 by omega, mstep, c6, g6, Int32.add_assoc, nI_add]
            · rw [if_neg (by decide)] at cstep
              refine ⟨_, S3, M3, K2 + K1 + 1, cstep, g2, Zf, by omega, by omega, Or.inr ⟨rfl, ?_⟩⟩
              intro fu sum
              rw [show fu + (K2 + K1 + 1) = fu + K2 + K1 + 1 by omega, mstep, c6, g6]
          · rw [if_neg (by decide)] at cstep
            refine ⟨_, S1, M1, K1 + 1, cstep, c2, bs_Z_tr Z2 c3 (by omega), by omega, by omega, Or.inr ⟨rfl, ?_⟩⟩
            intro fu sum
            rw [show fu + (K1 + 1) = fu + K1 + 1 by omega, mstep, c6]
      · have k4' : ¬ nI (bs_k M f) = 4 := fun q => k4 ((bs_kis4 h.1 hf).mp q)
        by_cases k0 : bs_k M f = 0
        · have k0' := (bs_kis0 h.1 hf).mpr k0
          obtain ⟨v, e1, e2, hb⟩ := bs_begun h 7
          obtain ⟨z, S', v2, g1, g2, g3, g4⟩ := bs_askBase dd 10 bigN (mSI S (Y 0 0) 7 v) (nSF M 12 v) f t hb hf hd (by omega) (by unfold bigN; omega) ht
          have g2' : m_X6_askedBase (nSF M 12 v) (nI f) = some (z, nSF (nSF M 12 v) 12 v2) := g2
          refine ⟨z - 1, S', _, 1, ?_, g3, bs_Z_tr (bs_Z12 M v p) (bs_Z12 _ v2 p) (Nat.le_refl _), Nat.le_refl _, h4, Or.inl ?_⟩
          · rw [c_X5_askCarry, ob1, bs_bnd, bs_f1 h hf, if_neg k2', if_pos k0', e1, bs_bnd, g1, bs_bnd2]
          · have tail : ∀ fu sum, m_X6_askedCarry_L11 (fu + 1) M (nI (p + 1)) sum = m_X6_askedCarry_L11 fu (nSF (nSF M 12 v) 12 v2) (nI p) (sum + (z - 1)) := by
              intro fu sum
              rw [head, if_neg k2', if_neg k4', if_pos k0', e2, bs_bnd, g2', bs_bnd2, bs_let]
            rcases g4 with rfl | rfl
            · exact ⟨9, rfl, by omega, tail⟩
            · exact ⟨15, rfl, by omega, tail⟩
        · have k0' : ¬ nI (bs_k M f) = 0 := fun q => k0 ((bs_kis0 h.1 hf).mp q)
          obtain ⟨v, e1, e2, hb⟩ := bs_begun h 8
          obtain ⟨z, S', v2, g1, g2, g3, g4⟩ := bs_askBeads hb (f := f) hf k4
          refine ⟨5 + z, S', _, 1, ?_, g3, bs_Z_tr (bs_Z12 M v p) (bs_Z12 _ v2 p) (Nat.le_refl _), Nat.le_refl _, h4, Or.inl ?_⟩
          · rw [c_X5_askCarry, ob1, bs_bnd, bs_f1 h hf, if_neg k2', if_neg k0', if_neg k4', e1, bs_bnd, g1, bs_bnd2]
          · have tail : ∀ fu sum, m_X6_askedCarry_L11 (fu + 1) M (nI (p + 1)) sum = m_X6_askedCarry_L11 fu (nSF (nSF M 12 v) 12 v2) (nI p) (sum + (5 + z)) := by
              intro fu sum
              rw [head, if_neg k2', if_neg k4', if_neg k0', e2, bs_bnd, g2, bs_bnd2, bs_let]
            rcases g4 with rfl | rfl | rfl
            · exact ⟨15, rfl, by omega, tail⟩
            · exact ⟨10, rfl, by omega, tail⟩
            · exact ⟨12, rfl, by omega, tail⟩
theorem bs_op_asks {S : Mem} {M : MS} (h : bs_Rel x0 s0 Y S M) (x y : Int32) : bs_OK x0 s0 Y (c_X5_asks S (Y 0 0) x y) (m_X6_asks M x y) := by
  unfold c_X5_asks m_X6_asks
  have h3 := bs_n30 h.1
  rcases bs_which h.1 x with hx | ⟨f, hf, rfl⟩
  · rw [bs_c_unknown h hx, bs_m_noF h.1 hx]
    exact bs_same h _
  · have hd := (bs_fr h.1 hf).2.2.2.1.2
    rw [bs_c_known h hf, bs_m_isF h.1 hf, bs_bnd, bs_bnd, bs_ocS, if_neg bs_10]
    have J : ∀ (z : Int32) S' M', bs_Rel x0 s0 Y S' M' → 0 ≤ z → bs_OK x0 s0 Y (c_X5_asks_J69 S' (Y 0 0) z) (some (z, M')) := by
      intro z S' M' q1 q2
      unfold c_X5_asks_J69
      rw [if_pos q2]
      exact bs_same q1 _
    have JC : ∀ S' M', bs_Rel x0 s0 Y S' M' → bs_OK x0 s0 Y (c_X5_asks_J69 S' (Y 0 0) (-1)) (bnd2 (m_X6_meets M' 3) fun a b => some (a, b)) := by
      intro S' M' q1
      unfold c_X5_asks_J69
      rw [if_neg (by decide)]
      exact bs_flt q1 3
    rcases bs_span y (n := 4) (by decide) with hy | ⟨j, hj, rfl⟩
    · have n0 : ∀ k : Nat, k < 4 → ¬ y = nI k := by
        rintro k hk rfl
        rcases hy with q | q
        · exact nI_pos (by omega) q
        · exact nI_ge (b := 4) hk (by decide) q
      simp only [if_neg (show ¬ y = 0 from n0 0 (by decide)), if_neg (show ¬ y = 1 from n0 1 (by decide)), if_neg (show ¬ y = 2 from n0 2 (by decide)), if_neg (show ¬ y = 3 from n0 3 (by decide))]
      by_cases c : y < 0
      · rw [if_pos c]
        exact bs_same h _
      · rw [if_neg c, if_neg]
        · exact bs_same h _
        · intro q
          obtain ⟨k, hk, rfl⟩ := nI_of2 (M := 3) (n := 3) rfl c q
          exact n0 k (by omega) rfl
    · rw [if_neg (nI_pos (by omega)), if_pos (show nI j ≤ 3 from nI_le (b := 3) (by omega) (by decide)), bs_gd (bs_inB (by omega) (by decide)), bs_gd (bs_inB (by omega) (by decide)), bs_cl (n := f) (by omega), bs_kN h.1 hf]
      have : j = 0 ∨ j = 1 ∨ j = 2 ∨ j = 3 := by omega
      rcases this with rfl | rfl | rfl | rfl
      · rw [if_pos (show nI 0 = 0 from rfl), if_pos (show nI 0 = 0 from rfl)]
        obtain ⟨z, S', v2, g1, g2, g3, g4⟩ := bs_askBase 5 10 bigN S M f 0 h hf hd (by decide) (by decide) (by decide)
        have g1' : c_X5_askBase 10 S (Y 0 0) (some (Y 1 f)) 0 = some (z, S') := g1
        have g2' : m_X6_askedBase M (nI f) = some (z, nSF M 12 v2) := g2
        rw [g1', g2', bs_bnd2, bs_bnd2]
        exact J z S' _ g3 (by rcases g4 with rfl | rfl <;> decide)
      · rw [if_neg (show ¬ nI 1 = 0 from bs_10), if_neg (show ¬ nI 1 = 0 from bs_10), if_pos (show nI 1 = 1 from rfl), if_pos (show nI 1 = 1 from rfl)]
        by_cases c4 : bs_k M f = 4
        · rw [if_pos ((bs_kis4 h.1 hf).mpr c4)]
          unfold c_X5_askBeads
          rw [bs_o1 h hf, bs_bnd, bs_f1 h hf, if_pos ((bs_kis4 h.1 hf).mpr c4), bs_bnd2]
          exact JC S M h
        · obtain ⟨z, S', v2, g1, g2, g3, g4⟩ := bs_askBeads h hf c4
          rw [if_neg (fun q => c4 ((bs_kis4 h.1 hf).mp q)), g1, g2, bs_bnd2, bs_bnd2]
          exact J z S' _ g3 (by rcases g4 with rfl | rfl | rfl <;> decide)
      · rw [if_neg (show ¬ nI 2 = 0 by decide), if_neg (show ¬ nI 2 = 0 by decide), if_neg (show ¬ nI 2 = 1 by decide), if_neg (show ¬ nI 2 = 1 by decide), if_pos (show nI 2 = 2 from rfl), if_pos (show nI 2 = 2 from rfl)]
        have h17 : bs_Rel x0 s0 Y S (nSA M 17 0 (nI f)) := h
        obtain ⟨z, S', M', K, g1, g2, -, g4, g5, g6⟩ := bs_carry 5 10 S (nSA M 17 0 (nI f)) f 0 0 h17 hf hd (by decide) (by decide) (by decide) (by rw [bs_nA, if_pos ⟨rfl, rfl⟩])
        have g1' : c_X5_askCarry 10 S (Y 0 0) (some (Y 1 f)) 0 = some (z, S') := g1
        have hK : bigN = (bigN - K - 1 + 1) + K := by unfold bigN; omega
        have e1 : m_X6_askedCarry M (nI f) = m_X6_askedCarry_L11 ((bigN - K - 1 + 1) + K) (nSA M 17 0 (nI f)) (nI (0 + 1)) 0 := by
          rw [← hK]
          unfold m_X6_askedCarry
          rw [bs_let, show Int32.toNatClampNeg (0 : Int32) = 0 from rfl, show (1 : Int32) = nI (0 + 1) from rfl]
        rw [g1', bs_bnd2, e1]
        rcases g6 with ⟨zz, rfl, zb, g6⟩ | ⟨rfl, g6⟩
        · rw [g6, m_X6_askedCarry_L11, if_pos (show nI 0 ≤ 0 by decide), bs_bnd2, Int32.zero_add]
          exact J _ S' _ g2 (nI_pos' (by omega))
        · rw [g6]
          have := JC S' M' g2
          obtain ⟨r, S2, M2, Y2, a1, a2, a3, a4⟩ := this
          rw [a1, a2, bs_bnd2]
          exact ⟨r, S2, M2, Y2, rfl, rfl, a3, a4⟩
      · rw [if_neg (show ¬ nI 3 = 0 by decide), if_neg (show ¬ nI 3 = 0 by decide), if_neg (show ¬ nI 3 = 1 by decide), if_neg (show ¬ nI 3 = 1 by decide), if_neg (show ¬ nI 3 = 2 by decide), if_neg (show ¬ nI 3 = 2 by decide), if_pos (show nI 3 = 3 from rfl)]
        by_cases c4 : bs_k M f = 4
        · rw [if_pos ((bs_kis4 h.1 hf).mpr c4)]
          unfold c_X5_askJudge
          rw [bs_o1 h hf, bs_bnd, bs_f1 h hf, if_pos ((bs_kis4 h.1 hf).mpr c4), bs_bnd2]
          exact JC S M h
        · rw [if_neg (fun q => c4 ((bs_kis4 h.1 hf).mp q)), bs_gd (bs_inB (n := f) (by omega) (by decide))]
          by_cases c2 : bs_k M f = 2
          · rw [if_pos ((bs_kis2 h.1 hf).mpr c2)]
            unfold c_X5_askJudge
            rw [bs_o1 h hf, bs_bnd, bs_f1 h hf, if_neg (fun q => c4 ((bs_kis4 h.1 hf).mp q)), if_pos ((bs_kis2 h.1 hf).mpr c2), bs_bnd2]
            exact JC S M h
          · obtain ⟨z, S', v2, g1, g2, g3, g4⟩ := bs_judge h hf c4 c2
            rw [if_neg (fun q => c2 ((bs_kis2 h.1 hf).mp q)), g1, g2, bs_bnd2, bs_bnd2]
            exact J z S' _ g3 g4
end BsCarry
