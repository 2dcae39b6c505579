/-! root, cube -/
theorem bs_s1 {n : Nat} (h : 1 ≤ n) : nI n - 1 = nI (n - 1) := pk_sub h
/-- squares, cubes -/
def bs_sq (e : Nat) (fl : Int32) : Prop := (e = 2 ∧ fl = 0) ∨ (e = 3 ∧ fl = 1)
theorem bs_takw {e : Nat} {fl : Int32} (he : bs_sq e fl) (b p : Int64) (b2 y : Int32) (hb : b = b2.toInt64) : ∃ w, c_X3_taken (nI e) b p y.toInt64 = some w ∧ m_X6_wanted b2 p y fl = some w ∧ (y = 0 → w = 0) := by
  rcases he with ⟨rfl, rfl⟩ | ⟨rfl, rfl⟩
  · refine ⟨_, if_pos rfl, ?_, ?_⟩
    · unfold m_X6_wanted
      rw [if_pos rfl, hb]
    · rintro rfl
      rw [show Int32.toInt64 0 = 0 from rfl, Int64.mul_zero]
  · refine ⟨_, if_neg (by decide), ?_, ?_⟩
    · unfold m_X6_wanted
      rw [if_neg bs_10, hb]
    · rintro rfl
      rw [show Int32.toInt64 0 = 0 from rfl, Int64.mul_zero]
section BsRoot
variable {x0 s0 : Nat}
theorem bs_rootD {f g b e R k : Nat} {fl : Int32} (he : bs_sq e fl) (hb : b = 10 ∨ b = 16) (hR : R < 2 ^ 63) {Y : bs_Ly} {S : Mem} {M : MS} (h : bs_Rel x0 s0 Y S M) (hf : f < bs_n M) (hB : bs_b M f = b) (p u : Int64) (k45 : Mem → Nat → Option Nat → Option Nat → Int32 → Int64 → Int32 → Option (Int32 × Mem)) (k48 : MS → Int32 → Int32 → Int32 → Int32 → Int32 → Int32 → Int64 → Int32 → Option (Int32 × MS)) :
    ∀ d n n2, d < b → d < n → d < n2 → ∃ d0, d0 ≤ d ∧ c_X3_extract_L77 k45 n S (Y 3 0) (some (Y 1 f)) (some (Y 1 g)) (nI e) p (nI k) (lN R) u (nI d) = c_X3_extract_J111 k45 S (Y 3 0) (some (Y 1 f)) (some (Y 1 g)) (nI e) p (nI k) (nI d0) ∧
      m_X6_rooted_L83 k48 n2 M (nI f) (nI g) fl (nI b) (nI e) p (nI k) (lN R) u (nI d) = (bnd2 (m_X6_change M (nI g) (nI k) (nI d0) 1) fun i5_ S6 => if i5_ = 0 then m_X6_rooted_J152 k48 S6 (nI f) (nI g) fl (nI b) (nI e) p (nI k) (nI d0) 0 else bnd (m_X6_wanted (nI b) p (nI d0) fl) fun j10_ => bnd2 (m_X6_changeAll S6 (nI f) (nI e * nI k) j10_ (-1)) fun i12_ S13 => if i12_ = 0 then m_X6_rooted_J152 k48 S13 (nI f) (nI g) fl (nI b) (nI e) p (nI k) (nI d0) 0 else m_X6_rooted_J152 k48 S13 (nI f) (nI g) fl (nI b) (nI e) p (nI k) (nI d0) 1)
  | d, 0, _, _, hn, _ => absurd hn (Nat.not_lt_zero _)
  | d, _ + 1, 0, _, _, hn => absurd hn (Nat.not_lt_zero _)
  | d, n + 1, n2 + 1, hd, hn, hn2 => by
    have f2 : mI S (Y 1 f) 2 = nI b := by rw [bs_f2 h hf, hB]
    obtain ⟨w, w1, w2, w3⟩ := bs_takw he (nI b).toInt64 p (nI b) (nI d) rfl
    rw [c_X3_extract_L77, m_X6_rooted_L83, w2, bs_bnd]
    by_cases c0 : d = 0
    · subst c0
      have : w * u ≤ lN R := by
        rw [w3 rfl, Int64.zero_mul]
        exact (pk_lLE (a := 0) (by decide) hR).mpr (Nat.zero_le _)
      rw [if_pos (show nI 0 ≤ 0 by decide), if_pos this]
      exact ⟨0, Nat.le_refl _, rfl, by rw [w2]⟩
    · rw [if_neg (nI_nle (by omega) (by omega)), bs_o1 h hf, bs_bnd, f2, w1, bs_bnd]
      by_cases c1 : w * u ≤ lN R
      · rw [if_pos c1, if_pos c1]
        exact ⟨d, Nat.le_refl _, rfl, by rw [w2]⟩
      · rw [if_neg c1, if_neg c1]
        obtain ⟨d1, rfl⟩ : ∃ d1, d = d1 + 1 := ⟨d - 1, by omega⟩
        rw [pk_m1]
        obtain ⟨d0, a1, a2, a3⟩ := bs_rootD (g := g) (k := k) he hb hR h hf hB p u k45 k48 d1 n n2 (by omega) (by omega) (by omega)
        exact ⟨d0, by omega, a2, a3⟩
theorem bs_rootL {f g b e : Nat} {fl : Int32} (he : bs_sq e fl) (hb : b = 10 ∨ b = 16) : ∀ k n n2 (Y : bs_Ly) (S : Mem) (M : MS) (p : Int64), bs_W x0 s0 Y S M → bs_own Y M f → bs_own Y M g → bs_b M f = b → bs_b M g = b → bs_LT M f → bs_LT M g → (∀ i, i < bs_m M f → bs_rf M (bs_r M f i) = 0) → k ≤ 20 → k < n → k + 1 < n2 → bs_s M + 189 * k ≤ 4600 →
    ∃ z Y' S' M', c_X3_extract_L45 n S (Y 3 0) (some (Y 1 f)) (some (Y 1 g)) (nI e) p (nI k + (-1)) = some (z, S') ∧ m_X6_rooted_L48 n2 M (nI f) (nI g) fl (nI b) (nI e) 1 p (nI k + (-1)) = some (z, M') ∧ (z = 0 ∨ z = 1) ∧ bs_W x0 s0 Y' S' M' ∧ bs_T b Y M Y' M'
  | k, 0, _, _, _, _, _, _, _, _, _, _, _, _, _, _, hn, _, _ => absurd hn (Nat.not_lt_zero _)
  | k, _ + 1, 0, _, _, _, _, _, _, _, _, _, _, _, _, _, _, hn, _ => absurd hn (Nat.not_lt_zero _)
  | 0, n + 1, n2 + 1, Y, S, M, p, hW, hf, hg, hBf, hBg, hLf, hLg, hr, _, _, _, _ => by
    rw [c_X3_extract_L45, m_X6_rooted_L48, if_pos bs_m11, if_pos bs_m11, bs_gd bs_zb1]
    exact ⟨1, Y, S, M, rfl, rfl, Or.inr rfl, hW, bs_T_refl _ _ _⟩
  | k + 1, n + 1, n2 + 1, Y, S, M, p, hW, hf, hg, hBf, hBg, hLf, hLg, hr, hk, hn, hn2, hs => by
    have h := hW.1
    have hn30 := bs_n30 h.1
    have hfn := hf.1
    have he3 : e ≤ 3 := by rcases he with ⟨q, -⟩ | ⟨q, -⟩ <;> omega
    have hek : e * k ≤ 3 * 20 := Nat.mul_le_mul he3 (by omega)
    have hmf := bs_m18 h.1 hf.1
    have hmg := bs_m18 h.1 hg.1
    have f2 : mI S (Y 1 f) 2 = nI b := by rw [bs_f2 h hf.1, hBf]
    have hlf : ∀ M0 p1 x1, m_X6_rooted_L48 n2 M0 (nI f) (nI g) fl (nI b) (nI e) 0 p1 x1 = some (0, M0) := by
      intro M0 p1 x1
      cases n2 with
      | zero => omega
      | succ n2 =>
        rw [m_X6_rooted_L48, if_pos rfl, bs_gd bs_zb0]
        split <;> rfl
    obtain ⟨w, w1, w2⟩ := bs_m_sv h.1 hf.1
    have ff0 : bs_ff M f (bs_m M f) 0 = 0 := bs_ff_of _ _ (fun k _ hk => hr k (by omega))
    rw [ff0] at w1 w2
    have hR := bs_X63 h.1 hf.1 hLf hr
    have W0 : bs_W x0 s0 Y S (nSF M 16 0) := hW
    have f0 : bs_own Y (nSF M 16 0) f := hf
    have g0 : bs_own Y (nSF M 16 0) g := hg
    have Lf0 : bs_LT (nSF M 16 0) f := hLf
    have Lg0 : bs_LT (nSF M 16 0) g := hLg
    have T0 : bs_T b Y M Y (nSF M 16 0) := bs_T_refl b Y M
    obtain ⟨d0, d1, d2, d3⟩ := bs_rootD (g := g) (k := k) he hb hR W0.1 f0.1 hBf p (lN (b ^ (e * k))) (c_X3_extract_L45 n) (m_X6_rooted_L48 n2) (b - 1) bigN bigN (by omega) (by unfold bigN; omega) (by unfold bigN; omega)
    rw [c_X3_extract_L45, m_X6_rooted_L48, pk_m1, if_neg (nI_pos (by omega)), if_neg (nI_pos (by omega)), if_neg bs_10, bs_o1 h hfn, bs_bnd, bs_c_sum h hfn, bs_bnd, f2, pk_mul, bs_c_pow (by omega) (by omega), bs_bnd, bs_let, bs_s1 (by omega), d2, w1, bs_bnd2, bs_m_pow (by omega) (by omega), bs_bnd, bs_let, w2 rfl, d3, pk_mul]
    unfold c_X3_extract_J111 m_X6_rooted_J152
    obtain ⟨z, Y1, S1, M1, g1, g2, g3, g4, g5, g6, g7, -⟩ := bs_put1 (i := k) W0 g0 Lg0 (by omega) (show d0 < bs_b M g by omega) (Or.inl ⟨rfl, rfl, rfl⟩) (show bs_s M + (bs_m M g - k) < 5000 by omega)
    have g7' : bs_s M1 ≤ bs_s M + (bs_m M g - k) := g7
    have T1 : bs_T b Y M Y1 M1 := hBg ▸ g5
    rw [g1, bs_bnd2, g2, bs_bnd2]
    rcases g3 with rfl | rfl
    · rw [if_pos rfl, if_pos rfl, bs_let, hlf]
      exact ⟨0, Y1, S1, M1, rfl, rfl, Or.inl rfl, g4, T1⟩
    · have f1 := bs_own_T T1 hf
      have f21 : mI S1 (Y 1 f) 2 = nI b := by
        have := bs_f2 g4.1 f1.1
        rw [T1.1 1 f (by decide), bs_T_b T1, hBf] at this
        exact this
      have o1 : ob S1 (some (Y 1 f)) 2 = some (Y 1 f) := by
        have := bs_o1 g4.1 f1.1
        rw [T1.1 1 f (by decide)] at this
        exact this
      obtain ⟨wv, v1, v2, -⟩ := bs_takw he (nI b).toInt64 p (nI b) (nI d0) rfl
      rw [if_neg bs_10, if_neg bs_10, o1, bs_bnd, f21, v1, bs_bnd, v2, bs_bnd]
      -- the digits taken
      have fin : ∃ z2 Y2 S2 M2, c_X3_putDigits S1 (Y 3 0) (some (Y 1 f)) wv (nI (e * k)) (-1) = some (z2, S2) ∧ m_X6_changeAll M1 (nI f) (nI (e * k)) wv (-1) = some (z2, M2) ∧ (z2 = 0 ∨ z2 = 1) ∧ bs_W x0 s0 Y2 S2 M2 ∧ bs_T b Y M Y2 M2 ∧ bs_s M2 ≤ bs_s M1 + 171 := by
        by_cases c : wv < 0
        · obtain ⟨n1, n2⟩ := bs_pdN g4 f1 c (nI (e * k)) (-1)
          rw [T1.1 3 0 (by decide), T1.1 1 f (by decide)] at n1
          exact ⟨1, Y1, S1, M1, n1, n2, Or.inr rfl, g4, T1, by omega⟩
        · obtain ⟨u, hu, rfl⟩ := pk_lOf c
          obtain ⟨z2, Y2, S2, M2, l1, l2, l3, l4, l5, l6, l7, -⟩ := bs_pd (i0 := e * k) g4 f1 (bs_LT_T T1 hBf hLf) hu (by omega) 0 (-1) (Or.inr ⟨rfl, rfl⟩) (by omega)
          rw [T1.1 3 0 (by decide), T1.1 1 f (by decide)] at l1
          rw [bs_T_b T1, hBf] at l5
          exact ⟨z2, Y2, S2, M2, l1, l2, l3, l4, bs_T_tr T1 l5, l7⟩
      obtain ⟨z2, Y2, S2, M2, l1, l2, l3, l4, T2, l7⟩ := fin
      rw [pk_mul, l1, l2, bs_bnd2, bs_bnd2]
      rcases l3 with rfl | rfl
      · rw [if_pos rfl, if_pos rfl, bs_let, hlf]
        exact ⟨0, Y2, S2, M2, rfl, rfl, Or.inl rfl, l4, T2⟩
      · have f2' := bs_own_T T2 hf
        have f22 : mI S2 (Y 1 f) 2 = nI b := by
          have := bs_f2 l4.1 f2'.1
          rw [T2.1 1 f (by decide), bs_T_b T2, hBf] at this
          exact this
        rw [if_neg bs_10, if_neg bs_10, bs_let, bs_let, f22]
        obtain ⟨z3, Y3, S3, M3, p1, p2, p3, p4, p5⟩ := bs_rootL (f := f) (g := g) he hb k n n2 Y2 S2 M2 ((nI b).toInt64 * p + (nI d0).toInt64) l4 f2' (bs_own_T T2 hg) (by rw [bs_T_b T2]; exact hBf) (by rw [bs_T_b T2]; exact hBg) (bs_LT_T T2 hBf hLf) (bs_LT_T T2 hBg hLg) (by intro k hk; rw [bs_T_m T2] at hk; rw [bs_T_rf T2, bs_T_r T2]; exact hr k hk) (by omega) (by omega) (by omega) (by omega)
        rw [T2.1 3 0 (by decide), T2.1 1 f (by decide), T2.1 1 g (by decide)] at p1
        exact ⟨z3, Y3, S3, M3, p1, p2, p3, p4, bs_T_tr T2 p5⟩
theorem bs_rootBy {Y : bs_Ly} {S : Mem} {M : MS} (h : bs_Rel x0 s0 Y S M) (x y : Int32) {e : Nat} {fl : Int32} (he : bs_sq e fl) : bs_OK x0 s0 Y (bnd (c_X5_known S (Y 0 0) x) fun r1_ => bnd (c_X5_known S (Y 0 0) y) fun r3_ => bnd2 (c_X5_rootBy S (Y 0 0) r1_ r3_ (nI e)) fun a b => some (a, b)) (bnd2 (m_X6_rootOf M x y fl) fun a b => some (a, b)) := by
  have idc : ∀ q : Option (Int32 × Mem), (bnd2 q fun a b => some (a, b)) = q := by intro q; cases q <;> rfl
  have idm : ∀ q : Option (Int32 × MS), (bnd2 q fun a b => some (a, b)) = q := by intro q; cases q <;> rfl
  rw [idm]
  simp only [idc]
  unfold c_X5_rootBy m_X6_rootOf
  rcases bs_which h.1 x with hx | ⟨f, hf, rfl⟩
  · rw [bs_c_unknown h hx, bs_m_noF h.1 hx, bs_bnd]
    rcases bs_which h.1 y with hy | ⟨g, hg, rfl⟩
    · rw [bs_c_unknown h hy]
      exact bs_same h _
    · rw [bs_c_known h hg]
      exact bs_same h _
  · rcases bs_which h.1 y with hy | ⟨g, hg, rfl⟩
    · rw [bs_c_known h hf, bs_c_unknown h hy, bs_m_isF h.1 hf, bs_m_noF h.1 hy]
      exact bs_same h _
    · rw [bs_c_known h hf, bs_c_known h hg, bs_m_isF h.1 hf, bs_m_isF h.1 hg, bs_bnd, bs_bnd, bs_bnd, bs_bnd, bs_ocS, bs_ocS, if_neg bs_10, if_neg bs_10]
      refine bs_front h hf hg (v := 0) (by decide) true false 1 0 rfl rfl (fun S a => c_X3_extract S a (some (Y 1 f)) (some (Y 1 g)) (nI e)) (fun S18 j13_ => bnd2 (m_X6_rooted S18 (nI f) (nI g) j13_ fl) fun i20_ S21 => bnd2 (m_X6_ended S21 i20_) fun a b => some (a, b)) ?_
      intro S1 M1 W1 s1 nA1 of1 og1 n1 LTf LTg rdf X63 lbe _
      have hn30 := bs_n30 h.1
      have hbf := bs_bb h.1 hf
      have b1 : bs_b M1 = bs_b M := by funext r; unfold bs_b; rw [nA1]
      have m1 : bs_m M1 = bs_m M := by funext r; unfold bs_m; rw [nA1]
      have r1 : bs_r M1 = bs_r M := by funext r i; unfold bs_r; rw [nA1]
      have rf1 : bs_rf M1 = bs_rf M := by funext r; unfold bs_rf bs_k; rw [nA1]
      have hLf := bs_LT_A nA1 LTf
      have hLg := bs_LT_A nA1 LTg
      have hbe := lbe rfl
      have e23 : 2 ≤ e ∧ e ≤ 3 := by rcases he with ⟨q, -⟩ | ⟨q, -⟩ <;> omega
      obtain ⟨z, Y2, S2, M2, k1, k2, k3, k4, k5, -, k7, -, -⟩ := bs_clear W1 og1 hLg (by rw [s1]; decide)
      rw [b1, ← hbe] at k5
      have k1' : c_X3_clear S1 (Y 3 0) (some (Y 1 g)) = some (z, S2) := k1
      have hYo : bs_Yo Y (g + 1) 3 0 = Y 3 0 ∧ bs_Yo Y (g + 1) 0 0 = Y 0 0 ∧ bs_Yo Y (g + 1) 14 0 = Y 14 0 := ⟨rfl, rfl, rfl⟩
      have e1 : c_X1_sum S1 (Y 1 f) = some (lN (bs_sv M f (bs_m M f) 0)) := by
        have := bs_c_sum W1.1 of1.1
        rw [bs_sv_E nA1 f] at this
        exact this
      have o1 : ob S1 (some (Y 1 f)) 2 = some (Y 1 f) := bs_o1 W1.1 of1.1
      have f21 : mI S1 (Y 1 f) 2 = nI (bs_b M f) := by
        have := bs_f2 W1.1 (f := f) of1.1
        rw [b1] at this
        exact this
      have f3 : nA M1 3 f = nI (bs_b M f) := by rw [nA1]; exact bs_bN h.1 hf
      have dX := bs_dg19 (b := bs_b M f) (by omega) X63
      have nze : nz (nI e) = true := decide_eq_true (nI_ne0 (by omega) (by omega))
      have hq : (bs_dg (bs_b M f) 64 (bs_sv M f (bs_m M f) 0) + e - 1) / e ≤ 20 := by rcases he with ⟨q, -⟩ | ⟨q, -⟩ <;> rw [q] <;> omega
      have mro : m_X6_rooted M1 (nI f) (nI g) (lN (bs_sv M f (bs_m M f) 0)) fl = m_X6_rooted_L48 bigN M2 (nI f) (nI g) fl (nI (bs_b M f)) (nI e) z 0 (nI ((bs_dg (bs_b M f) 64 (bs_sv M f (bs_m M f) 0) + e - 1) / e) + (-1)) := by
        unfold m_X6_rooted m_X6_rooted_J18
        rw [bs_gd (bs_inB (n := f) (by omega) (by decide)), bs_let, bs_cl (n := f) (by omega), f3, k2, bs_bnd2, bs_bnd2, bs_m_dg (by omega) (by omega) X63, bs_bnd, bs_bnd]
        have E : (gd (nz (nI e)) (jLet (((nI (bs_dg (bs_b M f) 64 (bs_sv M f (bs_m M f) 0)) + nI e) - 1) / nI e - 1) fun i8_ => m_X6_rooted_L48 bigN M2 (nI f) (nI g) fl (nI (bs_b M f)) (nI e) z 0 i8_)) = m_X6_rooted_L48 bigN M2 (nI f) (nI g) fl (nI (bs_b M f)) (nI e) z 0 (nI ((bs_dg (bs_b M f) 64 (bs_sv M f (bs_m M f) 0) + e - 1) / e) + (-1)) := by
          rw [bs_gd nze, bs_let, nI_add, bs_s1 (by omega), pk_div (by omega) (by omega) (by omega), Int32.sub_eq_add_neg]
        rcases he with ⟨rfl, rfl⟩ | ⟨rfl, rfl⟩
        · rw [if_pos rfl]
          exact E
        · rw [if_neg bs_10]
          exact E
      show ∃ r S' M' Y', (bnd2 (c_X3_extract S1 (Y 3 0) (some (Y 1 f)) (some (Y 1 g)) (nI e)) fun z S2 => bnd2 (c_X3_close S2 (Y 3 0) z) fun r S3 => some (r, S3)) = some (r, S') ∧ (bnd2 (m_X6_rooted M1 (nI f) (nI g) (lN (bs_sv M f (bs_m M f) 0)) fl) fun i20_ S21 => bnd2 (m_X6_ended S21 i20_) fun a b => some (a, b)) = some (r, M') ∧ bs_Rel x0 s0 Y' S' M' ∧ (Y' 0 0, Y' 14 0) = (Y 0 0, Y 14 0)
      unfold c_X3_extract
      rw [if_pos (show (2 : Int32) ≤ nI e from nI_le (a := 2) (by omega) (by omega)), o1, bs_bnd, e1, bs_bnd, f21, bs_c_dg (by omega) (by omega) X63, bs_bnd, bs_gd nze, bs_let, nI_add, bs_s1 (by omega), pk_div (by omega) (by omega) (by omega), Int32.sub_eq_add_neg, k1', bs_bnd2, mro]
      rcases k3 with rfl | rfl
      · have z0 : m_X6_rooted_L48 bigN M2 (nI f) (nI g) fl (nI (bs_b M f)) (nI e) 0 0 (nI ((bs_dg (bs_b M f) 64 (bs_sv M f (bs_m M f) 0) + e - 1) / e) + (-1)) = some (0, M2) := by
          rw [show bigN = 999999 + 1 from rfl, m_X6_rooted_L48, if_pos rfl, bs_gd bs_zb0]
          split <;> rfl
        rw [if_pos rfl, bs_bnd2, z0, bs_bnd2]
        obtain ⟨r, S', M', c1, c2, c3, c4⟩ := bs_clOK k4 (Or.inl rfl) k5 hYo
        exact ⟨r, S', M', Y2, c1, c2, c3, c4⟩
      · rw [s1] at k7
        obtain ⟨z3, Y3, S3, M3, p1, p2, p3, p4, p5⟩ := bs_rootL (f := f) (g := g) he hbf ((bs_dg (bs_b M f) 64 (bs_sv M f (bs_m M f) 0) + e - 1) / e) bigN bigN Y2 S2 M2 0 k4 (bs_own_T k5 of1) (bs_own_T k5 og1) (by rw [bs_T_b k5, b1]) (by rw [bs_T_b k5, b1, hbe]) (bs_LT_T k5 (by rw [b1]) hLf) (bs_LT_T k5 (by rw [b1, hbe]) hLg) (by intro k hk; rw [bs_T_m k5, m1] at hk; rw [bs_T_rf k5, bs_T_r k5, rf1, r1]; exact rdf k hk) hq (by unfold bigN; omega) (by unfold bigN; omega) (by omega)
        rw [k5.1 3 0 (by decide), k5.1 1 f (by decide), k5.1 1 g (by decide)] at p1
        have p1' : c_X3_extract_L45 bigN S2 (Y 3 0) (some (Y 1 f)) (some (Y 1 g)) (nI e) 0 (nI ((bs_dg (bs_b M f) 64 (bs_sv M f (bs_m M f) 0) + e - 1) / e) + (-1)) = some (z3, S3) := p1
        rw [if_neg bs_10, p1', bs_bnd2, p2, bs_bnd2]
        obtain ⟨r, S', M', c1, c2, c3, c4⟩ := bs_clOK p4 p3 (bs_T_tr k5 p5) hYo
        exact ⟨r, S', M', Y3, c1, c2, c3, c4⟩
theorem bs_op_root {Y : bs_Ly} {S : Mem} {M : MS} (h : bs_Rel x0 s0 Y S M) (x y : Int32) : bs_OK x0 s0 Y (c_X5_root S (Y 0 0) x y) (m_X6_root M x y) := bs_rootBy h x y (e := 2) (fl := 0) (Or.inl ⟨rfl, rfl⟩)
theorem bs_op_cube {Y : bs_Ly} {S : Mem} {M : MS} (h : bs_Rel x0 s0 Y S M) (x y : Int32) : bs_OK x0 s0 Y (c_X5_cube S (Y 0 0) x y) (m_X6_cube M x y) := bs_rootBy h x y (e := 3) (fl := 1) (Or.inr ⟨rfl, rfl⟩)
end BsRoot
