/-! times, turn -/
section BsTimes
variable {x0 s0 : Nat} {Y : bs_Ly} {S : Mem} {M : MS}
theorem bs_ff3 (M : MS) (f : Nat) : ∀ d i, bs_ff M f d i = 0 ∨ bs_ff M f d i = 1 ∨ bs_ff M f d i = 2 := by
  intro d
  induction d with
  | zero => intro i; exact Or.inl rfl
  | succ d ih =>
    intro i
    rw [bs_ff]
    split
    · exact ih _
    · exact bs_rf3 M _
/-- a fault, met as a method is opened -/
theorem bs_opF (h : bs_Rel x0 s0 Y S M) {f : Nat} (hf : f < bs_n M) (r2 : Option Nat) (k : Int32) (hk : k = 1 ∨ k = 2 ∨ k = 5) (K : Mem → Option (Int32 × Mem)) : bs_OK x0 s0 Y (bnd2 (c_X5_opened_J25 S (Y 0 0) (some (Y 1 f)) r2 k) fun i7_ S8 => if i7_ = 0 then K S8 else some (i7_, S8)) (bnd2 (m_X6_meets M k) fun a b => some (a, b)) := by
  unfold c_X5_opened_J25
  obtain ⟨S2, M2, e1, e2, h2⟩ := bs_fault h k
  have k0 : ¬ k = 0 := by rcases hk with rfl | rfl | rfl <;> decide
  have k1 : ¬ -10 - k = 0 := by rcases hk with rfl | rfl | rfl <;> decide
  rw [if_neg k0, e1, e2, bs_bnd2, bs_bnd2, bs_bnd2, if_neg k1]
  exact bs_same h2 _
/-- whether two frames are refused -/
def bs_ok2 (M : MS) (f g : Nat) (lb : Bool) : Bool := bs_ap M f (bs_m M f) 0 && bs_ap M g (bs_m M g) 0 && decide (nA M 7 f &&& nA M 7 g = 0) && (!lb || decide (bs_b M f = bs_b M g))
theorem bs_refTwo (h : bs_Rel x0 s0 Y S M) {f g : Nat} (hf : f < bs_n M) (hg : g < bs_n M) {v : Int64} (hv : 0 ≤ v) (lb : Bool) (L : Int32) (hL : L = if lb then 1 else 0) : c_X5_refusalOfTwo S (some (Y 1 f)) (some (Y 1 g)) v L = some (if bs_ok2 M f g lb then 0 else -3) ∧ m_X6_bars M (nI f) (nI g) L = some (if bs_ok2 M f g lb then 0 else -3) := by
  have hn := bs_n30 h.1
  have hbf := bs_bb h.1 hf
  have hbg := bs_bb h.1 hg
  have beq : (nI (bs_b M f) = nI (bs_b M g)) ↔ bs_b M f = bs_b M g := nI_eq (by omega) (by omega)
  constructor
  · unfold c_X5_refusalOfTwo c_X5_refusalOfTwo_J51 bs_ok2
    rw [if_pos hv, bs_o1 h hf, bs_bnd, bs_c_ap h hf, bs_bnd, bs_o1 h hg, bs_bnd, bs_c_ap h hg, bs_bnd, bs_f4 h hf, bs_f4 h hg, bs_f2 h hf, bs_f2 h hg, hL]
    cases bs_ap M f (bs_m M f) 0 <;> cases bs_ap M g (bs_m M g) 0 <;> cases lb <;> by_cases c1 : nA M 7 f &&& nA M 7 g = 0 <;> by_cases c2 : bs_b M f = bs_b M g <;> simp [c1, c2, beq]
  · unfold m_X6_bars m_X6_bars_J21 m_X6_bars_J47 m_X6_bars_J67 bs_ok2
    rw [bs_gd (bs_inB (n := f) (by omega) (by decide)), bs_gd (bs_inB (n := g) (by omega) (by decide)), bs_gd (bs_inB (n := f) (by omega) (by decide)), bs_gd (bs_inB (n := g) (by omega) (by decide)), bs_cl (n := f) (by omega), bs_cl (n := g) (by omega), bs_m_ap h.1 hf, bs_bnd, bs_m_ap h.1 hg, bs_bnd, bs_bN h.1 hf, bs_bN h.1 hg, hL]
    cases bs_ap M f (bs_m M f) 0 <;> cases bs_ap M g (bs_m M g) 0 <;> cases lb <;> by_cases c1 : nA M 7 f &&& nA M 7 g = 0 <;> by_cases c2 : bs_b M f = bs_b M g <;> simp [c1, c2, beq]
theorem bs_sv_E {M2 : MS} (e : nA M2 = nA M) (f : Nat) : bs_sv M2 f (bs_m M2 f) 0 = bs_sv M f (bs_m M f) 0 := by
  have : bs_m M2 f = bs_m M f := by unfold bs_m; rw [e]
  rw [this, bs_sv_A e]
theorem bs_op_times (h : bs_Rel x0 s0 Y S M) (x : Int32) (v : Int64) : bs_OK x0 s0 Y (c_X5_times S (Y 0 0) x v) (m_X6_times M x v) := by
  unfold c_X5_times m_X6_times
  rcases bs_which h.1 x with hx | ⟨f, hf, rfl⟩
  · rw [bs_c_unknown h hx, bs_m_noF h.1 hx]
    exact bs_same h _
  · rw [bs_c_known h hf, bs_m_isF h.1 hf, bs_bnd, bs_bnd, bs_ocS, if_neg bs_10]
    unfold c_X5_refusalOf c_X5_opened
    by_cases c : (0 : Int64) ≤ v
    · rw [if_pos c, if_pos c, bs_o1 h hf, bs_bnd, bs_c_ap h hf, bs_bnd, bs_m_ap h.1 hf, bs_bnd]
      cases hap : bs_ap M f (bs_m M f) 0
      · rw [if_neg Bool.false_ne_true, if_pos rfl, bs_bnd, if_neg (by decide), bs_bnd2, if_neg (by decide), bs_bnd, if_pos rfl]
        exact bs_same h _
      · obtain ⟨w, w1, w2⟩ := bs_m_sv h.1 hf
        have h' : bs_Rel x0 s0 Y S (nSF M 16 (bs_ff M f (bs_m M f) 0)) := h
        rw [if_pos rfl, if_neg bs_10, bs_bnd, if_pos rfl, bs_c_ff h hf, bs_bnd, bs_bnd, if_neg bs_10, w1, bs_bnd2, bs_nF_eq]
        by_cases c3 : bs_ff M f (bs_m M f) 0 = 0
        · rw [if_pos c3, if_pos rfl, if_pos ((bs_ff_le _ _ _ _).mpr c3)]
          unfold c_X5_opened_J25
          have c2 : ¬ v < 0 := by
            rw [Int64.le_iff_toInt_le] at c
            rw [Int64.lt_iff_toInt_lt]
            omega
          obtain ⟨u, hu, rfl⟩ := pk_lOf c2
          obtain ⟨S1, M1, o1, o2, o3, o4, o5, o6, o7, o8⟩ := bs_open h' (f := f) hf (g := 0) (Or.inl rfl)
          have o1' : c_X3_open S (Y 3 0) (some (Y 1 f)) none = some S1 := o1
          have o5' : nA M1 = nA M := o5
          have hn1 : bs_n M1 = bs_n M := by unfold bs_n; rw [o8]; rfl
          have hown : bs_own (bs_Yo Y 0) M1 f := ⟨by rw [hn1]; exact hf, o6, Or.inl o7⟩
          have q5 : mR S1 (Y 0 0) 4 = some (Y 3 0) := bs_q o3.1 0 0 4 rfl rfl
          have q6 : mKd S1 (Y 3 0) = 4 := bs_kk o3.1 3 0 rfl
          have hLT := bs_LTap h.1 hap
          have hall : ∀ k, k < bs_m M f → bs_rf M (bs_r M f k) = 0 := fun k hk => bs_ff_all _ _ c3 k (Nat.zero_le _) (by omega)
          have hX := bs_X63 h.1 hf hLT hall
          have hb := bs_bb h.1 hf
          have hb1 : bs_b M1 f = bs_b M f := by unfold bs_b; rw [o5']
          have hph := bs_ph_le o3.1.1 540 (by decide)
          have dx := bs_dg19 (b := bs_b M f) (by omega) hX
          have dv := bs_dg19 (b := bs_b M f) (by omega) hu
          have hprod : bs_dg (bs_b M f) 64 u * bs_dg (bs_b M f) 64 (bs_sv M f (bs_m M f) 0) ≤ 19 * 19 := Nat.mul_le_mul dv dx
          obtain ⟨z, Y2, S2, M2, k1, k2, k3, k4, k5, -⟩ := bs_mult o3 hown hb1 (bs_LT_A o5' hLT) (X := bs_sv M f (bs_m M f) 0) (bs_sv_E o5' f).symm hX hu (by rw [o4]; rcases hb with q | q <;> rw [q] at hprod ⊢ <;> omega)
          obtain ⟨r, S3, M3, l1, l2, l3⟩ := bs_close k4 k3
          rw [k5.1 3 0 (by decide)] at l1
          have k1' : c_X3_multiply S1 (Y 3 0) (some (Y 1 f)) (lN u) = some (z, S2) := k1
          have l1' : c_X3_close S2 (Y 3 0) z = some (r, S3) := l1
          rw [if_pos c3, bs_q h 0 0 4 rfl rfl, bs_o3 h, bs_bnd, o1', o2, bs_bnd, bs_bnd, bs_bnd2, if_pos rfl, q5, bs_ob q6, bs_bnd, w2 c3, k1', k2, bs_bnd2, bs_bnd2, l1', l2, bs_bnd2, bs_bnd2]
          exact ⟨r, S3, M3, Y2, rfl, rfl, l3, by rw [k5.1 0 0 (by decide), k5.1 14 0 (by decide)]; rfl⟩
        · rw [if_neg c3, if_neg (fun q => c3 ((bs_ff_le _ _ _ _).mp q))]
          refine bs_opF h' (f := f) hf none _ ?_ _
          rcases bs_ff3 M f (bs_m M f) 0 with q | q | q
          · exact absurd q c3
          · exact Or.inl q
          · exact Or.inr (Or.inl q)
    · rw [if_neg c, if_neg c, bs_bnd, if_neg (by decide), bs_bnd2, if_neg (by decide)]
      exact bs_same h _
end BsTimes
section BsTurn
variable {x0 s0 : Nat}
theorem bs_turnL {f g b X : Nat} (hb : b = 10 ∨ b = 16) (hX : X < 2 ^ 63) : ∀ j n n2 (Y : bs_Ly) (S : Mem) (M : MS), bs_W x0 s0 Y S M → f < bs_n M → bs_own Y M g → bs_b M g = b → bs_LT M g → (∀ k, k < bs_m M g → bs_rf M (bs_r M g k) = 0) → j ≤ 19 → j < n → j + 1 < n2 → (b - 1) * bs_s M + bs_ph M 540 + (b - 1) * (174 * j) ≤ (b - 1) * 4600 →
    ∃ z Y' S' M', c_X3_turnOver_L27 n S (Y 3 0) (some (Y 1 f)) (some (Y 1 g)) (lN X) (nI j + (-1)) = some (z, S') ∧ m_X6_turn_L79 n2 M (nI f) (nI g) (lN X) 1 (nI j + (-1)) = (bnd2 (m_X6_ended M' z) fun a b => some (a, b)) ∧ (z = 0 ∨ z = 1) ∧ bs_W x0 s0 Y' S' M' ∧ bs_T b Y M Y' M'
  | j, 0, _, _, _, _, _, _, _, _, _, _, _, hn, _, _ => absurd hn (Nat.not_lt_zero _)
  | j, _ + 1, 0, _, _, _, _, _, _, _, _, _, _, _, hn, _ => absurd hn (Nat.not_lt_zero _)
  | 0, n + 1, n2 + 1, Y, S, M, hW, hf, hg, hB, hLT, hr, _, _, _, _ => by
    rw [c_X3_turnOver_L27, m_X6_turn_L79, if_pos bs_m11, if_pos bs_m11]
    exact ⟨1, Y, S, M, rfl, rfl, Or.inr rfl, hW, bs_T_refl _ _ _⟩
  | j + 1, n + 1, n2 + 1, Y, S, M, hW, hf, hg, hB, hLT, hr, hj, hn, hn2, hbud => by
    have h := hW.1
    have hn30 := bs_n30 h.1
    have hgn := hg.1
    have hbf := bs_bb h.1 hf
    have hlf : ∀ M0 x1, m_X6_turn_L79 n2 M0 (nI f) (nI g) (lN X) 0 x1 = (bnd2 (m_X6_ended M0 0) fun a b => some (a, b)) := by
      intro M0 x1
      cases n2 with
      | zero => omega
      | succ n2 =>
        rw [m_X6_turn_L79, if_pos rfl]
        split <;> rfl
    obtain ⟨w, w1, w2⟩ := bs_m_sv h.1 hgn
    have ff0 : bs_ff M g (bs_m M g) 0 = 0 := bs_ff_of _ _ (fun k _ hk => hr k (by omega))
    rw [ff0] at w1 w2
    have hG := bs_X63 h.1 hgn hLT hr
    have W0 : bs_W x0 s0 Y S (nSF M 16 0) := hW
    have hph0 : bs_ph (nSF M 16 0) 540 = bs_ph M 540 := by
      have : ∀ n, bs_ph (nSF M 16 0) n = bs_ph M n := by
        intro n
        induction n with
        | zero => rfl
        | succ n ih => rw [bs_ph, bs_ph, ih]; rfl
      exact this 540
    have dG := bs_dg19 (b := b) (by omega) hG
    have d2 : bs_dg b 64 (bs_b M f) ≤ 2 := bs_dg_le b (by omega) 64 _ 2 (by omega) (by decide)
    have hprod : bs_dg b 64 (bs_b M f) * bs_dg b 64 (bs_sv M g (bs_m M g) 0) ≤ 2 * 19 := Nat.mul_le_mul d2 dG
    have hown0 : bs_own Y (nSF M 16 0) g := hg
    obtain ⟨z, Y1, S1, M1, k1, k2, k3, k4, k5, k6⟩ := bs_mult (v := bs_b M f) W0 hown0 (show bs_b (nSF M 16 0) g = b from hB) (show bs_LT (nSF M 16 0) g from hLT) (X := bs_sv M g (bs_m M g) 0) (bs_sv_E (M := M) (M2 := nSF M 16 0) rfl g).symm hG (by omega) (by rw [hph0, show bs_s (nSF M 16 0) = bs_s M from rfl]; rcases hb with q | q <;> rw [q] at hprod hbud ⊢ <;> omega)
    rw [hph0, show bs_s (nSF M 16 0) = bs_s M from rfl] at k6
    have T1 : bs_T b Y M Y1 M1 := k5
    rw [c_X3_turnOver_L27, m_X6_turn_L79, pk_m1, if_neg (nI_pos (by omega)), if_neg (nI_pos (by omega)), if_neg bs_10, bs_o1 h hf, bs_bnd, bs_f2 h hf, nI_l (by omega), k1, bs_bnd2, w1, bs_bnd2, bs_gd (bs_inB (n := f) (by omega) (by decide)), bs_cl (n := f) (by omega), show nA (nSF M 16 0) 3 f = nI (bs_b M f) from bs_bN h.1 hf, nI_l (by omega), w2 rfl, k2, bs_bnd2]
    rcases k3 with rfl | rfl
    · rw [if_pos rfl, if_pos rfl, hlf]
      exact ⟨0, Y1, S1, M1, rfl, rfl, Or.inl rfl, k4, T1⟩
    · have hf1 : f < bs_n M1 := by rw [bs_T_n T1]; exact hf
      have e2 : mI S1 (Y 1 f) 2 = nI (bs_b M f) := by
        have := bs_f2 k4.1 hf1
        rw [T1.1 1 f (by decide), bs_T_b T1] at this
        exact this
      have e3 : nA M1 3 f = nI (bs_b M f) := by rw [T1.2.2.1.1]; exact bs_bN h.1 hf
      have hd : bs_dig (bs_b M f) X j < 16 := by
        have : bs_dig (bs_b M f) X j < bs_b M f := Nat.mod_lt _ (by omega)
        omega
      have dd2 : bs_dg b 64 (bs_dig (bs_b M f) X j) ≤ 2 := bs_dg_le b (by omega) 64 _ 2 (by omega) (by decide)
      have hB1 : bs_b M1 g = b := by rw [bs_T_b T1]; exact hB
      have s1 : bs_s M1 ≤ 4700 := by rcases hb with q | q <;> rw [q] at hprod hbud k6 <;> omega
      obtain ⟨z2, Y2, S2, M2, l1, l2, l3, l4, l5, l6, l7, l8⟩ := bs_pd k4 (bs_own_T T1 hg) (bs_LT_T T1 hB hLT) (v := bs_dig (bs_b M f) X j) (i0 := 0) (by omega) (by decide) 1 1 (Or.inl ⟨rfl, rfl⟩) (by omega)
      rw [hB1] at l5 l8
      have t8 := l8 rfl
      have T2 := bs_T_tr T1 l5
      rw [T1.1 3 0 (by decide), T1.1 1 g (by decide)] at l1
      have l1' : c_X3_putDigits S1 (Y 3 0) (some (Y 1 g)) (lN (bs_dig (bs_b M f) X j)) 0 1 = some (z2, S2) := l1
      have l2' : m_X6_changeAll M1 (nI g) 0 (lN (bs_dig (bs_b M f) X j)) 1 = some (z2, M2) := l2
      rw [if_neg bs_10, if_neg bs_10, bs_gd (bs_inB (n := f) (by omega) (by decide)), e2, e3, bs_c_dig (by omega) (by omega) hX (by omega), bs_bnd, bs_m_dig (by omega) (by omega) hX (by omega), bs_bnd, nI_l (by omega), l1', l2', bs_bnd2, bs_bnd2]
      rcases l3 with rfl | rfl
      · rw [if_pos rfl, if_pos rfl, hlf]
        exact ⟨0, Y2, S2, M2, rfl, rfl, Or.inl rfl, l4, T2⟩
      · rw [if_neg bs_10, if_neg bs_10]
        obtain ⟨z3, Y3, S3, M3, p1, p2, p3, p4, p5⟩ := bs_turnL (f := f) (g := g) hb hX j n n2 Y2 S2 M2 l4 (by rw [bs_T_n T2]; exact hf) (bs_own_T T2 hg) (by rw [bs_T_b T2]; exact hB) (bs_LT_T T2 hB hLT) (by intro k hk; rw [bs_T_m T2] at hk; rw [bs_T_rf T2, bs_T_r T2]; exact hr k hk) (by omega) (by omega) (by omega) (by rcases hb with q | q <;> rw [q] at hprod hbud k6 t8 dd2 ⊢ <;> omega)
        rw [T2.1 3 0 (by decide), T2.1 1 f (by decide), T2.1 1 g (by decide)] at p1
        exact ⟨z3, Y3, S3, M3, p1, p2, p3, p4, bs_T_tr T2 p5⟩
end BsTurn
