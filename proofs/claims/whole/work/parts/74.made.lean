/-! an exercise, made and solved by the class -/
theorem be_Ext_same {S S2 S3 : Mem} {a : Nat} (h : bs_Ext S S2) (k : mSame S2 S3 a) (ha : mNx S ≤ a) : bs_Ext S S3 := by
  obtain ⟨h1, h2, h3⟩ := h
  obtain ⟨k1, k2, k3, k4, k5, k6⟩ := k
  refine ⟨by rw [k2]; exact h1, k1.trans h2, fun b hb => ?_⟩
  obtain ⟨c1, c2, c3, c4, c5⟩ := h3 b hb
  obtain ⟨d1, d2, d3⟩ := k6 b (by omega)
  exact ⟨by rw [k4]; exact c1, by rw [k5]; exact c2, d1.trans c3, d2.trans c4, d3.trans c5⟩
/-- what the first true filling says, digit by digit -/
theorem be_fin {B : Nat} {D : Nat → Nat} (h : ∀ r, D r ≤ 9) {t : Int32} {u : Nat} (hu : be_ok1 B D t (be_X B D u) = true) {r : Nat} (hr : r < 12) :
    be_D (be_X B D u / 1000) (be_X B D u % 1000) (be_oX t (be_X B D u)).toNatClampNeg r = be_T B D (u * 10 ^ be_ct B 6 + be_Vu B t (be_X B D u)) r := by
  have hV := be_Vu_lt B t (be_X B D u)
  have k := (be_link h t (u := u) hV).mpr ⟨hu, rfl⟩
  have hX := be_X_lt (B := B) h u
  generalize hw : u * 10 ^ be_ct B 6 + be_Vu B t (be_X B D u) = w at *
  have dx : ∀ q, q < 6 → be_X B D u / 10 ^ q % 10 = be_T B D w (6 + q) := by
    intro q hq
    rw [← hw, be_T_hi hV]
    exact be_N_dig (be_U9 (B := B) h u) 6 q hq
  unfold be_D
  by_cases c1 : r < 6
  · rw [if_pos c1]
    have hT := be_N_lt (be_T9 (B := B) h w) 6
    have e1 : be_N (fun r => be_T B D w (6 + r)) 3 = be_X B D u % 1000 := by
      rw [be_N_ext (g := be_U B D u) 3 (fun r _ => by rw [← hw]; exact be_T_hi hV)]
      unfold be_X
      have := be_N_lt (be_U9 (B := B) h u) 3
      rw [be_N_63]
      omega
    have e2 : be_N (fun r => be_T B D w (9 + r)) 3 = be_X B D u / 1000 := by
      have e : be_N (fun r => be_T B D w (9 + r)) 3 = be_N (fun r => be_U B D u (3 + r)) 3 := by
        refine be_N_ext 3 (fun r _ => ?_)
        show be_T B D w (9 + r) = _
        rw [← hw, show 9 + r = 6 + (3 + r) by omega, be_T_hi hV]
      rw [e]
      unfold be_X
      have := be_N_lt (be_U9 (B := B) h u) 3
      rw [be_N_63]
      omega
    unfold be_ok2 at k
    rw [e1, e2, decide_eq_true_iff] at k
    have k : be_oX t (be_X B D u) = nI (be_N (be_T B D w) 6) := k
    rw [k, bs_cl (by omega)]
    exact be_N_dig (be_T9 (B := B) h w) 6 r c1
  · rw [if_neg c1]
    by_cases c2 : r < 9
    · rw [if_pos c2]
      have e := dx (r - 6) (by omega)
      rw [show 6 + (r - 6) = r by omega] at e
      rw [← e]
      generalize be_X B D u = x at *
      have : r = 6 ∨ r = 7 ∨ r = 8 := by omega
      rcases this with rfl | rfl | rfl
      · show x % 1000 / 1 % 10 = x / 1 % 10
        omega
      · show x % 1000 / 10 % 10 = x / 10 % 10
        omega
      · show x % 1000 / 100 % 10 = x / 100 % 10
        omega
    · rw [if_neg c2]
      have e := dx (r - 6) (by omega)
      rw [show 6 + (r - 6) = r by omega] at e
      rw [← e, Nat.div_div_eq_div_mul, show 1000 = 10 ^ 3 from rfl, ← Nat.pow_add, show 3 + (r - 9) = r - 6 by omega]
/-- the sum as it was written is one of the fillings -/
theorem be_own {B a b c : Nat} {t : Int32} (ha : a < 1000) (hb : b < 1000) (hc : c < 1000000) (h : be_opI t (nI a) (nI b) = nI c) : be_V B (be_D a b c) 12 < 10 ^ be_ct B 12 ∧ be_ok2 B (be_D a b c) t (be_V B (be_D a b c) 12) = true := by
  have h9 := be_D9 a b c
  refine ⟨be_V_lt h9 12, ?_⟩
  have e : ∀ r, r < 12 → be_T B (be_D a b c) (be_V B (be_D a b c) 12) r = be_D a b c r := by
    intro r hr
    unfold be_T
    cases q : be_bl B r
    · rfl
    · rw [if_pos rfl]
      exact be_V_dig h9 12 r hr q
  have e1 : be_N (fun r => be_T B (be_D a b c) (be_V B (be_D a b c) 12) (9 + r)) 3 = a := by
    have := be_N_self a 3
    rw [Nat.mod_eq_of_lt (show a < 10 ^ 3 from ha)] at this
    refine Eq.trans (be_N_ext (g := fun r => a / 10 ^ r % 10) 3 (fun r hr => ?_)) this
    show be_T B (be_D a b c) (be_V B (be_D a b c) 12) (9 + r) = a / 10 ^ r % 10
    rw [e _ (by omega)]
    unfold be_D
    rw [if_neg (by omega), if_neg (by omega), Nat.add_sub_cancel_left]
  have e2 : be_N (fun r => be_T B (be_D a b c) (be_V B (be_D a b c) 12) (6 + r)) 3 = b := by
    have := be_N_self b 3
    rw [Nat.mod_eq_of_lt (show b < 10 ^ 3 from hb)] at this
    refine Eq.trans (be_N_ext (g := fun r => b / 10 ^ r % 10) 3 (fun r hr => ?_)) this
    show be_T B (be_D a b c) (be_V B (be_D a b c) 12) (6 + r) = b / 10 ^ r % 10
    rw [e _ (by omega)]
    unfold be_D
    rw [if_neg (by omega), if_pos (by omega), Nat.add_sub_cancel_left]
  have e3 : be_N (be_T B (be_D a b c) (be_V B (be_D a b c) 12)) 6 = c := by
    have := be_N_self c 6
    rw [Nat.mod_eq_of_lt (show c < 10 ^ 6 from hc)] at this
    refine Eq.trans (be_N_ext (g := fun r => c / 10 ^ r % 10) 6 (fun r hr => ?_)) this
    show be_T B (be_D a b c) (be_V B (be_D a b c) 12) r = c / 10 ^ r % 10
    rw [e _ (by omega)]
    unfold be_D
    rw [if_pos hr]
  unfold be_ok2
  rw [e1, e2, e3]
  exact decide_eq_true h
/-- how many ways there are, and the first of them -/
def be_R (B : Nat) (D : Nat → Nat) (t : Int32) : Nat × Nat := be_run (be_ok2 B D t) (10 ^ be_ct B 12)
theorem be_R1 {B : Nat} {D : Nat → Nat} (h : ∀ r, D r ≤ 9) (t : Int32) : (be_R B D t).1 = (be_run (be_ok B D t) (10 ^ be_kk B 6)).1 ∧ (0 < (be_run (be_ok B D t) (10 ^ be_kk B 6)).1 → (be_R B D t).2 = (be_run (be_ok B D t) (10 ^ be_kk B 6)).2 * 10 ^ be_ct B 6 + be_Vu B t (be_X B D (be_run (be_ok B D t) (10 ^ be_kk B 6)).2)) := by
  have k := be_runs (ok1 := be_ok B D t) (ok2 := be_ok2 B D t) (P := 10 ^ be_ct B 6) (V := fun u => be_Vu B t (be_X B D u)) (fun u => be_Vu_lt B t _) (fun u v hv => be_link h t hv) (10 ^ be_kk B 6)
  have e : 10 ^ be_kk B 6 * 10 ^ be_ct B 6 = 10 ^ be_ct B 12 := by
    have : be_ct B 6 ≤ be_ct B 12 := be_ct_mono (by decide)
    rw [← Nat.pow_add]
    congr 1
    unfold be_kk
    show be_ct B 12 - be_ct B 6 + be_ct B 6 = _
    omega
  rw [e] at k
  exact k
theorem be_c_solve {S : Mem} {X R B a b c : Nat} {t : Int32} (h : be_Ex S X R B (be_D a b c) t) (h3 : mI S X 3 = 0) (h4 : mI S X 4 = -1) (ha : a < 1000) (hb : b < 1000) (hc : c < 1000000) (ho : be_opI t (nI a) (nI b) = nI c) :
    0 < (be_R B (be_D a b c) t).1 ∧ ∃ S' S'', c_X0_solve S X = some S'' ∧ mSame S S' X ∧ mR S' X = mR S X ∧ (∀ k, k ≠ 3 → k ≠ 4 → mI S' X k = mI S X k) ∧ mSame S' S'' R ∧ mI S' X 3 = nI (be_R B (be_D a b c) t).1 ∧ ∀ r, r < 12 → mI S'' R (11 - r) = nI (be_T B (be_D a b c) (be_R B (be_D a b c) t).2 r) := by
  have h9 := be_D9 a b c
  obtain ⟨o1, o2⟩ := be_own (B := B) ha hb hc ho
  have pos : 0 < (be_R B (be_D a b c) t).1 := be_run_pos _ _ _ o1 o2
  obtain ⟨r1, r2⟩ := be_R1 (B := B) h9 t
  rw [r1] at pos
  have r2 := r2 pos
  refine ⟨by rw [r1]; exact pos, ?_⟩
  obtain ⟨g1, g2⟩ := be_run_ok _ _ pos
  generalize hu : (be_run (be_ok B (be_D a b c) t) (10 ^ be_kk B 6)).2 = u at *
  have hX := be_X_lt (B := B) h9 u
  have g1 : be_ok1 B (be_D a b c) t (be_X B (be_D a b c) u) = true := g1
  obtain ⟨C, hC, eC⟩ : ∃ C, C < 1000000 ∧ be_oX t (be_X B (be_D a b c) u) = nI C := by
    rcases be_oX_C t hX with q | q
    · have := (be_ok1_iff.mp g1).1
      rw [Int32.lt_iff_toInt_lt] at q
      rw [Int32.le_iff_toInt_le] at this
      omega
    · exact q
  have fin := fun r hr => be_fin h9 g1 (r := r) hr
  rw [eC, bs_cl (by omega)] at fin
  rw [r1, r2]
  have hf : be_f B (be_D a b c) t (10 ^ be_kk B 6) = nI (be_X B (be_D a b c) u) := by
    unfold be_f
    rw [if_neg (by omega), hu]
  have tr := be_tryAll h h3 h4
  unfold be_S at tr
  rw [hf] at tr
  have hE := be_Ex_st h (nI (be_run (be_ok B (be_D a b c) t) (10 ^ be_kk B 6)).1) (nI (be_X B (be_D a b c) u))
  generalize hS : be_st S X (nI (be_run (be_ok B (be_D a b c) t) (10 ^ be_kk B 6)).1) (nI (be_X B (be_D a b c) u)) = S1 at *
  have s1 : mSame S S1 X := by
    rw [← hS]
    exact be_smT (mSame_I _ _ _ _) (mSame_I _ _ _ _)
  have e4 : mI S1 X 4 = nI (be_X B (be_D a b c) u) := by rw [← hS, be_st_I, if_pos ⟨rfl, rfl⟩]
  have e3 : mI S1 X 3 = nI (be_run (be_ok B (be_D a b c) t) (10 ^ be_kk B 6)).1 := by rw [← hS, be_st_I, if_neg (fun q => absurd q.2 (by decide)), if_pos ⟨rfl, rfl⟩]
  generalize be_X B (be_D a b c) u = x at *
  obtain ⟨S', f1, f2, f3⟩ := be_c_spread (S := S1) (a := x / 1000) (b := x % 1000) (c := C) (R := R) (by omega) (by omega) hC hE.2.2.2.1.1 hE.2.2.2.1.2.1
  refine ⟨S1, S', ?_, s1, ?_, ?_, f2, e3, ?_⟩
  · unfold c_X0_solve
    rw [show (10 : Nat) = 10 from rfl, tr, bs_bnd, e4, if_neg (nI_pos (by omega)), hE.2.1, bs_lit 1000, pk_rem (by omega) (by decide) (by decide), pk_div (by omega) (by decide) (by decide), be_c_res, bs_bnd]
    rw [show be_opI t (nI (x / 1000)) (nI (x % 1000)) = nI C from eC, hE.2.2.1, f1, bs_bnd]
  · rw [← hS]; rfl
  · intro k k3 k4
    rw [← hS, be_st_ne _ _ _ _ (Or.inr ⟨k3, k4⟩)]
  · intro r hr
    rw [f3 r hr, fin r hr]
