/-! a new exercise in the class -/
def be_x1 (s : Int32) : Nat := be_v (be_nx s) % 1000
def be_x2 (s : Int32) : Nat := be_v (be_nx (be_nx s)) % 1000
def be_a (t s : Int32) : Nat := if t = 1 then max (be_x1 s) (be_x2 s) else be_x1 s
def be_b (t s : Int32) : Nat := if t = 1 then min (be_x1 s) (be_x2 s) else be_x2 s
def be_c (t s : Int32) : Nat := (be_opI t (nI (be_a t s)) (nI (be_b t s))).toNatClampNeg
def be_s3 (s : Int32) : Int32 := be_nx (be_nx (be_nx s))
def be_n (s : Int32) : Nat := 1 + be_v (be_s3 s) % 4
def be_B (s : Int32) : Nat := be_bk (be_n s) (be_s3 s) 0
theorem be_abc (t s : Int32) : be_a t s < 1000 ∧ be_b t s < 1000 ∧ be_c t s < 1000000 ∧ be_opI t (nI (be_a t s)) (nI (be_b t s)) = nI (be_c t s) := by
  have h1 : be_x1 s < 1000 := Nat.mod_lt _ (by decide)
  have h2 : be_x2 s < 1000 := Nat.mod_lt _ (by decide)
  have ha : be_a t s < 1000 := by unfold be_a; split <;> omega
  have hb : be_b t s < 1000 := by unfold be_b; split <;> omega
  have hab : t = 1 → be_b t s ≤ be_a t s := fun q => by unfold be_a be_b; rw [if_pos q, if_pos q]; omega
  refine ⟨ha, hb, ?_⟩
  have : ∃ C, C < 1000000 ∧ be_opI t (nI (be_a t s)) (nI (be_b t s)) = nI C := by
    unfold be_opI
    by_cases c0 : t = 0
    · rw [if_pos c0, nI_add]
      exact ⟨_, by omega, rfl⟩
    · rw [if_neg c0]
      by_cases c1 : t = 1
      · rw [if_pos c1, pk_sub (hab c1)]
        exact ⟨_, by omega, rfl⟩
      · rw [if_neg c1, pk_mul]
        have : be_a t s * be_b t s ≤ 999 * 999 := Nat.mul_le_mul (by omega) (by omega)
        exact ⟨_, by omega, rfl⟩
  obtain ⟨C, hC, e⟩ := this
  have : be_c t s = C := by unfold be_c; rw [e, bs_cl (by omega)]
  rw [this]
  exact ⟨hC, e⟩
section BeInit
variable {x0 s0 : Nat} {Y : bs_Ly} {S : Mem} {M : MS}
theorem be_c_make (h : bs_Rel x0 s0 Y S M) (t s : Int32) : ∃ S0 S', c_X0_init (mNew S 1 0 (cN 0)) (mNx S) t = some S0 ∧ c_X0_draw S0 (mNx S) s = some S' ∧ bs_Ext S S' ∧ be_Ex S' (mNx S) (mNx S + 1) (be_B s) (be_D (be_a t s) (be_b t s) (be_c t s)) t ∧ mI S' (mNx S) 3 = 0 ∧ mI S' (mNx S) 4 = -1 ∧ mKd S' (mNx S) = 1 ∧ mNx S' = mNx S + 2 ∧ mSl S' ≤ mSl S + 30 := by
  obtain ⟨ha, hb, hc, ho⟩ := be_abc t s
  have w0 : mW S = Y 13 0 := h.2.1.2.2.2.2.2.2.2.2.2.2.1
  have w1 : mLn S (Y 13 0) = 6 := h.2.1.2.2.2.2.2.2.2.2.2.2.2.1
  have w2 : mKd S (Y 13 0) = 14 := h.2.1.1 13 0 rfl
  have wl : Y 13 0 < mNx S := bs_ltNx h (t := 13) (i := 0) rfl
  have ww : ∀ r, r < 6 → mI S (Y 13 0) (5 - r) = nI (10 ^ r) := by
    intro r hr
    have : r = 0 ∨ r = 1 ∨ r = 2 ∨ r = 3 ∨ r = 4 ∨ r = 5 := by omega
    rcases this with rfl | rfl | rfl | rfl | rfl | rfl
    · exact bs_i h 13 0 5 rfl rfl
    · exact bs_i h 13 0 4 rfl rfl
    · exact bs_i h 13 0 3 rfl rfl
    · exact bs_i h 13 0 2 rfl rfl
    · exact bs_i h 13 0 1 rfl rfl
    · exact bs_i h 13 0 0 rfl rfl
  generalize hX : mNx S = X at *
  -- the cells
  let S1 := mNew (mNew S 1 0 (cN 0)) 8 12 12
  let S9 := mSI (mSI (mSR S1 X 1 (some (X + 1))) X 4 (-1)) X 0 t
  have E1 : bs_Ext S S1 := bs_Ext_new (bs_Ext_new (bs_Ext_refl S) 1 0 (cN 0)) 8 12 12
  have E9 : bs_Ext S S9 := bs_Ext_I (bs_Ext_I (bs_Ext_R E1 (by rw [hX]; omega) 1 _) (by rw [hX]; omega) 4 _) (by rw [hX]; omega) 0 _
  have n9 : mNx S9 = X + 2 := by show mNx S + 1 + 1 = _; rw [hX]
  have l9 : mSl S9 ≤ mSl S + 30 := by
    show mSl S + cN 0 + 12 ≤ _
    have : cN 0 ≤ 18 := by decide
    omega
  have kX9 : mKd S9 X = 1 := by
    show mKd S1 X = 1
    show mKd (mNew (mNew S 1 0 (cN 0)) 8 12 12) X = 1
    rw [mKd_new, if_neg (show X ≠ mNx (mNew S 1 0 (cN 0)) by show X ≠ mNx S + 1; omega), mKd_new, if_pos hX.symm]
  have kR9 : mKd S9 (X + 1) = 8 := by
    show mKd (mNew (mNew S 1 0 (cN 0)) 8 12 12) (X + 1) = 8
    rw [mKd_new, if_pos (show X + 1 = mNx (mNew S 1 0 (cN 0)) by show X + 1 = mNx S + 1; omega)]
  have lR9 : mLn S9 (X + 1) = 12 := by
    show up1 _ (mNx S + 1) 12 (X + 1) = 12
    unfold up1
    rw [if_pos (by omega)]
  have rX9 : mR S9 X 1 = some (X + 1) := by
    show mR (mSR S1 X 1 (some (X + 1))) X 1 = _
    rw [bs_mR, if_pos ⟨rfl, rfl⟩]
  have z1 : ∀ k, mI S1 X k = 0 := by
    intro k
    show mI (mNew (mNew S 1 0 (cN 0)) 8 12 12) X k = 0
    rw [(mNew_other _ 8 12 12 (show X ≠ mNx (mNew S 1 0 (cN 0)) by show X ≠ mNx S + 1; omega)).1]
    show up1 S.2.2.1 (mNx S) (fun _ => 0) X k = 0
    unfold up1
    rw [if_pos hX.symm]
  have i9 : ∀ k, mI S9 X k = if k = 0 then t else if k = 4 then -1 else 0 := by
    intro k
    show mI (mSI (mSI (mSR S1 X 1 (some (X + 1))) X 4 (-1)) X 0 t) X k = _
    rw [bs_mI]
    by_cases c : k = 0
    · rw [if_pos ⟨rfl, c⟩, if_pos c]
    · rw [if_neg (fun q => c q.2), if_neg c, bs_mI]
      by_cases d : k = 4
      · rw [if_pos ⟨rfl, d⟩, if_pos d]
      · rw [if_neg (fun q => d q.2), if_neg d]
        exact z1 k
  -- the digits
  obtain ⟨S3, f1, f2, f3⟩ := be_c_spread (S := S9) (R := X + 1) ha hb hc kR9 lR9
  have i3 : mI S3 X = mI S9 X := (f2.2.2.2.2.2 X (by omega)).1
  have r3 : mR S3 X = mR S9 X := (f2.2.2.2.2.2 X (by omega)).2.2
  -- the blanks
  have n4 : be_n s ≤ 4 := by unfold be_n; omega
  obtain ⟨S', g1, g2, g3, g4, g5, g6⟩ := be_c_L124 (X := X) n4 (be_n s) bigN 0 S3 (be_s3 s) 0 (by omega) (by unfold bigN; omega) (by rw [i3, i9]; rfl) (by decide)
  have E3 : bs_Ext S S3 := be_Ext_same E9 f2 (by omega)
  have E' : bs_Ext S S' := be_Ext_same E3 g2 (by omega)
  refine ⟨S9, S', ?_, ?_, E', ?_, ?_, ?_, ?_, ?_, ?_⟩
  · unfold c_X0_init
    rw [bs_let, bs_let, bs_let, bs_let, bs_let]
    show some (mSI (mSI (mSR S1 X 1 (some (mNx S + 1))) X 4 (-1)) X 0 t) = some (mSI (mSI (mSR S1 X 1 (some (X + 1))) X 4 (-1)) X 0 t)
    rw [hX]
  · have i90 : mI S9 X 0 = t := (i9 0).trans (if_pos rfl)
    have J86 : ∀ p q, p = be_a t s → q = be_b t s → c_X0_draw_J66 S9 X (be_nx (be_nx s)) (nI p) (nI q) = some S' := by
      intro p q hp hq
      subst hp hq
      unfold c_X0_draw_J66
      rw [i90, be_c_res, bs_bnd, ho, rX9, f1, bs_bnd, be_c_next, bs_bnd, show (4 : Int32) = nI 4 from rfl, be_c_drawn _ (by decide) (by decide), bs_bnd, bs_let, show (1 : Int32) + nI (be_v (be_nx (be_nx (be_nx s))) % 4) = nI (be_n s) from nI_add 1 _]
      exact g1
    have h1 : be_x1 s < 1000 := Nat.mod_lt _ (by decide)
    have h2 : be_x2 s < 1000 := Nat.mod_lt _ (by decide)
    have e0 : c_X0_draw S9 X s = if t = 1 then c_X0_draw_J45 S9 X (be_nx (be_nx s)) (nI (be_x1 s)) (nI (be_x2 s)) (if nI (be_x1 s) < nI (be_x2 s) then nI (be_x2 s) else nI (be_x1 s)) else c_X0_draw_J45 S9 X (be_nx (be_nx s)) (nI (be_x1 s)) (nI (be_x2 s)) (nI (be_x1 s)) := by
      unfold c_X0_draw
      rw [be_c_next, bs_bnd, show (1000 : Int32) = nI 1000 from rfl, be_c_drawn _ (by decide) (by decide), bs_bnd, be_c_next, bs_bnd, be_c_drawn _ (by decide) (by decide), bs_bnd, i90]
      rfl
    rw [e0]
    unfold c_X0_draw_J45
    rw [i90]
    by_cases c : t = 1
    · rw [if_pos c, if_pos c]
      have m1 : (if nI (be_x1 s) < nI (be_x2 s) then nI (be_x2 s) else nI (be_x1 s)) = nI (be_a t s) := by
        unfold be_a
        rw [if_pos c]
        by_cases d : be_x1 s < be_x2 s
        · rw [if_pos (nI_lt d (by omega)), show max (be_x1 s) (be_x2 s) = be_x2 s by omega]
        · rw [if_neg (nI_nlt (by omega) (by omega)), show max (be_x1 s) (be_x2 s) = be_x1 s by omega]
      have m2 : (if nI (be_x2 s) < nI (be_x1 s) then nI (be_x2 s) else nI (be_x1 s)) = nI (be_b t s) := by
        unfold be_b
        rw [if_pos c]
        by_cases d : be_x2 s < be_x1 s
        · rw [if_pos (nI_lt d (by omega)), show min (be_x1 s) (be_x2 s) = be_x2 s by omega]
        · rw [if_neg (nI_nlt (by omega) (by omega)), show min (be_x1 s) (be_x2 s) = be_x1 s by omega]
      rw [m1, m2]
      exact J86 _ _ rfl rfl
    · rw [if_neg c, if_neg c]
      exact J86 _ _ (by unfold be_a; rw [if_neg c]) (by unfold be_b; rw [if_neg c])
  · have o : ∀ a, a < X → mI S' a = mI S a := fun a hl => (E'.2.2 a (by omega)).2.2.1
    refine ⟨⟨g4, g5⟩, ?_, ?_, ⟨?_, ?_, by omega⟩, ?_, be_D9 _ _ _, ?_, ?_⟩
    · rw [g6 0 (by decide), i3, i9]; rfl
    · rw [g3, r3]; exact rX9
    · rw [g2.2.2.2.1, f2.2.2.2.1]; exact kR9
    · rw [g2.2.2.2.2.1, f2.2.2.2.2.1]; exact lR9
    · intro r hr
      rw [(g2.2.2.2.2.2 (X + 1) (by omega)).1]
      exact f3 r hr
    · rw [E'.2.1, w0]
      exact ⟨(E'.2.2 _ (by omega)).1.trans w2, (E'.2.2 _ (by omega)).2.1.trans w1, by omega⟩
    · rw [E'.2.1, w0, o _ wl]
      exact ww
  · rw [g6 3 (by decide), i3, i9]; rfl
  · rw [g6 4 (by decide), i3, i9]; rfl
  · rw [g2.2.2.2.1, f2.2.2.2.1]; exact kX9
  · rw [g2.2.1, f2.2.1]; exact n9
  · rw [g2.2.2.1, f2.2.2.1]; exact l9
end BeInit
