/-! methods of two frames: what is common to them; turn -/
section BsFront
variable {x0 s0 : Nat} {Y : bs_Ly} {S : Mem} {M : MS}
theorem bs_front (h : bs_Rel x0 s0 Y S M) {f g : Nat} (hf : f < bs_n M) (hg : g < bs_n M) {v : Int64} (hv : 0 ≤ v) (lb bz : Bool) (L BZ : Int32) (hL : L = if lb then 1 else 0) (hBZ : BZ = if bz then 1 else 0) (CB : Mem → Nat → Option (Int32 × Mem)) (MB : MS → Int64 → Option (Int32 × MS))
    (hbody : ∀ S1 M1, bs_W x0 s0 (bs_Yo Y (g + 1)) S1 M1 → bs_s M1 = 0 → nA M1 = nA M → bs_own (bs_Yo Y (g + 1)) M1 f → bs_own (bs_Yo Y (g + 1)) M1 g → bs_n M1 = bs_n M → bs_LT M f → bs_LT M g → (∀ k, k < bs_m M f → bs_rf M (bs_r M f k) = 0) → bs_sv M f (bs_m M f) 0 < 2 ^ 63 → (lb = true → bs_b M f = bs_b M g) → bz = false →
      ∃ r S' M' Y', (bnd2 (CB S1 (Y 3 0)) fun z S2 => bnd2 (c_X3_close S2 (Y 3 0) z) fun r S3 => some (r, S3)) = some (r, S') ∧ MB M1 (lN (bs_sv M f (bs_m M f) 0)) = some (r, M') ∧ bs_Rel x0 s0 Y' S' M' ∧ (Y' 0 0, Y' 14 0) = (Y 0 0, Y 14 0)) :
    bs_OK x0 s0 Y (bnd (c_X5_refusalOfTwo S (some (Y 1 f)) (some (Y 1 g)) v L) fun i9 => bnd2 (c_X5_opened S (Y 0 0) (some (Y 1 f)) (some (Y 1 g)) i9 BZ) fun i S => if i = 0 then (bnd (ob S (mR S (Y 0 0) 4) 4) fun a => bnd2 (CB S a) fun z S2 => bnd2 (c_X3_close S2 a z) fun r S3 => some (r, S3)) else some (i, S))
      (bnd (m_X6_bars M (nI f) (nI g) L) fun i9 => if 0 ≤ i9 then (bnd2 (m_X6_shown M (nI f)) fun j S => if nF S 16 ≤ 0 then (if bz = true then (bnd2 (m_X6_meets S 5) fun a b => some (a, b)) else bnd (m_X6_start S (nI f)) fun S2 => MB S2 j) else (bnd2 (m_X6_meets S (nF S 16)) fun a b => some (a, b))) else some (-3, M)) := by
  obtain ⟨e1, e2⟩ := bs_refTwo h hf hg hv lb L hL
  rw [e1, e2, bs_bnd, bs_bnd]
  cases hok : bs_ok2 M f g lb
  · rw [if_neg Bool.false_ne_true]
    unfold c_X5_opened
    rw [if_neg (by decide), bs_bnd2, if_neg (by decide), if_neg (by decide)]
    exact bs_same h _
  · unfold bs_ok2 at hok
    rw [Bool.and_eq_true, Bool.and_eq_true, Bool.and_eq_true, Bool.or_eq_true] at hok
    obtain ⟨⟨⟨a1, a2⟩, -⟩, a4⟩ := hok
    obtain ⟨w, w1, w2⟩ := bs_m_sv h.1 hf
    have h' : bs_Rel x0 s0 Y S (nSF M 16 (bs_ff M f (bs_m M f) 0)) := h
    rw [if_pos rfl, if_pos (by decide)]
    unfold c_X5_opened
    rw [if_pos rfl, bs_o1 h hf, bs_bnd, bs_c_ff h hf, bs_bnd, w1, bs_bnd2, bs_nF_eq]
    by_cases c3 : bs_ff M f (bs_m M f) 0 = 0
    · rw [if_pos c3, if_pos ((bs_ff_le _ _ _ _).mpr c3), hBZ]
      cases bz
      · rw [if_neg Bool.false_ne_true, if_neg Bool.false_ne_true, if_pos rfl]
        unfold c_X5_opened_J25
        obtain ⟨S1, M1, o1, o2, o3, o4, o5, o6, o7, o8⟩ := bs_open h' (f := f) hf (g := g + 1) (Or.inr hg)
        have o1' : c_X3_open S (Y 3 0) (some (Y 1 f)) (some (Y 1 g)) = some S1 := o1
        have hn1 : bs_n M1 = bs_n M := by unfold bs_n; rw [o8]; rfl
        have q5 : mR S1 (Y 0 0) 4 = some (Y 3 0) := bs_q o3.1 0 0 4 rfl rfl
        have q6 : mKd S1 (Y 3 0) = 4 := bs_kk o3.1 3 0 rfl
        have hLT := bs_LTap h.1 a1
        have hall : ∀ k, k < bs_m M f → bs_rf M (bs_r M f k) = 0 := fun k hk => bs_ff_all _ _ c3 k (Nat.zero_le _) (by omega)
        obtain ⟨r, S', M', Y', b1, b2, b3, b4⟩ := hbody S1 M1 o3 o4 o5 ⟨by rw [hn1]; exact hf, o6, Or.inl o7⟩ ⟨by rw [hn1]; exact hg, o6, Or.inr rfl⟩ hn1 hLT (bs_LTap h.1 a2) hall (bs_X63 h.1 hf hLT hall) (by
          intro q
          rcases a4 with a4 | a4
          · rw [q] at a4
            exact absurd a4 (by decide)
          · exact of_decide_eq_true a4) rfl
        rw [if_pos c3, bs_q h 0 0 4 rfl rfl, bs_o3 h, bs_bnd, o1', o2, bs_bnd, bs_bnd, bs_bnd2, if_pos rfl, q5, bs_ob q6, bs_bnd, w2 c3, b1, b2]
        exact ⟨r, S', M', Y', rfl, rfl, b3, b4⟩
      · rw [if_pos rfl, if_pos rfl, if_neg bs_10]
        exact bs_opF h' (f := f) hf _ 5 (Or.inr (Or.inr rfl)) _
    · rw [if_neg c3, if_neg (fun q => c3 ((bs_ff_le _ _ _ _).mp q))]
      refine bs_opF h' (f := f) hf _ _ ?_ _
      rcases bs_ff3 M f (bs_m M f) 0 with q | q | q
      · exact absurd q c3
      · exact Or.inl q
      · exact Or.inr (Or.inl q)
/-- the ends: both sides close what they did -/
theorem bs_clOK {Y2 : bs_Ly} {z : Int32} {B : Nat} {M0 : MS} {Yo : bs_Ly} (hW : bs_W x0 s0 Y2 S M) (hz : z = 0 ∨ z = 1) (hT : bs_T B Yo M0 Y2 M) (h3 : Yo 3 0 = Y 3 0 ∧ Yo 0 0 = Y 0 0 ∧ Yo 14 0 = Y 14 0) :
    ∃ r S' M', (bnd2 (c_X3_close S (Y 3 0) z) fun r S3 => some (r, S3)) = some (r, S') ∧ (bnd2 (m_X6_ended M z) fun a b => some (a, b)) = some (r, M') ∧ bs_Rel x0 s0 Y2 S' M' ∧ (Y2 0 0, Y2 14 0) = (Y 0 0, Y 14 0) := by
  obtain ⟨r, S3, M3, l1, l2, l3⟩ := bs_close hW hz
  rw [hT.1 3 0 (by decide), h3.1] at l1
  refine ⟨r, S3, M3, by rw [l1]; rfl, by rw [l2]; rfl, l3, by rw [hT.1 0 0 (by decide), hT.1 14 0 (by decide), h3.2.1, h3.2.2]⟩
theorem bs_op_turn (h : bs_Rel x0 s0 Y S M) (x y : Int32) : bs_OK x0 s0 Y (c_X5_turn S (Y 0 0) x y) (m_X6_turn M x y) := by
  unfold c_X5_turn m_X6_turn
  rcases bs_which h.1 x with hx | ⟨f, hf, rfl⟩
  · rw [bs_c_unknown h hx, bs_m_noF h.1 hx, bs_bnd]
    rcases bs_which h.1 y with hy | ⟨g, hg, rfl⟩
    · rw [bs_c_unknown h hy]
      exact bs_same h _
    · rw [bs_c_known h hg]
      exact bs_same h _
  · rcases bs_which h.1 y with hy | ⟨g, hg, rfl⟩
    · rw [bs_c_known h hf, bs_c_unknown h hy, bs_m_isF h.1 hf, bs_m_noF h.1 hy]
      exact bs_same h _
    · rw [bs_c_known h hf, bs_c_known h hg, bs_m_isF h.1 hf, bs_m_isF h.1 hg, bs_bnd, bs_bnd, bs_bnd, bs_bnd, bs_ocS, bs_ocS, if_neg bs_10, if_neg bs_10]
      refine bs_front h hf hg (v := 0) (by decide) false false 0 0 rfl rfl (fun S a => c_X3_turnOver S a (some (Y 1 f)) (some (Y 1 g))) (fun S18 j13_ => bnd2 (m_X6_clear S18 (nI g)) fun i20_ S21 => gd (inB (nI f) 30) (bnd (m_X6_digits j13_ (nA S21 3 (Int32.toNatClampNeg (nI f)))) fun i25_ => jLet (i25_ - 1) fun i27_ => m_X6_turn_L79 bigN S21 (nI f) (nI g) j13_ i20_ i27_)) ?_
      intro S1 M1 W1 s1 nA1 of1 og1 n1 LTf LTg rdf X63 _ _
      have hn30 := bs_n30 h.1
      have hbf := bs_bb h.1 hf
      have hbg := bs_bb h.1 hg
      have b1 : bs_b M1 = bs_b M := by funext r; unfold bs_b; rw [nA1]
      have m1 : bs_m M1 = bs_m M := by funext r; unfold bs_m; rw [nA1]
      have hLg := bs_LT_A nA1 LTg
      obtain ⟨z, Y2, S2, M2, k1, k2, k3, k4, k5, -, -, k8, k9⟩ := bs_clear W1 og1 hLg (by rw [s1]; decide)
      rw [b1] at k5 k8
      have k1' : c_X3_clear S1 (Y 3 0) (some (Y 1 g)) = some (z, S2) := k1
      have hYo : bs_Yo Y (g + 1) 3 0 = Y 3 0 ∧ bs_Yo Y (g + 1) 0 0 = Y 0 0 ∧ bs_Yo Y (g + 1) 14 0 = Y 14 0 := ⟨rfl, rfl, rfl⟩
      have e1 : c_X1_sum S1 (Y 1 f) = some (lN (bs_sv M f (bs_m M f) 0)) := by
        have := bs_c_sum W1.1 of1.1
        rw [bs_sv_E nA1 f] at this
        exact this
      have o1 : ob S1 (some (Y 1 f)) 2 = some (Y 1 f) := bs_o1 W1.1 of1.1
      have f2 : mI S2 (Y 1 f) 2 = nI (bs_b M f) := by
        have := bs_f2 k4.1 (f := f) (by rw [bs_T_n k5]; exact of1.1)
        rw [k5.1 1 f (by decide), bs_T_b k5, b1] at this
        exact this
      have f3 : nA M2 3 f = nI (bs_b M f) := by rw [k5.2.2.1.1, nA1]; exact bs_bN h.1 hf
      have dX := bs_dg19 (b := bs_b M f) (by omega) X63
      show ∃ r S' M' Y', (bnd2 (c_X3_turnOver S1 (Y 3 0) (some (Y 1 f)) (some (Y 1 g))) fun z S2 => bnd2 (c_X3_close S2 (Y 3 0) z) fun r S3 => some (r, S3)) = some (r, S') ∧ (bnd2 (m_X6_clear M1 (nI g)) fun i20_ S21 => gd (inB (nI f) 30) (bnd (m_X6_digits (lN (bs_sv M f (bs_m M f) 0)) (nA S21 3 (Int32.toNatClampNeg (nI f)))) fun i25_ => jLet (i25_ - 1) fun i27_ => m_X6_turn_L79 bigN S21 (nI f) (nI g) (lN (bs_sv M f (bs_m M f) 0)) i20_ i27_)) = some (r, M') ∧ bs_Rel x0 s0 Y' S' M' ∧ (Y' 0 0, Y' 14 0) = (Y 0 0, Y 14 0)
      unfold c_X3_turnOver
      rw [o1, bs_bnd, e1, bs_bnd, k1', bs_bnd2, k2, bs_bnd2, bs_gd (bs_inB (n := f) (by omega) (by decide)), bs_cl (n := f) (by omega), f3, bs_m_dg (by omega) (by omega) X63, bs_bnd, bs_let, Int32.sub_eq_add_neg]
      rcases k3 with rfl | rfl
      · rw [if_pos rfl, bs_bnd2, show bigN = 999999 + 1 from rfl, m_X6_turn_L79, if_pos rfl]
        obtain ⟨r, S', M', c1, c2, c3, c4⟩ := bs_clOK k4 (Or.inl rfl) k5 hYo
        refine ⟨r, S', M', Y2, c1, ?_, c3, c4⟩
        split <;> exact c2
      · have hph := bs_ph_le W1.1.1 540 (by decide)
        rw [s1] at k8
        obtain ⟨z3, Y3, S3, M3, p1, p2, p3, p4, p5⟩ := bs_turnL (f := f) (g := g) hbg X63 (bs_dg (bs_b M f) 64 (bs_sv M f (bs_m M f) 0)) bigN bigN Y2 S2 M2 k4 (by rw [bs_T_n k5]; exact of1.1) (bs_own_T k5 og1) (by rw [bs_T_b k5, b1]) (bs_LT_T k5 (by rw [b1]) hLg) (by intro k hk; rw [bs_T_m k5] at hk; rw [bs_T_rf k5, bs_T_r k5]; exact k9 rfl k hk) (by omega) (by unfold bigN; omega) (by unfold bigN; omega) (by rcases hbg with q | q <;> rw [q] at k8 ⊢ <;> omega)
        rw [k5.1 3 0 (by decide), k5.1 1 f (by decide), k5.1 1 g (by decide)] at p1
        have p1' : c_X3_turnOver_L27 bigN S2 (Y 3 0) (some (Y 1 f)) (some (Y 1 g)) (lN (bs_sv M f (bs_m M f) 0)) (nI (bs_dg (bs_b M f) 64 (bs_sv M f (bs_m M f) 0)) + (-1)) = some (z3, S3) := p1
        rw [if_neg bs_10, f2, bs_c_dg (by omega) (by omega) X63, bs_bnd, bs_let, Int32.sub_eq_add_neg, p1', bs_bnd2, p2]
        obtain ⟨r, S', M', c1, c2, c3, c4⟩ := bs_clOK p4 p3 (bs_T_tr k5 p5) hYo
        exact ⟨r, S', M', Y3, c1, c2, c3, c4⟩
end BsFront
