theorem bs_kDrop {S : Mem} {a b : Nat} (h : b < a) : mKd (mDrop S a) b = mKd S b := by
  show (if b < mNx S then (if a ≤ b ∧ b < a + 24 then 0 else S.1 b) else 0) = if b < mNx S then S.1 b else 0
  rw [if_neg (show ¬ (a ≤ b ∧ b < a + 24) by omega)]
theorem bs_beginRel {S0 S2 S4 : Mem} (hw1 : mKd S0 (mW S0) = 14) (hw2 : mW S0 < mNx S0) (hw3 : mLn S0 (mW S0) = 6) (hw4 : mI S0 (mW S0) 0 = 100000 ∧ mI S0 (mW S0) 1 = 10000 ∧ mI S0 (mW S0) 2 = 1000 ∧ mI S0 (mW S0) 3 = 100 ∧ mI S0 (mW S0) 4 = 10 ∧ mI S0 (mW S0) 5 = 1)
    (hs : bs_Sc S0 S2) (hP : bs_P S2 S4 (mNx S2) 23 (fun k => if k = 25 then -5 else if k = 24 then -5 else 0)) : bs_Rel (mNx S4) (mSl S4) (bs_Y0 (mNx S0) (mW S0)) (mDrop S4 (mNx S2)) (bs_M0 (mNx S2)) := by
  obtain ⟨s1, s2, s3, s4, ⟨k0, k1, k2, k3, k4, k5, k6⟩, ⟨l1, l2, l5, l6⟩, ⟨r0, r2, r4, r5, r30, r31, r35, r36⟩, i0, i3, i4⟩ := hs
  obtain ⟨-, -, -, -, -, -, pW, p8⟩ := hP
  have kd : ∀ b, b < mNx S2 → mKd (mDrop S4 (mNx S2)) b = mKd S2 b := fun b hb => (bs_kDrop hb).trans (p8 b hb).1
  have ln : ∀ b, b < mNx S2 → mLn (mDrop S4 (mNx S2)) b = mLn S2 b := fun b hb => (p8 b hb).2.1
  have ii : ∀ b, b < mNx S2 → mI (mDrop S4 (mNx S2)) b = mI S2 b := fun b hb => (p8 b hb).2.2.1
  have rr : ∀ b, b < mNx S2 → mR (mDrop S4 (mNx S2)) b = mR S2 b := fun b hb => (p8 b hb).2.2.2.2
  have wS := s4 _ hw2
  have n0 : bs_n (bs_M0 (mNx S2)) = 0 := rfl
  have e0 : bs_e (bs_M0 (mNx S2)) = 0 := rfl
  have p0 : bs_p (bs_M0 (mNx S2)) = 0 := rfl
  have ss0 : bs_s (bs_M0 (mNx S2)) = 0 := rfl
  generalize hN : mNx S0 = N at *
  generalize hw : mW S0 = w at *
  have y0 : bs_Y0 N w 0 0 = N := rfl
  have vN : ∀ t i, bs_val (bs_M0 (mNx S2)) t i → (t = 0 ∨ t = 3 ∨ t = 4 ∨ t = 5 ∨ t = 6 ∨ t = 9 ∨ t = 10 ∨ t = 13) ∧ i = 0 := by
    intro t i hv
    unfold bs_val at hv
    split at hv
    · exact absurd hv (by rw [n0]; omega)
    · exact absurd hv.1 (by rw [n0]; omega)
    · exact absurd hv (by rw [e0]; omega)
    · exact absurd hv (by rw [e0]; omega)
    · exact absurd hv (by rw [n0]; omega)
    all_goals first | exact ⟨by omega, hv⟩ | exact absurd hv (fun z => z)
  have Ye : bs_Y0 N w 0 0 = N ∧ bs_Y0 N w 3 0 = N + 3 ∧ bs_Y0 N w 4 0 = N + 4 ∧ bs_Y0 N w 5 0 = N + 5 ∧ bs_Y0 N w 6 0 = N + 6 ∧ bs_Y0 N w 9 0 = N + 1 ∧ bs_Y0 N w 10 0 = N + 2 ∧ bs_Y0 N w 13 0 = w := ⟨rfl, rfl, rfl, rfl, rfl, rfl, rfl, rfl⟩
  obtain ⟨Y0, Y3, Y4, Y5, Y6, Y9, Y10, Y13⟩ := Ye
  refine ⟨⟨⟨rfl, by rw [n0]; omega⟩, ⟨rfl, by rw [e0]; omega⟩, ⟨rfl, by rw [p0]; omega⟩, ⟨rfl, by rw [ss0]; omega⟩, ?_, ?_, Or.inl rfl, Or.inl rfl, 0, rfl, Nat.zero_le _⟩, ⟨?_, ?_, ?_, ?_, ?_, ?_, ?_, ?_, ?_, ?_, ?_, ?_, Or.inl rfl⟩, ?_, ?_, Or.inl ⟨rfl, ?_⟩, ?_, ?_, ⟨?_, ?_⟩, ?_⟩
  · intro f hf
    rw [n0] at hf
    omega
  · intro r hr
    exact ⟨⟨⟨show (-1 : Int32) ≤ 0 by decide, show (0 : Int32) ≤ 2 by decide, fun _ => show (0 : Int32) ≤ 1 by decide⟩, ⟨0, rfl, by omega, fun _ => by omega⟩, ⟨0, rfl, by omega, fun _ => rfl⟩⟩, fun _ => ⟨rfl, rfl, rfl⟩⟩
  · intro t i hv
    obtain ⟨ht, rfl⟩ := vN t i hv
    rcases ht with rfl | rfl | rfl | rfl | rfl | rfl | rfl | rfl
    · rw [Y0, kd _ (by omega)]; exact k0
    · rw [Y3, kd _ (by omega)]; exact k3
    · rw [Y4, kd _ (by omega)]; exact k4
    · rw [Y5, kd _ (by omega)]; exact k5
    · rw [Y6, kd _ (by omega)]; exact k6
    · rw [Y9, kd _ (by omega)]; exact k1
    · rw [Y10, kd _ (by omega)]; exact k2
    · rw [Y13, kd _ (by omega), wS.1]; exact hw1
  · intro t i t2 i2 hv hv2 e
    obtain ⟨ht, rfl⟩ := vN t i hv
    obtain ⟨ht2, rfl⟩ := vN t2 i2 hv2
    refine ⟨?_, rfl⟩
    rcases ht with rfl | rfl | rfl | rfl | rfl | rfl | rfl | rfl <;> rcases ht2 with rfl | rfl | rfl | rfl | rfl | rfl | rfl | rfl <;> first | rfl | (exfalso; simp only [Y0, Y3, Y4, Y5, Y6, Y9, Y10, Y13] at e; omega)
  · rw [Y9, ln _ (by omega)]; exact l1
  · rw [Y10, ln _ (by omega)]; exact l2
  · intro f hf
    rw [n0] at hf
    omega
  · intro e he
    rw [e0] at he
    omega
  · rw [Y5, ln _ (by omega), l5]; exact ⟨1, by omega, by omega, by omega⟩
  · rw [ss0]; omega
  · rw [Y6, ln _ (by omega), l6]; exact ⟨1, by omega, by omega, by omega⟩
  · rw [p0]; omega
  · show mW S4 = _
    rw [Y13, pW, s2]
  · rw [Y13, ln _ (by omega), wS.2.1]; exact hw3
  · intro t i k v hv hx
    obtain ⟨ht, rfl⟩ := vN t i hv
    rcases ht with rfl | rfl | rfl | rfl | rfl | rfl | rfl | rfl
    · rw [Y0, ii _ (by omega), i0]
      unfold bs_w at hx
      split at hx <;> first | omega | exact Option.some.inj hx | cases hx
    · rw [Y3, ii _ (by omega), i3]
      unfold bs_w at hx
      split at hx <;> first | omega | exact Option.some.inj hx | cases hx
    · cases hx
    · have hx : (if k < 7 * bs_s (bs_M0 (mNx S2)) then some (nA (bs_M0 (mNx S2)) 28 k) else none) = some v := hx
      rw [ss0, if_neg (by omega)] at hx
      cases hx
    · have hx : (if k < 4 * bs_p (bs_M0 (mNx S2)) then some (nA (bs_M0 (mNx S2)) 35 k) else none) = some v := hx
      rw [p0, if_neg (by omega)] at hx
      cases hx
    · cases hx
    · cases hx
    · rw [Y13, ii _ (by omega), wS.2.2]
      obtain ⟨w0, w1, w2, w3, w4, w5⟩ := hw4
      rcases k with _ | _ | _ | _ | _ | _ | k
      · exact w0.trans (Option.some.inj (show some (100000 : Int32) = some v from hx))
      · exact w1.trans (Option.some.inj (show some (10000 : Int32) = some v from hx))
      · exact w2.trans (Option.some.inj (show some (1000 : Int32) = some v from hx))
      · exact w3.trans (Option.some.inj (show some (100 : Int32) = some v from hx))
      · exact w4.trans (Option.some.inj (show some (10 : Int32) = some v from hx))
      · exact w5.trans (Option.some.inj (show some (1 : Int32) = some v from hx))
      · exact absurd (show (none : Option Int32) = some v from hx) (by intro q; cases q)
  · intro t i k v hv hx
    obtain ⟨ht, rfl⟩ := vN t i hv
    rcases ht with rfl | rfl | rfl | rfl | rfl | rfl | rfl | rfl
    · rw [Y0, rr _ (by omega)]
      rcases k with _ | _ | _ | _ | _ | _ | k
      · exact r0.trans (Option.some.inj (show some (some (N + 1)) = some v from hx))
      · exact absurd (show (none : Option (Option Nat)) = some v from hx) (by intro q; cases q)
      · exact r2.trans (Option.some.inj (show some (some (N + 2)) = some v from hx))
      · exact absurd (show (none : Option (Option Nat)) = some v from hx) (by intro q; cases q)
      · exact r4.trans (Option.some.inj (show some (some (N + 3)) = some v from hx))
      · exact r5.trans (Option.some.inj (show some (some (N + 6)) = some v from hx))
      · exact absurd (show (none : Option (Option Nat)) = some v from hx) (by intro q; cases q)
    · rw [Y3, rr _ (by omega)]
      rcases k with _ | _ | _ | _ | _ | _ | _ | k
      · exact r30.trans (Option.some.inj (show some (some (N + 4)) = some v from hx))
      · exact r31.trans (Option.some.inj (show some (some (N + 5)) = some v from hx))
      · exact absurd (show (none : Option (Option Nat)) = some v from hx) (by intro q; cases q)
      · exact absurd (show (none : Option (Option Nat)) = some v from hx) (by intro q; cases q)
      · exact absurd (show (none : Option (Option Nat)) = some v from hx) (by intro q; cases q)
      · exact r35.trans (Option.some.inj (show some none = some v from hx))
      · exact r36.trans (Option.some.inj (show some none = some v from hx))
      · exact absurd (show (none : Option (Option Nat)) = some v from hx) (by intro q; cases q)
    · cases hx
    · cases hx
    · cases hx
    · have hx : (if k < bs_n (bs_M0 (mNx S2)) then some (some (bs_Y0 N w 1 k)) else none) = some v := hx
      rw [n0, if_neg (by omega)] at hx
      cases hx
    · have hx : (if k < bs_e (bs_M0 (mNx S2)) then some (some (bs_Y0 N w 7 k)) else none) = some v := hx
      rw [e0, if_neg (by omega)] at hx
      cases hx
    · cases hx
  · rw [Y4, ii _ (by omega)]; exact i4
  · intro e he
    rw [e0] at he
    omega
  · intro k hk
    rw [ss0] at hk
    omega
  · show mNx S4 ≤ _
    omega
  · show mSl S4 ≤ _
    omega
  · intro _ _
    obtain ⟨hl, hu, q⟩ := bs_Hist0 (bs_M0 (mNx S2))
    exact ⟨0, hl, hu, rfl, by decide, q⟩
