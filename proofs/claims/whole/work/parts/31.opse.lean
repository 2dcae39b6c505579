/-! begin, digest -/
section BsOpsE
variable {x0 s0 : Nat} {Y : bs_Ly} {S S2 : Mem} {M M2 : MS}
theorem bs_op_begin (h : bs_Rel x0 s0 Y S M) : bs_OK x0 s0 Y (c_X5_begin S (Y 0 0)) (m_X6_begin M) := by
  refine ⟨nF M 34, mSI S (Y 0 0) 6 0, nSF M 34 0, Y, ?_, rfl, ?_, rfl⟩
  · unfold c_X5_begin
    rw [bs_let, bs_let, bs_i h 0 0 6 rfl rfl]
  · obtain ⟨i1, i2, i3, i4⟩ := h.1
    have hp : bs_p (nSF M 34 0) = 0 := rfl
    refine bs_mk h rfl rfl rfl rfl rfl rfl ⟨rfl, rfl, rfl, rfl, rfl, rfl, rfl, rfl, rfl⟩ h.2.1.2.2.2.2.2.2.2.1 (by rw [hp]; omega) ⟨i1, i2, ⟨rfl, by rw [hp]; omega⟩, i4⟩ ?_ ?_ ?_ h.2.2.2.2.2.2.1 h.2.2.2.2.2.2.2.2
    · intro t2 i2 k2 v2 q1 q2
      rw [bs_mI]
      by_cases c : t2 = 0 ∧ k2 = 6
      · obtain ⟨rfl, rfl⟩ := c
        have q1 : i2 = 0 := q1
        subst q1
        rw [if_pos ⟨rfl, rfl⟩]
        exact Option.some.inj q2
      · rw [if_neg]
        · refine h.2.2.1 t2 i2 k2 v2 q1 ?_
          by_cases c6 : t2 = 6
          · subst c6
            exfalso
            have q2 : (if k2 < 4 * bs_p (nSF M 34 0) then some (nA M 35 k2) else none) = some v2 := q2
            rw [hp, if_neg (by omega)] at q2
            cases q2
          · rw [← q2]
            unfold bs_w
            split <;> first | rfl | exact absurd ⟨rfl, rfl⟩ c | exact absurd rfl c6
        · rintro ⟨a1, a2⟩
          have := h.2.1.2.1 t2 i2 0 0 q1 rfl a1
          exact c ⟨this.1, a2⟩
    · exact bs_Prt_of h.2.2.2.2.1 (bs_mI_ne (bs_ne h (t := 4) (i := 0) (t2 := 0) (i2 := 0) rfl rfl (Or.inl (by decide)))) rfl rfl rfl rfl rfl rfl
    · refine bs_Exs_of h.2.2.2.2.2.1 (fun e2 he2 => ?_) rfl rfl rfl rfl
      rw [bs_mI, if_neg]
      rintro ⟨a1, a2⟩
      exact absurd a2 (by decide)
/-- a rod's share of the digest -/
def bs_ds (M : MS) (r : Nat) (s : Int64) : Int64 :=
  if nA M 9 r = -1 then 31 * s + Int32.toInt64 0 else if nA M 9 r = 0 then 31 * s + Int32.toInt64 1 else if nA M 9 r = 1 then 31 * (31 * s + Int32.toInt64 2) + Int32.toInt64 (nA M 10 r) else 31 * (31 * (31 * s + Int32.toInt64 3) + Int32.toInt64 (nA M 10 r)) + Int32.toInt64 (nA M 11 r)
theorem bs_len (h : bs_Inv M) {r : Nat} (hr : bs_rv M r) : nA M 9 r = -1 ∨ nA M 9 r = 0 ∨ nA M 9 r = 1 ∨ nA M 9 r = 2 := by
  obtain ⟨h1, h2, -⟩ := (bs_rgN h hr).1
  generalize nA M 9 r = x at *
  by_cases c : x < 0
  · left
    apply Int32.toInt_inj.mp
    rw [Int32.lt_iff_toInt_lt] at c
    rw [Int32.le_iff_toInt_le] at h1
    have e0 : (0 : Int32).toInt = 0 := rfl
    have e1 : (-1 : Int32).toInt = -1 := rfl
    omega
  · right
    obtain ⟨j, j1, rfl⟩ := nI_of2 (M := 2) (n := 2) rfl c h2
    have : j = 0 ∨ j = 1 ∨ j = 2 := by omega
    rcases this with rfl | rfl | rfl
    · exact Or.inl rfl
    · exact Or.inr (Or.inl rfl)
    · exact Or.inr (Or.inr rfl)
theorem bs_c_ds (h : bs_Rel x0 s0 Y S M) {r : Nat} (hr : bs_rv M r) (s : Int64) : c_X4_digestOn S (Y 2 r) s = some (bs_ds M r s) := by
  have e5 : mI S (Y 2 r) 5 = nA M 10 r := bs_i h 2 r 5 hr rfl
  have e6 : mI S (Y 2 r) 6 = nA M 11 r := bs_i h 2 r 6 hr rfl
  unfold c_X4_digestOn c_X4_digestOn_J22 c_X4_digestOn_J44 bs_ds
  rw [bs_R4 h hr, e5, e6]
  rcases bs_len h.1 hr with q | q | q | q <;> rw [q] <;> rfl
theorem bs_m_ds (h : bs_Inv M) {r : Nat} (hr : bs_rv M r) (K : Int32 → Int64 → Int32 → Option Int64) (f : Int32) (s : Int64) (i : Int32) :
    (gd (inB (nI r) 540) (if nA M 9 (Int32.toNatClampNeg (nI r)) + 1 ≤ 0 then jLet (31 * s + Int32.toInt64 0) fun j => m_X6_digest_L75 K M bigN f j i (nI r) 0 else gd (inB (nI r) 540) (jLet (31 * s + Int32.toInt64 (nA M 9 (Int32.toNatClampNeg (nI r)) + 1)) fun j => m_X6_digest_L75 K M bigN f j i (nI r) 0))) = K f (bs_ds M r s) (i + 1) := by
  have h5 := bs_rv540 h hr
  rw [bs_gd (bs_inB h5 (by decide)), bs_gd (bs_inB h5 (by decide)), bs_cl (by omega), bs_let, bs_let, show bigN = 999996 + 1 + 1 + 1 + 1 from rfl]
  unfold bs_ds
  have step : ∀ n j (w : Int32), m_X6_digest_L75 K M (n + 1) f j i (nI r) w = if nA M 9 r ≤ w then K f j (i + 1) else if w = 0 then m_X6_digest_L75 K M n f (31 * j + Int32.toInt64 (nA M 10 r)) i (nI r) (w + 1) else m_X6_digest_L75 K M n f (31 * j + Int32.toInt64 (nA M 11 r)) i (nI r) (w + 1) := by
    intro n j w
    rw [m_X6_digest_L75, bs_gd (bs_inB h5 (by decide)), bs_gd (bs_inB h5 (by decide)), bs_gd (bs_inB h5 (by decide)), bs_cl (by omega), bs_let, bs_let]
  rcases bs_len h hr with q | q | q | q
  · rw [q, if_pos (by decide), step, q, if_pos (by decide), if_pos rfl]
  · rw [q, if_neg (by decide), step, q, if_pos (by decide), if_neg (by decide), if_pos rfl]
    rfl
  · rw [q, if_neg (by decide), step, q, if_neg (by decide), if_pos rfl, step, q, if_pos (by decide), if_neg (by decide), if_neg (by decide), if_pos rfl]
    rfl
  · rw [q, if_neg (by decide), step, q, if_neg (by decide), if_pos rfl, step, q, if_neg (by decide), if_neg (by decide), step, q, if_pos (by decide), if_neg (by decide), if_neg (by decide), if_neg (by decide)]
    rfl
theorem bs_digLL (h : bs_Rel x0 s0 Y S M) {f : Nat} (hf : f < bs_n M) : ∀ d n i s, i + d = bs_m M f → d < n → ∃ z, c_X1_digestSum_L6 S n (Y 1 f) s (nI i) = some z ∧ m_X6_digest_L19 M n (nI f) s (nI i) = some z
  | d, 0, i, s, _, hn => absurd hn (Nat.not_lt_zero _)
  | 0, n + 1, i, s, hi, _ => by
    have h2 := bs_m18 h.1 hf
    have h3 := bs_n30 h.1
    rw [c_X1_digestSum_L6, m_X6_digest_L19, bs_f5 h hf, bs_o11 h hf, bs_bnd, bs_l11 h hf, if_pos (nI_le (by omega) (by omega)), bs_gd (bs_inB (by omega) (by decide)), bs_cl (by omega), bs_mN h.1 hf, if_pos (nI_le (by omega) (by omega))]
    exact ⟨_, rfl, rfl⟩
  | d + 1, n + 1, i, s, hi, hn => by
    have h2 := bs_m18 h.1 hf
    have h3 := bs_n30 h.1
    have hl : i < bs_m M f := by omega
    rw [c_X1_digestSum_L6, m_X6_digest_L19, bs_c_rod h hf hl, bs_c_ds h (bs_rV h.1 hf hl), bs_f5 h hf, bs_o11 h hf, bs_bnd, bs_l11 h hf, if_neg (nI_ge hl (by omega)), bs_bnd, bs_gd (bs_inB (by omega) (by decide)), bs_cl (n := f) (by omega), bs_mN h.1 hf, if_neg (nI_ge hl (by omega)), bs_m_rodOf h.1 hf hl, bs_bnd, bs_m_ds h.1 (bs_rV h.1 hf hl), nI_1]
    exact bs_digLL h hf d n (i + 1) _ (by omega) (by omega)
theorem bs_op_digest (h : bs_Rel x0 s0 Y S M) (x : Int32) : bs_OKr (c_X5_digest S (Y 0 0) x) (m_X6_digest M x) := by
  unfold c_X5_digest m_X6_digest
  rcases bs_which h.1 x with hx | ⟨f, hf, rfl⟩
  · rw [bs_c_unknown h hx, bs_m_noF h.1 hx]
    exact ⟨_, rfl, rfl⟩
  · have h2 := bs_m18 h.1 hf
    obtain ⟨z, e1, e2⟩ := bs_digLL h hf (bs_m M f) bigN 0 7 (by omega) (by unfold bigN; omega)
    have e3 : c_X1_digestSum S (Y 1 f) = some z := e1
    have e4 : m_X6_digest_L19 M bigN (nI f) 7 0 = some z := e2
    rw [bs_c_known h hf, bs_m_isF h.1 hf, bs_bnd, bs_bnd, bs_ocS, bs_gd (bs_k1 h hf), if_neg bs_10, e3, e4, bs_bnd]
    exact ⟨_, rfl, rfl⟩
end BsOpsE
