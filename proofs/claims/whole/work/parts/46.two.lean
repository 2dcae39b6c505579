/-! two digits of a product, the higher first -/
def bs_Rel0 (x0 s0 : Nat) (Y : bs_Ly) (S : Mem) (M : MS) : Prop := bs_Inv M ∧ bs_Shape Y S M ∧ bs_Ints Y S M ∧ bs_Refs Y S M ∧ bs_Exs Y S M ∧ bs_Of M (Y 12 0) ∧ bs_Room x0 s0 Y S M ∧ bs_His Y M
/-- what a change of a frame leaves -/
def bs_G (x0 s0 B sgn K : Nat) (Y : bs_Ly) (S : Mem) (M : MS) (Y' : bs_Ly) (S' : Mem) (M' : MS) : Prop :=
  bs_W x0 s0 Y' S' M' ∧ bs_T B Y M Y' M' ∧ bs_TP Y S M S' M' ∧ bs_s M' ≤ bs_s M + K ∧ (sgn = 1 → (B - 1) * bs_s M' + bs_ph M' 540 ≤ (B - 1) * bs_s M + bs_ph M 540 + 4 * (B - 1))
theorem bs_digP {B p : Nat} (hB : B = 10 ∨ B = 16) (hp : p < B * B) : bs_dig B p 1 = p / B ∧ bs_dig B p 0 = p % B ∧ p / B < B := by
  have h1 : p / B < B := Nat.div_lt_of_lt_mul hp
  unfold bs_dig
  rw [Nat.pow_one, Nat.pow_zero, Nat.div_one, Nat.mod_eq_of_lt h1]
  exact ⟨rfl, rfl, h1⟩
section BsTwo
variable {x0 s0 : Nat} {Y : bs_Ly} {S : Mem} {M : MS}
theorem bs_two2 {f at0 p B sgn : Nat} {sg : Int32} (hW : bs_W x0 s0 Y S M) (hf : bs_own Y M f) (hB : bs_b M f = B) (hLT : bs_LT M f) (hat : at0 < 900) (hp : p < B * B) (hsg : (sgn = 1 ∧ sg = 1) ∨ (sgn = 0 ∧ sg = -1)) (hs : bs_s M + 2 * (bs_m M f - at0) < 5000) :
    ∃ z1 Y1 S1 M1, c_X3_put S (Y 3 0) (some (Y 1 f)) (nI (at0 + 1)) (sg * nI (p / B)) = some (z1, S1) ∧ bs_W x0 s0 Y1 S1 M1 ∧ bs_T B Y M Y1 M1 ∧
      ((z1 = 0 ∧ m_X6_changeTwo M (nI f) (nI at0) (nI p) sg = some (0, M1) ∧ bs_G x0 s0 B sgn (2 * (bs_m M f - at0)) Y S M Y1 S1 M1) ∨
       (z1 = 1 ∧ ∃ z2 Y2 S2 M2, c_X3_put S1 (Y 3 0) (some (Y 1 f)) (nI at0) (sg * nI (p % B)) = some (z2, S2) ∧ (z2 = 0 ∨ z2 = 1) ∧ m_X6_changeTwo M (nI f) (nI at0) (nI p) sg = some (z2, M2) ∧ bs_G x0 s0 B sgn (2 * (bs_m M f - at0)) Y S M Y2 S2 M2)) := by
  have h := hW.1
  have hn30 := bs_n30 h.1
  have hfn := hf.1
  have hb := bs_bb h.1 hf.1
  rw [hB] at hb
  have hd1 : p / B < B := Nat.div_lt_of_lt_mul hp
  have hd0 : p % B < B := Nat.mod_lt _ (by omega)
  have hpl : p < 256 := Nat.lt_of_lt_of_le hp (by rcases hb with rfl | rfl <;> decide)
  have hA : ∀ d, (sgn = 1 ∧ sg = 1 ∧ sg * nI d = nI d) ∨ (sgn = 0 ∧ sg = -1 ∧ sg * nI d = -nI d) := by
    intro d
    rcases hsg with ⟨a, b⟩ | ⟨a, b⟩
    · exact Or.inl ⟨a, b, by rw [b, Int32.one_mul]⟩
    · exact Or.inr ⟨a, b, by rw [b, bs_neg1]⟩
  have b3 : nA M 3 f = nI B := by rw [bs_bN h.1 hf.1, hB]
  obtain ⟨z, Y1, S1, M1, g1, g2, g3, g4, g5, g6, g7, g8⟩ := bs_put1 hW hf hLT (show at0 + 1 < 1000 by omega) (hB ▸ hd1) (hA (p / B)) (by omega)
  rw [hB] at g5 g8
  have nzB : nz (nI B) = true := decide_eq_true (nI_ne0 (by omega) (by omega))
  refine ⟨z, Y1, S1, M1, g1, g4, g5, ?_⟩
  unfold m_X6_changeTwo
  rw [bs_gd (bs_inB (n := f) (by omega) (by decide)), bs_cl (n := f) (by omega), b3, bs_gd nzB, bs_a1, pk_div (by omega) (by omega) (by omega), g2, bs_bnd2]
  rcases g3 with rfl | rfl
  · left
    rw [if_pos rfl]
    refine ⟨rfl, rfl, g4, g5, g6, by omega, ?_⟩
    intro a
    have := g8.1 a
    rcases hb with rfl | rfl <;> omega
  · right
    have f1 := bs_own_T g5 hf
    have b31 : nA M1 3 f = nI B := by rw [g5.2.2.1.1]; exact b3
    have hmm := bs_T_m g5
    have hB1 : bs_b M1 f = B := by rw [bs_T_b g5]; exact hB
    obtain ⟨z2, Y2, S2, M2, k1, k2, k3, k4, k5, k6, k7, k8⟩ := bs_put1 g4 f1 (bs_LT_T g5 hB hLT) (show at0 < 1000 by omega) (hB1 ▸ hd0) (hA (p % B)) (by rw [hmm]; omega)
    rw [hB1] at k5 k8
    rw [hmm] at k7
    rw [g5.1 3 0 (by decide), g5.1 1 f (by decide)] at k1
    refine ⟨rfl, z2, Y2, S2, M2, k1, k3, ?_, k4, bs_T_tr g5 k5, bs_TP_tr g6 (g5.1 4 0 (by decide)) k6, by omega, ?_⟩
    · rw [if_neg bs_10, bs_gd (bs_inB (n := f) (by omega) (by decide)), b31, bs_gd nzB, pk_rem (by omega) (by omega) (by omega), k2, bs_bnd2]
      rcases k3 with rfl | rfl
      · rw [if_pos rfl]
      · rw [if_neg bs_10]
    · intro a
      have t1 := g8.1 a
      have t2 := k8.1 a
      rcases hb with rfl | rfl <;> omega
/-- what a frame shows: below a power of its base -/
theorem bs_sv_lt {B f : Nat} (hB : bs_b M f = B) (hm : 0 < B) : ∀ d i, (∀ k, i ≤ k → k < i + d → bs_dv M (bs_r M f k) < B) → bs_sv M f d i < B ^ d := by
  intro d
  induction d with
  | zero => intro i _; exact Nat.one_pos
  | succ d ih =>
    intro i hk
    have h1 := hk i (Nat.le_refl _) (by omega)
    have h2 := ih (i + 1) (fun k a b => hk k (by omega) (by omega))
    rw [bs_sv, hB, Nat.pow_succ, Nat.mul_comm (B ^ d)]
    have : B * (bs_sv M f d (i + 1) + 1) ≤ B * B ^ d := Nat.mul_le_mul_left _ h2
    rw [Nat.mul_add, Nat.mul_one] at this
    omega
theorem bs_X63 (h : bs_Inv M) {f : Nat} (hf : f < bs_n M) (hLT : bs_LT M f) (hr : ∀ k, k < bs_m M f → bs_rf M (bs_r M f k) = 0) : bs_sv M f (bs_m M f) 0 < 2 ^ 63 := by
  have hb := bs_bb h hf
  have hm := bs_m18 h hf
  have h14 := (bs_fr h hf).2.2.1.2
  have h1 := bs_sv_lt (M := M) (f := f) rfl (by omega) (bs_m M f) 0 (fun k _ hk => hLT k (by omega) (hr k (by omega)))
  refine Nat.lt_of_lt_of_le h1 ?_
  rcases h14 with q | ⟨q, q2⟩
  · rw [q]
    exact Nat.le_trans (Nat.pow_le_pow_right (by decide) hm) (by decide)
  · rw [q]
    exact Nat.le_trans (Nat.pow_le_pow_right (by decide) q2) (by decide)
theorem bs_ff_all {f : Nat} : ∀ d i, bs_ff M f d i = 0 → ∀ k, i ≤ k → k < i + d → bs_rf M (bs_r M f k) = 0 := by
  intro d
  induction d with
  | zero => intro i _ k h1 h2; omega
  | succ d ih =>
    intro i hff k h1 h2
    rw [bs_ff] at hff
    split at hff
    · rename_i c
      by_cases c2 : k = i
      · rw [c2]; exact c
      · exact ih (i + 1) hff k (by omega) (by omega)
    · rename_i c
      exact absurd hff c
theorem bs_ff_of {f : Nat} : ∀ d i, (∀ k, i ≤ k → k < i + d → bs_rf M (bs_r M f k) = 0) → bs_ff M f d i = 0 := by
  intro d
  induction d with
  | zero => intro i _; rfl
  | succ d ih =>
    intro i hk
    rw [bs_ff, if_pos (hk i (Nat.le_refl _) (by omega))]
    exact ih (i + 1) (fun k a b => hk k (by omega) (by omega))
end BsTwo
