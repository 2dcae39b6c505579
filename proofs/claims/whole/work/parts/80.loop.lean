/-! one round of the law: both sides answer alike -/
/-- the round goes on -/
def bs_nx (x0 s0 : Nat) (Y : bs_Ly) (e : Option (Int32 × Mem × MS)) (K : Mem → MS → Int32 → Option (Int32 × Mem × MS)) (j : Int32) : Prop := ∃ S' M' Y', e = K S' M' j ∧ bs_Rel x0 s0 Y' S' M' ∧ Y' 0 0 = Y 0 0 ∧ Y' 14 0 = Y 14 0
section BsLoop
variable {x0 s0 : Nat} {Y : bs_Ly} {S : Mem} {M : MS}
theorem bs_stW {α : Type} [DecidableEq α] {c : Option (α × Mem)} {m : Option (α × MS)} (o : bs_OK x0 s0 Y c m) (K : Mem → MS → Int32 → Option (Int32 × Mem × MS)) (j : Int32) : bs_nx x0 s0 Y (bnd2 c fun a S => bnd2 m fun b M => if a = b then K S M j else some (0, S, M)) K j := by
  obtain ⟨r, S2, M2, Y2, rfl, rfl, h2, e⟩ := o
  refine ⟨S2, M2, Y2, ?_, h2, congrArg Prod.fst e, congrArg Prod.snd e⟩
  rw [bs_bnd2, bs_bnd2, if_pos rfl]
theorem bs_stR {α : Type} [DecidableEq α] {c m : Option α} (h : bs_Rel x0 s0 Y S M) (o : bs_OKr c m) (K : Mem → MS → Int32 → Option (Int32 × Mem × MS)) (j : Int32) : bs_nx x0 s0 Y (bnd c fun a => bnd m fun b => if a = b then K S M j else some (0, S, M)) K j := by
  obtain ⟨r, rfl, rfl⟩ := o
  refine ⟨S, M, Y, ?_, h, rfl, rfl⟩
  rw [bs_bnd, bs_bnd, if_pos rfl]
theorem bs_lc0 (h : bs_Rel x0 s0 Y S M) (hY : Y 14 0 = 0) {L i : Nat} (g : ∀ k, k ≤ 5 → inB (nI (i + k)) L = true) (xs : Nat → Int32) (K : Mem → MS → Int32 → Option (Int32 × Mem × MS)) : bs_nx x0 s0 Y (l_case0 (Y 0 0) L xs K S M (nI i)) K (nI i + 6) := by
  unfold l_case0
  rw [bs_a1, bs_a2, bs_gd (g 1 (by decide)), bs_gd (g 2 (by decide))]
  exact bs_stW (bs_op_frame h _ _) K _
theorem bs_lc1 (h : bs_Rel x0 s0 Y S M) (hY : Y 14 0 = 0) {L i : Nat} (g : ∀ k, k ≤ 5 → inB (nI (i + k)) L = true) (xs : Nat → Int32) (K : Mem → MS → Int32 → Option (Int32 × Mem × MS)) : bs_nx x0 s0 Y (l_case1 (Y 0 0) L xs K S M (nI i)) K (nI i + 6) := by
  unfold l_case1
  rw [bs_a1, bs_a2, bs_gd (g 1 (by decide)), bs_gd (g 2 (by decide))]
  exact bs_stW (bs_op_both h _ _) K _
theorem bs_lc2 (h : bs_Rel x0 s0 Y S M) (hY : Y 14 0 = 0) {L i : Nat} (g : ∀ k, k ≤ 5 → inB (nI (i + k)) L = true) (xs : Nat → Int32) (K : Mem → MS → Int32 → Option (Int32 × Mem × MS)) : bs_nx x0 s0 Y (l_case2 (Y 0 0) L xs K S M (nI i)) K (nI i + 6) := by
  unfold l_case2
  rw [bs_a1, bs_a2, bs_a3, bs_gd (g 1 (by decide)), bs_gd (g 2 (by decide)), bs_gd (g 3 (by decide))]
  exact bs_stW (bs_op_rod h _ _ _) K _
theorem bs_lc3 (h : bs_Rel x0 s0 Y S M) (hY : Y 14 0 = 0) {L i : Nat} (g : ∀ k, k ≤ 5 → inB (nI (i + k)) L = true) (xs : Nat → Int32) (K : Mem → MS → Int32 → Option (Int32 × Mem × MS)) : bs_nx x0 s0 Y (l_case3 (Y 0 0) L xs K S M (nI i)) K (nI i + 6) := by
  unfold l_case3
  rw [bs_a1, bs_a2, bs_a3, bs_a4, bs_gd (g 1 (by decide)), bs_gd (g 2 (by decide)), bs_gd (g 3 (by decide)), bs_gd (g 4 (by decide))]
  exact bs_stW (bs_op_push h _ _ _ _) K _
theorem bs_lc4 (h : bs_Rel x0 s0 Y S M) (hY : Y 14 0 = 0) {L i : Nat} (g : ∀ k, k ≤ 5 → inB (nI (i + k)) L = true) (xs : Nat → Int32) (K : Mem → MS → Int32 → Option (Int32 × Mem × MS)) : bs_nx x0 s0 Y (l_case4 (Y 0 0) L xs K S M (nI i)) K (nI i + 6) := by
  unfold l_case4
  rw [bs_a1, bs_a2, bs_a3, bs_gd (g 1 (by decide)), bs_gd (g 2 (by decide)), bs_gd (g 3 (by decide))]
  exact bs_stW (bs_op_beads h _ _ _) K _
theorem bs_lc5 (h : bs_Rel x0 s0 Y S M) (hY : Y 14 0 = 0) {L i : Nat} (g : ∀ k, k ≤ 5 → inB (nI (i + k)) L = true) (xs : Nat → Int32) (K : Mem → MS → Int32 → Option (Int32 × Mem × MS)) : bs_nx x0 s0 Y (l_case5 (Y 0 0) L xs K S M (nI i)) K (nI i + 6) := by
  unfold l_case5
  rw [bs_a1, bs_a2, bs_gd (g 1 (by decide)), bs_gd (g 2 (by decide))]
  exact bs_stW (bs_op_digit h _ _) K _
theorem bs_lc6 (h : bs_Rel x0 s0 Y S M) (hY : Y 14 0 = 0) {L i : Nat} (g : ∀ k, k ≤ 5 → inB (nI (i + k)) L = true) (xs : Nat → Int32) (K : Mem → MS → Int32 → Option (Int32 × Mem × MS)) : bs_nx x0 s0 Y (l_case6 (Y 0 0) L xs K S M (nI i)) K (nI i + 6) := by
  unfold l_case6
  rw [bs_a1, bs_gd (g 1 (by decide))]
  exact bs_stW (bs_op_shows h _) K _
theorem bs_lc7 (h : bs_Rel x0 s0 Y S M) (hY : Y 14 0 = 0) {L i : Nat} (g : ∀ k, k ≤ 5 → inB (nI (i + k)) L = true) (xs : Nat → Int32) (K : Mem → MS → Int32 → Option (Int32 × Mem × MS)) : bs_nx x0 s0 Y (l_case7 (Y 0 0) L xs K S M (nI i)) K (nI i + 6) := by
  unfold l_case7
  rw [bs_a1, bs_a2, bs_a3, bs_gd (g 1 (by decide)), bs_gd (g 2 (by decide)), bs_gd (g 3 (by decide))]
  exact bs_stW (bs_op_set h _ _) K _
theorem bs_lc8 (h : bs_Rel x0 s0 Y S M) (hY : Y 14 0 = 0) {L i : Nat} (g : ∀ k, k ≤ 5 → inB (nI (i + k)) L = true) (xs : Nat → Int32) (K : Mem → MS → Int32 → Option (Int32 × Mem × MS)) : bs_nx x0 s0 Y (l_case8 (Y 0 0) L xs K S M (nI i)) K (nI i + 6) := by
  unfold l_case8
  rw [bs_a1, bs_gd (g 1 (by decide))]
  exact bs_stR h (bs_op_proper h _) K _
theorem bs_lc9 (h : bs_Rel x0 s0 Y S M) (hY : Y 14 0 = 0) {L i : Nat} (g : ∀ k, k ≤ 5 → inB (nI (i + k)) L = true) (xs : Nat → Int32) (K : Mem → MS → Int32 → Option (Int32 × Mem × MS)) : bs_nx x0 s0 Y (l_case9 (Y 0 0) L xs K S M (nI i)) K (nI i + 6) := by
  unfold l_case9
  rw [bs_a1, bs_a2, bs_gd (g 1 (by decide)), bs_gd (g 2 (by decide))]
  exact bs_stR h (bs_op_size h _ _) K _
theorem bs_lc10 (h : bs_Rel x0 s0 Y S M) (hY : Y 14 0 = 0) {L i : Nat} (g : ∀ k, k ≤ 5 → inB (nI (i + k)) L = true) (xs : Nat → Int32) (K : Mem → MS → Int32 → Option (Int32 × Mem × MS)) : bs_nx x0 s0 Y (l_case10 (Y 0 0) L xs K S M (nI i)) K (nI i + 6) := by
  unfold l_case10
  rw [bs_a1, bs_a2, bs_gd (g 1 (by decide)), bs_gd (g 2 (by decide))]
  exact bs_stW (bs_op_meant h _ _) K _
theorem bs_lc11 (h : bs_Rel x0 s0 Y S M) (hY : Y 14 0 = 0) {L i : Nat} (g : ∀ k, k ≤ 5 → inB (nI (i + k)) L = true) (xs : Nat → Int32) (K : Mem → MS → Int32 → Option (Int32 × Mem × MS)) : bs_nx x0 s0 Y (l_case11 (Y 0 0) L xs K S M (nI i)) K (nI i + 6) := by
  unfold l_case11
  rw [bs_a1, bs_a2, bs_gd (g 1 (by decide)), bs_gd (g 2 (by decide))]
  exact bs_stW (bs_op_asks h _ _) K _
theorem bs_lc12 (h : bs_Rel x0 s0 Y S M) (hY : Y 14 0 = 0) {L i : Nat} (g : ∀ k, k ≤ 5 → inB (nI (i + k)) L = true) (xs : Nat → Int32) (K : Mem → MS → Int32 → Option (Int32 × Mem × MS)) : bs_nx x0 s0 Y (l_case12 (Y 0 0) L xs K S M (nI i)) K (nI i + 6) := by
  unfold l_case12
  exact bs_stR h (bs_op_trace h) K _
theorem bs_lc13 (h : bs_Rel x0 s0 Y S M) (hY : Y 14 0 = 0) {L i : Nat} (g : ∀ k, k ≤ 5 → inB (nI (i + k)) L = true) (xs : Nat → Int32) (K : Mem → MS → Int32 → Option (Int32 × Mem × MS)) : bs_nx x0 s0 Y (l_case13 (Y 0 0) L xs K S M (nI i)) K (nI i + 6) := by
  unfold l_case13
  rw [bs_a1, bs_a2, bs_a3, bs_a4, bs_a5, bs_gd (g 1 (by decide)), bs_gd (g 2 (by decide)), bs_gd (g 3 (by decide)), bs_gd (g 4 (by decide)), bs_gd (g 5 (by decide))]
  exact bs_stW (bs_op_copy h _ _ _ _ _) K _
theorem bs_lc14 (h : bs_Rel x0 s0 Y S M) (hY : Y 14 0 = 0) {L i : Nat} (g : ∀ k, k ≤ 5 → inB (nI (i + k)) L = true) (xs : Nat → Int32) (K : Mem → MS → Int32 → Option (Int32 × Mem × MS)) : bs_nx x0 s0 Y (l_case14 (Y 0 0) L xs K S M (nI i)) K (nI i + 6) := by
  unfold l_case14
  exact bs_stR h (bs_op_copied h) K _
theorem bs_lc15 (h : bs_Rel x0 s0 Y S M) (hY : Y 14 0 = 0) {L i : Nat} (g : ∀ k, k ≤ 5 → inB (nI (i + k)) L = true) (xs : Nat → Int32) (K : Mem → MS → Int32 → Option (Int32 × Mem × MS)) : bs_nx x0 s0 Y (l_case15 (Y 0 0) L xs K S M (nI i)) K (nI i + 6) := by
  unfold l_case15
  rw [bs_a1, bs_gd (g 1 (by decide))]
  exact bs_stR h (bs_op_digest h _) K _
theorem bs_lc16 (h : bs_Rel x0 s0 Y S M) (hY : Y 14 0 = 0) {L i : Nat} (g : ∀ k, k ≤ 5 → inB (nI (i + k)) L = true) (xs : Nat → Int32) (K : Mem → MS → Int32 → Option (Int32 × Mem × MS)) : bs_nx x0 s0 Y (l_case16 (Y 0 0) L xs K S M (nI i)) K (nI i + 6) := by
  unfold l_case16
  rw [bs_a1, bs_a2, bs_gd (g 1 (by decide)), bs_gd (g 2 (by decide))]
  exact bs_stW (bs_op_ofFloat h _ _) K _
theorem bs_lc17 (h : bs_Rel x0 s0 Y S M) (hY : Y 14 0 = 0) {L i : Nat} (g : ∀ k, k ≤ 5 → inB (nI (i + k)) L = true) (xs : Nat → Int32) (K : Mem → MS → Int32 → Option (Int32 × Mem × MS)) : bs_nx x0 s0 Y (l_case17 (Y 0 0) L xs K S M (nI i)) K (nI i + 6) := by
  unfold l_case17
  rw [bs_a1, bs_a2, bs_a3, bs_gd (g 1 (by decide)), bs_gd (g 2 (by decide)), bs_gd (g 3 (by decide))]
  exact bs_stW (bs_op_ofDouble h _ _) K _
theorem bs_lc18 (h : bs_Rel x0 s0 Y S M) (hY : Y 14 0 = 0) {L i : Nat} (g : ∀ k, k ≤ 5 → inB (nI (i + k)) L = true) (xs : Nat → Int32) (K : Mem → MS → Int32 → Option (Int32 × Mem × MS)) : bs_nx x0 s0 Y (l_case18 (Y 0 0) L xs K S M (nI i)) K (nI i + 6) := by
  unfold l_case18
  rw [bs_a1, bs_a2, bs_gd (g 1 (by decide)), bs_gd (g 2 (by decide))]
  exact bs_stR h (bs_op_restFloat (Y 0 0) _ _) K _
theorem bs_lc19 (h : bs_Rel x0 s0 Y S M) (hY : Y 14 0 = 0) {L i : Nat} (g : ∀ k, k ≤ 5 → inB (nI (i + k)) L = true) (xs : Nat → Int32) (K : Mem → MS → Int32 → Option (Int32 × Mem × MS)) : bs_nx x0 s0 Y (l_case19 (Y 0 0) L xs K S M (nI i)) K (nI i + 6) := by
  unfold l_case19
  rw [bs_a1, bs_a2, bs_a3, bs_a4, bs_gd (g 1 (by decide)), bs_gd (g 2 (by decide)), bs_gd (g 3 (by decide)), bs_gd (g 4 (by decide))]
  exact bs_stR h (bs_op_restDouble (Y 0 0) _ _) K _
theorem bs_lc20 (h : bs_Rel x0 s0 Y S M) (hY : Y 14 0 = 0) {L i : Nat} (g : ∀ k, k ≤ 5 → inB (nI (i + k)) L = true) (xs : Nat → Int32) (K : Mem → MS → Int32 → Option (Int32 × Mem × MS)) : bs_nx x0 s0 Y (l_case20 (Y 0 0) L xs K S M (nI i)) K (nI i + 6) := by
  unfold l_case20
  rw [bs_a1, bs_a2, bs_a3, bs_gd (g 1 (by decide)), bs_gd (g 2 (by decide)), bs_gd (g 3 (by decide))]
  exact bs_stW (bs_op_add h _ _) K _
theorem bs_lc21 (h : bs_Rel x0 s0 Y S M) (hY : Y 14 0 = 0) {L i : Nat} (g : ∀ k, k ≤ 5 → inB (nI (i + k)) L = true) (xs : Nat → Int32) (K : Mem → MS → Int32 → Option (Int32 × Mem × MS)) : bs_nx x0 s0 Y (l_case21 (Y 0 0) L xs K S M (nI i)) K (nI i + 6) := by
  unfold l_case21
  rw [bs_a1, bs_a2, bs_a3, bs_gd (g 1 (by decide)), bs_gd (g 2 (by decide)), bs_gd (g 3 (by decide))]
  exact bs_stW (bs_op_less h _ _) K _
theorem bs_lc22 (h : bs_Rel x0 s0 Y S M) (hY : Y 14 0 = 0) {L i : Nat} (g : ∀ k, k ≤ 5 → inB (nI (i + k)) L = true) (xs : Nat → Int32) (K : Mem → MS → Int32 → Option (Int32 × Mem × MS)) : bs_nx x0 s0 Y (l_case22 (Y 0 0) L xs K S M (nI i)) K (nI i + 6) := by
  unfold l_case22
  rw [bs_a1, bs_a2, bs_a3, bs_gd (g 1 (by decide)), bs_gd (g 2 (by decide)), bs_gd (g 3 (by decide))]
  exact bs_stW (bs_op_times h _ _) K _
theorem bs_lc23 (h : bs_Rel x0 s0 Y S M) (hY : Y 14 0 = 0) {L i : Nat} (g : ∀ k, k ≤ 5 → inB (nI (i + k)) L = true) (xs : Nat → Int32) (K : Mem → MS → Int32 → Option (Int32 × Mem × MS)) : bs_nx x0 s0 Y (l_case23 (Y 0 0) L xs K S M (nI i)) K (nI i + 6) := by
  unfold l_case23
  rw [bs_a1, bs_a2, bs_a3, bs_a4, bs_gd (g 1 (by decide)), bs_gd (g 2 (by decide)), bs_gd (g 3 (by decide)), bs_gd (g 4 (by decide))]
  exact bs_stW (bs_op_divide h _ _ _) K _
theorem bs_lc24 (h : bs_Rel x0 s0 Y S M) (hY : Y 14 0 = 0) {L i : Nat} (g : ∀ k, k ≤ 5 → inB (nI (i + k)) L = true) (xs : Nat → Int32) (K : Mem → MS → Int32 → Option (Int32 × Mem × MS)) : bs_nx x0 s0 Y (l_case24 (Y 0 0) L xs K S M (nI i)) K (nI i + 6) := by
  unfold l_case24
  rw [bs_a1, bs_a2, bs_gd (g 1 (by decide)), bs_gd (g 2 (by decide))]
  exact bs_stW (bs_op_root h _ _) K _
theorem bs_lc25 (h : bs_Rel x0 s0 Y S M) (hY : Y 14 0 = 0) {L i : Nat} (g : ∀ k, k ≤ 5 → inB (nI (i + k)) L = true) (xs : Nat → Int32) (K : Mem → MS → Int32 → Option (Int32 × Mem × MS)) : bs_nx x0 s0 Y (l_case25 (Y 0 0) L xs K S M (nI i)) K (nI i + 6) := by
  unfold l_case25
  rw [bs_a1, bs_a2, bs_gd (g 1 (by decide)), bs_gd (g 2 (by decide))]
  exact bs_stW (bs_op_cube h _ _) K _
theorem bs_lc26 (h : bs_Rel x0 s0 Y S M) (hY : Y 14 0 = 0) {L i : Nat} (g : ∀ k, k ≤ 5 → inB (nI (i + k)) L = true) (xs : Nat → Int32) (K : Mem → MS → Int32 → Option (Int32 × Mem × MS)) : bs_nx x0 s0 Y (l_case26 (Y 0 0) L xs K S M (nI i)) K (nI i + 6) := by
  unfold l_case26
  rw [bs_a1, bs_a2, bs_gd (g 1 (by decide)), bs_gd (g 2 (by decide))]
  exact bs_stW (bs_op_turn h _ _) K _
theorem bs_lc27 (h : bs_Rel x0 s0 Y S M) (hY : Y 14 0 = 0) {L i : Nat} (g : ∀ k, k ≤ 5 → inB (nI (i + k)) L = true) (xs : Nat → Int32) (K : Mem → MS → Int32 → Option (Int32 × Mem × MS)) : bs_nx x0 s0 Y (l_case27 (Y 0 0) L xs K S M (nI i)) K (nI i + 6) := by
  unfold l_case27
  rw [bs_a1, bs_a2, bs_gd (g 1 (by decide)), bs_gd (g 2 (by decide))]
  exact bs_stW (bs_op_part h _ _) K _
theorem bs_lc28 (h : bs_Rel x0 s0 Y S M) (hY : Y 14 0 = 0) {L i : Nat} (g : ∀ k, k ≤ 5 → inB (nI (i + k)) L = true) (xs : Nat → Int32) (K : Mem → MS → Int32 → Option (Int32 × Mem × MS)) : bs_nx x0 s0 Y (l_case28 (Y 0 0) L xs K S M (nI i)) K (nI i + 6) := by
  unfold l_case28
  rw [bs_a1, bs_a2, bs_gd (g 1 (by decide)), bs_gd (g 2 (by decide))]
  exact bs_stW (bs_op_tally h _ _) K _
theorem bs_lc29 (h : bs_Rel x0 s0 Y S M) (hY : Y 14 0 = 0) {L i : Nat} (g : ∀ k, k ≤ 5 → inB (nI (i + k)) L = true) (xs : Nat → Int32) (K : Mem → MS → Int32 → Option (Int32 × Mem × MS)) : bs_nx x0 s0 Y (l_case29 (Y 0 0) L xs K S M (nI i)) K (nI i + 6) := by
  unfold l_case29
  exact bs_stR h (bs_op_steps h) K _
theorem bs_lc30 (h : bs_Rel x0 s0 Y S M) (hY : Y 14 0 = 0) {L i : Nat} (g : ∀ k, k ≤ 5 → inB (nI (i + k)) L = true) (xs : Nat → Int32) (K : Mem → MS → Int32 → Option (Int32 × Mem × MS)) : bs_nx x0 s0 Y (l_case30 (Y 0 0) L xs K S M (nI i)) K (nI i + 6) := by
  unfold l_case30
  rw [bs_a1, bs_a2, bs_gd (g 1 (by decide)), bs_gd (g 2 (by decide))]
  exact bs_stR h (bs_op_step h _ _) K _
theorem bs_lc31 (h : bs_Rel x0 s0 Y S M) (hY : Y 14 0 = 0) {L i : Nat} (g : ∀ k, k ≤ 5 → inB (nI (i + k)) L = true) (xs : Nat → Int32) (K : Mem → MS → Int32 → Option (Int32 × Mem × MS)) : bs_nx x0 s0 Y (l_case31 (Y 0 0) L xs K S M (nI i)) K (nI i + 6) := by
  unfold l_case31
  rw [bs_a1, bs_gd (g 1 (by decide))]
  exact bs_stR h (bs_op_stuck h _) K _
theorem bs_lc32 (h : bs_Rel x0 s0 Y S M) (hY : Y 14 0 = 0) {L i : Nat} (g : ∀ k, k ≤ 5 → inB (nI (i + k)) L = true) (xs : Nat → Int32) (K : Mem → MS → Int32 → Option (Int32 × Mem × MS)) : bs_nx x0 s0 Y (l_case32 (Y 0 0) L xs K S M (nI i)) K (nI i + 6) := by
  unfold l_case32
  exact bs_stW (bs_op_undo h hY) K _
theorem bs_lc33 (h : bs_Rel x0 s0 Y S M) (hY : Y 14 0 = 0) {L i : Nat} (g : ∀ k, k ≤ 5 → inB (nI (i + k)) L = true) (xs : Nat → Int32) (K : Mem → MS → Int32 → Option (Int32 × Mem × MS)) : bs_nx x0 s0 Y (l_case33 (Y 0 0) L xs K S M (nI i)) K (nI i + 6) := by
  unfold l_case33
  rw [bs_a1, bs_a2, bs_a3, bs_a4, bs_gd (g 1 (by decide)), bs_gd (g 2 (by decide)), bs_gd (g 3 (by decide)), bs_gd (g 4 (by decide))]
  exact bs_stW (bs_op_pupil h _ _ _ _) K _
theorem bs_lc34 (h : bs_Rel x0 s0 Y S M) (hY : Y 14 0 = 0) {L i : Nat} (g : ∀ k, k ≤ 5 → inB (nI (i + k)) L = true) (xs : Nat → Int32) (K : Mem → MS → Int32 → Option (Int32 × Mem × MS)) : bs_nx x0 s0 Y (l_case34 (Y 0 0) L xs K S M (nI i)) K (nI i + 6) := by
  unfold l_case34
  exact bs_stW (bs_op_begin h) K _
theorem bs_lc35 (h : bs_Rel x0 s0 Y S M) (hY : Y 14 0 = 0) {L i : Nat} (g : ∀ k, k ≤ 5 → inB (nI (i + k)) L = true) (xs : Nat → Int32) (K : Mem → MS → Int32 → Option (Int32 × Mem × MS)) : bs_nx x0 s0 Y (l_case35 (Y 0 0) L xs K S M (nI i)) K (nI i + 6) := by
  unfold l_case35
  exact bs_stR h (bs_op_slip h) K _
theorem bs_lc36 (h : bs_Rel x0 s0 Y S M) (hY : Y 14 0 = 0) {L i : Nat} (g : ∀ k, k ≤ 5 → inB (nI (i + k)) L = true) (xs : Nat → Int32) (K : Mem → MS → Int32 → Option (Int32 × Mem × MS)) : bs_nx x0 s0 Y (l_case36 (Y 0 0) L xs K S M (nI i)) K (nI i + 6) := by
  unfold l_case36
  exact bs_stR h (bs_op_lapse h) K _
theorem bs_lc37 (h : bs_Rel x0 s0 Y S M) (hY : Y 14 0 = 0) {L i : Nat} (g : ∀ k, k ≤ 5 → inB (nI (i + k)) L = true) (xs : Nat → Int32) (K : Mem → MS → Int32 → Option (Int32 × Mem × MS)) : bs_nx x0 s0 Y (l_case37 (Y 0 0) L xs K S M (nI i)) K (nI i + 6) := by
  unfold l_case37
  exact bs_stW (bs_op_fix h) K _
theorem bs_lc38 (h : bs_Rel x0 s0 Y S M) (hY : Y 14 0 = 0) {L i : Nat} (g : ∀ k, k ≤ 5 → inB (nI (i + k)) L = true) (xs : Nat → Int32) (K : Mem → MS → Int32 → Option (Int32 × Mem × MS)) : bs_nx x0 s0 Y (l_case38 (Y 0 0) L xs K S M (nI i)) K (nI i + 6) := by
  unfold l_case38
  rw [bs_a1, bs_a2, bs_gd (g 1 (by decide)), bs_gd (g 2 (by decide))]
  exact bs_stW (bs_op_exercise h _ _) K _
theorem bs_lc39 (h : bs_Rel x0 s0 Y S M) (hY : Y 14 0 = 0) {L i : Nat} (g : ∀ k, k ≤ 5 → inB (nI (i + k)) L = true) (xs : Nat → Int32) (K : Mem → MS → Int32 → Option (Int32 × Mem × MS)) : bs_nx x0 s0 Y (l_case39 (Y 0 0) L xs K S M (nI i)) K (nI i + 6) := by
  unfold l_case39
  rw [bs_a1, bs_a2, bs_gd (g 1 (by decide)), bs_gd (g 2 (by decide))]
  exact bs_stR h (bs_op_place h _ _) K _
theorem bs_lc40 (h : bs_Rel x0 s0 Y S M) (hY : Y 14 0 = 0) {L i : Nat} (g : ∀ k, k ≤ 5 → inB (nI (i + k)) L = true) (xs : Nat → Int32) (K : Mem → MS → Int32 → Option (Int32 × Mem × MS)) : bs_nx x0 s0 Y (l_case40 (Y 0 0) L xs K S M (nI i)) K (nI i + 6) := by
  unfold l_case40
  rw [bs_a1, bs_gd (g 1 (by decide))]
  exact bs_stR h (bs_op_fillings h _) K _
theorem bs_lc41 (h : bs_Rel x0 s0 Y S M) (hY : Y 14 0 = 0) {L i : Nat} (g : ∀ k, k ≤ 5 → inB (nI (i + k)) L = true) (xs : Nat → Int32) (K : Mem → MS → Int32 → Option (Int32 × Mem × MS)) : bs_nx x0 s0 Y (l_case41 (Y 0 0) L xs K S M (nI i)) K (nI i + 6) := by
  unfold l_case41
  rw [bs_a1, bs_a2, bs_gd (g 1 (by decide)), bs_gd (g 2 (by decide))]
  exact bs_stR h (bs_op_answer h _ _) K _
theorem bs_lc42 (h : bs_Rel x0 s0 Y S M) (hY : Y 14 0 = 0) {L i : Nat} (g : ∀ k, k ≤ 5 → inB (nI (i + k)) L = true) (xs : Nat → Int32) (K : Mem → MS → Int32 → Option (Int32 × Mem × MS)) : bs_nx x0 s0 Y (l_case42 (Y 0 0) L xs K S M (nI i)) K (nI i + 6) := by
  unfold l_case42
  rw [bs_a1, bs_gd (g 1 (by decide))]
  exact bs_stR h (bs_op_told h _) K _
theorem bs_lc43 (h : bs_Rel x0 s0 Y S M) (hY : Y 14 0 = 0) {L i : Nat} (g : ∀ k, k ≤ 5 → inB (nI (i + k)) L = true) (xs : Nat → Int32) (K : Mem → MS → Int32 → Option (Int32 × Mem × MS)) : bs_nx x0 s0 Y (l_case43 (Y 0 0) L xs K S M (nI i)) K (nI i + 6) := by
  unfold l_case43
  exact bs_stR h (bs_op_fault h) K _
theorem bs_round (h : bs_Rel x0 s0 Y S M) (hY : Y 14 0 = 0) {L i : Nat} (g : ∀ k, k ≤ 5 → inB (nI (i + k)) L = true) (xs : Nat → Int32) (n : Nat) (c : ¬ (nI L - 6) < nI i) : bs_nx x0 s0 Y (l_L (Y 0 0) L xs (n + 1) S M (nI i)) (l_L (Y 0 0) L xs n) (nI i + 6) := by
  rw [l_L, if_neg c, bs_gd (show inB (nI i) L = true from g 0 (by decide)), bs_let]
  generalize xs (Int32.toNatClampNeg (nI i)) &&& (63 : Int32) = v
  by_cases c0 : v = 0
  · rw [if_pos c0]
    exact bs_lc0 h hY g xs (l_L (Y 0 0) L xs n)
  rw [if_neg c0]
  by_cases c1 : v = 1
  · rw [if_pos c1]
    exact bs_lc1 h hY g xs (l_L (Y 0 0) L xs n)
  rw [if_neg c1]
  by_cases c2 : v = 2
  · rw [if_pos c2]
    exact bs_lc2 h hY g xs (l_L (Y 0 0) L xs n)
  rw [if_neg c2]
  by_cases c3 : v = 3
  · rw [if_pos c3]
    exact bs_lc3 h hY g xs (l_L (Y 0 0) L xs n)
  rw [if_neg c3]
  by_cases c4 : v = 4
  · rw [if_pos c4]
    exact bs_lc4 h hY g xs (l_L (Y 0 0) L xs n)
  rw [if_neg c4]
  by_cases c5 : v = 5
  · rw [if_pos c5]
    exact bs_lc5 h hY g xs (l_L (Y 0 0) L xs n)
  rw [if_neg c5]
  by_cases c6 : v = 6
  · rw [if_pos c6]
    exact bs_lc6 h hY g xs (l_L (Y 0 0) L xs n)
  rw [if_neg c6]
  by_cases c7 : v = 7
  · rw [if_pos c7]
    exact bs_lc7 h hY g xs (l_L (Y 0 0) L xs n)
  rw [if_neg c7]
  by_cases c8 : v = 8
  · rw [if_pos c8]
    exact bs_lc8 h hY g xs (l_L (Y 0 0) L xs n)
  rw [if_neg c8]
  by_cases c9 : v = 9
  · rw [if_pos c9]
    exact bs_lc9 h hY g xs (l_L (Y 0 0) L xs n)
  rw [if_neg c9]
  by_cases c10 : v = 10
  · rw [if_pos c10]
    exact bs_lc10 h hY g xs (l_L (Y 0 0) L xs n)
  rw [if_neg c10]
  by_cases c11 : v = 11
  · rw [if_pos c11]
    exact bs_lc11 h hY g xs (l_L (Y 0 0) L xs n)
  rw [if_neg c11]
  by_cases c12 : v = 12
  · rw [if_pos c12]
    exact bs_lc12 h hY g xs (l_L (Y 0 0) L xs n)
  rw [if_neg c12]
  by_cases c13 : v = 13
  · rw [if_pos c13]
    exact bs_lc13 h hY g xs (l_L (Y 0 0) L xs n)
  rw [if_neg c13]
  by_cases c14 : v = 14
  · rw [if_pos c14]
    exact bs_lc14 h hY g xs (l_L (Y 0 0) L xs n)
  rw [if_neg c14]
  by_cases c15 : v = 15
  · rw [if_pos c15]
    exact bs_lc15 h hY g xs (l_L (Y 0 0) L xs n)
  rw [if_neg c15]
  by_cases c16 : v = 16
  · rw [if_pos c16]
    exact bs_lc16 h hY g xs (l_L (Y 0 0) L xs n)
  rw [if_neg c16]
  by_cases c17 : v = 17
  · rw [if_pos c17]
    exact bs_lc17 h hY g xs (l_L (Y 0 0) L xs n)
  rw [if_neg c17]
  by_cases c18 : v = 18
  · rw [if_pos c18]
    exact bs_lc18 h hY g xs (l_L (Y 0 0) L xs n)
  rw [if_neg c18]
  by_cases c19 : v = 19
  · rw [if_pos c19]
    exact bs_lc19 h hY g xs (l_L (Y 0 0) L xs n)
  rw [if_neg c19]
  by_cases c20 : v = 20
  · rw [if_pos c20]
    exact bs_lc20 h hY g xs (l_L (Y 0 0) L xs n)
  rw [if_neg c20]
  by_cases c21 : v = 21
  · rw [if_pos c21]
    exact bs_lc21 h hY g xs (l_L (Y 0 0) L xs n)
  rw [if_neg c21]
  by_cases c22 : v = 22
  · rw [if_pos c22]
    exact bs_lc22 h hY g xs (l_L (Y 0 0) L xs n)
  rw [if_neg c22]
  by_cases c23 : v = 23
  · rw [if_pos c23]
    exact bs_lc23 h hY g xs (l_L (Y 0 0) L xs n)
  rw [if_neg c23]
  by_cases c24 : v = 24
  · rw [if_pos c24]
    exact bs_lc24 h hY g xs (l_L (Y 0 0) L xs n)
  rw [if_neg c24]
  by_cases c25 : v = 25
  · rw [if_pos c25]
    exact bs_lc25 h hY g xs (l_L (Y 0 0) L xs n)
  rw [if_neg c25]
  by_cases c26 : v = 26
  · rw [if_pos c26]
    exact bs_lc26 h hY g xs (l_L (Y 0 0) L xs n)
  rw [if_neg c26]
  by_cases c27 : v = 27
  · rw [if_pos c27]
    exact bs_lc27 h hY g xs (l_L (Y 0 0) L xs n)
  rw [if_neg c27]
  by_cases c28 : v = 28
  · rw [if_pos c28]
    exact bs_lc28 h hY g xs (l_L (Y 0 0) L xs n)
  rw [if_neg c28]
  by_cases c29 : v = 29
  · rw [if_pos c29]
    exact bs_lc29 h hY g xs (l_L (Y 0 0) L xs n)
  rw [if_neg c29]
  by_cases c30 : v = 30
  · rw [if_pos c30]
    exact bs_lc30 h hY g xs (l_L (Y 0 0) L xs n)
  rw [if_neg c30]
  by_cases c31 : v = 31
  · rw [if_pos c31]
    exact bs_lc31 h hY g xs (l_L (Y 0 0) L xs n)
  rw [if_neg c31]
  by_cases c32 : v = 32
  · rw [if_pos c32]
    exact bs_lc32 h hY g xs (l_L (Y 0 0) L xs n)
  rw [if_neg c32]
  by_cases c33 : v = 33
  · rw [if_pos c33]
    exact bs_lc33 h hY g xs (l_L (Y 0 0) L xs n)
  rw [if_neg c33]
  by_cases c34 : v = 34
  · rw [if_pos c34]
    exact bs_lc34 h hY g xs (l_L (Y 0 0) L xs n)
  rw [if_neg c34]
  by_cases c35 : v = 35
  · rw [if_pos c35]
    exact bs_lc35 h hY g xs (l_L (Y 0 0) L xs n)
  rw [if_neg c35]
  by_cases c36 : v = 36
  · rw [if_pos c36]
    exact bs_lc36 h hY g xs (l_L (Y 0 0) L xs n)
  rw [if_neg c36]
  by_cases c37 : v = 37
  · rw [if_pos c37]
    exact bs_lc37 h hY g xs (l_L (Y 0 0) L xs n)
  rw [if_neg c37]
  by_cases c38 : v = 38
  · rw [if_pos c38]
    exact bs_lc38 h hY g xs (l_L (Y 0 0) L xs n)
  rw [if_neg c38]
  by_cases c39 : v = 39
  · rw [if_pos c39]
    exact bs_lc39 h hY g xs (l_L (Y 0 0) L xs n)
  rw [if_neg c39]
  by_cases c40 : v = 40
  · rw [if_pos c40]
    exact bs_lc40 h hY g xs (l_L (Y 0 0) L xs n)
  rw [if_neg c40]
  by_cases c41 : v = 41
  · rw [if_pos c41]
    exact bs_lc41 h hY g xs (l_L (Y 0 0) L xs n)
  rw [if_neg c41]
  by_cases c42 : v = 42
  · rw [if_pos c42]
    exact bs_lc42 h hY g xs (l_L (Y 0 0) L xs n)
  rw [if_neg c42]
  by_cases c43 : v = 43
  · rw [if_pos c43]
    exact bs_lc43 h hY g xs (l_L (Y 0 0) L xs n)
  rw [if_neg c43]
  exact ⟨S, M, Y, rfl, h, rfl, rfl⟩
theorem bs_loop {L a1 : Nat} (hL : L ≤ 3072) (xs : Nat → Int32) : ∀ q n (Y : bs_Ly) (S : Mem) (M : MS) (i : Nat), bs_Rel x0 s0 Y S M → Y 0 0 = a1 → Y 14 0 = 0 → i ≤ L → L < i + 6 + 6 * q → q < n → ∃ w Y', l_L a1 L xs n S M (nI i) = some w ∧ w.1 = 1 ∧ bs_Rel x0 s0 Y' w.2.1 w.2.2
  | q, 0, _, _, _, _, _, _, _, _, _, hn => absurd hn (Nat.not_lt_zero _)
  | q, n + 1, Y, S, M, i, h, h0, hY, hi, hq, hn => by
    have e : (nI L - 6).toInt = (L : Int) - 6 := pk_sub_toInt (a := L) (b := 6) (by omega) (by decide)
    by_cases c : (nI L - 6) < nI i
    · rw [l_L, if_pos c]
      exact ⟨_, Y, rfl, rfl, h⟩
    · have c2 : i + 6 ≤ L := by
        rw [Int32.lt_iff_toInt_lt, e, nI_toInt (by omega)] at c
        omega
      rw [← h0]
      obtain ⟨S', M', Y', e1, h2, e2, e3⟩ := bs_round h hY (L := L) (i := i) (fun k hk => bs_inB (by omega) (by omega)) xs n c
      cases q with
      | zero => omega
      | succ q =>
        rw [e1, show nI i + 6 = nI (i + 6) from nI_add i 6]
        exact bs_loop hL xs q n Y' S' M' (i + 6) h2 e2 (e3.trans hY) c2 (by omega) (by omega)
end BsLoop
