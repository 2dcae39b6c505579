/-! THE SIMULATION: what the class's state has to do with the reference's -/
theorem bs_lit (n : Nat) : (OfNat.ofNat n : Int32) = nI n := rfl
theorem bs_litL (n : Nat) : (OfNat.ofNat n : Int64) = lN n := rfl
theorem bs_cl {n : Nat} (h : n < 2 ^ 31) : Int32.toNatClampNeg (nI n) = n := nI_clamp h
theorem bs_inB {n k : Nat} (h : n < k) (hk : k < 2 ^ 31) : inB (nI n) k = true := decide_eq_true (nI_in h hk)
theorem bs_gd {β : Type} {b : Bool} {k : Option β} (h : b = true) : gd b k = k := by unfold gd; rw [if_pos h]
theorem bs_bnd {α β : Type} (x : α) (f : α → Option β) : bnd (some x) f = f x := rfl
theorem bs_bnd2 {α σ β : Type} (x : α) (s : σ) (f : α → σ → Option β) : bnd2 (some (x, s)) f = f x s := rfl
theorem bs_let {α β : Type} (x : α) (f : α → Option β) : jLet x f = f x := rfl
theorem bs_ocN {β : Type} (a : Option β) (f : Nat → Option β) : oc none a f = a := rfl
theorem bs_ocS {β : Type} (v : Nat) (a : Option β) (f : Nat → Option β) : oc (some v) a f = f v := rfl
theorem bs_ob {S : Mem} {a t : Nat} (h : mKd S a = t) : ob S (some a) t = some a := by
  unfold ob
  simp [h]
theorem bs_kb {S : Mem} {a t : Nat} (h : mKd S a = t) : kb S a t = true := decide_eq_true h
theorem bs_zb0 : zb 0 = true := rfl
theorem bs_zb1 : zb 1 = true := rfl
/-- numbers of the reference's state -/
def bs_n (M : MS) : Nat := (nF M 0).toNatClampNeg
def bs_e (M : MS) : Nat := (nF M 36).toNatClampNeg
def bs_s (M : MS) : Nat := (nF M 21).toNatClampNeg
def bs_p (M : MS) : Nat := (nF M 34).toNatClampNeg
def bs_k (M : MS) (f : Nat) : Nat := (nA M 1 f).toNatClampNeg
def bs_m (M : MS) (f : Nat) : Nat := (nA M 2 f).toNatClampNeg
def bs_b (M : MS) (f : Nat) : Nat := (nA M 3 f).toNatClampNeg
def bs_d (M : MS) (f : Nat) : Nat := (nA M 4 f).toNatClampNeg
def bs_1 (M : MS) (f : Nat) : Nat := (nA M 5 f).toNatClampNeg
def bs_2 (M : MS) (f : Nat) : Nat := (nA M 6 f).toNatClampNeg
def bs_r (M : MS) (f i : Nat) : Nat := (nA M 8 (18 * f + i)).toNatClampNeg
def bs_l (M : MS) (r : Nat) : Nat := (nA M 10 r).toNatClampNeg
def bs_u (M : MS) (r : Nat) : Nat := (nA M 11 r).toNatClampNeg
/-- there is such a rod -/
def bs_rv (M : MS) (r : Nat) : Prop := r / 18 < bs_n M ∧ bs_k M (r / 18) ≠ 4 ∧ r % 18 < bs_m M (r / 18)
/-- a frame's numbers -/
def bs_Fr (M : MS) (f : Nat) : Prop :=
  (nA M 1 f = nI (bs_k M f) ∧ bs_k M f ≤ 4) ∧ (nA M 2 f = nI (bs_m M f) ∧ bs_m M f ≤ 18) ∧ (nA M 3 f = nI (bs_b M f) ∧ (bs_b M f = 10 ∨ (bs_b M f = 16 ∧ bs_m M f ≤ 14))) ∧
  (nA M 4 f = nI (bs_d M f) ∧ bs_d M f ≤ 5) ∧ (bs_k M f ≠ 4 → bs_b M f = if bs_k M f = 3 then 16 else 10) ∧
  (bs_k M f = 4 → (nA M 5 f = nI (bs_1 M f) ∧ bs_1 M f < f ∧ bs_d M (bs_1 M f) < bs_d M f) ∧ (nA M 6 f = nI (bs_2 M f) ∧ bs_2 M f < f ∧ bs_d M (bs_2 M f) < bs_d M f)) ∧
  (∀ i, i < bs_m M f → nA M 8 (18 * f + i) = nI (bs_r M f i) ∧ bs_rv M (bs_r M f i) ∧ (bs_k M f ≠ 4 → bs_r M f i = 18 * f + i))
/-- what a rod of a kind may hold: how many numbers, LOWER, UPPER -/
def bs_rg (k : Nat) (ln lo up : Int32) : Prop := (-1 ≤ ln ∧ ln ≤ 2 ∧ (k = 2 → ln ≤ 1)) ∧ (∃ l : Nat, lo = nI l ∧ l ≤ 15 ∧ (k ≠ 2 → l ≤ 5)) ∧ (∃ u : Nat, up = nI u ∧ u ≤ 2 ∧ (k = 2 → u = 0))
def bs_Rods (M : MS) : Prop := ∀ r, r < 540 → bs_rg (bs_k M (r / 18)) (nA M 9 r) (nA M 10 r) (nA M 11 r) ∧ (bs_n M ≤ r / 18 → nA M 9 r = 0 ∧ nA M 10 r = 0 ∧ nA M 11 r = 0)
/-- the steps' history: LOWER and UPPER of each rod behind so many steps -/
def bs_Hist (M : MS) (s : Nat) (hl hu : Nat → Nat → Int32) : Prop :=
  (∀ r, hl s r = nA M 10 r ∧ hu s r = nA M 11 r) ∧ ∀ k, k < s → (∃ f i : Nat, nA M 28 (7 * k) = nI f ∧ nA M 28 (7 * k + 1) = nI i ∧ f < bs_n M ∧ i < bs_m M f ∧
    ∀ r, hl k r = (if r = bs_r M f i then hl (k + 1) r - nA M 28 (7 * k + 3) else hl (k + 1) r) ∧ hu k r = (if r = bs_r M f i then hu (k + 1) r - nA M 28 (7 * k + 2) else hu (k + 1) r)) ∧ ∀ r, r < 540 → bs_rg (bs_k M (r / 18)) (nA M 9 r) (hl k r) (hu k r)
/-- which frames the latest method's steps are of: g + 1, or 0: none -/
def bs_Of (M : MS) (g : Nat) : Prop := ∀ k, k < bs_s M → ∃ f i : Nat, nA M 28 (7 * k) = nI f ∧ nA M 28 (7 * k + 1) = nI i ∧ f < bs_n M ∧ i < bs_m M f ∧ nF M 18 = 1 ∧ (nF M 19 = nI f ∨ g = f + 1)
def bs_Inv (M : MS) : Prop :=
  (nF M 0 = nI (bs_n M) ∧ bs_n M ≤ 30) ∧ (nF M 36 = nI (bs_e M) ∧ bs_e M ≤ 200) ∧ (nF M 34 = nI (bs_p M) ∧ bs_p M ≤ 300) ∧ (nF M 21 = nI (bs_s M) ∧ bs_s M < 5000) ∧
  (∀ f, f < bs_n M → bs_Fr M f) ∧ bs_Rods M ∧ (nF M 18 = 0 ∨ (nF M 18 = 1 ∧ ∃ f : Nat, nF M 19 = nI f ∧ f < bs_n M)) ∧ (nF M 20 = 0 ∨ nF M 20 = 1) ∧
  (∃ s : Nat, nF M 22 = nI s ∧ s ≤ bs_s M)
/-- where things lie: 0 the school, 1 frames, 2 rods, 3 the reckoning, 4 its parts, 5 its row, 6 the pupil's row, 7 exercises, 8 their digits, 9 the row of frames, 10 of exercises, 11 rows of rods; 12: the ghost of g; 13 the weights -/
abbrev bs_Ly : Type := Nat → Nat → Nat
def bs_kd : Nat → Nat
  | 0 => 6 | 1 => 2 | 2 => 5 | 3 => 4 | 4 => 3 | 5 => 8 | 6 => 8 | 7 => 1 | 8 => 8 | 9 => 11 | 10 => 13 | 11 => 12 | _ => 14
def bs_val (M : MS) : Nat → Nat → Prop
  | 1, f => f < bs_n M
  | 2, r => bs_rv M r
  | 7, e => e < bs_e M
  | 8, e => e < bs_e M
  | 11, f => f < bs_n M
  | 0, i => i = 0 | 3, i => i = 0 | 4, i => i = 0 | 5, i => i = 0 | 6, i => i = 0 | 9, i => i = 0 | 10, i => i = 0 | 13, i => i = 0
  | _, _ => False
/-- the ints that are known -/
def bs_w (M : MS) : Nat → Nat → Nat → Option Int32
  | 0, _, 1 => some (nF M 0) | 0, _, 3 => some (nF M 36) | 0, _, 6 => some (nF M 34) | 0, _, 7 => some (nF M 12) | 0, _, 8 => some (nF M 15) | 0, _, 9 => some (nF M 14) | 0, _, 10 => some (nF M 13)
  | 1, f, 0 => some (nI f) | 1, f, 1 => some (nA M 1 f) | 1, f, 2 => some (nA M 3 f) | 1, f, 3 => some (nA M 4 f) | 1, f, 4 => some (nA M 7 f)
  | 2, r, 0 => some (if bs_k M (r / 18) = 2 then 1 else 0)
  | 2, r, 1 => some (if bs_k M (r / 18) = 2 then 1 else 2)
  | 2, r, 2 => some (if bs_k M (r / 18) = 2 then 10 else if bs_k M (r / 18) = 0 then 4 else 5)
  | 2, r, 3 => some (if bs_k M (r / 18) = 2 then 0 else if bs_k M (r / 18) = 0 then 1 else 2)
  | 2, r, 4 => some (nA M 9 r) | 2, r, 5 => some (nA M 10 r) | 2, r, 6 => some (nA M 11 r)
  | 3, _, 2 => some (nF M 21) | 3, _, 3 => some (nF M 22) | 3, _, 4 => some (nF M 20) | 3, _, 7 => some (nF M 23) | 3, _, 8 => some (nF M 24) | 3, _, 9 => some (nF M 25) | 3, _, 10 => some (nF M 26) | 3, _, 11 => some (nF M 27)
  | 5, _, j => if j < 7 * bs_s M then some (nA M 28 j) else none
  | 6, _, j => if j < 4 * bs_p M then some (nA M 35 j) else none
  | 7, e, 0 => some (nA M 37 e) | 7, e, 3 => some (nA M 41 e)
  | 8, e, j => if j < 12 then some (nA M 40 (12 * e + j)) else none
  | 13, _, 0 => some 100000 | 13, _, 1 => some 10000 | 13, _, 2 => some 1000 | 13, _, 3 => some 100 | 13, _, 4 => some 10 | 13, _, 5 => some 1
  | _, _, _ => none
/-- the references that are known -/
def bs_wr (Y : bs_Ly) (M : MS) : Nat → Nat → Nat → Option (Option Nat)
  | 0, _, 0 => some (some (Y 9 0)) | 0, _, 2 => some (some (Y 10 0)) | 0, _, 4 => some (some (Y 3 0)) | 0, _, 5 => some (some (Y 6 0))
  | 1, f, 5 => some (some (Y 11 f))
  | 1, f, 6 => some (if bs_k M f = 4 then some (Y 1 (bs_1 M f)) else none)
  | 1, f, 7 => some (if bs_k M f = 4 then some (Y 1 (bs_2 M f)) else none)
  | 3, _, 0 => some (some (Y 4 0)) | 3, _, 1 => some (some (Y 5 0))
  | 3, _, 5 => some (if nF M 18 = 0 then none else some (Y 1 (nF M 19).toNatClampNeg))
  | 3, _, 6 => some (if Y 12 0 = 0 then none else some (Y 1 (Y 12 0 - 1)))
  | 7, e, 1 => some (some (Y 8 e))
  | 9, _, k => if k < bs_n M then some (some (Y 1 k)) else none
  | 10, _, k => if k < bs_e M then some (some (Y 7 k)) else none
  | 11, f, i => if i < bs_m M f then some (some (Y 2 (bs_r M f i))) else none
  | _, _, _ => none
def bs_Shape (Y : bs_Ly) (S : Mem) (M : MS) : Prop :=
  (∀ t i, bs_val M t i → mKd S (Y t i) = bs_kd t) ∧ (∀ t i t2 i2, bs_val M t i → bs_val M t2 i2 → Y t i = Y t2 i2 → t = t2 ∧ i = i2) ∧
  mLn S (Y 9 0) = 30 ∧ mLn S (Y 10 0) = 200 ∧ (∀ f, f < bs_n M → mLn S (Y 11 f) = bs_m M f) ∧ (∀ e, e < bs_e M → mLn S (Y 8 e) = 12) ∧
  (∃ c : Nat, mLn S (Y 5 0) = 224 * c ∧ 0 < c ∧ c ≤ 313) ∧ 7 * bs_s M ≤ mLn S (Y 5 0) ∧ (∃ c : Nat, mLn S (Y 6 0) = 64 * c ∧ 0 < c ∧ c ≤ 40) ∧ 4 * bs_p M ≤ mLn S (Y 6 0) ∧
  mW S = Y 13 0 ∧ mLn S (Y 13 0) = 6 ∧ (Y 12 0 = 0 ∨ Y 12 0 - 1 < bs_n M)
def bs_Ints (Y : bs_Ly) (S : Mem) (M : MS) : Prop := ∀ t i k v, bs_val M t i → bs_w M t i k = some v → mI S (Y t i) k = v
def bs_Refs (Y : bs_Ly) (S : Mem) (M : MS) : Prop := ∀ t i k v, bs_val M t i → bs_wr Y M t i k = some v → mR S (Y t i) k = v
def bs_Room (x0 s0 : Nat) (Y : bs_Ly) (S : Mem) (M : MS) : Prop :=
  mNx S ≤ x0 + 100 + 20 * bs_n M + 2 * bs_e M + mLn S (Y 5 0) + mLn S (Y 6 0) ∧ mSl S ≤ s0 + 1000 + 300 * bs_n M + 30 * bs_e M + 2 * mLn S (Y 5 0) + 2 * mLn S (Y 6 0)
/-- how many digits a number has, one of them -/
def bs_dg (b : Nat) : Nat → Nat → Nat
  | 0, _ => 0
  | n + 1, v => if v = 0 then 0 else bs_dg b n (v / b) + 1
def bs_dig (b v i : Nat) : Nat := v / b ^ i % b
def bs_Prt (Y : bs_Ly) (S : Mem) (M : MS) : Prop :=
  (nF M 29 = 0 ∧ mI S (Y 4 0) 0 = 0) ∨ (nF M 29 = 1 ∧ ∃ b x v li lj : Nat, (b = 10 ∨ b = 16) ∧ mI S (Y 4 0) 0 = nI b ∧ x < 2 ^ 63 ∧ v < 2 ^ 63 ∧ mL S (Y 4 0) 1 = lN x ∧ mL S (Y 4 0) 2 = lN v ∧ li ≤ 64 ∧ lj ≤ 64 ∧ mI S (Y 4 0) 3 = nI li ∧ mI S (Y 4 0) 4 = nI lj ∧
    nF M 30 = nI (bs_dg b 64 x) ∧ nF M 31 = nI (bs_dg b 64 v) ∧ (∀ i, i < bs_dg b 64 x → nA M 32 i = if bs_dig b x i = 0 then 0 else 1) ∧
    ∀ i j, i < bs_dg b 64 x → j < bs_dg b 64 v → bs_dig b x i ≠ 0 → nP M (20 * i + j) = if li < i ∨ (i = li ∧ lj ≤ j) then lN (bs_dig b x i * bs_dig b v j) else 0)
def bs_Exs (Y : bs_Ly) (S : Mem) (M : MS) : Prop := ∀ e, e < bs_e M → ∃ B : Nat, B < 4096 ∧ mI S (Y 7 e) 2 = nI B ∧ ∀ p, p < 12 → nA M 39 (12 * e + p) = (if B.testBit p then 1 else 0) ∧ (B.testBit p = false → nA M 38 (12 * e + p) = nA M 40 (12 * e + p))
/-- steps that stand can be taken back (unless it is waived for a while: Y 14 0) -/
def bs_His (Y : bs_Ly) (M : MS) : Prop := nF M 20 = 0 → Y 14 0 = 0 → ∃ (s : Nat) (hl hu : Nat → Nat → Int32), nF M 22 = nI s ∧ s < 5000 ∧ bs_Hist M s hl hu
def bs_Rel (x0 s0 : Nat) (Y : bs_Ly) (S : Mem) (M : MS) : Prop := bs_Inv M ∧ bs_Shape Y S M ∧ bs_Ints Y S M ∧ bs_Refs Y S M ∧ bs_Prt Y S M ∧ bs_Exs Y S M ∧ bs_Of M (Y 12 0) ∧ bs_Room x0 s0 Y S M ∧ bs_His Y M
