/-! THE STATE OF THE PROGRAM'S OBJECTS: kinds, lengths, ints, longs, references by address; how many cells and slots there are -/
abbrev Mem : Type := (Nat → Nat) × (Nat → Nat) × (Nat → Nat → Int32) × (Nat → Nat → Int64) × (Nat → Nat → Option Nat) × Nat × Nat × Nat
def mNx (S : Mem) : Nat := S.2.2.2.2.2.1
def mSl (S : Mem) : Nat := S.2.2.2.2.2.2.1
/-- where the weights lie -/
def mW (S : Mem) : Nat := S.2.2.2.2.2.2.2
def mKd (S : Mem) (a : Nat) : Nat := if a < mNx S then S.1 a else 0
def mLn (S : Mem) (a : Nat) : Nat := S.2.1 a
def mI (S : Mem) (a k : Nat) : Int32 := S.2.2.1 a k
def mL (S : Mem) (a k : Nat) : Int64 := S.2.2.2.1 a k
def mR (S : Mem) (a k : Nat) : Option Nat := S.2.2.2.2.1 a k
def up1 {α : Type} (f : Nat → α) (a : Nat) (v : α) : Nat → α := fun b => if b = a then v else f b
def up2 {α : Type} (f : Nat → Nat → α) (a k : Nat) (v : α) : Nat → Nat → α := fun b j => if b = a ∧ j = k then v else f b j
def mSI (S : Mem) (a k : Nat) (v : Int32) : Mem := (S.1, S.2.1, up2 S.2.2.1 a k v, S.2.2.2)
def mSL (S : Mem) (a k : Nat) (v : Int64) : Mem := (S.1, S.2.1, S.2.2.1, up2 S.2.2.2.1 a k v, S.2.2.2.2)
def mSR (S : Mem) (a k : Nat) (v : Option Nat) : Mem := (S.1, S.2.1, S.2.2.1, S.2.2.2.1, up2 S.2.2.2.2.1 a k v, S.2.2.2.2.2)
/-- a new cell of a kind, of a length (0 for objects), of so many slots -/
def mNew (S : Mem) (kd ln sl : Nat) : Mem := (up1 S.1 (mNx S) kd, up1 S.2.1 (mNx S) ln, up1 S.2.2.1 (mNx S) (fun _ => 0), up1 S.2.2.2.1 (mNx S) (fun _ => 0), up1 S.2.2.2.2.1 (mNx S) (fun _ => none), mNx S + 1, mSl S + sl, mW S)
/-- a new row of ints, n long, that begins with another's -/
def mCopy (S : Mem) (a n : Nat) : Mem := (up1 S.1 (mNx S) 8, up1 S.2.1 (mNx S) n, up1 S.2.2.1 (mNx S) (fun j => if j < mLn S a then mI S a j else 0), up1 S.2.2.2.1 (mNx S) (fun _ => 0), up1 S.2.2.2.2.1 (mNx S) (fun _ => none), mNx S + 1, mSl S + n, mW S)
/-- class by class: the fields' types, how many fields -/
def cT : Nat → Nat → FieldType
  | 0 => tyX0 | 1 => tyX1 | 2 => tyX2 | 3 => tyX3 | 4 => tyX4 | 5 => tyX5 | _ => tyX6
def cN : Nat → Nat
  | 0 => 5 | 1 => 8 | 2 => 5 | 3 => 12 | 4 => 7 | 5 => 11 | _ => 45
def fvT (S : Mem) (a k : Nat) : FieldType → Value
  | .long => .long (mL S a k)
  | .object _ => va_rf (mR S a k)
  | .array _ => va_rf (mR S a k)
  | _ => .int (mI S a k)
def fv (ci : Nat) (S : Mem) (a k : Nat) : Value := fvT S a k (cT ci k)
/-- what a row of kind 8 (ints), 9 (longs), 10 (booleans), 11 .. (frames, rods, exercises), 14 (the weights) holds at a place -/
def avT (S : Mem) (a j : Nat) : Nat → Value
  | 8 => .int (mI S a j)
  | 9 => .long (mL S a j)
  | 10 => .int (mI S a j)
  | 14 => .int (mI S a j)
  | _ => va_rf (mR S a j)
/-- a row that is only read -/
def rdArr (D : JD) (S : Mem) (H : Heap) (a : Nat) : Prop := ∃ cell : Cell, H[a]? = some cell ∧ cell.cls = D.2.1 6 ∧ cell.vm ≠ .unknown ∧ (∀ q, cell.vm ≠ .statics q) ∧ mLn S a ≤ cell.slots.size ∧ ∀ j, j < mLn S a → cell.slots[j]? = some (.int (mI S a j))
def repAt (D : JD) (S : Mem) (H : Heap) (a k : Nat) : Prop :=
  if k = 0 then True else if k < 8 then t_OB a (D.1.1 (k - 1)) (cN (k - 1)) (D.1.2 (k - 1)) H (fv (k - 1) S a) else if k = 14 then rdArr D S H a else H[a]? = some (arrV (D.2.1 (k - 8)) (mLn S a) (fun j => avT S a j k))
def mRep (D : JD) (S : Mem) (H : Heap) : Prop := H.size = mNx S ∧ (∀ a, repAt D S H a (mKd S a)) ∧ ∃ cell : Cell, H[D.2.2.1]? = some cell ∧ cell.vm.isStatics = true ∧ cell.slots[D.2.2.2]? = some (.ref (mW S))
def mFree (S : Mem) (q : Nat) : Prop := (mKd S q ≠ 0 ∧ mKd S q ≠ 14) ∨ mNx S ≤ q
def MX : RT Mem := (mRep, mFree, mNx, mSl, mKd, mLn)
theorem repObj {D : JD} {S : Mem} {H : Heap} {a ci : Nat} (h : mRep D S H) (hk : mKd S a = ci + 1) (hci : ci < 7) : t_OB a (D.1.1 ci) (cN ci) (D.1.2 ci) H (fv ci S a) := by
  have := h.2.1 a
  unfold repAt at this
  rw [hk, if_neg (by omega), if_pos (by omega)] at this
  exact this
theorem repRd {D : JD} {S : Mem} {H : Heap} {a : Nat} (h : mRep D S H) (hk : mKd S a = 14) : rdArr D S H a := by
  have := h.2.1 a
  unfold repAt at this
  rw [hk, if_neg (by omega), if_neg (by omega), if_pos rfl] at this
  exact this
theorem repArr {D : JD} {S : Mem} {H : Heap} {a z : Nat} (h : mRep D S H) (hk : mKd S a = 8 + z) (hz6 : z < 6 := by decide) : H[a]? = some (arrV (D.2.1 z) (mLn S a) (fun j => avT S a j (8 + z))) := by
  have := h.2.1 a
  unfold repAt at this
  rw [hk, if_neg (by omega), if_neg (by omega), if_neg (by omega)] at this
  rw [show 8 + z - 8 = z by omega] at this
  exact this
/-- two states alike but for the cell a -/
def mSame (S S2 : Mem) (a : Nat) : Prop := mW S2 = mW S ∧ mNx S2 = mNx S ∧ mSl S2 = mSl S ∧ mKd S2 = mKd S ∧ mLn S2 = mLn S ∧ ∀ b, b ≠ a → mI S2 b = mI S b ∧ mL S2 b = mL S b ∧ mR S2 b = mR S b
theorem mSame_I (S : Mem) (a k : Nat) (v : Int32) : mSame S (mSI S a k v) a := ⟨rfl, rfl, rfl, rfl, rfl, fun b hb => ⟨by funext j; simp [mI, mSI, up2, hb], rfl, rfl⟩⟩
theorem mSame_L (S : Mem) (a k : Nat) (v : Int64) : mSame S (mSL S a k v) a := ⟨rfl, rfl, rfl, rfl, rfl, fun b hb => ⟨rfl, by funext j; simp [mL, mSL, up2, hb], rfl⟩⟩
theorem mSame_R (S : Mem) (a k : Nat) (v : Option Nat) : mSame S (mSR S a k v) a := ⟨rfl, rfl, rfl, rfl, rfl, fun b hb => ⟨rfl, rfl, by funext j; simp [mR, mSR, up2, hb]⟩⟩
theorem mSame.le {S S2 : Mem} {a : Nat} (h : mSame S S2 a) : jle MX S S2 := by
  obtain ⟨-, h1, h2, h3, h4, -⟩ := h
  refine ⟨Nat.le_of_eq h1.symm, Nat.le_of_eq h2.symm, fun b _ => ⟨congrFun h3 b, congrFun h4 b⟩, fun q hq => ?_⟩
  have hq : (mKd S2 q ≠ 0 ∧ mKd S2 q ≠ 14) ∨ mNx S2 ≤ q := hq
  rw [h3, h1] at hq
  exact hq
theorem fvT_same {S S2 : Mem} {b : Nat} (h : mI S2 b = mI S b ∧ mL S2 b = mL S b ∧ mR S2 b = mR S b) (k : Nat) (ty : FieldType) : fvT S2 b k ty = fvT S b k ty := by
  obtain ⟨h1, h2, h3⟩ := h
  cases ty <;> simp [fvT, h1, h2, h3]
theorem avT_same {S S2 : Mem} {b : Nat} (h : mI S2 b = mI S b ∧ mL S2 b = mL S b ∧ mR S2 b = mR S b) (j k : Nat) : avT S2 b j k = avT S b j k := by
  obtain ⟨h1, h2, h3⟩ := h
  unfold avT
  split <;> simp [h1, h2, h3]
theorem repAt_same {D : JD} {S S2 : Mem} {H H2 : Heap} {b k : Nat} (h : repAt D S H b k) (hH : H2[b]? = H[b]?) (hl : mLn S2 b = mLn S b) (hs : mI S2 b = mI S b ∧ mL S2 b = mL S b ∧ mR S2 b = mR S b) : repAt D S2 H2 b k := by
  unfold repAt at h ⊢
  split
  · trivial
  · rename_i h0
    rw [if_neg h0] at h
    split
    · rename_i h1
      rw [if_pos h1] at h
      exact (h.kept hH).to (fun j _ => (fvT_same hs j _).symm)
    · rename_i h1
      rw [if_neg h1] at h
      split
      · rename_i h2
        rw [if_pos h2] at h
        obtain ⟨cell, q1, q2, q3, q4, q5, q6⟩ := h
        refine ⟨cell, by rw [hH]; exact q1, q2, q3, q4, by rw [hl]; exact q5, fun j hj => ?_⟩
        rw [hl] at hj
        rw [hs.1]
        exact q6 j hj
      · rename_i h2
        rw [if_neg h2] at h
        rw [hH, h, hl]
        congr 2
        funext j
        exact (avT_same hs j k).symm
/-- one cell has changed -/
theorem mRep.put {D : JD} {S S2 : Mem} {H H2 : Heap} {a : Nat} (h : mRep D S H) (hs : mSame S S2 a) (hz : H2.size = H.size) (ho : ∀ q, q ≠ a → H2[q]? = H[q]?) (hk : mKd S a ≠ 0) (ha : repAt D S2 H2 a (mKd S a)) : mRep D S2 H2 := by
  obtain ⟨h1, h2, cell, h3, h4, h5⟩ := id h
  obtain ⟨s0, s1, s2, s3, s4, s5⟩ := hs
  refine ⟨by rw [hz, h1, s1], fun b => ?_, cell, ?_, h4, by rw [s0]; exact h5⟩
  · rw [s3]
    by_cases hb : b = a
    · subst hb; exact ha
    · exact repAt_same (h2 b) (ho b hb) (congrFun s4 b) (s5 b hb)
  · rw [ho _ ?_]; · exact h3
    intro he
    have h6 := h2 a
    unfold repAt at h6
    rw [if_neg hk] at h6
    rw [he] at h3
    split at h6
    · obtain ⟨c2, q1, q2, q3, -⟩ := h6
      cases h3.symm.trans q1
      rw [q3] at h4
      cases h4
    · split at h6
      · obtain ⟨c2, q1, q2, q3, q4, -⟩ := h6
        cases h3.symm.trans q1
        cases hv : cell.vm <;> first | exact (q4 _ hv).elim | (rw [hv] at h4; cases h4)
      · cases h3.symm.trans h6
        cases h4
theorem updV_ne {f : Nat → Value} {k j : Nat} {v : Value} (h : j ≠ k) : updV f k v j = f j := by simp [updV, h]
theorem updV_eq {f : Nat → Value} {k : Nat} {v : Value} : updV f k v k = v := by simp [updV]
theorem mKd_new (S : Mem) (kd ln sl a : Nat) : mKd (mNew S kd ln sl) a = if a = mNx S then kd else mKd S a := by
  show (if a < mNx S + 1 then up1 S.1 (mNx S) kd a else 0) = _
  unfold mKd up1
  by_cases h : a = mNx S
  · subst h; simp
  · by_cases h2 : a < mNx S
    · simp [h, h2, Nat.lt_succ_of_lt h2]
    · simp [h, h2, show ¬ a < mNx S + 1 by omega]
theorem mKd_copy (S : Mem) (b n a : Nat) : mKd (mCopy S b n) a = if a = mNx S then 8 else mKd S a := by
  show (if a < mNx S + 1 then up1 S.1 (mNx S) 8 a else 0) = _
  unfold mKd up1
  by_cases h : a = mNx S
  · subst h; simp
  · by_cases h2 : a < mNx S
    · simp [h, h2, Nat.lt_succ_of_lt h2]
    · simp [h, h2, show ¬ a < mNx S + 1 by omega]
theorem mKd_lt {S : Mem} {a : Nat} (h : mKd S a ≠ 0) : a < mNx S := by
  unfold mKd at h
  split at h
  · assumption
  · exact absurd rfl h
theorem mNew_le (S : Mem) (kd ln sl : Nat) : jle MX S (mNew S kd ln sl) := by
  refine ⟨Nat.le_succ _, Nat.le_add_right _ _, fun b hb => ?_, fun q hq => ?_⟩
  · have hl : b < mNx S := hb
    refine ⟨?_, ?_⟩
    · show mKd (mNew S kd ln sl) b = _
      rw [mKd_new, if_neg (by omega)]
      rfl
    · show up1 S.2.1 (mNx S) ln b = _
      simp [up1, show b ≠ mNx S by omega]
      rfl
  · have hq : (mKd (mNew S kd ln sl) q ≠ 0 ∧ mKd (mNew S kd ln sl) q ≠ 14) ∨ mNx S + 1 ≤ q := hq
    rw [mKd_new] at hq
    show (mKd S q ≠ 0 ∧ mKd S q ≠ 14) ∨ mNx S ≤ q
    by_cases h : q = mNx S
    · right; omega
    · rw [if_neg h] at hq
      rcases hq with h1 | h1
      · exact Or.inl h1
      · right; omega
theorem mCopy_le (S : Mem) (a n : Nat) : jle MX S (mCopy S a n) := by
  have h := mNew_le S 8 n n
  exact ⟨h.1, h.2.1, fun b hb => h.2.2.1 b hb, fun q hq => h.2.2.2 q hq⟩
/-- a cell has come -/
theorem mRep.new {D : JD} {S S2 : Mem} {H H2 : Heap} (h : mRep D S H) (hw : mW S2 = mW S) (hn : mNx S2 = mNx S + 1) (hk : ∀ b, b ≠ mNx S → mKd S2 b = mKd S b) (hln : ∀ b, b ≠ mNx S → mLn S2 b = mLn S b) (hs : ∀ b, b ≠ mNx S → mI S2 b = mI S b ∧ mL S2 b = mL S b ∧ mR S2 b = mR S b)
    (hz : H2.size = H.size + 1) (ho : ∀ q, q < H.size → H2[q]? = H[q]?) (ha : repAt D S2 H2 (mNx S) (mKd S2 (mNx S))) : mRep D S2 H2 := by
  obtain ⟨h1, h2, cell, h3, h4, h5⟩ := id h
  refine ⟨by rw [hz, h1, hn], fun b => ?_, cell, ?_, h4, by rw [hw]; exact h5⟩
  · by_cases hb : b = mNx S
    · subst hb; exact ha
    · rw [hk b hb]
      by_cases hb0 : mKd S b = 0
      · rw [hb0]; simp [repAt]
      · exact repAt_same (h2 b) (ho b (by rw [h1]; exact mKd_lt hb0)) (hln b hb) (hs b hb)
  · rw [ho _ (Array.getElem?_eq_some_iff.mp h3).1]; exact h3
