/-! fillings of an exercise: numbers alone. Places are counted from the right: r stands for place 11 - r -/
def be_bl (B r : Nat) : Bool := B.testBit (11 - r)
def be_ct (B : Nat) : Nat → Nat
  | 0 => 0
  | r + 1 => be_ct B r + (if be_bl B r then 1 else 0)
/-- the number of such digits -/
def be_N (f : Nat → Nat) : Nat → Nat
  | 0 => 0
  | k + 1 => be_N f k + f k * 10 ^ k
def be_T (B : Nat) (D : Nat → Nat) (w r : Nat) : Nat := if be_bl B r then w / 10 ^ be_ct B r % 10 else D r
def be_V (B : Nat) (d : Nat → Nat) : Nat → Nat
  | 0 => 0
  | r + 1 => be_V B d r + (if be_bl B r then d r * 10 ^ be_ct B r else 0)
theorem be_p10 (n : Nat) : 0 < 10 ^ n := Nat.pow_pos (by decide)
theorem be_N_lt {f : Nat → Nat} (h : ∀ k, f k ≤ 9) : ∀ n, be_N f n < 10 ^ n
  | 0 => Nat.one_pos
  | n + 1 => by
    have a := be_N_lt h n
    have b : f n * 10 ^ n ≤ 9 * 10 ^ n := Nat.mul_le_mul_right _ (h n)
    show be_N f n + f n * 10 ^ n < 10 ^ (n + 1)
    rw [Nat.pow_succ]
    omega
theorem be_dm {q a b : Nat} {p : Nat} (hp : 0 < p) (ha : a < p) (hb : b ≤ 9) : (a + b * p + q * (p * 10)) / p % 10 = b := by
  have e : a + b * p + q * (p * 10) = a + p * (b + q * 10) := by
    rw [Nat.mul_add, Nat.mul_comm p b, ← Nat.add_assoc, Nat.mul_left_comm]
  rw [e, Nat.add_mul_div_left _ _ hp, Nat.div_eq_of_lt ha]
  omega
theorem be_N_dig {f : Nat → Nat} (h : ∀ k, f k ≤ 9) : ∀ n r, r < n → be_N f n / 10 ^ r % 10 = f r := by
  intro n r hr
  have key : ∀ d, ∃ q, be_N f (r + 1 + d) = be_N f r + f r * 10 ^ r + q * (10 ^ r * 10) := by
    intro d
    induction d with
    | zero => exact ⟨0, by rw [Nat.zero_mul]; rfl⟩
    | succ d ih =>
      obtain ⟨q, hq⟩ := ih
      refine ⟨q + f (r + 1 + d) * 10 ^ d, ?_⟩
      show be_N f (r + 1 + d) + f (r + 1 + d) * 10 ^ (r + 1 + d) = _
      rw [hq, Nat.add_mul q, ← Nat.add_assoc, Nat.pow_add 10 (r + 1) d, Nat.pow_succ, Nat.mul_comm (10 ^ r * 10) (10 ^ d), Nat.mul_assoc (f (r + 1 + d))]
  obtain ⟨q, hq⟩ := key (n - (r + 1))
  rw [show r + 1 + (n - (r + 1)) = n by omega] at hq
  rw [hq]
  exact be_dm (be_p10 r) (be_N_lt h r) (h r)
theorem be_N_self (x : Nat) : ∀ n, be_N (fun r => x / 10 ^ r % 10) n = x % 10 ^ n
  | 0 => by rw [Nat.pow_zero, Nat.mod_one]; rfl
  | n + 1 => by
    show be_N (fun r => x / 10 ^ r % 10) n + x / 10 ^ n % 10 * 10 ^ n = _
    rw [be_N_self x n, Nat.pow_succ, Nat.mod_mul, Nat.mul_comm (x / 10 ^ n % 10)]
theorem be_N_ext {f g : Nat → Nat} : ∀ n, (∀ r, r < n → f r = g r) → be_N f n = be_N g n
  | 0, _ => rfl
  | n + 1, h => by
    show be_N f n + f n * 10 ^ n = be_N g n + g n * 10 ^ n
    rw [be_N_ext n (fun r hr => h r (by omega)), h n (by omega)]
theorem be_N_63 (f : Nat → Nat) : be_N f 6 = be_N f 3 + 1000 * be_N (fun r => f (3 + r)) 3 := by
  show 0 + f 0 * 10 ^ 0 + f 1 * 10 ^ 1 + f 2 * 10 ^ 2 + f 3 * 10 ^ 3 + f 4 * 10 ^ 4 + f 5 * 10 ^ 5 = 0 + f 0 * 10 ^ 0 + f 1 * 10 ^ 1 + f 2 * 10 ^ 2 + 1000 * (0 + f 3 * 10 ^ 0 + f 4 * 10 ^ 1 + f 5 * 10 ^ 2)
  omega
theorem be_ct_le (B : Nat) : ∀ d r, be_ct B r ≤ be_ct B (r + d)
  | 0, r => Nat.le_refl _
  | d + 1, r => by
    have := be_ct_le B d r
    show _ ≤ be_ct B (r + d) + _
    omega
theorem be_ct_mono {B r s : Nat} (h : r ≤ s) : be_ct B r ≤ be_ct B s := by
  have := be_ct_le B (s - r) r
  rw [show r + (s - r) = s by omega] at this
  exact this
theorem be_ct_bl {B r s : Nat} (hb : be_bl B r = true) (h : r < s) : be_ct B r + 1 ≤ be_ct B s := by
  have a : be_ct B (r + 1) ≤ be_ct B s := be_ct_mono h
  have b : be_ct B (r + 1) = be_ct B r + 1 := by
    show be_ct B r + (if be_bl B r then 1 else 0) = _
    rw [hb]
    rfl
  omega
/-- digits below are not touched by what is added above -/
theorem be_low {u v k n : Nat} (h : k + 1 ≤ n) : (u * 10 ^ n + v) / 10 ^ k % 10 = v / 10 ^ k % 10 := by
  have e : u * 10 ^ n = 10 ^ k * (u * 10 ^ (n - k - 1) * 10) := by
    have : 10 ^ n = 10 ^ k * (10 ^ (n - k - 1) * 10) := by
      rw [← Nat.pow_succ, ← Nat.pow_add]
      congr 1
      omega
    rw [this, Nat.mul_left_comm, Nat.mul_assoc]
  rw [e, Nat.mul_add_div (be_p10 k)]
  omega
theorem be_high {u v k n : Nat} (h : v < 10 ^ n) : (u * 10 ^ n + v) / 10 ^ (n + k) = u / 10 ^ k := by
  rw [Nat.pow_add, ← Nat.div_div_eq_div_mul, Nat.mul_comm u, Nat.mul_add_div (be_p10 n), Nat.div_eq_of_lt h, Nat.add_zero]
theorem be_V_lt {B : Nat} {d : Nat → Nat} (h : ∀ r, d r ≤ 9) : ∀ r, be_V B d r < 10 ^ be_ct B r
  | 0 => Nat.one_pos
  | r + 1 => by
    have a := be_V_lt h r (B := B)
    show be_V B d r + (if be_bl B r then d r * 10 ^ be_ct B r else 0) < 10 ^ (be_ct B r + (if be_bl B r then 1 else 0))
    cases be_bl B r
    · exact a
    · have b : d r * 10 ^ be_ct B r ≤ 9 * 10 ^ be_ct B r := Nat.mul_le_mul_right _ (h r)
      show be_V B d r + d r * 10 ^ be_ct B r < 10 ^ (be_ct B r + 1)
      rw [Nat.pow_succ]
      omega
theorem be_V_dig {B : Nat} {d : Nat → Nat} (h : ∀ r, d r ≤ 9) : ∀ n r, r < n → be_bl B r = true → be_V B d n / 10 ^ be_ct B r % 10 = d r
  | 0, r, hr, _ => absurd hr (Nat.not_lt_zero _)
  | n + 1, r, hr, hb => by
    show (be_V B d n + (if be_bl B n then d n * 10 ^ be_ct B n else 0)) / 10 ^ be_ct B r % 10 = d r
    by_cases c : r = n
    · subst c
      rw [hb, if_pos rfl]
      have := be_dm (q := 0) (be_p10 (be_ct B r)) (be_V_lt h r (B := B)) (h r)
      rw [Nat.zero_mul, Nat.add_zero] at this
      exact this
    · have ih := be_V_dig h n r (by omega) hb (B := B)
      cases q : be_bl B n
      · exact ih
      · rw [if_pos rfl, Nat.add_comm, be_low (be_ct_bl hb (by omega))]
        exact ih
theorem be_V_self (B w : Nat) : ∀ n, be_V B (fun r => w / 10 ^ be_ct B r % 10) n = w % 10 ^ be_ct B n
  | 0 => by
    show 0 = w % 10 ^ 0
    rw [Nat.pow_zero, Nat.mod_one]
  | n + 1 => by
    show be_V B (fun r => w / 10 ^ be_ct B r % 10) n + (if be_bl B n then w / 10 ^ be_ct B n % 10 * 10 ^ be_ct B n else 0) = w % 10 ^ (be_ct B n + (if be_bl B n then 1 else 0))
    rw [be_V_self B w n]
    cases be_bl B n
    · rfl
    · show w % 10 ^ be_ct B n + w / 10 ^ be_ct B n % 10 * 10 ^ be_ct B n = w % 10 ^ (be_ct B n + 1)
      rw [Nat.pow_succ, Nat.mod_mul, Nat.mul_comm (w / 10 ^ be_ct B n % 10)]
theorem be_V_ext {B : Nat} {d e : Nat → Nat} : ∀ n, (∀ r, r < n → be_bl B r = true → d r = e r) → be_V B d n = be_V B e n
  | 0, _ => rfl
  | n + 1, h => by
    show be_V B d n + (if be_bl B n then d n * 10 ^ be_ct B n else 0) = be_V B e n + (if be_bl B n then e n * 10 ^ be_ct B n else 0)
    rw [be_V_ext n (fun r hr => h r (by omega))]
    cases q : be_bl B n
    · rfl
    · rw [h n (by omega) q]
theorem be_T9 {B : Nat} {D : Nat → Nat} (h : ∀ r, D r ≤ 9) (w r : Nat) : be_T B D w r ≤ 9 := by
  unfold be_T
  split
  · omega
  · exact h r
/-- what the first six places hold, by their own blanks' number -/
def be_U (B : Nat) (D : Nat → Nat) (u r : Nat) : Nat := if be_bl B (6 + r) then u / 10 ^ (be_ct B (6 + r) - be_ct B 6) % 10 else D (6 + r)
def be_X (B : Nat) (D : Nat → Nat) (u : Nat) : Nat := be_N (be_U B D u) 6
theorem be_U9 {B : Nat} {D : Nat → Nat} (h : ∀ r, D r ≤ 9) (u r : Nat) : be_U B D u r ≤ 9 := by
  unfold be_U
  split
  · omega
  · exact h _
theorem be_T_hi {B : Nat} {D : Nat → Nat} {u v r : Nat} (hv : v < 10 ^ be_ct B 6) : be_T B D (u * 10 ^ be_ct B 6 + v) (6 + r) = be_U B D u r := by
  unfold be_T be_U
  have : be_ct B 6 ≤ be_ct B (6 + r) := be_ct_mono (by omega)
  obtain ⟨k, hk⟩ : ∃ k, be_ct B (6 + r) = be_ct B 6 + k := ⟨_, (Nat.add_sub_cancel' this).symm⟩
  rw [hk, be_high hv, Nat.add_sub_cancel_left]
theorem be_T_lo {B : Nat} {D : Nat → Nat} {u v r : Nat} (hr : r < 6) : be_T B D (u * 10 ^ be_ct B 6 + v) r = be_T B D v r := by
  unfold be_T
  cases q : be_bl B r
  · rfl
  · rw [if_pos rfl, if_pos rfl, be_low (be_ct_bl q hr)]
def be_opI (t a b : Int32) : Int32 := if t = 0 then a + b else if t = 1 then a - b else a * b
def be_oX (t : Int32) (x : Nat) : Int32 := be_opI t (nI (x / 1000)) (nI (x % 1000))
theorem be_oX_C (t : Int32) {x : Nat} (hx : x < 1000000) : be_oX t x < 0 ∨ ∃ C, C < 1000000 ∧ be_oX t x = nI C := by
  unfold be_oX be_opI
  have a1 : x / 1000 < 1000 := by omega
  have a2 : x % 1000 < 1000 := by omega
  generalize x / 1000 = a at *
  generalize x % 1000 = b at *
  by_cases c0 : t = 0
  · rw [if_pos c0, nI_add]
    exact Or.inr ⟨_, by omega, rfl⟩
  · rw [if_neg c0]
    by_cases c1 : t = 1
    · rw [if_pos c1]
      by_cases c2 : b ≤ a
      · rw [pk_sub c2]
        exact Or.inr ⟨_, by omega, rfl⟩
      · left
        rw [Int32.lt_iff_toInt_lt, pk_sub_toInt (by omega) (by omega)]
        show _ < (0 : Int)
        omega
    · rw [if_neg c1, pk_mul]
      have : a * b ≤ 999 * 999 := Nat.mul_le_mul (by omega) (by omega)
      exact Or.inr ⟨_, by omega, rfl⟩
/-- the class's test -/
noncomputable def be_ok1 (B : Nat) (D : Nat → Nat) (t : Int32) (x : Nat) : Bool := @decide (0 ≤ be_oX t x ∧ ∀ r, r < 6 → be_bl B r = false → (be_oX t x).toNatClampNeg / 10 ^ r % 10 = D r) (Classical.propDecidable _)
theorem be_ok1_iff {B : Nat} {D : Nat → Nat} {t : Int32} {x : Nat} : be_ok1 B D t x = true ↔ (0 ≤ be_oX t x ∧ ∀ r, r < 6 → be_bl B r = false → (be_oX t x).toNatClampNeg / 10 ^ r % 10 = D r) := @decide_eq_true_iff _ (Classical.propDecidable _)
/-- the reference's test -/
def be_ok2 (B : Nat) (D : Nat → Nat) (t : Int32) (w : Nat) : Bool := decide (be_opI t (nI (be_N (fun r => be_T B D w (9 + r)) 3)) (nI (be_N (fun r => be_T B D w (6 + r)) 3)) = nI (be_N (be_T B D w) 6))
def be_Vu (B : Nat) (t : Int32) (x : Nat) : Nat := be_V B (fun r => (be_oX t x).toNatClampNeg / 10 ^ r % 10) 6
theorem be_X_lt {B : Nat} {D : Nat → Nat} (h : ∀ r, D r ≤ 9) (u : Nat) : be_X B D u < 1000000 := be_N_lt (be_U9 h u) 6
theorem be_link {B : Nat} {D : Nat → Nat} (h : ∀ r, D r ≤ 9) (t : Int32) {u v : Nat} (hv : v < 10 ^ be_ct B 6) : be_ok2 B D t (u * 10 ^ be_ct B 6 + v) = true ↔ (be_ok1 B D t (be_X B D u) = true ∧ v = be_Vu B t (be_X B D u)) := by
  have hx := be_X_lt (B := B) h u
  have e1 : be_N (fun r => be_T B D (u * 10 ^ be_ct B 6 + v) (6 + r)) 3 = be_X B D u % 1000 := by
    rw [be_N_ext (g := be_U B D u) 3 (fun r _ => be_T_hi hv)]
    unfold be_X
    have := be_N_lt (be_U9 (B := B) h u) 3
    rw [be_N_63]
    omega
  have e2 : be_N (fun r => be_T B D (u * 10 ^ be_ct B 6 + v) (9 + r)) 3 = be_X B D u / 1000 := by
    have e : be_N (fun r => be_T B D (u * 10 ^ be_ct B 6 + v) (9 + r)) 3 = be_N (fun r => be_U B D u (3 + r)) 3 := by
      refine be_N_ext 3 (fun r _ => ?_)
      show be_T B D (u * 10 ^ be_ct B 6 + v) (9 + r) = _
      rw [show 9 + r = 6 + (3 + r) by omega, be_T_hi hv]
    rw [e]
    unfold be_X
    have := be_N_lt (be_U9 (B := B) h u) 3
    rw [be_N_63]
    omega
  have e3 : be_N (be_T B D (u * 10 ^ be_ct B 6 + v)) 6 = be_N (be_T B D v) 6 := be_N_ext 6 (fun r hr => be_T_lo hr)
  unfold be_ok2 be_Vu
  rw [e1, e2, e3, decide_eq_true_iff, be_ok1_iff]
  show be_oX t (be_X B D u) = _ ↔ _
  have hT := be_N_lt (be_T9 (B := B) h v) 6
  rcases be_oX_C t hx with q | ⟨C, hC, q⟩
  · constructor
    · intro e
      rw [e] at q
      exact absurd q (nI_pos (by omega))
    · rintro ⟨⟨a, -⟩, -⟩
      rw [Int32.lt_iff_toInt_lt] at q
      rw [Int32.le_iff_toInt_le] at a
      omega
  · rw [q, bs_cl (by omega)]
    constructor
    · intro e
      have e : C = be_N (be_T B D v) 6 := (nI_eq (by omega) (by omega)).mp e
      have dg : ∀ r, r < 6 → C / 10 ^ r % 10 = be_T B D v r := fun r hr => by rw [e]; exact be_N_dig (be_T9 (B := B) h v) 6 r hr
      refine ⟨⟨nI_pos' (by omega), ?_⟩, ?_⟩
      · intro r hr hb
        rw [dg r hr]
        unfold be_T
        rw [hb]
        rfl
      · have e5 := be_V_self B v 6
        rw [Nat.mod_eq_of_lt hv] at e5
        rw [← e5]
        refine be_V_ext 6 (fun r hr hb => ?_)
        show v / 10 ^ be_ct B r % 10 = C / 10 ^ r % 10
        rw [dg r hr]
        unfold be_T
        rw [hb]
        rfl
    · rintro ⟨⟨-, a2⟩, a3⟩
      congr 1
      have e6 := be_N_self C 6
      rw [Nat.mod_eq_of_lt hC] at e6
      rw [← e6]
      refine be_N_ext 6 (fun r hr => ?_)
      show C / 10 ^ r % 10 = be_T B D v r
      unfold be_T
      cases hb : be_bl B r
      · exact a2 r hr hb
      · rw [a3, if_pos rfl]
        exact (be_V_dig (d := fun r => C / 10 ^ r % 10) (fun r => show C / 10 ^ r % 10 ≤ 9 by omega) 6 r hr hb).symm
theorem be_Vu_lt (B : Nat) (t : Int32) (x : Nat) : be_Vu B t x < 10 ^ be_ct B 6 := be_V_lt (fun r => by omega) 6
/-- how many are found, and the first -/
def be_run (ok : Nat → Bool) : Nat → Nat × Nat
  | 0 => (0, 0)
  | k + 1 => if ok k then ((be_run ok k).1 + 1, if (be_run ok k).1 = 0 then k else (be_run ok k).2) else be_run ok k
theorem be_run_le (ok : Nat → Bool) : ∀ k, (be_run ok k).1 ≤ k
  | 0 => Nat.le_refl _
  | k + 1 => by
    have := be_run_le ok k
    show (if ok k then ((be_run ok k).1 + 1, if (be_run ok k).1 = 0 then k else (be_run ok k).2) else be_run ok k).1 ≤ k + 1
    cases ok k
    · show (be_run ok k).1 ≤ k + 1
      omega
    · show (be_run ok k).1 + 1 ≤ k + 1
      omega
theorem be_run_ok (ok : Nat → Bool) : ∀ k, 0 < (be_run ok k).1 → ok (be_run ok k).2 = true ∧ (be_run ok k).2 < k
  | 0, h => absurd h (Nat.lt_irrefl 0)
  | k + 1, h => by
    have ih := be_run_ok ok k
    have e : be_run ok (k + 1) = if ok k then ((be_run ok k).1 + 1, if (be_run ok k).1 = 0 then k else (be_run ok k).2) else be_run ok k := rfl
    cases q : ok k
    · rw [q] at e
      have e : be_run ok (k + 1) = be_run ok k := e
      rw [e] at h ⊢
      exact ⟨(ih h).1, by have := (ih h).2; omega⟩
    · rw [q] at e
      have e : be_run ok (k + 1) = ((be_run ok k).1 + 1, if (be_run ok k).1 = 0 then k else (be_run ok k).2) := e
      rw [e]
      by_cases c : (be_run ok k).1 = 0
      · rw [if_pos c]
        exact ⟨q, Nat.lt_succ_self k⟩
      · rw [if_neg c]
        have := ih (by omega)
        exact ⟨this.1, Nat.lt_succ_of_lt this.2⟩
theorem be_run_pos (ok : Nat → Bool) : ∀ k j, j < k → ok j = true → 0 < (be_run ok k).1
  | 0, j, h, _ => absurd h (Nat.not_lt_zero _)
  | k + 1, j, h, hj => by
    have e : be_run ok (k + 1) = if ok k then ((be_run ok k).1 + 1, if (be_run ok k).1 = 0 then k else (be_run ok k).2) else be_run ok k := rfl
    rw [e]
    cases q : ok k
    · have : j ≠ k := by
        rintro rfl
        rw [hj] at q
        cases q
      exact be_run_pos ok k j (by omega) hj
    · exact Nat.succ_pos _
/-- both count alike -/
theorem be_runs {ok1 ok2 : Nat → Bool} {P : Nat} {V : Nat → Nat} (hV : ∀ u, V u < P) (hl : ∀ u v, v < P → (ok2 (u * P + v) = true ↔ (ok1 u = true ∧ v = V u))) : ∀ u, (be_run ok2 (u * P)).1 = (be_run ok1 u).1 ∧ (0 < (be_run ok1 u).1 → (be_run ok2 (u * P)).2 = (be_run ok1 u).2 * P + V (be_run ok1 u).2)
  | 0 => by
    rw [Nat.zero_mul]
    exact ⟨rfl, fun h => absurd h (Nat.lt_irrefl 0)⟩
  | u + 1 => by
    obtain ⟨i1, i2⟩ := be_runs hV hl u
    have key : ∀ v, v ≤ P → be_run ok2 (u * P + v) = if ok1 u = true ∧ V u < v then ((be_run ok2 (u * P)).1 + 1, if (be_run ok2 (u * P)).1 = 0 then u * P + V u else (be_run ok2 (u * P)).2) else be_run ok2 (u * P) := by
      intro v
      induction v with
      | zero =>
        intro _
        rw [if_neg (fun q => Nat.not_lt_zero _ q.2)]
        rfl
      | succ v ih =>
        intro hv
        have ih := ih (by omega)
        have e : be_run ok2 (u * P + (v + 1)) = if ok2 (u * P + v) then ((be_run ok2 (u * P + v)).1 + 1, if (be_run ok2 (u * P + v)).1 = 0 then u * P + v else (be_run ok2 (u * P + v)).2) else be_run ok2 (u * P + v) := rfl
        rw [e]
        have l := hl u v (by omega)
        by_cases c : ok2 (u * P + v) = true
        · obtain ⟨c1, c2⟩ := l.mp c
          have n1 : ¬ (ok1 u = true ∧ V u < v) := fun q => by omega
          rw [if_neg n1] at ih
          rw [if_pos c, if_pos (show ok1 u = true ∧ V u < v + 1 from ⟨c1, by omega⟩), ih, ← c2]
        · rw [if_neg c, ih]
          by_cases d : ok1 u = true ∧ V u < v
          · rw [if_pos d, if_pos (show ok1 u = true ∧ V u < v + 1 from ⟨d.1, by omega⟩)]
          · rw [if_neg d, if_neg]
            rintro ⟨d1, d2⟩
            by_cases d3 : V u < v
            · exact d ⟨d1, d3⟩
            · exact c (l.mpr ⟨d1, by omega⟩)
    have k := key P (Nat.le_refl _)
    rw [show (u + 1) * P = u * P + P by rw [Nat.add_mul, Nat.one_mul], k]
    have e1 : be_run ok1 (u + 1) = if ok1 u then ((be_run ok1 u).1 + 1, if (be_run ok1 u).1 = 0 then u else (be_run ok1 u).2) else be_run ok1 u := rfl
    rw [e1]
    by_cases c : ok1 u = true
    · rw [if_pos ⟨c, hV u⟩, if_pos c, i1]
      refine ⟨rfl, fun _ => ?_⟩
      by_cases d : (be_run ok1 u).1 = 0
      · rw [if_pos d, if_pos d]
      · rw [if_neg d, if_neg d]
        exact i2 (by omega)
    · rw [if_neg (fun q => c q.1), if_neg c]
      exact ⟨i1, i2⟩
