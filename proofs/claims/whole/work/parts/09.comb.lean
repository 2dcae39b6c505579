/-! the words that the methods' pure pictures are made of -/
def jLet {α β : Type} (x : α) (f : α → Option β) : Option β := f x
theorem jLet_some {α β : Type} {x : α} {f : α → Option β} {w : β} (h : jLet x f = some w) : ∃ z, z = x ∧ f z = some w := ⟨x, rfl, h⟩
def gd {β : Type} (b : Bool) (k : Option β) : Option β := if b = true then k else none
theorem gd_some {β : Type} {b : Bool} {k : Option β} {w : β} (h : gd b k = some w) : b = true ∧ k = some w := by
  unfold gd at h
  split at h
  · exact ⟨by assumption, h⟩
  · cases h
def ob (S : Mem) (x : Option Nat) (t : Nat) : Option Nat := x.bind fun a => if mKd S a = t then some a else none
def bnd {α β : Type} (x : Option α) (f : α → Option β) : Option β := x.bind f
theorem bnd_some {α β : Type} {x : Option α} {f : α → Option β} {w : β} (h : bnd x f = some w) : ∃ z, x = some z ∧ f z = some w := Option.bind_eq_some_iff.mp h
def bnd2 {α σ β : Type} (x : Option (α × σ)) (f : α → σ → Option β) : Option β := x.bind fun p => f p.1 p.2
theorem bnd2_some {α σ β : Type} {x : Option (α × σ)} {f : α → σ → Option β} {w : β} (h : bnd2 x f = some w) : ∃ z S, x = some (z, S) ∧ f z S = some w := by
  obtain ⟨⟨z, S⟩, h1, h2⟩ := Option.bind_eq_some_iff.mp h
  exact ⟨z, S, h1, h2⟩
theorem ob_some {β : Type} {S : Mem} {x : Option Nat} {t : Nat} {f : Nat → Option β} {w : β} (h : bnd (ob S x t) f = some w) : ∃ a, x = some a ∧ mKd S a = t ∧ f a = some w := by
  obtain ⟨a, h1, h2⟩ := bnd_some h
  unfold ob at h1
  obtain ⟨b, h3, h4⟩ := Option.bind_eq_some_iff.mp h1
  split at h4
  · rename_i hk
    cases h4
    exact ⟨_, h3, hk, h2⟩
  · cases h4
/-- nothing, or something -/
def oc {β : Type} (x : Option Nat) (a : Option β) (f : Nat → Option β) : Option β := match x with
  | none => a
  | some v => f v
def zb (v : Int32) : Bool := decide (v = 0 ∨ v = 1)
theorem zb_of {v : Int32} (h : zb v = true) : v = 0 ∨ v = 1 := of_decide_eq_true h
def nz (v : Int32) : Bool := decide (¬ v = 0)
theorem nz_of {v : Int32} (h : nz v = true) : ¬ v = 0 := of_decide_eq_true h
def nzL (v : Int64) : Bool := decide (¬ v = 0)
theorem nzL_of {v : Int64} (h : nzL v = true) : ¬ v = 0 := of_decide_eq_true h
def kb (S : Mem) (a t : Nat) : Bool := decide (mKd S a = t)
theorem kb_of {S : Mem} {a t : Nat} (h : kb S a t = true) : mKd S a = t := of_decide_eq_true h
theorem ifp {α : Type} {P : Prop} {hP : Decidable P} {a b : Option α} {w : α} (c : P) (h : @ite _ P hP a b = some w) : a = some w := by rw [if_pos c] at h; exact h
theorem ifn {α : Type} {P : Prop} {hP : Decidable P} {a b : Option α} {w : α} (c : ¬ P) (h : @ite _ P hP a b = some w) : b = some w := by rw [if_neg c] at h; exact h
/-- how often a loop may turn -/
def bigN : Nat := 1000000
theorem kd_le {S S' : Mem} {a t : Nat} (h : jle MX S S') (hk : mKd S a = t + 1) : mKd S' a = t + 1 := ((h.2.2.1 a (mKd_lt (by omega))).1).trans hk
theorem nle_eq {S S' : MS} (h : jle NX S S') : S'.1 = S.1 := by
  have h1 : S.1 ≤ S'.1 ∧ S'.1 < S.1 + 24 := h.2.2.2 S'.1 ⟨Nat.le_refl _, by show S'.1 < S'.1 + 24; omega⟩
  have h2 : S.1 ≤ S'.1 + 23 ∧ S'.1 + 23 < S.1 + 24 := h.2.2.2 (S'.1 + 23) ⟨by show S'.1 ≤ _; omega, by show _ < S'.1 + 24; omega⟩
  omega
theorem mRecv {S : Mem} {b ci : Nat} {C : String} {T : u_T} (hk : mKd S b = ci + 1) (hci : ci < 7) (hcl : jCl ci C T) : jRecv MX S b C := by
  intro D H s hR hK
  obtain ⟨cell, q1, q2, q3, -⟩ := repObj hR hk hci
  exact ⟨cell, q1, by rw [q3]; rfl, by rw [q2]; exact (hK.1.1 ci _ hcl.1).2.1⟩
theorem va_rf_cat (x : Option Nat) : (va_rf x).category = 1 := by cases x <;> rfl
section JMore
variable {σ : Type} {X : RT σ} {y : MethodName} {cc : ByteArray} {nL : Nat} {ret : Option FieldType} {fr lo : Nat} {pc : Nat} {lv lv' : List (Nat × Value)} {st rest : List Value} {S S1 S' : σ} {r : Option Value} {i : Nat}
theorem J_topI {x z : Int32} (e : z = x) (k : J X y cc nL ret fr lo pc lv (.int z :: rest) S r S') : J X y cc nL ret fr lo pc lv (.int x :: rest) S r S' := e ▸ k
theorem J_topL {x z : Int64} (e : z = x) (k : J X y cc nL ret fr lo pc lv (.long z :: rest) S r S') : J X y cc nL ret fr lo pc lv (.long x :: rest) S r S' := e ▸ k
theorem J_topS (e : S1 = S) (k : J X y cc nL ret fr lo pc lv st S1 r S') : J X y cc nL ret fr lo pc lv st S r S' := e ▸ k
theorem J_topQ {x : Option Nat} {a : Nat} (e : x = some a) (k : J X y cc nL ret fr lo pc lv (.ref a :: rest) S r S') : J X y cc nL ret fr lo pc lv (va_rf x :: rest) S r S' := by subst e; exact k
theorem J_lvst {st' : List Value} (e1 : lv = lv') (e2 : st = st') (k : J X y cc nL ret fr lo pc lv' st' S r S') : J X y cc nL ret fr lo pc lv st S r S' := by subst e1; subst e2; exact k
theorem J_ifnull {x : Option Nat} {off : Int} (tgt : Nat) (hd : decode cc pc = .ok (.ifnull off, 3)) (ht : (pc : Int) + off = (tgt : Int)) {α : Type} {a : Option α} {f : Nat → Option α} {w : α} (h : oc x a f = some w) (kt : x = none → a = some w → J X y cc nL ret fr lo tgt lv rest S r S') (kf : ∀ v, x = some v → f v = some w → J X y cc nL ret fr lo (pc + 3) lv rest S r S') : J X y cc nL ret fr lo pc lv (va_rf x :: rest) S r S' := by
  cases x with
  | none => exact J_go (fun _ _ _ _ _ _ _ _ _ _ _ _ _ _ _ ls _ hC hl kk => lv_ifnullN hC.1 hC.2.1 hd ht (kk ls hl)) (kt rfl h)
  | some v => exact J_go (fun _ _ _ _ _ _ _ _ _ _ _ _ _ _ _ ls _ hC hl kk => lv_ifnull hC.1 hC.2.1 hd (kk ls hl)) (kf v rfl h)
theorem J_ifnonnull {x : Option Nat} {off : Int} (tgt : Nat) (hd : decode cc pc = .ok (.ifnonnull off, 3)) (ht : (pc : Int) + off = (tgt : Int)) {α : Type} {a : Option α} {f : Nat → Option α} {w : α} (h : oc x a f = some w) (kf : x = none → a = some w → J X y cc nL ret fr lo (pc + 3) lv rest S r S') (kt : ∀ v, x = some v → f v = some w → J X y cc nL ret fr lo tgt lv rest S r S') : J X y cc nL ret fr lo pc lv (va_rf x :: rest) S r S' := by
  cases x with
  | none => exact J_go (fun _ _ _ _ _ _ _ _ _ _ _ _ _ _ _ ls _ hC hl kk => lv_ifnonnullN hC.1 hC.2.1 hd (kk ls hl)) (kf rfl h)
  | some v => exact J_go (fun _ _ _ _ _ _ _ _ _ _ _ _ _ _ _ ls _ hC hl kk => lv_ifnonnull hC.1 hC.2.1 hd ht (kk ls hl)) (kt v rfl h)
/-- a switch: at one of its numbers, at none -/
theorem J_tabIn {dflt l0 h0 : Int} {offs : Array Int} {len : Nat} {x : Int32} (v : Int32) {off : Int} (tgt : Nat) (hd : decode cc pc = .ok (.tableswitch dflt l0 h0 offs, len)) (hx : x = v) (h1 : ¬ v.toInt < l0) (h2 : ¬ h0 < v.toInt) (ho : offs[(v.toInt - l0).toNat]? = some off) (ht : (pc : Int) + off = (tgt : Int)) (k : J X y cc nL ret fr lo tgt lv rest S r S') : J X y cc nL ret fr lo pc lv (.int x :: rest) S r S' := by
  subst hx
  exact J_go (fun _ _ _ _ _ _ _ _ _ _ _ _ _ _ _ ls _ hC hl kk => lv_tableIn hC.1 hC.2.1 hd h1 h2 ho ht (kk ls hl)) k
theorem J_tabOut {dflt l0 h0 : Int} {offs : Array Int} {len : Nat} {x : Int32} (tgt : Nat) (hd : decode cc pc = .ok (.tableswitch dflt l0 h0 offs, len)) (hx : x.toInt < l0 ∨ h0 < x.toInt) (ht : (pc : Int) + dflt = (tgt : Int)) (k : J X y cc nL ret fr lo tgt lv rest S r S') : J X y cc nL ret fr lo pc lv (.int x :: rest) S r S' :=
  J_go (fun _ _ _ _ _ _ _ _ _ _ _ _ _ _ _ ls _ hC hl kk => lv_tableOut hC.1 hC.2.1 hd hx ht (kk ls hl)) k
theorem tabOut {x : Int32} {n : Nat} (hn : n < 1000) (h : ∀ k : Nat, k ≤ n → ¬ x = nI k) : x.toInt < 0 ∨ (n : Int) < x.toInt := by
  by_cases h1 : x.toInt < 0
  · exact Or.inl h1
  · right
    by_cases h2 : (n : Int) < x.toInt
    · exact h2
    · exfalso
      refine h x.toInt.toNat (by omega) ?_
      apply Int32.toInt_inj.mp
      rw [nI_toInt (by omega)]
      omega
theorem J_dload_n {n : Fin 4} {i : Nat} (j : Nat) {x : UInt64} (hd : decode cc pc = .ok (.dload_n n, 1)) (hi : (n : Nat) = i) (hx : lv[j]? = some (i, .double x)) (k : J X y cc nL ret fr lo (pc + 1) lv (.double x :: st) S r S') : J X y cc nL ret fr lo pc lv st S r S' :=
  J_go (fun _ _ _ _ _ _ _ _ _ _ _ _ _ _ _ ls _ hC hl kk => lv_dload_n hC.1 hC.2.1 hd hi (lv_at hl j hx) (kk ls hl)) k
theorem J_fcmp {x z : UInt32} {op : CmpOp} (hd : decode cc pc = .ok (.fcmp op, 1)) (k : J X y cc nL ret fr lo (pc + 1) lv (.int (Op.cmpValue (FP.fcmp x z) op) :: rest) S r S') : J X y cc nL ret fr lo pc lv (.float z :: .float x :: rest) S r S' :=
  J_go (fun _ _ _ _ _ _ _ _ _ _ _ _ _ _ _ ls _ hC hl kk => lv_fcmp hC.1 hC.2.1 hd (kk ls hl)) k
theorem J_dcmp {x z : UInt64} {op : CmpOp} (hd : decode cc pc = .ok (.dcmp op, 1)) (k : J X y cc nL ret fr lo (pc + 1) lv (.int (Op.cmpValue (FP.dcmp x z) op) :: rest) S r S') : J X y cc nL ret fr lo pc lv (.double z :: .double x :: rest) S r S' :=
  J_go (fun _ _ _ _ _ _ _ _ _ _ _ _ _ _ _ ls _ hC hl kk => lv_dcmp hC.1 hC.2.1 hd (kk ls hl)) k
end JMore
/-- a contract of a method of which its own name says that no native stands for it -/
theorem CT.ofF {σ : Type} {X : RT σ} {y : MethodName} {cc : ByteArray} {nL : Nat} {ret : Option FieldType} {fr lo : Nat} {av : List Value} {lv : List (Nat × Value)} {S : σ} {r : Option Value} {S' : σ} (hy : plainFor y = true) (hlv : lv_args 0 av = lv) (hn : (lg_sl av).length ≤ nL)
    (k : J X y cc nL ret fr lo 0 lv [] S r S') : CT X y cc nL ret fr lo av S r S' := by
  refine ⟨k.1, fun l D => ?_⟩
  refine MetFree.of_bodySF (code := cc) (maxLocals := nL) (ret := ret) hy ?_ ?_
  · intro args s m h hn
    obtain ⟨meth, c, h1, h2, h3, h4, h5, h6, -, -⟩ := Cond.code_spec hn (atoms_spec (ws := Cond.code y cc nL ret :: tblG) h _ List.mem_cons_self)
    exact ⟨meth, c, h1, h2, h3, h4, h5, h6⟩
  · intro p e s m args below meth c s₁ B hml hv _
    obtain ⟨rfl, hR, hK⟩ := hv
    have hh0 : s₁.heap = s.heap := by rw [B.state]; rfl
    have hts := atoms_spec (ws := Cond.code y cc nL ret :: tblG) B.pre
    have hown : s.vm.findClass y.cls = some m.cls := findClass_of_methodNamed B.named
    have hin : meth.name = y.name := (name_of_methodNamed B.named B.method).1
    have hl := lv_entry av (n := nL) hn
    rw [hlv] at hl
    have K := k.2 p l e { frames := fr, cells := X.2.2.1 S' - X.2.2.1 S, slots := X.2.2.2.1 S' - X.2.2.2.1 S, locals := lo } s m _ below meth c s.heap [] 0 0 (X.2.2.1 S' - X.2.2.1 S) (X.2.2.2.1 S' - X.2.2.2.1 S) _ (X.2.1 S) D ⟨B.exec, B.bytes, hml, hown, fun w hw => hts w (List.mem_cons_of_mem _ hw), B.returns, B.notSynchronized, hin, hK, Nat.le_refl _, Nat.le_refl _⟩ hl hR va_S.rf (fun _ h => h)
      (by have := k.1.1; omega) (by have := k.1.2.1; omega) (Nat.le_refl _) (Nat.le_refl _)
    rw [← lg_entry_eq] at K
    obtain ⟨t, a1, o, b1, b2, b3⟩ := K s₁ hh0 (Stand.of_body B)
    exact ⟨t, o, a1, b1, b2, ⟨b3.1, b3.2⟩⟩
