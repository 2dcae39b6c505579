/-! THE JUDGEMENT J: a walk over a pure state, the machine behind it. A state type with what it says of a heap; J: from this pc, these locals, this stack, this state the method comes to its end with the answer r and the state S'. -/
/-- class ids and slots, ids of the array kinds, the statics' cell of the exercises, its slot -/
abbrev JD : Type := va_G × (Nat → ClassId) × Nat × Nat
def jNest : Cond → Bool
  | .fieldLinkNest .. => true
  | .methodLinkNest .. => true
  | _ => false
def tblG : List Cond := lw_tbl.filter goodWord
theorem tg {w : Cond} (h : w ∈ lw_tbl) (g : goodWord w = true) : w ∈ tblG := List.mem_filter.mpr ⟨h, g⟩
theorem tblG_good {w : Cond} (h : w ∈ tblG) : (w.onTables && w.keeps) = true ∨ ∃ ty, w = .arrayClass ty := good_of_word (List.mem_filter.mp h).2
abbrev jTys (D : JD) : List (ClassId × FieldType) := [(D.2.1 0, .int), (D.2.1 1, .long), (D.2.1 2, .boolean), (D.2.1 3, .object RX1), (D.2.1 4, .object RX4), (D.2.1 5, .object RX0)]
def jStat (D : JD) (s : State) : Prop := ∃ (cf : ClassId) (kf : Class) (fi : Nat) (f : Field), s.fieldFound? RX0 "WEIGHTS" "[I" = some (cf, kf, fi, f) ∧ f.isStatic = true ∧ kf.init = .initialized ∧ kf.statics = some D.2.2.1 ∧ f.slot = D.2.2.2
def KD (D : JD) (s : State) : Prop := va_K D.1 vwCl (jTys D) s ∧ (∀ w ∈ lw_tbl, jNest w = true → va_Nw w s) ∧ (va_AO RX1 s ∧ va_AO RX4 s ∧ va_AO RX0 s) ∧ jStat D s ∧ ArrOfT s (D.2.1 6) .int ∧ ArrOfT s (D.2.1 7) .int
theorem KD.moved {D : JD} {s U : State} (hW : s.WarmedH U.vm) (h : KD D s) : KD D U := by
  obtain ⟨h1, h2, ⟨h3, h4, h5⟩, ⟨cf, kf, fi, f, a1, a2, a3, a4, a5⟩, h6, h7⟩ := h
  obtain ⟨k', hi', he⟩ := State.fieldFound?_setVm hW.alike a1
  refine ⟨h1.moved hW.alike, fun w hw hn => ?_, ⟨h3.moved hW.alike, h4.moved hW.alike, h5.moved hW.alike⟩, ⟨cf, k', fi, f, hi', a2, by rw [he]; exact a3, by rw [he]; exact a4, a5⟩, arrOfT_moved hW.alike h6, arrOfT_moved hW.alike h7⟩
  have hz := h2 w hw hn
  cases w <;> first | exact va_Nw.warmF hW hz | exact va_Nw.warmM hW hz | (simp [jNest] at hn)
/-- rep, free, cells so far, slots so far, kinds, lengths -/
abbrev RT (σ : Type) : Type := (JD → σ → Heap → Prop) × (σ → Nat → Prop) × (σ → Nat) × (σ → Nat) × (σ → Nat → Nat) × (σ → Nat → Nat)
def jle {σ : Type} (X : RT σ) (S S' : σ) : Prop := X.2.2.1 S ≤ X.2.2.1 S' ∧ X.2.2.2.1 S ≤ X.2.2.2.1 S' ∧ (∀ a, a < X.2.2.1 S → X.2.2.2.2.1 S' a = X.2.2.2.2.1 S a ∧ X.2.2.2.2.2 S' a = X.2.2.2.2.2 S a) ∧ ∀ q, X.2.1 S' q → X.2.1 S q
theorem jle.rfl' {σ : Type} {X : RT σ} {S : σ} : jle X S S := ⟨Nat.le_refl _, Nat.le_refl _, fun _ _ => ⟨rfl, rfl⟩, fun _ h => h⟩
theorem jle.tr {σ : Type} {X : RT σ} {S S1 S' : σ} (h : jle X S S1) (h1 : jle X S1 S') : jle X S S' :=
  ⟨Nat.le_trans h.1 h1.1, Nat.le_trans h.2.1 h1.2.1, fun a ha => by
    have q := h.2.2.1 a ha
    have q1 := h1.2.2.1 a (Nat.lt_of_lt_of_le ha h.1)
    exact ⟨q1.1.trans q.1, q1.2.trans q.2⟩, fun q hq => h.2.2.2 q (h1.2.2.2 q hq)⟩
def jQ {σ : Type} (X : RT σ) (D : JD) (r : Option Value) (S' : σ) (A : Nat → Prop) (k : Nat) : Array Value → State → Outcome → State → Prop := fun _ st oc t => oc = .returned r ∧ X.1 D S' t.heap ∧ va_F A st t ∧ t.heap.size ≤ st.heap.size + k
def CX (y : MethodName) (cc : ByteArray) (nL : Nat) (ret : Option FieldType) (fr lo : Nat) (D : JD) (p : Program) (R : Room) (s : State) (m : MethodId) (args : Array Value) (meth : Method) (c : Code) : Prop :=
  p.tables.exec = Jvm.exec ∧ c.code = cc ∧ c.maxLocals = nL ∧ s.vm.findClass y.cls = some m.cls ∧ (∀ w ∈ tblG, w.before args s = true) ∧ meth.sig.returnType = ret ∧ meth.locks = false ∧ meth.name = y.name ∧ KD D s ∧ fr ≤ R.frames ∧ lo ≤ R.locals
def J {σ : Type} (X : RT σ) (y : MethodName) (cc : ByteArray) (nL : Nat) (ret : Option FieldType) (fr lo : Nat) (pc : Nat) (lv : List (Nat × Value)) (st : List Value) (S : σ) (r : Option Value) (S' : σ) : Prop :=
  jle X S S' ∧ ∀ (p : Program) (l : Launch) (e : Env) (R : Room) (s : State) (m : MethodId) (args : Array Value) (below : List Frame) (meth : Method) (c : Code) (H : Heap) (locs : List Loc) (cells slots mc ms : Nat) (ls : Array Slot) (A : Nat → Prop) (D : JD),
    CX y cc nL ret fr lo D p R s m args meth c → lv_has ls nL lv → X.1 D S H → va_S A s.heap H locs → (∀ q, X.2.1 S q → A q) → cells + X.2.2.1 S' ≤ mc + X.2.2.1 S → slots + X.2.2.2.1 S' ≤ ms + X.2.2.2.1 S → mc ≤ R.cells → ms ≤ R.slots →
    W p l e R s m args below meth c H locs cells slots (MQ below (jQ X D r S' A mc) args s mc ms A) (F0 m pc ls st)
/-- a method's contract at one start -/
def CT {σ : Type} (X : RT σ) (y : MethodName) (cc : ByteArray) (nL : Nat) (ret : Option FieldType) (fr lo : Nat) (av : List Value) (S : σ) (r : Option Value) (S' : σ) : Prop :=
  jle X S S' ∧ ∀ (l : Launch) (D : JD), Met l y (Cond.code y cc nL ret :: tblG) { frames := fr, cells := X.2.2.1 S' - X.2.2.1 S, slots := X.2.2.2.1 S' - X.2.2.2.1 S, locals := lo } (va_Pc av (fun U => X.1 D S U.heap ∧ KD D U)) (jQ X D r S' (X.2.1 S) (X.2.2.1 S' - X.2.2.1 S)) (X.2.2.1 S' - X.2.2.1 S) (X.2.2.2.1 S' - X.2.2.2.1 S) (X.2.1 S)
theorem CT.of {σ : Type} {X : RT σ} {y : MethodName} {cc : ByteArray} {nL : Nat} {ret : Option FieldType} {fr lo : Nat} {av : List Value} {lv : List (Nat × Value)} {S : σ} {r : Option Value} {S' : σ} (hy : plainName y.cls = true) (hlv : lv_args 0 av = lv) (hn : (lg_sl av).length ≤ nL)
    (k : J X y cc nL ret fr lo 0 lv [] S r S') : CT X y cc nL ret fr lo av S r S' := by
  refine ⟨k.1, fun l D => ?_⟩
  refine Met.ofW (cc := cc) (maxL := nL) (ret := ret) hy rfl ?_
  intro p e s m args below meth c s₁ B hml hv
  obtain ⟨rfl, hR, hK⟩ := hv
  have hts := atoms_spec (ws := Cond.code y cc nL ret :: tblG) B.pre
  have hown : s.vm.findClass y.cls = some m.cls := findClass_of_methodNamed B.named
  have hin : meth.name = y.name := (name_of_methodNamed B.named B.method).1
  have hl := lv_entry av (n := nL) hn
  rw [lg_entry_eq]
  rw [hlv] at hl
  exact k.2 p l e _ s m _ below meth c s.heap [] 0 0 _ _ _ (X.2.1 S) D ⟨B.exec, B.bytes, hml, hown, fun w hw => hts w (List.mem_cons_of_mem _ hw), B.returns, B.notSynchronized, hin, hK, Nat.le_refl _, Nat.le_refl _⟩ hl hR va_S.rf (fun _ h => h)
    (by have := k.1.1; omega) (by have := k.1.2.1; omega) (Nat.le_refl _) (Nat.le_refl _)
theorem W_size {p : Program} {l : Launch} {e : Env} {R : Room} {s : State} {m : MethodId} {args : Array Value} {below : List Frame} {meth : Method} {c : Code} {H : Heap} {locs : List Loc} {cells slots : Nat} {Q : State → Prop} {g : JFrame} (k : H.size ≤ s.heap.size + cells → W p l e R s m args below meth c H locs cells slots Q g) : W p l e R s m args below meth c H locs cells slots Q g := fun T hT X => k (by rw [← hT]; exact X.heapSize) T hT X
section Rules
variable {σ : Type} {X : RT σ} {y : MethodName} {cc : ByteArray} {nL : Nat} {ret : Option FieldType} {fr lo : Nat} {pc : Nat} {lv lv' : List (Nat × Value)} {st rest : List Value} {S S' : σ} {r : Option Value}
/-- one instruction that leaves the heap alone -/
theorem J_go {pc' : Nat} {st' : List Value}
    (hw : ∀ (p : Program) (l : Launch) (e : Env) (R : Room) (s : State) (m : MethodId) (args : Array Value) (below : List Frame) (meth : Method) (c : Code) (H : Heap) (locs : List Loc) (cells slots : Nat) (Q : State → Prop) (ls : Array Slot) (D : JD),
      CX y cc nL ret fr lo D p R s m args meth c → lv_has ls nL lv → (∀ ls', lv_has ls' nL lv' → W p l e R s m args below meth c H locs cells slots Q (F0 m pc' ls' st')) → W p l e R s m args below meth c H locs cells slots Q (F0 m pc ls st))
    (k : J X y cc nL ret fr lo pc' lv' st' S r S') : J X y cc nL ret fr lo pc lv st S r S' := by
  refine ⟨k.1, fun p l e R s m args below meth c H locs cells slots mc ms ls A D hC hl hR hS hA h1 h2 h3 h4 => ?_⟩
  exact hw p l e R s m args below meth c H locs cells slots _ ls D hC hl (fun ls' hl' => k.2 p l e R s m args below meth c H locs cells slots mc ms ls' A D hC hl' hR hS hA h1 h2 h3 h4)
/-- a branch -/
theorem J_br {P : Prop} {pt pf : Nat} {α : Type} {a b : Option α} {w : α} (hP : Decidable P)
    (hw : ∀ (p : Program) (l : Launch) (e : Env) (R : Room) (s : State) (m : MethodId) (args : Array Value) (below : List Frame) (meth : Method) (c : Code) (H : Heap) (locs : List Loc) (cells slots : Nat) (Q : State → Prop) (ls : Array Slot) (D : JD),
      CX y cc nL ret fr lo D p R s m args meth c → (P → W p l e R s m args below meth c H locs cells slots Q (F0 m pt ls rest)) → (¬ P → W p l e R s m args below meth c H locs cells slots Q (F0 m pf ls rest)) → W p l e R s m args below meth c H locs cells slots Q (F0 m pc ls st))
    (h : (@ite _ P hP a b) = some w) (kt : P → a = some w → J X y cc nL ret fr lo pt lv rest S r S') (kf : ¬ P → b = some w → J X y cc nL ret fr lo pf lv rest S r S') : J X y cc nL ret fr lo pc lv st S r S' := by
  by_cases hp : P
  · rw [if_pos hp] at h
    have k := kt hp h
    refine ⟨k.1, fun p l e R s m args below meth c H locs cells slots mc ms ls A D hC hl hR hS hA h1 h2 h3 h4 => ?_⟩
    exact hw p l e R s m args below meth c H locs cells slots _ ls D hC (fun _ => k.2 p l e R s m args below meth c H locs cells slots mc ms ls A D hC hl hR hS hA h1 h2 h3 h4) (fun q => absurd hp q)
  · rw [if_neg hp] at h
    have k := kf hp h
    refine ⟨k.1, fun p l e R s m args below meth c H locs cells slots mc ms ls A D hC hl hR hS hA h1 h2 h3 h4 => ?_⟩
    exact hw p l e R s m args below meth c H locs cells slots _ ls D hC (fun q => absurd q hp) (fun _ => k.2 p l e R s m args below meth c H locs cells slots mc ms ls A D hC hl hR hS hA h1 h2 h3 h4)
theorem J_iconst {n : Int} (v : Int32) (hd : decode cc pc = .ok (.iconst n, 1)) (hv : Int32.ofInt n = v) (k : J X y cc nL ret fr lo (pc + 1) lv (.int v :: st) S r S') : J X y cc nL ret fr lo pc lv st S r S' :=
  J_go (fun _ _ _ _ _ _ _ _ _ _ _ _ _ _ _ ls _ hC hl kk => lv_iconst hC.1 hC.2.1 hd hv (kk ls hl)) k
theorem J_bipush {n : Int} (v : Int32) (hd : decode cc pc = .ok (.bipush n, 2)) (hv : (Int8.ofInt n).toInt32 = v) (k : J X y cc nL ret fr lo (pc + 2) lv (.int v :: st) S r S') : J X y cc nL ret fr lo pc lv st S r S' :=
  J_go (fun _ _ _ _ _ _ _ _ _ _ _ _ _ _ _ ls _ hC hl kk => lv_bipush hC.1 hC.2.1 hd hv (kk ls hl)) k
theorem J_sipush {n : Int} (v : Int32) (hd : decode cc pc = .ok (.sipush n, 3)) (hv : (Int16.ofInt n).toInt32 = v) (k : J X y cc nL ret fr lo (pc + 3) lv (.int v :: st) S r S') : J X y cc nL ret fr lo pc lv st S r S' :=
  J_go (fun _ _ _ _ _ _ _ _ _ _ _ _ _ _ _ ls _ hC hl kk => lv_sipush hC.1 hC.2.1 hd hv (kk ls hl)) k
theorem J_lconst {n : Fin 2} (v : Int64) (hd : decode cc pc = .ok (.lconst n, 1)) (hv : Int64.ofNat (n : Nat) = v) (k : J X y cc nL ret fr lo (pc + 1) lv (.long v :: st) S r S') : J X y cc nL ret fr lo pc lv st S r S' :=
  J_go (fun _ _ _ _ _ _ _ _ _ _ _ _ _ _ _ ls _ hC hl kk => lv_lconst hC.1 hC.2.1 hd hv (kk ls hl)) k
theorem J_iload_n {n : Fin 4} {i : Nat} (j : Nat) {x : Int32} (hd : decode cc pc = .ok (.iload_n n, 1)) (hi : (n : Nat) = i) (hx : lv[j]? = some (i, .int x)) (k : J X y cc nL ret fr lo (pc + 1) lv (.int x :: st) S r S') : J X y cc nL ret fr lo pc lv st S r S' :=
  J_go (fun _ _ _ _ _ _ _ _ _ _ _ _ _ _ _ ls _ hC hl kk => lv_iload_n hC.1 hC.2.1 hd hi (lv_at hl j hx) (kk ls hl)) k
theorem J_iload {i : Nat} (j : Nat) {x : Int32} (hd : decode cc pc = .ok (.iload i, 2)) (hx : lv[j]? = some (i, .int x)) (k : J X y cc nL ret fr lo (pc + 2) lv (.int x :: st) S r S') : J X y cc nL ret fr lo pc lv st S r S' :=
  J_go (fun _ _ _ _ _ _ _ _ _ _ _ _ _ _ _ ls _ hC hl kk => lv_iload hC.1 hC.2.1 hd (lv_at hl j hx) (kk ls hl)) k
theorem J_lload_n {n : Fin 4} {i : Nat} (j : Nat) {x : Int64} (hd : decode cc pc = .ok (.lload_n n, 1)) (hi : (n : Nat) = i) (hx : lv[j]? = some (i, .long x)) (k : J X y cc nL ret fr lo (pc + 1) lv (.long x :: st) S r S') : J X y cc nL ret fr lo pc lv st S r S' :=
  J_go (fun _ _ _ _ _ _ _ _ _ _ _ _ _ _ _ ls _ hC hl kk => lv_lload_n hC.1 hC.2.1 hd hi (lv_at hl j hx) (kk ls hl)) k
theorem J_lload {i : Nat} (j : Nat) {x : Int64} (hd : decode cc pc = .ok (.lload i, 2)) (hx : lv[j]? = some (i, .long x)) (k : J X y cc nL ret fr lo (pc + 2) lv (.long x :: st) S r S') : J X y cc nL ret fr lo pc lv st S r S' :=
  J_go (fun _ _ _ _ _ _ _ _ _ _ _ _ _ _ _ ls _ hC hl kk => lv_lload hC.1 hC.2.1 hd (lv_at hl j hx) (kk ls hl)) k
theorem J_fload_n {n : Fin 4} {i : Nat} (j : Nat) {x : UInt32} (hd : decode cc pc = .ok (.fload_n n, 1)) (hi : (n : Nat) = i) (hx : lv[j]? = some (i, .float x)) (k : J X y cc nL ret fr lo (pc + 1) lv (.float x :: st) S r S') : J X y cc nL ret fr lo pc lv st S r S' :=
  J_go (fun _ _ _ _ _ _ _ _ _ _ _ _ _ _ _ ls _ hC hl kk => lv_fload_n hC.1 hC.2.1 hd hi (lv_at hl j hx) (kk ls hl)) k
theorem J_dload {i : Nat} (j : Nat) {x : UInt64} (hd : decode cc pc = .ok (.dload i, 2)) (hx : lv[j]? = some (i, .double x)) (k : J X y cc nL ret fr lo (pc + 2) lv (.double x :: st) S r S') : J X y cc nL ret fr lo pc lv st S r S' :=
  J_go (fun _ _ _ _ _ _ _ _ _ _ _ _ _ _ _ ls _ hC hl kk => lv_dload hC.1 hC.2.1 hd (lv_at hl j hx) (kk ls hl)) k
theorem J_aload_n {n : Fin 4} {i : Nat} (j : Nat) {x : Nat} (hd : decode cc pc = .ok (.aload_n n, 1)) (hi : (n : Nat) = i) (hx : lv[j]? = some (i, .ref x)) (k : J X y cc nL ret fr lo (pc + 1) lv (.ref x :: st) S r S') : J X y cc nL ret fr lo pc lv st S r S' :=
  J_go (fun _ _ _ _ _ _ _ _ _ _ _ _ _ _ _ ls _ hC hl kk => lv_aload_n hC.1 hC.2.1 hd hi (lv_at hl j hx) (kk ls hl)) k
theorem J_aload {i : Nat} (j : Nat) {x : Nat} (hd : decode cc pc = .ok (.aload i, 2)) (hx : lv[j]? = some (i, .ref x)) (k : J X y cc nL ret fr lo (pc + 2) lv (.ref x :: st) S r S') : J X y cc nL ret fr lo pc lv st S r S' :=
  J_go (fun _ _ _ _ _ _ _ _ _ _ _ _ _ _ _ ls _ hC hl kk => lv_aload hC.1 hC.2.1 hd (lv_at hl j hx) (kk ls hl)) k
theorem J_aload_nq {n : Fin 4} {i : Nat} (j : Nat) {x : Option Nat} (hd : decode cc pc = .ok (.aload_n n, 1)) (hi : (n : Nat) = i) (hx : lv[j]? = some (i, va_rf x)) (k : J X y cc nL ret fr lo (pc + 1) lv (va_rf x :: st) S r S') : J X y cc nL ret fr lo pc lv st S r S' :=
  J_go (fun _ _ _ _ _ _ _ _ _ _ _ _ _ _ _ ls _ hC hl kk => by
    cases x with
    | none => exact lv_aload_nN hC.1 hC.2.1 hd hi (lv_at hl j hx) (kk ls hl)
    | some a => exact lv_aload_n hC.1 hC.2.1 hd hi (lv_at hl j hx) (kk ls hl)) k
theorem J_aloadq {i : Nat} (j : Nat) {x : Option Nat} (hd : decode cc pc = .ok (.aload i, 2)) (hx : lv[j]? = some (i, va_rf x)) (k : J X y cc nL ret fr lo (pc + 2) lv (va_rf x :: st) S r S') : J X y cc nL ret fr lo pc lv st S r S' :=
  J_go (fun _ _ _ _ _ _ _ _ _ _ _ _ _ _ _ ls _ hC hl kk => by
    cases x with
    | none => exact lv_aloadN hC.1 hC.2.1 hd (lv_at hl j hx) (kk ls hl)
    | some a => exact lv_aload hC.1 hC.2.1 hd (lv_at hl j hx) (kk ls hl)) k
abbrev lvF (i : Nat) (lv : List (Nat × Value)) : List (Nat × Value) := lv.filter (fun q => !(q.1 == i) && !(q.1 + 1 == i && q.2.category == 2))
abbrev lvF2 (i : Nat) (lv : List (Nat × Value)) : List (Nat × Value) := lv.filter (fun q => !(q.1 == i) && (!(q.1 == i + 1) && !(q.1 + 1 == i && q.2.category == 2)))
theorem J_istore_n {n : Fin 4} {i : Nat} {x : Int32} (hd : decode cc pc = .ok (.istore_n n, 1)) (hi : (n : Nat) = i) (hn : i < nL) (ks : List Nat) (hl' : lv_pick ((i, Value.int x) :: lvF i lv) ks = lv') (k : J X y cc nL ret fr lo (pc + 1) lv' st S r S') : J X y cc nL ret fr lo pc lv (.int x :: st) S r S' :=
  J_go (fun _ _ _ _ _ _ _ _ _ _ _ _ _ _ _ _ _ hC hl kk => lv_istore_n hC.1 hC.2.1 hd hi hl hn rfl (fun ls' h' => kk ls' (lv_sub h' ks hl'))) k
theorem J_istore {i : Nat} {x : Int32} (hd : decode cc pc = .ok (.istore i, 2)) (hn : i < nL) (ks : List Nat) (hl' : lv_pick ((i, Value.int x) :: lvF i lv) ks = lv') (k : J X y cc nL ret fr lo (pc + 2) lv' st S r S') : J X y cc nL ret fr lo pc lv (.int x :: st) S r S' :=
  J_go (fun _ _ _ _ _ _ _ _ _ _ _ _ _ _ _ _ _ hC hl kk => lv_istore hC.1 hC.2.1 hd hl hn rfl (fun ls' h' => kk ls' (lv_sub h' ks hl'))) k
theorem J_lstore_n {n : Fin 4} {i : Nat} {x : Int64} (hd : decode cc pc = .ok (.lstore_n n, 1)) (hi : (n : Nat) = i) (hn : i + 1 < nL) (ks : List Nat) (hl' : lv_pick ((i, Value.long x) :: lvF2 i lv) ks = lv') (k : J X y cc nL ret fr lo (pc + 1) lv' st S r S') : J X y cc nL ret fr lo pc lv (.long x :: st) S r S' :=
  J_go (fun _ _ _ _ _ _ _ _ _ _ _ _ _ _ _ _ _ hC hl kk => lv_lstore_n hC.1 hC.2.1 hd hi hl hn rfl (fun ls' h' => kk ls' (lv_sub h' ks hl'))) k
theorem J_lstore {i : Nat} {x : Int64} (hd : decode cc pc = .ok (.lstore i, 2)) (hn : i + 1 < nL) (ks : List Nat) (hl' : lv_pick ((i, Value.long x) :: lvF2 i lv) ks = lv') (k : J X y cc nL ret fr lo (pc + 2) lv' st S r S') : J X y cc nL ret fr lo pc lv (.long x :: st) S r S' :=
  J_go (fun _ _ _ _ _ _ _ _ _ _ _ _ _ _ _ _ _ hC hl kk => lv_lstore hC.1 hC.2.1 hd hl hn rfl (fun ls' h' => kk ls' (lv_sub h' ks hl'))) k
theorem J_fstore_n {n : Fin 4} {i : Nat} {x : UInt32} (hd : decode cc pc = .ok (.fstore_n n, 1)) (hi : (n : Nat) = i) (hn : i < nL) (ks : List Nat) (hl' : lv_pick ((i, Value.float x) :: lvF i lv) ks = lv') (k : J X y cc nL ret fr lo (pc + 1) lv' st S r S') : J X y cc nL ret fr lo pc lv (.float x :: st) S r S' :=
  J_go (fun _ _ _ _ _ _ _ _ _ _ _ _ _ _ _ _ _ hC hl kk => lv_fstore_n hC.1 hC.2.1 hd hi hl hn rfl (fun ls' h' => kk ls' (lv_sub h' ks hl'))) k
theorem J_dstore {i : Nat} {x : UInt64} (hd : decode cc pc = .ok (.dstore i, 2)) (hn : i + 1 < nL) (ks : List Nat) (hl' : lv_pick ((i, Value.double x) :: lvF2 i lv) ks = lv') (k : J X y cc nL ret fr lo (pc + 2) lv' st S r S') : J X y cc nL ret fr lo pc lv (.double x :: st) S r S' :=
  J_go (fun _ _ _ _ _ _ _ _ _ _ _ _ _ _ _ _ _ hC hl kk => lv_dstore hC.1 hC.2.1 hd hl hn rfl (fun ls' h' => kk ls' (lv_sub h' ks hl'))) k
theorem J_astore_n {n : Fin 4} {i : Nat} {x : Nat} (hd : decode cc pc = .ok (.astore_n n, 1)) (hi : (n : Nat) = i) (hn : i < nL) (ks : List Nat) (hl' : lv_pick ((i, Value.ref x) :: lvF i lv) ks = lv') (k : J X y cc nL ret fr lo (pc + 1) lv' st S r S') : J X y cc nL ret fr lo pc lv (.ref x :: st) S r S' :=
  J_go (fun _ _ _ _ _ _ _ _ _ _ _ _ _ _ _ _ _ hC hl kk => lv_astore_n hC.1 hC.2.1 hd hi hl hn rfl (fun ls' h' => kk ls' (lv_sub h' ks hl'))) k
theorem J_astore {i : Nat} {x : Nat} (hd : decode cc pc = .ok (.astore i, 2)) (hn : i < nL) (ks : List Nat) (hl' : lv_pick ((i, Value.ref x) :: lvF i lv) ks = lv') (k : J X y cc nL ret fr lo (pc + 2) lv' st S r S') : J X y cc nL ret fr lo pc lv (.ref x :: st) S r S' :=
  J_go (fun _ _ _ _ _ _ _ _ _ _ _ _ _ _ _ _ _ hC hl kk => lv_astore hC.1 hC.2.1 hd hl hn rfl (fun ls' h' => kk ls' (lv_sub h' ks hl'))) k
theorem J_astore_nq {n : Fin 4} {i : Nat} {x : Option Nat} (hd : decode cc pc = .ok (.astore_n n, 1)) (hi : (n : Nat) = i) (hn : i < nL) (ks : List Nat) (hl' : lv_pick ((i, va_rf x) :: lvF i lv) ks = lv') (k : J X y cc nL ret fr lo (pc + 1) lv' st S r S') : J X y cc nL ret fr lo pc lv (va_rf x :: st) S r S' :=
  J_go (fun _ _ _ _ _ _ _ _ _ _ _ _ _ _ _ _ _ hC hl kk => by
    cases x with
    | none => exact lv_astore_nN hC.1 hC.2.1 hd hi hl hn rfl (fun ls' h' => kk ls' (lv_sub h' ks hl'))
    | some a => exact lv_astore_n hC.1 hC.2.1 hd hi hl hn rfl (fun ls' h' => kk ls' (lv_sub h' ks hl'))) k
theorem J_astoreq {i : Nat} {x : Option Nat} (hd : decode cc pc = .ok (.astore i, 2)) (hn : i < nL) (ks : List Nat) (hl' : lv_pick ((i, va_rf x) :: lvF i lv) ks = lv') (k : J X y cc nL ret fr lo (pc + 2) lv' st S r S') : J X y cc nL ret fr lo pc lv (va_rf x :: st) S r S' :=
  J_go (fun _ _ _ _ _ _ _ _ _ _ _ _ _ _ _ _ _ hC hl kk => by
    cases x with
    | none => exact lv_astoreN hC.1 hC.2.1 hd hl hn rfl (fun ls' h' => kk ls' (lv_sub h' ks hl'))
    | some a => exact lv_astore hC.1 hC.2.1 hd hl hn rfl (fun ls' h' => kk ls' (lv_sub h' ks hl'))) k
theorem J_iinc {i : Nat} {n : Int} (j : Nat) {x : Int32} (v : Int32) (hd : decode cc pc = .ok (.iinc i n, 3)) (hx : lv[j]? = some (i, .int x)) (hv : Int32.ofInt n = v) (hn : i < nL) (ks : List Nat) (hl' : lv_pick ((i, Value.int (x + v)) :: lvF i lv) ks = lv') (k : J X y cc nL ret fr lo (pc + 3) lv' st S r S') : J X y cc nL ret fr lo pc lv st S r S' :=
  J_go (fun _ _ _ _ _ _ _ _ _ _ _ _ _ _ _ _ _ hC hl kk => lv_iinc (k := j) hC.1 hC.2.1 hd hl hx (by rw [hv]) hn rfl (fun ls' h' => kk ls' (lv_sub h' ks hl'))) k
/-- fewer locals are known -/
theorem J_lv (ks : List Nat) (hl' : lv_pick lv ks = lv') (k : J X y cc nL ret fr lo pc lv' st S r S') : J X y cc nL ret fr lo pc lv st S r S' :=
  J_go (fun _ _ _ _ _ _ _ _ _ _ _ _ _ _ _ ls _ _ hl kk => kk ls (lv_sub hl ks hl')) k
end Rules
