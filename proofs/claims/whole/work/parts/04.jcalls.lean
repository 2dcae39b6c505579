/-! calls over J -/
section JCalls
variable {σ : Type} {X : RT σ} {y : MethodName} {cc : ByteArray} {nL : Nat} {ret : Option FieldType} {fr lo : Nat} {pc : Nat} {lv : List (Nat × Value)} {st rest : List Value} {S S' : σ} {r : Option Value}
variable {y1 : MethodName} {cc1 : ByteArray} {nL1 : Nat} {ret1 : Option FieldType} {fr1 lo1 : Nat} {S1 : σ} {v : Option Value} {i n : Nat} {As st' : List Value} {b : Nat}
theorem jPay {args : Array Value} {s : State} (hts : ∀ w ∈ tblG, w.before args s = true) (hcode : Cond.code y1 cc1 nL1 ret1 ∈ tblG) : ∀ w ∈ (Cond.code y1 cc1 nL1 ret1 :: tblG), ∀ (a' : Array Value) (U : State), s.WarmedH U.vm → w.before a' U = true := by
  intro w hw a' U hW
  have hm : w ∈ tblG := by
    rcases List.mem_cons.mp hw with rfl | h
    · exact hcode
    · exact h
  exact word_at hW (tblG_good hm) (hts w hm)
/-- what a call's words say of the callee: its code, its sort -/
def jCal (y1 : MethodName) (cc1 : ByteArray) (nL1 : Nat) (ret1 : Option FieldType) (n : Nat) : Prop :=
  Cond.code y1 cc1 nL1 ret1 ∈ tblG ∧ Cond.initialized y1.cls ∈ tblG ∧ (y1.cls ≠ "java/lang/invoke/MethodHandle" ∧ y1.cls ≠ "java/lang/invoke/VarHandle") ∧ (parseMethodDescriptor y1.desc).map (fun d => d.parameters.length) = some n
theorem jSig (h : (parseMethodDescriptor y1.desc).map (fun d => d.parameters.length) = some n) : ∀ sig, parseMethodDescriptor y1.desc = some sig → n = sig.parameters.length := by
  intro sig hs
  rw [hs] at h
  exact (Option.some.inj h).symm
theorem jCB {R : Room} {s : State} {args : Array Value} {own : String} {mc ms : Nat} (hts : ∀ w ∈ tblG, w.before args s = true) (hc : jCal y1 cc1 nL1 ret1 n) (hl : Cond.methodLink own i y1 ∈ tblG) (hfr : fr1 + 1 ≤ R.frames) (hlo : 8 + (nL1 + 11) + lo1 ≤ R.locals) :
    CallB R s args own i y1 cc1 nL1 ret1 (Cond.code y1 cc1 nL1 ret1 :: tblG) { frames := fr1, cells := mc, slots := ms, locals := lo1 } mc ms n :=
  ⟨rfl, rfl, hfr, hlo, jPay hts hc.1, List.mem_cons_self, hts _ hc.1, hts _ hc.2.1, hc.2.2.1, jSig hc.2.2.2, hts _ hl⟩
theorem jCN {R : Room} {s : State} {args : Array Value} {own host : String} {mc ms : Nat} (hts : ∀ w ∈ tblG, w.before args s = true) (hc : jCal y1 cc1 nL1 ret1 n) (hl : va_Nw (Cond.methodLinkNest own i y1 host) s) (hfr : fr1 + 1 ≤ R.frames) (hlo : 8 + (nL1 + 11) + lo1 ≤ R.locals) :
    va_CN R s args own i y1 host cc1 nL1 ret1 (Cond.code y1 cc1 nL1 ret1 :: tblG) { frames := fr1, cells := mc, slots := ms, locals := lo1 } mc ms n :=
  ⟨⟨rfl, rfl, hfr, hlo, jPay hts hc.1, List.mem_cons_self⟩, hts _ hc.1, hts _ hc.2.1, hc.2.2.1, jSig hc.2.2.2, va_Nw.use rfl hl⟩
theorem jBlind {D : JD} {av : List Value} : FrameBlind (va_Pc av (fun U => X.1 D S U.heap ∧ KD D U)) := by
  intro a U g mk q
  obtain ⟨q1, q2, q3⟩ := q
  exact ⟨q1, q2, KD.moved (s := U) (State.WarmedH.refl U) q3⟩
/-- behind a call -/
theorem jRun {p : Program} {l : Launch} {e : Env} {R : Room} {s : State} {m : MethodId} {args : Array Value} {below : List Frame} {meth : Method} {c : Code} {H : Heap} {locs : List Loc} {cells slots mc ms : Nat} {ls : Array Slot} {A : Nat → Prop} {D : JD} {a : Array Value}
    (hr : va_Run p l e R s m args below meth c H locs cells slots (X.2.2.1 S1 - X.2.2.1 S) (X.2.2.2.1 S1 - X.2.2.2.1 S) (F0 m pc ls st) rest (jQ X D v S1 (X.2.1 S) (X.2.2.1 S1 - X.2.2.1 S) a) (X.2.1 S))
    (hle : jle X S S1) (hst : v.toList ++ rest = st') (hC : CX y cc nL ret fr lo D p R s m args meth c) (hl : lv_has ls nL lv) (hS : va_S A s.heap H locs) (hA : ∀ q, X.2.1 S q → A q) (h1 : cells + X.2.2.1 S' ≤ mc + X.2.2.1 S) (h2 : slots + X.2.2.2.1 S' ≤ ms + X.2.2.2.1 S) (h3 : mc ≤ R.cells) (h4 : ms ≤ R.slots)
    (k : J X y cc nL ret fr lo (pc + 3) lv st' S1 r S') : W p l e R s m args below meth c H locs cells slots (MQ below (jQ X D r S' A mc) args s mc ms A) (F0 m pc ls st) := by
  intro T hT X0
  obtain ⟨v', st₀, t, T', L, h0, X', hL, e1, e2, ⟨hv, hrep, ⟨hz, hk⟩, -⟩, go⟩ := hr T hT X0
  obtain rfl := Outcome.returned.inj hv
  subst hst
  rw [h0] at hz hk
  have hS' : va_S A s.heap T'.heap (locs ++ L) := ⟨Nat.le_trans hS.1 (by rw [e1]; exact hz), fun q q1 q2 => by rw [e1, hk q (Nat.lt_of_lt_of_le q1 hS.1) (fun z => q2 (hA q z))]; exact hS.2.1 q q1 q2, fun q hq => by
      rcases List.mem_append.mp hq with h | h
      · exact hS.2.2 q h
      · exact hA _ (hL q h)⟩
  obtain ⟨t2, a1, b1⟩ := k.2 p l e R s m args below meth c T'.heap (locs ++ L) (cells + (X.2.2.1 S1 - X.2.2.1 S)) (slots + (X.2.2.2.1 S1 - X.2.2.2.1 S)) mc ms ls A D hC hl (by rw [e1]; exact hrep) hS' (fun q hq => hA q (hle.2.2.2 q hq)) (by have := hle.1; omega) (by have := hle.2.1; omega) h3 h4 T' rfl X'
  exact ⟨t2, go t2 a1, b1⟩
theorem jRoom {cells mc : Nat} {a b c : Nat} (h : cells + c ≤ mc + a) (hab : a ≤ b) (hbc : b ≤ c) : cells + (b - a) ≤ mc := by omega
/-- an object stands at b, of the callee's own kind -/
def jRecv (X : RT σ) (S : σ) (b : Nat) (C : String) : Prop := ∀ (D : JD) (H : Heap) (s : State), X.1 D S H → KD D s → ∃ cell : Cell, H[b]? = some cell ∧ cell.vm.isStatics = false ∧ s.vm.findClass C = some cell.cls
theorem J_callV (hc : CT X y1 cc1 nL1 ret1 fr1 lo1 (.ref b :: As) S v S1) (hw : jCal y1 cc1 nL1 ret1 n) (hlk : Cond.methodLink y.cls i y1 ∈ tblG ∧ Cond.instanceMethod y1 ∈ tblG ∧ Cond.selects y1.cls y1 y1 ∈ tblG) (hrv : jRecv X S b y1.cls) (hn : As.length = n) (hfr : fr1 + 1 ≤ fr) (hlo : 8 + (nL1 + 11) + lo1 ≤ lo) (hst : st = As.reverse ++ .ref b :: rest) (hst' : v.toList ++ rest = st') (hW : (rest.map fun v => v.category).sum ≤ 8) (hd : decode cc pc = .ok (.invokevirtual i, 3))
    (k : J X y cc nL ret fr lo (pc + 3) lv st' S1 r S') : J X y cc nL ret fr lo pc lv st S r S' := by
  refine ⟨hc.1.tr k.1, fun p l e R s m args below meth c H locs cells slots mc ms ls A D hC hl hR hS hA h1 h2 h3 h4 => ?_⟩
  subst hst
  obtain ⟨hx, hb, hml, hown, hts, hrt, hlk2, hnm, hK, hf1, hf2⟩ := id hC
  refine jRun (va_runV (As := As) (rest := rest) (C := y1.cls) (n := n) ⟨hx, hb, hml, hown, hts⟩ (hc.2 l D) ⟨jCB hts hw hlk.1 (by omega) (by omega), hts _ hlk.2.1, hts _ hlk.2.2⟩ ⟨jBlind, hrv D H s hR hK, fun U hU hW => ⟨rfl, by rw [hU]; exact hR, hK.moved hW⟩⟩ rfl hn hl.1 rfl (lv_room hW) hd ⟨?_, ?_⟩) hc.1 hst' hC hl hS hA h1 h2 h3 h4 k
  · exact Nat.le_trans (jRoom h1 hc.1.1 k.1.1) h3
  · exact Nat.le_trans (jRoom h2 hc.1.2.1 k.1.2.1) h4
theorem J_callVN {host : String} (hc : CT X y1 cc1 nL1 ret1 fr1 lo1 (.ref b :: As) S v S1) (hw : jCal y1 cc1 nL1 ret1 n) (hlk : Cond.methodLinkNest y.cls i y1 host ∈ lw_tbl ∧ Cond.instanceMethod y1 ∈ tblG ∧ Cond.selects y1.cls y1 y1 ∈ tblG) (hrv : jRecv X S b y1.cls) (hn : As.length = n) (hfr : fr1 + 1 ≤ fr) (hlo : 8 + (nL1 + 11) + lo1 ≤ lo) (hst : st = As.reverse ++ .ref b :: rest) (hst' : v.toList ++ rest = st') (hW : (rest.map fun v => v.category).sum ≤ 8) (hd : decode cc pc = .ok (.invokevirtual i, 3))
    (k : J X y cc nL ret fr lo (pc + 3) lv st' S1 r S') : J X y cc nL ret fr lo pc lv st S r S' := by
  refine ⟨hc.1.tr k.1, fun p l e R s m args below meth c H locs cells slots mc ms ls A D hC hl hR hS hA h1 h2 h3 h4 => ?_⟩
  subst hst
  obtain ⟨hx, hb, hml, hown, hts, hrt, hlk2, hnm, hK, hf1, hf2⟩ := id hC
  refine jRun (va_runVN (As := As) (rest := rest) (C := y1.cls) (n := n) ⟨hx, hb, hml, hown, hts⟩ (hc.2 l D) ⟨jCN hts hw (hK.2.1 _ hlk.1 rfl) (by omega) (by omega), hts _ hlk.2.1, hts _ hlk.2.2⟩ ⟨jBlind, hrv D H s hR hK, fun U hU hW => ⟨rfl, by rw [hU]; exact hR, hK.moved hW⟩⟩ rfl hn hl.1 rfl (lv_room hW) hd ⟨?_, ?_⟩) hc.1 hst' hC hl hS hA h1 h2 h3 h4 k
  · exact Nat.le_trans (jRoom h1 hc.1.1 k.1.1) h3
  · exact Nat.le_trans (jRoom h2 hc.1.2.1 k.1.2.1) h4
theorem J_callS (hc : CT X y1 cc1 nL1 ret1 fr1 lo1 As S v S1) (hw : jCal y1 cc1 nL1 ret1 n) (hlk : Cond.methodLink y.cls i y1 ∈ tblG ∧ Cond.static y1 ∈ tblG) (hn : As.length = n) (hfr : fr1 + 1 ≤ fr) (hlo : 8 + (nL1 + 11) + lo1 ≤ lo) (hst : st = As.reverse ++ rest) (hst' : v.toList ++ rest = st') (hW : (rest.map fun v => v.category).sum ≤ 8) (hd : decode cc pc = .ok (.invokestatic i, 3))
    (k : J X y cc nL ret fr lo (pc + 3) lv st' S1 r S') : J X y cc nL ret fr lo pc lv st S r S' := by
  refine ⟨hc.1.tr k.1, fun p l e R s m args below meth c H locs cells slots mc ms ls A D hC hl hR hS hA h1 h2 h3 h4 => ?_⟩
  subst hst
  obtain ⟨hx, hb, hml, hown, hts, hrt, hlk2, hnm, hK, hf1, hf2⟩ := id hC
  refine jRun (va_runS (As := As) (rest := rest) (n := n) ⟨hx, hb, hml, hown, hts⟩ (hc.2 l D) ⟨jCB hts hw hlk.1 (by omega) (by omega), hts _ hlk.2⟩ ⟨jBlind, fun U hU hW => ⟨rfl, by rw [hU]; exact hR, hK.moved hW⟩⟩ rfl hn hl.1 rfl (lv_room hW) hd ⟨?_, ?_⟩) hc.1 hst' hC hl hS hA h1 h2 h3 h4 k
  · exact Nat.le_trans (jRoom h1 hc.1.1 k.1.1) h3
  · exact Nat.le_trans (jRoom h2 hc.1.2.1 k.1.2.1) h4
theorem J_callSN {host : String} (hc : CT X y1 cc1 nL1 ret1 fr1 lo1 As S v S1) (hw : jCal y1 cc1 nL1 ret1 n) (hlk : Cond.methodLinkNest y.cls i y1 host ∈ lw_tbl ∧ Cond.static y1 ∈ tblG) (hn : As.length = n) (hfr : fr1 + 1 ≤ fr) (hlo : 8 + (nL1 + 11) + lo1 ≤ lo) (hst : st = As.reverse ++ rest) (hst' : v.toList ++ rest = st') (hW : (rest.map fun v => v.category).sum ≤ 8) (hd : decode cc pc = .ok (.invokestatic i, 3))
    (k : J X y cc nL ret fr lo (pc + 3) lv st' S1 r S') : J X y cc nL ret fr lo pc lv st S r S' := by
  refine ⟨hc.1.tr k.1, fun p l e R s m args below meth c H locs cells slots mc ms ls A D hC hl hR hS hA h1 h2 h3 h4 => ?_⟩
  subst hst
  obtain ⟨hx, hb, hml, hown, hts, hrt, hlk2, hnm, hK, hf1, hf2⟩ := id hC
  refine jRun (va_runSN (As := As) (rest := rest) (n := n) ⟨hx, hb, hml, hown, hts⟩ (hc.2 l D) ⟨jCN hts hw (hK.2.1 _ hlk.1 rfl) (by omega) (by omega), hts _ hlk.2, trivial⟩ ⟨jBlind, fun U hU hW => ⟨rfl, by rw [hU]; exact hR, hK.moved hW⟩⟩ rfl hn hl.1 rfl (lv_room hW) hd ⟨?_, ?_⟩) hc.1 hst' hC hl hS hA h1 h2 h3 h4 k
  · exact Nat.le_trans (jRoom h1 hc.1.1 k.1.1) h3
  · exact Nat.le_trans (jRoom h2 hc.1.2.1 k.1.2.1) h4
theorem J_callI (hc : CT X y1 cc1 nL1 none fr1 lo1 (.ref b :: As) S v S1) (hw : jCal y1 cc1 nL1 none n) (hlk : Cond.methodLink y.cls i y1 ∈ tblG ∧ Cond.instanceMethod y1 ∈ tblG) (hy : y1.name = "<init>") (hn : As.length = n) (hfr : fr1 + 1 ≤ fr) (hlo : 8 + (nL1 + 11) + lo1 ≤ lo) (hst : st = As.reverse ++ .ref b :: rest) (hst' : v.toList ++ rest = st') (hW : (rest.map fun v => v.category).sum ≤ 8) (hd : decode cc pc = .ok (.invokespecial i, 3))
    (k : J X y cc nL ret fr lo (pc + 3) lv st' S1 r S') : J X y cc nL ret fr lo pc lv st S r S' := by
  refine ⟨hc.1.tr k.1, fun p l e R s m args below meth c H locs cells slots mc ms ls A D hC hl hR hS hA h1 h2 h3 h4 => ?_⟩
  subst hst
  obtain ⟨hx, hb, hml, hown, hts, hrt, hlk2, hnm, hK, hf1, hf2⟩ := id hC
  refine jRun (va_runI (As := As) (rest := rest) (n := n) ⟨hx, hb, hml, hown, hts⟩ (hc.2 l D) ⟨jCB hts hw hlk.1 (by omega) (by omega), hy, hts _ hlk.2⟩ ⟨jBlind, fun U hU hW => ⟨rfl, by rw [hU]; exact hR, hK.moved hW⟩⟩ rfl hn hl.1 rfl (lv_room hW) hd ⟨?_, ?_⟩) hc.1 hst' hC hl hS hA h1 h2 h3 h4 k
  · exact Nat.le_trans (jRoom h1 hc.1.1 k.1.1) h3
  · exact Nat.le_trans (jRoom h2 hc.1.2.1 k.1.2.1) h4
theorem J_callIN {host : String} (hc : CT X y1 cc1 nL1 none fr1 lo1 (.ref b :: As) S v S1) (hw : jCal y1 cc1 nL1 none n) (hlk : Cond.methodLinkNest y.cls i y1 host ∈ lw_tbl ∧ Cond.instanceMethod y1 ∈ tblG) (hy : y1.name = "<init>") (hn : As.length = n) (hfr : fr1 + 1 ≤ fr) (hlo : 8 + (nL1 + 11) + lo1 ≤ lo) (hst : st = As.reverse ++ .ref b :: rest) (hst' : v.toList ++ rest = st') (hW : (rest.map fun v => v.category).sum ≤ 8) (hd : decode cc pc = .ok (.invokespecial i, 3))
    (k : J X y cc nL ret fr lo (pc + 3) lv st' S1 r S') : J X y cc nL ret fr lo pc lv st S r S' := by
  refine ⟨hc.1.tr k.1, fun p l e R s m args below meth c H locs cells slots mc ms ls A D hC hl hR hS hA h1 h2 h3 h4 => ?_⟩
  subst hst
  obtain ⟨hx, hb, hml, hown, hts, hrt, hlk2, hnm, hK, hf1, hf2⟩ := id hC
  refine jRun (va_runIN (As := As) (rest := rest) (n := n) ⟨hx, hb, hml, hown, hts⟩ (hc.2 l D) ⟨jCN hts hw (hK.2.1 _ hlk.1 rfl) (by omega) (by omega), hy, hts _ hlk.2⟩ ⟨jBlind, fun U hU hW => ⟨rfl, by rw [hU]; exact hR, hK.moved hW⟩⟩ rfl hn hl.1 rfl (lv_room hW) hd ⟨?_, ?_⟩) hc.1 hst' hC hl hS hA h1 h2 h3 h4 k
  · exact Nat.le_trans (jRoom h1 hc.1.1 k.1.1) h3
  · exact Nat.le_trans (jRoom h2 hc.1.2.1 k.1.2.1) h4
/-- Object's own maker -/
theorem J_objInit {a : Nat} (hlk : Cond.methodLink y.cls i Lib.objectInit ∈ tblG) (h2 : Cond.instanceMethod Lib.objectInit ∈ tblG) (h3 : Cond.code Lib.objectInit ⟨#[0xb1]⟩ 1 none ∈ tblG) (hfr : 1 ≤ fr) (hlo : 24 ≤ lo) (hW : (rest.map fun v => v.category).sum ≤ 8) (hd : decode cc pc = .ok (.invokespecial i, 3)) (k : J X y cc nL ret fr lo (pc + 3) lv rest S r S') : J X y cc nL ret fr lo pc lv (.ref a :: rest) S r S' :=
  J_go (fun p l e R s m args below meth c H locs cells slots Q ls D hC hl kk => by
    obtain ⟨hx, hb, hml, hown, hts, hrt, hlk2, hnm, hK, hf1, hf2⟩ := id hC
    refine W.objInit hx hb hown (hts _ hlk) (hts _ h2) (hts _ h3) rfl (by rw [hml]; exact hl.1) rfl hd (by omega) ?_ (kk ls hl)
    have := lv_room (m := m) (pc := pc) (ls := ls) (rest := .ref a :: rest) hW
    omega) k
/-- ends -/
theorem J_iret {x : Int32} (hr : ret = some .int) (hd : decode cc pc = .ok (.ireturn, 1)) : J X y cc nL ret fr lo pc lv [.int x] S (some (.int x)) S := by
  refine ⟨jle.rfl', fun p l e R s m args below meth c H locs cells slots mc ms ls A D hC hl hR hS hA h1 h2 h3 h4 => ?_⟩
  obtain ⟨hx, hb, hml, hown, hts, hrt, hlocks, hnm, hK, hf1, hf2⟩ := id hC
  subst hr
  refine W_size (fun hz0 => ?_)
  refine W.widen (k := mc) (n := ms) (by omega) (by omega) ?_
  exact W.iret hx hb hrt (fun t ht hW => ⟨rfl, by rw [ht]; exact hR, hS.F ht, by rw [ht]; omega⟩) hS.2.2 hd hlocks
theorem J_zret {x : Int32} (hr : ret = some .boolean) (hz : x = 0 ∨ x = 1) (hd : decode cc pc = .ok (.ireturn, 1)) : J X y cc nL ret fr lo pc lv [.int x] S (some (.int x)) S := by
  refine ⟨jle.rfl', fun p l e R s m args below meth c H locs cells slots mc ms ls A D hC hl hR hS hA h1 h2 h3 h4 => ?_⟩
  obtain ⟨hx, hb, hml, hown, hts, hrt, hlocks, hnm, hK, hf1, hf2⟩ := id hC
  subst hr
  refine W_size (fun hz0 => ?_)
  refine W.widen (k := mc) (n := ms) (by omega) (by omega) ?_
  exact W.zret hx hb hrt (by rcases hz with rfl | rfl <;> rfl) (fun t ht hW => ⟨rfl, by rw [ht]; exact hR, hS.F ht, by rw [ht]; omega⟩) hS.2.2 hd hlocks
theorem J_lret {x : Int64} (hr : ret = some .long) (hd : decode cc pc = .ok (.lreturn, 1)) : J X y cc nL ret fr lo pc lv [.long x] S (some (.long x)) S := by
  refine ⟨jle.rfl', fun p l e R s m args below meth c H locs cells slots mc ms ls A D hC hl hR hS hA h1 h2 h3 h4 => ?_⟩
  obtain ⟨hx, hb, hml, hown, hts, hrt, hlocks, hnm, hK, hf1, hf2⟩ := id hC
  subst hr
  refine W_size (fun hz0 => ?_)
  refine W.widen (k := mc) (n := ms) (by omega) (by omega) ?_
  exact W.lret hx hb hrt (fun t ht hW => ⟨rfl, by rw [ht]; exact hR, hS.F ht, by rw [ht]; omega⟩) hS.2.2 hd hlocks
theorem J_aretq {x : Option Nat} {C : String} (hr : ret = some (.object C)) (hd : decode cc pc = .ok (.areturn, 1)) : J X y cc nL ret fr lo pc lv [va_rf x] S (some (va_rf x)) S := by
  refine ⟨jle.rfl', fun p l e R s m args below meth c H locs cells slots mc ms ls A D hC hl hR hS hA h1 h2 h3 h4 => ?_⟩
  obtain ⟨hx, hb, hml, hown, hts, hrt, hlocks, hnm, hK, hf1, hf2⟩ := id hC
  subst hr
  refine W_size (fun hz0 => ?_)
  refine W.widen (k := mc) (n := ms) (by omega) (by omega) ?_
  exact W.aret hx hb hrt (Or.inl ⟨C, rfl⟩) (va_rf_or x) (fun t ht hW => ⟨rfl, by rw [ht]; exact hR, hS.F ht, by rw [ht]; omega⟩) hS.2.2 hd hlocks
theorem J_vret (hr : ret = none) (hd : decode cc pc = .ok (.return_, 1)) : J X y cc nL ret fr lo pc lv [] S none S := by
  refine ⟨jle.rfl', fun p l e R s m args below meth c H locs cells slots mc ms ls A D hC hl hR hS hA h1 h2 h3 h4 => ?_⟩
  obtain ⟨hx, hb, hml, hown, hts, hrt, hlocks, hnm, hK, hf1, hf2⟩ := id hC
  subst hr
  refine W_size (fun hz0 => ?_)
  refine W.widen (k := mc) (n := ms) (by omega) (by omega) ?_
  exact W.vret hx hb hrt (fun t ht hW => ⟨rfl, by rw [ht]; exact hR, hS.F ht, by rw [ht]; omega⟩) hS.2.2 hd hlocks
end JCalls
