/-! THE LAW'S STATE: the class's objects, the reference once it is made, the script -/
abbrev LSt : Type := Mem × Option MS × Nat × Nat × (Nat → Int32)
def lScr (D : JD) (s : LSt) (H : Heap) : Prop := ∃ scr : Cell, H[s.2.2.1]? = some scr ∧ scr.cls = D.2.1 7 ∧ (scr.vm ≠ .unknown ∧ ∀ q, scr.vm ≠ .statics q) ∧ scr.slots.size = s.2.2.2.1 ∧ ∀ j, j < s.2.2.2.1 → scr.slots[j]? = some (.int (s.2.2.2.2 j))
def lRep (D : JD) (s : LSt) (H : Heap) : Prop := mRep D s.1 H ∧ (∀ M, s.2.1 = some M → nRep D M H ∧ ∀ q, nFree M q → mKd s.1 q = 0 ∧ q < mNx s.1 ∧ q ≠ s.2.2.1) ∧ (mKd s.1 s.2.2.1 = 0 ∧ s.2.2.1 < mNx s.1) ∧ lScr D s H
def lFree (s : LSt) (q : Nat) : Prop := mFree s.1 q ∨ ∃ M, s.2.1 = some M ∧ nFree M q
def LX : RT LSt := (lRep, lFree, fun s => mNx s.1, fun s => mSl s.1, fun _ _ => 0, fun _ _ => 0)
theorem lle_C {S S1 : Mem} {M : Option MS} {z : Nat × Nat × (Nat → Int32)} (h : jle MX S S1) : jle LX (S, M, z) (S1, M, z) :=
  ⟨h.1, h.2.1, fun _ _ => ⟨rfl, rfl⟩, fun q hq => by
    have hq : mFree S1 q ∨ ∃ N, M = some N ∧ nFree N q := hq
    rcases hq with h1 | h1
    · exact Or.inl (h.2.2.2 q h1)
    · exact Or.inr h1⟩
theorem lle_M {S : Mem} {M M1 : MS} {z : Nat × Nat × (Nat → Int32)} (h : jle NX M M1) : jle LX (S, some M, z) (S, some M1, z) :=
  ⟨Nat.le_refl _, Nat.le_refl _, fun _ _ => ⟨rfl, rfl⟩, fun q hq => by
    have hq : mFree S q ∨ ∃ N, some M1 = some N ∧ nFree N q := hq
    rcases hq with h1 | ⟨N, e, h1⟩
    · exact Or.inl h1
    · cases e
      exact Or.inr ⟨M, rfl, h.2.2.2 q h1⟩⟩
theorem nRep.kept {D : JD} {M : MS} {H H1 : Heap} (h : nRep D M H) (hq : ∀ q, nFree M q → H1[q]? = H[q]?) : nRep D M H1 :=
  ⟨h.1.kept (hq _ ⟨Nat.le_refl _, by omega⟩), fun k hk => by
    have hl := mOff_lt k (mOff_big hk)
    rw [hq _ ⟨by omega, by omega⟩]
    exact h.2 k hk⟩
theorem lScr.kept {D : JD} {s s1 : LSt} {H H1 : Heap} (h : lScr D s H) (he : s1.2.2 = s.2.2) (hq : H1[s.2.2.1]? = H[s.2.2.1]?) : lScr D s1 H1 := by
  obtain ⟨scr, h1, h2, h3, h4, h5⟩ := h
  unfold lScr
  rw [he]
  exact ⟨scr, by rw [hq]; exact h1, h2, h3, h4, h5⟩
theorem mFree_not {S : Mem} {q : Nat} (h : mKd S q = 0) (hl : q < mNx S) : ¬ mFree S q := by
  intro z
  rcases z with z | z
  · exact z.1 h
  · omega
/-- behind a call of the class -/
theorem lRep.C {D : JD} {S S1 : Mem} {M : Option MS} {z : Nat × Nat × (Nat → Int32)} {H H1 : Heap} (h : lRep D (S, M, z) H) (hl : jle MX S S1) (hr : mRep D S1 H1) (hk : ∀ q, q < H.size → ¬ mFree S q → H1[q]? = H[q]?) : lRep D (S1, M, z) H1 := by
  obtain ⟨h1, h2, h3, h4⟩ := h
  have hs : H.size = mNx S := h1.1
  have hz3 : mKd S z.1 = 0 ∧ z.1 < mNx S := h3
  have kd0 : ∀ q, q < mNx S → mKd S q = 0 → mKd S1 q = 0 := fun q hq hq0 => ((hl.2.2.1 q hq).1).trans hq0
  refine ⟨hr, fun N hN => ?_, ⟨kd0 _ hz3.2 hz3.1, Nat.lt_of_lt_of_le hz3.2 hl.1⟩, h4.kept rfl (hk _ (by rw [hs]; exact hz3.2) (mFree_not hz3.1 hz3.2))⟩
  obtain ⟨g1, g2⟩ := h2 N hN
  refine ⟨g1.kept (fun q hq => hk q (by rw [hs]; exact (g2 q hq).2.1) (mFree_not (g2 q hq).1 (g2 q hq).2.1)), fun q hq => ⟨kd0 q (g2 q hq).2.1 (g2 q hq).1, Nat.lt_of_lt_of_le (g2 q hq).2.1 hl.1, (g2 q hq).2.2⟩⟩
theorem repAt_kept {D : JD} {S : Mem} {H H1 : Heap} {b k : Nat} (h : repAt D S H b k) (hH : k ≠ 0 → H1[b]? = H[b]?) : repAt D S H1 b k := by
  by_cases h0 : k = 0
  · subst h0; unfold repAt; rw [if_pos rfl]; trivial
  · exact repAt_same h (hH h0) rfl ⟨rfl, rfl, rfl⟩
/-- behind a call of the reference -/
theorem lRep.M {D : JD} {S : Mem} {M M1 : MS} {z : Nat × Nat × (Nat → Int32)} {H H1 : Heap} (h : lRep D (S, some M, z) H) (hl : jle NX M M1) (hr : nRep D M1 H1) (hz : H1.size = H.size) (hk : ∀ q, q < H.size → ¬ nFree M q → H1[q]? = H[q]?) : lRep D (S, some M1, z) H1 := by
  obtain ⟨h1, h2, h3, h4⟩ := h
  obtain ⟨g1, g2⟩ := h2 M rfl
  have hs : H.size = mNx S := h1.1
  have hz3 : mKd S z.1 = 0 ∧ z.1 < mNx S := h3
  have hM1 : ∀ q, nFree M1 q → nFree M q := hl.2.2.2
  have notM : ∀ q, mKd S q ≠ 0 → ¬ nFree M q := fun q hq hn => hq (g2 q hn).1
  refine ⟨⟨by rw [hz]; exact h1.1, fun a => ?_, ?_⟩, fun N hN => ?_, h3, h4.kept rfl (hk _ (by rw [hs]; exact hz3.2) (fun hn => (g2 _ hn).2.2 rfl))⟩
  · exact repAt_kept (h1.2.1 a) (fun h0 => hk a (by rw [hs]; exact mKd_lt h0) (notM a h0))
  · obtain ⟨cell, c1, c2, c3⟩ := h1.2.2
    refine ⟨cell, ?_, c2, c3⟩
    have hlt := (Array.getElem?_eq_some_iff.mp c1).1
    have hn : ¬ nFree M D.2.2.1 := by
      intro hn
      obtain ⟨⟨cM, q1, q2, q3, -⟩, q5⟩ := g1
      by_cases he : D.2.2.1 = M.1
      · rw [he] at c1
        cases c1.symm.trans q1
        rw [q3] at c2
        cases c2
      · have hn : M.1 ≤ D.2.2.1 ∧ D.2.2.1 < M.1 + 24 := hn
        have hofs : ∀ o, o < 24 → o ≠ 0 → ∃ k, k < 45 ∧ mOff k = o := by decide +kernel
        obtain ⟨k, -, hk2⟩ := hofs (D.2.2.1 - M.1) (by omega) (by omega)
        have := q5 k (by omega)
        rw [hk2, show M.1 + (D.2.2.1 - M.1) = D.2.2.1 by omega] at this
        cases c1.symm.trans this
        cases c2
    rw [hk _ hlt hn]
    exact c1
  · cases hN
    exact ⟨hr, fun q hq => g2 q (hM1 q hq)⟩
section LCalls
variable {y : MethodName} {cc : ByteArray} {nL : Nat} {ret : Option FieldType} {fr lo : Nat} {pc : Nat} {lv : List (Nat × Value)} {st rest st' : List Value} {S : Mem} {S' : LSt} {r : Option Value} {z : Nat × Nat × (Nat → Int32)} {y1 : MethodName} {cc1 : ByteArray} {nL1 : Nat} {ret1 : Option FieldType} {fr1 lo1 : Nat} {v : Option Value} {i n : Nat} {As : List Value} {b : Nat}
theorem jRunC {M : Option MS} {S1 : Mem} {p : Program} {l : Launch} {e : Env} {R : Room} {s : State} {m : MethodId} {args : Array Value} {below : List Frame} {meth : Method} {c : Code} {H : Heap} {locs : List Loc} {cells slots mc ms : Nat} {ls : Array Slot} {A : Nat → Prop} {D : JD} {a : Array Value}
    (hr : va_Run p l e R s m args below meth c H locs cells slots (mNx S1 - mNx S) (mSl S1 - mSl S) (F0 m pc ls st) rest (jQ MX D v S1 (mFree S) (mNx S1 - mNx S) a) (mFree S))
    (hle : jle MX S S1) (hst : v.toList ++ rest = st') (hC : CX y cc nL ret fr lo D p R s m args meth c) (hl : lv_has ls nL lv) (hR : lRep D (S, M, z) H) (hS : va_S A s.heap H locs) (hA : ∀ q, lFree (S, M, z) q → A q) (h1 : cells + mNx S'.1 ≤ mc + mNx S) (h2 : slots + mSl S'.1 ≤ ms + mSl S) (h3 : mc ≤ R.cells) (h4 : ms ≤ R.slots)
    (k : J LX y cc nL ret fr lo (pc + 3) lv st' (S1, M, z) r S') : W p l e R s m args below meth c H locs cells slots (MQ below (jQ LX D r S' A mc) args s mc ms A) (F0 m pc ls st) := by
  intro T hT X0
  obtain ⟨v', st₀, t, T', L, h0, X', hL, e1, e2, ⟨hv, hrep, ⟨hz, hk⟩, -⟩, go⟩ := hr T hT X0
  obtain rfl := Outcome.returned.inj hv
  subst hst
  rw [h0] at hz hk
  have hA' : ∀ q, mFree S q → A q := fun q h => hA q (Or.inl h)
  have hS' : va_S A s.heap T'.heap (locs ++ L) := ⟨Nat.le_trans hS.1 (by rw [e1]; exact hz), fun q q1 q2 => by rw [e1, hk q (Nat.lt_of_lt_of_le q1 hS.1) (fun z => q2 (hA' q z))]; exact hS.2.1 q q1 q2, fun q hq => by
      rcases List.mem_append.mp hq with h | h
      · exact hS.2.2 q h
      · exact hA' _ (hL q h)⟩
  have l1 : mNx S ≤ mNx S1 := hle.1
  have l2 : mSl S ≤ mSl S1 := hle.2.1
  obtain ⟨t2, a1, b1⟩ := k.2 p l e R s m args below meth c T'.heap (locs ++ L) (cells + (mNx S1 - mNx S)) (slots + (mSl S1 - mSl S)) mc ms ls A D hC hl (by rw [e1]; exact hR.C hle hrep hk) hS' (fun q hq => hA q ((lle_C hle).2.2.2 q hq)) (by show _ + mNx S'.1 ≤ mc + mNx S1; omega) (by show _ + mSl S'.1 ≤ ms + mSl S1; omega) h3 h4 T' rfl X'
  exact ⟨t2, go t2 a1, b1⟩
theorem J_LC {M : Option MS} {S1 : Mem} (hc : CT MX y1 cc1 nL1 ret1 fr1 lo1 (.ref b :: As) S v S1) (hw : jCal y1 cc1 nL1 ret1 n) (hlk : Cond.methodLink y.cls i y1 ∈ tblG ∧ Cond.instanceMethod y1 ∈ tblG ∧ Cond.selects y1.cls y1 y1 ∈ tblG) (hrv : jRecv MX S b y1.cls) (hn : As.length = n) (hfr : fr1 + 1 ≤ fr) (hlo : 8 + (nL1 + 11) + lo1 ≤ lo) (hst : st = As.reverse ++ .ref b :: rest) (hst' : v.toList ++ rest = st') (hW : (rest.map fun v => v.category).sum ≤ 8) (hd : decode cc pc = .ok (.invokevirtual i, 3))
    (k : J LX y cc nL ret fr lo (pc + 3) lv st' (S1, M, z) r S') : J LX y cc nL ret fr lo pc lv st (S, M, z) r S' := by
  refine ⟨(lle_C hc.1).tr k.1, fun p l e R s m args below meth c H locs cells slots mc ms ls A D hC hl hR hS hA h1 h2 h3 h4 => ?_⟩
  subst hst
  obtain ⟨hx, hb, hml, hown, hts, hrt, hlk2, hnm, hK, hf1, hf2⟩ := id hC
  have hR : lRep D (S, M, z) H := hR
  refine jRunC (M := M) (z := z) (va_runV (As := As) (rest := rest) (C := y1.cls) (n := n) ⟨hx, hb, hml, hown, hts⟩ (hc.2 l D) ⟨jCB hts hw hlk.1 (by omega) (by omega), hts _ hlk.2.1, hts _ hlk.2.2⟩ ⟨jBlind, hrv D H s hR.1 hK, fun U hU hW => ⟨rfl, by rw [hU]; exact hR.1, hK.moved hW⟩⟩ rfl hn hl.1 rfl (lv_room hW) hd ⟨?_, ?_⟩) hc.1 hst' hC hl hR hS hA h1 h2 h3 h4 k
  · exact Nat.le_trans (jRoom h1 hc.1.1 k.1.1) h3
  · exact Nat.le_trans (jRoom h2 hc.1.2.1 k.1.2.1) h4
theorem J_LCI {M : Option MS} {S1 : Mem} (hc : CT MX y1 cc1 nL1 none fr1 lo1 (.ref b :: As) S v S1) (hw : jCal y1 cc1 nL1 none n) (hlk : Cond.methodLink y.cls i y1 ∈ tblG ∧ Cond.instanceMethod y1 ∈ tblG) (hy : y1.name = "<init>") (hn : As.length = n) (hfr : fr1 + 1 ≤ fr) (hlo : 8 + (nL1 + 11) + lo1 ≤ lo) (hst : st = As.reverse ++ .ref b :: rest) (hst' : v.toList ++ rest = st') (hW : (rest.map fun v => v.category).sum ≤ 8) (hd : decode cc pc = .ok (.invokespecial i, 3))
    (k : J LX y cc nL ret fr lo (pc + 3) lv st' (S1, M, z) r S') : J LX y cc nL ret fr lo pc lv st (S, M, z) r S' := by
  refine ⟨(lle_C hc.1).tr k.1, fun p l e R s m args below meth c H locs cells slots mc ms ls A D hC hl hR hS hA h1 h2 h3 h4 => ?_⟩
  subst hst
  obtain ⟨hx, hb, hml, hown, hts, hrt, hlk2, hnm, hK, hf1, hf2⟩ := id hC
  have hR : lRep D (S, M, z) H := hR
  refine jRunC (M := M) (z := z) (va_runI (As := As) (rest := rest) (n := n) ⟨hx, hb, hml, hown, hts⟩ (hc.2 l D) ⟨jCB hts hw hlk.1 (by omega) (by omega), hy, hts _ hlk.2⟩ ⟨jBlind, fun U hU hW => ⟨rfl, by rw [hU]; exact hR.1, hK.moved hW⟩⟩ rfl hn hl.1 rfl (lv_room hW) hd ⟨?_, ?_⟩) hc.1 hst' hC hl hR hS hA h1 h2 h3 h4 k
  · exact Nat.le_trans (jRoom h1 hc.1.1 k.1.1) h3
  · exact Nat.le_trans (jRoom h2 hc.1.2.1 k.1.2.1) h4
theorem J_LM {M M1 : MS} (hc : CT NX y1 cc1 nL1 ret1 fr1 lo1 (.ref b :: As) M v M1) (hw : jCal y1 cc1 nL1 ret1 n) (hlk : Cond.methodLink y.cls i y1 ∈ tblG ∧ Cond.instanceMethod y1 ∈ tblG ∧ Cond.selects y1.cls y1 y1 ∈ tblG) (hrv : jRecv NX M b y1.cls) (hn : As.length = n) (hfr : fr1 + 1 ≤ fr) (hlo : 8 + (nL1 + 11) + lo1 ≤ lo) (hst : st = As.reverse ++ .ref b :: rest) (hst' : v.toList ++ rest = st') (hW : (rest.map fun v => v.category).sum ≤ 8) (hd : decode cc pc = .ok (.invokevirtual i, 3))
    (k : J LX y cc nL ret fr lo (pc + 3) lv st' (S, some M1, z) r S') : J LX y cc nL ret fr lo pc lv st (S, some M, z) r S' := by
  refine ⟨(lle_M hc.1).tr k.1, fun p l e R s m args below meth c H locs cells slots mc ms ls A D hC hl hR hS hA h1 h2 h3 h4 => ?_⟩
  subst hst
  obtain ⟨hx, hb, hml, hown, hts, hrt, hlk2, hnm, hK, hf1, hf2⟩ := id hC
  have hR : lRep D (S, some M, z) H := hR
  have hn0 := (hR.2.1 M rfl).1
  have c0 : cells ≤ mc := by have h1' : cells + mNx S'.1 ≤ mc + mNx S := h1; have l1 : mNx S ≤ mNx S'.1 := k.1.1; omega
  have s0 : slots ≤ ms := by have h2' : slots + mSl S'.1 ≤ ms + mSl S := h2; have l2 : mSl S ≤ mSl S'.1 := k.1.2.1; omega
  have run := va_runV (R := R) (l := l) (e := e) (below := below) (meth := meth) (locs := locs) (cells := cells) (slots := slots) (g := F0 m pc ls (As.reverse ++ .ref b :: rest)) (As := As) (rest := rest) (C := y1.cls) (n := n) ⟨hx, hb, hml, hown, hts⟩ (hc.2 l D) ⟨jCB (fr1 := fr1) (lo1 := lo1) hts hw hlk.1 (by omega) (by omega), hts _ hlk.2.1, hts _ hlk.2.2⟩ ⟨jBlind, hrv D H s hn0 hK, fun U hU hW => ⟨rfl, by rw [hU]; exact hn0, hK.moved hW⟩⟩ rfl hn hl.1 rfl (lv_room hW) hd ⟨by show cells + (0 - 0) ≤ _; omega, by show slots + (0 - 0) ≤ _; omega⟩
  intro T hT X0
  obtain ⟨v', st₀, t, T', L, h0, X', hL, e1, e2, ⟨hv, hrep, ⟨hz, hk⟩, hz2⟩, go⟩ := run T hT X0
  obtain rfl := Outcome.returned.inj hv
  subst hst'
  rw [h0] at hz hk hz2
  have hz2 : t.heap.size ≤ H.size + (0 - 0) := hz2
  have hA' : ∀ q, nFree M q → A q := fun q h => hA q (Or.inr ⟨M, rfl, h⟩)
  have hS' : va_S A s.heap T'.heap (locs ++ L) := ⟨Nat.le_trans hS.1 (by rw [e1]; exact hz), fun q q1 q2 => by rw [e1, hk q (Nat.lt_of_lt_of_le q1 hS.1) (fun z => q2 (hA' q z))]; exact hS.2.1 q q1 q2, fun q hq => by
      rcases List.mem_append.mp hq with h | h
      · exact hS.2.2 q h
      · exact hA' _ (hL q h)⟩
  obtain ⟨t2, a1, b1⟩ := k.2 p l e R s m args below meth c T'.heap (locs ++ L) cells slots mc ms ls A D hC hl (by rw [e1]; exact hR.M hc.1 hrep (by omega) hk) hS' (fun q hq => hA q ((lle_M hc.1).2.2.2 q hq)) h1 h2 h3 h4 T' rfl X'
  exact ⟨t2, go t2 a1, b1⟩
theorem J_Lslen {M : Option MS} {b L : Nat} {xs : Nat → Int32} (hd : decode cc pc = .ok (.arraylength, 1)) (k : J LX y cc nL ret fr lo (pc + 1) lv (.int (nI L) :: rest) (S, M, b, L, xs) r S') : J LX y cc nL ret fr lo pc lv (.ref b :: rest) (S, M, b, L, xs) r S' := by
  refine ⟨k.1, fun p l e R s m args below meth c H locs cells slots mc ms ls A D hC hl hR hS hA h1 h2 h3 h4 => ?_⟩
  have KK := k.2 p l e R s m args below meth c H locs cells slots mc ms ls A D hC hl hR hS hA h1 h2 h3 h4
  obtain ⟨hx, hb, hml, hown, hts, hrt, hlk2, hnm, hK, hf1, hf2⟩ := id hC
  obtain ⟨-, -, -, scr, g1, g2, g3, g4, g5⟩ := id hR
  have g4 : scr.slots.size = L := g4
  have harr : s.isArrayOf scr .int := by
    have h := hK.2.2.2.2.2 0 (fun _ => .null)
    obtain ⟨-, kk, q1, q2⟩ := h
    exact ⟨g3.2, kk, (by rw [g2]; exact q1), q2⟩
  exact W.alen (n := nI L) hx hb g1 harr (by rw [g4] <;> rfl) rfl rfl hd KK
theorem J_Lsld {M : Option MS} {b L : Nat} {xs : Nat → Int32} {j : Int32} (hd : decode cc pc = .ok (.iaload, 1)) (hj : inB j L = true) (k : J LX y cc nL ret fr lo (pc + 1) lv (.int (xs j.toNatClampNeg) :: rest) (S, M, b, L, xs) r S') : J LX y cc nL ret fr lo pc lv (.int j :: .ref b :: rest) (S, M, b, L, xs) r S' := by
  refine ⟨k.1, fun p l e R s m args below meth c H locs cells slots mc ms ls A D hC hl hR hS hA h1 h2 h3 h4 => ?_⟩
  have KK := k.2 p l e R s m args below meth c H locs cells slots mc ms ls A D hC hl hR hS hA h1 h2 h3 h4
  obtain ⟨hx, hb, hml, hown, hts, hrt, hlk2, hnm, hK, hf1, hf2⟩ := id hC
  obtain ⟨-, -, -, scr, g1, g2, g3, g4, g5⟩ := id hR
  have g4 : scr.slots.size = L := g4
  have harr : s.isArrayOf scr .int := by
    have h := hK.2.2.2.2.2 0 (fun _ => .null)
    obtain ⟨-, kk, q1, q2⟩ := h
    exact ⟨g3.2, kk, (by rw [g2]; exact q1), q2⟩
  exact W.iald hx hb g1 harr g3.1 (by rw [g4]; exact inB_of hj) (g5 _ (inB_lt hj)) rfl rfl hd KK
theorem J_Lnew {ci : Nat} {M : Option MS} {C : String} {T : u_T} (hd : decode cc pc = .ok (.new i, 3)) (hcl : jCl ci C T) (hci : ci < 7) (hok : ∀ k, k < cN ci → okT (cT ci k) = true) (hw : Cond.classLink y.cls i C ∈ tblG ∧ Cond.instantiable C (cN ci) ∈ tblG ∧ Cond.initialized C ∈ tblG) (kk : J LX y cc nL ret fr lo (pc + 3) lv (.ref (mNx S) :: st) (mNew S (ci + 1) 0 (cN ci), M, z) r S') : J LX y cc nL ret fr lo pc lv st (S, M, z) r S' := by
  refine ⟨(lle_C (mNew_le S (ci + 1) 0 (cN ci))).tr kk.1, fun p l e R s m args below meth c H locs cells slots mc ms ls A D hC hl hR hS hA h1 h2 h3 h4 => ?_⟩
  obtain ⟨hx, hb, hml, hown, hts, hrt, hlocks, hnm, hK, hf1, hf2⟩ := id hC
  have hR : lRep D (S, M, z) H := hR
  have hKn := hK.1.1 ci _ hcl.1
  have l1 : mNx S + 1 ≤ mNx S'.1 := kk.1.1
  have l2 : mSl S + cN ci ≤ mSl S'.1 := kk.1.2.1
  have h1' : cells + mNx S'.1 ≤ mc + mNx S := h1
  have h2' : slots + mSl S'.1 ≤ ms + mSl S := h2
  have hsz : H.size = mNx S := hR.1.1
  refine W.newcK hx hb hown (hts _ hw.1) (hts _ hw.2.1) (hts _ hw.2.2) rfl hd (by omega) (by omega) hKn.2.1 hsz fun H1 kC hkC e1 z1 o1 => ?_
  have hrep : mRep D (mNew S (ci + 1) 0 (cN ci)) H1 := by
    refine mRep.new hR.1 rfl rfl (fun b hb => by rw [mKd_new, if_neg hb]) (fun b hb => by rw [mLn_new, if_neg hb]) (fun b hb => mNew_other S _ _ _ hb) (by rw [z1, hsz]) (fun q hq => o1 q (by rw [← hsz]; exact hq)) ?_
    rw [mKd_new, if_pos rfl]
    unfold repAt
    rw [if_neg (by omega), if_pos (by omega)]
    exact (u_born (cT ci) hts hcl.2.1 hKn hkC e1 hcl.2.2.1).to (fun k hk => (okT_new (hok k hk)).symm)
  refine kk.2 p l e R s m args below meth c H1 locs (cells + 1) (slots + cN ci) mc ms ls A D hC hl (hR.C (mNew_le _ _ _ _) hrep (fun q hq _ => o1 q (by rw [← hsz]; exact hq))) ⟨by rw [z1, ← hsz]; exact Nat.le_succ_of_le hS.1, fun q q1 q2 => by rw [o1 q (by rw [← hsz]; exact Nat.lt_of_lt_of_le q1 hS.1)]; exact hS.2.1 q q1 q2, hS.2.2⟩ (fun q hq => hA q ((lle_C (mNew_le _ _ _ _)).2.2.2 q hq)) ?_ ?_ h3 h4
  · show cells + 1 + mNx S'.1 ≤ mc + (mNx S + 1); omega
  · show slots + cN ci + mSl S'.1 ≤ ms + (mSl S + cN ci); omega
/-- the reference's cells leave the class's world -/
def mDrop (S : Mem) (a : Nat) : Mem := (fun b => if a ≤ b ∧ b < a + 24 then 0 else S.1 b, S.2)
theorem mKd_drop (S : Mem) (a b : Nat) : mKd (mDrop S a) b = if a ≤ b ∧ b < a + 24 then 0 else mKd S b := by
  unfold mKd mDrop mNx
  dsimp only
  split <;> split <;> rfl
/-- what the class's world says of the reference that was just made -/
def mIsN (S : Mem) (M : MS) : Prop := mKd S M.1 = 7 ∧ (∀ k, k < 45 → fv 6 S M.1 k = nfv M k) ∧ ∀ k, mOff k ≠ 0 → mKd S (M.1 + mOff k) = 8 + mZ k ∧ mLn S (M.1 + mOff k) = mLen k ∧ ∀ j, avT S (M.1 + mOff k) j (8 + mZ k) = nav M k j
theorem mZ_lt (k : Nat) : mZ k < 6 := by
  unfold mZ
  split <;> decide
theorem J_Lconv {M : MS} (hm : mIsN S M) (hb : ¬ (M.1 ≤ z.1 ∧ z.1 < M.1 + 24)) (hw14 : ∀ q, nFree M q → mKd S q ≠ 0 ∧ mKd S q ≠ 14) (k : J LX y cc nL ret fr lo pc lv st (mDrop S M.1, some M, z) r S') : J LX y cc nL ret fr lo pc lv st (S, none, z) r S' := by
  have hle : jle LX (S, none, z) (mDrop S M.1, some M, z) := ⟨Nat.le_refl _, Nat.le_refl _, fun _ _ => ⟨rfl, rfl⟩, fun q hq => by
    have hq : mFree (mDrop S M.1) q ∨ ∃ N, some M = some N ∧ nFree N q := hq
    show mFree S q ∨ _
    rcases hq with h1 | ⟨N, e, h1⟩
    · rcases h1 with h1 | h1
      · rw [mKd_drop] at h1
        split at h1
        · exact absurd rfl h1.1
        · exact Or.inl (Or.inl h1)
      · exact Or.inl (Or.inr h1)
    · cases e
      exact Or.inl (Or.inl (hw14 q h1))⟩
  refine ⟨hle.tr k.1, fun p l e R s m args below meth c H locs cells slots mc ms ls A D hC hl hR hS hA h1 h2 h3 h4 => ?_⟩
  have hR : lRep D (S, none, z) H := hR
  obtain ⟨r1, -, r3, r4⟩ := hR
  have r3 : mKd S z.1 = 0 ∧ z.1 < mNx S := r3
  have hlt : ∀ q, nFree M q → q < mNx S := fun q hq => mKd_lt (hw14 q hq).1
  refine k.2 p l e R s m args below meth c H locs cells slots mc ms ls A D hC hl ⟨⟨r1.1, fun a => ?_, r1.2.2⟩, fun N hN => ?_, ⟨?_, r3.2⟩, r4.kept rfl rfl⟩ hS (fun q hq => hA q (hle.2.2.2 q hq)) h1 h2 h3 h4
  · show repAt D (mDrop S M.1) H a (mKd (mDrop S M.1) a)
    rw [mKd_drop]
    split
    · unfold repAt; rw [if_pos rfl]; trivial
    · exact repAt_same (r1.2.1 a) rfl rfl ⟨rfl, rfl, rfl⟩
  · cases hN
    refine ⟨⟨(repObj r1 hm.1 (by decide)).to (fun j hj => hm.2.1 j hj), fun k hk => ?_⟩, fun q hq => ⟨?_, hlt q hq, fun e => hb (e ▸ hq)⟩⟩
    · obtain ⟨g1, g2, g3⟩ := hm.2.2 k hk
      rw [repArr r1 g1 (mZ_lt k), g2]
      congr 2
      funext j
      exact g3 j
    · show mKd (mDrop S M.1) q = 0
      rw [mKd_drop, if_pos (show M.1 ≤ q ∧ q < M.1 + 24 from hq)]
  · show mKd (mDrop S M.1) z.1 = 0
    rw [mKd_drop, if_neg hb]
    exact r3.1
end LCalls
