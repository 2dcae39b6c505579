/-! rows, makings, the JDK's own -/
section JArr
variable {y : MethodName} {cc : ByteArray} {nL : Nat} {ret : Option FieldType} {fr lo : Nat} {pc : Nat} {lv : List (Nat × Value)} {st rest : List Value} {S S' S2 : Mem} {r : Option Value} {a i ci k : Nat}
theorem J_iald {j : Int32} (hd : decode cc pc = .ok (.iaload, 1)) (hk : mKd S a = 8) (hj : inB j (mLn S a) = true) (kk : J MX y cc nL ret fr lo (pc + 1) lv (.int (mI S a j.toNatClampNeg) :: rest) S r S') : J MX y cc nL ret fr lo pc lv (.int j :: .ref a :: rest) S r S' := by
  refine ⟨kk.1, fun p l e R s m args below meth c H locs cells slots mc ms ls A D hC hl hR hS hA h1 h2 h3 h4 => ?_⟩
  have KK := kk.2 p l e R s m args below meth c H locs cells slots mc ms ls A D hC hl hR hS hA h1 h2 h3 h4
  obtain ⟨hx, hb, hml, hown, hts, hrt, hlocks, hnm, hK, hf1, hf2⟩ := id hC
  exact W.iald hx hb (repArr (z := 0) hR hk) ((hK.1.2 0 _ rfl).1 _ _) (fun q => by cases q) (by rw [arrV_size]; exact inB_of hj) (by rw [arrV_read _ _ (inB_lt hj)]; rfl) rfl rfl hd KK
/-- the weights: read alone -/
theorem J_wald {j : Int32} (hd : decode cc pc = .ok (.iaload, 1)) (hk : mKd S a = 14) (hj : inB j (mLn S a) = true) (kk : J MX y cc nL ret fr lo (pc + 1) lv (.int (mI S a j.toNatClampNeg) :: rest) S r S') : J MX y cc nL ret fr lo pc lv (.int j :: .ref a :: rest) S r S' := by
  refine ⟨kk.1, fun p l e R s m args below meth c H locs cells slots mc ms ls A D hC hl hR hS hA h1 h2 h3 h4 => ?_⟩
  have KK := kk.2 p l e R s m args below meth c H locs cells slots mc ms ls A D hC hl hR hS hA h1 h2 h3 h4
  obtain ⟨hx, hb, hml, hown, hts, hrt, hlocks, hnm, hK, hf1, hf2⟩ := id hC
  obtain ⟨cell, q1, q2, q3, q4, q5, q6⟩ := repRd hR hk
  have harr : s.isArrayOf cell .int := by
    obtain ⟨-, kk, z1, z2⟩ := hK.2.2.2.2.1 0 (fun _ => .null)
    exact ⟨q4, kk, (by rw [q2]; exact z1), z2⟩
  have hlt := inB_lt hj
  exact W.iald hx hb q1 harr q3 (fun q => inB_of hj (q.elim Or.inl (fun q => by omega))) (q6 _ hlt) rfl rfl hd KK
theorem J_zald {j : Int32} (hd : decode cc pc = .ok (.baload, 1)) (hk : mKd S a = 10) (hj : inB j (mLn S a) = true) (kk : J MX y cc nL ret fr lo (pc + 1) lv (.int (mI S a j.toNatClampNeg) :: rest) S r S') : J MX y cc nL ret fr lo pc lv (.int j :: .ref a :: rest) S r S' := by
  refine ⟨kk.1, fun p l e R s m args below meth c H locs cells slots mc ms ls A D hC hl hR hS hA h1 h2 h3 h4 => ?_⟩
  have KK := kk.2 p l e R s m args below meth c H locs cells slots mc ms ls A D hC hl hR hS hA h1 h2 h3 h4
  obtain ⟨hx, hb, hml, hown, hts, hrt, hlocks, hnm, hK, hf1, hf2⟩ := id hC
  exact W.zald hx hb (repArr (z := 2) hR hk) ((hK.1.2 2 _ rfl).1 _ _) (fun q => by cases q) (by rw [arrV_size]; exact inB_of hj) (by rw [arrV_read _ _ (inB_lt hj)]; rfl) rfl rfl hd KK
theorem J_lald {j : Int32} (hd : decode cc pc = .ok (.laload, 1)) (hk : mKd S a = 9) (hj : inB j (mLn S a) = true) (kk : J MX y cc nL ret fr lo (pc + 1) lv (.long (mL S a j.toNatClampNeg) :: rest) S r S') : J MX y cc nL ret fr lo pc lv (.int j :: .ref a :: rest) S r S' := by
  refine ⟨kk.1, fun p l e R s m args below meth c H locs cells slots mc ms ls A D hC hl hR hS hA h1 h2 h3 h4 => ?_⟩
  have KK := kk.2 p l e R s m args below meth c H locs cells slots mc ms ls A D hC hl hR hS hA h1 h2 h3 h4
  obtain ⟨hx, hb, hml, hown, hts, hrt, hlocks, hnm, hK, hf1, hf2⟩ := id hC
  exact W.lald hx hb (repArr (z := 1) hR hk) ((hK.1.2 1 _ rfl).1 _ _) (fun q => by cases q) (by rw [arrV_size]; exact inB_of hj) (by rw [arrV_read _ _ (inB_lt hj)]; rfl) rfl rfl hd KK
/-- rows of references: z is 3 (frames), 4 (rods), 5 (exercises) -/
theorem J_aald {j : Int32} {z : Nat} {C : String} (hd : decode cc pc = .ok (.aaload, 1)) (hz : ∀ D : JD, (jTys D)[z]? = some (D.2.1 z, .object C)) (hv : ∀ (S : Mem) (q : Nat), avT S a q (8 + z) = va_rf (mR S a q)) (hk : mKd S a = 8 + z) (hj : inB j (mLn S a) = true) (kk : J MX y cc nL ret fr lo (pc + 1) lv (va_rf (mR S a j.toNatClampNeg) :: rest) S r S') (hz6 : z < 6 := by decide) : J MX y cc nL ret fr lo pc lv (.int j :: .ref a :: rest) S r S' := by
  refine ⟨kk.1, fun p l e R s m args below meth c H locs cells slots mc ms ls A D hC hl hR hS hA h1 h2 h3 h4 => ?_⟩
  have KK := kk.2 p l e R s m args below meth c H locs cells slots mc ms ls A D hC hl hR hS hA h1 h2 h3 h4
  obtain ⟨hx, hb, hml, hown, hts, hrt, hlocks, hnm, hK, hf1, hf2⟩ := id hC
  exact W.aald hx hb (repArr (z := z) hR hk hz6) ((hK.1.2 z _ (hz D)).1 _ _) rfl (fun q => by cases q) (by rw [arrV_size]; exact inB_of hj) (by rw [arrV_read _ _ (inB_lt hj), hv]) rfl rfl hd KK
theorem J_alen {z : Nat} {ty : FieldType} (hd : decode cc pc = .ok (.arraylength, 1)) (hz : ∀ D : JD, (jTys D)[z]? = some (D.2.1 z, ty)) (hk : mKd S a = 8 + z) (kk : J MX y cc nL ret fr lo (pc + 1) lv (.int (nI (mLn S a)) :: rest) S r S') (hz6 : z < 6 := by decide) : J MX y cc nL ret fr lo pc lv (.ref a :: rest) S r S' := by
  refine ⟨kk.1, fun p l e R s m args below meth c H locs cells slots mc ms ls A D hC hl hR hS hA h1 h2 h3 h4 => ?_⟩
  have KK := kk.2 p l e R s m args below meth c H locs cells slots mc ms ls A D hC hl hR hS hA h1 h2 h3 h4
  obtain ⟨hx, hb, hml, hown, hts, hrt, hlocks, hnm, hK, hf1, hf2⟩ := id hC
  exact W.alen (n := nI (mLn S a)) hx hb (repArr (z := z) hR hk hz6) ((hK.1.2 z _ (hz D)).1 _ _) (by rw [arrV_size] <;> rfl) rfl rfl hd KK
/-- a row's place has changed -/
theorem jArrPut {p : Program} {l : Launch} {e : Env} {R : Room} {s : State} {m : MethodId} {args : Array Value} {below : List Frame} {meth : Method} {c : Code} {H : Heap} {locs : List Loc} {cells slots mc ms : Nat} {ls : Array Slot} {A : Nat → Prop} {D : JD} {z pc' q : Nat} {v : Value}
    (hC : CX y cc nL ret fr lo D p R s m args meth c) (hl : lv_has ls nL lv) (hR : mRep D S H) (hS : va_S A s.heap H locs) (hA : ∀ q, mFree S q → A q) (h1 : cells + mNx S' ≤ mc + mNx S) (h2 : slots + mSl S' ≤ ms + mSl S) (h3 : mc ≤ R.cells) (h4 : ms ≤ R.slots) (hk : mKd S a = 8 + z) (hz6 : z < 6) (hs : mSame S S2 a)
    (hav : ∀ j, avT S2 a j (8 + z) = updV (fun j => avT S a j (8 + z)) q v j) (kk : J MX y cc nL ret fr lo pc' lv rest S2 r S') :
    ∀ (H' : Heap), H'[a]? = some ((arrV (D.2.1 z) (mLn S a) (fun j => avT S a j (8 + z))).setSlot q v) → H'.size = H.size → (∀ q, q ≠ a → H'[q]? = H[q]?) → W p l e R s m args below meth c H' (locs ++ [⟨a, q⟩]) cells slots (MQ below (jQ MX D r S' A mc) args s mc ms A) (F0 m pc' ls rest) := by
  intro H' e1 e2 e3
  refine kk.2 p l e R s m args below meth c H' (locs ++ [⟨a, q⟩]) cells slots mc ms ls A D hC hl (mRep.put hR hs e2 e3 (by omega) ?_) (hS.put e2 e3 (hA a (Or.inl (by show mKd S a ≠ 0 ∧ mKd S a ≠ 14; omega)))) (fun q hq => hA q (hs.le.2.2.2 q hq)) (by have e : mNx S2 = mNx S := hs.2.1; show _ ≤ mc + mNx S2; rw [e]; exact h1) (by have e : mSl S2 = mSl S := hs.2.2.1; show _ ≤ ms + mSl S2; rw [e]; exact h2) h3 h4
  unfold repAt
  rw [hk, if_neg (by omega), if_neg (by omega), if_neg (by omega), e1, arrV_store, show 8 + z - 8 = z by omega]
  have e5 : mLn S2 a = mLn S a := congrFun hs.2.2.2.2.1 a
  rw [e5]
  congr 2
  funext j
  exact (hav j).symm
theorem J_iast {j x : Int32} (hd : decode cc pc = .ok (.iastore, 1)) (hk : mKd S a = 8) (hj : inB j (mLn S a) = true) (kk : J MX y cc nL ret fr lo (pc + 1) lv rest (mSI S a j.toNatClampNeg x) r S') : J MX y cc nL ret fr lo pc lv (.int x :: .int j :: .ref a :: rest) S r S' := by
  refine ⟨(mSame_I S a _ x).le.tr kk.1, fun p l e R s m args below meth c H locs cells slots mc ms ls A D hC hl hR hS hA h1 h2 h3 h4 => ?_⟩
  obtain ⟨hx, hb, hml, hown, hts, hrt, hlocks, hnm, hK, hf1, hf2⟩ := id hC
  refine W.iast hx hb (repArr (z := 0) hR hk) ((hK.1.2 0 _ rfl).1 _ _) (fun q => by cases q) (by rw [arrV_size]; exact inB_of hj) rfl rfl hd (jArrPut (z := 0) hC hl hR hS hA h1 h2 h3 h4 hk (by decide) (mSame_I S a _ x) (fun q => ?_) kk)
  by_cases hq : q = j.toNatClampNeg
  · subst hq; rw [updV_eq]; simp [avT, mI, mSI, up2]
  · rw [updV_ne hq]; simp [avT, mI, mSI, up2, hq]
theorem J_zast {j x : Int32} (hd : decode cc pc = .ok (.bastore, 1)) (hk : mKd S a = 10) (hj : inB j (mLn S a) = true) (hz : x = 0 ∨ x = 1) (kk : J MX y cc nL ret fr lo (pc + 1) lv rest (mSI S a j.toNatClampNeg x) r S') : J MX y cc nL ret fr lo pc lv (.int x :: .int j :: .ref a :: rest) S r S' := by
  refine ⟨(mSame_I S a _ x).le.tr kk.1, fun p l e R s m args below meth c H locs cells slots mc ms ls A D hC hl hR hS hA h1 h2 h3 h4 => ?_⟩
  obtain ⟨hx, hb, hml, hown, hts, hrt, hlocks, hnm, hK, hf1, hf2⟩ := id hC
  have hn : narrow .boolean (.int x) = .int x := by rcases hz with rfl | rfl <;> rfl
  refine W.zast hx hb (repArr (z := 2) hR hk) ((hK.1.2 2 _ rfl).1 _ _) (fun q => by cases q) (by rw [arrV_size]; exact inB_of hj) rfl rfl hd ?_
  rw [hn]
  refine jArrPut (z := 2) hC hl hR hS hA h1 h2 h3 h4 hk (by decide) (mSame_I S a _ x) (fun q => ?_) kk
  by_cases hq : q = j.toNatClampNeg
  · subst hq; rw [updV_eq]; simp [avT, mI, mSI, up2]
  · rw [updV_ne hq]; simp [avT, mI, mSI, up2, hq]
theorem J_last {j : Int32} {x : Int64} (hd : decode cc pc = .ok (.lastore, 1)) (hk : mKd S a = 9) (hj : inB j (mLn S a) = true) (kk : J MX y cc nL ret fr lo (pc + 1) lv rest (mSL S a j.toNatClampNeg x) r S') : J MX y cc nL ret fr lo pc lv (.long x :: .int j :: .ref a :: rest) S r S' := by
  refine ⟨(mSame_L S a _ x).le.tr kk.1, fun p l e R s m args below meth c H locs cells slots mc ms ls A D hC hl hR hS hA h1 h2 h3 h4 => ?_⟩
  obtain ⟨hx, hb, hml, hown, hts, hrt, hlocks, hnm, hK, hf1, hf2⟩ := id hC
  refine W.last hx hb (repArr (z := 1) hR hk) ((hK.1.2 1 _ rfl).1 _ _) (fun q => by cases q) (by rw [arrV_size]; exact inB_of hj) rfl rfl hd (jArrPut (z := 1) hC hl hR hS hA h1 h2 h3 h4 hk (by decide) (mSame_L S a _ x) (fun q => ?_) kk)
  by_cases hq : q = j.toNatClampNeg
  · subst hq; rw [updV_eq]; simp [avT, mL, mSL, up2]
  · rw [updV_ne hq]; simp [avT, mL, mSL, up2, hq]
theorem J_aast {j : Int32} {z v : Nat} {C : String} {T : u_T} (hd : decode cc pc = .ok (.aastore, 1)) (hz : ∀ D : JD, (jTys D)[z]? = some (D.2.1 z, .object C)) (hv : ∀ (S : Mem) (q : Nat), avT S a q (8 + z) = va_rf (mR S a q)) (hcl : jCl ci C T) (hci : ci < 7) (hz6 : z < 6) (hkv : mKd S v = ci + 1) (hk : mKd S a = 8 + z) (hj : inB j (mLn S a) = true) (kk : J MX y cc nL ret fr lo (pc + 1) lv rest (mSR S a j.toNatClampNeg (some v)) r S') : J MX y cc nL ret fr lo pc lv (.ref v :: .int j :: .ref a :: rest) S r S' := by
  refine ⟨(mSame_R S a _ (some v)).le.tr kk.1, fun p l e R s m args below meth c H locs cells slots mc ms ls A D hC hl hR hS hA h1 h2 h3 h4 => ?_⟩
  obtain ⟨hx, hb, hml, hown, hts, hrt, hlocks, hnm, hK, hf1, hf2⟩ := id hC
  obtain ⟨cellV, g1, g2, g3, -⟩ := repObj hR hkv hci
  have hcls := (hK.1.1 ci _ hcl.1).2
  obtain ⟨kA, comp, k1, k2, k3, -⟩ := (hK.1.2 z _ (hz D)).2
  have hcomp : comp = D.1.1 ci := Option.some.inj (k3.symm.trans hcls.1)
  subst hcomp
  obtain ⟨kC, hkC, -⟩ := hcls.2
  refine W.aast hx hb (repArr (z := z) hR hk hz6) (fun q h => by cases h) (fun h => by cases h) k1 k2 rfl hkC ⟨fun q => inB_of hj (Or.inl q), by rw [arrV_size]; exact inB_lt hj⟩ g1 (fun q h => by rw [g3] at h; cases h) (by rw [g2]; exact hkC) (by rw [g2]; exact va_assign hcls) rfl rfl hd (jArrPut (z := z) hC hl hR hS hA h1 h2 h3 h4 hk hz6 (mSame_R S a _ (some v)) (fun q => ?_) kk)
  rw [hv]
  by_cases hq : q = j.toNatClampNeg
  · subst hq; rw [updV_eq]; simp [mR, mSR, up2, va_rf]
  · rw [updV_ne hq, hv]; simp [mR, mSR, up2, hq]
/-- types that objects of ours have -/
def okT : FieldType → Bool
  | .int => true | .boolean => true | .long => true | .object _ => true | .array _ => true | _ => false
theorem okT_new {S : Mem} {kd ln sl k : Nat} {ty : FieldType} (h : okT ty = true) : fvT (mNew S kd ln sl) (mNx S) k ty = defaultValue ty := by
  cases ty <;> first | (simp [okT] at h; done) | (simp [fvT, mI, mL, mR, mNew, up1, defaultValue, va_rf]; done)
theorem mNew_other (S : Mem) (kd ln sl : Nat) {b : Nat} (hb : b ≠ mNx S) : (mI (mNew S kd ln sl) b = mI S b ∧ mL (mNew S kd ln sl) b = mL S b ∧ mR (mNew S kd ln sl) b = mR S b) := ⟨by funext j; simp [mI, mNew, up1, hb], by funext j; simp [mL, mNew, up1, hb], by funext j; simp [mR, mNew, up1, hb]⟩
theorem mLn_new (S : Mem) (kd ln sl b : Nat) : mLn (mNew S kd ln sl) b = if b = mNx S then ln else mLn S b := by simp [mLn, mNew, up1]
/-- behind a making: the state goes on -/
theorem jNewGo {p : Program} {l : Launch} {e : Env} {R : Room} {s : State} {m : MethodId} {args : Array Value} {below : List Frame} {meth : Method} {c : Code} {H : Heap} {locs : List Loc} {cells slots mc ms : Nat} {ls : Array Slot} {A : Nat → Prop} {D : JD} {pc' kd ln sl : Nat}
    (hC : CX y cc nL ret fr lo D p R s m args meth c) (hl : lv_has ls nL lv) (hR : mRep D S H) (hS : va_S A s.heap H locs) (hA : ∀ q, mFree S q → A q) (h1 : cells + mNx S' ≤ mc + mNx S) (h2 : slots + mSl S' ≤ ms + mSl S) (h3 : mc ≤ R.cells) (h4 : ms ≤ R.slots)
    (kk : J MX y cc nL ret fr lo pc' lv st (mNew S kd ln sl) r S') {H' : Heap} (hz : H'.size = mNx S + 1) (ho : ∀ q, q < mNx S → H'[q]? = H[q]?) (ha : repAt D (mNew S kd ln sl) H' (mNx S) kd) :
    W p l e R s m args below meth c H' locs (cells + 1) (slots + sl) (MQ below (jQ MX D r S' A mc) args s mc ms A) (F0 m pc' ls st) := by
  have hsz : H.size = mNx S := hR.1
  refine kk.2 p l e R s m args below meth c H' locs (cells + 1) (slots + sl) mc ms ls A D hC hl (mRep.new hR rfl rfl (fun b hb => by rw [mKd_new, if_neg hb]) (fun b hb => by rw [mLn_new, if_neg hb]) (fun b hb => mNew_other S kd ln sl hb) (by rw [hz, hsz]) (fun q hq => ho q (by rw [← hsz]; exact hq)) (by rw [mKd_new, if_pos rfl]; exact ha)) ⟨by rw [hz, ← hsz]; exact Nat.le_succ_of_le hS.1, fun q q1 q2 => by rw [ho q (by rw [← hsz]; exact Nat.lt_of_lt_of_le q1 hS.1)]; exact hS.2.1 q q1 q2, hS.2.2⟩ (fun q hq => hA q ((mNew_le S kd ln sl).2.2.2 q hq)) ?_ ?_ h3 h4
  · show cells + 1 + mNx S' ≤ mc + (mNx S + 1); omega
  · show slots + sl + mSl S' ≤ ms + (mSl S + sl); omega
theorem J_new {C : String} {T : u_T} (hd : decode cc pc = .ok (.new i, 3)) (hcl : jCl ci C T) (hci : ci < 7) (hok : ∀ k, k < cN ci → okT (cT ci k) = true) (hw : Cond.classLink y.cls i C ∈ tblG ∧ Cond.instantiable C (cN ci) ∈ tblG ∧ Cond.initialized C ∈ tblG) (kk : J MX y cc nL ret fr lo (pc + 3) lv (.ref (mNx S) :: st) (mNew S (ci + 1) 0 (cN ci)) r S') : J MX y cc nL ret fr lo pc lv st S r S' := by
  refine ⟨(mNew_le S (ci + 1) 0 (cN ci)).tr kk.1, fun p l e R s m args below meth c H locs cells slots mc ms ls A D hC hl hR hS hA h1 h2 h3 h4 => ?_⟩
  obtain ⟨hx, hb, hml, hown, hts, hrt, hlocks, hnm, hK, hf1, hf2⟩ := id hC
  have hKn := hK.1.1 ci _ hcl.1
  have l1 : mNx S + 1 ≤ mNx S' := kk.1.1
  have l2 : mSl S + cN ci ≤ mSl S' := kk.1.2.1
  have h1' : cells + mNx S' ≤ mc + mNx S := h1
  have h2' : slots + mSl S' ≤ ms + mSl S := h2
  refine W.newcK hx hb hown (hts _ hw.1) (hts _ hw.2.1) (hts _ hw.2.2) rfl hd (by omega) (by omega) hKn.2.1 hR.1 fun H1 kC hkC e1 z1 o1 => ?_
  refine jNewGo hC hl hR hS hA h1 h2 h3 h4 kk z1 o1 ?_
  unfold repAt
  rw [if_neg (by omega), if_pos (by omega)]
  refine (u_born (cT ci) hts hcl.2.1 hKn hkC e1 hcl.2.2.1).to (fun k hk => ?_)
  exact (okT_new (hok k hk)).symm
def newOK (n : Int32) : Bool := decide (¬ n < 0 ∧ n.toNatClampNeg ≤ 100000)
theorem J_newa {n : Int32} {z : Nat} {at_ : ArrayType} (hz6 : z < 6) (hd : decode cc pc = .ok (.newarray at_, 2)) (hw : Cond.arrayClass (newarray.typeOf at_) ∈ tblG) (hz : ∀ D : JD, (jTys D)[z]? = some (D.2.1 z, newarray.typeOf at_)) (hb8 : componentBytes (newarray.typeOf at_) ≤ 8) (hra : ∀ (U : State) (cA : ClassId), va_RA U cA (newarray.typeOf at_) → U.vm.findClass ("[" ++ (newarray.typeOf at_).toString) = some cA) (hav : ∀ (S : Mem) (ln sl q : Nat), avT (mNew S (8 + z) ln sl) (mNx S) q (8 + z) = defaultValue (newarray.typeOf at_)) (hn : newOK n = true) (kk : J MX y cc nL ret fr lo (pc + 2) lv (.ref (mNx S) :: st) (mNew S (8 + z) n.toNatClampNeg n.toNatClampNeg) r S') : J MX y cc nL ret fr lo pc lv (.int n :: st) S r S' := by
  refine ⟨(mNew_le S _ _ _).tr kk.1, fun p l e R s m args below meth c H locs cells slots mc ms ls A D hC hl hR hS hA h1 h2 h3 h4 => ?_⟩
  obtain ⟨hx, hb, hml, hown, hts, hrt, hlocks, hnm, hK, hf1, hf2⟩ := id hC
  obtain ⟨n0, n1⟩ := of_decide_eq_true hn
  have l1 : mNx S + 1 ≤ mNx S' := kk.1.1
  have l2 : mSl S + n.toNatClampNeg ≤ mSl S' := kk.1.2.1
  have h1' : cells + mNx S' ≤ mc + mNx S := h1
  have h2' : slots + mSl S' ≤ ms + mSl S := h2
  refine va_newaK hx hb (hts _ hw) rfl hd rfl n0 rfl (by have := Nat.mul_le_mul n1 hb8; omega) (by omega) (by omega) hR.1 fun H1 cA e1 z1 o1 hAr hNm => ?_
  refine jNewGo hC hl hR hS hA h1 h2 h3 h4 kk z1 o1 ?_
  unfold repAt
  rw [if_neg (by omega), if_neg (by omega), if_neg (by omega), e1, show 8 + z - 8 = z by omega]
  have hcA : cA = D.2.1 z := Option.some.inj (hNm.symm.trans (hra s _ (hK.1.2 z _ (hz D)).2))
  subst hcA
  rw [mLn_new, if_pos rfl]
  congr 2
  funext q
  exact (hav S _ _ q).symm
theorem J_anew {n : Int32} {z : Nat} {C : String} (hz6 : z < 6) (hd : decode cc pc = .ok (.anewarray i, 3)) (hw : Cond.classLink y.cls i C ∈ tblG) (hover : ∀ (D : JD) (s : State), KD D s → va_AO C s) (hz : ∀ D : JD, (jTys D)[z]? = some (D.2.1 z, .object C)) (hav : ∀ (S : Mem) (ln sl q : Nat), avT (mNew S (8 + z) ln sl) (mNx S) q (8 + z) = .null) (hn : newOK n = true) (kk : J MX y cc nL ret fr lo (pc + 3) lv (.ref (mNx S) :: st) (mNew S (8 + z) n.toNatClampNeg n.toNatClampNeg) r S') : J MX y cc nL ret fr lo pc lv (.int n :: st) S r S' := by
  refine ⟨(mNew_le S _ _ _).tr kk.1, fun p l e R s m args below meth c H locs cells slots mc ms ls A D hC hl hR hS hA h1 h2 h3 h4 => ?_⟩
  obtain ⟨hx, hb, hml, hown, hts, hrt, hlocks, hnm, hK, hf1, hf2⟩ := id hC
  obtain ⟨n0, n1⟩ := of_decide_eq_true hn
  have l1 : mNx S + 1 ≤ mNx S' := kk.1.1
  have l2 : mSl S + n.toNatClampNeg ≤ mSl S' := kk.1.2.1
  have h1' : cells + mNx S' ≤ mc + mNx S := h1
  have h2' : slots + mSl S' ≤ ms + mSl S := h2
  have hsz : H.size = mNx S := hR.1
  refine W.anew hx hb hown (hts _ hw) (va_AO.use (hover D s hK)) rfl hd rfl n0 (by omega) (by omega) (by omega) fun cA kA comp f1 f2 f3 f4 => ?_
  obtain ⟨kA', comp', k1, k2, k3, k4⟩ := (hK.1.2 z _ (hz D)).2
  have hcA : cA = D.2.1 z := Option.some.inj (f1.symm.trans k4)
  subst hcA
  rw [hsz]
  refine jNewGo hC hl hR hS hA h1 h2 h3 h4 kk (by rw [Array.size_push, hsz]) (fun q hq => by rw [Array.getElem?_push, if_neg (by omega)]) ?_
  unfold repAt
  rw [if_neg (by omega), if_neg (by omega), if_neg (by omega), ← hsz, Array.getElem?_push_size, arrV_new, show 8 + z - 8 = z by omega, hsz, mLn_new, if_pos rfl]
  congr 2
  funext q
  exact (hav S _ _ q).symm
/-- the weights -/
theorem J_gets (hd : decode cc pc = .ok (.getstatic i, 3)) (hw : Cond.fieldLink y.cls i RX0 "WEIGHTS" "[I" ∈ tblG) (kk : J MX y cc nL ret fr lo (pc + 3) lv (.ref (mW S) :: st) S r S') : J MX y cc nL ret fr lo pc lv st S r S' := by
  refine ⟨kk.1, fun p l e R s m args below meth c H locs cells slots mc ms ls A D hC hl hR hS hA h1 h2 h3 h4 => ?_⟩
  have KK := kk.2 p l e R s m args below meth c H locs cells slots mc ms ls A D hC hl hR hS hA h1 h2 h3 h4
  obtain ⟨hx, hb, hml, hown, hts, hrt, hlocks, hnm, hK, hf1, hf2⟩ := id hC
  obtain ⟨-, -, cell, z1, z2, z3⟩ := id hR
  obtain ⟨cf, kf, fi, f, a1, a2, a3, a4, a5⟩ := hK.2.2.2.1
  exact W.gets hx hb hown (hts _ hw) a1 a2 a3 a4 z1 (fun e => by rw [e] at z2; cases z2) (by rw [a5]; exact z3) rfl hd KK
end JArr
section JMath
variable {σ : Type} {X : RT σ} {y : MethodName} {cc : ByteArray} {nL : Nat} {ret : Option FieldType} {fr lo : Nat} {pc : Nat} {lv : List (Nat × Value)} {rest : List Value} {S S' : σ} {r : Option Value} {i : Nat}
theorem J_mmax {x z : Int32} (hd : decode cc pc = .ok (.invokestatic i, 3)) (hw : Cond.methodLink y.cls i Lib.Math.max.name ∈ tblG ∧ Cond.static Lib.Math.max.name ∈ tblG ∧ Cond.initialized "java/lang/Math" ∈ tblG ∧ Cond.code Lib.Math.max.name Lib.Math.max.code 2 (some .int) ∈ tblG) (hfr : 1 ≤ fr) (hlo : 24 ≤ lo) (hW : (rest.map fun v => v.category).sum ≤ 8) (k : J X y cc nL ret fr lo (pc + 3) lv (.int (if x < z then z else x) :: rest) S r S') : J X y cc nL ret fr lo pc lv (.int z :: .int x :: rest) S r S' := by
  refine ⟨k.1, fun p l e R s m args below meth c H locs cells slots mc ms ls A D hC hl hR hS hA h1 h2 h3 h4 => ?_⟩
  obtain ⟨hx, hb, hml, hown, hts, hrt, hlocks, hnm, hK, hf1, hf2⟩ := id hC
  have l1 := k.1.1
  have l2 := k.1.2.1
  exact va_mmax hx hb (hml.trans hl.1.symm) hown (hts _ hw.1) (hts _ hw.2.1) (hts _ hw.2.2.1) (hts _ hw.2.2.2) (by omega) (by omega) (by omega) (by omega) hd (k.2 p l e R s m args below meth c H locs cells slots mc ms ls A D hC hl hR hS hA h1 h2 h3 h4)
theorem J_mmin {x z : Int32} (hd : decode cc pc = .ok (.invokestatic i, 3)) (hw : Cond.methodLink y.cls i Lib.Math.min.name ∈ tblG ∧ Cond.static Lib.Math.min.name ∈ tblG ∧ Cond.initialized "java/lang/Math" ∈ tblG ∧ Cond.code Lib.Math.min.name Lib.Math.min.code 2 (some .int) ∈ tblG) (hfr : 1 ≤ fr) (hlo : 24 ≤ lo) (hW : (rest.map fun v => v.category).sum ≤ 8) (k : J X y cc nL ret fr lo (pc + 3) lv (.int (if z < x then z else x) :: rest) S r S') : J X y cc nL ret fr lo pc lv (.int z :: .int x :: rest) S r S' := by
  refine ⟨k.1, fun p l e R s m args below meth c H locs cells slots mc ms ls A D hC hl hR hS hA h1 h2 h3 h4 => ?_⟩
  obtain ⟨hx, hb, hml, hown, hts, hrt, hlocks, hnm, hK, hf1, hf2⟩ := id hC
  have l1 := k.1.1
  have l2 := k.1.2.1
  exact va_mmin hx hb (hml.trans hl.1.symm) hown (hts _ hw.1) (hts _ hw.2.1) (hts _ hw.2.2.1) (hts _ hw.2.2.2) (by omega) (by omega) (by omega) (by omega) hd (k.2 p l e R s m args below meth c H locs cells slots mc ms ls A D hC hl hR hS hA h1 h2 h3 h4)
theorem J_mminL {x z : Int64} (hd : decode cc pc = .ok (.invokestatic i, 3)) (hw : Cond.methodLink y.cls i Lib.MathLoose.min_long.x ∈ tblG ∧ Cond.static Lib.MathLoose.min_long.x ∈ tblG ∧ Cond.initialized "java/lang/Math" ∈ tblG ∧ Cond.code Lib.MathLoose.min_long.x Lib.MathLoose.min_long.code 4 (some .long) ∈ tblG) (hfr : 1 ≤ fr) (hlo : 24 ≤ lo) (hW : (rest.map fun v => v.category).sum ≤ 8) (k : J X y cc nL ret fr lo (pc + 3) lv (.long (if z < x then z else x) :: rest) S r S') : J X y cc nL ret fr lo pc lv (.long z :: .long x :: rest) S r S' := by
  refine ⟨k.1, fun p l e R s m args below meth c H locs cells slots mc ms ls A D hC hl hR hS hA h1 h2 h3 h4 => ?_⟩
  obtain ⟨hx, hb, hml, hown, hts, hrt, hlocks, hnm, hK, hf1, hf2⟩ := id hC
  have l1 := k.1.1
  have l2 := k.1.2.1
  exact va_mmin_long hx hb (hml.trans hl.1.symm) hown (hts _ hw.1) (hts _ hw.2.1) (hts _ hw.2.2.1) (hts _ hw.2.2.2) (by omega) (by omega) (by omega) (by omega) hd (k.2 p l e R s m args below meth c H locs cells slots mc ms ls A D hC hl hR hS hA h1 h2 h3 h4)
end JMath
