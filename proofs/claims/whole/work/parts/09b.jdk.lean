/-! the JDK's own: a longer row of ints, bits of floats and doubles -/
def copyOK (S : Mem) (a : Nat) (n : Int32) : Bool := decide (¬ n < 0 ∧ ¬ n = nI (mLn S a) ∧ mLn S a ≤ n.toNatClampNeg ∧ n.toNatClampNeg ≤ 100000)
def sn32 (b : Int32) : Bool := decide (vn_sni2f b = false)
theorem sn32_of {b : Int32} (h : sn32 b = true) : vn_sni2f b = false := of_decide_eq_true h
def sn64 (b : Int64) : Bool := decide (vn_snl2d b = false)
theorem sn64_of {b : Int64} (h : sn64 b = true) : vn_snl2d b = false := of_decide_eq_true h
def vfB32 (r : UInt32) : Bool := decide (r &&& 0x7fffffff ≤ 0x7f800000)
theorem vfB32_of {r : UInt32} (h : vfB32 r = true) : vf_n32 r := by
  show r &&& 0x7fffffff ≤ 0x7f800000
  exact of_decide_eq_true h
def vfB64 (r : UInt64) : Bool := decide (r &&& 0x7fffffffffffffff ≤ 0x7ff0000000000000)
theorem vfB64_of {r : UInt64} (h : vfB64 r = true) : vf_n64 r := by
  show r &&& 0x7fffffffffffffff ≤ 0x7ff0000000000000
  exact of_decide_eq_true h
section JBits
variable {σ : Type} {X : RT σ} {y : MethodName} {cc : ByteArray} {nL : Nat} {ret : Option FieldType} {fr lo : Nat} {pc : Nat} {lv : List (Nat × Value)} {rest : List Value} {S S' : σ} {r : Option Value} {i : Nat}
theorem J_i2f {b : Int32} (hd : decode cc pc = .ok (.invokestatic i, 3)) (hw : Cond.methodLink y.cls i ⟨"java/lang/Float", "intBitsToFloat", "(I)F"⟩ ∈ tblG ∧ Cond.native ⟨"java/lang/Float", "intBitsToFloat", "(I)F"⟩ ∈ tblG ∧ Cond.static ⟨"java/lang/Float", "intBitsToFloat", "(I)F"⟩ ∈ tblG ∧ Cond.initialized "java/lang/Float" ∈ tblG) (hv : vn_sni2f b = false) (hfr : 1 ≤ fr) (hlo : 24 ≤ lo) (hW : (rest.map fun v => v.category).sum ≤ 8) (k : J X y cc nL ret fr lo (pc + 3) lv (.float b.toUInt32 :: rest) S r S') : J X y cc nL ret fr lo pc lv (.int b :: rest) S r S' :=
  J_go (fun p l e R s m args below meth c H locs cells slots Q ls D hC hl kk => by
    obtain ⟨hx, hb, hml, hown, hts, hrt, hlk2, hnm, hK, hf1, hf2⟩ := id hC
    exact vn_i2f hx hb (hml.trans hl.1.symm) hown (hts _ hw.1) (hts _ hw.2.1) (hts _ hw.2.2.1) (hts _ hw.2.2.2) hv (by omega) (by omega) hd (kk ls hl)) k
theorem J_f2i {b : UInt32} (hd : decode cc pc = .ok (.invokestatic i, 3)) (hw : Cond.methodLink y.cls i ⟨"java/lang/Float", "floatToRawIntBits", "(F)I"⟩ ∈ tblG ∧ Cond.native ⟨"java/lang/Float", "floatToRawIntBits", "(F)I"⟩ ∈ tblG ∧ Cond.static ⟨"java/lang/Float", "floatToRawIntBits", "(F)I"⟩ ∈ tblG ∧ Cond.initialized "java/lang/Float" ∈ tblG) (hfr : 1 ≤ fr) (hlo : 24 ≤ lo) (hW : (rest.map fun v => v.category).sum ≤ 8) (k : J X y cc nL ret fr lo (pc + 3) lv (.int b.toInt32 :: rest) S r S') : J X y cc nL ret fr lo pc lv (.float b :: rest) S r S' :=
  J_go (fun p l e R s m args below meth c H locs cells slots Q ls D hC hl kk => by
    obtain ⟨hx, hb, hml, hown, hts, hrt, hlk2, hnm, hK, hf1, hf2⟩ := id hC
    exact vn_f2i hx hb (hml.trans hl.1.symm) hown (hts _ hw.1) (hts _ hw.2.1) (hts _ hw.2.2.1) (hts _ hw.2.2.2) (by omega) (by omega) hd (kk ls hl)) k
theorem J_l2d {b : Int64} (hd : decode cc pc = .ok (.invokestatic i, 3)) (hw : Cond.methodLink y.cls i ⟨"java/lang/Double", "longBitsToDouble", "(J)D"⟩ ∈ tblG ∧ Cond.native ⟨"java/lang/Double", "longBitsToDouble", "(J)D"⟩ ∈ tblG ∧ Cond.static ⟨"java/lang/Double", "longBitsToDouble", "(J)D"⟩ ∈ tblG ∧ Cond.initialized "java/lang/Double" ∈ tblG) (hv : vn_snl2d b = false) (hfr : 1 ≤ fr) (hlo : 24 ≤ lo) (hW : (rest.map fun v => v.category).sum ≤ 8) (k : J X y cc nL ret fr lo (pc + 3) lv (.double b.toUInt64 :: rest) S r S') : J X y cc nL ret fr lo pc lv (.long b :: rest) S r S' :=
  J_go (fun p l e R s m args below meth c H locs cells slots Q ls D hC hl kk => by
    obtain ⟨hx, hb, hml, hown, hts, hrt, hlk2, hnm, hK, hf1, hf2⟩ := id hC
    exact vn_l2d hx hb (hml.trans hl.1.symm) hown (hts _ hw.1) (hts _ hw.2.1) (hts _ hw.2.2.1) (hts _ hw.2.2.2) hv (by omega) (by omega) hd (kk ls hl)) k
theorem J_d2l_ {b : UInt64} (hd : decode cc pc = .ok (.invokestatic i, 3)) (hw : Cond.methodLink y.cls i ⟨"java/lang/Double", "doubleToRawLongBits", "(D)J"⟩ ∈ tblG ∧ Cond.native ⟨"java/lang/Double", "doubleToRawLongBits", "(D)J"⟩ ∈ tblG ∧ Cond.static ⟨"java/lang/Double", "doubleToRawLongBits", "(D)J"⟩ ∈ tblG ∧ Cond.initialized "java/lang/Double" ∈ tblG) (hfr : 1 ≤ fr) (hlo : 24 ≤ lo) (hW : (rest.map fun v => v.category).sum ≤ 8) (k : J X y cc nL ret fr lo (pc + 3) lv (.long b.toInt64 :: rest) S r S') : J X y cc nL ret fr lo pc lv (.double b :: rest) S r S' :=
  J_go (fun p l e R s m args below meth c H locs cells slots Q ls D hC hl kk => by
    obtain ⟨hx, hb, hml, hown, hts, hrt, hlk2, hnm, hK, hf1, hf2⟩ := id hC
    exact vn_d2l hx hb (hml.trans hl.1.symm) hown (hts _ hw.1) (hts _ hw.2.1) (hts _ hw.2.2.1) (hts _ hw.2.2.2) (by omega) (by omega) hd (kk ls hl)) k
end JBits
theorem gcp1 : Cond.methodLink RJ7 304 Lib.Math.min.name ∈ lw_tbl ∧ Cond.static Lib.Math.min.name ∈ lw_tbl ∧ Cond.initialized "java/lang/Math" ∈ lw_tbl ∧ Cond.code Lib.Math.min.name Lib.Math.min.code 2 (some .int) ∈ lw_tbl := ⟨by decide +kernel, by decide +kernel, by decide +kernel, by decide +kernel⟩
theorem gcp2 : Cond.methodLink RJ7 150 arraycopyName ∈ lw_tbl ∧ Cond.native arraycopyName ∈ lw_tbl ∧ Cond.static arraycopyName ∈ lw_tbl ∧ Cond.initialized "java/lang/System" ∈ lw_tbl ∧ Cond.arrayClass .int ∈ lw_tbl := ⟨by decide +kernel, by decide +kernel, by decide +kernel, by decide +kernel, by decide +kernel⟩
theorem nI_size (n : Int32) (h : ¬ n < 0) : nI n.toNatClampNeg = n := by
  apply Int32.toInt_inj.mp
  have h0 : (0 : Int) ≤ n.toInt := by
    have := Int32.not_lt.mp h
    simpa using Int32.le_iff_toInt_le.mp this
  have h1 : n.toNatClampNeg = n.toInt.toNat := rfl
  have h2 := Int32.toInt_lt n
  rw [nI_toInt (by rw [h1]; omega), h1]
  omega
set_option maxRecDepth 100000 in
set_option maxHeartbeats 4000000 in
theorem t_copyOf {S : Mem} {a : Nat} {n : Int32} (hk : mKd S a = 8) (g : copyOK S a n = true) : CT MX yJ7_copyOf_59c91 cJ7_copyOf_59c91 3 (some (.array .int)) 1 60 [.ref a, .int n] S (some (.ref (mNx S))) (mCopy S a n.toNatClampNeg) := by
  obtain ⟨n0, n1, n2, n3⟩ := of_decide_eq_true g
  refine ⟨mCopy_le _ _ _, fun l D => ?_⟩
  have q1 : MX.2.2.1 (mCopy S a n.toNatClampNeg) - MX.2.2.1 S = 1 := by show mNx S + 1 - mNx S = 1; omega
  have q2 : MX.2.2.2.1 (mCopy S a n.toNatClampNeg) - MX.2.2.2.1 S = n.toNatClampNeg := by show mSl S + n.toNatClampNeg - mSl S = _; omega
  rw [q1, q2]
  refine Met.ofW (cc := cJ7_copyOf_59c91) (maxL := 3) (ret := some (.array .int)) (by decide) rfl ?_
  intro p e s m args below meth c s₁ B hml hv
  obtain ⟨rfl, hR, hK⟩ := hv
  have hR : mRep D S s.heap := hR
  have hx := B.exec
  have hb := B.bytes
  have hr := B.returns
  have hlocks := B.notSynchronized
  have hts0 := atoms_spec (ws := Cond.code yJ7_copyOf_59c91 cJ7_copyOf_59c91 3 (some (.array .int)) :: tblG) B.pre
  have hts : ∀ w ∈ tblG, w.before _ s = true := fun w hw => hts0 w (List.mem_cons_of_mem _ hw)
  have hown : s.vm.findClass RJ7 = some m.cls := findClass_of_methodNamed B.named
  have hl := lv_entry ([.ref a, .int n]) (n := 3) (Nat.le_of_ble_eq_true rfl)
  rw [lg_entry_eq]
  generalize (lg_sl ([.ref a, .int n]) ++ List.replicate (3 - (lg_sl ([.ref a, .int n])).length) Slot.unset).toArray = ls at hl ⊢
  have hl : lv_has ls 3 [(0, .ref a), (1, .int n)] := hl
  have hsz : s.heap.size = mNx S := hR.1
  have hca := repArr (z := 0) hR hk
  have hal : a < mNx S := mKd_lt (by omega)
  have hA0 := (hK.1.2 0 _ rfl)
  refine lv_iload_n hx hb dJ7_copyOf_59c91_0 rfl (lv_at hl 1 rfl) ?_
  refine lv_aload_n hx hb dJ7_copyOf_59c91_1 rfl (lv_at hl 0 rfl) ?_
  refine W.alen (n := nI (mLn S a)) hx hb hca (hA0.1 _ _) (by rw [arrV_size] <;> rfl) rfl rfl dJ7_copyOf_59c91_2 ?_
  refine W.eq (g2 := F0 m 3 ls [.int (nI (mLn S a)), .int n]) rfl ?_
  refine lv_icmp_ne (tgt := 14) hx hb dJ7_copyOf_59c91_3 (by decide) (fun _ => ?_) (fun q => absurd q n1)
  refine lv_iload_n hx hb dJ7_copyOf_59c91_14 rfl (lv_at hl 1 rfl) ?_
  refine va_newaK (atype := .int) hx hb (hts _ (tg gcp2.2.2.2.2 rfl)) rfl dJ7_copyOf_59c91_15 rfl n0 rfl (by show n.toNatClampNeg * 4 ≤ _; omega) (by show 0 + 1 ≤ 1; omega) (by show 0 + _ ≤ n.toNatClampNeg; omega) hsz fun H1 cA e1 z1 o1 hAr hNm => ?_
  have hcA : cA = D.2.1 0 := Option.some.inj (hNm.symm.trans hA0.2)
  subst hcA
  refine W.eq (g2 := F0 m 17 ls [.ref (mNx S)]) rfl ?_
  refine lv_astore_n (lv' := [(2, .ref (mNx S)), (0, .ref a), (1, .int n)]) hx hb dJ7_copyOf_59c91_17 rfl hl (by decide) rfl (fun ls hl => ?_)
  refine lv_aload_n hx hb dJ7_copyOf_59c91_18 rfl (lv_at hl 1 rfl) ?_
  refine lv_iconst (v := 0) hx hb dJ7_copyOf_59c91_19 (by decide) ?_
  refine lv_aload_n hx hb dJ7_copyOf_59c91_20 rfl (lv_at hl 0 rfl) ?_
  refine lv_iconst (v := 0) hx hb dJ7_copyOf_59c91_21 (by decide) ?_
  refine lv_aload_n hx hb dJ7_copyOf_59c91_22 rfl (lv_at hl 1 rfl) ?_
  have hca1 : H1[a]? = some (arrV (D.2.1 0) (mLn S a) (fun j => avT S a j 8)) := by rw [o1 a hal]; exact hca
  refine W.alen (n := nI (mLn S a)) hx hb hca1 (hA0.1 _ _) (by rw [arrV_size] <;> rfl) rfl rfl dJ7_copyOf_59c91_23 ?_
  refine W.eq (g2 := F0 m 24 ls [.int (nI (mLn S a)), .int 0, .ref (mNx S), .int 0, .ref a]) rfl ?_
  refine lv_iload_n hx hb dJ7_copyOf_59c91_24 rfl (lv_at hl 2 rfl) ?_
  refine va_mmin hx hb (hml.trans hl.1.symm) hown (hts _ (tg gcp1.1 rfl)) (hts _ (tg gcp1.2.1 rfl)) (hts _ (tg gcp1.2.2.1 rfl)) (hts _ (tg gcp1.2.2.2 rfl)) (Nat.le_refl 1) (by show _ ≤ 60; exact Nat.le_of_ble_eq_true rfl) (Nat.le_refl 1) (by show 0 + _ ≤ n.toNatClampNeg; omega) dJ7_copyOf_59c91_25 ?_
  have hm : (if n < nI (mLn S a) then n else nI (mLn S a)) = nI (mLn S a) := by
    rw [if_neg]
    intro q
    have q3 : nI n.toNatClampNeg < nI (mLn S a) := by rw [nI_size n n0]; exact q
    have q4 := (nI_ltI (by omega) (by omega)).mp q3
    omega
  rw [hm]
  have hw : nativeFrameWords "java/lang/System" "arraycopy" 5 = 7 := by decide
  have hwp : va_P D.1 vwCl [(a, .inl (D.2.1 0, mLn S a, .inl (mI S a))), (mNx S, .inl (D.2.1 0, n.toNatClampNeg, .inl (fun _ => 0)))] H1 := by
    intro k q hq
    match k, hq with
    | 0, hq => cases hq; exact hca1
    | 1, hq => cases hq; exact e1
    | k + 2, hq => simp at hq
  have hwd : va_D (fun q => q = a ∨ q = mNx S) [(a, .inl (D.2.1 0, mLn S a, .inl (mI S a))), (mNx S, .inl (D.2.1 0, n.toNatClampNeg, .inl (fun _ => 0)))] := by
    refine ⟨fun i j p q hp hq hpq => ?_, fun k q hq => ?_⟩
    · match i, j, hp, hq with
      | 0, 0, _, _ => rfl
      | 1, 1, _, _ => rfl
      | 0, 1, hp, hq => cases hp; cases hq; exact absurd hpq (Nat.ne_of_lt hal)
      | 1, 0, hp, hq => cases hp; cases hq; exact absurd hpq.symm (Nat.ne_of_lt hal)
      | k + 2, _, hp, _ => simp at hp
      | 0, k + 2, _, hq => simp at hq
      | 1, k + 2, _, hq => simp at hq
    · match k, hq with
      | 0, hq => cases hq; exact Or.inl rfl
      | 1, hq => cases hq; exact Or.inr rfl
      | k + 2, hq => simp at hq
  have hlc : (nI (mLn S a)).toNatClampNeg = mLn S a := nI_clamp (by omega)
  refine va_copyi (H0 := H1) hx hb (hml.trans hl.1.symm) hown (hts _ (tg gcp2.1 rfl)) (hts _ (tg gcp2.2.1 rfl)) (hts _ (tg gcp2.2.2.1 rfl)) (hts _ (tg gcp2.2.2.2.1 rfl)) hK.1 hwp hwd va_S.rf 0 1 0 0 (ty := .int) rfl rfl rfl rfl rfl (by decide) (by decide) (nI_pos (by omega)) (by rw [hlc]; show 0 + _ ≤ _; omega) (by rw [hlc]; show 0 + _ ≤ _; omega) (fun _ _ => rfl) (Nat.le_refl 1) (by rw [hw]; show _ ≤ 60; exact Nat.le_of_ble_eq_true rfl) dJ7_copyOf_59c91_28 fun H2 locs hP2 hD2 hS2 => ?_
  refine W_size (fun hz0 => ?_)
  have z2 : H2.size = mNx S + 1 := by
    have a2 := hS2.1
    omega
  refine lv_aload_n hx hb dJ7_copyOf_59c91_31 rfl (lv_at hl 0 rfl) ?_
  have c2 : H2[mNx S]? = some (arrV (D.2.1 0) n.toNatClampNeg (fun j => .int (va_cpy (mI S a) (fun _ => 0) 0 0 (nI (mLn S a)).toNatClampNeg j))) := hP2 1 _ rfl
  have ca2 : H2[a]? = some (arrV (D.2.1 0) (mLn S a) (fun j => .int (mI S a j))) := hP2 0 _ rfl
  have ho : ∀ q, q < s.heap.size → H2[q]? = s.heap[q]? := by
    intro q hq
    by_cases hqa : q = a
    · subst hqa; rw [ca2, hca]; rfl
    · rw [hS2.2.1 q (by omega) (fun z => by rcases z with z | z <;> omega)]
      exact o1 q (by omega)
  have hrep : mRep D (mCopy S a n.toNatClampNeg) H2 := by
    refine mRep.new hR rfl rfl (fun b hb => by rw [mKd_copy, if_neg hb]) (fun b hb => by simp [mLn, mCopy, up1, hb]) (fun b hb => ⟨by funext j; simp [mI, mCopy, up1, hb], by funext j; simp [mL, mCopy, up1, hb], by funext j; simp [mR, mCopy, up1, hb]⟩) (by omega) ho ?_
    rw [mKd_copy, if_pos rfl]
    unfold repAt
    rw [if_neg (by decide), if_neg (by decide), if_neg (by decide), c2]
    have e5 : mLn (mCopy S a n.toNatClampNeg) (mNx S) = n.toNatClampNeg := by simp [mLn, mCopy, up1]
    rw [e5]
    congr 2
    funext j
    rw [hlc]
    simp [avT, mI, mCopy, up1, va_cpy]
  refine W.cs (cells' := 1) (slots' := n.toNatClampNeg) rfl (Nat.zero_add _) ?_
  exact W.aret (Qc := jQ MX D (some (.ref (mNx S))) (mCopy S a n.toNatClampNeg) (mFree S) 1) (free := mFree S) hx hb hr (Or.inr ⟨_, rfl⟩) (Or.inr ⟨_, rfl⟩) (fun t ht hW => ⟨rfl, by rw [ht]; exact hrep, ⟨by rw [ht]; omega, fun q h1 h2 => by rw [ht]; exact ho q h1⟩, by rw [ht]; omega⟩) (fun q hq => by
    rcases hS2.2.2 q hq with z | z
    · rw [z]; exact Or.inl (by show mKd S a ≠ 0 ∧ mKd S a ≠ 14; omega)
    · rw [z]; exact Or.inr (Nat.le_refl _)) dJ7_copyOf_59c91_32 hlocks
