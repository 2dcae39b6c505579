/-! the rules of J that read and write objects and rows -/
theorem inG0 : ∀ w ∈ wsX00, w ∈ lw_tbl ∧ goodWord w = true := by decide +kernel
theorem inG1 : ∀ w ∈ wsX10, w ∈ lw_tbl ∧ goodWord w = true := by decide +kernel
theorem inG2 : ∀ w ∈ wsX20, w ∈ lw_tbl ∧ goodWord w = true := by decide +kernel
theorem inG3 : ∀ w ∈ wsX30, w ∈ lw_tbl ∧ goodWord w = true := by decide +kernel
theorem inG4 : ∀ w ∈ wsX40, w ∈ lw_tbl ∧ goodWord w = true := by decide +kernel
theorem inG5 : ∀ w ∈ wsX50, w ∈ lw_tbl ∧ goodWord w = true := by decide +kernel
theorem inG6 : ∀ w ∈ wsX60, w ∈ lw_tbl ∧ goodWord w = true := by decide +kernel
/-- what the tables say of a kind of object -/
def jCl (ci : Nat) (C : String) (T : u_T) : Prop := vwCl[ci]? = some (C, T, cN ci) ∧ (∀ w ∈ u_ws C T (cN ci), w ∈ tblG) ∧ (∀ k, k < cN ci → parseFieldDescriptor (T k).2.2.1 = some (cT ci k)) ∧ (∀ a, a < cN ci → ∀ b, b < cN ci → a ≠ b → (T a).2.1 ≠ (T b).2.1)
theorem jCl0 : jCl 0 RX0 TX0 := ⟨rfl, fun w h => tg (inG0 w h).1 (inG0 w h).2, tyX0_ok, nmX0⟩
theorem jCl1 : jCl 1 RX1 TX1 := ⟨rfl, fun w h => tg (inG1 w h).1 (inG1 w h).2, tyX1_ok, nmX1⟩
theorem jCl2 : jCl 2 RX2 TX2 := ⟨rfl, fun w h => tg (inG2 w h).1 (inG2 w h).2, tyX2_ok, nmX2⟩
theorem jCl3 : jCl 3 RX3 TX3 := ⟨rfl, fun w h => tg (inG3 w h).1 (inG3 w h).2, tyX3_ok, nmX3⟩
theorem jCl4 : jCl 4 RX4 TX4 := ⟨rfl, fun w h => tg (inG4 w h).1 (inG4 w h).2, tyX4_ok, nmX4⟩
theorem jCl5 : jCl 5 RX5 TX5 := ⟨rfl, fun w h => tg (inG5 w h).1 (inG5 w h).2, tyX5_ok, nmX5⟩
theorem jCl6 : jCl 6 RX6 TX6 := ⟨rfl, fun w h => tg (inG6 w h).1 (inG6 w h).2, tyX6_ok, nmX6⟩
/-- a field's entry in a pool -/
def jFld (own : String) (i ci k : Nat) : Prop := ci < 7 ∧ k < cN ci ∧ ∃ (C : String) (T : u_T), jCl ci C T ∧ (T k).1 = C ∧ (Cond.fieldLink own i C (T k).2.1 (T k).2.2.1 ∈ tblG ∨ ∃ host : String, Cond.fieldLinkNest own i C (T k).2.1 (T k).2.2.1 host ∈ lw_tbl)
/-- .. of a field that isn't final -/
def jFldW (own : String) (i ci k : Nat) : Prop := ci < 7 ∧ k < cN ci ∧ ∃ (C : String) (T : u_T), jCl ci C T ∧ (T k).1 = C ∧ (T k).2.2.2 = false ∧ (Cond.fieldLink own i C (T k).2.1 (T k).2.2.1 ∈ tblG ∨ ∃ host : String, Cond.fieldLinkNest own i C (T k).2.1 (T k).2.2.1 host ∈ lw_tbl)
/-- .. of a final one, in its maker -/
def jFldF (own : String) (i ci k : Nat) : Prop := ci < 7 ∧ k < cN ci ∧ ∃ (C : String) (T : u_T), jCl ci C T ∧ (T k).1 = C ∧ (T k).2.2.2 = true ∧ own = C ∧ Cond.fieldLink own i C (T k).2.1 (T k).2.2.1 ∈ tblG
def inB (i : Int32) (n : Nat) : Bool := decide (¬ (i < 0 ∨ n ≤ i.toNatClampNeg))
theorem inB_of {i : Int32} {n : Nat} (h : inB i n = true) : ¬ (i < 0 ∨ n ≤ i.toNatClampNeg) := of_decide_eq_true h
theorem inB_lt {i : Int32} {n : Nat} (h : inB i n = true) : i.toNatClampNeg < n := Nat.not_le.mp fun q => inB_of h (Or.inr q)
section JHeap
variable {y : MethodName} {cc : ByteArray} {nL : Nat} {ret : Option FieldType} {fr lo : Nat} {pc : Nat} {lv : List (Nat × Value)} {st rest : List Value} {S S' S2 : Mem} {r : Option Value} {a i ci k : Nat}
theorem J_get {v : Value} (hd : decode cc pc = .ok (.getfield i, 3)) (hf : jFld y.cls i ci k) (hk : mKd S a = ci + 1) (hv : fv ci S a k = v) (kk : J MX y cc nL ret fr lo (pc + 3) lv (v :: rest) S r S') : J MX y cc nL ret fr lo pc lv (.ref a :: rest) S r S' := by
  refine ⟨kk.1, fun p l e R s m args below meth c H locs cells slots mc ms ls A D hC hl hR hS hA h1 h2 h3 h4 => ?_⟩
  have KK := kk.2 p l e R s m args below meth c H locs cells slots mc ms ls A D hC hl hR hS hA h1 h2 h3 h4
  obtain ⟨hx, hb, hml, hown, hts, hrt, hlocks, hnm, hK, hf1, hf2⟩ := id hC
  obtain ⟨hci, hkN, C, T, ⟨g1, g2, g3, g4⟩, hC1, hlink⟩ := hf
  obtain ⟨cell, q1, q2, q3, q4⟩ := repObj hR hk hci
  obtain ⟨hSl, hfc, kC, hkC, hkind⟩ := hK.1.1 ci _ g1
  obtain ⟨cf, kf, fi, f, hi, hsl⟩ := hSl k hkN
  have hst := (u_facts hfc hkC (u_lays hts g2 hkN) hi).1
  rw [hC1] at hi
  have hs : cell.slots[f.slot]? = some v := by rw [hsl, q4 k hkN, hv]
  rcases hlink with hl1 | ⟨host, hl1⟩
  · exact W.getf hx hb hown (hts _ hl1) hi hst q1 (by rw [q3]; exact fun h => by cases h) hs rfl rfl hd KK
  · exact va_Wgetf hx hb hown (va_Nw.use rfl (hK.2.1 _ hl1 rfl)) hi hst q1 (by rw [q3]; exact fun h => by cases h) hs rfl rfl hd KK
theorem J_put {v : Value} (hd : decode cc pc = .ok (.putfield i, 3)) (hf : jFldW y.cls i ci k) (hk : mKd S a = ci + 1) (hs : mSame S S2 a) (hfv : ∀ j, fv ci S2 a j = updV (fv ci S a) k v j) (hn : narrow (cT ci k) v = v) (hfit : fits (cT ci k) v = true) (kk : J MX y cc nL ret fr lo (pc + 3) lv rest S2 r S') : J MX y cc nL ret fr lo pc lv (v :: .ref a :: rest) S r S' := by
  refine ⟨hs.le.tr kk.1, fun p l e R s m args below meth c H locs cells slots mc ms ls A D hC hl hR hS hA h1 h2 h3 h4 => ?_⟩
  obtain ⟨hx, hb, hml, hown, hts, hrt, hlocks, hnm, hK, hf1, hf2⟩ := id hC
  obtain ⟨hci, hkN, C, T, ⟨g1, g2, g3, g4⟩, hC1, hfin, hlink⟩ := hf
  have hob := repObj hR hk hci
  obtain ⟨cell, q1, q2, q3, q4⟩ := id hob
  have hap := va_apart (own := C) hts g2 (cT ci) g3 g4 hK.1 g1
  obtain ⟨hSl, hfc, kC, hkC, hkind⟩ := hK.1.1 ci _ g1
  obtain ⟨cf, kf, fi, f, hi, hsl⟩ := hSl k hkN
  have hlay := hts _ (g2 _ (u_in_lay hkN))
  unfold u_lay at hlay
  rw [if_neg (by rw [hfin]; decide)] at hlay
  have hst := (u_facts hfc hkC (u_lays hts g2 hkN) hi).1
  have h6 := u_store hfc hkC hkind hlay hi (g3 k hkN) hn hfit
  rw [hC1] at hi
  have key : ∀ (H' : Heap), H'[a]? = some (cell.setSlot f.slot v) → H'.size = H.size → (∀ q, q ≠ a → H'[q]? = H[q]?) → W p l e R s m args below meth c H' (locs ++ [⟨a, f.slot⟩]) cells slots (MQ below (jQ MX D r S' A mc) args s mc ms A) (F0 m (pc + 3) ls rest) := by
    intro H' e1 e2 e3
    refine kk.2 p l e R s m args below meth c H' (locs ++ [⟨a, f.slot⟩]) cells slots mc ms ls A D hC hl (mRep.put hR hs e2 e3 (by omega) ?_) (hS.put e2 e3 (hA a (Or.inl (by show mKd S a ≠ 0 ∧ mKd S a ≠ 14; omega)))) (fun q hq => hA q (hs.le.2.2.2 q hq)) (by have e : mNx S2 = mNx S := hs.2.1; show _ ≤ mc + mNx S2; rw [e]; exact h1) (by have e : mSl S2 = mSl S := hs.2.2.1; show _ ≤ ms + mSl S2; rw [e]; exact h2) h3 h4
    unfold repAt
    rw [hk, if_neg (by omega), if_pos (by omega)]
    rw [hsl] at e1
    exact t_OB.to (V := updV (fv ci S a) k v) ⟨_, e1, q2, q3, t_set q4 hap hkN v⟩ (fun j _ => (hfv j).symm)
  rcases hlink with hl1 | ⟨host, hl1⟩
  · exact W.putK hx hb (f := f) ⟨hown, hts _ hl1, ⟨_, _, _, hi⟩, hst⟩ (by rw [q2]; exact h6) q1 q3 (by rw [hsl]; exact k2_hasslot (q4 k hkN)) rfl rfl hd key
  · exact va_WputK hx hb (f := f) hown (va_Nw.use rfl (hK.2.1 _ hl1 rfl)) hi hst (by rw [q2]; exact h6) q1 q3 (by rw [hsl]; exact k2_hasslot (q4 k hkN)) rfl rfl hd key
theorem J_putF {v : Value} (hd : decode cc pc = .ok (.putfield i, 3)) (hy : y.name = "<init>") (hf : jFldF y.cls i ci k) (hk : mKd S a = ci + 1) (hs : mSame S S2 a) (hfv : ∀ j, fv ci S2 a j = updV (fv ci S a) k v j) (hn : narrow (cT ci k) v = v) (hfit : fits (cT ci k) v = true) (kk : J MX y cc nL ret fr lo (pc + 3) lv rest S2 r S') : J MX y cc nL ret fr lo pc lv (v :: .ref a :: rest) S r S' := by
  refine ⟨hs.le.tr kk.1, fun p l e R s m args below meth c H locs cells slots mc ms ls A D hC hl hR hS hA h1 h2 h3 h4 => ?_⟩
  obtain ⟨hx, hb, hml, hown, hts, hrt, hlocks, hnm, hK, hf1, hf2⟩ := id hC
  obtain ⟨hci, hkN, C, T, ⟨g1, g2, g3, g4⟩, hC1, hfin, hoc, hlink⟩ := hf
  have hob := repObj hR hk hci
  obtain ⟨cell, q1, q2, q3, q4⟩ := id hob
  have hap := va_apart (own := C) hts g2 (cT ci) g3 g4 hK.1 g1
  obtain ⟨hSl, hfc, kC, hkC, hkind⟩ := hK.1.1 ci _ g1
  obtain ⟨cf, kf, fi, f, hi, hsl⟩ := hSl k hkN
  have hlay := hts _ (g2 _ (u_in_lay hkN))
  unfold u_lay at hlay
  rw [if_pos hfin] at hlay
  have hst := (u_facts hfc hkC (u_lays hts g2 hkN) hi).1
  have hcf : m.cls = cf := by
    obtain ⟨_, _, c', _, _, _, -, -, hf', -, -, -, hown2, -⟩ := Cond.laysFinal_spec hlay
    have e1 : c' = cf := by have := hi.symm.trans hf'; simp at this; exact this.1.symm
    rw [hC1, ← hoc] at hown2
    rw [← e1]; exact Option.some.inj (hown.symm.trans hown2)
  have h6 := u_fits hfc hkC hkind (Or.inr hlay) hi (g3 k hkN) hn hfit
  rw [hC1] at hi
  have key : ∀ (H' : Heap), H'[a]? = some (cell.setSlot f.slot v) → H'.size = H.size → (∀ q, q ≠ a → H'[q]? = H[q]?) → W p l e R s m args below meth c H' (locs ++ [⟨a, f.slot⟩]) cells slots (MQ below (jQ MX D r S' A mc) args s mc ms A) (F0 m (pc + 3) ls rest) := by
    intro H' e1 e2 e3
    refine kk.2 p l e R s m args below meth c H' (locs ++ [⟨a, f.slot⟩]) cells slots mc ms ls A D hC hl (mRep.put hR hs e2 e3 (by omega) ?_) (hS.put e2 e3 (hA a (Or.inl (by show mKd S a ≠ 0 ∧ mKd S a ≠ 14; omega)))) (fun q hq => hA q (hs.le.2.2.2 q hq)) (by have e : mNx S2 = mNx S := hs.2.1; show _ ≤ mc + mNx S2; rw [e]; exact h1) (by have e : mSl S2 = mSl S := hs.2.2.1; show _ ≤ ms + mSl S2; rw [e]; exact h2) h3 h4
    unfold repAt
    rw [hk, if_neg (by omega), if_pos (by omega)]
    rw [hsl] at e1
    exact t_OB.to (V := updV (fv ci S a) k v) ⟨_, e1, q2, q3, t_set q4 hap hkN v⟩ (fun j _ => (hfv j).symm)
  exact W.putFinK hx hb hown (hts _ hlink) hi hst hcf (hnm.trans hy) (by rw [q2]; exact h6) q1 q3 (by rw [hsl]; exact k2_hasslot (q4 k hkN)) rfl rfl hd key
theorem fv_I {x : Int32} {ty : FieldType} (hty : cT ci k = ty) (h : ∀ S : Mem, fvT S a k ty = .int (mI S a k)) (j : Nat) : fv ci (mSI S a k x) a j = updV (fv ci S a) k (.int x) j := by
  by_cases hj : j = k
  · subst hj
    rw [updV_eq]
    unfold fv
    rw [hty, h]
    simp [mI, mSI, up2]
  · rw [updV_ne hj]
    unfold fv
    generalize cT ci j = t
    cases t <;> simp [fvT, mI, mL, mR, mSI, up2, hj]
theorem fv_L {x : Int64} (hty : cT ci k = .long) (j : Nat) : fv ci (mSL S a k x) a j = updV (fv ci S a) k (.long x) j := by
  by_cases hj : j = k
  · subst hj
    rw [updV_eq]
    unfold fv
    rw [hty]
    simp [fvT, mL, mSL, up2]
  · rw [updV_ne hj]
    unfold fv
    generalize cT ci j = t
    cases t <;> simp [fvT, mI, mL, mR, mSL, up2, hj]
theorem fv_R {x : Option Nat} {ty : FieldType} (hty : cT ci k = ty) (h : ∀ S : Mem, fvT S a k ty = va_rf (mR S a k)) (j : Nat) : fv ci (mSR S a k x) a j = updV (fv ci S a) k (va_rf x) j := by
  by_cases hj : j = k
  · subst hj
    rw [updV_eq]
    unfold fv
    rw [hty, h]
    simp [mR, mSR, up2]
  · rw [updV_ne hj]
    unfold fv
    generalize cT ci j = t
    cases t <;> simp [fvT, mI, mL, mR, mSR, up2, hj]
theorem J_putI {x : Int32} (hd : decode cc pc = .ok (.putfield i, 3)) (hf : jFldW y.cls i ci k) (hk : mKd S a = ci + 1) (hty : cT ci k = .int) (kk : J MX y cc nL ret fr lo (pc + 3) lv rest (mSI S a k x) r S') : J MX y cc nL ret fr lo pc lv (.int x :: .ref a :: rest) S r S' :=
  J_put hd hf hk (mSame_I S a k x) (fv_I hty (fun _ => rfl)) (by rw [hty]; rfl) (by rw [hty]; rfl) kk
theorem J_putIF {x : Int32} (hd : decode cc pc = .ok (.putfield i, 3)) (hy : y.name = "<init>") (hf : jFldF y.cls i ci k) (hk : mKd S a = ci + 1) (hty : cT ci k = .int) (kk : J MX y cc nL ret fr lo (pc + 3) lv rest (mSI S a k x) r S') : J MX y cc nL ret fr lo pc lv (.int x :: .ref a :: rest) S r S' :=
  J_putF hd hy hf hk (mSame_I S a k x) (fv_I hty (fun _ => rfl)) (by rw [hty]; rfl) (by rw [hty]; rfl) kk
theorem J_putZ {x : Int32} (hd : decode cc pc = .ok (.putfield i, 3)) (hf : jFldW y.cls i ci k) (hk : mKd S a = ci + 1) (hty : cT ci k = .boolean) (hz : x = 0 ∨ x = 1) (kk : J MX y cc nL ret fr lo (pc + 3) lv rest (mSI S a k x) r S') : J MX y cc nL ret fr lo pc lv (.int x :: .ref a :: rest) S r S' :=
  J_put hd hf hk (mSame_I S a k x) (fv_I hty (fun _ => rfl)) (by rw [hty]; rcases hz with rfl | rfl <;> rfl) (by rw [hty]; rcases hz with rfl | rfl <;> rfl) kk
theorem J_putZF {x : Int32} (hd : decode cc pc = .ok (.putfield i, 3)) (hy : y.name = "<init>") (hf : jFldF y.cls i ci k) (hk : mKd S a = ci + 1) (hty : cT ci k = .boolean) (hz : x = 0 ∨ x = 1) (kk : J MX y cc nL ret fr lo (pc + 3) lv rest (mSI S a k x) r S') : J MX y cc nL ret fr lo pc lv (.int x :: .ref a :: rest) S r S' :=
  J_putF hd hy hf hk (mSame_I S a k x) (fv_I hty (fun _ => rfl)) (by rw [hty]; rcases hz with rfl | rfl <;> rfl) (by rw [hty]; rcases hz with rfl | rfl <;> rfl) kk
theorem J_putL {x : Int64} (hd : decode cc pc = .ok (.putfield i, 3)) (hf : jFldW y.cls i ci k) (hk : mKd S a = ci + 1) (hty : cT ci k = .long) (kk : J MX y cc nL ret fr lo (pc + 3) lv rest (mSL S a k x) r S') : J MX y cc nL ret fr lo pc lv (.long x :: .ref a :: rest) S r S' :=
  J_put hd hf hk (mSame_L S a k x) (fv_L hty) (by rw [hty]; rfl) (by rw [hty]; rfl) kk
theorem J_putR {x : Option Nat} {C : String} (hd : decode cc pc = .ok (.putfield i, 3)) (hf : jFldW y.cls i ci k) (hk : mKd S a = ci + 1) (hty : cT ci k = .object C) (kk : J MX y cc nL ret fr lo (pc + 3) lv rest (mSR S a k x) r S') : J MX y cc nL ret fr lo pc lv (va_rf x :: .ref a :: rest) S r S' :=
  J_put hd hf hk (mSame_R S a k x) (fv_R hty (fun _ => rfl)) (by rw [hty]; cases x <;> rfl) (by rw [hty]; cases x <;> rfl) kk
theorem J_putRF {x : Option Nat} {C : String} (hd : decode cc pc = .ok (.putfield i, 3)) (hy : y.name = "<init>") (hf : jFldF y.cls i ci k) (hk : mKd S a = ci + 1) (hty : cT ci k = .object C) (kk : J MX y cc nL ret fr lo (pc + 3) lv rest (mSR S a k x) r S') : J MX y cc nL ret fr lo pc lv (va_rf x :: .ref a :: rest) S r S' :=
  J_putF hd hy hf hk (mSame_R S a k x) (fv_R hty (fun _ => rfl)) (by rw [hty]; cases x <;> rfl) (by rw [hty]; cases x <;> rfl) kk
theorem J_putA {x : Option Nat} {t : FieldType} (hd : decode cc pc = .ok (.putfield i, 3)) (hf : jFldW y.cls i ci k) (hk : mKd S a = ci + 1) (hty : cT ci k = .array t) (kk : J MX y cc nL ret fr lo (pc + 3) lv rest (mSR S a k x) r S') : J MX y cc nL ret fr lo pc lv (va_rf x :: .ref a :: rest) S r S' :=
  J_put hd hf hk (mSame_R S a k x) (fv_R hty (fun _ => rfl)) (by rw [hty]; cases x <;> rfl) (by rw [hty]; cases x <;> rfl) kk
theorem J_putAF {x : Option Nat} {t : FieldType} (hd : decode cc pc = .ok (.putfield i, 3)) (hy : y.name = "<init>") (hf : jFldF y.cls i ci k) (hk : mKd S a = ci + 1) (hty : cT ci k = .array t) (kk : J MX y cc nL ret fr lo (pc + 3) lv rest (mSR S a k x) r S') : J MX y cc nL ret fr lo pc lv (va_rf x :: .ref a :: rest) S r S' :=
  J_putF hd hy hf hk (mSame_R S a k x) (fv_R hty (fun _ => rfl)) (by rw [hty]; cases x <;> rfl) (by rw [hty]; cases x <;> rfl) kk
end JHeap
