/-! THE STATE OF THE REFERENCE: where it lies, its ints by field, its rows by field, its row of longs -/
abbrev MS : Type := Nat × (Nat → Int32) × (Nat → Nat → Int32) × (Nat → Int64)
def nF (S : MS) (k : Nat) : Int32 := S.2.1 k
def nA (S : MS) (k j : Nat) : Int32 := S.2.2.1 k j
def nP (S : MS) (j : Nat) : Int64 := S.2.2.2 j
def nSF (S : MS) (k : Nat) (v : Int32) : MS := (S.1, up1 S.2.1 k v, S.2.2)
def nSA (S : MS) (k j : Nat) (v : Int32) : MS := (S.1, S.2.1, up2 S.2.2.1 k j v, S.2.2.2)
def nSP (S : MS) (j : Nat) (v : Int64) : MS := (S.1, S.2.1, S.2.2.1, up1 S.2.2.2 j v)
/-- where a field's row lies behind the object; 0: it is none -/
def mOff : Nat → Nat
  | 1 => 1 | 2 => 2 | 3 => 3 | 4 => 4 | 5 => 5 | 6 => 6 | 7 => 7 | 8 => 8 | 9 => 9 | 10 => 10 | 11 => 11 | 17 => 12 | 28 => 13 | 32 => 14 | 33 => 15 | 35 => 16 | 37 => 17 | 38 => 18 | 39 => 19 | 40 => 20 | 41 => 21 | 43 => 22 | 44 => 23 | _ => 0
def mLen : Nat → Nat
  | 8 => 540 | 9 => 540 | 10 => 540 | 11 => 540 | 17 => 60 | 28 => 35000 | 32 => 20 | 33 => 400 | 35 => 1200 | 37 => 200 | 38 => 2400 | 39 => 2400 | 40 => 2400 | 41 => 200 | 43 => 12 | 44 => 4 | _ => 30
def mZ : Nat → Nat
  | 32 => 2 | 33 => 1 | 39 => 2 | _ => 0
def nfv (S : MS) (k : Nat) : Value := if mOff k = 0 then .int (nF S k) else .ref (S.1 + mOff k)
def nav (S : MS) (k j : Nat) : Value := if k = 33 then .long (nP S j) else .int (nA S k j)
theorem mOff_inj : ∀ k, k < 45 → ∀ k2, k2 < 45 → mOff k = mOff k2 → mOff k ≠ 0 → k = k2 := by decide +kernel
theorem mOff_lt : ∀ k, k < 45 → mOff k < 24 := by decide +kernel
theorem mOff_big {k : Nat} (h : mOff k ≠ 0) : k < 45 := by
  unfold mOff at h
  split at h <;> first | omega | exact absurd rfl h
def nRep (D : JD) (S : MS) (H : Heap) : Prop := t_OB S.1 (D.1.1 6) 45 (D.1.2 6) H (nfv S) ∧ ∀ k, mOff k ≠ 0 → H[S.1 + mOff k]? = some (arrV (D.2.1 (mZ k)) (mLen k) (nav S k))
def nFree (S : MS) (q : Nat) : Prop := S.1 ≤ q ∧ q < S.1 + 24
def NX : RT MS := (nRep, nFree, fun _ => 0, fun _ => 0, fun _ _ => 0, fun _ _ => 0)
theorem nle {S S2 : MS} (h : S2.1 = S.1) : jle NX S S2 := ⟨Nat.le_refl _, Nat.le_refl _, fun _ h => absurd h (Nat.not_lt_zero _), fun q hq => by
  have hq : S2.1 ≤ q ∧ q < S2.1 + 24 := hq
  rw [h] at hq
  exact hq⟩
theorem nRecv {S : MS} : jRecv NX S S.1 RX6 := by
  intro D H s hR hK
  obtain ⟨⟨cell, q1, q2, q3, -⟩, -⟩ := hR
  exact ⟨cell, q1, by rw [q3]; rfl, by rw [q2]; exact (hK.1.1 6 _ rfl).2.1⟩
section JModel
variable {y : MethodName} {cc : ByteArray} {nL : Nat} {ret : Option FieldType} {fr lo : Nat} {pc : Nat} {lv : List (Nat × Value)} {st rest : List Value} {S S' S2 : MS} {r : Option Value} {a i k : Nat}
theorem J_ngetG {v : Value} (hd : decode cc pc = .ok (.getfield i, 3)) (hf : jFld y.cls i 6 k) (ha : a = S.1) (hv : nfv S k = v) (kk : J NX y cc nL ret fr lo (pc + 3) lv (v :: rest) S r S') : J NX y cc nL ret fr lo pc lv (.ref a :: rest) S r S' := by
  subst ha
  refine ⟨kk.1, fun p l e R s m args below meth c H locs cells slots mc ms ls A D hC hl hR hS hA h1 h2 h3 h4 => ?_⟩
  have KK := kk.2 p l e R s m args below meth c H locs cells slots mc ms ls A D hC hl hR hS hA h1 h2 h3 h4
  obtain ⟨hx, hb, hml, hown, hts, hrt, hlocks, hnm, hK, hf1, hf2⟩ := id hC
  obtain ⟨hci, hkN, C, T, ⟨g1, g2, g3, g4⟩, hC1, hlink⟩ := hf
  obtain ⟨⟨cell, q1, q2, q3, q4⟩, -⟩ := id hR
  obtain ⟨hSl, hfc, kC, hkC, hkind⟩ := hK.1.1 6 _ g1
  obtain ⟨cf, kf, fi, f, hi, hsl⟩ := hSl k hkN
  have hst := (u_facts hfc hkC (u_lays hts g2 hkN) hi).1
  rw [hC1] at hi
  have hs : cell.slots[f.slot]? = some v := by rw [hsl, q4 k hkN, hv]
  rcases hlink with hl1 | ⟨host, hl1⟩
  · exact W.getf hx hb hown (hts _ hl1) hi hst q1 (by rw [q3]; exact fun h => by cases h) hs rfl rfl hd KK
  · exact va_Wgetf hx hb hown (va_Nw.use rfl (hK.2.1 _ hl1 rfl)) hi hst q1 (by rw [q3]; exact fun h => by cases h) hs rfl rfl hd KK
theorem J_nget (hd : decode cc pc = .ok (.getfield i, 3)) (hf : jFld y.cls i 6 k) (ha : a = S.1) (ho : mOff k = 0) (kk : J NX y cc nL ret fr lo (pc + 3) lv (.int (nF S k) :: rest) S r S') : J NX y cc nL ret fr lo pc lv (.ref a :: rest) S r S' :=
  J_ngetG hd hf ha (by unfold nfv; rw [if_pos ho]) kk
theorem J_ngetA {o : Nat} (hd : decode cc pc = .ok (.getfield i, 3)) (hf : jFld y.cls i 6 k) (ha : a = S.1) (ho : mOff k = o + 1) (kk : J NX y cc nL ret fr lo (pc + 3) lv (.ref (a + (o + 1)) :: rest) S r S') : J NX y cc nL ret fr lo pc lv (.ref a :: rest) S r S' :=
  J_ngetG hd hf ha (by unfold nfv; rw [if_neg (by omega), ho, ha]) kk
theorem nRep.field {D : JD} {H H2 : Heap} {v : Int32} (h : nRep D S H) (ho : mOff k = 0) (e2 : ∀ q, q ≠ S.1 → H2[q]? = H[q]?) (hob : t_OB S.1 (D.1.1 6) 45 (D.1.2 6) H2 (updV (nfv S) k (.int v))) : nRep D (nSF S k v) H2 := by
  refine ⟨hob.to (fun j _ => ?_), fun q hq => ?_⟩
  · by_cases hj : j = k
    · subst hj; rw [updV_eq]; unfold nfv; rw [if_pos ho]; simp [nF, nSF, up1]
    · rw [updV_ne hj]; unfold nfv; simp [nF, nSF, up1, hj]
  · show H2[S.1 + mOff q]? = _
    rw [e2 _ (by omega), h.2 q hq]
    rfl
theorem J_nputG {x : Int32} (hd : decode cc pc = .ok (.putfield i, 3)) (hf : jFldW y.cls i 6 k) (ha : a = S.1) (ho : mOff k = 0) (hn : narrow (cT 6 k) (.int x) = .int x) (hfit : fits (cT 6 k) (.int x) = true) (kk : J NX y cc nL ret fr lo (pc + 3) lv rest (nSF S k x) r S') : J NX y cc nL ret fr lo pc lv (.int x :: .ref a :: rest) S r S' := by
  subst ha
  refine ⟨(nle rfl).tr kk.1, fun p l e R s m args below meth c H locs cells slots mc ms ls A D hC hl hR hS hA h1 h2 h3 h4 => ?_⟩
  obtain ⟨hx, hb, hml, hown, hts, hrt, hlocks, hnm, hK, hf1, hf2⟩ := id hC
  obtain ⟨hci, hkN, C, T, ⟨g1, g2, g3, g4⟩, hC1, hfin, hlink⟩ := hf
  obtain ⟨⟨cell, q1, q2, q3, q4⟩, -⟩ := id hR
  have hap := va_apart (own := C) hts g2 (cT 6) g3 g4 hK.1 g1
  obtain ⟨hSl, hfc, kC, hkC, hkind⟩ := hK.1.1 6 _ g1
  obtain ⟨cf, kf, fi, f, hi, hsl⟩ := hSl k hkN
  have hlay := hts _ (g2 _ (u_in_lay hkN))
  unfold u_lay at hlay
  rw [if_neg (by rw [hfin]; decide)] at hlay
  have hst := (u_facts hfc hkC (u_lays hts g2 hkN) hi).1
  have h6 := u_store hfc hkC hkind hlay hi (g3 k hkN) hn hfit
  rw [hC1] at hi
  have key : ∀ (H' : Heap), H'[S.1]? = some (cell.setSlot f.slot (.int x)) → H'.size = H.size → (∀ q, q ≠ S.1 → H'[q]? = H[q]?) → W p l e R s m args below meth c H' (locs ++ [⟨S.1, f.slot⟩]) cells slots (MQ below (jQ NX D r S' A mc) args s mc ms A) (F0 m (pc + 3) ls rest) := by
    intro H' e1 e2 e3
    rw [hsl] at e1
    exact kk.2 p l e R s m args below meth c H' (locs ++ [⟨S.1, f.slot⟩]) cells slots mc ms ls A D hC hl (nRep.field hR ho e3 ⟨_, e1, q2, q3, t_set q4 hap hkN (.int x)⟩) (hS.put e2 e3 (hA S.1 ⟨Nat.le_refl _, by show S.1 < S.1 + 24; omega⟩)) hA h1 h2 h3 h4
  rcases hlink with hl1 | ⟨host, hl1⟩
  · exact W.putK hx hb (f := f) ⟨hown, hts _ hl1, ⟨_, _, _, hi⟩, hst⟩ (by rw [q2]; exact h6) q1 q3 (by rw [hsl]; exact k2_hasslot (q4 k hkN)) rfl rfl hd key
  · exact va_WputK hx hb (f := f) hown (va_Nw.use rfl (hK.2.1 _ hl1 rfl)) hi hst (by rw [q2]; exact h6) q1 q3 (by rw [hsl]; exact k2_hasslot (q4 k hkN)) rfl rfl hd key
theorem J_nput {x : Int32} (hd : decode cc pc = .ok (.putfield i, 3)) (hf : jFldW y.cls i 6 k) (ha : a = S.1) (ho : mOff k = 0) (hty : cT 6 k = .int) (kk : J NX y cc nL ret fr lo (pc + 3) lv rest (nSF S k x) r S') : J NX y cc nL ret fr lo pc lv (.int x :: .ref a :: rest) S r S' :=
  J_nputG hd hf ha ho (by rw [hty]; rfl) (by rw [hty]; rfl) kk
theorem J_nputZ {x : Int32} (hd : decode cc pc = .ok (.putfield i, 3)) (hf : jFldW y.cls i 6 k) (ha : a = S.1) (ho : mOff k = 0) (hty : cT 6 k = .boolean) (hz : x = 0 ∨ x = 1) (kk : J NX y cc nL ret fr lo (pc + 3) lv rest (nSF S k x) r S') : J NX y cc nL ret fr lo pc lv (.int x :: .ref a :: rest) S r S' :=
  J_nputG hd hf ha ho (by rw [hty]; rcases hz with rfl | rfl <;> rfl) (by rw [hty]; rcases hz with rfl | rfl <;> rfl) kk
theorem nArr {D : JD} {H : Heap} {o : Nat} (h : nRep D S H) (ho : mOff k = o + 1) : H[S.1 + (o + 1)]? = some (arrV (D.2.1 (mZ k)) (mLen k) (nav S k)) := by
  have := h.2 k (by omega)
  rw [ho] at this
  exact this
theorem nav_i (h : k ≠ 33) (j : Nat) : nav S k j = .int (nA S k j) := by unfold nav; rw [if_neg h]
theorem J_niald {j : Int32} {o : Nat} (hd : decode cc pc = .ok (.iaload, 1)) (ha : a = S.1) (ho : mOff k = o + 1) (hz : mZ k = 0) (h33 : k ≠ 33) (hj : inB j (mLen k) = true) (kk : J NX y cc nL ret fr lo (pc + 1) lv (.int (nA S k j.toNatClampNeg) :: rest) S r S') : J NX y cc nL ret fr lo pc lv (.int j :: .ref (a + (o + 1)) :: rest) S r S' := by
  subst ha
  refine ⟨kk.1, fun p l e R s m args below meth c H locs cells slots mc ms ls A D hC hl hR hS hA h1 h2 h3 h4 => ?_⟩
  have KK := kk.2 p l e R s m args below meth c H locs cells slots mc ms ls A D hC hl hR hS hA h1 h2 h3 h4
  obtain ⟨hx, hb, hml, hown, hts, hrt, hlocks, hnm, hK, hf1, hf2⟩ := id hC
  have hc := nArr (k := k) hR ho
  rw [hz] at hc
  exact W.iald hx hb hc ((hK.1.2 0 _ rfl).1 _ _) (fun q => by cases q) (by rw [arrV_size]; exact inB_of hj) (by rw [arrV_read _ _ (inB_lt hj), nav_i h33]) rfl rfl hd KK
theorem J_nzald {j : Int32} {o : Nat} (hd : decode cc pc = .ok (.baload, 1)) (ha : a = S.1) (ho : mOff k = o + 1) (hz : mZ k = 2) (h33 : k ≠ 33) (hj : inB j (mLen k) = true) (kk : J NX y cc nL ret fr lo (pc + 1) lv (.int (nA S k j.toNatClampNeg) :: rest) S r S') : J NX y cc nL ret fr lo pc lv (.int j :: .ref (a + (o + 1)) :: rest) S r S' := by
  subst ha
  refine ⟨kk.1, fun p l e R s m args below meth c H locs cells slots mc ms ls A D hC hl hR hS hA h1 h2 h3 h4 => ?_⟩
  have KK := kk.2 p l e R s m args below meth c H locs cells slots mc ms ls A D hC hl hR hS hA h1 h2 h3 h4
  obtain ⟨hx, hb, hml, hown, hts, hrt, hlocks, hnm, hK, hf1, hf2⟩ := id hC
  have hc := nArr (k := k) hR ho
  rw [hz] at hc
  exact W.zald hx hb hc ((hK.1.2 2 _ rfl).1 _ _) (fun q => by cases q) (by rw [arrV_size]; exact inB_of hj) (by rw [arrV_read _ _ (inB_lt hj), nav_i h33]) rfl rfl hd KK
theorem J_nlald {j : Int32} (hd : decode cc pc = .ok (.laload, 1)) (ha : a = S.1) (hj : inB j (mLen 33) = true) (kk : J NX y cc nL ret fr lo (pc + 1) lv (.long (nP S j.toNatClampNeg) :: rest) S r S') : J NX y cc nL ret fr lo pc lv (.int j :: .ref (a + 15) :: rest) S r S' := by
  subst ha
  refine ⟨kk.1, fun p l e R s m args below meth c H locs cells slots mc ms ls A D hC hl hR hS hA h1 h2 h3 h4 => ?_⟩
  have KK := kk.2 p l e R s m args below meth c H locs cells slots mc ms ls A D hC hl hR hS hA h1 h2 h3 h4
  obtain ⟨hx, hb, hml, hown, hts, hrt, hlocks, hnm, hK, hf1, hf2⟩ := id hC
  have hc := nArr (k := 33) (o := 14) hR rfl
  exact W.lald hx hb hc ((hK.1.2 1 _ rfl).1 _ _) (fun q => by cases q) (by rw [arrV_size]; exact inB_of hj) (by rw [arrV_read _ _ (inB_lt hj)]; rfl) rfl rfl hd KK
theorem nRep.row {D : JD} {H H2 : Heap} {q o : Nat} {v : Value} (h : nRep D S H) (hs : S2.1 = S.1) (hF : S2.2.1 = S.2.1) (ho : mOff k = o + 1) (hav : ∀ j, nav S2 k j = updV (nav S k) q v j) (hne : ∀ k2, k2 ≠ k → nav S2 k2 = nav S k2) (e1 : H2[S.1 + (o + 1)]? = some ((arrV (D.2.1 (mZ k)) (mLen k) (nav S k)).setSlot q v)) (e3 : ∀ q, q ≠ S.1 + (o + 1) → H2[q]? = H[q]?) : nRep D S2 H2 := by
  refine ⟨?_, fun k2 hk2 => ?_⟩
  · rw [hs]
    refine (h.1.kept (e3 _ (by omega))).to (fun j _ => ?_)
    unfold nfv nF
    rw [hF, hs]
  · rw [hs]
    by_cases hk : k2 = k
    · subst hk
      rw [ho, e1, arrV_store]
      congr 2
      funext j
      exact (hav j).symm
    · have hb := mOff_big (k := k) (by omega)
      have hb2 := mOff_big hk2
      rw [e3 _ (fun he => hk (mOff_inj k2 hb2 k hb (by omega) hk2)), h.2 k2 hk2, hne k2 hk]
theorem nav_SA {j : Nat} {x : Int32} (h33 : k ≠ 33) (q : Nat) : nav (nSA S k j x) k q = updV (nav S k) j (.int x) q := by
  by_cases hq : q = j
  · subst hq; rw [updV_eq, nav_i h33]; simp [nA, nSA, up2]
  · rw [updV_ne hq, nav_i h33, nav_i h33]; simp [nA, nSA, up2, hq]
theorem nav_SAne {j : Nat} {x : Int32} (k2 : Nat) (h : k2 ≠ k) : nav (nSA S k j x) k2 = nav S k2 := by
  funext q
  unfold nav
  by_cases h3 : k2 = 33
  · rw [if_pos h3, if_pos h3]; rfl
  · rw [if_neg h3, if_neg h3]; simp [nA, nSA, up2, h]
theorem J_niast {j x : Int32} {o : Nat} (hd : decode cc pc = .ok (.iastore, 1)) (ha : a = S.1) (ho : mOff k = o + 1) (hz : mZ k = 0) (h33 : k ≠ 33) (hj : inB j (mLen k) = true) (kk : J NX y cc nL ret fr lo (pc + 1) lv rest (nSA S k j.toNatClampNeg x) r S') : J NX y cc nL ret fr lo pc lv (.int x :: .int j :: .ref (a + (o + 1)) :: rest) S r S' := by
  subst ha
  refine ⟨(nle rfl).tr kk.1, fun p l e R s m args below meth c H locs cells slots mc ms ls A D hC hl hR hS hA h1 h2 h3 h4 => ?_⟩
  obtain ⟨hx, hb, hml, hown, hts, hrt, hlocks, hnm, hK, hf1, hf2⟩ := id hC
  have hc := nArr (k := k) hR ho
  have ho24 := mOff_lt k (mOff_big (by omega))
  rw [hz] at hc
  refine W.iast hx hb hc ((hK.1.2 0 _ rfl).1 _ _) (fun q => by cases q) (by rw [arrV_size]; exact inB_of hj) rfl rfl hd fun H' e1 e2 e3 => ?_
  rw [← hz] at e1
  exact kk.2 p l e R s m args below meth c H' _ cells slots mc ms ls A D hC hl (nRep.row hR rfl rfl ho (nav_SA h33) nav_SAne e1 e3) (hS.put e2 e3 (hA _ ⟨by show S.1 ≤ _; omega, by show _ < S.1 + 24; omega⟩)) hA h1 h2 h3 h4
theorem J_nzast {j x : Int32} {o : Nat} (hd : decode cc pc = .ok (.bastore, 1)) (ha : a = S.1) (ho : mOff k = o + 1) (hz : mZ k = 2) (h33 : k ≠ 33) (hx01 : x = 0 ∨ x = 1) (hj : inB j (mLen k) = true) (kk : J NX y cc nL ret fr lo (pc + 1) lv rest (nSA S k j.toNatClampNeg x) r S') : J NX y cc nL ret fr lo pc lv (.int x :: .int j :: .ref (a + (o + 1)) :: rest) S r S' := by
  subst ha
  refine ⟨(nle rfl).tr kk.1, fun p l e R s m args below meth c H locs cells slots mc ms ls A D hC hl hR hS hA h1 h2 h3 h4 => ?_⟩
  obtain ⟨hx, hb, hml, hown, hts, hrt, hlocks, hnm, hK, hf1, hf2⟩ := id hC
  have hc := nArr (k := k) hR ho
  have ho24 := mOff_lt k (mOff_big (by omega))
  have hn : narrow .boolean (.int x) = .int x := by rcases hx01 with rfl | rfl <;> rfl
  rw [hz] at hc
  refine W.zast hx hb hc ((hK.1.2 2 _ rfl).1 _ _) (fun q => by cases q) (by rw [arrV_size]; exact inB_of hj) rfl rfl hd fun H' e1 e2 e3 => ?_
  rw [← hz, hn] at e1
  exact kk.2 p l e R s m args below meth c H' _ cells slots mc ms ls A D hC hl (nRep.row hR rfl rfl ho (nav_SA h33) nav_SAne e1 e3) (hS.put e2 e3 (hA _ ⟨by show S.1 ≤ _; omega, by show _ < S.1 + 24; omega⟩)) hA h1 h2 h3 h4
theorem J_nlast {j : Int32} {x : Int64} (hd : decode cc pc = .ok (.lastore, 1)) (ha : a = S.1) (hj : inB j (mLen 33) = true) (kk : J NX y cc nL ret fr lo (pc + 1) lv rest (nSP S j.toNatClampNeg x) r S') : J NX y cc nL ret fr lo pc lv (.long x :: .int j :: .ref (a + 15) :: rest) S r S' := by
  subst ha
  refine ⟨(nle rfl).tr kk.1, fun p l e R s m args below meth c H locs cells slots mc ms ls A D hC hl hR hS hA h1 h2 h3 h4 => ?_⟩
  obtain ⟨hx, hb, hml, hown, hts, hrt, hlocks, hnm, hK, hf1, hf2⟩ := id hC
  have hc := nArr (k := 33) (o := 14) hR rfl
  refine W.last hx hb hc ((hK.1.2 1 _ rfl).1 _ _) (fun q => by cases q) (by rw [arrV_size]; exact inB_of hj) rfl rfl hd fun H' e1 e2 e3 => ?_
  refine kk.2 p l e R s m args below meth c H' _ cells slots mc ms ls A D hC hl (nRep.row (k := 33) (o := 14) (q := j.toNatClampNeg) (v := .long x) hR rfl rfl rfl (fun q => ?_) (fun k2 hk2 => ?_) e1 e3) (hS.put e2 e3 (hA _ ⟨by show S.1 ≤ _; omega, by show _ < S.1 + 24; omega⟩)) hA h1 h2 h3 h4
  · by_cases hq : q = j.toNatClampNeg
    · subst hq; rw [updV_eq]; simp [nav, nP, nSP, up1]
    · rw [updV_ne hq]; simp [nav, nP, nSP, up1, hq]
  · funext q; simp [nav, hk2]; rfl
end JModel
