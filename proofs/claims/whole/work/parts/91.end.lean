/-! THE CLAIM OUT OF ONE WALK OF THE LAW'S BODY. Your part is whole_start (and what it stands on); all else here is the same for every law, but numbers. -/
def R_law : String := "BeadSchoolLaw"
def lw_P (b : Addr) (xs : List Int32) (args : Array Value) (s : State) : Prop := args = #[.ref b] ∧ s.IntsAt b xs ∧ xs.length ≤ 3072 ∧ (Jvm.Cond.and given_1 narrow_1).before args s = true
/-- what a walk over the start with the record d0 says of its end, said of the start itself -/
theorem lw_closed {s t : State} {o : Outcome} {d0 : Drawn} {L : List Loc} {k n : Nat} (hd0 : s.drawn.sameBut d0 lw_cs) (hv : ∃ v, o = .returned v) (hW : (s.setDrawn d0).WarmedH t.vm) (hs : (s.setDrawn d0).sameButNew ({ t with vm := s.vm } : State) L k n) : State.butDraws s t lw_cs (fun t1 => Framed s o t1 L k n) := by
  have h2 : t.drawn = d0 := congrArg State.drawn hs.1
  refine ⟨⟨hv, hW, State.sameButNew.setDrawn hs s.drawn⟩, ?_, by decide⟩
  rw [h2]
  exact hd0
def lw_Q (_ : Array Value) (s : State) (o : Outcome) (t : State) : Prop := o = .returned (some (.int 1)) ∧ State.butDraws s t lw_cs (fun t1 => Framed s o t1 [] 600000 7302250)
def lw_Z (below : List Frame) (a : Array Value) (s : State) : State → Prop := fun t => ∃ o, t.status = .running ∧ Ended t below o ∧ lw_Q a s o t
/-- the law's own end, with 1 on the stack, nothing written that was there before, its room as the claim has it; d0: the record of draws at this point (at the entry s.drawn: begin with 'refine W.base ?_' and 'have hd0 := Drawn.sameBut.refl s.drawn lw_cs') -/
theorem lw_ret {p : Program} {l : Launch} {e : Env} {s : State} {m : MethodId} {below : List Frame} {meth : Method} {c : Code} {b : Nat} {d0 : Drawn} (hd0 : s.drawn.sameBut d0 lw_cs) (hx : p.tables.exec = Jvm.exec) (hb : c.code = code) (hr : meth.sig.returnType = ret) (hlocks : meth.locks = false) {pc : Nat} {H : Heap} {ls : Array Slot} (hdg : decode code pc = .ok (.ireturn, 1)) : W p l e room_1 (s.setDrawn d0) m #[Value.ref b] below meth c H [] 600000 7302250 (lw_Z below #[Value.ref b] s) (F0 m pc ls [.int 1]) := by
  intro T hT X
  obtain ⟨fs, hret, hrun, hended, hW, hframe⟩ := X.leave (v := some (.int 1)) (hlocks := hlocks) (fun h => by rw [hr] at h; cases h)
  have hmeth' : T.vm.method? m = some meth := X.method'
  refine ⟨T.setFrames fs, ?_, .returned (some (.int 1)), hrun, hended, rfl, lw_closed hd0 ⟨_, rfl⟩ hW hframe⟩
  jvm_step X.here [X.here.top, hx, hb, hdg, hmeth', hr, ret, narrow_b1]
  (try refine ⟨rfl, ?_⟩); (try refine ⟨rfl, ?_⟩)
  first | (intro acts; rw [hret _ acts rfl rfl rfl]) | rw [hret _ _ rfl rfl rfl]
  exact Steps.refl _
/-- what holds at the law's entry: the machine, the code, the tables' words (any of lw_tbl by 'hts w (by decide +kernel)'), the script of L ints xs at the cell b, what the Statement gives of the start (any of its parts by flat_of_before) -/
def lw_At (p : Program) (s : State) (m : MethodId) (meth : Method) (c : Code) (b L : Nat) (xs : Nat → Int32) : Prop :=
  p.tables.exec = Jvm.exec ∧ c.code = code ∧ meth.sig.returnType = ret ∧ c.maxLocals = 4 ∧ s.vm.findClass R_law = some m.cls ∧ (∀ w ∈ lw_tbl, w.before #[Value.ref b] s = true) ∧ va_X b L xs s s.heap ∧ b < s.heap.size ∧ meth.locks = false ∧ (Jvm.Cond.and given_1 narrow_1).before #[Value.ref b] s = true
theorem k_inst : Cond.instantiable RX0 5 ∈ lw_tbl ∧ Cond.instantiable RX1 8 ∈ lw_tbl ∧ Cond.instantiable RX2 5 ∈ lw_tbl ∧ Cond.instantiable RX3 12 ∈ lw_tbl ∧ Cond.instantiable RX4 7 ∈ lw_tbl ∧ Cond.instantiable RX5 11 ∈ lw_tbl ∧ Cond.instantiable RX6 45 ∈ lw_tbl := ⟨by decide +kernel, by decide +kernel, by decide +kernel, by decide +kernel, by decide +kernel, by decide +kernel, by decide +kernel⟩
theorem k_arr : Cond.arrayClass .int ∈ lw_tbl ∧ Cond.arrayClass .long ∈ lw_tbl ∧ Cond.arrayClass .boolean ∈ lw_tbl ∧ Cond.arrayOver (.object RX1) ∈ lw_tbl ∧ Cond.arrayOver (.object RX4) ∈ lw_tbl ∧ Cond.arrayOver (.object RX0) ∈ lw_tbl ∧ Cond.laysStatic RX0 "WEIGHTS" "[I" ∈ lw_tbl ∧ Cond.initialized RX0 ∈ lw_tbl := ⟨by decide +kernel, by decide +kernel, by decide +kernel, by decide +kernel, by decide +kernel, by decide +kernel, by decide +kernel, by decide +kernel⟩
abbrev tW : Term := .static "BeadSchool$Exercise" "WEIGHTS" "[I"
theorem k_flat : Cond.arrayOf tW .int ∈ flatC (Jvm.Cond.and given_1 narrow_1) ∧ Cond.eq (.length tW) (.int 6) ∈ flatC (Jvm.Cond.and given_1 narrow_1) ∧ Cond.eq (.elem tW (.int 0)) (.int 100000) ∈ flatC (Jvm.Cond.and given_1 narrow_1) ∧ Cond.eq (.elem tW (.int 1)) (.int 10000) ∈ flatC (Jvm.Cond.and given_1 narrow_1) ∧ Cond.eq (.elem tW (.int 2)) (.int 1000) ∈ flatC (Jvm.Cond.and given_1 narrow_1) ∧ Cond.eq (.elem tW (.int 3)) (.int 100) ∈ flatC (Jvm.Cond.and given_1 narrow_1) ∧ Cond.eq (.elem tW (.int 4)) (.int 10) ∈ flatC (Jvm.Cond.and given_1 narrow_1) ∧ Cond.eq (.elem tW (.int 5)) (.int 1) ∈ flatC (Jvm.Cond.and given_1 narrow_1) ∧ Cond.not (.eq (.arg 0) tW) ∈ flatC (Jvm.Cond.and given_1 narrow_1) := ⟨by decide +kernel, by decide +kernel, by decide +kernel, by decide +kernel, by decide +kernel, by decide +kernel, by decide +kernel, by decide +kernel, by decide +kernel⟩
def wVal : Nat → Int32
  | 0 => 100000 | 1 => 10000 | 2 => 1000 | 3 => 100 | 4 => 10 | _ => 1
set_option maxRecDepth 100000 in
set_option maxHeartbeats 4000000 in
/-- from the entry, for every script of at most 3072 ints, the law comes to its end with true -/
theorem whole_start {p : Program} {e : Env} {s : State} {m : MethodId} {below : List Frame} {meth : Method} {c : Code} (l : Launch) {b L : Nat} {xs : Nat → Int32} (hL : L ≤ 3072) (C0 : lw_At p s m meth c b L xs) : W p l e room_1 s m #[Value.ref b] below meth c s.heap [] 0 0 (lw_Z below #[Value.ref b] s) (entryFrame m ([Value.ref b] : List Value).toArray 4) := by
  obtain ⟨hx, hb, hr, hml, hown, hts, hX, hbl, hlocks, hgv⟩ := id C0
  obtain ⟨scr, x1, x2, x3, x4, x5⟩ := hX
  have hfl := flat_of_before _ hgv
  -- the weights
  obtain ⟨f0, f1, g0, g1, g2, g3, g4, g5, f9⟩ := k_flat
  obtain ⟨t0, ht0, cw, w1, w2, w3, w4, w5, w6, -⟩ := va_Tof (N := 6) (f := fun j => .int (wVal j)) (A := fun _ => False) (by decide) (hfl _ f0) (va_eqt (hfl _ f1)) (fun j hj => by
    match j, hj with
    | 0, _ => exact va_eqt (hfl _ g0)
    | 1, _ => exact va_eqt (hfl _ g1)
    | 2, _ => exact va_eqt (hfl _ g2)
    | 3, _ => exact va_eqt (hfl _ g3)
    | 4, _ => exact va_eqt (hfl _ g4)
    | 5, _ => exact va_eqt (hfl _ g5)
    | k + 6, hk => exact absurd hk (by omega)) (fun _ _ h => h)
  obtain ⟨cf, kf, fi, ff, za, zc, z1, z2, z3, z4, z5, z6, z7, -⟩ := va_Zof (A := fun _ => False) (hts _ k_arr.2.2.2.2.2.2.1) (hts _ k_arr.2.2.2.2.2.2.2) ht0 (fun _ _ h => h)
  have hbt : b ≠ t0 := by
    intro he
    have hno := hfl _ f9
    have hyes : (Cond.eq (.arg 0) tW).before #[Value.ref b] s = true := Cond.eq_same (y := .ref t0) (by rw [← he]; rfl) ht0 (Or.inr (Or.inr rfl))
    simp only [Cond.before, Cond.holds, Cond.value] at hno hyes
    simp_all
  -- the tables
  obtain ⟨c0, iS0, hn0⟩ := u_known (C := RX0) (T := TX0) (N := 5) (n := 5) hts (fun w h => (inG0 w h).1) (hts _ k_inst.1)
  obtain ⟨c1, iS1, hn1⟩ := u_known (C := RX1) (T := TX1) (N := 8) (n := 8) hts (fun w h => (inG1 w h).1) (hts _ k_inst.2.1)
  obtain ⟨c2, iS2, hn2⟩ := u_known (C := RX2) (T := TX2) (N := 5) (n := 5) hts (fun w h => (inG2 w h).1) (hts _ k_inst.2.2.1)
  obtain ⟨c3, iS3, hn3⟩ := u_known (C := RX3) (T := TX3) (N := 12) (n := 12) hts (fun w h => (inG3 w h).1) (hts _ k_inst.2.2.2.1)
  obtain ⟨c4, iS4, hn4⟩ := u_known (C := RX4) (T := TX4) (N := 7) (n := 7) hts (fun w h => (inG4 w h).1) (hts _ k_inst.2.2.2.2.1)
  obtain ⟨c5, iS5, hn5⟩ := u_known (C := RX5) (T := TX5) (N := 11) (n := 11) hts (fun w h => (inG5 w h).1) (hts _ k_inst.2.2.2.2.2.1)
  obtain ⟨c6, iS6, hn6⟩ := u_known (C := RX6) (T := TX6) (N := 45) (n := 45) hts (fun w h => (inG6 w h).1) (hts _ k_inst.2.2.2.2.2.2)
  obtain ⟨aI, kI, pI, i1, i2, i3⟩ := Cond.arrayClass_spec (hts _ k_arr.1)
  obtain ⟨aJ, kJ, pJ, j1, j2, j3⟩ := Cond.arrayClass_spec (hts _ k_arr.2.1)
  obtain ⟨aZ, kZ, pZ, y1, y2, y3⟩ := Cond.arrayClass_spec (hts _ k_arr.2.2.1)
  obtain ⟨pF, aF, kF, q1, -, q3, q4, q5⟩ := Cond.arrayOver_spec (hts _ k_arr.2.2.2.1)
  obtain ⟨pR, aR, kR, r1, -, r3, r4, r5⟩ := Cond.arrayOver_spec (hts _ k_arr.2.2.2.2.1)
  obtain ⟨pE, aE, kE, e1, -, e3, e4, e5⟩ := Cond.arrayOver_spec (hts _ k_arr.2.2.2.2.2.1)
  let dC : Nat → ClassId := fun k => match k with | 0 => c0 | 1 => c1 | 2 => c2 | 3 => c3 | 4 => c4 | 5 => c5 | _ => c6
  let dI : Nat → Nat → Nat := fun k => match k with | 0 => iS0 | 1 => iS1 | 2 => iS2 | 3 => iS3 | 4 => iS4 | 5 => iS5 | _ => iS6
  let dA : Nat → ClassId := fun k => match k with | 0 => aI | 1 => aJ | 2 => aZ | 3 => aF | 4 => aR | 5 => aE | 6 => cw.cls | _ => scr.cls
  let D : JD := ((dC, dI), dA, za, ff.slot)
  have hK : KD D s := by
    refine ⟨⟨fun k q hq => ?_, fun k q hq => ?_⟩, fun w hw hn => ?_, ⟨va_AO.of (hts _ k_arr.2.2.2.1), va_AO.of (hts _ k_arr.2.2.2.2.1), va_AO.of (hts _ k_arr.2.2.2.2.2.1)⟩, ⟨cf, kf, fi, ff, z1, z2, z3, z4, rfl⟩, ?_, ?_⟩
    · match k, hq with
      | 0, hq => cases hq; exact hn0
      | 1, hq => cases hq; exact hn1
      | 2, hq => cases hq; exact hn2
      | 3, hq => cases hq; exact hn3
      | 4, hq => cases hq; exact hn4
      | 5, hq => cases hq; exact hn5
      | 6, hq => cases hq; exact hn6
      | k + 7, hq => simp [vwCl] at hq
    · have hm := List.mem_of_getElem? hq
      simp only [jTys, List.mem_cons, List.not_mem_nil, or_false] at hm
      rcases hm with rfl | rfl | rfl | rfl | rfl | rfl
      · exact ⟨fun n z => ⟨fun k h => (by cases h), kI, i2, pI, i3⟩, i1⟩
      · exact ⟨fun n z => ⟨fun k h => (by cases h), kJ, j2, pJ, j3⟩, j1⟩
      · exact ⟨fun n z => ⟨fun k h => (by cases h), kZ, y2, pZ, y3⟩, y1⟩
      · exact ⟨fun n z => ⟨fun k h => (by cases h), kF, q3, pF, q4⟩, kF, pF, q3, q4, q1, q5⟩
      · exact ⟨fun n z => ⟨fun k h => (by cases h), kR, r3, pR, r4⟩, kR, pR, r3, r4, r1, r5⟩
      · exact ⟨fun n z => ⟨fun k h => (by cases h), kE, e3, pE, e4⟩, kE, pE, e3, e4, e1, e5⟩
    · have hz := hts w hw
      cases w <;> first | exact va_Nw.of rfl hz | (simp [jNest] at hn)
    · exact fun n z => ⟨fun k h => (by cases h), w2.2⟩
    · exact fun n z => ⟨fun k h => (by cases h), x2.2⟩
  -- the first state
  let S0 : Mem := (fun a => if a = t0 then 14 else 0, fun _ => 6, fun _ j => wVal j, fun _ _ => 0, fun _ _ => none, s.heap.size, 0, t0)
  have ht0l : t0 < s.heap.size := (Array.getElem?_eq_some_iff.mp w1).1
  have kd0 : ∀ q, mKd S0 q = if q = t0 then 14 else 0 := by
    intro q
    show (if q < s.heap.size then (if q = t0 then 14 else 0) else 0) = _
    by_cases hq : q = t0
    · subst hq; simp [ht0l]
    · simp [hq]
  obtain ⟨S2, S4, M, w, u1, u2, u3, u4, u5, u6, u7, u8, u9, u10, u11⟩ := sim_all S0 ⟨kd0, ht0l, rfl, ⟨rfl, rfl, rfl, rfl, rfl, rfl⟩, rfl⟩ L xs hL
  have nx0 : mNx S0 = s.heap.size := rfl
  have K := t_law (nm := meth.name) (b := b) (L := L) (xs := xs) u1 u2 u3 u4 (by rw [u3]; omega) u5 u6 u7
  rw [u8] at K
  have hl := lv_entry ([.ref b]) (n := 4) (Nat.le_of_ble_eq_true rfl)
  rw [lg_entry_eq]
  have hrep : lRep D (S0, none, b, L, xs) s.heap := by
    refine ⟨⟨rfl, fun a => ?_, zc, z5, z6, z7⟩, fun M hM => (by cases hM), ⟨?_, hbl⟩, scr, x1, rfl, ⟨x3, x2.1⟩, x4, x5⟩
    · rw [kd0]
      by_cases ha : a = t0
      · subst ha
        rw [if_pos rfl]
        unfold repAt
        rw [if_neg (by decide), if_neg (by decide), if_pos rfl]
        exact ⟨cw, w1, rfl, w3, w2.1, w4, w6⟩
      · rw [if_neg ha]
        unfold repAt
        rw [if_pos rfl]
        trivial
    · rw [kd0, if_neg hbt]
  have HW := K.2 p l e room_1 s m #[Value.ref b] below meth c s.heap [] 0 0 600000 7302250 _ (fun q => s.heap.size ≤ q) D ⟨hx, hb, hml, hown, fun w hw => hts w (List.mem_filter.mp hw).1, hr, hlocks, rfl, hK, (by decide), (by decide)⟩ hl hrep va_S.rf (fun q hq => by
      have hq : mFree S0 q ∨ ∃ M, (none : Option MS) = some M ∧ nFree M q := hq
      rcases hq with hq | ⟨M, hM, -⟩
      · rcases hq with hq | hq
        · rw [kd0] at hq
          by_cases ha : q = t0
          · rw [if_pos ha] at hq; exact absurd rfl hq.2
          · rw [if_neg ha] at hq; exact absurd rfl hq.1
        · exact hq
      · cases hM) (by show 0 + mNx w.2.1 ≤ 600000 + mNx S0; omega) (by show 0 + mSl w.2.1 ≤ 7302250 + mSl S0; omega) (Nat.le_refl _) (Nat.le_refl _)
  intro T hT X0
  obtain ⟨t, a1, o, b1, b2, ⟨b3, -⟩, LL, ⟨⟨v, hv⟩, b5, b6⟩, b7⟩ := HW T hT X0
  refine ⟨t, a1, o, b1, b2, b3, ?_⟩
  exact lw_closed (d0 := s.drawn) (Drawn.sameBut.refl s.drawn lw_cs) ⟨v, hv⟩ b5 (b6.weaken (fun y hy hlt => absurd hlt (Nat.not_lt.mpr (b7 y hy))) (Nat.le_refl _) (Nat.le_refl _))
set_option maxHeartbeats 4000000 in
theorem lw_walk (l : Launch) (b : Addr) (xs : List Int32) : MetFree l x (headSpec (Jvm.Cond.code x code maxLocals ret :: tables_1) room_1) (lw_P b xs) (fun _ _ _ _ _ => True) lw_Q := by
  refine MetFree.of_bodyS (code := code) (maxLocals := maxLocals) (ret := ret) (by decide) ?_ ?_
  · intro args s m h hn
    obtain ⟨meth, c, h1, h2, h3, h4, h5, h6, -, -⟩ := Cond.code_spec hn (atoms_spec (ws := Jvm.Cond.code x code maxLocals ret :: tables_1) h _ List.mem_cons_self)
    exact ⟨meth, c, h1, h2, h3, h4, h5, h6⟩
  · intro p e s m args below meth c s₁ B hml0 hP _
    obtain ⟨rfl, hx, hbd, hgv⟩ := hP
    obtain ⟨scr, harrAt, hlist, hof, hsmall⟩ := hx
    obtain ⟨hcb, hkn, -, -⟩ := State.arrayAt?_spec harrAt
    have hown : s.vm.findClass R_law = some m.cls := findClass_of_methodNamed B.named
    have hts0 : ∀ c ∈ (Jvm.Cond.code x code maxLocals ret :: tables_1), c.before #[Value.ref b] s = true := atoms_spec (ws := Jvm.Cond.code x code maxLocals ret :: tables_1) B.pre
    have hts : ∀ w ∈ lw_tbl, w.before #[Value.ref b] s = true := k2_hts_sels lw_privs (fun w hw => hts0 w (List.mem_cons_of_mem _ hw)) lw_privs_ok
    have hml : c.maxLocals = 4 := B.maxLocals_eq (hts0 _ List.mem_cons_self)
    have X₀ : Stand p l e room_1 s m #[Value.ref b] below meth c s₁ [] 0 0 := Stand.of_body B
    have hh0 : s₁.heap = s.heap := by rw [B.state]; rfl
    have hsz : scr.slots.size = xs.length := by rw [← Array.length_toList, hlist, List.length_map]
    have hval : ∀ j : Nat, j < xs.length → scr.slots[j]? = some (.int (xs.getD j 0)) := fun j hj => by
      rw [← Array.getElem?_toList, hlist]
      simp [hj]
    have hbl : b < s.heap.size := (Array.getElem?_eq_some_iff.mp hcb).1
    have hX : va_X b xs.length (fun j => xs.getD j 0) s s.heap := ⟨scr, hcb, hof, hkn, hsz, hval⟩
    have K : W p l e room_1 s m #[Value.ref b] below meth c s₁.heap [] 0 0 (lw_Z below #[Value.ref b] s) (entryFrame m ([Value.ref b] : List Value).toArray 4) := by
      rw [hh0]
      exact whole_start l hbd ⟨B.exec, B.bytes, B.returns, hml, hown, hts, hX, hbl, B.notSynchronized, hgv⟩
    obtain ⟨t, a1, o, b1, b2, b3⟩ := K s₁ rfl X₀
    exact ⟨t, o, a1, b1, b2, b3⟩
theorem lw_pre_spec {args : Array Value} {s : State} (h : (Jvm.Cond.and given_1 narrow_1).before args s = true) (hr : rest_1_c.before args s = true) : ∃ (b : Addr) (xs : List Int32), lw_P b xs args s := by
  have hs := flat_of_before _ h
  have hq := flat_of_before _ hr
  have hc : (Cond.count 1).before args s = true := hs _ (by decide +kernel)
  have harr : (Cond.arrayOf (.arg 0) .int).before args s = true := hs _ (by decide +kernel)
  have hle : (Cond.le (.length (.arg 0)) (.int 3072)).before args s = true := hs _ (by decide +kernel)
  have hlen : (Cond.isInt (.length (.arg 0))).before args s = true := hq _ (by decide +kernel)
  have hall : (Cond.all (.arg 0) (.isInt (.elem (.arg 0) (.index 0)))).before args s = true := hq _ (by decide +kernel)
  obtain ⟨b, xs, hb, hx⟩ := State.ints_of_pre rfl harr hlen hall
  have hsm : xs.length < 2 ^ 31 := hx.choose_spec.2.2.2
  have hev : (Term.length (.arg 0)).eval args s none [] s = some (.int xs.length.toInt32) := hx.length_eval hb
  have hv := Cond.le_ints hev (show (Term.int 3072).eval args s none [] s = some (.int 3072) from rfl)
  have hd : xs.length.toInt32 ≤ 3072 := by
    simpa [Cond.before, Cond.holds, hv] using hle
  have hN : xs.length ≤ 3072 := (Int32.ofNat_le_ofNat hsm (by decide)).mp (show Int32.ofNat xs.length ≤ Int32.ofNat 3072 from hd)
  exact ⟨b, xs, Cond.one_arg hc (show args[0]? = some (.ref b) from hb), hx, hN, h⟩
theorem lw_comes (l : Launch) : Comes l x (Jvm.Cond.code x code maxLocals ret :: tables_1) room_1 (fun tb e args s => Calls_1 tb e args s ∧ rest_1 tb e args s ∧ Pre_1 tb e args s)
    (fun _ _ args s o t => lw_Q args s o t) := by
  intro p e ha hc hk s m args below hf hfit hheap happ hpre
  obtain ⟨b, xs, hP⟩ := lw_pre_spec hpre.2.2 hpre.2.1
  obtain ⟨k, o, h1, h2, h3, hQ⟩ := lw_walk l b xs p e ha hc hk s m args below hf ((Spec.applies_iff_loose hf).mp happ).1 hP trivial
  exact ⟨k, o, h1, h2, h3, hQ⟩
theorem lw_frame {s t : State} {o : Outcome} {args : Array Value} (h : State.butDraws s t lw_cs (fun t1 => Framed s o t1 [] 600000 7302250)) :
    State.butDraws s t [Jvm.Choice.named "NaN.bits", Jvm.Choice.named "NaN.copy"] (fun t1 => Framed s o t1 (fieldLocs frame_1_writes args s ++ arrayLocs frame_1_arrays args s ++ staticLocs frame_1_statics s) 600000 7302250) := h
theorem lw_limb (L : Cond) (hL : ∀ (args : Array Value) (s t : State), L.after args s (.returned (some (.int 1))) t = true) :
    ArmFor flags0 classFile x code maxLocals ret World_1 tables_1 room_1 Calls_1 rest_1 Pre_1
      (fun tb e a s o t => postC L tb e a s o t ∧ State.butDraws s t [Jvm.Choice.named "NaN.bits", Jvm.Choice.named "NaN.copy"] (fun t1 => Framed s o t1 (fieldLocs frame_1_writes a s ++ arrayLocs frame_1_arrays a s ++ staticLocs frame_1_statics s) 600000 7302250)) := by
  intro l _ _ _ p e ha hc hk s m args below hf hfit hheap happ hpre
  obtain ⟨k, o, h1, h2, h3, rfl, hF⟩ := lw_comes l p e ha hc hk s m args below hf hfit hheap happ hpre
  exact ⟨k, _, h1, h2, h3, hL args s _, lw_frame hF⟩
theorem i_vc : Claimed_1_1 ∧ Claimed_1_2 := ⟨lw_limb limb_1_1 (fun args s t => by simp [limb_1_1, Cond.after, Cond.holds, Cond.value]), lw_limb limb_1_2 (fun args s t => Cond.after_iff.mpr (by
  first | (rw [show limb_1_2 = Cond.eq .result (.int 1) from rfl, Cond.eq_ints (x := 1) (y := 1) rfl rfl]; simp; done) | (simp [limb_1_2, Cond.value, Term.eval]; done)))⟩
