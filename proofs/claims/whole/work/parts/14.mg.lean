def m_X6_isExercise (S : MS) (i1 : Int32) : Option Int32 :=
  bnd (m_X6_in (Int32.toInt64 i1) (0 : Int64) (Int32.toInt64 ((nF S 36) - (1 : Int32)))) fun i1_ =>
  gd (zb i1_) <|
  some i1_
set_option maxRecDepth 100000 in
set_option maxHeartbeats 4000000 in
theorem t_X6_isExercise {S : MS} {a0 : Nat} {i1 : Int32} {w : Int32} (ha : a0 = S.1) (h : m_X6_isExercise S i1 = some w) : CT NX yX6_isExercise cX6_isExercise 2 (some .boolean) 1 25 [.ref a0, .int i1] S (some (.int w)) S := by
  refine CT.of (lv := [(0, .ref a0), (1, .int i1)]) (by decide) rfl (Nat.le_of_ble_eq_true rfl) ?_
  refine J_iload_n 1 dX6_isExercise_0 rfl rfl ?_
  refine J_i2l dX6_isExercise_1 ?_
  refine J_lconst (0 : Int64) dX6_isExercise_2 (by decide) ?_
  refine J_aload_n 0 dX6_isExercise_3 rfl rfl ?_
  refine J_nget (k := 36) dX6_isExercise_4 gF_X6_349 ha rfl ?_
  refine J_iconst (1 : Int32) dX6_isExercise_7 (by decide) ?_
  refine J_isub dX6_isExercise_8 ?_
  refine J_i2l dX6_isExercise_9 ?_
  obtain ⟨i1_, ei1_, h2⟩ := bnd_some h; clear h
  refine J_callS (As := [.long (Int32.toInt64 i1), .long (0 : Int64), .long (Int32.toInt64 ((nF S 36) - (1 : Int32)))]) (rest := []) (st' := [.int i1_]) (t_X6_in ei1_) gC_X6_in gM_X6_92 rfl (by decide) (by decide) rfl rfl (Nat.le_of_ble_eq_true rfl) dX6_isExercise_10 ?_
  obtain ⟨g3, h4⟩ := gd_some h2; clear h2
  have hw := Option.some.inj h4; subst hw
  exact J_zret rfl (zb_of g3) dX6_isExercise_13
def m_X6_place (S : MS) (i1 : Int32) (i2 : Int32) : Option Int32 :=
  bnd (m_X6_isExercise S i1) fun i1_ =>
  if i1_ = 0 then
    (some (-1 : Int32))
  else
    (bnd (m_X6_in (Int32.toInt64 i2) (0 : Int64) (11 : Int64)) fun i5_ =>
    if i5_ = 0 then
      (some (-2 : Int32))
    else
      (gd (inB (((12 : Int32) * i1) + i2) 2400) <|
      if (nA S 39 (Int32.toNatClampNeg (((12 : Int32) * i1) + i2))) = 0 then
        (gd (inB (((12 : Int32) * i1) + i2) 2400) <|
        some (nA S 38 (Int32.toNatClampNeg (((12 : Int32) * i1) + i2))))
      else
        (some (-5 : Int32))))
set_option maxRecDepth 100000 in
set_option maxHeartbeats 4000000 in
theorem t_X6_place {S : MS} {a0 : Nat} {i1 : Int32} {i2 : Int32} {w : Int32} (ha : a0 = S.1) (h : m_X6_place S i1 i2 = some w) : CT NX yX6_place cX6_place 3 (some .int) 2 46 [.ref a0, .int i1, .int i2] S (some (.int w)) S := by
  refine CT.of (lv := [(0, .ref a0), (1, .int i1), (2, .int i2)]) (by decide) rfl (Nat.le_of_ble_eq_true rfl) ?_
  refine J_aload_n 0 dX6_place_0 rfl rfl ?_
  refine J_iload_n 1 dX6_place_1 rfl rfl ?_
  obtain ⟨i1_, ei1_, h2⟩ := bnd_some h; clear h
  refine J_callV (As := [.int i1]) (rest := []) (st' := [.int i1_]) (t_X6_isExercise ha ei1_) gC_X6_isExercise gM_X6_362 (by rw [ha]; exact nRecv) rfl (by decide) (by decide) rfl rfl (Nat.le_of_ble_eq_true rfl) dX6_place_2 ?_
  refine J_if_ne 12 dX6_place_5 (by decide) h2 (fun c3 h4 => ?_) (fun c3 h4 => ?_)
  · clear h2
    refine J_iconst (-1 : Int32) dX6_place_8 (by decide) ?_
    refine J_goto 59 dX6_place_9 (by decide) ?_
    have hw := Option.some.inj h4; subst hw
    exact J_iret rfl dX6_place_59
  · clear h2
    refine J_iload_n 2 dX6_place_12 rfl rfl ?_
    refine J_i2l dX6_place_13 ?_
    refine J_lconst (0 : Int64) dX6_place_14 (by decide) ?_
    refine J_ldc2 (11 : Int64) dX6_place_15 gK_X6_365 ?_
    obtain ⟨i5_, ei5_, h6⟩ := bnd_some h4; clear h4
    refine J_callS (As := [.long (Int32.toInt64 i2), .long (0 : Int64), .long (11 : Int64)]) (rest := []) (st' := [.int i5_]) (t_X6_in ei5_) gC_X6_in gM_X6_92 rfl (by decide) (by decide) rfl rfl (Nat.le_of_ble_eq_true rfl) dX6_place_18 ?_
    refine J_if_ne 29 dX6_place_21 (by decide) h6 (fun c7 h8 => ?_) (fun c7 h8 => ?_)
    · clear h6
      refine J_bipush (-2 : Int32) dX6_place_24 (by decide) ?_
      refine J_goto 59 dX6_place_26 (by decide) ?_
      have hw := Option.some.inj h8; subst hw
      exact J_iret rfl dX6_place_59
    · clear h6
      refine J_aload_n 0 dX6_place_29 rfl rfl ?_
      refine J_ngetA (k := 39) (o := 18) dX6_place_30 gF_X6_74 ha rfl ?_
      refine J_bipush (12 : Int32) dX6_place_33 (by decide) ?_
      refine J_iload_n 1 dX6_place_35 rfl rfl ?_
      refine J_imul dX6_place_36 ?_
      refine J_iload_n 2 dX6_place_37 rfl rfl ?_
      refine J_iadd dX6_place_38 ?_
      obtain ⟨g9, h10⟩ := gd_some h8; clear h8
      refine J_nzald (k := 39) (o := 18) dX6_place_39 ha rfl rfl (by decide) g9 ?_
      refine J_if_eq 48 dX6_place_40 (by decide) h10 (fun c11 h12 => ?_) (fun c11 h12 => ?_)
      · clear h10
        refine J_aload_n 0 dX6_place_48 rfl rfl ?_
        refine J_ngetA (k := 38) (o := 17) dX6_place_49 gF_X6_71 ha rfl ?_
        refine J_bipush (12 : Int32) dX6_place_52 (by decide) ?_
        refine J_iload_n 1 dX6_place_54 rfl rfl ?_
        refine J_imul dX6_place_55 ?_
        refine J_iload_n 2 dX6_place_56 rfl rfl ?_
        refine J_iadd dX6_place_57 ?_
        obtain ⟨g13, h14⟩ := gd_some h12; clear h12
        refine J_niald (k := 38) (o := 17) dX6_place_58 ha rfl rfl (by decide) g13 ?_
        have hw := Option.some.inj h14; subst hw
        exact J_iret rfl dX6_place_59
      · clear h10
        refine J_bipush (-5 : Int32) dX6_place_43 (by decide) ?_
        refine J_goto 59 dX6_place_45 (by decide) ?_
        have hw := Option.some.inj h12; subst hw
        exact J_iret rfl dX6_place_59
def m_X6_fillings (S : MS) (i1 : Int32) : Option Int32 :=
  bnd (m_X6_isExercise S i1) fun i1_ =>
  if i1_ = 0 then
    (some (-1 : Int32))
  else
    (gd (inB i1 200) <|
    some (nA S 41 (Int32.toNatClampNeg i1)))
set_option maxRecDepth 100000 in
set_option maxHeartbeats 4000000 in
theorem t_X6_fillings {S : MS} {a0 : Nat} {i1 : Int32} {w : Int32} (ha : a0 = S.1) (h : m_X6_fillings S i1 = some w) : CT NX yX6_fillings cX6_fillings 2 (some .int) 2 46 [.ref a0, .int i1] S (some (.int w)) S := by
  refine CT.of (lv := [(0, .ref a0), (1, .int i1)]) (by decide) rfl (Nat.le_of_ble_eq_true rfl) ?_
  refine J_aload_n 0 dX6_fillings_0 rfl rfl ?_
  refine J_iload_n 1 dX6_fillings_1 rfl rfl ?_
  obtain ⟨i1_, ei1_, h2⟩ := bnd_some h; clear h
  refine J_callV (As := [.int i1]) (rest := []) (st' := [.int i1_]) (t_X6_isExercise ha ei1_) gC_X6_isExercise gM_X6_362 (by rw [ha]; exact nRecv) rfl (by decide) (by decide) rfl rfl (Nat.le_of_ble_eq_true rfl) dX6_fillings_2 ?_
  refine J_if_eq 17 dX6_fillings_5 (by decide) h2 (fun c3 h4 => ?_) (fun c3 h4 => ?_)
  · clear h2
    refine J_iconst (-1 : Int32) dX6_fillings_17 (by decide) ?_
    have hw := Option.some.inj h4; subst hw
    exact J_iret rfl dX6_fillings_18
  · clear h2
    refine J_aload_n 0 dX6_fillings_8 rfl rfl ?_
    refine J_ngetA (k := 41) (o := 20) dX6_fillings_9 gF_X6_80 ha rfl ?_
    refine J_iload_n 1 dX6_fillings_12 rfl rfl ?_
    obtain ⟨g5, h6⟩ := gd_some h4; clear h4
    refine J_niald (k := 41) (o := 20) dX6_fillings_13 ha rfl rfl (by decide) g5 ?_
    refine J_goto 18 dX6_fillings_14 (by decide) ?_
    have hw := Option.some.inj h6; subst hw
    exact J_iret rfl dX6_fillings_18
def m_X6_answer (S : MS) (i1 : Int32) (i2 : Int32) : Option Int32 :=
  bnd (m_X6_isExercise S i1) fun i1_ =>
  if i1_ = 0 then
    (some (-1 : Int32))
  else
    (bnd (m_X6_in (Int32.toInt64 i2) (0 : Int64) (11 : Int64)) fun i5_ =>
    if i5_ = 0 then
      (some (-2 : Int32))
    else
      (gd (inB (((12 : Int32) * i1) + i2) 2400) <|
      some (nA S 40 (Int32.toNatClampNeg (((12 : Int32) * i1) + i2)))))
set_option maxRecDepth 100000 in
set_option maxHeartbeats 4000000 in
theorem t_X6_answer {S : MS} {a0 : Nat} {i1 : Int32} {i2 : Int32} {w : Int32} (ha : a0 = S.1) (h : m_X6_answer S i1 i2 = some w) : CT NX yX6_answer cX6_answer 3 (some .int) 2 46 [.ref a0, .int i1, .int i2] S (some (.int w)) S := by
  refine CT.of (lv := [(0, .ref a0), (1, .int i1), (2, .int i2)]) (by decide) rfl (Nat.le_of_ble_eq_true rfl) ?_
  refine J_aload_n 0 dX6_answer_0 rfl rfl ?_
  refine J_iload_n 1 dX6_answer_1 rfl rfl ?_
  obtain ⟨i1_, ei1_, h2⟩ := bnd_some h; clear h
  refine J_callV (As := [.int i1]) (rest := []) (st' := [.int i1_]) (t_X6_isExercise ha ei1_) gC_X6_isExercise gM_X6_362 (by rw [ha]; exact nRecv) rfl (by decide) (by decide) rfl rfl (Nat.le_of_ble_eq_true rfl) dX6_answer_2 ?_
  refine J_if_ne 12 dX6_answer_5 (by decide) h2 (fun c3 h4 => ?_) (fun c3 h4 => ?_)
  · clear h2
    refine J_iconst (-1 : Int32) dX6_answer_8 (by decide) ?_
    refine J_goto 40 dX6_answer_9 (by decide) ?_
    have hw := Option.some.inj h4; subst hw
    exact J_iret rfl dX6_answer_40
  · clear h2
    refine J_iload_n 2 dX6_answer_12 rfl rfl ?_
    refine J_i2l dX6_answer_13 ?_
    refine J_lconst (0 : Int64) dX6_answer_14 (by decide) ?_
    refine J_ldc2 (11 : Int64) dX6_answer_15 gK_X6_365 ?_
    obtain ⟨i5_, ei5_, h6⟩ := bnd_some h4; clear h4
    refine J_callS (As := [.long (Int32.toInt64 i2), .long (0 : Int64), .long (11 : Int64)]) (rest := []) (st' := [.int i5_]) (t_X6_in ei5_) gC_X6_in gM_X6_92 rfl (by decide) (by decide) rfl rfl (Nat.le_of_ble_eq_true rfl) dX6_answer_18 ?_
    refine J_if_eq 38 dX6_answer_21 (by decide) h6 (fun c7 h8 => ?_) (fun c7 h8 => ?_)
    · clear h6
      refine J_bipush (-2 : Int32) dX6_answer_38 (by decide) ?_
      have hw := Option.some.inj h8; subst hw
      exact J_iret rfl dX6_answer_40
    · clear h6
      refine J_aload_n 0 dX6_answer_24 rfl rfl ?_
      refine J_ngetA (k := 40) (o := 19) dX6_answer_25 gF_X6_77 ha rfl ?_
      refine J_bipush (12 : Int32) dX6_answer_28 (by decide) ?_
      refine J_iload_n 1 dX6_answer_30 rfl rfl ?_
      refine J_imul dX6_answer_31 ?_
      refine J_iload_n 2 dX6_answer_32 rfl rfl ?_
      refine J_iadd dX6_answer_33 ?_
      obtain ⟨g9, h10⟩ := gd_some h8; clear h8
      refine J_niald (k := 40) (o := 19) dX6_answer_34 ha rfl rfl (by decide) g9 ?_
      refine J_goto 40 dX6_answer_35 (by decide) ?_
      have hw := Option.some.inj h10; subst hw
      exact J_iret rfl dX6_answer_40
def m_X6_told_L4 (S : MS) : Nat → Int32 → Int32 → Int32 → Option Int32
  | 0, _, _, _ => none
  | n + 1, i1, i2, i3 =>
    if (nF S 36) ≤ i3 then
      (if i1 = (0 : Int32) then
        (some (nF S 0))
      else if i1 = (1 : Int32) then
        (some (nF S 36))
      else if i1 = (2 : Int32) then
        (some (nF S 26))
      else if i1 = (3 : Int32) then
        (some (nF S 27))
      else if i1 = (4 : Int32) then
        (some (nF S 13))
      else if i1 = (5 : Int32) then
        (some (nF S 34))
      else if i1 = (6 : Int32) then
        (some i2)
      else (some (-2 : Int32)))
    else
      (gd (inB i3 200) <|
      if (nA S 41 (Int32.toNatClampNeg i3)) = (1 : Int32) then
        (jLet ((i2 + (1 : Int32))) fun i14_ =>
        m_X6_told_L4 S n i1 i14_ (i3 + (1 : Int32)))
      else
        (jLet ((i2 + (0 : Int32))) fun i16_ =>
        m_X6_told_L4 S n i1 i16_ (i3 + (1 : Int32))))
set_option maxRecDepth 100000 in
set_option maxHeartbeats 4000000 in
theorem t_X6_told_L4 {S : MS} {w : Int32} (n : Nat) : ∀ (a0 : Nat) (i1 : Int32) (i2 : Int32) (i3 : Int32), (a0 = S.1) → m_X6_told_L4 S n i1 i2 i3 = some w → J NX yX6_told cX6_told 4 (some .int) 0 0 4 [(0, .ref a0), (1, .int i1), (2, .int i2), (3, .int i3)] [] S (some (.int w)) S := by
  induction n with
  | zero => intro a0 i1 i2 i3 ha h; cases h
  | succ n lh =>
    intro a0 i1 i2 i3 ha h
    refine J_iload_n 3 dX6_told_4 rfl rfl ?_
    refine J_aload_n 0 dX6_told_5 rfl rfl ?_
    refine J_nget (k := 36) dX6_told_6 gF_X6_349 ha rfl ?_
    refine J_icmp_ge 36 dX6_told_9 (by decide) h (fun c1 h2 => ?_) (fun c1 h2 => ?_)
    · clear h
      refine J_iload_n 1 dX6_told_36 rfl rfl ?_
      by_cases c3 : i1 = (0 : Int32)
      · replace h2 := ifp c3 h2
        refine J_tabIn (0 : Int32) 80 dX6_told_37 c3 (by decide) (by decide) rfl (by decide) ?_
        refine J_aload_n 0 dX6_told_80 rfl rfl ?_
        refine J_nget (k := 0) dX6_told_81 gF_X6_89 ha rfl ?_
        have hw := Option.some.inj h2; subst hw
        exact J_iret rfl dX6_told_84
      replace h2 := ifn c3 h2
      by_cases c4 : i1 = (1 : Int32)
      · replace h2 := ifp c4 h2
        refine J_tabIn (1 : Int32) 85 dX6_told_37 c4 (by decide) (by decide) rfl (by decide) ?_
        refine J_aload_n 0 dX6_told_85 rfl rfl ?_
        refine J_nget (k := 36) dX6_told_86 gF_X6_349 ha rfl ?_
        have hw := Option.some.inj h2; subst hw
        exact J_iret rfl dX6_told_89
      replace h2 := ifn c4 h2
      by_cases c5 : i1 = (2 : Int32)
      · replace h2 := ifp c5 h2
        refine J_tabIn (2 : Int32) 90 dX6_told_37 c5 (by decide) (by decide) rfl (by decide) ?_
        refine J_aload_n 0 dX6_told_90 rfl rfl ?_
        refine J_nget (k := 26) dX6_told_91 gF_X6_245 ha rfl ?_
        have hw := Option.some.inj h2; subst hw
        exact J_iret rfl dX6_told_94
      replace h2 := ifn c5 h2
      by_cases c6 : i1 = (3 : Int32)
      · replace h2 := ifp c6 h2
        refine J_tabIn (3 : Int32) 95 dX6_told_37 c6 (by decide) (by decide) rfl (by decide) ?_
        refine J_aload_n 0 dX6_told_95 rfl rfl ?_
        refine J_nget (k := 27) dX6_told_96 gF_X6_251 ha rfl ?_
        have hw := Option.some.inj h2; subst hw
        exact J_iret rfl dX6_told_99
      replace h2 := ifn c6 h2
      by_cases c7 : i1 = (4 : Int32)
      · replace h2 := ifp c7 h2
        refine J_tabIn (4 : Int32) 100 dX6_told_37 c7 (by decide) (by decide) rfl (by decide) ?_
        refine J_aload_n 0 dX6_told_100 rfl rfl ?_
        refine J_nget (k := 13) dX6_told_101 gF_X6_96 ha rfl ?_
        have hw := Option.some.inj h2; subst hw
        exact J_iret rfl dX6_told_104
      replace h2 := ifn c7 h2
      by_cases c8 : i1 = (5 : Int32)
      · replace h2 := ifp c8 h2
        refine J_tabIn (5 : Int32) 105 dX6_told_37 c8 (by decide) (by decide) rfl (by decide) ?_
        refine J_aload_n 0 dX6_told_105 rfl rfl ?_
        refine J_nget (k := 34) dX6_told_106 gF_X6_329 ha rfl ?_
        have hw := Option.some.inj h2; subst hw
        exact J_iret rfl dX6_told_109
      replace h2 := ifn c8 h2
      by_cases c9 : i1 = (6 : Int32)
      · replace h2 := ifp c9 h2
        refine J_tabIn (6 : Int32) 110 dX6_told_37 c9 (by decide) (by decide) rfl (by decide) ?_
        refine J_iload_n 2 dX6_told_110 rfl rfl ?_
        have hw := Option.some.inj h2; subst hw
        exact J_iret rfl dX6_told_111
      replace h2 := ifn c9 h2
      have hout := tabOut (x := i1) (n := 6) (by decide) (fun k hk => by
        match k, hk with
        | 0, _ => exact c3
        | 1, _ => exact c4
        | 2, _ => exact c5
        | 3, _ => exact c6
        | 4, _ => exact c7
        | 5, _ => exact c8
        | 6, _ => exact c9
        | k + 7, hk => exact absurd hk (by omega))
      refine J_tabOut 112 dX6_told_37 hout (by decide) ?_
      refine J_bipush (-2 : Int32) dX6_told_112 (by decide) ?_
      have hw := Option.some.inj h2; subst hw
      exact J_iret rfl dX6_told_114
    · clear h
      refine J_iload_n 2 dX6_told_12 rfl rfl ?_
      refine J_aload_n 0 dX6_told_13 rfl rfl ?_
      refine J_ngetA (k := 41) (o := 20) dX6_told_14 gF_X6_80 ha rfl ?_
      refine J_iload_n 3 dX6_told_17 rfl rfl ?_
      obtain ⟨g10, h11⟩ := gd_some h2; clear h2
      refine J_niald (k := 41) (o := 20) dX6_told_18 ha rfl rfl (by decide) g10 ?_
      refine J_iconst (1 : Int32) dX6_told_19 (by decide) ?_
      refine J_icmp_ne 27 dX6_told_20 (by decide) h11 (fun c12 h13 => ?_) (fun c12 h13 => ?_)
      · clear h11
        refine J_iconst (1 : Int32) dX6_told_23 (by decide) ?_
        refine J_goto 28 dX6_told_24 (by decide) ?_
        refine J_iadd dX6_told_28 ?_
        obtain ⟨i14_, ei14_, h15⟩ := jLet_some h13; clear h13
        refine J_topI ei14_ ?_
        refine J_istore_n dX6_told_29 rfl (by decide) [1, 2, 0, 3] (lv' := [(0, .ref a0), (1, .int i1), (2, .int i14_), (3, .int i3)]) rfl ?_
        refine J_iinc 3 (1 : Int32) dX6_told_30 rfl (by decide) (by decide) [1, 2, 3, 0] (lv' := [(0, .ref a0), (1, .int i1), (2, .int i14_), (3, .int (i3 + (1 : Int32)))]) rfl ?_
        refine J_goto 4 dX6_told_33 (by decide) ?_
        exact lh a0 i1 i14_ (i3 + (1 : Int32)) ha h15
      · clear h11
        refine J_iconst (0 : Int32) dX6_told_27 (by decide) ?_
        refine J_iadd dX6_told_28 ?_
        obtain ⟨i16_, ei16_, h17⟩ := jLet_some h13; clear h13
        refine J_topI ei16_ ?_
        refine J_istore_n dX6_told_29 rfl (by decide) [1, 2, 0, 3] (lv' := [(0, .ref a0), (1, .int i1), (2, .int i16_), (3, .int i3)]) rfl ?_
        refine J_iinc 3 (1 : Int32) dX6_told_30 rfl (by decide) (by decide) [1, 2, 3, 0] (lv' := [(0, .ref a0), (1, .int i1), (2, .int i16_), (3, .int (i3 + (1 : Int32)))]) rfl ?_
        refine J_goto 4 dX6_told_33 (by decide) ?_
        exact lh a0 i1 i16_ (i3 + (1 : Int32)) ha h17
def m_X6_told (S : MS) (i1 : Int32) : Option Int32 :=
  m_X6_told_L4 S bigN i1 (0 : Int32) (0 : Int32)
set_option maxRecDepth 100000 in
set_option maxHeartbeats 4000000 in
theorem t_X6_told {S : MS} {a0 : Nat} {i1 : Int32} {w : Int32} (ha : a0 = S.1) (h : m_X6_told S i1 = some w) : CT NX yX6_told cX6_told 4 (some .int) 0 0 [.ref a0, .int i1] S (some (.int w)) S := by
  refine CT.of (lv := [(0, .ref a0), (1, .int i1)]) (by decide) rfl (Nat.le_of_ble_eq_true rfl) ?_
  refine J_iconst (0 : Int32) dX6_told_0 (by decide) ?_
  refine J_istore_n dX6_told_1 rfl (by decide) [1, 2, 0] (lv' := [(0, .ref a0), (1, .int i1), (2, .int (0 : Int32))]) rfl ?_
  refine J_iconst (0 : Int32) dX6_told_2 (by decide) ?_
  refine J_istore_n dX6_told_3 rfl (by decide) [1, 2, 3, 0] (lv' := [(0, .ref a0), (1, .int i1), (2, .int (0 : Int32)), (3, .int (0 : Int32))]) rfl ?_
  exact t_X6_told_L4 bigN a0 i1 (0 : Int32) (0 : Int32) ha h
def m_X6_fault (S : MS) : Option Int32 :=
  some (nF S 14)
set_option maxRecDepth 100000 in
set_option maxHeartbeats 4000000 in
theorem t_X6_fault {S : MS} {a0 : Nat} {w : Int32} (ha : a0 = S.1) (h : m_X6_fault S = some w) : CT NX yX6_fault cX6_fault 1 (some .int) 0 0 [.ref a0] S (some (.int w)) S := by
  refine CT.of (lv := [(0, .ref a0)]) (by decide) rfl (Nat.le_of_ble_eq_true rfl) ?_
  refine J_aload_n 0 dX6_fault_0 rfl rfl ?_
  refine J_nget (k := 14) dX6_fault_1 gF_X6_99 ha rfl ?_
  have hw := Option.some.inj h; subst hw
  exact J_iret rfl dX6_fault_4
