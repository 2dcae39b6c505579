def m_X6_in (j0 : Int64) (j2 : Int64) (j4 : Int64) : Option Int32 :=
  if j0 < j2 then
    (some (0 : Int32))
  else
    (if j4 < j0 then
      (some (0 : Int32))
    else
      (some (1 : Int32)))
set_option maxRecDepth 100000 in
set_option maxHeartbeats 4000000 in
theorem t_X6_in {S : MS} {j0 : Int64} {j2 : Int64} {j4 : Int64} {w : Int32} (h : m_X6_in j0 j2 j4 = some w) : CT NX yX6_in cX6_in 6 (some .boolean) 0 0 [.long j0, .long j2, .long j4] S (some (.int w)) S := by
  refine CT.of (lv := [(0, .long j0), (2, .long j2), (4, .long j4)]) (by decide) rfl (Nat.le_of_ble_eq_true rfl) ?_
  refine J_lload_n 0 dX6_in_0 rfl rfl ?_
  refine J_lload_n 1 dX6_in_1 rfl rfl ?_
  refine J_lcmp_lt 17 dX6_in_2 dX6_in_3 (by decide) h (fun c1 h2 => ?_) (fun c1 h2 => ?_)
  · clear h
    refine J_iconst (0 : Int32) dX6_in_17 (by decide) ?_
    have hw := Option.some.inj h2; subst hw
    exact J_zret rfl (by decide) dX6_in_18
  · clear h
    refine J_lload_n 0 dX6_in_6 rfl rfl ?_
    refine J_lload 2 dX6_in_7 rfl ?_
    refine J_lcmp_gt 17 dX6_in_9 dX6_in_10 (by decide) h2 (fun c3 h4 => ?_) (fun c3 h4 => ?_)
    · clear h2
      refine J_iconst (0 : Int32) dX6_in_17 (by decide) ?_
      have hw := Option.some.inj h4; subst hw
      exact J_zret rfl (by decide) dX6_in_18
    · clear h2
      refine J_iconst (1 : Int32) dX6_in_13 (by decide) ?_
      refine J_goto 18 dX6_in_14 (by decide) ?_
      have hw := Option.some.inj h4; subst hw
      exact J_zret rfl (by decide) dX6_in_18
def m_X6_isFrame (S : MS) (i1 : Int32) : Option Int32 :=
  bnd (m_X6_in (Int32.toInt64 i1) (0 : Int64) (Int32.toInt64 ((nF S 0) - (1 : Int32)))) fun i1_ =>
  gd (zb i1_) <|
  some i1_
set_option maxRecDepth 100000 in
set_option maxHeartbeats 4000000 in
theorem t_X6_isFrame {S : MS} {a0 : Nat} {i1 : Int32} {w : Int32} (ha : a0 = S.1) (h : m_X6_isFrame S i1 = some w) : CT NX yX6_isFrame cX6_isFrame 2 (some .boolean) 1 25 [.ref a0, .int i1] S (some (.int w)) S := by
  refine CT.of (lv := [(0, .ref a0), (1, .int i1)]) (by decide) rfl (Nat.le_of_ble_eq_true rfl) ?_
  refine J_iload_n 1 dX6_isFrame_0 rfl rfl ?_
  refine J_i2l dX6_isFrame_1 ?_
  refine J_lconst (0 : Int64) dX6_isFrame_2 (by decide) ?_
  refine J_aload_n 0 dX6_isFrame_3 rfl rfl ?_
  refine J_nget (k := 0) dX6_isFrame_4 gF_X6_89 ha rfl ?_
  refine J_iconst (1 : Int32) dX6_isFrame_7 (by decide) ?_
  refine J_isub dX6_isFrame_8 ?_
  refine J_i2l dX6_isFrame_9 ?_
  obtain ⟨i1_, ei1_, h2⟩ := bnd_some h; clear h
  refine J_callS (As := [.long (Int32.toInt64 i1), .long (0 : Int64), .long (Int32.toInt64 ((nF S 0) - (1 : Int32)))]) (rest := []) (st' := [.int i1_]) (t_X6_in ei1_) gC_X6_in gM_X6_92 rfl (by decide) (by decide) rfl rfl (Nat.le_of_ble_eq_true rfl) dX6_isFrame_10 ?_
  obtain ⟨g3, h4⟩ := gd_some h2; clear h2
  have hw := Option.some.inj h4; subst hw
  exact J_zret rfl (zb_of g3) dX6_isFrame_13
def m_X6_meets (S : MS) (i1 : Int32) : Option (Int32 × MS) :=
  jLet (((nF S 13) + (1 : Int32))) fun i1_ =>
  jLet (nSF S 13 i1_) fun S3 =>
  jLet (nSF S3 14 i1) fun S5 =>
  some (((-10 : Int32) - i1), S5)
set_option maxRecDepth 100000 in
set_option maxHeartbeats 4000000 in
theorem t_X6_meets {S : MS} {a0 : Nat} {i1 : Int32} {w : (Int32 × MS)} (ha : a0 = S.1) (h : m_X6_meets S i1 = some w) : CT NX yX6_meets cX6_meets 2 (some .int) 0 0 [.ref a0, .int i1] S (some (.int w.1)) w.2 := by
  refine CT.of (lv := [(0, .ref a0), (1, .int i1)]) (by decide) rfl (Nat.le_of_ble_eq_true rfl) ?_
  refine J_aload_n 0 dX6_meets_0 rfl rfl ?_
  refine J_dup dX6_meets_1 rfl ?_
  refine J_nget (k := 13) dX6_meets_2 gF_X6_96 ha rfl ?_
  refine J_iconst (1 : Int32) dX6_meets_5 (by decide) ?_
  refine J_iadd dX6_meets_6 ?_
  obtain ⟨i1_, ei1_, h2⟩ := jLet_some h; clear h
  refine J_topI ei1_ ?_
  refine J_nput (k := 13) dX6_meets_7 gW_X6_96 ha rfl rfl ?_
  obtain ⟨S3, eS3, h4⟩ := jLet_some h2; clear h2
  refine J_topS eS3 ?_
  have hS3_a0 : a0 = S3.1 := by rw [eS3]; exact ha
  refine J_aload_n 0 dX6_meets_10 rfl rfl ?_
  refine J_iload_n 1 dX6_meets_11 rfl rfl ?_
  refine J_nput (k := 14) dX6_meets_12 gW_X6_99 hS3_a0 rfl rfl ?_
  obtain ⟨S5, eS5, h6⟩ := jLet_some h4; clear h4
  refine J_topS eS5 ?_
  have hS5_a0 : a0 = S5.1 := by rw [eS5]; exact hS3_a0
  refine J_bipush (-10 : Int32) dX6_meets_15 (by decide) ?_
  refine J_iload_n 1 dX6_meets_17 rfl rfl ?_
  refine J_isub dX6_meets_18 ?_
  have hw := Option.some.inj h6; subst hw
  exact J_iret rfl dX6_meets_19
def m_X6_loses (S : MS) (i1 : Int32) : Option (Int64 × MS) :=
  bnd2 (m_X6_meets S i1) fun i1_ S2 =>
  some ((-9223372036854775808 : Int64), S2)
set_option maxRecDepth 100000 in
set_option maxHeartbeats 4000000 in
theorem t_X6_loses {S : MS} {a0 : Nat} {i1 : Int32} {w : (Int64 × MS)} (ha : a0 = S.1) (h : m_X6_loses S i1 = some w) : CT NX yX6_loses cX6_loses 3 (some .long) 1 21 [.ref a0, .int i1] S (some (.long w.1)) w.2 := by
  refine CT.of (lv := [(0, .ref a0), (1, .int i1)]) (by decide) rfl (Nat.le_of_ble_eq_true rfl) ?_
  refine J_aload_n 0 dX6_loses_0 rfl rfl ?_
  refine J_iload_n 1 dX6_loses_1 rfl rfl ?_
  obtain ⟨i1_, S2, ei1_, h3⟩ := bnd2_some h; clear h
  have cS2 := (t_X6_meets ha ei1_)
  have lS2 : jle NX S S2 := cS2.1
  have hS2_a0 : a0 = S2.1 := ha.trans (nle_eq lS2).symm
  refine J_callV (As := [.int i1]) (rest := []) (st' := [.int i1_]) cS2 gC_X6_meets gM_X6_102 (by rw [ha]; exact nRecv) rfl (by decide) (by decide) rfl rfl (Nat.le_of_ble_eq_true rfl) dX6_loses_2 ?_
  refine J_istore_n dX6_loses_5 rfl (by decide) [1] (lv' := [(0, .ref a0)]) rfl ?_
  refine J_ldc2 (-9223372036854775808 : Int64) dX6_loses_6 gK_X6_106 ?_
  have hw := Option.some.inj h3; subst hw
  exact J_lret rfl dX6_loses_9
def m_X6_kindOf (S : MS) (i1 : Int32) : Option Int32 :=
  gd (inB (i1 / (18 : Int32)) 30) <|
  some (nA S 1 (Int32.toNatClampNeg (i1 / (18 : Int32))))
set_option maxRecDepth 100000 in
set_option maxHeartbeats 4000000 in
theorem t_X6_kindOf {S : MS} {a0 : Nat} {i1 : Int32} {w : Int32} (ha : a0 = S.1) (h : m_X6_kindOf S i1 = some w) : CT NX yX6_kindOf cX6_kindOf 2 (some .int) 0 0 [.ref a0, .int i1] S (some (.int w)) S := by
  refine CT.of (lv := [(0, .ref a0), (1, .int i1)]) (by decide) rfl (Nat.le_of_ble_eq_true rfl) ?_
  refine J_aload_n 0 dX6_kindOf_0 rfl rfl ?_
  refine J_ngetA (k := 1) (o := 0) dX6_kindOf_1 gF_X6_7 ha rfl ?_
  refine J_iload_n 1 dX6_kindOf_4 rfl rfl ?_
  refine J_bipush (18 : Int32) dX6_kindOf_5 (by decide) ?_
  refine J_idiv dX6_kindOf_7 (by decide) ?_
  obtain ⟨g1, h2⟩ := gd_some h; clear h
  refine J_niald (k := 1) (o := 0) dX6_kindOf_8 ha rfl rfl (by decide) g1 ?_
  have hw := Option.some.inj h2; subst hw
  exact J_iret rfl dX6_kindOf_9
def m_X6_rodOf (S : MS) (i1 : Int32) (i2 : Int32) : Option Int32 :=
  gd (inB (((18 : Int32) * i1) + i2) 540) <|
  some (nA S 8 (Int32.toNatClampNeg (((18 : Int32) * i1) + i2)))
set_option maxRecDepth 100000 in
set_option maxHeartbeats 4000000 in
theorem t_X6_rodOf {S : MS} {a0 : Nat} {i1 : Int32} {i2 : Int32} {w : Int32} (ha : a0 = S.1) (h : m_X6_rodOf S i1 i2 = some w) : CT NX yX6_rodOf cX6_rodOf 3 (some .int) 0 0 [.ref a0, .int i1, .int i2] S (some (.int w)) S := by
  refine CT.of (lv := [(0, .ref a0), (1, .int i1), (2, .int i2)]) (by decide) rfl (Nat.le_of_ble_eq_true rfl) ?_
  refine J_aload_n 0 dX6_rodOf_0 rfl rfl ?_
  refine J_ngetA (k := 8) (o := 7) dX6_rodOf_1 gF_X6_31 ha rfl ?_
  refine J_bipush (18 : Int32) dX6_rodOf_4 (by decide) ?_
  refine J_iload_n 1 dX6_rodOf_6 rfl rfl ?_
  refine J_imul dX6_rodOf_7 ?_
  refine J_iload_n 2 dX6_rodOf_8 rfl rfl ?_
  refine J_iadd dX6_rodOf_9 ?_
  obtain ⟨g1, h2⟩ := gd_some h; clear h
  refine J_niald (k := 8) (o := 7) dX6_rodOf_10 ha rfl rfl (by decide) g1 ?_
  have hw := Option.some.inj h2; subst hw
  exact J_iret rfl dX6_rodOf_11
def m_X6_against_J41 (S : MS) (i3 : Int32) (is0 : Int32) : Option Int32 :=
  gd (inB i3 540) <|
  if 0 ≤ (nA S 9 (Int32.toNatClampNeg i3)) then
    (gd (inB i3 540) <|
    if is0 ≤ (nA S 9 (Int32.toNatClampNeg i3)) then
      (some (0 : Int32))
    else
      (some (2 : Int32)))
  else
    (some (1 : Int32))
set_option maxRecDepth 100000 in
set_option maxHeartbeats 4000000 in
theorem t_X6_against_J41 {S : MS} {a0 : Nat} {i3 : Int32} {is0 : Int32} {w : Int32} (ha : a0 = S.1) (h : m_X6_against_J41 S i3 is0 = some w) : J NX yX6_against cX6_against 5 (some .int) 1 25 41 [(0, .ref a0), (3, .int i3)] [.int is0] S (some (.int w)) S := by
  refine J_istore dX6_against_41 (by decide) [1, 2, 0] (lv' := [(0, .ref a0), (3, .int i3), (4, .int is0)]) rfl ?_
  refine J_aload_n 0 dX6_against_43 rfl rfl ?_
  refine J_ngetA (k := 9) (o := 8) dX6_against_44 gF_X6_34 ha rfl ?_
  refine J_iload_n 1 dX6_against_47 rfl rfl ?_
  obtain ⟨g1, h2⟩ := gd_some h; clear h
  refine J_niald (k := 9) (o := 8) dX6_against_48 ha rfl rfl (by decide) g1 ?_
  refine J_if_ge 56 dX6_against_49 (by decide) h2 (fun c3 h4 => ?_) (fun c3 h4 => ?_)
  · clear h2
    refine J_aload_n 0 dX6_against_56 rfl rfl ?_
    refine J_ngetA (k := 9) (o := 8) dX6_against_57 gF_X6_34 ha rfl ?_
    refine J_iload_n 1 dX6_against_60 rfl rfl ?_
    obtain ⟨g5, h6⟩ := gd_some h4; clear h4
    refine J_niald (k := 9) (o := 8) dX6_against_61 ha rfl rfl (by decide) g5 ?_
    refine J_iload 2 dX6_against_62 rfl ?_
    refine J_icmp_ge 71 dX6_against_64 (by decide) h6 (fun c7 h8 => ?_) (fun c7 h8 => ?_)
    · clear h6
      refine J_iconst (0 : Int32) dX6_against_71 (by decide) ?_
      have hw := Option.some.inj h8; subst hw
      exact J_iret rfl dX6_against_72
    · clear h6
      refine J_iconst (2 : Int32) dX6_against_67 (by decide) ?_
      refine J_goto 72 dX6_against_68 (by decide) ?_
      have hw := Option.some.inj h8; subst hw
      exact J_iret rfl dX6_against_72
  · clear h2
    refine J_iconst (1 : Int32) dX6_against_52 (by decide) ?_
    refine J_goto 72 dX6_against_53 (by decide) ?_
    have hw := Option.some.inj h4; subst hw
    exact J_iret rfl dX6_against_72
def m_X6_against (S : MS) (i1 : Int32) (i2 : Int32) : Option Int32 :=
  gd (inB i1 30) <|
  bnd (m_X6_in (Int32.toInt64 i2) (0 : Int64) (Int32.toInt64 ((nA S 2 (Int32.toNatClampNeg i1)) - (1 : Int32)))) fun i3_ =>
  if i3_ = 0 then
    (some (2 : Int32))
  else
    (bnd (m_X6_rodOf S i1 i2) fun i7_ =>
    bnd (m_X6_kindOf S i7_) fun i9_ =>
    if i9_ = (2 : Int32) then
      (m_X6_against_J41 S i7_ (1 : Int32))
    else
      (m_X6_against_J41 S i7_ (2 : Int32)))
set_option maxRecDepth 100000 in
set_option maxHeartbeats 4000000 in
theorem t_X6_against {S : MS} {a0 : Nat} {i1 : Int32} {i2 : Int32} {w : Int32} (ha : a0 = S.1) (h : m_X6_against S i1 i2 = some w) : CT NX yX6_against cX6_against 5 (some .int) 1 25 [.ref a0, .int i1, .int i2] S (some (.int w)) S := by
  refine CT.of (lv := [(0, .ref a0), (1, .int i1), (2, .int i2)]) (by decide) rfl (Nat.le_of_ble_eq_true rfl) ?_
  refine J_iload_n 2 dX6_against_0 rfl rfl ?_
  refine J_i2l dX6_against_1 ?_
  refine J_lconst (0 : Int64) dX6_against_2 (by decide) ?_
  refine J_aload_n 0 dX6_against_3 rfl rfl ?_
  refine J_ngetA (k := 2) (o := 1) dX6_against_4 gF_X6_13 ha rfl ?_
  refine J_iload_n 1 dX6_against_7 rfl rfl ?_
  obtain ⟨g1, h2⟩ := gd_some h; clear h
  refine J_niald (k := 2) (o := 1) dX6_against_8 ha rfl rfl (by decide) g1 ?_
  refine J_iconst (1 : Int32) dX6_against_9 (by decide) ?_
  refine J_isub dX6_against_10 ?_
  refine J_i2l dX6_against_11 ?_
  obtain ⟨i3_, ei3_, h4⟩ := bnd_some h2; clear h2
  refine J_callS (As := [.long (Int32.toInt64 i2), .long (0 : Int64), .long (Int32.toInt64 ((nA S 2 (Int32.toNatClampNeg i1)) - (1 : Int32)))]) (rest := []) (st' := [.int i3_]) (t_X6_in ei3_) gC_X6_in gM_X6_92 rfl (by decide) (by decide) rfl rfl (Nat.le_of_ble_eq_true rfl) dX6_against_12 ?_
  refine J_if_ne 20 dX6_against_15 (by decide) h4 (fun c5 h6 => ?_) (fun c5 h6 => ?_)
  · clear h4
    refine J_iconst (2 : Int32) dX6_against_18 (by decide) ?_
    have hw := Option.some.inj h6; subst hw
    exact J_iret rfl dX6_against_19
  · clear h4
    refine J_aload_n 0 dX6_against_20 rfl rfl ?_
    refine J_iload_n 1 dX6_against_21 rfl rfl ?_
    refine J_iload_n 2 dX6_against_22 rfl rfl ?_
    obtain ⟨i7_, ei7_, h8⟩ := bnd_some h6; clear h6
    refine J_callV (As := [.int i1, .int i2]) (rest := []) (st' := [.int i7_]) (t_X6_rodOf ha ei7_) gC_X6_rodOf gM_X6_108 (by rw [ha]; exact nRecv) rfl (by decide) (by decide) rfl rfl (Nat.le_of_ble_eq_true rfl) dX6_against_23 ?_
    refine J_istore_n dX6_against_26 rfl (by decide) [1, 0] (lv' := [(0, .ref a0), (3, .int i7_)]) rfl ?_
    refine J_aload_n 0 dX6_against_27 rfl rfl ?_
    refine J_iload_n 1 dX6_against_28 rfl rfl ?_
    obtain ⟨i9_, ei9_, h10⟩ := bnd_some h8; clear h8
    refine J_callV (As := [.int i7_]) (rest := []) (st' := [.int i9_]) (t_X6_kindOf ha ei9_) gC_X6_kindOf gM_X6_112 (by rw [ha]; exact nRecv) rfl (by decide) (by decide) rfl rfl (Nat.le_of_ble_eq_true rfl) dX6_against_29 ?_
    refine J_iconst (2 : Int32) dX6_against_32 (by decide) ?_
    refine J_icmp_ne 40 dX6_against_33 (by decide) h10 (fun c11 h12 => ?_) (fun c11 h12 => ?_)
    · clear h10
      refine J_iconst (1 : Int32) dX6_against_36 (by decide) ?_
      refine J_goto 41 dX6_against_37 (by decide) ?_
      exact t_X6_against_J41 ha h12
    · clear h10
      refine J_iconst (2 : Int32) dX6_against_40 (by decide) ?_
      exact t_X6_against_J41 ha h12
def m_X6_digitAt (S : MS) (i1 : Int32) : Option Int32 :=
  bnd (m_X6_kindOf S i1) fun i1_ =>
  if i1_ = (2 : Int32) then
    (gd (inB i1 540) <|
    some (nA S 10 (Int32.toNatClampNeg i1)))
  else
    (gd (inB i1 540) <|
    gd (inB i1 540) <|
    some ((nA S 10 (Int32.toNatClampNeg i1)) + ((5 : Int32) * (nA S 11 (Int32.toNatClampNeg i1)))))
set_option maxRecDepth 100000 in
set_option maxHeartbeats 4000000 in
theorem t_X6_digitAt {S : MS} {a0 : Nat} {i1 : Int32} {w : Int32} (ha : a0 = S.1) (h : m_X6_digitAt S i1 = some w) : CT NX yX6_digitAt cX6_digitAt 2 (some .int) 1 21 [.ref a0, .int i1] S (some (.int w)) S := by
  refine CT.of (lv := [(0, .ref a0), (1, .int i1)]) (by decide) rfl (Nat.le_of_ble_eq_true rfl) ?_
  refine J_aload_n 0 dX6_digitAt_0 rfl rfl ?_
  refine J_iload_n 1 dX6_digitAt_1 rfl rfl ?_
  obtain ⟨i1_, ei1_, h2⟩ := bnd_some h; clear h
  refine J_callV (As := [.int i1]) (rest := []) (st' := [.int i1_]) (t_X6_kindOf ha ei1_) gC_X6_kindOf gM_X6_112 (by rw [ha]; exact nRecv) rfl (by decide) (by decide) rfl rfl (Nat.le_of_ble_eq_true rfl) dX6_digitAt_2 ?_
  refine J_iconst (2 : Int32) dX6_digitAt_5 (by decide) ?_
  refine J_icmp_ne 18 dX6_digitAt_6 (by decide) h2 (fun c3 h4 => ?_) (fun c3 h4 => ?_)
  · clear h2
    refine J_aload_n 0 dX6_digitAt_9 rfl rfl ?_
    refine J_ngetA (k := 10) (o := 9) dX6_digitAt_10 gF_X6_37 ha rfl ?_
    refine J_iload_n 1 dX6_digitAt_13 rfl rfl ?_
    obtain ⟨g5, h6⟩ := gd_some h4; clear h4
    refine J_niald (k := 10) (o := 9) dX6_digitAt_14 ha rfl rfl (by decide) g5 ?_
    refine J_goto 33 dX6_digitAt_15 (by decide) ?_
    have hw := Option.some.inj h6; subst hw
    exact J_iret rfl dX6_digitAt_33
  · clear h2
    refine J_aload_n 0 dX6_digitAt_18 rfl rfl ?_
    refine J_ngetA (k := 10) (o := 9) dX6_digitAt_19 gF_X6_37 ha rfl ?_
    refine J_iload_n 1 dX6_digitAt_22 rfl rfl ?_
    obtain ⟨g7, h8⟩ := gd_some h4; clear h4
    refine J_niald (k := 10) (o := 9) dX6_digitAt_23 ha rfl rfl (by decide) g7 ?_
    refine J_iconst (5 : Int32) dX6_digitAt_24 (by decide) ?_
    refine J_aload_n 0 dX6_digitAt_25 rfl rfl ?_
    refine J_ngetA (k := 11) (o := 10) dX6_digitAt_26 gF_X6_40 ha rfl ?_
    refine J_iload_n 1 dX6_digitAt_29 rfl rfl ?_
    obtain ⟨g9, h10⟩ := gd_some h8; clear h8
    refine J_niald (k := 11) (o := 10) dX6_digitAt_30 ha rfl rfl (by decide) g9 ?_
    refine J_imul dX6_digitAt_31 ?_
    refine J_iadd dX6_digitAt_32 ?_
    have hw := Option.some.inj h10; subst hw
    exact J_iret rfl dX6_digitAt_33
def m_X6_upperOf (i0 : Int32) : Option Int32 :=
  if (i0 / (5 : Int32)) ≤ (2 : Int32) then
    (some (i0 / (5 : Int32)))
  else
    (some (2 : Int32))
set_option maxRecDepth 100000 in
set_option maxHeartbeats 4000000 in
theorem t_X6_upperOf {S : MS} {i0 : Int32} {w : Int32} (h : m_X6_upperOf i0 = some w) : CT NX yX6_upperOf cX6_upperOf 1 (some .int) 0 0 [.int i0] S (some (.int w)) S := by
  refine CT.of (lv := [(0, .int i0)]) (by decide) rfl (Nat.le_of_ble_eq_true rfl) ?_
  refine J_iload_n 0 dX6_upperOf_0 rfl rfl ?_
  refine J_iconst (5 : Int32) dX6_upperOf_1 (by decide) ?_
  refine J_idiv dX6_upperOf_2 (by decide) ?_
  refine J_iconst (2 : Int32) dX6_upperOf_3 (by decide) ?_
  refine J_icmp_le 11 dX6_upperOf_4 (by decide) h (fun c1 h2 => ?_) (fun c1 h2 => ?_)
  · clear h
    refine J_iload_n 0 dX6_upperOf_11 rfl rfl ?_
    refine J_iconst (5 : Int32) dX6_upperOf_12 (by decide) ?_
    refine J_idiv dX6_upperOf_13 (by decide) ?_
    have hw := Option.some.inj h2; subst hw
    exact J_iret rfl dX6_upperOf_14
  · clear h
    refine J_iconst (2 : Int32) dX6_upperOf_7 (by decide) ?_
    refine J_goto 14 dX6_upperOf_8 (by decide) ?_
    have hw := Option.some.inj h2; subst hw
    exact J_iret rfl dX6_upperOf_14
def m_X6_write_J32 (S : MS) (i1 : Int32) (i2 : Int32) (i3 : Int32) (is1 : Int32) (is2 : Int32) : Option MS :=
  gd (inB is1 540) <|
  jLet (nSA S 11 (Int32.toNatClampNeg is1) is2) fun S3 =>
  if i3 = 0 then
    (bnd (m_X6_upperOf i2) fun i7_ =>
    jLet ((i2 - ((5 : Int32) * i7_))) fun i9_ =>
    gd (inB i1 540) <|
    jLet (nSA S3 10 (Int32.toNatClampNeg i1) i9_) fun S13 =>
    some S13)
  else
    (gd (inB i1 540) <|
    jLet (nSA S3 10 (Int32.toNatClampNeg i1) i2) fun S17 =>
    some S17)
set_option maxRecDepth 100000 in
set_option maxHeartbeats 4000000 in
theorem t_X6_write_J32 {S : MS} {a0 : Nat} {i1 : Int32} {i2 : Int32} {i3 : Int32} {is1 : Int32} {is2 : Int32} {w : MS} (ha : a0 = S.1) (h : m_X6_write_J32 S i1 i2 i3 is1 is2 = some w) : J NX yX6_write cX6_write 4 none 1 21 32 [(0, .ref a0), (1, .int i1), (2, .int i2), (3, .int i3)] [.int is2, .int is1, .ref (a0 + 11)] S none w := by
  obtain ⟨g1, h2⟩ := gd_some h; clear h
  refine J_niast (k := 11) (o := 10) dX6_write_32 ha rfl rfl (by decide) g1 ?_
  obtain ⟨S3, eS3, h4⟩ := jLet_some h2; clear h2
  refine J_topS eS3 ?_
  have hS3_a0 : a0 = S3.1 := by rw [eS3]; exact ha
  refine J_aload_n 0 dX6_write_33 rfl rfl ?_
  refine J_ngetA (k := 10) (o := 9) dX6_write_34 gF_X6_37 hS3_a0 rfl ?_
  refine J_iload_n 1 dX6_write_37 rfl rfl ?_
  refine J_iload_n 3 dX6_write_38 rfl rfl ?_
  refine J_if_eq 46 dX6_write_39 (by decide) h4 (fun c5 h6 => ?_) (fun c5 h6 => ?_)
  · clear h4
    refine J_iload_n 2 dX6_write_46 rfl rfl ?_
    refine J_iconst (5 : Int32) dX6_write_47 (by decide) ?_
    refine J_iload_n 2 dX6_write_48 rfl rfl ?_
    obtain ⟨i7_, ei7_, h8⟩ := bnd_some h6; clear h6
    refine J_callS (As := [.int i2]) (rest := [.int (5 : Int32), .int i2, .int i1, .ref (a0 + 10)]) (st' := [.int i7_, .int (5 : Int32), .int i2, .int i1, .ref (a0 + 10)]) (t_X6_upperOf ei7_) gC_X6_upperOf gM_X6_115 rfl (by decide) (by decide) rfl rfl (Nat.le_of_ble_eq_true rfl) dX6_write_49 ?_
    refine J_imul dX6_write_52 ?_
    refine J_isub dX6_write_53 ?_
    obtain ⟨i9_, ei9_, h10⟩ := jLet_some h8; clear h8
    refine J_topI ei9_ ?_
    obtain ⟨g11, h12⟩ := gd_some h10; clear h10
    refine J_niast (k := 10) (o := 9) dX6_write_54 hS3_a0 rfl rfl (by decide) g11 ?_
    obtain ⟨S13, eS13, h14⟩ := jLet_some h12; clear h12
    refine J_topS eS13 ?_
    have hS13_a0 : a0 = S13.1 := by rw [eS13]; exact hS3_a0
    have hw := Option.some.inj h14; subst hw
    exact J_vret rfl dX6_write_55
  · clear h4
    refine J_iload_n 2 dX6_write_42 rfl rfl ?_
    refine J_goto 54 dX6_write_43 (by decide) ?_
    obtain ⟨g15, h16⟩ := gd_some h6; clear h6
    refine J_niast (k := 10) (o := 9) dX6_write_54 hS3_a0 rfl rfl (by decide) g15 ?_
    obtain ⟨S17, eS17, h18⟩ := jLet_some h16; clear h16
    refine J_topS eS17 ?_
    have hS17_a0 : a0 = S17.1 := by rw [eS17]; exact hS3_a0
    have hw := Option.some.inj h18; subst hw
    exact J_vret rfl dX6_write_55
def m_X6_write_J14 (S : MS) (i1 : Int32) (i2 : Int32) (is0 : Int32) : Option MS :=
  if is0 = 0 then
    (bnd (m_X6_upperOf i2) fun i3_ =>
    m_X6_write_J32 S i1 i2 is0 i1 i3_)
  else
    (m_X6_write_J32 S i1 i2 is0 i1 (0 : Int32))
set_option maxRecDepth 100000 in
set_option maxHeartbeats 4000000 in
theorem t_X6_write_J14 {S : MS} {a0 : Nat} {i1 : Int32} {i2 : Int32} {is0 : Int32} {w : MS} (ha : a0 = S.1) (h : m_X6_write_J14 S i1 i2 is0 = some w) : J NX yX6_write cX6_write 4 none 1 21 14 [(0, .ref a0), (1, .int i1), (2, .int i2)] [.int is0] S none w := by
  refine J_istore_n dX6_write_14 rfl (by decide) [1, 2, 3, 0] (lv' := [(0, .ref a0), (1, .int i1), (2, .int i2), (3, .int is0)]) rfl ?_
  refine J_aload_n 0 dX6_write_15 rfl rfl ?_
  refine J_ngetA (k := 11) (o := 10) dX6_write_16 gF_X6_40 ha rfl ?_
  refine J_iload_n 1 dX6_write_19 rfl rfl ?_
  refine J_iload_n 3 dX6_write_20 rfl rfl ?_
  refine J_if_eq 28 dX6_write_21 (by decide) h (fun c1 h2 => ?_) (fun c1 h2 => ?_)
  · clear h
    refine J_iload_n 2 dX6_write_28 rfl rfl ?_
    obtain ⟨i3_, ei3_, h4⟩ := bnd_some h2; clear h2
    refine J_callS (As := [.int i2]) (rest := [.int i1, .ref (a0 + 11)]) (st' := [.int i3_, .int i1, .ref (a0 + 11)]) (t_X6_upperOf ei3_) gC_X6_upperOf gM_X6_115 rfl (by decide) (by decide) rfl rfl (Nat.le_of_ble_eq_true rfl) dX6_write_29 ?_
    exact t_X6_write_J32 ha h4
  · clear h
    refine J_iconst (0 : Int32) dX6_write_24 (by decide) ?_
    refine J_goto 32 dX6_write_25 (by decide) ?_
    exact t_X6_write_J32 ha h2
def m_X6_write (S : MS) (i1 : Int32) (i2 : Int32) : Option MS :=
  bnd (m_X6_kindOf S i1) fun i1_ =>
  if i1_ = (2 : Int32) then
    (m_X6_write_J14 S i1 i2 (1 : Int32))
  else
    (m_X6_write_J14 S i1 i2 (0 : Int32))
set_option maxRecDepth 100000 in
set_option maxHeartbeats 4000000 in
theorem t_X6_write {S : MS} {a0 : Nat} {i1 : Int32} {i2 : Int32} {w : MS} (ha : a0 = S.1) (h : m_X6_write S i1 i2 = some w) : CT NX yX6_write cX6_write 4 none 1 21 [.ref a0, .int i1, .int i2] S none w := by
  refine CT.of (lv := [(0, .ref a0), (1, .int i1), (2, .int i2)]) (by decide) rfl (Nat.le_of_ble_eq_true rfl) ?_
  refine J_aload_n 0 dX6_write_0 rfl rfl ?_
  refine J_iload_n 1 dX6_write_1 rfl rfl ?_
  obtain ⟨i1_, ei1_, h2⟩ := bnd_some h; clear h
  refine J_callV (As := [.int i1]) (rest := []) (st' := [.int i1_]) (t_X6_kindOf ha ei1_) gC_X6_kindOf gM_X6_112 (by rw [ha]; exact nRecv) rfl (by decide) (by decide) rfl rfl (Nat.le_of_ble_eq_true rfl) dX6_write_2 ?_
  refine J_iconst (2 : Int32) dX6_write_5 (by decide) ?_
  refine J_icmp_ne 13 dX6_write_6 (by decide) h2 (fun c3 h4 => ?_) (fun c3 h4 => ?_)
  · clear h2
    refine J_iconst (1 : Int32) dX6_write_9 (by decide) ?_
    refine J_goto 14 dX6_write_10 (by decide) ?_
    exact t_X6_write_J14 ha h4
  · clear h2
    refine J_iconst (0 : Int32) dX6_write_13 (by decide) ?_
    exact t_X6_write_J14 ha h4
def m_X6_isProper_L4 (S : MS) : Nat → Int32 → Int32 → Int32 → Option Int32
  | 0, _, _, _ => none
  | n + 1, i1, i2, i3 =>
    gd (inB i1 30) <|
    if (nA S 2 (Int32.toNatClampNeg i1)) ≤ i3 then
      (gd (zb i2) <|
      some i2)
    else
      (bnd (m_X6_against S i1 i3) fun i7_ =>
      if i7_ = 0 then
        (bnd (m_X6_rodOf S i1 i3) fun i11_ =>
        bnd (m_X6_digitAt S i11_) fun i13_ =>
        if i2 = 0 then
          (m_X6_isProper_L4 S n i1 (0 : Int32) (i3 + (1 : Int32)))
        else
          (gd (inB i1 30) <|
          if (nA S 3 (Int32.toNatClampNeg i1)) ≤ i13_ then
            (m_X6_isProper_L4 S n i1 (0 : Int32) (i3 + (1 : Int32)))
          else
            (bnd (m_X6_kindOf S i11_) fun i21_ =>
            if i21_ = (2 : Int32) then
              (m_X6_isProper_L4 S n i1 (1 : Int32) (i3 + (1 : Int32)))
            else
              (gd (inB i11_ 540) <|
              bnd (m_X6_upperOf i13_) fun i27_ =>
              if (nA S 11 (Int32.toNatClampNeg i11_)) = i27_ then
                (m_X6_isProper_L4 S n i1 (1 : Int32) (i3 + (1 : Int32)))
              else
                (m_X6_isProper_L4 S n i1 (0 : Int32) (i3 + (1 : Int32)))))))
      else
        (m_X6_isProper_L4 S n i1 i2 (i3 + (1 : Int32))))
set_option maxRecDepth 100000 in
set_option maxHeartbeats 4000000 in
theorem t_X6_isProper_L4 {S : MS} {w : Int32} (n : Nat) : ∀ (a0 : Nat) (i1 : Int32) (i2 : Int32) (i3 : Int32), (a0 = S.1) → m_X6_isProper_L4 S n i1 i2 i3 = some w → J NX yX6_isProper cX6_isProper 6 (some .boolean) 2 49 4 [(0, .ref a0), (1, .int i1), (2, .int i2), (3, .int i3)] [] S (some (.int w)) S := by
  induction n with
  | zero => intro a0 i1 i2 i3 ha h; cases h
  | succ n lh =>
    intro a0 i1 i2 i3 ha h
    refine J_iload_n 3 dX6_isProper_4 rfl rfl ?_
    refine J_aload_n 0 dX6_isProper_5 rfl rfl ?_
    refine J_ngetA (k := 2) (o := 1) dX6_isProper_6 gF_X6_13 ha rfl ?_
    refine J_iload_n 1 dX6_isProper_9 rfl rfl ?_
    obtain ⟨g1, h2⟩ := gd_some h; clear h
    refine J_niald (k := 2) (o := 1) dX6_isProper_10 ha rfl rfl (by decide) g1 ?_
    refine J_icmp_ge 91 dX6_isProper_11 (by decide) h2 (fun c3 h4 => ?_) (fun c3 h4 => ?_)
    · clear h2
      refine J_iload_n 2 dX6_isProper_91 rfl rfl ?_
      obtain ⟨g5, h6⟩ := gd_some h4; clear h4
      have hw := Option.some.inj h6; subst hw
      exact J_zret rfl (zb_of g5) dX6_isProper_92
    · clear h2
      refine J_aload_n 0 dX6_isProper_14 rfl rfl ?_
      refine J_iload_n 1 dX6_isProper_15 rfl rfl ?_
      refine J_iload_n 3 dX6_isProper_16 rfl rfl ?_
      obtain ⟨i7_, ei7_, h8⟩ := bnd_some h4; clear h4
      refine J_callV (As := [.int i1, .int i3]) (rest := []) (st' := [.int i7_]) (t_X6_against ha ei7_) gC_X6_against gM_X6_118 (by rw [ha]; exact nRecv) rfl (by decide) (by decide) rfl rfl (Nat.le_of_ble_eq_true rfl) dX6_isProper_17 ?_
      refine J_if_ne 85 dX6_isProper_20 (by decide) h8 (fun c9 h10 => ?_) (fun c9 h10 => ?_)
      · clear h8
        refine J_aload_n 0 dX6_isProper_23 rfl rfl ?_
        refine J_iload_n 1 dX6_isProper_24 rfl rfl ?_
        refine J_iload_n 3 dX6_isProper_25 rfl rfl ?_
        obtain ⟨i11_, ei11_, h12⟩ := bnd_some h10; clear h10
        refine J_callV (As := [.int i1, .int i3]) (rest := []) (st' := [.int i11_]) (t_X6_rodOf ha ei11_) gC_X6_rodOf gM_X6_108 (by rw [ha]; exact nRecv) rfl (by decide) (by decide) rfl rfl (Nat.le_of_ble_eq_true rfl) dX6_isProper_26 ?_
        refine J_istore dX6_isProper_29 (by decide) [1, 2, 3, 4, 0] (lv' := [(0, .ref a0), (1, .int i1), (2, .int i2), (3, .int i3), (4, .int i11_)]) rfl ?_
        refine J_aload_n 0 dX6_isProper_31 rfl rfl ?_
        refine J_iload 4 dX6_isProper_32 rfl ?_
        obtain ⟨i13_, ei13_, h14⟩ := bnd_some h12; clear h12
        refine J_callV (As := [.int i11_]) (rest := []) (st' := [.int i13_]) (t_X6_digitAt ha ei13_) gC_X6_digitAt gM_X6_121 (by rw [ha]; exact nRecv) rfl (by decide) (by decide) rfl rfl (Nat.le_of_ble_eq_true rfl) dX6_isProper_34 ?_
        refine J_istore dX6_isProper_37 (by decide) [1, 2, 3, 4, 5, 0] (lv' := [(0, .ref a0), (1, .int i1), (2, .int i2), (3, .int i3), (4, .int i11_), (5, .int i13_)]) rfl ?_
        refine J_iload_n 2 dX6_isProper_39 rfl rfl ?_
        refine J_if_eq 83 dX6_isProper_40 (by decide) h14 (fun c15 h16 => ?_) (fun c15 h16 => ?_)
        · clear h14
          refine J_iconst (0 : Int32) dX6_isProper_83 (by decide) ?_
          refine J_istore_n dX6_isProper_84 rfl (by decide) [1, 2, 0, 3] (lv' := [(0, .ref a0), (1, .int i1), (2, .int (0 : Int32)), (3, .int i3)]) rfl ?_
          refine J_iinc 3 (1 : Int32) dX6_isProper_85 rfl (by decide) (by decide) [1, 2, 3, 0] (lv' := [(0, .ref a0), (1, .int i1), (2, .int (0 : Int32)), (3, .int (i3 + (1 : Int32)))]) rfl ?_
          refine J_goto 4 dX6_isProper_88 (by decide) ?_
          exact lh a0 i1 (0 : Int32) (i3 + (1 : Int32)) ha h16
        · clear h14
          refine J_iload 5 dX6_isProper_43 rfl ?_
          refine J_aload_n 0 dX6_isProper_45 rfl rfl ?_
          refine J_ngetA (k := 3) (o := 2) dX6_isProper_46 gF_X6_16 ha rfl ?_
          refine J_iload_n 1 dX6_isProper_49 rfl rfl ?_
          obtain ⟨g17, h18⟩ := gd_some h16; clear h16
          refine J_niald (k := 3) (o := 2) dX6_isProper_50 ha rfl rfl (by decide) g17 ?_
          refine J_icmp_ge 83 dX6_isProper_51 (by decide) h18 (fun c19 h20 => ?_) (fun c19 h20 => ?_)
          · clear h18
            refine J_iconst (0 : Int32) dX6_isProper_83 (by decide) ?_
            refine J_istore_n dX6_isProper_84 rfl (by decide) [1, 2, 0, 3] (lv' := [(0, .ref a0), (1, .int i1), (2, .int (0 : Int32)), (3, .int i3)]) rfl ?_
            refine J_iinc 3 (1 : Int32) dX6_isProper_85 rfl (by decide) (by decide) [1, 2, 3, 0] (lv' := [(0, .ref a0), (1, .int i1), (2, .int (0 : Int32)), (3, .int (i3 + (1 : Int32)))]) rfl ?_
            refine J_goto 4 dX6_isProper_88 (by decide) ?_
            exact lh a0 i1 (0 : Int32) (i3 + (1 : Int32)) ha h20
          · clear h18
            refine J_aload_n 0 dX6_isProper_54 rfl rfl ?_
            refine J_iload 4 dX6_isProper_55 rfl ?_
            obtain ⟨i21_, ei21_, h22⟩ := bnd_some h20; clear h20
            refine J_callV (As := [.int i11_]) (rest := []) (st' := [.int i21_]) (t_X6_kindOf ha ei21_) gC_X6_kindOf gM_X6_112 (by rw [ha]; exact nRecv) rfl (by decide) (by decide) rfl rfl (Nat.le_of_ble_eq_true rfl) dX6_isProper_57 ?_
            refine J_iconst (2 : Int32) dX6_isProper_60 (by decide) ?_
            refine J_icmp_eq 79 dX6_isProper_61 (by decide) h22 (fun c23 h24 => ?_) (fun c23 h24 => ?_)
            · clear h22
              refine J_iconst (1 : Int32) dX6_isProper_79 (by decide) ?_
              refine J_goto 84 dX6_isProper_80 (by decide) ?_
              refine J_istore_n dX6_isProper_84 rfl (by decide) [1, 2, 0, 3] (lv' := [(0, .ref a0), (1, .int i1), (2, .int (1 : Int32)), (3, .int i3)]) rfl ?_
              refine J_iinc 3 (1 : Int32) dX6_isProper_85 rfl (by decide) (by decide) [1, 2, 3, 0] (lv' := [(0, .ref a0), (1, .int i1), (2, .int (1 : Int32)), (3, .int (i3 + (1 : Int32)))]) rfl ?_
              refine J_goto 4 dX6_isProper_88 (by decide) ?_
              exact lh a0 i1 (1 : Int32) (i3 + (1 : Int32)) ha h24
            · clear h22
              refine J_aload_n 0 dX6_isProper_64 rfl rfl ?_
              refine J_ngetA (k := 11) (o := 10) dX6_isProper_65 gF_X6_40 ha rfl ?_
              refine J_iload 4 dX6_isProper_68 rfl ?_
              obtain ⟨g25, h26⟩ := gd_some h24; clear h24
              refine J_niald (k := 11) (o := 10) dX6_isProper_70 ha rfl rfl (by decide) g25 ?_
              refine J_iload 5 dX6_isProper_71 rfl ?_
              obtain ⟨i27_, ei27_, h28⟩ := bnd_some h26; clear h26
              refine J_callS (As := [.int i13_]) (rest := [.int (nA S 11 (Int32.toNatClampNeg i11_))]) (st' := [.int i27_, .int (nA S 11 (Int32.toNatClampNeg i11_))]) (t_X6_upperOf ei27_) gC_X6_upperOf gM_X6_115 rfl (by decide) (by decide) rfl rfl (Nat.le_of_ble_eq_true rfl) dX6_isProper_73 ?_
              refine J_icmp_ne 83 dX6_isProper_76 (by decide) h28 (fun c29 h30 => ?_) (fun c29 h30 => ?_)
              · clear h28
                refine J_iconst (1 : Int32) dX6_isProper_79 (by decide) ?_
                refine J_goto 84 dX6_isProper_80 (by decide) ?_
                refine J_istore_n dX6_isProper_84 rfl (by decide) [1, 2, 0, 3] (lv' := [(0, .ref a0), (1, .int i1), (2, .int (1 : Int32)), (3, .int i3)]) rfl ?_
                refine J_iinc 3 (1 : Int32) dX6_isProper_85 rfl (by decide) (by decide) [1, 2, 3, 0] (lv' := [(0, .ref a0), (1, .int i1), (2, .int (1 : Int32)), (3, .int (i3 + (1 : Int32)))]) rfl ?_
                refine J_goto 4 dX6_isProper_88 (by decide) ?_
                exact lh a0 i1 (1 : Int32) (i3 + (1 : Int32)) ha h30
              · clear h28
                refine J_iconst (0 : Int32) dX6_isProper_83 (by decide) ?_
                refine J_istore_n dX6_isProper_84 rfl (by decide) [1, 2, 0, 3] (lv' := [(0, .ref a0), (1, .int i1), (2, .int (0 : Int32)), (3, .int i3)]) rfl ?_
                refine J_iinc 3 (1 : Int32) dX6_isProper_85 rfl (by decide) (by decide) [1, 2, 3, 0] (lv' := [(0, .ref a0), (1, .int i1), (2, .int (0 : Int32)), (3, .int (i3 + (1 : Int32)))]) rfl ?_
                refine J_goto 4 dX6_isProper_88 (by decide) ?_
                exact lh a0 i1 (0 : Int32) (i3 + (1 : Int32)) ha h30
      · clear h8
        refine J_iinc 3 (1 : Int32) dX6_isProper_85 rfl (by decide) (by decide) [1, 2, 3, 0] (lv' := [(0, .ref a0), (1, .int i1), (2, .int i2), (3, .int (i3 + (1 : Int32)))]) rfl ?_
        refine J_goto 4 dX6_isProper_88 (by decide) ?_
        exact lh a0 i1 i2 (i3 + (1 : Int32)) ha h10
def m_X6_isProper (S : MS) (i1 : Int32) : Option Int32 :=
  m_X6_isProper_L4 S bigN i1 (1 : Int32) (0 : Int32)
set_option maxRecDepth 100000 in
set_option maxHeartbeats 4000000 in
theorem t_X6_isProper {S : MS} {a0 : Nat} {i1 : Int32} {w : Int32} (ha : a0 = S.1) (h : m_X6_isProper S i1 = some w) : CT NX yX6_isProper cX6_isProper 6 (some .boolean) 2 49 [.ref a0, .int i1] S (some (.int w)) S := by
  refine CT.of (lv := [(0, .ref a0), (1, .int i1)]) (by decide) rfl (Nat.le_of_ble_eq_true rfl) ?_
  refine J_iconst (1 : Int32) dX6_isProper_0 (by decide) ?_
  refine J_istore_n dX6_isProper_1 rfl (by decide) [1, 2, 0] (lv' := [(0, .ref a0), (1, .int i1), (2, .int (1 : Int32))]) rfl ?_
  refine J_iconst (0 : Int32) dX6_isProper_2 (by decide) ?_
  refine J_istore_n dX6_isProper_3 rfl (by decide) [1, 2, 3, 0] (lv' := [(0, .ref a0), (1, .int i1), (2, .int (1 : Int32)), (3, .int (0 : Int32))]) rfl ?_
  exact t_X6_isProper_L4 bigN a0 i1 (1 : Int32) (0 : Int32) ha h
def m_X6_shown_J69 (k13 : MS → Int32 → Int64 → Int64 → Int32 → Option (Int64 × MS)) (S : MS) (i1 : Int32) (j4 : Int64) (i6 : Int32) (js0 : Int64) (js1 : Int64) : Option (Int64 × MS) :=
  jLet ((js0 + js1)) fun j1_ =>
  gd (inB i1 30) <|
  jLet ((j4 * (Int32.toInt64 (nA S 3 (Int32.toNatClampNeg i1))))) fun j5_ =>
  k13 S i1 j1_ j5_ (i6 + (1 : Int32))
set_option maxRecDepth 100000 in
set_option maxHeartbeats 4000000 in
theorem t_X6_shown_J69 {k13 : MS → Int32 → Int64 → Int64 → Int32 → Option (Int64 × MS)} {S : MS} {a0 : Nat} {i1 : Int32} {j4 : Int64} {i6 : Int32} {js0 : Int64} {js1 : Int64} {w : (Int64 × MS)} (hk13 : ∀ (S : MS) (a0 : Nat) (i1 : Int32) (j2 : Int64) (j4 : Int64) (i6 : Int32), (a0 = S.1) → k13 S i1 j2 j4 i6 = some w → J NX yX6_shown cX6_shown 7 (some .long) 2 49 13 [(0, .ref a0), (1, .int i1), (2, .long j2), (4, .long j4), (6, .int i6)] [] S (some (.long w.1)) w.2) (ha : a0 = S.1) (h : m_X6_shown_J69 k13 S i1 j4 i6 js0 js1 = some w) : J NX yX6_shown cX6_shown 7 (some .long) 2 49 69 [(0, .ref a0), (1, .int i1), (4, .long j4), (6, .int i6)] [.long js1, .long js0] S (some (.long w.1)) w.2 := by
  refine J_ladd dX6_shown_69 ?_
  obtain ⟨j1_, ej1_, h2⟩ := jLet_some h; clear h
  refine J_topL ej1_ ?_
  refine J_lstore_n dX6_shown_70 rfl (by decide) [1, 2, 0, 3, 4] (lv' := [(0, .ref a0), (1, .int i1), (2, .long j1_), (4, .long j4), (6, .int i6)]) rfl ?_
  refine J_lload 3 dX6_shown_71 rfl ?_
  refine J_aload_n 0 dX6_shown_73 rfl rfl ?_
  refine J_ngetA (k := 3) (o := 2) dX6_shown_74 gF_X6_16 ha rfl ?_
  refine J_iload_n 1 dX6_shown_77 rfl rfl ?_
  obtain ⟨g3, h4⟩ := gd_some h2; clear h2
  refine J_niald (k := 3) (o := 2) dX6_shown_78 ha rfl rfl (by decide) g3 ?_
  refine J_i2l dX6_shown_79 ?_
  refine J_lmul dX6_shown_80 ?_
  obtain ⟨j5_, ej5_, h6⟩ := jLet_some h4; clear h4
  refine J_topL ej5_ ?_
  refine J_lstore dX6_shown_81 (by decide) [1, 2, 3, 0, 4] (lv' := [(0, .ref a0), (1, .int i1), (2, .long j1_), (4, .long j5_), (6, .int i6)]) rfl ?_
  refine J_iinc 4 (1 : Int32) dX6_shown_83 rfl (by decide) (by decide) [1, 2, 3, 4, 0] (lv' := [(0, .ref a0), (1, .int i1), (2, .long j1_), (4, .long j5_), (6, .int (i6 + (1 : Int32)))]) rfl ?_
  refine J_goto 13 dX6_shown_86 (by decide) ?_
  exact hk13 S a0 i1 j1_ j5_ (i6 + (1 : Int32)) ha h6
def m_X6_shown_L13 : Nat → MS → Int32 → Int64 → Int64 → Int32 → Option (Int64 × MS)
  | 0, _, _, _, _, _ => none
  | n + 1, S, i1, j2, j4, i6 =>
    gd (inB i1 30) <|
    if (nA S 2 (Int32.toNatClampNeg i1)) ≤ i6 then
      (some (j2, S))
    else
      (if (nF S 16) = 0 then
        (bnd (m_X6_against S i1 i6) fun i7_ =>
        jLet (nSF S 16 i7_) fun S9 =>
        if (nF S9 16) = 0 then
          (bnd (m_X6_rodOf S9 i1 i6) fun i13_ =>
          bnd (m_X6_digitAt S9 i13_) fun i15_ =>
          m_X6_shown_J69 (m_X6_shown_L13 n) S9 i1 j4 i6 j2 ((Int32.toInt64 i15_) * j4))
        else
          (m_X6_shown_J69 (m_X6_shown_L13 n) S9 i1 j4 i6 j2 (0 : Int64)))
      else
        (some (j2, S)))
set_option maxRecDepth 100000 in
set_option maxHeartbeats 4000000 in
theorem t_X6_shown_L13 {w : (Int64 × MS)} (n : Nat) : ∀ (S : MS) (a0 : Nat) (i1 : Int32) (j2 : Int64) (j4 : Int64) (i6 : Int32), (a0 = S.1) → m_X6_shown_L13 n S i1 j2 j4 i6 = some w → J NX yX6_shown cX6_shown 7 (some .long) 2 49 13 [(0, .ref a0), (1, .int i1), (2, .long j2), (4, .long j4), (6, .int i6)] [] S (some (.long w.1)) w.2 := by
  induction n with
  | zero => intro S a0 i1 j2 j4 i6 ha h; cases h
  | succ n lh =>
    intro S a0 i1 j2 j4 i6 ha h
    refine J_iload 4 dX6_shown_13 rfl ?_
    refine J_aload_n 0 dX6_shown_15 rfl rfl ?_
    refine J_ngetA (k := 2) (o := 1) dX6_shown_16 gF_X6_13 ha rfl ?_
    refine J_iload_n 1 dX6_shown_19 rfl rfl ?_
    obtain ⟨g1, h2⟩ := gd_some h; clear h
    refine J_niald (k := 2) (o := 1) dX6_shown_20 ha rfl rfl (by decide) g1 ?_
    refine J_icmp_ge 89 dX6_shown_21 (by decide) h2 (fun c3 h4 => ?_) (fun c3 h4 => ?_)
    · clear h2
      refine J_lload_n 2 dX6_shown_89 rfl rfl ?_
      have hw := Option.some.inj h4; subst hw
      exact J_lret rfl dX6_shown_90
    · clear h2
      refine J_aload_n 0 dX6_shown_24 rfl rfl ?_
      refine J_nget (k := 16) dX6_shown_25 gF_X6_124 ha rfl ?_
      refine J_if_ne 89 dX6_shown_28 (by decide) h4 (fun c5 h6 => ?_) (fun c5 h6 => ?_)
      · clear h4
        refine J_aload_n 0 dX6_shown_31 rfl rfl ?_
        refine J_aload_n 0 dX6_shown_32 rfl rfl ?_
        refine J_iload_n 1 dX6_shown_33 rfl rfl ?_
        refine J_iload 4 dX6_shown_34 rfl ?_
        obtain ⟨i7_, ei7_, h8⟩ := bnd_some h6; clear h6
        refine J_callV (As := [.int i1, .int i6]) (rest := [.ref a0]) (st' := [.int i7_, .ref a0]) (t_X6_against ha ei7_) gC_X6_against gM_X6_118 (by rw [ha]; exact nRecv) rfl (by decide) (by decide) rfl rfl (Nat.le_of_ble_eq_true rfl) dX6_shown_36 ?_
        refine J_nput (k := 16) dX6_shown_39 gW_X6_124 ha rfl rfl ?_
        obtain ⟨S9, eS9, h10⟩ := jLet_some h8; clear h8
        refine J_topS eS9 ?_
        have hS9_a0 : a0 = S9.1 := by rw [eS9]; exact ha
        refine J_lload_n 2 dX6_shown_42 rfl rfl ?_
        refine J_aload_n 0 dX6_shown_43 rfl rfl ?_
        refine J_nget (k := 16) dX6_shown_44 gF_X6_124 hS9_a0 rfl ?_
        refine J_if_ne 68 dX6_shown_47 (by decide) h10 (fun c11 h12 => ?_) (fun c11 h12 => ?_)
        · clear h10
          refine J_aload_n 0 dX6_shown_50 rfl rfl ?_
          refine J_aload_n 0 dX6_shown_51 rfl rfl ?_
          refine J_iload_n 1 dX6_shown_52 rfl rfl ?_
          refine J_iload 4 dX6_shown_53 rfl ?_
          obtain ⟨i13_, ei13_, h14⟩ := bnd_some h12; clear h12
          refine J_callV (As := [.int i1, .int i6]) (rest := [.ref a0, .long j2]) (st' := [.int i13_, .ref a0, .long j2]) (t_X6_rodOf hS9_a0 ei13_) gC_X6_rodOf gM_X6_108 (by rw [hS9_a0]; exact nRecv) rfl (by decide) (by decide) rfl rfl (Nat.le_of_ble_eq_true rfl) dX6_shown_55 ?_
          obtain ⟨i15_, ei15_, h16⟩ := bnd_some h14; clear h14
          refine J_callV (As := [.int i13_]) (rest := [.long j2]) (st' := [.int i15_, .long j2]) (t_X6_digitAt hS9_a0 ei15_) gC_X6_digitAt gM_X6_121 (by rw [hS9_a0]; exact nRecv) rfl (by decide) (by decide) rfl rfl (Nat.le_of_ble_eq_true rfl) dX6_shown_58 ?_
          refine J_i2l dX6_shown_61 ?_
          refine J_lload 3 dX6_shown_62 rfl ?_
          refine J_lmul dX6_shown_64 ?_
          refine J_goto 69 dX6_shown_65 (by decide) ?_
          refine J_lv [0, 1, 3, 4] rfl ?_
          exact t_X6_shown_J69 lh hS9_a0 h16
        · clear h10
          refine J_lconst (0 : Int64) dX6_shown_68 (by decide) ?_
          refine J_lv [0, 1, 3, 4] rfl ?_
          exact t_X6_shown_J69 lh hS9_a0 h12
      · clear h4
        refine J_lload_n 2 dX6_shown_89 rfl rfl ?_
        have hw := Option.some.inj h6; subst hw
        exact J_lret rfl dX6_shown_90
def m_X6_shown (S : MS) (i1 : Int32) : Option (Int64 × MS) :=
  jLet (nSF S 16 (0 : Int32)) fun S1 =>
  m_X6_shown_L13 bigN S1 i1 (0 : Int64) (1 : Int64) (0 : Int32)
set_option maxRecDepth 100000 in
set_option maxHeartbeats 4000000 in
theorem t_X6_shown {S : MS} {a0 : Nat} {i1 : Int32} {w : (Int64 × MS)} (ha : a0 = S.1) (h : m_X6_shown S i1 = some w) : CT NX yX6_shown cX6_shown 7 (some .long) 2 49 [.ref a0, .int i1] S (some (.long w.1)) w.2 := by
  refine CT.of (lv := [(0, .ref a0), (1, .int i1)]) (by decide) rfl (Nat.le_of_ble_eq_true rfl) ?_
  refine J_lconst (0 : Int64) dX6_shown_0 (by decide) ?_
  refine J_lstore_n dX6_shown_1 rfl (by decide) [1, 2, 0] (lv' := [(0, .ref a0), (1, .int i1), (2, .long (0 : Int64))]) rfl ?_
  refine J_lconst (1 : Int64) dX6_shown_2 (by decide) ?_
  refine J_lstore dX6_shown_3 (by decide) [1, 2, 3, 0] (lv' := [(0, .ref a0), (1, .int i1), (2, .long (0 : Int64)), (4, .long (1 : Int64))]) rfl ?_
  refine J_aload_n 0 dX6_shown_5 rfl rfl ?_
  refine J_iconst (0 : Int32) dX6_shown_6 (by decide) ?_
  refine J_nput (k := 16) dX6_shown_7 gW_X6_124 ha rfl rfl ?_
  obtain ⟨S1, eS1, h2⟩ := jLet_some h; clear h
  refine J_topS eS1 ?_
  have hS1_a0 : a0 = S1.1 := by rw [eS1]; exact ha
  refine J_iconst (0 : Int32) dX6_shown_10 (by decide) ?_
  refine J_istore dX6_shown_11 (by decide) [1, 2, 3, 4, 0] (lv' := [(0, .ref a0), (1, .int i1), (2, .long (0 : Int64)), (4, .long (1 : Int64)), (6, .int (0 : Int32))]) rfl ?_
  exact t_X6_shown_L13 bigN S1 a0 i1 (0 : Int64) (1 : Int64) (0 : Int32) hS1_a0 h2
def m_X6_digits_L5 : Nat → Int32 → Int32 → Int64 → Option Int32
  | 0, _, _, _ => none
  | n + 1, i2, i3, j4 =>
    if j4 ≤ (0 : Int64) then
      (some i3)
    else
      (gd (nzL (Int32.toInt64 i2)) <|
      jLet ((j4 / (Int32.toInt64 i2))) fun j5_ =>
      m_X6_digits_L5 n i2 (i3 + (1 : Int32)) j5_)
set_option maxRecDepth 100000 in
set_option maxHeartbeats 4000000 in
theorem t_X6_digits_L5 {S : MS} {w : Int32} (n : Nat) : ∀ (i2 : Int32) (i3 : Int32) (j4 : Int64), m_X6_digits_L5 n i2 i3 j4 = some w → J NX yX6_digits cX6_digits 6 (some .int) 0 0 5 [(2, .int i2), (3, .int i3), (4, .long j4)] [] S (some (.int w)) S := by
  induction n with
  | zero => intro i2 i3 j4 h; cases h
  | succ n lh =>
    intro i2 i3 j4 h
    refine J_lload 2 dX6_digits_5 rfl ?_
    refine J_lconst (0 : Int64) dX6_digits_7 (by decide) ?_
    refine J_lcmp_le 25 dX6_digits_8 dX6_digits_9 (by decide) h (fun c1 h2 => ?_) (fun c1 h2 => ?_)
    · clear h
      refine J_iload_n 1 dX6_digits_25 rfl rfl ?_
      have hw := Option.some.inj h2; subst hw
      exact J_iret rfl dX6_digits_26
    · clear h
      refine J_iinc 1 (1 : Int32) dX6_digits_12 rfl (by decide) (by decide) [1, 0, 2] (lv' := [(2, .int i2), (3, .int (i3 + (1 : Int32))), (4, .long j4)]) rfl ?_
      refine J_lload 2 dX6_digits_15 rfl ?_
      refine J_iload_n 0 dX6_digits_17 rfl rfl ?_
      refine J_i2l dX6_digits_18 ?_
      obtain ⟨g3, h4⟩ := gd_some h2; clear h2
      refine J_ldiv dX6_digits_19 (nzL_of g3) ?_
      obtain ⟨j5_, ej5_, h6⟩ := jLet_some h4; clear h4
      refine J_topL ej5_ ?_
      refine J_lstore dX6_digits_20 (by decide) [1, 2, 0] (lv' := [(2, .int i2), (3, .int (i3 + (1 : Int32))), (4, .long j5_)]) rfl ?_
      refine J_goto 5 dX6_digits_22 (by decide) ?_
      exact lh i2 (i3 + (1 : Int32)) j5_ h6
def m_X6_digits (j0 : Int64) (i2 : Int32) : Option Int32 :=
  m_X6_digits_L5 bigN i2 (0 : Int32) j0
set_option maxRecDepth 100000 in
set_option maxHeartbeats 4000000 in
theorem t_X6_digits {S : MS} {j0 : Int64} {i2 : Int32} {w : Int32} (h : m_X6_digits j0 i2 = some w) : CT NX yX6_digits cX6_digits 6 (some .int) 0 0 [.long j0, .int i2] S (some (.int w)) S := by
  refine CT.of (lv := [(0, .long j0), (2, .int i2)]) (by decide) rfl (Nat.le_of_ble_eq_true rfl) ?_
  refine J_iconst (0 : Int32) dX6_digits_0 (by decide) ?_
  refine J_istore_n dX6_digits_1 rfl (by decide) [1, 2, 0] (lv' := [(0, .long j0), (2, .int i2), (3, .int (0 : Int32))]) rfl ?_
  refine J_lload_n 0 dX6_digits_2 rfl rfl ?_
  refine J_lstore dX6_digits_3 (by decide) [2, 3, 0] (lv' := [(2, .int i2), (3, .int (0 : Int32)), (4, .long j0)]) rfl ?_
  exact t_X6_digits_L5 bigN i2 (0 : Int32) j0 h
def m_X6_power_L5 : Nat → Int32 → Int32 → Int64 → Int32 → Option Int64
  | 0, _, _, _, _ => none
  | n + 1, i0, i1, j2, i4 =>
    if i1 ≤ i4 then
      (some j2)
    else
      (jLet ((j2 * (Int32.toInt64 i0))) fun j3_ =>
      m_X6_power_L5 n i0 i1 j3_ (i4 + (1 : Int32)))
set_option maxRecDepth 100000 in
set_option maxHeartbeats 4000000 in
theorem t_X6_power_L5 {S : MS} {w : Int64} (n : Nat) : ∀ (i0 : Int32) (i1 : Int32) (j2 : Int64) (i4 : Int32), m_X6_power_L5 n i0 i1 j2 i4 = some w → J NX yX6_power cX6_power 5 (some .long) 0 0 5 [(0, .int i0), (1, .int i1), (2, .long j2), (4, .int i4)] [] S (some (.long w)) S := by
  induction n with
  | zero => intro i0 i1 j2 i4 h; cases h
  | succ n lh =>
    intro i0 i1 j2 i4 h
    refine J_iload 3 dX6_power_5 rfl ?_
    refine J_iload_n 1 dX6_power_7 rfl rfl ?_
    refine J_icmp_ge 22 dX6_power_8 (by decide) h (fun c1 h2 => ?_) (fun c1 h2 => ?_)
    · clear h
      refine J_lload_n 2 dX6_power_22 rfl rfl ?_
      have hw := Option.some.inj h2; subst hw
      exact J_lret rfl dX6_power_23
    · clear h
      refine J_lload_n 2 dX6_power_11 rfl rfl ?_
      refine J_iload_n 0 dX6_power_12 rfl rfl ?_
      refine J_i2l dX6_power_13 ?_
      refine J_lmul dX6_power_14 ?_
      obtain ⟨j3_, ej3_, h4⟩ := jLet_some h2; clear h2
      refine J_topL ej3_ ?_
      refine J_lstore_n dX6_power_15 rfl (by decide) [1, 2, 0, 3] (lv' := [(0, .int i0), (1, .int i1), (2, .long j3_), (4, .int i4)]) rfl ?_
      refine J_iinc 3 (1 : Int32) dX6_power_16 rfl (by decide) (by decide) [1, 2, 3, 0] (lv' := [(0, .int i0), (1, .int i1), (2, .long j3_), (4, .int (i4 + (1 : Int32)))]) rfl ?_
      refine J_goto 5 dX6_power_19 (by decide) ?_
      exact lh i0 i1 j3_ (i4 + (1 : Int32)) h4
def m_X6_power (i0 : Int32) (i1 : Int32) : Option Int64 :=
  m_X6_power_L5 bigN i0 i1 (1 : Int64) (0 : Int32)
set_option maxRecDepth 100000 in
set_option maxHeartbeats 4000000 in
theorem t_X6_power {S : MS} {i0 : Int32} {i1 : Int32} {w : Int64} (h : m_X6_power i0 i1 = some w) : CT NX yX6_power cX6_power 5 (some .long) 0 0 [.int i0, .int i1] S (some (.long w)) S := by
  refine CT.of (lv := [(0, .int i0), (1, .int i1)]) (by decide) rfl (Nat.le_of_ble_eq_true rfl) ?_
  refine J_lconst (1 : Int64) dX6_power_0 (by decide) ?_
  refine J_lstore_n dX6_power_1 rfl (by decide) [1, 2, 0] (lv' := [(0, .int i0), (1, .int i1), (2, .long (1 : Int64))]) rfl ?_
  refine J_iconst (0 : Int32) dX6_power_2 (by decide) ?_
  refine J_istore dX6_power_3 (by decide) [1, 2, 3, 0] (lv' := [(0, .int i0), (1, .int i1), (2, .long (1 : Int64)), (4, .int (0 : Int32))]) rfl ?_
  exact t_X6_power_L5 bigN i0 i1 (1 : Int64) (0 : Int32) h
def m_X6_digitOf_L6 : Nat → Int32 → Int32 → Int64 → Int32 → Option Int32
  | 0, _, _, _, _ => none
  | n + 1, i2, i3, j4, i6 =>
    if i3 ≤ i6 then
      (gd (nzL (Int32.toInt64 i2)) <|
      some (Int64.toInt32 (j4 - j4 / (Int32.toInt64 i2) * (Int32.toInt64 i2))))
    else
      (gd (nzL (Int32.toInt64 i2)) <|
      jLet ((j4 / (Int32.toInt64 i2))) fun j7_ =>
      m_X6_digitOf_L6 n i2 i3 j7_ (i6 + (1 : Int32)))
set_option maxRecDepth 100000 in
set_option maxHeartbeats 4000000 in
theorem t_X6_digitOf_L6 {S : MS} {w : Int32} (n : Nat) : ∀ (i2 : Int32) (i3 : Int32) (j4 : Int64) (i6 : Int32), m_X6_digitOf_L6 n i2 i3 j4 i6 = some w → J NX yX6_digitOf cX6_digitOf 7 (some .int) 0 0 6 [(2, .int i2), (3, .int i3), (4, .long j4), (6, .int i6)] [] S (some (.int w)) S := by
  induction n with
  | zero => intro i2 i3 j4 i6 h; cases h
  | succ n lh =>
    intro i2 i3 j4 i6 h
    refine J_iload 3 dX6_digitOf_6 rfl ?_
    refine J_iload_n 1 dX6_digitOf_8 rfl rfl ?_
    refine J_icmp_ge 25 dX6_digitOf_9 (by decide) h (fun c1 h2 => ?_) (fun c1 h2 => ?_)
    · clear h
      refine J_lload 2 dX6_digitOf_25 rfl ?_
      refine J_iload_n 0 dX6_digitOf_27 rfl rfl ?_
      refine J_i2l dX6_digitOf_28 ?_
      obtain ⟨g3, h4⟩ := gd_some h2; clear h2
      refine J_lrem dX6_digitOf_29 (nzL_of g3) ?_
      refine J_l2i dX6_digitOf_30 ?_
      have hw := Option.some.inj h4; subst hw
      exact J_iret rfl dX6_digitOf_31
    · clear h
      refine J_lload 2 dX6_digitOf_12 rfl ?_
      refine J_iload_n 0 dX6_digitOf_14 rfl rfl ?_
      refine J_i2l dX6_digitOf_15 ?_
      obtain ⟨g5, h6⟩ := gd_some h2; clear h2
      refine J_ldiv dX6_digitOf_16 (nzL_of g5) ?_
      obtain ⟨j7_, ej7_, h8⟩ := jLet_some h6; clear h6
      refine J_topL ej7_ ?_
      refine J_lstore dX6_digitOf_17 (by decide) [1, 2, 0, 3] (lv' := [(2, .int i2), (3, .int i3), (4, .long j7_), (6, .int i6)]) rfl ?_
      refine J_iinc 3 (1 : Int32) dX6_digitOf_19 rfl (by decide) (by decide) [1, 2, 3, 0] (lv' := [(2, .int i2), (3, .int i3), (4, .long j7_), (6, .int (i6 + (1 : Int32)))]) rfl ?_
      refine J_goto 6 dX6_digitOf_22 (by decide) ?_
      exact lh i2 i3 j7_ (i6 + (1 : Int32)) h8
def m_X6_digitOf (j0 : Int64) (i2 : Int32) (i3 : Int32) : Option Int32 :=
  m_X6_digitOf_L6 bigN i2 i3 j0 (0 : Int32)
set_option maxRecDepth 100000 in
set_option maxHeartbeats 4000000 in
theorem t_X6_digitOf {S : MS} {j0 : Int64} {i2 : Int32} {i3 : Int32} {w : Int32} (h : m_X6_digitOf j0 i2 i3 = some w) : CT NX yX6_digitOf cX6_digitOf 7 (some .int) 0 0 [.long j0, .int i2, .int i3] S (some (.int w)) S := by
  refine CT.of (lv := [(0, .long j0), (2, .int i2), (3, .int i3)]) (by decide) rfl (Nat.le_of_ble_eq_true rfl) ?_
  refine J_lload_n 0 dX6_digitOf_0 rfl rfl ?_
  refine J_lstore dX6_digitOf_1 (by decide) [2, 3, 0] (lv' := [(2, .int i2), (3, .int i3), (4, .long j0)]) rfl ?_
  refine J_iconst (0 : Int32) dX6_digitOf_3 (by decide) ?_
  refine J_istore dX6_digitOf_4 (by decide) [1, 2, 3, 0] (lv' := [(2, .int i2), (3, .int i3), (4, .long j0), (6, .int (0 : Int32))]) rfl ?_
  exact t_X6_digitOf_L6 bigN i2 i3 j0 (0 : Int32) h
def m_X6_frame_J149 (k109 : MS → Int32 → Int32 → Int32 → Int32 → Option (Int32 × MS)) (S : MS) (i1 : Int32) (i2 : Int32) (i3 : Int32) (i4 : Int32) (i5 : Int32) (is1 : Int32) (is2 : Int32) : Option (Int32 × MS) :=
  gd (inB is1 540) <|
  jLet (nSA S 9 (Int32.toNatClampNeg is1) is2) fun S3 =>
  gd (inB i5 540) <|
  jLet (nSA S3 10 (Int32.toNatClampNeg i5) (0 : Int32)) fun S7 =>
  gd (inB i5 540) <|
  jLet (nSA S7 11 (Int32.toNatClampNeg i5) (0 : Int32)) fun S11 =>
  k109 S11 i1 i2 i3 (i4 + (1 : Int32))
set_option maxRecDepth 100000 in
set_option maxHeartbeats 4000000 in
theorem t_X6_frame_J149 {k109 : MS → Int32 → Int32 → Int32 → Int32 → Option (Int32 × MS)} {S : MS} {a0 : Nat} {i1 : Int32} {i2 : Int32} {i3 : Int32} {i4 : Int32} {i5 : Int32} {is1 : Int32} {is2 : Int32} {w : (Int32 × MS)} (hk109 : ∀ (S : MS) (a0 : Nat) (i1 : Int32) (i2 : Int32) (i3 : Int32) (i4 : Int32), (a0 = S.1) → k109 S i1 i2 i3 i4 = some w → J NX yX6_frame cX6_frame 6 (some .int) 1 25 109 [(0, .ref a0), (1, .int i1), (2, .int i2), (3, .int i3), (4, .int i4)] [] S (some (.int w.1)) w.2) (ha : a0 = S.1) (h : m_X6_frame_J149 k109 S i1 i2 i3 i4 i5 is1 is2 = some w) : J NX yX6_frame cX6_frame 6 (some .int) 1 25 149 [(0, .ref a0), (1, .int i1), (2, .int i2), (3, .int i3), (4, .int i4), (5, .int i5)] [.int is2, .int is1, .ref (a0 + 9)] S (some (.int w.1)) w.2 := by
  obtain ⟨g1, h2⟩ := gd_some h; clear h
  refine J_niast (k := 9) (o := 8) dX6_frame_149 ha rfl rfl (by decide) g1 ?_
  obtain ⟨S3, eS3, h4⟩ := jLet_some h2; clear h2
  refine J_topS eS3 ?_
  have hS3_a0 : a0 = S3.1 := by rw [eS3]; exact ha
  refine J_aload_n 0 dX6_frame_150 rfl rfl ?_
  refine J_ngetA (k := 10) (o := 9) dX6_frame_151 gF_X6_37 hS3_a0 rfl ?_
  refine J_iload 5 dX6_frame_154 rfl ?_
  refine J_iconst (0 : Int32) dX6_frame_156 (by decide) ?_
  obtain ⟨g5, h6⟩ := gd_some h4; clear h4
  refine J_niast (k := 10) (o := 9) dX6_frame_157 hS3_a0 rfl rfl (by decide) g5 ?_
  obtain ⟨S7, eS7, h8⟩ := jLet_some h6; clear h6
  refine J_topS eS7 ?_
  have hS7_a0 : a0 = S7.1 := by rw [eS7]; exact hS3_a0
  refine J_aload_n 0 dX6_frame_158 rfl rfl ?_
  refine J_ngetA (k := 11) (o := 10) dX6_frame_159 gF_X6_40 hS7_a0 rfl ?_
  refine J_iload 5 dX6_frame_162 rfl ?_
  refine J_iconst (0 : Int32) dX6_frame_164 (by decide) ?_
  obtain ⟨g9, h10⟩ := gd_some h8; clear h8
  refine J_niast (k := 11) (o := 10) dX6_frame_165 hS7_a0 rfl rfl (by decide) g9 ?_
  obtain ⟨S11, eS11, h12⟩ := jLet_some h10; clear h10
  refine J_topS eS11 ?_
  have hS11_a0 : a0 = S11.1 := by rw [eS11]; exact hS7_a0
  refine J_iinc 4 (1 : Int32) dX6_frame_166 rfl (by decide) (by decide) [1, 2, 3, 4, 0, 5] (lv' := [(0, .ref a0), (1, .int i1), (2, .int i2), (3, .int i3), (4, .int (i4 + (1 : Int32))), (5, .int i5)]) rfl ?_
  refine J_goto 109 dX6_frame_169 (by decide) ?_
  refine J_lv [0, 1, 2, 3, 4] rfl ?_
  exact hk109 S11 a0 i1 i2 i3 (i4 + (1 : Int32)) hS11_a0 h12
def m_X6_frame_L109 : Nat → MS → Int32 → Int32 → Int32 → Int32 → Option (Int32 × MS)
  | 0, _, _, _, _, _ => none
  | n + 1, S, i1, i2, i3, i4 =>
    if i2 ≤ i4 then
      (jLet (((nF S 0) + (1 : Int32))) fun i3_ =>
      jLet (nSF S 0 i3_) fun S5 =>
      some (i3, S5))
    else
      (jLet ((((18 : Int32) * i3) + i4)) fun i7_ =>
      gd (inB i7_ 540) <|
      jLet (nSA S 8 (Int32.toNatClampNeg i7_) i7_) fun S11 =>
      if i1 = (2 : Int32) then
        (m_X6_frame_J149 (m_X6_frame_L109 n) S11 i1 i2 i3 i4 i7_ i7_ (1 : Int32))
      else
        (m_X6_frame_J149 (m_X6_frame_L109 n) S11 i1 i2 i3 i4 i7_ i7_ (2 : Int32)))
set_option maxRecDepth 100000 in
set_option maxHeartbeats 4000000 in
theorem t_X6_frame_L109 {w : (Int32 × MS)} (n : Nat) : ∀ (S : MS) (a0 : Nat) (i1 : Int32) (i2 : Int32) (i3 : Int32) (i4 : Int32), (a0 = S.1) → m_X6_frame_L109 n S i1 i2 i3 i4 = some w → J NX yX6_frame cX6_frame 6 (some .int) 1 25 109 [(0, .ref a0), (1, .int i1), (2, .int i2), (3, .int i3), (4, .int i4)] [] S (some (.int w.1)) w.2 := by
  induction n with
  | zero => intro S a0 i1 i2 i3 i4 ha h; cases h
  | succ n lh =>
    intro S a0 i1 i2 i3 i4 ha h
    refine J_iload 4 dX6_frame_109 rfl ?_
    refine J_iload_n 2 dX6_frame_111 rfl rfl ?_
    refine J_icmp_ge 172 dX6_frame_112 (by decide) h (fun c1 h2 => ?_) (fun c1 h2 => ?_)
    · clear h
      refine J_aload_n 0 dX6_frame_172 rfl rfl ?_
      refine J_dup dX6_frame_173 rfl ?_
      refine J_nget (k := 0) dX6_frame_174 gF_X6_89 ha rfl ?_
      refine J_iconst (1 : Int32) dX6_frame_177 (by decide) ?_
      refine J_iadd dX6_frame_178 ?_
      obtain ⟨i3_, ei3_, h4⟩ := jLet_some h2; clear h2
      refine J_topI ei3_ ?_
      refine J_nput (k := 0) dX6_frame_179 gW_X6_89 ha rfl rfl ?_
      obtain ⟨S5, eS5, h6⟩ := jLet_some h4; clear h4
      refine J_topS eS5 ?_
      have hS5_a0 : a0 = S5.1 := by rw [eS5]; exact ha
      refine J_iload_n 3 dX6_frame_182 rfl rfl ?_
      have hw := Option.some.inj h6; subst hw
      exact J_iret rfl dX6_frame_183
    · clear h
      refine J_bipush (18 : Int32) dX6_frame_115 (by decide) ?_
      refine J_iload_n 3 dX6_frame_117 rfl rfl ?_
      refine J_imul dX6_frame_118 ?_
      refine J_iload 4 dX6_frame_119 rfl ?_
      refine J_iadd dX6_frame_121 ?_
      obtain ⟨i7_, ei7_, h8⟩ := jLet_some h2; clear h2
      refine J_topI ei7_ ?_
      refine J_istore dX6_frame_122 (by decide) [1, 2, 3, 4, 5, 0] (lv' := [(0, .ref a0), (1, .int i1), (2, .int i2), (3, .int i3), (4, .int i4), (5, .int i7_)]) rfl ?_
      refine J_aload_n 0 dX6_frame_124 rfl rfl ?_
      refine J_ngetA (k := 8) (o := 7) dX6_frame_125 gF_X6_31 ha rfl ?_
      refine J_iload 5 dX6_frame_128 rfl ?_
      refine J_iload 5 dX6_frame_130 rfl ?_
      obtain ⟨g9, h10⟩ := gd_some h8; clear h8
      refine J_niast (k := 8) (o := 7) dX6_frame_132 ha rfl rfl (by decide) g9 ?_
      obtain ⟨S11, eS11, h12⟩ := jLet_some h10; clear h10
      refine J_topS eS11 ?_
      have hS11_a0 : a0 = S11.1 := by rw [eS11]; exact ha
      refine J_aload_n 0 dX6_frame_133 rfl rfl ?_
      refine J_ngetA (k := 9) (o := 8) dX6_frame_134 gF_X6_34 hS11_a0 rfl ?_
      refine J_iload 5 dX6_frame_137 rfl ?_
      refine J_iload_n 1 dX6_frame_139 rfl rfl ?_
      refine J_iconst (2 : Int32) dX6_frame_140 (by decide) ?_
      refine J_icmp_ne 148 dX6_frame_141 (by decide) h12 (fun c13 h14 => ?_) (fun c13 h14 => ?_)
      · clear h12
        refine J_iconst (1 : Int32) dX6_frame_144 (by decide) ?_
        refine J_goto 149 dX6_frame_145 (by decide) ?_
        exact t_X6_frame_J149 lh hS11_a0 h14
      · clear h12
        refine J_iconst (2 : Int32) dX6_frame_148 (by decide) ?_
        exact t_X6_frame_J149 lh hS11_a0 h14
def m_X6_frame_J89 (S : MS) (i1 : Int32) (i2 : Int32) (i3 : Int32) (is1 : Int32) (is2 : Int32) : Option (Int32 × MS) :=
  gd (inB is1 30) <|
  jLet (nSA S 3 (Int32.toNatClampNeg is1) is2) fun S3 =>
  gd (inB i3 30) <|
  jLet (nSA S3 4 (Int32.toNatClampNeg i3) (0 : Int32)) fun S7 =>
  jLet (((1 : Int32) <<< (i3 &&& 31))) fun i9_ =>
  gd (inB i3 30) <|
  jLet (nSA S7 7 (Int32.toNatClampNeg i3) i9_) fun S13 =>
  m_X6_frame_L109 bigN S13 i1 i2 i3 (0 : Int32)
set_option maxRecDepth 100000 in
set_option maxHeartbeats 4000000 in
theorem t_X6_frame_J89 {S : MS} {a0 : Nat} {i1 : Int32} {i2 : Int32} {i3 : Int32} {is1 : Int32} {is2 : Int32} {w : (Int32 × MS)} (ha : a0 = S.1) (h : m_X6_frame_J89 S i1 i2 i3 is1 is2 = some w) : J NX yX6_frame cX6_frame 6 (some .int) 1 25 89 [(0, .ref a0), (1, .int i1), (2, .int i2), (3, .int i3)] [.int is2, .int is1, .ref (a0 + 3)] S (some (.int w.1)) w.2 := by
  obtain ⟨g1, h2⟩ := gd_some h; clear h
  refine J_niast (k := 3) (o := 2) dX6_frame_89 ha rfl rfl (by decide) g1 ?_
  obtain ⟨S3, eS3, h4⟩ := jLet_some h2; clear h2
  refine J_topS eS3 ?_
  have hS3_a0 : a0 = S3.1 := by rw [eS3]; exact ha
  refine J_aload_n 0 dX6_frame_90 rfl rfl ?_
  refine J_ngetA (k := 4) (o := 3) dX6_frame_91 gF_X6_19 hS3_a0 rfl ?_
  refine J_iload_n 3 dX6_frame_94 rfl rfl ?_
  refine J_iconst (0 : Int32) dX6_frame_95 (by decide) ?_
  obtain ⟨g5, h6⟩ := gd_some h4; clear h4
  refine J_niast (k := 4) (o := 3) dX6_frame_96 hS3_a0 rfl rfl (by decide) g5 ?_
  obtain ⟨S7, eS7, h8⟩ := jLet_some h6; clear h6
  refine J_topS eS7 ?_
  have hS7_a0 : a0 = S7.1 := by rw [eS7]; exact hS3_a0
  refine J_aload_n 0 dX6_frame_97 rfl rfl ?_
  refine J_ngetA (k := 7) (o := 6) dX6_frame_98 gF_X6_28 hS7_a0 rfl ?_
  refine J_iload_n 3 dX6_frame_101 rfl rfl ?_
  refine J_iconst (1 : Int32) dX6_frame_102 (by decide) ?_
  refine J_iload_n 3 dX6_frame_103 rfl rfl ?_
  refine J_ishl dX6_frame_104 ?_
  obtain ⟨i9_, ei9_, h10⟩ := jLet_some h8; clear h8
  refine J_topI ei9_ ?_
  obtain ⟨g11, h12⟩ := gd_some h10; clear h10
  refine J_niast (k := 7) (o := 6) dX6_frame_105 hS7_a0 rfl rfl (by decide) g11 ?_
  obtain ⟨S13, eS13, h14⟩ := jLet_some h12; clear h12
  refine J_topS eS13 ?_
  have hS13_a0 : a0 = S13.1 := by rw [eS13]; exact hS7_a0
  refine J_iconst (0 : Int32) dX6_frame_106 (by decide) ?_
  refine J_istore dX6_frame_107 (by decide) [1, 2, 3, 4, 0] (lv' := [(0, .ref a0), (1, .int i1), (2, .int i2), (3, .int i3), (4, .int (0 : Int32))]) rfl ?_
  exact t_X6_frame_L109 bigN S13 a0 i1 i2 i3 (0 : Int32) hS13_a0 h14
def m_X6_frame_J25 (S : MS) (i1 : Int32) (i2 : Int32) (is0 : Int32) (is1 : Int32) : Option (Int32 × MS) :=
  if is0 ≤ is1 then
    (if (nF S 0) = (30 : Int32) then
      (some ((-4 : Int32), S))
    else
      (if 0 ≤ i2 then
        (jLet ((nF S 0)) fun i7_ =>
        gd (inB i7_ 30) <|
        jLet (nSA S 1 (Int32.toNatClampNeg i7_) i1) fun S11 =>
        gd (inB i7_ 30) <|
        jLet (nSA S11 2 (Int32.toNatClampNeg i7_) i2) fun S15 =>
        if i1 = (3 : Int32) then
          (m_X6_frame_J89 S15 i1 i2 i7_ i7_ (16 : Int32))
        else
          (m_X6_frame_J89 S15 i1 i2 i7_ i7_ (10 : Int32)))
      else
        (bnd2 (m_X6_meets S (4 : Int32)) fun i19_ S20 =>
        some (i19_, S20))))
  else
    (some ((-2 : Int32), S))
set_option maxRecDepth 100000 in
set_option maxHeartbeats 4000000 in
theorem t_X6_frame_J25 {S : MS} {a0 : Nat} {i1 : Int32} {i2 : Int32} {is0 : Int32} {is1 : Int32} {w : (Int32 × MS)} (ha : a0 = S.1) (h : m_X6_frame_J25 S i1 i2 is0 is1 = some w) : J NX yX6_frame cX6_frame 6 (some .int) 1 25 25 [(0, .ref a0), (1, .int i1), (2, .int i2)] [.int is1, .int is0] S (some (.int w.1)) w.2 := by
  refine J_icmp_le 31 dX6_frame_25 (by decide) h (fun c1 h2 => ?_) (fun c1 h2 => ?_)
  · clear h
    refine J_aload_n 0 dX6_frame_31 rfl rfl ?_
    refine J_nget (k := 0) dX6_frame_32 gF_X6_89 ha rfl ?_
    refine J_bipush (30 : Int32) dX6_frame_35 (by decide) ?_
    refine J_icmp_ne 43 dX6_frame_37 (by decide) h2 (fun c3 h4 => ?_) (fun c3 h4 => ?_)
    · clear h2
      refine J_bipush (-4 : Int32) dX6_frame_40 (by decide) ?_
      have hw := Option.some.inj h4; subst hw
      exact J_iret rfl dX6_frame_42
    · clear h2
      refine J_iload_n 2 dX6_frame_43 rfl rfl ?_
      refine J_if_ge 53 dX6_frame_44 (by decide) h4 (fun c5 h6 => ?_) (fun c5 h6 => ?_)
      · clear h4
        refine J_aload_n 0 dX6_frame_53 rfl rfl ?_
        refine J_nget (k := 0) dX6_frame_54 gF_X6_89 ha rfl ?_
        obtain ⟨i7_, ei7_, h8⟩ := jLet_some h6; clear h6
        refine J_topI ei7_ ?_
        refine J_istore_n dX6_frame_57 rfl (by decide) [1, 2, 3, 0] (lv' := [(0, .ref a0), (1, .int i1), (2, .int i2), (3, .int i7_)]) rfl ?_
        refine J_aload_n 0 dX6_frame_58 rfl rfl ?_
        refine J_ngetA (k := 1) (o := 0) dX6_frame_59 gF_X6_7 ha rfl ?_
        refine J_iload_n 3 dX6_frame_62 rfl rfl ?_
        refine J_iload_n 1 dX6_frame_63 rfl rfl ?_
        obtain ⟨g9, h10⟩ := gd_some h8; clear h8
        refine J_niast (k := 1) (o := 0) dX6_frame_64 ha rfl rfl (by decide) g9 ?_
        obtain ⟨S11, eS11, h12⟩ := jLet_some h10; clear h10
        refine J_topS eS11 ?_
        have hS11_a0 : a0 = S11.1 := by rw [eS11]; exact ha
        refine J_aload_n 0 dX6_frame_65 rfl rfl ?_
        refine J_ngetA (k := 2) (o := 1) dX6_frame_66 gF_X6_13 hS11_a0 rfl ?_
        refine J_iload_n 3 dX6_frame_69 rfl rfl ?_
        refine J_iload_n 2 dX6_frame_70 rfl rfl ?_
        obtain ⟨g13, h14⟩ := gd_some h12; clear h12
        refine J_niast (k := 2) (o := 1) dX6_frame_71 hS11_a0 rfl rfl (by decide) g13 ?_
        obtain ⟨S15, eS15, h16⟩ := jLet_some h14; clear h14
        refine J_topS eS15 ?_
        have hS15_a0 : a0 = S15.1 := by rw [eS15]; exact hS11_a0
        refine J_aload_n 0 dX6_frame_72 rfl rfl ?_
        refine J_ngetA (k := 3) (o := 2) dX6_frame_73 gF_X6_16 hS15_a0 rfl ?_
        refine J_iload_n 3 dX6_frame_76 rfl rfl ?_
        refine J_iload_n 1 dX6_frame_77 rfl rfl ?_
        refine J_iconst (3 : Int32) dX6_frame_78 (by decide) ?_
        refine J_icmp_ne 87 dX6_frame_79 (by decide) h16 (fun c17 h18 => ?_) (fun c17 h18 => ?_)
        · clear h16
          refine J_bipush (16 : Int32) dX6_frame_82 (by decide) ?_
          refine J_goto 89 dX6_frame_84 (by decide) ?_
          exact t_X6_frame_J89 hS15_a0 h18
        · clear h16
          refine J_bipush (10 : Int32) dX6_frame_87 (by decide) ?_
          exact t_X6_frame_J89 hS15_a0 h18
      · clear h4
        refine J_aload_n 0 dX6_frame_47 rfl rfl ?_
        refine J_iconst (4 : Int32) dX6_frame_48 (by decide) ?_
        obtain ⟨i19_, S20, ei19_, h21⟩ := bnd2_some h6; clear h6
        have cS20 := (t_X6_meets ha ei19_)
        have lS20 : jle NX S S20 := cS20.1
        have hS20_a0 : a0 = S20.1 := ha.trans (nle_eq lS20).symm
        refine J_callV (As := [.int (4 : Int32)]) (rest := []) (st' := [.int i19_]) cS20 gC_X6_meets gM_X6_102 (by rw [ha]; exact nRecv) rfl (by decide) (by decide) rfl rfl (Nat.le_of_ble_eq_true rfl) dX6_frame_49 ?_
        have hw := Option.some.inj h21; subst hw
        exact J_iret rfl dX6_frame_52
  · clear h
    refine J_bipush (-2 : Int32) dX6_frame_28 (by decide) ?_
    have hw := Option.some.inj h2; subst hw
    exact J_iret rfl dX6_frame_30
def m_X6_frame (S : MS) (i1 : Int32) (i2 : Int32) : Option (Int32 × MS) :=
  bnd (m_X6_in (Int32.toInt64 i1) (0 : Int64) (3 : Int64)) fun i1_ =>
  if i1_ = 0 then
    (some ((-2 : Int32), S))
  else
    (if i1 = (3 : Int32) then
      (m_X6_frame_J25 S i1 i2 i2 (14 : Int32))
    else
      (m_X6_frame_J25 S i1 i2 i2 (18 : Int32)))
set_option maxRecDepth 100000 in
set_option maxHeartbeats 4000000 in
theorem t_X6_frame {S : MS} {a0 : Nat} {i1 : Int32} {i2 : Int32} {w : (Int32 × MS)} (ha : a0 = S.1) (h : m_X6_frame S i1 i2 = some w) : CT NX yX6_frame cX6_frame 6 (some .int) 1 25 [.ref a0, .int i1, .int i2] S (some (.int w.1)) w.2 := by
  refine CT.of (lv := [(0, .ref a0), (1, .int i1), (2, .int i2)]) (by decide) rfl (Nat.le_of_ble_eq_true rfl) ?_
  refine J_iload_n 1 dX6_frame_0 rfl rfl ?_
  refine J_i2l dX6_frame_1 ?_
  refine J_lconst (0 : Int64) dX6_frame_2 (by decide) ?_
  refine J_ldc2 (3 : Int64) dX6_frame_3 gK_X6_127 ?_
  obtain ⟨i1_, ei1_, h2⟩ := bnd_some h; clear h
  refine J_callS (As := [.long (Int32.toInt64 i1), .long (0 : Int64), .long (3 : Int64)]) (rest := []) (st' := [.int i1_]) (t_X6_in ei1_) gC_X6_in gM_X6_92 rfl (by decide) (by decide) rfl rfl (Nat.le_of_ble_eq_true rfl) dX6_frame_6 ?_
  refine J_if_eq 28 dX6_frame_9 (by decide) h2 (fun c3 h4 => ?_) (fun c3 h4 => ?_)
  · clear h2
    refine J_bipush (-2 : Int32) dX6_frame_28 (by decide) ?_
    have hw := Option.some.inj h4; subst hw
    exact J_iret rfl dX6_frame_30
  · clear h2
    refine J_iload_n 2 dX6_frame_12 rfl rfl ?_
    refine J_iload_n 1 dX6_frame_13 rfl rfl ?_
    refine J_iconst (3 : Int32) dX6_frame_14 (by decide) ?_
    refine J_icmp_ne 23 dX6_frame_15 (by decide) h4 (fun c5 h6 => ?_) (fun c5 h6 => ?_)
    · clear h4
      refine J_bipush (14 : Int32) dX6_frame_18 (by decide) ?_
      refine J_goto 25 dX6_frame_20 (by decide) ?_
      exact t_X6_frame_J25 ha h6
    · clear h4
      refine J_bipush (18 : Int32) dX6_frame_23 (by decide) ?_
      exact t_X6_frame_J25 ha h6
def m_X6_both_L235 : Nat → MS → Int32 → Int32 → Int32 → Int32 → Option (Int32 × MS)
  | 0, _, _, _, _, _ => none
  | n + 1, S, i1, i2, i4, i5 =>
    gd (inB i4 30) <|
    if (nA S 2 (Int32.toNatClampNeg i4)) ≤ i5 then
      (jLet (((nF S 0) + (1 : Int32))) fun i5_ =>
      jLet (nSF S 0 i5_) fun S7 =>
      some (i4, S7))
    else
      (gd (inB i2 30) <|
      if (nA S 2 (Int32.toNatClampNeg i2)) ≤ i5 then
        (gd (inB i2 30) <|
        bnd (m_X6_rodOf S i1 (i5 - (nA S 2 (Int32.toNatClampNeg i2)))) fun i15_ =>
        gd (inB (((18 : Int32) * i4) + i5) 540) <|
        jLet (nSA S 8 (Int32.toNatClampNeg (((18 : Int32) * i4) + i5)) i15_) fun S19 =>
        m_X6_both_L235 n S19 i1 i2 i4 (i5 + (1 : Int32)))
      else
        (bnd (m_X6_rodOf S i2 i5) fun i21_ =>
        gd (inB (((18 : Int32) * i4) + i5) 540) <|
        jLet (nSA S 8 (Int32.toNatClampNeg (((18 : Int32) * i4) + i5)) i21_) fun S25 =>
        m_X6_both_L235 n S25 i1 i2 i4 (i5 + (1 : Int32))))
set_option maxRecDepth 100000 in
set_option maxHeartbeats 4000000 in
theorem t_X6_both_L235 {w : (Int32 × MS)} (n : Nat) : ∀ (S : MS) (a0 : Nat) (i1 : Int32) (i2 : Int32) (i4 : Int32) (i5 : Int32), (a0 = S.1) → m_X6_both_L235 n S i1 i2 i4 i5 = some w → J NX yX6_both cX6_both 6 (some .int) 2 46 235 [(0, .ref a0), (1, .int i1), (2, .int i2), (4, .int i4), (5, .int i5)] [] S (some (.int w.1)) w.2 := by
  induction n with
  | zero => intro S a0 i1 i2 i4 i5 ha h; cases h
  | succ n lh =>
    intro S a0 i1 i2 i4 i5 ha h
    refine J_iload 4 dX6_both_235 rfl ?_
    refine J_aload_n 0 dX6_both_237 rfl rfl ?_
    refine J_ngetA (k := 2) (o := 1) dX6_both_238 gF_X6_13 ha rfl ?_
    refine J_iload 3 dX6_both_241 rfl ?_
    obtain ⟨g1, h2⟩ := gd_some h; clear h
    refine J_niald (k := 2) (o := 1) dX6_both_243 ha rfl rfl (by decide) g1 ?_
    refine J_icmp_ge 301 dX6_both_244 (by decide) h2 (fun c3 h4 => ?_) (fun c3 h4 => ?_)
    · clear h2
      refine J_aload_n 0 dX6_both_301 rfl rfl ?_
      refine J_dup dX6_both_302 rfl ?_
      refine J_nget (k := 0) dX6_both_303 gF_X6_89 ha rfl ?_
      refine J_iconst (1 : Int32) dX6_both_306 (by decide) ?_
      refine J_iadd dX6_both_307 ?_
      obtain ⟨i5_, ei5_, h6⟩ := jLet_some h4; clear h4
      refine J_topI ei5_ ?_
      refine J_nput (k := 0) dX6_both_308 gW_X6_89 ha rfl rfl ?_
      obtain ⟨S7, eS7, h8⟩ := jLet_some h6; clear h6
      refine J_topS eS7 ?_
      have hS7_a0 : a0 = S7.1 := by rw [eS7]; exact ha
      refine J_iload 3 dX6_both_311 rfl ?_
      have hw := Option.some.inj h8; subst hw
      exact J_iret rfl dX6_both_313
    · clear h2
      refine J_aload_n 0 dX6_both_247 rfl rfl ?_
      refine J_ngetA (k := 8) (o := 7) dX6_both_248 gF_X6_31 ha rfl ?_
      refine J_bipush (18 : Int32) dX6_both_251 (by decide) ?_
      refine J_iload 3 dX6_both_253 rfl ?_
      refine J_imul dX6_both_255 ?_
      refine J_iload 4 dX6_both_256 rfl ?_
      refine J_iadd dX6_both_258 ?_
      refine J_iload 4 dX6_both_259 rfl ?_
      refine J_aload_n 0 dX6_both_261 rfl rfl ?_
      refine J_ngetA (k := 2) (o := 1) dX6_both_262 gF_X6_13 ha rfl ?_
      refine J_iload_n 2 dX6_both_265 rfl rfl ?_
      obtain ⟨g9, h10⟩ := gd_some h4; clear h4
      refine J_niald (k := 2) (o := 1) dX6_both_266 ha rfl rfl (by decide) g9 ?_
      refine J_icmp_ge 280 dX6_both_267 (by decide) h10 (fun c11 h12 => ?_) (fun c11 h12 => ?_)
      · clear h10
        refine J_aload_n 0 dX6_both_280 rfl rfl ?_
        refine J_iload_n 1 dX6_both_281 rfl rfl ?_
        refine J_iload 4 dX6_both_282 rfl ?_
        refine J_aload_n 0 dX6_both_284 rfl rfl ?_
        refine J_ngetA (k := 2) (o := 1) dX6_both_285 gF_X6_13 ha rfl ?_
        refine J_iload_n 2 dX6_both_288 rfl rfl ?_
        obtain ⟨g13, h14⟩ := gd_some h12; clear h12
        refine J_niald (k := 2) (o := 1) dX6_both_289 ha rfl rfl (by decide) g13 ?_
        refine J_isub dX6_both_290 ?_
        obtain ⟨i15_, ei15_, h16⟩ := bnd_some h14; clear h14
        refine J_callV (As := [.int i1, .int (i5 - (nA S 2 (Int32.toNatClampNeg i2)))]) (rest := [.int (((18 : Int32) * i4) + i5), .ref (a0 + 8)]) (st' := [.int i15_, .int (((18 : Int32) * i4) + i5), .ref (a0 + 8)]) (t_X6_rodOf ha ei15_) gC_X6_rodOf gM_X6_108 (by rw [ha]; exact nRecv) rfl (by decide) (by decide) rfl rfl (Nat.le_of_ble_eq_true rfl) dX6_both_291 ?_
        obtain ⟨g17, h18⟩ := gd_some h16; clear h16
        refine J_niast (k := 8) (o := 7) dX6_both_294 ha rfl rfl (by decide) g17 ?_
        obtain ⟨S19, eS19, h20⟩ := jLet_some h18; clear h18
        refine J_topS eS19 ?_
        have hS19_a0 : a0 = S19.1 := by rw [eS19]; exact ha
        refine J_iinc 4 (1 : Int32) dX6_both_295 rfl (by decide) (by decide) [1, 2, 3, 4, 0] (lv' := [(0, .ref a0), (1, .int i1), (2, .int i2), (4, .int i4), (5, .int (i5 + (1 : Int32)))]) rfl ?_
        refine J_goto 235 dX6_both_298 (by decide) ?_
        exact lh S19 a0 i1 i2 i4 (i5 + (1 : Int32)) hS19_a0 h20
      · clear h10
        refine J_aload_n 0 dX6_both_270 rfl rfl ?_
        refine J_iload_n 2 dX6_both_271 rfl rfl ?_
        refine J_iload 4 dX6_both_272 rfl ?_
        obtain ⟨i21_, ei21_, h22⟩ := bnd_some h12; clear h12
        refine J_callV (As := [.int i2, .int i5]) (rest := [.int (((18 : Int32) * i4) + i5), .ref (a0 + 8)]) (st' := [.int i21_, .int (((18 : Int32) * i4) + i5), .ref (a0 + 8)]) (t_X6_rodOf ha ei21_) gC_X6_rodOf gM_X6_108 (by rw [ha]; exact nRecv) rfl (by decide) (by decide) rfl rfl (Nat.le_of_ble_eq_true rfl) dX6_both_274 ?_
        refine J_goto 294 dX6_both_277 (by decide) ?_
        obtain ⟨g23, h24⟩ := gd_some h22; clear h22
        refine J_niast (k := 8) (o := 7) dX6_both_294 ha rfl rfl (by decide) g23 ?_
        obtain ⟨S25, eS25, h26⟩ := jLet_some h24; clear h24
        refine J_topS eS25 ?_
        have hS25_a0 : a0 = S25.1 := by rw [eS25]; exact ha
        refine J_iinc 4 (1 : Int32) dX6_both_295 rfl (by decide) (by decide) [1, 2, 3, 4, 0] (lv' := [(0, .ref a0), (1, .int i1), (2, .int i2), (4, .int i4), (5, .int (i5 + (1 : Int32)))]) rfl ?_
        refine J_goto 235 dX6_both_298 (by decide) ?_
        exact lh S25 a0 i1 i2 i4 (i5 + (1 : Int32)) hS25_a0 h26
def m_X6_both_J113 (S : MS) (i1 : Int32) (i2 : Int32) (i3 : Int32) (is0 : Int32) (is1 : Int32) : Option (Int32 × MS) :=
  if is1 < is0 then
    (some ((-3 : Int32), S))
  else
    (if i3 ≤ (5 : Int32) then
      (if (nF S 0) = (30 : Int32) then
        (some ((-4 : Int32), S))
      else
        (jLet ((nF S 0)) fun i7_ =>
        gd (inB i7_ 30) <|
        jLet (nSA S 1 (Int32.toNatClampNeg i7_) (4 : Int32)) fun S11 =>
        gd (inB i1 30) <|
        gd (inB i2 30) <|
        jLet (((nA S11 2 (Int32.toNatClampNeg i1)) + (nA S11 2 (Int32.toNatClampNeg i2)))) fun i17_ =>
        gd (inB i7_ 30) <|
        jLet (nSA S11 2 (Int32.toNatClampNeg i7_) i17_) fun S21 =>
        gd (inB i1 30) <|
        jLet ((nA S21 3 (Int32.toNatClampNeg i1))) fun i25_ =>
        gd (inB i7_ 30) <|
        jLet (nSA S21 3 (Int32.toNatClampNeg i7_) i25_) fun S29 =>
        gd (inB i7_ 30) <|
        jLet (nSA S29 4 (Int32.toNatClampNeg i7_) i3) fun S33 =>
        gd (inB i7_ 30) <|
        jLet (nSA S33 5 (Int32.toNatClampNeg i7_) i1) fun S37 =>
        gd (inB i7_ 30) <|
        jLet (nSA S37 6 (Int32.toNatClampNeg i7_) i2) fun S41 =>
        gd (inB i1 30) <|
        gd (inB i2 30) <|
        jLet ((((nA S41 7 (Int32.toNatClampNeg i1)) ||| (nA S41 7 (Int32.toNatClampNeg i2))) ||| ((1 : Int32) <<< (i7_ &&& 31)))) fun i47_ =>
        gd (inB i7_ 30) <|
        jLet (nSA S41 7 (Int32.toNatClampNeg i7_) i47_) fun S51 =>
        m_X6_both_L235 bigN S51 i1 i2 i7_ (0 : Int32)))
    else
      (some ((-3 : Int32), S)))
set_option maxRecDepth 100000 in
set_option maxHeartbeats 4000000 in
theorem t_X6_both_J113 {S : MS} {a0 : Nat} {i1 : Int32} {i2 : Int32} {i3 : Int32} {is0 : Int32} {is1 : Int32} {w : (Int32 × MS)} (ha : a0 = S.1) (h : m_X6_both_J113 S i1 i2 i3 is0 is1 = some w) : J NX yX6_both cX6_both 6 (some .int) 2 46 113 [(0, .ref a0), (1, .int i1), (2, .int i2), (3, .int i3)] [.int is1, .int is0] S (some (.int w.1)) w.2 := by
  refine J_icmp_gt 121 dX6_both_113 (by decide) h (fun c1 h2 => ?_) (fun c1 h2 => ?_)
  · clear h
    refine J_bipush (-3 : Int32) dX6_both_121 (by decide) ?_
    have hw := Option.some.inj h2; subst hw
    exact J_iret rfl dX6_both_123
  · clear h
    refine J_iload_n 3 dX6_both_116 rfl rfl ?_
    refine J_iconst (5 : Int32) dX6_both_117 (by decide) ?_
    refine J_icmp_le 124 dX6_both_118 (by decide) h2 (fun c3 h4 => ?_) (fun c3 h4 => ?_)
    · clear h2
      refine J_aload_n 0 dX6_both_124 rfl rfl ?_
      refine J_nget (k := 0) dX6_both_125 gF_X6_89 ha rfl ?_
      refine J_bipush (30 : Int32) dX6_both_128 (by decide) ?_
      refine J_icmp_ne 136 dX6_both_130 (by decide) h4 (fun c5 h6 => ?_) (fun c5 h6 => ?_)
      · clear h4
        refine J_bipush (-4 : Int32) dX6_both_133 (by decide) ?_
        have hw := Option.some.inj h6; subst hw
        exact J_iret rfl dX6_both_135
      · clear h4
        refine J_aload_n 0 dX6_both_136 rfl rfl ?_
        refine J_nget (k := 0) dX6_both_137 gF_X6_89 ha rfl ?_
        obtain ⟨i7_, ei7_, h8⟩ := jLet_some h6; clear h6
        refine J_topI ei7_ ?_
        refine J_istore dX6_both_140 (by decide) [1, 2, 3, 4, 0] (lv' := [(0, .ref a0), (1, .int i1), (2, .int i2), (3, .int i3), (4, .int i7_)]) rfl ?_
        refine J_aload_n 0 dX6_both_142 rfl rfl ?_
        refine J_ngetA (k := 1) (o := 0) dX6_both_143 gF_X6_7 ha rfl ?_
        refine J_iload 4 dX6_both_146 rfl ?_
        refine J_iconst (4 : Int32) dX6_both_148 (by decide) ?_
        obtain ⟨g9, h10⟩ := gd_some h8; clear h8
        refine J_niast (k := 1) (o := 0) dX6_both_149 ha rfl rfl (by decide) g9 ?_
        obtain ⟨S11, eS11, h12⟩ := jLet_some h10; clear h10
        refine J_topS eS11 ?_
        have hS11_a0 : a0 = S11.1 := by rw [eS11]; exact ha
        refine J_aload_n 0 dX6_both_150 rfl rfl ?_
        refine J_ngetA (k := 2) (o := 1) dX6_both_151 gF_X6_13 hS11_a0 rfl ?_
        refine J_iload 4 dX6_both_154 rfl ?_
        refine J_aload_n 0 dX6_both_156 rfl rfl ?_
        refine J_ngetA (k := 2) (o := 1) dX6_both_157 gF_X6_13 hS11_a0 rfl ?_
        refine J_iload_n 1 dX6_both_160 rfl rfl ?_
        obtain ⟨g13, h14⟩ := gd_some h12; clear h12
        refine J_niald (k := 2) (o := 1) dX6_both_161 hS11_a0 rfl rfl (by decide) g13 ?_
        refine J_aload_n 0 dX6_both_162 rfl rfl ?_
        refine J_ngetA (k := 2) (o := 1) dX6_both_163 gF_X6_13 hS11_a0 rfl ?_
        refine J_iload_n 2 dX6_both_166 rfl rfl ?_
        obtain ⟨g15, h16⟩ := gd_some h14; clear h14
        refine J_niald (k := 2) (o := 1) dX6_both_167 hS11_a0 rfl rfl (by decide) g15 ?_
        refine J_iadd dX6_both_168 ?_
        obtain ⟨i17_, ei17_, h18⟩ := jLet_some h16; clear h16
        refine J_topI ei17_ ?_
        obtain ⟨g19, h20⟩ := gd_some h18; clear h18
        refine J_niast (k := 2) (o := 1) dX6_both_169 hS11_a0 rfl rfl (by decide) g19 ?_
        obtain ⟨S21, eS21, h22⟩ := jLet_some h20; clear h20
        refine J_topS eS21 ?_
        have hS21_a0 : a0 = S21.1 := by rw [eS21]; exact hS11_a0
        refine J_aload_n 0 dX6_both_170 rfl rfl ?_
        refine J_ngetA (k := 3) (o := 2) dX6_both_171 gF_X6_16 hS21_a0 rfl ?_
        refine J_iload 4 dX6_both_174 rfl ?_
        refine J_aload_n 0 dX6_both_176 rfl rfl ?_
        refine J_ngetA (k := 3) (o := 2) dX6_both_177 gF_X6_16 hS21_a0 rfl ?_
        refine J_iload_n 1 dX6_both_180 rfl rfl ?_
        obtain ⟨g23, h24⟩ := gd_some h22; clear h22
        refine J_niald (k := 3) (o := 2) dX6_both_181 hS21_a0 rfl rfl (by decide) g23 ?_
        obtain ⟨i25_, ei25_, h26⟩ := jLet_some h24; clear h24
        refine J_topI ei25_ ?_
        obtain ⟨g27, h28⟩ := gd_some h26; clear h26
        refine J_niast (k := 3) (o := 2) dX6_both_182 hS21_a0 rfl rfl (by decide) g27 ?_
        obtain ⟨S29, eS29, h30⟩ := jLet_some h28; clear h28
        refine J_topS eS29 ?_
        have hS29_a0 : a0 = S29.1 := by rw [eS29]; exact hS21_a0
        refine J_aload_n 0 dX6_both_183 rfl rfl ?_
        refine J_ngetA (k := 4) (o := 3) dX6_both_184 gF_X6_19 hS29_a0 rfl ?_
        refine J_iload 4 dX6_both_187 rfl ?_
        refine J_iload_n 3 dX6_both_189 rfl rfl ?_
        obtain ⟨g31, h32⟩ := gd_some h30; clear h30
        refine J_niast (k := 4) (o := 3) dX6_both_190 hS29_a0 rfl rfl (by decide) g31 ?_
        obtain ⟨S33, eS33, h34⟩ := jLet_some h32; clear h32
        refine J_topS eS33 ?_
        have hS33_a0 : a0 = S33.1 := by rw [eS33]; exact hS29_a0
        refine J_aload_n 0 dX6_both_191 rfl rfl ?_
        refine J_ngetA (k := 5) (o := 4) dX6_both_192 gF_X6_22 hS33_a0 rfl ?_
        refine J_iload 4 dX6_both_195 rfl ?_
        refine J_iload_n 1 dX6_both_197 rfl rfl ?_
        obtain ⟨g35, h36⟩ := gd_some h34; clear h34
        refine J_niast (k := 5) (o := 4) dX6_both_198 hS33_a0 rfl rfl (by decide) g35 ?_
        obtain ⟨S37, eS37, h38⟩ := jLet_some h36; clear h36
        refine J_topS eS37 ?_
        have hS37_a0 : a0 = S37.1 := by rw [eS37]; exact hS33_a0
        refine J_aload_n 0 dX6_both_199 rfl rfl ?_
        refine J_ngetA (k := 6) (o := 5) dX6_both_200 gF_X6_25 hS37_a0 rfl ?_
        refine J_iload 4 dX6_both_203 rfl ?_
        refine J_iload_n 2 dX6_both_205 rfl rfl ?_
        obtain ⟨g39, h40⟩ := gd_some h38; clear h38
        refine J_niast (k := 6) (o := 5) dX6_both_206 hS37_a0 rfl rfl (by decide) g39 ?_
        obtain ⟨S41, eS41, h42⟩ := jLet_some h40; clear h40
        refine J_topS eS41 ?_
        have hS41_a0 : a0 = S41.1 := by rw [eS41]; exact hS37_a0
        refine J_aload_n 0 dX6_both_207 rfl rfl ?_
        refine J_ngetA (k := 7) (o := 6) dX6_both_208 gF_X6_28 hS41_a0 rfl ?_
        refine J_iload 4 dX6_both_211 rfl ?_
        refine J_aload_n 0 dX6_both_213 rfl rfl ?_
        refine J_ngetA (k := 7) (o := 6) dX6_both_214 gF_X6_28 hS41_a0 rfl ?_
        refine J_iload_n 1 dX6_both_217 rfl rfl ?_
        obtain ⟨g43, h44⟩ := gd_some h42; clear h42
        refine J_niald (k := 7) (o := 6) dX6_both_218 hS41_a0 rfl rfl (by decide) g43 ?_
        refine J_aload_n 0 dX6_both_219 rfl rfl ?_
        refine J_ngetA (k := 7) (o := 6) dX6_both_220 gF_X6_28 hS41_a0 rfl ?_
        refine J_iload_n 2 dX6_both_223 rfl rfl ?_
        obtain ⟨g45, h46⟩ := gd_some h44; clear h44
        refine J_niald (k := 7) (o := 6) dX6_both_224 hS41_a0 rfl rfl (by decide) g45 ?_
        refine J_ior dX6_both_225 ?_
        refine J_iconst (1 : Int32) dX6_both_226 (by decide) ?_
        refine J_iload 4 dX6_both_227 rfl ?_
        refine J_ishl dX6_both_229 ?_
        refine J_ior dX6_both_230 ?_
        obtain ⟨i47_, ei47_, h48⟩ := jLet_some h46; clear h46
        refine J_topI ei47_ ?_
        obtain ⟨g49, h50⟩ := gd_some h48; clear h48
        refine J_niast (k := 7) (o := 6) dX6_both_231 hS41_a0 rfl rfl (by decide) g49 ?_
        obtain ⟨S51, eS51, h52⟩ := jLet_some h50; clear h50
        refine J_topS eS51 ?_
        have hS51_a0 : a0 = S51.1 := by rw [eS51]; exact hS41_a0
        refine J_iconst (0 : Int32) dX6_both_232 (by decide) ?_
        refine J_istore dX6_both_233 (by decide) [1, 2, 3, 5, 0] (lv' := [(0, .ref a0), (1, .int i1), (2, .int i2), (4, .int i7_), (5, .int (0 : Int32))]) rfl ?_
        exact t_X6_both_L235 bigN S51 a0 i1 i2 i7_ (0 : Int32) hS51_a0 h52
    · clear h2
      refine J_bipush (-3 : Int32) dX6_both_121 (by decide) ?_
      have hw := Option.some.inj h4; subst hw
      exact J_iret rfl dX6_both_123
def m_X6_both_J49 (S : MS) (i1 : Int32) (i2 : Int32) (is0 : Int32) (is1 : Int32) : Option (Int32 × MS) :=
  jLet ((is0 + is1)) fun i1_ =>
  gd (inB i1 30) <|
  gd (inB i2 30) <|
  if (nA S 3 (Int32.toNatClampNeg i1)) = (nA S 3 (Int32.toNatClampNeg i2)) then
    (gd (inB i1 30) <|
    gd (inB i2 30) <|
    if ((nA S 7 (Int32.toNatClampNeg i1)) &&& (nA S 7 (Int32.toNatClampNeg i2))) = 0 then
      (gd (inB i1 30) <|
      gd (inB i2 30) <|
      gd (inB i1 30) <|
      if (nA S 3 (Int32.toNatClampNeg i1)) = (16 : Int32) then
        (m_X6_both_J113 S i1 i2 i1_ ((nA S 2 (Int32.toNatClampNeg i1)) + (nA S 2 (Int32.toNatClampNeg i2))) (14 : Int32))
      else
        (m_X6_both_J113 S i1 i2 i1_ ((nA S 2 (Int32.toNatClampNeg i1)) + (nA S 2 (Int32.toNatClampNeg i2))) (18 : Int32)))
    else
      (some ((-3 : Int32), S)))
  else
    (some ((-3 : Int32), S))
set_option maxRecDepth 100000 in
set_option maxHeartbeats 4000000 in
theorem t_X6_both_J49 {S : MS} {a0 : Nat} {i1 : Int32} {i2 : Int32} {is0 : Int32} {is1 : Int32} {w : (Int32 × MS)} (ha : a0 = S.1) (h : m_X6_both_J49 S i1 i2 is0 is1 = some w) : J NX yX6_both cX6_both 6 (some .int) 2 46 49 [(0, .ref a0), (1, .int i1), (2, .int i2)] [.int is1, .int is0] S (some (.int w.1)) w.2 := by
  refine J_iadd dX6_both_49 ?_
  obtain ⟨i1_, ei1_, h2⟩ := jLet_some h; clear h
  refine J_topI ei1_ ?_
  refine J_istore_n dX6_both_50 rfl (by decide) [1, 2, 3, 0] (lv' := [(0, .ref a0), (1, .int i1), (2, .int i2), (3, .int i1_)]) rfl ?_
  refine J_aload_n 0 dX6_both_51 rfl rfl ?_
  refine J_ngetA (k := 3) (o := 2) dX6_both_52 gF_X6_16 ha rfl ?_
  refine J_iload_n 1 dX6_both_55 rfl rfl ?_
  obtain ⟨g3, h4⟩ := gd_some h2; clear h2
  refine J_niald (k := 3) (o := 2) dX6_both_56 ha rfl rfl (by decide) g3 ?_
  refine J_aload_n 0 dX6_both_57 rfl rfl ?_
  refine J_ngetA (k := 3) (o := 2) dX6_both_58 gF_X6_16 ha rfl ?_
  refine J_iload_n 2 dX6_both_61 rfl rfl ?_
  obtain ⟨g5, h6⟩ := gd_some h4; clear h4
  refine J_niald (k := 3) (o := 2) dX6_both_62 ha rfl rfl (by decide) g5 ?_
  refine J_icmp_ne 121 dX6_both_63 (by decide) h6 (fun c7 h8 => ?_) (fun c7 h8 => ?_)
  · clear h6
    refine J_aload_n 0 dX6_both_66 rfl rfl ?_
    refine J_ngetA (k := 7) (o := 6) dX6_both_67 gF_X6_28 ha rfl ?_
    refine J_iload_n 1 dX6_both_70 rfl rfl ?_
    obtain ⟨g9, h10⟩ := gd_some h8; clear h8
    refine J_niald (k := 7) (o := 6) dX6_both_71 ha rfl rfl (by decide) g9 ?_
    refine J_aload_n 0 dX6_both_72 rfl rfl ?_
    refine J_ngetA (k := 7) (o := 6) dX6_both_73 gF_X6_28 ha rfl ?_
    refine J_iload_n 2 dX6_both_76 rfl rfl ?_
    obtain ⟨g11, h12⟩ := gd_some h10; clear h10
    refine J_niald (k := 7) (o := 6) dX6_both_77 ha rfl rfl (by decide) g11 ?_
    refine J_iand dX6_both_78 ?_
    refine J_if_ne 121 dX6_both_79 (by decide) h12 (fun c13 h14 => ?_) (fun c13 h14 => ?_)
    · clear h12
      refine J_aload_n 0 dX6_both_82 rfl rfl ?_
      refine J_ngetA (k := 2) (o := 1) dX6_both_83 gF_X6_13 ha rfl ?_
      refine J_iload_n 1 dX6_both_86 rfl rfl ?_
      obtain ⟨g15, h16⟩ := gd_some h14; clear h14
      refine J_niald (k := 2) (o := 1) dX6_both_87 ha rfl rfl (by decide) g15 ?_
      refine J_aload_n 0 dX6_both_88 rfl rfl ?_
      refine J_ngetA (k := 2) (o := 1) dX6_both_89 gF_X6_13 ha rfl ?_
      refine J_iload_n 2 dX6_both_92 rfl rfl ?_
      obtain ⟨g17, h18⟩ := gd_some h16; clear h16
      refine J_niald (k := 2) (o := 1) dX6_both_93 ha rfl rfl (by decide) g17 ?_
      refine J_iadd dX6_both_94 ?_
      refine J_aload_n 0 dX6_both_95 rfl rfl ?_
      refine J_ngetA (k := 3) (o := 2) dX6_both_96 gF_X6_16 ha rfl ?_
      refine J_iload_n 1 dX6_both_99 rfl rfl ?_
      obtain ⟨g19, h20⟩ := gd_some h18; clear h18
      refine J_niald (k := 3) (o := 2) dX6_both_100 ha rfl rfl (by decide) g19 ?_
      refine J_bipush (16 : Int32) dX6_both_101 (by decide) ?_
      refine J_icmp_ne 111 dX6_both_103 (by decide) h20 (fun c21 h22 => ?_) (fun c21 h22 => ?_)
      · clear h20
        refine J_bipush (14 : Int32) dX6_both_106 (by decide) ?_
        refine J_goto 113 dX6_both_108 (by decide) ?_
        exact t_X6_both_J113 ha h22
      · clear h20
        refine J_bipush (18 : Int32) dX6_both_111 (by decide) ?_
        exact t_X6_both_J113 ha h22
    · clear h12
      refine J_bipush (-3 : Int32) dX6_both_121 (by decide) ?_
      have hw := Option.some.inj h14; subst hw
      exact J_iret rfl dX6_both_123
  · clear h6
    refine J_bipush (-3 : Int32) dX6_both_121 (by decide) ?_
    have hw := Option.some.inj h8; subst hw
    exact J_iret rfl dX6_both_123
def m_X6_both (S : MS) (i1 : Int32) (i2 : Int32) : Option (Int32 × MS) :=
  bnd (m_X6_isFrame S i1) fun i1_ =>
  if i1_ = 0 then
    (some ((-1 : Int32), S))
  else
    (bnd (m_X6_isFrame S i2) fun i5_ =>
    if i5_ = 0 then
      (some ((-1 : Int32), S))
    else
      (gd (inB i1 30) <|
      gd (inB i2 30) <|
      if (nA S 4 (Int32.toNatClampNeg i1)) ≤ (nA S 4 (Int32.toNatClampNeg i2)) then
        (gd (inB i2 30) <|
        m_X6_both_J49 S i1 i2 (1 : Int32) (nA S 4 (Int32.toNatClampNeg i2)))
      else
        (gd (inB i1 30) <|
        m_X6_both_J49 S i1 i2 (1 : Int32) (nA S 4 (Int32.toNatClampNeg i1)))))
set_option maxRecDepth 100000 in
set_option maxHeartbeats 4000000 in
theorem t_X6_both {S : MS} {a0 : Nat} {i1 : Int32} {i2 : Int32} {w : (Int32 × MS)} (ha : a0 = S.1) (h : m_X6_both S i1 i2 = some w) : CT NX yX6_both cX6_both 6 (some .int) 2 46 [.ref a0, .int i1, .int i2] S (some (.int w.1)) w.2 := by
  refine CT.of (lv := [(0, .ref a0), (1, .int i1), (2, .int i2)]) (by decide) rfl (Nat.le_of_ble_eq_true rfl) ?_
  refine J_aload_n 0 dX6_both_0 rfl rfl ?_
  refine J_iload_n 1 dX6_both_1 rfl rfl ?_
  obtain ⟨i1_, ei1_, h2⟩ := bnd_some h; clear h
  refine J_callV (As := [.int i1]) (rest := []) (st' := [.int i1_]) (t_X6_isFrame ha ei1_) gC_X6_isFrame gM_X6_129 (by rw [ha]; exact nRecv) rfl (by decide) (by decide) rfl rfl (Nat.le_of_ble_eq_true rfl) dX6_both_2 ?_
  refine J_if_eq 16 dX6_both_5 (by decide) h2 (fun c3 h4 => ?_) (fun c3 h4 => ?_)
  · clear h2
    refine J_iconst (-1 : Int32) dX6_both_16 (by decide) ?_
    have hw := Option.some.inj h4; subst hw
    exact J_iret rfl dX6_both_17
  · clear h2
    refine J_aload_n 0 dX6_both_8 rfl rfl ?_
    refine J_iload_n 2 dX6_both_9 rfl rfl ?_
    obtain ⟨i5_, ei5_, h6⟩ := bnd_some h4; clear h4
    refine J_callV (As := [.int i2]) (rest := []) (st' := [.int i5_]) (t_X6_isFrame ha ei5_) gC_X6_isFrame gM_X6_129 (by rw [ha]; exact nRecv) rfl (by decide) (by decide) rfl rfl (Nat.le_of_ble_eq_true rfl) dX6_both_10 ?_
    refine J_if_ne 18 dX6_both_13 (by decide) h6 (fun c7 h8 => ?_) (fun c7 h8 => ?_)
    · clear h6
      refine J_iconst (-1 : Int32) dX6_both_16 (by decide) ?_
      have hw := Option.some.inj h8; subst hw
      exact J_iret rfl dX6_both_17
    · clear h6
      refine J_iconst (1 : Int32) dX6_both_18 (by decide) ?_
      refine J_aload_n 0 dX6_both_19 rfl rfl ?_
      refine J_ngetA (k := 4) (o := 3) dX6_both_20 gF_X6_19 ha rfl ?_
      refine J_iload_n 1 dX6_both_23 rfl rfl ?_
      obtain ⟨g9, h10⟩ := gd_some h8; clear h8
      refine J_niald (k := 4) (o := 3) dX6_both_24 ha rfl rfl (by decide) g9 ?_
      refine J_aload_n 0 dX6_both_25 rfl rfl ?_
      refine J_ngetA (k := 4) (o := 3) dX6_both_26 gF_X6_19 ha rfl ?_
      refine J_iload_n 2 dX6_both_29 rfl rfl ?_
      obtain ⟨g11, h12⟩ := gd_some h10; clear h10
      refine J_niald (k := 4) (o := 3) dX6_both_30 ha rfl rfl (by decide) g11 ?_
      refine J_icmp_le 43 dX6_both_31 (by decide) h12 (fun c13 h14 => ?_) (fun c13 h14 => ?_)
      · clear h12
        refine J_aload_n 0 dX6_both_43 rfl rfl ?_
        refine J_ngetA (k := 4) (o := 3) dX6_both_44 gF_X6_19 ha rfl ?_
        refine J_iload_n 2 dX6_both_47 rfl rfl ?_
        obtain ⟨g15, h16⟩ := gd_some h14; clear h14
        refine J_niald (k := 4) (o := 3) dX6_both_48 ha rfl rfl (by decide) g15 ?_
        exact t_X6_both_J49 ha h16
      · clear h12
        refine J_aload_n 0 dX6_both_34 rfl rfl ?_
        refine J_ngetA (k := 4) (o := 3) dX6_both_35 gF_X6_19 ha rfl ?_
        refine J_iload_n 1 dX6_both_38 rfl rfl ?_
        obtain ⟨g17, h18⟩ := gd_some h14; clear h14
        refine J_niald (k := 4) (o := 3) dX6_both_39 ha rfl rfl (by decide) g17 ?_
        refine J_goto 49 dX6_both_40 (by decide) ?_
        exact t_X6_both_J49 ha h18
