def m_X6_stuck (S : MS) (i1 : Int32) : Option Int32 :=
  if i1 = 0 then
    (some (nF S 23))
  else
    (if i1 = (1 : Int32) then
      (some (nF S 24))
    else
      (if i1 = (2 : Int32) then
        (some (nF S 25))
      else
        (some (-2 : Int32))))
set_option maxRecDepth 100000 in
set_option maxHeartbeats 4000000 in
theorem t_X6_stuck {S : MS} {a0 : Nat} {i1 : Int32} {w : Int32} (ha : a0 = S.1) (h : m_X6_stuck S i1 = some w) : CT NX yX6_stuck cX6_stuck 2 (some .int) 0 0 [.ref a0, .int i1] S (some (.int w)) S := by
  refine CT.of (lv := [(0, .ref a0), (1, .int i1)]) (by decide) rfl (Nat.le_of_ble_eq_true rfl) ?_
  refine J_iload_n 1 dX6_stuck_0 rfl rfl ?_
  refine J_if_ne 11 dX6_stuck_1 (by decide) h (fun c1 h2 => ?_) (fun c1 h2 => ?_)
  · clear h
    refine J_aload_n 0 dX6_stuck_4 rfl rfl ?_
    refine J_nget (k := 23) dX6_stuck_5 gF_X6_242 ha rfl ?_
    refine J_goto 37 dX6_stuck_8 (by decide) ?_
    have hw := Option.some.inj h2; subst hw
    exact J_iret rfl dX6_stuck_37
  · clear h
    refine J_iload_n 1 dX6_stuck_11 rfl rfl ?_
    refine J_iconst (1 : Int32) dX6_stuck_12 (by decide) ?_
    refine J_icmp_ne 23 dX6_stuck_13 (by decide) h2 (fun c3 h4 => ?_) (fun c3 h4 => ?_)
    · clear h2
      refine J_aload_n 0 dX6_stuck_16 rfl rfl ?_
      refine J_nget (k := 24) dX6_stuck_17 gF_X6_46 ha rfl ?_
      refine J_goto 37 dX6_stuck_20 (by decide) ?_
      have hw := Option.some.inj h4; subst hw
      exact J_iret rfl dX6_stuck_37
    · clear h2
      refine J_iload_n 1 dX6_stuck_23 rfl rfl ?_
      refine J_iconst (2 : Int32) dX6_stuck_24 (by decide) ?_
      refine J_icmp_ne 35 dX6_stuck_25 (by decide) h4 (fun c5 h6 => ?_) (fun c5 h6 => ?_)
      · clear h4
        refine J_aload_n 0 dX6_stuck_28 rfl rfl ?_
        refine J_nget (k := 25) dX6_stuck_29 gF_X6_50 ha rfl ?_
        refine J_goto 37 dX6_stuck_32 (by decide) ?_
        have hw := Option.some.inj h6; subst hw
        exact J_iret rfl dX6_stuck_37
      · clear h4
        refine J_bipush (-2 : Int32) dX6_stuck_35 (by decide) ?_
        have hw := Option.some.inj h6; subst hw
        exact J_iret rfl dX6_stuck_37
def m_X6_undo (S : MS) : Option (Int32 × MS) :=
  if (nF S 22) = 0 then
    (some ((-3 : Int32), S))
  else
    (if (nF S 20) = 0 then
      (jLet (((nF S 22) - (1 : Int32))) fun i5_ =>
      jLet (nSF S 22 i5_) fun S7 =>
      bnd (m_X6_back S7 (nF S7 22)) fun S9 =>
      some ((nF S9 22), S9))
    else
      (some ((-3 : Int32), S)))
set_option maxRecDepth 100000 in
set_option maxHeartbeats 4000000 in
theorem t_X6_undo {S : MS} {a0 : Nat} {w : (Int32 × MS)} (ha : a0 = S.1) (h : m_X6_undo S = some w) : CT NX yX6_undo cX6_undo 1 (some .int) 2 44 [.ref a0] S (some (.int w.1)) w.2 := by
  refine CT.of (lv := [(0, .ref a0)]) (by decide) rfl (Nat.le_of_ble_eq_true rfl) ?_
  refine J_aload_n 0 dX6_undo_0 rfl rfl ?_
  refine J_nget (k := 22) dX6_undo_1 gF_X6_239 ha rfl ?_
  refine J_if_eq 14 dX6_undo_4 (by decide) h (fun c1 h2 => ?_) (fun c1 h2 => ?_)
  · clear h
    refine J_bipush (-3 : Int32) dX6_undo_14 (by decide) ?_
    have hw := Option.some.inj h2; subst hw
    exact J_iret rfl dX6_undo_16
  · clear h
    refine J_aload_n 0 dX6_undo_7 rfl rfl ?_
    refine J_nget (k := 20) dX6_undo_8 gF_X6_137 ha rfl ?_
    refine J_if_eq 17 dX6_undo_11 (by decide) h2 (fun c3 h4 => ?_) (fun c3 h4 => ?_)
    · clear h2
      refine J_aload_n 0 dX6_undo_17 rfl rfl ?_
      refine J_dup dX6_undo_18 rfl ?_
      refine J_nget (k := 22) dX6_undo_19 gF_X6_239 ha rfl ?_
      refine J_iconst (1 : Int32) dX6_undo_22 (by decide) ?_
      refine J_isub dX6_undo_23 ?_
      obtain ⟨i5_, ei5_, h6⟩ := jLet_some h4; clear h4
      refine J_topI ei5_ ?_
      refine J_nput (k := 22) dX6_undo_24 gW_X6_239 ha rfl rfl ?_
      obtain ⟨S7, eS7, h8⟩ := jLet_some h6; clear h6
      refine J_topS eS7 ?_
      have hS7_a0 : a0 = S7.1 := by rw [eS7]; exact ha
      refine J_aload_n 0 dX6_undo_27 rfl rfl ?_
      refine J_aload_n 0 dX6_undo_28 rfl rfl ?_
      refine J_nget (k := 22) dX6_undo_29 gF_X6_239 hS7_a0 rfl ?_
      obtain ⟨S9, eS9, h10⟩ := bnd_some h8; clear h8
      have cS9 := (t_X6_back hS7_a0 eS9)
      have lS9 : jle NX S7 S9 := cS9.1
      have hS9_a0 : a0 = S9.1 := hS7_a0.trans (nle_eq lS9).symm
      refine J_callV (As := [.int (nF S7 22)]) (rest := []) (st' := []) cS9 gC_X6_back gM_X6_248 (by rw [hS7_a0]; exact nRecv) rfl (by decide) (by decide) rfl rfl (Nat.le_of_ble_eq_true rfl) dX6_undo_32 ?_
      refine J_aload_n 0 dX6_undo_35 rfl rfl ?_
      refine J_nget (k := 22) dX6_undo_36 gF_X6_239 hS9_a0 rfl ?_
      have hw := Option.some.inj h10; subst hw
      exact J_iret rfl dX6_undo_39
    · clear h2
      refine J_bipush (-3 : Int32) dX6_undo_14 (by decide) ?_
      have hw := Option.some.inj h4; subst hw
      exact J_iret rfl dX6_undo_16
def m_X6_pupil (S : MS) (i1 : Int32) (i2 : Int32) (i3 : Int32) (i4 : Int32) : Option (Int32 × MS) :=
  if (nF S 34) = (300 : Int32) then
    (some ((-4 : Int32), S))
  else
    (gd (inB ((4 : Int32) * (nF S 34)) 1200) <|
    jLet (nSA S 35 (Int32.toNatClampNeg ((4 : Int32) * (nF S 34))) i1) fun S5 =>
    gd (inB (((4 : Int32) * (nF S5 34)) + (1 : Int32)) 1200) <|
    jLet (nSA S5 35 (Int32.toNatClampNeg (((4 : Int32) * (nF S5 34)) + (1 : Int32))) i2) fun S9 =>
    gd (inB (((4 : Int32) * (nF S9 34)) + (2 : Int32)) 1200) <|
    jLet (nSA S9 35 (Int32.toNatClampNeg (((4 : Int32) * (nF S9 34)) + (2 : Int32))) i3) fun S13 =>
    gd (inB (((4 : Int32) * (nF S13 34)) + (3 : Int32)) 1200) <|
    jLet (nSA S13 35 (Int32.toNatClampNeg (((4 : Int32) * (nF S13 34)) + (3 : Int32))) i4) fun S17 =>
    jLet (((nF S17 34) + (1 : Int32))) fun i19_ =>
    jLet (nSF S17 34 i19_) fun S21 =>
    some ((nF S21 34), S21))
set_option maxRecDepth 100000 in
set_option maxHeartbeats 4000000 in
theorem t_X6_pupil {S : MS} {a0 : Nat} {i1 : Int32} {i2 : Int32} {i3 : Int32} {i4 : Int32} {w : (Int32 × MS)} (ha : a0 = S.1) (h : m_X6_pupil S i1 i2 i3 i4 = some w) : CT NX yX6_pupil cX6_pupil 5 (some .int) 0 0 [.ref a0, .int i1, .int i2, .int i3, .int i4] S (some (.int w.1)) w.2 := by
  refine CT.of (lv := [(0, .ref a0), (1, .int i1), (2, .int i2), (3, .int i3), (4, .int i4)]) (by decide) rfl (Nat.le_of_ble_eq_true rfl) ?_
  refine J_aload_n 0 dX6_pupil_0 rfl rfl ?_
  refine J_nget (k := 34) dX6_pupil_1 gF_X6_329 ha rfl ?_
  refine J_sipush (300 : Int32) dX6_pupil_4 (by decide) ?_
  refine J_icmp_ne 13 dX6_pupil_7 (by decide) h (fun c1 h2 => ?_) (fun c1 h2 => ?_)
  · clear h
    refine J_bipush (-4 : Int32) dX6_pupil_10 (by decide) ?_
    have hw := Option.some.inj h2; subst hw
    exact J_iret rfl dX6_pupil_12
  · clear h
    refine J_aload_n 0 dX6_pupil_13 rfl rfl ?_
    refine J_ngetA (k := 35) (o := 15) dX6_pupil_14 gF_X6_65 ha rfl ?_
    refine J_iconst (4 : Int32) dX6_pupil_17 (by decide) ?_
    refine J_aload_n 0 dX6_pupil_18 rfl rfl ?_
    refine J_nget (k := 34) dX6_pupil_19 gF_X6_329 ha rfl ?_
    refine J_imul dX6_pupil_22 ?_
    refine J_iload_n 1 dX6_pupil_23 rfl rfl ?_
    obtain ⟨g3, h4⟩ := gd_some h2; clear h2
    refine J_niast (k := 35) (o := 15) dX6_pupil_24 ha rfl rfl (by decide) g3 ?_
    obtain ⟨S5, eS5, h6⟩ := jLet_some h4; clear h4
    refine J_topS eS5 ?_
    have hS5_a0 : a0 = S5.1 := by rw [eS5]; exact ha
    refine J_aload_n 0 dX6_pupil_25 rfl rfl ?_
    refine J_ngetA (k := 35) (o := 15) dX6_pupil_26 gF_X6_65 hS5_a0 rfl ?_
    refine J_iconst (4 : Int32) dX6_pupil_29 (by decide) ?_
    refine J_aload_n 0 dX6_pupil_30 rfl rfl ?_
    refine J_nget (k := 34) dX6_pupil_31 gF_X6_329 hS5_a0 rfl ?_
    refine J_imul dX6_pupil_34 ?_
    refine J_iconst (1 : Int32) dX6_pupil_35 (by decide) ?_
    refine J_iadd dX6_pupil_36 ?_
    refine J_iload_n 2 dX6_pupil_37 rfl rfl ?_
    obtain ⟨g7, h8⟩ := gd_some h6; clear h6
    refine J_niast (k := 35) (o := 15) dX6_pupil_38 hS5_a0 rfl rfl (by decide) g7 ?_
    obtain ⟨S9, eS9, h10⟩ := jLet_some h8; clear h8
    refine J_topS eS9 ?_
    have hS9_a0 : a0 = S9.1 := by rw [eS9]; exact hS5_a0
    refine J_aload_n 0 dX6_pupil_39 rfl rfl ?_
    refine J_ngetA (k := 35) (o := 15) dX6_pupil_40 gF_X6_65 hS9_a0 rfl ?_
    refine J_iconst (4 : Int32) dX6_pupil_43 (by decide) ?_
    refine J_aload_n 0 dX6_pupil_44 rfl rfl ?_
    refine J_nget (k := 34) dX6_pupil_45 gF_X6_329 hS9_a0 rfl ?_
    refine J_imul dX6_pupil_48 ?_
    refine J_iconst (2 : Int32) dX6_pupil_49 (by decide) ?_
    refine J_iadd dX6_pupil_50 ?_
    refine J_iload_n 3 dX6_pupil_51 rfl rfl ?_
    obtain ⟨g11, h12⟩ := gd_some h10; clear h10
    refine J_niast (k := 35) (o := 15) dX6_pupil_52 hS9_a0 rfl rfl (by decide) g11 ?_
    obtain ⟨S13, eS13, h14⟩ := jLet_some h12; clear h12
    refine J_topS eS13 ?_
    have hS13_a0 : a0 = S13.1 := by rw [eS13]; exact hS9_a0
    refine J_aload_n 0 dX6_pupil_53 rfl rfl ?_
    refine J_ngetA (k := 35) (o := 15) dX6_pupil_54 gF_X6_65 hS13_a0 rfl ?_
    refine J_iconst (4 : Int32) dX6_pupil_57 (by decide) ?_
    refine J_aload_n 0 dX6_pupil_58 rfl rfl ?_
    refine J_nget (k := 34) dX6_pupil_59 gF_X6_329 hS13_a0 rfl ?_
    refine J_imul dX6_pupil_62 ?_
    refine J_iconst (3 : Int32) dX6_pupil_63 (by decide) ?_
    refine J_iadd dX6_pupil_64 ?_
    refine J_iload 4 dX6_pupil_65 rfl ?_
    obtain ⟨g15, h16⟩ := gd_some h14; clear h14
    refine J_niast (k := 35) (o := 15) dX6_pupil_67 hS13_a0 rfl rfl (by decide) g15 ?_
    obtain ⟨S17, eS17, h18⟩ := jLet_some h16; clear h16
    refine J_topS eS17 ?_
    have hS17_a0 : a0 = S17.1 := by rw [eS17]; exact hS13_a0
    refine J_aload_n 0 dX6_pupil_68 rfl rfl ?_
    refine J_dup dX6_pupil_69 rfl ?_
    refine J_nget (k := 34) dX6_pupil_70 gF_X6_329 hS17_a0 rfl ?_
    refine J_iconst (1 : Int32) dX6_pupil_73 (by decide) ?_
    refine J_iadd dX6_pupil_74 ?_
    obtain ⟨i19_, ei19_, h20⟩ := jLet_some h18; clear h18
    refine J_topI ei19_ ?_
    refine J_nput (k := 34) dX6_pupil_75 gW_X6_329 hS17_a0 rfl rfl ?_
    obtain ⟨S21, eS21, h22⟩ := jLet_some h20; clear h20
    refine J_topS eS21 ?_
    have hS21_a0 : a0 = S21.1 := by rw [eS21]; exact hS17_a0
    refine J_aload_n 0 dX6_pupil_78 rfl rfl ?_
    refine J_nget (k := 34) dX6_pupil_79 gF_X6_329 hS21_a0 rfl ?_
    have hw := Option.some.inj h22; subst hw
    exact J_iret rfl dX6_pupil_82
def m_X6_begin (S : MS) : Option (Int32 × MS) :=
  jLet ((nF S 34)) fun i1_ =>
  jLet (nSF S 34 (0 : Int32)) fun S3 =>
  some (i1_, S3)
set_option maxRecDepth 100000 in
set_option maxHeartbeats 4000000 in
theorem t_X6_begin {S : MS} {a0 : Nat} {w : (Int32 × MS)} (ha : a0 = S.1) (h : m_X6_begin S = some w) : CT NX yX6_begin cX6_begin 2 (some .int) 0 0 [.ref a0] S (some (.int w.1)) w.2 := by
  refine CT.of (lv := [(0, .ref a0)]) (by decide) rfl (Nat.le_of_ble_eq_true rfl) ?_
  refine J_aload_n 0 dX6_begin_0 rfl rfl ?_
  refine J_nget (k := 34) dX6_begin_1 gF_X6_329 ha rfl ?_
  obtain ⟨i1_, ei1_, h2⟩ := jLet_some h; clear h
  refine J_topI ei1_ ?_
  refine J_istore_n dX6_begin_4 rfl (by decide) [1, 0] (lv' := [(0, .ref a0), (1, .int i1_)]) rfl ?_
  refine J_aload_n 0 dX6_begin_5 rfl rfl ?_
  refine J_iconst (0 : Int32) dX6_begin_6 (by decide) ?_
  refine J_nput (k := 34) dX6_begin_7 gW_X6_329 ha rfl rfl ?_
  obtain ⟨S3, eS3, h4⟩ := jLet_some h2; clear h2
  refine J_topS eS3 ?_
  have hS3_a0 : a0 = S3.1 := by rw [eS3]; exact ha
  refine J_iload_n 1 dX6_begin_10 rfl rfl ?_
  have hw := Option.some.inj h4; subst hw
  exact J_iret rfl dX6_begin_11
def m_X6_isLike (S : MS) (i1 : Int32) (i2 : Int32) : Option Int32 :=
  gd (inB (((4 : Int32) * i1) + i2) 1200) <|
  gd (inB (((7 : Int32) * i1) + i2) 35000) <|
  if (nA S 35 (Int32.toNatClampNeg (((4 : Int32) * i1) + i2))) = (nA S 28 (Int32.toNatClampNeg (((7 : Int32) * i1) + i2))) then
    (gd (inB ((((4 : Int32) * i1) + i2) + (1 : Int32)) 1200) <|
    gd (inB ((((7 : Int32) * i1) + i2) + (1 : Int32)) 35000) <|
    if (nA S 35 (Int32.toNatClampNeg ((((4 : Int32) * i1) + i2) + (1 : Int32)))) = (nA S 28 (Int32.toNatClampNeg ((((7 : Int32) * i1) + i2) + (1 : Int32)))) then
      (some (1 : Int32))
    else
      (some (0 : Int32)))
  else
    (some (0 : Int32))
set_option maxRecDepth 100000 in
set_option maxHeartbeats 4000000 in
theorem t_X6_isLike {S : MS} {a0 : Nat} {i1 : Int32} {i2 : Int32} {w : Int32} (ha : a0 = S.1) (h : m_X6_isLike S i1 i2 = some w) : CT NX yX6_isLike cX6_isLike 3 (some .boolean) 0 0 [.ref a0, .int i1, .int i2] S (some (.int w)) S := by
  refine CT.of (lv := [(0, .ref a0), (1, .int i1), (2, .int i2)]) (by decide) rfl (Nat.le_of_ble_eq_true rfl) ?_
  refine J_aload_n 0 dX6_isLike_0 rfl rfl ?_
  refine J_ngetA (k := 35) (o := 15) dX6_isLike_1 gF_X6_65 ha rfl ?_
  refine J_iconst (4 : Int32) dX6_isLike_4 (by decide) ?_
  refine J_iload_n 1 dX6_isLike_5 rfl rfl ?_
  refine J_imul dX6_isLike_6 ?_
  refine J_iload_n 2 dX6_isLike_7 rfl rfl ?_
  refine J_iadd dX6_isLike_8 ?_
  obtain ⟨g1, h2⟩ := gd_some h; clear h
  refine J_niald (k := 35) (o := 15) dX6_isLike_9 ha rfl rfl (by decide) g1 ?_
  refine J_aload_n 0 dX6_isLike_10 rfl rfl ?_
  refine J_ngetA (k := 28) (o := 12) dX6_isLike_11 gF_X6_54 ha rfl ?_
  refine J_bipush (7 : Int32) dX6_isLike_14 (by decide) ?_
  refine J_iload_n 1 dX6_isLike_16 rfl rfl ?_
  refine J_imul dX6_isLike_17 ?_
  refine J_iload_n 2 dX6_isLike_18 rfl rfl ?_
  refine J_iadd dX6_isLike_19 ?_
  obtain ⟨g3, h4⟩ := gd_some h2; clear h2
  refine J_niald (k := 28) (o := 12) dX6_isLike_20 ha rfl rfl (by decide) g3 ?_
  refine J_icmp_ne 56 dX6_isLike_21 (by decide) h4 (fun c5 h6 => ?_) (fun c5 h6 => ?_)
  · clear h4
    refine J_aload_n 0 dX6_isLike_24 rfl rfl ?_
    refine J_ngetA (k := 35) (o := 15) dX6_isLike_25 gF_X6_65 ha rfl ?_
    refine J_iconst (4 : Int32) dX6_isLike_28 (by decide) ?_
    refine J_iload_n 1 dX6_isLike_29 rfl rfl ?_
    refine J_imul dX6_isLike_30 ?_
    refine J_iload_n 2 dX6_isLike_31 rfl rfl ?_
    refine J_iadd dX6_isLike_32 ?_
    refine J_iconst (1 : Int32) dX6_isLike_33 (by decide) ?_
    refine J_iadd dX6_isLike_34 ?_
    obtain ⟨g7, h8⟩ := gd_some h6; clear h6
    refine J_niald (k := 35) (o := 15) dX6_isLike_35 ha rfl rfl (by decide) g7 ?_
    refine J_aload_n 0 dX6_isLike_36 rfl rfl ?_
    refine J_ngetA (k := 28) (o := 12) dX6_isLike_37 gF_X6_54 ha rfl ?_
    refine J_bipush (7 : Int32) dX6_isLike_40 (by decide) ?_
    refine J_iload_n 1 dX6_isLike_42 rfl rfl ?_
    refine J_imul dX6_isLike_43 ?_
    refine J_iload_n 2 dX6_isLike_44 rfl rfl ?_
    refine J_iadd dX6_isLike_45 ?_
    refine J_iconst (1 : Int32) dX6_isLike_46 (by decide) ?_
    refine J_iadd dX6_isLike_47 ?_
    obtain ⟨g9, h10⟩ := gd_some h8; clear h8
    refine J_niald (k := 28) (o := 12) dX6_isLike_48 ha rfl rfl (by decide) g9 ?_
    refine J_icmp_ne 56 dX6_isLike_49 (by decide) h10 (fun c11 h12 => ?_) (fun c11 h12 => ?_)
    · clear h10
      refine J_iconst (1 : Int32) dX6_isLike_52 (by decide) ?_
      refine J_goto 57 dX6_isLike_53 (by decide) ?_
      have hw := Option.some.inj h12; subst hw
      exact J_zret rfl (by decide) dX6_isLike_57
    · clear h10
      refine J_iconst (0 : Int32) dX6_isLike_56 (by decide) ?_
      have hw := Option.some.inj h12; subst hw
      exact J_zret rfl (by decide) dX6_isLike_57
  · clear h4
    refine J_iconst (0 : Int32) dX6_isLike_56 (by decide) ?_
    have hw := Option.some.inj h6; subst hw
    exact J_zret rfl (by decide) dX6_isLike_57
def m_X6_slip_L25 (S : MS) : Nat → Int32 → Int32 → Option Int32
  | 0, _, _ => none
  | n + 1, i1, i2 =>
    if i1 ≤ i2 then
      (if (nF S 34) = (nF S 21) then
        (some (-5 : Int32))
      else
        (some i1))
    else
      (bnd (m_X6_isLike S i2 (0 : Int32)) fun i5_ =>
      if i5_ = 0 then
        (some i2)
      else
        (bnd (m_X6_isLike S i2 (2 : Int32)) fun i9_ =>
        if i9_ = 0 then
          (some i2)
        else
          (m_X6_slip_L25 S n i1 (i2 + (1 : Int32)))))
set_option maxRecDepth 100000 in
set_option maxHeartbeats 4000000 in
theorem t_X6_slip_L25 {S : MS} {w : Int32} (n : Nat) : ∀ (a0 : Nat) (i1 : Int32) (i2 : Int32), (a0 = S.1) → m_X6_slip_L25 S n i1 i2 = some w → J NX yX6_slip cX6_slip 3 (some .int) 1 22 25 [(0, .ref a0), (1, .int i1), (2, .int i2)] [] S (some (.int w)) S := by
  induction n with
  | zero => intro a0 i1 i2 ha h; cases h
  | succ n lh =>
    intro a0 i1 i2 ha h
    refine J_iload_n 2 dX6_slip_25 rfl rfl ?_
    refine J_iload_n 1 dX6_slip_26 rfl rfl ?_
    refine J_icmp_ge 56 dX6_slip_27 (by decide) h (fun c1 h2 => ?_) (fun c1 h2 => ?_)
    · clear h
      refine J_aload_n 0 dX6_slip_56 rfl rfl ?_
      refine J_nget (k := 34) dX6_slip_57 gF_X6_329 ha rfl ?_
      refine J_aload_n 0 dX6_slip_60 rfl rfl ?_
      refine J_nget (k := 21) dX6_slip_61 gF_X6_236 ha rfl ?_
      refine J_icmp_ne 72 dX6_slip_64 (by decide) h2 (fun c3 h4 => ?_) (fun c3 h4 => ?_)
      · clear h2
        refine J_bipush (-5 : Int32) dX6_slip_67 (by decide) ?_
        refine J_goto 73 dX6_slip_69 (by decide) ?_
        have hw := Option.some.inj h4; subst hw
        exact J_iret rfl dX6_slip_73
      · clear h2
        refine J_iload_n 1 dX6_slip_72 rfl rfl ?_
        have hw := Option.some.inj h4; subst hw
        exact J_iret rfl dX6_slip_73
    · clear h
      refine J_aload_n 0 dX6_slip_30 rfl rfl ?_
      refine J_iload_n 2 dX6_slip_31 rfl rfl ?_
      refine J_iconst (0 : Int32) dX6_slip_32 (by decide) ?_
      obtain ⟨i5_, ei5_, h6⟩ := bnd_some h2; clear h2
      refine J_callV (As := [.int i2, .int (0 : Int32)]) (rest := []) (st' := [.int i5_]) (t_X6_isLike ha ei5_) gC_X6_isLike gM_X6_332 (by rw [ha]; exact nRecv) rfl (by decide) (by decide) rfl rfl (Nat.le_of_ble_eq_true rfl) dX6_slip_33 ?_
      refine J_if_eq 48 dX6_slip_36 (by decide) h6 (fun c7 h8 => ?_) (fun c7 h8 => ?_)
      · clear h6
        refine J_iload_n 2 dX6_slip_48 rfl rfl ?_
        have hw := Option.some.inj h8; subst hw
        exact J_iret rfl dX6_slip_49
      · clear h6
        refine J_aload_n 0 dX6_slip_39 rfl rfl ?_
        refine J_iload_n 2 dX6_slip_40 rfl rfl ?_
        refine J_iconst (2 : Int32) dX6_slip_41 (by decide) ?_
        obtain ⟨i9_, ei9_, h10⟩ := bnd_some h8; clear h8
        refine J_callV (As := [.int i2, .int (2 : Int32)]) (rest := []) (st' := [.int i9_]) (t_X6_isLike ha ei9_) gC_X6_isLike gM_X6_332 (by rw [ha]; exact nRecv) rfl (by decide) (by decide) rfl rfl (Nat.le_of_ble_eq_true rfl) dX6_slip_42 ?_
        refine J_if_ne 50 dX6_slip_45 (by decide) h10 (fun c11 h12 => ?_) (fun c11 h12 => ?_)
        · clear h10
          refine J_iload_n 2 dX6_slip_48 rfl rfl ?_
          have hw := Option.some.inj h12; subst hw
          exact J_iret rfl dX6_slip_49
        · clear h10
          refine J_iinc 2 (1 : Int32) dX6_slip_50 rfl (by decide) (by decide) [1, 2, 0] (lv' := [(0, .ref a0), (1, .int i1), (2, .int (i2 + (1 : Int32)))]) rfl ?_
          refine J_goto 25 dX6_slip_53 (by decide) ?_
          exact lh a0 i1 (i2 + (1 : Int32)) ha h12
def m_X6_slip (S : MS) : Option Int32 :=
  if (nF S 21) ≤ (nF S 34) then
    (jLet ((nF S 21)) fun i3_ =>
    m_X6_slip_L25 S bigN i3_ (0 : Int32))
  else
    (jLet ((nF S 34)) fun i5_ =>
    m_X6_slip_L25 S bigN i5_ (0 : Int32))
set_option maxRecDepth 100000 in
set_option maxHeartbeats 4000000 in
theorem t_X6_slip {S : MS} {a0 : Nat} {w : Int32} (ha : a0 = S.1) (h : m_X6_slip S = some w) : CT NX yX6_slip cX6_slip 3 (some .int) 1 22 [.ref a0] S (some (.int w)) S := by
  refine CT.of (lv := [(0, .ref a0)]) (by decide) rfl (Nat.le_of_ble_eq_true rfl) ?_
  refine J_aload_n 0 dX6_slip_0 rfl rfl ?_
  refine J_nget (k := 34) dX6_slip_1 gF_X6_329 ha rfl ?_
  refine J_aload_n 0 dX6_slip_4 rfl rfl ?_
  refine J_nget (k := 21) dX6_slip_5 gF_X6_236 ha rfl ?_
  refine J_icmp_ge 18 dX6_slip_8 (by decide) h (fun c1 h2 => ?_) (fun c1 h2 => ?_)
  · clear h
    refine J_aload_n 0 dX6_slip_18 rfl rfl ?_
    refine J_nget (k := 21) dX6_slip_19 gF_X6_236 ha rfl ?_
    obtain ⟨i3_, ei3_, h4⟩ := jLet_some h2; clear h2
    refine J_topI ei3_ ?_
    refine J_istore_n dX6_slip_22 rfl (by decide) [1, 0] (lv' := [(0, .ref a0), (1, .int i3_)]) rfl ?_
    refine J_iconst (0 : Int32) dX6_slip_23 (by decide) ?_
    refine J_istore_n dX6_slip_24 rfl (by decide) [1, 2, 0] (lv' := [(0, .ref a0), (1, .int i3_), (2, .int (0 : Int32))]) rfl ?_
    exact t_X6_slip_L25 bigN a0 i3_ (0 : Int32) ha h4
  · clear h
    refine J_aload_n 0 dX6_slip_11 rfl rfl ?_
    refine J_nget (k := 34) dX6_slip_12 gF_X6_329 ha rfl ?_
    refine J_goto 22 dX6_slip_15 (by decide) ?_
    obtain ⟨i5_, ei5_, h6⟩ := jLet_some h2; clear h2
    refine J_topI ei5_ ?_
    refine J_istore_n dX6_slip_22 rfl (by decide) [1, 0] (lv' := [(0, .ref a0), (1, .int i5_)]) rfl ?_
    refine J_iconst (0 : Int32) dX6_slip_23 (by decide) ?_
    refine J_istore_n dX6_slip_24 rfl (by decide) [1, 2, 0] (lv' := [(0, .ref a0), (1, .int i5_), (2, .int (0 : Int32))]) rfl ?_
    exact t_X6_slip_L25 bigN a0 i5_ (0 : Int32) ha h6
def m_X6_lapse (S : MS) : Option Int32 :=
  bnd (m_X6_slip S) fun i1_ =>
  if i1_ = (-5 : Int32) then
    (some (0 : Int32))
  else
    (if i1_ = (nF S 34) then
      (some (3 : Int32))
    else
      (if i1_ = (nF S 21) then
        (some (4 : Int32))
      else
        (bnd (m_X6_isLike S i1_ (0 : Int32)) fun i9_ =>
        if i9_ = 0 then
          (some (1 : Int32))
        else
          (some (2 : Int32)))))
set_option maxRecDepth 100000 in
set_option maxHeartbeats 4000000 in
theorem t_X6_lapse {S : MS} {a0 : Nat} {w : Int32} (ha : a0 = S.1) (h : m_X6_lapse S = some w) : CT NX yX6_lapse cX6_lapse 2 (some .int) 2 44 [.ref a0] S (some (.int w)) S := by
  refine CT.of (lv := [(0, .ref a0)]) (by decide) rfl (Nat.le_of_ble_eq_true rfl) ?_
  refine J_aload_n 0 dX6_lapse_0 rfl rfl ?_
  obtain ⟨i1_, ei1_, h2⟩ := bnd_some h; clear h
  refine J_callV (As := []) (rest := []) (st' := [.int i1_]) (t_X6_slip ha ei1_) gC_X6_slip gM_X6_335 (by rw [ha]; exact nRecv) rfl (by decide) (by decide) rfl rfl (Nat.le_of_ble_eq_true rfl) dX6_lapse_1 ?_
  refine J_istore_n dX6_lapse_4 rfl (by decide) [1, 0] (lv' := [(0, .ref a0), (1, .int i1_)]) rfl ?_
  refine J_iload_n 1 dX6_lapse_5 rfl rfl ?_
  refine J_bipush (-5 : Int32) dX6_lapse_6 (by decide) ?_
  refine J_icmp_ne 13 dX6_lapse_8 (by decide) h2 (fun c3 h4 => ?_) (fun c3 h4 => ?_)
  · clear h2
    refine J_iconst (0 : Int32) dX6_lapse_11 (by decide) ?_
    have hw := Option.some.inj h4; subst hw
    exact J_iret rfl dX6_lapse_12
  · clear h2
    refine J_iload_n 1 dX6_lapse_13 rfl rfl ?_
    refine J_aload_n 0 dX6_lapse_14 rfl rfl ?_
    refine J_nget (k := 34) dX6_lapse_15 gF_X6_329 ha rfl ?_
    refine J_icmp_ne 25 dX6_lapse_18 (by decide) h4 (fun c5 h6 => ?_) (fun c5 h6 => ?_)
    · clear h4
      refine J_iconst (3 : Int32) dX6_lapse_21 (by decide) ?_
      refine J_goto 51 dX6_lapse_22 (by decide) ?_
      have hw := Option.some.inj h6; subst hw
      exact J_iret rfl dX6_lapse_51
    · clear h4
      refine J_iload_n 1 dX6_lapse_25 rfl rfl ?_
      refine J_aload_n 0 dX6_lapse_26 rfl rfl ?_
      refine J_nget (k := 21) dX6_lapse_27 gF_X6_236 ha rfl ?_
      refine J_icmp_ne 37 dX6_lapse_30 (by decide) h6 (fun c7 h8 => ?_) (fun c7 h8 => ?_)
      · clear h6
        refine J_iconst (4 : Int32) dX6_lapse_33 (by decide) ?_
        refine J_goto 51 dX6_lapse_34 (by decide) ?_
        have hw := Option.some.inj h8; subst hw
        exact J_iret rfl dX6_lapse_51
      · clear h6
        refine J_aload_n 0 dX6_lapse_37 rfl rfl ?_
        refine J_iload_n 1 dX6_lapse_38 rfl rfl ?_
        refine J_iconst (0 : Int32) dX6_lapse_39 (by decide) ?_
        obtain ⟨i9_, ei9_, h10⟩ := bnd_some h8; clear h8
        refine J_callV (As := [.int i1_, .int (0 : Int32)]) (rest := []) (st' := [.int i9_]) (t_X6_isLike ha ei9_) gC_X6_isLike gM_X6_332 (by rw [ha]; exact nRecv) rfl (by decide) (by decide) rfl rfl (Nat.le_of_ble_eq_true rfl) dX6_lapse_40 ?_
        refine J_if_ne 50 dX6_lapse_43 (by decide) h10 (fun c11 h12 => ?_) (fun c11 h12 => ?_)
        · clear h10
          refine J_iconst (1 : Int32) dX6_lapse_46 (by decide) ?_
          refine J_goto 51 dX6_lapse_47 (by decide) ?_
          have hw := Option.some.inj h12; subst hw
          exact J_iret rfl dX6_lapse_51
        · clear h10
          refine J_iconst (2 : Int32) dX6_lapse_50 (by decide) ?_
          have hw := Option.some.inj h12; subst hw
          exact J_iret rfl dX6_lapse_51
def m_X6_fix_L44 : Nat → MS → Int32 → Int32 → Option (Int32 × MS)
  | 0, _, _, _ => none
  | n + 1, S, i1, i2 =>
    if (4 : Int32) ≤ i2 then
      (if i1 = (nF S 34) then
        (jLet ((i1 + (1 : Int32))) fun i5_ =>
        jLet (nSF S 34 i5_) fun S7 =>
        bnd (m_X6_slip S7) fun i9_ =>
        some (i9_, S7))
      else
        (jLet ((nF S 34)) fun i11_ =>
        jLet (nSF S 34 i11_) fun S13 =>
        bnd (m_X6_slip S13) fun i15_ =>
        some (i15_, S13)))
    else
      (gd (inB (((7 : Int32) * i1) + i2) 35000) <|
      jLet ((nA S 28 (Int32.toNatClampNeg (((7 : Int32) * i1) + i2)))) fun i19_ =>
      gd (inB (((4 : Int32) * i1) + i2) 1200) <|
      jLet (nSA S 35 (Int32.toNatClampNeg (((4 : Int32) * i1) + i2)) i19_) fun S23 =>
      m_X6_fix_L44 n S23 i1 (i2 + (1 : Int32)))
set_option maxRecDepth 100000 in
set_option maxHeartbeats 4000000 in
theorem t_X6_fix_L44 {w : (Int32 × MS)} (n : Nat) : ∀ (S : MS) (a0 : Nat) (i1 : Int32) (i2 : Int32), (a0 = S.1) → m_X6_fix_L44 n S i1 i2 = some w → J NX yX6_fix cX6_fix 3 (some .int) 2 44 44 [(0, .ref a0), (1, .int i1), (2, .int i2)] [] S (some (.int w.1)) w.2 := by
  induction n with
  | zero => intro S a0 i1 i2 ha h; cases h
  | succ n lh =>
    intro S a0 i1 i2 ha h
    refine J_iload_n 2 dX6_fix_44 rfl rfl ?_
    refine J_iconst (4 : Int32) dX6_fix_45 (by decide) ?_
    refine J_icmp_ge 76 dX6_fix_46 (by decide) h (fun c1 h2 => ?_) (fun c1 h2 => ?_)
    · clear h
      refine J_aload_n 0 dX6_fix_76 rfl rfl ?_
      refine J_iload_n 1 dX6_fix_77 rfl rfl ?_
      refine J_aload_n 0 dX6_fix_78 rfl rfl ?_
      refine J_nget (k := 34) dX6_fix_79 gF_X6_329 ha rfl ?_
      refine J_icmp_ne 91 dX6_fix_82 (by decide) h2 (fun c3 h4 => ?_) (fun c3 h4 => ?_)
      · clear h2
        refine J_iload_n 1 dX6_fix_85 rfl rfl ?_
        refine J_iconst (1 : Int32) dX6_fix_86 (by decide) ?_
        refine J_iadd dX6_fix_87 ?_
        refine J_goto 95 dX6_fix_88 (by decide) ?_
        obtain ⟨i5_, ei5_, h6⟩ := jLet_some h4; clear h4
        refine J_topI ei5_ ?_
        refine J_nput (k := 34) dX6_fix_95 gW_X6_329 ha rfl rfl ?_
        obtain ⟨S7, eS7, h8⟩ := jLet_some h6; clear h6
        refine J_topS eS7 ?_
        have hS7_a0 : a0 = S7.1 := by rw [eS7]; exact ha
        refine J_aload_n 0 dX6_fix_98 rfl rfl ?_
        obtain ⟨i9_, ei9_, h10⟩ := bnd_some h8; clear h8
        refine J_callV (As := []) (rest := []) (st' := [.int i9_]) (t_X6_slip hS7_a0 ei9_) gC_X6_slip gM_X6_335 (by rw [hS7_a0]; exact nRecv) rfl (by decide) (by decide) rfl rfl (Nat.le_of_ble_eq_true rfl) dX6_fix_99 ?_
        have hw := Option.some.inj h10; subst hw
        exact J_iret rfl dX6_fix_102
      · clear h2
        refine J_aload_n 0 dX6_fix_91 rfl rfl ?_
        refine J_nget (k := 34) dX6_fix_92 gF_X6_329 ha rfl ?_
        obtain ⟨i11_, ei11_, h12⟩ := jLet_some h4; clear h4
        refine J_topI ei11_ ?_
        refine J_nput (k := 34) dX6_fix_95 gW_X6_329 ha rfl rfl ?_
        obtain ⟨S13, eS13, h14⟩ := jLet_some h12; clear h12
        refine J_topS eS13 ?_
        have hS13_a0 : a0 = S13.1 := by rw [eS13]; exact ha
        refine J_aload_n 0 dX6_fix_98 rfl rfl ?_
        obtain ⟨i15_, ei15_, h16⟩ := bnd_some h14; clear h14
        refine J_callV (As := []) (rest := []) (st' := [.int i15_]) (t_X6_slip hS13_a0 ei15_) gC_X6_slip gM_X6_335 (by rw [hS13_a0]; exact nRecv) rfl (by decide) (by decide) rfl rfl (Nat.le_of_ble_eq_true rfl) dX6_fix_99 ?_
        have hw := Option.some.inj h16; subst hw
        exact J_iret rfl dX6_fix_102
    · clear h
      refine J_aload_n 0 dX6_fix_49 rfl rfl ?_
      refine J_ngetA (k := 35) (o := 15) dX6_fix_50 gF_X6_65 ha rfl ?_
      refine J_iconst (4 : Int32) dX6_fix_53 (by decide) ?_
      refine J_iload_n 1 dX6_fix_54 rfl rfl ?_
      refine J_imul dX6_fix_55 ?_
      refine J_iload_n 2 dX6_fix_56 rfl rfl ?_
      refine J_iadd dX6_fix_57 ?_
      refine J_aload_n 0 dX6_fix_58 rfl rfl ?_
      refine J_ngetA (k := 28) (o := 12) dX6_fix_59 gF_X6_54 ha rfl ?_
      refine J_bipush (7 : Int32) dX6_fix_62 (by decide) ?_
      refine J_iload_n 1 dX6_fix_64 rfl rfl ?_
      refine J_imul dX6_fix_65 ?_
      refine J_iload_n 2 dX6_fix_66 rfl rfl ?_
      refine J_iadd dX6_fix_67 ?_
      obtain ⟨g17, h18⟩ := gd_some h2; clear h2
      refine J_niald (k := 28) (o := 12) dX6_fix_68 ha rfl rfl (by decide) g17 ?_
      obtain ⟨i19_, ei19_, h20⟩ := jLet_some h18; clear h18
      refine J_topI ei19_ ?_
      obtain ⟨g21, h22⟩ := gd_some h20; clear h20
      refine J_niast (k := 35) (o := 15) dX6_fix_69 ha rfl rfl (by decide) g21 ?_
      obtain ⟨S23, eS23, h24⟩ := jLet_some h22; clear h22
      refine J_topS eS23 ?_
      have hS23_a0 : a0 = S23.1 := by rw [eS23]; exact ha
      refine J_iinc 2 (1 : Int32) dX6_fix_70 rfl (by decide) (by decide) [1, 2, 0] (lv' := [(0, .ref a0), (1, .int i1), (2, .int (i2 + (1 : Int32)))]) rfl ?_
      refine J_goto 44 dX6_fix_73 (by decide) ?_
      exact lh S23 a0 i1 (i2 + (1 : Int32)) hS23_a0 h24
def m_X6_fix (S : MS) : Option (Int32 × MS) :=
  bnd (m_X6_slip S) fun i1_ =>
  if i1_ = (-5 : Int32) then
    (some ((-3 : Int32), S))
  else
    (if i1_ = (300 : Int32) then
      (some ((-4 : Int32), S))
    else
      (if i1_ = (nF S 21) then
        (jLet (nSF S 34 i1_) fun S9 =>
        bnd (m_X6_slip S9) fun i11_ =>
        some (i11_, S9))
      else
        (m_X6_fix_L44 bigN S i1_ (0 : Int32))))
set_option maxRecDepth 100000 in
set_option maxHeartbeats 4000000 in
theorem t_X6_fix {S : MS} {a0 : Nat} {w : (Int32 × MS)} (ha : a0 = S.1) (h : m_X6_fix S = some w) : CT NX yX6_fix cX6_fix 3 (some .int) 2 44 [.ref a0] S (some (.int w.1)) w.2 := by
  refine CT.of (lv := [(0, .ref a0)]) (by decide) rfl (Nat.le_of_ble_eq_true rfl) ?_
  refine J_aload_n 0 dX6_fix_0 rfl rfl ?_
  obtain ⟨i1_, ei1_, h2⟩ := bnd_some h; clear h
  refine J_callV (As := []) (rest := []) (st' := [.int i1_]) (t_X6_slip ha ei1_) gC_X6_slip gM_X6_335 (by rw [ha]; exact nRecv) rfl (by decide) (by decide) rfl rfl (Nat.le_of_ble_eq_true rfl) dX6_fix_1 ?_
  refine J_istore_n dX6_fix_4 rfl (by decide) [1, 0] (lv' := [(0, .ref a0), (1, .int i1_)]) rfl ?_
  refine J_iload_n 1 dX6_fix_5 rfl rfl ?_
  refine J_bipush (-5 : Int32) dX6_fix_6 (by decide) ?_
  refine J_icmp_ne 14 dX6_fix_8 (by decide) h2 (fun c3 h4 => ?_) (fun c3 h4 => ?_)
  · clear h2
    refine J_bipush (-3 : Int32) dX6_fix_11 (by decide) ?_
    have hw := Option.some.inj h4; subst hw
    exact J_iret rfl dX6_fix_13
  · clear h2
    refine J_iload_n 1 dX6_fix_14 rfl rfl ?_
    refine J_sipush (300 : Int32) dX6_fix_15 (by decide) ?_
    refine J_icmp_ne 24 dX6_fix_18 (by decide) h4 (fun c5 h6 => ?_) (fun c5 h6 => ?_)
    · clear h4
      refine J_bipush (-4 : Int32) dX6_fix_21 (by decide) ?_
      have hw := Option.some.inj h6; subst hw
      exact J_iret rfl dX6_fix_23
    · clear h4
      refine J_iload_n 1 dX6_fix_24 rfl rfl ?_
      refine J_aload_n 0 dX6_fix_25 rfl rfl ?_
      refine J_nget (k := 21) dX6_fix_26 gF_X6_236 ha rfl ?_
      refine J_icmp_ne 42 dX6_fix_29 (by decide) h6 (fun c7 h8 => ?_) (fun c7 h8 => ?_)
      · clear h6
        refine J_aload_n 0 dX6_fix_32 rfl rfl ?_
        refine J_iload_n 1 dX6_fix_33 rfl rfl ?_
        refine J_nput (k := 34) dX6_fix_34 gW_X6_329 ha rfl rfl ?_
        obtain ⟨S9, eS9, h10⟩ := jLet_some h8; clear h8
        refine J_topS eS9 ?_
        have hS9_a0 : a0 = S9.1 := by rw [eS9]; exact ha
        refine J_aload_n 0 dX6_fix_37 rfl rfl ?_
        obtain ⟨i11_, ei11_, h12⟩ := bnd_some h10; clear h10
        refine J_callV (As := []) (rest := []) (st' := [.int i11_]) (t_X6_slip hS9_a0 ei11_) gC_X6_slip gM_X6_335 (by rw [hS9_a0]; exact nRecv) rfl (by decide) (by decide) rfl rfl (Nat.le_of_ble_eq_true rfl) dX6_fix_38 ?_
        have hw := Option.some.inj h12; subst hw
        exact J_iret rfl dX6_fix_41
      · clear h6
        refine J_iconst (0 : Int32) dX6_fix_42 (by decide) ?_
        refine J_istore_n dX6_fix_43 rfl (by decide) [1, 2, 0] (lv' := [(0, .ref a0), (1, .int i1_), (2, .int (0 : Int32))]) rfl ?_
        exact t_X6_fix_L44 bigN S a0 i1_ (0 : Int32) ha h8
def m_X6_draw (S : MS) : Option (Int32 × MS) :=
  jLet ((((1103515245 : Int32) * (nF S 42)) + (12345 : Int32))) fun i1_ =>
  jLet (nSF S 42 i1_) fun S3 =>
  some (((Int32.toUInt32 (nF S3 42) >>> (Int32.toUInt32 (16 : Int32) &&& Int32.toUInt32 31)).toInt32), S3)
set_option maxRecDepth 100000 in
set_option maxHeartbeats 4000000 in
theorem t_X6_draw {S : MS} {a0 : Nat} {w : (Int32 × MS)} (ha : a0 = S.1) (h : m_X6_draw S = some w) : CT NX yX6_draw cX6_draw 1 (some .int) 0 0 [.ref a0] S (some (.int w.1)) w.2 := by
  refine CT.of (lv := [(0, .ref a0)]) (by decide) rfl (Nat.le_of_ble_eq_true rfl) ?_
  refine J_aload_n 0 dX6_draw_0 rfl rfl ?_
  refine J_ldcw (1103515245 : Int32) dX6_draw_1 gK_X6_339 ?_
  refine J_aload_n 0 dX6_draw_4 rfl rfl ?_
  refine J_nget (k := 42) dX6_draw_5 gF_X6_340 ha rfl ?_
  refine J_imul dX6_draw_8 ?_
  refine J_sipush (12345 : Int32) dX6_draw_9 (by decide) ?_
  refine J_iadd dX6_draw_12 ?_
  obtain ⟨i1_, ei1_, h2⟩ := jLet_some h; clear h
  refine J_topI ei1_ ?_
  refine J_nput (k := 42) dX6_draw_13 gW_X6_340 ha rfl rfl ?_
  obtain ⟨S3, eS3, h4⟩ := jLet_some h2; clear h2
  refine J_topS eS3 ?_
  have hS3_a0 : a0 = S3.1 := by rw [eS3]; exact ha
  refine J_aload_n 0 dX6_draw_16 rfl rfl ?_
  refine J_nget (k := 42) dX6_draw_17 gF_X6_340 hS3_a0 rfl ?_
  refine J_bipush (16 : Int32) dX6_draw_20 (by decide) ?_
  refine J_iushr dX6_draw_22 ?_
  have hw := Option.some.inj h4; subst hw
  exact J_iret rfl dX6_draw_23
def m_X6_isTrue (i0 : Int32) (i1 : Int32) (i2 : Int32) (i3 : Int32) : Option Int32 :=
  if i0 = 0 then
    (if (i1 + i2) = i3 then
      (some (1 : Int32))
    else
      (some (0 : Int32)))
  else
    (if i0 = (1 : Int32) then
      (if (i1 - i2) = i3 then
        (some (1 : Int32))
      else
        (some (0 : Int32)))
    else
      (if (i1 * i2) = i3 then
        (some (1 : Int32))
      else
        (some (0 : Int32))))
set_option maxRecDepth 100000 in
set_option maxHeartbeats 4000000 in
theorem t_X6_isTrue {S : MS} {i0 : Int32} {i1 : Int32} {i2 : Int32} {i3 : Int32} {w : Int32} (h : m_X6_isTrue i0 i1 i2 i3 = some w) : CT NX yX6_isTrue cX6_isTrue 4 (some .boolean) 0 0 [.int i0, .int i1, .int i2, .int i3] S (some (.int w)) S := by
  refine CT.of (lv := [(0, .int i0), (1, .int i1), (2, .int i2), (3, .int i3)]) (by decide) rfl (Nat.le_of_ble_eq_true rfl) ?_
  refine J_iload_n 0 dX6_isTrue_0 rfl rfl ?_
  refine J_if_ne 19 dX6_isTrue_1 (by decide) h (fun c1 h2 => ?_) (fun c1 h2 => ?_)
  · clear h
    refine J_iload_n 1 dX6_isTrue_4 rfl rfl ?_
    refine J_iload_n 2 dX6_isTrue_5 rfl rfl ?_
    refine J_iadd dX6_isTrue_6 ?_
    refine J_iload_n 3 dX6_isTrue_7 rfl rfl ?_
    refine J_icmp_ne 15 dX6_isTrue_8 (by decide) h2 (fun c3 h4 => ?_) (fun c3 h4 => ?_)
    · clear h2
      refine J_iconst (1 : Int32) dX6_isTrue_11 (by decide) ?_
      refine J_goto 51 dX6_isTrue_12 (by decide) ?_
      have hw := Option.some.inj h4; subst hw
      exact J_zret rfl (by decide) dX6_isTrue_51
    · clear h2
      refine J_iconst (0 : Int32) dX6_isTrue_15 (by decide) ?_
      refine J_goto 51 dX6_isTrue_16 (by decide) ?_
      have hw := Option.some.inj h4; subst hw
      exact J_zret rfl (by decide) dX6_isTrue_51
  · clear h
    refine J_iload_n 0 dX6_isTrue_19 rfl rfl ?_
    refine J_iconst (1 : Int32) dX6_isTrue_20 (by decide) ?_
    refine J_icmp_ne 39 dX6_isTrue_21 (by decide) h2 (fun c5 h6 => ?_) (fun c5 h6 => ?_)
    · clear h2
      refine J_iload_n 1 dX6_isTrue_24 rfl rfl ?_
      refine J_iload_n 2 dX6_isTrue_25 rfl rfl ?_
      refine J_isub dX6_isTrue_26 ?_
      refine J_iload_n 3 dX6_isTrue_27 rfl rfl ?_
      refine J_icmp_ne 35 dX6_isTrue_28 (by decide) h6 (fun c7 h8 => ?_) (fun c7 h8 => ?_)
      · clear h6
        refine J_iconst (1 : Int32) dX6_isTrue_31 (by decide) ?_
        refine J_goto 51 dX6_isTrue_32 (by decide) ?_
        have hw := Option.some.inj h8; subst hw
        exact J_zret rfl (by decide) dX6_isTrue_51
      · clear h6
        refine J_iconst (0 : Int32) dX6_isTrue_35 (by decide) ?_
        refine J_goto 51 dX6_isTrue_36 (by decide) ?_
        have hw := Option.some.inj h8; subst hw
        exact J_zret rfl (by decide) dX6_isTrue_51
    · clear h2
      refine J_iload_n 1 dX6_isTrue_39 rfl rfl ?_
      refine J_iload_n 2 dX6_isTrue_40 rfl rfl ?_
      refine J_imul dX6_isTrue_41 ?_
      refine J_iload_n 3 dX6_isTrue_42 rfl rfl ?_
      refine J_icmp_ne 50 dX6_isTrue_43 (by decide) h6 (fun c9 h10 => ?_) (fun c9 h10 => ?_)
      · clear h6
        refine J_iconst (1 : Int32) dX6_isTrue_46 (by decide) ?_
        refine J_goto 51 dX6_isTrue_47 (by decide) ?_
        have hw := Option.some.inj h10; subst hw
        exact J_zret rfl (by decide) dX6_isTrue_51
      · clear h6
        refine J_iconst (0 : Int32) dX6_isTrue_50 (by decide) ?_
        have hw := Option.some.inj h10; subst hw
        exact J_zret rfl (by decide) dX6_isTrue_51
def m_X6_numberAt_L5 (S : MS) : Nat → Int32 → Int32 → Int32 → Option Int32
  | 0, _, _, _ => none
  | n + 1, i2, i3, i4 =>
    if i2 ≤ i4 then
      (some i3)
    else
      (gd (inB i4 12) <|
      jLet ((((10 : Int32) * i3) + (nA S 43 (Int32.toNatClampNeg i4)))) fun i5_ =>
      m_X6_numberAt_L5 S n i2 i5_ (i4 + (1 : Int32)))
set_option maxRecDepth 100000 in
set_option maxHeartbeats 4000000 in
theorem t_X6_numberAt_L5 {S : MS} {w : Int32} (n : Nat) : ∀ (a0 : Nat) (i2 : Int32) (i3 : Int32) (i4 : Int32), (a0 = S.1) → m_X6_numberAt_L5 S n i2 i3 i4 = some w → J NX yX6_numberAt cX6_numberAt 5 (some .int) 0 0 5 [(0, .ref a0), (2, .int i2), (3, .int i3), (4, .int i4)] [] S (some (.int w)) S := by
  induction n with
  | zero => intro a0 i2 i3 i4 ha h; cases h
  | succ n lh =>
    intro a0 i2 i3 i4 ha h
    refine J_iload 3 dX6_numberAt_5 rfl ?_
    refine J_iload_n 1 dX6_numberAt_7 rfl rfl ?_
    refine J_icmp_ge 30 dX6_numberAt_8 (by decide) h (fun c1 h2 => ?_) (fun c1 h2 => ?_)
    · clear h
      refine J_iload_n 2 dX6_numberAt_30 rfl rfl ?_
      have hw := Option.some.inj h2; subst hw
      exact J_iret rfl dX6_numberAt_31
    · clear h
      refine J_bipush (10 : Int32) dX6_numberAt_11 (by decide) ?_
      refine J_iload_n 2 dX6_numberAt_13 rfl rfl ?_
      refine J_imul dX6_numberAt_14 ?_
      refine J_aload_n 0 dX6_numberAt_15 rfl rfl ?_
      refine J_ngetA (k := 43) (o := 21) dX6_numberAt_16 gF_X6_83 ha rfl ?_
      refine J_iload 3 dX6_numberAt_19 rfl ?_
      obtain ⟨g3, h4⟩ := gd_some h2; clear h2
      refine J_niald (k := 43) (o := 21) dX6_numberAt_21 ha rfl rfl (by decide) g3 ?_
      refine J_iadd dX6_numberAt_22 ?_
      obtain ⟨i5_, ei5_, h6⟩ := jLet_some h4; clear h4
      refine J_topI ei5_ ?_
      refine J_istore_n dX6_numberAt_23 rfl (by decide) [1, 2, 0, 3] (lv' := [(0, .ref a0), (2, .int i2), (3, .int i5_), (4, .int i4)]) rfl ?_
      refine J_iinc 3 (1 : Int32) dX6_numberAt_24 rfl (by decide) (by decide) [1, 2, 3, 0] (lv' := [(0, .ref a0), (2, .int i2), (3, .int i5_), (4, .int (i4 + (1 : Int32)))]) rfl ?_
      refine J_goto 5 dX6_numberAt_27 (by decide) ?_
      exact lh a0 i2 i5_ (i4 + (1 : Int32)) ha h6
def m_X6_numberAt (S : MS) (i1 : Int32) (i2 : Int32) : Option Int32 :=
  m_X6_numberAt_L5 S bigN i2 (0 : Int32) i1
set_option maxRecDepth 100000 in
set_option maxHeartbeats 4000000 in
theorem t_X6_numberAt {S : MS} {a0 : Nat} {i1 : Int32} {i2 : Int32} {w : Int32} (ha : a0 = S.1) (h : m_X6_numberAt S i1 i2 = some w) : CT NX yX6_numberAt cX6_numberAt 5 (some .int) 0 0 [.ref a0, .int i1, .int i2] S (some (.int w)) S := by
  refine CT.of (lv := [(0, .ref a0), (1, .int i1), (2, .int i2)]) (by decide) rfl (Nat.le_of_ble_eq_true rfl) ?_
  refine J_iconst (0 : Int32) dX6_numberAt_0 (by decide) ?_
  refine J_istore_n dX6_numberAt_1 rfl (by decide) [1, 2, 3, 0] (lv' := [(0, .ref a0), (1, .int i1), (2, .int i2), (3, .int (0 : Int32))]) rfl ?_
  refine J_iload_n 1 dX6_numberAt_2 rfl rfl ?_
  refine J_istore dX6_numberAt_3 (by decide) [1, 3, 4, 0] (lv' := [(0, .ref a0), (2, .int i2), (3, .int (0 : Int32)), (4, .int i1)]) rfl ?_
  exact t_X6_numberAt_L5 bigN a0 i2 (0 : Int32) i1 ha h
def m_X6_findFillings_J209 (k82 : MS → Int32 → Int32 → Int32 → Int32 → Option MS) (S : MS) (i1 : Int32) (i2 : Int32) (i3 : Int32) (i4 : Int32) : Option MS :=
  gd (inB i1 200) <|
  jLet (((nA S 41 (Int32.toNatClampNeg i1)) + (1 : Int32))) fun i3_ =>
  gd (inB i1 200) <|
  jLet (nSA S 41 (Int32.toNatClampNeg i1) i3_) fun S7 =>
  k82 S7 i1 i2 i3 (i4 + (1 : Int32))
set_option maxRecDepth 100000 in
set_option maxHeartbeats 4000000 in
theorem t_X6_findFillings_J209 {k82 : MS → Int32 → Int32 → Int32 → Int32 → Option MS} {S : MS} {a0 : Nat} {i1 : Int32} {i2 : Int32} {i3 : Int32} {i4 : Int32} {w : MS} (hk82 : ∀ (S : MS) (a0 : Nat) (i1 : Int32) (i2 : Int32) (i3 : Int32) (i4 : Int32), (a0 = S.1) → k82 S i1 i2 i3 i4 = some w → J NX yX6_findFillings cX6_findFillings 7 none 1 24 82 [(0, .ref a0), (1, .int i1), (2, .int i2), (3, .int i3), (4, .int i4)] [] S none w) (ha : a0 = S.1) (h : m_X6_findFillings_J209 k82 S i1 i2 i3 i4 = some w) : J NX yX6_findFillings cX6_findFillings 7 none 1 24 209 [(0, .ref a0), (1, .int i1), (2, .int i2), (3, .int i3), (4, .int i4)] [] S none w := by
  refine J_aload_n 0 dX6_findFillings_209 rfl rfl ?_
  refine J_ngetA (k := 41) (o := 20) dX6_findFillings_210 gF_X6_80 ha rfl ?_
  refine J_iload_n 1 dX6_findFillings_213 rfl rfl ?_
  refine J_dup2_11 dX6_findFillings_214 rfl rfl ?_
  obtain ⟨g1, h2⟩ := gd_some h; clear h
  refine J_niald (k := 41) (o := 20) dX6_findFillings_215 ha rfl rfl (by decide) g1 ?_
  refine J_iconst (1 : Int32) dX6_findFillings_216 (by decide) ?_
  refine J_iadd dX6_findFillings_217 ?_
  obtain ⟨i3_, ei3_, h4⟩ := jLet_some h2; clear h2
  refine J_topI ei3_ ?_
  obtain ⟨g5, h6⟩ := gd_some h4; clear h4
  refine J_niast (k := 41) (o := 20) dX6_findFillings_218 ha rfl rfl (by decide) g5 ?_
  obtain ⟨S7, eS7, h8⟩ := jLet_some h6; clear h6
  refine J_topS eS7 ?_
  have hS7_a0 : a0 = S7.1 := by rw [eS7]; exact ha
  refine J_iinc 4 (1 : Int32) dX6_findFillings_219 rfl (by decide) (by decide) [1, 2, 3, 4, 0] (lv' := [(0, .ref a0), (1, .int i1), (2, .int i2), (3, .int i3), (4, .int (i4 + (1 : Int32)))]) rfl ?_
  refine J_goto 82 dX6_findFillings_222 (by decide) ?_
  exact hk82 S7 a0 i1 i2 i3 (i4 + (1 : Int32)) hS7_a0 h8
def m_X6_findFillings_L177 (k82 : MS → Int32 → Int32 → Int32 → Int32 → Option MS) : Nat → MS → Int32 → Int32 → Int32 → Int32 → Int32 → Option MS
  | 0, _, _, _, _, _, _ => none
  | n + 1, S, i1, i2, i3, i4, i6 =>
    if (12 : Int32) ≤ i6 then
      (m_X6_findFillings_J209 k82 S i1 i2 i3 i4)
    else
      (gd (inB i6 12) <|
      jLet ((nA S 43 (Int32.toNatClampNeg i6))) fun i5_ =>
      gd (inB (((12 : Int32) * i1) + i6) 2400) <|
      jLet (nSA S 40 (Int32.toNatClampNeg (((12 : Int32) * i1) + i6)) i5_) fun S9 =>
      m_X6_findFillings_L177 k82 n S9 i1 i2 i3 i4 (i6 + (1 : Int32)))
set_option maxRecDepth 100000 in
set_option maxHeartbeats 4000000 in
theorem t_X6_findFillings_L177 {k82 : MS → Int32 → Int32 → Int32 → Int32 → Option MS} {w : MS} (hk82 : ∀ (S : MS) (a0 : Nat) (i1 : Int32) (i2 : Int32) (i3 : Int32) (i4 : Int32), (a0 = S.1) → k82 S i1 i2 i3 i4 = some w → J NX yX6_findFillings cX6_findFillings 7 none 1 24 82 [(0, .ref a0), (1, .int i1), (2, .int i2), (3, .int i3), (4, .int i4)] [] S none w) (n : Nat) : ∀ (S : MS) (a0 : Nat) (i1 : Int32) (i2 : Int32) (i3 : Int32) (i4 : Int32) (i6 : Int32), (a0 = S.1) → m_X6_findFillings_L177 k82 n S i1 i2 i3 i4 i6 = some w → J NX yX6_findFillings cX6_findFillings 7 none 1 24 177 [(0, .ref a0), (1, .int i1), (2, .int i2), (3, .int i3), (4, .int i4), (6, .int i6)] [] S none w := by
  induction n with
  | zero => intro S a0 i1 i2 i3 i4 i6 ha h; cases h
  | succ n lh =>
    intro S a0 i1 i2 i3 i4 i6 ha h
    refine J_iload 5 dX6_findFillings_177 rfl ?_
    refine J_bipush (12 : Int32) dX6_findFillings_179 (by decide) ?_
    refine J_icmp_ge 209 dX6_findFillings_181 (by decide) h (fun c1 h2 => ?_) (fun c1 h2 => ?_)
    · clear h
      refine J_lv [0, 1, 2, 3, 4] rfl ?_
      exact t_X6_findFillings_J209 hk82 ha h2
    · clear h
      refine J_aload_n 0 dX6_findFillings_184 rfl rfl ?_
      refine J_ngetA (k := 40) (o := 19) dX6_findFillings_185 gF_X6_77 ha rfl ?_
      refine J_bipush (12 : Int32) dX6_findFillings_188 (by decide) ?_
      refine J_iload_n 1 dX6_findFillings_190 rfl rfl ?_
      refine J_imul dX6_findFillings_191 ?_
      refine J_iload 5 dX6_findFillings_192 rfl ?_
      refine J_iadd dX6_findFillings_194 ?_
      refine J_aload_n 0 dX6_findFillings_195 rfl rfl ?_
      refine J_ngetA (k := 43) (o := 21) dX6_findFillings_196 gF_X6_83 ha rfl ?_
      refine J_iload 5 dX6_findFillings_199 rfl ?_
      obtain ⟨g3, h4⟩ := gd_some h2; clear h2
      refine J_niald (k := 43) (o := 21) dX6_findFillings_201 ha rfl rfl (by decide) g3 ?_
      obtain ⟨i5_, ei5_, h6⟩ := jLet_some h4; clear h4
      refine J_topI ei5_ ?_
      obtain ⟨g7, h8⟩ := gd_some h6; clear h6
      refine J_niast (k := 40) (o := 19) dX6_findFillings_202 ha rfl rfl (by decide) g7 ?_
      obtain ⟨S9, eS9, h10⟩ := jLet_some h8; clear h8
      refine J_topS eS9 ?_
      have hS9_a0 : a0 = S9.1 := by rw [eS9]; exact ha
      refine J_iinc 5 (1 : Int32) dX6_findFillings_203 rfl (by decide) (by decide) [1, 2, 3, 4, 5, 0] (lv' := [(0, .ref a0), (1, .int i1), (2, .int i2), (3, .int i3), (4, .int i4), (6, .int (i6 + (1 : Int32)))]) rfl ?_
      refine J_goto 177 dX6_findFillings_206 (by decide) ?_
      exact lh S9 a0 i1 i2 i3 i4 (i6 + (1 : Int32)) hS9_a0 h10
def m_X6_findFillings_L97 (k82 : MS → Int32 → Int32 → Int32 → Int32 → Option MS) : Nat → MS → Int32 → Int32 → Int32 → Int32 → Int32 → Int32 → Option MS
  | 0, _, _, _, _, _, _, _ => none
  | n + 1, S, i1, i2, i3, i4, i5, i6 =>
    if i6 < 0 then
      (gd (inB i1 200) <|
      bnd (m_X6_numberAt S (0 : Int32) (3 : Int32)) fun i5_ =>
      bnd (m_X6_numberAt S (3 : Int32) (6 : Int32)) fun i7_ =>
      bnd (m_X6_numberAt S (6 : Int32) (12 : Int32)) fun i9_ =>
      bnd (m_X6_isTrue (nA S 37 (Int32.toNatClampNeg i1)) i5_ i7_ i9_) fun i11_ =>
      if i11_ = 0 then
        (k82 S i1 i2 i3 (i4 + (1 : Int32)))
      else
        (gd (inB i1 200) <|
        if (nA S 41 (Int32.toNatClampNeg i1)) = 0 then
          (m_X6_findFillings_L177 k82 bigN S i1 i2 i3 i4 (0 : Int32))
        else
          (m_X6_findFillings_J209 k82 S i1 i2 i3 i4)))
    else
      (gd (inB i6 4) <|
      jLet ((i5 - i5 / (10 : Int32) * (10 : Int32))) fun i21_ =>
      gd (inB (nA S 44 (Int32.toNatClampNeg i6)) 12) <|
      jLet (nSA S 43 (Int32.toNatClampNeg (nA S 44 (Int32.toNatClampNeg i6))) i21_) fun S25 =>
      jLet ((i5 / (10 : Int32))) fun i27_ =>
      m_X6_findFillings_L97 k82 n S25 i1 i2 i3 i4 i27_ (i6 + (-1 : Int32)))
set_option maxRecDepth 100000 in
set_option maxHeartbeats 4000000 in
theorem t_X6_findFillings_L97 {k82 : MS → Int32 → Int32 → Int32 → Int32 → Option MS} {w : MS} (hk82 : ∀ (S : MS) (a0 : Nat) (i1 : Int32) (i2 : Int32) (i3 : Int32) (i4 : Int32), (a0 = S.1) → k82 S i1 i2 i3 i4 = some w → J NX yX6_findFillings cX6_findFillings 7 none 1 24 82 [(0, .ref a0), (1, .int i1), (2, .int i2), (3, .int i3), (4, .int i4)] [] S none w) (n : Nat) : ∀ (S : MS) (a0 : Nat) (i1 : Int32) (i2 : Int32) (i3 : Int32) (i4 : Int32) (i5 : Int32) (i6 : Int32), (a0 = S.1) → m_X6_findFillings_L97 k82 n S i1 i2 i3 i4 i5 i6 = some w → J NX yX6_findFillings cX6_findFillings 7 none 1 24 97 [(0, .ref a0), (1, .int i1), (2, .int i2), (3, .int i3), (4, .int i4), (5, .int i5), (6, .int i6)] [] S none w := by
  induction n with
  | zero => intro S a0 i1 i2 i3 i4 i5 i6 ha h; cases h
  | succ n lh =>
    intro S a0 i1 i2 i3 i4 i5 i6 ha h
    refine J_iload 6 dX6_findFillings_97 rfl ?_
    refine J_if_lt 132 dX6_findFillings_99 (by decide) h (fun c1 h2 => ?_) (fun c1 h2 => ?_)
    · clear h
      refine J_aload_n 0 dX6_findFillings_132 rfl rfl ?_
      refine J_ngetA (k := 37) (o := 16) dX6_findFillings_133 gF_X6_68 ha rfl ?_
      refine J_iload_n 1 dX6_findFillings_136 rfl rfl ?_
      obtain ⟨g3, h4⟩ := gd_some h2; clear h2
      refine J_niald (k := 37) (o := 16) dX6_findFillings_137 ha rfl rfl (by decide) g3 ?_
      refine J_aload_n 0 dX6_findFillings_138 rfl rfl ?_
      refine J_iconst (0 : Int32) dX6_findFillings_139 (by decide) ?_
      refine J_iconst (3 : Int32) dX6_findFillings_140 (by decide) ?_
      obtain ⟨i5_, ei5_, h6⟩ := bnd_some h4; clear h4
      refine J_callV (As := [.int (0 : Int32), .int (3 : Int32)]) (rest := [.int (nA S 37 (Int32.toNatClampNeg i1))]) (st' := [.int i5_, .int (nA S 37 (Int32.toNatClampNeg i1))]) (t_X6_numberAt ha ei5_) gC_X6_numberAt gM_X6_343 (by rw [ha]; exact nRecv) rfl (by decide) (by decide) rfl rfl (Nat.le_of_ble_eq_true rfl) dX6_findFillings_141 ?_
      refine J_aload_n 0 dX6_findFillings_144 rfl rfl ?_
      refine J_iconst (3 : Int32) dX6_findFillings_145 (by decide) ?_
      refine J_bipush (6 : Int32) dX6_findFillings_146 (by decide) ?_
      obtain ⟨i7_, ei7_, h8⟩ := bnd_some h6; clear h6
      refine J_callV (As := [.int (3 : Int32), .int (6 : Int32)]) (rest := [.int i5_, .int (nA S 37 (Int32.toNatClampNeg i1))]) (st' := [.int i7_, .int i5_, .int (nA S 37 (Int32.toNatClampNeg i1))]) (t_X6_numberAt ha ei7_) gC_X6_numberAt gM_X6_343 (by rw [ha]; exact nRecv) rfl (by decide) (by decide) rfl rfl (Nat.le_of_ble_eq_true rfl) dX6_findFillings_148 ?_
      refine J_aload_n 0 dX6_findFillings_151 rfl rfl ?_
      refine J_bipush (6 : Int32) dX6_findFillings_152 (by decide) ?_
      refine J_bipush (12 : Int32) dX6_findFillings_154 (by decide) ?_
      obtain ⟨i9_, ei9_, h10⟩ := bnd_some h8; clear h8
      refine J_callV (As := [.int (6 : Int32), .int (12 : Int32)]) (rest := [.int i7_, .int i5_, .int (nA S 37 (Int32.toNatClampNeg i1))]) (st' := [.int i9_, .int i7_, .int i5_, .int (nA S 37 (Int32.toNatClampNeg i1))]) (t_X6_numberAt ha ei9_) gC_X6_numberAt gM_X6_343 (by rw [ha]; exact nRecv) rfl (by decide) (by decide) rfl rfl (Nat.le_of_ble_eq_true rfl) dX6_findFillings_156 ?_
      obtain ⟨i11_, ei11_, h12⟩ := bnd_some h10; clear h10
      refine J_callS (As := [.int (nA S 37 (Int32.toNatClampNeg i1)), .int i5_, .int i7_, .int i9_]) (rest := []) (st' := [.int i11_]) (t_X6_isTrue ei11_) gC_X6_isTrue gM_X6_346 rfl (by decide) (by decide) rfl rfl (Nat.le_of_ble_eq_true rfl) dX6_findFillings_159 ?_
      refine J_if_eq 219 dX6_findFillings_162 (by decide) h12 (fun c13 h14 => ?_) (fun c13 h14 => ?_)
      · clear h12
        refine J_iinc 4 (1 : Int32) dX6_findFillings_219 rfl (by decide) (by decide) [1, 2, 3, 4, 0, 5, 6] (lv' := [(0, .ref a0), (1, .int i1), (2, .int i2), (3, .int i3), (4, .int (i4 + (1 : Int32))), (5, .int i5), (6, .int i6)]) rfl ?_
        refine J_goto 82 dX6_findFillings_222 (by decide) ?_
        refine J_lv [0, 1, 2, 3, 4] rfl ?_
        exact hk82 S a0 i1 i2 i3 (i4 + (1 : Int32)) ha h14
      · clear h12
        refine J_aload_n 0 dX6_findFillings_165 rfl rfl ?_
        refine J_ngetA (k := 41) (o := 20) dX6_findFillings_166 gF_X6_80 ha rfl ?_
        refine J_iload_n 1 dX6_findFillings_169 rfl rfl ?_
        obtain ⟨g15, h16⟩ := gd_some h14; clear h14
        refine J_niald (k := 41) (o := 20) dX6_findFillings_170 ha rfl rfl (by decide) g15 ?_
        refine J_if_ne 209 dX6_findFillings_171 (by decide) h16 (fun c17 h18 => ?_) (fun c17 h18 => ?_)
        · clear h16
          refine J_iconst (0 : Int32) dX6_findFillings_174 (by decide) ?_
          refine J_istore dX6_findFillings_175 (by decide) [1, 2, 3, 4, 5, 0] (lv' := [(0, .ref a0), (1, .int i1), (2, .int i2), (3, .int i3), (4, .int i4), (6, .int (0 : Int32))]) rfl ?_
          exact t_X6_findFillings_L177 hk82 bigN S a0 i1 i2 i3 i4 (0 : Int32) ha h18
        · clear h16
          refine J_lv [0, 1, 2, 3, 4] rfl ?_
          exact t_X6_findFillings_J209 hk82 ha h18
    · clear h
      refine J_aload_n 0 dX6_findFillings_102 rfl rfl ?_
      refine J_ngetA (k := 43) (o := 21) dX6_findFillings_103 gF_X6_83 ha rfl ?_
      refine J_aload_n 0 dX6_findFillings_106 rfl rfl ?_
      refine J_ngetA (k := 44) (o := 22) dX6_findFillings_107 gF_X6_86 ha rfl ?_
      refine J_iload 6 dX6_findFillings_110 rfl ?_
      obtain ⟨g19, h20⟩ := gd_some h2; clear h2
      refine J_niald (k := 44) (o := 22) dX6_findFillings_112 ha rfl rfl (by decide) g19 ?_
      refine J_iload 5 dX6_findFillings_113 rfl ?_
      refine J_bipush (10 : Int32) dX6_findFillings_115 (by decide) ?_
      refine J_irem dX6_findFillings_117 (by decide) ?_
      obtain ⟨i21_, ei21_, h22⟩ := jLet_some h20; clear h20
      refine J_topI ei21_ ?_
      obtain ⟨g23, h24⟩ := gd_some h22; clear h22
      refine J_niast (k := 43) (o := 21) dX6_findFillings_118 ha rfl rfl (by decide) g23 ?_
      obtain ⟨S25, eS25, h26⟩ := jLet_some h24; clear h24
      refine J_topS eS25 ?_
      have hS25_a0 : a0 = S25.1 := by rw [eS25]; exact ha
      refine J_iload 5 dX6_findFillings_119 rfl ?_
      refine J_bipush (10 : Int32) dX6_findFillings_121 (by decide) ?_
      refine J_idiv dX6_findFillings_123 (by decide) ?_
      obtain ⟨i27_, ei27_, h28⟩ := jLet_some h26; clear h26
      refine J_topI ei27_ ?_
      refine J_istore dX6_findFillings_124 (by decide) [1, 2, 3, 4, 5, 0, 6] (lv' := [(0, .ref a0), (1, .int i1), (2, .int i2), (3, .int i3), (4, .int i4), (5, .int i27_), (6, .int i6)]) rfl ?_
      refine J_iinc 6 (-1 : Int32) dX6_findFillings_126 rfl (by decide) (by decide) [1, 2, 3, 4, 5, 6, 0] (lv' := [(0, .ref a0), (1, .int i1), (2, .int i2), (3, .int i3), (4, .int i4), (5, .int i27_), (6, .int (i6 + (-1 : Int32)))]) rfl ?_
      refine J_goto 97 dX6_findFillings_129 (by decide) ?_
      exact lh S25 a0 i1 i2 i3 i4 i27_ (i6 + (-1 : Int32)) hS25_a0 h28
def m_X6_findFillings_L82 : Nat → MS → Int32 → Int32 → Int32 → Int32 → Option MS
  | 0, _, _, _, _, _ => none
  | n + 1, S, i1, i2, i3, i4 =>
    if i3 ≤ i4 then
      (some S)
    else
      (jLet ((i2 - (1 : Int32))) fun i3_ =>
      m_X6_findFillings_L97 (m_X6_findFillings_L82 n) bigN S i1 i2 i3 i4 i4 i3_)
set_option maxRecDepth 100000 in
set_option maxHeartbeats 4000000 in
theorem t_X6_findFillings_L82 {w : MS} (n : Nat) : ∀ (S : MS) (a0 : Nat) (i1 : Int32) (i2 : Int32) (i3 : Int32) (i4 : Int32), (a0 = S.1) → m_X6_findFillings_L82 n S i1 i2 i3 i4 = some w → J NX yX6_findFillings cX6_findFillings 7 none 1 24 82 [(0, .ref a0), (1, .int i1), (2, .int i2), (3, .int i3), (4, .int i4)] [] S none w := by
  induction n with
  | zero => intro S a0 i1 i2 i3 i4 ha h; cases h
  | succ n lh =>
    intro S a0 i1 i2 i3 i4 ha h
    refine J_iload 4 dX6_findFillings_82 rfl ?_
    refine J_iload_n 3 dX6_findFillings_84 rfl rfl ?_
    refine J_icmp_ge 225 dX6_findFillings_85 (by decide) h (fun c1 h2 => ?_) (fun c1 h2 => ?_)
    · clear h
      have hw := Option.some.inj h2; subst hw
      exact J_vret rfl dX6_findFillings_225
    · clear h
      refine J_iload 4 dX6_findFillings_88 rfl ?_
      refine J_istore dX6_findFillings_90 (by decide) [1, 2, 3, 4, 5, 0] (lv' := [(0, .ref a0), (1, .int i1), (2, .int i2), (3, .int i3), (4, .int i4), (5, .int i4)]) rfl ?_
      refine J_iload_n 2 dX6_findFillings_92 rfl rfl ?_
      refine J_iconst (1 : Int32) dX6_findFillings_93 (by decide) ?_
      refine J_isub dX6_findFillings_94 ?_
      obtain ⟨i3_, ei3_, h4⟩ := jLet_some h2; clear h2
      refine J_topI ei3_ ?_
      refine J_istore dX6_findFillings_95 (by decide) [1, 2, 3, 4, 5, 6, 0] (lv' := [(0, .ref a0), (1, .int i1), (2, .int i2), (3, .int i3), (4, .int i4), (5, .int i4), (6, .int i3_)]) rfl ?_
      exact t_X6_findFillings_L97 lh bigN S a0 i1 i2 i3 i4 i4 i3_ ha h4
def m_X6_findFillings_L62 : Nat → MS → Int32 → Int32 → Int32 → Int32 → Option MS
  | 0, _, _, _, _, _ => none
  | n + 1, S, i1, i2, i3, i4 =>
    if i2 ≤ i4 then
      (m_X6_findFillings_L82 bigN S i1 i2 i3 (0 : Int32))
    else
      (jLet ((i3 * (10 : Int32))) fun i3_ =>
      m_X6_findFillings_L62 n S i1 i2 i3_ (i4 + (1 : Int32)))
set_option maxRecDepth 100000 in
set_option maxHeartbeats 4000000 in
theorem t_X6_findFillings_L62 {w : MS} (n : Nat) : ∀ (S : MS) (a0 : Nat) (i1 : Int32) (i2 : Int32) (i3 : Int32) (i4 : Int32), (a0 = S.1) → m_X6_findFillings_L62 n S i1 i2 i3 i4 = some w → J NX yX6_findFillings cX6_findFillings 7 none 1 24 62 [(0, .ref a0), (1, .int i1), (2, .int i2), (3, .int i3), (4, .int i4)] [] S none w := by
  induction n with
  | zero => intro S a0 i1 i2 i3 i4 ha h; cases h
  | succ n lh =>
    intro S a0 i1 i2 i3 i4 ha h
    refine J_iload 4 dX6_findFillings_62 rfl ?_
    refine J_iload_n 2 dX6_findFillings_64 rfl rfl ?_
    refine J_icmp_ge 79 dX6_findFillings_65 (by decide) h (fun c1 h2 => ?_) (fun c1 h2 => ?_)
    · clear h
      refine J_iconst (0 : Int32) dX6_findFillings_79 (by decide) ?_
      refine J_istore dX6_findFillings_80 (by decide) [1, 2, 3, 4, 0] (lv' := [(0, .ref a0), (1, .int i1), (2, .int i2), (3, .int i3), (4, .int (0 : Int32))]) rfl ?_
      exact t_X6_findFillings_L82 bigN S a0 i1 i2 i3 (0 : Int32) ha h2
    · clear h
      refine J_iload_n 3 dX6_findFillings_68 rfl rfl ?_
      refine J_bipush (10 : Int32) dX6_findFillings_69 (by decide) ?_
      refine J_imul dX6_findFillings_71 ?_
      obtain ⟨i3_, ei3_, h4⟩ := jLet_some h2; clear h2
      refine J_topI ei3_ ?_
      refine J_istore_n dX6_findFillings_72 rfl (by decide) [1, 2, 3, 0, 4] (lv' := [(0, .ref a0), (1, .int i1), (2, .int i2), (3, .int i3_), (4, .int i4)]) rfl ?_
      refine J_iinc 4 (1 : Int32) dX6_findFillings_73 rfl (by decide) (by decide) [1, 2, 3, 4, 0] (lv' := [(0, .ref a0), (1, .int i1), (2, .int i2), (3, .int i3_), (4, .int (i4 + (1 : Int32)))]) rfl ?_
      refine J_goto 62 dX6_findFillings_76 (by decide) ?_
      exact lh S a0 i1 i2 i3_ (i4 + (1 : Int32)) ha h4
def m_X6_findFillings_L4 : Nat → MS → Int32 → Int32 → Int32 → Option MS
  | 0, _, _, _, _ => none
  | n + 1, S, i1, i2, i3 =>
    if (12 : Int32) ≤ i3 then
      (m_X6_findFillings_L62 bigN S i1 i2 (1 : Int32) (0 : Int32))
    else
      (gd (inB (((12 : Int32) * i1) + i3) 2400) <|
      jLet ((nA S 38 (Int32.toNatClampNeg (((12 : Int32) * i1) + i3)))) fun i5_ =>
      gd (inB i3 12) <|
      jLet (nSA S 43 (Int32.toNatClampNeg i3) i5_) fun S9 =>
      gd (inB (((12 : Int32) * i1) + i3) 2400) <|
      if (nA S9 39 (Int32.toNatClampNeg (((12 : Int32) * i1) + i3))) = 0 then
        (m_X6_findFillings_L4 n S9 i1 i2 (i3 + (1 : Int32)))
      else
        (gd (inB i2 4) <|
        jLet (nSA S9 44 (Int32.toNatClampNeg i2) i3) fun S17 =>
        m_X6_findFillings_L4 n S17 i1 (i2 + (1 : Int32)) (i3 + (1 : Int32))))
set_option maxRecDepth 100000 in
set_option maxHeartbeats 4000000 in
theorem t_X6_findFillings_L4 {w : MS} (n : Nat) : ∀ (S : MS) (a0 : Nat) (i1 : Int32) (i2 : Int32) (i3 : Int32), (a0 = S.1) → m_X6_findFillings_L4 n S i1 i2 i3 = some w → J NX yX6_findFillings cX6_findFillings 7 none 1 24 4 [(0, .ref a0), (1, .int i1), (2, .int i2), (3, .int i3)] [] S none w := by
  induction n with
  | zero => intro S a0 i1 i2 i3 ha h; cases h
  | succ n lh =>
    intro S a0 i1 i2 i3 ha h
    refine J_iload_n 3 dX6_findFillings_4 rfl rfl ?_
    refine J_bipush (12 : Int32) dX6_findFillings_5 (by decide) ?_
    refine J_icmp_ge 57 dX6_findFillings_7 (by decide) h (fun c1 h2 => ?_) (fun c1 h2 => ?_)
    · clear h
      refine J_iconst (1 : Int32) dX6_findFillings_57 (by decide) ?_
      refine J_istore_n dX6_findFillings_58 rfl (by decide) [1, 2, 3, 0] (lv' := [(0, .ref a0), (1, .int i1), (2, .int i2), (3, .int (1 : Int32))]) rfl ?_
      refine J_iconst (0 : Int32) dX6_findFillings_59 (by decide) ?_
      refine J_istore dX6_findFillings_60 (by decide) [1, 2, 3, 4, 0] (lv' := [(0, .ref a0), (1, .int i1), (2, .int i2), (3, .int (1 : Int32)), (4, .int (0 : Int32))]) rfl ?_
      exact t_X6_findFillings_L62 bigN S a0 i1 i2 (1 : Int32) (0 : Int32) ha h2
    · clear h
      refine J_aload_n 0 dX6_findFillings_10 rfl rfl ?_
      refine J_ngetA (k := 43) (o := 21) dX6_findFillings_11 gF_X6_83 ha rfl ?_
      refine J_iload_n 3 dX6_findFillings_14 rfl rfl ?_
      refine J_aload_n 0 dX6_findFillings_15 rfl rfl ?_
      refine J_ngetA (k := 38) (o := 17) dX6_findFillings_16 gF_X6_71 ha rfl ?_
      refine J_bipush (12 : Int32) dX6_findFillings_19 (by decide) ?_
      refine J_iload_n 1 dX6_findFillings_21 rfl rfl ?_
      refine J_imul dX6_findFillings_22 ?_
      refine J_iload_n 3 dX6_findFillings_23 rfl rfl ?_
      refine J_iadd dX6_findFillings_24 ?_
      obtain ⟨g3, h4⟩ := gd_some h2; clear h2
      refine J_niald (k := 38) (o := 17) dX6_findFillings_25 ha rfl rfl (by decide) g3 ?_
      obtain ⟨i5_, ei5_, h6⟩ := jLet_some h4; clear h4
      refine J_topI ei5_ ?_
      obtain ⟨g7, h8⟩ := gd_some h6; clear h6
      refine J_niast (k := 43) (o := 21) dX6_findFillings_26 ha rfl rfl (by decide) g7 ?_
      obtain ⟨S9, eS9, h10⟩ := jLet_some h8; clear h8
      refine J_topS eS9 ?_
      have hS9_a0 : a0 = S9.1 := by rw [eS9]; exact ha
      refine J_aload_n 0 dX6_findFillings_27 rfl rfl ?_
      refine J_ngetA (k := 39) (o := 18) dX6_findFillings_28 gF_X6_74 hS9_a0 rfl ?_
      refine J_bipush (12 : Int32) dX6_findFillings_31 (by decide) ?_
      refine J_iload_n 1 dX6_findFillings_33 rfl rfl ?_
      refine J_imul dX6_findFillings_34 ?_
      refine J_iload_n 3 dX6_findFillings_35 rfl rfl ?_
      refine J_iadd dX6_findFillings_36 ?_
      obtain ⟨g11, h12⟩ := gd_some h10; clear h10
      refine J_nzald (k := 39) (o := 18) dX6_findFillings_37 hS9_a0 rfl rfl (by decide) g11 ?_
      refine J_if_eq 51 dX6_findFillings_38 (by decide) h12 (fun c13 h14 => ?_) (fun c13 h14 => ?_)
      · clear h12
        refine J_iinc 3 (1 : Int32) dX6_findFillings_51 rfl (by decide) (by decide) [1, 2, 3, 0] (lv' := [(0, .ref a0), (1, .int i1), (2, .int i2), (3, .int (i3 + (1 : Int32)))]) rfl ?_
        refine J_goto 4 dX6_findFillings_54 (by decide) ?_
        exact lh S9 a0 i1 i2 (i3 + (1 : Int32)) hS9_a0 h14
      · clear h12
        refine J_aload_n 0 dX6_findFillings_41 rfl rfl ?_
        refine J_ngetA (k := 44) (o := 22) dX6_findFillings_42 gF_X6_86 hS9_a0 rfl ?_
        refine J_iload_n 2 dX6_findFillings_45 rfl rfl ?_
        refine J_iload_n 3 dX6_findFillings_46 rfl rfl ?_
        obtain ⟨g15, h16⟩ := gd_some h14; clear h14
        refine J_niast (k := 44) (o := 22) dX6_findFillings_47 hS9_a0 rfl rfl (by decide) g15 ?_
        obtain ⟨S17, eS17, h18⟩ := jLet_some h16; clear h16
        refine J_topS eS17 ?_
        have hS17_a0 : a0 = S17.1 := by rw [eS17]; exact hS9_a0
        refine J_iinc 2 (1 : Int32) dX6_findFillings_48 rfl (by decide) (by decide) [1, 2, 0, 3] (lv' := [(0, .ref a0), (1, .int i1), (2, .int (i2 + (1 : Int32))), (3, .int i3)]) rfl ?_
        refine J_iinc 3 (1 : Int32) dX6_findFillings_51 rfl (by decide) (by decide) [1, 2, 3, 0] (lv' := [(0, .ref a0), (1, .int i1), (2, .int (i2 + (1 : Int32))), (3, .int (i3 + (1 : Int32)))]) rfl ?_
        refine J_goto 4 dX6_findFillings_54 (by decide) ?_
        exact lh S17 a0 i1 (i2 + (1 : Int32)) (i3 + (1 : Int32)) hS17_a0 h18
def m_X6_findFillings (S : MS) (i1 : Int32) : Option MS :=
  m_X6_findFillings_L4 bigN S i1 (0 : Int32) (0 : Int32)
set_option maxRecDepth 100000 in
set_option maxHeartbeats 4000000 in
theorem t_X6_findFillings {S : MS} {a0 : Nat} {i1 : Int32} {w : MS} (ha : a0 = S.1) (h : m_X6_findFillings S i1 = some w) : CT NX yX6_findFillings cX6_findFillings 7 none 1 24 [.ref a0, .int i1] S none w := by
  refine CT.of (lv := [(0, .ref a0), (1, .int i1)]) (by decide) rfl (Nat.le_of_ble_eq_true rfl) ?_
  refine J_iconst (0 : Int32) dX6_findFillings_0 (by decide) ?_
  refine J_istore_n dX6_findFillings_1 rfl (by decide) [1, 2, 0] (lv' := [(0, .ref a0), (1, .int i1), (2, .int (0 : Int32))]) rfl ?_
  refine J_iconst (0 : Int32) dX6_findFillings_2 (by decide) ?_
  refine J_istore_n dX6_findFillings_3 rfl (by decide) [1, 2, 3, 0] (lv' := [(0, .ref a0), (1, .int i1), (2, .int (0 : Int32)), (3, .int (0 : Int32))]) rfl ?_
  exact t_X6_findFillings_L4 bigN S a0 i1 (0 : Int32) (0 : Int32) ha h
def m_X6_writeNumber_L8 : Nat → MS → Int32 → Int32 → Int32 → Option MS
  | 0, _, _, _, _ => none
  | n + 1, S, i1, i4, i5 =>
    if i5 < 0 then
      (some S)
    else
      (jLet ((i4 - i4 / (10 : Int32) * (10 : Int32))) fun i3_ =>
      gd (inB (i1 + i5) 2400) <|
      jLet (nSA S 38 (Int32.toNatClampNeg (i1 + i5)) i3_) fun S7 =>
      jLet ((i4 / (10 : Int32))) fun i9_ =>
      m_X6_writeNumber_L8 n S7 i1 i9_ (i5 + (-1 : Int32)))
set_option maxRecDepth 100000 in
set_option maxHeartbeats 4000000 in
theorem t_X6_writeNumber_L8 {w : MS} (n : Nat) : ∀ (S : MS) (a0 : Nat) (i1 : Int32) (i4 : Int32) (i5 : Int32), (a0 = S.1) → m_X6_writeNumber_L8 n S i1 i4 i5 = some w → J NX yX6_writeNumber cX6_writeNumber 6 none 0 0 8 [(0, .ref a0), (1, .int i1), (4, .int i4), (5, .int i5)] [] S none w := by
  induction n with
  | zero => intro S a0 i1 i4 i5 ha h; cases h
  | succ n lh =>
    intro S a0 i1 i4 i5 ha h
    refine J_iload 3 dX6_writeNumber_8 rfl ?_
    refine J_if_lt 40 dX6_writeNumber_10 (by decide) h (fun c1 h2 => ?_) (fun c1 h2 => ?_)
    · clear h
      have hw := Option.some.inj h2; subst hw
      exact J_vret rfl dX6_writeNumber_40
    · clear h
      refine J_aload_n 0 dX6_writeNumber_13 rfl rfl ?_
      refine J_ngetA (k := 38) (o := 17) dX6_writeNumber_14 gF_X6_71 ha rfl ?_
      refine J_iload_n 1 dX6_writeNumber_17 rfl rfl ?_
      refine J_iload 3 dX6_writeNumber_18 rfl ?_
      refine J_iadd dX6_writeNumber_20 ?_
      refine J_iload 2 dX6_writeNumber_21 rfl ?_
      refine J_bipush (10 : Int32) dX6_writeNumber_23 (by decide) ?_
      refine J_irem dX6_writeNumber_25 (by decide) ?_
      obtain ⟨i3_, ei3_, h4⟩ := jLet_some h2; clear h2
      refine J_topI ei3_ ?_
      obtain ⟨g5, h6⟩ := gd_some h4; clear h4
      refine J_niast (k := 38) (o := 17) dX6_writeNumber_26 ha rfl rfl (by decide) g5 ?_
      obtain ⟨S7, eS7, h8⟩ := jLet_some h6; clear h6
      refine J_topS eS7 ?_
      have hS7_a0 : a0 = S7.1 := by rw [eS7]; exact ha
      refine J_iload 2 dX6_writeNumber_27 rfl ?_
      refine J_bipush (10 : Int32) dX6_writeNumber_29 (by decide) ?_
      refine J_idiv dX6_writeNumber_31 (by decide) ?_
      obtain ⟨i9_, ei9_, h10⟩ := jLet_some h8; clear h8
      refine J_topI ei9_ ?_
      refine J_istore dX6_writeNumber_32 (by decide) [1, 2, 0, 3] (lv' := [(0, .ref a0), (1, .int i1), (4, .int i9_), (5, .int i5)]) rfl ?_
      refine J_iinc 3 (-1 : Int32) dX6_writeNumber_34 rfl (by decide) (by decide) [1, 2, 3, 0] (lv' := [(0, .ref a0), (1, .int i1), (4, .int i9_), (5, .int (i5 + (-1 : Int32)))]) rfl ?_
      refine J_goto 8 dX6_writeNumber_37 (by decide) ?_
      exact lh S7 a0 i1 i9_ (i5 + (-1 : Int32)) hS7_a0 h10
def m_X6_writeNumber (S : MS) (i1 : Int32) (i2 : Int32) (i3 : Int32) : Option MS :=
  jLet ((i2 - (1 : Int32))) fun i1_ =>
  m_X6_writeNumber_L8 bigN S i1 i3 i1_
set_option maxRecDepth 100000 in
set_option maxHeartbeats 4000000 in
theorem t_X6_writeNumber {S : MS} {a0 : Nat} {i1 : Int32} {i2 : Int32} {i3 : Int32} {w : MS} (ha : a0 = S.1) (h : m_X6_writeNumber S i1 i2 i3 = some w) : CT NX yX6_writeNumber cX6_writeNumber 6 none 0 0 [.ref a0, .int i1, .int i2, .int i3] S none w := by
  refine CT.of (lv := [(0, .ref a0), (1, .int i1), (2, .int i2), (3, .int i3)]) (by decide) rfl (Nat.le_of_ble_eq_true rfl) ?_
  refine J_iload_n 3 dX6_writeNumber_0 rfl rfl ?_
  refine J_istore dX6_writeNumber_1 (by decide) [1, 2, 3, 0] (lv' := [(0, .ref a0), (1, .int i1), (2, .int i2), (4, .int i3)]) rfl ?_
  refine J_iload_n 2 dX6_writeNumber_3 rfl rfl ?_
  refine J_iconst (1 : Int32) dX6_writeNumber_4 (by decide) ?_
  refine J_isub dX6_writeNumber_5 ?_
  obtain ⟨i1_, ei1_, h2⟩ := jLet_some h; clear h
  refine J_topI ei1_ ?_
  refine J_istore dX6_writeNumber_6 (by decide) [1, 2, 4, 0] (lv' := [(0, .ref a0), (1, .int i1), (4, .int i3), (5, .int i1_)]) rfl ?_
  exact t_X6_writeNumber_L8 bigN S a0 i1 i3 i1_ ha h2
def m_X6_exercise_L214 (k198 : MS → Int32 → Int32 → Int32 → Option (Int32 × MS)) : Nat → MS → Int32 → Int32 → Int32 → Int32 → Option (Int32 × MS)
  | 0, _, _, _, _, _ => none
  | n + 1, S, i3, i6, i7, i8 =>
    gd (inB (((12 : Int32) * i3) + i8) 2400) <|
    if (nA S 39 (Int32.toNatClampNeg (((12 : Int32) * i3) + i8))) = 0 then
      (gd (inB (((12 : Int32) * i3) + i8) 2400) <|
      jLet (nSA S 39 (Int32.toNatClampNeg (((12 : Int32) * i3) + i8)) (1 : Int32)) fun S7 =>
      k198 S7 i3 i6 (i7 + (1 : Int32)))
    else
      (jLet (((i8 + (1 : Int32)) - (i8 + (1 : Int32)) / (12 : Int32) * (12 : Int32))) fun i9_ =>
      m_X6_exercise_L214 k198 n S i3 i6 i7 i9_)
set_option maxRecDepth 100000 in
set_option maxHeartbeats 4000000 in
theorem t_X6_exercise_L214 {k198 : MS → Int32 → Int32 → Int32 → Option (Int32 × MS)} {w : (Int32 × MS)} (hk198 : ∀ (S : MS) (a0 : Nat) (i3 : Int32) (i6 : Int32) (i7 : Int32), (a0 = S.1) → k198 S i3 i6 i7 = some w → J NX yX6_exercise cX6_exercise 9 (some .int) 2 50 198 [(0, .ref a0), (3, .int i3), (6, .int i6), (7, .int i7)] [] S (some (.int w.1)) w.2) (n : Nat) : ∀ (S : MS) (a0 : Nat) (i3 : Int32) (i6 : Int32) (i7 : Int32) (i8 : Int32), (a0 = S.1) → m_X6_exercise_L214 k198 n S i3 i6 i7 i8 = some w → J NX yX6_exercise cX6_exercise 9 (some .int) 2 50 214 [(0, .ref a0), (3, .int i3), (6, .int i6), (7, .int i7), (8, .int i8)] [] S (some (.int w.1)) w.2 := by
  induction n with
  | zero => intro S a0 i3 i6 i7 i8 ha h; cases h
  | succ n lh =>
    intro S a0 i3 i6 i7 i8 ha h
    refine J_aload_n 0 dX6_exercise_214 rfl rfl ?_
    refine J_ngetA (k := 39) (o := 18) dX6_exercise_215 gF_X6_74 ha rfl ?_
    refine J_bipush (12 : Int32) dX6_exercise_218 (by decide) ?_
    refine J_iload_n 1 dX6_exercise_220 rfl rfl ?_
    refine J_imul dX6_exercise_221 ?_
    refine J_iload 4 dX6_exercise_222 rfl ?_
    refine J_iadd dX6_exercise_224 ?_
    obtain ⟨g1, h2⟩ := gd_some h; clear h
    refine J_nzald (k := 39) (o := 18) dX6_exercise_225 ha rfl rfl (by decide) g1 ?_
    refine J_if_eq 241 dX6_exercise_226 (by decide) h2 (fun c3 h4 => ?_) (fun c3 h4 => ?_)
    · clear h2
      refine J_aload_n 0 dX6_exercise_241 rfl rfl ?_
      refine J_ngetA (k := 39) (o := 18) dX6_exercise_242 gF_X6_74 ha rfl ?_
      refine J_bipush (12 : Int32) dX6_exercise_245 (by decide) ?_
      refine J_iload_n 1 dX6_exercise_247 rfl rfl ?_
      refine J_imul dX6_exercise_248 ?_
      refine J_iload 4 dX6_exercise_249 rfl ?_
      refine J_iadd dX6_exercise_251 ?_
      refine J_iconst (1 : Int32) dX6_exercise_252 (by decide) ?_
      obtain ⟨g5, h6⟩ := gd_some h4; clear h4
      refine J_nzast (k := 39) (o := 18) dX6_exercise_253 ha rfl rfl (by decide) (by decide) g5 ?_
      obtain ⟨S7, eS7, h8⟩ := jLet_some h6; clear h6
      refine J_topS eS7 ?_
      have hS7_a0 : a0 = S7.1 := by rw [eS7]; exact ha
      refine J_iinc 3 (1 : Int32) dX6_exercise_254 rfl (by decide) (by decide) [1, 2, 3, 0, 4] (lv' := [(0, .ref a0), (3, .int i3), (6, .int i6), (7, .int (i7 + (1 : Int32))), (8, .int i8)]) rfl ?_
      refine J_goto 198 dX6_exercise_257 (by decide) ?_
      refine J_lv [0, 1, 2, 3] rfl ?_
      exact hk198 S7 a0 i3 i6 (i7 + (1 : Int32)) hS7_a0 h8
    · clear h2
      refine J_iload 4 dX6_exercise_229 rfl ?_
      refine J_iconst (1 : Int32) dX6_exercise_231 (by decide) ?_
      refine J_iadd dX6_exercise_232 ?_
      refine J_bipush (12 : Int32) dX6_exercise_233 (by decide) ?_
      refine J_irem dX6_exercise_235 (by decide) ?_
      obtain ⟨i9_, ei9_, h10⟩ := jLet_some h4; clear h4
      refine J_topI ei9_ ?_
      refine J_istore dX6_exercise_236 (by decide) [1, 2, 3, 4, 0] (lv' := [(0, .ref a0), (3, .int i3), (6, .int i6), (7, .int i7), (8, .int i9_)]) rfl ?_
      refine J_goto 214 dX6_exercise_238 (by decide) ?_
      exact lh S a0 i3 i6 i7 i9_ ha h10
def m_X6_exercise_L198 : Nat → MS → Int32 → Int32 → Int32 → Option (Int32 × MS)
  | 0, _, _, _, _ => none
  | n + 1, S, i3, i6, i7 =>
    if i6 ≤ i7 then
      (gd (inB i3 200) <|
      jLet (nSA S 41 (Int32.toNatClampNeg i3) (0 : Int32)) fun S5 =>
      bnd (m_X6_findFillings S5 i3) fun S7 =>
      jLet (((nF S7 36) + (1 : Int32))) fun i9_ =>
      jLet (nSF S7 36 i9_) fun S11 =>
      some (i3, S11))
    else
      (bnd2 (m_X6_draw S) fun i13_ S14 =>
      jLet ((i13_ - i13_ / (12 : Int32) * (12 : Int32))) fun i16_ =>
      m_X6_exercise_L214 (m_X6_exercise_L198 n) bigN S14 i3 i6 i7 i16_)
set_option maxRecDepth 100000 in
set_option maxHeartbeats 4000000 in
theorem t_X6_exercise_L198 {w : (Int32 × MS)} (n : Nat) : ∀ (S : MS) (a0 : Nat) (i3 : Int32) (i6 : Int32) (i7 : Int32), (a0 = S.1) → m_X6_exercise_L198 n S i3 i6 i7 = some w → J NX yX6_exercise cX6_exercise 9 (some .int) 2 50 198 [(0, .ref a0), (3, .int i3), (6, .int i6), (7, .int i7)] [] S (some (.int w.1)) w.2 := by
  induction n with
  | zero => intro S a0 i3 i6 i7 ha h; cases h
  | succ n lh =>
    intro S a0 i3 i6 i7 ha h
    refine J_iload 3 dX6_exercise_198 rfl ?_
    refine J_iload 2 dX6_exercise_200 rfl ?_
    refine J_icmp_ge 260 dX6_exercise_202 (by decide) h (fun c1 h2 => ?_) (fun c1 h2 => ?_)
    · clear h
      refine J_aload_n 0 dX6_exercise_260 rfl rfl ?_
      refine J_ngetA (k := 41) (o := 20) dX6_exercise_261 gF_X6_80 ha rfl ?_
      refine J_iload_n 1 dX6_exercise_264 rfl rfl ?_
      refine J_iconst (0 : Int32) dX6_exercise_265 (by decide) ?_
      obtain ⟨g3, h4⟩ := gd_some h2; clear h2
      refine J_niast (k := 41) (o := 20) dX6_exercise_266 ha rfl rfl (by decide) g3 ?_
      obtain ⟨S5, eS5, h6⟩ := jLet_some h4; clear h4
      refine J_topS eS5 ?_
      have hS5_a0 : a0 = S5.1 := by rw [eS5]; exact ha
      refine J_aload_n 0 dX6_exercise_267 rfl rfl ?_
      refine J_iload_n 1 dX6_exercise_268 rfl rfl ?_
      obtain ⟨S7, eS7, h8⟩ := bnd_some h6; clear h6
      have cS7 := (t_X6_findFillings hS5_a0 eS7)
      have lS7 : jle NX S5 S7 := cS7.1
      have hS7_a0 : a0 = S7.1 := hS5_a0.trans (nle_eq lS7).symm
      refine J_callV (As := [.int i3]) (rest := []) (st' := []) cS7 gC_X6_findFillings gM_X6_359 (by rw [hS5_a0]; exact nRecv) rfl (by decide) (by decide) rfl rfl (Nat.le_of_ble_eq_true rfl) dX6_exercise_269 ?_
      refine J_aload_n 0 dX6_exercise_272 rfl rfl ?_
      refine J_dup dX6_exercise_273 rfl ?_
      refine J_nget (k := 36) dX6_exercise_274 gF_X6_349 hS7_a0 rfl ?_
      refine J_iconst (1 : Int32) dX6_exercise_277 (by decide) ?_
      refine J_iadd dX6_exercise_278 ?_
      obtain ⟨i9_, ei9_, h10⟩ := jLet_some h8; clear h8
      refine J_topI ei9_ ?_
      refine J_nput (k := 36) dX6_exercise_279 gW_X6_349 hS7_a0 rfl rfl ?_
      obtain ⟨S11, eS11, h12⟩ := jLet_some h10; clear h10
      refine J_topS eS11 ?_
      have hS11_a0 : a0 = S11.1 := by rw [eS11]; exact hS7_a0
      refine J_iload_n 1 dX6_exercise_282 rfl rfl ?_
      have hw := Option.some.inj h12; subst hw
      exact J_iret rfl dX6_exercise_283
    · clear h
      refine J_aload_n 0 dX6_exercise_205 rfl rfl ?_
      obtain ⟨i13_, S14, ei13_, h15⟩ := bnd2_some h2; clear h2
      have cS14 := (t_X6_draw ha ei13_)
      have lS14 : jle NX S S14 := cS14.1
      have hS14_a0 : a0 = S14.1 := ha.trans (nle_eq lS14).symm
      refine J_callV (As := []) (rest := []) (st' := [.int i13_]) cS14 gC_X6_draw gM_X6_352 (by rw [ha]; exact nRecv) rfl (by decide) (by decide) rfl rfl (Nat.le_of_ble_eq_true rfl) dX6_exercise_206 ?_
      refine J_bipush (12 : Int32) dX6_exercise_209 (by decide) ?_
      refine J_irem dX6_exercise_211 (by decide) ?_
      obtain ⟨i16_, ei16_, h17⟩ := jLet_some h15; clear h15
      refine J_topI ei16_ ?_
      refine J_istore dX6_exercise_212 (by decide) [1, 2, 3, 4, 0] (lv' := [(0, .ref a0), (3, .int i3), (6, .int i6), (7, .int i7), (8, .int i16_)]) rfl ?_
      exact t_X6_exercise_L214 lh bigN S14 a0 i3 i6 i7 i16_ hS14_a0 h17
def m_X6_exercise_L159 : Nat → MS → Int32 → Int32 → Option (Int32 × MS)
  | 0, _, _, _ => none
  | n + 1, S, i3, i6 =>
    if (12 : Int32) ≤ i6 then
      (bnd2 (m_X6_draw S) fun i3_ S4 =>
      jLet (((1 : Int32) + (i3_ - i3_ / (4 : Int32) * (4 : Int32)))) fun i6_ =>
      m_X6_exercise_L198 bigN S4 i3 i6_ (0 : Int32))
    else
      (gd (inB (((12 : Int32) * i3) + i6) 2400) <|
      jLet (nSA S 39 (Int32.toNatClampNeg (((12 : Int32) * i3) + i6)) (0 : Int32)) fun S10 =>
      m_X6_exercise_L159 n S10 i3 (i6 + (1 : Int32)))
set_option maxRecDepth 100000 in
set_option maxHeartbeats 4000000 in
theorem t_X6_exercise_L159 {w : (Int32 × MS)} (n : Nat) : ∀ (S : MS) (a0 : Nat) (i3 : Int32) (i6 : Int32), (a0 = S.1) → m_X6_exercise_L159 n S i3 i6 = some w → J NX yX6_exercise cX6_exercise 9 (some .int) 2 50 159 [(0, .ref a0), (3, .int i3), (6, .int i6)] [] S (some (.int w.1)) w.2 := by
  induction n with
  | zero => intro S a0 i3 i6 ha h; cases h
  | succ n lh =>
    intro S a0 i3 i6 ha h
    refine J_iload 2 dX6_exercise_159 rfl ?_
    refine J_bipush (12 : Int32) dX6_exercise_161 (by decide) ?_
    refine J_icmp_ge 185 dX6_exercise_163 (by decide) h (fun c1 h2 => ?_) (fun c1 h2 => ?_)
    · clear h
      refine J_iconst (1 : Int32) dX6_exercise_185 (by decide) ?_
      refine J_aload_n 0 dX6_exercise_186 rfl rfl ?_
      obtain ⟨i3_, S4, ei3_, h5⟩ := bnd2_some h2; clear h2
      have cS4 := (t_X6_draw ha ei3_)
      have lS4 : jle NX S S4 := cS4.1
      have hS4_a0 : a0 = S4.1 := ha.trans (nle_eq lS4).symm
      refine J_callV (As := []) (rest := [.int (1 : Int32)]) (st' := [.int i3_, .int (1 : Int32)]) cS4 gC_X6_draw gM_X6_352 (by rw [ha]; exact nRecv) rfl (by decide) (by decide) rfl rfl (Nat.le_of_ble_eq_true rfl) dX6_exercise_187 ?_
      refine J_iconst (4 : Int32) dX6_exercise_190 (by decide) ?_
      refine J_irem dX6_exercise_191 (by decide) ?_
      refine J_iadd dX6_exercise_192 ?_
      obtain ⟨i6_, ei6_, h7⟩ := jLet_some h5; clear h5
      refine J_topI ei6_ ?_
      refine J_istore dX6_exercise_193 (by decide) [1, 2, 0] (lv' := [(0, .ref a0), (3, .int i3), (6, .int i6_)]) rfl ?_
      refine J_iconst (0 : Int32) dX6_exercise_195 (by decide) ?_
      refine J_istore dX6_exercise_196 (by decide) [1, 2, 3, 0] (lv' := [(0, .ref a0), (3, .int i3), (6, .int i6_), (7, .int (0 : Int32))]) rfl ?_
      exact t_X6_exercise_L198 bigN S4 a0 i3 i6_ (0 : Int32) hS4_a0 h7
    · clear h
      refine J_aload_n 0 dX6_exercise_166 rfl rfl ?_
      refine J_ngetA (k := 39) (o := 18) dX6_exercise_167 gF_X6_74 ha rfl ?_
      refine J_bipush (12 : Int32) dX6_exercise_170 (by decide) ?_
      refine J_iload_n 1 dX6_exercise_172 rfl rfl ?_
      refine J_imul dX6_exercise_173 ?_
      refine J_iload 2 dX6_exercise_174 rfl ?_
      refine J_iadd dX6_exercise_176 ?_
      refine J_iconst (0 : Int32) dX6_exercise_177 (by decide) ?_
      obtain ⟨g8, h9⟩ := gd_some h2; clear h2
      refine J_nzast (k := 39) (o := 18) dX6_exercise_178 ha rfl rfl (by decide) (by decide) g8 ?_
      obtain ⟨S10, eS10, h11⟩ := jLet_some h9; clear h9
      refine J_topS eS10 ?_
      have hS10_a0 : a0 = S10.1 := by rw [eS10]; exact ha
      refine J_iinc 2 (1 : Int32) dX6_exercise_179 rfl (by decide) (by decide) [1, 2, 0] (lv' := [(0, .ref a0), (3, .int i3), (6, .int (i6 + (1 : Int32)))]) rfl ?_
      refine J_goto 159 dX6_exercise_182 (by decide) ?_
      exact lh S10 a0 i3 (i6 + (1 : Int32)) hS10_a0 h11
def m_X6_exercise_J82 (S : MS) (i1 : Int32) (i3 : Int32) (i4 : Int32) (i5 : Int32) : Option (Int32 × MS) :=
  gd (inB i3 200) <|
  jLet (nSA S 37 (Int32.toNatClampNeg i3) i1) fun S3 =>
  bnd (m_X6_writeNumber S3 ((12 : Int32) * i3) (3 : Int32) i4) fun S5 =>
  bnd (m_X6_writeNumber S5 (((12 : Int32) * i3) + (3 : Int32)) (3 : Int32) i5) fun S7 =>
  if i1 = 0 then
    (bnd (m_X6_writeNumber S7 (((12 : Int32) * i3) + (6 : Int32)) (6 : Int32) (i4 + i5)) fun S11 =>
    m_X6_exercise_L159 bigN S11 i3 (0 : Int32))
  else
    (if i1 = (1 : Int32) then
      (bnd (m_X6_writeNumber S7 (((12 : Int32) * i3) + (6 : Int32)) (6 : Int32) (i4 - i5)) fun S15 =>
      m_X6_exercise_L159 bigN S15 i3 (0 : Int32))
    else
      (bnd (m_X6_writeNumber S7 (((12 : Int32) * i3) + (6 : Int32)) (6 : Int32) (i4 * i5)) fun S17 =>
      m_X6_exercise_L159 bigN S17 i3 (0 : Int32)))
set_option maxRecDepth 100000 in
set_option maxHeartbeats 4000000 in
theorem t_X6_exercise_J82 {S : MS} {a0 : Nat} {i1 : Int32} {i3 : Int32} {i4 : Int32} {i5 : Int32} {w : (Int32 × MS)} (ha : a0 = S.1) (h : m_X6_exercise_J82 S i1 i3 i4 i5 = some w) : J NX yX6_exercise cX6_exercise 9 (some .int) 2 50 82 [(0, .ref a0), (1, .int i1), (3, .int i3), (4, .int i4), (5, .int i5)] [] S (some (.int w.1)) w.2 := by
  refine J_aload_n 0 dX6_exercise_82 rfl rfl ?_
  refine J_ngetA (k := 37) (o := 16) dX6_exercise_83 gF_X6_68 ha rfl ?_
  refine J_iload_n 2 dX6_exercise_86 rfl rfl ?_
  refine J_iload_n 1 dX6_exercise_87 rfl rfl ?_
  obtain ⟨g1, h2⟩ := gd_some h; clear h
  refine J_niast (k := 37) (o := 16) dX6_exercise_88 ha rfl rfl (by decide) g1 ?_
  obtain ⟨S3, eS3, h4⟩ := jLet_some h2; clear h2
  refine J_topS eS3 ?_
  have hS3_a0 : a0 = S3.1 := by rw [eS3]; exact ha
  refine J_aload_n 0 dX6_exercise_89 rfl rfl ?_
  refine J_bipush (12 : Int32) dX6_exercise_90 (by decide) ?_
  refine J_iload_n 2 dX6_exercise_92 rfl rfl ?_
  refine J_imul dX6_exercise_93 ?_
  refine J_iconst (3 : Int32) dX6_exercise_94 (by decide) ?_
  refine J_iload 3 dX6_exercise_95 rfl ?_
  obtain ⟨S5, eS5, h6⟩ := bnd_some h4; clear h4
  have cS5 := (t_X6_writeNumber hS3_a0 eS5)
  have lS5 : jle NX S3 S5 := cS5.1
  have hS5_a0 : a0 = S5.1 := hS3_a0.trans (nle_eq lS5).symm
  refine J_callV (As := [.int ((12 : Int32) * i3), .int (3 : Int32), .int i4]) (rest := []) (st' := []) cS5 gC_X6_writeNumber gM_X6_355 (by rw [hS3_a0]; exact nRecv) rfl (by decide) (by decide) rfl rfl (Nat.le_of_ble_eq_true rfl) dX6_exercise_97 ?_
  refine J_aload_n 0 dX6_exercise_100 rfl rfl ?_
  refine J_bipush (12 : Int32) dX6_exercise_101 (by decide) ?_
  refine J_iload_n 2 dX6_exercise_103 rfl rfl ?_
  refine J_imul dX6_exercise_104 ?_
  refine J_iconst (3 : Int32) dX6_exercise_105 (by decide) ?_
  refine J_iadd dX6_exercise_106 ?_
  refine J_iconst (3 : Int32) dX6_exercise_107 (by decide) ?_
  refine J_iload 4 dX6_exercise_108 rfl ?_
  obtain ⟨S7, eS7, h8⟩ := bnd_some h6; clear h6
  have cS7 := (t_X6_writeNumber hS5_a0 eS7)
  have lS7 : jle NX S5 S7 := cS7.1
  have hS7_a0 : a0 = S7.1 := hS5_a0.trans (nle_eq lS7).symm
  refine J_callV (As := [.int (((12 : Int32) * i3) + (3 : Int32)), .int (3 : Int32), .int i5]) (rest := []) (st' := []) cS7 gC_X6_writeNumber gM_X6_355 (by rw [hS5_a0]; exact nRecv) rfl (by decide) (by decide) rfl rfl (Nat.le_of_ble_eq_true rfl) dX6_exercise_110 ?_
  refine J_aload_n 0 dX6_exercise_113 rfl rfl ?_
  refine J_bipush (12 : Int32) dX6_exercise_114 (by decide) ?_
  refine J_iload_n 2 dX6_exercise_116 rfl rfl ?_
  refine J_imul dX6_exercise_117 ?_
  refine J_bipush (6 : Int32) dX6_exercise_118 (by decide) ?_
  refine J_iadd dX6_exercise_120 ?_
  refine J_bipush (6 : Int32) dX6_exercise_121 (by decide) ?_
  refine J_iload_n 1 dX6_exercise_123 rfl rfl ?_
  refine J_if_ne 135 dX6_exercise_124 (by decide) h8 (fun c9 h10 => ?_) (fun c9 h10 => ?_)
  · clear h8
    refine J_iload 3 dX6_exercise_127 rfl ?_
    refine J_iload 4 dX6_exercise_129 rfl ?_
    refine J_iadd dX6_exercise_131 ?_
    refine J_goto 153 dX6_exercise_132 (by decide) ?_
    obtain ⟨S11, eS11, h12⟩ := bnd_some h10; clear h10
    have cS11 := (t_X6_writeNumber hS7_a0 eS11)
    have lS11 : jle NX S7 S11 := cS11.1
    have hS11_a0 : a0 = S11.1 := hS7_a0.trans (nle_eq lS11).symm
    refine J_callV (As := [.int (((12 : Int32) * i3) + (6 : Int32)), .int (6 : Int32), .int (i4 + i5)]) (rest := []) (st' := []) cS11 gC_X6_writeNumber gM_X6_355 (by rw [hS7_a0]; exact nRecv) rfl (by decide) (by decide) rfl rfl (Nat.le_of_ble_eq_true rfl) dX6_exercise_153 ?_
    refine J_iconst (0 : Int32) dX6_exercise_156 (by decide) ?_
    refine J_istore dX6_exercise_157 (by decide) [1, 3, 0] (lv' := [(0, .ref a0), (3, .int i3), (6, .int (0 : Int32))]) rfl ?_
    exact t_X6_exercise_L159 bigN S11 a0 i3 (0 : Int32) hS11_a0 h12
  · clear h8
    refine J_iload_n 1 dX6_exercise_135 rfl rfl ?_
    refine J_iconst (1 : Int32) dX6_exercise_136 (by decide) ?_
    refine J_icmp_ne 148 dX6_exercise_137 (by decide) h10 (fun c13 h14 => ?_) (fun c13 h14 => ?_)
    · clear h10
      refine J_iload 3 dX6_exercise_140 rfl ?_
      refine J_iload 4 dX6_exercise_142 rfl ?_
      refine J_isub dX6_exercise_144 ?_
      refine J_goto 153 dX6_exercise_145 (by decide) ?_
      obtain ⟨S15, eS15, h16⟩ := bnd_some h14; clear h14
      have cS15 := (t_X6_writeNumber hS7_a0 eS15)
      have lS15 : jle NX S7 S15 := cS15.1
      have hS15_a0 : a0 = S15.1 := hS7_a0.trans (nle_eq lS15).symm
      refine J_callV (As := [.int (((12 : Int32) * i3) + (6 : Int32)), .int (6 : Int32), .int (i4 - i5)]) (rest := []) (st' := []) cS15 gC_X6_writeNumber gM_X6_355 (by rw [hS7_a0]; exact nRecv) rfl (by decide) (by decide) rfl rfl (Nat.le_of_ble_eq_true rfl) dX6_exercise_153 ?_
      refine J_iconst (0 : Int32) dX6_exercise_156 (by decide) ?_
      refine J_istore dX6_exercise_157 (by decide) [1, 3, 0] (lv' := [(0, .ref a0), (3, .int i3), (6, .int (0 : Int32))]) rfl ?_
      exact t_X6_exercise_L159 bigN S15 a0 i3 (0 : Int32) hS15_a0 h16
    · clear h10
      refine J_iload 3 dX6_exercise_148 rfl ?_
      refine J_iload 4 dX6_exercise_150 rfl ?_
      refine J_imul dX6_exercise_152 ?_
      obtain ⟨S17, eS17, h18⟩ := bnd_some h14; clear h14
      have cS17 := (t_X6_writeNumber hS7_a0 eS17)
      have lS17 : jle NX S7 S17 := cS17.1
      have hS17_a0 : a0 = S17.1 := hS7_a0.trans (nle_eq lS17).symm
      refine J_callV (As := [.int (((12 : Int32) * i3) + (6 : Int32)), .int (6 : Int32), .int (i4 * i5)]) (rest := []) (st' := []) cS17 gC_X6_writeNumber gM_X6_355 (by rw [hS7_a0]; exact nRecv) rfl (by decide) (by decide) rfl rfl (Nat.le_of_ble_eq_true rfl) dX6_exercise_153 ?_
      refine J_iconst (0 : Int32) dX6_exercise_156 (by decide) ?_
      refine J_istore dX6_exercise_157 (by decide) [1, 3, 0] (lv' := [(0, .ref a0), (3, .int i3), (6, .int (0 : Int32))]) rfl ?_
      exact t_X6_exercise_L159 bigN S17 a0 i3 (0 : Int32) hS17_a0 h18
def m_X6_exercise (S : MS) (i1 : Int32) (i2 : Int32) : Option (Int32 × MS) :=
  bnd (m_X6_in (Int32.toInt64 i1) (0 : Int64) (2 : Int64)) fun i1_ =>
  if i1_ = 0 then
    (some ((-2 : Int32), S))
  else
    (if (nF S 36) = (200 : Int32) then
      (some ((-4 : Int32), S))
    else
      (jLet ((nF S 36)) fun i7_ =>
      jLet (nSF S 42 i2) fun S9 =>
      bnd2 (m_X6_draw S9) fun i11_ S12 =>
      jLet ((i11_ - i11_ / (1000 : Int32) * (1000 : Int32))) fun i14_ =>
      bnd2 (m_X6_draw S12) fun i16_ S17 =>
      jLet ((i16_ - i16_ / (1000 : Int32) * (1000 : Int32))) fun i19_ =>
      if i1 = (1 : Int32) then
        (if i19_ ≤ i14_ then
          (m_X6_exercise_J82 S17 i1 i7_ i14_ i19_)
        else
          (m_X6_exercise_J82 S17 i1 i7_ i19_ i14_))
      else
        (m_X6_exercise_J82 S17 i1 i7_ i14_ i19_)))
set_option maxRecDepth 100000 in
set_option maxHeartbeats 4000000 in
theorem t_X6_exercise {S : MS} {a0 : Nat} {i1 : Int32} {i2 : Int32} {w : (Int32 × MS)} (ha : a0 = S.1) (h : m_X6_exercise S i1 i2 = some w) : CT NX yX6_exercise cX6_exercise 9 (some .int) 2 50 [.ref a0, .int i1, .int i2] S (some (.int w.1)) w.2 := by
  refine CT.of (lv := [(0, .ref a0), (1, .int i1), (2, .int i2)]) (by decide) rfl (Nat.le_of_ble_eq_true rfl) ?_
  refine J_iload_n 1 dX6_exercise_0 rfl rfl ?_
  refine J_i2l dX6_exercise_1 ?_
  refine J_lconst (0 : Int64) dX6_exercise_2 (by decide) ?_
  refine J_ldc2 (2 : Int64) dX6_exercise_3 gK_X6_135 ?_
  obtain ⟨i1_, ei1_, h2⟩ := bnd_some h; clear h
  refine J_callS (As := [.long (Int32.toInt64 i1), .long (0 : Int64), .long (2 : Int64)]) (rest := []) (st' := [.int i1_]) (t_X6_in ei1_) gC_X6_in gM_X6_92 rfl (by decide) (by decide) rfl rfl (Nat.le_of_ble_eq_true rfl) dX6_exercise_6 ?_
  refine J_if_ne 15 dX6_exercise_9 (by decide) h2 (fun c3 h4 => ?_) (fun c3 h4 => ?_)
  · clear h2
    refine J_bipush (-2 : Int32) dX6_exercise_12 (by decide) ?_
    have hw := Option.some.inj h4; subst hw
    exact J_iret rfl dX6_exercise_14
  · clear h2
    refine J_aload_n 0 dX6_exercise_15 rfl rfl ?_
    refine J_nget (k := 36) dX6_exercise_16 gF_X6_349 ha rfl ?_
    refine J_sipush (200 : Int32) dX6_exercise_19 (by decide) ?_
    refine J_icmp_ne 28 dX6_exercise_22 (by decide) h4 (fun c5 h6 => ?_) (fun c5 h6 => ?_)
    · clear h4
      refine J_bipush (-4 : Int32) dX6_exercise_25 (by decide) ?_
      have hw := Option.some.inj h6; subst hw
      exact J_iret rfl dX6_exercise_27
    · clear h4
      refine J_aload_n 0 dX6_exercise_28 rfl rfl ?_
      refine J_nget (k := 36) dX6_exercise_29 gF_X6_349 ha rfl ?_
      obtain ⟨i7_, ei7_, h8⟩ := jLet_some h6; clear h6
      refine J_topI ei7_ ?_
      refine J_istore_n dX6_exercise_32 rfl (by decide) [1, 2, 3, 0] (lv' := [(0, .ref a0), (1, .int i1), (2, .int i2), (3, .int i7_)]) rfl ?_
      refine J_aload_n 0 dX6_exercise_33 rfl rfl ?_
      refine J_iload_n 2 dX6_exercise_34 rfl rfl ?_
      refine J_nput (k := 42) dX6_exercise_35 gW_X6_340 ha rfl rfl ?_
      obtain ⟨S9, eS9, h10⟩ := jLet_some h8; clear h8
      refine J_topS eS9 ?_
      have hS9_a0 : a0 = S9.1 := by rw [eS9]; exact ha
      refine J_aload_n 0 dX6_exercise_38 rfl rfl ?_
      obtain ⟨i11_, S12, ei11_, h13⟩ := bnd2_some h10; clear h10
      have cS12 := (t_X6_draw hS9_a0 ei11_)
      have lS12 : jle NX S9 S12 := cS12.1
      have hS12_a0 : a0 = S12.1 := hS9_a0.trans (nle_eq lS12).symm
      refine J_callV (As := []) (rest := []) (st' := [.int i11_]) cS12 gC_X6_draw gM_X6_352 (by rw [hS9_a0]; exact nRecv) rfl (by decide) (by decide) rfl rfl (Nat.le_of_ble_eq_true rfl) dX6_exercise_39 ?_
      refine J_sipush (1000 : Int32) dX6_exercise_42 (by decide) ?_
      refine J_irem dX6_exercise_45 (by decide) ?_
      obtain ⟨i14_, ei14_, h15⟩ := jLet_some h13; clear h13
      refine J_topI ei14_ ?_
      refine J_istore dX6_exercise_46 (by decide) [1, 2, 4, 0] (lv' := [(0, .ref a0), (1, .int i1), (3, .int i7_), (4, .int i14_)]) rfl ?_
      refine J_aload_n 0 dX6_exercise_48 rfl rfl ?_
      obtain ⟨i16_, S17, ei16_, h18⟩ := bnd2_some h15; clear h15
      have cS17 := (t_X6_draw hS12_a0 ei16_)
      have lS17 : jle NX S12 S17 := cS17.1
      have hS17_a0 : a0 = S17.1 := hS12_a0.trans (nle_eq lS17).symm
      refine J_callV (As := []) (rest := []) (st' := [.int i16_]) cS17 gC_X6_draw gM_X6_352 (by rw [hS12_a0]; exact nRecv) rfl (by decide) (by decide) rfl rfl (Nat.le_of_ble_eq_true rfl) dX6_exercise_49 ?_
      refine J_sipush (1000 : Int32) dX6_exercise_52 (by decide) ?_
      refine J_irem dX6_exercise_55 (by decide) ?_
      obtain ⟨i19_, ei19_, h20⟩ := jLet_some h18; clear h18
      refine J_topI ei19_ ?_
      refine J_istore dX6_exercise_56 (by decide) [1, 2, 3, 4, 0] (lv' := [(0, .ref a0), (1, .int i1), (3, .int i7_), (4, .int i14_), (5, .int i19_)]) rfl ?_
      refine J_iload_n 1 dX6_exercise_58 rfl rfl ?_
      refine J_iconst (1 : Int32) dX6_exercise_59 (by decide) ?_
      refine J_icmp_ne 82 dX6_exercise_60 (by decide) h20 (fun c21 h22 => ?_) (fun c21 h22 => ?_)
      · clear h20
        refine J_iload 3 dX6_exercise_63 rfl ?_
        refine J_iload 4 dX6_exercise_65 rfl ?_
        refine J_icmp_ge 82 dX6_exercise_67 (by decide) h22 (fun c23 h24 => ?_) (fun c23 h24 => ?_)
        · clear h22
          exact t_X6_exercise_J82 hS17_a0 h24
        · clear h22
          refine J_iload 3 dX6_exercise_70 rfl ?_
          refine J_istore dX6_exercise_72 (by decide) [1, 2, 3, 5, 0] (lv' := [(0, .ref a0), (1, .int i1), (3, .int i7_), (5, .int i19_), (6, .int i14_)]) rfl ?_
          refine J_iload 3 dX6_exercise_74 rfl ?_
          refine J_istore dX6_exercise_76 (by decide) [1, 2, 3, 0, 5] (lv' := [(0, .ref a0), (1, .int i1), (3, .int i7_), (4, .int i19_), (6, .int i14_)]) rfl ?_
          refine J_iload 4 dX6_exercise_78 rfl ?_
          refine J_istore dX6_exercise_80 (by decide) [1, 2, 3, 4, 0] (lv' := [(0, .ref a0), (1, .int i1), (3, .int i7_), (4, .int i19_), (5, .int i14_)]) rfl ?_
          exact t_X6_exercise_J82 hS17_a0 h24
      · clear h20
        exact t_X6_exercise_J82 hS17_a0 h22
