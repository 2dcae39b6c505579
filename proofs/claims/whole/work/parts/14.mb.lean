def m_X6_rod_J32 (S : MS) (i1 : Int32) (i2 : Int32) (i3 : Int32) (js0 : Int64) (js1 : Int64) (js2 : Int64) : Option (Int32 × MS) :=
  bnd (m_X6_in js0 js1 js2) fun i1_ =>
  if i1_ = 0 then
    (some ((-2 : Int32), S))
  else
    (gd (inB i1 30) <|
    if (nA S 1 (Int32.toNatClampNeg i1)) = (4 : Int32) then
      (bnd2 (m_X6_meets S (3 : Int32)) fun i9_ S10 =>
      some (i9_, S10))
    else
      (gd (inB i1 30) <|
      bnd (m_X6_in (Int32.toInt64 i2) (0 : Int64) (Int32.toInt64 ((nA S 2 (Int32.toNatClampNeg i1)) - (1 : Int32)))) fun i14_ =>
      if i14_ = 0 then
        (bnd2 (m_X6_meets S (2 : Int32)) fun i18_ S19 =>
        some (i18_, S19))
      else
        (bnd (m_X6_rodOf S i1 i2) fun i21_ =>
        gd (inB i21_ 540) <|
        jLet (nSA S 9 (Int32.toNatClampNeg i21_) i3) fun S25 =>
        gd (inB i21_ 540) <|
        jLet (nSA S25 10 (Int32.toNatClampNeg i21_) (0 : Int32)) fun S29 =>
        gd (inB i21_ 540) <|
        jLet (nSA S29 11 (Int32.toNatClampNeg i21_) (0 : Int32)) fun S33 =>
        jLet (nSF S33 20 (1 : Int32)) fun S35 =>
        some ((1 : Int32), S35))))
set_option maxRecDepth 100000 in
set_option maxHeartbeats 4000000 in
theorem t_X6_rod_J32 {S : MS} {a0 : Nat} {i1 : Int32} {i2 : Int32} {i3 : Int32} {js0 : Int64} {js1 : Int64} {js2 : Int64} {w : (Int32 × MS)} (ha : a0 = S.1) (h : m_X6_rod_J32 S i1 i2 i3 js0 js1 js2 = some w) : J NX yX6_rod cX6_rod 5 (some .int) 2 46 32 [(0, .ref a0), (1, .int i1), (2, .int i2), (3, .int i3)] [.long js2, .long js1, .long js0] S (some (.int w.1)) w.2 := by
  obtain ⟨i1_, ei1_, h2⟩ := bnd_some h; clear h
  refine J_callS (As := [.long js0, .long js1, .long js2]) (rest := []) (st' := [.int i1_]) (t_X6_in ei1_) gC_X6_in gM_X6_92 rfl (by decide) (by decide) rfl rfl (Nat.le_of_ble_eq_true rfl) dX6_rod_32 ?_
  refine J_if_ne 41 dX6_rod_35 (by decide) h2 (fun c3 h4 => ?_) (fun c3 h4 => ?_)
  · clear h2
    refine J_bipush (-2 : Int32) dX6_rod_38 (by decide) ?_
    have hw := Option.some.inj h4; subst hw
    exact J_iret rfl dX6_rod_40
  · clear h2
    refine J_aload_n 0 dX6_rod_41 rfl rfl ?_
    refine J_ngetA (k := 1) (o := 0) dX6_rod_42 gF_X6_7 ha rfl ?_
    refine J_iload_n 1 dX6_rod_45 rfl rfl ?_
    obtain ⟨g5, h6⟩ := gd_some h4; clear h4
    refine J_niald (k := 1) (o := 0) dX6_rod_46 ha rfl rfl (by decide) g5 ?_
    refine J_iconst (4 : Int32) dX6_rod_47 (by decide) ?_
    refine J_icmp_ne 57 dX6_rod_48 (by decide) h6 (fun c7 h8 => ?_) (fun c7 h8 => ?_)
    · clear h6
      refine J_aload_n 0 dX6_rod_51 rfl rfl ?_
      refine J_iconst (3 : Int32) dX6_rod_52 (by decide) ?_
      obtain ⟨i9_, S10, ei9_, h11⟩ := bnd2_some h8; clear h8
      have cS10 := (t_X6_meets ha ei9_)
      have lS10 : jle NX S S10 := cS10.1
      have hS10_a0 : a0 = S10.1 := ha.trans (nle_eq lS10).symm
      refine J_callV (As := [.int (3 : Int32)]) (rest := []) (st' := [.int i9_]) cS10 gC_X6_meets gM_X6_102 (by rw [ha]; exact nRecv) rfl (by decide) (by decide) rfl rfl (Nat.le_of_ble_eq_true rfl) dX6_rod_53 ?_
      have hw := Option.some.inj h11; subst hw
      exact J_iret rfl dX6_rod_56
    · clear h6
      refine J_iload_n 2 dX6_rod_57 rfl rfl ?_
      refine J_i2l dX6_rod_58 ?_
      refine J_lconst (0 : Int64) dX6_rod_59 (by decide) ?_
      refine J_aload_n 0 dX6_rod_60 rfl rfl ?_
      refine J_ngetA (k := 2) (o := 1) dX6_rod_61 gF_X6_13 ha rfl ?_
      refine J_iload_n 1 dX6_rod_64 rfl rfl ?_
      obtain ⟨g12, h13⟩ := gd_some h8; clear h8
      refine J_niald (k := 2) (o := 1) dX6_rod_65 ha rfl rfl (by decide) g12 ?_
      refine J_iconst (1 : Int32) dX6_rod_66 (by decide) ?_
      refine J_isub dX6_rod_67 ?_
      refine J_i2l dX6_rod_68 ?_
      obtain ⟨i14_, ei14_, h15⟩ := bnd_some h13; clear h13
      refine J_callS (As := [.long (Int32.toInt64 i2), .long (0 : Int64), .long (Int32.toInt64 ((nA S 2 (Int32.toNatClampNeg i1)) - (1 : Int32)))]) (rest := []) (st' := [.int i14_]) (t_X6_in ei14_) gC_X6_in gM_X6_92 rfl (by decide) (by decide) rfl rfl (Nat.le_of_ble_eq_true rfl) dX6_rod_69 ?_
      refine J_if_ne 81 dX6_rod_72 (by decide) h15 (fun c16 h17 => ?_) (fun c16 h17 => ?_)
      · clear h15
        refine J_aload_n 0 dX6_rod_75 rfl rfl ?_
        refine J_iconst (2 : Int32) dX6_rod_76 (by decide) ?_
        obtain ⟨i18_, S19, ei18_, h20⟩ := bnd2_some h17; clear h17
        have cS19 := (t_X6_meets ha ei18_)
        have lS19 : jle NX S S19 := cS19.1
        have hS19_a0 : a0 = S19.1 := ha.trans (nle_eq lS19).symm
        refine J_callV (As := [.int (2 : Int32)]) (rest := []) (st' := [.int i18_]) cS19 gC_X6_meets gM_X6_102 (by rw [ha]; exact nRecv) rfl (by decide) (by decide) rfl rfl (Nat.le_of_ble_eq_true rfl) dX6_rod_77 ?_
        have hw := Option.some.inj h20; subst hw
        exact J_iret rfl dX6_rod_80
      · clear h15
        refine J_aload_n 0 dX6_rod_81 rfl rfl ?_
        refine J_iload_n 1 dX6_rod_82 rfl rfl ?_
        refine J_iload_n 2 dX6_rod_83 rfl rfl ?_
        obtain ⟨i21_, ei21_, h22⟩ := bnd_some h17; clear h17
        refine J_callV (As := [.int i1, .int i2]) (rest := []) (st' := [.int i21_]) (t_X6_rodOf ha ei21_) gC_X6_rodOf gM_X6_108 (by rw [ha]; exact nRecv) rfl (by decide) (by decide) rfl rfl (Nat.le_of_ble_eq_true rfl) dX6_rod_84 ?_
        refine J_istore dX6_rod_87 (by decide) [1, 4, 0] (lv' := [(0, .ref a0), (3, .int i3), (4, .int i21_)]) rfl ?_
        refine J_aload_n 0 dX6_rod_89 rfl rfl ?_
        refine J_ngetA (k := 9) (o := 8) dX6_rod_90 gF_X6_34 ha rfl ?_
        refine J_iload 2 dX6_rod_93 rfl ?_
        refine J_iload_n 1 dX6_rod_95 rfl rfl ?_
        obtain ⟨g23, h24⟩ := gd_some h22; clear h22
        refine J_niast (k := 9) (o := 8) dX6_rod_96 ha rfl rfl (by decide) g23 ?_
        obtain ⟨S25, eS25, h26⟩ := jLet_some h24; clear h24
        refine J_topS eS25 ?_
        have hS25_a0 : a0 = S25.1 := by rw [eS25]; exact ha
        refine J_aload_n 0 dX6_rod_97 rfl rfl ?_
        refine J_ngetA (k := 10) (o := 9) dX6_rod_98 gF_X6_37 hS25_a0 rfl ?_
        refine J_iload 2 dX6_rod_101 rfl ?_
        refine J_iconst (0 : Int32) dX6_rod_103 (by decide) ?_
        obtain ⟨g27, h28⟩ := gd_some h26; clear h26
        refine J_niast (k := 10) (o := 9) dX6_rod_104 hS25_a0 rfl rfl (by decide) g27 ?_
        obtain ⟨S29, eS29, h30⟩ := jLet_some h28; clear h28
        refine J_topS eS29 ?_
        have hS29_a0 : a0 = S29.1 := by rw [eS29]; exact hS25_a0
        refine J_aload_n 0 dX6_rod_105 rfl rfl ?_
        refine J_ngetA (k := 11) (o := 10) dX6_rod_106 gF_X6_40 hS29_a0 rfl ?_
        refine J_iload 2 dX6_rod_109 rfl ?_
        refine J_iconst (0 : Int32) dX6_rod_111 (by decide) ?_
        obtain ⟨g31, h32⟩ := gd_some h30; clear h30
        refine J_niast (k := 11) (o := 10) dX6_rod_112 hS29_a0 rfl rfl (by decide) g31 ?_
        obtain ⟨S33, eS33, h34⟩ := jLet_some h32; clear h32
        refine J_topS eS33 ?_
        have hS33_a0 : a0 = S33.1 := by rw [eS33]; exact hS29_a0
        refine J_aload_n 0 dX6_rod_113 rfl rfl ?_
        refine J_iconst (1 : Int32) dX6_rod_114 (by decide) ?_
        refine J_nputZ (k := 20) dX6_rod_115 gW_X6_137 hS33_a0 rfl rfl (by decide) ?_
        obtain ⟨S35, eS35, h36⟩ := jLet_some h34; clear h34
        refine J_topS eS35 ?_
        have hS35_a0 : a0 = S35.1 := by rw [eS35]; exact hS33_a0
        refine J_iconst (1 : Int32) dX6_rod_118 (by decide) ?_
        have hw := Option.some.inj h36; subst hw
        exact J_iret rfl dX6_rod_119
def m_X6_rod (S : MS) (i1 : Int32) (i2 : Int32) (i3 : Int32) : Option (Int32 × MS) :=
  bnd (m_X6_isFrame S i1) fun i1_ =>
  if i1_ = 0 then
    (some ((-1 : Int32), S))
  else
    (gd (inB i1 30) <|
    if (nA S 1 (Int32.toNatClampNeg i1)) = (2 : Int32) then
      (m_X6_rod_J32 S i1 i2 i3 (Int32.toInt64 i3) (-1 : Int64) (1 : Int64))
    else
      (m_X6_rod_J32 S i1 i2 i3 (Int32.toInt64 i3) (-1 : Int64) (2 : Int64)))
set_option maxRecDepth 100000 in
set_option maxHeartbeats 4000000 in
theorem t_X6_rod {S : MS} {a0 : Nat} {i1 : Int32} {i2 : Int32} {i3 : Int32} {w : (Int32 × MS)} (ha : a0 = S.1) (h : m_X6_rod S i1 i2 i3 = some w) : CT NX yX6_rod cX6_rod 5 (some .int) 2 46 [.ref a0, .int i1, .int i2, .int i3] S (some (.int w.1)) w.2 := by
  refine CT.of (lv := [(0, .ref a0), (1, .int i1), (2, .int i2), (3, .int i3)]) (by decide) rfl (Nat.le_of_ble_eq_true rfl) ?_
  refine J_aload_n 0 dX6_rod_0 rfl rfl ?_
  refine J_iload_n 1 dX6_rod_1 rfl rfl ?_
  obtain ⟨i1_, ei1_, h2⟩ := bnd_some h; clear h
  refine J_callV (As := [.int i1]) (rest := []) (st' := [.int i1_]) (t_X6_isFrame ha ei1_) gC_X6_isFrame gM_X6_129 (by rw [ha]; exact nRecv) rfl (by decide) (by decide) rfl rfl (Nat.le_of_ble_eq_true rfl) dX6_rod_2 ?_
  refine J_if_ne 10 dX6_rod_5 (by decide) h2 (fun c3 h4 => ?_) (fun c3 h4 => ?_)
  · clear h2
    refine J_iconst (-1 : Int32) dX6_rod_8 (by decide) ?_
    have hw := Option.some.inj h4; subst hw
    exact J_iret rfl dX6_rod_9
  · clear h2
    refine J_iload_n 3 dX6_rod_10 rfl rfl ?_
    refine J_i2l dX6_rod_11 ?_
    refine J_ldc2 (-1 : Int64) dX6_rod_12 gK_X6_133 ?_
    refine J_aload_n 0 dX6_rod_15 rfl rfl ?_
    refine J_ngetA (k := 1) (o := 0) dX6_rod_16 gF_X6_7 ha rfl ?_
    refine J_iload_n 1 dX6_rod_19 rfl rfl ?_
    obtain ⟨g5, h6⟩ := gd_some h4; clear h4
    refine J_niald (k := 1) (o := 0) dX6_rod_20 ha rfl rfl (by decide) g5 ?_
    refine J_iconst (2 : Int32) dX6_rod_21 (by decide) ?_
    refine J_icmp_ne 29 dX6_rod_22 (by decide) h6 (fun c7 h8 => ?_) (fun c7 h8 => ?_)
    · clear h6
      refine J_lconst (1 : Int64) dX6_rod_25 (by decide) ?_
      refine J_goto 32 dX6_rod_26 (by decide) ?_
      exact t_X6_rod_J32 ha h8
    · clear h6
      refine J_ldc2 (2 : Int64) dX6_rod_29 gK_X6_135 ?_
      exact t_X6_rod_J32 ha h8
def m_X6_againstOne (S : MS) (i1 : Int32) (i2 : Int32) (i3 : Int32) : Option Int32 :=
  gd (inB i1 30) <|
  bnd (m_X6_in (Int32.toInt64 i2) (0 : Int64) (Int32.toInt64 ((nA S 2 (Int32.toNatClampNeg i1)) - (1 : Int32)))) fun i3_ =>
  if i3_ = 0 then
    (some (2 : Int32))
  else
    (bnd (m_X6_rodOf S i1 i2) fun i7_ =>
    gd (inB i7_ 540) <|
    jLet ((nA S 9 (Int32.toNatClampNeg i7_))) fun i11_ =>
    if 0 ≤ i11_ then
      (if i3 < i11_ then
        (some (0 : Int32))
      else
        (some (2 : Int32)))
    else
      (some (1 : Int32)))
set_option maxRecDepth 100000 in
set_option maxHeartbeats 4000000 in
theorem t_X6_againstOne {S : MS} {a0 : Nat} {i1 : Int32} {i2 : Int32} {i3 : Int32} {w : Int32} (ha : a0 = S.1) (h : m_X6_againstOne S i1 i2 i3 = some w) : CT NX yX6_againstOne cX6_againstOne 5 (some .int) 1 25 [.ref a0, .int i1, .int i2, .int i3] S (some (.int w)) S := by
  refine CT.of (lv := [(0, .ref a0), (1, .int i1), (2, .int i2), (3, .int i3)]) (by decide) rfl (Nat.le_of_ble_eq_true rfl) ?_
  refine J_iload_n 2 dX6_againstOne_0 rfl rfl ?_
  refine J_i2l dX6_againstOne_1 ?_
  refine J_lconst (0 : Int64) dX6_againstOne_2 (by decide) ?_
  refine J_aload_n 0 dX6_againstOne_3 rfl rfl ?_
  refine J_ngetA (k := 2) (o := 1) dX6_againstOne_4 gF_X6_13 ha rfl ?_
  refine J_iload_n 1 dX6_againstOne_7 rfl rfl ?_
  obtain ⟨g1, h2⟩ := gd_some h; clear h
  refine J_niald (k := 2) (o := 1) dX6_againstOne_8 ha rfl rfl (by decide) g1 ?_
  refine J_iconst (1 : Int32) dX6_againstOne_9 (by decide) ?_
  refine J_isub dX6_againstOne_10 ?_
  refine J_i2l dX6_againstOne_11 ?_
  obtain ⟨i3_, ei3_, h4⟩ := bnd_some h2; clear h2
  refine J_callS (As := [.long (Int32.toInt64 i2), .long (0 : Int64), .long (Int32.toInt64 ((nA S 2 (Int32.toNatClampNeg i1)) - (1 : Int32)))]) (rest := []) (st' := [.int i3_]) (t_X6_in ei3_) gC_X6_in gM_X6_92 rfl (by decide) (by decide) rfl rfl (Nat.le_of_ble_eq_true rfl) dX6_againstOne_12 ?_
  refine J_if_ne 20 dX6_againstOne_15 (by decide) h4 (fun c5 h6 => ?_) (fun c5 h6 => ?_)
  · clear h4
    refine J_iconst (2 : Int32) dX6_againstOne_18 (by decide) ?_
    have hw := Option.some.inj h6; subst hw
    exact J_iret rfl dX6_againstOne_19
  · clear h4
    refine J_aload_n 0 dX6_againstOne_20 rfl rfl ?_
    refine J_ngetA (k := 9) (o := 8) dX6_againstOne_21 gF_X6_34 ha rfl ?_
    refine J_aload_n 0 dX6_againstOne_24 rfl rfl ?_
    refine J_iload_n 1 dX6_againstOne_25 rfl rfl ?_
    refine J_iload_n 2 dX6_againstOne_26 rfl rfl ?_
    obtain ⟨i7_, ei7_, h8⟩ := bnd_some h6; clear h6
    refine J_callV (As := [.int i1, .int i2]) (rest := [.ref (a0 + 9)]) (st' := [.int i7_, .ref (a0 + 9)]) (t_X6_rodOf ha ei7_) gC_X6_rodOf gM_X6_108 (by rw [ha]; exact nRecv) rfl (by decide) (by decide) rfl rfl (Nat.le_of_ble_eq_true rfl) dX6_againstOne_27 ?_
    obtain ⟨g9, h10⟩ := gd_some h8; clear h8
    refine J_niald (k := 9) (o := 8) dX6_againstOne_30 ha rfl rfl (by decide) g9 ?_
    obtain ⟨i11_, ei11_, h12⟩ := jLet_some h10; clear h10
    refine J_topI ei11_ ?_
    refine J_istore dX6_againstOne_31 (by decide) [1, 4, 0] (lv' := [(0, .ref a0), (3, .int i3), (4, .int i11_)]) rfl ?_
    refine J_iload 2 dX6_againstOne_33 rfl ?_
    refine J_if_ge 42 dX6_againstOne_35 (by decide) h12 (fun c13 h14 => ?_) (fun c13 h14 => ?_)
    · clear h12
      refine J_iload_n 1 dX6_againstOne_42 rfl rfl ?_
      refine J_iload 2 dX6_againstOne_43 rfl ?_
      refine J_icmp_lt 52 dX6_againstOne_45 (by decide) h14 (fun c15 h16 => ?_) (fun c15 h16 => ?_)
      · clear h14
        refine J_iconst (0 : Int32) dX6_againstOne_52 (by decide) ?_
        have hw := Option.some.inj h16; subst hw
        exact J_iret rfl dX6_againstOne_53
      · clear h14
        refine J_iconst (2 : Int32) dX6_againstOne_48 (by decide) ?_
        refine J_goto 53 dX6_againstOne_49 (by decide) ?_
        have hw := Option.some.inj h16; subst hw
        exact J_iret rfl dX6_againstOne_53
    · clear h12
      refine J_iconst (1 : Int32) dX6_againstOne_38 (by decide) ?_
      refine J_goto 53 dX6_againstOne_39 (by decide) ?_
      have hw := Option.some.inj h14; subst hw
      exact J_iret rfl dX6_againstOne_53
def m_X6_mostOf (i0 : Int32) (i1 : Int32) : Option Int32 :=
  if i1 = 0 then
    (if i0 = 0 then
      (some (4 : Int32))
    else
      (if i0 = (2 : Int32) then
        (some (10 : Int32))
      else
        (some (5 : Int32))))
  else
    (if i0 = 0 then
      (some (1 : Int32))
    else
      (some (2 : Int32)))
set_option maxRecDepth 100000 in
set_option maxHeartbeats 4000000 in
theorem t_X6_mostOf {S : MS} {i0 : Int32} {i1 : Int32} {w : Int32} (h : m_X6_mostOf i0 i1 = some w) : CT NX yX6_mostOf cX6_mostOf 2 (some .int) 0 0 [.int i0, .int i1] S (some (.int w)) S := by
  refine CT.of (lv := [(0, .int i0), (1, .int i1)]) (by decide) rfl (Nat.le_of_ble_eq_true rfl) ?_
  refine J_iload_n 1 dX6_mostOf_0 rfl rfl ?_
  refine J_if_ne 24 dX6_mostOf_1 (by decide) h (fun c1 h2 => ?_) (fun c1 h2 => ?_)
  · clear h
    refine J_iload_n 0 dX6_mostOf_4 rfl rfl ?_
    refine J_if_ne 12 dX6_mostOf_5 (by decide) h2 (fun c3 h4 => ?_) (fun c3 h4 => ?_)
    · clear h2
      refine J_iconst (4 : Int32) dX6_mostOf_8 (by decide) ?_
      refine J_goto 23 dX6_mostOf_9 (by decide) ?_
      have hw := Option.some.inj h4; subst hw
      exact J_iret rfl dX6_mostOf_23
    · clear h2
      refine J_iload_n 0 dX6_mostOf_12 rfl rfl ?_
      refine J_iconst (2 : Int32) dX6_mostOf_13 (by decide) ?_
      refine J_icmp_ne 22 dX6_mostOf_14 (by decide) h4 (fun c5 h6 => ?_) (fun c5 h6 => ?_)
      · clear h4
        refine J_bipush (10 : Int32) dX6_mostOf_17 (by decide) ?_
        refine J_goto 23 dX6_mostOf_19 (by decide) ?_
        have hw := Option.some.inj h6; subst hw
        exact J_iret rfl dX6_mostOf_23
      · clear h4
        refine J_iconst (5 : Int32) dX6_mostOf_22 (by decide) ?_
        have hw := Option.some.inj h6; subst hw
        exact J_iret rfl dX6_mostOf_23
  · clear h
    refine J_iload_n 0 dX6_mostOf_24 rfl rfl ?_
    refine J_if_ne 32 dX6_mostOf_25 (by decide) h2 (fun c7 h8 => ?_) (fun c7 h8 => ?_)
    · clear h2
      refine J_iconst (1 : Int32) dX6_mostOf_28 (by decide) ?_
      refine J_goto 33 dX6_mostOf_29 (by decide) ?_
      have hw := Option.some.inj h8; subst hw
      exact J_iret rfl dX6_mostOf_33
    · clear h2
      refine J_iconst (2 : Int32) dX6_mostOf_32 (by decide) ?_
      have hw := Option.some.inj h8; subst hw
      exact J_iret rfl dX6_mostOf_33
def m_X6_push_J76 (S : MS) (i3 : Int32) (i6 : Int32) (js0 : Int64) (is1 : Int32) : Option (Int32 × MS) :=
  jLet ((js0 + (Int32.toInt64 is1))) fun j1_ =>
  bnd (m_X6_kindOf S i6) fun i3_ =>
  bnd (m_X6_mostOf i3_ i3) fun i5_ =>
  bnd (m_X6_in j1_ (0 : Int64) (Int32.toInt64 i5_)) fun i7_ =>
  if i7_ = 0 then
    (some ((-3 : Int32), S))
  else
    (if i3 = 0 then
      (jLet ((Int64.toInt32 j1_)) fun i13_ =>
      gd (inB i6 540) <|
      jLet (nSA S 10 (Int32.toNatClampNeg i6) i13_) fun S17 =>
      jLet (nSF S17 20 (1 : Int32)) fun S19 =>
      some ((Int64.toInt32 j1_), S19))
    else
      (jLet ((Int64.toInt32 j1_)) fun i21_ =>
      gd (inB i6 540) <|
      jLet (nSA S 11 (Int32.toNatClampNeg i6) i21_) fun S25 =>
      jLet (nSF S25 20 (1 : Int32)) fun S27 =>
      some ((Int64.toInt32 j1_), S27)))
set_option maxRecDepth 100000 in
set_option maxHeartbeats 4000000 in
theorem t_X6_push_J76 {S : MS} {a0 : Nat} {i3 : Int32} {i6 : Int32} {js0 : Int64} {is1 : Int32} {w : (Int32 × MS)} (ha : a0 = S.1) (h : m_X6_push_J76 S i3 i6 js0 is1 = some w) : J NX yX6_push cX6_push 9 (some .int) 2 49 76 [(0, .ref a0), (3, .int i3), (6, .int i6)] [.int is1, .long js0] S (some (.int w.1)) w.2 := by
  refine J_i2l dX6_push_76 ?_
  refine J_ladd dX6_push_77 ?_
  obtain ⟨j1_, ej1_, h2⟩ := jLet_some h; clear h
  refine J_topL ej1_ ?_
  refine J_lstore dX6_push_78 (by decide) [1, 2, 3, 0] (lv' := [(0, .ref a0), (3, .int i3), (6, .int i6), (7, .long j1_)]) rfl ?_
  refine J_lload 3 dX6_push_80 rfl ?_
  refine J_lconst (0 : Int64) dX6_push_82 (by decide) ?_
  refine J_aload_n 0 dX6_push_83 rfl rfl ?_
  refine J_iload 2 dX6_push_84 rfl ?_
  obtain ⟨i3_, ei3_, h4⟩ := bnd_some h2; clear h2
  refine J_callV (As := [.int i6]) (rest := [.long (0 : Int64), .long j1_]) (st' := [.int i3_, .long (0 : Int64), .long j1_]) (t_X6_kindOf ha ei3_) gC_X6_kindOf gM_X6_112 (by rw [ha]; exact nRecv) rfl (by decide) (by decide) rfl rfl (Nat.le_of_ble_eq_true rfl) dX6_push_86 ?_
  refine J_iload_n 1 dX6_push_89 rfl rfl ?_
  obtain ⟨i5_, ei5_, h6⟩ := bnd_some h4; clear h4
  refine J_callS (As := [.int i3_, .int i3]) (rest := [.long (0 : Int64), .long j1_]) (st' := [.int i5_, .long (0 : Int64), .long j1_]) (t_X6_mostOf ei5_) gC_X6_mostOf gM_X6_145 rfl (by decide) (by decide) rfl rfl (Nat.le_of_ble_eq_true rfl) dX6_push_90 ?_
  refine J_i2l dX6_push_93 ?_
  obtain ⟨i7_, ei7_, h8⟩ := bnd_some h6; clear h6
  refine J_callS (As := [.long j1_, .long (0 : Int64), .long (Int32.toInt64 i5_)]) (rest := []) (st' := [.int i7_]) (t_X6_in ei7_) gC_X6_in gM_X6_92 rfl (by decide) (by decide) rfl rfl (Nat.le_of_ble_eq_true rfl) dX6_push_94 ?_
  refine J_if_ne 103 dX6_push_97 (by decide) h8 (fun c9 h10 => ?_) (fun c9 h10 => ?_)
  · clear h8
    refine J_bipush (-3 : Int32) dX6_push_100 (by decide) ?_
    have hw := Option.some.inj h10; subst hw
    exact J_iret rfl dX6_push_102
  · clear h8
    refine J_iload_n 1 dX6_push_103 rfl rfl ?_
    refine J_if_ne 120 dX6_push_104 (by decide) h10 (fun c11 h12 => ?_) (fun c11 h12 => ?_)
    · clear h10
      refine J_aload_n 0 dX6_push_107 rfl rfl ?_
      refine J_ngetA (k := 10) (o := 9) dX6_push_108 gF_X6_37 ha rfl ?_
      refine J_iload 2 dX6_push_111 rfl ?_
      refine J_lload 3 dX6_push_113 rfl ?_
      refine J_l2i dX6_push_115 ?_
      obtain ⟨i13_, ei13_, h14⟩ := jLet_some h12; clear h12
      refine J_topI ei13_ ?_
      obtain ⟨g15, h16⟩ := gd_some h14; clear h14
      refine J_niast (k := 10) (o := 9) dX6_push_116 ha rfl rfl (by decide) g15 ?_
      obtain ⟨S17, eS17, h18⟩ := jLet_some h16; clear h16
      refine J_topS eS17 ?_
      have hS17_a0 : a0 = S17.1 := by rw [eS17]; exact ha
      refine J_goto 130 dX6_push_117 (by decide) ?_
      refine J_aload_n 0 dX6_push_130 rfl rfl ?_
      refine J_iconst (1 : Int32) dX6_push_131 (by decide) ?_
      refine J_nputZ (k := 20) dX6_push_132 gW_X6_137 hS17_a0 rfl rfl (by decide) ?_
      obtain ⟨S19, eS19, h20⟩ := jLet_some h18; clear h18
      refine J_topS eS19 ?_
      have hS19_a0 : a0 = S19.1 := by rw [eS19]; exact hS17_a0
      refine J_lload 3 dX6_push_135 rfl ?_
      refine J_l2i dX6_push_137 ?_
      have hw := Option.some.inj h20; subst hw
      exact J_iret rfl dX6_push_138
    · clear h10
      refine J_aload_n 0 dX6_push_120 rfl rfl ?_
      refine J_ngetA (k := 11) (o := 10) dX6_push_121 gF_X6_40 ha rfl ?_
      refine J_iload 2 dX6_push_124 rfl ?_
      refine J_lload 3 dX6_push_126 rfl ?_
      refine J_l2i dX6_push_128 ?_
      obtain ⟨i21_, ei21_, h22⟩ := jLet_some h12; clear h12
      refine J_topI ei21_ ?_
      obtain ⟨g23, h24⟩ := gd_some h22; clear h22
      refine J_niast (k := 11) (o := 10) dX6_push_129 ha rfl rfl (by decide) g23 ?_
      obtain ⟨S25, eS25, h26⟩ := jLet_some h24; clear h24
      refine J_topS eS25 ?_
      have hS25_a0 : a0 = S25.1 := by rw [eS25]; exact ha
      refine J_aload_n 0 dX6_push_130 rfl rfl ?_
      refine J_iconst (1 : Int32) dX6_push_131 (by decide) ?_
      refine J_nputZ (k := 20) dX6_push_132 gW_X6_137 hS25_a0 rfl rfl (by decide) ?_
      obtain ⟨S27, eS27, h28⟩ := jLet_some h26; clear h26
      refine J_topS eS27 ?_
      have hS27_a0 : a0 = S27.1 := by rw [eS27]; exact hS25_a0
      refine J_lload 3 dX6_push_135 rfl ?_
      refine J_l2i dX6_push_137 ?_
      have hw := Option.some.inj h28; subst hw
      exact J_iret rfl dX6_push_138
def m_X6_push (S : MS) (i1 : Int32) (i2 : Int32) (i3 : Int32) (i4 : Int32) : Option (Int32 × MS) :=
  bnd (m_X6_isFrame S i1) fun i1_ =>
  if i1_ = 0 then
    (some ((-1 : Int32), S))
  else
    (bnd (m_X6_in (Int32.toInt64 i3) (0 : Int64) (1 : Int64)) fun i5_ =>
    if i5_ = 0 then
      (some ((-2 : Int32), S))
    else
      (bnd (m_X6_againstOne S i1 i2 i3) fun i9_ =>
      if i9_ ≤ 0 then
        (bnd (m_X6_rodOf S i1 i2) fun i13_ =>
        if i3 = 0 then
          (gd (inB i13_ 540) <|
          m_X6_push_J76 S i3 i13_ (Int32.toInt64 i4) (nA S 10 (Int32.toNatClampNeg i13_)))
        else
          (gd (inB i13_ 540) <|
          m_X6_push_J76 S i3 i13_ (Int32.toInt64 i4) (nA S 11 (Int32.toNatClampNeg i13_))))
      else
        (bnd2 (m_X6_meets S i9_) fun i21_ S22 =>
        some (i21_, S22))))
set_option maxRecDepth 100000 in
set_option maxHeartbeats 4000000 in
theorem t_X6_push {S : MS} {a0 : Nat} {i1 : Int32} {i2 : Int32} {i3 : Int32} {i4 : Int32} {w : (Int32 × MS)} (ha : a0 = S.1) (h : m_X6_push S i1 i2 i3 i4 = some w) : CT NX yX6_push cX6_push 9 (some .int) 2 49 [.ref a0, .int i1, .int i2, .int i3, .int i4] S (some (.int w.1)) w.2 := by
  refine CT.of (lv := [(0, .ref a0), (1, .int i1), (2, .int i2), (3, .int i3), (4, .int i4)]) (by decide) rfl (Nat.le_of_ble_eq_true rfl) ?_
  refine J_aload_n 0 dX6_push_0 rfl rfl ?_
  refine J_iload_n 1 dX6_push_1 rfl rfl ?_
  obtain ⟨i1_, ei1_, h2⟩ := bnd_some h; clear h
  refine J_callV (As := [.int i1]) (rest := []) (st' := [.int i1_]) (t_X6_isFrame ha ei1_) gC_X6_isFrame gM_X6_129 (by rw [ha]; exact nRecv) rfl (by decide) (by decide) rfl rfl (Nat.le_of_ble_eq_true rfl) dX6_push_2 ?_
  refine J_if_ne 10 dX6_push_5 (by decide) h2 (fun c3 h4 => ?_) (fun c3 h4 => ?_)
  · clear h2
    refine J_iconst (-1 : Int32) dX6_push_8 (by decide) ?_
    have hw := Option.some.inj h4; subst hw
    exact J_iret rfl dX6_push_9
  · clear h2
    refine J_iload_n 3 dX6_push_10 rfl rfl ?_
    refine J_i2l dX6_push_11 ?_
    refine J_lconst (0 : Int64) dX6_push_12 (by decide) ?_
    refine J_lconst (1 : Int64) dX6_push_13 (by decide) ?_
    obtain ⟨i5_, ei5_, h6⟩ := bnd_some h4; clear h4
    refine J_callS (As := [.long (Int32.toInt64 i3), .long (0 : Int64), .long (1 : Int64)]) (rest := []) (st' := [.int i5_]) (t_X6_in ei5_) gC_X6_in gM_X6_92 rfl (by decide) (by decide) rfl rfl (Nat.le_of_ble_eq_true rfl) dX6_push_14 ?_
    refine J_if_ne 23 dX6_push_17 (by decide) h6 (fun c7 h8 => ?_) (fun c7 h8 => ?_)
    · clear h6
      refine J_bipush (-2 : Int32) dX6_push_20 (by decide) ?_
      have hw := Option.some.inj h8; subst hw
      exact J_iret rfl dX6_push_22
    · clear h6
      refine J_aload_n 0 dX6_push_23 rfl rfl ?_
      refine J_iload_n 1 dX6_push_24 rfl rfl ?_
      refine J_iload_n 2 dX6_push_25 rfl rfl ?_
      refine J_iload_n 3 dX6_push_26 rfl rfl ?_
      obtain ⟨i9_, ei9_, h10⟩ := bnd_some h8; clear h8
      refine J_callV (As := [.int i1, .int i2, .int i3]) (rest := []) (st' := [.int i9_]) (t_X6_againstOne ha ei9_) gC_X6_againstOne gM_X6_141 (by rw [ha]; exact nRecv) rfl (by decide) (by decide) rfl rfl (Nat.le_of_ble_eq_true rfl) dX6_push_27 ?_
      refine J_istore dX6_push_30 (by decide) [1, 2, 3, 4, 5, 0] (lv' := [(0, .ref a0), (1, .int i1), (2, .int i2), (3, .int i3), (4, .int i4), (5, .int i9_)]) rfl ?_
      refine J_iload 5 dX6_push_32 rfl ?_
      refine J_if_le 44 dX6_push_34 (by decide) h10 (fun c11 h12 => ?_) (fun c11 h12 => ?_)
      · clear h10
        refine J_aload_n 0 dX6_push_44 rfl rfl ?_
        refine J_iload_n 1 dX6_push_45 rfl rfl ?_
        refine J_iload_n 2 dX6_push_46 rfl rfl ?_
        obtain ⟨i13_, ei13_, h14⟩ := bnd_some h12; clear h12
        refine J_callV (As := [.int i1, .int i2]) (rest := []) (st' := [.int i13_]) (t_X6_rodOf ha ei13_) gC_X6_rodOf gM_X6_108 (by rw [ha]; exact nRecv) rfl (by decide) (by decide) rfl rfl (Nat.le_of_ble_eq_true rfl) dX6_push_47 ?_
        refine J_istore dX6_push_50 (by decide) [1, 4, 5, 0] (lv' := [(0, .ref a0), (3, .int i3), (4, .int i4), (6, .int i13_)]) rfl ?_
        refine J_iload 2 dX6_push_52 rfl ?_
        refine J_i2l dX6_push_54 ?_
        refine J_iload_n 1 dX6_push_55 rfl rfl ?_
        refine J_if_ne 69 dX6_push_56 (by decide) h14 (fun c15 h16 => ?_) (fun c15 h16 => ?_)
        · clear h14
          refine J_aload_n 0 dX6_push_59 rfl rfl ?_
          refine J_ngetA (k := 10) (o := 9) dX6_push_60 gF_X6_37 ha rfl ?_
          refine J_iload 3 dX6_push_63 rfl ?_
          obtain ⟨g17, h18⟩ := gd_some h16; clear h16
          refine J_niald (k := 10) (o := 9) dX6_push_65 ha rfl rfl (by decide) g17 ?_
          refine J_goto 76 dX6_push_66 (by decide) ?_
          refine J_lv [0, 1, 3] rfl ?_
          exact t_X6_push_J76 ha h18
        · clear h14
          refine J_aload_n 0 dX6_push_69 rfl rfl ?_
          refine J_ngetA (k := 11) (o := 10) dX6_push_70 gF_X6_40 ha rfl ?_
          refine J_iload 3 dX6_push_73 rfl ?_
          obtain ⟨g19, h20⟩ := gd_some h16; clear h16
          refine J_niald (k := 11) (o := 10) dX6_push_75 ha rfl rfl (by decide) g19 ?_
          refine J_lv [0, 1, 3] rfl ?_
          exact t_X6_push_J76 ha h20
      · clear h10
        refine J_aload_n 0 dX6_push_37 rfl rfl ?_
        refine J_iload 5 dX6_push_38 rfl ?_
        obtain ⟨i21_, S22, ei21_, h23⟩ := bnd2_some h12; clear h12
        have cS22 := (t_X6_meets ha ei21_)
        have lS22 : jle NX S S22 := cS22.1
        have hS22_a0 : a0 = S22.1 := ha.trans (nle_eq lS22).symm
        refine J_callV (As := [.int i9_]) (rest := []) (st' := [.int i21_]) cS22 gC_X6_meets gM_X6_102 (by rw [ha]; exact nRecv) rfl (by decide) (by decide) rfl rfl (Nat.le_of_ble_eq_true rfl) dX6_push_40 ?_
        have hw := Option.some.inj h23; subst hw
        exact J_iret rfl dX6_push_43
def m_X6_beads (S : MS) (i1 : Int32) (i2 : Int32) (i3 : Int32) : Option (Int32 × MS) :=
  bnd (m_X6_isFrame S i1) fun i1_ =>
  if i1_ = 0 then
    (some ((-1 : Int32), S))
  else
    (bnd (m_X6_in (Int32.toInt64 i3) (0 : Int64) (1 : Int64)) fun i5_ =>
    if i5_ = 0 then
      (some ((-2 : Int32), S))
    else
      (bnd (m_X6_againstOne S i1 i2 i3) fun i9_ =>
      if i9_ ≤ 0 then
        (if i3 = 0 then
          (bnd (m_X6_rodOf S i1 i2) fun i15_ =>
          gd (inB i15_ 540) <|
          some ((nA S 10 (Int32.toNatClampNeg i15_)), S))
        else
          (bnd (m_X6_rodOf S i1 i2) fun i19_ =>
          gd (inB i19_ 540) <|
          some ((nA S 11 (Int32.toNatClampNeg i19_)), S)))
      else
        (bnd2 (m_X6_meets S i9_) fun i23_ S24 =>
        some (i23_, S24))))
set_option maxRecDepth 100000 in
set_option maxHeartbeats 4000000 in
theorem t_X6_beads {S : MS} {a0 : Nat} {i1 : Int32} {i2 : Int32} {i3 : Int32} {w : (Int32 × MS)} (ha : a0 = S.1) (h : m_X6_beads S i1 i2 i3 = some w) : CT NX yX6_beads cX6_beads 5 (some .int) 2 49 [.ref a0, .int i1, .int i2, .int i3] S (some (.int w.1)) w.2 := by
  refine CT.of (lv := [(0, .ref a0), (1, .int i1), (2, .int i2), (3, .int i3)]) (by decide) rfl (Nat.le_of_ble_eq_true rfl) ?_
  refine J_aload_n 0 dX6_beads_0 rfl rfl ?_
  refine J_iload_n 1 dX6_beads_1 rfl rfl ?_
  obtain ⟨i1_, ei1_, h2⟩ := bnd_some h; clear h
  refine J_callV (As := [.int i1]) (rest := []) (st' := [.int i1_]) (t_X6_isFrame ha ei1_) gC_X6_isFrame gM_X6_129 (by rw [ha]; exact nRecv) rfl (by decide) (by decide) rfl rfl (Nat.le_of_ble_eq_true rfl) dX6_beads_2 ?_
  refine J_if_ne 10 dX6_beads_5 (by decide) h2 (fun c3 h4 => ?_) (fun c3 h4 => ?_)
  · clear h2
    refine J_iconst (-1 : Int32) dX6_beads_8 (by decide) ?_
    have hw := Option.some.inj h4; subst hw
    exact J_iret rfl dX6_beads_9
  · clear h2
    refine J_iload_n 3 dX6_beads_10 rfl rfl ?_
    refine J_i2l dX6_beads_11 ?_
    refine J_lconst (0 : Int64) dX6_beads_12 (by decide) ?_
    refine J_lconst (1 : Int64) dX6_beads_13 (by decide) ?_
    obtain ⟨i5_, ei5_, h6⟩ := bnd_some h4; clear h4
    refine J_callS (As := [.long (Int32.toInt64 i3), .long (0 : Int64), .long (1 : Int64)]) (rest := []) (st' := [.int i5_]) (t_X6_in ei5_) gC_X6_in gM_X6_92 rfl (by decide) (by decide) rfl rfl (Nat.le_of_ble_eq_true rfl) dX6_beads_14 ?_
    refine J_if_ne 23 dX6_beads_17 (by decide) h6 (fun c7 h8 => ?_) (fun c7 h8 => ?_)
    · clear h6
      refine J_bipush (-2 : Int32) dX6_beads_20 (by decide) ?_
      have hw := Option.some.inj h8; subst hw
      exact J_iret rfl dX6_beads_22
    · clear h6
      refine J_aload_n 0 dX6_beads_23 rfl rfl ?_
      refine J_iload_n 1 dX6_beads_24 rfl rfl ?_
      refine J_iload_n 2 dX6_beads_25 rfl rfl ?_
      refine J_iload_n 3 dX6_beads_26 rfl rfl ?_
      obtain ⟨i9_, ei9_, h10⟩ := bnd_some h8; clear h8
      refine J_callV (As := [.int i1, .int i2, .int i3]) (rest := []) (st' := [.int i9_]) (t_X6_againstOne ha ei9_) gC_X6_againstOne gM_X6_141 (by rw [ha]; exact nRecv) rfl (by decide) (by decide) rfl rfl (Nat.le_of_ble_eq_true rfl) dX6_beads_27 ?_
      refine J_istore dX6_beads_30 (by decide) [1, 2, 3, 4, 0] (lv' := [(0, .ref a0), (1, .int i1), (2, .int i2), (3, .int i3), (4, .int i9_)]) rfl ?_
      refine J_iload 4 dX6_beads_32 rfl ?_
      refine J_if_le 46 dX6_beads_34 (by decide) h10 (fun c11 h12 => ?_) (fun c11 h12 => ?_)
      · clear h10
        refine J_iload_n 3 dX6_beads_46 rfl rfl ?_
        refine J_if_ne 64 dX6_beads_47 (by decide) h12 (fun c13 h14 => ?_) (fun c13 h14 => ?_)
        · clear h12
          refine J_aload_n 0 dX6_beads_50 rfl rfl ?_
          refine J_ngetA (k := 10) (o := 9) dX6_beads_51 gF_X6_37 ha rfl ?_
          refine J_aload_n 0 dX6_beads_54 rfl rfl ?_
          refine J_iload_n 1 dX6_beads_55 rfl rfl ?_
          refine J_iload_n 2 dX6_beads_56 rfl rfl ?_
          obtain ⟨i15_, ei15_, h16⟩ := bnd_some h14; clear h14
          refine J_callV (As := [.int i1, .int i2]) (rest := [.ref (a0 + 10)]) (st' := [.int i15_, .ref (a0 + 10)]) (t_X6_rodOf ha ei15_) gC_X6_rodOf gM_X6_108 (by rw [ha]; exact nRecv) rfl (by decide) (by decide) rfl rfl (Nat.le_of_ble_eq_true rfl) dX6_beads_57 ?_
          obtain ⟨g17, h18⟩ := gd_some h16; clear h16
          refine J_niald (k := 10) (o := 9) dX6_beads_60 ha rfl rfl (by decide) g17 ?_
          refine J_goto 75 dX6_beads_61 (by decide) ?_
          have hw := Option.some.inj h18; subst hw
          exact J_iret rfl dX6_beads_75
        · clear h12
          refine J_aload_n 0 dX6_beads_64 rfl rfl ?_
          refine J_ngetA (k := 11) (o := 10) dX6_beads_65 gF_X6_40 ha rfl ?_
          refine J_aload_n 0 dX6_beads_68 rfl rfl ?_
          refine J_iload_n 1 dX6_beads_69 rfl rfl ?_
          refine J_iload_n 2 dX6_beads_70 rfl rfl ?_
          obtain ⟨i19_, ei19_, h20⟩ := bnd_some h14; clear h14
          refine J_callV (As := [.int i1, .int i2]) (rest := [.ref (a0 + 11)]) (st' := [.int i19_, .ref (a0 + 11)]) (t_X6_rodOf ha ei19_) gC_X6_rodOf gM_X6_108 (by rw [ha]; exact nRecv) rfl (by decide) (by decide) rfl rfl (Nat.le_of_ble_eq_true rfl) dX6_beads_71 ?_
          obtain ⟨g21, h22⟩ := gd_some h20; clear h20
          refine J_niald (k := 11) (o := 10) dX6_beads_74 ha rfl rfl (by decide) g21 ?_
          have hw := Option.some.inj h22; subst hw
          exact J_iret rfl dX6_beads_75
      · clear h10
        refine J_aload_n 0 dX6_beads_37 rfl rfl ?_
        refine J_iload 4 dX6_beads_38 rfl ?_
        obtain ⟨i23_, S24, ei23_, h25⟩ := bnd2_some h12; clear h12
        have cS24 := (t_X6_meets ha ei23_)
        have lS24 : jle NX S S24 := cS24.1
        have hS24_a0 : a0 = S24.1 := ha.trans (nle_eq lS24).symm
        refine J_callV (As := [.int i9_]) (rest := []) (st' := [.int i23_]) cS24 gC_X6_meets gM_X6_102 (by rw [ha]; exact nRecv) rfl (by decide) (by decide) rfl rfl (Nat.le_of_ble_eq_true rfl) dX6_beads_40 ?_
        refine J_goto 75 dX6_beads_43 (by decide) ?_
        have hw := Option.some.inj h25; subst hw
        exact J_iret rfl dX6_beads_75
def m_X6_digit (S : MS) (i1 : Int32) (i2 : Int32) : Option (Int32 × MS) :=
  bnd (m_X6_isFrame S i1) fun i1_ =>
  if i1_ = 0 then
    (some ((-1 : Int32), S))
  else
    (bnd (m_X6_against S i1 i2) fun i5_ =>
    if i5_ ≤ 0 then
      (bnd (m_X6_rodOf S i1 i2) fun i9_ =>
      bnd (m_X6_digitAt S i9_) fun i11_ =>
      some (i11_, S))
    else
      (bnd2 (m_X6_meets S i5_) fun i13_ S14 =>
      some (i13_, S14)))
set_option maxRecDepth 100000 in
set_option maxHeartbeats 4000000 in
theorem t_X6_digit {S : MS} {a0 : Nat} {i1 : Int32} {i2 : Int32} {w : (Int32 × MS)} (ha : a0 = S.1) (h : m_X6_digit S i1 i2 = some w) : CT NX yX6_digit cX6_digit 4 (some .int) 2 49 [.ref a0, .int i1, .int i2] S (some (.int w.1)) w.2 := by
  refine CT.of (lv := [(0, .ref a0), (1, .int i1), (2, .int i2)]) (by decide) rfl (Nat.le_of_ble_eq_true rfl) ?_
  refine J_aload_n 0 dX6_digit_0 rfl rfl ?_
  refine J_iload_n 1 dX6_digit_1 rfl rfl ?_
  obtain ⟨i1_, ei1_, h2⟩ := bnd_some h; clear h
  refine J_callV (As := [.int i1]) (rest := []) (st' := [.int i1_]) (t_X6_isFrame ha ei1_) gC_X6_isFrame gM_X6_129 (by rw [ha]; exact nRecv) rfl (by decide) (by decide) rfl rfl (Nat.le_of_ble_eq_true rfl) dX6_digit_2 ?_
  refine J_if_ne 10 dX6_digit_5 (by decide) h2 (fun c3 h4 => ?_) (fun c3 h4 => ?_)
  · clear h2
    refine J_iconst (-1 : Int32) dX6_digit_8 (by decide) ?_
    have hw := Option.some.inj h4; subst hw
    exact J_iret rfl dX6_digit_9
  · clear h2
    refine J_aload_n 0 dX6_digit_10 rfl rfl ?_
    refine J_iload_n 1 dX6_digit_11 rfl rfl ?_
    refine J_iload_n 2 dX6_digit_12 rfl rfl ?_
    obtain ⟨i5_, ei5_, h6⟩ := bnd_some h4; clear h4
    refine J_callV (As := [.int i1, .int i2]) (rest := []) (st' := [.int i5_]) (t_X6_against ha ei5_) gC_X6_against gM_X6_118 (by rw [ha]; exact nRecv) rfl (by decide) (by decide) rfl rfl (Nat.le_of_ble_eq_true rfl) dX6_digit_13 ?_
    refine J_istore_n dX6_digit_16 rfl (by decide) [1, 2, 3, 0] (lv' := [(0, .ref a0), (1, .int i1), (2, .int i2), (3, .int i5_)]) rfl ?_
    refine J_iload_n 3 dX6_digit_17 rfl rfl ?_
    refine J_if_le 29 dX6_digit_18 (by decide) h6 (fun c7 h8 => ?_) (fun c7 h8 => ?_)
    · clear h6
      refine J_aload_n 0 dX6_digit_29 rfl rfl ?_
      refine J_aload_n 0 dX6_digit_30 rfl rfl ?_
      refine J_iload_n 1 dX6_digit_31 rfl rfl ?_
      refine J_iload_n 2 dX6_digit_32 rfl rfl ?_
      obtain ⟨i9_, ei9_, h10⟩ := bnd_some h8; clear h8
      refine J_callV (As := [.int i1, .int i2]) (rest := [.ref a0]) (st' := [.int i9_, .ref a0]) (t_X6_rodOf ha ei9_) gC_X6_rodOf gM_X6_108 (by rw [ha]; exact nRecv) rfl (by decide) (by decide) rfl rfl (Nat.le_of_ble_eq_true rfl) dX6_digit_33 ?_
      obtain ⟨i11_, ei11_, h12⟩ := bnd_some h10; clear h10
      refine J_callV (As := [.int i9_]) (rest := []) (st' := [.int i11_]) (t_X6_digitAt ha ei11_) gC_X6_digitAt gM_X6_121 (by rw [ha]; exact nRecv) rfl (by decide) (by decide) rfl rfl (Nat.le_of_ble_eq_true rfl) dX6_digit_36 ?_
      have hw := Option.some.inj h12; subst hw
      exact J_iret rfl dX6_digit_39
    · clear h6
      refine J_aload_n 0 dX6_digit_21 rfl rfl ?_
      refine J_iload_n 3 dX6_digit_22 rfl rfl ?_
      obtain ⟨i13_, S14, ei13_, h15⟩ := bnd2_some h8; clear h8
      have cS14 := (t_X6_meets ha ei13_)
      have lS14 : jle NX S S14 := cS14.1
      have hS14_a0 : a0 = S14.1 := ha.trans (nle_eq lS14).symm
      refine J_callV (As := [.int i5_]) (rest := []) (st' := [.int i13_]) cS14 gC_X6_meets gM_X6_102 (by rw [ha]; exact nRecv) rfl (by decide) (by decide) rfl rfl (Nat.le_of_ble_eq_true rfl) dX6_digit_23 ?_
      refine J_goto 39 dX6_digit_26 (by decide) ?_
      have hw := Option.some.inj h15; subst hw
      exact J_iret rfl dX6_digit_39
def m_X6_shows (S : MS) (i1 : Int32) : Option (Int64 × MS) :=
  bnd (m_X6_isFrame S i1) fun i1_ =>
  if i1_ = 0 then
    (some ((-9223372036854775808 : Int64), S))
  else
    (bnd2 (m_X6_shown S i1) fun j5_ S6 =>
    if (nF S6 16) ≤ 0 then
      (some (j5_, S6))
    else
      (bnd2 (m_X6_loses S6 (nF S6 16)) fun j10_ S11 =>
      some (j10_, S11)))
set_option maxRecDepth 100000 in
set_option maxHeartbeats 4000000 in
theorem t_X6_shows {S : MS} {a0 : Nat} {i1 : Int32} {w : (Int64 × MS)} (ha : a0 = S.1) (h : m_X6_shows S i1 = some w) : CT NX yX6_shows cX6_shows 4 (some .long) 3 75 [.ref a0, .int i1] S (some (.long w.1)) w.2 := by
  refine CT.of (lv := [(0, .ref a0), (1, .int i1)]) (by decide) rfl (Nat.le_of_ble_eq_true rfl) ?_
  refine J_aload_n 0 dX6_shows_0 rfl rfl ?_
  refine J_iload_n 1 dX6_shows_1 rfl rfl ?_
  obtain ⟨i1_, ei1_, h2⟩ := bnd_some h; clear h
  refine J_callV (As := [.int i1]) (rest := []) (st' := [.int i1_]) (t_X6_isFrame ha ei1_) gC_X6_isFrame gM_X6_129 (by rw [ha]; exact nRecv) rfl (by decide) (by decide) rfl rfl (Nat.le_of_ble_eq_true rfl) dX6_shows_2 ?_
  refine J_if_ne 12 dX6_shows_5 (by decide) h2 (fun c3 h4 => ?_) (fun c3 h4 => ?_)
  · clear h2
    refine J_ldc2 (-9223372036854775808 : Int64) dX6_shows_8 gK_X6_106 ?_
    have hw := Option.some.inj h4; subst hw
    exact J_lret rfl dX6_shows_11
  · clear h2
    refine J_aload_n 0 dX6_shows_12 rfl rfl ?_
    refine J_iload_n 1 dX6_shows_13 rfl rfl ?_
    obtain ⟨j5_, S6, ej5_, h7⟩ := bnd2_some h4; clear h4
    have cS6 := (t_X6_shown ha ej5_)
    have lS6 : jle NX S S6 := cS6.1
    have hS6_a0 : a0 = S6.1 := ha.trans (nle_eq lS6).symm
    refine J_callV (As := [.int i1]) (rest := []) (st' := [.long j5_]) cS6 gC_X6_shown gM_X6_148 (by rw [ha]; exact nRecv) rfl (by decide) (by decide) rfl rfl (Nat.le_of_ble_eq_true rfl) dX6_shows_14 ?_
    refine J_lstore_n dX6_shows_17 rfl (by decide) [1, 0] (lv' := [(0, .ref a0), (2, .long j5_)]) rfl ?_
    refine J_aload_n 0 dX6_shows_18 rfl rfl ?_
    refine J_nget (k := 16) dX6_shows_19 gF_X6_124 hS6_a0 rfl ?_
    refine J_if_le 36 dX6_shows_22 (by decide) h7 (fun c8 h9 => ?_) (fun c8 h9 => ?_)
    · clear h7
      refine J_lload_n 1 dX6_shows_36 rfl rfl ?_
      have hw := Option.some.inj h9; subst hw
      exact J_lret rfl dX6_shows_37
    · clear h7
      refine J_aload_n 0 dX6_shows_25 rfl rfl ?_
      refine J_aload_n 0 dX6_shows_26 rfl rfl ?_
      refine J_nget (k := 16) dX6_shows_27 gF_X6_124 hS6_a0 rfl ?_
      obtain ⟨j10_, S11, ej10_, h12⟩ := bnd2_some h9; clear h9
      have cS11 := (t_X6_loses hS6_a0 ej10_)
      have lS11 : jle NX S6 S11 := cS11.1
      have hS11_a0 : a0 = S11.1 := hS6_a0.trans (nle_eq lS11).symm
      refine J_callV (As := [.int (nF S6 16)]) (rest := []) (st' := [.long j10_]) cS11 gC_X6_loses gM_X6_152 (by rw [hS6_a0]; exact nRecv) rfl (by decide) (by decide) rfl rfl (Nat.le_of_ble_eq_true rfl) dX6_shows_30 ?_
      refine J_goto 37 dX6_shows_33 (by decide) ?_
      have hw := Option.some.inj h12; subst hw
      exact J_lret rfl dX6_shows_37
def m_X6_set_L70 : Nat → MS → Int32 → Int64 → Int32 → Option (Int32 × MS)
  | 0, _, _, _, _ => none
  | n + 1, S, i1, j6, i8 =>
    gd (inB i1 30) <|
    if (nA S 2 (Int32.toNatClampNeg i1)) ≤ i8 then
      (jLet (nSF S 20 (1 : Int32)) fun S5 =>
      some ((1 : Int32), S5))
    else
      (bnd (m_X6_rodOf S i1 i8) fun i7_ =>
      gd (inB i1 30) <|
      gd (nzL (Int32.toInt64 (nA S 3 (Int32.toNatClampNeg i1)))) <|
      bnd (m_X6_write S i7_ (Int64.toInt32 (j6 - j6 / (Int32.toInt64 (nA S 3 (Int32.toNatClampNeg i1))) * (Int32.toInt64 (nA S 3 (Int32.toNatClampNeg i1)))))) fun S13 =>
      gd (inB i1 30) <|
      gd (nzL (Int32.toInt64 (nA S13 3 (Int32.toNatClampNeg i1)))) <|
      jLet ((j6 / (Int32.toInt64 (nA S13 3 (Int32.toNatClampNeg i1))))) fun j19_ =>
      m_X6_set_L70 n S13 i1 j19_ (i8 + (1 : Int32)))
set_option maxRecDepth 100000 in
set_option maxHeartbeats 4000000 in
theorem t_X6_set_L70 {w : (Int32 × MS)} (n : Nat) : ∀ (S : MS) (a0 : Nat) (i1 : Int32) (j6 : Int64) (i8 : Int32), (a0 = S.1) → m_X6_set_L70 n S i1 j6 i8 = some w → J NX yX6_set cX6_set 9 (some .int) 3 75 70 [(0, .ref a0), (1, .int i1), (6, .long j6), (8, .int i8)] [] S (some (.int w.1)) w.2 := by
  induction n with
  | zero => intro S a0 i1 j6 i8 ha h; cases h
  | succ n lh =>
    intro S a0 i1 j6 i8 ha h
    refine J_iload 3 dX6_set_70 rfl ?_
    refine J_aload_n 0 dX6_set_72 rfl rfl ?_
    refine J_ngetA (k := 2) (o := 1) dX6_set_73 gF_X6_13 ha rfl ?_
    refine J_iload_n 1 dX6_set_76 rfl rfl ?_
    obtain ⟨g1, h2⟩ := gd_some h; clear h
    refine J_niald (k := 2) (o := 1) dX6_set_77 ha rfl rfl (by decide) g1 ?_
    refine J_icmp_ge 121 dX6_set_78 (by decide) h2 (fun c3 h4 => ?_) (fun c3 h4 => ?_)
    · clear h2
      refine J_aload_n 0 dX6_set_121 rfl rfl ?_
      refine J_iconst (1 : Int32) dX6_set_122 (by decide) ?_
      refine J_nputZ (k := 20) dX6_set_123 gW_X6_137 ha rfl rfl (by decide) ?_
      obtain ⟨S5, eS5, h6⟩ := jLet_some h4; clear h4
      refine J_topS eS5 ?_
      have hS5_a0 : a0 = S5.1 := by rw [eS5]; exact ha
      refine J_iconst (1 : Int32) dX6_set_126 (by decide) ?_
      have hw := Option.some.inj h6; subst hw
      exact J_iret rfl dX6_set_127
    · clear h2
      refine J_aload_n 0 dX6_set_81 rfl rfl ?_
      refine J_aload_n 0 dX6_set_82 rfl rfl ?_
      refine J_iload_n 1 dX6_set_83 rfl rfl ?_
      refine J_iload 3 dX6_set_84 rfl ?_
      obtain ⟨i7_, ei7_, h8⟩ := bnd_some h4; clear h4
      refine J_callV (As := [.int i1, .int i8]) (rest := [.ref a0]) (st' := [.int i7_, .ref a0]) (t_X6_rodOf ha ei7_) gC_X6_rodOf gM_X6_108 (by rw [ha]; exact nRecv) rfl (by decide) (by decide) rfl rfl (Nat.le_of_ble_eq_true rfl) dX6_set_86 ?_
      refine J_lload 2 dX6_set_89 rfl ?_
      refine J_aload_n 0 dX6_set_91 rfl rfl ?_
      refine J_ngetA (k := 3) (o := 2) dX6_set_92 gF_X6_16 ha rfl ?_
      refine J_iload_n 1 dX6_set_95 rfl rfl ?_
      obtain ⟨g9, h10⟩ := gd_some h8; clear h8
      refine J_niald (k := 3) (o := 2) dX6_set_96 ha rfl rfl (by decide) g9 ?_
      refine J_i2l dX6_set_97 ?_
      obtain ⟨g11, h12⟩ := gd_some h10; clear h10
      refine J_lrem dX6_set_98 (nzL_of g11) ?_
      refine J_l2i dX6_set_99 ?_
      obtain ⟨S13, eS13, h14⟩ := bnd_some h12; clear h12
      have cS13 := (t_X6_write ha eS13)
      have lS13 : jle NX S S13 := cS13.1
      have hS13_a0 : a0 = S13.1 := ha.trans (nle_eq lS13).symm
      refine J_callV (As := [.int i7_, .int (Int64.toInt32 (j6 - j6 / (Int32.toInt64 (nA S 3 (Int32.toNatClampNeg i1))) * (Int32.toInt64 (nA S 3 (Int32.toNatClampNeg i1)))))]) (rest := []) (st' := []) cS13 gC_X6_write gM_X6_159 (by rw [ha]; exact nRecv) rfl (by decide) (by decide) rfl rfl (Nat.le_of_ble_eq_true rfl) dX6_set_100 ?_
      refine J_lload 2 dX6_set_103 rfl ?_
      refine J_aload_n 0 dX6_set_105 rfl rfl ?_
      refine J_ngetA (k := 3) (o := 2) dX6_set_106 gF_X6_16 hS13_a0 rfl ?_
      refine J_iload_n 1 dX6_set_109 rfl rfl ?_
      obtain ⟨g15, h16⟩ := gd_some h14; clear h14
      refine J_niald (k := 3) (o := 2) dX6_set_110 hS13_a0 rfl rfl (by decide) g15 ?_
      refine J_i2l dX6_set_111 ?_
      obtain ⟨g17, h18⟩ := gd_some h16; clear h16
      refine J_ldiv dX6_set_112 (nzL_of g17) ?_
      obtain ⟨j19_, ej19_, h20⟩ := jLet_some h18; clear h18
      refine J_topL ej19_ ?_
      refine J_lstore dX6_set_113 (by decide) [1, 2, 0, 3] (lv' := [(0, .ref a0), (1, .int i1), (6, .long j19_), (8, .int i8)]) rfl ?_
      refine J_iinc 3 (1 : Int32) dX6_set_115 rfl (by decide) (by decide) [1, 2, 3, 0] (lv' := [(0, .ref a0), (1, .int i1), (6, .long j19_), (8, .int (i8 + (1 : Int32)))]) rfl ?_
      refine J_goto 70 dX6_set_118 (by decide) ?_
      exact lh S13 a0 i1 j19_ (i8 + (1 : Int32)) hS13_a0 h20
def m_X6_set (S : MS) (i1 : Int32) (j2 : Int64) : Option (Int32 × MS) :=
  bnd (m_X6_isFrame S i1) fun i1_ =>
  if i1_ = 0 then
    (some ((-1 : Int32), S))
  else
    (if (0 : Int64) ≤ j2 then
      (gd (inB i1 30) <|
      bnd (m_X6_digits j2 (nA S 3 (Int32.toNatClampNeg i1))) fun i9_ =>
      gd (inB i1 30) <|
      if i9_ ≤ (nA S 2 (Int32.toNatClampNeg i1)) then
        (bnd2 (m_X6_shown S i1) fun j15_ S16 =>
        if (nF S16 16) ≤ 0 then
          (m_X6_set_L70 bigN S16 i1 j2 (0 : Int32))
        else
          (bnd2 (m_X6_meets S16 (nF S16 16)) fun i20_ S21 =>
          some (i20_, S21)))
      else
        (some ((-3 : Int32), S)))
    else
      (some ((-2 : Int32), S)))
set_option maxRecDepth 100000 in
set_option maxHeartbeats 4000000 in
theorem t_X6_set {S : MS} {a0 : Nat} {i1 : Int32} {j2 : Int64} {w : (Int32 × MS)} (ha : a0 = S.1) (h : m_X6_set S i1 j2 = some w) : CT NX yX6_set cX6_set 9 (some .int) 3 75 [.ref a0, .int i1, .long j2] S (some (.int w.1)) w.2 := by
  refine CT.of (lv := [(0, .ref a0), (1, .int i1), (2, .long j2)]) (by decide) rfl (Nat.le_of_ble_eq_true rfl) ?_
  refine J_aload_n 0 dX6_set_0 rfl rfl ?_
  refine J_iload_n 1 dX6_set_1 rfl rfl ?_
  obtain ⟨i1_, ei1_, h2⟩ := bnd_some h; clear h
  refine J_callV (As := [.int i1]) (rest := []) (st' := [.int i1_]) (t_X6_isFrame ha ei1_) gC_X6_isFrame gM_X6_129 (by rw [ha]; exact nRecv) rfl (by decide) (by decide) rfl rfl (Nat.le_of_ble_eq_true rfl) dX6_set_2 ?_
  refine J_if_ne 10 dX6_set_5 (by decide) h2 (fun c3 h4 => ?_) (fun c3 h4 => ?_)
  · clear h2
    refine J_iconst (-1 : Int32) dX6_set_8 (by decide) ?_
    have hw := Option.some.inj h4; subst hw
    exact J_iret rfl dX6_set_9
  · clear h2
    refine J_lload_n 2 dX6_set_10 rfl rfl ?_
    refine J_lconst (0 : Int64) dX6_set_11 (by decide) ?_
    refine J_lcmp_ge 19 dX6_set_12 dX6_set_13 (by decide) h4 (fun c5 h6 => ?_) (fun c5 h6 => ?_)
    · clear h4
      refine J_lload_n 2 dX6_set_19 rfl rfl ?_
      refine J_aload_n 0 dX6_set_20 rfl rfl ?_
      refine J_ngetA (k := 3) (o := 2) dX6_set_21 gF_X6_16 ha rfl ?_
      refine J_iload_n 1 dX6_set_24 rfl rfl ?_
      obtain ⟨g7, h8⟩ := gd_some h6; clear h6
      refine J_niald (k := 3) (o := 2) dX6_set_25 ha rfl rfl (by decide) g7 ?_
      obtain ⟨i9_, ei9_, h10⟩ := bnd_some h8; clear h8
      refine J_callS (As := [.long j2, .int (nA S 3 (Int32.toNatClampNeg i1))]) (rest := []) (st' := [.int i9_]) (t_X6_digits ei9_) gC_X6_digits gM_X6_155 rfl (by decide) (by decide) rfl rfl (Nat.le_of_ble_eq_true rfl) dX6_set_26 ?_
      refine J_aload_n 0 dX6_set_29 rfl rfl ?_
      refine J_ngetA (k := 2) (o := 1) dX6_set_30 gF_X6_13 ha rfl ?_
      refine J_iload_n 1 dX6_set_33 rfl rfl ?_
      obtain ⟨g11, h12⟩ := gd_some h10; clear h10
      refine J_niald (k := 2) (o := 1) dX6_set_34 ha rfl rfl (by decide) g11 ?_
      refine J_icmp_le 41 dX6_set_35 (by decide) h12 (fun c13 h14 => ?_) (fun c13 h14 => ?_)
      · clear h12
        refine J_aload_n 0 dX6_set_41 rfl rfl ?_
        refine J_iload_n 1 dX6_set_42 rfl rfl ?_
        obtain ⟨j15_, S16, ej15_, h17⟩ := bnd2_some h14; clear h14
        have cS16 := (t_X6_shown ha ej15_)
        have lS16 : jle NX S S16 := cS16.1
        have hS16_a0 : a0 = S16.1 := ha.trans (nle_eq lS16).symm
        refine J_callV (As := [.int i1]) (rest := []) (st' := [.long j15_]) cS16 gC_X6_shown gM_X6_148 (by rw [ha]; exact nRecv) rfl (by decide) (by decide) rfl rfl (Nat.le_of_ble_eq_true rfl) dX6_set_43 ?_
        refine J_lstore dX6_set_46 (by decide) [1, 2, 3] (lv' := [(0, .ref a0), (1, .int i1), (2, .long j2)]) rfl ?_
        refine J_aload_n 0 dX6_set_48 rfl rfl ?_
        refine J_nget (k := 16) dX6_set_49 gF_X6_124 hS16_a0 rfl ?_
        refine J_if_le 64 dX6_set_52 (by decide) h17 (fun c18 h19 => ?_) (fun c18 h19 => ?_)
        · clear h17
          refine J_lload_n 2 dX6_set_64 rfl rfl ?_
          refine J_lstore dX6_set_65 (by decide) [1, 2, 0] (lv' := [(0, .ref a0), (1, .int i1), (6, .long j2)]) rfl ?_
          refine J_iconst (0 : Int32) dX6_set_67 (by decide) ?_
          refine J_istore dX6_set_68 (by decide) [1, 2, 3, 0] (lv' := [(0, .ref a0), (1, .int i1), (6, .long j2), (8, .int (0 : Int32))]) rfl ?_
          exact t_X6_set_L70 bigN S16 a0 i1 j2 (0 : Int32) hS16_a0 h19
        · clear h17
          refine J_aload_n 0 dX6_set_55 rfl rfl ?_
          refine J_aload_n 0 dX6_set_56 rfl rfl ?_
          refine J_nget (k := 16) dX6_set_57 gF_X6_124 hS16_a0 rfl ?_
          obtain ⟨i20_, S21, ei20_, h22⟩ := bnd2_some h19; clear h19
          have cS21 := (t_X6_meets hS16_a0 ei20_)
          have lS21 : jle NX S16 S21 := cS21.1
          have hS21_a0 : a0 = S21.1 := hS16_a0.trans (nle_eq lS21).symm
          refine J_callV (As := [.int (nF S16 16)]) (rest := []) (st' := [.int i20_]) cS21 gC_X6_meets gM_X6_102 (by rw [hS16_a0]; exact nRecv) rfl (by decide) (by decide) rfl rfl (Nat.le_of_ble_eq_true rfl) dX6_set_60 ?_
          have hw := Option.some.inj h22; subst hw
          exact J_iret rfl dX6_set_63
      · clear h12
        refine J_bipush (-3 : Int32) dX6_set_38 (by decide) ?_
        have hw := Option.some.inj h14; subst hw
        exact J_iret rfl dX6_set_40
    · clear h4
      refine J_bipush (-2 : Int32) dX6_set_16 (by decide) ?_
      have hw := Option.some.inj h6; subst hw
      exact J_iret rfl dX6_set_18
def m_X6_proper (S : MS) (i1 : Int32) : Option Int32 :=
  bnd (m_X6_isFrame S i1) fun i1_ =>
  if i1_ = 0 then
    (some (-1 : Int32))
  else
    (bnd (m_X6_isProper S i1) fun i5_ =>
    if i5_ = 0 then
      (some (0 : Int32))
    else
      (some (1 : Int32)))
set_option maxRecDepth 100000 in
set_option maxHeartbeats 4000000 in
theorem t_X6_proper {S : MS} {a0 : Nat} {i1 : Int32} {w : Int32} (ha : a0 = S.1) (h : m_X6_proper S i1 = some w) : CT NX yX6_proper cX6_proper 2 (some .int) 3 74 [.ref a0, .int i1] S (some (.int w)) S := by
  refine CT.of (lv := [(0, .ref a0), (1, .int i1)]) (by decide) rfl (Nat.le_of_ble_eq_true rfl) ?_
  refine J_aload_n 0 dX6_proper_0 rfl rfl ?_
  refine J_iload_n 1 dX6_proper_1 rfl rfl ?_
  obtain ⟨i1_, ei1_, h2⟩ := bnd_some h; clear h
  refine J_callV (As := [.int i1]) (rest := []) (st' := [.int i1_]) (t_X6_isFrame ha ei1_) gC_X6_isFrame gM_X6_129 (by rw [ha]; exact nRecv) rfl (by decide) (by decide) rfl rfl (Nat.le_of_ble_eq_true rfl) dX6_proper_2 ?_
  refine J_if_ne 12 dX6_proper_5 (by decide) h2 (fun c3 h4 => ?_) (fun c3 h4 => ?_)
  · clear h2
    refine J_iconst (-1 : Int32) dX6_proper_8 (by decide) ?_
    refine J_goto 25 dX6_proper_9 (by decide) ?_
    have hw := Option.some.inj h4; subst hw
    exact J_iret rfl dX6_proper_25
  · clear h2
    refine J_aload_n 0 dX6_proper_12 rfl rfl ?_
    refine J_iload_n 1 dX6_proper_13 rfl rfl ?_
    obtain ⟨i5_, ei5_, h6⟩ := bnd_some h4; clear h4
    refine J_callV (As := [.int i1]) (rest := []) (st' := [.int i5_]) (t_X6_isProper ha ei5_) gC_X6_isProper gM_X6_163 (by rw [ha]; exact nRecv) rfl (by decide) (by decide) rfl rfl (Nat.le_of_ble_eq_true rfl) dX6_proper_14 ?_
    refine J_if_eq 24 dX6_proper_17 (by decide) h6 (fun c7 h8 => ?_) (fun c7 h8 => ?_)
    · clear h6
      refine J_iconst (0 : Int32) dX6_proper_24 (by decide) ?_
      have hw := Option.some.inj h8; subst hw
      exact J_iret rfl dX6_proper_25
    · clear h6
      refine J_iconst (1 : Int32) dX6_proper_20 (by decide) ?_
      refine J_goto 25 dX6_proper_21 (by decide) ?_
      have hw := Option.some.inj h8; subst hw
      exact J_iret rfl dX6_proper_25
def m_X6_size_L15 (S : MS) : Nat → Int32 → Int32 → Int32 → Int32 → Option Int32
  | 0, _, _, _, _ => none
  | n + 1, i1, i2, i3, i4 =>
    gd (inB i1 30) <|
    if (nA S 2 (Int32.toNatClampNeg i1)) ≤ i4 then
      (if i2 = (0 : Int32) then
        (gd (inB i1 30) <|
        some (nA S 2 (Int32.toNatClampNeg i1)))
      else if i2 = (1 : Int32) then
        (gd (inB i1 30) <|
        some (nA S 1 (Int32.toNatClampNeg i1)))
      else if i2 = (2 : Int32) then
        (gd (inB i1 30) <|
        some (nA S 3 (Int32.toNatClampNeg i1)))
      else if i2 = (3 : Int32) then
        (some i3)
      else if i2 = (4 : Int32) then
        (gd (inB i1 30) <|
        some (nA S 4 (Int32.toNatClampNeg i1)))
      else (some (-2 : Int32)))
    else
      (bnd (m_X6_against S i1 i4) fun i18_ =>
      if i18_ = 0 then
        (jLet ((i3 + (1 : Int32))) fun i22_ =>
        m_X6_size_L15 S n i1 i2 i22_ (i4 + (1 : Int32)))
      else
        (jLet ((i3 + (0 : Int32))) fun i24_ =>
        m_X6_size_L15 S n i1 i2 i24_ (i4 + (1 : Int32))))
set_option maxRecDepth 100000 in
set_option maxHeartbeats 4000000 in
theorem t_X6_size_L15 {S : MS} {w : Int32} (n : Nat) : ∀ (a0 : Nat) (i1 : Int32) (i2 : Int32) (i3 : Int32) (i4 : Int32), (a0 = S.1) → m_X6_size_L15 S n i1 i2 i3 i4 = some w → J NX yX6_size cX6_size 5 (some .int) 2 49 15 [(0, .ref a0), (1, .int i1), (2, .int i2), (3, .int i3), (4, .int i4)] [] S (some (.int w)) S := by
  induction n with
  | zero => intro a0 i1 i2 i3 i4 ha h; cases h
  | succ n lh =>
    intro a0 i1 i2 i3 i4 ha h
    refine J_iload 4 dX6_size_15 rfl ?_
    refine J_aload_n 0 dX6_size_17 rfl rfl ?_
    refine J_ngetA (k := 2) (o := 1) dX6_size_18 gF_X6_13 ha rfl ?_
    refine J_iload_n 1 dX6_size_21 rfl rfl ?_
    obtain ⟨g1, h2⟩ := gd_some h; clear h
    refine J_niald (k := 2) (o := 1) dX6_size_22 ha rfl rfl (by decide) g1 ?_
    refine J_icmp_ge 50 dX6_size_23 (by decide) h2 (fun c3 h4 => ?_) (fun c3 h4 => ?_)
    · clear h2
      refine J_iload_n 2 dX6_size_50 rfl rfl ?_
      by_cases c5 : i2 = (0 : Int32)
      · replace h4 := ifp c5 h4
        refine J_tabIn (0 : Int32) 84 dX6_size_51 c5 (by decide) (by decide) rfl (by decide) ?_
        refine J_aload_n 0 dX6_size_84 rfl rfl ?_
        refine J_ngetA (k := 2) (o := 1) dX6_size_85 gF_X6_13 ha rfl ?_
        refine J_iload_n 1 dX6_size_88 rfl rfl ?_
        obtain ⟨g6, h7⟩ := gd_some h4; clear h4
        refine J_niald (k := 2) (o := 1) dX6_size_89 ha rfl rfl (by decide) g6 ?_
        have hw := Option.some.inj h7; subst hw
        exact J_iret rfl dX6_size_90
      replace h4 := ifn c5 h4
      by_cases c8 : i2 = (1 : Int32)
      · replace h4 := ifp c8 h4
        refine J_tabIn (1 : Int32) 91 dX6_size_51 c8 (by decide) (by decide) rfl (by decide) ?_
        refine J_aload_n 0 dX6_size_91 rfl rfl ?_
        refine J_ngetA (k := 1) (o := 0) dX6_size_92 gF_X6_7 ha rfl ?_
        refine J_iload_n 1 dX6_size_95 rfl rfl ?_
        obtain ⟨g9, h10⟩ := gd_some h4; clear h4
        refine J_niald (k := 1) (o := 0) dX6_size_96 ha rfl rfl (by decide) g9 ?_
        have hw := Option.some.inj h10; subst hw
        exact J_iret rfl dX6_size_97
      replace h4 := ifn c8 h4
      by_cases c11 : i2 = (2 : Int32)
      · replace h4 := ifp c11 h4
        refine J_tabIn (2 : Int32) 98 dX6_size_51 c11 (by decide) (by decide) rfl (by decide) ?_
        refine J_aload_n 0 dX6_size_98 rfl rfl ?_
        refine J_ngetA (k := 3) (o := 2) dX6_size_99 gF_X6_16 ha rfl ?_
        refine J_iload_n 1 dX6_size_102 rfl rfl ?_
        obtain ⟨g12, h13⟩ := gd_some h4; clear h4
        refine J_niald (k := 3) (o := 2) dX6_size_103 ha rfl rfl (by decide) g12 ?_
        have hw := Option.some.inj h13; subst hw
        exact J_iret rfl dX6_size_104
      replace h4 := ifn c11 h4
      by_cases c14 : i2 = (3 : Int32)
      · replace h4 := ifp c14 h4
        refine J_tabIn (3 : Int32) 105 dX6_size_51 c14 (by decide) (by decide) rfl (by decide) ?_
        refine J_iload_n 3 dX6_size_105 rfl rfl ?_
        have hw := Option.some.inj h4; subst hw
        exact J_iret rfl dX6_size_106
      replace h4 := ifn c14 h4
      by_cases c15 : i2 = (4 : Int32)
      · replace h4 := ifp c15 h4
        refine J_tabIn (4 : Int32) 107 dX6_size_51 c15 (by decide) (by decide) rfl (by decide) ?_
        refine J_aload_n 0 dX6_size_107 rfl rfl ?_
        refine J_ngetA (k := 4) (o := 3) dX6_size_108 gF_X6_19 ha rfl ?_
        refine J_iload_n 1 dX6_size_111 rfl rfl ?_
        obtain ⟨g16, h17⟩ := gd_some h4; clear h4
        refine J_niald (k := 4) (o := 3) dX6_size_112 ha rfl rfl (by decide) g16 ?_
        have hw := Option.some.inj h17; subst hw
        exact J_iret rfl dX6_size_113
      replace h4 := ifn c15 h4
      have hout := tabOut (x := i2) (n := 4) (by decide) (fun k hk => by
        match k, hk with
        | 0, _ => exact c5
        | 1, _ => exact c8
        | 2, _ => exact c11
        | 3, _ => exact c14
        | 4, _ => exact c15
        | k + 5, hk => exact absurd hk (by omega))
      refine J_tabOut 114 dX6_size_51 hout (by decide) ?_
      refine J_bipush (-2 : Int32) dX6_size_114 (by decide) ?_
      have hw := Option.some.inj h4; subst hw
      exact J_iret rfl dX6_size_116
    · clear h2
      refine J_iload_n 3 dX6_size_26 rfl rfl ?_
      refine J_aload_n 0 dX6_size_27 rfl rfl ?_
      refine J_iload_n 1 dX6_size_28 rfl rfl ?_
      refine J_iload 4 dX6_size_29 rfl ?_
      obtain ⟨i18_, ei18_, h19⟩ := bnd_some h4; clear h4
      refine J_callV (As := [.int i1, .int i4]) (rest := [.int i3]) (st' := [.int i18_, .int i3]) (t_X6_against ha ei18_) gC_X6_against gM_X6_118 (by rw [ha]; exact nRecv) rfl (by decide) (by decide) rfl rfl (Nat.le_of_ble_eq_true rfl) dX6_size_31 ?_
      refine J_if_ne 41 dX6_size_34 (by decide) h19 (fun c20 h21 => ?_) (fun c20 h21 => ?_)
      · clear h19
        refine J_iconst (1 : Int32) dX6_size_37 (by decide) ?_
        refine J_goto 42 dX6_size_38 (by decide) ?_
        refine J_iadd dX6_size_42 ?_
        obtain ⟨i22_, ei22_, h23⟩ := jLet_some h21; clear h21
        refine J_topI ei22_ ?_
        refine J_istore_n dX6_size_43 rfl (by decide) [1, 2, 3, 0, 4] (lv' := [(0, .ref a0), (1, .int i1), (2, .int i2), (3, .int i22_), (4, .int i4)]) rfl ?_
        refine J_iinc 4 (1 : Int32) dX6_size_44 rfl (by decide) (by decide) [1, 2, 3, 4, 0] (lv' := [(0, .ref a0), (1, .int i1), (2, .int i2), (3, .int i22_), (4, .int (i4 + (1 : Int32)))]) rfl ?_
        refine J_goto 15 dX6_size_47 (by decide) ?_
        exact lh a0 i1 i2 i22_ (i4 + (1 : Int32)) ha h23
      · clear h19
        refine J_iconst (0 : Int32) dX6_size_41 (by decide) ?_
        refine J_iadd dX6_size_42 ?_
        obtain ⟨i24_, ei24_, h25⟩ := jLet_some h21; clear h21
        refine J_topI ei24_ ?_
        refine J_istore_n dX6_size_43 rfl (by decide) [1, 2, 3, 0, 4] (lv' := [(0, .ref a0), (1, .int i1), (2, .int i2), (3, .int i24_), (4, .int i4)]) rfl ?_
        refine J_iinc 4 (1 : Int32) dX6_size_44 rfl (by decide) (by decide) [1, 2, 3, 4, 0] (lv' := [(0, .ref a0), (1, .int i1), (2, .int i2), (3, .int i24_), (4, .int (i4 + (1 : Int32)))]) rfl ?_
        refine J_goto 15 dX6_size_47 (by decide) ?_
        exact lh a0 i1 i2 i24_ (i4 + (1 : Int32)) ha h25
def m_X6_size (S : MS) (i1 : Int32) (i2 : Int32) : Option Int32 :=
  bnd (m_X6_isFrame S i1) fun i1_ =>
  if i1_ = 0 then
    (some (-1 : Int32))
  else
    (m_X6_size_L15 S bigN i1 i2 (0 : Int32) (0 : Int32))
set_option maxRecDepth 100000 in
set_option maxHeartbeats 4000000 in
theorem t_X6_size {S : MS} {a0 : Nat} {i1 : Int32} {i2 : Int32} {w : Int32} (ha : a0 = S.1) (h : m_X6_size S i1 i2 = some w) : CT NX yX6_size cX6_size 5 (some .int) 2 49 [.ref a0, .int i1, .int i2] S (some (.int w)) S := by
  refine CT.of (lv := [(0, .ref a0), (1, .int i1), (2, .int i2)]) (by decide) rfl (Nat.le_of_ble_eq_true rfl) ?_
  refine J_aload_n 0 dX6_size_0 rfl rfl ?_
  refine J_iload_n 1 dX6_size_1 rfl rfl ?_
  obtain ⟨i1_, ei1_, h2⟩ := bnd_some h; clear h
  refine J_callV (As := [.int i1]) (rest := []) (st' := [.int i1_]) (t_X6_isFrame ha ei1_) gC_X6_isFrame gM_X6_129 (by rw [ha]; exact nRecv) rfl (by decide) (by decide) rfl rfl (Nat.le_of_ble_eq_true rfl) dX6_size_2 ?_
  refine J_if_ne 10 dX6_size_5 (by decide) h2 (fun c3 h4 => ?_) (fun c3 h4 => ?_)
  · clear h2
    refine J_iconst (-1 : Int32) dX6_size_8 (by decide) ?_
    have hw := Option.some.inj h4; subst hw
    exact J_iret rfl dX6_size_9
  · clear h2
    refine J_iconst (0 : Int32) dX6_size_10 (by decide) ?_
    refine J_istore_n dX6_size_11 rfl (by decide) [1, 2, 3, 0] (lv' := [(0, .ref a0), (1, .int i1), (2, .int i2), (3, .int (0 : Int32))]) rfl ?_
    refine J_iconst (0 : Int32) dX6_size_12 (by decide) ?_
    refine J_istore dX6_size_13 (by decide) [1, 2, 3, 4, 0] (lv' := [(0, .ref a0), (1, .int i1), (2, .int i2), (3, .int (0 : Int32)), (4, .int (0 : Int32))]) rfl ?_
    exact t_X6_size_L15 bigN a0 i1 i2 (0 : Int32) (0 : Int32) ha h4
def m_X6_meant_J65 (S : MS) (is0 : Int32) : Option (Int32 × MS) :=
  if is0 = 0 then
    (bnd2 (m_X6_meets S (3 : Int32)) fun i3_ S4 =>
    some (i3_, S4))
  else
    (some ((1 : Int32), S))
set_option maxRecDepth 100000 in
set_option maxHeartbeats 4000000 in
theorem t_X6_meant_J65 {S : MS} {a0 : Nat} {is0 : Int32} {w : (Int32 × MS)} (ha : a0 = S.1) (h : m_X6_meant_J65 S is0 = some w) : J NX yX6_meant cX6_meant 5 (some .int) 2 46 65 [(0, .ref a0)] [.int is0] S (some (.int w.1)) w.2 := by
  refine J_istore dX6_meant_65 (by decide) [1, 0] (lv' := [(0, .ref a0), (4, .int is0)]) rfl ?_
  refine J_iload 1 dX6_meant_67 rfl ?_
  refine J_if_eq 76 dX6_meant_69 (by decide) h (fun c1 h2 => ?_) (fun c1 h2 => ?_)
  · clear h
    refine J_aload_n 0 dX6_meant_76 rfl rfl ?_
    refine J_iconst (3 : Int32) dX6_meant_77 (by decide) ?_
    obtain ⟨i3_, S4, ei3_, h5⟩ := bnd2_some h2; clear h2
    have cS4 := (t_X6_meets ha ei3_)
    have lS4 : jle NX S S4 := cS4.1
    have hS4_a0 : a0 = S4.1 := ha.trans (nle_eq lS4).symm
    refine J_callV (As := [.int (3 : Int32)]) (rest := []) (st' := [.int i3_]) cS4 gC_X6_meets gM_X6_102 (by rw [ha]; exact nRecv) rfl (by decide) (by decide) rfl rfl (Nat.le_of_ble_eq_true rfl) dX6_meant_78 ?_
    have hw := Option.some.inj h5; subst hw
    exact J_iret rfl dX6_meant_81
  · clear h
    refine J_iconst (1 : Int32) dX6_meant_72 (by decide) ?_
    refine J_goto 81 dX6_meant_73 (by decide) ?_
    have hw := Option.some.inj h2; subst hw
    exact J_iret rfl dX6_meant_81
def m_X6_meant_J46 (S : MS) (i2 : Int32) (i3 : Int32) : Option (Int32 × MS) :=
  if i3 = (3 : Int32) then
    (if i2 = (1 : Int32) then
      (m_X6_meant_J65 S (1 : Int32))
    else
      (if i2 = 0 then
        (m_X6_meant_J65 S (1 : Int32))
      else
        (m_X6_meant_J65 S (0 : Int32))))
  else
    (m_X6_meant_J65 S (0 : Int32))
set_option maxRecDepth 100000 in
set_option maxHeartbeats 4000000 in
theorem t_X6_meant_J46 {S : MS} {a0 : Nat} {i2 : Int32} {i3 : Int32} {w : (Int32 × MS)} (ha : a0 = S.1) (h : m_X6_meant_J46 S i2 i3 = some w) : J NX yX6_meant cX6_meant 5 (some .int) 2 46 46 [(0, .ref a0), (2, .int i2), (3, .int i3)] [] S (some (.int w.1)) w.2 := by
  refine J_iload_n 2 dX6_meant_46 rfl rfl ?_
  refine J_iconst (3 : Int32) dX6_meant_47 (by decide) ?_
  refine J_icmp_ne 64 dX6_meant_48 (by decide) h (fun c1 h2 => ?_) (fun c1 h2 => ?_)
  · clear h
    refine J_iload_n 1 dX6_meant_51 rfl rfl ?_
    refine J_iconst (1 : Int32) dX6_meant_52 (by decide) ?_
    refine J_icmp_eq 60 dX6_meant_53 (by decide) h2 (fun c3 h4 => ?_) (fun c3 h4 => ?_)
    · clear h2
      refine J_iconst (1 : Int32) dX6_meant_60 (by decide) ?_
      refine J_goto 65 dX6_meant_61 (by decide) ?_
      refine J_lv [0] rfl ?_
      exact t_X6_meant_J65 ha h4
    · clear h2
      refine J_iload_n 1 dX6_meant_56 rfl rfl ?_
      refine J_if_ne 64 dX6_meant_57 (by decide) h4 (fun c5 h6 => ?_) (fun c5 h6 => ?_)
      · clear h4
        refine J_iconst (1 : Int32) dX6_meant_60 (by decide) ?_
        refine J_goto 65 dX6_meant_61 (by decide) ?_
        refine J_lv [0] rfl ?_
        exact t_X6_meant_J65 ha h6
      · clear h4
        refine J_iconst (0 : Int32) dX6_meant_64 (by decide) ?_
        refine J_lv [0] rfl ?_
        exact t_X6_meant_J65 ha h6
  · clear h
    refine J_iconst (0 : Int32) dX6_meant_64 (by decide) ?_
    refine J_lv [0] rfl ?_
    exact t_X6_meant_J65 ha h2
def m_X6_meant (S : MS) (i1 : Int32) (i2 : Int32) : Option (Int32 × MS) :=
  bnd (m_X6_isFrame S i1) fun i1_ =>
  if i1_ = 0 then
    (some ((-1 : Int32), S))
  else
    (bnd (m_X6_in (Int32.toInt64 i2) (0 : Int64) (4 : Int64)) fun i5_ =>
    if i5_ = 0 then
      (some ((-2 : Int32), S))
    else
      (gd (inB i1 30) <|
      jLet ((nA S 1 (Int32.toNatClampNeg i1))) fun i11_ =>
      if i11_ = i2 then
        (m_X6_meant_J65 S (1 : Int32))
      else
        (if i11_ = (1 : Int32) then
          (if i2 = 0 then
            (m_X6_meant_J65 S (1 : Int32))
          else
            (m_X6_meant_J46 S i2 i11_))
        else
          (m_X6_meant_J46 S i2 i11_))))
set_option maxRecDepth 100000 in
set_option maxHeartbeats 4000000 in
theorem t_X6_meant {S : MS} {a0 : Nat} {i1 : Int32} {i2 : Int32} {w : (Int32 × MS)} (ha : a0 = S.1) (h : m_X6_meant S i1 i2 = some w) : CT NX yX6_meant cX6_meant 5 (some .int) 2 46 [.ref a0, .int i1, .int i2] S (some (.int w.1)) w.2 := by
  refine CT.of (lv := [(0, .ref a0), (1, .int i1), (2, .int i2)]) (by decide) rfl (Nat.le_of_ble_eq_true rfl) ?_
  refine J_aload_n 0 dX6_meant_0 rfl rfl ?_
  refine J_iload_n 1 dX6_meant_1 rfl rfl ?_
  obtain ⟨i1_, ei1_, h2⟩ := bnd_some h; clear h
  refine J_callV (As := [.int i1]) (rest := []) (st' := [.int i1_]) (t_X6_isFrame ha ei1_) gC_X6_isFrame gM_X6_129 (by rw [ha]; exact nRecv) rfl (by decide) (by decide) rfl rfl (Nat.le_of_ble_eq_true rfl) dX6_meant_2 ?_
  refine J_if_ne 10 dX6_meant_5 (by decide) h2 (fun c3 h4 => ?_) (fun c3 h4 => ?_)
  · clear h2
    refine J_iconst (-1 : Int32) dX6_meant_8 (by decide) ?_
    have hw := Option.some.inj h4; subst hw
    exact J_iret rfl dX6_meant_9
  · clear h2
    refine J_iload_n 2 dX6_meant_10 rfl rfl ?_
    refine J_i2l dX6_meant_11 ?_
    refine J_lconst (0 : Int64) dX6_meant_12 (by decide) ?_
    refine J_ldc2 (4 : Int64) dX6_meant_13 gK_X6_166 ?_
    obtain ⟨i5_, ei5_, h6⟩ := bnd_some h4; clear h4
    refine J_callS (As := [.long (Int32.toInt64 i2), .long (0 : Int64), .long (4 : Int64)]) (rest := []) (st' := [.int i5_]) (t_X6_in ei5_) gC_X6_in gM_X6_92 rfl (by decide) (by decide) rfl rfl (Nat.le_of_ble_eq_true rfl) dX6_meant_16 ?_
    refine J_if_ne 25 dX6_meant_19 (by decide) h6 (fun c7 h8 => ?_) (fun c7 h8 => ?_)
    · clear h6
      refine J_bipush (-2 : Int32) dX6_meant_22 (by decide) ?_
      have hw := Option.some.inj h8; subst hw
      exact J_iret rfl dX6_meant_24
    · clear h6
      refine J_aload_n 0 dX6_meant_25 rfl rfl ?_
      refine J_ngetA (k := 1) (o := 0) dX6_meant_26 gF_X6_7 ha rfl ?_
      refine J_iload_n 1 dX6_meant_29 rfl rfl ?_
      obtain ⟨g9, h10⟩ := gd_some h8; clear h8
      refine J_niald (k := 1) (o := 0) dX6_meant_30 ha rfl rfl (by decide) g9 ?_
      obtain ⟨i11_, ei11_, h12⟩ := jLet_some h10; clear h10
      refine J_topI ei11_ ?_
      refine J_istore_n dX6_meant_31 rfl (by decide) [1, 3, 0] (lv' := [(0, .ref a0), (2, .int i2), (3, .int i11_)]) rfl ?_
      refine J_iload_n 2 dX6_meant_32 rfl rfl ?_
      refine J_iload_n 1 dX6_meant_33 rfl rfl ?_
      refine J_icmp_eq 60 dX6_meant_34 (by decide) h12 (fun c13 h14 => ?_) (fun c13 h14 => ?_)
      · clear h12
        refine J_iconst (1 : Int32) dX6_meant_60 (by decide) ?_
        refine J_goto 65 dX6_meant_61 (by decide) ?_
        refine J_lv [0] rfl ?_
        exact t_X6_meant_J65 ha h14
      · clear h12
        refine J_iload_n 2 dX6_meant_37 rfl rfl ?_
        refine J_iconst (1 : Int32) dX6_meant_38 (by decide) ?_
        refine J_icmp_ne 46 dX6_meant_39 (by decide) h14 (fun c15 h16 => ?_) (fun c15 h16 => ?_)
        · clear h14
          refine J_iload_n 1 dX6_meant_42 rfl rfl ?_
          refine J_if_eq 60 dX6_meant_43 (by decide) h16 (fun c17 h18 => ?_) (fun c17 h18 => ?_)
          · clear h16
            refine J_iconst (1 : Int32) dX6_meant_60 (by decide) ?_
            refine J_goto 65 dX6_meant_61 (by decide) ?_
            refine J_lv [0] rfl ?_
            exact t_X6_meant_J65 ha h18
          · clear h16
            exact t_X6_meant_J46 ha h18
        · clear h14
          exact t_X6_meant_J46 ha h16
def m_X6_body (S : MS) (i1 : Int32) : Option MS :=
  jLet ((((31 : Int32) * (nF S 12)) + i1)) fun i1_ =>
  jLet (nSF S 12 i1_) fun S3 =>
  some S3
set_option maxRecDepth 100000 in
set_option maxHeartbeats 4000000 in
theorem t_X6_body {S : MS} {a0 : Nat} {i1 : Int32} {w : MS} (ha : a0 = S.1) (h : m_X6_body S i1 = some w) : CT NX yX6_body cX6_body 2 none 0 0 [.ref a0, .int i1] S none w := by
  refine CT.of (lv := [(0, .ref a0), (1, .int i1)]) (by decide) rfl (Nat.le_of_ble_eq_true rfl) ?_
  refine J_aload_n 0 dX6_body_0 rfl rfl ?_
  refine J_bipush (31 : Int32) dX6_body_1 (by decide) ?_
  refine J_aload_n 0 dX6_body_3 rfl rfl ?_
  refine J_nget (k := 12) dX6_body_4 gF_X6_168 ha rfl ?_
  refine J_imul dX6_body_7 ?_
  refine J_iload_n 1 dX6_body_8 rfl rfl ?_
  refine J_iadd dX6_body_9 ?_
  obtain ⟨i1_, ei1_, h2⟩ := jLet_some h; clear h
  refine J_topI ei1_ ?_
  refine J_nput (k := 12) dX6_body_10 gW_X6_168 ha rfl rfl ?_
  obtain ⟨S3, eS3, h4⟩ := jLet_some h2; clear h2
  refine J_topS eS3 ?_
  have hS3_a0 : a0 = S3.1 := by rw [eS3]; exact ha
  have hw := Option.some.inj h4; subst hw
  exact J_vret rfl dX6_body_13
def m_X6_askedBase_J43 (S : MS) (i2 : Int32) (is1 : Int32) : Option (Int32 × MS) :=
  bnd (m_X6_body S is1) fun S1 =>
  gd (inB i2 30) <|
  if (nA S1 1 (Int32.toNatClampNeg i2)) = (3 : Int32) then
    (some ((16 : Int32), S1))
  else
    (some ((10 : Int32), S1))
set_option maxRecDepth 100000 in
set_option maxHeartbeats 4000000 in
theorem t_X6_askedBase_J43 {S : MS} {a0 : Nat} {i2 : Int32} {is1 : Int32} {w : (Int32 × MS)} (ha : a0 = S.1) (h : m_X6_askedBase_J43 S i2 is1 = some w) : J NX yX6_askedBase cX6_askedBase 3 (some .int) 1 21 43 [(0, .ref a0), (2, .int i2)] [.int is1, .ref a0] S (some (.int w.1)) w.2 := by
  obtain ⟨S1, eS1, h2⟩ := bnd_some h; clear h
  have cS1 := (t_X6_body ha eS1)
  have lS1 : jle NX S S1 := cS1.1
  have hS1_a0 : a0 = S1.1 := ha.trans (nle_eq lS1).symm
  refine J_callV (As := [.int is1]) (rest := []) (st' := []) cS1 gC_X6_body gM_X6_171 (by rw [ha]; exact nRecv) rfl (by decide) (by decide) rfl rfl (Nat.le_of_ble_eq_true rfl) dX6_askedBase_43 ?_
  refine J_aload_n 0 dX6_askedBase_46 rfl rfl ?_
  refine J_ngetA (k := 1) (o := 0) dX6_askedBase_47 gF_X6_7 hS1_a0 rfl ?_
  refine J_iload_n 1 dX6_askedBase_50 rfl rfl ?_
  obtain ⟨g3, h4⟩ := gd_some h2; clear h2
  refine J_niald (k := 1) (o := 0) dX6_askedBase_51 hS1_a0 rfl rfl (by decide) g3 ?_
  refine J_iconst (3 : Int32) dX6_askedBase_52 (by decide) ?_
  refine J_icmp_ne 61 dX6_askedBase_53 (by decide) h4 (fun c5 h6 => ?_) (fun c5 h6 => ?_)
  · clear h4
    refine J_bipush (16 : Int32) dX6_askedBase_56 (by decide) ?_
    refine J_goto 63 dX6_askedBase_58 (by decide) ?_
    have hw := Option.some.inj h6; subst hw
    exact J_iret rfl dX6_askedBase_63
  · clear h4
    refine J_bipush (10 : Int32) dX6_askedBase_61 (by decide) ?_
    have hw := Option.some.inj h6; subst hw
    exact J_iret rfl dX6_askedBase_63
def m_X6_askedBase_L2 : Nat → MS → Int32 → Option (Int32 × MS)
  | 0, _, _ => none
  | n + 1, S, i2 =>
    gd (inB i2 30) <|
    if (nA S 1 (Int32.toNatClampNeg i2)) = (4 : Int32) then
      (bnd (m_X6_body S (3 : Int32)) fun S5 =>
      gd (inB i2 30) <|
      jLet ((nA S5 5 (Int32.toNatClampNeg i2))) fun i9_ =>
      m_X6_askedBase_L2 n S5 i9_)
    else
      (gd (inB i2 30) <|
      if (nA S 1 (Int32.toNatClampNeg i2)) = (3 : Int32) then
        (m_X6_askedBase_J43 S i2 (2 : Int32))
      else
        (m_X6_askedBase_J43 S i2 (1 : Int32)))
set_option maxRecDepth 100000 in
set_option maxHeartbeats 4000000 in
theorem t_X6_askedBase_L2 {w : (Int32 × MS)} (n : Nat) : ∀ (S : MS) (a0 : Nat) (i2 : Int32), (a0 = S.1) → m_X6_askedBase_L2 n S i2 = some w → J NX yX6_askedBase cX6_askedBase 3 (some .int) 1 21 2 [(0, .ref a0), (2, .int i2)] [] S (some (.int w.1)) w.2 := by
  induction n with
  | zero => intro S a0 i2 ha h; cases h
  | succ n lh =>
    intro S a0 i2 ha h
    refine J_aload_n 0 dX6_askedBase_2 rfl rfl ?_
    refine J_ngetA (k := 1) (o := 0) dX6_askedBase_3 gF_X6_7 ha rfl ?_
    refine J_iload_n 1 dX6_askedBase_6 rfl rfl ?_
    obtain ⟨g1, h2⟩ := gd_some h; clear h
    refine J_niald (k := 1) (o := 0) dX6_askedBase_7 ha rfl rfl (by decide) g1 ?_
    refine J_iconst (4 : Int32) dX6_askedBase_8 (by decide) ?_
    refine J_icmp_ne 27 dX6_askedBase_9 (by decide) h2 (fun c3 h4 => ?_) (fun c3 h4 => ?_)
    · clear h2
      refine J_aload_n 0 dX6_askedBase_12 rfl rfl ?_
      refine J_iconst (3 : Int32) dX6_askedBase_13 (by decide) ?_
      obtain ⟨S5, eS5, h6⟩ := bnd_some h4; clear h4
      have cS5 := (t_X6_body ha eS5)
      have lS5 : jle NX S S5 := cS5.1
      have hS5_a0 : a0 = S5.1 := ha.trans (nle_eq lS5).symm
      refine J_callV (As := [.int (3 : Int32)]) (rest := []) (st' := []) cS5 gC_X6_body gM_X6_171 (by rw [ha]; exact nRecv) rfl (by decide) (by decide) rfl rfl (Nat.le_of_ble_eq_true rfl) dX6_askedBase_14 ?_
      refine J_aload_n 0 dX6_askedBase_17 rfl rfl ?_
      refine J_ngetA (k := 5) (o := 4) dX6_askedBase_18 gF_X6_22 hS5_a0 rfl ?_
      refine J_iload_n 1 dX6_askedBase_21 rfl rfl ?_
      obtain ⟨g7, h8⟩ := gd_some h6; clear h6
      refine J_niald (k := 5) (o := 4) dX6_askedBase_22 hS5_a0 rfl rfl (by decide) g7 ?_
      obtain ⟨i9_, ei9_, h10⟩ := jLet_some h8; clear h8
      refine J_topI ei9_ ?_
      refine J_istore_n dX6_askedBase_23 rfl (by decide) [1, 0] (lv' := [(0, .ref a0), (2, .int i9_)]) rfl ?_
      refine J_goto 2 dX6_askedBase_24 (by decide) ?_
      exact lh S5 a0 i9_ hS5_a0 h10
    · clear h2
      refine J_aload_n 0 dX6_askedBase_27 rfl rfl ?_
      refine J_aload_n 0 dX6_askedBase_28 rfl rfl ?_
      refine J_ngetA (k := 1) (o := 0) dX6_askedBase_29 gF_X6_7 ha rfl ?_
      refine J_iload_n 1 dX6_askedBase_32 rfl rfl ?_
      obtain ⟨g11, h12⟩ := gd_some h4; clear h4
      refine J_niald (k := 1) (o := 0) dX6_askedBase_33 ha rfl rfl (by decide) g11 ?_
      refine J_iconst (3 : Int32) dX6_askedBase_34 (by decide) ?_
      refine J_icmp_ne 42 dX6_askedBase_35 (by decide) h12 (fun c13 h14 => ?_) (fun c13 h14 => ?_)
      · clear h12
        refine J_iconst (2 : Int32) dX6_askedBase_38 (by decide) ?_
        refine J_goto 43 dX6_askedBase_39 (by decide) ?_
        exact t_X6_askedBase_J43 ha h14
      · clear h12
        refine J_iconst (1 : Int32) dX6_askedBase_42 (by decide) ?_
        exact t_X6_askedBase_J43 ha h14
def m_X6_askedBase (S : MS) (i1 : Int32) : Option (Int32 × MS) :=
  m_X6_askedBase_L2 bigN S i1
set_option maxRecDepth 100000 in
set_option maxHeartbeats 4000000 in
theorem t_X6_askedBase {S : MS} {a0 : Nat} {i1 : Int32} {w : (Int32 × MS)} (ha : a0 = S.1) (h : m_X6_askedBase S i1 = some w) : CT NX yX6_askedBase cX6_askedBase 3 (some .int) 1 21 [.ref a0, .int i1] S (some (.int w.1)) w.2 := by
  refine CT.of (lv := [(0, .ref a0), (1, .int i1)]) (by decide) rfl (Nat.le_of_ble_eq_true rfl) ?_
  refine J_iload_n 1 dX6_askedBase_0 rfl rfl ?_
  refine J_istore_n dX6_askedBase_1 rfl (by decide) [1, 0] (lv' := [(0, .ref a0), (2, .int i1)]) rfl ?_
  exact t_X6_askedBase_L2 bigN S a0 i1 ha h
def m_X6_askedBeads_J43 (S : MS) (i2 : Int32) : Option (Int32 × MS) :=
  bnd (m_X6_body S (4 : Int32)) fun S1 =>
  if i2 = 0 then
    (some ((5 : Int32), S1))
  else
    (some ((7 : Int32), S1))
set_option maxRecDepth 100000 in
set_option maxHeartbeats 4000000 in
theorem t_X6_askedBeads_J43 {S : MS} {a0 : Nat} {i2 : Int32} {w : (Int32 × MS)} (ha : a0 = S.1) (h : m_X6_askedBeads_J43 S i2 = some w) : J NX yX6_askedBeads cX6_askedBeads 3 (some .int) 1 21 43 [(0, .ref a0), (2, .int i2)] [] S (some (.int w.1)) w.2 := by
  refine J_aload_n 0 dX6_askedBeads_43 rfl rfl ?_
  refine J_iconst (4 : Int32) dX6_askedBeads_44 (by decide) ?_
  obtain ⟨S1, eS1, h2⟩ := bnd_some h; clear h
  have cS1 := (t_X6_body ha eS1)
  have lS1 : jle NX S S1 := cS1.1
  have hS1_a0 : a0 = S1.1 := ha.trans (nle_eq lS1).symm
  refine J_callV (As := [.int (4 : Int32)]) (rest := []) (st' := []) cS1 gC_X6_body gM_X6_171 (by rw [ha]; exact nRecv) rfl (by decide) (by decide) rfl rfl (Nat.le_of_ble_eq_true rfl) dX6_askedBeads_45 ?_
  refine J_iload_n 1 dX6_askedBeads_48 rfl rfl ?_
  refine J_if_eq 57 dX6_askedBeads_49 (by decide) h2 (fun c3 h4 => ?_) (fun c3 h4 => ?_)
  · clear h2
    refine J_iconst (5 : Int32) dX6_askedBeads_57 (by decide) ?_
    have hw := Option.some.inj h4; subst hw
    exact J_iret rfl dX6_askedBeads_58
  · clear h2
    refine J_bipush (7 : Int32) dX6_askedBeads_52 (by decide) ?_
    refine J_goto 58 dX6_askedBeads_54 (by decide) ?_
    have hw := Option.some.inj h4; subst hw
    exact J_iret rfl dX6_askedBeads_58
def m_X6_askedBeads_J33 (S : MS) (is0 : Int32) : Option (Int32 × MS) :=
  if is0 = 0 then
    (m_X6_askedBeads_J43 S is0)
  else
    (bnd (m_X6_body S (5 : Int32)) fun S3 =>
    m_X6_askedBeads_J43 S3 is0)
set_option maxRecDepth 100000 in
set_option maxHeartbeats 4000000 in
theorem t_X6_askedBeads_J33 {S : MS} {a0 : Nat} {is0 : Int32} {w : (Int32 × MS)} (ha : a0 = S.1) (h : m_X6_askedBeads_J33 S is0 = some w) : J NX yX6_askedBeads cX6_askedBeads 3 (some .int) 1 21 33 [(0, .ref a0)] [.int is0] S (some (.int w.1)) w.2 := by
  refine J_istore_n dX6_askedBeads_33 rfl (by decide) [1, 0] (lv' := [(0, .ref a0), (2, .int is0)]) rfl ?_
  refine J_iload_n 1 dX6_askedBeads_34 rfl rfl ?_
  refine J_if_eq 43 dX6_askedBeads_35 (by decide) h (fun c1 h2 => ?_) (fun c1 h2 => ?_)
  · clear h
    exact t_X6_askedBeads_J43 ha h2
  · clear h
    refine J_aload_n 0 dX6_askedBeads_38 rfl rfl ?_
    refine J_iconst (5 : Int32) dX6_askedBeads_39 (by decide) ?_
    obtain ⟨S3, eS3, h4⟩ := bnd_some h2; clear h2
    have cS3 := (t_X6_body ha eS3)
    have lS3 : jle NX S S3 := cS3.1
    have hS3_a0 : a0 = S3.1 := ha.trans (nle_eq lS3).symm
    refine J_callV (As := [.int (5 : Int32)]) (rest := []) (st' := []) cS3 gC_X6_body gM_X6_171 (by rw [ha]; exact nRecv) rfl (by decide) (by decide) rfl rfl (Nat.le_of_ble_eq_true rfl) dX6_askedBeads_40 ?_
    exact t_X6_askedBeads_J43 hS3_a0 h4
def m_X6_askedBeads (S : MS) (i1 : Int32) : Option (Int32 × MS) :=
  gd (inB i1 30) <|
  if (nA S 1 (Int32.toNatClampNeg i1)) = (2 : Int32) then
    (bnd (m_X6_body S (6 : Int32)) fun S5 =>
    some ((10 : Int32), S5))
  else
    (gd (inB i1 30) <|
    if (nA S 1 (Int32.toNatClampNeg i1)) = 0 then
      (m_X6_askedBeads_J33 S (0 : Int32))
    else
      (m_X6_askedBeads_J33 S (1 : Int32)))
set_option maxRecDepth 100000 in
set_option maxHeartbeats 4000000 in
theorem t_X6_askedBeads {S : MS} {a0 : Nat} {i1 : Int32} {w : (Int32 × MS)} (ha : a0 = S.1) (h : m_X6_askedBeads S i1 = some w) : CT NX yX6_askedBeads cX6_askedBeads 3 (some .int) 1 21 [.ref a0, .int i1] S (some (.int w.1)) w.2 := by
  refine CT.of (lv := [(0, .ref a0), (1, .int i1)]) (by decide) rfl (Nat.le_of_ble_eq_true rfl) ?_
  refine J_aload_n 0 dX6_askedBeads_0 rfl rfl ?_
  refine J_ngetA (k := 1) (o := 0) dX6_askedBeads_1 gF_X6_7 ha rfl ?_
  refine J_iload_n 1 dX6_askedBeads_4 rfl rfl ?_
  obtain ⟨g1, h2⟩ := gd_some h; clear h
  refine J_niald (k := 1) (o := 0) dX6_askedBeads_5 ha rfl rfl (by decide) g1 ?_
  refine J_iconst (2 : Int32) dX6_askedBeads_6 (by decide) ?_
  refine J_icmp_ne 19 dX6_askedBeads_7 (by decide) h2 (fun c3 h4 => ?_) (fun c3 h4 => ?_)
  · clear h2
    refine J_aload_n 0 dX6_askedBeads_10 rfl rfl ?_
    refine J_bipush (6 : Int32) dX6_askedBeads_11 (by decide) ?_
    obtain ⟨S5, eS5, h6⟩ := bnd_some h4; clear h4
    have cS5 := (t_X6_body ha eS5)
    have lS5 : jle NX S S5 := cS5.1
    have hS5_a0 : a0 = S5.1 := ha.trans (nle_eq lS5).symm
    refine J_callV (As := [.int (6 : Int32)]) (rest := []) (st' := []) cS5 gC_X6_body gM_X6_171 (by rw [ha]; exact nRecv) rfl (by decide) (by decide) rfl rfl (Nat.le_of_ble_eq_true rfl) dX6_askedBeads_13 ?_
    refine J_bipush (10 : Int32) dX6_askedBeads_16 (by decide) ?_
    have hw := Option.some.inj h6; subst hw
    exact J_iret rfl dX6_askedBeads_18
  · clear h2
    refine J_aload_n 0 dX6_askedBeads_19 rfl rfl ?_
    refine J_ngetA (k := 1) (o := 0) dX6_askedBeads_20 gF_X6_7 ha rfl ?_
    refine J_iload_n 1 dX6_askedBeads_23 rfl rfl ?_
    obtain ⟨g7, h8⟩ := gd_some h4; clear h4
    refine J_niald (k := 1) (o := 0) dX6_askedBeads_24 ha rfl rfl (by decide) g7 ?_
    refine J_if_eq 32 dX6_askedBeads_25 (by decide) h8 (fun c9 h10 => ?_) (fun c9 h10 => ?_)
    · clear h8
      refine J_iconst (0 : Int32) dX6_askedBeads_32 (by decide) ?_
      refine J_lv [0] rfl ?_
      exact t_X6_askedBeads_J33 ha h10
    · clear h8
      refine J_iconst (1 : Int32) dX6_askedBeads_28 (by decide) ?_
      refine J_goto 33 dX6_askedBeads_29 (by decide) ?_
      refine J_lv [0] rfl ?_
      exact t_X6_askedBeads_J33 ha h10
def m_X6_askedCarry_L11 : Nat → MS → Int32 → Int32 → Option (Int32 × MS)
  | 0, _, _, _ => none
  | n + 1, S, i2, i3 =>
    if i2 ≤ 0 then
      (some (i3, S))
    else
      (gd (inB (i2 + (-1 : Int32)) 60) <|
      jLet ((nA S 17 (Int32.toNatClampNeg (i2 + (-1 : Int32))))) fun i5_ =>
      gd (inB i5_ 30) <|
      if (nA S 1 (Int32.toNatClampNeg i5_)) = (2 : Int32) then
        (bnd2 (m_X6_meets S (3 : Int32)) fun i11_ S12 =>
        some (i11_, S12))
      else
        (gd (inB i5_ 30) <|
        if (nA S 1 (Int32.toNatClampNeg i5_)) = (4 : Int32) then
          (bnd (m_X6_body S (9 : Int32)) fun S18 =>
          gd (inB i5_ 30) <|
          jLet ((nA S18 6 (Int32.toNatClampNeg i5_))) fun i22_ =>
          gd (inB (i2 + (-1 : Int32)) 60) <|
          jLet (nSA S18 17 (Int32.toNatClampNeg (i2 + (-1 : Int32))) i22_) fun S26 =>
          gd (inB i5_ 30) <|
          jLet ((nA S26 5 (Int32.toNatClampNeg i5_))) fun i30_ =>
          gd (inB ((i2 + (-1 : Int32)) + (1 : Int32)) 60) <|
          jLet (nSA S26 17 (Int32.toNatClampNeg ((i2 + (-1 : Int32)) + (1 : Int32))) i30_) fun S34 =>
          m_X6_askedCarry_L11 n S34 ((i2 + (-1 : Int32)) + (2 : Int32)) i3)
        else
          (gd (inB i5_ 30) <|
          if (nA S 1 (Int32.toNatClampNeg i5_)) = 0 then
            (bnd (m_X6_body S (7 : Int32)) fun S40 =>
            bnd2 (m_X6_askedBase S40 i5_) fun i42_ S43 =>
            jLet ((i3 + (i42_ - (1 : Int32)))) fun i45_ =>
            m_X6_askedCarry_L11 n S43 (i2 + (-1 : Int32)) i45_)
          else
            (bnd (m_X6_body S (8 : Int32)) fun S47 =>
            bnd2 (m_X6_askedBeads S47 i5_) fun i49_ S50 =>
            jLet ((i3 + ((5 : Int32) + i49_))) fun i52_ =>
            m_X6_askedCarry_L11 n S50 (i2 + (-1 : Int32)) i52_))))
set_option maxRecDepth 100000 in
set_option maxHeartbeats 4000000 in
theorem t_X6_askedCarry_L11 {w : (Int32 × MS)} (n : Nat) : ∀ (S : MS) (a0 : Nat) (i2 : Int32) (i3 : Int32), (a0 = S.1) → m_X6_askedCarry_L11 n S i2 i3 = some w → J NX yX6_askedCarry cX6_askedCarry 5 (some .int) 2 43 11 [(0, .ref a0), (2, .int i2), (3, .int i3)] [] S (some (.int w.1)) w.2 := by
  induction n with
  | zero => intro S a0 i2 i3 ha h; cases h
  | succ n lh =>
    intro S a0 i2 i3 ha h
    refine J_iload_n 1 dX6_askedCarry_11 rfl rfl ?_
    refine J_if_le 144 dX6_askedCarry_12 (by decide) h (fun c1 h2 => ?_) (fun c1 h2 => ?_)
    · clear h
      refine J_iload_n 2 dX6_askedCarry_144 rfl rfl ?_
      have hw := Option.some.inj h2; subst hw
      exact J_iret rfl dX6_askedCarry_145
    · clear h
      refine J_iinc 1 (-1 : Int32) dX6_askedCarry_15 rfl (by decide) (by decide) [1, 0, 2] (lv' := [(0, .ref a0), (2, .int (i2 + (-1 : Int32))), (3, .int i3)]) rfl ?_
      refine J_aload_n 0 dX6_askedCarry_18 rfl rfl ?_
      refine J_ngetA (k := 17) (o := 11) dX6_askedCarry_19 gF_X6_43 ha rfl ?_
      refine J_iload_n 1 dX6_askedCarry_22 rfl rfl ?_
      obtain ⟨g3, h4⟩ := gd_some h2; clear h2
      refine J_niald (k := 17) (o := 11) dX6_askedCarry_23 ha rfl rfl (by decide) g3 ?_
      obtain ⟨i5_, ei5_, h6⟩ := jLet_some h4; clear h4
      refine J_topI ei5_ ?_
      refine J_istore dX6_askedCarry_24 (by decide) [1, 2, 3, 0] (lv' := [(0, .ref a0), (2, .int (i2 + (-1 : Int32))), (3, .int i3), (4, .int i5_)]) rfl ?_
      refine J_aload_n 0 dX6_askedCarry_26 rfl rfl ?_
      refine J_ngetA (k := 1) (o := 0) dX6_askedCarry_27 gF_X6_7 ha rfl ?_
      refine J_iload 3 dX6_askedCarry_30 rfl ?_
      obtain ⟨g7, h8⟩ := gd_some h6; clear h6
      refine J_niald (k := 1) (o := 0) dX6_askedCarry_32 ha rfl rfl (by decide) g7 ?_
      refine J_iconst (2 : Int32) dX6_askedCarry_33 (by decide) ?_
      refine J_icmp_ne 43 dX6_askedCarry_34 (by decide) h8 (fun c9 h10 => ?_) (fun c9 h10 => ?_)
      · clear h8
        refine J_aload_n 0 dX6_askedCarry_37 rfl rfl ?_
        refine J_iconst (3 : Int32) dX6_askedCarry_38 (by decide) ?_
        obtain ⟨i11_, S12, ei11_, h13⟩ := bnd2_some h10; clear h10
        have cS12 := (t_X6_meets ha ei11_)
        have lS12 : jle NX S S12 := cS12.1
        have hS12_a0 : a0 = S12.1 := ha.trans (nle_eq lS12).symm
        refine J_callV (As := [.int (3 : Int32)]) (rest := []) (st' := [.int i11_]) cS12 gC_X6_meets gM_X6_102 (by rw [ha]; exact nRecv) rfl (by decide) (by decide) rfl rfl (Nat.le_of_ble_eq_true rfl) dX6_askedCarry_39 ?_
        have hw := Option.some.inj h13; subst hw
        exact J_iret rfl dX6_askedCarry_42
      · clear h8
        refine J_aload_n 0 dX6_askedCarry_43 rfl rfl ?_
        refine J_ngetA (k := 1) (o := 0) dX6_askedCarry_44 gF_X6_7 ha rfl ?_
        refine J_iload 3 dX6_askedCarry_47 rfl ?_
        obtain ⟨g14, h15⟩ := gd_some h10; clear h10
        refine J_niald (k := 1) (o := 0) dX6_askedCarry_49 ha rfl rfl (by decide) g14 ?_
        refine J_iconst (4 : Int32) dX6_askedCarry_50 (by decide) ?_
        refine J_icmp_ne 94 dX6_askedCarry_51 (by decide) h15 (fun c16 h17 => ?_) (fun c16 h17 => ?_)
        · clear h15
          refine J_aload_n 0 dX6_askedCarry_54 rfl rfl ?_
          refine J_bipush (9 : Int32) dX6_askedCarry_55 (by decide) ?_
          obtain ⟨S18, eS18, h19⟩ := bnd_some h17; clear h17
          have cS18 := (t_X6_body ha eS18)
          have lS18 : jle NX S S18 := cS18.1
          have hS18_a0 : a0 = S18.1 := ha.trans (nle_eq lS18).symm
          refine J_callV (As := [.int (9 : Int32)]) (rest := []) (st' := []) cS18 gC_X6_body gM_X6_171 (by rw [ha]; exact nRecv) rfl (by decide) (by decide) rfl rfl (Nat.le_of_ble_eq_true rfl) dX6_askedCarry_57 ?_
          refine J_aload_n 0 dX6_askedCarry_60 rfl rfl ?_
          refine J_ngetA (k := 17) (o := 11) dX6_askedCarry_61 gF_X6_43 hS18_a0 rfl ?_
          refine J_iload_n 1 dX6_askedCarry_64 rfl rfl ?_
          refine J_aload_n 0 dX6_askedCarry_65 rfl rfl ?_
          refine J_ngetA (k := 6) (o := 5) dX6_askedCarry_66 gF_X6_25 hS18_a0 rfl ?_
          refine J_iload 3 dX6_askedCarry_69 rfl ?_
          obtain ⟨g20, h21⟩ := gd_some h19; clear h19
          refine J_niald (k := 6) (o := 5) dX6_askedCarry_71 hS18_a0 rfl rfl (by decide) g20 ?_
          obtain ⟨i22_, ei22_, h23⟩ := jLet_some h21; clear h21
          refine J_topI ei22_ ?_
          obtain ⟨g24, h25⟩ := gd_some h23; clear h23
          refine J_niast (k := 17) (o := 11) dX6_askedCarry_72 hS18_a0 rfl rfl (by decide) g24 ?_
          obtain ⟨S26, eS26, h27⟩ := jLet_some h25; clear h25
          refine J_topS eS26 ?_
          have hS26_a0 : a0 = S26.1 := by rw [eS26]; exact hS18_a0
          refine J_aload_n 0 dX6_askedCarry_73 rfl rfl ?_
          refine J_ngetA (k := 17) (o := 11) dX6_askedCarry_74 gF_X6_43 hS26_a0 rfl ?_
          refine J_iload_n 1 dX6_askedCarry_77 rfl rfl ?_
          refine J_iconst (1 : Int32) dX6_askedCarry_78 (by decide) ?_
          refine J_iadd dX6_askedCarry_79 ?_
          refine J_aload_n 0 dX6_askedCarry_80 rfl rfl ?_
          refine J_ngetA (k := 5) (o := 4) dX6_askedCarry_81 gF_X6_22 hS26_a0 rfl ?_
          refine J_iload 3 dX6_askedCarry_84 rfl ?_
          obtain ⟨g28, h29⟩ := gd_some h27; clear h27
          refine J_niald (k := 5) (o := 4) dX6_askedCarry_86 hS26_a0 rfl rfl (by decide) g28 ?_
          obtain ⟨i30_, ei30_, h31⟩ := jLet_some h29; clear h29
          refine J_topI ei30_ ?_
          obtain ⟨g32, h33⟩ := gd_some h31; clear h31
          refine J_niast (k := 17) (o := 11) dX6_askedCarry_87 hS26_a0 rfl rfl (by decide) g32 ?_
          obtain ⟨S34, eS34, h35⟩ := jLet_some h33; clear h33
          refine J_topS eS34 ?_
          have hS34_a0 : a0 = S34.1 := by rw [eS34]; exact hS26_a0
          refine J_iinc 1 (2 : Int32) dX6_askedCarry_88 rfl (by decide) (by decide) [1, 0, 2, 3] (lv' := [(0, .ref a0), (2, .int ((i2 + (-1 : Int32)) + (2 : Int32))), (3, .int i3), (4, .int i5_)]) rfl ?_
          refine J_goto 141 dX6_askedCarry_91 (by decide) ?_
          refine J_goto 11 dX6_askedCarry_141 (by decide) ?_
          refine J_lv [0, 1, 2] rfl ?_
          exact lh S34 a0 ((i2 + (-1 : Int32)) + (2 : Int32)) i3 hS34_a0 h35
        · clear h15
          refine J_aload_n 0 dX6_askedCarry_94 rfl rfl ?_
          refine J_ngetA (k := 1) (o := 0) dX6_askedCarry_95 gF_X6_7 ha rfl ?_
          refine J_iload 3 dX6_askedCarry_98 rfl ?_
          obtain ⟨g36, h37⟩ := gd_some h17; clear h17
          refine J_niald (k := 1) (o := 0) dX6_askedCarry_100 ha rfl rfl (by decide) g36 ?_
          refine J_if_ne 124 dX6_askedCarry_101 (by decide) h37 (fun c38 h39 => ?_) (fun c38 h39 => ?_)
          · clear h37
            refine J_aload_n 0 dX6_askedCarry_104 rfl rfl ?_
            refine J_bipush (7 : Int32) dX6_askedCarry_105 (by decide) ?_
            obtain ⟨S40, eS40, h41⟩ := bnd_some h39; clear h39
            have cS40 := (t_X6_body ha eS40)
            have lS40 : jle NX S S40 := cS40.1
            have hS40_a0 : a0 = S40.1 := ha.trans (nle_eq lS40).symm
            refine J_callV (As := [.int (7 : Int32)]) (rest := []) (st' := []) cS40 gC_X6_body gM_X6_171 (by rw [ha]; exact nRecv) rfl (by decide) (by decide) rfl rfl (Nat.le_of_ble_eq_true rfl) dX6_askedCarry_107 ?_
            refine J_iload_n 2 dX6_askedCarry_110 rfl rfl ?_
            refine J_aload_n 0 dX6_askedCarry_111 rfl rfl ?_
            refine J_iload 3 dX6_askedCarry_112 rfl ?_
            obtain ⟨i42_, S43, ei42_, h44⟩ := bnd2_some h41; clear h41
            have cS43 := (t_X6_askedBase hS40_a0 ei42_)
            have lS43 : jle NX S40 S43 := cS43.1
            have hS43_a0 : a0 = S43.1 := hS40_a0.trans (nle_eq lS43).symm
            refine J_callV (As := [.int i5_]) (rest := [.int i3]) (st' := [.int i42_, .int i3]) cS43 gC_X6_askedBase gM_X6_175 (by rw [hS40_a0]; exact nRecv) rfl (by decide) (by decide) rfl rfl (Nat.le_of_ble_eq_true rfl) dX6_askedCarry_114 ?_
            refine J_iconst (1 : Int32) dX6_askedCarry_117 (by decide) ?_
            refine J_isub dX6_askedCarry_118 ?_
            refine J_iadd dX6_askedCarry_119 ?_
            obtain ⟨i45_, ei45_, h46⟩ := jLet_some h44; clear h44
            refine J_topI ei45_ ?_
            refine J_istore_n dX6_askedCarry_120 rfl (by decide) [1, 2, 0] (lv' := [(0, .ref a0), (2, .int (i2 + (-1 : Int32))), (3, .int i45_)]) rfl ?_
            refine J_goto 141 dX6_askedCarry_121 (by decide) ?_
            refine J_goto 11 dX6_askedCarry_141 (by decide) ?_
            exact lh S43 a0 (i2 + (-1 : Int32)) i45_ hS43_a0 h46
          · clear h37
            refine J_aload_n 0 dX6_askedCarry_124 rfl rfl ?_
            refine J_bipush (8 : Int32) dX6_askedCarry_125 (by decide) ?_
            obtain ⟨S47, eS47, h48⟩ := bnd_some h39; clear h39
            have cS47 := (t_X6_body ha eS47)
            have lS47 : jle NX S S47 := cS47.1
            have hS47_a0 : a0 = S47.1 := ha.trans (nle_eq lS47).symm
            refine J_callV (As := [.int (8 : Int32)]) (rest := []) (st' := []) cS47 gC_X6_body gM_X6_171 (by rw [ha]; exact nRecv) rfl (by decide) (by decide) rfl rfl (Nat.le_of_ble_eq_true rfl) dX6_askedCarry_127 ?_
            refine J_iload_n 2 dX6_askedCarry_130 rfl rfl ?_
            refine J_iconst (5 : Int32) dX6_askedCarry_131 (by decide) ?_
            refine J_aload_n 0 dX6_askedCarry_132 rfl rfl ?_
            refine J_iload 3 dX6_askedCarry_133 rfl ?_
            obtain ⟨i49_, S50, ei49_, h51⟩ := bnd2_some h48; clear h48
            have cS50 := (t_X6_askedBeads hS47_a0 ei49_)
            have lS50 : jle NX S47 S50 := cS50.1
            have hS50_a0 : a0 = S50.1 := hS47_a0.trans (nle_eq lS50).symm
            refine J_callV (As := [.int i5_]) (rest := [.int (5 : Int32), .int i3]) (st' := [.int i49_, .int (5 : Int32), .int i3]) cS50 gC_X6_askedBeads gM_X6_178 (by rw [hS47_a0]; exact nRecv) rfl (by decide) (by decide) rfl rfl (Nat.le_of_ble_eq_true rfl) dX6_askedCarry_135 ?_
            refine J_iadd dX6_askedCarry_138 ?_
            refine J_iadd dX6_askedCarry_139 ?_
            obtain ⟨i52_, ei52_, h53⟩ := jLet_some h51; clear h51
            refine J_topI ei52_ ?_
            refine J_istore_n dX6_askedCarry_140 rfl (by decide) [1, 2, 0] (lv' := [(0, .ref a0), (2, .int (i2 + (-1 : Int32))), (3, .int i52_)]) rfl ?_
            refine J_goto 11 dX6_askedCarry_141 (by decide) ?_
            exact lh S50 a0 (i2 + (-1 : Int32)) i52_ hS50_a0 h53
