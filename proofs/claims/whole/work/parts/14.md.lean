def m_X6_bars (S : MS) (i1 : Int32) (i2 : Int32) (i3 : Int32) : Option Int32 :=
  gd (inB i1 30) <|
  gd (inB i2 30) <|
  if ((nA S 7 (Int32.toNatClampNeg i1)) &&& (nA S 7 (Int32.toNatClampNeg i2))) = 0 then
    (m_X6_bars_J21 S i1 i2 i3 (1 : Int32))
  else
    (m_X6_bars_J21 S i1 i2 i3 (0 : Int32))
set_option maxRecDepth 100000 in
set_option maxHeartbeats 4000000 in
theorem t_X6_bars {S : MS} {a0 : Nat} {i1 : Int32} {i2 : Int32} {i3 : Int32} {w : Int32} (ha : a0 = S.1) (h : m_X6_bars S i1 i2 i3 = some w) : CT NX yX6_bars cX6_bars 6 (some .int) 3 74 [.ref a0, .int i1, .int i2, .int i3] S (some (.int w)) S := by
  refine CT.of (lv := [(0, .ref a0), (1, .int i1), (2, .int i2), (3, .int i3)]) (by decide) rfl (Nat.le_of_ble_eq_true rfl) ?_
  refine J_aload_n 0 dX6_bars_0 rfl rfl ?_
  refine J_ngetA (k := 7) (o := 6) dX6_bars_1 gF_X6_28 ha rfl ?_
  refine J_iload_n 1 dX6_bars_4 rfl rfl ?_
  obtain ⟨g1, h2⟩ := gd_some h; clear h
  refine J_niald (k := 7) (o := 6) dX6_bars_5 ha rfl rfl (by decide) g1 ?_
  refine J_aload_n 0 dX6_bars_6 rfl rfl ?_
  refine J_ngetA (k := 7) (o := 6) dX6_bars_7 gF_X6_28 ha rfl ?_
  refine J_iload_n 2 dX6_bars_10 rfl rfl ?_
  obtain ⟨g3, h4⟩ := gd_some h2; clear h2
  refine J_niald (k := 7) (o := 6) dX6_bars_11 ha rfl rfl (by decide) g3 ?_
  refine J_iand dX6_bars_12 ?_
  refine J_if_ne 20 dX6_bars_13 (by decide) h4 (fun c5 h6 => ?_) (fun c5 h6 => ?_)
  · clear h4
    refine J_iconst (1 : Int32) dX6_bars_16 (by decide) ?_
    refine J_goto 21 dX6_bars_17 (by decide) ?_
    exact t_X6_bars_J21 ha h6
  · clear h4
    refine J_iconst (0 : Int32) dX6_bars_20 (by decide) ?_
    exact t_X6_bars_J21 ha h6
def m_X6_start (S : MS) (i1 : Int32) : Option MS :=
  jLet (nSF S 18 (1 : Int32)) fun S1 =>
  jLet (nSF S1 19 i1) fun S3 =>
  jLet (nSF S3 20 (0 : Int32)) fun S5 =>
  jLet (nSF S5 21 (0 : Int32)) fun S7 =>
  jLet (nSF S7 22 (0 : Int32)) fun S9 =>
  jLet (nSF S9 23 (0 : Int32)) fun S11 =>
  jLet (nSF S11 24 (-5 : Int32)) fun S13 =>
  jLet (nSF S13 25 (-5 : Int32)) fun S15 =>
  some S15
set_option maxRecDepth 100000 in
set_option maxHeartbeats 4000000 in
theorem t_X6_start {S : MS} {a0 : Nat} {i1 : Int32} {w : MS} (ha : a0 = S.1) (h : m_X6_start S i1 = some w) : CT NX yX6_start cX6_start 2 none 0 0 [.ref a0, .int i1] S none w := by
  refine CT.of (lv := [(0, .ref a0), (1, .int i1)]) (by decide) rfl (Nat.le_of_ble_eq_true rfl) ?_
  refine J_aload_n 0 dX6_start_0 rfl rfl ?_
  refine J_iconst (1 : Int32) dX6_start_1 (by decide) ?_
  refine J_nputZ (k := 18) dX6_start_2 gW_X6_230 ha rfl rfl (by decide) ?_
  obtain ⟨S1, eS1, h2⟩ := jLet_some h; clear h
  refine J_topS eS1 ?_
  have hS1_a0 : a0 = S1.1 := by rw [eS1]; exact ha
  refine J_aload_n 0 dX6_start_5 rfl rfl ?_
  refine J_iload_n 1 dX6_start_6 rfl rfl ?_
  refine J_nput (k := 19) dX6_start_7 gW_X6_233 hS1_a0 rfl rfl ?_
  obtain ⟨S3, eS3, h4⟩ := jLet_some h2; clear h2
  refine J_topS eS3 ?_
  have hS3_a0 : a0 = S3.1 := by rw [eS3]; exact hS1_a0
  refine J_aload_n 0 dX6_start_10 rfl rfl ?_
  refine J_iconst (0 : Int32) dX6_start_11 (by decide) ?_
  refine J_nputZ (k := 20) dX6_start_12 gW_X6_137 hS3_a0 rfl rfl (by decide) ?_
  obtain ⟨S5, eS5, h6⟩ := jLet_some h4; clear h4
  refine J_topS eS5 ?_
  have hS5_a0 : a0 = S5.1 := by rw [eS5]; exact hS3_a0
  refine J_aload_n 0 dX6_start_15 rfl rfl ?_
  refine J_iconst (0 : Int32) dX6_start_16 (by decide) ?_
  refine J_nput (k := 21) dX6_start_17 gW_X6_236 hS5_a0 rfl rfl ?_
  obtain ⟨S7, eS7, h8⟩ := jLet_some h6; clear h6
  refine J_topS eS7 ?_
  have hS7_a0 : a0 = S7.1 := by rw [eS7]; exact hS5_a0
  refine J_aload_n 0 dX6_start_20 rfl rfl ?_
  refine J_iconst (0 : Int32) dX6_start_21 (by decide) ?_
  refine J_nput (k := 22) dX6_start_22 gW_X6_239 hS7_a0 rfl rfl ?_
  obtain ⟨S9, eS9, h10⟩ := jLet_some h8; clear h8
  refine J_topS eS9 ?_
  have hS9_a0 : a0 = S9.1 := by rw [eS9]; exact hS7_a0
  refine J_aload_n 0 dX6_start_25 rfl rfl ?_
  refine J_iconst (0 : Int32) dX6_start_26 (by decide) ?_
  refine J_nput (k := 23) dX6_start_27 gW_X6_242 hS9_a0 rfl rfl ?_
  obtain ⟨S11, eS11, h12⟩ := jLet_some h10; clear h10
  refine J_topS eS11 ?_
  have hS11_a0 : a0 = S11.1 := by rw [eS11]; exact hS9_a0
  refine J_aload_n 0 dX6_start_30 rfl rfl ?_
  refine J_bipush (-5 : Int32) dX6_start_31 (by decide) ?_
  refine J_nput (k := 24) dX6_start_33 gW_X6_46 hS11_a0 rfl rfl ?_
  obtain ⟨S13, eS13, h14⟩ := jLet_some h12; clear h12
  refine J_topS eS13 ?_
  have hS13_a0 : a0 = S13.1 := by rw [eS13]; exact hS11_a0
  refine J_aload_n 0 dX6_start_36 rfl rfl ?_
  refine J_bipush (-5 : Int32) dX6_start_37 (by decide) ?_
  refine J_nput (k := 25) dX6_start_39 gW_X6_50 hS13_a0 rfl rfl ?_
  obtain ⟨S15, eS15, h16⟩ := jLet_some h14; clear h14
  refine J_topS eS15 ?_
  have hS15_a0 : a0 = S15.1 := by rw [eS15]; exact hS13_a0
  have hw := Option.some.inj h16; subst hw
  exact J_vret rfl dX6_start_42
def m_X6_back (S : MS) (i1 : Int32) : Option MS :=
  gd (inB ((7 : Int32) * i1) 35000) <|
  gd (inB (((7 : Int32) * i1) + (1 : Int32)) 35000) <|
  bnd (m_X6_rodOf S (nA S 28 (Int32.toNatClampNeg ((7 : Int32) * i1))) (nA S 28 (Int32.toNatClampNeg (((7 : Int32) * i1) + (1 : Int32))))) fun i5_ =>
  gd (inB i5_ 540) <|
  gd (inB (((7 : Int32) * i1) + (2 : Int32)) 35000) <|
  jLet (((nA S 11 (Int32.toNatClampNeg i5_)) - (nA S 28 (Int32.toNatClampNeg (((7 : Int32) * i1) + (2 : Int32)))))) fun i11_ =>
  gd (inB i5_ 540) <|
  jLet (nSA S 11 (Int32.toNatClampNeg i5_) i11_) fun S15 =>
  gd (inB i5_ 540) <|
  gd (inB (((7 : Int32) * i1) + (3 : Int32)) 35000) <|
  jLet (((nA S15 10 (Int32.toNatClampNeg i5_)) - (nA S15 28 (Int32.toNatClampNeg (((7 : Int32) * i1) + (3 : Int32)))))) fun i21_ =>
  gd (inB i5_ 540) <|
  jLet (nSA S15 10 (Int32.toNatClampNeg i5_) i21_) fun S25 =>
  some S25
set_option maxRecDepth 100000 in
set_option maxHeartbeats 4000000 in
theorem t_X6_back {S : MS} {a0 : Nat} {i1 : Int32} {w : MS} (ha : a0 = S.1) (h : m_X6_back S i1 = some w) : CT NX yX6_back cX6_back 3 none 1 22 [.ref a0, .int i1] S none w := by
  refine CT.of (lv := [(0, .ref a0), (1, .int i1)]) (by decide) rfl (Nat.le_of_ble_eq_true rfl) ?_
  refine J_aload_n 0 dX6_back_0 rfl rfl ?_
  refine J_aload_n 0 dX6_back_1 rfl rfl ?_
  refine J_ngetA (k := 28) (o := 12) dX6_back_2 gF_X6_54 ha rfl ?_
  refine J_bipush (7 : Int32) dX6_back_5 (by decide) ?_
  refine J_iload_n 1 dX6_back_7 rfl rfl ?_
  refine J_imul dX6_back_8 ?_
  obtain ⟨g1, h2⟩ := gd_some h; clear h
  refine J_niald (k := 28) (o := 12) dX6_back_9 ha rfl rfl (by decide) g1 ?_
  refine J_aload_n 0 dX6_back_10 rfl rfl ?_
  refine J_ngetA (k := 28) (o := 12) dX6_back_11 gF_X6_54 ha rfl ?_
  refine J_bipush (7 : Int32) dX6_back_14 (by decide) ?_
  refine J_iload_n 1 dX6_back_16 rfl rfl ?_
  refine J_imul dX6_back_17 ?_
  refine J_iconst (1 : Int32) dX6_back_18 (by decide) ?_
  refine J_iadd dX6_back_19 ?_
  obtain ⟨g3, h4⟩ := gd_some h2; clear h2
  refine J_niald (k := 28) (o := 12) dX6_back_20 ha rfl rfl (by decide) g3 ?_
  obtain ⟨i5_, ei5_, h6⟩ := bnd_some h4; clear h4
  refine J_callV (As := [.int (nA S 28 (Int32.toNatClampNeg ((7 : Int32) * i1))), .int (nA S 28 (Int32.toNatClampNeg (((7 : Int32) * i1) + (1 : Int32))))]) (rest := []) (st' := [.int i5_]) (t_X6_rodOf ha ei5_) gC_X6_rodOf gM_X6_108 (by rw [ha]; exact nRecv) rfl (by decide) (by decide) rfl rfl (Nat.le_of_ble_eq_true rfl) dX6_back_21 ?_
  refine J_istore_n dX6_back_24 rfl (by decide) [1, 2, 0] (lv' := [(0, .ref a0), (1, .int i1), (2, .int i5_)]) rfl ?_
  refine J_aload_n 0 dX6_back_25 rfl rfl ?_
  refine J_ngetA (k := 11) (o := 10) dX6_back_26 gF_X6_40 ha rfl ?_
  refine J_iload_n 2 dX6_back_29 rfl rfl ?_
  refine J_dup2_11 dX6_back_30 rfl rfl ?_
  obtain ⟨g7, h8⟩ := gd_some h6; clear h6
  refine J_niald (k := 11) (o := 10) dX6_back_31 ha rfl rfl (by decide) g7 ?_
  refine J_aload_n 0 dX6_back_32 rfl rfl ?_
  refine J_ngetA (k := 28) (o := 12) dX6_back_33 gF_X6_54 ha rfl ?_
  refine J_bipush (7 : Int32) dX6_back_36 (by decide) ?_
  refine J_iload_n 1 dX6_back_38 rfl rfl ?_
  refine J_imul dX6_back_39 ?_
  refine J_iconst (2 : Int32) dX6_back_40 (by decide) ?_
  refine J_iadd dX6_back_41 ?_
  obtain ⟨g9, h10⟩ := gd_some h8; clear h8
  refine J_niald (k := 28) (o := 12) dX6_back_42 ha rfl rfl (by decide) g9 ?_
  refine J_isub dX6_back_43 ?_
  obtain ⟨i11_, ei11_, h12⟩ := jLet_some h10; clear h10
  refine J_topI ei11_ ?_
  obtain ⟨g13, h14⟩ := gd_some h12; clear h12
  refine J_niast (k := 11) (o := 10) dX6_back_44 ha rfl rfl (by decide) g13 ?_
  obtain ⟨S15, eS15, h16⟩ := jLet_some h14; clear h14
  refine J_topS eS15 ?_
  have hS15_a0 : a0 = S15.1 := by rw [eS15]; exact ha
  refine J_aload_n 0 dX6_back_45 rfl rfl ?_
  refine J_ngetA (k := 10) (o := 9) dX6_back_46 gF_X6_37 hS15_a0 rfl ?_
  refine J_iload_n 2 dX6_back_49 rfl rfl ?_
  refine J_dup2_11 dX6_back_50 rfl rfl ?_
  obtain ⟨g17, h18⟩ := gd_some h16; clear h16
  refine J_niald (k := 10) (o := 9) dX6_back_51 hS15_a0 rfl rfl (by decide) g17 ?_
  refine J_aload_n 0 dX6_back_52 rfl rfl ?_
  refine J_ngetA (k := 28) (o := 12) dX6_back_53 gF_X6_54 hS15_a0 rfl ?_
  refine J_bipush (7 : Int32) dX6_back_56 (by decide) ?_
  refine J_iload_n 1 dX6_back_58 rfl rfl ?_
  refine J_imul dX6_back_59 ?_
  refine J_iconst (3 : Int32) dX6_back_60 (by decide) ?_
  refine J_iadd dX6_back_61 ?_
  obtain ⟨g19, h20⟩ := gd_some h18; clear h18
  refine J_niald (k := 28) (o := 12) dX6_back_62 hS15_a0 rfl rfl (by decide) g19 ?_
  refine J_isub dX6_back_63 ?_
  obtain ⟨i21_, ei21_, h22⟩ := jLet_some h20; clear h20
  refine J_topI ei21_ ?_
  obtain ⟨g23, h24⟩ := gd_some h22; clear h22
  refine J_niast (k := 10) (o := 9) dX6_back_64 hS15_a0 rfl rfl (by decide) g23 ?_
  obtain ⟨S25, eS25, h26⟩ := jLet_some h24; clear h24
  refine J_topS eS25 ?_
  have hS25_a0 : a0 = S25.1 := by rw [eS25]; exact hS15_a0
  have hw := Option.some.inj h26; subst hw
  exact J_vret rfl dX6_back_65
def m_X6_ended_L34 : Nat → MS → Int32 → Option (Int32 × MS)
  | 0, _, _ => none
  | n + 1, S, i2 =>
    if i2 < 0 then
      (jLet (((nF S 27) + (1 : Int32))) fun i3_ =>
      jLet (nSF S 27 i3_) fun S5 =>
      some (((-100 : Int32) - (nF S5 21)), S5))
    else
      (bnd (m_X6_back S i2) fun S7 =>
      m_X6_ended_L34 n S7 (i2 + (-1 : Int32)))
set_option maxRecDepth 100000 in
set_option maxHeartbeats 4000000 in
theorem t_X6_ended_L34 {w : (Int32 × MS)} (n : Nat) : ∀ (S : MS) (a0 : Nat) (i2 : Int32), (a0 = S.1) → m_X6_ended_L34 n S i2 = some w → J NX yX6_ended cX6_ended 3 (some .int) 2 44 34 [(0, .ref a0), (2, .int i2)] [] S (some (.int w.1)) w.2 := by
  induction n with
  | zero => intro S a0 i2 ha h; cases h
  | succ n lh =>
    intro S a0 i2 ha h
    refine J_iload_n 1 dX6_ended_34 rfl rfl ?_
    refine J_if_lt 49 dX6_ended_35 (by decide) h (fun c1 h2 => ?_) (fun c1 h2 => ?_)
    · clear h
      refine J_aload_n 0 dX6_ended_49 rfl rfl ?_
      refine J_dup dX6_ended_50 rfl ?_
      refine J_nget (k := 27) dX6_ended_51 gF_X6_251 ha rfl ?_
      refine J_iconst (1 : Int32) dX6_ended_54 (by decide) ?_
      refine J_iadd dX6_ended_55 ?_
      obtain ⟨i3_, ei3_, h4⟩ := jLet_some h2; clear h2
      refine J_topI ei3_ ?_
      refine J_nput (k := 27) dX6_ended_56 gW_X6_251 ha rfl rfl ?_
      obtain ⟨S5, eS5, h6⟩ := jLet_some h4; clear h4
      refine J_topS eS5 ?_
      have hS5_a0 : a0 = S5.1 := by rw [eS5]; exact ha
      refine J_bipush (-100 : Int32) dX6_ended_59 (by decide) ?_
      refine J_aload_n 0 dX6_ended_61 rfl rfl ?_
      refine J_nget (k := 21) dX6_ended_62 gF_X6_236 hS5_a0 rfl ?_
      refine J_isub dX6_ended_65 ?_
      have hw := Option.some.inj h6; subst hw
      exact J_iret rfl dX6_ended_66
    · clear h
      refine J_aload_n 0 dX6_ended_38 rfl rfl ?_
      refine J_iload_n 1 dX6_ended_39 rfl rfl ?_
      obtain ⟨S7, eS7, h8⟩ := bnd_some h2; clear h2
      have cS7 := (t_X6_back ha eS7)
      have lS7 : jle NX S S7 := cS7.1
      have hS7_a0 : a0 = S7.1 := ha.trans (nle_eq lS7).symm
      refine J_callV (As := [.int i2]) (rest := []) (st' := []) cS7 gC_X6_back gM_X6_248 (by rw [ha]; exact nRecv) rfl (by decide) (by decide) rfl rfl (Nat.le_of_ble_eq_true rfl) dX6_ended_40 ?_
      refine J_iinc 1 (-1 : Int32) dX6_ended_43 rfl (by decide) (by decide) [1, 0] (lv' := [(0, .ref a0), (2, .int (i2 + (-1 : Int32)))]) rfl ?_
      refine J_goto 34 dX6_ended_46 (by decide) ?_
      exact lh S7 a0 (i2 + (-1 : Int32)) hS7_a0 h8
def m_X6_ended (S : MS) (i1 : Int32) : Option (Int32 × MS) :=
  if i1 = 0 then
    (jLet (((nF S 21) - (1 : Int32))) fun i3_ =>
    m_X6_ended_L34 bigN S i3_)
  else
    (jLet ((nF S 21)) fun i5_ =>
    jLet (nSF S 22 i5_) fun S7 =>
    jLet (((nF S7 26) + (1 : Int32))) fun i9_ =>
    jLet (nSF S7 26 i9_) fun S11 =>
    some ((nF S11 21), S11))
set_option maxRecDepth 100000 in
set_option maxHeartbeats 4000000 in
theorem t_X6_ended {S : MS} {a0 : Nat} {i1 : Int32} {w : (Int32 × MS)} (ha : a0 = S.1) (h : m_X6_ended S i1 = some w) : CT NX yX6_ended cX6_ended 3 (some .int) 2 44 [.ref a0, .int i1] S (some (.int w.1)) w.2 := by
  refine CT.of (lv := [(0, .ref a0), (1, .int i1)]) (by decide) rfl (Nat.le_of_ble_eq_true rfl) ?_
  refine J_iload_n 1 dX6_ended_0 rfl rfl ?_
  refine J_if_eq 27 dX6_ended_1 (by decide) h (fun c1 h2 => ?_) (fun c1 h2 => ?_)
  · clear h
    refine J_aload_n 0 dX6_ended_27 rfl rfl ?_
    refine J_nget (k := 21) dX6_ended_28 gF_X6_236 ha rfl ?_
    refine J_iconst (1 : Int32) dX6_ended_31 (by decide) ?_
    refine J_isub dX6_ended_32 ?_
    obtain ⟨i3_, ei3_, h4⟩ := jLet_some h2; clear h2
    refine J_topI ei3_ ?_
    refine J_istore_n dX6_ended_33 rfl (by decide) [1, 0] (lv' := [(0, .ref a0), (2, .int i3_)]) rfl ?_
    exact t_X6_ended_L34 bigN S a0 i3_ ha h4
  · clear h
    refine J_aload_n 0 dX6_ended_4 rfl rfl ?_
    refine J_aload_n 0 dX6_ended_5 rfl rfl ?_
    refine J_nget (k := 21) dX6_ended_6 gF_X6_236 ha rfl ?_
    obtain ⟨i5_, ei5_, h6⟩ := jLet_some h2; clear h2
    refine J_topI ei5_ ?_
    refine J_nput (k := 22) dX6_ended_9 gW_X6_239 ha rfl rfl ?_
    obtain ⟨S7, eS7, h8⟩ := jLet_some h6; clear h6
    refine J_topS eS7 ?_
    have hS7_a0 : a0 = S7.1 := by rw [eS7]; exact ha
    refine J_aload_n 0 dX6_ended_12 rfl rfl ?_
    refine J_dup dX6_ended_13 rfl ?_
    refine J_nget (k := 26) dX6_ended_14 gF_X6_245 hS7_a0 rfl ?_
    refine J_iconst (1 : Int32) dX6_ended_17 (by decide) ?_
    refine J_iadd dX6_ended_18 ?_
    obtain ⟨i9_, ei9_, h10⟩ := jLet_some h8; clear h8
    refine J_topI ei9_ ?_
    refine J_nput (k := 26) dX6_ended_19 gW_X6_245 hS7_a0 rfl rfl ?_
    obtain ⟨S11, eS11, h12⟩ := jLet_some h10; clear h10
    refine J_topS eS11 ?_
    have hS11_a0 : a0 = S11.1 := by rw [eS11]; exact hS7_a0
    refine J_aload_n 0 dX6_ended_22 rfl rfl ?_
    refine J_nget (k := 21) dX6_ended_23 gF_X6_236 hS11_a0 rfl ?_
    have hw := Option.some.inj h12; subst hw
    exact J_iret rfl dX6_ended_26
def m_X6_isStuck (S : MS) (i1 : Int32) (i2 : Int32) : Option (Int32 × MS) :=
  bnd (m_X6_against S i1 i2) fun i1_ =>
  if i1_ = 0 then
    (some ((0 : Int32), S))
  else
    (if i1_ = (1 : Int32) then
      (jLet (nSF S 23 (1 : Int32)) fun S7 =>
      jLet (nSF S7 24 i2) fun S9 =>
      jLet (nSF S9 25 i1) fun S11 =>
      some ((1 : Int32), S11))
    else
      (jLet (nSF S 23 (2 : Int32)) fun S13 =>
      jLet (nSF S13 24 i2) fun S15 =>
      jLet (nSF S15 25 i1) fun S17 =>
      some ((1 : Int32), S17)))
set_option maxRecDepth 100000 in
set_option maxHeartbeats 4000000 in
theorem t_X6_isStuck {S : MS} {a0 : Nat} {i1 : Int32} {i2 : Int32} {w : (Int32 × MS)} (ha : a0 = S.1) (h : m_X6_isStuck S i1 i2 = some w) : CT NX yX6_isStuck cX6_isStuck 4 (some .boolean) 2 49 [.ref a0, .int i1, .int i2] S (some (.int w.1)) w.2 := by
  refine CT.of (lv := [(0, .ref a0), (1, .int i1), (2, .int i2)]) (by decide) rfl (Nat.le_of_ble_eq_true rfl) ?_
  refine J_aload_n 0 dX6_isStuck_0 rfl rfl ?_
  refine J_iload_n 1 dX6_isStuck_1 rfl rfl ?_
  refine J_iload_n 2 dX6_isStuck_2 rfl rfl ?_
  obtain ⟨i1_, ei1_, h2⟩ := bnd_some h; clear h
  refine J_callV (As := [.int i1, .int i2]) (rest := []) (st' := [.int i1_]) (t_X6_against ha ei1_) gC_X6_against gM_X6_118 (by rw [ha]; exact nRecv) rfl (by decide) (by decide) rfl rfl (Nat.le_of_ble_eq_true rfl) dX6_isStuck_3 ?_
  refine J_istore_n dX6_isStuck_6 rfl (by decide) [1, 2, 3, 0] (lv' := [(0, .ref a0), (1, .int i1), (2, .int i2), (3, .int i1_)]) rfl ?_
  refine J_iload_n 3 dX6_isStuck_7 rfl rfl ?_
  refine J_if_ne 13 dX6_isStuck_8 (by decide) h2 (fun c3 h4 => ?_) (fun c3 h4 => ?_)
  · clear h2
    refine J_iconst (0 : Int32) dX6_isStuck_11 (by decide) ?_
    have hw := Option.some.inj h4; subst hw
    exact J_zret rfl (by decide) dX6_isStuck_12
  · clear h2
    refine J_aload_n 0 dX6_isStuck_13 rfl rfl ?_
    refine J_iload_n 3 dX6_isStuck_14 rfl rfl ?_
    refine J_iconst (1 : Int32) dX6_isStuck_15 (by decide) ?_
    refine J_icmp_ne 23 dX6_isStuck_16 (by decide) h4 (fun c5 h6 => ?_) (fun c5 h6 => ?_)
    · clear h4
      refine J_iconst (1 : Int32) dX6_isStuck_19 (by decide) ?_
      refine J_goto 24 dX6_isStuck_20 (by decide) ?_
      refine J_nput (k := 23) dX6_isStuck_24 gW_X6_242 ha rfl rfl ?_
      obtain ⟨S7, eS7, h8⟩ := jLet_some h6; clear h6
      refine J_topS eS7 ?_
      have hS7_a0 : a0 = S7.1 := by rw [eS7]; exact ha
      refine J_aload_n 0 dX6_isStuck_27 rfl rfl ?_
      refine J_iload_n 2 dX6_isStuck_28 rfl rfl ?_
      refine J_nput (k := 24) dX6_isStuck_29 gW_X6_46 hS7_a0 rfl rfl ?_
      obtain ⟨S9, eS9, h10⟩ := jLet_some h8; clear h8
      refine J_topS eS9 ?_
      have hS9_a0 : a0 = S9.1 := by rw [eS9]; exact hS7_a0
      refine J_aload_n 0 dX6_isStuck_32 rfl rfl ?_
      refine J_iload_n 1 dX6_isStuck_33 rfl rfl ?_
      refine J_nput (k := 25) dX6_isStuck_34 gW_X6_50 hS9_a0 rfl rfl ?_
      obtain ⟨S11, eS11, h12⟩ := jLet_some h10; clear h10
      refine J_topS eS11 ?_
      have hS11_a0 : a0 = S11.1 := by rw [eS11]; exact hS9_a0
      refine J_iconst (1 : Int32) dX6_isStuck_37 (by decide) ?_
      have hw := Option.some.inj h12; subst hw
      exact J_zret rfl (by decide) dX6_isStuck_38
    · clear h4
      refine J_iconst (2 : Int32) dX6_isStuck_23 (by decide) ?_
      refine J_nput (k := 23) dX6_isStuck_24 gW_X6_242 ha rfl rfl ?_
      obtain ⟨S13, eS13, h14⟩ := jLet_some h6; clear h6
      refine J_topS eS13 ?_
      have hS13_a0 : a0 = S13.1 := by rw [eS13]; exact ha
      refine J_aload_n 0 dX6_isStuck_27 rfl rfl ?_
      refine J_iload_n 2 dX6_isStuck_28 rfl rfl ?_
      refine J_nput (k := 24) dX6_isStuck_29 gW_X6_46 hS13_a0 rfl rfl ?_
      obtain ⟨S15, eS15, h16⟩ := jLet_some h14; clear h14
      refine J_topS eS15 ?_
      have hS15_a0 : a0 = S15.1 := by rw [eS15]; exact hS13_a0
      refine J_aload_n 0 dX6_isStuck_32 rfl rfl ?_
      refine J_iload_n 1 dX6_isStuck_33 rfl rfl ?_
      refine J_nput (k := 25) dX6_isStuck_34 gW_X6_50 hS15_a0 rfl rfl ?_
      obtain ⟨S17, eS17, h18⟩ := jLet_some h16; clear h16
      refine J_topS eS17 ?_
      have hS17_a0 : a0 = S17.1 := by rw [eS17]; exact hS15_a0
      refine J_iconst (1 : Int32) dX6_isStuck_37 (by decide) ?_
      have hw := Option.some.inj h18; subst hw
      exact J_zret rfl (by decide) dX6_isStuck_38
def m_X6_reason_J36 (i2 : Int32) (i4 : Int32) (is0 : Int32) : Option Int32 :=
  if i2 = 0 then
    (if i4 = 0 then
      (some (1 : Int32))
    else
      (some (2 : Int32)))
  else
    (if is0 = 0 then
      (some (3 : Int32))
    else
      (some (4 : Int32)))
set_option maxRecDepth 100000 in
set_option maxHeartbeats 4000000 in
theorem t_X6_reason_J36 {S : MS} {i2 : Int32} {i4 : Int32} {is0 : Int32} {w : Int32} (h : m_X6_reason_J36 i2 i4 is0 = some w) : J NX yX6_reason cX6_reason 6 (some .int) 0 0 36 [(2, .int i2), (4, .int i4)] [.int is0] S (some (.int w)) S := by
  refine J_istore dX6_reason_36 (by decide) [1, 2, 0] (lv' := [(2, .int i2), (4, .int i4), (5, .int is0)]) rfl ?_
  refine J_iload_n 0 dX6_reason_38 rfl rfl ?_
  refine J_if_ne 55 dX6_reason_39 (by decide) h (fun c1 h2 => ?_) (fun c1 h2 => ?_)
  · clear h
    refine J_iload 1 dX6_reason_42 rfl ?_
    refine J_if_eq 51 dX6_reason_44 (by decide) h2 (fun c3 h4 => ?_) (fun c3 h4 => ?_)
    · clear h2
      refine J_iconst (1 : Int32) dX6_reason_51 (by decide) ?_
      refine J_goto 65 dX6_reason_52 (by decide) ?_
      have hw := Option.some.inj h4; subst hw
      exact J_iret rfl dX6_reason_65
    · clear h2
      refine J_iconst (2 : Int32) dX6_reason_47 (by decide) ?_
      refine J_goto 65 dX6_reason_48 (by decide) ?_
      have hw := Option.some.inj h4; subst hw
      exact J_iret rfl dX6_reason_65
  · clear h
    refine J_iload 2 dX6_reason_55 rfl ?_
    refine J_if_eq 64 dX6_reason_57 (by decide) h2 (fun c5 h6 => ?_) (fun c5 h6 => ?_)
    · clear h2
      refine J_iconst (3 : Int32) dX6_reason_64 (by decide) ?_
      have hw := Option.some.inj h6; subst hw
      exact J_iret rfl dX6_reason_65
    · clear h2
      refine J_iconst (4 : Int32) dX6_reason_60 (by decide) ?_
      refine J_goto 65 dX6_reason_61 (by decide) ?_
      have hw := Option.some.inj h6; subst hw
      exact J_iret rfl dX6_reason_65
def m_X6_reason_J17 (i0 : Int32) (i1 : Int32) (i2 : Int32) (i3 : Int32) (is0 : Int32) : Option Int32 :=
  if 0 < (i3 * i0) then
    (m_X6_reason_J36 i2 is0 (1 : Int32))
  else
    (if (i3 * i1) ≤ 0 then
      (m_X6_reason_J36 i2 is0 (0 : Int32))
    else
      (m_X6_reason_J36 i2 is0 (1 : Int32)))
set_option maxRecDepth 100000 in
set_option maxHeartbeats 4000000 in
theorem t_X6_reason_J17 {S : MS} {i0 : Int32} {i1 : Int32} {i2 : Int32} {i3 : Int32} {is0 : Int32} {w : Int32} (h : m_X6_reason_J17 i0 i1 i2 i3 is0 = some w) : J NX yX6_reason cX6_reason 6 (some .int) 0 0 17 [(0, .int i0), (1, .int i1), (2, .int i2), (3, .int i3)] [.int is0] S (some (.int w)) S := by
  refine J_istore dX6_reason_17 (by decide) [1, 2, 3, 4, 0] (lv' := [(0, .int i0), (1, .int i1), (2, .int i2), (3, .int i3), (4, .int is0)]) rfl ?_
  refine J_iload_n 3 dX6_reason_19 rfl rfl ?_
  refine J_iload_n 0 dX6_reason_20 rfl rfl ?_
  refine J_imul dX6_reason_21 ?_
  refine J_if_gt 31 dX6_reason_22 (by decide) h (fun c1 h2 => ?_) (fun c1 h2 => ?_)
  · clear h
    refine J_iconst (1 : Int32) dX6_reason_31 (by decide) ?_
    refine J_goto 36 dX6_reason_32 (by decide) ?_
    refine J_lv [2, 4] rfl ?_
    exact t_X6_reason_J36 h2
  · clear h
    refine J_iload_n 3 dX6_reason_25 rfl rfl ?_
    refine J_iload_n 1 dX6_reason_26 rfl rfl ?_
    refine J_imul dX6_reason_27 ?_
    refine J_if_le 35 dX6_reason_28 (by decide) h2 (fun c3 h4 => ?_) (fun c3 h4 => ?_)
    · clear h2
      refine J_iconst (0 : Int32) dX6_reason_35 (by decide) ?_
      refine J_lv [2, 4] rfl ?_
      exact t_X6_reason_J36 h4
    · clear h2
      refine J_iconst (1 : Int32) dX6_reason_31 (by decide) ?_
      refine J_goto 36 dX6_reason_32 (by decide) ?_
      refine J_lv [2, 4] rfl ?_
      exact t_X6_reason_J36 h4
def m_X6_reason (i0 : Int32) (i1 : Int32) (i2 : Int32) (i3 : Int32) : Option Int32 :=
  if (i3 * i0) < 0 then
    (m_X6_reason_J17 i0 i1 i2 i3 (1 : Int32))
  else
    (if 0 ≤ (i3 * i1) then
      (m_X6_reason_J17 i0 i1 i2 i3 (0 : Int32))
    else
      (m_X6_reason_J17 i0 i1 i2 i3 (1 : Int32)))
set_option maxRecDepth 100000 in
set_option maxHeartbeats 4000000 in
theorem t_X6_reason {S : MS} {i0 : Int32} {i1 : Int32} {i2 : Int32} {i3 : Int32} {w : Int32} (h : m_X6_reason i0 i1 i2 i3 = some w) : CT NX yX6_reason cX6_reason 6 (some .int) 0 0 [.int i0, .int i1, .int i2, .int i3] S (some (.int w)) S := by
  refine CT.of (lv := [(0, .int i0), (1, .int i1), (2, .int i2), (3, .int i3)]) (by decide) rfl (Nat.le_of_ble_eq_true rfl) ?_
  refine J_iload_n 3 dX6_reason_0 rfl rfl ?_
  refine J_iload_n 0 dX6_reason_1 rfl rfl ?_
  refine J_imul dX6_reason_2 ?_
  refine J_if_lt 12 dX6_reason_3 (by decide) h (fun c1 h2 => ?_) (fun c1 h2 => ?_)
  · clear h
    refine J_iconst (1 : Int32) dX6_reason_12 (by decide) ?_
    refine J_goto 17 dX6_reason_13 (by decide) ?_
    exact t_X6_reason_J17 h2
  · clear h
    refine J_iload_n 3 dX6_reason_6 rfl rfl ?_
    refine J_iload_n 1 dX6_reason_7 rfl rfl ?_
    refine J_imul dX6_reason_8 ?_
    refine J_if_ge 16 dX6_reason_9 (by decide) h2 (fun c3 h4 => ?_) (fun c3 h4 => ?_)
    · clear h2
      refine J_iconst (0 : Int32) dX6_reason_16 (by decide) ?_
      exact t_X6_reason_J17 h4
    · clear h2
      refine J_iconst (1 : Int32) dX6_reason_12 (by decide) ?_
      refine J_goto 17 dX6_reason_13 (by decide) ?_
      exact t_X6_reason_J17 h4
def m_X6_change_J71 (k6 : MS → Int32 → Int32 → Int32 → Int32 → Option (Int32 × MS)) (S : MS) (i1 : Int32) (i4 : Int32) (i5 : Int32) (i6 : Int32) (i7 : Int32) (i8 : Int32) (is0 : Int32) : Option (Int32 × MS) :=
  gd (inB i7 540) <|
  jLet ((nA S 11 (Int32.toNatClampNeg i7))) fun i3_ =>
  gd (inB i7 540) <|
  jLet ((nA S 10 (Int32.toNatClampNeg i7))) fun i7_ =>
  gd (inB i1 30) <|
  bnd (m_X6_write S i7 (i8 - (is0 * (nA S 3 (Int32.toNatClampNeg i1))))) fun S11 =>
  jLet (((7 : Int32) * (nF S11 21))) fun i13_ =>
  gd (inB i13_ 35000) <|
  jLet (nSA S11 28 (Int32.toNatClampNeg i13_) i1) fun S17 =>
  gd (inB (i13_ + (1 : Int32)) 35000) <|
  jLet (nSA S17 28 (Int32.toNatClampNeg (i13_ + (1 : Int32))) i5) fun S21 =>
  gd (inB i7 540) <|
  jLet (((nA S21 11 (Int32.toNatClampNeg i7)) - i3_)) fun i25_ =>
  gd (inB (i13_ + (2 : Int32)) 35000) <|
  jLet (nSA S21 28 (Int32.toNatClampNeg (i13_ + (2 : Int32))) i25_) fun S29 =>
  gd (inB i7 540) <|
  jLet (((nA S29 10 (Int32.toNatClampNeg i7)) - i7_)) fun i33_ =>
  gd (inB (i13_ + (3 : Int32)) 35000) <|
  jLet (nSA S29 28 (Int32.toNatClampNeg (i13_ + (3 : Int32))) i33_) fun S37 =>
  gd (inB i7 540) <|
  gd (inB i7 540) <|
  bnd (m_X6_reason ((nA S37 11 (Int32.toNatClampNeg i7)) - i3_) ((nA S37 10 (Int32.toNatClampNeg i7)) - i7_) is0 i4) fun i43_ =>
  gd (inB (i13_ + (4 : Int32)) 35000) <|
  jLet (nSA S37 28 (Int32.toNatClampNeg (i13_ + (4 : Int32))) i43_) fun S47 =>
  gd (inB (i13_ + (5 : Int32)) 35000) <|
  jLet (nSA S47 28 (Int32.toNatClampNeg (i13_ + (5 : Int32))) is0) fun S51 =>
  jLet ((i4 * i6)) fun i53_ =>
  gd (inB (i13_ + (6 : Int32)) 35000) <|
  jLet (nSA S51 28 (Int32.toNatClampNeg (i13_ + (6 : Int32))) i53_) fun S57 =>
  jLet (((nF S57 21) + (1 : Int32))) fun i59_ =>
  jLet (nSF S57 21 i59_) fun S61 =>
  if is0 = 0 then
    (k6 S61 i1 i4 (i5 + (1 : Int32)) (0 : Int32))
  else
    (k6 S61 i1 i4 (i5 + (1 : Int32)) (1 : Int32))
set_option maxRecDepth 100000 in
set_option maxHeartbeats 4000000 in
theorem t_X6_change_J71 {k6 : MS → Int32 → Int32 → Int32 → Int32 → Option (Int32 × MS)} {S : MS} {a0 : Nat} {i1 : Int32} {i4 : Int32} {i5 : Int32} {i6 : Int32} {i7 : Int32} {i8 : Int32} {is0 : Int32} {w : (Int32 × MS)} (hk6 : ∀ (S : MS) (a0 : Nat) (i1 : Int32) (i4 : Int32) (i5 : Int32) (i6 : Int32), (a0 = S.1) → k6 S i1 i4 i5 i6 = some w → J NX yX6_change cX6_change 13 (some .boolean) 3 72 6 [(0, .ref a0), (1, .int i1), (4, .int i4), (5, .int i5), (6, .int i6)] [] S (some (.int w.1)) w.2) (ha : a0 = S.1) (h : m_X6_change_J71 k6 S i1 i4 i5 i6 i7 i8 is0 = some w) : J NX yX6_change cX6_change 13 (some .boolean) 3 72 71 [(0, .ref a0), (1, .int i1), (4, .int i4), (5, .int i5), (6, .int i6), (7, .int i7), (8, .int i8)] [.int is0] S (some (.int w.1)) w.2 := by
  refine J_istore dX6_change_71 (by decide) [1, 2, 3, 4, 5, 6, 7, 0] (lv' := [(0, .ref a0), (1, .int i1), (4, .int i4), (5, .int i5), (6, .int i6), (7, .int i7), (8, .int i8), (9, .int is0)]) rfl ?_
  refine J_aload_n 0 dX6_change_73 rfl rfl ?_
  refine J_ngetA (k := 11) (o := 10) dX6_change_74 gF_X6_40 ha rfl ?_
  refine J_iload 5 dX6_change_77 rfl ?_
  obtain ⟨g1, h2⟩ := gd_some h; clear h
  refine J_niald (k := 11) (o := 10) dX6_change_79 ha rfl rfl (by decide) g1 ?_
  obtain ⟨i3_, ei3_, h4⟩ := jLet_some h2; clear h2
  refine J_topI ei3_ ?_
  refine J_istore dX6_change_80 (by decide) [1, 2, 3, 4, 5, 6, 7, 8, 0] (lv' := [(0, .ref a0), (1, .int i1), (4, .int i4), (5, .int i5), (6, .int i6), (7, .int i7), (8, .int i8), (9, .int is0), (10, .int i3_)]) rfl ?_
  refine J_aload_n 0 dX6_change_82 rfl rfl ?_
  refine J_ngetA (k := 10) (o := 9) dX6_change_83 gF_X6_37 ha rfl ?_
  refine J_iload 5 dX6_change_86 rfl ?_
  obtain ⟨g5, h6⟩ := gd_some h4; clear h4
  refine J_niald (k := 10) (o := 9) dX6_change_88 ha rfl rfl (by decide) g5 ?_
  obtain ⟨i7_, ei7_, h8⟩ := jLet_some h6; clear h6
  refine J_topI ei7_ ?_
  refine J_istore dX6_change_89 (by decide) [1, 2, 3, 4, 5, 6, 7, 8, 9, 0] (lv' := [(0, .ref a0), (1, .int i1), (4, .int i4), (5, .int i5), (6, .int i6), (7, .int i7), (8, .int i8), (9, .int is0), (10, .int i3_), (11, .int i7_)]) rfl ?_
  refine J_aload_n 0 dX6_change_91 rfl rfl ?_
  refine J_iload 5 dX6_change_92 rfl ?_
  refine J_iload 6 dX6_change_94 rfl ?_
  refine J_iload 7 dX6_change_96 rfl ?_
  refine J_aload_n 0 dX6_change_98 rfl rfl ?_
  refine J_ngetA (k := 3) (o := 2) dX6_change_99 gF_X6_16 ha rfl ?_
  refine J_iload_n 1 dX6_change_102 rfl rfl ?_
  obtain ⟨g9, h10⟩ := gd_some h8; clear h8
  refine J_niald (k := 3) (o := 2) dX6_change_103 ha rfl rfl (by decide) g9 ?_
  refine J_imul dX6_change_104 ?_
  refine J_isub dX6_change_105 ?_
  obtain ⟨S11, eS11, h12⟩ := bnd_some h10; clear h10
  have cS11 := (t_X6_write ha eS11)
  have lS11 : jle NX S S11 := cS11.1
  have hS11_a0 : a0 = S11.1 := ha.trans (nle_eq lS11).symm
  refine J_callV (As := [.int i7, .int (i8 - (is0 * (nA S 3 (Int32.toNatClampNeg i1))))]) (rest := []) (st' := []) cS11 gC_X6_write gM_X6_159 (by rw [ha]; exact nRecv) rfl (by decide) (by decide) rfl rfl (Nat.le_of_ble_eq_true rfl) dX6_change_106 ?_
  refine J_bipush (7 : Int32) dX6_change_109 (by decide) ?_
  refine J_aload_n 0 dX6_change_111 rfl rfl ?_
  refine J_nget (k := 21) dX6_change_112 gF_X6_236 hS11_a0 rfl ?_
  refine J_imul dX6_change_115 ?_
  obtain ⟨i13_, ei13_, h14⟩ := jLet_some h12; clear h12
  refine J_topI ei13_ ?_
  refine J_istore dX6_change_116 (by decide) [1, 2, 3, 4, 5, 6, 8, 9, 10, 0] (lv' := [(0, .ref a0), (1, .int i1), (4, .int i4), (5, .int i5), (6, .int i6), (7, .int i7), (9, .int is0), (10, .int i3_), (11, .int i7_), (12, .int i13_)]) rfl ?_
  refine J_aload_n 0 dX6_change_118 rfl rfl ?_
  refine J_ngetA (k := 28) (o := 12) dX6_change_119 gF_X6_54 hS11_a0 rfl ?_
  refine J_iload 9 dX6_change_122 rfl ?_
  refine J_iload_n 1 dX6_change_124 rfl rfl ?_
  obtain ⟨g15, h16⟩ := gd_some h14; clear h14
  refine J_niast (k := 28) (o := 12) dX6_change_125 hS11_a0 rfl rfl (by decide) g15 ?_
  obtain ⟨S17, eS17, h18⟩ := jLet_some h16; clear h16
  refine J_topS eS17 ?_
  have hS17_a0 : a0 = S17.1 := by rw [eS17]; exact hS11_a0
  refine J_aload_n 0 dX6_change_126 rfl rfl ?_
  refine J_ngetA (k := 28) (o := 12) dX6_change_127 gF_X6_54 hS17_a0 rfl ?_
  refine J_iload 9 dX6_change_130 rfl ?_
  refine J_iconst (1 : Int32) dX6_change_132 (by decide) ?_
  refine J_iadd dX6_change_133 ?_
  refine J_iload 3 dX6_change_134 rfl ?_
  obtain ⟨g19, h20⟩ := gd_some h18; clear h18
  refine J_niast (k := 28) (o := 12) dX6_change_136 hS17_a0 rfl rfl (by decide) g19 ?_
  obtain ⟨S21, eS21, h22⟩ := jLet_some h20; clear h20
  refine J_topS eS21 ?_
  have hS21_a0 : a0 = S21.1 := by rw [eS21]; exact hS17_a0
  refine J_aload_n 0 dX6_change_137 rfl rfl ?_
  refine J_ngetA (k := 28) (o := 12) dX6_change_138 gF_X6_54 hS21_a0 rfl ?_
  refine J_iload 9 dX6_change_141 rfl ?_
  refine J_iconst (2 : Int32) dX6_change_143 (by decide) ?_
  refine J_iadd dX6_change_144 ?_
  refine J_aload_n 0 dX6_change_145 rfl rfl ?_
  refine J_ngetA (k := 11) (o := 10) dX6_change_146 gF_X6_40 hS21_a0 rfl ?_
  refine J_iload 5 dX6_change_149 rfl ?_
  obtain ⟨g23, h24⟩ := gd_some h22; clear h22
  refine J_niald (k := 11) (o := 10) dX6_change_151 hS21_a0 rfl rfl (by decide) g23 ?_
  refine J_iload 7 dX6_change_152 rfl ?_
  refine J_isub dX6_change_154 ?_
  obtain ⟨i25_, ei25_, h26⟩ := jLet_some h24; clear h24
  refine J_topI ei25_ ?_
  obtain ⟨g27, h28⟩ := gd_some h26; clear h26
  refine J_niast (k := 28) (o := 12) dX6_change_155 hS21_a0 rfl rfl (by decide) g27 ?_
  obtain ⟨S29, eS29, h30⟩ := jLet_some h28; clear h28
  refine J_topS eS29 ?_
  have hS29_a0 : a0 = S29.1 := by rw [eS29]; exact hS21_a0
  refine J_aload_n 0 dX6_change_156 rfl rfl ?_
  refine J_ngetA (k := 28) (o := 12) dX6_change_157 gF_X6_54 hS29_a0 rfl ?_
  refine J_iload 9 dX6_change_160 rfl ?_
  refine J_iconst (3 : Int32) dX6_change_162 (by decide) ?_
  refine J_iadd dX6_change_163 ?_
  refine J_aload_n 0 dX6_change_164 rfl rfl ?_
  refine J_ngetA (k := 10) (o := 9) dX6_change_165 gF_X6_37 hS29_a0 rfl ?_
  refine J_iload 5 dX6_change_168 rfl ?_
  obtain ⟨g31, h32⟩ := gd_some h30; clear h30
  refine J_niald (k := 10) (o := 9) dX6_change_170 hS29_a0 rfl rfl (by decide) g31 ?_
  refine J_iload 8 dX6_change_171 rfl ?_
  refine J_isub dX6_change_173 ?_
  obtain ⟨i33_, ei33_, h34⟩ := jLet_some h32; clear h32
  refine J_topI ei33_ ?_
  obtain ⟨g35, h36⟩ := gd_some h34; clear h34
  refine J_niast (k := 28) (o := 12) dX6_change_174 hS29_a0 rfl rfl (by decide) g35 ?_
  obtain ⟨S37, eS37, h38⟩ := jLet_some h36; clear h36
  refine J_topS eS37 ?_
  have hS37_a0 : a0 = S37.1 := by rw [eS37]; exact hS29_a0
  refine J_aload_n 0 dX6_change_175 rfl rfl ?_
  refine J_ngetA (k := 28) (o := 12) dX6_change_176 gF_X6_54 hS37_a0 rfl ?_
  refine J_iload 9 dX6_change_179 rfl ?_
  refine J_iconst (4 : Int32) dX6_change_181 (by decide) ?_
  refine J_iadd dX6_change_182 ?_
  refine J_aload_n 0 dX6_change_183 rfl rfl ?_
  refine J_ngetA (k := 11) (o := 10) dX6_change_184 gF_X6_40 hS37_a0 rfl ?_
  refine J_iload 5 dX6_change_187 rfl ?_
  obtain ⟨g39, h40⟩ := gd_some h38; clear h38
  refine J_niald (k := 11) (o := 10) dX6_change_189 hS37_a0 rfl rfl (by decide) g39 ?_
  refine J_iload 7 dX6_change_190 rfl ?_
  refine J_isub dX6_change_192 ?_
  refine J_aload_n 0 dX6_change_193 rfl rfl ?_
  refine J_ngetA (k := 10) (o := 9) dX6_change_194 gF_X6_37 hS37_a0 rfl ?_
  refine J_iload 5 dX6_change_197 rfl ?_
  obtain ⟨g41, h42⟩ := gd_some h40; clear h40
  refine J_niald (k := 10) (o := 9) dX6_change_199 hS37_a0 rfl rfl (by decide) g41 ?_
  refine J_iload 8 dX6_change_200 rfl ?_
  refine J_isub dX6_change_202 ?_
  refine J_iload 6 dX6_change_203 rfl ?_
  refine J_iload 2 dX6_change_205 rfl ?_
  obtain ⟨i43_, ei43_, h44⟩ := bnd_some h42; clear h42
  refine J_callS (As := [.int ((nA S37 11 (Int32.toNatClampNeg i7)) - i3_), .int ((nA S37 10 (Int32.toNatClampNeg i7)) - i7_), .int is0, .int i4]) (rest := [.int (i13_ + (4 : Int32)), .ref (a0 + 13)]) (st' := [.int i43_, .int (i13_ + (4 : Int32)), .ref (a0 + 13)]) (t_X6_reason ei43_) gC_X6_reason gM_X6_258 rfl (by decide) (by decide) rfl rfl (Nat.le_of_ble_eq_true rfl) dX6_change_207 ?_
  obtain ⟨g45, h46⟩ := gd_some h44; clear h44
  refine J_niast (k := 28) (o := 12) dX6_change_210 hS37_a0 rfl rfl (by decide) g45 ?_
  obtain ⟨S47, eS47, h48⟩ := jLet_some h46; clear h46
  refine J_topS eS47 ?_
  have hS47_a0 : a0 = S47.1 := by rw [eS47]; exact hS37_a0
  refine J_aload_n 0 dX6_change_211 rfl rfl ?_
  refine J_ngetA (k := 28) (o := 12) dX6_change_212 gF_X6_54 hS47_a0 rfl ?_
  refine J_iload 9 dX6_change_215 rfl ?_
  refine J_iconst (5 : Int32) dX6_change_217 (by decide) ?_
  refine J_iadd dX6_change_218 ?_
  refine J_iload 6 dX6_change_219 rfl ?_
  obtain ⟨g49, h50⟩ := gd_some h48; clear h48
  refine J_niast (k := 28) (o := 12) dX6_change_221 hS47_a0 rfl rfl (by decide) g49 ?_
  obtain ⟨S51, eS51, h52⟩ := jLet_some h50; clear h50
  refine J_topS eS51 ?_
  have hS51_a0 : a0 = S51.1 := by rw [eS51]; exact hS47_a0
  refine J_aload_n 0 dX6_change_222 rfl rfl ?_
  refine J_ngetA (k := 28) (o := 12) dX6_change_223 gF_X6_54 hS51_a0 rfl ?_
  refine J_iload 9 dX6_change_226 rfl ?_
  refine J_bipush (6 : Int32) dX6_change_228 (by decide) ?_
  refine J_iadd dX6_change_230 ?_
  refine J_iload 2 dX6_change_231 rfl ?_
  refine J_iload 4 dX6_change_233 rfl ?_
  refine J_imul dX6_change_235 ?_
  obtain ⟨i53_, ei53_, h54⟩ := jLet_some h52; clear h52
  refine J_topI ei53_ ?_
  obtain ⟨g55, h56⟩ := gd_some h54; clear h54
  refine J_niast (k := 28) (o := 12) dX6_change_236 hS51_a0 rfl rfl (by decide) g55 ?_
  obtain ⟨S57, eS57, h58⟩ := jLet_some h56; clear h56
  refine J_topS eS57 ?_
  have hS57_a0 : a0 = S57.1 := by rw [eS57]; exact hS51_a0
  refine J_aload_n 0 dX6_change_237 rfl rfl ?_
  refine J_dup dX6_change_238 rfl ?_
  refine J_nget (k := 21) dX6_change_239 gF_X6_236 hS57_a0 rfl ?_
  refine J_iconst (1 : Int32) dX6_change_242 (by decide) ?_
  refine J_iadd dX6_change_243 ?_
  obtain ⟨i59_, ei59_, h60⟩ := jLet_some h58; clear h58
  refine J_topI ei59_ ?_
  refine J_nput (k := 21) dX6_change_244 gW_X6_236 hS57_a0 rfl rfl ?_
  obtain ⟨S61, eS61, h62⟩ := jLet_some h60; clear h60
  refine J_topS eS61 ?_
  have hS61_a0 : a0 = S61.1 := by rw [eS61]; exact hS57_a0
  refine J_iload 6 dX6_change_247 rfl ?_
  refine J_if_ne 256 dX6_change_249 (by decide) h62 (fun c63 h64 => ?_) (fun c63 h64 => ?_)
  · clear h62
    refine J_iconst (0 : Int32) dX6_change_252 (by decide) ?_
    refine J_goto 257 dX6_change_253 (by decide) ?_
    refine J_istore dX6_change_257 (by decide) [1, 2, 3, 4, 0] (lv' := [(0, .ref a0), (1, .int i1), (4, .int i4), (5, .int i5), (6, .int (0 : Int32))]) rfl ?_
    refine J_iinc 3 (1 : Int32) dX6_change_259 rfl (by decide) (by decide) [1, 2, 3, 0, 4] (lv' := [(0, .ref a0), (1, .int i1), (4, .int i4), (5, .int (i5 + (1 : Int32))), (6, .int (0 : Int32))]) rfl ?_
    refine J_goto 6 dX6_change_262 (by decide) ?_
    exact hk6 S61 a0 i1 i4 (i5 + (1 : Int32)) (0 : Int32) hS61_a0 h64
  · clear h62
    refine J_iconst (1 : Int32) dX6_change_256 (by decide) ?_
    refine J_istore dX6_change_257 (by decide) [1, 2, 3, 4, 0] (lv' := [(0, .ref a0), (1, .int i1), (4, .int i4), (5, .int i5), (6, .int (1 : Int32))]) rfl ?_
    refine J_iinc 3 (1 : Int32) dX6_change_259 rfl (by decide) (by decide) [1, 2, 3, 0, 4] (lv' := [(0, .ref a0), (1, .int i1), (4, .int i4), (5, .int (i5 + (1 : Int32))), (6, .int (1 : Int32))]) rfl ?_
    refine J_goto 6 dX6_change_262 (by decide) ?_
    exact hk6 S61 a0 i1 i4 (i5 + (1 : Int32)) (1 : Int32) hS61_a0 h64
def m_X6_change_L6 : Nat → MS → Int32 → Int32 → Int32 → Int32 → Option (Int32 × MS)
  | 0, _, _, _, _, _ => none
  | n + 1, S, i1, i4, i5, i6 =>
    if i6 ≤ 0 then
      (some ((1 : Int32), S))
    else
      (bnd2 (m_X6_isStuck S i1 i5) fun i3_ S4 =>
      if i3_ = 0 then
        (bnd (m_X6_rodOf S4 i1 i5) fun i8_ =>
        bnd (m_X6_digitAt S4 i8_) fun i10_ =>
        jLet ((i10_ + (i4 * i6))) fun i12_ =>
        if 0 ≤ i12_ then
          (gd (inB i1 30) <|
          if i12_ < (nA S4 3 (Int32.toNatClampNeg i1)) then
            (m_X6_change_J71 (m_X6_change_L6 n) S4 i1 i4 i5 i6 i8_ i12_ (0 : Int32))
          else
            (m_X6_change_J71 (m_X6_change_L6 n) S4 i1 i4 i5 i6 i8_ i12_ (1 : Int32)))
        else
          (m_X6_change_J71 (m_X6_change_L6 n) S4 i1 i4 i5 i6 i8_ i12_ (-1 : Int32)))
      else
        (some ((0 : Int32), S4)))
set_option maxRecDepth 100000 in
set_option maxHeartbeats 4000000 in
theorem t_X6_change_L6 {w : (Int32 × MS)} (n : Nat) : ∀ (S : MS) (a0 : Nat) (i1 : Int32) (i4 : Int32) (i5 : Int32) (i6 : Int32), (a0 = S.1) → m_X6_change_L6 n S i1 i4 i5 i6 = some w → J NX yX6_change cX6_change 13 (some .boolean) 3 72 6 [(0, .ref a0), (1, .int i1), (4, .int i4), (5, .int i5), (6, .int i6)] [] S (some (.int w.1)) w.2 := by
  induction n with
  | zero => intro S a0 i1 i4 i5 i6 ha h; cases h
  | succ n lh =>
    intro S a0 i1 i4 i5 i6 ha h
    refine J_iload 4 dX6_change_6 rfl ?_
    refine J_if_le 265 dX6_change_8 (by decide) h (fun c1 h2 => ?_) (fun c1 h2 => ?_)
    · clear h
      refine J_iconst (1 : Int32) dX6_change_265 (by decide) ?_
      have hw := Option.some.inj h2; subst hw
      exact J_zret rfl (by decide) dX6_change_266
    · clear h
      refine J_aload_n 0 dX6_change_11 rfl rfl ?_
      refine J_iload_n 1 dX6_change_12 rfl rfl ?_
      refine J_iload 3 dX6_change_13 rfl ?_
      obtain ⟨i3_, S4, ei3_, h5⟩ := bnd2_some h2; clear h2
      have cS4 := (t_X6_isStuck ha ei3_)
      have lS4 : jle NX S S4 := cS4.1
      have hS4_a0 : a0 = S4.1 := ha.trans (nle_eq lS4).symm
      refine J_callV (As := [.int i1, .int i5]) (rest := []) (st' := [.int i3_]) cS4 gC_X6_isStuck gM_X6_254 (by rw [ha]; exact nRecv) rfl (by decide) (by decide) rfl rfl (Nat.le_of_ble_eq_true rfl) dX6_change_15 ?_
      refine J_if_eq 23 dX6_change_18 (by decide) h5 (fun c6 h7 => ?_) (fun c6 h7 => ?_)
      · clear h5
        refine J_aload_n 0 dX6_change_23 rfl rfl ?_
        refine J_iload_n 1 dX6_change_24 rfl rfl ?_
        refine J_iload 3 dX6_change_25 rfl ?_
        obtain ⟨i8_, ei8_, h9⟩ := bnd_some h7; clear h7
        refine J_callV (As := [.int i1, .int i5]) (rest := []) (st' := [.int i8_]) (t_X6_rodOf hS4_a0 ei8_) gC_X6_rodOf gM_X6_108 (by rw [hS4_a0]; exact nRecv) rfl (by decide) (by decide) rfl rfl (Nat.le_of_ble_eq_true rfl) dX6_change_27 ?_
        refine J_istore dX6_change_30 (by decide) [1, 2, 3, 4, 5, 0] (lv' := [(0, .ref a0), (1, .int i1), (4, .int i4), (5, .int i5), (6, .int i6), (7, .int i8_)]) rfl ?_
        refine J_aload_n 0 dX6_change_32 rfl rfl ?_
        refine J_iload 5 dX6_change_33 rfl ?_
        obtain ⟨i10_, ei10_, h11⟩ := bnd_some h9; clear h9
        refine J_callV (As := [.int i8_]) (rest := []) (st' := [.int i10_]) (t_X6_digitAt hS4_a0 ei10_) gC_X6_digitAt gM_X6_121 (by rw [hS4_a0]; exact nRecv) rfl (by decide) (by decide) rfl rfl (Nat.le_of_ble_eq_true rfl) dX6_change_35 ?_
        refine J_iload 2 dX6_change_38 rfl ?_
        refine J_iload 4 dX6_change_40 rfl ?_
        refine J_imul dX6_change_42 ?_
        refine J_iadd dX6_change_43 ?_
        obtain ⟨i12_, ei12_, h13⟩ := jLet_some h11; clear h11
        refine J_topI ei12_ ?_
        refine J_istore dX6_change_44 (by decide) [1, 2, 3, 4, 5, 6, 0] (lv' := [(0, .ref a0), (1, .int i1), (4, .int i4), (5, .int i5), (6, .int i6), (7, .int i8_), (8, .int i12_)]) rfl ?_
        refine J_iload 6 dX6_change_46 rfl ?_
        refine J_if_ge 55 dX6_change_48 (by decide) h13 (fun c14 h15 => ?_) (fun c14 h15 => ?_)
        · clear h13
          refine J_iload 6 dX6_change_55 rfl ?_
          refine J_aload_n 0 dX6_change_57 rfl rfl ?_
          refine J_ngetA (k := 3) (o := 2) dX6_change_58 gF_X6_16 hS4_a0 rfl ?_
          refine J_iload_n 1 dX6_change_61 rfl rfl ?_
          obtain ⟨g16, h17⟩ := gd_some h15; clear h15
          refine J_niald (k := 3) (o := 2) dX6_change_62 hS4_a0 rfl rfl (by decide) g16 ?_
          refine J_icmp_lt 70 dX6_change_63 (by decide) h17 (fun c18 h19 => ?_) (fun c18 h19 => ?_)
          · clear h17
            refine J_iconst (0 : Int32) dX6_change_70 (by decide) ?_
            exact t_X6_change_J71 lh hS4_a0 h19
          · clear h17
            refine J_iconst (1 : Int32) dX6_change_66 (by decide) ?_
            refine J_goto 71 dX6_change_67 (by decide) ?_
            exact t_X6_change_J71 lh hS4_a0 h19
        · clear h13
          refine J_iconst (-1 : Int32) dX6_change_51 (by decide) ?_
          refine J_goto 71 dX6_change_52 (by decide) ?_
          exact t_X6_change_J71 lh hS4_a0 h15
      · clear h5
        refine J_iconst (0 : Int32) dX6_change_21 (by decide) ?_
        have hw := Option.some.inj h7; subst hw
        exact J_zret rfl (by decide) dX6_change_22
def m_X6_change (S : MS) (i1 : Int32) (i2 : Int32) (i3 : Int32) (i4 : Int32) : Option (Int32 × MS) :=
  m_X6_change_L6 bigN S i1 i4 i2 i3
set_option maxRecDepth 100000 in
set_option maxHeartbeats 4000000 in
theorem t_X6_change {S : MS} {a0 : Nat} {i1 : Int32} {i2 : Int32} {i3 : Int32} {i4 : Int32} {w : (Int32 × MS)} (ha : a0 = S.1) (h : m_X6_change S i1 i2 i3 i4 = some w) : CT NX yX6_change cX6_change 13 (some .boolean) 3 72 [.ref a0, .int i1, .int i2, .int i3, .int i4] S (some (.int w.1)) w.2 := by
  refine CT.of (lv := [(0, .ref a0), (1, .int i1), (2, .int i2), (3, .int i3), (4, .int i4)]) (by decide) rfl (Nat.le_of_ble_eq_true rfl) ?_
  refine J_iload_n 2 dX6_change_0 rfl rfl ?_
  refine J_istore dX6_change_1 (by decide) [1, 2, 4, 5, 0] (lv' := [(0, .ref a0), (1, .int i1), (3, .int i3), (4, .int i4), (5, .int i2)]) rfl ?_
  refine J_iload_n 2 dX6_change_3 rfl rfl ?_
  refine J_istore dX6_change_4 (by decide) [1, 2, 4, 5, 0] (lv' := [(0, .ref a0), (1, .int i1), (4, .int i4), (5, .int i2), (6, .int i3)]) rfl ?_
  exact t_X6_change_L6 bigN S a0 i1 i4 i2 i3 ha h
def m_X6_clear_L11 : Nat → MS → Int32 → Int32 → Int32 → Option (Int32 × MS)
  | 0, _, _, _, _ => none
  | n + 1, S, i1, i2, i3 =>
    if i3 < 0 then
      (gd (zb i2) <|
      some (i2, S))
    else
      (if i2 = 0 then
        (gd (zb i2) <|
        some (i2, S))
      else
        (bnd2 (m_X6_isStuck S i1 i3) fun i9_ S10 =>
        if i9_ = 0 then
          (bnd (m_X6_rodOf S10 i1 i3) fun i14_ =>
          bnd (m_X6_digitAt S10 i14_) fun i16_ =>
          bnd2 (m_X6_change S10 i1 i3 i16_ (-1 : Int32)) fun i18_ S19 =>
          if i18_ = 0 then
            (m_X6_clear_L11 n S19 i1 (0 : Int32) (i3 + (-1 : Int32)))
          else
            (m_X6_clear_L11 n S19 i1 (1 : Int32) (i3 + (-1 : Int32))))
        else
          (m_X6_clear_L11 n S10 i1 (0 : Int32) (i3 + (-1 : Int32)))))
set_option maxRecDepth 100000 in
set_option maxHeartbeats 4000000 in
theorem t_X6_clear_L11 {w : (Int32 × MS)} (n : Nat) : ∀ (S : MS) (a0 : Nat) (i1 : Int32) (i2 : Int32) (i3 : Int32), (a0 = S.1) → m_X6_clear_L11 n S i1 i2 i3 = some w → J NX yX6_clear cX6_clear 4 (some .boolean) 4 104 11 [(0, .ref a0), (1, .int i1), (2, .int i2), (3, .int i3)] [] S (some (.int w.1)) w.2 := by
  induction n with
  | zero => intro S a0 i1 i2 i3 ha h; cases h
  | succ n lh =>
    intro S a0 i1 i2 i3 ha h
    refine J_iload_n 3 dX6_clear_11 rfl rfl ?_
    refine J_if_lt 60 dX6_clear_12 (by decide) h (fun c1 h2 => ?_) (fun c1 h2 => ?_)
    · clear h
      refine J_iload_n 2 dX6_clear_60 rfl rfl ?_
      obtain ⟨g3, h4⟩ := gd_some h2; clear h2
      have hw := Option.some.inj h4; subst hw
      exact J_zret rfl (zb_of g3) dX6_clear_61
    · clear h
      refine J_iload_n 2 dX6_clear_15 rfl rfl ?_
      refine J_if_eq 60 dX6_clear_16 (by decide) h2 (fun c5 h6 => ?_) (fun c5 h6 => ?_)
      · clear h2
        refine J_iload_n 2 dX6_clear_60 rfl rfl ?_
        obtain ⟨g7, h8⟩ := gd_some h6; clear h6
        have hw := Option.some.inj h8; subst hw
        exact J_zret rfl (zb_of g7) dX6_clear_61
      · clear h2
        refine J_aload_n 0 dX6_clear_19 rfl rfl ?_
        refine J_iload_n 1 dX6_clear_20 rfl rfl ?_
        refine J_iload_n 3 dX6_clear_21 rfl rfl ?_
        obtain ⟨i9_, S10, ei9_, h11⟩ := bnd2_some h6; clear h6
        have cS10 := (t_X6_isStuck ha ei9_)
        have lS10 : jle NX S S10 := cS10.1
        have hS10_a0 : a0 = S10.1 := ha.trans (nle_eq lS10).symm
        refine J_callV (As := [.int i1, .int i3]) (rest := []) (st' := [.int i9_]) cS10 gC_X6_isStuck gM_X6_254 (by rw [ha]; exact nRecv) rfl (by decide) (by decide) rfl rfl (Nat.le_of_ble_eq_true rfl) dX6_clear_22 ?_
        refine J_if_ne 52 dX6_clear_25 (by decide) h11 (fun c12 h13 => ?_) (fun c12 h13 => ?_)
        · clear h11
          refine J_aload_n 0 dX6_clear_28 rfl rfl ?_
          refine J_iload_n 1 dX6_clear_29 rfl rfl ?_
          refine J_iload_n 3 dX6_clear_30 rfl rfl ?_
          refine J_aload_n 0 dX6_clear_31 rfl rfl ?_
          refine J_aload_n 0 dX6_clear_32 rfl rfl ?_
          refine J_iload_n 1 dX6_clear_33 rfl rfl ?_
          refine J_iload_n 3 dX6_clear_34 rfl rfl ?_
          obtain ⟨i14_, ei14_, h15⟩ := bnd_some h13; clear h13
          refine J_callV (As := [.int i1, .int i3]) (rest := [.ref a0, .int i3, .int i1, .ref a0]) (st' := [.int i14_, .ref a0, .int i3, .int i1, .ref a0]) (t_X6_rodOf hS10_a0 ei14_) gC_X6_rodOf gM_X6_108 (by rw [hS10_a0]; exact nRecv) rfl (by decide) (by decide) rfl rfl (Nat.le_of_ble_eq_true rfl) dX6_clear_35 ?_
          obtain ⟨i16_, ei16_, h17⟩ := bnd_some h15; clear h15
          refine J_callV (As := [.int i14_]) (rest := [.int i3, .int i1, .ref a0]) (st' := [.int i16_, .int i3, .int i1, .ref a0]) (t_X6_digitAt hS10_a0 ei16_) gC_X6_digitAt gM_X6_121 (by rw [hS10_a0]; exact nRecv) rfl (by decide) (by decide) rfl rfl (Nat.le_of_ble_eq_true rfl) dX6_clear_38 ?_
          refine J_iconst (-1 : Int32) dX6_clear_41 (by decide) ?_
          obtain ⟨i18_, S19, ei18_, h20⟩ := bnd2_some h17; clear h17
          have cS19 := (t_X6_change hS10_a0 ei18_)
          have lS19 : jle NX S10 S19 := cS19.1
          have hS19_a0 : a0 = S19.1 := hS10_a0.trans (nle_eq lS19).symm
          refine J_callV (As := [.int i1, .int i3, .int i16_, .int (-1 : Int32)]) (rest := []) (st' := [.int i18_]) cS19 gC_X6_change gM_X6_262 (by rw [hS10_a0]; exact nRecv) rfl (by decide) (by decide) rfl rfl (Nat.le_of_ble_eq_true rfl) dX6_clear_42 ?_
          refine J_if_eq 52 dX6_clear_45 (by decide) h20 (fun c21 h22 => ?_) (fun c21 h22 => ?_)
          · clear h20
            refine J_iconst (0 : Int32) dX6_clear_52 (by decide) ?_
            refine J_istore_n dX6_clear_53 rfl (by decide) [1, 2, 0, 3] (lv' := [(0, .ref a0), (1, .int i1), (2, .int (0 : Int32)), (3, .int i3)]) rfl ?_
            refine J_iinc 3 (-1 : Int32) dX6_clear_54 rfl (by decide) (by decide) [1, 2, 3, 0] (lv' := [(0, .ref a0), (1, .int i1), (2, .int (0 : Int32)), (3, .int (i3 + (-1 : Int32)))]) rfl ?_
            refine J_goto 11 dX6_clear_57 (by decide) ?_
            exact lh S19 a0 i1 (0 : Int32) (i3 + (-1 : Int32)) hS19_a0 h22
          · clear h20
            refine J_iconst (1 : Int32) dX6_clear_48 (by decide) ?_
            refine J_goto 53 dX6_clear_49 (by decide) ?_
            refine J_istore_n dX6_clear_53 rfl (by decide) [1, 2, 0, 3] (lv' := [(0, .ref a0), (1, .int i1), (2, .int (1 : Int32)), (3, .int i3)]) rfl ?_
            refine J_iinc 3 (-1 : Int32) dX6_clear_54 rfl (by decide) (by decide) [1, 2, 3, 0] (lv' := [(0, .ref a0), (1, .int i1), (2, .int (1 : Int32)), (3, .int (i3 + (-1 : Int32)))]) rfl ?_
            refine J_goto 11 dX6_clear_57 (by decide) ?_
            exact lh S19 a0 i1 (1 : Int32) (i3 + (-1 : Int32)) hS19_a0 h22
        · clear h11
          refine J_iconst (0 : Int32) dX6_clear_52 (by decide) ?_
          refine J_istore_n dX6_clear_53 rfl (by decide) [1, 2, 0, 3] (lv' := [(0, .ref a0), (1, .int i1), (2, .int (0 : Int32)), (3, .int i3)]) rfl ?_
          refine J_iinc 3 (-1 : Int32) dX6_clear_54 rfl (by decide) (by decide) [1, 2, 3, 0] (lv' := [(0, .ref a0), (1, .int i1), (2, .int (0 : Int32)), (3, .int (i3 + (-1 : Int32)))]) rfl ?_
          refine J_goto 11 dX6_clear_57 (by decide) ?_
          exact lh S10 a0 i1 (0 : Int32) (i3 + (-1 : Int32)) hS10_a0 h13
def m_X6_clear (S : MS) (i1 : Int32) : Option (Int32 × MS) :=
  gd (inB i1 30) <|
  jLet (((nA S 2 (Int32.toNatClampNeg i1)) - (1 : Int32))) fun i3_ =>
  m_X6_clear_L11 bigN S i1 (1 : Int32) i3_
set_option maxRecDepth 100000 in
set_option maxHeartbeats 4000000 in
theorem t_X6_clear {S : MS} {a0 : Nat} {i1 : Int32} {w : (Int32 × MS)} (ha : a0 = S.1) (h : m_X6_clear S i1 = some w) : CT NX yX6_clear cX6_clear 4 (some .boolean) 4 104 [.ref a0, .int i1] S (some (.int w.1)) w.2 := by
  refine CT.of (lv := [(0, .ref a0), (1, .int i1)]) (by decide) rfl (Nat.le_of_ble_eq_true rfl) ?_
  refine J_iconst (1 : Int32) dX6_clear_0 (by decide) ?_
  refine J_istore_n dX6_clear_1 rfl (by decide) [1, 2, 0] (lv' := [(0, .ref a0), (1, .int i1), (2, .int (1 : Int32))]) rfl ?_
  refine J_aload_n 0 dX6_clear_2 rfl rfl ?_
  refine J_ngetA (k := 2) (o := 1) dX6_clear_3 gF_X6_13 ha rfl ?_
  refine J_iload_n 1 dX6_clear_6 rfl rfl ?_
  obtain ⟨g1, h2⟩ := gd_some h; clear h
  refine J_niald (k := 2) (o := 1) dX6_clear_7 ha rfl rfl (by decide) g1 ?_
  refine J_iconst (1 : Int32) dX6_clear_8 (by decide) ?_
  refine J_isub dX6_clear_9 ?_
  obtain ⟨i3_, ei3_, h4⟩ := jLet_some h2; clear h2
  refine J_topI ei3_ ?_
  refine J_istore_n dX6_clear_10 rfl (by decide) [1, 2, 3, 0] (lv' := [(0, .ref a0), (1, .int i1), (2, .int (1 : Int32)), (3, .int i3_)]) rfl ?_
  exact t_X6_clear_L11 bigN S a0 i1 (1 : Int32) i3_ ha h4
def m_X6_changeAll_L17 : Nat → MS → Int32 → Int32 → Int64 → Int32 → Int32 → Int32 → Option (Int32 × MS)
  | 0, _, _, _, _, _, _, _ => none
  | n + 1, S, i1, i2, j3, i5, i6, i7 =>
    if i7 < 0 then
      (gd (zb i6) <|
      some (i6, S))
    else
      (if i6 = 0 then
        (gd (zb i6) <|
        some (i6, S))
      else
        (gd (inB i1 30) <|
        bnd (m_X6_digitOf j3 (nA S 3 (Int32.toNatClampNeg i1)) i7) fun i11_ =>
        bnd2 (m_X6_change S i1 (i2 + i7) i11_ i5) fun i13_ S14 =>
        m_X6_changeAll_L17 n S14 i1 i2 j3 i5 i13_ (i7 + (-1 : Int32))))
set_option maxRecDepth 100000 in
set_option maxHeartbeats 4000000 in
theorem t_X6_changeAll_L17 {w : (Int32 × MS)} (n : Nat) : ∀ (S : MS) (a0 : Nat) (i1 : Int32) (i2 : Int32) (j3 : Int64) (i5 : Int32) (i6 : Int32) (i7 : Int32), (a0 = S.1) → m_X6_changeAll_L17 n S i1 i2 j3 i5 i6 i7 = some w → J NX yX6_changeAll cX6_changeAll 8 (some .boolean) 4 104 17 [(0, .ref a0), (1, .int i1), (2, .int i2), (3, .long j3), (5, .int i5), (6, .int i6), (7, .int i7)] [] S (some (.int w.1)) w.2 := by
  induction n with
  | zero => intro S a0 i1 i2 j3 i5 i6 i7 ha h; cases h
  | succ n lh =>
    intro S a0 i1 i2 j3 i5 i6 i7 ha h
    refine J_iload 6 dX6_changeAll_17 rfl ?_
    refine J_if_lt 58 dX6_changeAll_19 (by decide) h (fun c1 h2 => ?_) (fun c1 h2 => ?_)
    · clear h
      refine J_iload 5 dX6_changeAll_58 rfl ?_
      obtain ⟨g3, h4⟩ := gd_some h2; clear h2
      have hw := Option.some.inj h4; subst hw
      exact J_zret rfl (zb_of g3) dX6_changeAll_60
    · clear h
      refine J_iload 5 dX6_changeAll_22 rfl ?_
      refine J_if_eq 58 dX6_changeAll_24 (by decide) h2 (fun c5 h6 => ?_) (fun c5 h6 => ?_)
      · clear h2
        refine J_iload 5 dX6_changeAll_58 rfl ?_
        obtain ⟨g7, h8⟩ := gd_some h6; clear h6
        have hw := Option.some.inj h8; subst hw
        exact J_zret rfl (zb_of g7) dX6_changeAll_60
      · clear h2
        refine J_aload_n 0 dX6_changeAll_27 rfl rfl ?_
        refine J_iload_n 1 dX6_changeAll_28 rfl rfl ?_
        refine J_iload_n 2 dX6_changeAll_29 rfl rfl ?_
        refine J_iload 6 dX6_changeAll_30 rfl ?_
        refine J_iadd dX6_changeAll_32 ?_
        refine J_lload_n 3 dX6_changeAll_33 rfl rfl ?_
        refine J_aload_n 0 dX6_changeAll_34 rfl rfl ?_
        refine J_ngetA (k := 3) (o := 2) dX6_changeAll_35 gF_X6_16 ha rfl ?_
        refine J_iload_n 1 dX6_changeAll_38 rfl rfl ?_
        obtain ⟨g9, h10⟩ := gd_some h6; clear h6
        refine J_niald (k := 3) (o := 2) dX6_changeAll_39 ha rfl rfl (by decide) g9 ?_
        refine J_iload 6 dX6_changeAll_40 rfl ?_
        obtain ⟨i11_, ei11_, h12⟩ := bnd_some h10; clear h10
        refine J_callS (As := [.long j3, .int (nA S 3 (Int32.toNatClampNeg i1)), .int i7]) (rest := [.int (i2 + i7), .int i1, .ref a0]) (st' := [.int i11_, .int (i2 + i7), .int i1, .ref a0]) (t_X6_digitOf ei11_) gC_X6_digitOf gM_X6_266 rfl (by decide) (by decide) rfl rfl (Nat.le_of_ble_eq_true rfl) dX6_changeAll_42 ?_
        refine J_iload 4 dX6_changeAll_45 rfl ?_
        obtain ⟨i13_, S14, ei13_, h15⟩ := bnd2_some h12; clear h12
        have cS14 := (t_X6_change ha ei13_)
        have lS14 : jle NX S S14 := cS14.1
        have hS14_a0 : a0 = S14.1 := ha.trans (nle_eq lS14).symm
        refine J_callV (As := [.int i1, .int (i2 + i7), .int i11_, .int i5]) (rest := []) (st' := [.int i13_]) cS14 gC_X6_change gM_X6_262 (by rw [ha]; exact nRecv) rfl (by decide) (by decide) rfl rfl (Nat.le_of_ble_eq_true rfl) dX6_changeAll_47 ?_
        refine J_istore dX6_changeAll_50 (by decide) [1, 2, 3, 4, 5, 0, 6] (lv' := [(0, .ref a0), (1, .int i1), (2, .int i2), (3, .long j3), (5, .int i5), (6, .int i13_), (7, .int i7)]) rfl ?_
        refine J_iinc 6 (-1 : Int32) dX6_changeAll_52 rfl (by decide) (by decide) [1, 2, 3, 4, 5, 6, 0] (lv' := [(0, .ref a0), (1, .int i1), (2, .int i2), (3, .long j3), (5, .int i5), (6, .int i13_), (7, .int (i7 + (-1 : Int32)))]) rfl ?_
        refine J_goto 17 dX6_changeAll_55 (by decide) ?_
        exact lh S14 a0 i1 i2 j3 i5 i13_ (i7 + (-1 : Int32)) hS14_a0 h15
def m_X6_changeAll (S : MS) (i1 : Int32) (i2 : Int32) (j3 : Int64) (i5 : Int32) : Option (Int32 × MS) :=
  gd (inB i1 30) <|
  bnd (m_X6_digits j3 (nA S 3 (Int32.toNatClampNeg i1))) fun i3_ =>
  jLet ((i3_ - (1 : Int32))) fun i5_ =>
  m_X6_changeAll_L17 bigN S i1 i2 j3 i5 (1 : Int32) i5_
set_option maxRecDepth 100000 in
set_option maxHeartbeats 4000000 in
theorem t_X6_changeAll {S : MS} {a0 : Nat} {i1 : Int32} {i2 : Int32} {j3 : Int64} {i5 : Int32} {w : (Int32 × MS)} (ha : a0 = S.1) (h : m_X6_changeAll S i1 i2 j3 i5 = some w) : CT NX yX6_changeAll cX6_changeAll 8 (some .boolean) 4 104 [.ref a0, .int i1, .int i2, .long j3, .int i5] S (some (.int w.1)) w.2 := by
  refine CT.of (lv := [(0, .ref a0), (1, .int i1), (2, .int i2), (3, .long j3), (5, .int i5)]) (by decide) rfl (Nat.le_of_ble_eq_true rfl) ?_
  refine J_iconst (1 : Int32) dX6_changeAll_0 (by decide) ?_
  refine J_istore dX6_changeAll_1 (by decide) [1, 2, 3, 4, 5, 0] (lv' := [(0, .ref a0), (1, .int i1), (2, .int i2), (3, .long j3), (5, .int i5), (6, .int (1 : Int32))]) rfl ?_
  refine J_lload_n 3 dX6_changeAll_3 rfl rfl ?_
  refine J_aload_n 0 dX6_changeAll_4 rfl rfl ?_
  refine J_ngetA (k := 3) (o := 2) dX6_changeAll_5 gF_X6_16 ha rfl ?_
  refine J_iload_n 1 dX6_changeAll_8 rfl rfl ?_
  obtain ⟨g1, h2⟩ := gd_some h; clear h
  refine J_niald (k := 3) (o := 2) dX6_changeAll_9 ha rfl rfl (by decide) g1 ?_
  obtain ⟨i3_, ei3_, h4⟩ := bnd_some h2; clear h2
  refine J_callS (As := [.long j3, .int (nA S 3 (Int32.toNatClampNeg i1))]) (rest := []) (st' := [.int i3_]) (t_X6_digits ei3_) gC_X6_digits gM_X6_155 rfl (by decide) (by decide) rfl rfl (Nat.le_of_ble_eq_true rfl) dX6_changeAll_10 ?_
  refine J_iconst (1 : Int32) dX6_changeAll_13 (by decide) ?_
  refine J_isub dX6_changeAll_14 ?_
  obtain ⟨i5_, ei5_, h6⟩ := jLet_some h4; clear h4
  refine J_topI ei5_ ?_
  refine J_istore dX6_changeAll_15 (by decide) [1, 2, 3, 4, 5, 6, 0] (lv' := [(0, .ref a0), (1, .int i1), (2, .int i2), (3, .long j3), (5, .int i5), (6, .int (1 : Int32)), (7, .int i5_)]) rfl ?_
  exact t_X6_changeAll_L17 bigN S a0 i1 i2 j3 i5 (1 : Int32) i5_ ha h6
def m_X6_changeTwo (S : MS) (i1 : Int32) (i2 : Int32) (i3 : Int32) (i4 : Int32) : Option (Int32 × MS) :=
  gd (inB i1 30) <|
  gd (nz (nA S 3 (Int32.toNatClampNeg i1))) <|
  bnd2 (m_X6_change S i1 (i2 + (1 : Int32)) (i3 / (nA S 3 (Int32.toNatClampNeg i1))) i4) fun i5_ S6 =>
  if i5_ = 0 then
    (some ((0 : Int32), S6))
  else
    (gd (inB i1 30) <|
    gd (nz (nA S6 3 (Int32.toNatClampNeg i1))) <|
    bnd2 (m_X6_change S6 i1 i2 (i3 - i3 / (nA S6 3 (Int32.toNatClampNeg i1)) * (nA S6 3 (Int32.toNatClampNeg i1))) i4) fun i14_ S15 =>
    if i14_ = 0 then
      (some ((0 : Int32), S15))
    else
      (some ((1 : Int32), S15)))
set_option maxRecDepth 100000 in
set_option maxHeartbeats 4000000 in
theorem t_X6_changeTwo {S : MS} {a0 : Nat} {i1 : Int32} {i2 : Int32} {i3 : Int32} {i4 : Int32} {w : (Int32 × MS)} (ha : a0 = S.1) (h : m_X6_changeTwo S i1 i2 i3 i4 = some w) : CT NX yX6_changeTwo cX6_changeTwo 5 (some .boolean) 4 104 [.ref a0, .int i1, .int i2, .int i3, .int i4] S (some (.int w.1)) w.2 := by
  refine CT.of (lv := [(0, .ref a0), (1, .int i1), (2, .int i2), (3, .int i3), (4, .int i4)]) (by decide) rfl (Nat.le_of_ble_eq_true rfl) ?_
  refine J_aload_n 0 dX6_changeTwo_0 rfl rfl ?_
  refine J_iload_n 1 dX6_changeTwo_1 rfl rfl ?_
  refine J_iload_n 2 dX6_changeTwo_2 rfl rfl ?_
  refine J_iconst (1 : Int32) dX6_changeTwo_3 (by decide) ?_
  refine J_iadd dX6_changeTwo_4 ?_
  refine J_iload_n 3 dX6_changeTwo_5 rfl rfl ?_
  refine J_aload_n 0 dX6_changeTwo_6 rfl rfl ?_
  refine J_ngetA (k := 3) (o := 2) dX6_changeTwo_7 gF_X6_16 ha rfl ?_
  refine J_iload_n 1 dX6_changeTwo_10 rfl rfl ?_
  obtain ⟨g1, h2⟩ := gd_some h; clear h
  refine J_niald (k := 3) (o := 2) dX6_changeTwo_11 ha rfl rfl (by decide) g1 ?_
  obtain ⟨g3, h4⟩ := gd_some h2; clear h2
  refine J_idiv dX6_changeTwo_12 (nz_of g3) ?_
  refine J_iload 4 dX6_changeTwo_13 rfl ?_
  obtain ⟨i5_, S6, ei5_, h7⟩ := bnd2_some h4; clear h4
  have cS6 := (t_X6_change ha ei5_)
  have lS6 : jle NX S S6 := cS6.1
  have hS6_a0 : a0 = S6.1 := ha.trans (nle_eq lS6).symm
  refine J_callV (As := [.int i1, .int (i2 + (1 : Int32)), .int (i3 / (nA S 3 (Int32.toNatClampNeg i1))), .int i4]) (rest := []) (st' := [.int i5_]) cS6 gC_X6_change gM_X6_262 (by rw [ha]; exact nRecv) rfl (by decide) (by decide) rfl rfl (Nat.le_of_ble_eq_true rfl) dX6_changeTwo_15 ?_
  refine J_if_eq 44 dX6_changeTwo_18 (by decide) h7 (fun c8 h9 => ?_) (fun c8 h9 => ?_)
  · clear h7
    refine J_iconst (0 : Int32) dX6_changeTwo_44 (by decide) ?_
    have hw := Option.some.inj h9; subst hw
    exact J_zret rfl (by decide) dX6_changeTwo_45
  · clear h7
    refine J_aload_n 0 dX6_changeTwo_21 rfl rfl ?_
    refine J_iload_n 1 dX6_changeTwo_22 rfl rfl ?_
    refine J_iload_n 2 dX6_changeTwo_23 rfl rfl ?_
    refine J_iload_n 3 dX6_changeTwo_24 rfl rfl ?_
    refine J_aload_n 0 dX6_changeTwo_25 rfl rfl ?_
    refine J_ngetA (k := 3) (o := 2) dX6_changeTwo_26 gF_X6_16 hS6_a0 rfl ?_
    refine J_iload_n 1 dX6_changeTwo_29 rfl rfl ?_
    obtain ⟨g10, h11⟩ := gd_some h9; clear h9
    refine J_niald (k := 3) (o := 2) dX6_changeTwo_30 hS6_a0 rfl rfl (by decide) g10 ?_
    obtain ⟨g12, h13⟩ := gd_some h11; clear h11
    refine J_irem dX6_changeTwo_31 (nz_of g12) ?_
    refine J_iload 4 dX6_changeTwo_32 rfl ?_
    obtain ⟨i14_, S15, ei14_, h16⟩ := bnd2_some h13; clear h13
    have cS15 := (t_X6_change hS6_a0 ei14_)
    have lS15 : jle NX S6 S15 := cS15.1
    have hS15_a0 : a0 = S15.1 := hS6_a0.trans (nle_eq lS15).symm
    refine J_callV (As := [.int i1, .int i2, .int (i3 - i3 / (nA S6 3 (Int32.toNatClampNeg i1)) * (nA S6 3 (Int32.toNatClampNeg i1))), .int i4]) (rest := []) (st' := [.int i14_]) cS15 gC_X6_change gM_X6_262 (by rw [hS6_a0]; exact nRecv) rfl (by decide) (by decide) rfl rfl (Nat.le_of_ble_eq_true rfl) dX6_changeTwo_34 ?_
    refine J_if_eq 44 dX6_changeTwo_37 (by decide) h16 (fun c17 h18 => ?_) (fun c17 h18 => ?_)
    · clear h16
      refine J_iconst (0 : Int32) dX6_changeTwo_44 (by decide) ?_
      have hw := Option.some.inj h18; subst hw
      exact J_zret rfl (by decide) dX6_changeTwo_45
    · clear h16
      refine J_iconst (1 : Int32) dX6_changeTwo_40 (by decide) ?_
      refine J_goto 45 dX6_changeTwo_41 (by decide) ?_
      have hw := Option.some.inj h18; subst hw
      exact J_zret rfl (by decide) dX6_changeTwo_45
def m_X6_multiply_L140 (k122 : MS → Int32 → Int64 → Int64 → Int32 → Int32 → Int32 → Option (Int32 × MS)) : Nat → MS → Int32 → Int64 → Int64 → Int32 → Int32 → Int32 → Int32 → Option (Int32 × MS)
  | 0, _, _, _, _, _, _, _, _ => none
  | n + 1, S, i1, j2, j4, i6, i7, i8, i9 =>
    if i9 < 0 then
      (k122 S i1 j2 j4 i6 i7 (i8 + (-1 : Int32)))
    else
      (if i7 = 0 then
        (k122 S i1 j2 j4 i6 i7 (i8 + (-1 : Int32)))
      else
        (gd (inB i8 20) <|
        if (nA S 32 (Int32.toNatClampNeg i8)) = 0 then
          (k122 S i1 j2 j4 i6 i7 (i8 + (-1 : Int32)))
        else
          (bnd (m_X6_digitOf j2 i6 i8) fun i9_ =>
          bnd (m_X6_digitOf j4 i6 i9) fun i11_ =>
          jLet ((i9_ * i11_)) fun i13_ =>
          jLet ((Int32.toInt64 i13_)) fun j15_ =>
          gd (inB (((20 : Int32) * i8) + i9) 400) <|
          jLet (nSP S (Int32.toNatClampNeg (((20 : Int32) * i8) + i9)) j15_) fun S19 =>
          bnd2 (m_X6_changeTwo S19 i1 (i8 + i9) i13_ (1 : Int32)) fun i21_ S22 =>
          m_X6_multiply_L140 k122 n S22 i1 j2 j4 i6 i21_ i8 (i9 + (-1 : Int32)))))
set_option maxRecDepth 100000 in
set_option maxHeartbeats 4000000 in
theorem t_X6_multiply_L140 {k122 : MS → Int32 → Int64 → Int64 → Int32 → Int32 → Int32 → Option (Int32 × MS)} {w : (Int32 × MS)} (hk122 : ∀ (S : MS) (a0 : Nat) (i1 : Int32) (j2 : Int64) (j4 : Int64) (i6 : Int32) (i7 : Int32) (i8 : Int32), (a0 = S.1) → k122 S i1 j2 j4 i6 i7 i8 = some w → J NX yX6_multiply cX6_multiply 11 (some .boolean) 5 128 122 [(0, .ref a0), (1, .int i1), (2, .long j2), (4, .long j4), (6, .int i6), (7, .int i7), (8, .int i8)] [] S (some (.int w.1)) w.2) (n : Nat) : ∀ (S : MS) (a0 : Nat) (i1 : Int32) (j2 : Int64) (j4 : Int64) (i6 : Int32) (i7 : Int32) (i8 : Int32) (i9 : Int32), (a0 = S.1) → m_X6_multiply_L140 k122 n S i1 j2 j4 i6 i7 i8 i9 = some w → J NX yX6_multiply cX6_multiply 11 (some .boolean) 5 128 140 [(0, .ref a0), (1, .int i1), (2, .long j2), (4, .long j4), (6, .int i6), (7, .int i7), (8, .int i8), (9, .int i9)] [] S (some (.int w.1)) w.2 := by
  induction n with
  | zero => intro S a0 i1 j2 j4 i6 i7 i8 i9 ha h; cases h
  | succ n lh =>
    intro S a0 i1 j2 j4 i6 i7 i8 i9 ha h
    refine J_iload 7 dX6_multiply_140 rfl ?_
    refine J_if_lt 217 dX6_multiply_142 (by decide) h (fun c1 h2 => ?_) (fun c1 h2 => ?_)
    · clear h
      refine J_iinc 6 (-1 : Int32) dX6_multiply_217 rfl (by decide) (by decide) [1, 2, 3, 4, 5, 6, 0, 7] (lv' := [(0, .ref a0), (1, .int i1), (2, .long j2), (4, .long j4), (6, .int i6), (7, .int i7), (8, .int (i8 + (-1 : Int32))), (9, .int i9)]) rfl ?_
      refine J_goto 122 dX6_multiply_220 (by decide) ?_
      refine J_lv [0, 1, 2, 3, 4, 5, 6] rfl ?_
      exact hk122 S a0 i1 j2 j4 i6 i7 (i8 + (-1 : Int32)) ha h2
    · clear h
      refine J_iload 5 dX6_multiply_145 rfl ?_
      refine J_if_eq 217 dX6_multiply_147 (by decide) h2 (fun c3 h4 => ?_) (fun c3 h4 => ?_)
      · clear h2
        refine J_iinc 6 (-1 : Int32) dX6_multiply_217 rfl (by decide) (by decide) [1, 2, 3, 4, 5, 6, 0, 7] (lv' := [(0, .ref a0), (1, .int i1), (2, .long j2), (4, .long j4), (6, .int i6), (7, .int i7), (8, .int (i8 + (-1 : Int32))), (9, .int i9)]) rfl ?_
        refine J_goto 122 dX6_multiply_220 (by decide) ?_
        refine J_lv [0, 1, 2, 3, 4, 5, 6] rfl ?_
        exact hk122 S a0 i1 j2 j4 i6 i7 (i8 + (-1 : Int32)) ha h4
      · clear h2
        refine J_aload_n 0 dX6_multiply_150 rfl rfl ?_
        refine J_ngetA (k := 32) (o := 13) dX6_multiply_151 gF_X6_57 ha rfl ?_
        refine J_iload 6 dX6_multiply_154 rfl ?_
        obtain ⟨g5, h6⟩ := gd_some h4; clear h4
        refine J_nzald (k := 32) (o := 13) dX6_multiply_156 ha rfl rfl (by decide) g5 ?_
        refine J_if_eq 217 dX6_multiply_157 (by decide) h6 (fun c7 h8 => ?_) (fun c7 h8 => ?_)
        · clear h6
          refine J_iinc 6 (-1 : Int32) dX6_multiply_217 rfl (by decide) (by decide) [1, 2, 3, 4, 5, 6, 0, 7] (lv' := [(0, .ref a0), (1, .int i1), (2, .long j2), (4, .long j4), (6, .int i6), (7, .int i7), (8, .int (i8 + (-1 : Int32))), (9, .int i9)]) rfl ?_
          refine J_goto 122 dX6_multiply_220 (by decide) ?_
          refine J_lv [0, 1, 2, 3, 4, 5, 6] rfl ?_
          exact hk122 S a0 i1 j2 j4 i6 i7 (i8 + (-1 : Int32)) ha h8
        · clear h6
          refine J_lload_n 2 dX6_multiply_160 rfl rfl ?_
          refine J_iload 4 dX6_multiply_161 rfl ?_
          refine J_iload 6 dX6_multiply_163 rfl ?_
          obtain ⟨i9_, ei9_, h10⟩ := bnd_some h8; clear h8
          refine J_callS (As := [.long j2, .int i6, .int i8]) (rest := []) (st' := [.int i9_]) (t_X6_digitOf ei9_) gC_X6_digitOf gM_X6_266 rfl (by decide) (by decide) rfl rfl (Nat.le_of_ble_eq_true rfl) dX6_multiply_165 ?_
          refine J_lload 3 dX6_multiply_168 rfl ?_
          refine J_iload 4 dX6_multiply_170 rfl ?_
          refine J_iload 7 dX6_multiply_172 rfl ?_
          obtain ⟨i11_, ei11_, h12⟩ := bnd_some h10; clear h10
          refine J_callS (As := [.long j4, .int i6, .int i9]) (rest := [.int i9_]) (st' := [.int i11_, .int i9_]) (t_X6_digitOf ei11_) gC_X6_digitOf gM_X6_266 rfl (by decide) (by decide) rfl rfl (Nat.le_of_ble_eq_true rfl) dX6_multiply_174 ?_
          refine J_imul dX6_multiply_177 ?_
          obtain ⟨i13_, ei13_, h14⟩ := jLet_some h12; clear h12
          refine J_topI ei13_ ?_
          refine J_istore dX6_multiply_178 (by decide) [1, 2, 3, 4, 5, 7, 8, 0] (lv' := [(0, .ref a0), (1, .int i1), (2, .long j2), (4, .long j4), (6, .int i6), (8, .int i8), (9, .int i9), (10, .int i13_)]) rfl ?_
          refine J_aload_n 0 dX6_multiply_180 rfl rfl ?_
          refine J_ngetA (k := 33) (o := 14) dX6_multiply_181 gF_X6_61 ha rfl ?_
          refine J_bipush (20 : Int32) dX6_multiply_184 (by decide) ?_
          refine J_iload 5 dX6_multiply_186 rfl ?_
          refine J_imul dX6_multiply_188 ?_
          refine J_iload 6 dX6_multiply_189 rfl ?_
          refine J_iadd dX6_multiply_191 ?_
          refine J_iload 7 dX6_multiply_192 rfl ?_
          refine J_i2l dX6_multiply_194 ?_
          obtain ⟨j15_, ej15_, h16⟩ := jLet_some h14; clear h14
          refine J_topL ej15_ ?_
          obtain ⟨g17, h18⟩ := gd_some h16; clear h16
          refine J_nlast dX6_multiply_195 ha g17 ?_
          obtain ⟨S19, eS19, h20⟩ := jLet_some h18; clear h18
          refine J_topS eS19 ?_
          have hS19_a0 : a0 = S19.1 := by rw [eS19]; exact ha
          refine J_aload_n 0 dX6_multiply_196 rfl rfl ?_
          refine J_iload_n 1 dX6_multiply_197 rfl rfl ?_
          refine J_iload 5 dX6_multiply_198 rfl ?_
          refine J_iload 6 dX6_multiply_200 rfl ?_
          refine J_iadd dX6_multiply_202 ?_
          refine J_iload 7 dX6_multiply_203 rfl ?_
          refine J_iconst (1 : Int32) dX6_multiply_205 (by decide) ?_
          obtain ⟨i21_, S22, ei21_, h23⟩ := bnd2_some h20; clear h20
          have cS22 := (t_X6_changeTwo hS19_a0 ei21_)
          have lS22 : jle NX S19 S22 := cS22.1
          have hS22_a0 : a0 = S22.1 := hS19_a0.trans (nle_eq lS22).symm
          refine J_callV (As := [.int i1, .int (i8 + i9), .int i13_, .int (1 : Int32)]) (rest := []) (st' := [.int i21_]) cS22 gC_X6_changeTwo gM_X6_282 (by rw [hS19_a0]; exact nRecv) rfl (by decide) (by decide) rfl rfl (Nat.le_of_ble_eq_true rfl) dX6_multiply_206 ?_
          refine J_istore dX6_multiply_209 (by decide) [1, 2, 3, 4, 5, 0, 6, 7] (lv' := [(0, .ref a0), (1, .int i1), (2, .long j2), (4, .long j4), (6, .int i6), (7, .int i21_), (8, .int i8), (9, .int i9)]) rfl ?_
          refine J_iinc 7 (-1 : Int32) dX6_multiply_211 rfl (by decide) (by decide) [1, 2, 3, 4, 5, 6, 7, 0] (lv' := [(0, .ref a0), (1, .int i1), (2, .long j2), (4, .long j4), (6, .int i6), (7, .int i21_), (8, .int i8), (9, .int (i9 + (-1 : Int32)))]) rfl ?_
          refine J_goto 140 dX6_multiply_214 (by decide) ?_
          exact lh S22 a0 i1 j2 j4 i6 i21_ i8 (i9 + (-1 : Int32)) hS22_a0 h23
def m_X6_multiply_L122 : Nat → MS → Int32 → Int64 → Int64 → Int32 → Int32 → Int32 → Option (Int32 × MS)
  | 0, _, _, _, _, _, _, _ => none
  | n + 1, S, i1, j2, j4, i6, i7, i8 =>
    if i8 < 0 then
      (gd (zb i7) <|
      some (i7, S))
    else
      (if i7 = 0 then
        (gd (zb i7) <|
        some (i7, S))
      else
        (jLet (((nF S 31) - (1 : Int32))) fun i9_ =>
        m_X6_multiply_L140 (m_X6_multiply_L122 n) bigN S i1 j2 j4 i6 i7 i8 i9_))
set_option maxRecDepth 100000 in
set_option maxHeartbeats 4000000 in
theorem t_X6_multiply_L122 {w : (Int32 × MS)} (n : Nat) : ∀ (S : MS) (a0 : Nat) (i1 : Int32) (j2 : Int64) (j4 : Int64) (i6 : Int32) (i7 : Int32) (i8 : Int32), (a0 = S.1) → m_X6_multiply_L122 n S i1 j2 j4 i6 i7 i8 = some w → J NX yX6_multiply cX6_multiply 11 (some .boolean) 5 128 122 [(0, .ref a0), (1, .int i1), (2, .long j2), (4, .long j4), (6, .int i6), (7, .int i7), (8, .int i8)] [] S (some (.int w.1)) w.2 := by
  induction n with
  | zero => intro S a0 i1 j2 j4 i6 i7 i8 ha h; cases h
  | succ n lh =>
    intro S a0 i1 j2 j4 i6 i7 i8 ha h
    refine J_iload 6 dX6_multiply_122 rfl ?_
    refine J_if_lt 223 dX6_multiply_124 (by decide) h (fun c1 h2 => ?_) (fun c1 h2 => ?_)
    · clear h
      refine J_iload 5 dX6_multiply_223 rfl ?_
      obtain ⟨g3, h4⟩ := gd_some h2; clear h2
      have hw := Option.some.inj h4; subst hw
      exact J_zret rfl (zb_of g3) dX6_multiply_225
    · clear h
      refine J_iload 5 dX6_multiply_127 rfl ?_
      refine J_if_eq 223 dX6_multiply_129 (by decide) h2 (fun c5 h6 => ?_) (fun c5 h6 => ?_)
      · clear h2
        refine J_iload 5 dX6_multiply_223 rfl ?_
        obtain ⟨g7, h8⟩ := gd_some h6; clear h6
        have hw := Option.some.inj h8; subst hw
        exact J_zret rfl (zb_of g7) dX6_multiply_225
      · clear h2
        refine J_aload_n 0 dX6_multiply_132 rfl rfl ?_
        refine J_nget (k := 31) dX6_multiply_133 gF_X6_276 ha rfl ?_
        refine J_iconst (1 : Int32) dX6_multiply_136 (by decide) ?_
        refine J_isub dX6_multiply_137 ?_
        obtain ⟨i9_, ei9_, h10⟩ := jLet_some h6; clear h6
        refine J_topI ei9_ ?_
        refine J_istore dX6_multiply_138 (by decide) [1, 2, 3, 4, 5, 6, 7, 0] (lv' := [(0, .ref a0), (1, .int i1), (2, .long j2), (4, .long j4), (6, .int i6), (7, .int i7), (8, .int i8), (9, .int i9_)]) rfl ?_
        exact t_X6_multiply_L140 lh bigN S a0 i1 j2 j4 i6 i7 i8 i9_ ha h10
def m_X6_multiply_L72 (k37 : MS → Int32 → Int64 → Int64 → Int32 → Int32 → Option (Int32 × MS)) : Nat → MS → Int32 → Int64 → Int64 → Int32 → Int32 → Int32 → Option (Int32 × MS)
  | 0, _, _, _, _, _, _, _ => none
  | n + 1, S, i1, j2, j4, i6, i7, i8 =>
    if (nF S 31) ≤ i8 then
      (k37 S i1 j2 j4 i6 (i7 + (1 : Int32)))
    else
      (gd (inB (((20 : Int32) * i7) + i8) 400) <|
      jLet (nSP S (Int32.toNatClampNeg (((20 : Int32) * i7) + i8)) (0 : Int64)) fun S5 =>
      m_X6_multiply_L72 k37 n S5 i1 j2 j4 i6 i7 (i8 + (1 : Int32)))
set_option maxRecDepth 100000 in
set_option maxHeartbeats 4000000 in
theorem t_X6_multiply_L72 {k37 : MS → Int32 → Int64 → Int64 → Int32 → Int32 → Option (Int32 × MS)} {w : (Int32 × MS)} (hk37 : ∀ (S : MS) (a0 : Nat) (i1 : Int32) (j2 : Int64) (j4 : Int64) (i6 : Int32) (i7 : Int32), (a0 = S.1) → k37 S i1 j2 j4 i6 i7 = some w → J NX yX6_multiply cX6_multiply 11 (some .boolean) 5 128 37 [(0, .ref a0), (1, .int i1), (2, .long j2), (4, .long j4), (6, .int i6), (7, .int i7)] [] S (some (.int w.1)) w.2) (n : Nat) : ∀ (S : MS) (a0 : Nat) (i1 : Int32) (j2 : Int64) (j4 : Int64) (i6 : Int32) (i7 : Int32) (i8 : Int32), (a0 = S.1) → m_X6_multiply_L72 k37 n S i1 j2 j4 i6 i7 i8 = some w → J NX yX6_multiply cX6_multiply 11 (some .boolean) 5 128 72 [(0, .ref a0), (1, .int i1), (2, .long j2), (4, .long j4), (6, .int i6), (7, .int i7), (8, .int i8)] [] S (some (.int w.1)) w.2 := by
  induction n with
  | zero => intro S a0 i1 j2 j4 i6 i7 i8 ha h; cases h
  | succ n lh =>
    intro S a0 i1 j2 j4 i6 i7 i8 ha h
    refine J_iload 6 dX6_multiply_72 rfl ?_
    refine J_aload_n 0 dX6_multiply_74 rfl rfl ?_
    refine J_nget (k := 31) dX6_multiply_75 gF_X6_276 ha rfl ?_
    refine J_icmp_ge 101 dX6_multiply_78 (by decide) h (fun c1 h2 => ?_) (fun c1 h2 => ?_)
    · clear h
      refine J_iinc 5 (1 : Int32) dX6_multiply_101 rfl (by decide) (by decide) [1, 2, 3, 4, 5, 0, 6] (lv' := [(0, .ref a0), (1, .int i1), (2, .long j2), (4, .long j4), (6, .int i6), (7, .int (i7 + (1 : Int32))), (8, .int i8)]) rfl ?_
      refine J_goto 37 dX6_multiply_104 (by decide) ?_
      refine J_lv [0, 1, 2, 3, 4, 5] rfl ?_
      exact hk37 S a0 i1 j2 j4 i6 (i7 + (1 : Int32)) ha h2
    · clear h
      refine J_aload_n 0 dX6_multiply_81 rfl rfl ?_
      refine J_ngetA (k := 33) (o := 14) dX6_multiply_82 gF_X6_61 ha rfl ?_
      refine J_bipush (20 : Int32) dX6_multiply_85 (by decide) ?_
      refine J_iload 5 dX6_multiply_87 rfl ?_
      refine J_imul dX6_multiply_89 ?_
      refine J_iload 6 dX6_multiply_90 rfl ?_
      refine J_iadd dX6_multiply_92 ?_
      refine J_lconst (0 : Int64) dX6_multiply_93 (by decide) ?_
      obtain ⟨g3, h4⟩ := gd_some h2; clear h2
      refine J_nlast dX6_multiply_94 ha g3 ?_
      obtain ⟨S5, eS5, h6⟩ := jLet_some h4; clear h4
      refine J_topS eS5 ?_
      have hS5_a0 : a0 = S5.1 := by rw [eS5]; exact ha
      refine J_iinc 6 (1 : Int32) dX6_multiply_95 rfl (by decide) (by decide) [1, 2, 3, 4, 5, 6, 0] (lv' := [(0, .ref a0), (1, .int i1), (2, .long j2), (4, .long j4), (6, .int i6), (7, .int i7), (8, .int (i8 + (1 : Int32)))]) rfl ?_
      refine J_goto 72 dX6_multiply_98 (by decide) ?_
      exact lh S5 a0 i1 j2 j4 i6 i7 (i8 + (1 : Int32)) hS5_a0 h6
def m_X6_multiply_L37 : Nat → MS → Int32 → Int64 → Int64 → Int32 → Int32 → Option (Int32 × MS)
  | 0, _, _, _, _, _, _ => none
  | n + 1, S, i1, j2, j4, i6, i7 =>
    if (nF S 30) ≤ i7 then
      (bnd2 (m_X6_clear S i1) fun i3_ S4 =>
      jLet (((nF S4 30) - (1 : Int32))) fun i6_ =>
      m_X6_multiply_L122 bigN S4 i1 j2 j4 i6 i3_ i6_)
    else
      (bnd (m_X6_digitOf j2 i6 i7) fun i8_ =>
      if i8_ ≤ 0 then
        (gd (inB i7 20) <|
        jLet (nSA S 32 (Int32.toNatClampNeg i7) (0 : Int32)) fun S14 =>
        m_X6_multiply_L72 (m_X6_multiply_L37 n) bigN S14 i1 j2 j4 i6 i7 (0 : Int32))
      else
        (gd (inB i7 20) <|
        jLet (nSA S 32 (Int32.toNatClampNeg i7) (1 : Int32)) fun S18 =>
        m_X6_multiply_L72 (m_X6_multiply_L37 n) bigN S18 i1 j2 j4 i6 i7 (0 : Int32)))
set_option maxRecDepth 100000 in
set_option maxHeartbeats 4000000 in
theorem t_X6_multiply_L37 {w : (Int32 × MS)} (n : Nat) : ∀ (S : MS) (a0 : Nat) (i1 : Int32) (j2 : Int64) (j4 : Int64) (i6 : Int32) (i7 : Int32), (a0 = S.1) → m_X6_multiply_L37 n S i1 j2 j4 i6 i7 = some w → J NX yX6_multiply cX6_multiply 11 (some .boolean) 5 128 37 [(0, .ref a0), (1, .int i1), (2, .long j2), (4, .long j4), (6, .int i6), (7, .int i7)] [] S (some (.int w.1)) w.2 := by
  induction n with
  | zero => intro S a0 i1 j2 j4 i6 i7 ha h; cases h
  | succ n lh =>
    intro S a0 i1 j2 j4 i6 i7 ha h
    refine J_iload 5 dX6_multiply_37 rfl ?_
    refine J_aload_n 0 dX6_multiply_39 rfl rfl ?_
    refine J_nget (k := 30) dX6_multiply_40 gF_X6_273 ha rfl ?_
    refine J_icmp_ge 107 dX6_multiply_43 (by decide) h (fun c1 h2 => ?_) (fun c1 h2 => ?_)
    · clear h
      refine J_aload_n 0 dX6_multiply_107 rfl rfl ?_
      refine J_iload_n 1 dX6_multiply_108 rfl rfl ?_
      obtain ⟨i3_, S4, ei3_, h5⟩ := bnd2_some h2; clear h2
      have cS4 := (t_X6_clear ha ei3_)
      have lS4 : jle NX S S4 := cS4.1
      have hS4_a0 : a0 = S4.1 := ha.trans (nle_eq lS4).symm
      refine J_callV (As := [.int i1]) (rest := []) (st' := [.int i3_]) cS4 gC_X6_clear gM_X6_279 (by rw [ha]; exact nRecv) rfl (by decide) (by decide) rfl rfl (Nat.le_of_ble_eq_true rfl) dX6_multiply_109 ?_
      refine J_istore dX6_multiply_112 (by decide) [1, 2, 3, 4, 5, 0] (lv' := [(0, .ref a0), (1, .int i1), (2, .long j2), (4, .long j4), (6, .int i6), (7, .int i3_)]) rfl ?_
      refine J_aload_n 0 dX6_multiply_114 rfl rfl ?_
      refine J_nget (k := 30) dX6_multiply_115 gF_X6_273 hS4_a0 rfl ?_
      refine J_iconst (1 : Int32) dX6_multiply_118 (by decide) ?_
      refine J_isub dX6_multiply_119 ?_
      obtain ⟨i6_, ei6_, h7⟩ := jLet_some h5; clear h5
      refine J_topI ei6_ ?_
      refine J_istore dX6_multiply_120 (by decide) [1, 2, 3, 4, 5, 6, 0] (lv' := [(0, .ref a0), (1, .int i1), (2, .long j2), (4, .long j4), (6, .int i6), (7, .int i3_), (8, .int i6_)]) rfl ?_
      exact t_X6_multiply_L122 bigN S4 a0 i1 j2 j4 i6 i3_ i6_ hS4_a0 h7
    · clear h
      refine J_aload_n 0 dX6_multiply_46 rfl rfl ?_
      refine J_ngetA (k := 32) (o := 13) dX6_multiply_47 gF_X6_57 ha rfl ?_
      refine J_iload 5 dX6_multiply_50 rfl ?_
      refine J_lload_n 2 dX6_multiply_52 rfl rfl ?_
      refine J_iload 4 dX6_multiply_53 rfl ?_
      refine J_iload 5 dX6_multiply_55 rfl ?_
      obtain ⟨i8_, ei8_, h9⟩ := bnd_some h2; clear h2
      refine J_callS (As := [.long j2, .int i6, .int i7]) (rest := [.int i7, .ref (a0 + 14)]) (st' := [.int i8_, .int i7, .ref (a0 + 14)]) (t_X6_digitOf ei8_) gC_X6_digitOf gM_X6_266 rfl (by decide) (by decide) rfl rfl (Nat.le_of_ble_eq_true rfl) dX6_multiply_57 ?_
      refine J_if_le 67 dX6_multiply_60 (by decide) h9 (fun c10 h11 => ?_) (fun c10 h11 => ?_)
      · clear h9
        refine J_iconst (0 : Int32) dX6_multiply_67 (by decide) ?_
        obtain ⟨g12, h13⟩ := gd_some h11; clear h11
        refine J_nzast (k := 32) (o := 13) dX6_multiply_68 ha rfl rfl (by decide) (by decide) g12 ?_
        obtain ⟨S14, eS14, h15⟩ := jLet_some h13; clear h13
        refine J_topS eS14 ?_
        have hS14_a0 : a0 = S14.1 := by rw [eS14]; exact ha
        refine J_iconst (0 : Int32) dX6_multiply_69 (by decide) ?_
        refine J_istore dX6_multiply_70 (by decide) [1, 2, 3, 4, 5, 6, 0] (lv' := [(0, .ref a0), (1, .int i1), (2, .long j2), (4, .long j4), (6, .int i6), (7, .int i7), (8, .int (0 : Int32))]) rfl ?_
        exact t_X6_multiply_L72 lh bigN S14 a0 i1 j2 j4 i6 i7 (0 : Int32) hS14_a0 h15
      · clear h9
        refine J_iconst (1 : Int32) dX6_multiply_63 (by decide) ?_
        refine J_goto 68 dX6_multiply_64 (by decide) ?_
        obtain ⟨g16, h17⟩ := gd_some h11; clear h11
        refine J_nzast (k := 32) (o := 13) dX6_multiply_68 ha rfl rfl (by decide) (by decide) g16 ?_
        obtain ⟨S18, eS18, h19⟩ := jLet_some h17; clear h17
        refine J_topS eS18 ?_
        have hS18_a0 : a0 = S18.1 := by rw [eS18]; exact ha
        refine J_iconst (0 : Int32) dX6_multiply_69 (by decide) ?_
        refine J_istore dX6_multiply_70 (by decide) [1, 2, 3, 4, 5, 6, 0] (lv' := [(0, .ref a0), (1, .int i1), (2, .long j2), (4, .long j4), (6, .int i6), (7, .int i7), (8, .int (0 : Int32))]) rfl ?_
        exact t_X6_multiply_L72 lh bigN S18 a0 i1 j2 j4 i6 i7 (0 : Int32) hS18_a0 h19
def m_X6_multiply (S : MS) (i1 : Int32) (j2 : Int64) (j4 : Int64) : Option (Int32 × MS) :=
  gd (inB i1 30) <|
  jLet ((nA S 3 (Int32.toNatClampNeg i1))) fun i3_ =>
  jLet (nSF S 29 (1 : Int32)) fun S5 =>
  bnd (m_X6_digits j2 i3_) fun i7_ =>
  jLet (nSF S5 30 i7_) fun S9 =>
  bnd (m_X6_digits j4 i3_) fun i11_ =>
  jLet (nSF S9 31 i11_) fun S13 =>
  m_X6_multiply_L37 bigN S13 i1 j2 j4 i3_ (0 : Int32)
set_option maxRecDepth 100000 in
set_option maxHeartbeats 4000000 in
theorem t_X6_multiply {S : MS} {a0 : Nat} {i1 : Int32} {j2 : Int64} {j4 : Int64} {w : (Int32 × MS)} (ha : a0 = S.1) (h : m_X6_multiply S i1 j2 j4 = some w) : CT NX yX6_multiply cX6_multiply 11 (some .boolean) 5 128 [.ref a0, .int i1, .long j2, .long j4] S (some (.int w.1)) w.2 := by
  refine CT.of (lv := [(0, .ref a0), (1, .int i1), (2, .long j2), (4, .long j4)]) (by decide) rfl (Nat.le_of_ble_eq_true rfl) ?_
  refine J_aload_n 0 dX6_multiply_0 rfl rfl ?_
  refine J_ngetA (k := 3) (o := 2) dX6_multiply_1 gF_X6_16 ha rfl ?_
  refine J_iload_n 1 dX6_multiply_4 rfl rfl ?_
  obtain ⟨g1, h2⟩ := gd_some h; clear h
  refine J_niald (k := 3) (o := 2) dX6_multiply_5 ha rfl rfl (by decide) g1 ?_
  obtain ⟨i3_, ei3_, h4⟩ := jLet_some h2; clear h2
  refine J_topI ei3_ ?_
  refine J_istore dX6_multiply_6 (by decide) [1, 2, 3, 4, 0] (lv' := [(0, .ref a0), (1, .int i1), (2, .long j2), (4, .long j4), (6, .int i3_)]) rfl ?_
  refine J_aload_n 0 dX6_multiply_8 rfl rfl ?_
  refine J_iconst (1 : Int32) dX6_multiply_9 (by decide) ?_
  refine J_nputZ (k := 29) dX6_multiply_10 gW_X6_270 ha rfl rfl (by decide) ?_
  obtain ⟨S5, eS5, h6⟩ := jLet_some h4; clear h4
  refine J_topS eS5 ?_
  have hS5_a0 : a0 = S5.1 := by rw [eS5]; exact ha
  refine J_aload_n 0 dX6_multiply_13 rfl rfl ?_
  refine J_lload_n 2 dX6_multiply_14 rfl rfl ?_
  refine J_iload 4 dX6_multiply_15 rfl ?_
  obtain ⟨i7_, ei7_, h8⟩ := bnd_some h6; clear h6
  refine J_callS (As := [.long j2, .int i3_]) (rest := [.ref a0]) (st' := [.int i7_, .ref a0]) (t_X6_digits ei7_) gC_X6_digits gM_X6_155 rfl (by decide) (by decide) rfl rfl (Nat.le_of_ble_eq_true rfl) dX6_multiply_17 ?_
  refine J_nput (k := 30) dX6_multiply_20 gW_X6_273 hS5_a0 rfl rfl ?_
  obtain ⟨S9, eS9, h10⟩ := jLet_some h8; clear h8
  refine J_topS eS9 ?_
  have hS9_a0 : a0 = S9.1 := by rw [eS9]; exact hS5_a0
  refine J_aload_n 0 dX6_multiply_23 rfl rfl ?_
  refine J_lload 3 dX6_multiply_24 rfl ?_
  refine J_iload 4 dX6_multiply_26 rfl ?_
  obtain ⟨i11_, ei11_, h12⟩ := bnd_some h10; clear h10
  refine J_callS (As := [.long j4, .int i3_]) (rest := [.ref a0]) (st' := [.int i11_, .ref a0]) (t_X6_digits ei11_) gC_X6_digits gM_X6_155 rfl (by decide) (by decide) rfl rfl (Nat.le_of_ble_eq_true rfl) dX6_multiply_28 ?_
  refine J_nput (k := 31) dX6_multiply_31 gW_X6_276 hS9_a0 rfl rfl ?_
  obtain ⟨S13, eS13, h14⟩ := jLet_some h12; clear h12
  refine J_topS eS13 ?_
  have hS13_a0 : a0 = S13.1 := by rw [eS13]; exact hS9_a0
  refine J_iconst (0 : Int32) dX6_multiply_34 (by decide) ?_
  refine J_istore dX6_multiply_35 (by decide) [1, 2, 3, 4, 5, 0] (lv' := [(0, .ref a0), (1, .int i1), (2, .long j2), (4, .long j4), (6, .int i3_), (7, .int (0 : Int32))]) rfl ?_
  exact t_X6_multiply_L37 bigN S13 a0 i1 j2 j4 i3_ (0 : Int32) hS13_a0 h14
def m_X6_sum (S : MS) (i1 : Int32) (j2 : Int64) (i4 : Int32) : Option (Int32 × MS) :=
  bnd (m_X6_isFrame S i1) fun i1_ =>
  if i1_ = 0 then
    (some ((-1 : Int32), S))
  else
    (if (0 : Int64) ≤ j2 then
      (bnd (m_X6_isProper S i1) fun i7_ =>
      if i7_ = 0 then
        (some ((-3 : Int32), S))
      else
        (bnd (m_X6_start S i1) fun S11 =>
        bnd2 (m_X6_changeAll S11 i1 (0 : Int32) j2 i4) fun i13_ S14 =>
        bnd2 (m_X6_ended S14 i13_) fun i16_ S17 =>
        some (i16_, S17)))
    else
      (some ((-2 : Int32), S)))
set_option maxRecDepth 100000 in
set_option maxHeartbeats 4000000 in
theorem t_X6_sum {S : MS} {a0 : Nat} {i1 : Int32} {j2 : Int64} {i4 : Int32} {w : (Int32 × MS)} (ha : a0 = S.1) (h : m_X6_sum S i1 j2 i4 = some w) : CT NX yX6_sum cX6_sum 5 (some .int) 5 131 [.ref a0, .int i1, .long j2, .int i4] S (some (.int w.1)) w.2 := by
  refine CT.of (lv := [(0, .ref a0), (1, .int i1), (2, .long j2), (4, .int i4)]) (by decide) rfl (Nat.le_of_ble_eq_true rfl) ?_
  refine J_aload_n 0 dX6_sum_0 rfl rfl ?_
  refine J_iload_n 1 dX6_sum_1 rfl rfl ?_
  obtain ⟨i1_, ei1_, h2⟩ := bnd_some h; clear h
  refine J_callV (As := [.int i1]) (rest := []) (st' := [.int i1_]) (t_X6_isFrame ha ei1_) gC_X6_isFrame gM_X6_129 (by rw [ha]; exact nRecv) rfl (by decide) (by decide) rfl rfl (Nat.le_of_ble_eq_true rfl) dX6_sum_2 ?_
  refine J_if_ne 10 dX6_sum_5 (by decide) h2 (fun c3 h4 => ?_) (fun c3 h4 => ?_)
  · clear h2
    refine J_iconst (-1 : Int32) dX6_sum_8 (by decide) ?_
    have hw := Option.some.inj h4; subst hw
    exact J_iret rfl dX6_sum_9
  · clear h2
    refine J_lload_n 2 dX6_sum_10 rfl rfl ?_
    refine J_lconst (0 : Int64) dX6_sum_11 (by decide) ?_
    refine J_lcmp_ge 19 dX6_sum_12 dX6_sum_13 (by decide) h4 (fun c5 h6 => ?_) (fun c5 h6 => ?_)
    · clear h4
      refine J_aload_n 0 dX6_sum_19 rfl rfl ?_
      refine J_iload_n 1 dX6_sum_20 rfl rfl ?_
      obtain ⟨i7_, ei7_, h8⟩ := bnd_some h6; clear h6
      refine J_callV (As := [.int i1]) (rest := []) (st' := [.int i7_]) (t_X6_isProper ha ei7_) gC_X6_isProper gM_X6_163 (by rw [ha]; exact nRecv) rfl (by decide) (by decide) rfl rfl (Nat.le_of_ble_eq_true rfl) dX6_sum_21 ?_
      refine J_if_ne 30 dX6_sum_24 (by decide) h8 (fun c9 h10 => ?_) (fun c9 h10 => ?_)
      · clear h8
        refine J_bipush (-3 : Int32) dX6_sum_27 (by decide) ?_
        have hw := Option.some.inj h10; subst hw
        exact J_iret rfl dX6_sum_29
      · clear h8
        refine J_aload_n 0 dX6_sum_30 rfl rfl ?_
        refine J_iload_n 1 dX6_sum_31 rfl rfl ?_
        obtain ⟨S11, eS11, h12⟩ := bnd_some h10; clear h10
        have cS11 := (t_X6_start ha eS11)
        have lS11 : jle NX S S11 := cS11.1
        have hS11_a0 : a0 = S11.1 := ha.trans (nle_eq lS11).symm
        refine J_callV (As := [.int i1]) (rest := []) (st' := []) cS11 gC_X6_start gM_X6_285 (by rw [ha]; exact nRecv) rfl (by decide) (by decide) rfl rfl (Nat.le_of_ble_eq_true rfl) dX6_sum_32 ?_
        refine J_aload_n 0 dX6_sum_35 rfl rfl ?_
        refine J_aload_n 0 dX6_sum_36 rfl rfl ?_
        refine J_iload_n 1 dX6_sum_37 rfl rfl ?_
        refine J_iconst (0 : Int32) dX6_sum_38 (by decide) ?_
        refine J_lload_n 2 dX6_sum_39 rfl rfl ?_
        refine J_iload 3 dX6_sum_40 rfl ?_
        obtain ⟨i13_, S14, ei13_, h15⟩ := bnd2_some h12; clear h12
        have cS14 := (t_X6_changeAll hS11_a0 ei13_)
        have lS14 : jle NX S11 S14 := cS14.1
        have hS14_a0 : a0 = S14.1 := hS11_a0.trans (nle_eq lS14).symm
        refine J_callV (As := [.int i1, .int (0 : Int32), .long j2, .int i4]) (rest := [.ref a0]) (st' := [.int i13_, .ref a0]) cS14 gC_X6_changeAll gM_X6_288 (by rw [hS11_a0]; exact nRecv) rfl (by decide) (by decide) rfl rfl (Nat.le_of_ble_eq_true rfl) dX6_sum_42 ?_
        obtain ⟨i16_, S17, ei16_, h18⟩ := bnd2_some h15; clear h15
        have cS17 := (t_X6_ended hS14_a0 ei16_)
        have lS17 : jle NX S14 S17 := cS17.1
        have hS17_a0 : a0 = S17.1 := hS14_a0.trans (nle_eq lS17).symm
        refine J_callV (As := [.int i13_]) (rest := []) (st' := [.int i16_]) cS17 gC_X6_ended gM_X6_292 (by rw [hS14_a0]; exact nRecv) rfl (by decide) (by decide) rfl rfl (Nat.le_of_ble_eq_true rfl) dX6_sum_45 ?_
        have hw := Option.some.inj h18; subst hw
        exact J_iret rfl dX6_sum_48
    · clear h4
      refine J_bipush (-2 : Int32) dX6_sum_16 (by decide) ?_
      have hw := Option.some.inj h6; subst hw
      exact J_iret rfl dX6_sum_18
def m_X6_add (S : MS) (i1 : Int32) (j2 : Int64) : Option (Int32 × MS) :=
  bnd2 (m_X6_sum S i1 j2 (1 : Int32)) fun i1_ S2 =>
  some (i1_, S2)
set_option maxRecDepth 100000 in
set_option maxHeartbeats 4000000 in
theorem t_X6_add {S : MS} {a0 : Nat} {i1 : Int32} {j2 : Int64} {w : (Int32 × MS)} (ha : a0 = S.1) (h : m_X6_add S i1 j2 = some w) : CT NX yX6_add cX6_add 4 (some .int) 6 155 [.ref a0, .int i1, .long j2] S (some (.int w.1)) w.2 := by
  refine CT.of (lv := [(0, .ref a0), (1, .int i1), (2, .long j2)]) (by decide) rfl (Nat.le_of_ble_eq_true rfl) ?_
  refine J_aload_n 0 dX6_add_0 rfl rfl ?_
  refine J_iload_n 1 dX6_add_1 rfl rfl ?_
  refine J_lload_n 2 dX6_add_2 rfl rfl ?_
  refine J_iconst (1 : Int32) dX6_add_3 (by decide) ?_
  obtain ⟨i1_, S2, ei1_, h3⟩ := bnd2_some h; clear h
  have cS2 := (t_X6_sum ha ei1_)
  have lS2 : jle NX S S2 := cS2.1
  have hS2_a0 : a0 = S2.1 := ha.trans (nle_eq lS2).symm
  refine J_callV (As := [.int i1, .long j2, .int (1 : Int32)]) (rest := []) (st' := [.int i1_]) cS2 gC_X6_sum gM_X6_296 (by rw [ha]; exact nRecv) rfl (by decide) (by decide) rfl rfl (Nat.le_of_ble_eq_true rfl) dX6_add_4 ?_
  have hw := Option.some.inj h3; subst hw
  exact J_iret rfl dX6_add_7
def m_X6_less (S : MS) (i1 : Int32) (j2 : Int64) : Option (Int32 × MS) :=
  bnd2 (m_X6_sum S i1 j2 (-1 : Int32)) fun i1_ S2 =>
  some (i1_, S2)
set_option maxRecDepth 100000 in
set_option maxHeartbeats 4000000 in
theorem t_X6_less {S : MS} {a0 : Nat} {i1 : Int32} {j2 : Int64} {w : (Int32 × MS)} (ha : a0 = S.1) (h : m_X6_less S i1 j2 = some w) : CT NX yX6_less cX6_less 4 (some .int) 6 155 [.ref a0, .int i1, .long j2] S (some (.int w.1)) w.2 := by
  refine CT.of (lv := [(0, .ref a0), (1, .int i1), (2, .long j2)]) (by decide) rfl (Nat.le_of_ble_eq_true rfl) ?_
  refine J_aload_n 0 dX6_less_0 rfl rfl ?_
  refine J_iload_n 1 dX6_less_1 rfl rfl ?_
  refine J_lload_n 2 dX6_less_2 rfl rfl ?_
  refine J_iconst (-1 : Int32) dX6_less_3 (by decide) ?_
  obtain ⟨i1_, S2, ei1_, h3⟩ := bnd2_some h; clear h
  have cS2 := (t_X6_sum ha ei1_)
  have lS2 : jle NX S S2 := cS2.1
  have hS2_a0 : a0 = S2.1 := ha.trans (nle_eq lS2).symm
  refine J_callV (As := [.int i1, .long j2, .int (-1 : Int32)]) (rest := []) (st' := [.int i1_]) cS2 gC_X6_sum gM_X6_296 (by rw [ha]; exact nRecv) rfl (by decide) (by decide) rfl rfl (Nat.le_of_ble_eq_true rfl) dX6_less_4 ?_
  have hw := Option.some.inj h3; subst hw
  exact J_iret rfl dX6_less_7
def m_X6_times (S : MS) (i1 : Int32) (j2 : Int64) : Option (Int32 × MS) :=
  bnd (m_X6_isFrame S i1) fun i1_ =>
  if i1_ = 0 then
    (some ((-1 : Int32), S))
  else
    (if (0 : Int64) ≤ j2 then
      (bnd (m_X6_isProper S i1) fun i7_ =>
      if i7_ = 0 then
        (some ((-3 : Int32), S))
      else
        (bnd2 (m_X6_shown S i1) fun j11_ S12 =>
        if (nF S12 16) ≤ 0 then
          (bnd (m_X6_start S12 i1) fun S16 =>
          bnd2 (m_X6_multiply S16 i1 j11_ j2) fun i18_ S19 =>
          bnd2 (m_X6_ended S19 i18_) fun i21_ S22 =>
          some (i21_, S22))
        else
          (bnd2 (m_X6_meets S12 (nF S12 16)) fun i24_ S25 =>
          some (i24_, S25))))
    else
      (some ((-2 : Int32), S)))
set_option maxRecDepth 100000 in
set_option maxHeartbeats 4000000 in
theorem t_X6_times {S : MS} {a0 : Nat} {i1 : Int32} {j2 : Int64} {w : (Int32 × MS)} (ha : a0 = S.1) (h : m_X6_times S i1 j2 = some w) : CT NX yX6_times cX6_times 6 (some .int) 6 158 [.ref a0, .int i1, .long j2] S (some (.int w.1)) w.2 := by
  refine CT.of (lv := [(0, .ref a0), (1, .int i1), (2, .long j2)]) (by decide) rfl (Nat.le_of_ble_eq_true rfl) ?_
  refine J_aload_n 0 dX6_times_0 rfl rfl ?_
  refine J_iload_n 1 dX6_times_1 rfl rfl ?_
  obtain ⟨i1_, ei1_, h2⟩ := bnd_some h; clear h
  refine J_callV (As := [.int i1]) (rest := []) (st' := [.int i1_]) (t_X6_isFrame ha ei1_) gC_X6_isFrame gM_X6_129 (by rw [ha]; exact nRecv) rfl (by decide) (by decide) rfl rfl (Nat.le_of_ble_eq_true rfl) dX6_times_2 ?_
  refine J_if_ne 10 dX6_times_5 (by decide) h2 (fun c3 h4 => ?_) (fun c3 h4 => ?_)
  · clear h2
    refine J_iconst (-1 : Int32) dX6_times_8 (by decide) ?_
    have hw := Option.some.inj h4; subst hw
    exact J_iret rfl dX6_times_9
  · clear h2
    refine J_lload_n 2 dX6_times_10 rfl rfl ?_
    refine J_lconst (0 : Int64) dX6_times_11 (by decide) ?_
    refine J_lcmp_ge 19 dX6_times_12 dX6_times_13 (by decide) h4 (fun c5 h6 => ?_) (fun c5 h6 => ?_)
    · clear h4
      refine J_aload_n 0 dX6_times_19 rfl rfl ?_
      refine J_iload_n 1 dX6_times_20 rfl rfl ?_
      obtain ⟨i7_, ei7_, h8⟩ := bnd_some h6; clear h6
      refine J_callV (As := [.int i1]) (rest := []) (st' := [.int i7_]) (t_X6_isProper ha ei7_) gC_X6_isProper gM_X6_163 (by rw [ha]; exact nRecv) rfl (by decide) (by decide) rfl rfl (Nat.le_of_ble_eq_true rfl) dX6_times_21 ?_
      refine J_if_ne 30 dX6_times_24 (by decide) h8 (fun c9 h10 => ?_) (fun c9 h10 => ?_)
      · clear h8
        refine J_bipush (-3 : Int32) dX6_times_27 (by decide) ?_
        have hw := Option.some.inj h10; subst hw
        exact J_iret rfl dX6_times_29
      · clear h8
        refine J_aload_n 0 dX6_times_30 rfl rfl ?_
        refine J_iload_n 1 dX6_times_31 rfl rfl ?_
        obtain ⟨j11_, S12, ej11_, h13⟩ := bnd2_some h10; clear h10
        have cS12 := (t_X6_shown ha ej11_)
        have lS12 : jle NX S S12 := cS12.1
        have hS12_a0 : a0 = S12.1 := ha.trans (nle_eq lS12).symm
        refine J_callV (As := [.int i1]) (rest := []) (st' := [.long j11_]) cS12 gC_X6_shown gM_X6_148 (by rw [ha]; exact nRecv) rfl (by decide) (by decide) rfl rfl (Nat.le_of_ble_eq_true rfl) dX6_times_32 ?_
        refine J_lstore dX6_times_35 (by decide) [1, 2, 3, 0] (lv' := [(0, .ref a0), (1, .int i1), (2, .long j2), (4, .long j11_)]) rfl ?_
        refine J_aload_n 0 dX6_times_37 rfl rfl ?_
        refine J_nget (k := 16) dX6_times_38 gF_X6_124 hS12_a0 rfl ?_
        refine J_if_le 53 dX6_times_41 (by decide) h13 (fun c14 h15 => ?_) (fun c14 h15 => ?_)
        · clear h13
          refine J_aload_n 0 dX6_times_53 rfl rfl ?_
          refine J_iload_n 1 dX6_times_54 rfl rfl ?_
          obtain ⟨S16, eS16, h17⟩ := bnd_some h15; clear h15
          have cS16 := (t_X6_start hS12_a0 eS16)
          have lS16 : jle NX S12 S16 := cS16.1
          have hS16_a0 : a0 = S16.1 := hS12_a0.trans (nle_eq lS16).symm
          refine J_callV (As := [.int i1]) (rest := []) (st' := []) cS16 gC_X6_start gM_X6_285 (by rw [hS12_a0]; exact nRecv) rfl (by decide) (by decide) rfl rfl (Nat.le_of_ble_eq_true rfl) dX6_times_55 ?_
          refine J_aload_n 0 dX6_times_58 rfl rfl ?_
          refine J_aload_n 0 dX6_times_59 rfl rfl ?_
          refine J_iload_n 1 dX6_times_60 rfl rfl ?_
          refine J_lload 3 dX6_times_61 rfl ?_
          refine J_lload_n 2 dX6_times_63 rfl rfl ?_
          obtain ⟨i18_, S19, ei18_, h20⟩ := bnd2_some h17; clear h17
          have cS19 := (t_X6_multiply hS16_a0 ei18_)
          have lS19 : jle NX S16 S19 := cS19.1
          have hS19_a0 : a0 = S19.1 := hS16_a0.trans (nle_eq lS19).symm
          refine J_callV (As := [.int i1, .long j11_, .long j2]) (rest := [.ref a0]) (st' := [.int i18_, .ref a0]) cS19 gC_X6_multiply gM_X6_300 (by rw [hS16_a0]; exact nRecv) rfl (by decide) (by decide) rfl rfl (Nat.le_of_ble_eq_true rfl) dX6_times_64 ?_
          obtain ⟨i21_, S22, ei21_, h23⟩ := bnd2_some h20; clear h20
          have cS22 := (t_X6_ended hS19_a0 ei21_)
          have lS22 : jle NX S19 S22 := cS22.1
          have hS22_a0 : a0 = S22.1 := hS19_a0.trans (nle_eq lS22).symm
          refine J_callV (As := [.int i18_]) (rest := []) (st' := [.int i21_]) cS22 gC_X6_ended gM_X6_292 (by rw [hS19_a0]; exact nRecv) rfl (by decide) (by decide) rfl rfl (Nat.le_of_ble_eq_true rfl) dX6_times_67 ?_
          have hw := Option.some.inj h23; subst hw
          exact J_iret rfl dX6_times_70
        · clear h13
          refine J_aload_n 0 dX6_times_44 rfl rfl ?_
          refine J_aload_n 0 dX6_times_45 rfl rfl ?_
          refine J_nget (k := 16) dX6_times_46 gF_X6_124 hS12_a0 rfl ?_
          obtain ⟨i24_, S25, ei24_, h26⟩ := bnd2_some h15; clear h15
          have cS25 := (t_X6_meets hS12_a0 ei24_)
          have lS25 : jle NX S12 S25 := cS25.1
          have hS25_a0 : a0 = S25.1 := hS12_a0.trans (nle_eq lS25).symm
          refine J_callV (As := [.int (nF S12 16)]) (rest := []) (st' := [.int i24_]) cS25 gC_X6_meets gM_X6_102 (by rw [hS12_a0]; exact nRecv) rfl (by decide) (by decide) rfl rfl (Nat.le_of_ble_eq_true rfl) dX6_times_49 ?_
          have hw := Option.some.inj h26; subst hw
          exact J_iret rfl dX6_times_52
    · clear h4
      refine J_bipush (-2 : Int32) dX6_times_16 (by decide) ?_
      have hw := Option.some.inj h6; subst hw
      exact J_iret rfl dX6_times_18
