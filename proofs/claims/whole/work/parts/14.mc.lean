def m_X6_askedCarry (S : MS) (i1 : Int32) : Option (Int32 × MS) :=
  jLet (nSA S 17 (Int32.toNatClampNeg (0 : Int32)) i1) fun S1 =>
  m_X6_askedCarry_L11 bigN S1 (1 : Int32) (0 : Int32)
set_option maxRecDepth 100000 in
set_option maxHeartbeats 4000000 in
theorem t_X6_askedCarry {S : MS} {a0 : Nat} {i1 : Int32} {w : (Int32 × MS)} (ha : a0 = S.1) (h : m_X6_askedCarry S i1 = some w) : CT NX yX6_askedCarry cX6_askedCarry 5 (some .int) 2 43 [.ref a0, .int i1] S (some (.int w.1)) w.2 := by
  refine CT.of (lv := [(0, .ref a0), (1, .int i1)]) (by decide) rfl (Nat.le_of_ble_eq_true rfl) ?_
  refine J_iconst (1 : Int32) dX6_askedCarry_0 (by decide) ?_
  refine J_istore_n dX6_askedCarry_1 rfl (by decide) [1, 2, 0] (lv' := [(0, .ref a0), (1, .int i1), (2, .int (1 : Int32))]) rfl ?_
  refine J_iconst (0 : Int32) dX6_askedCarry_2 (by decide) ?_
  refine J_istore_n dX6_askedCarry_3 rfl (by decide) [1, 2, 3, 0] (lv' := [(0, .ref a0), (1, .int i1), (2, .int (1 : Int32)), (3, .int (0 : Int32))]) rfl ?_
  refine J_aload_n 0 dX6_askedCarry_4 rfl rfl ?_
  refine J_ngetA (k := 17) (o := 11) dX6_askedCarry_5 gF_X6_43 ha rfl ?_
  refine J_iconst (0 : Int32) dX6_askedCarry_8 (by decide) ?_
  refine J_iload_n 1 dX6_askedCarry_9 rfl rfl ?_
  refine J_niast (k := 17) (o := 11) dX6_askedCarry_10 ha rfl rfl (by decide) (by decide) ?_
  obtain ⟨S1, eS1, h2⟩ := jLet_some h; clear h
  refine J_topS eS1 ?_
  have hS1_a0 : a0 = S1.1 := by rw [eS1]; exact ha
  refine J_lv [0, 2, 3] rfl ?_
  exact t_X6_askedCarry_L11 bigN S1 a0 (1 : Int32) (0 : Int32) hS1_a0 h2
def m_X6_askedJudge_J31 (S : MS) (i1 : Int32) : Option (Int32 × MS) :=
  bnd (m_X6_body S (10 : Int32)) fun S1 =>
  gd (inB i1 30) <|
  if (nA S1 1 (Int32.toNatClampNeg i1)) = 0 then
    (gd (inB i1 30) <|
    some ((nA S1 2 (Int32.toNatClampNeg i1)), S1))
  else
    (gd (inB i1 30) <|
    if (nA S1 1 (Int32.toNatClampNeg i1)) = (1 : Int32) then
      (gd (inB i1 30) <|
      some (((2 : Int32) * (nA S1 2 (Int32.toNatClampNeg i1))), S1))
    else
      (gd (inB i1 30) <|
      some ((((2 : Int32) * (nA S1 2 (Int32.toNatClampNeg i1))) + (1 : Int32)), S1)))
set_option maxRecDepth 100000 in
set_option maxHeartbeats 4000000 in
theorem t_X6_askedJudge_J31 {S : MS} {a0 : Nat} {i1 : Int32} {w : (Int32 × MS)} (ha : a0 = S.1) (h : m_X6_askedJudge_J31 S i1 = some w) : J NX yX6_askedJudge cX6_askedJudge 2 (some .int) 1 21 31 [(0, .ref a0), (1, .int i1)] [] S (some (.int w.1)) w.2 := by
  refine J_aload_n 0 dX6_askedJudge_31 rfl rfl ?_
  refine J_bipush (10 : Int32) dX6_askedJudge_32 (by decide) ?_
  obtain ⟨S1, eS1, h2⟩ := bnd_some h; clear h
  have cS1 := (t_X6_body ha eS1)
  have lS1 : jle NX S S1 := cS1.1
  have hS1_a0 : a0 = S1.1 := ha.trans (nle_eq lS1).symm
  refine J_callV (As := [.int (10 : Int32)]) (rest := []) (st' := []) cS1 gC_X6_body gM_X6_171 (by rw [ha]; exact nRecv) rfl (by decide) (by decide) rfl rfl (Nat.le_of_ble_eq_true rfl) dX6_askedJudge_34 ?_
  refine J_aload_n 0 dX6_askedJudge_37 rfl rfl ?_
  refine J_ngetA (k := 1) (o := 0) dX6_askedJudge_38 gF_X6_7 hS1_a0 rfl ?_
  refine J_iload_n 1 dX6_askedJudge_41 rfl rfl ?_
  obtain ⟨g3, h4⟩ := gd_some h2; clear h2
  refine J_niald (k := 1) (o := 0) dX6_askedJudge_42 hS1_a0 rfl rfl (by decide) g3 ?_
  refine J_if_ne 55 dX6_askedJudge_43 (by decide) h4 (fun c5 h6 => ?_) (fun c5 h6 => ?_)
  · clear h4
    refine J_aload_n 0 dX6_askedJudge_46 rfl rfl ?_
    refine J_ngetA (k := 2) (o := 1) dX6_askedJudge_47 gF_X6_13 hS1_a0 rfl ?_
    refine J_iload_n 1 dX6_askedJudge_50 rfl rfl ?_
    obtain ⟨g7, h8⟩ := gd_some h6; clear h6
    refine J_niald (k := 2) (o := 1) dX6_askedJudge_51 hS1_a0 rfl rfl (by decide) g7 ?_
    refine J_goto 86 dX6_askedJudge_52 (by decide) ?_
    have hw := Option.some.inj h8; subst hw
    exact J_iret rfl dX6_askedJudge_86
  · clear h4
    refine J_aload_n 0 dX6_askedJudge_55 rfl rfl ?_
    refine J_ngetA (k := 1) (o := 0) dX6_askedJudge_56 gF_X6_7 hS1_a0 rfl ?_
    refine J_iload_n 1 dX6_askedJudge_59 rfl rfl ?_
    obtain ⟨g9, h10⟩ := gd_some h6; clear h6
    refine J_niald (k := 1) (o := 0) dX6_askedJudge_60 hS1_a0 rfl rfl (by decide) g9 ?_
    refine J_iconst (1 : Int32) dX6_askedJudge_61 (by decide) ?_
    refine J_icmp_ne 76 dX6_askedJudge_62 (by decide) h10 (fun c11 h12 => ?_) (fun c11 h12 => ?_)
    · clear h10
      refine J_iconst (2 : Int32) dX6_askedJudge_65 (by decide) ?_
      refine J_aload_n 0 dX6_askedJudge_66 rfl rfl ?_
      refine J_ngetA (k := 2) (o := 1) dX6_askedJudge_67 gF_X6_13 hS1_a0 rfl ?_
      refine J_iload_n 1 dX6_askedJudge_70 rfl rfl ?_
      obtain ⟨g13, h14⟩ := gd_some h12; clear h12
      refine J_niald (k := 2) (o := 1) dX6_askedJudge_71 hS1_a0 rfl rfl (by decide) g13 ?_
      refine J_imul dX6_askedJudge_72 ?_
      refine J_goto 86 dX6_askedJudge_73 (by decide) ?_
      have hw := Option.some.inj h14; subst hw
      exact J_iret rfl dX6_askedJudge_86
    · clear h10
      refine J_iconst (2 : Int32) dX6_askedJudge_76 (by decide) ?_
      refine J_aload_n 0 dX6_askedJudge_77 rfl rfl ?_
      refine J_ngetA (k := 2) (o := 1) dX6_askedJudge_78 gF_X6_13 hS1_a0 rfl ?_
      refine J_iload_n 1 dX6_askedJudge_81 rfl rfl ?_
      obtain ⟨g15, h16⟩ := gd_some h12; clear h12
      refine J_niald (k := 2) (o := 1) dX6_askedJudge_82 hS1_a0 rfl rfl (by decide) g15 ?_
      refine J_imul dX6_askedJudge_83 ?_
      refine J_iconst (1 : Int32) dX6_askedJudge_84 (by decide) ?_
      refine J_iadd dX6_askedJudge_85 ?_
      have hw := Option.some.inj h16; subst hw
      exact J_iret rfl dX6_askedJudge_86
def m_X6_askedJudge_J16 (S : MS) (i1 : Int32) : Option (Int32 × MS) :=
  gd (inB i1 30) <|
  if (nA S 1 (Int32.toNatClampNeg i1)) = 0 then
    (m_X6_askedJudge_J31 S i1)
  else
    (bnd (m_X6_body S (11 : Int32)) fun S5 =>
    m_X6_askedJudge_J31 S5 i1)
set_option maxRecDepth 100000 in
set_option maxHeartbeats 4000000 in
theorem t_X6_askedJudge_J16 {S : MS} {a0 : Nat} {i1 : Int32} {w : (Int32 × MS)} (ha : a0 = S.1) (h : m_X6_askedJudge_J16 S i1 = some w) : J NX yX6_askedJudge cX6_askedJudge 2 (some .int) 1 21 16 [(0, .ref a0), (1, .int i1)] [] S (some (.int w.1)) w.2 := by
  refine J_aload_n 0 dX6_askedJudge_16 rfl rfl ?_
  refine J_ngetA (k := 1) (o := 0) dX6_askedJudge_17 gF_X6_7 ha rfl ?_
  refine J_iload_n 1 dX6_askedJudge_20 rfl rfl ?_
  obtain ⟨g1, h2⟩ := gd_some h; clear h
  refine J_niald (k := 1) (o := 0) dX6_askedJudge_21 ha rfl rfl (by decide) g1 ?_
  refine J_if_eq 31 dX6_askedJudge_22 (by decide) h2 (fun c3 h4 => ?_) (fun c3 h4 => ?_)
  · clear h2
    exact t_X6_askedJudge_J31 ha h4
  · clear h2
    refine J_aload_n 0 dX6_askedJudge_25 rfl rfl ?_
    refine J_bipush (11 : Int32) dX6_askedJudge_26 (by decide) ?_
    obtain ⟨S5, eS5, h6⟩ := bnd_some h4; clear h4
    have cS5 := (t_X6_body ha eS5)
    have lS5 : jle NX S S5 := cS5.1
    have hS5_a0 : a0 = S5.1 := ha.trans (nle_eq lS5).symm
    refine J_callV (As := [.int (11 : Int32)]) (rest := []) (st' := []) cS5 gC_X6_body gM_X6_171 (by rw [ha]; exact nRecv) rfl (by decide) (by decide) rfl rfl (Nat.le_of_ble_eq_true rfl) dX6_askedJudge_28 ?_
    exact t_X6_askedJudge_J31 hS5_a0 h6
def m_X6_askedJudge (S : MS) (i1 : Int32) : Option (Int32 × MS) :=
  gd (inB i1 30) <|
  if (nA S 1 (Int32.toNatClampNeg i1)) = (3 : Int32) then
    (bnd (m_X6_body S (12 : Int32)) fun S5 =>
    m_X6_askedJudge_J16 S5 i1)
  else
    (m_X6_askedJudge_J16 S i1)
set_option maxRecDepth 100000 in
set_option maxHeartbeats 4000000 in
theorem t_X6_askedJudge {S : MS} {a0 : Nat} {i1 : Int32} {w : (Int32 × MS)} (ha : a0 = S.1) (h : m_X6_askedJudge S i1 = some w) : CT NX yX6_askedJudge cX6_askedJudge 2 (some .int) 1 21 [.ref a0, .int i1] S (some (.int w.1)) w.2 := by
  refine CT.of (lv := [(0, .ref a0), (1, .int i1)]) (by decide) rfl (Nat.le_of_ble_eq_true rfl) ?_
  refine J_aload_n 0 dX6_askedJudge_0 rfl rfl ?_
  refine J_ngetA (k := 1) (o := 0) dX6_askedJudge_1 gF_X6_7 ha rfl ?_
  refine J_iload_n 1 dX6_askedJudge_4 rfl rfl ?_
  obtain ⟨g1, h2⟩ := gd_some h; clear h
  refine J_niald (k := 1) (o := 0) dX6_askedJudge_5 ha rfl rfl (by decide) g1 ?_
  refine J_iconst (3 : Int32) dX6_askedJudge_6 (by decide) ?_
  refine J_icmp_ne 16 dX6_askedJudge_7 (by decide) h2 (fun c3 h4 => ?_) (fun c3 h4 => ?_)
  · clear h2
    refine J_aload_n 0 dX6_askedJudge_10 rfl rfl ?_
    refine J_bipush (12 : Int32) dX6_askedJudge_11 (by decide) ?_
    obtain ⟨S5, eS5, h6⟩ := bnd_some h4; clear h4
    have cS5 := (t_X6_body ha eS5)
    have lS5 : jle NX S S5 := cS5.1
    have hS5_a0 : a0 = S5.1 := ha.trans (nle_eq lS5).symm
    refine J_callV (As := [.int (12 : Int32)]) (rest := []) (st' := []) cS5 gC_X6_body gM_X6_171 (by rw [ha]; exact nRecv) rfl (by decide) (by decide) rfl rfl (Nat.le_of_ble_eq_true rfl) dX6_askedJudge_13 ?_
    exact t_X6_askedJudge_J16 hS5_a0 h6
  · clear h2
    exact t_X6_askedJudge_J16 ha h4
def m_X6_asks (S : MS) (i1 : Int32) (i2 : Int32) : Option (Int32 × MS) :=
  bnd (m_X6_isFrame S i1) fun i1_ =>
  if i1_ = 0 then
    (some ((-1 : Int32), S))
  else
    (if i2 = (0 : Int32) then
      (bnd2 (m_X6_askedBase S i1) fun i6_ S7 =>
      some (i6_, S7))
    else if i2 = (1 : Int32) then
      (gd (inB i1 30) <|
      if (nA S 1 (Int32.toNatClampNeg i1)) = (4 : Int32) then
        (bnd2 (m_X6_meets S (3 : Int32)) fun i14_ S15 =>
        some (i14_, S15))
      else
        (bnd2 (m_X6_askedBeads S i1) fun i17_ S18 =>
        some (i17_, S18)))
    else if i2 = (2 : Int32) then
      (bnd2 (m_X6_askedCarry S i1) fun i21_ S22 =>
      some (i21_, S22))
    else if i2 = (3 : Int32) then
      (gd (inB i1 30) <|
      if (nA S 1 (Int32.toNatClampNeg i1)) = (4 : Int32) then
        (bnd2 (m_X6_meets S (3 : Int32)) fun i29_ S30 =>
        some (i29_, S30))
      else
        (gd (inB i1 30) <|
        if (nA S 1 (Int32.toNatClampNeg i1)) = (2 : Int32) then
          (bnd2 (m_X6_meets S (3 : Int32)) fun i36_ S37 =>
          some (i36_, S37))
        else
          (bnd2 (m_X6_askedJudge S i1) fun i39_ S40 =>
          some (i39_, S40))))
    else (some ((-2 : Int32), S)))
set_option maxRecDepth 100000 in
set_option maxHeartbeats 4000000 in
theorem t_X6_asks {S : MS} {a0 : Nat} {i1 : Int32} {i2 : Int32} {w : (Int32 × MS)} (ha : a0 = S.1) (h : m_X6_asks S i1 i2 = some w) : CT NX yX6_asks cX6_asks 3 (some .int) 3 67 [.ref a0, .int i1, .int i2] S (some (.int w.1)) w.2 := by
  refine CT.of (lv := [(0, .ref a0), (1, .int i1), (2, .int i2)]) (by decide) rfl (Nat.le_of_ble_eq_true rfl) ?_
  refine J_aload_n 0 dX6_asks_0 rfl rfl ?_
  refine J_iload_n 1 dX6_asks_1 rfl rfl ?_
  obtain ⟨i1_, ei1_, h2⟩ := bnd_some h; clear h
  refine J_callV (As := [.int i1]) (rest := []) (st' := [.int i1_]) (t_X6_isFrame ha ei1_) gC_X6_isFrame gM_X6_129 (by rw [ha]; exact nRecv) rfl (by decide) (by decide) rfl rfl (Nat.le_of_ble_eq_true rfl) dX6_asks_2 ?_
  refine J_if_ne 10 dX6_asks_5 (by decide) h2 (fun c3 h4 => ?_) (fun c3 h4 => ?_)
  · clear h2
    refine J_iconst (-1 : Int32) dX6_asks_8 (by decide) ?_
    have hw := Option.some.inj h4; subst hw
    exact J_iret rfl dX6_asks_9
  · clear h2
    refine J_iload_n 2 dX6_asks_10 rfl rfl ?_
    by_cases c5 : i2 = (0 : Int32)
    · replace h4 := ifp c5 h4
      refine J_tabIn (0 : Int32) 40 dX6_asks_11 c5 (by decide) (by decide) rfl (by decide) ?_
      refine J_aload_n 0 dX6_asks_40 rfl rfl ?_
      refine J_iload_n 1 dX6_asks_41 rfl rfl ?_
      obtain ⟨i6_, S7, ei6_, h8⟩ := bnd2_some h4; clear h4
      have cS7 := (t_X6_askedBase ha ei6_)
      have lS7 : jle NX S S7 := cS7.1
      have hS7_a0 : a0 = S7.1 := ha.trans (nle_eq lS7).symm
      refine J_callV (As := [.int i1]) (rest := []) (st' := [.int i6_]) cS7 gC_X6_askedBase gM_X6_175 (by rw [ha]; exact nRecv) rfl (by decide) (by decide) rfl rfl (Nat.le_of_ble_eq_true rfl) dX6_asks_42 ?_
      have hw := Option.some.inj h8; subst hw
      exact J_iret rfl dX6_asks_45
    replace h4 := ifn c5 h4
    by_cases c9 : i2 = (1 : Int32)
    · replace h4 := ifp c9 h4
      refine J_tabIn (1 : Int32) 46 dX6_asks_11 c9 (by decide) (by decide) rfl (by decide) ?_
      refine J_aload_n 0 dX6_asks_46 rfl rfl ?_
      refine J_ngetA (k := 1) (o := 0) dX6_asks_47 gF_X6_7 ha rfl ?_
      refine J_iload_n 1 dX6_asks_50 rfl rfl ?_
      obtain ⟨g10, h11⟩ := gd_some h4; clear h4
      refine J_niald (k := 1) (o := 0) dX6_asks_51 ha rfl rfl (by decide) g10 ?_
      refine J_iconst (4 : Int32) dX6_asks_52 (by decide) ?_
      refine J_icmp_ne 64 dX6_asks_53 (by decide) h11 (fun c12 h13 => ?_) (fun c12 h13 => ?_)
      · clear h11
        refine J_aload_n 0 dX6_asks_56 rfl rfl ?_
        refine J_iconst (3 : Int32) dX6_asks_57 (by decide) ?_
        obtain ⟨i14_, S15, ei14_, h16⟩ := bnd2_some h13; clear h13
        have cS15 := (t_X6_meets ha ei14_)
        have lS15 : jle NX S S15 := cS15.1
        have hS15_a0 : a0 = S15.1 := ha.trans (nle_eq lS15).symm
        refine J_callV (As := [.int (3 : Int32)]) (rest := []) (st' := [.int i14_]) cS15 gC_X6_meets gM_X6_102 (by rw [ha]; exact nRecv) rfl (by decide) (by decide) rfl rfl (Nat.le_of_ble_eq_true rfl) dX6_asks_58 ?_
        refine J_goto 69 dX6_asks_61 (by decide) ?_
        have hw := Option.some.inj h16; subst hw
        exact J_iret rfl dX6_asks_69
      · clear h11
        refine J_aload_n 0 dX6_asks_64 rfl rfl ?_
        refine J_iload_n 1 dX6_asks_65 rfl rfl ?_
        obtain ⟨i17_, S18, ei17_, h19⟩ := bnd2_some h13; clear h13
        have cS18 := (t_X6_askedBeads ha ei17_)
        have lS18 : jle NX S S18 := cS18.1
        have hS18_a0 : a0 = S18.1 := ha.trans (nle_eq lS18).symm
        refine J_callV (As := [.int i1]) (rest := []) (st' := [.int i17_]) cS18 gC_X6_askedBeads gM_X6_178 (by rw [ha]; exact nRecv) rfl (by decide) (by decide) rfl rfl (Nat.le_of_ble_eq_true rfl) dX6_asks_66 ?_
        have hw := Option.some.inj h19; subst hw
        exact J_iret rfl dX6_asks_69
    replace h4 := ifn c9 h4
    by_cases c20 : i2 = (2 : Int32)
    · replace h4 := ifp c20 h4
      refine J_tabIn (2 : Int32) 70 dX6_asks_11 c20 (by decide) (by decide) rfl (by decide) ?_
      refine J_aload_n 0 dX6_asks_70 rfl rfl ?_
      refine J_iload_n 1 dX6_asks_71 rfl rfl ?_
      obtain ⟨i21_, S22, ei21_, h23⟩ := bnd2_some h4; clear h4
      have cS22 := (t_X6_askedCarry ha ei21_)
      have lS22 : jle NX S S22 := cS22.1
      have hS22_a0 : a0 = S22.1 := ha.trans (nle_eq lS22).symm
      refine J_callV (As := [.int i1]) (rest := []) (st' := [.int i21_]) cS22 gC_X6_askedCarry gM_X6_181 (by rw [ha]; exact nRecv) rfl (by decide) (by decide) rfl rfl (Nat.le_of_ble_eq_true rfl) dX6_asks_72 ?_
      have hw := Option.some.inj h23; subst hw
      exact J_iret rfl dX6_asks_75
    replace h4 := ifn c20 h4
    by_cases c24 : i2 = (3 : Int32)
    · replace h4 := ifp c24 h4
      refine J_tabIn (3 : Int32) 76 dX6_asks_11 c24 (by decide) (by decide) rfl (by decide) ?_
      refine J_aload_n 0 dX6_asks_76 rfl rfl ?_
      refine J_ngetA (k := 1) (o := 0) dX6_asks_77 gF_X6_7 ha rfl ?_
      refine J_iload_n 1 dX6_asks_80 rfl rfl ?_
      obtain ⟨g25, h26⟩ := gd_some h4; clear h4
      refine J_niald (k := 1) (o := 0) dX6_asks_81 ha rfl rfl (by decide) g25 ?_
      refine J_iconst (4 : Int32) dX6_asks_82 (by decide) ?_
      refine J_icmp_eq 96 dX6_asks_83 (by decide) h26 (fun c27 h28 => ?_) (fun c27 h28 => ?_)
      · clear h26
        refine J_aload_n 0 dX6_asks_96 rfl rfl ?_
        refine J_iconst (3 : Int32) dX6_asks_97 (by decide) ?_
        obtain ⟨i29_, S30, ei29_, h31⟩ := bnd2_some h28; clear h28
        have cS30 := (t_X6_meets ha ei29_)
        have lS30 : jle NX S S30 := cS30.1
        have hS30_a0 : a0 = S30.1 := ha.trans (nle_eq lS30).symm
        refine J_callV (As := [.int (3 : Int32)]) (rest := []) (st' := [.int i29_]) cS30 gC_X6_meets gM_X6_102 (by rw [ha]; exact nRecv) rfl (by decide) (by decide) rfl rfl (Nat.le_of_ble_eq_true rfl) dX6_asks_98 ?_
        refine J_goto 109 dX6_asks_101 (by decide) ?_
        have hw := Option.some.inj h31; subst hw
        exact J_iret rfl dX6_asks_109
      · clear h26
        refine J_aload_n 0 dX6_asks_86 rfl rfl ?_
        refine J_ngetA (k := 1) (o := 0) dX6_asks_87 gF_X6_7 ha rfl ?_
        refine J_iload_n 1 dX6_asks_90 rfl rfl ?_
        obtain ⟨g32, h33⟩ := gd_some h28; clear h28
        refine J_niald (k := 1) (o := 0) dX6_asks_91 ha rfl rfl (by decide) g32 ?_
        refine J_iconst (2 : Int32) dX6_asks_92 (by decide) ?_
        refine J_icmp_ne 104 dX6_asks_93 (by decide) h33 (fun c34 h35 => ?_) (fun c34 h35 => ?_)
        · clear h33
          refine J_aload_n 0 dX6_asks_96 rfl rfl ?_
          refine J_iconst (3 : Int32) dX6_asks_97 (by decide) ?_
          obtain ⟨i36_, S37, ei36_, h38⟩ := bnd2_some h35; clear h35
          have cS37 := (t_X6_meets ha ei36_)
          have lS37 : jle NX S S37 := cS37.1
          have hS37_a0 : a0 = S37.1 := ha.trans (nle_eq lS37).symm
          refine J_callV (As := [.int (3 : Int32)]) (rest := []) (st' := [.int i36_]) cS37 gC_X6_meets gM_X6_102 (by rw [ha]; exact nRecv) rfl (by decide) (by decide) rfl rfl (Nat.le_of_ble_eq_true rfl) dX6_asks_98 ?_
          refine J_goto 109 dX6_asks_101 (by decide) ?_
          have hw := Option.some.inj h38; subst hw
          exact J_iret rfl dX6_asks_109
        · clear h33
          refine J_aload_n 0 dX6_asks_104 rfl rfl ?_
          refine J_iload_n 1 dX6_asks_105 rfl rfl ?_
          obtain ⟨i39_, S40, ei39_, h41⟩ := bnd2_some h35; clear h35
          have cS40 := (t_X6_askedJudge ha ei39_)
          have lS40 : jle NX S S40 := cS40.1
          have hS40_a0 : a0 = S40.1 := ha.trans (nle_eq lS40).symm
          refine J_callV (As := [.int i1]) (rest := []) (st' := [.int i39_]) cS40 gC_X6_askedJudge gM_X6_184 (by rw [ha]; exact nRecv) rfl (by decide) (by decide) rfl rfl (Nat.le_of_ble_eq_true rfl) dX6_asks_106 ?_
          have hw := Option.some.inj h41; subst hw
          exact J_iret rfl dX6_asks_109
    replace h4 := ifn c24 h4
    have hout := tabOut (x := i2) (n := 3) (by decide) (fun k hk => by
      match k, hk with
      | 0, _ => exact c5
      | 1, _ => exact c9
      | 2, _ => exact c20
      | 3, _ => exact c24
      | k + 4, hk => exact absurd hk (by omega))
    refine J_tabOut 110 dX6_asks_11 hout (by decide) ?_
    refine J_bipush (-2 : Int32) dX6_asks_110 (by decide) ?_
    have hw := Option.some.inj h4; subst hw
    exact J_iret rfl dX6_asks_112
def m_X6_trace (S : MS) : Option Int32 :=
  some (nF S 12)
set_option maxRecDepth 100000 in
set_option maxHeartbeats 4000000 in
theorem t_X6_trace {S : MS} {a0 : Nat} {w : Int32} (ha : a0 = S.1) (h : m_X6_trace S = some w) : CT NX yX6_trace cX6_trace 1 (some .int) 0 0 [.ref a0] S (some (.int w)) S := by
  refine CT.of (lv := [(0, .ref a0)]) (by decide) rfl (Nat.le_of_ble_eq_true rfl) ?_
  refine J_aload_n 0 dX6_trace_0 rfl rfl ?_
  refine J_nget (k := 12) dX6_trace_1 gF_X6_168 ha rfl ?_
  have hw := Option.some.inj h; subst hw
  exact J_iret rfl dX6_trace_4
def m_X6_carry (S : MS) (i1 : Int32) (i2 : Int32) : Option MS :=
  gd (inB i1 540) <|
  jLet ((nA S 9 (Int32.toNatClampNeg i1))) fun i3_ =>
  gd (inB i2 540) <|
  jLet (nSA S 9 (Int32.toNatClampNeg i2) i3_) fun S7 =>
  gd (inB i1 540) <|
  jLet ((nA S7 10 (Int32.toNatClampNeg i1))) fun i11_ =>
  gd (inB i2 540) <|
  jLet (nSA S7 10 (Int32.toNatClampNeg i2) i11_) fun S15 =>
  gd (inB i1 540) <|
  jLet ((nA S15 11 (Int32.toNatClampNeg i1))) fun i19_ =>
  gd (inB i2 540) <|
  jLet (nSA S15 11 (Int32.toNatClampNeg i2) i19_) fun S23 =>
  some S23
set_option maxRecDepth 100000 in
set_option maxHeartbeats 4000000 in
theorem t_X6_carry {S : MS} {a0 : Nat} {i1 : Int32} {i2 : Int32} {w : MS} (ha : a0 = S.1) (h : m_X6_carry S i1 i2 = some w) : CT NX yX6_carry cX6_carry 3 none 0 0 [.ref a0, .int i1, .int i2] S none w := by
  refine CT.of (lv := [(0, .ref a0), (1, .int i1), (2, .int i2)]) (by decide) rfl (Nat.le_of_ble_eq_true rfl) ?_
  refine J_aload_n 0 dX6_carry_0 rfl rfl ?_
  refine J_ngetA (k := 9) (o := 8) dX6_carry_1 gF_X6_34 ha rfl ?_
  refine J_iload_n 2 dX6_carry_4 rfl rfl ?_
  refine J_aload_n 0 dX6_carry_5 rfl rfl ?_
  refine J_ngetA (k := 9) (o := 8) dX6_carry_6 gF_X6_34 ha rfl ?_
  refine J_iload_n 1 dX6_carry_9 rfl rfl ?_
  obtain ⟨g1, h2⟩ := gd_some h; clear h
  refine J_niald (k := 9) (o := 8) dX6_carry_10 ha rfl rfl (by decide) g1 ?_
  obtain ⟨i3_, ei3_, h4⟩ := jLet_some h2; clear h2
  refine J_topI ei3_ ?_
  obtain ⟨g5, h6⟩ := gd_some h4; clear h4
  refine J_niast (k := 9) (o := 8) dX6_carry_11 ha rfl rfl (by decide) g5 ?_
  obtain ⟨S7, eS7, h8⟩ := jLet_some h6; clear h6
  refine J_topS eS7 ?_
  have hS7_a0 : a0 = S7.1 := by rw [eS7]; exact ha
  refine J_aload_n 0 dX6_carry_12 rfl rfl ?_
  refine J_ngetA (k := 10) (o := 9) dX6_carry_13 gF_X6_37 hS7_a0 rfl ?_
  refine J_iload_n 2 dX6_carry_16 rfl rfl ?_
  refine J_aload_n 0 dX6_carry_17 rfl rfl ?_
  refine J_ngetA (k := 10) (o := 9) dX6_carry_18 gF_X6_37 hS7_a0 rfl ?_
  refine J_iload_n 1 dX6_carry_21 rfl rfl ?_
  obtain ⟨g9, h10⟩ := gd_some h8; clear h8
  refine J_niald (k := 10) (o := 9) dX6_carry_22 hS7_a0 rfl rfl (by decide) g9 ?_
  obtain ⟨i11_, ei11_, h12⟩ := jLet_some h10; clear h10
  refine J_topI ei11_ ?_
  obtain ⟨g13, h14⟩ := gd_some h12; clear h12
  refine J_niast (k := 10) (o := 9) dX6_carry_23 hS7_a0 rfl rfl (by decide) g13 ?_
  obtain ⟨S15, eS15, h16⟩ := jLet_some h14; clear h14
  refine J_topS eS15 ?_
  have hS15_a0 : a0 = S15.1 := by rw [eS15]; exact hS7_a0
  refine J_aload_n 0 dX6_carry_24 rfl rfl ?_
  refine J_ngetA (k := 11) (o := 10) dX6_carry_25 gF_X6_40 hS15_a0 rfl ?_
  refine J_iload_n 2 dX6_carry_28 rfl rfl ?_
  refine J_aload_n 0 dX6_carry_29 rfl rfl ?_
  refine J_ngetA (k := 11) (o := 10) dX6_carry_30 gF_X6_40 hS15_a0 rfl ?_
  refine J_iload_n 1 dX6_carry_33 rfl rfl ?_
  obtain ⟨g17, h18⟩ := gd_some h16; clear h16
  refine J_niald (k := 11) (o := 10) dX6_carry_34 hS15_a0 rfl rfl (by decide) g17 ?_
  obtain ⟨i19_, ei19_, h20⟩ := jLet_some h18; clear h18
  refine J_topI ei19_ ?_
  obtain ⟨g21, h22⟩ := gd_some h20; clear h20
  refine J_niast (k := 11) (o := 10) dX6_carry_35 hS15_a0 rfl rfl (by decide) g21 ?_
  obtain ⟨S23, eS23, h24⟩ := jLet_some h22; clear h22
  refine J_topS eS23 ?_
  have hS23_a0 : a0 = S23.1 := by rw [eS23]; exact hS15_a0
  have hw := Option.some.inj h24; subst hw
  exact J_vret rfl dX6_carry_36
def m_X6_copy_L257 : Nat → MS → Int32 → Int32 → Int32 → Int32 → Int32 → Int32 → Option (Int32 × MS)
  | 0, _, _, _, _, _, _, _ => none
  | n + 1, S, i1, i2, i3, i4, i5, i7 =>
    if i5 ≤ i7 then
      (some (i5, S))
    else
      (gd (inB i1 30) <|
      bnd (m_X6_in ((Int32.toInt64 i2) + (Int32.toInt64 i7)) (0 : Int64) (Int32.toInt64 ((nA S 2 (Int32.toNatClampNeg i1)) - (1 : Int32)))) fun i5_ =>
      if i5_ = 0 then
        (bnd2 (m_X6_meets S (2 : Int32)) fun i9_ S10 =>
        some (i9_, S10))
      else
        (gd (inB i3 30) <|
        bnd (m_X6_in ((Int32.toInt64 i4) + (Int32.toInt64 i7)) (0 : Int64) (Int32.toInt64 ((nA S 2 (Int32.toNatClampNeg i3)) - (1 : Int32)))) fun i14_ =>
        if i14_ = 0 then
          (bnd2 (m_X6_meets S (2 : Int32)) fun i18_ S19 =>
          some (i18_, S19))
        else
          (bnd (m_X6_carry S ((((18 : Int32) * i1) + i2) + i7) ((((18 : Int32) * i3) + i4) + i7)) fun S21 =>
          jLet (((nF S21 15) + (1 : Int32))) fun i23_ =>
          jLet (nSF S21 15 i23_) fun S25 =>
          m_X6_copy_L257 n S25 i1 i2 i3 i4 i5 (i7 + (1 : Int32)))))
set_option maxRecDepth 100000 in
set_option maxHeartbeats 4000000 in
theorem t_X6_copy_L257 {w : (Int32 × MS)} (n : Nat) : ∀ (S : MS) (a0 : Nat) (i1 : Int32) (i2 : Int32) (i3 : Int32) (i4 : Int32) (i5 : Int32) (i7 : Int32), (a0 = S.1) → m_X6_copy_L257 n S i1 i2 i3 i4 i5 i7 = some w → J NX yX6_copy cX6_copy 10 (some .int) 2 46 257 [(0, .ref a0), (1, .int i1), (2, .int i2), (3, .int i3), (4, .int i4), (5, .int i5), (7, .int i7)] [] S (some (.int w.1)) w.2 := by
  induction n with
  | zero => intro S a0 i1 i2 i3 i4 i5 i7 ha h; cases h
  | succ n lh =>
    intro S a0 i1 i2 i3 i4 i5 i7 ha h
    refine J_iload 6 dX6_copy_257 rfl ?_
    refine J_iload 5 dX6_copy_259 rfl ?_
    refine J_icmp_ge 354 dX6_copy_261 (by decide) h (fun c1 h2 => ?_) (fun c1 h2 => ?_)
    · clear h
      refine J_iload 5 dX6_copy_354 rfl ?_
      have hw := Option.some.inj h2; subst hw
      exact J_iret rfl dX6_copy_356
    · clear h
      refine J_iload_n 2 dX6_copy_264 rfl rfl ?_
      refine J_i2l dX6_copy_265 ?_
      refine J_iload 6 dX6_copy_266 rfl ?_
      refine J_i2l dX6_copy_268 ?_
      refine J_ladd dX6_copy_269 ?_
      refine J_lconst (0 : Int64) dX6_copy_270 (by decide) ?_
      refine J_aload_n 0 dX6_copy_271 rfl rfl ?_
      refine J_ngetA (k := 2) (o := 1) dX6_copy_272 gF_X6_13 ha rfl ?_
      refine J_iload_n 1 dX6_copy_275 rfl rfl ?_
      obtain ⟨g3, h4⟩ := gd_some h2; clear h2
      refine J_niald (k := 2) (o := 1) dX6_copy_276 ha rfl rfl (by decide) g3 ?_
      refine J_iconst (1 : Int32) dX6_copy_277 (by decide) ?_
      refine J_isub dX6_copy_278 ?_
      refine J_i2l dX6_copy_279 ?_
      obtain ⟨i5_, ei5_, h6⟩ := bnd_some h4; clear h4
      refine J_callS (As := [.long ((Int32.toInt64 i2) + (Int32.toInt64 i7)), .long (0 : Int64), .long (Int32.toInt64 ((nA S 2 (Int32.toNatClampNeg i1)) - (1 : Int32)))]) (rest := []) (st' := [.int i5_]) (t_X6_in ei5_) gC_X6_in gM_X6_92 rfl (by decide) (by decide) rfl rfl (Nat.le_of_ble_eq_true rfl) dX6_copy_280 ?_
      refine J_if_eq 309 dX6_copy_283 (by decide) h6 (fun c7 h8 => ?_) (fun c7 h8 => ?_)
      · clear h6
        refine J_aload_n 0 dX6_copy_309 rfl rfl ?_
        refine J_iconst (2 : Int32) dX6_copy_310 (by decide) ?_
        obtain ⟨i9_, S10, ei9_, h11⟩ := bnd2_some h8; clear h8
        have cS10 := (t_X6_meets ha ei9_)
        have lS10 : jle NX S S10 := cS10.1
        have hS10_a0 : a0 = S10.1 := ha.trans (nle_eq lS10).symm
        refine J_callV (As := [.int (2 : Int32)]) (rest := []) (st' := [.int i9_]) cS10 gC_X6_meets gM_X6_102 (by rw [ha]; exact nRecv) rfl (by decide) (by decide) rfl rfl (Nat.le_of_ble_eq_true rfl) dX6_copy_311 ?_
        have hw := Option.some.inj h11; subst hw
        exact J_iret rfl dX6_copy_314
      · clear h6
        refine J_iload 4 dX6_copy_286 rfl ?_
        refine J_i2l dX6_copy_288 ?_
        refine J_iload 6 dX6_copy_289 rfl ?_
        refine J_i2l dX6_copy_291 ?_
        refine J_ladd dX6_copy_292 ?_
        refine J_lconst (0 : Int64) dX6_copy_293 (by decide) ?_
        refine J_aload_n 0 dX6_copy_294 rfl rfl ?_
        refine J_ngetA (k := 2) (o := 1) dX6_copy_295 gF_X6_13 ha rfl ?_
        refine J_iload_n 3 dX6_copy_298 rfl rfl ?_
        obtain ⟨g12, h13⟩ := gd_some h8; clear h8
        refine J_niald (k := 2) (o := 1) dX6_copy_299 ha rfl rfl (by decide) g12 ?_
        refine J_iconst (1 : Int32) dX6_copy_300 (by decide) ?_
        refine J_isub dX6_copy_301 ?_
        refine J_i2l dX6_copy_302 ?_
        obtain ⟨i14_, ei14_, h15⟩ := bnd_some h13; clear h13
        refine J_callS (As := [.long ((Int32.toInt64 i4) + (Int32.toInt64 i7)), .long (0 : Int64), .long (Int32.toInt64 ((nA S 2 (Int32.toNatClampNeg i3)) - (1 : Int32)))]) (rest := []) (st' := [.int i14_]) (t_X6_in ei14_) gC_X6_in gM_X6_92 rfl (by decide) (by decide) rfl rfl (Nat.le_of_ble_eq_true rfl) dX6_copy_303 ?_
        refine J_if_ne 315 dX6_copy_306 (by decide) h15 (fun c16 h17 => ?_) (fun c16 h17 => ?_)
        · clear h15
          refine J_aload_n 0 dX6_copy_309 rfl rfl ?_
          refine J_iconst (2 : Int32) dX6_copy_310 (by decide) ?_
          obtain ⟨i18_, S19, ei18_, h20⟩ := bnd2_some h17; clear h17
          have cS19 := (t_X6_meets ha ei18_)
          have lS19 : jle NX S S19 := cS19.1
          have hS19_a0 : a0 = S19.1 := ha.trans (nle_eq lS19).symm
          refine J_callV (As := [.int (2 : Int32)]) (rest := []) (st' := [.int i18_]) cS19 gC_X6_meets gM_X6_102 (by rw [ha]; exact nRecv) rfl (by decide) (by decide) rfl rfl (Nat.le_of_ble_eq_true rfl) dX6_copy_311 ?_
          have hw := Option.some.inj h20; subst hw
          exact J_iret rfl dX6_copy_314
        · clear h15
          refine J_aload_n 0 dX6_copy_315 rfl rfl ?_
          refine J_bipush (18 : Int32) dX6_copy_316 (by decide) ?_
          refine J_iload_n 1 dX6_copy_318 rfl rfl ?_
          refine J_imul dX6_copy_319 ?_
          refine J_iload_n 2 dX6_copy_320 rfl rfl ?_
          refine J_iadd dX6_copy_321 ?_
          refine J_iload 6 dX6_copy_322 rfl ?_
          refine J_iadd dX6_copy_324 ?_
          refine J_bipush (18 : Int32) dX6_copy_325 (by decide) ?_
          refine J_iload_n 3 dX6_copy_327 rfl rfl ?_
          refine J_imul dX6_copy_328 ?_
          refine J_iload 4 dX6_copy_329 rfl ?_
          refine J_iadd dX6_copy_331 ?_
          refine J_iload 6 dX6_copy_332 rfl ?_
          refine J_iadd dX6_copy_334 ?_
          obtain ⟨S21, eS21, h22⟩ := bnd_some h17; clear h17
          have cS21 := (t_X6_carry ha eS21)
          have lS21 : jle NX S S21 := cS21.1
          have hS21_a0 : a0 = S21.1 := ha.trans (nle_eq lS21).symm
          refine J_callV (As := [.int ((((18 : Int32) * i1) + i2) + i7), .int ((((18 : Int32) * i3) + i4) + i7)]) (rest := []) (st' := []) cS21 gC_X6_carry gM_X6_190 (by rw [ha]; exact nRecv) rfl (by decide) (by decide) rfl rfl (Nat.le_of_ble_eq_true rfl) dX6_copy_335 ?_
          refine J_aload_n 0 dX6_copy_338 rfl rfl ?_
          refine J_dup dX6_copy_339 rfl ?_
          refine J_nget (k := 15) dX6_copy_340 gF_X6_187 hS21_a0 rfl ?_
          refine J_iconst (1 : Int32) dX6_copy_343 (by decide) ?_
          refine J_iadd dX6_copy_344 ?_
          obtain ⟨i23_, ei23_, h24⟩ := jLet_some h22; clear h22
          refine J_topI ei23_ ?_
          refine J_nput (k := 15) dX6_copy_345 gW_X6_187 hS21_a0 rfl rfl ?_
          obtain ⟨S25, eS25, h26⟩ := jLet_some h24; clear h24
          refine J_topS eS25 ?_
          have hS25_a0 : a0 = S25.1 := by rw [eS25]; exact hS21_a0
          refine J_iinc 6 (1 : Int32) dX6_copy_348 rfl (by decide) (by decide) [1, 2, 3, 4, 5, 6, 0] (lv' := [(0, .ref a0), (1, .int i1), (2, .int i2), (3, .int i3), (4, .int i4), (5, .int i5), (7, .int (i7 + (1 : Int32)))]) rfl ?_
          refine J_goto 257 dX6_copy_351 (by decide) ?_
          exact lh S25 a0 i1 i2 i3 i4 i5 (i7 + (1 : Int32)) hS25_a0 h26
def m_X6_copy_J207 (k182 : MS → Int32 → Int32 → Int32 → Int32 → Int32 → Option (Int32 × MS)) (S : MS) (i1 : Int32) (i2 : Int32) (i4 : Int32) (i5 : Int32) (i8 : Int32) (is0 : Int32) : Option (Int32 × MS) :=
  bnd (m_X6_carry S ((((18 : Int32) * i1) + i2) + is0) ((((18 : Int32) * i1) + i4) + is0)) fun S1 =>
  k182 S1 i1 i2 i4 i5 (i8 + (1 : Int32))
set_option maxRecDepth 100000 in
set_option maxHeartbeats 4000000 in
theorem t_X6_copy_J207 {k182 : MS → Int32 → Int32 → Int32 → Int32 → Int32 → Option (Int32 × MS)} {S : MS} {a0 : Nat} {i1 : Int32} {i2 : Int32} {i4 : Int32} {i5 : Int32} {i8 : Int32} {is0 : Int32} {w : (Int32 × MS)} (hk182 : ∀ (S : MS) (a0 : Nat) (i1 : Int32) (i2 : Int32) (i4 : Int32) (i5 : Int32) (i8 : Int32), (a0 = S.1) → k182 S i1 i2 i4 i5 i8 = some w → J NX yX6_copy cX6_copy 10 (some .int) 2 46 182 [(0, .ref a0), (1, .int i1), (2, .int i2), (4, .int i4), (5, .int i5), (8, .int i8)] [] S (some (.int w.1)) w.2) (ha : a0 = S.1) (h : m_X6_copy_J207 k182 S i1 i2 i4 i5 i8 is0 = some w) : J NX yX6_copy cX6_copy 10 (some .int) 2 46 207 [(0, .ref a0), (1, .int i1), (2, .int i2), (4, .int i4), (5, .int i5), (8, .int i8)] [.int is0] S (some (.int w.1)) w.2 := by
  refine J_istore dX6_copy_207 (by decide) [1, 2, 3, 4, 5, 6, 0] (lv' := [(0, .ref a0), (1, .int i1), (2, .int i2), (4, .int i4), (5, .int i5), (8, .int i8), (9, .int is0)]) rfl ?_
  refine J_aload_n 0 dX6_copy_209 rfl rfl ?_
  refine J_bipush (18 : Int32) dX6_copy_210 (by decide) ?_
  refine J_iload_n 1 dX6_copy_212 rfl rfl ?_
  refine J_imul dX6_copy_213 ?_
  refine J_iload_n 2 dX6_copy_214 rfl rfl ?_
  refine J_iadd dX6_copy_215 ?_
  refine J_iload 6 dX6_copy_216 rfl ?_
  refine J_iadd dX6_copy_218 ?_
  refine J_bipush (18 : Int32) dX6_copy_219 (by decide) ?_
  refine J_iload_n 1 dX6_copy_221 rfl rfl ?_
  refine J_imul dX6_copy_222 ?_
  refine J_iload 3 dX6_copy_223 rfl ?_
  refine J_iadd dX6_copy_225 ?_
  refine J_iload 6 dX6_copy_226 rfl ?_
  refine J_iadd dX6_copy_228 ?_
  obtain ⟨S1, eS1, h2⟩ := bnd_some h; clear h
  have cS1 := (t_X6_carry ha eS1)
  have lS1 : jle NX S S1 := cS1.1
  have hS1_a0 : a0 = S1.1 := ha.trans (nle_eq lS1).symm
  refine J_callV (As := [.int ((((18 : Int32) * i1) + i2) + is0), .int ((((18 : Int32) * i1) + i4) + is0)]) (rest := []) (st' := []) cS1 gC_X6_carry gM_X6_190 (by rw [ha]; exact nRecv) rfl (by decide) (by decide) rfl rfl (Nat.le_of_ble_eq_true rfl) dX6_copy_229 ?_
  refine J_iinc 5 (1 : Int32) dX6_copy_232 rfl (by decide) (by decide) [1, 2, 3, 4, 5, 0, 6] (lv' := [(0, .ref a0), (1, .int i1), (2, .int i2), (4, .int i4), (5, .int i5), (8, .int (i8 + (1 : Int32))), (9, .int is0)]) rfl ?_
  refine J_goto 182 dX6_copy_235 (by decide) ?_
  refine J_lv [0, 1, 2, 3, 4, 5] rfl ?_
  exact hk182 S1 a0 i1 i2 i4 i5 (i8 + (1 : Int32)) hS1_a0 h2
def m_X6_copy_L182 : Nat → MS → Int32 → Int32 → Int32 → Int32 → Int32 → Option (Int32 × MS)
  | 0, _, _, _, _, _, _ => none
  | n + 1, S, i1, i2, i4, i5, i8 =>
    if i5 ≤ i8 then
      (jLet (nSF S 15 i5) fun S3 =>
      some (i5, S3))
    else
      (if i4 ≤ i2 then
        (m_X6_copy_J207 (m_X6_copy_L182 n) S i1 i2 i4 i5 i8 i8)
      else
        (m_X6_copy_J207 (m_X6_copy_L182 n) S i1 i2 i4 i5 i8 ((i5 - (1 : Int32)) - i8)))
set_option maxRecDepth 100000 in
set_option maxHeartbeats 4000000 in
theorem t_X6_copy_L182 {w : (Int32 × MS)} (n : Nat) : ∀ (S : MS) (a0 : Nat) (i1 : Int32) (i2 : Int32) (i4 : Int32) (i5 : Int32) (i8 : Int32), (a0 = S.1) → m_X6_copy_L182 n S i1 i2 i4 i5 i8 = some w → J NX yX6_copy cX6_copy 10 (some .int) 2 46 182 [(0, .ref a0), (1, .int i1), (2, .int i2), (4, .int i4), (5, .int i5), (8, .int i8)] [] S (some (.int w.1)) w.2 := by
  induction n with
  | zero => intro S a0 i1 i2 i4 i5 i8 ha h; cases h
  | succ n lh =>
    intro S a0 i1 i2 i4 i5 i8 ha h
    refine J_iload 5 dX6_copy_182 rfl ?_
    refine J_iload 4 dX6_copy_184 rfl ?_
    refine J_icmp_ge 238 dX6_copy_186 (by decide) h (fun c1 h2 => ?_) (fun c1 h2 => ?_)
    · clear h
      refine J_aload_n 0 dX6_copy_238 rfl rfl ?_
      refine J_iload 4 dX6_copy_239 rfl ?_
      refine J_nput (k := 15) dX6_copy_241 gW_X6_187 ha rfl rfl ?_
      obtain ⟨S3, eS3, h4⟩ := jLet_some h2; clear h2
      refine J_topS eS3 ?_
      have hS3_a0 : a0 = S3.1 := by rw [eS3]; exact ha
      refine J_iload 4 dX6_copy_244 rfl ?_
      have hw := Option.some.inj h4; subst hw
      exact J_iret rfl dX6_copy_246
    · clear h
      refine J_iload_n 2 dX6_copy_189 rfl rfl ?_
      refine J_iload 3 dX6_copy_190 rfl ?_
      refine J_icmp_ge 205 dX6_copy_192 (by decide) h2 (fun c5 h6 => ?_) (fun c5 h6 => ?_)
      · clear h2
        refine J_iload 5 dX6_copy_205 rfl ?_
        exact t_X6_copy_J207 lh ha h6
      · clear h2
        refine J_iload 4 dX6_copy_195 rfl ?_
        refine J_iconst (1 : Int32) dX6_copy_197 (by decide) ?_
        refine J_isub dX6_copy_198 ?_
        refine J_iload 5 dX6_copy_199 rfl ?_
        refine J_isub dX6_copy_201 ?_
        refine J_goto 207 dX6_copy_202 (by decide) ?_
        exact t_X6_copy_J207 lh ha h6
def m_X6_copy_J166 (S : MS) (i1 : Int32) (i2 : Int32) (i4 : Int32) (i5 : Int32) (is0 : Int32) : Option (Int32 × MS) :=
  if is0 = 0 then
    (bnd2 (m_X6_meets S (2 : Int32)) fun i3_ S4 =>
    some (i3_, S4))
  else
    (m_X6_copy_L182 bigN S i1 i2 i4 i5 (0 : Int32))
set_option maxRecDepth 100000 in
set_option maxHeartbeats 4000000 in
theorem t_X6_copy_J166 {S : MS} {a0 : Nat} {i1 : Int32} {i2 : Int32} {i4 : Int32} {i5 : Int32} {is0 : Int32} {w : (Int32 × MS)} (ha : a0 = S.1) (h : m_X6_copy_J166 S i1 i2 i4 i5 is0 = some w) : J NX yX6_copy cX6_copy 10 (some .int) 2 46 166 [(0, .ref a0), (1, .int i1), (2, .int i2), (4, .int i4), (5, .int i5)] [.int is0] S (some (.int w.1)) w.2 := by
  refine J_istore dX6_copy_166 (by decide) [1, 2, 3, 4, 5, 0] (lv' := [(0, .ref a0), (1, .int i1), (2, .int i2), (4, .int i4), (5, .int i5), (7, .int is0)]) rfl ?_
  refine J_iload 5 dX6_copy_168 rfl ?_
  refine J_if_ne 179 dX6_copy_170 (by decide) h (fun c1 h2 => ?_) (fun c1 h2 => ?_)
  · clear h
    refine J_aload_n 0 dX6_copy_173 rfl rfl ?_
    refine J_iconst (2 : Int32) dX6_copy_174 (by decide) ?_
    obtain ⟨i3_, S4, ei3_, h5⟩ := bnd2_some h2; clear h2
    have cS4 := (t_X6_meets ha ei3_)
    have lS4 : jle NX S S4 := cS4.1
    have hS4_a0 : a0 = S4.1 := ha.trans (nle_eq lS4).symm
    refine J_callV (As := [.int (2 : Int32)]) (rest := []) (st' := [.int i3_]) cS4 gC_X6_meets gM_X6_102 (by rw [ha]; exact nRecv) rfl (by decide) (by decide) rfl rfl (Nat.le_of_ble_eq_true rfl) dX6_copy_175 ?_
    have hw := Option.some.inj h5; subst hw
    exact J_iret rfl dX6_copy_178
  · clear h
    refine J_iconst (0 : Int32) dX6_copy_179 (by decide) ?_
    refine J_istore dX6_copy_180 (by decide) [1, 2, 3, 4, 5, 0] (lv' := [(0, .ref a0), (1, .int i1), (2, .int i2), (4, .int i4), (5, .int i5), (8, .int (0 : Int32))]) rfl ?_
    exact t_X6_copy_L182 bigN S a0 i1 i2 i4 i5 (0 : Int32) ha h2
def m_X6_copy_J86 (S : MS) (i1 : Int32) (i2 : Int32) (i3 : Int32) (i4 : Int32) (i5 : Int32) (i6 : Int32) : Option (Int32 × MS) :=
  if i6 = 0 then
    (jLet (nSF S 20 (1 : Int32)) fun S3 =>
    jLet (nSF S3 15 (0 : Int32)) fun S5 =>
    if i1 = i3 then
      (if i5 < 0 then
        (m_X6_copy_J166 S5 i1 i2 i4 i5 (0 : Int32))
      else
        (if i2 < 0 then
          (m_X6_copy_J166 S5 i1 i2 i4 i5 (0 : Int32))
        else
          (if i4 < 0 then
            (m_X6_copy_J166 S5 i1 i2 i4 i5 (0 : Int32))
          else
            (gd (inB i1 30) <|
            if (Int32.toInt64 (nA S5 2 (Int32.toNatClampNeg i1))) < ((Int32.toInt64 i2) + (Int32.toInt64 i5)) then
              (m_X6_copy_J166 S5 i1 i2 i4 i5 (0 : Int32))
            else
              (gd (inB i1 30) <|
              if (Int32.toInt64 (nA S5 2 (Int32.toNatClampNeg i1))) < ((Int32.toInt64 i4) + (Int32.toInt64 i5)) then
                (m_X6_copy_J166 S5 i1 i2 i4 i5 (0 : Int32))
              else
                (m_X6_copy_J166 S5 i1 i2 i4 i5 (1 : Int32)))))))
    else
      (if 0 ≤ i5 then
        (m_X6_copy_L257 bigN S5 i1 i2 i3 i4 i5 (0 : Int32))
      else
        (some ((0 : Int32), S5))))
  else
    (bnd2 (m_X6_meets S (3 : Int32)) fun i25_ S26 =>
    some (i25_, S26))
set_option maxRecDepth 100000 in
set_option maxHeartbeats 4000000 in
theorem t_X6_copy_J86 {S : MS} {a0 : Nat} {i1 : Int32} {i2 : Int32} {i3 : Int32} {i4 : Int32} {i5 : Int32} {i6 : Int32} {w : (Int32 × MS)} (ha : a0 = S.1) (h : m_X6_copy_J86 S i1 i2 i3 i4 i5 i6 = some w) : J NX yX6_copy cX6_copy 10 (some .int) 2 46 86 [(0, .ref a0), (1, .int i1), (2, .int i2), (3, .int i3), (4, .int i4), (5, .int i5), (6, .int i6)] [] S (some (.int w.1)) w.2 := by
  refine J_iload 6 dX6_copy_86 rfl ?_
  refine J_if_eq 97 dX6_copy_88 (by decide) h (fun c1 h2 => ?_) (fun c1 h2 => ?_)
  · clear h
    refine J_aload_n 0 dX6_copy_97 rfl rfl ?_
    refine J_iconst (1 : Int32) dX6_copy_98 (by decide) ?_
    refine J_nputZ (k := 20) dX6_copy_99 gW_X6_137 ha rfl rfl (by decide) ?_
    obtain ⟨S3, eS3, h4⟩ := jLet_some h2; clear h2
    refine J_topS eS3 ?_
    have hS3_a0 : a0 = S3.1 := by rw [eS3]; exact ha
    refine J_aload_n 0 dX6_copy_102 rfl rfl ?_
    refine J_iconst (0 : Int32) dX6_copy_103 (by decide) ?_
    refine J_nput (k := 15) dX6_copy_104 gW_X6_187 hS3_a0 rfl rfl ?_
    obtain ⟨S5, eS5, h6⟩ := jLet_some h4; clear h4
    refine J_topS eS5 ?_
    have hS5_a0 : a0 = S5.1 := by rw [eS5]; exact hS3_a0
    refine J_iload_n 1 dX6_copy_107 rfl rfl ?_
    refine J_iload_n 3 dX6_copy_108 rfl rfl ?_
    refine J_icmp_ne 247 dX6_copy_109 (by decide) h6 (fun c7 h8 => ?_) (fun c7 h8 => ?_)
    · clear h6
      refine J_iload 5 dX6_copy_112 rfl ?_
      refine J_if_lt 165 dX6_copy_114 (by decide) h8 (fun c9 h10 => ?_) (fun c9 h10 => ?_)
      · clear h8
        refine J_iconst (0 : Int32) dX6_copy_165 (by decide) ?_
        refine J_lv [0, 1, 2, 4, 5] rfl ?_
        exact t_X6_copy_J166 hS5_a0 h10
      · clear h8
        refine J_iload_n 2 dX6_copy_117 rfl rfl ?_
        refine J_if_lt 165 dX6_copy_118 (by decide) h10 (fun c11 h12 => ?_) (fun c11 h12 => ?_)
        · clear h10
          refine J_iconst (0 : Int32) dX6_copy_165 (by decide) ?_
          refine J_lv [0, 1, 2, 4, 5] rfl ?_
          exact t_X6_copy_J166 hS5_a0 h12
        · clear h10
          refine J_iload 4 dX6_copy_121 rfl ?_
          refine J_if_lt 165 dX6_copy_123 (by decide) h12 (fun c13 h14 => ?_) (fun c13 h14 => ?_)
          · clear h12
            refine J_iconst (0 : Int32) dX6_copy_165 (by decide) ?_
            refine J_lv [0, 1, 2, 4, 5] rfl ?_
            exact t_X6_copy_J166 hS5_a0 h14
          · clear h12
            refine J_iload_n 2 dX6_copy_126 rfl rfl ?_
            refine J_i2l dX6_copy_127 ?_
            refine J_iload 5 dX6_copy_128 rfl ?_
            refine J_i2l dX6_copy_130 ?_
            refine J_ladd dX6_copy_131 ?_
            refine J_aload_n 0 dX6_copy_132 rfl rfl ?_
            refine J_ngetA (k := 2) (o := 1) dX6_copy_133 gF_X6_13 hS5_a0 rfl ?_
            refine J_iload_n 1 dX6_copy_136 rfl rfl ?_
            obtain ⟨g15, h16⟩ := gd_some h14; clear h14
            refine J_niald (k := 2) (o := 1) dX6_copy_137 hS5_a0 rfl rfl (by decide) g15 ?_
            refine J_i2l dX6_copy_138 ?_
            refine J_lcmp_gt 165 dX6_copy_139 dX6_copy_140 (by decide) h16 (fun c17 h18 => ?_) (fun c17 h18 => ?_)
            · clear h16
              refine J_iconst (0 : Int32) dX6_copy_165 (by decide) ?_
              refine J_lv [0, 1, 2, 4, 5] rfl ?_
              exact t_X6_copy_J166 hS5_a0 h18
            · clear h16
              refine J_iload 4 dX6_copy_143 rfl ?_
              refine J_i2l dX6_copy_145 ?_
              refine J_iload 5 dX6_copy_146 rfl ?_
              refine J_i2l dX6_copy_148 ?_
              refine J_ladd dX6_copy_149 ?_
              refine J_aload_n 0 dX6_copy_150 rfl rfl ?_
              refine J_ngetA (k := 2) (o := 1) dX6_copy_151 gF_X6_13 hS5_a0 rfl ?_
              refine J_iload_n 1 dX6_copy_154 rfl rfl ?_
              obtain ⟨g19, h20⟩ := gd_some h18; clear h18
              refine J_niald (k := 2) (o := 1) dX6_copy_155 hS5_a0 rfl rfl (by decide) g19 ?_
              refine J_i2l dX6_copy_156 ?_
              refine J_lcmp_gt 165 dX6_copy_157 dX6_copy_158 (by decide) h20 (fun c21 h22 => ?_) (fun c21 h22 => ?_)
              · clear h20
                refine J_iconst (0 : Int32) dX6_copy_165 (by decide) ?_
                refine J_lv [0, 1, 2, 4, 5] rfl ?_
                exact t_X6_copy_J166 hS5_a0 h22
              · clear h20
                refine J_iconst (1 : Int32) dX6_copy_161 (by decide) ?_
                refine J_goto 166 dX6_copy_162 (by decide) ?_
                refine J_lv [0, 1, 2, 4, 5] rfl ?_
                exact t_X6_copy_J166 hS5_a0 h22
    · clear h6
      refine J_iload 5 dX6_copy_247 rfl ?_
      refine J_if_ge 254 dX6_copy_249 (by decide) h8 (fun c23 h24 => ?_) (fun c23 h24 => ?_)
      · clear h8
        refine J_iconst (0 : Int32) dX6_copy_254 (by decide) ?_
        refine J_istore dX6_copy_255 (by decide) [1, 2, 3, 4, 5, 6, 0] (lv' := [(0, .ref a0), (1, .int i1), (2, .int i2), (3, .int i3), (4, .int i4), (5, .int i5), (7, .int (0 : Int32))]) rfl ?_
        exact t_X6_copy_L257 bigN S5 a0 i1 i2 i3 i4 i5 (0 : Int32) hS5_a0 h24
      · clear h8
        refine J_iconst (0 : Int32) dX6_copy_252 (by decide) ?_
        have hw := Option.some.inj h24; subst hw
        exact J_iret rfl dX6_copy_253
  · clear h
    refine J_aload_n 0 dX6_copy_91 rfl rfl ?_
    refine J_iconst (3 : Int32) dX6_copy_92 (by decide) ?_
    obtain ⟨i25_, S26, ei25_, h27⟩ := bnd2_some h2; clear h2
    have cS26 := (t_X6_meets ha ei25_)
    have lS26 : jle NX S S26 := cS26.1
    have hS26_a0 : a0 = S26.1 := ha.trans (nle_eq lS26).symm
    refine J_callV (As := [.int (3 : Int32)]) (rest := []) (st' := [.int i25_]) cS26 gC_X6_meets gM_X6_102 (by rw [ha]; exact nRecv) rfl (by decide) (by decide) rfl rfl (Nat.le_of_ble_eq_true rfl) dX6_copy_93 ?_
    have hw := Option.some.inj h27; subst hw
    exact J_iret rfl dX6_copy_96
def m_X6_copy_J65 (S : MS) (i1 : Int32) (i2 : Int32) (i3 : Int32) (i4 : Int32) (i5 : Int32) (i6 : Int32) (is0 : Int32) : Option (Int32 × MS) :=
  gd (inB i3 30) <|
  if (nA S 1 (Int32.toNatClampNeg i3)) = (2 : Int32) then
    (if is0 = (1 : Int32) then
      (m_X6_copy_J86 S i1 i2 i3 i4 i5 i6)
    else
      (some ((-3 : Int32), S)))
  else
    (if is0 = (0 : Int32) then
      (m_X6_copy_J86 S i1 i2 i3 i4 i5 i6)
    else
      (some ((-3 : Int32), S)))
set_option maxRecDepth 100000 in
set_option maxHeartbeats 4000000 in
theorem t_X6_copy_J65 {S : MS} {a0 : Nat} {i1 : Int32} {i2 : Int32} {i3 : Int32} {i4 : Int32} {i5 : Int32} {i6 : Int32} {is0 : Int32} {w : (Int32 × MS)} (ha : a0 = S.1) (h : m_X6_copy_J65 S i1 i2 i3 i4 i5 i6 is0 = some w) : J NX yX6_copy cX6_copy 10 (some .int) 2 46 65 [(0, .ref a0), (1, .int i1), (2, .int i2), (3, .int i3), (4, .int i4), (5, .int i5), (6, .int i6)] [.int is0] S (some (.int w.1)) w.2 := by
  refine J_aload_n 0 dX6_copy_65 rfl rfl ?_
  refine J_ngetA (k := 1) (o := 0) dX6_copy_66 gF_X6_7 ha rfl ?_
  refine J_iload_n 3 dX6_copy_69 rfl rfl ?_
  obtain ⟨g1, h2⟩ := gd_some h; clear h
  refine J_niald (k := 1) (o := 0) dX6_copy_70 ha rfl rfl (by decide) g1 ?_
  refine J_iconst (2 : Int32) dX6_copy_71 (by decide) ?_
  refine J_icmp_ne 79 dX6_copy_72 (by decide) h2 (fun c3 h4 => ?_) (fun c3 h4 => ?_)
  · clear h2
    refine J_iconst (1 : Int32) dX6_copy_75 (by decide) ?_
    refine J_goto 80 dX6_copy_76 (by decide) ?_
    refine J_icmp_eq 86 dX6_copy_80 (by decide) h4 (fun c5 h6 => ?_) (fun c5 h6 => ?_)
    · clear h4
      exact t_X6_copy_J86 ha h6
    · clear h4
      refine J_bipush (-3 : Int32) dX6_copy_83 (by decide) ?_
      have hw := Option.some.inj h6; subst hw
      exact J_iret rfl dX6_copy_85
  · clear h2
    refine J_iconst (0 : Int32) dX6_copy_79 (by decide) ?_
    refine J_icmp_eq 86 dX6_copy_80 (by decide) h4 (fun c7 h8 => ?_) (fun c7 h8 => ?_)
    · clear h4
      exact t_X6_copy_J86 ha h8
    · clear h4
      refine J_bipush (-3 : Int32) dX6_copy_83 (by decide) ?_
      have hw := Option.some.inj h8; subst hw
      exact J_iret rfl dX6_copy_85
def m_X6_copy_J43 (S : MS) (i1 : Int32) (i2 : Int32) (i3 : Int32) (i4 : Int32) (i5 : Int32) (is0 : Int32) : Option (Int32 × MS) :=
  if is0 = 0 then
    (gd (inB i1 30) <|
    if (nA S 1 (Int32.toNatClampNeg i1)) = (2 : Int32) then
      (m_X6_copy_J65 S i1 i2 i3 i4 i5 is0 (1 : Int32))
    else
      (m_X6_copy_J65 S i1 i2 i3 i4 i5 is0 (0 : Int32)))
  else
    (m_X6_copy_J86 S i1 i2 i3 i4 i5 is0)
set_option maxRecDepth 100000 in
set_option maxHeartbeats 4000000 in
theorem t_X6_copy_J43 {S : MS} {a0 : Nat} {i1 : Int32} {i2 : Int32} {i3 : Int32} {i4 : Int32} {i5 : Int32} {is0 : Int32} {w : (Int32 × MS)} (ha : a0 = S.1) (h : m_X6_copy_J43 S i1 i2 i3 i4 i5 is0 = some w) : J NX yX6_copy cX6_copy 10 (some .int) 2 46 43 [(0, .ref a0), (1, .int i1), (2, .int i2), (3, .int i3), (4, .int i4), (5, .int i5)] [.int is0] S (some (.int w.1)) w.2 := by
  refine J_istore dX6_copy_43 (by decide) [1, 2, 3, 4, 5, 6, 0] (lv' := [(0, .ref a0), (1, .int i1), (2, .int i2), (3, .int i3), (4, .int i4), (5, .int i5), (6, .int is0)]) rfl ?_
  refine J_iload 6 dX6_copy_45 rfl ?_
  refine J_if_ne 86 dX6_copy_47 (by decide) h (fun c1 h2 => ?_) (fun c1 h2 => ?_)
  · clear h
    refine J_aload_n 0 dX6_copy_50 rfl rfl ?_
    refine J_ngetA (k := 1) (o := 0) dX6_copy_51 gF_X6_7 ha rfl ?_
    refine J_iload_n 1 dX6_copy_54 rfl rfl ?_
    obtain ⟨g3, h4⟩ := gd_some h2; clear h2
    refine J_niald (k := 1) (o := 0) dX6_copy_55 ha rfl rfl (by decide) g3 ?_
    refine J_iconst (2 : Int32) dX6_copy_56 (by decide) ?_
    refine J_icmp_ne 64 dX6_copy_57 (by decide) h4 (fun c5 h6 => ?_) (fun c5 h6 => ?_)
    · clear h4
      refine J_iconst (1 : Int32) dX6_copy_60 (by decide) ?_
      refine J_goto 65 dX6_copy_61 (by decide) ?_
      exact t_X6_copy_J65 ha h6
    · clear h4
      refine J_iconst (0 : Int32) dX6_copy_64 (by decide) ?_
      exact t_X6_copy_J65 ha h6
  · clear h
    exact t_X6_copy_J86 ha h2
def m_X6_copy (S : MS) (i1 : Int32) (i2 : Int32) (i3 : Int32) (i4 : Int32) (i5 : Int32) : Option (Int32 × MS) :=
  bnd (m_X6_isFrame S i1) fun i1_ =>
  if i1_ = 0 then
    (some ((-1 : Int32), S))
  else
    (bnd (m_X6_isFrame S i3) fun i5_ =>
    if i5_ = 0 then
      (some ((-1 : Int32), S))
    else
      (gd (inB i1 30) <|
      if (nA S 1 (Int32.toNatClampNeg i1)) = (4 : Int32) then
        (m_X6_copy_J43 S i1 i2 i3 i4 i5 (1 : Int32))
      else
        (gd (inB i3 30) <|
        if (nA S 1 (Int32.toNatClampNeg i3)) = (4 : Int32) then
          (m_X6_copy_J43 S i1 i2 i3 i4 i5 (1 : Int32))
        else
          (m_X6_copy_J43 S i1 i2 i3 i4 i5 (0 : Int32)))))
set_option maxRecDepth 100000 in
set_option maxHeartbeats 4000000 in
theorem t_X6_copy {S : MS} {a0 : Nat} {i1 : Int32} {i2 : Int32} {i3 : Int32} {i4 : Int32} {i5 : Int32} {w : (Int32 × MS)} (ha : a0 = S.1) (h : m_X6_copy S i1 i2 i3 i4 i5 = some w) : CT NX yX6_copy cX6_copy 10 (some .int) 2 46 [.ref a0, .int i1, .int i2, .int i3, .int i4, .int i5] S (some (.int w.1)) w.2 := by
  refine CT.of (lv := [(0, .ref a0), (1, .int i1), (2, .int i2), (3, .int i3), (4, .int i4), (5, .int i5)]) (by decide) rfl (Nat.le_of_ble_eq_true rfl) ?_
  refine J_aload_n 0 dX6_copy_0 rfl rfl ?_
  refine J_iload_n 1 dX6_copy_1 rfl rfl ?_
  obtain ⟨i1_, ei1_, h2⟩ := bnd_some h; clear h
  refine J_callV (As := [.int i1]) (rest := []) (st' := [.int i1_]) (t_X6_isFrame ha ei1_) gC_X6_isFrame gM_X6_129 (by rw [ha]; exact nRecv) rfl (by decide) (by decide) rfl rfl (Nat.le_of_ble_eq_true rfl) dX6_copy_2 ?_
  refine J_if_eq 16 dX6_copy_5 (by decide) h2 (fun c3 h4 => ?_) (fun c3 h4 => ?_)
  · clear h2
    refine J_iconst (-1 : Int32) dX6_copy_16 (by decide) ?_
    have hw := Option.some.inj h4; subst hw
    exact J_iret rfl dX6_copy_17
  · clear h2
    refine J_aload_n 0 dX6_copy_8 rfl rfl ?_
    refine J_iload_n 3 dX6_copy_9 rfl rfl ?_
    obtain ⟨i5_, ei5_, h6⟩ := bnd_some h4; clear h4
    refine J_callV (As := [.int i3]) (rest := []) (st' := [.int i5_]) (t_X6_isFrame ha ei5_) gC_X6_isFrame gM_X6_129 (by rw [ha]; exact nRecv) rfl (by decide) (by decide) rfl rfl (Nat.le_of_ble_eq_true rfl) dX6_copy_10 ?_
    refine J_if_ne 18 dX6_copy_13 (by decide) h6 (fun c7 h8 => ?_) (fun c7 h8 => ?_)
    · clear h6
      refine J_iconst (-1 : Int32) dX6_copy_16 (by decide) ?_
      have hw := Option.some.inj h8; subst hw
      exact J_iret rfl dX6_copy_17
    · clear h6
      refine J_aload_n 0 dX6_copy_18 rfl rfl ?_
      refine J_ngetA (k := 1) (o := 0) dX6_copy_19 gF_X6_7 ha rfl ?_
      refine J_iload_n 1 dX6_copy_22 rfl rfl ?_
      obtain ⟨g9, h10⟩ := gd_some h8; clear h8
      refine J_niald (k := 1) (o := 0) dX6_copy_23 ha rfl rfl (by decide) g9 ?_
      refine J_iconst (4 : Int32) dX6_copy_24 (by decide) ?_
      refine J_icmp_eq 38 dX6_copy_25 (by decide) h10 (fun c11 h12 => ?_) (fun c11 h12 => ?_)
      · clear h10
        refine J_iconst (1 : Int32) dX6_copy_38 (by decide) ?_
        refine J_goto 43 dX6_copy_39 (by decide) ?_
        exact t_X6_copy_J43 ha h12
      · clear h10
        refine J_aload_n 0 dX6_copy_28 rfl rfl ?_
        refine J_ngetA (k := 1) (o := 0) dX6_copy_29 gF_X6_7 ha rfl ?_
        refine J_iload_n 3 dX6_copy_32 rfl rfl ?_
        obtain ⟨g13, h14⟩ := gd_some h12; clear h12
        refine J_niald (k := 1) (o := 0) dX6_copy_33 ha rfl rfl (by decide) g13 ?_
        refine J_iconst (4 : Int32) dX6_copy_34 (by decide) ?_
        refine J_icmp_ne 42 dX6_copy_35 (by decide) h14 (fun c15 h16 => ?_) (fun c15 h16 => ?_)
        · clear h14
          refine J_iconst (1 : Int32) dX6_copy_38 (by decide) ?_
          refine J_goto 43 dX6_copy_39 (by decide) ?_
          exact t_X6_copy_J43 ha h16
        · clear h14
          refine J_iconst (0 : Int32) dX6_copy_42 (by decide) ?_
          exact t_X6_copy_J43 ha h16
def m_X6_copied (S : MS) : Option Int32 :=
  some (nF S 15)
set_option maxRecDepth 100000 in
set_option maxHeartbeats 4000000 in
theorem t_X6_copied {S : MS} {a0 : Nat} {w : Int32} (ha : a0 = S.1) (h : m_X6_copied S = some w) : CT NX yX6_copied cX6_copied 1 (some .int) 0 0 [.ref a0] S (some (.int w)) S := by
  refine CT.of (lv := [(0, .ref a0)]) (by decide) rfl (Nat.le_of_ble_eq_true rfl) ?_
  refine J_aload_n 0 dX6_copied_0 rfl rfl ?_
  refine J_nget (k := 15) dX6_copied_1 gF_X6_187 ha rfl ?_
  have hw := Option.some.inj h; subst hw
  exact J_iret rfl dX6_copied_4
def m_X6_digest_L75 (k19 : Int32 → Int64 → Int32 → Option Int64) (S : MS) : Nat → Int32 → Int64 → Int32 → Int32 → Int32 → Option Int64
  | 0, _, _, _, _, _ => none
  | n + 1, i1, j2, i4, i5, i6 =>
    gd (inB i5 540) <|
    if (nA S 9 (Int32.toNatClampNeg i5)) ≤ i6 then
      (k19 i1 j2 (i4 + (1 : Int32)))
    else
      (if i6 = 0 then
        (gd (inB i5 540) <|
        jLet ((((31 : Int64) * j2) + (Int32.toInt64 (nA S 10 (Int32.toNatClampNeg i5))))) fun j9_ =>
        m_X6_digest_L75 k19 S n i1 j9_ i4 i5 (i6 + (1 : Int32)))
      else
        (gd (inB i5 540) <|
        jLet ((((31 : Int64) * j2) + (Int32.toInt64 (nA S 11 (Int32.toNatClampNeg i5))))) fun j13_ =>
        m_X6_digest_L75 k19 S n i1 j13_ i4 i5 (i6 + (1 : Int32))))
set_option maxRecDepth 100000 in
set_option maxHeartbeats 4000000 in
theorem t_X6_digest_L75 {k19 : Int32 → Int64 → Int32 → Option Int64} {S : MS} {w : Int64} (hk19 : ∀ (a0 : Nat) (i1 : Int32) (j2 : Int64) (i4 : Int32), (a0 = S.1) → k19 i1 j2 i4 = some w → J NX yX6_digest cX6_digest 7 (some .long) 2 46 19 [(0, .ref a0), (1, .int i1), (2, .long j2), (4, .int i4)] [] S (some (.long w)) S) (n : Nat) : ∀ (a0 : Nat) (i1 : Int32) (j2 : Int64) (i4 : Int32) (i5 : Int32) (i6 : Int32), (a0 = S.1) → m_X6_digest_L75 k19 S n i1 j2 i4 i5 i6 = some w → J NX yX6_digest cX6_digest 7 (some .long) 2 46 75 [(0, .ref a0), (1, .int i1), (2, .long j2), (4, .int i4), (5, .int i5), (6, .int i6)] [] S (some (.long w)) S := by
  induction n with
  | zero => intro a0 i1 j2 i4 i5 i6 ha h; cases h
  | succ n lh =>
    intro a0 i1 j2 i4 i5 i6 ha h
    refine J_iload 5 dX6_digest_75 rfl ?_
    refine J_aload_n 0 dX6_digest_77 rfl rfl ?_
    refine J_ngetA (k := 9) (o := 8) dX6_digest_78 gF_X6_34 ha rfl ?_
    refine J_iload 4 dX6_digest_81 rfl ?_
    obtain ⟨g1, h2⟩ := gd_some h; clear h
    refine J_niald (k := 9) (o := 8) dX6_digest_83 ha rfl rfl (by decide) g1 ?_
    refine J_icmp_ge 123 dX6_digest_84 (by decide) h2 (fun c3 h4 => ?_) (fun c3 h4 => ?_)
    · clear h2
      refine J_iinc 3 (1 : Int32) dX6_digest_123 rfl (by decide) (by decide) [1, 2, 3, 0, 4, 5] (lv' := [(0, .ref a0), (1, .int i1), (2, .long j2), (4, .int (i4 + (1 : Int32))), (5, .int i5), (6, .int i6)]) rfl ?_
      refine J_goto 19 dX6_digest_126 (by decide) ?_
      refine J_lv [0, 1, 2, 3] rfl ?_
      exact hk19 a0 i1 j2 (i4 + (1 : Int32)) ha h4
    · clear h2
      refine J_ldc2 (31 : Int64) dX6_digest_87 gK_X6_195 ?_
      refine J_lload_n 2 dX6_digest_90 rfl rfl ?_
      refine J_lmul dX6_digest_91 ?_
      refine J_iload 5 dX6_digest_92 rfl ?_
      refine J_if_ne 107 dX6_digest_94 (by decide) h4 (fun c5 h6 => ?_) (fun c5 h6 => ?_)
      · clear h4
        refine J_aload_n 0 dX6_digest_97 rfl rfl ?_
        refine J_ngetA (k := 10) (o := 9) dX6_digest_98 gF_X6_37 ha rfl ?_
        refine J_iload 4 dX6_digest_101 rfl ?_
        obtain ⟨g7, h8⟩ := gd_some h6; clear h6
        refine J_niald (k := 10) (o := 9) dX6_digest_103 ha rfl rfl (by decide) g7 ?_
        refine J_goto 114 dX6_digest_104 (by decide) ?_
        refine J_i2l dX6_digest_114 ?_
        refine J_ladd dX6_digest_115 ?_
        obtain ⟨j9_, ej9_, h10⟩ := jLet_some h8; clear h8
        refine J_topL ej9_ ?_
        refine J_lstore_n dX6_digest_116 rfl (by decide) [1, 2, 0, 3, 4, 5] (lv' := [(0, .ref a0), (1, .int i1), (2, .long j9_), (4, .int i4), (5, .int i5), (6, .int i6)]) rfl ?_
        refine J_iinc 5 (1 : Int32) dX6_digest_117 rfl (by decide) (by decide) [1, 2, 3, 4, 5, 0] (lv' := [(0, .ref a0), (1, .int i1), (2, .long j9_), (4, .int i4), (5, .int i5), (6, .int (i6 + (1 : Int32)))]) rfl ?_
        refine J_goto 75 dX6_digest_120 (by decide) ?_
        exact lh a0 i1 j9_ i4 i5 (i6 + (1 : Int32)) ha h10
      · clear h4
        refine J_aload_n 0 dX6_digest_107 rfl rfl ?_
        refine J_ngetA (k := 11) (o := 10) dX6_digest_108 gF_X6_40 ha rfl ?_
        refine J_iload 4 dX6_digest_111 rfl ?_
        obtain ⟨g11, h12⟩ := gd_some h6; clear h6
        refine J_niald (k := 11) (o := 10) dX6_digest_113 ha rfl rfl (by decide) g11 ?_
        refine J_i2l dX6_digest_114 ?_
        refine J_ladd dX6_digest_115 ?_
        obtain ⟨j13_, ej13_, h14⟩ := jLet_some h12; clear h12
        refine J_topL ej13_ ?_
        refine J_lstore_n dX6_digest_116 rfl (by decide) [1, 2, 0, 3, 4, 5] (lv' := [(0, .ref a0), (1, .int i1), (2, .long j13_), (4, .int i4), (5, .int i5), (6, .int i6)]) rfl ?_
        refine J_iinc 5 (1 : Int32) dX6_digest_117 rfl (by decide) (by decide) [1, 2, 3, 4, 5, 0] (lv' := [(0, .ref a0), (1, .int i1), (2, .long j13_), (4, .int i4), (5, .int i5), (6, .int (i6 + (1 : Int32)))]) rfl ?_
        refine J_goto 75 dX6_digest_120 (by decide) ?_
        exact lh a0 i1 j13_ i4 i5 (i6 + (1 : Int32)) ha h14
def m_X6_digest_L19 (S : MS) : Nat → Int32 → Int64 → Int32 → Option Int64
  | 0, _, _, _ => none
  | n + 1, i1, j2, i4 =>
    gd (inB i1 30) <|
    if (nA S 2 (Int32.toNatClampNeg i1)) ≤ i4 then
      (some j2)
    else
      (bnd (m_X6_rodOf S i1 i4) fun i5_ =>
      gd (inB i5_ 540) <|
      if ((nA S 9 (Int32.toNatClampNeg i5_)) + (1 : Int32)) ≤ 0 then
        (jLet ((((31 : Int64) * j2) + (Int32.toInt64 (0 : Int32)))) fun j11_ =>
        m_X6_digest_L75 (m_X6_digest_L19 S n) S bigN i1 j11_ i4 i5_ (0 : Int32))
      else
        (gd (inB i5_ 540) <|
        jLet ((((31 : Int64) * j2) + (Int32.toInt64 ((nA S 9 (Int32.toNatClampNeg i5_)) + (1 : Int32))))) fun j15_ =>
        m_X6_digest_L75 (m_X6_digest_L19 S n) S bigN i1 j15_ i4 i5_ (0 : Int32)))
set_option maxRecDepth 100000 in
set_option maxHeartbeats 4000000 in
theorem t_X6_digest_L19 {S : MS} {w : Int64} (n : Nat) : ∀ (a0 : Nat) (i1 : Int32) (j2 : Int64) (i4 : Int32), (a0 = S.1) → m_X6_digest_L19 S n i1 j2 i4 = some w → J NX yX6_digest cX6_digest 7 (some .long) 2 46 19 [(0, .ref a0), (1, .int i1), (2, .long j2), (4, .int i4)] [] S (some (.long w)) S := by
  induction n with
  | zero => intro a0 i1 j2 i4 ha h; cases h
  | succ n lh =>
    intro a0 i1 j2 i4 ha h
    refine J_iload 3 dX6_digest_19 rfl ?_
    refine J_aload_n 0 dX6_digest_21 rfl rfl ?_
    refine J_ngetA (k := 2) (o := 1) dX6_digest_22 gF_X6_13 ha rfl ?_
    refine J_iload_n 1 dX6_digest_25 rfl rfl ?_
    obtain ⟨g1, h2⟩ := gd_some h; clear h
    refine J_niald (k := 2) (o := 1) dX6_digest_26 ha rfl rfl (by decide) g1 ?_
    refine J_icmp_ge 129 dX6_digest_27 (by decide) h2 (fun c3 h4 => ?_) (fun c3 h4 => ?_)
    · clear h2
      refine J_lload_n 2 dX6_digest_129 rfl rfl ?_
      have hw := Option.some.inj h4; subst hw
      exact J_lret rfl dX6_digest_130
    · clear h2
      refine J_aload_n 0 dX6_digest_30 rfl rfl ?_
      refine J_iload_n 1 dX6_digest_31 rfl rfl ?_
      refine J_iload 3 dX6_digest_32 rfl ?_
      obtain ⟨i5_, ei5_, h6⟩ := bnd_some h4; clear h4
      refine J_callV (As := [.int i1, .int i4]) (rest := []) (st' := [.int i5_]) (t_X6_rodOf ha ei5_) gC_X6_rodOf gM_X6_108 (by rw [ha]; exact nRecv) rfl (by decide) (by decide) rfl rfl (Nat.le_of_ble_eq_true rfl) dX6_digest_34 ?_
      refine J_istore dX6_digest_37 (by decide) [1, 2, 3, 4, 0] (lv' := [(0, .ref a0), (1, .int i1), (2, .long j2), (4, .int i4), (5, .int i5_)]) rfl ?_
      refine J_ldc2 (31 : Int64) dX6_digest_39 gK_X6_195 ?_
      refine J_lload_n 2 dX6_digest_42 rfl rfl ?_
      refine J_lmul dX6_digest_43 ?_
      refine J_aload_n 0 dX6_digest_44 rfl rfl ?_
      refine J_ngetA (k := 9) (o := 8) dX6_digest_45 gF_X6_34 ha rfl ?_
      refine J_iload 4 dX6_digest_48 rfl ?_
      obtain ⟨g7, h8⟩ := gd_some h6; clear h6
      refine J_niald (k := 9) (o := 8) dX6_digest_50 ha rfl rfl (by decide) g7 ?_
      refine J_iconst (1 : Int32) dX6_digest_51 (by decide) ?_
      refine J_iadd dX6_digest_52 ?_
      refine J_if_le 68 dX6_digest_53 (by decide) h8 (fun c9 h10 => ?_) (fun c9 h10 => ?_)
      · clear h8
        refine J_iconst (0 : Int32) dX6_digest_68 (by decide) ?_
        refine J_i2l dX6_digest_69 ?_
        refine J_ladd dX6_digest_70 ?_
        obtain ⟨j11_, ej11_, h12⟩ := jLet_some h10; clear h10
        refine J_topL ej11_ ?_
        refine J_lstore_n dX6_digest_71 rfl (by decide) [1, 2, 0, 3, 4] (lv' := [(0, .ref a0), (1, .int i1), (2, .long j11_), (4, .int i4), (5, .int i5_)]) rfl ?_
        refine J_iconst (0 : Int32) dX6_digest_72 (by decide) ?_
        refine J_istore dX6_digest_73 (by decide) [1, 2, 3, 4, 5, 0] (lv' := [(0, .ref a0), (1, .int i1), (2, .long j11_), (4, .int i4), (5, .int i5_), (6, .int (0 : Int32))]) rfl ?_
        exact t_X6_digest_L75 lh bigN a0 i1 j11_ i4 i5_ (0 : Int32) ha h12
      · clear h8
        refine J_aload_n 0 dX6_digest_56 rfl rfl ?_
        refine J_ngetA (k := 9) (o := 8) dX6_digest_57 gF_X6_34 ha rfl ?_
        refine J_iload 4 dX6_digest_60 rfl ?_
        obtain ⟨g13, h14⟩ := gd_some h10; clear h10
        refine J_niald (k := 9) (o := 8) dX6_digest_62 ha rfl rfl (by decide) g13 ?_
        refine J_iconst (1 : Int32) dX6_digest_63 (by decide) ?_
        refine J_iadd dX6_digest_64 ?_
        refine J_goto 69 dX6_digest_65 (by decide) ?_
        refine J_i2l dX6_digest_69 ?_
        refine J_ladd dX6_digest_70 ?_
        obtain ⟨j15_, ej15_, h16⟩ := jLet_some h14; clear h14
        refine J_topL ej15_ ?_
        refine J_lstore_n dX6_digest_71 rfl (by decide) [1, 2, 0, 3, 4] (lv' := [(0, .ref a0), (1, .int i1), (2, .long j15_), (4, .int i4), (5, .int i5_)]) rfl ?_
        refine J_iconst (0 : Int32) dX6_digest_72 (by decide) ?_
        refine J_istore dX6_digest_73 (by decide) [1, 2, 3, 4, 5, 0] (lv' := [(0, .ref a0), (1, .int i1), (2, .long j15_), (4, .int i4), (5, .int i5_), (6, .int (0 : Int32))]) rfl ?_
        exact t_X6_digest_L75 lh bigN a0 i1 j15_ i4 i5_ (0 : Int32) ha h16
def m_X6_digest (S : MS) (i1 : Int32) : Option Int64 :=
  bnd (m_X6_isFrame S i1) fun i1_ =>
  if i1_ = 0 then
    (some (-9223372036854775808 : Int64))
  else
    (m_X6_digest_L19 S bigN i1 (7 : Int64) (0 : Int32))
set_option maxRecDepth 100000 in
set_option maxHeartbeats 4000000 in
theorem t_X6_digest {S : MS} {a0 : Nat} {i1 : Int32} {w : Int64} (ha : a0 = S.1) (h : m_X6_digest S i1 = some w) : CT NX yX6_digest cX6_digest 7 (some .long) 2 46 [.ref a0, .int i1] S (some (.long w)) S := by
  refine CT.of (lv := [(0, .ref a0), (1, .int i1)]) (by decide) rfl (Nat.le_of_ble_eq_true rfl) ?_
  refine J_aload_n 0 dX6_digest_0 rfl rfl ?_
  refine J_iload_n 1 dX6_digest_1 rfl rfl ?_
  obtain ⟨i1_, ei1_, h2⟩ := bnd_some h; clear h
  refine J_callV (As := [.int i1]) (rest := []) (st' := [.int i1_]) (t_X6_isFrame ha ei1_) gC_X6_isFrame gM_X6_129 (by rw [ha]; exact nRecv) rfl (by decide) (by decide) rfl rfl (Nat.le_of_ble_eq_true rfl) dX6_digest_2 ?_
  refine J_if_ne 12 dX6_digest_5 (by decide) h2 (fun c3 h4 => ?_) (fun c3 h4 => ?_)
  · clear h2
    refine J_ldc2 (-9223372036854775808 : Int64) dX6_digest_8 gK_X6_106 ?_
    have hw := Option.some.inj h4; subst hw
    exact J_lret rfl dX6_digest_11
  · clear h2
    refine J_ldc2 (7 : Int64) dX6_digest_12 gK_X6_193 ?_
    refine J_lstore_n dX6_digest_15 rfl (by decide) [1, 2, 0] (lv' := [(0, .ref a0), (1, .int i1), (2, .long (7 : Int64))]) rfl ?_
    refine J_iconst (0 : Int32) dX6_digest_16 (by decide) ?_
    refine J_istore dX6_digest_17 (by decide) [1, 2, 3, 0] (lv' := [(0, .ref a0), (1, .int i1), (2, .long (7 : Int64)), (4, .int (0 : Int32))]) rfl ?_
    exact t_X6_digest_L19 bigN a0 i1 (7 : Int64) (0 : Int32) ha h4
def m_X6_ofFloat (S : MS) (i1 : Int32) (i2 : Int32) : Option (Int32 × MS) :=
  bnd (m_X6_isFrame S i1) fun i1_ =>
  if i1_ = 0 then
    (some ((-1 : Int32), S))
  else
    (if (i2 &&& (2147483647 : Int32)) < (2139095040 : Int32) then
      (gd (sn32 i2) <|
      if 0 ≤ (Op.cmpValue (FP.fcmp (Int32.toUInt32 i2) 0) .g) then
        (bnd2 (m_X6_set S i1 (FP.f2l (Int32.toUInt32 i2))) fun i11_ S12 =>
        some (i11_, S12))
      else
        (some ((-2 : Int32), S)))
    else
      (some ((-2 : Int32), S)))
set_option maxRecDepth 100000 in
set_option maxHeartbeats 4000000 in
theorem t_X6_ofFloat {S : MS} {a0 : Nat} {i1 : Int32} {i2 : Int32} {w : (Int32 × MS)} (ha : a0 = S.1) (h : m_X6_ofFloat S i1 i2 = some w) : CT NX yX6_ofFloat cX6_ofFloat 4 (some .int) 4 103 [.ref a0, .int i1, .int i2] S (some (.int w.1)) w.2 := by
  refine CT.of (lv := [(0, .ref a0), (1, .int i1), (2, .int i2)]) (by decide) rfl (Nat.le_of_ble_eq_true rfl) ?_
  refine J_aload_n 0 dX6_ofFloat_0 rfl rfl ?_
  refine J_iload_n 1 dX6_ofFloat_1 rfl rfl ?_
  obtain ⟨i1_, ei1_, h2⟩ := bnd_some h; clear h
  refine J_callV (As := [.int i1]) (rest := []) (st' := [.int i1_]) (t_X6_isFrame ha ei1_) gC_X6_isFrame gM_X6_129 (by rw [ha]; exact nRecv) rfl (by decide) (by decide) rfl rfl (Nat.le_of_ble_eq_true rfl) dX6_ofFloat_2 ?_
  refine J_if_ne 10 dX6_ofFloat_5 (by decide) h2 (fun c3 h4 => ?_) (fun c3 h4 => ?_)
  · clear h2
    refine J_iconst (-1 : Int32) dX6_ofFloat_8 (by decide) ?_
    have hw := Option.some.inj h4; subst hw
    exact J_iret rfl dX6_ofFloat_9
  · clear h2
    refine J_iload_n 2 dX6_ofFloat_10 rfl rfl ?_
    refine J_ldc (2147483647 : Int32) dX6_ofFloat_11 gK_X6_197 ?_
    refine J_iand dX6_ofFloat_13 ?_
    refine J_ldc (2139095040 : Int32) dX6_ofFloat_14 gK_X6_198 ?_
    refine J_icmp_lt 22 dX6_ofFloat_16 (by decide) h4 (fun c5 h6 => ?_) (fun c5 h6 => ?_)
    · clear h4
      refine J_iload_n 2 dX6_ofFloat_22 rfl rfl ?_
      obtain ⟨g7, h8⟩ := gd_some h6; clear h6
      refine J_i2f dX6_ofFloat_23 gM_X6_199 (sn32_of g7) (by decide) (by decide) (Nat.le_of_ble_eq_true rfl) ?_
      refine J_fstore_n dX6_ofFloat_26 rfl (by decide) [1, 2, 0] (lv' := [(0, .ref a0), (1, .int i1), (3, .float (Int32.toUInt32 i2))]) rfl ?_
      refine J_fload_n 2 dX6_ofFloat_27 rfl rfl ?_
      refine J_fconst0 dX6_ofFloat_28 ?_
      refine J_fcmp dX6_ofFloat_29 ?_
      refine J_if_ge 38 dX6_ofFloat_30 (by decide) h8 (fun c9 h10 => ?_) (fun c9 h10 => ?_)
      · clear h8
        refine J_aload_n 0 dX6_ofFloat_38 rfl rfl ?_
        refine J_iload_n 1 dX6_ofFloat_39 rfl rfl ?_
        refine J_fload_n 2 dX6_ofFloat_40 rfl rfl ?_
        refine J_f2l dX6_ofFloat_41 ?_
        obtain ⟨i11_, S12, ei11_, h13⟩ := bnd2_some h10; clear h10
        have cS12 := (t_X6_set ha ei11_)
        have lS12 : jle NX S S12 := cS12.1
        have hS12_a0 : a0 = S12.1 := ha.trans (nle_eq lS12).symm
        refine J_callV (As := [.int i1, .long (FP.f2l (Int32.toUInt32 i2))]) (rest := []) (st' := [.int i11_]) cS12 gC_X6_set gM_X6_205 (by rw [ha]; exact nRecv) rfl (by decide) (by decide) rfl rfl (Nat.le_of_ble_eq_true rfl) dX6_ofFloat_42 ?_
        have hw := Option.some.inj h13; subst hw
        exact J_iret rfl dX6_ofFloat_45
      · clear h8
        refine J_bipush (-2 : Int32) dX6_ofFloat_33 (by decide) ?_
        refine J_goto 45 dX6_ofFloat_35 (by decide) ?_
        have hw := Option.some.inj h10; subst hw
        exact J_iret rfl dX6_ofFloat_45
    · clear h4
      refine J_bipush (-2 : Int32) dX6_ofFloat_19 (by decide) ?_
      have hw := Option.some.inj h6; subst hw
      exact J_iret rfl dX6_ofFloat_21
def m_X6_ofDouble (S : MS) (i1 : Int32) (j2 : Int64) : Option (Int32 × MS) :=
  bnd (m_X6_isFrame S i1) fun i1_ =>
  if i1_ = 0 then
    (some ((-1 : Int32), S))
  else
    (if (j2 &&& (9223372036854775807 : Int64)) < (9218868437227405312 : Int64) then
      (gd (sn64 j2) <|
      if 0 ≤ (Op.cmpValue (FP.dcmp (Int64.toUInt64 j2) 0) .g) then
        (bnd2 (m_X6_set S i1 (FP.d2l (Int64.toUInt64 j2))) fun i11_ S12 =>
        some (i11_, S12))
      else
        (some ((-2 : Int32), S)))
    else
      (some ((-2 : Int32), S)))
set_option maxRecDepth 100000 in
set_option maxHeartbeats 4000000 in
theorem t_X6_ofDouble {S : MS} {a0 : Nat} {i1 : Int32} {j2 : Int64} {w : (Int32 × MS)} (ha : a0 = S.1) (h : m_X6_ofDouble S i1 j2 = some w) : CT NX yX6_ofDouble cX6_ofDouble 6 (some .int) 4 103 [.ref a0, .int i1, .long j2] S (some (.int w.1)) w.2 := by
  refine CT.of (lv := [(0, .ref a0), (1, .int i1), (2, .long j2)]) (by decide) rfl (Nat.le_of_ble_eq_true rfl) ?_
  refine J_aload_n 0 dX6_ofDouble_0 rfl rfl ?_
  refine J_iload_n 1 dX6_ofDouble_1 rfl rfl ?_
  obtain ⟨i1_, ei1_, h2⟩ := bnd_some h; clear h
  refine J_callV (As := [.int i1]) (rest := []) (st' := [.int i1_]) (t_X6_isFrame ha ei1_) gC_X6_isFrame gM_X6_129 (by rw [ha]; exact nRecv) rfl (by decide) (by decide) rfl rfl (Nat.le_of_ble_eq_true rfl) dX6_ofDouble_2 ?_
  refine J_if_ne 10 dX6_ofDouble_5 (by decide) h2 (fun c3 h4 => ?_) (fun c3 h4 => ?_)
  · clear h2
    refine J_iconst (-1 : Int32) dX6_ofDouble_8 (by decide) ?_
    have hw := Option.some.inj h4; subst hw
    exact J_iret rfl dX6_ofDouble_9
  · clear h2
    refine J_lload_n 2 dX6_ofDouble_10 rfl rfl ?_
    refine J_ldc2 (9223372036854775807 : Int64) dX6_ofDouble_11 gK_X6_209 ?_
    refine J_land dX6_ofDouble_14 ?_
    refine J_ldc2 (9218868437227405312 : Int64) dX6_ofDouble_15 gK_X6_211 ?_
    refine J_lcmp_lt 25 dX6_ofDouble_18 dX6_ofDouble_19 (by decide) h4 (fun c5 h6 => ?_) (fun c5 h6 => ?_)
    · clear h4
      refine J_lload_n 2 dX6_ofDouble_25 rfl rfl ?_
      obtain ⟨g7, h8⟩ := gd_some h6; clear h6
      refine J_l2d dX6_ofDouble_26 gM_X6_213 (sn64_of g7) (by decide) (by decide) (Nat.le_of_ble_eq_true rfl) ?_
      refine J_dstore dX6_ofDouble_29 (by decide) [1, 2, 0] (lv' := [(0, .ref a0), (1, .int i1), (4, .double (Int64.toUInt64 j2))]) rfl ?_
      refine J_dload 2 dX6_ofDouble_31 rfl ?_
      refine J_dconst0 dX6_ofDouble_33 ?_
      refine J_dcmp dX6_ofDouble_34 ?_
      refine J_if_ge 43 dX6_ofDouble_35 (by decide) h8 (fun c9 h10 => ?_) (fun c9 h10 => ?_)
      · clear h8
        refine J_aload_n 0 dX6_ofDouble_43 rfl rfl ?_
        refine J_iload_n 1 dX6_ofDouble_44 rfl rfl ?_
        refine J_dload 2 dX6_ofDouble_45 rfl ?_
        refine J_d2l dX6_ofDouble_47 ?_
        obtain ⟨i11_, S12, ei11_, h13⟩ := bnd2_some h10; clear h10
        have cS12 := (t_X6_set ha ei11_)
        have lS12 : jle NX S S12 := cS12.1
        have hS12_a0 : a0 = S12.1 := ha.trans (nle_eq lS12).symm
        refine J_callV (As := [.int i1, .long (FP.d2l (Int64.toUInt64 j2))]) (rest := []) (st' := [.int i11_]) cS12 gC_X6_set gM_X6_205 (by rw [ha]; exact nRecv) rfl (by decide) (by decide) rfl rfl (Nat.le_of_ble_eq_true rfl) dX6_ofDouble_48 ?_
        have hw := Option.some.inj h13; subst hw
        exact J_iret rfl dX6_ofDouble_51
      · clear h8
        refine J_bipush (-2 : Int32) dX6_ofDouble_38 (by decide) ?_
        refine J_goto 51 dX6_ofDouble_40 (by decide) ?_
        have hw := Option.some.inj h10; subst hw
        exact J_iret rfl dX6_ofDouble_51
    · clear h4
      refine J_bipush (-2 : Int32) dX6_ofDouble_22 (by decide) ?_
      have hw := Option.some.inj h6; subst hw
      exact J_iret rfl dX6_ofDouble_24
def m_Jxf58ca_isNaN_12338 (f0 : UInt32) : Option Int32 :=
  if (Op.cmpValue (FP.fcmp f0 f0) .l) = 0 then
    (some (0 : Int32))
  else
    (some (1 : Int32))
set_option maxRecDepth 100000 in
set_option maxHeartbeats 4000000 in
theorem t_Jxf58ca_isNaN_12338 {S : MS} {f0 : UInt32} {w : Int32} (h : m_Jxf58ca_isNaN_12338 f0 = some w) : CT NX yJxf58ca_isNaN_12338 cJxf58ca_isNaN_12338 1 (some .boolean) 0 0 [.float f0] S (some (.int w)) S := by
  refine CT.ofF (lv := [(0, .float f0)]) (by decide +kernel) rfl (Nat.le_of_ble_eq_true rfl) ?_
  refine J_fload_n 0 dJxf58ca_isNaN_12338_0 rfl rfl ?_
  refine J_fload_n 0 dJxf58ca_isNaN_12338_1 rfl rfl ?_
  refine J_fcmp dJxf58ca_isNaN_12338_2 ?_
  refine J_if_eq 10 dJxf58ca_isNaN_12338_3 (by decide) h (fun c1 h2 => ?_) (fun c1 h2 => ?_)
  · clear h
    refine J_iconst (0 : Int32) dJxf58ca_isNaN_12338_10 (by decide) ?_
    have hw := Option.some.inj h2; subst hw
    exact J_zret rfl (by decide) dJxf58ca_isNaN_12338_11
  · clear h
    refine J_iconst (1 : Int32) dJxf58ca_isNaN_12338_6 (by decide) ?_
    refine J_goto 11 dJxf58ca_isNaN_12338_7 (by decide) ?_
    have hw := Option.some.inj h2; subst hw
    exact J_zret rfl (by decide) dJxf58ca_isNaN_12338_11
def m_Jxf58ca_floatToIntBits_5c35a (f0 : UInt32) : Option Int32 :=
  bnd (m_Jxf58ca_isNaN_12338 f0) fun i1_ =>
  if i1_ = 0 then
    (some (UInt32.toInt32 f0))
  else
    (some (2143289344 : Int32))
set_option maxRecDepth 100000 in
set_option maxHeartbeats 4000000 in
theorem t_Jxf58ca_floatToIntBits_5c35a {S : MS} {f0 : UInt32} {w : Int32} (h : m_Jxf58ca_floatToIntBits_5c35a f0 = some w) : CT NX yJxf58ca_floatToIntBits_5c35a cJxf58ca_floatToIntBits_5c35a 1 (some .int) 1 40 [.float f0] S (some (.int w)) S := by
  refine CT.ofF (lv := [(0, .float f0)]) (by decide +kernel) rfl (Nat.le_of_ble_eq_true rfl) ?_
  refine J_fload_n 0 dJxf58ca_floatToIntBits_5c35a_0 rfl rfl ?_
  obtain ⟨i1_, ei1_, h2⟩ := bnd_some h; clear h
  refine J_callS (As := [.float f0]) (rest := []) (st' := [.int i1_]) (t_Jxf58ca_isNaN_12338 ei1_) gC_Jxf58ca_isNaN_12338 gM_Jxf58ca_59 rfl (by decide) (by decide) rfl rfl (Nat.le_of_ble_eq_true rfl) dJxf58ca_floatToIntBits_5c35a_1 ?_
  refine J_if_ne 12 dJxf58ca_floatToIntBits_5c35a_4 (by decide) h2 (fun c3 h4 => ?_) (fun c3 h4 => ?_)
  · clear h2
    refine J_fload_n 0 dJxf58ca_floatToIntBits_5c35a_7 rfl rfl ?_
    refine J_f2i dJxf58ca_floatToIntBits_5c35a_8 gM_Jxf58ca_74 (by decide) (by decide) (Nat.le_of_ble_eq_true rfl) ?_
    have hw := Option.some.inj h4; subst hw
    exact J_iret rfl dJxf58ca_floatToIntBits_5c35a_11
  · clear h2
    refine J_ldc (2143289344 : Int32) dJxf58ca_floatToIntBits_5c35a_12 gK_Jxf58ca_77 ?_
    have hw := Option.some.inj h4; subst hw
    exact J_iret rfl dJxf58ca_floatToIntBits_5c35a_14
def m_X6_restFloat (i1 : Int32) (i2 : Int32) : Option Int32 :=
  jLet ((i1 &&& (2147483647 : Int32))) fun i1_ =>
  jLet ((i2 &&& (2147483647 : Int32))) fun i3_ =>
  if (2139095040 : Int32) ≤ i1_ then
    (some (2143289344 : Int32))
  else
    (if (2139095040 : Int32) < i3_ then
      (some (2143289344 : Int32))
    else
      (if i3_ = 0 then
        (some (2143289344 : Int32))
      else
        (gd (sn32 i1) <|
        gd (sn32 i2) <|
        gd (decide (vfB32 (FP.frem (Int32.toUInt32 i1) (Int32.toUInt32 i2)) = true)) <|
        bnd (m_Jxf58ca_floatToIntBits_5c35a (FP.frem (Int32.toUInt32 i1) (Int32.toUInt32 i2))) fun i17_ =>
        some i17_)))
set_option maxRecDepth 100000 in
set_option maxHeartbeats 4000000 in
theorem t_X6_restFloat {S : MS} {a0 : Nat} {i1 : Int32} {i2 : Int32} {w : Int32} (ha : a0 = S.1) (h : m_X6_restFloat i1 i2 = some w) : CT NX yX6_restFloat cX6_restFloat 5 (some .int) 2 60 [.ref a0, .int i1, .int i2] S (some (.int w)) S := by
  refine CT.of (lv := [(0, .ref a0), (1, .int i1), (2, .int i2)]) (by decide) rfl (Nat.le_of_ble_eq_true rfl) ?_
  refine J_iload_n 1 dX6_restFloat_0 rfl rfl ?_
  refine J_ldc (2147483647 : Int32) dX6_restFloat_1 gK_X6_197 ?_
  refine J_iand dX6_restFloat_3 ?_
  obtain ⟨i1_, ei1_, h2⟩ := jLet_some h; clear h
  refine J_topI ei1_ ?_
  refine J_istore_n dX6_restFloat_4 rfl (by decide) [1, 2, 3, 0] (lv' := [(0, .ref a0), (1, .int i1), (2, .int i2), (3, .int i1_)]) rfl ?_
  refine J_iload_n 2 dX6_restFloat_5 rfl rfl ?_
  refine J_ldc (2147483647 : Int32) dX6_restFloat_6 gK_X6_197 ?_
  refine J_iand dX6_restFloat_8 ?_
  obtain ⟨i3_, ei3_, h4⟩ := jLet_some h2; clear h2
  refine J_topI ei3_ ?_
  refine J_istore dX6_restFloat_9 (by decide) [1, 2, 3, 4, 0] (lv' := [(0, .ref a0), (1, .int i1), (2, .int i2), (3, .int i1_), (4, .int i3_)]) rfl ?_
  refine J_iload_n 3 dX6_restFloat_11 rfl rfl ?_
  refine J_ldc (2139095040 : Int32) dX6_restFloat_12 gK_X6_198 ?_
  refine J_icmp_ge 29 dX6_restFloat_14 (by decide) h4 (fun c5 h6 => ?_) (fun c5 h6 => ?_)
  · clear h4
    refine J_ldc (2143289344 : Int32) dX6_restFloat_29 gK_X6_219 ?_
    have hw := Option.some.inj h6; subst hw
    exact J_iret rfl dX6_restFloat_31
  · clear h4
    refine J_iload 4 dX6_restFloat_17 rfl ?_
    refine J_ldc (2139095040 : Int32) dX6_restFloat_19 gK_X6_198 ?_
    refine J_icmp_gt 29 dX6_restFloat_21 (by decide) h6 (fun c7 h8 => ?_) (fun c7 h8 => ?_)
    · clear h6
      refine J_ldc (2143289344 : Int32) dX6_restFloat_29 gK_X6_219 ?_
      have hw := Option.some.inj h8; subst hw
      exact J_iret rfl dX6_restFloat_31
    · clear h6
      refine J_iload 4 dX6_restFloat_24 rfl ?_
      refine J_if_ne 32 dX6_restFloat_26 (by decide) h8 (fun c9 h10 => ?_) (fun c9 h10 => ?_)
      · clear h8
        refine J_ldc (2143289344 : Int32) dX6_restFloat_29 gK_X6_219 ?_
        have hw := Option.some.inj h10; subst hw
        exact J_iret rfl dX6_restFloat_31
      · clear h8
        refine J_iload_n 1 dX6_restFloat_32 rfl rfl ?_
        obtain ⟨g11, h12⟩ := gd_some h10; clear h10
        refine J_i2f dX6_restFloat_33 gM_X6_199 (sn32_of g11) (by decide) (by decide) (Nat.le_of_ble_eq_true rfl) ?_
        refine J_iload_n 2 dX6_restFloat_36 rfl rfl ?_
        obtain ⟨g13, h14⟩ := gd_some h12; clear h12
        refine J_i2f dX6_restFloat_37 gM_X6_199 (sn32_of g13) (by decide) (by decide) (Nat.le_of_ble_eq_true rfl) ?_
        obtain ⟨g15, h16⟩ := gd_some h14; clear h14
        refine J_frem dX6_restFloat_40 (vfB32_of (of_decide_eq_true g15)) ?_
        obtain ⟨i17_, ei17_, h18⟩ := bnd_some h16; clear h16
        refine J_callS (As := [.float (FP.frem (Int32.toUInt32 i1) (Int32.toUInt32 i2))]) (rest := []) (st' := [.int i17_]) (t_Jxf58ca_floatToIntBits_5c35a ei17_) gC_Jxf58ca_floatToIntBits_5c35a gM_X6_220 rfl (by decide) (by decide) rfl rfl (Nat.le_of_ble_eq_true rfl) dX6_restFloat_41 ?_
        have hw := Option.some.inj h18; subst hw
        exact J_iret rfl dX6_restFloat_44
def m_Jxe99ae_isNaN_b9ae7 (d0 : UInt64) : Option Int32 :=
  if (Op.cmpValue (FP.dcmp d0 d0) .l) = 0 then
    (some (0 : Int32))
  else
    (some (1 : Int32))
set_option maxRecDepth 100000 in
set_option maxHeartbeats 4000000 in
theorem t_Jxe99ae_isNaN_b9ae7 {S : MS} {d0 : UInt64} {w : Int32} (h : m_Jxe99ae_isNaN_b9ae7 d0 = some w) : CT NX yJxe99ae_isNaN_b9ae7 cJxe99ae_isNaN_b9ae7 2 (some .boolean) 0 0 [.double d0] S (some (.int w)) S := by
  refine CT.of (lv := [(0, .double d0)]) (by decide) rfl (Nat.le_of_ble_eq_true rfl) ?_
  refine J_dload_n 0 dJxe99ae_isNaN_b9ae7_0 rfl rfl ?_
  refine J_dload_n 0 dJxe99ae_isNaN_b9ae7_1 rfl rfl ?_
  refine J_dcmp dJxe99ae_isNaN_b9ae7_2 ?_
  refine J_if_eq 10 dJxe99ae_isNaN_b9ae7_3 (by decide) h (fun c1 h2 => ?_) (fun c1 h2 => ?_)
  · clear h
    refine J_iconst (0 : Int32) dJxe99ae_isNaN_b9ae7_10 (by decide) ?_
    have hw := Option.some.inj h2; subst hw
    exact J_zret rfl (by decide) dJxe99ae_isNaN_b9ae7_11
  · clear h
    refine J_iconst (1 : Int32) dJxe99ae_isNaN_b9ae7_6 (by decide) ?_
    refine J_goto 11 dJxe99ae_isNaN_b9ae7_7 (by decide) ?_
    have hw := Option.some.inj h2; subst hw
    exact J_zret rfl (by decide) dJxe99ae_isNaN_b9ae7_11
def m_Jxe99ae_doubleToLongBits_ccdee (d0 : UInt64) : Option Int64 :=
  bnd (m_Jxe99ae_isNaN_b9ae7 d0) fun i1_ =>
  if i1_ = 0 then
    (some (UInt64.toInt64 d0))
  else
    (some (9221120237041090560 : Int64))
set_option maxRecDepth 100000 in
set_option maxHeartbeats 4000000 in
theorem t_Jxe99ae_doubleToLongBits_ccdee {S : MS} {d0 : UInt64} {w : Int64} (h : m_Jxe99ae_doubleToLongBits_ccdee d0 = some w) : CT NX yJxe99ae_doubleToLongBits_ccdee cJxe99ae_doubleToLongBits_ccdee 2 (some .long) 1 40 [.double d0] S (some (.long w)) S := by
  refine CT.of (lv := [(0, .double d0)]) (by decide) rfl (Nat.le_of_ble_eq_true rfl) ?_
  refine J_dload_n 0 dJxe99ae_doubleToLongBits_ccdee_0 rfl rfl ?_
  obtain ⟨i1_, ei1_, h2⟩ := bnd_some h; clear h
  refine J_callS (As := [.double d0]) (rest := []) (st' := [.int i1_]) (t_Jxe99ae_isNaN_b9ae7 ei1_) gC_Jxe99ae_isNaN_b9ae7 gM_Jxe99ae_122 rfl (by decide) (by decide) rfl rfl (Nat.le_of_ble_eq_true rfl) dJxe99ae_doubleToLongBits_ccdee_1 ?_
  refine J_if_ne 12 dJxe99ae_doubleToLongBits_ccdee_4 (by decide) h2 (fun c3 h4 => ?_) (fun c3 h4 => ?_)
  · clear h2
    refine J_dload_n 0 dJxe99ae_doubleToLongBits_ccdee_7 rfl rfl ?_
    refine J_d2l_ dJxe99ae_doubleToLongBits_ccdee_8 gM_Jxe99ae_134 (by decide) (by decide) (Nat.le_of_ble_eq_true rfl) ?_
    have hw := Option.some.inj h4; subst hw
    exact J_lret rfl dJxe99ae_doubleToLongBits_ccdee_11
  · clear h2
    refine J_ldc2 (9221120237041090560 : Int64) dJxe99ae_doubleToLongBits_ccdee_12 gK_Jxe99ae_137 ?_
    have hw := Option.some.inj h4; subst hw
    exact J_lret rfl dJxe99ae_doubleToLongBits_ccdee_15
def m_X6_restDouble (j1 : Int64) (j3 : Int64) : Option Int64 :=
  jLet ((j1 &&& (9223372036854775807 : Int64))) fun j1_ =>
  jLet ((j3 &&& (9223372036854775807 : Int64))) fun j3_ =>
  if (9218868437227405312 : Int64) ≤ j1_ then
    (some (9221120237041090560 : Int64))
  else
    (if (9218868437227405312 : Int64) < j3_ then
      (some (9221120237041090560 : Int64))
    else
      (if j3_ = (0 : Int64) then
        (some (9221120237041090560 : Int64))
      else
        (gd (sn64 j1) <|
        gd (sn64 j3) <|
        gd (decide (vfB64 (FP.drem (Int64.toUInt64 j1) (Int64.toUInt64 j3)) = true)) <|
        bnd (m_Jxe99ae_doubleToLongBits_ccdee (FP.drem (Int64.toUInt64 j1) (Int64.toUInt64 j3))) fun j17_ =>
        some j17_)))
set_option maxRecDepth 100000 in
set_option maxHeartbeats 4000000 in
theorem t_X6_restDouble {S : MS} {a0 : Nat} {j1 : Int64} {j3 : Int64} {w : Int64} (ha : a0 = S.1) (h : m_X6_restDouble j1 j3 = some w) : CT NX yX6_restDouble cX6_restDouble 9 (some .long) 2 61 [.ref a0, .long j1, .long j3] S (some (.long w)) S := by
  refine CT.of (lv := [(0, .ref a0), (1, .long j1), (3, .long j3)]) (by decide) rfl (Nat.le_of_ble_eq_true rfl) ?_
  refine J_lload_n 1 dX6_restDouble_0 rfl rfl ?_
  refine J_ldc2 (9223372036854775807 : Int64) dX6_restDouble_1 gK_X6_209 ?_
  refine J_land dX6_restDouble_4 ?_
  obtain ⟨j1_, ej1_, h2⟩ := jLet_some h; clear h
  refine J_topL ej1_ ?_
  refine J_lstore dX6_restDouble_5 (by decide) [1, 2, 3, 0] (lv' := [(0, .ref a0), (1, .long j1), (3, .long j3), (5, .long j1_)]) rfl ?_
  refine J_lload_n 2 dX6_restDouble_7 rfl rfl ?_
  refine J_ldc2 (9223372036854775807 : Int64) dX6_restDouble_8 gK_X6_209 ?_
  refine J_land dX6_restDouble_11 ?_
  obtain ⟨j3_, ej3_, h4⟩ := jLet_some h2; clear h2
  refine J_topL ej3_ ?_
  refine J_lstore dX6_restDouble_12 (by decide) [1, 2, 3, 4, 0] (lv' := [(0, .ref a0), (1, .long j1), (3, .long j3), (5, .long j1_), (7, .long j3_)]) rfl ?_
  refine J_lload 3 dX6_restDouble_14 rfl ?_
  refine J_ldc2 (9218868437227405312 : Int64) dX6_restDouble_16 gK_X6_211 ?_
  refine J_lcmp_ge 39 dX6_restDouble_19 dX6_restDouble_20 (by decide) h4 (fun c5 h6 => ?_) (fun c5 h6 => ?_)
  · clear h4
    refine J_ldc2 (9221120237041090560 : Int64) dX6_restDouble_39 gK_X6_224 ?_
    have hw := Option.some.inj h6; subst hw
    exact J_lret rfl dX6_restDouble_42
  · clear h4
    refine J_lload 4 dX6_restDouble_23 rfl ?_
    refine J_ldc2 (9218868437227405312 : Int64) dX6_restDouble_25 gK_X6_211 ?_
    refine J_lcmp_gt 39 dX6_restDouble_28 dX6_restDouble_29 (by decide) h6 (fun c7 h8 => ?_) (fun c7 h8 => ?_)
    · clear h6
      refine J_ldc2 (9221120237041090560 : Int64) dX6_restDouble_39 gK_X6_224 ?_
      have hw := Option.some.inj h8; subst hw
      exact J_lret rfl dX6_restDouble_42
    · clear h6
      refine J_lload 4 dX6_restDouble_32 rfl ?_
      refine J_lconst (0 : Int64) dX6_restDouble_34 (by decide) ?_
      refine J_lcmp_ne 43 dX6_restDouble_35 dX6_restDouble_36 (by decide) h8 (fun c9 h10 => ?_) (fun c9 h10 => ?_)
      · clear h8
        refine J_ldc2 (9221120237041090560 : Int64) dX6_restDouble_39 gK_X6_224 ?_
        have hw := Option.some.inj h10; subst hw
        exact J_lret rfl dX6_restDouble_42
      · clear h8
        refine J_lload_n 1 dX6_restDouble_43 rfl rfl ?_
        obtain ⟨g11, h12⟩ := gd_some h10; clear h10
        refine J_l2d dX6_restDouble_44 gM_X6_213 (sn64_of g11) (by decide) (by decide) (Nat.le_of_ble_eq_true rfl) ?_
        refine J_lload_n 2 dX6_restDouble_47 rfl rfl ?_
        obtain ⟨g13, h14⟩ := gd_some h12; clear h12
        refine J_l2d dX6_restDouble_48 gM_X6_213 (sn64_of g13) (by decide) (by decide) (Nat.le_of_ble_eq_true rfl) ?_
        obtain ⟨g15, h16⟩ := gd_some h14; clear h14
        refine J_drem dX6_restDouble_51 (vfB64_of (of_decide_eq_true g15)) ?_
        obtain ⟨j17_, ej17_, h18⟩ := bnd_some h16; clear h16
        refine J_callS (As := [.double (FP.drem (Int64.toUInt64 j1) (Int64.toUInt64 j3))]) (rest := []) (st' := [.long j17_]) (t_Jxe99ae_doubleToLongBits_ccdee ej17_) gC_Jxe99ae_doubleToLongBits_ccdee gM_X6_226 rfl (by decide) (by decide) rfl rfl (Nat.le_of_ble_eq_true rfl) dX6_restDouble_52 ?_
        have hw := Option.some.inj h18; subst hw
        exact J_lret rfl dX6_restDouble_55
def m_X6_bars_J67 (S : MS) : Option Int32 :=
  if (0 : Int32) = 0 then
    (some (-3 : Int32))
  else
    (some (0 : Int32))
set_option maxRecDepth 100000 in
set_option maxHeartbeats 4000000 in
theorem t_X6_bars_J67 {S : MS} {a0 : Nat} {w : Int32} (ha : a0 = S.1) (h : m_X6_bars_J67 S = some w) : J NX yX6_bars cX6_bars 6 (some .int) 3 74 67 [(0, .ref a0)] [] S (some (.int w)) S := by
  refine J_iconst (0 : Int32) dX6_bars_67 (by decide) ?_
  refine J_istore dX6_bars_68 (by decide) [1, 0] (lv' := [(0, .ref a0), (5, .int (0 : Int32))]) rfl ?_
  refine J_iload 1 dX6_bars_70 rfl ?_
  refine J_if_eq 79 dX6_bars_72 (by decide) h (fun c1 h2 => ?_) (fun c1 h2 => ?_)
  · clear h
    refine J_bipush (-3 : Int32) dX6_bars_79 (by decide) ?_
    have hw := Option.some.inj h2; subst hw
    exact J_iret rfl dX6_bars_81
  · clear h
    refine J_iconst (0 : Int32) dX6_bars_75 (by decide) ?_
    refine J_goto 81 dX6_bars_76 (by decide) ?_
    have hw := Option.some.inj h2; subst hw
    exact J_iret rfl dX6_bars_81
def m_X6_bars_J47 (S : MS) (i1 : Int32) (i2 : Int32) : Option Int32 :=
  bnd (m_X6_isProper S i1) fun i1_ =>
  if i1_ = 0 then
    (m_X6_bars_J67 S)
  else
    (bnd (m_X6_isProper S i2) fun i5_ =>
    if i5_ = 0 then
      (m_X6_bars_J67 S)
    else
      (if (1 : Int32) = 0 then
        (some (-3 : Int32))
      else
        (some (0 : Int32))))
set_option maxRecDepth 100000 in
set_option maxHeartbeats 4000000 in
theorem t_X6_bars_J47 {S : MS} {a0 : Nat} {i1 : Int32} {i2 : Int32} {w : Int32} (ha : a0 = S.1) (h : m_X6_bars_J47 S i1 i2 = some w) : J NX yX6_bars cX6_bars 6 (some .int) 3 74 47 [(0, .ref a0), (1, .int i1), (2, .int i2)] [] S (some (.int w)) S := by
  refine J_aload_n 0 dX6_bars_47 rfl rfl ?_
  refine J_iload_n 1 dX6_bars_48 rfl rfl ?_
  obtain ⟨i1_, ei1_, h2⟩ := bnd_some h; clear h
  refine J_callV (As := [.int i1]) (rest := []) (st' := [.int i1_]) (t_X6_isProper ha ei1_) gC_X6_isProper gM_X6_163 (by rw [ha]; exact nRecv) rfl (by decide) (by decide) rfl rfl (Nat.le_of_ble_eq_true rfl) dX6_bars_49 ?_
  refine J_if_eq 67 dX6_bars_52 (by decide) h2 (fun c3 h4 => ?_) (fun c3 h4 => ?_)
  · clear h2
    refine J_lv [0] rfl ?_
    exact t_X6_bars_J67 ha h4
  · clear h2
    refine J_aload_n 0 dX6_bars_55 rfl rfl ?_
    refine J_iload_n 2 dX6_bars_56 rfl rfl ?_
    obtain ⟨i5_, ei5_, h6⟩ := bnd_some h4; clear h4
    refine J_callV (As := [.int i2]) (rest := []) (st' := [.int i5_]) (t_X6_isProper ha ei5_) gC_X6_isProper gM_X6_163 (by rw [ha]; exact nRecv) rfl (by decide) (by decide) rfl rfl (Nat.le_of_ble_eq_true rfl) dX6_bars_57 ?_
    refine J_if_eq 67 dX6_bars_60 (by decide) h6 (fun c7 h8 => ?_) (fun c7 h8 => ?_)
    · clear h6
      refine J_lv [0] rfl ?_
      exact t_X6_bars_J67 ha h8
    · clear h6
      refine J_iconst (1 : Int32) dX6_bars_63 (by decide) ?_
      refine J_goto 68 dX6_bars_64 (by decide) ?_
      refine J_istore dX6_bars_68 (by decide) [1, 0] (lv' := [(0, .ref a0), (5, .int (1 : Int32))]) rfl ?_
      refine J_iload 1 dX6_bars_70 rfl ?_
      refine J_if_eq 79 dX6_bars_72 (by decide) h8 (fun c9 h10 => ?_) (fun c9 h10 => ?_)
      · clear h8
        refine J_bipush (-3 : Int32) dX6_bars_79 (by decide) ?_
        have hw := Option.some.inj h10; subst hw
        exact J_iret rfl dX6_bars_81
      · clear h8
        refine J_iconst (0 : Int32) dX6_bars_75 (by decide) ?_
        refine J_goto 81 dX6_bars_76 (by decide) ?_
        have hw := Option.some.inj h10; subst hw
        exact J_iret rfl dX6_bars_81
def m_X6_bars_J21 (S : MS) (i1 : Int32) (i2 : Int32) (i3 : Int32) (is0 : Int32) : Option Int32 :=
  if is0 = 0 then
    (m_X6_bars_J67 S)
  else
    (if i3 = 0 then
      (m_X6_bars_J47 S i1 i2)
    else
      (gd (inB i1 30) <|
      gd (inB i2 30) <|
      if (nA S 3 (Int32.toNatClampNeg i1)) = (nA S 3 (Int32.toNatClampNeg i2)) then
        (m_X6_bars_J47 S i1 i2)
      else
        (m_X6_bars_J67 S)))
set_option maxRecDepth 100000 in
set_option maxHeartbeats 4000000 in
theorem t_X6_bars_J21 {S : MS} {a0 : Nat} {i1 : Int32} {i2 : Int32} {i3 : Int32} {is0 : Int32} {w : Int32} (ha : a0 = S.1) (h : m_X6_bars_J21 S i1 i2 i3 is0 = some w) : J NX yX6_bars cX6_bars 6 (some .int) 3 74 21 [(0, .ref a0), (1, .int i1), (2, .int i2), (3, .int i3)] [.int is0] S (some (.int w)) S := by
  refine J_istore dX6_bars_21 (by decide) [1, 2, 3, 4, 0] (lv' := [(0, .ref a0), (1, .int i1), (2, .int i2), (3, .int i3), (4, .int is0)]) rfl ?_
  refine J_iload 4 dX6_bars_23 rfl ?_
  refine J_if_eq 67 dX6_bars_25 (by decide) h (fun c1 h2 => ?_) (fun c1 h2 => ?_)
  · clear h
    refine J_lv [0] rfl ?_
    exact t_X6_bars_J67 ha h2
  · clear h
    refine J_iload_n 3 dX6_bars_28 rfl rfl ?_
    refine J_if_eq 47 dX6_bars_29 (by decide) h2 (fun c3 h4 => ?_) (fun c3 h4 => ?_)
    · clear h2
      refine J_lv [0, 1, 2] rfl ?_
      exact t_X6_bars_J47 ha h4
    · clear h2
      refine J_aload_n 0 dX6_bars_32 rfl rfl ?_
      refine J_ngetA (k := 3) (o := 2) dX6_bars_33 gF_X6_16 ha rfl ?_
      refine J_iload_n 1 dX6_bars_36 rfl rfl ?_
      obtain ⟨g5, h6⟩ := gd_some h4; clear h4
      refine J_niald (k := 3) (o := 2) dX6_bars_37 ha rfl rfl (by decide) g5 ?_
      refine J_aload_n 0 dX6_bars_38 rfl rfl ?_
      refine J_ngetA (k := 3) (o := 2) dX6_bars_39 gF_X6_16 ha rfl ?_
      refine J_iload_n 2 dX6_bars_42 rfl rfl ?_
      obtain ⟨g7, h8⟩ := gd_some h6; clear h6
      refine J_niald (k := 3) (o := 2) dX6_bars_43 ha rfl rfl (by decide) g7 ?_
      refine J_icmp_ne 67 dX6_bars_44 (by decide) h8 (fun c9 h10 => ?_) (fun c9 h10 => ?_)
      · clear h8
        refine J_lv [0, 1, 2] rfl ?_
        exact t_X6_bars_J47 ha h10
      · clear h8
        refine J_lv [0] rfl ?_
        exact t_X6_bars_J67 ha h10
