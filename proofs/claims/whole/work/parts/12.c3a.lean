def c_X3_init (S : Mem) (a0 : Nat) : Option Mem :=
  jLet (mNx S) fun a2 =>
  jLet (mNew S 3 0 (cN 2)) fun S1 =>
  bnd (c_X2_init S1 a2) fun S5 =>
  jLet (mSR S5 a0 0 (some a2)) fun S7 =>
  jLet (mNx S7) fun a10 =>
  jLet (mNew S7 8 (Int32.toNatClampNeg (224 : Int32)) (Int32.toNatClampNeg (224 : Int32))) fun S9 =>
  jLet (mSR S9 a0 1 (some a10)) fun S13 =>
  jLet (mSI S13 a0 8 (-5 : Int32)) fun S15 =>
  jLet (mSI S15 a0 9 (-5 : Int32)) fun S17 =>
  some S17
set_option maxRecDepth 100000 in
set_option maxHeartbeats 4000000 in
theorem t_X3_init {S : Mem} {a0 : Nat} {w : Mem} (ha : mKd S a0 = 4) (h : c_X3_init S a0 = some w) : CT MX yX3_init cX3_init 1 none 2 60 [.ref a0] S none w := by
  refine CT.of (lv := [(0, .ref a0)]) (by decide) rfl (Nat.le_of_ble_eq_true rfl) ?_
  refine J_aload_n 0 dX3_init_0 rfl rfl ?_
  refine J_objInit gO_X3_3 gO_i gO_c (by decide) (by decide) (Nat.le_of_ble_eq_true rfl) dX3_init_1 ?_
  refine J_aload_n 0 dX3_init_4 rfl rfl ?_
  refine J_new dX3_init_5 jCl2 (by decide) (by decide +kernel) gN_X3_9 ?_
  obtain ⟨a2, ea2, h3⟩ := jLet_some h; clear h
  obtain ⟨S1, eS1, h4⟩ := jLet_some h3; clear h3
  rw [← ea2]
  refine J_topS eS1 ?_
  have lS1 : jle MX S S1 := by rw [eS1]; exact mNew_le _ _ _ _
  have hS1_a0 : mKd S1 a0 = 4 := kd_le lS1 ha
  have hS1_new : mKd S1 a2 = 3 := by rw [eS1, mKd_new, if_pos ea2]
  refine J_dup dX3_init_8 rfl ?_
  obtain ⟨S5, eS5, h6⟩ := bnd_some h4; clear h4
  have cS5 := (t_X2_init hS1_new eS5)
  have lS5 : jle MX S1 S5 := cS5.1
  have hS5_a0 : mKd S5 a0 = 4 := kd_le lS5 hS1_a0
  have hS5_a2 : mKd S5 a2 = 3 := kd_le lS5 hS1_new
  refine J_callIN (As := []) (rest := [.ref a2, .ref a0]) (st' := [.ref a2, .ref a0]) cS5 gC_X2_init gM_X3_11 rfl rfl (by decide) (by decide) rfl rfl (Nat.le_of_ble_eq_true rfl) dX3_init_9 ?_
  refine J_putRF (k := 0) (x := (some a2)) dX3_init_12 rfl gP_X3_12 hS5_a0 rfl ?_
  obtain ⟨S7, eS7, h8⟩ := jLet_some h6; clear h6
  refine J_topS eS7 ?_
  have hS7_a0 : mKd S7 a0 = 4 := by rw [eS7]; exact hS5_a0
  have hS7_a2 : mKd S7 a2 = 3 := by rw [eS7]; exact hS5_a2
  refine J_aload_n 0 dX3_init_15 rfl rfl ?_
  refine J_sipush (224 : Int32) dX3_init_16 (by decide) ?_
  refine J_newa (z := 0) (by decide) dX3_init_19 gA_int (fun _ => rfl) (by decide) (fun _ _ q => q) (fun S ln sl q => by simp [avT, mI, mL, mR, mNew, up1, defaultValue, newarray.typeOf]) (by decide) ?_
  obtain ⟨a10, ea10, h11⟩ := jLet_some h8; clear h8
  obtain ⟨S9, eS9, h12⟩ := jLet_some h11; clear h11
  rw [← ea10]
  refine J_topS eS9 ?_
  have lS9 : jle MX S7 S9 := by rw [eS9]; exact mNew_le _ _ _ _
  have hS9_a0 : mKd S9 a0 = 4 := kd_le lS9 hS7_a0
  have hS9_a2 : mKd S9 a2 = 3 := kd_le lS9 hS7_a2
  have hS9_new : mKd S9 a10 = 8 := by rw [eS9, mKd_new, if_pos ea10]
  refine J_putA (k := 1) (x := (some a10)) dX3_init_21 gW_X3_18 hS9_a0 rfl ?_
  obtain ⟨S13, eS13, h14⟩ := jLet_some h12; clear h12
  refine J_topS eS13 ?_
  have hS13_a0 : mKd S13 a0 = 4 := by rw [eS13]; exact hS9_a0
  have hS13_a2 : mKd S13 a2 = 3 := by rw [eS13]; exact hS9_a2
  have hS13_a10 : mKd S13 a10 = 8 := by rw [eS13]; exact hS9_new
  refine J_aload_n 0 dX3_init_24 rfl rfl ?_
  refine J_bipush (-5 : Int32) dX3_init_25 (by decide) ?_
  refine J_putI (k := 8) dX3_init_27 gW_X3_22 hS13_a0 rfl ?_
  obtain ⟨S15, eS15, h16⟩ := jLet_some h14; clear h14
  refine J_topS eS15 ?_
  have hS15_a0 : mKd S15 a0 = 4 := by rw [eS15]; exact hS13_a0
  have hS15_a2 : mKd S15 a2 = 3 := by rw [eS15]; exact hS13_a2
  have hS15_a10 : mKd S15 a10 = 8 := by rw [eS15]; exact hS13_a10
  refine J_aload_n 0 dX3_init_30 rfl rfl ?_
  refine J_bipush (-5 : Int32) dX3_init_31 (by decide) ?_
  refine J_putI (k := 9) dX3_init_33 gW_X3_26 hS15_a0 rfl ?_
  obtain ⟨S17, eS17, h18⟩ := jLet_some h16; clear h16
  refine J_topS eS17 ?_
  have hS17_a0 : mKd S17 a0 = 4 := by rw [eS17]; exact hS15_a0
  have hS17_a2 : mKd S17 a2 = 3 := by rw [eS17]; exact hS15_a2
  have hS17_a10 : mKd S17 a10 = 8 := by rw [eS17]; exact hS15_a10
  have hw := Option.some.inj h18; subst hw
  exact J_vret rfl dX3_init_36
def c_X3_open (S : Mem) (a0 : Nat) (r1 : Option Nat) (r2 : Option Nat) : Option Mem :=
  jLet (mSR S a0 5 r1) fun S1 =>
  jLet (mSR S1 a0 6 r2) fun S3 =>
  jLet (mSI S3 a0 2 (0 : Int32)) fun S5 =>
  jLet (mSI S5 a0 3 (0 : Int32)) fun S7 =>
  jLet (mSI S7 a0 4 (0 : Int32)) fun S9 =>
  jLet (mSI S9 a0 7 (0 : Int32)) fun S11 =>
  jLet (mSI S11 a0 8 (-5 : Int32)) fun S13 =>
  jLet (mSI S13 a0 9 (-5 : Int32)) fun S15 =>
  some S15
set_option maxRecDepth 100000 in
set_option maxHeartbeats 4000000 in
theorem t_X3_open {S : Mem} {a0 : Nat} {r1 : Option Nat} {r2 : Option Nat} {w : Mem} (ha : mKd S a0 = 4) (h : c_X3_open S a0 r1 r2 = some w) : CT MX yX3_open cX3_open 3 none 0 0 [.ref a0, va_rf r1, va_rf r2] S none w := by
  refine CT.of (lv := [(0, .ref a0), (1, va_rf r1), (2, va_rf r2)]) (by decide) (by cases r1 <;> cases r2 <;> exact rfl) (by cases r1 <;> cases r2 <;> exact Nat.le_of_ble_eq_true rfl) ?_
  refine J_aload_n 0 dX3_open_0 rfl rfl ?_
  refine J_aload_nq 1 dX3_open_1 rfl rfl ?_
  refine J_putR (k := 5) (x := r1) dX3_open_2 gW_X3_29 ha rfl ?_
  obtain ⟨S1, eS1, h2⟩ := jLet_some h; clear h
  refine J_topS eS1 ?_
  have hS1_a0 : mKd S1 a0 = 4 := by rw [eS1]; exact ha
  refine J_aload_n 0 dX3_open_5 rfl rfl ?_
  refine J_aload_nq 2 dX3_open_6 rfl rfl ?_
  refine J_putR (k := 6) (x := r2) dX3_open_7 gW_X3_33 hS1_a0 rfl ?_
  obtain ⟨S3, eS3, h4⟩ := jLet_some h2; clear h2
  refine J_topS eS3 ?_
  have hS3_a0 : mKd S3 a0 = 4 := by rw [eS3]; exact hS1_a0
  refine J_aload_n 0 dX3_open_10 rfl rfl ?_
  refine J_iconst (0 : Int32) dX3_open_11 (by decide) ?_
  refine J_putI (k := 2) dX3_open_12 gW_X3_36 hS3_a0 rfl ?_
  obtain ⟨S5, eS5, h6⟩ := jLet_some h4; clear h4
  refine J_topS eS5 ?_
  have hS5_a0 : mKd S5 a0 = 4 := by rw [eS5]; exact hS3_a0
  refine J_aload_n 0 dX3_open_15 rfl rfl ?_
  refine J_iconst (0 : Int32) dX3_open_16 (by decide) ?_
  refine J_putI (k := 3) dX3_open_17 gW_X3_39 hS5_a0 rfl ?_
  obtain ⟨S7, eS7, h8⟩ := jLet_some h6; clear h6
  refine J_topS eS7 ?_
  have hS7_a0 : mKd S7 a0 = 4 := by rw [eS7]; exact hS5_a0
  refine J_aload_n 0 dX3_open_20 rfl rfl ?_
  refine J_iconst (0 : Int32) dX3_open_21 (by decide) ?_
  refine J_putZ (k := 4) dX3_open_22 gW_X3_42 hS7_a0 rfl (by decide) ?_
  obtain ⟨S9, eS9, h10⟩ := jLet_some h8; clear h8
  refine J_topS eS9 ?_
  have hS9_a0 : mKd S9 a0 = 4 := by rw [eS9]; exact hS7_a0
  refine J_aload_n 0 dX3_open_25 rfl rfl ?_
  refine J_iconst (0 : Int32) dX3_open_26 (by decide) ?_
  refine J_putI (k := 7) dX3_open_27 gW_X3_46 hS9_a0 rfl ?_
  obtain ⟨S11, eS11, h12⟩ := jLet_some h10; clear h10
  refine J_topS eS11 ?_
  have hS11_a0 : mKd S11 a0 = 4 := by rw [eS11]; exact hS9_a0
  refine J_aload_n 0 dX3_open_30 rfl rfl ?_
  refine J_bipush (-5 : Int32) dX3_open_31 (by decide) ?_
  refine J_putI (k := 8) dX3_open_33 gW_X3_22 hS11_a0 rfl ?_
  obtain ⟨S13, eS13, h14⟩ := jLet_some h12; clear h12
  refine J_topS eS13 ?_
  have hS13_a0 : mKd S13 a0 = 4 := by rw [eS13]; exact hS11_a0
  refine J_aload_n 0 dX3_open_36 rfl rfl ?_
  refine J_bipush (-5 : Int32) dX3_open_37 (by decide) ?_
  refine J_putI (k := 9) dX3_open_39 gW_X3_26 hS13_a0 rfl ?_
  obtain ⟨S15, eS15, h16⟩ := jLet_some h14; clear h14
  refine J_topS eS15 ?_
  have hS15_a0 : mKd S15 a0 = 4 := by rw [eS15]; exact hS13_a0
  have hw := Option.some.inj h16; subst hw
  exact J_vret rfl dX3_open_42
def c_X3_tell (S : Mem) (a0 : Nat) (i1 : Int32) (i2 : Int32) : Option Int32 :=
  bnd (ob S (mR S a0 1) 8) fun a1 =>
  gd (inB (((7 : Int32) * i1) + i2) (mLn S a1)) <|
  some (mI S a1 (Int32.toNatClampNeg (((7 : Int32) * i1) + i2)))
set_option maxRecDepth 100000 in
set_option maxHeartbeats 4000000 in
theorem t_X3_tell {S : Mem} {a0 : Nat} {i1 : Int32} {i2 : Int32} {w : Int32} (ha : mKd S a0 = 4) (h : c_X3_tell S a0 i1 i2 = some w) : CT MX yX3_tell cX3_tell 3 (some .int) 0 0 [.ref a0, .int i1, .int i2] S (some (.int w)) S := by
  refine CT.of (lv := [(0, .ref a0), (1, .int i1), (2, .int i2)]) (by decide) rfl (Nat.le_of_ble_eq_true rfl) ?_
  refine J_aload_n 0 dX3_tell_0 rfl rfl ?_
  refine J_get (k := 1) (v := va_rf (mR S a0 1)) dX3_tell_1 gF_X3_18 ha rfl ?_
  refine J_bipush (7 : Int32) dX3_tell_4 (by decide) ?_
  refine J_iload_n 1 dX3_tell_6 rfl rfl ?_
  refine J_imul dX3_tell_7 ?_
  refine J_iload_n 2 dX3_tell_8 rfl rfl ?_
  refine J_iadd dX3_tell_9 ?_
  obtain ⟨a1, ea1, ka1, h2⟩ := ob_some h; clear h
  rw [ea1]
  refine J_lvst (lv' := [(0, .ref a0), (1, .int i1), (2, .int i2)]) (st' := [.int (((7 : Int32) * i1) + i2), .ref a1]) rfl rfl ?_
  obtain ⟨g3, h4⟩ := gd_some h2; clear h2
  refine J_iald dX3_tell_10 ka1 g3 ?_
  have hw := Option.some.inj h4; subst hw
  exact J_iret rfl dX3_tell_11
def c_X3_takeBack_J34 (S : Mem) (a0 : Nat) (i1 : Int32) (rs0 : Option Nat) : Option Mem :=
  bnd (c_X3_tell S a0 i1 (1 : Int32)) fun i1_ =>
  oc rs0
    (some S)
    (fun a3 =>
      gd (kb S a3 2) <|
      bnd (c_X1_holds S a3 i1_) fun i7_ =>
      if i7_ = 0 then
        (some S)
      else
        (bnd (ob S (mR S a3 5) 12) fun a11 =>
        gd (inB i1_ (mLn S a11)) <|
        bnd (ob S (mR S a11 (Int32.toNatClampNeg i1_)) 5) fun a15 =>
        bnd (c_X3_tell S a0 i1 (2 : Int32)) fun i17_ =>
        jLet (((mI S a15 6) - i17_)) fun i19_ =>
        jLet (mSI S a15 6 i19_) fun S21 =>
        bnd (c_X3_tell S21 a0 i1 (3 : Int32)) fun i23_ =>
        jLet (((mI S21 a15 5) - i23_)) fun i25_ =>
        jLet (mSI S21 a15 5 i25_) fun S27 =>
        some S27))
set_option maxRecDepth 100000 in
set_option maxHeartbeats 4000000 in
theorem t_X3_takeBack_J34 {S : Mem} {a0 : Nat} {i1 : Int32} {rs0 : Option Nat} {w : Mem} (ha : mKd S a0 = 4) (h : c_X3_takeBack_J34 S a0 i1 rs0 = some w) : J MX yX3_takeBack cX3_takeBack 5 none 1 22 34 [(0, .ref a0), (1, .int i1)] [va_rf rs0] S none w := by
  refine J_astore_nq dX3_takeBack_34 rfl (by decide) [1, 2, 0] (lv' := [(0, .ref a0), (1, .int i1), (2, va_rf rs0)]) rfl ?_
  refine J_aload_n 0 dX3_takeBack_35 rfl rfl ?_
  refine J_iload_n 1 dX3_takeBack_36 rfl rfl ?_
  refine J_iconst (1 : Int32) dX3_takeBack_37 (by decide) ?_
  obtain ⟨i1_, ei1_, h2⟩ := bnd_some h; clear h
  refine J_callV (As := [.int i1, .int (1 : Int32)]) (rest := []) (st' := [.int i1_]) (t_X3_tell ha ei1_) gC_X3_tell gM_X3_59 (mRecv ha (by decide) jCl3) rfl (by decide) (by decide) rfl rfl (Nat.le_of_ble_eq_true rfl) dX3_takeBack_38 ?_
  refine J_istore_n dX3_takeBack_41 rfl (by decide) [1, 2, 3, 0] (lv' := [(0, .ref a0), (1, .int i1), (2, va_rf rs0), (3, .int i1_)]) (by cases rs0 <;> rfl) ?_
  refine J_aload_nq 2 dX3_takeBack_42 rfl rfl ?_
  refine J_ifnull 94 dX3_takeBack_43 (by decide) h2 (fun ea3 h4 => ?_) (fun a3 ea3 h4 => ?_)
  · clear h2
    subst ea3
    refine J_lvst (lv' := [(0, .ref a0), (1, .int i1), (2, va_rf none), (3, .int i1_)]) (st' := []) rfl rfl ?_
    have hw := Option.some.inj h4; subst hw
    exact J_vret rfl dX3_takeBack_94
  · clear h2
    subst ea3
    refine J_lvst (lv' := [(0, .ref a0), (1, .int i1), (2, .ref a3), (3, .int i1_)]) (st' := []) rfl rfl ?_
    refine J_aload_n 2 dX3_takeBack_46 rfl rfl ?_
    refine J_iload_n 3 dX3_takeBack_47 rfl rfl ?_
    obtain ⟨g5, h6⟩ := gd_some h4; clear h4
    have kg5 := kb_of g5
    obtain ⟨i7_, ei7_, h8⟩ := bnd_some h6; clear h6
    refine J_callV (As := [.int i1_]) (rest := []) (st' := [.int i7_]) (t_X1_holds kg5 ei7_) gC_X1_holds gM_X3_68 (mRecv kg5 (by decide) jCl1) rfl (by decide) (by decide) rfl rfl (Nat.le_of_ble_eq_true rfl) dX3_takeBack_48 ?_
    refine J_if_eq 94 dX3_takeBack_51 (by decide) h8 (fun c9 h10 => ?_) (fun c9 h10 => ?_)
    · clear h8
      have hw := Option.some.inj h10; subst hw
      exact J_vret rfl dX3_takeBack_94
    · clear h8
      refine J_aload_n 2 dX3_takeBack_54 rfl rfl ?_
      refine J_get (k := 5) (v := va_rf (mR S a3 5)) dX3_takeBack_55 gF_X3_72 kg5 rfl ?_
      refine J_iload_n 3 dX3_takeBack_58 rfl rfl ?_
      obtain ⟨a11, ea11, ka11, h12⟩ := ob_some h10; clear h10
      rw [ea11]
      refine J_lvst (lv' := [(0, .ref a0), (1, .int i1), (2, .ref a3), (3, .int i1_)]) (st' := [.int i1_, .ref a11]) rfl rfl ?_
      obtain ⟨g13, h14⟩ := gd_some h12; clear h12
      refine J_aald (z := 4) (C := RX4) dX3_takeBack_59 (fun _ => rfl) (fun _ _ => rfl) ka11 g13 ?_
      refine J_astoreq dX3_takeBack_60 (by decide) [1, 2, 0] (lv' := [(0, .ref a0), (1, .int i1), (4, va_rf (mR S a11 (Int32.toNatClampNeg i1_)))]) rfl ?_
      refine J_aloadq 2 dX3_takeBack_62 rfl ?_
      refine J_dup dX3_takeBack_64 (va_rf_cat _) ?_
      obtain ⟨a15, ea15, ka15, h16⟩ := ob_some h14; clear h14
      rw [ea15]
      refine J_lvst (lv' := [(0, .ref a0), (1, .int i1), (4, .ref a15)]) (st' := [.ref a15, .ref a15]) rfl rfl ?_
      refine J_get (k := 6) (v := .int (mI S a15 6)) dX3_takeBack_65 gF_X3_76 ka15 rfl ?_
      refine J_aload_n 0 dX3_takeBack_68 rfl rfl ?_
      refine J_iload_n 1 dX3_takeBack_69 rfl rfl ?_
      refine J_iconst (2 : Int32) dX3_takeBack_70 (by decide) ?_
      obtain ⟨i17_, ei17_, h18⟩ := bnd_some h16; clear h16
      refine J_callV (As := [.int i1, .int (2 : Int32)]) (rest := [.int (mI S a15 6), .ref a15]) (st' := [.int i17_, .int (mI S a15 6), .ref a15]) (t_X3_tell ha ei17_) gC_X3_tell gM_X3_59 (mRecv ha (by decide) jCl3) rfl (by decide) (by decide) rfl rfl (Nat.le_of_ble_eq_true rfl) dX3_takeBack_71 ?_
      refine J_isub dX3_takeBack_74 ?_
      obtain ⟨i19_, ei19_, h20⟩ := jLet_some h18; clear h18
      refine J_topI ei19_ ?_
      refine J_putI (k := 6) dX3_takeBack_75 gW_X3_76 ka15 rfl ?_
      obtain ⟨S21, eS21, h22⟩ := jLet_some h20; clear h20
      refine J_topS eS21 ?_
      have hS21_a0 : mKd S21 a0 = 4 := by rw [eS21]; exact ha
      have hS21_a3 : mKd S21 a3 = 2 := by rw [eS21]; exact kg5
      have hS21_a11 : mKd S21 a11 = 12 := by rw [eS21]; exact ka11
      have hS21_a15 : mKd S21 a15 = 5 := by rw [eS21]; exact ka15
      refine J_aload 2 dX3_takeBack_78 rfl ?_
      refine J_dup dX3_takeBack_80 rfl ?_
      refine J_get (k := 5) (v := .int (mI S21 a15 5)) dX3_takeBack_81 gF_X3_81 hS21_a15 rfl ?_
      refine J_aload_n 0 dX3_takeBack_84 rfl rfl ?_
      refine J_iload_n 1 dX3_takeBack_85 rfl rfl ?_
      refine J_iconst (3 : Int32) dX3_takeBack_86 (by decide) ?_
      obtain ⟨i23_, ei23_, h24⟩ := bnd_some h22; clear h22
      refine J_callV (As := [.int i1, .int (3 : Int32)]) (rest := [.int (mI S21 a15 5), .ref a15]) (st' := [.int i23_, .int (mI S21 a15 5), .ref a15]) (t_X3_tell hS21_a0 ei23_) gC_X3_tell gM_X3_59 (mRecv hS21_a0 (by decide) jCl3) rfl (by decide) (by decide) rfl rfl (Nat.le_of_ble_eq_true rfl) dX3_takeBack_87 ?_
      refine J_isub dX3_takeBack_90 ?_
      obtain ⟨i25_, ei25_, h26⟩ := jLet_some h24; clear h24
      refine J_topI ei25_ ?_
      refine J_putI (k := 5) dX3_takeBack_91 gW_X3_81 hS21_a15 rfl ?_
      obtain ⟨S27, eS27, h28⟩ := jLet_some h26; clear h26
      refine J_topS eS27 ?_
      have hS27_a0 : mKd S27 a0 = 4 := by rw [eS27]; exact hS21_a0
      have hS27_a3 : mKd S27 a3 = 2 := by rw [eS27]; exact hS21_a3
      have hS27_a11 : mKd S27 a11 = 12 := by rw [eS27]; exact hS21_a11
      have hS27_a15 : mKd S27 a15 = 5 := by rw [eS27]; exact hS21_a15
      have hw := Option.some.inj h28; subst hw
      exact J_vret rfl dX3_takeBack_94
def c_X3_takeBack (S : Mem) (a0 : Nat) (i1 : Int32) : Option Mem :=
  oc (mR S a0 5)
    (c_X3_takeBack_J34 S a0 i1 (mR S a0 6))
    (fun a1 =>
      bnd (ob S (mR S a0 5) 2) fun a3 =>
      bnd (c_X3_tell S a0 i1 (0 : Int32)) fun i5_ =>
      if (mI S a3 0) = i5_ then
        (c_X3_takeBack_J34 S a0 i1 (mR S a0 5))
      else
        (c_X3_takeBack_J34 S a0 i1 (mR S a0 6)))
set_option maxRecDepth 100000 in
set_option maxHeartbeats 4000000 in
theorem t_X3_takeBack {S : Mem} {a0 : Nat} {i1 : Int32} {w : Mem} (ha : mKd S a0 = 4) (h : c_X3_takeBack S a0 i1 = some w) : CT MX yX3_takeBack cX3_takeBack 5 none 1 22 [.ref a0, .int i1] S none w := by
  refine CT.of (lv := [(0, .ref a0), (1, .int i1)]) (by decide) rfl (Nat.le_of_ble_eq_true rfl) ?_
  refine J_aload_n 0 dX3_takeBack_0 rfl rfl ?_
  refine J_get (k := 5) (v := va_rf (mR S a0 5)) dX3_takeBack_1 gF_X3_29 ha rfl ?_
  refine J_ifnull 30 dX3_takeBack_4 (by decide) h (fun ea1 h2 => ?_) (fun a1 ea1 h2 => ?_)
  · clear h
    refine J_aload_n 0 dX3_takeBack_30 rfl rfl ?_
    refine J_get (k := 6) (v := va_rf (mR S a0 6)) dX3_takeBack_31 gF_X3_33 ha rfl ?_
    exact t_X3_takeBack_J34 ha h2
  · clear h
    refine J_aload_n 0 dX3_takeBack_7 rfl rfl ?_
    refine J_get (k := 5) (v := va_rf (mR S a0 5)) dX3_takeBack_8 gF_X3_29 ha rfl ?_
    obtain ⟨a3, ea3, ka3, h4⟩ := ob_some h2; clear h2
    rw [ea3]
    refine J_lvst (lv' := [(0, .ref a0), (1, .int i1)]) (st' := [.ref a3]) rfl rfl ?_
    refine J_get (k := 0) (v := .int (mI S a3 0)) dX3_takeBack_11 gF_X3_63 ka3 rfl ?_
    refine J_aload_n 0 dX3_takeBack_14 rfl rfl ?_
    refine J_iload_n 1 dX3_takeBack_15 rfl rfl ?_
    refine J_iconst (0 : Int32) dX3_takeBack_16 (by decide) ?_
    obtain ⟨i5_, ei5_, h6⟩ := bnd_some h4; clear h4
    refine J_callV (As := [.int i1, .int (0 : Int32)]) (rest := [.int (mI S a3 0)]) (st' := [.int i5_, .int (mI S a3 0)]) (t_X3_tell ha ei5_) gC_X3_tell gM_X3_59 (mRecv ha (by decide) jCl3) rfl (by decide) (by decide) rfl rfl (Nat.le_of_ble_eq_true rfl) dX3_takeBack_17 ?_
    refine J_icmp_ne 30 dX3_takeBack_20 (by decide) h6 (fun c7 h8 => ?_) (fun c7 h8 => ?_)
    · clear h6
      refine J_aload_n 0 dX3_takeBack_23 rfl rfl ?_
      refine J_get (k := 5) (v := va_rf (mR S a0 5)) dX3_takeBack_24 gF_X3_29 ha rfl ?_
      refine J_goto 34 dX3_takeBack_27 (by decide) ?_
      exact t_X3_takeBack_J34 ha h8
    · clear h6
      refine J_aload_n 0 dX3_takeBack_30 rfl rfl ?_
      refine J_get (k := 6) (v := va_rf (mR S a0 6)) dX3_takeBack_31 gF_X3_33 ha rfl ?_
      exact t_X3_takeBack_J34 ha h8
def c_X3_close_L34 : Nat → Mem → Nat → Int32 → Option (Int32 × Mem)
  | 0, _, _, _ => none
  | n + 1, S, a0, i2 =>
    if i2 < 0 then
      (jLet (((mI S a0 11) + (1 : Int32))) fun i3_ =>
      jLet (mSI S a0 11 i3_) fun S5 =>
      some (((-100 : Int32) - (mI S5 a0 2)), S5))
    else
      (bnd (c_X3_takeBack S a0 i2) fun S7 =>
      c_X3_close_L34 n S7 a0 (i2 + (-1 : Int32)))
set_option maxRecDepth 100000 in
set_option maxHeartbeats 4000000 in
theorem t_X3_close_L34 {w : (Int32 × Mem)} (n : Nat) : ∀ (S : Mem) (a0 : Nat) (i2 : Int32), (mKd S a0 = 4) → c_X3_close_L34 n S a0 i2 = some w → J MX yX3_close cX3_close 3 (some .int) 2 46 34 [(0, .ref a0), (2, .int i2)] [] S (some (.int w.1)) w.2 := by
  induction n with
  | zero => intro S a0 i2 ha h; cases h
  | succ n lh =>
    intro S a0 i2 ha h
    refine J_iload_n 1 dX3_close_34 rfl rfl ?_
    refine J_if_lt 49 dX3_close_35 (by decide) h (fun c1 h2 => ?_) (fun c1 h2 => ?_)
    · clear h
      refine J_aload_n 0 dX3_close_49 rfl rfl ?_
      refine J_dup dX3_close_50 rfl ?_
      refine J_get (k := 11) (v := .int (mI S a0 11)) dX3_close_51 gF_X3_56 ha rfl ?_
      refine J_iconst (1 : Int32) dX3_close_54 (by decide) ?_
      refine J_iadd dX3_close_55 ?_
      obtain ⟨i3_, ei3_, h4⟩ := jLet_some h2; clear h2
      refine J_topI ei3_ ?_
      refine J_putI (k := 11) dX3_close_56 gW_X3_56 ha rfl ?_
      obtain ⟨S5, eS5, h6⟩ := jLet_some h4; clear h4
      refine J_topS eS5 ?_
      have hS5_a0 : mKd S5 a0 = 4 := by rw [eS5]; exact ha
      refine J_bipush (-100 : Int32) dX3_close_59 (by decide) ?_
      refine J_aload_n 0 dX3_close_61 rfl rfl ?_
      refine J_get (k := 2) (v := .int (mI S5 a0 2)) dX3_close_62 gF_X3_36 hS5_a0 rfl ?_
      refine J_isub dX3_close_65 ?_
      have hw := Option.some.inj h6; subst hw
      exact J_iret rfl dX3_close_66
    · clear h
      refine J_aload_n 0 dX3_close_38 rfl rfl ?_
      refine J_iload_n 1 dX3_close_39 rfl rfl ?_
      obtain ⟨S7, eS7, h8⟩ := bnd_some h2; clear h2
      have cS7 := (t_X3_takeBack ha eS7)
      have lS7 : jle MX S S7 := cS7.1
      have hS7_a0 : mKd S7 a0 = 4 := kd_le lS7 ha
      refine J_callV (As := [.int i2]) (rest := []) (st' := []) cS7 gC_X3_takeBack gM_X3_52 (mRecv ha (by decide) jCl3) rfl (by decide) (by decide) rfl rfl (Nat.le_of_ble_eq_true rfl) dX3_close_40 ?_
      refine J_iinc 1 (-1 : Int32) dX3_close_43 rfl (by decide) (by decide) [1, 0] (lv' := [(0, .ref a0), (2, .int (i2 + (-1 : Int32)))]) rfl ?_
      refine J_goto 34 dX3_close_46 (by decide) ?_
      exact lh S7 a0 (i2 + (-1 : Int32)) hS7_a0 h8
def c_X3_close (S : Mem) (a0 : Nat) (i1 : Int32) : Option (Int32 × Mem) :=
  if i1 = 0 then
    (jLet (((mI S a0 2) - (1 : Int32))) fun i3_ =>
    c_X3_close_L34 bigN S a0 i3_)
  else
    (jLet ((mI S a0 2)) fun i5_ =>
    jLet (mSI S a0 3 i5_) fun S7 =>
    jLet (((mI S7 a0 10) + (1 : Int32))) fun i9_ =>
    jLet (mSI S7 a0 10 i9_) fun S11 =>
    some ((mI S11 a0 2), S11))
set_option maxRecDepth 100000 in
set_option maxHeartbeats 4000000 in
theorem t_X3_close {S : Mem} {a0 : Nat} {i1 : Int32} {w : (Int32 × Mem)} (ha : mKd S a0 = 4) (h : c_X3_close S a0 i1 = some w) : CT MX yX3_close cX3_close 3 (some .int) 2 46 [.ref a0, .int i1] S (some (.int w.1)) w.2 := by
  refine CT.of (lv := [(0, .ref a0), (1, .int i1)]) (by decide) rfl (Nat.le_of_ble_eq_true rfl) ?_
  refine J_iload_n 1 dX3_close_0 rfl rfl ?_
  refine J_if_eq 27 dX3_close_1 (by decide) h (fun c1 h2 => ?_) (fun c1 h2 => ?_)
  · clear h
    refine J_aload_n 0 dX3_close_27 rfl rfl ?_
    refine J_get (k := 2) (v := .int (mI S a0 2)) dX3_close_28 gF_X3_36 ha rfl ?_
    refine J_iconst (1 : Int32) dX3_close_31 (by decide) ?_
    refine J_isub dX3_close_32 ?_
    obtain ⟨i3_, ei3_, h4⟩ := jLet_some h2; clear h2
    refine J_topI ei3_ ?_
    refine J_istore_n dX3_close_33 rfl (by decide) [1, 0] (lv' := [(0, .ref a0), (2, .int i3_)]) rfl ?_
    exact t_X3_close_L34 bigN S a0 i3_ ha h4
  · clear h
    refine J_aload_n 0 dX3_close_4 rfl rfl ?_
    refine J_aload_n 0 dX3_close_5 rfl rfl ?_
    refine J_get (k := 2) (v := .int (mI S a0 2)) dX3_close_6 gF_X3_36 ha rfl ?_
    obtain ⟨i5_, ei5_, h6⟩ := jLet_some h2; clear h2
    refine J_topI ei5_ ?_
    refine J_putI (k := 3) dX3_close_9 gW_X3_39 ha rfl ?_
    obtain ⟨S7, eS7, h8⟩ := jLet_some h6; clear h6
    refine J_topS eS7 ?_
    have hS7_a0 : mKd S7 a0 = 4 := by rw [eS7]; exact ha
    refine J_aload_n 0 dX3_close_12 rfl rfl ?_
    refine J_dup dX3_close_13 rfl ?_
    refine J_get (k := 10) (v := .int (mI S7 a0 10)) dX3_close_14 gF_X3_49 hS7_a0 rfl ?_
    refine J_iconst (1 : Int32) dX3_close_17 (by decide) ?_
    refine J_iadd dX3_close_18 ?_
    obtain ⟨i9_, ei9_, h10⟩ := jLet_some h8; clear h8
    refine J_topI ei9_ ?_
    refine J_putI (k := 10) dX3_close_19 gW_X3_49 hS7_a0 rfl ?_
    obtain ⟨S11, eS11, h12⟩ := jLet_some h10; clear h10
    refine J_topS eS11 ?_
    have hS11_a0 : mKd S11 a0 = 4 := by rw [eS11]; exact hS7_a0
    refine J_aload_n 0 dX3_close_22 rfl rfl ?_
    refine J_get (k := 2) (v := .int (mI S11 a0 2)) dX3_close_23 gF_X3_36 hS11_a0 rfl ?_
    have hw := Option.some.inj h12; subst hw
    exact J_iret rfl dX3_close_26
def c_X3_countOn_L6 (S : Mem) : Nat → Nat → Int32 → Int32 → Int32 → Int32 → Int32 → Option Int32
  | 0, _, _, _, _, _, _ => none
  | n + 1, a0, i1, i2, i3, i4, i5 =>
    if (mI S a0 2) ≤ i5 then
      (some i4)
    else
      (bnd (c_X3_tell S a0 i5 (0 : Int32)) fun i3_ =>
      if i3_ = i1 then
        (bnd (c_X3_tell S a0 i5 (1 : Int32)) fun i7_ =>
        if i7_ = i2 then
          (if i3 = 0 then
            (c_X3_countOn_L6 S n a0 i1 i2 i3 (i4 + (1 : Int32)) (i5 + (1 : Int32)))
          else
            (bnd (c_X3_tell S a0 i5 (4 : Int32)) fun i13_ =>
            if i13_ = i3 then
              (c_X3_countOn_L6 S n a0 i1 i2 i3 (i4 + (1 : Int32)) (i5 + (1 : Int32)))
            else
              (c_X3_countOn_L6 S n a0 i1 i2 i3 i4 (i5 + (1 : Int32)))))
        else
          (c_X3_countOn_L6 S n a0 i1 i2 i3 i4 (i5 + (1 : Int32))))
      else
        (c_X3_countOn_L6 S n a0 i1 i2 i3 i4 (i5 + (1 : Int32))))
set_option maxRecDepth 100000 in
set_option maxHeartbeats 4000000 in
theorem t_X3_countOn_L6 {S : Mem} {w : Int32} (n : Nat) : ∀ (a0 : Nat) (i1 : Int32) (i2 : Int32) (i3 : Int32) (i4 : Int32) (i5 : Int32), (mKd S a0 = 4) → c_X3_countOn_L6 S n a0 i1 i2 i3 i4 i5 = some w → J MX yX3_countOn cX3_countOn 6 (some .int) 1 22 6 [(0, .ref a0), (1, .int i1), (2, .int i2), (3, .int i3), (4, .int i4), (5, .int i5)] [] S (some (.int w)) S := by
  induction n with
  | zero => intro a0 i1 i2 i3 i4 i5 ha h; cases h
  | succ n lh =>
    intro a0 i1 i2 i3 i4 i5 ha h
    refine J_iload 5 dX3_countOn_6 rfl ?_
    refine J_aload_n 0 dX3_countOn_8 rfl rfl ?_
    refine J_get (k := 2) (v := .int (mI S a0 2)) dX3_countOn_9 gF_X3_36 ha rfl ?_
    refine J_icmp_ge 61 dX3_countOn_12 (by decide) h (fun c1 h2 => ?_) (fun c1 h2 => ?_)
    · clear h
      refine J_iload 4 dX3_countOn_61 rfl ?_
      have hw := Option.some.inj h2; subst hw
      exact J_iret rfl dX3_countOn_63
    · clear h
      refine J_aload_n 0 dX3_countOn_15 rfl rfl ?_
      refine J_iload 5 dX3_countOn_16 rfl ?_
      refine J_iconst (0 : Int32) dX3_countOn_18 (by decide) ?_
      obtain ⟨i3_, ei3_, h4⟩ := bnd_some h2; clear h2
      refine J_callV (As := [.int i5, .int (0 : Int32)]) (rest := []) (st' := [.int i3_]) (t_X3_tell ha ei3_) gC_X3_tell gM_X3_59 (mRecv ha (by decide) jCl3) rfl (by decide) (by decide) rfl rfl (Nat.le_of_ble_eq_true rfl) dX3_countOn_19 ?_
      refine J_iload_n 1 dX3_countOn_22 rfl rfl ?_
      refine J_icmp_ne 55 dX3_countOn_23 (by decide) h4 (fun c5 h6 => ?_) (fun c5 h6 => ?_)
      · clear h4
        refine J_aload_n 0 dX3_countOn_26 rfl rfl ?_
        refine J_iload 5 dX3_countOn_27 rfl ?_
        refine J_iconst (1 : Int32) dX3_countOn_29 (by decide) ?_
        obtain ⟨i7_, ei7_, h8⟩ := bnd_some h6; clear h6
        refine J_callV (As := [.int i5, .int (1 : Int32)]) (rest := []) (st' := [.int i7_]) (t_X3_tell ha ei7_) gC_X3_tell gM_X3_59 (mRecv ha (by decide) jCl3) rfl (by decide) (by decide) rfl rfl (Nat.le_of_ble_eq_true rfl) dX3_countOn_30 ?_
        refine J_iload_n 2 dX3_countOn_33 rfl rfl ?_
        refine J_icmp_ne 55 dX3_countOn_34 (by decide) h8 (fun c9 h10 => ?_) (fun c9 h10 => ?_)
        · clear h8
          refine J_iload_n 3 dX3_countOn_37 rfl rfl ?_
          refine J_if_eq 52 dX3_countOn_38 (by decide) h10 (fun c11 h12 => ?_) (fun c11 h12 => ?_)
          · clear h10
            refine J_iinc 4 (1 : Int32) dX3_countOn_52 rfl (by decide) (by decide) [1, 2, 3, 4, 0, 5] (lv' := [(0, .ref a0), (1, .int i1), (2, .int i2), (3, .int i3), (4, .int (i4 + (1 : Int32))), (5, .int i5)]) rfl ?_
            refine J_iinc 5 (1 : Int32) dX3_countOn_55 rfl (by decide) (by decide) [1, 2, 3, 4, 5, 0] (lv' := [(0, .ref a0), (1, .int i1), (2, .int i2), (3, .int i3), (4, .int (i4 + (1 : Int32))), (5, .int (i5 + (1 : Int32)))]) rfl ?_
            refine J_goto 6 dX3_countOn_58 (by decide) ?_
            exact lh a0 i1 i2 i3 (i4 + (1 : Int32)) (i5 + (1 : Int32)) ha h12
          · clear h10
            refine J_aload_n 0 dX3_countOn_41 rfl rfl ?_
            refine J_iload 5 dX3_countOn_42 rfl ?_
            refine J_iconst (4 : Int32) dX3_countOn_44 (by decide) ?_
            obtain ⟨i13_, ei13_, h14⟩ := bnd_some h12; clear h12
            refine J_callV (As := [.int i5, .int (4 : Int32)]) (rest := []) (st' := [.int i13_]) (t_X3_tell ha ei13_) gC_X3_tell gM_X3_59 (mRecv ha (by decide) jCl3) rfl (by decide) (by decide) rfl rfl (Nat.le_of_ble_eq_true rfl) dX3_countOn_45 ?_
            refine J_iload_n 3 dX3_countOn_48 rfl rfl ?_
            refine J_icmp_ne 55 dX3_countOn_49 (by decide) h14 (fun c15 h16 => ?_) (fun c15 h16 => ?_)
            · clear h14
              refine J_iinc 4 (1 : Int32) dX3_countOn_52 rfl (by decide) (by decide) [1, 2, 3, 4, 0, 5] (lv' := [(0, .ref a0), (1, .int i1), (2, .int i2), (3, .int i3), (4, .int (i4 + (1 : Int32))), (5, .int i5)]) rfl ?_
              refine J_iinc 5 (1 : Int32) dX3_countOn_55 rfl (by decide) (by decide) [1, 2, 3, 4, 5, 0] (lv' := [(0, .ref a0), (1, .int i1), (2, .int i2), (3, .int i3), (4, .int (i4 + (1 : Int32))), (5, .int (i5 + (1 : Int32)))]) rfl ?_
              refine J_goto 6 dX3_countOn_58 (by decide) ?_
              exact lh a0 i1 i2 i3 (i4 + (1 : Int32)) (i5 + (1 : Int32)) ha h16
            · clear h14
              refine J_iinc 5 (1 : Int32) dX3_countOn_55 rfl (by decide) (by decide) [1, 2, 3, 4, 5, 0] (lv' := [(0, .ref a0), (1, .int i1), (2, .int i2), (3, .int i3), (4, .int i4), (5, .int (i5 + (1 : Int32)))]) rfl ?_
              refine J_goto 6 dX3_countOn_58 (by decide) ?_
              exact lh a0 i1 i2 i3 i4 (i5 + (1 : Int32)) ha h16
        · clear h8
          refine J_iinc 5 (1 : Int32) dX3_countOn_55 rfl (by decide) (by decide) [1, 2, 3, 4, 5, 0] (lv' := [(0, .ref a0), (1, .int i1), (2, .int i2), (3, .int i3), (4, .int i4), (5, .int (i5 + (1 : Int32)))]) rfl ?_
          refine J_goto 6 dX3_countOn_58 (by decide) ?_
          exact lh a0 i1 i2 i3 i4 (i5 + (1 : Int32)) ha h10
      · clear h4
        refine J_iinc 5 (1 : Int32) dX3_countOn_55 rfl (by decide) (by decide) [1, 2, 3, 4, 5, 0] (lv' := [(0, .ref a0), (1, .int i1), (2, .int i2), (3, .int i3), (4, .int i4), (5, .int (i5 + (1 : Int32)))]) rfl ?_
        refine J_goto 6 dX3_countOn_58 (by decide) ?_
        exact lh a0 i1 i2 i3 i4 (i5 + (1 : Int32)) ha h6
def c_X3_countOn (S : Mem) (a0 : Nat) (i1 : Int32) (i2 : Int32) (i3 : Int32) : Option Int32 :=
  c_X3_countOn_L6 S bigN a0 i1 i2 i3 (0 : Int32) (0 : Int32)
set_option maxRecDepth 100000 in
set_option maxHeartbeats 4000000 in
theorem t_X3_countOn {S : Mem} {a0 : Nat} {i1 : Int32} {i2 : Int32} {i3 : Int32} {w : Int32} (ha : mKd S a0 = 4) (h : c_X3_countOn S a0 i1 i2 i3 = some w) : CT MX yX3_countOn cX3_countOn 6 (some .int) 1 22 [.ref a0, .int i1, .int i2, .int i3] S (some (.int w)) S := by
  refine CT.of (lv := [(0, .ref a0), (1, .int i1), (2, .int i2), (3, .int i3)]) (by decide) rfl (Nat.le_of_ble_eq_true rfl) ?_
  refine J_iconst (0 : Int32) dX3_countOn_0 (by decide) ?_
  refine J_istore dX3_countOn_1 (by decide) [1, 2, 3, 4, 0] (lv' := [(0, .ref a0), (1, .int i1), (2, .int i2), (3, .int i3), (4, .int (0 : Int32))]) rfl ?_
  refine J_iconst (0 : Int32) dX3_countOn_3 (by decide) ?_
  refine J_istore dX3_countOn_4 (by decide) [1, 2, 3, 4, 5, 0] (lv' := [(0, .ref a0), (1, .int i1), (2, .int i2), (3, .int i3), (4, .int (0 : Int32)), (5, .int (0 : Int32))]) rfl ?_
  exact t_X3_countOn_L6 bigN a0 i1 i2 i3 (0 : Int32) (0 : Int32) ha h
def c_X3_canRead_J21 (S : Mem) (a0 : Nat) (r1 : Option Nat) (i2 : Int32) (is0 : Int32) : Option (Int32 × Mem) :=
  if is0 = 0 then
    (if is0 = 0 then
      (some ((1 : Int32), S))
    else
      (some ((0 : Int32), S)))
  else
    (jLet (mSI S a0 7 is0) fun S5 =>
    jLet (mSI S5 a0 8 i2) fun S7 =>
    bnd (ob S7 r1 2) fun a9 =>
    jLet ((mI S7 a9 0)) fun i11_ =>
    jLet (mSI S7 a0 9 i11_) fun S13 =>
    if is0 = 0 then
      (some ((1 : Int32), S13))
    else
      (some ((0 : Int32), S13)))
set_option maxRecDepth 100000 in
set_option maxHeartbeats 4000000 in
theorem t_X3_canRead_J21 {S : Mem} {a0 : Nat} {r1 : Option Nat} {i2 : Int32} {is0 : Int32} {w : (Int32 × Mem)} (ha : mKd S a0 = 4) (h : c_X3_canRead_J21 S a0 r1 i2 is0 = some w) : J MX yX3_canRead cX3_canRead 4 (some .boolean) 1 21 21 [(0, .ref a0), (1, va_rf r1), (2, .int i2)] [.int is0] S (some (.int w.1)) w.2 := by
  refine J_istore_n dX3_canRead_21 rfl (by decide) [1, 2, 3, 0] (lv' := [(0, .ref a0), (1, va_rf r1), (2, .int i2), (3, .int is0)]) rfl ?_
  refine J_iload_n 3 dX3_canRead_22 rfl rfl ?_
  refine J_if_eq 44 dX3_canRead_23 (by decide) h (fun c1 h2 => ?_) (fun c1 h2 => ?_)
  · clear h
    refine J_iload_n 3 dX3_canRead_44 rfl rfl ?_
    refine J_if_ne 52 dX3_canRead_45 (by decide) h2 (fun c3 h4 => ?_) (fun c3 h4 => ?_)
    · clear h2
      refine J_iconst (1 : Int32) dX3_canRead_48 (by decide) ?_
      refine J_goto 53 dX3_canRead_49 (by decide) ?_
      have hw := Option.some.inj h4; subst hw
      exact J_zret rfl (by decide) dX3_canRead_53
    · clear h2
      refine J_iconst (0 : Int32) dX3_canRead_52 (by decide) ?_
      have hw := Option.some.inj h4; subst hw
      exact J_zret rfl (by decide) dX3_canRead_53
  · clear h
    refine J_aload_n 0 dX3_canRead_26 rfl rfl ?_
    refine J_iload_n 3 dX3_canRead_27 rfl rfl ?_
    refine J_putI (k := 7) dX3_canRead_28 gW_X3_46 ha rfl ?_
    obtain ⟨S5, eS5, h6⟩ := jLet_some h2; clear h2
    refine J_topS eS5 ?_
    have hS5_a0 : mKd S5 a0 = 4 := by rw [eS5]; exact ha
    refine J_aload_n 0 dX3_canRead_31 rfl rfl ?_
    refine J_iload_n 2 dX3_canRead_32 rfl rfl ?_
    refine J_putI (k := 8) dX3_canRead_33 gW_X3_22 hS5_a0 rfl ?_
    obtain ⟨S7, eS7, h8⟩ := jLet_some h6; clear h6
    refine J_topS eS7 ?_
    have hS7_a0 : mKd S7 a0 = 4 := by rw [eS7]; exact hS5_a0
    refine J_aload_n 0 dX3_canRead_36 rfl rfl ?_
    refine J_aload_nq 1 dX3_canRead_37 rfl rfl ?_
    obtain ⟨a9, ea9, ka9, h10⟩ := ob_some h8; clear h8
    subst ea9
    refine J_lvst (lv' := [(0, .ref a0), (1, .ref a9), (2, .int i2), (3, .int is0)]) (st' := [.ref a9, .ref a0]) rfl rfl ?_
    refine J_get (k := 0) (v := .int (mI S7 a9 0)) dX3_canRead_38 gF_X3_63 ka9 rfl ?_
    obtain ⟨i11_, ei11_, h12⟩ := jLet_some h10; clear h10
    refine J_topI ei11_ ?_
    refine J_putI (k := 9) dX3_canRead_41 gW_X3_26 hS7_a0 rfl ?_
    obtain ⟨S13, eS13, h14⟩ := jLet_some h12; clear h12
    refine J_topS eS13 ?_
    have hS13_a0 : mKd S13 a0 = 4 := by rw [eS13]; exact hS7_a0
    have hS13_a9 : mKd S13 a9 = 2 := by rw [eS13]; exact ka9
    refine J_iload_n 3 dX3_canRead_44 rfl rfl ?_
    refine J_if_ne 52 dX3_canRead_45 (by decide) h14 (fun c15 h16 => ?_) (fun c15 h16 => ?_)
    · clear h14
      refine J_iconst (1 : Int32) dX3_canRead_48 (by decide) ?_
      refine J_goto 53 dX3_canRead_49 (by decide) ?_
      have hw := Option.some.inj h16; subst hw
      exact J_zret rfl (by decide) dX3_canRead_53
    · clear h14
      refine J_iconst (0 : Int32) dX3_canRead_52 (by decide) ?_
      have hw := Option.some.inj h16; subst hw
      exact J_zret rfl (by decide) dX3_canRead_53
def c_X3_canRead (S : Mem) (a0 : Nat) (r1 : Option Nat) (i2 : Int32) : Option (Int32 × Mem) :=
  bnd (ob S r1 2) fun a1 =>
  bnd (c_X1_holds S a1 i2) fun i3_ =>
  if i3_ = 0 then
    (c_X3_canRead_J21 S a0 (some a1) i2 (2 : Int32))
  else
    (bnd (ob S (mR S a1 5) 12) fun a7 =>
    gd (inB i2 (mLn S a7)) <|
    bnd (ob S (mR S a7 (Int32.toNatClampNeg i2)) 5) fun a11 =>
    bnd (c_X4_readFault S a11) fun i13_ =>
    c_X3_canRead_J21 S a0 (some a1) i2 i13_)
set_option maxRecDepth 100000 in
set_option maxHeartbeats 4000000 in
theorem t_X3_canRead {S : Mem} {a0 : Nat} {r1 : Option Nat} {i2 : Int32} {w : (Int32 × Mem)} (ha : mKd S a0 = 4) (h : c_X3_canRead S a0 r1 i2 = some w) : CT MX yX3_canRead cX3_canRead 4 (some .boolean) 1 21 [.ref a0, va_rf r1, .int i2] S (some (.int w.1)) w.2 := by
  refine CT.of (lv := [(0, .ref a0), (1, va_rf r1), (2, .int i2)]) (by decide) (by cases r1 <;> exact rfl) (by cases r1 <;> exact Nat.le_of_ble_eq_true rfl) ?_
  refine J_aload_nq 1 dX3_canRead_0 rfl rfl ?_
  refine J_iload_n 2 dX3_canRead_1 rfl rfl ?_
  obtain ⟨a1, ea1, ka1, h2⟩ := ob_some h; clear h
  subst ea1
  refine J_lvst (lv' := [(0, .ref a0), (1, .ref a1), (2, .int i2)]) (st' := [.int i2, .ref a1]) rfl rfl ?_
  obtain ⟨i3_, ei3_, h4⟩ := bnd_some h2; clear h2
  refine J_callV (As := [.int i2]) (rest := []) (st' := [.int i3_]) (t_X1_holds ka1 ei3_) gC_X1_holds gM_X3_68 (mRecv ka1 (by decide) jCl1) rfl (by decide) (by decide) rfl rfl (Nat.le_of_ble_eq_true rfl) dX3_canRead_2 ?_
  refine J_if_eq 20 dX3_canRead_5 (by decide) h4 (fun c5 h6 => ?_) (fun c5 h6 => ?_)
  · clear h4
    refine J_iconst (2 : Int32) dX3_canRead_20 (by decide) ?_
    exact t_X3_canRead_J21 ha h6
  · clear h4
    refine J_aload_n 1 dX3_canRead_8 rfl rfl ?_
    refine J_get (k := 5) (v := va_rf (mR S a1 5)) dX3_canRead_9 gF_X3_72 ka1 rfl ?_
    refine J_iload_n 2 dX3_canRead_12 rfl rfl ?_
    obtain ⟨a7, ea7, ka7, h8⟩ := ob_some h6; clear h6
    rw [ea7]
    refine J_lvst (lv' := [(0, .ref a0), (1, .ref a1), (2, .int i2)]) (st' := [.int i2, .ref a7]) rfl rfl ?_
    obtain ⟨g9, h10⟩ := gd_some h8; clear h8
    refine J_aald (z := 4) (C := RX4) dX3_canRead_13 (fun _ => rfl) (fun _ _ => rfl) ka7 g9 ?_
    obtain ⟨a11, ea11, ka11, h12⟩ := ob_some h10; clear h10
    rw [ea11]
    refine J_lvst (lv' := [(0, .ref a0), (1, .ref a1), (2, .int i2)]) (st' := [.ref a11]) rfl rfl ?_
    obtain ⟨i13_, ei13_, h14⟩ := bnd_some h12; clear h12
    refine J_callV (As := []) (rest := []) (st' := [.int i13_]) (t_X4_readFault ka11 ei13_) gC_X4_readFault gM_X3_84 (mRecv ka11 (by decide) jCl4) rfl (by decide) (by decide) rfl rfl (Nat.le_of_ble_eq_true rfl) dX3_canRead_14 ?_
    refine J_goto 21 dX3_canRead_17 (by decide) ?_
    exact t_X3_canRead_J21 ha h14
def c_X3_reasonFor_J22 (i1 : Int32) (i4 : Int32) (is0 : Int32) : Option Int32 :=
  if i1 = 0 then
    (if i4 < 0 then
      (some (2 : Int32))
    else
      (if is0 < 0 then
        (some (2 : Int32))
      else
        (some (1 : Int32))))
  else
    (if 0 < i4 then
      (some (4 : Int32))
    else
      (if 0 < is0 then
        (some (4 : Int32))
      else
        (some (3 : Int32))))
set_option maxRecDepth 100000 in
set_option maxHeartbeats 4000000 in
theorem t_X3_reasonFor_J22 {S : Mem} {i1 : Int32} {i4 : Int32} {is0 : Int32} {w : Int32} (h : c_X3_reasonFor_J22 i1 i4 is0 = some w) : J MX yX3_reasonFor cX3_reasonFor 6 (some .int) 0 0 22 [(1, .int i1), (4, .int i4)] [.int is0] S (some (.int w)) S := by
  refine J_istore dX3_reasonFor_22 (by decide) [1, 2, 0] (lv' := [(1, .int i1), (4, .int i4), (5, .int is0)]) rfl ?_
  refine J_iload_n 0 dX3_reasonFor_24 rfl rfl ?_
  refine J_if_ne 44 dX3_reasonFor_25 (by decide) h (fun c1 h2 => ?_) (fun c1 h2 => ?_)
  · clear h
    refine J_iload 1 dX3_reasonFor_28 rfl ?_
    refine J_if_lt 42 dX3_reasonFor_30 (by decide) h2 (fun c3 h4 => ?_) (fun c3 h4 => ?_)
    · clear h2
      refine J_iconst (2 : Int32) dX3_reasonFor_42 (by decide) ?_
      have hw := Option.some.inj h4; subst hw
      exact J_iret rfl dX3_reasonFor_43
    · clear h2
      refine J_iload 2 dX3_reasonFor_33 rfl ?_
      refine J_if_lt 42 dX3_reasonFor_35 (by decide) h4 (fun c5 h6 => ?_) (fun c5 h6 => ?_)
      · clear h4
        refine J_iconst (2 : Int32) dX3_reasonFor_42 (by decide) ?_
        have hw := Option.some.inj h6; subst hw
        exact J_iret rfl dX3_reasonFor_43
      · clear h4
        refine J_iconst (1 : Int32) dX3_reasonFor_38 (by decide) ?_
        refine J_goto 43 dX3_reasonFor_39 (by decide) ?_
        have hw := Option.some.inj h6; subst hw
        exact J_iret rfl dX3_reasonFor_43
  · clear h
    refine J_iload 1 dX3_reasonFor_44 rfl ?_
    refine J_if_gt 58 dX3_reasonFor_46 (by decide) h2 (fun c7 h8 => ?_) (fun c7 h8 => ?_)
    · clear h2
      refine J_iconst (4 : Int32) dX3_reasonFor_58 (by decide) ?_
      have hw := Option.some.inj h8; subst hw
      exact J_iret rfl dX3_reasonFor_59
    · clear h2
      refine J_iload 2 dX3_reasonFor_49 rfl ?_
      refine J_if_gt 58 dX3_reasonFor_51 (by decide) h8 (fun c9 h10 => ?_) (fun c9 h10 => ?_)
      · clear h8
        refine J_iconst (4 : Int32) dX3_reasonFor_58 (by decide) ?_
        have hw := Option.some.inj h10; subst hw
        exact J_iret rfl dX3_reasonFor_59
      · clear h8
        refine J_iconst (3 : Int32) dX3_reasonFor_54 (by decide) ?_
        refine J_goto 59 dX3_reasonFor_55 (by decide) ?_
        have hw := Option.some.inj h10; subst hw
        exact J_iret rfl dX3_reasonFor_59
def c_X3_reasonFor_J10 (i0 : Int32) (i1 : Int32) (i3 : Int32) (is0 : Int32) : Option Int32 :=
  if 0 ≤ i0 then
    (c_X3_reasonFor_J22 i1 is0 i3)
  else
    (c_X3_reasonFor_J22 i1 is0 (-i3))
set_option maxRecDepth 100000 in
set_option maxHeartbeats 4000000 in
theorem t_X3_reasonFor_J10 {S : Mem} {i0 : Int32} {i1 : Int32} {i3 : Int32} {is0 : Int32} {w : Int32} (h : c_X3_reasonFor_J10 i0 i1 i3 is0 = some w) : J MX yX3_reasonFor cX3_reasonFor 6 (some .int) 0 0 10 [(0, .int i0), (1, .int i1), (3, .int i3)] [.int is0] S (some (.int w)) S := by
  refine J_istore dX3_reasonFor_10 (by decide) [1, 2, 3, 0] (lv' := [(0, .int i0), (1, .int i1), (3, .int i3), (4, .int is0)]) rfl ?_
  refine J_iload_n 0 dX3_reasonFor_12 rfl rfl ?_
  refine J_if_ge 21 dX3_reasonFor_13 (by decide) h (fun c1 h2 => ?_) (fun c1 h2 => ?_)
  · clear h
    refine J_iload_n 2 dX3_reasonFor_21 rfl rfl ?_
    refine J_lv [1, 3] rfl ?_
    exact t_X3_reasonFor_J22 h2
  · clear h
    refine J_iload_n 2 dX3_reasonFor_16 rfl rfl ?_
    refine J_ineg dX3_reasonFor_17 ?_
    refine J_goto 22 dX3_reasonFor_18 (by decide) ?_
    refine J_lv [1, 3] rfl ?_
    exact t_X3_reasonFor_J22 h2
def c_X3_reasonFor (i0 : Int32) (i1 : Int32) (i2 : Int32) (i3 : Int32) : Option Int32 :=
  if 0 ≤ i0 then
    (c_X3_reasonFor_J10 i0 i1 i3 i2)
  else
    (c_X3_reasonFor_J10 i0 i1 i3 (-i2))
set_option maxRecDepth 100000 in
set_option maxHeartbeats 4000000 in
theorem t_X3_reasonFor {S : Mem} {i0 : Int32} {i1 : Int32} {i2 : Int32} {i3 : Int32} {w : Int32} (h : c_X3_reasonFor i0 i1 i2 i3 = some w) : CT MX yX3_reasonFor cX3_reasonFor 6 (some .int) 0 0 [.int i0, .int i1, .int i2, .int i3] S (some (.int w)) S := by
  refine CT.of (lv := [(0, .int i0), (1, .int i1), (2, .int i2), (3, .int i3)]) (by decide) rfl (Nat.le_of_ble_eq_true rfl) ?_
  refine J_iload_n 0 dX3_reasonFor_0 rfl rfl ?_
  refine J_if_ge 9 dX3_reasonFor_1 (by decide) h (fun c1 h2 => ?_) (fun c1 h2 => ?_)
  · clear h
    refine J_iload_n 2 dX3_reasonFor_9 rfl rfl ?_
    refine J_lv [0, 1, 3] rfl ?_
    exact t_X3_reasonFor_J10 h2
  · clear h
    refine J_iload_n 2 dX3_reasonFor_4 rfl rfl ?_
    refine J_ineg dX3_reasonFor_5 ?_
    refine J_goto 10 dX3_reasonFor_6 (by decide) ?_
    refine J_lv [0, 1, 3] rfl ?_
    exact t_X3_reasonFor_J10 h2
def c_X3_oneStep_J123 (S : Mem) (a0 : Nat) (r1 : Option Nat) (i2 : Int32) (i3 : Int32) (r4 : Option Nat) (i5 : Int32) (i6 : Int32) (i8 : Int32) (i9 : Int32) : Option (Int32 × Mem) :=
  bnd (ob S r1 2) fun a1 =>
  jLet ((mI S a1 0)) fun i3_ =>
  bnd (ob S (mR S a0 1) 8) fun a5 =>
  gd (inB i9 (mLn S a5)) <|
  jLet (mSI S a5 (Int32.toNatClampNeg i9) i3_) fun S9 =>
  bnd (ob S9 (mR S9 a0 1) 8) fun a11 =>
  gd (inB (i9 + (1 : Int32)) (mLn S9 a11)) <|
  jLet (mSI S9 a11 (Int32.toNatClampNeg (i9 + (1 : Int32))) i2) fun S15 =>
  bnd (ob S15 r4 5) fun a17 =>
  jLet (((mI S15 a17 6) - i5)) fun i19_ =>
  bnd (ob S15 (mR S15 a0 1) 8) fun a21 =>
  gd (inB (i9 + (2 : Int32)) (mLn S15 a21)) <|
  jLet (mSI S15 a21 (Int32.toNatClampNeg (i9 + (2 : Int32))) i19_) fun S25 =>
  jLet (((mI S25 a17 5) - i6)) fun i27_ =>
  bnd (ob S25 (mR S25 a0 1) 8) fun a29 =>
  gd (inB (i9 + (3 : Int32)) (mLn S25 a29)) <|
  jLet (mSI S25 a29 (Int32.toNatClampNeg (i9 + (3 : Int32))) i27_) fun S33 =>
  bnd (c_X3_reasonFor i3 i8 ((mI S33 a17 6) - i5) ((mI S33 a17 5) - i6)) fun i35_ =>
  bnd (ob S33 (mR S33 a0 1) 8) fun a37 =>
  gd (inB (i9 + (4 : Int32)) (mLn S33 a37)) <|
  jLet (mSI S33 a37 (Int32.toNatClampNeg (i9 + (4 : Int32))) i35_) fun S41 =>
  bnd (ob S41 (mR S41 a0 1) 8) fun a43 =>
  gd (inB (i9 + (5 : Int32)) (mLn S41 a43)) <|
  jLet (mSI S41 a43 (Int32.toNatClampNeg (i9 + (5 : Int32))) i8) fun S47 =>
  bnd (ob S47 (mR S47 a0 1) 8) fun a49 =>
  gd (inB (i9 + (6 : Int32)) (mLn S47 a49)) <|
  jLet (mSI S47 a49 (Int32.toNatClampNeg (i9 + (6 : Int32))) i3) fun S53 =>
  jLet (((mI S53 a0 2) + (1 : Int32))) fun i55_ =>
  jLet (mSI S53 a0 2 i55_) fun S57 =>
  some (i8, S57)
set_option maxRecDepth 100000 in
set_option maxHeartbeats 4000000 in
theorem t_X3_oneStep_J123 {S : Mem} {a0 : Nat} {r1 : Option Nat} {i2 : Int32} {i3 : Int32} {r4 : Option Nat} {i5 : Int32} {i6 : Int32} {i8 : Int32} {i9 : Int32} {w : (Int32 × Mem)} (ha : mKd S a0 = 4) (h : c_X3_oneStep_J123 S a0 r1 i2 i3 r4 i5 i6 i8 i9 = some w) : J MX yX3_oneStep cX3_oneStep 10 (some .int) 2 82 123 [(0, .ref a0), (1, va_rf r1), (2, .int i2), (3, .int i3), (4, va_rf r4), (5, .int i5), (6, .int i6), (8, .int i8), (9, .int i9)] [] S (some (.int w.1)) w.2 := by
  refine J_aload_n 0 dX3_oneStep_123 rfl rfl ?_
  refine J_get (k := 1) (v := va_rf (mR S a0 1)) dX3_oneStep_124 gF_X3_18 ha rfl ?_
  refine J_iload 8 dX3_oneStep_127 rfl ?_
  refine J_aload_nq 1 dX3_oneStep_129 rfl rfl ?_
  obtain ⟨a1, ea1, ka1, h2⟩ := ob_some h; clear h
  subst ea1
  refine J_lvst (lv' := [(0, .ref a0), (1, .ref a1), (2, .int i2), (3, .int i3), (4, va_rf r4), (5, .int i5), (6, .int i6), (8, .int i8), (9, .int i9)]) (st' := [.ref a1, .int i9, va_rf (mR S a0 1)]) rfl rfl ?_
  refine J_get (k := 0) (v := .int (mI S a1 0)) dX3_oneStep_130 gF_X3_63 ka1 rfl ?_
  obtain ⟨i3_, ei3_, h4⟩ := jLet_some h2; clear h2
  refine J_topI ei3_ ?_
  obtain ⟨a5, ea5, ka5, h6⟩ := ob_some h4; clear h4
  rw [ea5]
  refine J_lvst (lv' := [(0, .ref a0), (1, .ref a1), (2, .int i2), (3, .int i3), (4, va_rf r4), (5, .int i5), (6, .int i6), (8, .int i8), (9, .int i9)]) (st' := [.int i3_, .int i9, .ref a5]) rfl rfl ?_
  obtain ⟨g7, h8⟩ := gd_some h6; clear h6
  refine J_iast dX3_oneStep_133 ka5 g7 ?_
  obtain ⟨S9, eS9, h10⟩ := jLet_some h8; clear h8
  refine J_topS eS9 ?_
  have hS9_a0 : mKd S9 a0 = 4 := by rw [eS9]; exact ha
  have hS9_a1 : mKd S9 a1 = 2 := by rw [eS9]; exact ka1
  have hS9_a5 : mKd S9 a5 = 8 := by rw [eS9]; exact ka5
  refine J_aload_n 0 dX3_oneStep_134 rfl rfl ?_
  refine J_get (k := 1) (v := va_rf (mR S9 a0 1)) dX3_oneStep_135 gF_X3_18 hS9_a0 rfl ?_
  refine J_iload 8 dX3_oneStep_138 rfl ?_
  refine J_iconst (1 : Int32) dX3_oneStep_140 (by decide) ?_
  refine J_iadd dX3_oneStep_141 ?_
  refine J_iload_n 2 dX3_oneStep_142 rfl rfl ?_
  obtain ⟨a11, ea11, ka11, h12⟩ := ob_some h10; clear h10
  rw [ea11]
  refine J_lvst (lv' := [(0, .ref a0), (1, .ref a1), (2, .int i2), (3, .int i3), (4, va_rf r4), (5, .int i5), (6, .int i6), (8, .int i8), (9, .int i9)]) (st' := [.int i2, .int (i9 + (1 : Int32)), .ref a11]) rfl rfl ?_
  obtain ⟨g13, h14⟩ := gd_some h12; clear h12
  refine J_iast dX3_oneStep_143 ka11 g13 ?_
  obtain ⟨S15, eS15, h16⟩ := jLet_some h14; clear h14
  refine J_topS eS15 ?_
  have hS15_a0 : mKd S15 a0 = 4 := by rw [eS15]; exact hS9_a0
  have hS15_a1 : mKd S15 a1 = 2 := by rw [eS15]; exact hS9_a1
  have hS15_a5 : mKd S15 a5 = 8 := by rw [eS15]; exact hS9_a5
  have hS15_a11 : mKd S15 a11 = 8 := by rw [eS15]; exact ka11
  refine J_aload_n 0 dX3_oneStep_144 rfl rfl ?_
  refine J_get (k := 1) (v := va_rf (mR S15 a0 1)) dX3_oneStep_145 gF_X3_18 hS15_a0 rfl ?_
  refine J_iload 8 dX3_oneStep_148 rfl ?_
  refine J_iconst (2 : Int32) dX3_oneStep_150 (by decide) ?_
  refine J_iadd dX3_oneStep_151 ?_
  refine J_aloadq 4 dX3_oneStep_152 rfl ?_
  obtain ⟨a17, ea17, ka17, h18⟩ := ob_some h16; clear h16
  subst ea17
  refine J_lvst (lv' := [(0, .ref a0), (1, .ref a1), (2, .int i2), (3, .int i3), (4, .ref a17), (5, .int i5), (6, .int i6), (8, .int i8), (9, .int i9)]) (st' := [.ref a17, .int (i9 + (2 : Int32)), va_rf (mR S15 a0 1)]) rfl rfl ?_
  refine J_get (k := 6) (v := .int (mI S15 a17 6)) dX3_oneStep_154 gF_X3_76 ka17 rfl ?_
  refine J_iload 5 dX3_oneStep_157 rfl ?_
  refine J_isub dX3_oneStep_159 ?_
  obtain ⟨i19_, ei19_, h20⟩ := jLet_some h18; clear h18
  refine J_topI ei19_ ?_
  obtain ⟨a21, ea21, ka21, h22⟩ := ob_some h20; clear h20
  rw [ea21]
  refine J_lvst (lv' := [(0, .ref a0), (1, .ref a1), (2, .int i2), (3, .int i3), (4, .ref a17), (5, .int i5), (6, .int i6), (8, .int i8), (9, .int i9)]) (st' := [.int i19_, .int (i9 + (2 : Int32)), .ref a21]) rfl rfl ?_
  obtain ⟨g23, h24⟩ := gd_some h22; clear h22
  refine J_iast dX3_oneStep_160 ka21 g23 ?_
  obtain ⟨S25, eS25, h26⟩ := jLet_some h24; clear h24
  refine J_topS eS25 ?_
  have hS25_a0 : mKd S25 a0 = 4 := by rw [eS25]; exact hS15_a0
  have hS25_a1 : mKd S25 a1 = 2 := by rw [eS25]; exact hS15_a1
  have hS25_a5 : mKd S25 a5 = 8 := by rw [eS25]; exact hS15_a5
  have hS25_a11 : mKd S25 a11 = 8 := by rw [eS25]; exact hS15_a11
  have hS25_a17 : mKd S25 a17 = 5 := by rw [eS25]; exact ka17
  have hS25_a21 : mKd S25 a21 = 8 := by rw [eS25]; exact ka21
  refine J_aload_n 0 dX3_oneStep_161 rfl rfl ?_
  refine J_get (k := 1) (v := va_rf (mR S25 a0 1)) dX3_oneStep_162 gF_X3_18 hS25_a0 rfl ?_
  refine J_iload 8 dX3_oneStep_165 rfl ?_
  refine J_iconst (3 : Int32) dX3_oneStep_167 (by decide) ?_
  refine J_iadd dX3_oneStep_168 ?_
  refine J_aload 4 dX3_oneStep_169 rfl ?_
  refine J_get (k := 5) (v := .int (mI S25 a17 5)) dX3_oneStep_171 gF_X3_81 hS25_a17 rfl ?_
  refine J_iload 6 dX3_oneStep_174 rfl ?_
  refine J_isub dX3_oneStep_176 ?_
  obtain ⟨i27_, ei27_, h28⟩ := jLet_some h26; clear h26
  refine J_topI ei27_ ?_
  obtain ⟨a29, ea29, ka29, h30⟩ := ob_some h28; clear h28
  rw [ea29]
  refine J_lvst (lv' := [(0, .ref a0), (1, .ref a1), (2, .int i2), (3, .int i3), (4, .ref a17), (5, .int i5), (6, .int i6), (8, .int i8), (9, .int i9)]) (st' := [.int i27_, .int (i9 + (3 : Int32)), .ref a29]) rfl rfl ?_
  obtain ⟨g31, h32⟩ := gd_some h30; clear h30
  refine J_iast dX3_oneStep_177 ka29 g31 ?_
  obtain ⟨S33, eS33, h34⟩ := jLet_some h32; clear h32
  refine J_topS eS33 ?_
  have hS33_a0 : mKd S33 a0 = 4 := by rw [eS33]; exact hS25_a0
  have hS33_a1 : mKd S33 a1 = 2 := by rw [eS33]; exact hS25_a1
  have hS33_a5 : mKd S33 a5 = 8 := by rw [eS33]; exact hS25_a5
  have hS33_a11 : mKd S33 a11 = 8 := by rw [eS33]; exact hS25_a11
  have hS33_a17 : mKd S33 a17 = 5 := by rw [eS33]; exact hS25_a17
  have hS33_a21 : mKd S33 a21 = 8 := by rw [eS33]; exact hS25_a21
  have hS33_a29 : mKd S33 a29 = 8 := by rw [eS33]; exact ka29
  refine J_aload_n 0 dX3_oneStep_178 rfl rfl ?_
  refine J_get (k := 1) (v := va_rf (mR S33 a0 1)) dX3_oneStep_179 gF_X3_18 hS33_a0 rfl ?_
  refine J_iload 8 dX3_oneStep_182 rfl ?_
  refine J_iconst (4 : Int32) dX3_oneStep_184 (by decide) ?_
  refine J_iadd dX3_oneStep_185 ?_
  refine J_iload_n 3 dX3_oneStep_186 rfl rfl ?_
  refine J_iload 7 dX3_oneStep_187 rfl ?_
  refine J_aload 4 dX3_oneStep_189 rfl ?_
  refine J_get (k := 6) (v := .int (mI S33 a17 6)) dX3_oneStep_191 gF_X3_76 hS33_a17 rfl ?_
  refine J_iload 5 dX3_oneStep_194 rfl ?_
  refine J_isub dX3_oneStep_196 ?_
  refine J_aload 4 dX3_oneStep_197 rfl ?_
  refine J_get (k := 5) (v := .int (mI S33 a17 5)) dX3_oneStep_199 gF_X3_81 hS33_a17 rfl ?_
  refine J_iload 6 dX3_oneStep_202 rfl ?_
  refine J_isub dX3_oneStep_204 ?_
  obtain ⟨i35_, ei35_, h36⟩ := bnd_some h34; clear h34
  refine J_callS (As := [.int i3, .int i8, .int ((mI S33 a17 6) - i5), .int ((mI S33 a17 5) - i6)]) (rest := [.int (i9 + (4 : Int32)), va_rf (mR S33 a0 1)]) (st' := [.int i35_, .int (i9 + (4 : Int32)), va_rf (mR S33 a0 1)]) (t_X3_reasonFor ei35_) gC_X3_reasonFor gM_X3_107 rfl (by decide) (by decide) rfl rfl (by simp only [List.map_cons, List.map_nil, List.sum_cons, List.sum_nil, va_rf_cat]; exact Nat.le_of_ble_eq_true rfl) dX3_oneStep_205 ?_
  obtain ⟨a37, ea37, ka37, h38⟩ := ob_some h36; clear h36
  rw [ea37]
  refine J_lvst (lv' := [(0, .ref a0), (1, .ref a1), (2, .int i2), (3, .int i3), (4, .ref a17), (5, .int i5), (6, .int i6), (8, .int i8), (9, .int i9)]) (st' := [.int i35_, .int (i9 + (4 : Int32)), .ref a37]) rfl rfl ?_
  obtain ⟨g39, h40⟩ := gd_some h38; clear h38
  refine J_iast dX3_oneStep_208 ka37 g39 ?_
  obtain ⟨S41, eS41, h42⟩ := jLet_some h40; clear h40
  refine J_topS eS41 ?_
  have hS41_a0 : mKd S41 a0 = 4 := by rw [eS41]; exact hS33_a0
  have hS41_a1 : mKd S41 a1 = 2 := by rw [eS41]; exact hS33_a1
  have hS41_a5 : mKd S41 a5 = 8 := by rw [eS41]; exact hS33_a5
  have hS41_a11 : mKd S41 a11 = 8 := by rw [eS41]; exact hS33_a11
  have hS41_a17 : mKd S41 a17 = 5 := by rw [eS41]; exact hS33_a17
  have hS41_a21 : mKd S41 a21 = 8 := by rw [eS41]; exact hS33_a21
  have hS41_a29 : mKd S41 a29 = 8 := by rw [eS41]; exact hS33_a29
  have hS41_a37 : mKd S41 a37 = 8 := by rw [eS41]; exact ka37
  refine J_aload_n 0 dX3_oneStep_209 rfl rfl ?_
  refine J_get (k := 1) (v := va_rf (mR S41 a0 1)) dX3_oneStep_210 gF_X3_18 hS41_a0 rfl ?_
  refine J_iload 8 dX3_oneStep_213 rfl ?_
  refine J_iconst (5 : Int32) dX3_oneStep_215 (by decide) ?_
  refine J_iadd dX3_oneStep_216 ?_
  refine J_iload 7 dX3_oneStep_217 rfl ?_
  obtain ⟨a43, ea43, ka43, h44⟩ := ob_some h42; clear h42
  rw [ea43]
  refine J_lvst (lv' := [(0, .ref a0), (1, .ref a1), (2, .int i2), (3, .int i3), (4, .ref a17), (5, .int i5), (6, .int i6), (8, .int i8), (9, .int i9)]) (st' := [.int i8, .int (i9 + (5 : Int32)), .ref a43]) rfl rfl ?_
  obtain ⟨g45, h46⟩ := gd_some h44; clear h44
  refine J_iast dX3_oneStep_219 ka43 g45 ?_
  obtain ⟨S47, eS47, h48⟩ := jLet_some h46; clear h46
  refine J_topS eS47 ?_
  have hS47_a0 : mKd S47 a0 = 4 := by rw [eS47]; exact hS41_a0
  have hS47_a1 : mKd S47 a1 = 2 := by rw [eS47]; exact hS41_a1
  have hS47_a5 : mKd S47 a5 = 8 := by rw [eS47]; exact hS41_a5
  have hS47_a11 : mKd S47 a11 = 8 := by rw [eS47]; exact hS41_a11
  have hS47_a17 : mKd S47 a17 = 5 := by rw [eS47]; exact hS41_a17
  have hS47_a21 : mKd S47 a21 = 8 := by rw [eS47]; exact hS41_a21
  have hS47_a29 : mKd S47 a29 = 8 := by rw [eS47]; exact hS41_a29
  have hS47_a37 : mKd S47 a37 = 8 := by rw [eS47]; exact hS41_a37
  have hS47_a43 : mKd S47 a43 = 8 := by rw [eS47]; exact ka43
  refine J_aload_n 0 dX3_oneStep_220 rfl rfl ?_
  refine J_get (k := 1) (v := va_rf (mR S47 a0 1)) dX3_oneStep_221 gF_X3_18 hS47_a0 rfl ?_
  refine J_iload 8 dX3_oneStep_224 rfl ?_
  refine J_bipush (6 : Int32) dX3_oneStep_226 (by decide) ?_
  refine J_iadd dX3_oneStep_228 ?_
  refine J_iload_n 3 dX3_oneStep_229 rfl rfl ?_
  obtain ⟨a49, ea49, ka49, h50⟩ := ob_some h48; clear h48
  rw [ea49]
  refine J_lvst (lv' := [(0, .ref a0), (1, .ref a1), (2, .int i2), (3, .int i3), (4, .ref a17), (5, .int i5), (6, .int i6), (8, .int i8), (9, .int i9)]) (st' := [.int i3, .int (i9 + (6 : Int32)), .ref a49]) rfl rfl ?_
  obtain ⟨g51, h52⟩ := gd_some h50; clear h50
  refine J_iast dX3_oneStep_230 ka49 g51 ?_
  obtain ⟨S53, eS53, h54⟩ := jLet_some h52; clear h52
  refine J_topS eS53 ?_
  have hS53_a0 : mKd S53 a0 = 4 := by rw [eS53]; exact hS47_a0
  have hS53_a1 : mKd S53 a1 = 2 := by rw [eS53]; exact hS47_a1
  have hS53_a5 : mKd S53 a5 = 8 := by rw [eS53]; exact hS47_a5
  have hS53_a11 : mKd S53 a11 = 8 := by rw [eS53]; exact hS47_a11
  have hS53_a17 : mKd S53 a17 = 5 := by rw [eS53]; exact hS47_a17
  have hS53_a21 : mKd S53 a21 = 8 := by rw [eS53]; exact hS47_a21
  have hS53_a29 : mKd S53 a29 = 8 := by rw [eS53]; exact hS47_a29
  have hS53_a37 : mKd S53 a37 = 8 := by rw [eS53]; exact hS47_a37
  have hS53_a43 : mKd S53 a43 = 8 := by rw [eS53]; exact hS47_a43
  have hS53_a49 : mKd S53 a49 = 8 := by rw [eS53]; exact ka49
  refine J_aload_n 0 dX3_oneStep_231 rfl rfl ?_
  refine J_dup dX3_oneStep_232 rfl ?_
  refine J_get (k := 2) (v := .int (mI S53 a0 2)) dX3_oneStep_233 gF_X3_36 hS53_a0 rfl ?_
  refine J_iconst (1 : Int32) dX3_oneStep_236 (by decide) ?_
  refine J_iadd dX3_oneStep_237 ?_
  obtain ⟨i55_, ei55_, h56⟩ := jLet_some h54; clear h54
  refine J_topI ei55_ ?_
  refine J_putI (k := 2) dX3_oneStep_238 gW_X3_36 hS53_a0 rfl ?_
  obtain ⟨S57, eS57, h58⟩ := jLet_some h56; clear h56
  refine J_topS eS57 ?_
  have hS57_a0 : mKd S57 a0 = 4 := by rw [eS57]; exact hS53_a0
  have hS57_a1 : mKd S57 a1 = 2 := by rw [eS57]; exact hS53_a1
  have hS57_a5 : mKd S57 a5 = 8 := by rw [eS57]; exact hS53_a5
  have hS57_a11 : mKd S57 a11 = 8 := by rw [eS57]; exact hS53_a11
  have hS57_a17 : mKd S57 a17 = 5 := by rw [eS57]; exact hS53_a17
  have hS57_a21 : mKd S57 a21 = 8 := by rw [eS57]; exact hS53_a21
  have hS57_a29 : mKd S57 a29 = 8 := by rw [eS57]; exact hS53_a29
  have hS57_a37 : mKd S57 a37 = 8 := by rw [eS57]; exact hS53_a37
  have hS57_a43 : mKd S57 a43 = 8 := by rw [eS57]; exact hS53_a43
  have hS57_a49 : mKd S57 a49 = 8 := by rw [eS57]; exact hS53_a49
  refine J_iload 7 dX3_oneStep_241 rfl ?_
  have hw := Option.some.inj h58; subst hw
  exact J_iret rfl dX3_oneStep_243
def c_X3_oneStep_J66 (S : Mem) (a0 : Nat) (r1 : Option Nat) (i2 : Int32) (i3 : Int32) (r4 : Option Nat) (i5 : Int32) (i6 : Int32) (i7 : Int32) (is0 : Int32) : Option (Int32 × Mem) :=
  bnd (ob S r1 2) fun a1 =>
  bnd (ob S r4 5) fun a3 =>
  bnd (c_X4_write S a3 (i7 - (is0 * (mI S a1 2)))) fun S5 =>
  jLet (((7 : Int32) * (mI S5 a0 2))) fun i7_ =>
  bnd (ob S5 (mR S5 a0 1) 8) fun a9 =>
  if (i7_ + (7 : Int32)) ≤ (nI (mLn S5 a9)) then
    (c_X3_oneStep_J123 S5 a0 (some a1) i2 i3 (some a3) i5 i6 is0 i7_)
  else
    (bnd (ob S5 (mR S5 a0 1) 8) fun a13 =>
    jLet (((2 : Int32) * (nI (mLn S5 a13)))) fun i15_ =>
    gd (copyOK S5 a13 i15_) <|
    jLet (mNx S5) fun a20 =>
    jLet (mCopy S5 a13 (Int32.toNatClampNeg i15_)) fun S19 =>
    jLet (mSR S19 a0 1 (some a20)) fun S23 =>
    c_X3_oneStep_J123 S23 a0 (some a1) i2 i3 (some a3) i5 i6 is0 i7_)
set_option maxRecDepth 100000 in
set_option maxHeartbeats 4000000 in
theorem t_X3_oneStep_J66 {S : Mem} {a0 : Nat} {r1 : Option Nat} {i2 : Int32} {i3 : Int32} {r4 : Option Nat} {i5 : Int32} {i6 : Int32} {i7 : Int32} {is0 : Int32} {w : (Int32 × Mem)} (ha : mKd S a0 = 4) (h : c_X3_oneStep_J66 S a0 r1 i2 i3 r4 i5 i6 i7 is0 = some w) : J MX yX3_oneStep cX3_oneStep 10 (some .int) 2 82 66 [(0, .ref a0), (1, va_rf r1), (2, .int i2), (3, .int i3), (4, va_rf r4), (5, .int i5), (6, .int i6), (7, .int i7)] [.int is0] S (some (.int w.1)) w.2 := by
  refine J_istore dX3_oneStep_66 (by decide) [1, 2, 3, 4, 5, 6, 7, 8, 0] (lv' := [(0, .ref a0), (1, va_rf r1), (2, .int i2), (3, .int i3), (4, va_rf r4), (5, .int i5), (6, .int i6), (7, .int i7), (8, .int is0)]) rfl ?_
  refine J_aloadq 4 dX3_oneStep_68 rfl ?_
  refine J_iload 7 dX3_oneStep_70 rfl ?_
  refine J_iload 8 dX3_oneStep_72 rfl ?_
  refine J_aload_nq 1 dX3_oneStep_74 rfl rfl ?_
  obtain ⟨a1, ea1, ka1, h2⟩ := ob_some h; clear h
  subst ea1
  refine J_lvst (lv' := [(0, .ref a0), (1, .ref a1), (2, .int i2), (3, .int i3), (4, va_rf r4), (5, .int i5), (6, .int i6), (7, .int i7), (8, .int is0)]) (st' := [.ref a1, .int is0, .int i7, va_rf r4]) rfl rfl ?_
  refine J_get (k := 2) (v := .int (mI S a1 2)) dX3_oneStep_75 gF_X3_95 ka1 rfl ?_
  refine J_imul dX3_oneStep_78 ?_
  refine J_isub dX3_oneStep_79 ?_
  obtain ⟨a3, ea3, ka3, h4⟩ := ob_some h2; clear h2
  subst ea3
  refine J_lvst (lv' := [(0, .ref a0), (1, .ref a1), (2, .int i2), (3, .int i3), (4, .ref a3), (5, .int i5), (6, .int i6), (7, .int i7), (8, .int is0)]) (st' := [.int (i7 - (is0 * (mI S a1 2))), .ref a3]) rfl rfl ?_
  obtain ⟨S5, eS5, h6⟩ := bnd_some h4; clear h4
  have cS5 := (t_X4_write ka3 eS5)
  have lS5 : jle MX S S5 := cS5.1
  have hS5_a0 : mKd S5 a0 = 4 := kd_le lS5 ha
  have hS5_a1 : mKd S5 a1 = 2 := kd_le lS5 ka1
  have hS5_a3 : mKd S5 a3 = 5 := kd_le lS5 ka3
  refine J_callV (As := [.int (i7 - (is0 * (mI S a1 2)))]) (rest := []) (st' := []) cS5 gC_X4_write gM_X3_98 (mRecv ka3 (by decide) jCl4) rfl (by decide) (by decide) rfl rfl (Nat.le_of_ble_eq_true rfl) dX3_oneStep_80 ?_
  refine J_bipush (7 : Int32) dX3_oneStep_83 (by decide) ?_
  refine J_aload_n 0 dX3_oneStep_85 rfl rfl ?_
  refine J_get (k := 2) (v := .int (mI S5 a0 2)) dX3_oneStep_86 gF_X3_36 hS5_a0 rfl ?_
  refine J_imul dX3_oneStep_89 ?_
  obtain ⟨i7_, ei7_, h8⟩ := jLet_some h6; clear h6
  refine J_topI ei7_ ?_
  refine J_istore dX3_oneStep_90 (by decide) [1, 2, 3, 4, 5, 6, 7, 9, 0] (lv' := [(0, .ref a0), (1, .ref a1), (2, .int i2), (3, .int i3), (4, .ref a3), (5, .int i5), (6, .int i6), (8, .int is0), (9, .int i7_)]) rfl ?_
  refine J_iload 8 dX3_oneStep_92 rfl ?_
  refine J_bipush (7 : Int32) dX3_oneStep_94 (by decide) ?_
  refine J_iadd dX3_oneStep_96 ?_
  refine J_aload_n 0 dX3_oneStep_97 rfl rfl ?_
  refine J_get (k := 1) (v := va_rf (mR S5 a0 1)) dX3_oneStep_98 gF_X3_18 hS5_a0 rfl ?_
  obtain ⟨a9, ea9, ka9, h10⟩ := ob_some h8; clear h8
  rw [ea9]
  refine J_lvst (lv' := [(0, .ref a0), (1, .ref a1), (2, .int i2), (3, .int i3), (4, .ref a3), (5, .int i5), (6, .int i6), (8, .int is0), (9, .int i7_)]) (st' := [.ref a9, .int (i7_ + (7 : Int32))]) rfl rfl ?_
  refine J_alen (z := 0) dX3_oneStep_101 (fun _ => rfl) ka9 ?_
  refine J_icmp_le 123 dX3_oneStep_102 (by decide) h10 (fun c11 h12 => ?_) (fun c11 h12 => ?_)
  · clear h10
    exact t_X3_oneStep_J123 hS5_a0 h12
  · clear h10
    refine J_aload_n 0 dX3_oneStep_105 rfl rfl ?_
    refine J_aload_n 0 dX3_oneStep_106 rfl rfl ?_
    refine J_get (k := 1) (v := va_rf (mR S5 a0 1)) dX3_oneStep_107 gF_X3_18 hS5_a0 rfl ?_
    refine J_iconst (2 : Int32) dX3_oneStep_110 (by decide) ?_
    refine J_aload_n 0 dX3_oneStep_111 rfl rfl ?_
    refine J_get (k := 1) (v := va_rf (mR S5 a0 1)) dX3_oneStep_112 gF_X3_18 hS5_a0 rfl ?_
    obtain ⟨a13, ea13, ka13, h14⟩ := ob_some h12; clear h12
    rw [ea13]
    refine J_lvst (lv' := [(0, .ref a0), (1, .ref a1), (2, .int i2), (3, .int i3), (4, .ref a3), (5, .int i5), (6, .int i6), (8, .int is0), (9, .int i7_)]) (st' := [.ref a13, .int (2 : Int32), .ref a13, .ref a0]) rfl rfl ?_
    refine J_alen (z := 0) dX3_oneStep_115 (fun _ => rfl) ka13 ?_
    refine J_imul dX3_oneStep_116 ?_
    obtain ⟨i15_, ei15_, h16⟩ := jLet_some h14; clear h14
    refine J_topI ei15_ ?_
    obtain ⟨g17, h18⟩ := gd_some h16; clear h16
    refine J_callS (v := some (.ref (mNx S5))) (As := [.ref a13, .int i15_]) (rest := [.ref a0]) (t_copyOf ka13 g17) gC_J7_copyOf_59c91 gM_X3_101 rfl (by decide) (by decide) rfl rfl (Nat.le_of_ble_eq_true rfl) dX3_oneStep_117 ?_
    obtain ⟨a20, ea20, h21⟩ := jLet_some h18; clear h18
    obtain ⟨S19, eS19, h22⟩ := jLet_some h21; clear h21
    rw [← ea20]
    refine J_topS eS19 ?_
    have lS19 : jle MX S5 S19 := by rw [eS19]; exact mCopy_le _ _ _
    have hS19_a0 : mKd S19 a0 = 4 := kd_le lS19 hS5_a0
    have hS19_a1 : mKd S19 a1 = 2 := kd_le lS19 hS5_a1
    have hS19_a3 : mKd S19 a3 = 5 := kd_le lS19 hS5_a3
    have hS19_a9 : mKd S19 a9 = 8 := kd_le lS19 ka9
    have hS19_a13 : mKd S19 a13 = 8 := kd_le lS19 ka13
    have hS19_new : mKd S19 a20 = 8 := by rw [eS19, mKd_copy, if_pos ea20]
    refine J_putA (k := 1) (x := (some a20)) dX3_oneStep_120 gW_X3_18 hS19_a0 rfl ?_
    obtain ⟨S23, eS23, h24⟩ := jLet_some h22; clear h22
    refine J_topS eS23 ?_
    have hS23_a0 : mKd S23 a0 = 4 := by rw [eS23]; exact hS19_a0
    have hS23_a1 : mKd S23 a1 = 2 := by rw [eS23]; exact hS19_a1
    have hS23_a3 : mKd S23 a3 = 5 := by rw [eS23]; exact hS19_a3
    have hS23_a9 : mKd S23 a9 = 8 := by rw [eS23]; exact hS19_a9
    have hS23_a13 : mKd S23 a13 = 8 := by rw [eS23]; exact hS19_a13
    have hS23_a20 : mKd S23 a20 = 8 := by rw [eS23]; exact hS19_new
    exact t_X3_oneStep_J123 hS23_a0 h24
def c_X3_oneStep (S : Mem) (a0 : Nat) (r1 : Option Nat) (i2 : Int32) (i3 : Int32) : Option (Int32 × Mem) :=
  bnd2 (c_X3_canRead S a0 r1 i2) fun i1_ S2 =>
  if i1_ = 0 then
    (some ((99 : Int32), S2))
  else
    (bnd (ob S2 r1 2) fun a6 =>
    bnd (ob S2 (mR S2 a6 5) 12) fun a8 =>
    gd (inB i2 (mLn S2 a8)) <|
    bnd (ob S2 (mR S2 a8 (Int32.toNatClampNeg i2)) 5) fun a12 =>
    jLet ((mI S2 a12 6)) fun i14_ =>
    jLet ((mI S2 a12 5)) fun i16_ =>
    bnd (c_X4_value S2 a12) fun i18_ =>
    jLet ((i18_ + i3)) fun i20_ =>
    if i20_ < (mI S2 a6 2) then
      (if 0 ≤ i20_ then
        (c_X3_oneStep_J66 S2 a0 (some a6) i2 i3 (some a12) i14_ i16_ i20_ (0 : Int32))
      else
        (c_X3_oneStep_J66 S2 a0 (some a6) i2 i3 (some a12) i14_ i16_ i20_ (-1 : Int32)))
    else
      (c_X3_oneStep_J66 S2 a0 (some a6) i2 i3 (some a12) i14_ i16_ i20_ (1 : Int32)))
set_option maxRecDepth 100000 in
set_option maxHeartbeats 4000000 in
theorem t_X3_oneStep {S : Mem} {a0 : Nat} {r1 : Option Nat} {i2 : Int32} {i3 : Int32} {w : (Int32 × Mem)} (ha : mKd S a0 = 4) (h : c_X3_oneStep S a0 r1 i2 i3 = some w) : CT MX yX3_oneStep cX3_oneStep 10 (some .int) 2 82 [.ref a0, va_rf r1, .int i2, .int i3] S (some (.int w.1)) w.2 := by
  refine CT.of (lv := [(0, .ref a0), (1, va_rf r1), (2, .int i2), (3, .int i3)]) (by decide) (by cases r1 <;> exact rfl) (by cases r1 <;> exact Nat.le_of_ble_eq_true rfl) ?_
  refine J_aload_n 0 dX3_oneStep_0 rfl rfl ?_
  refine J_aload_nq 1 dX3_oneStep_1 rfl rfl ?_
  refine J_iload_n 2 dX3_oneStep_2 rfl rfl ?_
  obtain ⟨i1_, S2, ei1_, h3⟩ := bnd2_some h; clear h
  have cS2 := (t_X3_canRead ha ei1_)
  have lS2 : jle MX S S2 := cS2.1
  have hS2_a0 : mKd S2 a0 = 4 := kd_le lS2 ha
  refine J_callV (As := [va_rf r1, .int i2]) (rest := []) (st' := [.int i1_]) cS2 gC_X3_canRead gM_X3_88 (mRecv ha (by decide) jCl3) rfl (by decide) (by decide) rfl rfl (Nat.le_of_ble_eq_true rfl) dX3_oneStep_3 ?_
  refine J_if_ne 12 dX3_oneStep_6 (by decide) h3 (fun c4 h5 => ?_) (fun c4 h5 => ?_)
  · clear h3
    refine J_bipush (99 : Int32) dX3_oneStep_9 (by decide) ?_
    have hw := Option.some.inj h5; subst hw
    exact J_iret rfl dX3_oneStep_11
  · clear h3
    refine J_aload_nq 1 dX3_oneStep_12 rfl rfl ?_
    obtain ⟨a6, ea6, ka6, h7⟩ := ob_some h5; clear h5
    subst ea6
    refine J_lvst (lv' := [(0, .ref a0), (1, .ref a6), (2, .int i2), (3, .int i3)]) (st' := [.ref a6]) rfl rfl ?_
    refine J_get (k := 5) (v := va_rf (mR S2 a6 5)) dX3_oneStep_13 gF_X3_72 ka6 rfl ?_
    refine J_iload_n 2 dX3_oneStep_16 rfl rfl ?_
    obtain ⟨a8, ea8, ka8, h9⟩ := ob_some h7; clear h7
    rw [ea8]
    refine J_lvst (lv' := [(0, .ref a0), (1, .ref a6), (2, .int i2), (3, .int i3)]) (st' := [.int i2, .ref a8]) rfl rfl ?_
    obtain ⟨g10, h11⟩ := gd_some h9; clear h9
    refine J_aald (z := 4) (C := RX4) dX3_oneStep_17 (fun _ => rfl) (fun _ _ => rfl) ka8 g10 ?_
    refine J_astoreq dX3_oneStep_18 (by decide) [1, 2, 3, 4, 0] (lv' := [(0, .ref a0), (1, .ref a6), (2, .int i2), (3, .int i3), (4, va_rf (mR S2 a8 (Int32.toNatClampNeg i2)))]) rfl ?_
    refine J_aloadq 4 dX3_oneStep_20 rfl ?_
    obtain ⟨a12, ea12, ka12, h13⟩ := ob_some h11; clear h11
    rw [ea12]
    refine J_lvst (lv' := [(0, .ref a0), (1, .ref a6), (2, .int i2), (3, .int i3), (4, .ref a12)]) (st' := [.ref a12]) rfl rfl ?_
    refine J_get (k := 6) (v := .int (mI S2 a12 6)) dX3_oneStep_22 gF_X3_76 ka12 rfl ?_
    obtain ⟨i14_, ei14_, h15⟩ := jLet_some h13; clear h13
    refine J_topI ei14_ ?_
    refine J_istore dX3_oneStep_25 (by decide) [1, 2, 3, 4, 5, 0] (lv' := [(0, .ref a0), (1, .ref a6), (2, .int i2), (3, .int i3), (4, .ref a12), (5, .int i14_)]) rfl ?_
    refine J_aload 4 dX3_oneStep_27 rfl ?_
    refine J_get (k := 5) (v := .int (mI S2 a12 5)) dX3_oneStep_29 gF_X3_81 ka12 rfl ?_
    obtain ⟨i16_, ei16_, h17⟩ := jLet_some h15; clear h15
    refine J_topI ei16_ ?_
    refine J_istore dX3_oneStep_32 (by decide) [1, 2, 3, 4, 5, 6, 0] (lv' := [(0, .ref a0), (1, .ref a6), (2, .int i2), (3, .int i3), (4, .ref a12), (5, .int i14_), (6, .int i16_)]) rfl ?_
    refine J_aload 4 dX3_oneStep_34 rfl ?_
    obtain ⟨i18_, ei18_, h19⟩ := bnd_some h17; clear h17
    refine J_callV (As := []) (rest := []) (st' := [.int i18_]) (t_X4_value ka12 ei18_) gC_X4_value gM_X3_92 (mRecv ka12 (by decide) jCl4) rfl (by decide) (by decide) rfl rfl (Nat.le_of_ble_eq_true rfl) dX3_oneStep_36 ?_
    refine J_iload_n 3 dX3_oneStep_39 rfl rfl ?_
    refine J_iadd dX3_oneStep_40 ?_
    obtain ⟨i20_, ei20_, h21⟩ := jLet_some h19; clear h19
    refine J_topI ei20_ ?_
    refine J_istore dX3_oneStep_41 (by decide) [1, 2, 3, 4, 5, 6, 7, 0] (lv' := [(0, .ref a0), (1, .ref a6), (2, .int i2), (3, .int i3), (4, .ref a12), (5, .int i14_), (6, .int i16_), (7, .int i20_)]) rfl ?_
    refine J_iload 7 dX3_oneStep_43 rfl ?_
    refine J_aload_n 1 dX3_oneStep_45 rfl rfl ?_
    refine J_get (k := 2) (v := .int (mI S2 a6 2)) dX3_oneStep_46 gF_X3_95 ka6 rfl ?_
    refine J_icmp_lt 56 dX3_oneStep_49 (by decide) h21 (fun c22 h23 => ?_) (fun c22 h23 => ?_)
    · clear h21
      refine J_iload 7 dX3_oneStep_56 rfl ?_
      refine J_if_ge 65 dX3_oneStep_58 (by decide) h23 (fun c24 h25 => ?_) (fun c24 h25 => ?_)
      · clear h23
        refine J_iconst (0 : Int32) dX3_oneStep_65 (by decide) ?_
        exact t_X3_oneStep_J66 hS2_a0 h25
      · clear h23
        refine J_iconst (-1 : Int32) dX3_oneStep_61 (by decide) ?_
        refine J_goto 66 dX3_oneStep_62 (by decide) ?_
        exact t_X3_oneStep_J66 hS2_a0 h25
    · clear h21
      refine J_iconst (1 : Int32) dX3_oneStep_52 (by decide) ?_
      refine J_goto 66 dX3_oneStep_53 (by decide) ?_
      exact t_X3_oneStep_J66 hS2_a0 h23
def c_X3_put_L6 : Nat → Mem → Nat → Option Nat → Int32 → Int32 → Int32 → Option (Int32 × Mem)
  | 0, _, _, _, _, _, _ => none
  | n + 1, S, a0, r1, i2, i4, i5 =>
    if (64 : Int32) ≤ i5 then
      (some ((1 : Int32), S))
    else
      (if i4 = 0 then
        (some ((1 : Int32), S))
      else
        (bnd2 (c_X3_oneStep S a0 r1 (i2 + i5) i4) fun i5_ S6 =>
        if i5_ = (99 : Int32) then
          (some ((0 : Int32), S6))
        else
          (c_X3_put_L6 n S6 a0 r1 i2 i5_ (i5 + (1 : Int32)))))
set_option maxRecDepth 100000 in
set_option maxHeartbeats 4000000 in
theorem t_X3_put_L6 {w : (Int32 × Mem)} (n : Nat) : ∀ (S : Mem) (a0 : Nat) (r1 : Option Nat) (i2 : Int32) (i4 : Int32) (i5 : Int32), (mKd S a0 = 4) → c_X3_put_L6 n S a0 r1 i2 i4 i5 = some w → J MX yX3_put cX3_put 6 (some .boolean) 3 111 6 [(0, .ref a0), (1, va_rf r1), (2, .int i2), (4, .int i4), (5, .int i5)] [] S (some (.int w.1)) w.2 := by
  induction n with
  | zero => intro S a0 r1 i2 i4 i5 ha h; cases h
  | succ n lh =>
    intro S a0 r1 i2 i4 i5 ha h
    refine J_iload 4 dX3_put_6 rfl ?_
    refine J_bipush (64 : Int32) dX3_put_8 (by decide) ?_
    refine J_icmp_ge 46 dX3_put_10 (by decide) h (fun c1 h2 => ?_) (fun c1 h2 => ?_)
    · clear h
      refine J_iconst (1 : Int32) dX3_put_46 (by decide) ?_
      have hw := Option.some.inj h2; subst hw
      exact J_zret rfl (by decide) dX3_put_47
    · clear h
      refine J_iload 3 dX3_put_13 rfl ?_
      refine J_if_eq 46 dX3_put_15 (by decide) h2 (fun c3 h4 => ?_) (fun c3 h4 => ?_)
      · clear h2
        refine J_iconst (1 : Int32) dX3_put_46 (by decide) ?_
        have hw := Option.some.inj h4; subst hw
        exact J_zret rfl (by decide) dX3_put_47
      · clear h2
        refine J_aload_n 0 dX3_put_18 rfl rfl ?_
        refine J_aload_nq 1 dX3_put_19 rfl rfl ?_
        refine J_iload_n 2 dX3_put_20 rfl rfl ?_
        refine J_iload 4 dX3_put_21 rfl ?_
        refine J_iadd dX3_put_23 ?_
        refine J_iload 3 dX3_put_24 rfl ?_
        obtain ⟨i5_, S6, ei5_, h7⟩ := bnd2_some h4; clear h4
        have cS6 := (t_X3_oneStep ha ei5_)
        have lS6 : jle MX S S6 := cS6.1
        have hS6_a0 : mKd S6 a0 = 4 := kd_le lS6 ha
        refine J_callV (As := [va_rf r1, .int (i2 + i5), .int i4]) (rest := []) (st' := [.int i5_]) cS6 gC_X3_oneStep gM_X3_111 (mRecv ha (by decide) jCl3) rfl (by decide) (by decide) rfl rfl (Nat.le_of_ble_eq_true rfl) dX3_put_26 ?_
        refine J_istore dX3_put_29 (by decide) [1, 2, 3, 0, 4] (lv' := [(0, .ref a0), (1, va_rf r1), (2, .int i2), (4, .int i5_), (5, .int i5)]) rfl ?_
        refine J_iload 3 dX3_put_31 rfl ?_
        refine J_bipush (99 : Int32) dX3_put_33 (by decide) ?_
        refine J_icmp_ne 40 dX3_put_35 (by decide) h7 (fun c8 h9 => ?_) (fun c8 h9 => ?_)
        · clear h7
          refine J_iconst (0 : Int32) dX3_put_38 (by decide) ?_
          have hw := Option.some.inj h9; subst hw
          exact J_zret rfl (by decide) dX3_put_39
        · clear h7
          refine J_iinc 4 (1 : Int32) dX3_put_40 rfl (by decide) (by decide) [1, 2, 3, 4, 0] (lv' := [(0, .ref a0), (1, va_rf r1), (2, .int i2), (4, .int i5_), (5, .int (i5 + (1 : Int32)))]) rfl ?_
          refine J_goto 6 dX3_put_43 (by decide) ?_
          exact lh S6 a0 r1 i2 i5_ (i5 + (1 : Int32)) hS6_a0 h9
def c_X3_put (S : Mem) (a0 : Nat) (r1 : Option Nat) (i2 : Int32) (i3 : Int32) : Option (Int32 × Mem) :=
  c_X3_put_L6 bigN S a0 r1 i2 i3 (0 : Int32)
set_option maxRecDepth 100000 in
set_option maxHeartbeats 4000000 in
theorem t_X3_put {S : Mem} {a0 : Nat} {r1 : Option Nat} {i2 : Int32} {i3 : Int32} {w : (Int32 × Mem)} (ha : mKd S a0 = 4) (h : c_X3_put S a0 r1 i2 i3 = some w) : CT MX yX3_put cX3_put 6 (some .boolean) 3 111 [.ref a0, va_rf r1, .int i2, .int i3] S (some (.int w.1)) w.2 := by
  refine CT.of (lv := [(0, .ref a0), (1, va_rf r1), (2, .int i2), (3, .int i3)]) (by decide) (by cases r1 <;> exact rfl) (by cases r1 <;> exact Nat.le_of_ble_eq_true rfl) ?_
  refine J_iload_n 3 dX3_put_0 rfl rfl ?_
  refine J_istore dX3_put_1 (by decide) [1, 2, 3, 0] (lv' := [(0, .ref a0), (1, va_rf r1), (2, .int i2), (4, .int i3)]) rfl ?_
  refine J_iconst (0 : Int32) dX3_put_3 (by decide) ?_
  refine J_istore dX3_put_4 (by decide) [1, 2, 3, 4, 0] (lv' := [(0, .ref a0), (1, va_rf r1), (2, .int i2), (4, .int i3), (5, .int (0 : Int32))]) rfl ?_
  exact t_X3_put_L6 bigN S a0 r1 i2 i3 (0 : Int32) ha h
def c_X3_putDigits_L12 : Nat → Mem → Nat → Option Nat → Int64 → Int32 → Int32 → Int32 → Option (Int32 × Mem)
  | 0, _, _, _, _, _, _, _ => none
  | n + 1, S, a0, r1, j2, i4, i5, i6 =>
    if i6 < 0 then
      (some ((1 : Int32), S))
    else
      (bnd (ob S r1 2) fun a3 =>
      bnd (c_X5_digitAt j2 (mI S a3 2) i6) fun i5_ =>
      bnd2 (c_X3_put S a0 (some a3) (i4 + i6) (i5 * i5_)) fun i7_ S8 =>
      if i7_ = 0 then
        (some ((0 : Int32), S8))
      else
        (c_X3_putDigits_L12 n S8 a0 (some a3) j2 i4 i5 (i6 + (-1 : Int32))))
set_option maxRecDepth 100000 in
set_option maxHeartbeats 4000000 in
theorem t_X3_putDigits_L12 {w : (Int32 × Mem)} (n : Nat) : ∀ (S : Mem) (a0 : Nat) (r1 : Option Nat) (j2 : Int64) (i4 : Int32) (i5 : Int32) (i6 : Int32), (mKd S a0 = 4) → c_X3_putDigits_L12 n S a0 r1 j2 i4 i5 i6 = some w → J MX yX3_putDigits cX3_putDigits 7 (some .boolean) 4 136 12 [(0, .ref a0), (1, va_rf r1), (2, .long j2), (4, .int i4), (5, .int i5), (6, .int i6)] [] S (some (.int w.1)) w.2 := by
  induction n with
  | zero => intro S a0 r1 j2 i4 i5 i6 ha h; cases h
  | succ n lh =>
    intro S a0 r1 j2 i4 i5 i6 ha h
    refine J_iload 5 dX3_putDigits_12 rfl ?_
    refine J_if_lt 51 dX3_putDigits_14 (by decide) h (fun c1 h2 => ?_) (fun c1 h2 => ?_)
    · clear h
      refine J_iconst (1 : Int32) dX3_putDigits_51 (by decide) ?_
      have hw := Option.some.inj h2; subst hw
      exact J_zret rfl (by decide) dX3_putDigits_52
    · clear h
      refine J_aload_n 0 dX3_putDigits_17 rfl rfl ?_
      refine J_aload_nq 1 dX3_putDigits_18 rfl rfl ?_
      refine J_iload 3 dX3_putDigits_19 rfl ?_
      refine J_iload 5 dX3_putDigits_21 rfl ?_
      refine J_iadd dX3_putDigits_23 ?_
      refine J_iload 4 dX3_putDigits_24 rfl ?_
      refine J_lload_n 2 dX3_putDigits_26 rfl rfl ?_
      refine J_aload_nq 1 dX3_putDigits_27 rfl rfl ?_
      obtain ⟨a3, ea3, ka3, h4⟩ := ob_some h2; clear h2
      subst ea3
      refine J_lvst (lv' := [(0, .ref a0), (1, .ref a3), (2, .long j2), (4, .int i4), (5, .int i5), (6, .int i6)]) (st' := [.ref a3, .long j2, .int i5, .int (i4 + i6), .ref a3, .ref a0]) rfl rfl ?_
      refine J_get (k := 2) (v := .int (mI S a3 2)) dX3_putDigits_28 gF_X3_95 ka3 rfl ?_
      refine J_iload 5 dX3_putDigits_31 rfl ?_
      obtain ⟨i5_, ei5_, h6⟩ := bnd_some h4; clear h4
      refine J_callSN (As := [.long j2, .int (mI S a3 2), .int i6]) (rest := [.int i5, .int (i4 + i6), .ref a3, .ref a0]) (st' := [.int i5_, .int i5, .int (i4 + i6), .ref a3, .ref a0]) (t_X5_digitAt ei5_) gC_X5_digitAt gM_X3_119 rfl (by decide) (by decide) rfl rfl (Nat.le_of_ble_eq_true rfl) dX3_putDigits_33 ?_
      refine J_imul dX3_putDigits_36 ?_
      obtain ⟨i7_, S8, ei7_, h9⟩ := bnd2_some h6; clear h6
      have cS8 := (t_X3_put ha ei7_)
      have lS8 : jle MX S S8 := cS8.1
      have hS8_a0 : mKd S8 a0 = 4 := kd_le lS8 ha
      have hS8_a3 : mKd S8 a3 = 2 := kd_le lS8 ka3
      refine J_callV (As := [.ref a3, .int (i4 + i6), .int (i5 * i5_)]) (rest := []) (st' := [.int i7_]) cS8 gC_X3_put gM_X3_123 (mRecv ha (by decide) jCl3) rfl (by decide) (by decide) rfl rfl (Nat.le_of_ble_eq_true rfl) dX3_putDigits_37 ?_
      refine J_if_ne 45 dX3_putDigits_40 (by decide) h9 (fun c10 h11 => ?_) (fun c10 h11 => ?_)
      · clear h9
        refine J_iconst (0 : Int32) dX3_putDigits_43 (by decide) ?_
        have hw := Option.some.inj h11; subst hw
        exact J_zret rfl (by decide) dX3_putDigits_44
      · clear h9
        refine J_iinc 5 (-1 : Int32) dX3_putDigits_45 rfl (by decide) (by decide) [1, 2, 3, 4, 5, 0] (lv' := [(0, .ref a0), (1, .ref a3), (2, .long j2), (4, .int i4), (5, .int i5), (6, .int (i6 + (-1 : Int32)))]) rfl ?_
        refine J_goto 12 dX3_putDigits_48 (by decide) ?_
        exact lh S8 a0 (some a3) j2 i4 i5 (i6 + (-1 : Int32)) hS8_a0 h11
def c_X3_putDigits (S : Mem) (a0 : Nat) (r1 : Option Nat) (j2 : Int64) (i4 : Int32) (i5 : Int32) : Option (Int32 × Mem) :=
  bnd (ob S r1 2) fun a1 =>
  bnd (c_X5_digitCount j2 (mI S a1 2)) fun i3_ =>
  jLet ((i3_ - (1 : Int32))) fun i5_ =>
  c_X3_putDigits_L12 bigN S a0 (some a1) j2 i4 i5 i5_
set_option maxRecDepth 100000 in
set_option maxHeartbeats 4000000 in
theorem t_X3_putDigits {S : Mem} {a0 : Nat} {r1 : Option Nat} {j2 : Int64} {i4 : Int32} {i5 : Int32} {w : (Int32 × Mem)} (ha : mKd S a0 = 4) (h : c_X3_putDigits S a0 r1 j2 i4 i5 = some w) : CT MX yX3_putDigits cX3_putDigits 7 (some .boolean) 4 136 [.ref a0, va_rf r1, .long j2, .int i4, .int i5] S (some (.int w.1)) w.2 := by
  refine CT.of (lv := [(0, .ref a0), (1, va_rf r1), (2, .long j2), (4, .int i4), (5, .int i5)]) (by decide) (by cases r1 <;> exact rfl) (by cases r1 <;> exact Nat.le_of_ble_eq_true rfl) ?_
  refine J_lload_n 2 dX3_putDigits_0 rfl rfl ?_
  refine J_aload_nq 1 dX3_putDigits_1 rfl rfl ?_
  obtain ⟨a1, ea1, ka1, h2⟩ := ob_some h; clear h
  subst ea1
  refine J_lvst (lv' := [(0, .ref a0), (1, .ref a1), (2, .long j2), (4, .int i4), (5, .int i5)]) (st' := [.ref a1, .long j2]) rfl rfl ?_
  refine J_get (k := 2) (v := .int (mI S a1 2)) dX3_putDigits_2 gF_X3_95 ka1 rfl ?_
  obtain ⟨i3_, ei3_, h4⟩ := bnd_some h2; clear h2
  refine J_callSN (As := [.long j2, .int (mI S a1 2)]) (rest := []) (st' := [.int i3_]) (t_X5_digitCount ei3_) gC_X5_digitCount gM_X3_115 rfl (by decide) (by decide) rfl rfl (Nat.le_of_ble_eq_true rfl) dX3_putDigits_5 ?_
  refine J_iconst (1 : Int32) dX3_putDigits_8 (by decide) ?_
  refine J_isub dX3_putDigits_9 ?_
  obtain ⟨i5_, ei5_, h6⟩ := jLet_some h4; clear h4
  refine J_topI ei5_ ?_
  refine J_istore dX3_putDigits_10 (by decide) [1, 2, 3, 4, 5, 0] (lv' := [(0, .ref a0), (1, .ref a1), (2, .long j2), (4, .int i4), (5, .int i5), (6, .int i5_)]) rfl ?_
  exact t_X3_putDigits_L12 bigN S a0 (some a1) j2 i4 i5 i5_ ha h6
def c_X3_clear_L8 : Nat → Mem → Nat → Option Nat → Int32 → Option (Int32 × Mem)
  | 0, _, _, _, _ => none
  | n + 1, S, a0, r1, i2 =>
    if i2 < 0 then
      (some ((1 : Int32), S))
    else
      (bnd2 (c_X3_canRead S a0 r1 i2) fun i3_ S4 =>
      if i3_ = 0 then
        (some ((0 : Int32), S4))
      else
        (bnd (ob S4 r1 2) fun a8 =>
        bnd (ob S4 (mR S4 a8 5) 12) fun a10 =>
        gd (inB i2 (mLn S4 a10)) <|
        bnd (ob S4 (mR S4 a10 (Int32.toNatClampNeg i2)) 5) fun a14 =>
        bnd (c_X4_value S4 a14) fun i16_ =>
        bnd2 (c_X3_put S4 a0 (some a8) i2 (-i16_)) fun i18_ S19 =>
        if i18_ = 0 then
          (some ((0 : Int32), S19))
        else
          (c_X3_clear_L8 n S19 a0 (some a8) (i2 + (-1 : Int32)))))
set_option maxRecDepth 100000 in
set_option maxHeartbeats 4000000 in
theorem t_X3_clear_L8 {w : (Int32 × Mem)} (n : Nat) : ∀ (S : Mem) (a0 : Nat) (r1 : Option Nat) (i2 : Int32), (mKd S a0 = 4) → c_X3_clear_L8 n S a0 r1 i2 = some w → J MX yX3_clear cX3_clear 3 (some .boolean) 4 136 8 [(0, .ref a0), (1, va_rf r1), (2, .int i2)] [] S (some (.int w.1)) w.2 := by
  induction n with
  | zero => intro S a0 r1 i2 ha h; cases h
  | succ n lh =>
    intro S a0 r1 i2 ha h
    refine J_iload_n 2 dX3_clear_8 rfl rfl ?_
    refine J_if_lt 48 dX3_clear_9 (by decide) h (fun c1 h2 => ?_) (fun c1 h2 => ?_)
    · clear h
      refine J_iconst (1 : Int32) dX3_clear_48 (by decide) ?_
      have hw := Option.some.inj h2; subst hw
      exact J_zret rfl (by decide) dX3_clear_49
    · clear h
      refine J_aload_n 0 dX3_clear_12 rfl rfl ?_
      refine J_aload_nq 1 dX3_clear_13 rfl rfl ?_
      refine J_iload_n 2 dX3_clear_14 rfl rfl ?_
      obtain ⟨i3_, S4, ei3_, h5⟩ := bnd2_some h2; clear h2
      have cS4 := (t_X3_canRead ha ei3_)
      have lS4 : jle MX S S4 := cS4.1
      have hS4_a0 : mKd S4 a0 = 4 := kd_le lS4 ha
      refine J_callV (As := [va_rf r1, .int i2]) (rest := []) (st' := [.int i3_]) cS4 gC_X3_canRead gM_X3_88 (mRecv ha (by decide) jCl3) rfl (by decide) (by decide) rfl rfl (Nat.le_of_ble_eq_true rfl) dX3_clear_15 ?_
      refine J_if_eq 40 dX3_clear_18 (by decide) h5 (fun c6 h7 => ?_) (fun c6 h7 => ?_)
      · clear h5
        refine J_iconst (0 : Int32) dX3_clear_40 (by decide) ?_
        have hw := Option.some.inj h7; subst hw
        exact J_zret rfl (by decide) dX3_clear_41
      · clear h5
        refine J_aload_n 0 dX3_clear_21 rfl rfl ?_
        refine J_aload_nq 1 dX3_clear_22 rfl rfl ?_
        refine J_iload_n 2 dX3_clear_23 rfl rfl ?_
        refine J_aload_nq 1 dX3_clear_24 rfl rfl ?_
        obtain ⟨a8, ea8, ka8, h9⟩ := ob_some h7; clear h7
        subst ea8
        refine J_lvst (lv' := [(0, .ref a0), (1, .ref a8), (2, .int i2)]) (st' := [.ref a8, .int i2, .ref a8, .ref a0]) rfl rfl ?_
        refine J_get (k := 5) (v := va_rf (mR S4 a8 5)) dX3_clear_25 gF_X3_72 ka8 rfl ?_
        refine J_iload_n 2 dX3_clear_28 rfl rfl ?_
        obtain ⟨a10, ea10, ka10, h11⟩ := ob_some h9; clear h9
        rw [ea10]
        refine J_lvst (lv' := [(0, .ref a0), (1, .ref a8), (2, .int i2)]) (st' := [.int i2, .ref a10, .int i2, .ref a8, .ref a0]) rfl rfl ?_
        obtain ⟨g12, h13⟩ := gd_some h11; clear h11
        refine J_aald (z := 4) (C := RX4) dX3_clear_29 (fun _ => rfl) (fun _ _ => rfl) ka10 g12 ?_
        obtain ⟨a14, ea14, ka14, h15⟩ := ob_some h13; clear h13
        rw [ea14]
        refine J_lvst (lv' := [(0, .ref a0), (1, .ref a8), (2, .int i2)]) (st' := [.ref a14, .int i2, .ref a8, .ref a0]) rfl rfl ?_
        obtain ⟨i16_, ei16_, h17⟩ := bnd_some h15; clear h15
        refine J_callV (As := []) (rest := [.int i2, .ref a8, .ref a0]) (st' := [.int i16_, .int i2, .ref a8, .ref a0]) (t_X4_value ka14 ei16_) gC_X4_value gM_X3_92 (mRecv ka14 (by decide) jCl4) rfl (by decide) (by decide) rfl rfl (Nat.le_of_ble_eq_true rfl) dX3_clear_30 ?_
        refine J_ineg dX3_clear_33 ?_
        obtain ⟨i18_, S19, ei18_, h20⟩ := bnd2_some h17; clear h17
        have cS19 := (t_X3_put hS4_a0 ei18_)
        have lS19 : jle MX S4 S19 := cS19.1
        have hS19_a0 : mKd S19 a0 = 4 := kd_le lS19 hS4_a0
        have hS19_a8 : mKd S19 a8 = 2 := kd_le lS19 ka8
        have hS19_a10 : mKd S19 a10 = 12 := kd_le lS19 ka10
        have hS19_a14 : mKd S19 a14 = 5 := kd_le lS19 ka14
        refine J_callV (As := [.ref a8, .int i2, .int (-i16_)]) (rest := []) (st' := [.int i18_]) cS19 gC_X3_put gM_X3_123 (mRecv hS4_a0 (by decide) jCl3) rfl (by decide) (by decide) rfl rfl (Nat.le_of_ble_eq_true rfl) dX3_clear_34 ?_
        refine J_if_ne 42 dX3_clear_37 (by decide) h20 (fun c21 h22 => ?_) (fun c21 h22 => ?_)
        · clear h20
          refine J_iconst (0 : Int32) dX3_clear_40 (by decide) ?_
          have hw := Option.some.inj h22; subst hw
          exact J_zret rfl (by decide) dX3_clear_41
        · clear h20
          refine J_iinc 2 (-1 : Int32) dX3_clear_42 rfl (by decide) (by decide) [1, 2, 0] (lv' := [(0, .ref a0), (1, .ref a8), (2, .int (i2 + (-1 : Int32)))]) rfl ?_
          refine J_goto 8 dX3_clear_45 (by decide) ?_
          exact lh S19 a0 (some a8) (i2 + (-1 : Int32)) hS19_a0 h22
def c_X3_clear (S : Mem) (a0 : Nat) (r1 : Option Nat) : Option (Int32 × Mem) :=
  bnd (ob S r1 2) fun a1 =>
  bnd (ob S (mR S a1 5) 12) fun a3 =>
  jLet (((nI (mLn S a3)) - (1 : Int32))) fun i5_ =>
  c_X3_clear_L8 bigN S a0 (some a1) i5_
set_option maxRecDepth 100000 in
set_option maxHeartbeats 4000000 in
theorem t_X3_clear {S : Mem} {a0 : Nat} {r1 : Option Nat} {w : (Int32 × Mem)} (ha : mKd S a0 = 4) (h : c_X3_clear S a0 r1 = some w) : CT MX yX3_clear cX3_clear 3 (some .boolean) 4 136 [.ref a0, va_rf r1] S (some (.int w.1)) w.2 := by
  refine CT.of (lv := [(0, .ref a0), (1, va_rf r1)]) (by decide) (by cases r1 <;> exact rfl) (by cases r1 <;> exact Nat.le_of_ble_eq_true rfl) ?_
  refine J_aload_nq 1 dX3_clear_0 rfl rfl ?_
  obtain ⟨a1, ea1, ka1, h2⟩ := ob_some h; clear h
  subst ea1
  refine J_lvst (lv' := [(0, .ref a0), (1, .ref a1)]) (st' := [.ref a1]) rfl rfl ?_
  refine J_get (k := 5) (v := va_rf (mR S a1 5)) dX3_clear_1 gF_X3_72 ka1 rfl ?_
  obtain ⟨a3, ea3, ka3, h4⟩ := ob_some h2; clear h2
  rw [ea3]
  refine J_lvst (lv' := [(0, .ref a0), (1, .ref a1)]) (st' := [.ref a3]) rfl rfl ?_
  refine J_alen (z := 4) dX3_clear_4 (fun _ => rfl) ka3 ?_
  refine J_iconst (1 : Int32) dX3_clear_5 (by decide) ?_
  refine J_isub dX3_clear_6 ?_
  obtain ⟨i5_, ei5_, h6⟩ := jLet_some h4; clear h4
  refine J_topI ei5_ ?_
  refine J_istore_n dX3_clear_7 rfl (by decide) [1, 2, 0] (lv' := [(0, .ref a0), (1, .ref a1), (2, .int i5_)]) rfl ?_
  exact t_X3_clear_L8 bigN S a0 (some a1) i5_ ha h6
def c_X3_multiply_L77 (k53 : Mem → Nat → Option Nat → Int64 → Int64 → Int32 → Int32 → Option (Int32 × Mem)) : Nat → Mem → Nat → Option Nat → Int64 → Int64 → Int32 → Int32 → Int32 → Int32 → Option (Int32 × Mem)
  | 0, _, _, _, _, _, _, _, _, _ => none
  | n + 1, S, a0, r1, j2, j4, i6, i7, i8, i9 =>
    if i9 < 0 then
      (k53 S a0 r1 j2 j4 i6 (i7 + (-1 : Int32)))
    else
      (if i8 = 0 then
        (k53 S a0 r1 j2 j4 i6 (i7 + (-1 : Int32)))
      else
        (bnd (ob S (mR S a0 0) 3) fun a5 =>
        bnd (c_X2_comeTo S a5 i7 i9) fun S7 =>
        bnd (ob S7 r1 2) fun a9 =>
        bnd (c_X5_digitAt j2 (mI S7 a9 2) i9) fun i11_ =>
        jLet ((i8 * i11_)) fun i13_ =>
        bnd (c_X5_digitAt (Int32.toInt64 i13_) (mI S7 a9 2) (1 : Int32)) fun i15_ =>
        bnd2 (c_X3_put S7 a0 (some a9) ((i7 + i9) + (1 : Int32)) i15_) fun i17_ S18 =>
        if i17_ = 0 then
          (some ((0 : Int32), S18))
        else
          (bnd (c_X5_digitAt (Int32.toInt64 i13_) (mI S18 a9 2) (0 : Int32)) fun i22_ =>
          bnd2 (c_X3_put S18 a0 (some a9) (i7 + i9) i22_) fun i24_ S25 =>
          if i24_ = 0 then
            (some ((0 : Int32), S25))
          else
            (c_X3_multiply_L77 k53 n S25 a0 (some a9) j2 j4 i6 i7 i8 (i9 + (-1 : Int32))))))
set_option maxRecDepth 100000 in
set_option maxHeartbeats 4000000 in
theorem t_X3_multiply_L77 {k53 : Mem → Nat → Option Nat → Int64 → Int64 → Int32 → Int32 → Option (Int32 × Mem)} {w : (Int32 × Mem)} (hk53 : ∀ (S : Mem) (a0 : Nat) (r1 : Option Nat) (j2 : Int64) (j4 : Int64) (i6 : Int32) (i7 : Int32), (mKd S a0 = 4) → k53 S a0 r1 j2 j4 i6 i7 = some w → J MX yX3_multiply cX3_multiply 11 (some .boolean) 5 158 53 [(0, .ref a0), (1, va_rf r1), (2, .long j2), (4, .long j4), (6, .int i6), (7, .int i7)] [] S (some (.int w.1)) w.2) (n : Nat) : ∀ (S : Mem) (a0 : Nat) (r1 : Option Nat) (j2 : Int64) (j4 : Int64) (i6 : Int32) (i7 : Int32) (i8 : Int32) (i9 : Int32), (mKd S a0 = 4) → c_X3_multiply_L77 k53 n S a0 r1 j2 j4 i6 i7 i8 i9 = some w → J MX yX3_multiply cX3_multiply 11 (some .boolean) 5 158 77 [(0, .ref a0), (1, va_rf r1), (2, .long j2), (4, .long j4), (6, .int i6), (7, .int i7), (8, .int i8), (9, .int i9)] [] S (some (.int w.1)) w.2 := by
  induction n with
  | zero => intro S a0 r1 j2 j4 i6 i7 i8 i9 ha h; cases h
  | succ n lh =>
    intro S a0 r1 j2 j4 i6 i7 i8 i9 ha h
    refine J_iload 7 dX3_multiply_77 rfl ?_
    refine J_if_lt 171 dX3_multiply_79 (by decide) h (fun c1 h2 => ?_) (fun c1 h2 => ?_)
    · clear h
      refine J_iinc 5 (-1 : Int32) dX3_multiply_171 rfl (by decide) (by decide) [1, 2, 3, 4, 5, 0, 6, 7] (lv' := [(0, .ref a0), (1, va_rf r1), (2, .long j2), (4, .long j4), (6, .int i6), (7, .int (i7 + (-1 : Int32))), (8, .int i8), (9, .int i9)]) rfl ?_
      refine J_goto 53 dX3_multiply_174 (by decide) ?_
      refine J_lv [0, 1, 2, 3, 4, 5] rfl ?_
      exact hk53 S a0 r1 j2 j4 i6 (i7 + (-1 : Int32)) ha h2
    · clear h
      refine J_iload 6 dX3_multiply_82 rfl ?_
      refine J_if_eq 171 dX3_multiply_84 (by decide) h2 (fun c3 h4 => ?_) (fun c3 h4 => ?_)
      · clear h2
        refine J_iinc 5 (-1 : Int32) dX3_multiply_171 rfl (by decide) (by decide) [1, 2, 3, 4, 5, 0, 6, 7] (lv' := [(0, .ref a0), (1, va_rf r1), (2, .long j2), (4, .long j4), (6, .int i6), (7, .int (i7 + (-1 : Int32))), (8, .int i8), (9, .int i9)]) rfl ?_
        refine J_goto 53 dX3_multiply_174 (by decide) ?_
        refine J_lv [0, 1, 2, 3, 4, 5] rfl ?_
        exact hk53 S a0 r1 j2 j4 i6 (i7 + (-1 : Int32)) ha h4
      · clear h2
        refine J_aload_n 0 dX3_multiply_87 rfl rfl ?_
        refine J_get (k := 0) (v := va_rf (mR S a0 0)) dX3_multiply_88 gF_X3_12 ha rfl ?_
        refine J_iload 5 dX3_multiply_91 rfl ?_
        refine J_iload 7 dX3_multiply_93 rfl ?_
        obtain ⟨a5, ea5, ka5, h6⟩ := ob_some h4; clear h4
        rw [ea5]
        refine J_lvst (lv' := [(0, .ref a0), (1, va_rf r1), (2, .long j2), (4, .long j4), (6, .int i6), (7, .int i7), (8, .int i8), (9, .int i9)]) (st' := [.int i9, .int i7, .ref a5]) rfl rfl ?_
        obtain ⟨S7, eS7, h8⟩ := bnd_some h6; clear h6
        have cS7 := (t_X2_comeTo ka5 eS7)
        have lS7 : jle MX S S7 := cS7.1
        have hS7_a0 : mKd S7 a0 = 4 := kd_le lS7 ha
        have hS7_a5 : mKd S7 a5 = 3 := kd_le lS7 ka5
        refine J_callV (As := [.int i7, .int i9]) (rest := []) (st' := []) cS7 gC_X2_comeTo gM_X3_139 (mRecv ka5 (by decide) jCl2) rfl (by decide) (by decide) rfl rfl (Nat.le_of_ble_eq_true rfl) dX3_multiply_95 ?_
        refine J_iload 6 dX3_multiply_98 rfl ?_
        refine J_lload_n 2 dX3_multiply_100 rfl rfl ?_
        refine J_aload_nq 1 dX3_multiply_101 rfl rfl ?_
        obtain ⟨a9, ea9, ka9, h10⟩ := ob_some h8; clear h8
        subst ea9
        refine J_lvst (lv' := [(0, .ref a0), (1, .ref a9), (2, .long j2), (4, .long j4), (6, .int i6), (7, .int i7), (8, .int i8), (9, .int i9)]) (st' := [.ref a9, .long j2, .int i8]) rfl rfl ?_
        refine J_get (k := 2) (v := .int (mI S7 a9 2)) dX3_multiply_102 gF_X3_95 ka9 rfl ?_
        refine J_iload 7 dX3_multiply_105 rfl ?_
        obtain ⟨i11_, ei11_, h12⟩ := bnd_some h10; clear h10
        refine J_callSN (As := [.long j2, .int (mI S7 a9 2), .int i9]) (rest := [.int i8]) (st' := [.int i11_, .int i8]) (t_X5_digitAt ei11_) gC_X5_digitAt gM_X3_119 rfl (by decide) (by decide) rfl rfl (Nat.le_of_ble_eq_true rfl) dX3_multiply_107 ?_
        refine J_imul dX3_multiply_110 ?_
        obtain ⟨i13_, ei13_, h14⟩ := jLet_some h12; clear h12
        refine J_topI ei13_ ?_
        refine J_istore dX3_multiply_111 (by decide) [1, 2, 3, 4, 5, 6, 7, 8, 0] (lv' := [(0, .ref a0), (1, .ref a9), (2, .long j2), (4, .long j4), (6, .int i6), (7, .int i7), (8, .int i8), (9, .int i9), (10, .int i13_)]) rfl ?_
        refine J_aload_n 0 dX3_multiply_113 rfl rfl ?_
        refine J_aload_n 1 dX3_multiply_114 rfl rfl ?_
        refine J_iload 5 dX3_multiply_115 rfl ?_
        refine J_iload 7 dX3_multiply_117 rfl ?_
        refine J_iadd dX3_multiply_119 ?_
        refine J_iconst (1 : Int32) dX3_multiply_120 (by decide) ?_
        refine J_iadd dX3_multiply_121 ?_
        refine J_iload 8 dX3_multiply_122 rfl ?_
        refine J_i2l dX3_multiply_124 ?_
        refine J_aload_n 1 dX3_multiply_125 rfl rfl ?_
        refine J_get (k := 2) (v := .int (mI S7 a9 2)) dX3_multiply_126 gF_X3_95 ka9 rfl ?_
        refine J_iconst (1 : Int32) dX3_multiply_129 (by decide) ?_
        obtain ⟨i15_, ei15_, h16⟩ := bnd_some h14; clear h14
        refine J_callSN (As := [.long (Int32.toInt64 i13_), .int (mI S7 a9 2), .int (1 : Int32)]) (rest := [.int ((i7 + i9) + (1 : Int32)), .ref a9, .ref a0]) (st' := [.int i15_, .int ((i7 + i9) + (1 : Int32)), .ref a9, .ref a0]) (t_X5_digitAt ei15_) gC_X5_digitAt gM_X3_119 rfl (by decide) (by decide) rfl rfl (Nat.le_of_ble_eq_true rfl) dX3_multiply_130 ?_
        obtain ⟨i17_, S18, ei17_, h19⟩ := bnd2_some h16; clear h16
        have cS18 := (t_X3_put hS7_a0 ei17_)
        have lS18 : jle MX S7 S18 := cS18.1
        have hS18_a0 : mKd S18 a0 = 4 := kd_le lS18 hS7_a0
        have hS18_a5 : mKd S18 a5 = 3 := kd_le lS18 hS7_a5
        have hS18_a9 : mKd S18 a9 = 2 := kd_le lS18 ka9
        refine J_callV (As := [.ref a9, .int ((i7 + i9) + (1 : Int32)), .int i15_]) (rest := []) (st' := [.int i17_]) cS18 gC_X3_put gM_X3_123 (mRecv hS7_a0 (by decide) jCl3) rfl (by decide) (by decide) rfl rfl (Nat.le_of_ble_eq_true rfl) dX3_multiply_133 ?_
        refine J_if_eq 163 dX3_multiply_136 (by decide) h19 (fun c20 h21 => ?_) (fun c20 h21 => ?_)
        · clear h19
          refine J_iconst (0 : Int32) dX3_multiply_163 (by decide) ?_
          have hw := Option.some.inj h21; subst hw
          exact J_zret rfl (by decide) dX3_multiply_164
        · clear h19
          refine J_aload_n 0 dX3_multiply_139 rfl rfl ?_
          refine J_aload_n 1 dX3_multiply_140 rfl rfl ?_
          refine J_iload 5 dX3_multiply_141 rfl ?_
          refine J_iload 7 dX3_multiply_143 rfl ?_
          refine J_iadd dX3_multiply_145 ?_
          refine J_iload 8 dX3_multiply_146 rfl ?_
          refine J_i2l dX3_multiply_148 ?_
          refine J_aload_n 1 dX3_multiply_149 rfl rfl ?_
          refine J_get (k := 2) (v := .int (mI S18 a9 2)) dX3_multiply_150 gF_X3_95 hS18_a9 rfl ?_
          refine J_iconst (0 : Int32) dX3_multiply_153 (by decide) ?_
          obtain ⟨i22_, ei22_, h23⟩ := bnd_some h21; clear h21
          refine J_callSN (As := [.long (Int32.toInt64 i13_), .int (mI S18 a9 2), .int (0 : Int32)]) (rest := [.int (i7 + i9), .ref a9, .ref a0]) (st' := [.int i22_, .int (i7 + i9), .ref a9, .ref a0]) (t_X5_digitAt ei22_) gC_X5_digitAt gM_X3_119 rfl (by decide) (by decide) rfl rfl (Nat.le_of_ble_eq_true rfl) dX3_multiply_154 ?_
          obtain ⟨i24_, S25, ei24_, h26⟩ := bnd2_some h23; clear h23
          have cS25 := (t_X3_put hS18_a0 ei24_)
          have lS25 : jle MX S18 S25 := cS25.1
          have hS25_a0 : mKd S25 a0 = 4 := kd_le lS25 hS18_a0
          have hS25_a5 : mKd S25 a5 = 3 := kd_le lS25 hS18_a5
          have hS25_a9 : mKd S25 a9 = 2 := kd_le lS25 hS18_a9
          refine J_callV (As := [.ref a9, .int (i7 + i9), .int i22_]) (rest := []) (st' := [.int i24_]) cS25 gC_X3_put gM_X3_123 (mRecv hS18_a0 (by decide) jCl3) rfl (by decide) (by decide) rfl rfl (Nat.le_of_ble_eq_true rfl) dX3_multiply_157 ?_
          refine J_if_ne 165 dX3_multiply_160 (by decide) h26 (fun c27 h28 => ?_) (fun c27 h28 => ?_)
          · clear h26
            refine J_iconst (0 : Int32) dX3_multiply_163 (by decide) ?_
            have hw := Option.some.inj h28; subst hw
            exact J_zret rfl (by decide) dX3_multiply_164
          · clear h26
            refine J_iinc 7 (-1 : Int32) dX3_multiply_165 rfl (by decide) (by decide) [1, 2, 3, 4, 5, 6, 7, 0, 8] (lv' := [(0, .ref a0), (1, .ref a9), (2, .long j2), (4, .long j4), (6, .int i6), (7, .int i7), (8, .int i8), (9, .int (i9 + (-1 : Int32))), (10, .int i13_)]) rfl ?_
            refine J_goto 77 dX3_multiply_168 (by decide) ?_
            refine J_lv [0, 1, 2, 3, 4, 5, 6, 7] rfl ?_
            exact lh S25 a0 (some a9) j2 j4 i6 i7 i8 (i9 + (-1 : Int32)) hS25_a0 h28
