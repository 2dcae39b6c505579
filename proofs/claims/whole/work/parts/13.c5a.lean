def c_X5_init (S : Mem) (a0 : Nat) : Option Mem :=
  jLet (mNx S) fun a2 =>
  jLet (mNew S 11 (Int32.toNatClampNeg (30 : Int32)) (Int32.toNatClampNeg (30 : Int32))) fun S1 =>
  jLet (mSR S1 a0 0 (some a2)) fun S5 =>
  jLet (mNx S5) fun a8 =>
  jLet (mNew S5 13 (Int32.toNatClampNeg (200 : Int32)) (Int32.toNatClampNeg (200 : Int32))) fun S7 =>
  jLet (mSR S7 a0 2 (some a8)) fun S11 =>
  jLet (mNx S11) fun a14 =>
  jLet (mNew S11 4 0 (cN 3)) fun S13 =>
  bnd (c_X3_init S13 a14) fun S17 =>
  jLet (mSR S17 a0 4 (some a14)) fun S19 =>
  jLet (mNx S19) fun a22 =>
  jLet (mNew S19 8 (Int32.toNatClampNeg (64 : Int32)) (Int32.toNatClampNeg (64 : Int32))) fun S21 =>
  jLet (mSR S21 a0 5 (some a22)) fun S25 =>
  some S25
set_option maxRecDepth 100000 in
set_option maxHeartbeats 4000000 in
theorem t_X5_init {S : Mem} {a0 : Nat} {w : Mem} (ha : mKd S a0 = 6) (h : c_X5_init S a0 = some w) : CT MX yX5_init cX5_init 1 none 3 80 [.ref a0] S none w := by
  refine CT.of (lv := [(0, .ref a0)]) (by decide) rfl (Nat.le_of_ble_eq_true rfl) ?_
  refine J_aload_n 0 dX5_init_0 rfl rfl ?_
  refine J_objInit gO_X5_3 gO_i gO_c (by decide) (by decide) (Nat.le_of_ble_eq_true rfl) dX5_init_1 ?_
  refine J_aload_n 0 dX5_init_4 rfl rfl ?_
  refine J_bipush (30 : Int32) dX5_init_5 (by decide) ?_
  refine J_anew (z := 3) (by decide) dX5_init_7 gL_X5_11 (fun D s hK => hK.2.2.1.1) (fun _ => rfl) (fun S ln sl q => by simp [avT, mR, mNew, up1, va_rf]) (by decide) ?_
  obtain ⟨a2, ea2, h3⟩ := jLet_some h; clear h
  obtain ⟨S1, eS1, h4⟩ := jLet_some h3; clear h3
  rw [← ea2]
  refine J_topS eS1 ?_
  have lS1 : jle MX S S1 := by rw [eS1]; exact mNew_le _ _ _ _
  have hS1_a0 : mKd S1 a0 = 6 := kd_le lS1 ha
  have hS1_new : mKd S1 a2 = 11 := by rw [eS1, mKd_new, if_pos ea2]
  refine J_putAF (k := 0) (x := (some a2)) dX5_init_10 rfl gP_X5_13 hS1_a0 rfl ?_
  obtain ⟨S5, eS5, h6⟩ := jLet_some h4; clear h4
  refine J_topS eS5 ?_
  have hS5_a0 : mKd S5 a0 = 6 := by rw [eS5]; exact hS1_a0
  have hS5_a2 : mKd S5 a2 = 11 := by rw [eS5]; exact hS1_new
  refine J_aload_n 0 dX5_init_13 rfl rfl ?_
  refine J_sipush (200 : Int32) dX5_init_14 (by decide) ?_
  refine J_anew (z := 5) (by decide) dX5_init_17 gL_X5_17 (fun D s hK => hK.2.2.1.2.2) (fun _ => rfl) (fun S ln sl q => by simp [avT, mR, mNew, up1, va_rf]) (by decide) ?_
  obtain ⟨a8, ea8, h9⟩ := jLet_some h6; clear h6
  obtain ⟨S7, eS7, h10⟩ := jLet_some h9; clear h9
  rw [← ea8]
  refine J_topS eS7 ?_
  have lS7 : jle MX S5 S7 := by rw [eS7]; exact mNew_le _ _ _ _
  have hS7_a0 : mKd S7 a0 = 6 := kd_le lS7 hS5_a0
  have hS7_a2 : mKd S7 a2 = 11 := kd_le lS7 hS5_a2
  have hS7_new : mKd S7 a8 = 13 := by rw [eS7, mKd_new, if_pos ea8]
  refine J_putAF (k := 2) (x := (some a8)) dX5_init_20 rfl gP_X5_19 hS7_a0 rfl ?_
  obtain ⟨S11, eS11, h12⟩ := jLet_some h10; clear h10
  refine J_topS eS11 ?_
  have hS11_a0 : mKd S11 a0 = 6 := by rw [eS11]; exact hS7_a0
  have hS11_a2 : mKd S11 a2 = 11 := by rw [eS11]; exact hS7_a2
  have hS11_a8 : mKd S11 a8 = 13 := by rw [eS11]; exact hS7_new
  refine J_aload_n 0 dX5_init_23 rfl rfl ?_
  refine J_new dX5_init_24 jCl3 (by decide) (by decide +kernel) gN_X5_23 ?_
  obtain ⟨a14, ea14, h15⟩ := jLet_some h12; clear h12
  obtain ⟨S13, eS13, h16⟩ := jLet_some h15; clear h15
  rw [← ea14]
  refine J_topS eS13 ?_
  have lS13 : jle MX S11 S13 := by rw [eS13]; exact mNew_le _ _ _ _
  have hS13_a0 : mKd S13 a0 = 6 := kd_le lS13 hS11_a0
  have hS13_a2 : mKd S13 a2 = 11 := kd_le lS13 hS11_a2
  have hS13_a8 : mKd S13 a8 = 13 := kd_le lS13 hS11_a8
  have hS13_new : mKd S13 a14 = 4 := by rw [eS13, mKd_new, if_pos ea14]
  refine J_dup dX5_init_27 rfl ?_
  obtain ⟨S17, eS17, h18⟩ := bnd_some h16; clear h16
  have cS17 := (t_X3_init hS13_new eS17)
  have lS17 : jle MX S13 S17 := cS17.1
  have hS17_a0 : mKd S17 a0 = 6 := kd_le lS17 hS13_a0
  have hS17_a2 : mKd S17 a2 = 11 := kd_le lS17 hS13_a2
  have hS17_a8 : mKd S17 a8 = 13 := kd_le lS17 hS13_a8
  have hS17_a14 : mKd S17 a14 = 4 := kd_le lS17 hS13_new
  refine J_callIN (As := []) (rest := [.ref a14, .ref a0]) (st' := [.ref a14, .ref a0]) cS17 gC_X3_init gM_X5_25 rfl rfl (by decide) (by decide) rfl rfl (Nat.le_of_ble_eq_true rfl) dX5_init_28 ?_
  refine J_putRF (k := 4) (x := (some a14)) dX5_init_31 rfl gP_X5_26 hS17_a0 rfl ?_
  obtain ⟨S19, eS19, h20⟩ := jLet_some h18; clear h18
  refine J_topS eS19 ?_
  have hS19_a0 : mKd S19 a0 = 6 := by rw [eS19]; exact hS17_a0
  have hS19_a2 : mKd S19 a2 = 11 := by rw [eS19]; exact hS17_a2
  have hS19_a8 : mKd S19 a8 = 13 := by rw [eS19]; exact hS17_a8
  have hS19_a14 : mKd S19 a14 = 4 := by rw [eS19]; exact hS17_a14
  refine J_aload_n 0 dX5_init_34 rfl rfl ?_
  refine J_bipush (64 : Int32) dX5_init_35 (by decide) ?_
  refine J_newa (z := 0) (by decide) dX5_init_37 gA_int (fun _ => rfl) (by decide) (fun _ _ q => q) (fun S ln sl q => by simp [avT, mI, mL, mR, mNew, up1, defaultValue, newarray.typeOf]) (by decide) ?_
  obtain ⟨a22, ea22, h23⟩ := jLet_some h20; clear h20
  obtain ⟨S21, eS21, h24⟩ := jLet_some h23; clear h23
  rw [← ea22]
  refine J_topS eS21 ?_
  have lS21 : jle MX S19 S21 := by rw [eS21]; exact mNew_le _ _ _ _
  have hS21_a0 : mKd S21 a0 = 6 := kd_le lS21 hS19_a0
  have hS21_a2 : mKd S21 a2 = 11 := kd_le lS21 hS19_a2
  have hS21_a8 : mKd S21 a8 = 13 := kd_le lS21 hS19_a8
  have hS21_a14 : mKd S21 a14 = 4 := kd_le lS21 hS19_a14
  have hS21_new : mKd S21 a22 = 8 := by rw [eS21, mKd_new, if_pos ea22]
  refine J_putA (k := 5) (x := (some a22)) dX5_init_39 gW_X5_30 hS21_a0 rfl ?_
  obtain ⟨S25, eS25, h26⟩ := jLet_some h24; clear h24
  refine J_topS eS25 ?_
  have hS25_a0 : mKd S25 a0 = 6 := by rw [eS25]; exact hS21_a0
  have hS25_a2 : mKd S25 a2 = 11 := by rw [eS25]; exact hS21_a2
  have hS25_a8 : mKd S25 a8 = 13 := by rw [eS25]; exact hS21_a8
  have hS25_a14 : mKd S25 a14 = 4 := by rw [eS25]; exact hS21_a14
  have hS25_a22 : mKd S25 a22 = 8 := by rw [eS25]; exact hS21_new
  have hw := Option.some.inj h26; subst hw
  exact J_vret rfl dX5_init_42
def c_X5_mostRods (i0 : Int32) : Option Int32 :=
  if i0 = (16 : Int32) then
    (some (14 : Int32))
  else
    (some (18 : Int32))
set_option maxRecDepth 100000 in
set_option maxHeartbeats 4000000 in
theorem t_X5_mostRods {S : Mem} {i0 : Int32} {w : Int32} (h : c_X5_mostRods i0 = some w) : CT MX yX5_mostRods cX5_mostRods 1 (some .int) 0 0 [.int i0] S (some (.int w)) S := by
  refine CT.of (lv := [(0, .int i0)]) (by decide) rfl (Nat.le_of_ble_eq_true rfl) ?_
  refine J_iload_n 0 dX5_mostRods_0 rfl rfl ?_
  refine J_bipush (16 : Int32) dX5_mostRods_1 (by decide) ?_
  refine J_icmp_ne 11 dX5_mostRods_3 (by decide) h (fun c1 h2 => ?_) (fun c1 h2 => ?_)
  · clear h
    refine J_bipush (14 : Int32) dX5_mostRods_6 (by decide) ?_
    refine J_goto 13 dX5_mostRods_8 (by decide) ?_
    have hw := Option.some.inj h2; subst hw
    exact J_iret rfl dX5_mostRods_13
  · clear h
    refine J_bipush (18 : Int32) dX5_mostRods_11 (by decide) ?_
    have hw := Option.some.inj h2; subst hw
    exact J_iret rfl dX5_mostRods_13
def c_X5_faulted (S : Mem) (a0 : Nat) (i1 : Int32) : Option (Int32 × Mem) :=
  jLet (mSI S a0 9 i1) fun S1 =>
  jLet (((mI S1 a0 10) + (1 : Int32))) fun i3_ =>
  jLet (mSI S1 a0 10 i3_) fun S5 =>
  some (((-10 : Int32) - i1), S5)
set_option maxRecDepth 100000 in
set_option maxHeartbeats 4000000 in
theorem t_X5_faulted {S : Mem} {a0 : Nat} {i1 : Int32} {w : (Int32 × Mem)} (ha : mKd S a0 = 6) (h : c_X5_faulted S a0 i1 = some w) : CT MX yX5_faulted cX5_faulted 2 (some .int) 0 0 [.ref a0, .int i1] S (some (.int w.1)) w.2 := by
  refine CT.of (lv := [(0, .ref a0), (1, .int i1)]) (by decide) rfl (Nat.le_of_ble_eq_true rfl) ?_
  refine J_aload_n 0 dX5_faulted_0 rfl rfl ?_
  refine J_iload_n 1 dX5_faulted_1 rfl rfl ?_
  refine J_putI (k := 9) dX5_faulted_2 gW_X5_314 ha rfl ?_
  obtain ⟨S1, eS1, h2⟩ := jLet_some h; clear h
  refine J_topS eS1 ?_
  have hS1_a0 : mKd S1 a0 = 6 := by rw [eS1]; exact ha
  refine J_aload_n 0 dX5_faulted_5 rfl rfl ?_
  refine J_dup dX5_faulted_6 rfl ?_
  refine J_get (k := 10) (v := .int (mI S1 a0 10)) dX5_faulted_7 gF_X5_308 hS1_a0 rfl ?_
  refine J_iconst (1 : Int32) dX5_faulted_10 (by decide) ?_
  refine J_iadd dX5_faulted_11 ?_
  obtain ⟨i3_, ei3_, h4⟩ := jLet_some h2; clear h2
  refine J_topI ei3_ ?_
  refine J_putI (k := 10) dX5_faulted_12 gW_X5_308 hS1_a0 rfl ?_
  obtain ⟨S5, eS5, h6⟩ := jLet_some h4; clear h4
  refine J_topS eS5 ?_
  have hS5_a0 : mKd S5 a0 = 6 := by rw [eS5]; exact hS1_a0
  refine J_bipush (-10 : Int32) dX5_faulted_15 (by decide) ?_
  refine J_iload_n 1 dX5_faulted_17 rfl rfl ?_
  refine J_isub dX5_faulted_18 ?_
  have hw := Option.some.inj h6; subst hw
  exact J_iret rfl dX5_faulted_19
def c_X5_frame (S : Mem) (a0 : Nat) (i1 : Int32) (i2 : Int32) : Option (Int32 × Mem) :=
  if i1 < 0 then
    (some ((-2 : Int32), S))
  else
    (if (3 : Int32) < i1 then
      (some ((-2 : Int32), S))
    else
      (bnd (c_X5_baseOf i1) fun i5_ =>
      bnd (c_X5_mostRods i5_) fun i7_ =>
      if i2 ≤ i7_ then
        (if (mI S a0 1) < (30 : Int32) then
          (if 0 ≤ i2 then
            (jLet (mNx S) fun a16 =>
            jLet (mNew S 2 0 (cN 1)) fun S15 =>
            bnd (c_X1_init S15 a16 (mI S15 a0 1) i1 i2) fun S19 =>
            bnd (ob S19 (mR S a0 0) 11) fun a21 =>
            gd (inB (mI S a0 1) (mLn S19 a21)) <|
            jLet (mSR S19 a21 (Int32.toNatClampNeg (mI S a0 1)) (some a16)) fun S25 =>
            jLet (((mI S25 a0 1) + (1 : Int32))) fun i27_ =>
            jLet (mSI S25 a0 1 i27_) fun S29 =>
            some (((mI S29 a0 1) - (1 : Int32)), S29))
          else
            (bnd2 (c_X5_faulted S a0 (4 : Int32)) fun i31_ S32 =>
            some (i31_, S32)))
        else
          (some ((-4 : Int32), S)))
      else
        (some ((-2 : Int32), S))))
set_option maxRecDepth 100000 in
set_option maxHeartbeats 4000000 in
theorem t_X5_frame {S : Mem} {a0 : Nat} {i1 : Int32} {i2 : Int32} {w : (Int32 × Mem)} (ha : mKd S a0 = 6) (h : c_X5_frame S a0 i1 i2 = some w) : CT MX yX5_frame cX5_frame 3 (some .int) 3 85 [.ref a0, .int i1, .int i2] S (some (.int w.1)) w.2 := by
  refine CT.of (lv := [(0, .ref a0), (1, .int i1), (2, .int i2)]) (by decide) rfl (Nat.le_of_ble_eq_true rfl) ?_
  refine J_iload_n 1 dX5_frame_0 rfl rfl ?_
  refine J_if_lt 20 dX5_frame_1 (by decide) h (fun c1 h2 => ?_) (fun c1 h2 => ?_)
  · clear h
    refine J_bipush (-2 : Int32) dX5_frame_20 (by decide) ?_
    have hw := Option.some.inj h2; subst hw
    exact J_iret rfl dX5_frame_22
  · clear h
    refine J_iload_n 1 dX5_frame_4 rfl rfl ?_
    refine J_iconst (3 : Int32) dX5_frame_5 (by decide) ?_
    refine J_icmp_gt 20 dX5_frame_6 (by decide) h2 (fun c3 h4 => ?_) (fun c3 h4 => ?_)
    · clear h2
      refine J_bipush (-2 : Int32) dX5_frame_20 (by decide) ?_
      have hw := Option.some.inj h4; subst hw
      exact J_iret rfl dX5_frame_22
    · clear h2
      refine J_iload_n 2 dX5_frame_9 rfl rfl ?_
      refine J_iload_n 1 dX5_frame_10 rfl rfl ?_
      obtain ⟨i5_, ei5_, h6⟩ := bnd_some h4; clear h4
      refine J_callS (As := [.int i1]) (rest := [.int i2]) (st' := [.int i5_, .int i2]) (t_X5_baseOf ei5_) gC_X5_baseOf gM_X5_34 rfl (by decide) (by decide) rfl rfl (Nat.le_of_ble_eq_true rfl) dX5_frame_11 ?_
      obtain ⟨i7_, ei7_, h8⟩ := bnd_some h6; clear h6
      refine J_callS (As := [.int i5_]) (rest := [.int i2]) (st' := [.int i7_, .int i2]) (t_X5_mostRods ei7_) gC_X5_mostRods gM_X5_38 rfl (by decide) (by decide) rfl rfl (Nat.le_of_ble_eq_true rfl) dX5_frame_14 ?_
      refine J_icmp_le 23 dX5_frame_17 (by decide) h8 (fun c9 h10 => ?_) (fun c9 h10 => ?_)
      · clear h8
        refine J_aload_n 0 dX5_frame_23 rfl rfl ?_
        refine J_get (k := 1) (v := .int (mI S a0 1)) dX5_frame_24 gF_X5_41 ha rfl ?_
        refine J_bipush (30 : Int32) dX5_frame_27 (by decide) ?_
        refine J_icmp_lt 35 dX5_frame_29 (by decide) h10 (fun c11 h12 => ?_) (fun c11 h12 => ?_)
        · clear h10
          refine J_iload_n 2 dX5_frame_35 rfl rfl ?_
          refine J_if_ge 45 dX5_frame_36 (by decide) h12 (fun c13 h14 => ?_) (fun c13 h14 => ?_)
          · clear h12
            refine J_aload_n 0 dX5_frame_45 rfl rfl ?_
            refine J_get (k := 0) (v := va_rf (mR S a0 0)) dX5_frame_46 gF_X5_13 ha rfl ?_
            refine J_aload_n 0 dX5_frame_49 rfl rfl ?_
            refine J_get (k := 1) (v := .int (mI S a0 1)) dX5_frame_50 gF_X5_41 ha rfl ?_
            refine J_new dX5_frame_53 jCl1 (by decide) (by decide +kernel) gN_X5_11 ?_
            obtain ⟨a16, ea16, h17⟩ := jLet_some h14; clear h14
            obtain ⟨S15, eS15, h18⟩ := jLet_some h17; clear h17
            rw [← ea16]
            refine J_topS eS15 ?_
            have lS15 : jle MX S S15 := by rw [eS15]; exact mNew_le _ _ _ _
            have hS15_a0 : mKd S15 a0 = 6 := kd_le lS15 ha
            have hS15_new : mKd S15 a16 = 2 := by rw [eS15, mKd_new, if_pos ea16]
            refine J_dup dX5_frame_56 rfl ?_
            refine J_aload_n 0 dX5_frame_57 rfl rfl ?_
            refine J_get (k := 1) (v := .int (mI S15 a0 1)) dX5_frame_58 gF_X5_41 hS15_a0 rfl ?_
            refine J_iload_n 1 dX5_frame_61 rfl rfl ?_
            refine J_iload_n 2 dX5_frame_62 rfl rfl ?_
            obtain ⟨S19, eS19, h20⟩ := bnd_some h18; clear h18
            have cS19 := (t_X1_init hS15_new eS19)
            have lS19 : jle MX S15 S19 := cS19.1
            have hS19_a0 : mKd S19 a0 = 6 := kd_le lS19 hS15_a0
            have hS19_a16 : mKd S19 a16 = 2 := kd_le lS19 hS15_new
            refine J_callI (As := [.int (mI S15 a0 1), .int i1, .int i2]) (rest := [.ref a16, .int (mI S a0 1), va_rf (mR S a0 0)]) (st' := [.ref a16, .int (mI S a0 1), va_rf (mR S a0 0)]) cS19 gC_X1_init gM_X5_48 rfl rfl (by decide) (by decide) rfl rfl (by simp only [List.map_cons, List.map_nil, List.sum_cons, List.sum_nil, va_rf_cat]; exact Nat.le_of_ble_eq_true rfl) dX5_frame_63 ?_
            obtain ⟨a21, ea21, ka21, h22⟩ := ob_some h20; clear h20
            rw [ea21]
            refine J_lvst (lv' := [(0, .ref a0), (1, .int i1), (2, .int i2)]) (st' := [.ref a16, .int (mI S a0 1), .ref a21]) rfl rfl ?_
            obtain ⟨g23, h24⟩ := gd_some h22; clear h22
            refine J_aast (z := 3) dX5_frame_66 (fun _ => rfl) (fun _ _ => rfl) jCl1 (by decide) (by decide) hS19_a16 ka21 g23 ?_
            obtain ⟨S25, eS25, h26⟩ := jLet_some h24; clear h24
            refine J_topS eS25 ?_
            have hS25_a0 : mKd S25 a0 = 6 := by rw [eS25]; exact hS19_a0
            have hS25_a16 : mKd S25 a16 = 2 := by rw [eS25]; exact hS19_a16
            have hS25_a21 : mKd S25 a21 = 11 := by rw [eS25]; exact ka21
            refine J_aload_n 0 dX5_frame_67 rfl rfl ?_
            refine J_dup dX5_frame_68 rfl ?_
            refine J_get (k := 1) (v := .int (mI S25 a0 1)) dX5_frame_69 gF_X5_41 hS25_a0 rfl ?_
            refine J_iconst (1 : Int32) dX5_frame_72 (by decide) ?_
            refine J_iadd dX5_frame_73 ?_
            obtain ⟨i27_, ei27_, h28⟩ := jLet_some h26; clear h26
            refine J_topI ei27_ ?_
            refine J_putI (k := 1) dX5_frame_74 gW_X5_41 hS25_a0 rfl ?_
            obtain ⟨S29, eS29, h30⟩ := jLet_some h28; clear h28
            refine J_topS eS29 ?_
            have hS29_a0 : mKd S29 a0 = 6 := by rw [eS29]; exact hS25_a0
            have hS29_a16 : mKd S29 a16 = 2 := by rw [eS29]; exact hS25_a16
            have hS29_a21 : mKd S29 a21 = 11 := by rw [eS29]; exact hS25_a21
            refine J_aload_n 0 dX5_frame_77 rfl rfl ?_
            refine J_get (k := 1) (v := .int (mI S29 a0 1)) dX5_frame_78 gF_X5_41 hS29_a0 rfl ?_
            refine J_iconst (1 : Int32) dX5_frame_81 (by decide) ?_
            refine J_isub dX5_frame_82 ?_
            have hw := Option.some.inj h30; subst hw
            exact J_iret rfl dX5_frame_83
          · clear h12
            refine J_aload_n 0 dX5_frame_39 rfl rfl ?_
            refine J_iconst (4 : Int32) dX5_frame_40 (by decide) ?_
            obtain ⟨i31_, S32, ei31_, h33⟩ := bnd2_some h14; clear h14
            have cS32 := (t_X5_faulted ha ei31_)
            have lS32 : jle MX S S32 := cS32.1
            have hS32_a0 : mKd S32 a0 = 6 := kd_le lS32 ha
            refine J_callV (As := [.int (4 : Int32)]) (rest := []) (st' := [.int i31_]) cS32 gC_X5_faulted gM_X5_45 (mRecv ha (by decide) jCl5) rfl (by decide) (by decide) rfl rfl (Nat.le_of_ble_eq_true rfl) dX5_frame_41 ?_
            have hw := Option.some.inj h33; subst hw
            exact J_iret rfl dX5_frame_44
        · clear h10
          refine J_bipush (-4 : Int32) dX5_frame_32 (by decide) ?_
          have hw := Option.some.inj h12; subst hw
          exact J_iret rfl dX5_frame_34
      · clear h8
        refine J_bipush (-2 : Int32) dX5_frame_20 (by decide) ?_
        have hw := Option.some.inj h10; subst hw
        exact J_iret rfl dX5_frame_22
def c_X5_known (S : Mem) (a0 : Nat) (i1 : Int32) : Option (Option Nat) :=
  if i1 < 0 then
    (some none)
  else
    (if i1 < (mI S a0 1) then
      (bnd (ob S (mR S a0 0) 11) fun a5 =>
      gd (inB i1 (mLn S a5)) <|
      some (mR S a5 (Int32.toNatClampNeg i1)))
    else
      (some none))
set_option maxRecDepth 100000 in
set_option maxHeartbeats 4000000 in
theorem t_X5_known {S : Mem} {a0 : Nat} {i1 : Int32} {w : (Option Nat)} (ha : mKd S a0 = 6) (h : c_X5_known S a0 i1 = some w) : CT MX yX5_known cX5_known 2 (some (.object "BeadSchool$Frame")) 0 0 [.ref a0, .int i1] S (some (va_rf w)) S := by
  refine CT.of (lv := [(0, .ref a0), (1, .int i1)]) (by decide) rfl (Nat.le_of_ble_eq_true rfl) ?_
  refine J_iload_n 1 dX5_known_0 rfl rfl ?_
  refine J_if_lt 12 dX5_known_1 (by decide) h (fun c1 h2 => ?_) (fun c1 h2 => ?_)
  · clear h
    refine J_null dX5_known_12 ?_
    refine J_goto 22 dX5_known_13 (by decide) ?_
    have hw := Option.some.inj h2; subst hw
    exact J_aretq (x := none) rfl dX5_known_22
  · clear h
    refine J_iload_n 1 dX5_known_4 rfl rfl ?_
    refine J_aload_n 0 dX5_known_5 rfl rfl ?_
    refine J_get (k := 1) (v := .int (mI S a0 1)) dX5_known_6 gF_X5_41 ha rfl ?_
    refine J_icmp_lt 16 dX5_known_9 (by decide) h2 (fun c3 h4 => ?_) (fun c3 h4 => ?_)
    · clear h2
      refine J_aload_n 0 dX5_known_16 rfl rfl ?_
      refine J_get (k := 0) (v := va_rf (mR S a0 0)) dX5_known_17 gF_X5_13 ha rfl ?_
      refine J_iload_n 1 dX5_known_20 rfl rfl ?_
      obtain ⟨a5, ea5, ka5, h6⟩ := ob_some h4; clear h4
      rw [ea5]
      refine J_lvst (lv' := [(0, .ref a0), (1, .int i1)]) (st' := [.int i1, .ref a5]) rfl rfl ?_
      obtain ⟨g7, h8⟩ := gd_some h6; clear h6
      refine J_aald (z := 3) (C := RX1) dX5_known_21 (fun _ => rfl) (fun _ _ => rfl) ka5 g7 ?_
      have hw := Option.some.inj h8; subst hw
      exact J_aretq (x := (mR S a5 (Int32.toNatClampNeg i1))) rfl dX5_known_22
    · clear h2
      refine J_null dX5_known_12 ?_
      refine J_goto 22 dX5_known_13 (by decide) ?_
      have hw := Option.some.inj h4; subst hw
      exact J_aretq (x := none) rfl dX5_known_22
def c_X5_both (S : Mem) (a0 : Nat) (i1 : Int32) (i2 : Int32) : Option (Int32 × Mem) :=
  bnd (c_X5_known S a0 i1) fun r1_ =>
  bnd (c_X5_known S a0 i2) fun r3_ =>
  oc r1_
    (some ((-1 : Int32), S))
    (fun a5 =>
      oc r3_
        (some ((-1 : Int32), S))
        (fun a7 =>
          gd (kb S a5 2) <|
          gd (kb S a7 2) <|
          if (mI S a5 2) = (mI S a7 2) then
            (if ((mI S a5 4) &&& (mI S a7 4)) = 0 then
              (bnd (ob S (mR S a5 5) 12) fun a17 =>
              bnd (ob S (mR S a7 5) 12) fun a19 =>
              bnd (c_X5_mostRods (mI S a5 2)) fun i21_ =>
              if i21_ < ((nI (mLn S a17)) + (nI (mLn S a19))) then
                (some ((-3 : Int32), S))
              else
                (if (if (mI S a5 3) < (mI S a7 3) then (mI S a7 3) else (mI S a5 3)) < (5 : Int32) then
                  (if (mI S a0 1) < (30 : Int32) then
                    (jLet (mNx S) fun a30 =>
                    jLet (mNew S 2 0 (cN 1)) fun S29 =>
                    bnd (c_X1_init_ S29 a30 (mI S29 a0 1) (some a5) (some a7)) fun S33 =>
                    bnd (ob S33 (mR S a0 0) 11) fun a35 =>
                    gd (inB (mI S a0 1) (mLn S33 a35)) <|
                    jLet (mSR S33 a35 (Int32.toNatClampNeg (mI S a0 1)) (some a30)) fun S39 =>
                    jLet (((mI S39 a0 1) + (1 : Int32))) fun i41_ =>
                    jLet (mSI S39 a0 1 i41_) fun S43 =>
                    some (((mI S43 a0 1) - (1 : Int32)), S43))
                  else
                    (some ((-4 : Int32), S)))
                else
                  (some ((-3 : Int32), S))))
            else
              (some ((-3 : Int32), S)))
          else
            (some ((-3 : Int32), S))))
set_option maxRecDepth 100000 in
set_option maxHeartbeats 4000000 in
theorem t_X5_both {S : Mem} {a0 : Nat} {i1 : Int32} {i2 : Int32} {w : (Int32 × Mem)} (ha : mKd S a0 = 6) (h : c_X5_both S a0 i1 i2 = some w) : CT MX yX5_both cX5_both 5 (some .int) 2 65 [.ref a0, .int i1, .int i2] S (some (.int w.1)) w.2 := by
  refine CT.of (lv := [(0, .ref a0), (1, .int i1), (2, .int i2)]) (by decide) rfl (Nat.le_of_ble_eq_true rfl) ?_
  refine J_aload_n 0 dX5_both_0 rfl rfl ?_
  refine J_iload_n 1 dX5_both_1 rfl rfl ?_
  obtain ⟨r1_, er1_, h2⟩ := bnd_some h; clear h
  refine J_callV (As := [.int i1]) (rest := []) (st' := [va_rf r1_]) (t_X5_known ha er1_) gC_X5_known gM_X5_51 (mRecv ha (by decide) jCl5) rfl (by decide) (by decide) rfl rfl (Nat.le_of_ble_eq_true rfl) dX5_both_2 ?_
  refine J_astore_nq dX5_both_5 rfl (by decide) [1, 3, 0] (lv' := [(0, .ref a0), (2, .int i2), (3, va_rf r1_)]) rfl ?_
  refine J_aload_n 0 dX5_both_6 rfl rfl ?_
  refine J_iload_n 1 dX5_both_7 rfl rfl ?_
  obtain ⟨r3_, er3_, h4⟩ := bnd_some h2; clear h2
  refine J_callV (As := [.int i2]) (rest := []) (st' := [va_rf r3_]) (t_X5_known ha er3_) gC_X5_known gM_X5_51 (mRecv ha (by decide) jCl5) rfl (by decide) (by decide) rfl rfl (Nat.le_of_ble_eq_true rfl) dX5_both_8 ?_
  refine J_astoreq dX5_both_11 (by decide) [1, 3, 0] (lv' := [(0, .ref a0), (3, va_rf r1_), (4, va_rf r3_)]) (by cases r1_ <;> rfl) ?_
  refine J_aload_nq 1 dX5_both_13 rfl rfl ?_
  refine J_ifnull 22 dX5_both_14 (by decide) h4 (fun ea5 h6 => ?_) (fun a5 ea5 h6 => ?_)
  · clear h4
    subst ea5
    refine J_lvst (lv' := [(0, .ref a0), (3, va_rf none), (4, va_rf r3_)]) (st' := []) rfl rfl ?_
    refine J_iconst (-1 : Int32) dX5_both_22 (by decide) ?_
    have hw := Option.some.inj h6; subst hw
    exact J_iret rfl dX5_both_23
  · clear h4
    subst ea5
    refine J_lvst (lv' := [(0, .ref a0), (3, .ref a5), (4, va_rf r3_)]) (st' := []) rfl rfl ?_
    refine J_aloadq 2 dX5_both_17 rfl ?_
    refine J_ifnonnull 24 dX5_both_19 (by decide) h6 (fun ea7 h8 => ?_) (fun a7 ea7 h8 => ?_)
    · clear h6
      subst ea7
      refine J_lvst (lv' := [(0, .ref a0), (3, .ref a5), (4, va_rf none)]) (st' := []) rfl rfl ?_
      refine J_iconst (-1 : Int32) dX5_both_22 (by decide) ?_
      have hw := Option.some.inj h8; subst hw
      exact J_iret rfl dX5_both_23
    · clear h6
      subst ea7
      refine J_lvst (lv' := [(0, .ref a0), (3, .ref a5), (4, .ref a7)]) (st' := []) rfl rfl ?_
      refine J_aload_n 1 dX5_both_24 rfl rfl ?_
      obtain ⟨g9, h10⟩ := gd_some h8; clear h8
      have kg9 := kb_of g9
      refine J_get (k := 2) (v := .int (mI S a5 2)) dX5_both_25 gF_X5_55 kg9 rfl ?_
      refine J_aload 2 dX5_both_28 rfl ?_
      obtain ⟨g11, h12⟩ := gd_some h10; clear h10
      have kg11 := kb_of g11
      refine J_get (k := 2) (v := .int (mI S a7 2)) dX5_both_30 gF_X5_55 kg11 rfl ?_
      refine J_icmp_ne 87 dX5_both_33 (by decide) h12 (fun c13 h14 => ?_) (fun c13 h14 => ?_)
      · clear h12
        refine J_aload_n 1 dX5_both_36 rfl rfl ?_
        refine J_get (k := 4) (v := .int (mI S a5 4)) dX5_both_37 gF_X5_58 kg9 rfl ?_
        refine J_aload 2 dX5_both_40 rfl ?_
        refine J_get (k := 4) (v := .int (mI S a7 4)) dX5_both_42 gF_X5_58 kg11 rfl ?_
        refine J_iand dX5_both_45 ?_
        refine J_if_ne 87 dX5_both_46 (by decide) h14 (fun c15 h16 => ?_) (fun c15 h16 => ?_)
        · clear h14
          refine J_aload_n 1 dX5_both_49 rfl rfl ?_
          refine J_get (k := 5) (v := va_rf (mR S a5 5)) dX5_both_50 gF_X5_61 kg9 rfl ?_
          obtain ⟨a17, ea17, ka17, h18⟩ := ob_some h16; clear h16
          rw [ea17]
          refine J_lvst (lv' := [(0, .ref a0), (3, .ref a5), (4, .ref a7)]) (st' := [.ref a17]) rfl rfl ?_
          refine J_alen (z := 4) dX5_both_53 (fun _ => rfl) ka17 ?_
          refine J_aload 2 dX5_both_54 rfl ?_
          refine J_get (k := 5) (v := va_rf (mR S a7 5)) dX5_both_56 gF_X5_61 kg11 rfl ?_
          obtain ⟨a19, ea19, ka19, h20⟩ := ob_some h18; clear h18
          rw [ea19]
          refine J_lvst (lv' := [(0, .ref a0), (3, .ref a5), (4, .ref a7)]) (st' := [.ref a19, .int (nI (mLn S a17))]) rfl rfl ?_
          refine J_alen (z := 4) dX5_both_59 (fun _ => rfl) ka19 ?_
          refine J_iadd dX5_both_60 ?_
          refine J_aload_n 1 dX5_both_61 rfl rfl ?_
          refine J_get (k := 2) (v := .int (mI S a5 2)) dX5_both_62 gF_X5_55 kg9 rfl ?_
          obtain ⟨i21_, ei21_, h22⟩ := bnd_some h20; clear h20
          refine J_callS (As := [.int (mI S a5 2)]) (rest := [.int ((nI (mLn S a17)) + (nI (mLn S a19)))]) (st' := [.int i21_, .int ((nI (mLn S a17)) + (nI (mLn S a19)))]) (t_X5_mostRods ei21_) gC_X5_mostRods gM_X5_38 rfl (by decide) (by decide) rfl rfl (Nat.le_of_ble_eq_true rfl) dX5_both_65 ?_
          refine J_icmp_gt 87 dX5_both_68 (by decide) h22 (fun c23 h24 => ?_) (fun c23 h24 => ?_)
          · clear h22
            refine J_bipush (-3 : Int32) dX5_both_87 (by decide) ?_
            have hw := Option.some.inj h24; subst hw
            exact J_iret rfl dX5_both_89
          · clear h22
            refine J_aload_n 1 dX5_both_71 rfl rfl ?_
            refine J_get (k := 3) (v := .int (mI S a5 3)) dX5_both_72 gF_X5_65 kg9 rfl ?_
            refine J_aload 2 dX5_both_75 rfl ?_
            refine J_get (k := 3) (v := .int (mI S a7 3)) dX5_both_77 gF_X5_65 kg11 rfl ?_
            refine J_mmax dX5_both_80 gM_X5_68 (by decide) (by decide) (Nat.le_of_ble_eq_true rfl) ?_
            refine J_iconst (5 : Int32) dX5_both_83 (by decide) ?_
            refine J_icmp_lt 90 dX5_both_84 (by decide) h24 (fun c25 h26 => ?_) (fun c25 h26 => ?_)
            · clear h24
              refine J_aload_n 0 dX5_both_90 rfl rfl ?_
              refine J_get (k := 1) (v := .int (mI S a0 1)) dX5_both_91 gF_X5_41 ha rfl ?_
              refine J_bipush (30 : Int32) dX5_both_94 (by decide) ?_
              refine J_icmp_lt 102 dX5_both_96 (by decide) h26 (fun c27 h28 => ?_) (fun c27 h28 => ?_)
              · clear h26
                refine J_aload_n 0 dX5_both_102 rfl rfl ?_
                refine J_get (k := 0) (v := va_rf (mR S a0 0)) dX5_both_103 gF_X5_13 ha rfl ?_
                refine J_aload_n 0 dX5_both_106 rfl rfl ?_
                refine J_get (k := 1) (v := .int (mI S a0 1)) dX5_both_107 gF_X5_41 ha rfl ?_
                refine J_new dX5_both_110 jCl1 (by decide) (by decide +kernel) gN_X5_11 ?_
                obtain ⟨a30, ea30, h31⟩ := jLet_some h28; clear h28
                obtain ⟨S29, eS29, h32⟩ := jLet_some h31; clear h31
                rw [← ea30]
                refine J_topS eS29 ?_
                have lS29 : jle MX S S29 := by rw [eS29]; exact mNew_le _ _ _ _
                have hS29_a0 : mKd S29 a0 = 6 := kd_le lS29 ha
                have hS29_a5 : mKd S29 a5 = 2 := kd_le lS29 kg9
                have hS29_a7 : mKd S29 a7 = 2 := kd_le lS29 kg11
                have hS29_a17 : mKd S29 a17 = 12 := kd_le lS29 ka17
                have hS29_a19 : mKd S29 a19 = 12 := kd_le lS29 ka19
                have hS29_new : mKd S29 a30 = 2 := by rw [eS29, mKd_new, if_pos ea30]
                refine J_dup dX5_both_113 rfl ?_
                refine J_aload_n 0 dX5_both_114 rfl rfl ?_
                refine J_get (k := 1) (v := .int (mI S29 a0 1)) dX5_both_115 gF_X5_41 hS29_a0 rfl ?_
                refine J_aload_n 1 dX5_both_118 rfl rfl ?_
                refine J_aload 2 dX5_both_119 rfl ?_
                obtain ⟨S33, eS33, h34⟩ := bnd_some h32; clear h32
                have cS33 := (t_X1_init_ hS29_new eS33)
                have lS33 : jle MX S29 S33 := cS33.1
                have hS33_a0 : mKd S33 a0 = 6 := kd_le lS33 hS29_a0
                have hS33_a5 : mKd S33 a5 = 2 := kd_le lS33 hS29_a5
                have hS33_a7 : mKd S33 a7 = 2 := kd_le lS33 hS29_a7
                have hS33_a17 : mKd S33 a17 = 12 := kd_le lS33 hS29_a17
                have hS33_a19 : mKd S33 a19 = 12 := kd_le lS33 hS29_a19
                have hS33_a30 : mKd S33 a30 = 2 := kd_le lS33 hS29_new
                refine J_callI (As := [.int (mI S29 a0 1), .ref a5, .ref a7]) (rest := [.ref a30, .int (mI S a0 1), va_rf (mR S a0 0)]) (st' := [.ref a30, .int (mI S a0 1), va_rf (mR S a0 0)]) cS33 gC_X1_init_ gM_X5_74 rfl rfl (by decide) (by decide) rfl rfl (by simp only [List.map_cons, List.map_nil, List.sum_cons, List.sum_nil, va_rf_cat]; exact Nat.le_of_ble_eq_true rfl) dX5_both_121 ?_
                obtain ⟨a35, ea35, ka35, h36⟩ := ob_some h34; clear h34
                rw [ea35]
                refine J_lvst (lv' := [(0, .ref a0), (3, .ref a5), (4, .ref a7)]) (st' := [.ref a30, .int (mI S a0 1), .ref a35]) rfl rfl ?_
                obtain ⟨g37, h38⟩ := gd_some h36; clear h36
                refine J_aast (z := 3) dX5_both_124 (fun _ => rfl) (fun _ _ => rfl) jCl1 (by decide) (by decide) hS33_a30 ka35 g37 ?_
                obtain ⟨S39, eS39, h40⟩ := jLet_some h38; clear h38
                refine J_topS eS39 ?_
                have hS39_a0 : mKd S39 a0 = 6 := by rw [eS39]; exact hS33_a0
                have hS39_a5 : mKd S39 a5 = 2 := by rw [eS39]; exact hS33_a5
                have hS39_a7 : mKd S39 a7 = 2 := by rw [eS39]; exact hS33_a7
                have hS39_a17 : mKd S39 a17 = 12 := by rw [eS39]; exact hS33_a17
                have hS39_a19 : mKd S39 a19 = 12 := by rw [eS39]; exact hS33_a19
                have hS39_a30 : mKd S39 a30 = 2 := by rw [eS39]; exact hS33_a30
                have hS39_a35 : mKd S39 a35 = 11 := by rw [eS39]; exact ka35
                refine J_aload_n 0 dX5_both_125 rfl rfl ?_
                refine J_dup dX5_both_126 rfl ?_
                refine J_get (k := 1) (v := .int (mI S39 a0 1)) dX5_both_127 gF_X5_41 hS39_a0 rfl ?_
                refine J_iconst (1 : Int32) dX5_both_130 (by decide) ?_
                refine J_iadd dX5_both_131 ?_
                obtain ⟨i41_, ei41_, h42⟩ := jLet_some h40; clear h40
                refine J_topI ei41_ ?_
                refine J_putI (k := 1) dX5_both_132 gW_X5_41 hS39_a0 rfl ?_
                obtain ⟨S43, eS43, h44⟩ := jLet_some h42; clear h42
                refine J_topS eS43 ?_
                have hS43_a0 : mKd S43 a0 = 6 := by rw [eS43]; exact hS39_a0
                have hS43_a5 : mKd S43 a5 = 2 := by rw [eS43]; exact hS39_a5
                have hS43_a7 : mKd S43 a7 = 2 := by rw [eS43]; exact hS39_a7
                have hS43_a17 : mKd S43 a17 = 12 := by rw [eS43]; exact hS39_a17
                have hS43_a19 : mKd S43 a19 = 12 := by rw [eS43]; exact hS39_a19
                have hS43_a30 : mKd S43 a30 = 2 := by rw [eS43]; exact hS39_a30
                have hS43_a35 : mKd S43 a35 = 11 := by rw [eS43]; exact hS39_a35
                refine J_aload_n 0 dX5_both_135 rfl rfl ?_
                refine J_get (k := 1) (v := .int (mI S43 a0 1)) dX5_both_136 gF_X5_41 hS43_a0 rfl ?_
                refine J_iconst (1 : Int32) dX5_both_139 (by decide) ?_
                refine J_isub dX5_both_140 ?_
                have hw := Option.some.inj h44; subst hw
                exact J_iret rfl dX5_both_141
              · clear h26
                refine J_bipush (-4 : Int32) dX5_both_99 (by decide) ?_
                have hw := Option.some.inj h28; subst hw
                exact J_iret rfl dX5_both_101
            · clear h24
              refine J_bipush (-3 : Int32) dX5_both_87 (by decide) ?_
              have hw := Option.some.inj h26; subst hw
              exact J_iret rfl dX5_both_89
        · clear h14
          refine J_bipush (-3 : Int32) dX5_both_87 (by decide) ?_
          have hw := Option.some.inj h16; subst hw
          exact J_iret rfl dX5_both_89
      · clear h12
        refine J_bipush (-3 : Int32) dX5_both_87 (by decide) ?_
        have hw := Option.some.inj h14; subst hw
        exact J_iret rfl dX5_both_89
def c_X5_rod_J34 (S : Mem) (a0 : Nat) (i2 : Int32) (i3 : Int32) (r4 : Option Nat) (is0 : Int32) (is1 : Int32) : Option (Int32 × Mem) :=
  if is0 ≤ is1 then
    (bnd (ob S r4 2) fun a3 =>
    if (mI S a3 1) = (4 : Int32) then
      (bnd2 (c_X5_faulted S a0 (3 : Int32)) fun i7_ S8 =>
      some (i7_, S8))
    else
      (bnd (c_X1_holds S a3 i2) fun i10_ =>
      if i10_ = 0 then
        (bnd2 (c_X5_faulted S a0 (2 : Int32)) fun i14_ S15 =>
        some (i14_, S15))
      else
        (bnd (ob S (mR S a3 5) 12) fun a17 =>
        gd (inB i2 (mLn S a17)) <|
        bnd (ob S (mR S a17 (Int32.toNatClampNeg i2)) 5) fun a21 =>
        bnd (c_X4_renew S a21 i3) fun S23 =>
        bnd (ob S23 (mR S23 a0 4) 4) fun a25 =>
        jLet (mSI S23 a25 4 (1 : Int32)) fun S27 =>
        some ((1 : Int32), S27))))
  else
    (some ((-2 : Int32), S))
set_option maxRecDepth 100000 in
set_option maxHeartbeats 4000000 in
theorem t_X5_rod_J34 {S : Mem} {a0 : Nat} {i2 : Int32} {i3 : Int32} {r4 : Option Nat} {is0 : Int32} {is1 : Int32} {w : (Int32 × Mem)} (ha : mKd S a0 = 6) (h : c_X5_rod_J34 S a0 i2 i3 r4 is0 is1 = some w) : J MX yX5_rod cX5_rod 5 (some .int) 1 21 34 [(0, .ref a0), (2, .int i2), (3, .int i3), (4, va_rf r4)] [.int is1, .int is0] S (some (.int w.1)) w.2 := by
  refine J_icmp_le 40 dX5_rod_34 (by decide) h (fun c1 h2 => ?_) (fun c1 h2 => ?_)
  · clear h
    refine J_aloadq 3 dX5_rod_40 rfl ?_
    obtain ⟨a3, ea3, ka3, h4⟩ := ob_some h2; clear h2
    subst ea3
    refine J_lvst (lv' := [(0, .ref a0), (2, .int i2), (3, .int i3), (4, .ref a3)]) (st' := [.ref a3]) rfl rfl ?_
    refine J_get (k := 1) (v := .int (mI S a3 1)) dX5_rod_42 gF_X5_77 ka3 rfl ?_
    refine J_iconst (4 : Int32) dX5_rod_45 (by decide) ?_
    refine J_icmp_ne 55 dX5_rod_46 (by decide) h4 (fun c5 h6 => ?_) (fun c5 h6 => ?_)
    · clear h4
      refine J_aload_n 0 dX5_rod_49 rfl rfl ?_
      refine J_iconst (3 : Int32) dX5_rod_50 (by decide) ?_
      obtain ⟨i7_, S8, ei7_, h9⟩ := bnd2_some h6; clear h6
      have cS8 := (t_X5_faulted ha ei7_)
      have lS8 : jle MX S S8 := cS8.1
      have hS8_a0 : mKd S8 a0 = 6 := kd_le lS8 ha
      have hS8_a3 : mKd S8 a3 = 2 := kd_le lS8 ka3
      refine J_callV (As := [.int (3 : Int32)]) (rest := []) (st' := [.int i7_]) cS8 gC_X5_faulted gM_X5_45 (mRecv ha (by decide) jCl5) rfl (by decide) (by decide) rfl rfl (Nat.le_of_ble_eq_true rfl) dX5_rod_51 ?_
      have hw := Option.some.inj h9; subst hw
      exact J_iret rfl dX5_rod_54
    · clear h4
      refine J_aload 3 dX5_rod_55 rfl ?_
      refine J_iload_n 1 dX5_rod_57 rfl rfl ?_
      obtain ⟨i10_, ei10_, h11⟩ := bnd_some h6; clear h6
      refine J_callV (As := [.int i2]) (rest := []) (st' := [.int i10_]) (t_X1_holds ka3 ei10_) gC_X1_holds gM_X5_80 (mRecv ka3 (by decide) jCl1) rfl (by decide) (by decide) rfl rfl (Nat.le_of_ble_eq_true rfl) dX5_rod_58 ?_
      refine J_if_ne 70 dX5_rod_61 (by decide) h11 (fun c12 h13 => ?_) (fun c12 h13 => ?_)
      · clear h11
        refine J_aload_n 0 dX5_rod_64 rfl rfl ?_
        refine J_iconst (2 : Int32) dX5_rod_65 (by decide) ?_
        obtain ⟨i14_, S15, ei14_, h16⟩ := bnd2_some h13; clear h13
        have cS15 := (t_X5_faulted ha ei14_)
        have lS15 : jle MX S S15 := cS15.1
        have hS15_a0 : mKd S15 a0 = 6 := kd_le lS15 ha
        have hS15_a3 : mKd S15 a3 = 2 := kd_le lS15 ka3
        refine J_callV (As := [.int (2 : Int32)]) (rest := []) (st' := [.int i14_]) cS15 gC_X5_faulted gM_X5_45 (mRecv ha (by decide) jCl5) rfl (by decide) (by decide) rfl rfl (Nat.le_of_ble_eq_true rfl) dX5_rod_66 ?_
        have hw := Option.some.inj h16; subst hw
        exact J_iret rfl dX5_rod_69
      · clear h11
        refine J_aload 3 dX5_rod_70 rfl ?_
        refine J_get (k := 5) (v := va_rf (mR S a3 5)) dX5_rod_72 gF_X5_61 ka3 rfl ?_
        refine J_iload_n 1 dX5_rod_75 rfl rfl ?_
        obtain ⟨a17, ea17, ka17, h18⟩ := ob_some h13; clear h13
        rw [ea17]
        refine J_lvst (lv' := [(0, .ref a0), (2, .int i2), (3, .int i3), (4, .ref a3)]) (st' := [.int i2, .ref a17]) rfl rfl ?_
        obtain ⟨g19, h20⟩ := gd_some h18; clear h18
        refine J_aald (z := 4) (C := RX4) dX5_rod_76 (fun _ => rfl) (fun _ _ => rfl) ka17 g19 ?_
        refine J_iload_n 2 dX5_rod_77 rfl rfl ?_
        obtain ⟨a21, ea21, ka21, h22⟩ := ob_some h20; clear h20
        rw [ea21]
        refine J_lvst (lv' := [(0, .ref a0), (2, .int i2), (3, .int i3), (4, .ref a3)]) (st' := [.int i3, .ref a21]) rfl rfl ?_
        obtain ⟨S23, eS23, h24⟩ := bnd_some h22; clear h22
        have cS23 := (t_X4_renew ka21 eS23)
        have lS23 : jle MX S S23 := cS23.1
        have hS23_a0 : mKd S23 a0 = 6 := kd_le lS23 ha
        have hS23_a3 : mKd S23 a3 = 2 := kd_le lS23 ka3
        have hS23_a17 : mKd S23 a17 = 12 := kd_le lS23 ka17
        have hS23_a21 : mKd S23 a21 = 5 := kd_le lS23 ka21
        refine J_callV (As := [.int i3]) (rest := []) (st' := []) cS23 gC_X4_renew gM_X5_84 (mRecv ka21 (by decide) jCl4) rfl (by decide) (by decide) rfl rfl (Nat.le_of_ble_eq_true rfl) dX5_rod_78 ?_
        refine J_aload_n 0 dX5_rod_81 rfl rfl ?_
        refine J_get (k := 4) (v := va_rf (mR S23 a0 4)) dX5_rod_82 gF_X5_26 hS23_a0 rfl ?_
        refine J_iconst (1 : Int32) dX5_rod_85 (by decide) ?_
        obtain ⟨a25, ea25, ka25, h26⟩ := ob_some h24; clear h24
        rw [ea25]
        refine J_lvst (lv' := [(0, .ref a0), (2, .int i2), (3, .int i3), (4, .ref a3)]) (st' := [.int (1 : Int32), .ref a25]) rfl rfl ?_
        refine J_putZ (k := 4) dX5_rod_86 gW_X5_90 ka25 rfl (by decide) ?_
        obtain ⟨S27, eS27, h28⟩ := jLet_some h26; clear h26
        refine J_topS eS27 ?_
        have hS27_a0 : mKd S27 a0 = 6 := by rw [eS27]; exact hS23_a0
        have hS27_a3 : mKd S27 a3 = 2 := by rw [eS27]; exact hS23_a3
        have hS27_a17 : mKd S27 a17 = 12 := by rw [eS27]; exact hS23_a17
        have hS27_a21 : mKd S27 a21 = 5 := by rw [eS27]; exact hS23_a21
        have hS27_a25 : mKd S27 a25 = 4 := by rw [eS27]; exact ka25
        refine J_iconst (1 : Int32) dX5_rod_89 (by decide) ?_
        have hw := Option.some.inj h28; subst hw
        exact J_iret rfl dX5_rod_90
  · clear h
    refine J_bipush (-2 : Int32) dX5_rod_37 (by decide) ?_
    have hw := Option.some.inj h2; subst hw
    exact J_iret rfl dX5_rod_39
def c_X5_rod (S : Mem) (a0 : Nat) (i1 : Int32) (i2 : Int32) (i3 : Int32) : Option (Int32 × Mem) :=
  bnd (c_X5_known S a0 i1) fun r1_ =>
  oc r1_
    (some ((-1 : Int32), S))
    (fun a3 =>
      if i3 < (-1 : Int32) then
        (some ((-2 : Int32), S))
      else
        (gd (kb S a3 2) <|
        if (mI S a3 1) = (2 : Int32) then
          (c_X5_rod_J34 S a0 i2 i3 (some a3) i3 (1 : Int32))
        else
          (c_X5_rod_J34 S a0 i2 i3 (some a3) i3 (2 : Int32))))
set_option maxRecDepth 100000 in
set_option maxHeartbeats 4000000 in
theorem t_X5_rod {S : Mem} {a0 : Nat} {i1 : Int32} {i2 : Int32} {i3 : Int32} {w : (Int32 × Mem)} (ha : mKd S a0 = 6) (h : c_X5_rod S a0 i1 i2 i3 = some w) : CT MX yX5_rod cX5_rod 5 (some .int) 1 21 [.ref a0, .int i1, .int i2, .int i3] S (some (.int w.1)) w.2 := by
  refine CT.of (lv := [(0, .ref a0), (1, .int i1), (2, .int i2), (3, .int i3)]) (by decide) rfl (Nat.le_of_ble_eq_true rfl) ?_
  refine J_aload_n 0 dX5_rod_0 rfl rfl ?_
  refine J_iload_n 1 dX5_rod_1 rfl rfl ?_
  obtain ⟨r1_, er1_, h2⟩ := bnd_some h; clear h
  refine J_callV (As := [.int i1]) (rest := []) (st' := [va_rf r1_]) (t_X5_known ha er1_) gC_X5_known gM_X5_51 (mRecv ha (by decide) jCl5) rfl (by decide) (by decide) rfl rfl (Nat.le_of_ble_eq_true rfl) dX5_rod_2 ?_
  refine J_astoreq dX5_rod_5 (by decide) [1, 3, 4, 0] (lv' := [(0, .ref a0), (2, .int i2), (3, .int i3), (4, va_rf r1_)]) rfl ?_
  refine J_aloadq 3 dX5_rod_7 rfl ?_
  refine J_ifnonnull 14 dX5_rod_9 (by decide) h2 (fun ea3 h4 => ?_) (fun a3 ea3 h4 => ?_)
  · clear h2
    subst ea3
    refine J_lvst (lv' := [(0, .ref a0), (2, .int i2), (3, .int i3), (4, va_rf none)]) (st' := []) rfl rfl ?_
    refine J_iconst (-1 : Int32) dX5_rod_12 (by decide) ?_
    have hw := Option.some.inj h4; subst hw
    exact J_iret rfl dX5_rod_13
  · clear h2
    subst ea3
    refine J_lvst (lv' := [(0, .ref a0), (2, .int i2), (3, .int i3), (4, .ref a3)]) (st' := []) rfl rfl ?_
    refine J_iload_n 2 dX5_rod_14 rfl rfl ?_
    refine J_iconst (-1 : Int32) dX5_rod_15 (by decide) ?_
    refine J_icmp_lt 37 dX5_rod_16 (by decide) h4 (fun c5 h6 => ?_) (fun c5 h6 => ?_)
    · clear h4
      refine J_bipush (-2 : Int32) dX5_rod_37 (by decide) ?_
      have hw := Option.some.inj h6; subst hw
      exact J_iret rfl dX5_rod_39
    · clear h4
      refine J_iload_n 2 dX5_rod_19 rfl rfl ?_
      refine J_aload 3 dX5_rod_20 rfl ?_
      obtain ⟨g7, h8⟩ := gd_some h6; clear h6
      have kg7 := kb_of g7
      refine J_get (k := 1) (v := .int (mI S a3 1)) dX5_rod_22 gF_X5_77 kg7 rfl ?_
      refine J_iconst (2 : Int32) dX5_rod_25 (by decide) ?_
      refine J_icmp_ne 33 dX5_rod_26 (by decide) h8 (fun c9 h10 => ?_) (fun c9 h10 => ?_)
      · clear h8
        refine J_iconst (1 : Int32) dX5_rod_29 (by decide) ?_
        refine J_goto 34 dX5_rod_30 (by decide) ?_
        exact t_X5_rod_J34 ha h10
      · clear h8
        refine J_iconst (2 : Int32) dX5_rod_33 (by decide) ?_
        exact t_X5_rod_J34 ha h10
def c_X5_push (S : Mem) (a0 : Nat) (i1 : Int32) (i2 : Int32) (i3 : Int32) (i4 : Int32) : Option (Int32 × Mem) :=
  bnd (c_X5_known S a0 i1) fun r1_ =>
  oc r1_
    (some ((-1 : Int32), S))
    (fun a3 =>
      if i3 < 0 then
        (some ((-2 : Int32), S))
      else
        (if i3 ≤ (1 : Int32) then
          (gd (kb S a3 2) <|
          bnd (c_X1_numberFault S a3 i2 i3) fun i11_ =>
          if i11_ = 0 then
            (bnd (ob S (mR S a3 5) 12) fun a15 =>
            gd (inB i2 (mLn S a15)) <|
            bnd (ob S (mR S a15 (Int32.toNatClampNeg i2)) 5) fun a19 =>
            bnd (c_X4_number S a19 i3) fun i21_ =>
            jLet (((Int32.toInt64 i21_) + (Int32.toInt64 i4))) fun j23_ =>
            if j23_ < (0 : Int64) then
              (some ((-3 : Int32), S))
            else
              (bnd (c_X4_most S a19 i3) fun i27_ =>
              if j23_ ≤ (Int32.toInt64 i27_) then
                (bnd (c_X4_put S a19 i3 (Int64.toInt32 j23_)) fun S31 =>
                bnd (ob S31 (mR S31 a0 4) 4) fun a33 =>
                jLet (mSI S31 a33 4 (1 : Int32)) fun S35 =>
                some ((Int64.toInt32 j23_), S35))
              else
                (some ((-3 : Int32), S))))
          else
            (bnd2 (c_X5_faulted S a0 i11_) fun i37_ S38 =>
            some (i37_, S38)))
        else
          (some ((-2 : Int32), S))))
set_option maxRecDepth 100000 in
set_option maxHeartbeats 4000000 in
theorem t_X5_push {S : Mem} {a0 : Nat} {i1 : Int32} {i2 : Int32} {i3 : Int32} {i4 : Int32} {w : (Int32 × Mem)} (ha : mKd S a0 = 6) (h : c_X5_push S a0 i1 i2 i3 i4 = some w) : CT MX yX5_push cX5_push 10 (some .int) 2 43 [.ref a0, .int i1, .int i2, .int i3, .int i4] S (some (.int w.1)) w.2 := by
  refine CT.of (lv := [(0, .ref a0), (1, .int i1), (2, .int i2), (3, .int i3), (4, .int i4)]) (by decide) rfl (Nat.le_of_ble_eq_true rfl) ?_
  refine J_aload_n 0 dX5_push_0 rfl rfl ?_
  refine J_iload_n 1 dX5_push_1 rfl rfl ?_
  obtain ⟨r1_, er1_, h2⟩ := bnd_some h; clear h
  refine J_callV (As := [.int i1]) (rest := []) (st' := [va_rf r1_]) (t_X5_known ha er1_) gC_X5_known gM_X5_51 (mRecv ha (by decide) jCl5) rfl (by decide) (by decide) rfl rfl (Nat.le_of_ble_eq_true rfl) dX5_push_2 ?_
  refine J_astoreq dX5_push_5 (by decide) [1, 3, 4, 5, 0] (lv' := [(0, .ref a0), (2, .int i2), (3, .int i3), (4, .int i4), (5, va_rf r1_)]) rfl ?_
  refine J_aloadq 4 dX5_push_7 rfl ?_
  refine J_ifnonnull 14 dX5_push_9 (by decide) h2 (fun ea3 h4 => ?_) (fun a3 ea3 h4 => ?_)
  · clear h2
    subst ea3
    refine J_lvst (lv' := [(0, .ref a0), (2, .int i2), (3, .int i3), (4, .int i4), (5, va_rf none)]) (st' := []) rfl rfl ?_
    refine J_iconst (-1 : Int32) dX5_push_12 (by decide) ?_
    have hw := Option.some.inj h4; subst hw
    exact J_iret rfl dX5_push_13
  · clear h2
    subst ea3
    refine J_lvst (lv' := [(0, .ref a0), (2, .int i2), (3, .int i3), (4, .int i4), (5, .ref a3)]) (st' := []) rfl rfl ?_
    refine J_iload_n 2 dX5_push_14 rfl rfl ?_
    refine J_if_lt 23 dX5_push_15 (by decide) h4 (fun c5 h6 => ?_) (fun c5 h6 => ?_)
    · clear h4
      refine J_bipush (-2 : Int32) dX5_push_23 (by decide) ?_
      have hw := Option.some.inj h6; subst hw
      exact J_iret rfl dX5_push_25
    · clear h4
      refine J_iload_n 2 dX5_push_18 rfl rfl ?_
      refine J_iconst (1 : Int32) dX5_push_19 (by decide) ?_
      refine J_icmp_le 26 dX5_push_20 (by decide) h6 (fun c7 h8 => ?_) (fun c7 h8 => ?_)
      · clear h6
        refine J_aload 4 dX5_push_26 rfl ?_
        refine J_iload_n 1 dX5_push_28 rfl rfl ?_
        refine J_iload_n 2 dX5_push_29 rfl rfl ?_
        obtain ⟨g9, h10⟩ := gd_some h8; clear h8
        have kg9 := kb_of g9
        obtain ⟨i11_, ei11_, h12⟩ := bnd_some h10; clear h10
        refine J_callV (As := [.int i2, .int i3]) (rest := []) (st' := [.int i11_]) (t_X1_numberFault kg9 ei11_) gC_X1_numberFault gM_X5_94 (mRecv kg9 (by decide) jCl1) rfl (by decide) (by decide) rfl rfl (Nat.le_of_ble_eq_true rfl) dX5_push_30 ?_
        refine J_istore dX5_push_33 (by decide) [1, 2, 3, 4, 5, 0] (lv' := [(0, .ref a0), (2, .int i2), (3, .int i3), (4, .int i4), (5, .ref a3), (6, .int i11_)]) rfl ?_
        refine J_iload 5 dX5_push_35 rfl ?_
        refine J_if_eq 47 dX5_push_37 (by decide) h12 (fun c13 h14 => ?_) (fun c13 h14 => ?_)
        · clear h12
          refine J_aload 4 dX5_push_47 rfl ?_
          refine J_get (k := 5) (v := va_rf (mR S a3 5)) dX5_push_49 gF_X5_61 kg9 rfl ?_
          refine J_iload_n 1 dX5_push_52 rfl rfl ?_
          obtain ⟨a15, ea15, ka15, h16⟩ := ob_some h14; clear h14
          rw [ea15]
          refine J_lvst (lv' := [(0, .ref a0), (2, .int i2), (3, .int i3), (4, .int i4), (5, .ref a3), (6, .int i11_)]) (st' := [.int i2, .ref a15]) rfl rfl ?_
          obtain ⟨g17, h18⟩ := gd_some h16; clear h16
          refine J_aald (z := 4) (C := RX4) dX5_push_53 (fun _ => rfl) (fun _ _ => rfl) ka15 g17 ?_
          refine J_astoreq dX5_push_54 (by decide) [1, 3, 4, 0] (lv' := [(0, .ref a0), (3, .int i3), (4, .int i4), (7, va_rf (mR S a15 (Int32.toNatClampNeg i2)))]) rfl ?_
          refine J_aloadq 3 dX5_push_56 rfl ?_
          refine J_iload_n 1 dX5_push_58 rfl rfl ?_
          obtain ⟨a19, ea19, ka19, h20⟩ := ob_some h18; clear h18
          rw [ea19]
          refine J_lvst (lv' := [(0, .ref a0), (3, .int i3), (4, .int i4), (7, .ref a19)]) (st' := [.int i3, .ref a19]) rfl rfl ?_
          obtain ⟨i21_, ei21_, h22⟩ := bnd_some h20; clear h20
          refine J_callV (As := [.int i3]) (rest := []) (st' := [.int i21_]) (t_X4_number ka19 ei21_) gC_X4_number gM_X5_97 (mRecv ka19 (by decide) jCl4) rfl (by decide) (by decide) rfl rfl (Nat.le_of_ble_eq_true rfl) dX5_push_59 ?_
          refine J_i2l dX5_push_62 ?_
          refine J_iload 2 dX5_push_63 rfl ?_
          refine J_i2l dX5_push_65 ?_
          refine J_ladd dX5_push_66 ?_
          obtain ⟨j23_, ej23_, h24⟩ := jLet_some h22; clear h22
          refine J_topL ej23_ ?_
          refine J_lstore dX5_push_67 (by decide) [1, 2, 4, 0] (lv' := [(0, .ref a0), (3, .int i3), (7, .ref a19), (8, .long j23_)]) rfl ?_
          refine J_lload 3 dX5_push_69 rfl ?_
          refine J_lconst (0 : Int64) dX5_push_71 (by decide) ?_
          refine J_lcmp_lt 89 dX5_push_72 dX5_push_73 (by decide) h24 (fun c25 h26 => ?_) (fun c25 h26 => ?_)
          · clear h24
            refine J_bipush (-3 : Int32) dX5_push_89 (by decide) ?_
            have hw := Option.some.inj h26; subst hw
            exact J_iret rfl dX5_push_91
          · clear h24
            refine J_lload 3 dX5_push_76 rfl ?_
            refine J_aload 2 dX5_push_78 rfl ?_
            refine J_iload_n 1 dX5_push_80 rfl rfl ?_
            obtain ⟨i27_, ei27_, h28⟩ := bnd_some h26; clear h26
            refine J_callV (As := [.int i3]) (rest := [.long j23_]) (st' := [.int i27_, .long j23_]) (t_X4_most ka19 ei27_) gC_X4_most gM_X5_100 (mRecv ka19 (by decide) jCl4) rfl (by decide) (by decide) rfl rfl (Nat.le_of_ble_eq_true rfl) dX5_push_81 ?_
            refine J_i2l dX5_push_84 ?_
            refine J_lcmp_le 92 dX5_push_85 dX5_push_86 (by decide) h28 (fun c29 h30 => ?_) (fun c29 h30 => ?_)
            · clear h28
              refine J_aload 2 dX5_push_92 rfl ?_
              refine J_iload_n 1 dX5_push_94 rfl rfl ?_
              refine J_lload 3 dX5_push_95 rfl ?_
              refine J_l2i dX5_push_97 ?_
              obtain ⟨S31, eS31, h32⟩ := bnd_some h30; clear h30
              have cS31 := (t_X4_put ka19 eS31)
              have lS31 : jle MX S S31 := cS31.1
              have hS31_a0 : mKd S31 a0 = 6 := kd_le lS31 ha
              have hS31_a3 : mKd S31 a3 = 2 := kd_le lS31 kg9
              have hS31_a15 : mKd S31 a15 = 12 := kd_le lS31 ka15
              have hS31_a19 : mKd S31 a19 = 5 := kd_le lS31 ka19
              refine J_callV (As := [.int i3, .int (Int64.toInt32 j23_)]) (rest := []) (st' := []) cS31 gC_X4_put gM_X5_103 (mRecv ka19 (by decide) jCl4) rfl (by decide) (by decide) rfl rfl (Nat.le_of_ble_eq_true rfl) dX5_push_98 ?_
              refine J_aload_n 0 dX5_push_101 rfl rfl ?_
              refine J_get (k := 4) (v := va_rf (mR S31 a0 4)) dX5_push_102 gF_X5_26 hS31_a0 rfl ?_
              refine J_iconst (1 : Int32) dX5_push_105 (by decide) ?_
              obtain ⟨a33, ea33, ka33, h34⟩ := ob_some h32; clear h32
              rw [ea33]
              refine J_lvst (lv' := [(0, .ref a0), (3, .int i3), (7, .ref a19), (8, .long j23_)]) (st' := [.int (1 : Int32), .ref a33]) rfl rfl ?_
              refine J_putZ (k := 4) dX5_push_106 gW_X5_90 ka33 rfl (by decide) ?_
              obtain ⟨S35, eS35, h36⟩ := jLet_some h34; clear h34
              refine J_topS eS35 ?_
              have hS35_a0 : mKd S35 a0 = 6 := by rw [eS35]; exact hS31_a0
              have hS35_a3 : mKd S35 a3 = 2 := by rw [eS35]; exact hS31_a3
              have hS35_a15 : mKd S35 a15 = 12 := by rw [eS35]; exact hS31_a15
              have hS35_a19 : mKd S35 a19 = 5 := by rw [eS35]; exact hS31_a19
              have hS35_a33 : mKd S35 a33 = 4 := by rw [eS35]; exact ka33
              refine J_lload 3 dX5_push_109 rfl ?_
              refine J_l2i dX5_push_111 ?_
              have hw := Option.some.inj h36; subst hw
              exact J_iret rfl dX5_push_112
            · clear h28
              refine J_bipush (-3 : Int32) dX5_push_89 (by decide) ?_
              have hw := Option.some.inj h30; subst hw
              exact J_iret rfl dX5_push_91
        · clear h12
          refine J_aload_n 0 dX5_push_40 rfl rfl ?_
          refine J_iload 5 dX5_push_41 rfl ?_
          obtain ⟨i37_, S38, ei37_, h39⟩ := bnd2_some h14; clear h14
          have cS38 := (t_X5_faulted ha ei37_)
          have lS38 : jle MX S S38 := cS38.1
          have hS38_a0 : mKd S38 a0 = 6 := kd_le lS38 ha
          have hS38_a3 : mKd S38 a3 = 2 := kd_le lS38 kg9
          refine J_callV (As := [.int i11_]) (rest := []) (st' := [.int i37_]) cS38 gC_X5_faulted gM_X5_45 (mRecv ha (by decide) jCl5) rfl (by decide) (by decide) rfl rfl (Nat.le_of_ble_eq_true rfl) dX5_push_43 ?_
          have hw := Option.some.inj h39; subst hw
          exact J_iret rfl dX5_push_46
      · clear h6
        refine J_bipush (-2 : Int32) dX5_push_23 (by decide) ?_
        have hw := Option.some.inj h8; subst hw
        exact J_iret rfl dX5_push_25
def c_X5_beads (S : Mem) (a0 : Nat) (i1 : Int32) (i2 : Int32) (i3 : Int32) : Option (Int32 × Mem) :=
  bnd (c_X5_known S a0 i1) fun r1_ =>
  oc r1_
    (some ((-1 : Int32), S))
    (fun a3 =>
      if i3 < 0 then
        (some ((-2 : Int32), S))
      else
        (if i3 ≤ (1 : Int32) then
          (gd (kb S a3 2) <|
          bnd (c_X1_numberFault S a3 i2 i3) fun i11_ =>
          if i11_ = 0 then
            (bnd (ob S (mR S a3 5) 12) fun a15 =>
            gd (inB i2 (mLn S a15)) <|
            bnd (ob S (mR S a15 (Int32.toNatClampNeg i2)) 5) fun a19 =>
            bnd (c_X4_number S a19 i3) fun i21_ =>
            some (i21_, S))
          else
            (bnd2 (c_X5_faulted S a0 i11_) fun i23_ S24 =>
            some (i23_, S24)))
        else
          (some ((-2 : Int32), S))))
set_option maxRecDepth 100000 in
set_option maxHeartbeats 4000000 in
theorem t_X5_beads {S : Mem} {a0 : Nat} {i1 : Int32} {i2 : Int32} {i3 : Int32} {w : (Int32 × Mem)} (ha : mKd S a0 = 6) (h : c_X5_beads S a0 i1 i2 i3 = some w) : CT MX yX5_beads cX5_beads 6 (some .int) 2 43 [.ref a0, .int i1, .int i2, .int i3] S (some (.int w.1)) w.2 := by
  refine CT.of (lv := [(0, .ref a0), (1, .int i1), (2, .int i2), (3, .int i3)]) (by decide) rfl (Nat.le_of_ble_eq_true rfl) ?_
  refine J_aload_n 0 dX5_beads_0 rfl rfl ?_
  refine J_iload_n 1 dX5_beads_1 rfl rfl ?_
  obtain ⟨r1_, er1_, h2⟩ := bnd_some h; clear h
  refine J_callV (As := [.int i1]) (rest := []) (st' := [va_rf r1_]) (t_X5_known ha er1_) gC_X5_known gM_X5_51 (mRecv ha (by decide) jCl5) rfl (by decide) (by decide) rfl rfl (Nat.le_of_ble_eq_true rfl) dX5_beads_2 ?_
  refine J_astoreq dX5_beads_5 (by decide) [1, 3, 4, 0] (lv' := [(0, .ref a0), (2, .int i2), (3, .int i3), (4, va_rf r1_)]) rfl ?_
  refine J_aloadq 3 dX5_beads_7 rfl ?_
  refine J_ifnonnull 14 dX5_beads_9 (by decide) h2 (fun ea3 h4 => ?_) (fun a3 ea3 h4 => ?_)
  · clear h2
    subst ea3
    refine J_lvst (lv' := [(0, .ref a0), (2, .int i2), (3, .int i3), (4, va_rf none)]) (st' := []) rfl rfl ?_
    refine J_iconst (-1 : Int32) dX5_beads_12 (by decide) ?_
    have hw := Option.some.inj h4; subst hw
    exact J_iret rfl dX5_beads_13
  · clear h2
    subst ea3
    refine J_lvst (lv' := [(0, .ref a0), (2, .int i2), (3, .int i3), (4, .ref a3)]) (st' := []) rfl rfl ?_
    refine J_iload_n 2 dX5_beads_14 rfl rfl ?_
    refine J_if_lt 23 dX5_beads_15 (by decide) h4 (fun c5 h6 => ?_) (fun c5 h6 => ?_)
    · clear h4
      refine J_bipush (-2 : Int32) dX5_beads_23 (by decide) ?_
      have hw := Option.some.inj h6; subst hw
      exact J_iret rfl dX5_beads_25
    · clear h4
      refine J_iload_n 2 dX5_beads_18 rfl rfl ?_
      refine J_iconst (1 : Int32) dX5_beads_19 (by decide) ?_
      refine J_icmp_le 26 dX5_beads_20 (by decide) h6 (fun c7 h8 => ?_) (fun c7 h8 => ?_)
      · clear h6
        refine J_aload 3 dX5_beads_26 rfl ?_
        refine J_iload_n 1 dX5_beads_28 rfl rfl ?_
        refine J_iload_n 2 dX5_beads_29 rfl rfl ?_
        obtain ⟨g9, h10⟩ := gd_some h8; clear h8
        have kg9 := kb_of g9
        obtain ⟨i11_, ei11_, h12⟩ := bnd_some h10; clear h10
        refine J_callV (As := [.int i2, .int i3]) (rest := []) (st' := [.int i11_]) (t_X1_numberFault kg9 ei11_) gC_X1_numberFault gM_X5_94 (mRecv kg9 (by decide) jCl1) rfl (by decide) (by decide) rfl rfl (Nat.le_of_ble_eq_true rfl) dX5_beads_30 ?_
        refine J_istore dX5_beads_33 (by decide) [1, 2, 3, 4, 0] (lv' := [(0, .ref a0), (2, .int i2), (3, .int i3), (4, .ref a3), (5, .int i11_)]) rfl ?_
        refine J_iload 4 dX5_beads_35 rfl ?_
        refine J_if_eq 49 dX5_beads_37 (by decide) h12 (fun c13 h14 => ?_) (fun c13 h14 => ?_)
        · clear h12
          refine J_aload 3 dX5_beads_49 rfl ?_
          refine J_get (k := 5) (v := va_rf (mR S a3 5)) dX5_beads_51 gF_X5_61 kg9 rfl ?_
          refine J_iload_n 1 dX5_beads_54 rfl rfl ?_
          obtain ⟨a15, ea15, ka15, h16⟩ := ob_some h14; clear h14
          rw [ea15]
          refine J_lvst (lv' := [(0, .ref a0), (2, .int i2), (3, .int i3), (4, .ref a3), (5, .int i11_)]) (st' := [.int i2, .ref a15]) rfl rfl ?_
          obtain ⟨g17, h18⟩ := gd_some h16; clear h16
          refine J_aald (z := 4) (C := RX4) dX5_beads_55 (fun _ => rfl) (fun _ _ => rfl) ka15 g17 ?_
          refine J_iload_n 2 dX5_beads_56 rfl rfl ?_
          obtain ⟨a19, ea19, ka19, h20⟩ := ob_some h18; clear h18
          rw [ea19]
          refine J_lvst (lv' := [(0, .ref a0), (2, .int i2), (3, .int i3), (4, .ref a3), (5, .int i11_)]) (st' := [.int i3, .ref a19]) rfl rfl ?_
          obtain ⟨i21_, ei21_, h22⟩ := bnd_some h20; clear h20
          refine J_callV (As := [.int i3]) (rest := []) (st' := [.int i21_]) (t_X4_number ka19 ei21_) gC_X4_number gM_X5_97 (mRecv ka19 (by decide) jCl4) rfl (by decide) (by decide) rfl rfl (Nat.le_of_ble_eq_true rfl) dX5_beads_57 ?_
          have hw := Option.some.inj h22; subst hw
          exact J_iret rfl dX5_beads_60
        · clear h12
          refine J_aload_n 0 dX5_beads_40 rfl rfl ?_
          refine J_iload 4 dX5_beads_41 rfl ?_
          obtain ⟨i23_, S24, ei23_, h25⟩ := bnd2_some h14; clear h14
          have cS24 := (t_X5_faulted ha ei23_)
          have lS24 : jle MX S S24 := cS24.1
          have hS24_a0 : mKd S24 a0 = 6 := kd_le lS24 ha
          have hS24_a3 : mKd S24 a3 = 2 := kd_le lS24 kg9
          refine J_callV (As := [.int i11_]) (rest := []) (st' := [.int i23_]) cS24 gC_X5_faulted gM_X5_45 (mRecv ha (by decide) jCl5) rfl (by decide) (by decide) rfl rfl (Nat.le_of_ble_eq_true rfl) dX5_beads_43 ?_
          refine J_goto 60 dX5_beads_46 (by decide) ?_
          have hw := Option.some.inj h25; subst hw
          exact J_iret rfl dX5_beads_60
      · clear h6
        refine J_bipush (-2 : Int32) dX5_beads_23 (by decide) ?_
        have hw := Option.some.inj h8; subst hw
        exact J_iret rfl dX5_beads_25
def c_X5_digit (S : Mem) (a0 : Nat) (i1 : Int32) (i2 : Int32) : Option (Int32 × Mem) :=
  bnd (c_X5_known S a0 i1) fun r1_ =>
  oc r1_
    (some ((-1 : Int32), S))
    (fun a3 =>
      gd (kb S a3 2) <|
      bnd (c_X1_readFault S a3 i2) fun i7_ =>
      if i7_ = 0 then
        (bnd (ob S (mR S a3 5) 12) fun a11 =>
        gd (inB i2 (mLn S a11)) <|
        bnd (ob S (mR S a11 (Int32.toNatClampNeg i2)) 5) fun a15 =>
        bnd (c_X4_value S a15) fun i17_ =>
        some (i17_, S))
      else
        (bnd2 (c_X5_faulted S a0 i7_) fun i19_ S20 =>
        some (i19_, S20)))
set_option maxRecDepth 100000 in
set_option maxHeartbeats 4000000 in
theorem t_X5_digit {S : Mem} {a0 : Nat} {i1 : Int32} {i2 : Int32} {w : (Int32 × Mem)} (ha : mKd S a0 = 6) (h : c_X5_digit S a0 i1 i2 = some w) : CT MX yX5_digit cX5_digit 5 (some .int) 2 42 [.ref a0, .int i1, .int i2] S (some (.int w.1)) w.2 := by
  refine CT.of (lv := [(0, .ref a0), (1, .int i1), (2, .int i2)]) (by decide) rfl (Nat.le_of_ble_eq_true rfl) ?_
  refine J_aload_n 0 dX5_digit_0 rfl rfl ?_
  refine J_iload_n 1 dX5_digit_1 rfl rfl ?_
  obtain ⟨r1_, er1_, h2⟩ := bnd_some h; clear h
  refine J_callV (As := [.int i1]) (rest := []) (st' := [va_rf r1_]) (t_X5_known ha er1_) gC_X5_known gM_X5_51 (mRecv ha (by decide) jCl5) rfl (by decide) (by decide) rfl rfl (Nat.le_of_ble_eq_true rfl) dX5_digit_2 ?_
  refine J_astore_nq dX5_digit_5 rfl (by decide) [1, 3, 0] (lv' := [(0, .ref a0), (2, .int i2), (3, va_rf r1_)]) rfl ?_
  refine J_aload_nq 2 dX5_digit_6 rfl rfl ?_
  refine J_ifnonnull 12 dX5_digit_7 (by decide) h2 (fun ea3 h4 => ?_) (fun a3 ea3 h4 => ?_)
  · clear h2
    subst ea3
    refine J_lvst (lv' := [(0, .ref a0), (2, .int i2), (3, va_rf none)]) (st' := []) rfl rfl ?_
    refine J_iconst (-1 : Int32) dX5_digit_10 (by decide) ?_
    have hw := Option.some.inj h4; subst hw
    exact J_iret rfl dX5_digit_11
  · clear h2
    subst ea3
    refine J_lvst (lv' := [(0, .ref a0), (2, .int i2), (3, .ref a3)]) (st' := []) rfl rfl ?_
    refine J_aload_n 2 dX5_digit_12 rfl rfl ?_
    refine J_iload_n 1 dX5_digit_13 rfl rfl ?_
    obtain ⟨g5, h6⟩ := gd_some h4; clear h4
    have kg5 := kb_of g5
    obtain ⟨i7_, ei7_, h8⟩ := bnd_some h6; clear h6
    refine J_callV (As := [.int i2]) (rest := []) (st' := [.int i7_]) (t_X1_readFault kg5 ei7_) gC_X1_readFault gM_X5_107 (mRecv kg5 (by decide) jCl1) rfl (by decide) (by decide) rfl rfl (Nat.le_of_ble_eq_true rfl) dX5_digit_14 ?_
    refine J_istore dX5_digit_17 (by decide) [1, 2, 3, 0] (lv' := [(0, .ref a0), (2, .int i2), (3, .ref a3), (4, .int i7_)]) rfl ?_
    refine J_iload 3 dX5_digit_19 rfl ?_
    refine J_if_eq 33 dX5_digit_21 (by decide) h8 (fun c9 h10 => ?_) (fun c9 h10 => ?_)
    · clear h8
      refine J_aload_n 2 dX5_digit_33 rfl rfl ?_
      refine J_get (k := 5) (v := va_rf (mR S a3 5)) dX5_digit_34 gF_X5_61 kg5 rfl ?_
      refine J_iload_n 1 dX5_digit_37 rfl rfl ?_
      obtain ⟨a11, ea11, ka11, h12⟩ := ob_some h10; clear h10
      rw [ea11]
      refine J_lvst (lv' := [(0, .ref a0), (2, .int i2), (3, .ref a3), (4, .int i7_)]) (st' := [.int i2, .ref a11]) rfl rfl ?_
      obtain ⟨g13, h14⟩ := gd_some h12; clear h12
      refine J_aald (z := 4) (C := RX4) dX5_digit_38 (fun _ => rfl) (fun _ _ => rfl) ka11 g13 ?_
      obtain ⟨a15, ea15, ka15, h16⟩ := ob_some h14; clear h14
      rw [ea15]
      refine J_lvst (lv' := [(0, .ref a0), (2, .int i2), (3, .ref a3), (4, .int i7_)]) (st' := [.ref a15]) rfl rfl ?_
      obtain ⟨i17_, ei17_, h18⟩ := bnd_some h16; clear h16
      refine J_callV (As := []) (rest := []) (st' := [.int i17_]) (t_X4_value ka15 ei17_) gC_X4_value gM_X5_110 (mRecv ka15 (by decide) jCl4) rfl (by decide) (by decide) rfl rfl (Nat.le_of_ble_eq_true rfl) dX5_digit_39 ?_
      have hw := Option.some.inj h18; subst hw
      exact J_iret rfl dX5_digit_42
    · clear h8
      refine J_aload_n 0 dX5_digit_24 rfl rfl ?_
      refine J_iload 3 dX5_digit_25 rfl ?_
      obtain ⟨i19_, S20, ei19_, h21⟩ := bnd2_some h10; clear h10
      have cS20 := (t_X5_faulted ha ei19_)
      have lS20 : jle MX S S20 := cS20.1
      have hS20_a0 : mKd S20 a0 = 6 := kd_le lS20 ha
      have hS20_a3 : mKd S20 a3 = 2 := kd_le lS20 kg5
      refine J_callV (As := [.int i7_]) (rest := []) (st' := [.int i19_]) cS20 gC_X5_faulted gM_X5_45 (mRecv ha (by decide) jCl5) rfl (by decide) (by decide) rfl rfl (Nat.le_of_ble_eq_true rfl) dX5_digit_27 ?_
      refine J_goto 42 dX5_digit_30 (by decide) ?_
      have hw := Option.some.inj h21; subst hw
      exact J_iret rfl dX5_digit_42
def c_X5_lost (S : Mem) (a0 : Nat) (i1 : Int32) : Option (Int64 × Mem) :=
  bnd2 (c_X5_faulted S a0 i1) fun i1_ S2 =>
  some ((-9223372036854775808 : Int64), S2)
set_option maxRecDepth 100000 in
set_option maxHeartbeats 4000000 in
theorem t_X5_lost {S : Mem} {a0 : Nat} {i1 : Int32} {w : (Int64 × Mem)} (ha : mKd S a0 = 6) (h : c_X5_lost S a0 i1 = some w) : CT MX yX5_lost cX5_lost 2 (some .long) 1 21 [.ref a0, .int i1] S (some (.long w.1)) w.2 := by
  refine CT.of (lv := [(0, .ref a0), (1, .int i1)]) (by decide) rfl (Nat.le_of_ble_eq_true rfl) ?_
  refine J_aload_n 0 dX5_lost_0 rfl rfl ?_
  refine J_iload_n 1 dX5_lost_1 rfl rfl ?_
  obtain ⟨i1_, S2, ei1_, h3⟩ := bnd2_some h; clear h
  have cS2 := (t_X5_faulted ha ei1_)
  have lS2 : jle MX S S2 := cS2.1
  have hS2_a0 : mKd S2 a0 = 6 := kd_le lS2 ha
  refine J_callV (As := [.int i1]) (rest := []) (st' := [.int i1_]) cS2 gC_X5_faulted gM_X5_45 (mRecv ha (by decide) jCl5) rfl (by decide) (by decide) rfl rfl (Nat.le_of_ble_eq_true rfl) dX5_lost_2 ?_
  refine J_pop dX5_lost_5 rfl ?_
  refine J_ldc2 (-9223372036854775808 : Int64) dX5_lost_6 gK_X5_114 ?_
  have hw := Option.some.inj h3; subst hw
  exact J_lret rfl dX5_lost_9
def c_X5_shows (S : Mem) (a0 : Nat) (i1 : Int32) : Option (Int64 × Mem) :=
  bnd (c_X5_known S a0 i1) fun r1_ =>
  oc r1_
    (some ((-9223372036854775808 : Int64), S))
    (fun a3 =>
      gd (kb S a3 2) <|
      bnd (c_X1_firstFault S a3) fun i7_ =>
      if i7_ = 0 then
        (bnd (c_X1_sum S a3) fun j11_ =>
        some (j11_, S))
      else
        (bnd2 (c_X5_lost S a0 i7_) fun j13_ S14 =>
        some (j13_, S14)))
set_option maxRecDepth 100000 in
set_option maxHeartbeats 4000000 in
theorem t_X5_shows {S : Mem} {a0 : Nat} {i1 : Int32} {w : (Int64 × Mem)} (ha : mKd S a0 = 6) (h : c_X5_shows S a0 i1 = some w) : CT MX yX5_shows cX5_shows 4 (some .long) 2 43 [.ref a0, .int i1] S (some (.long w.1)) w.2 := by
  refine CT.of (lv := [(0, .ref a0), (1, .int i1)]) (by decide) rfl (Nat.le_of_ble_eq_true rfl) ?_
  refine J_aload_n 0 dX5_shows_0 rfl rfl ?_
  refine J_iload_n 1 dX5_shows_1 rfl rfl ?_
  obtain ⟨r1_, er1_, h2⟩ := bnd_some h; clear h
  refine J_callV (As := [.int i1]) (rest := []) (st' := [va_rf r1_]) (t_X5_known ha er1_) gC_X5_known gM_X5_51 (mRecv ha (by decide) jCl5) rfl (by decide) (by decide) rfl rfl (Nat.le_of_ble_eq_true rfl) dX5_shows_2 ?_
  refine J_astore_nq dX5_shows_5 rfl (by decide) [1, 0] (lv' := [(0, .ref a0), (2, va_rf r1_)]) rfl ?_
  refine J_aload_nq 1 dX5_shows_6 rfl rfl ?_
  refine J_ifnonnull 14 dX5_shows_7 (by decide) h2 (fun ea3 h4 => ?_) (fun a3 ea3 h4 => ?_)
  · clear h2
    subst ea3
    refine J_lvst (lv' := [(0, .ref a0), (2, va_rf none)]) (st' := []) rfl rfl ?_
    refine J_ldc2 (-9223372036854775808 : Int64) dX5_shows_10 gK_X5_114 ?_
    have hw := Option.some.inj h4; subst hw
    exact J_lret rfl dX5_shows_13
  · clear h2
    subst ea3
    refine J_lvst (lv' := [(0, .ref a0), (2, .ref a3)]) (st' := []) rfl rfl ?_
    refine J_aload_n 1 dX5_shows_14 rfl rfl ?_
    obtain ⟨g5, h6⟩ := gd_some h4; clear h4
    have kg5 := kb_of g5
    obtain ⟨i7_, ei7_, h8⟩ := bnd_some h6; clear h6
    refine J_callV (As := []) (rest := []) (st' := [.int i7_]) (t_X1_firstFault kg5 ei7_) gC_X1_firstFault gM_X5_116 (mRecv kg5 (by decide) jCl1) rfl (by decide) (by decide) rfl rfl (Nat.le_of_ble_eq_true rfl) dX5_shows_15 ?_
    refine J_istore_n dX5_shows_18 rfl (by decide) [1, 2, 0] (lv' := [(0, .ref a0), (2, .ref a3), (3, .int i7_)]) rfl ?_
    refine J_iload_n 2 dX5_shows_19 rfl rfl ?_
    refine J_if_eq 31 dX5_shows_20 (by decide) h8 (fun c9 h10 => ?_) (fun c9 h10 => ?_)
    · clear h8
      refine J_aload_n 1 dX5_shows_31 rfl rfl ?_
      obtain ⟨j11_, ej11_, h12⟩ := bnd_some h10; clear h10
      refine J_callV (As := []) (rest := []) (st' := [.long j11_]) (t_X1_sum kg5 ej11_) gC_X1_sum gM_X5_123 (mRecv kg5 (by decide) jCl1) rfl (by decide) (by decide) rfl rfl (Nat.le_of_ble_eq_true rfl) dX5_shows_32 ?_
      have hw := Option.some.inj h12; subst hw
      exact J_lret rfl dX5_shows_35
    · clear h8
      refine J_aload_n 0 dX5_shows_23 rfl rfl ?_
      refine J_iload_n 2 dX5_shows_24 rfl rfl ?_
      obtain ⟨j13_, S14, ej13_, h15⟩ := bnd2_some h10; clear h10
      have cS14 := (t_X5_lost ha ej13_)
      have lS14 : jle MX S S14 := cS14.1
      have hS14_a0 : mKd S14 a0 = 6 := kd_le lS14 ha
      have hS14_a3 : mKd S14 a3 = 2 := kd_le lS14 kg5
      refine J_callV (As := [.int i7_]) (rest := []) (st' := [.long j13_]) cS14 gC_X5_lost gM_X5_119 (mRecv ha (by decide) jCl5) rfl (by decide) (by decide) rfl rfl (Nat.le_of_ble_eq_true rfl) dX5_shows_25 ?_
      refine J_goto 35 dX5_shows_28 (by decide) ?_
      have hw := Option.some.inj h15; subst hw
      exact J_lret rfl dX5_shows_35
def c_X5_writeAll (S : Mem) (a0 : Nat) (r1 : Option Nat) (j2 : Int64) : Option (Int32 × Mem) :=
  oc r1
    (some ((-1 : Int32), S))
    (fun a1 =>
      if (0 : Int64) ≤ j2 then
        (gd (kb S a1 2) <|
        bnd (c_X5_digitCount j2 (mI S a1 2)) fun i7_ =>
        bnd (ob S (mR S a1 5) 12) fun a9 =>
        if i7_ ≤ (nI (mLn S a9)) then
          (bnd (c_X1_firstFault S a1) fun i13_ =>
          if i13_ = 0 then
            (bnd (c_X1_writeNumber S a1 j2) fun S17 =>
            bnd (ob S17 (mR S17 a0 4) 4) fun a19 =>
            jLet (mSI S17 a19 4 (1 : Int32)) fun S21 =>
            some ((1 : Int32), S21))
          else
            (bnd2 (c_X5_faulted S a0 i13_) fun i23_ S24 =>
            some (i23_, S24)))
        else
          (some ((-3 : Int32), S)))
      else
        (some ((-2 : Int32), S)))
set_option maxRecDepth 100000 in
set_option maxHeartbeats 4000000 in
theorem t_X5_writeAll {S : Mem} {a0 : Nat} {r1 : Option Nat} {j2 : Int64} {w : (Int32 × Mem)} (ha : mKd S a0 = 6) (h : c_X5_writeAll S a0 r1 j2 = some w) : CT MX yX5_writeAll cX5_writeAll 5 (some .int) 3 65 [.ref a0, va_rf r1, .long j2] S (some (.int w.1)) w.2 := by
  refine CT.of (lv := [(0, .ref a0), (1, va_rf r1), (2, .long j2)]) (by decide) (by cases r1 <;> exact rfl) (by cases r1 <;> exact Nat.le_of_ble_eq_true rfl) ?_
  refine J_aload_nq 1 dX5_writeAll_0 rfl rfl ?_
  refine J_ifnonnull 6 dX5_writeAll_1 (by decide) h (fun ea1 h2 => ?_) (fun a1 ea1 h2 => ?_)
  · clear h
    subst ea1
    refine J_lvst (lv' := [(0, .ref a0), (1, va_rf none), (2, .long j2)]) (st' := []) rfl rfl ?_
    refine J_iconst (-1 : Int32) dX5_writeAll_4 (by decide) ?_
    have hw := Option.some.inj h2; subst hw
    exact J_iret rfl dX5_writeAll_5
  · clear h
    subst ea1
    refine J_lvst (lv' := [(0, .ref a0), (1, .ref a1), (2, .long j2)]) (st' := []) rfl rfl ?_
    refine J_lload_n 2 dX5_writeAll_6 rfl rfl ?_
    refine J_lconst (0 : Int64) dX5_writeAll_7 (by decide) ?_
    refine J_lcmp_ge 15 dX5_writeAll_8 dX5_writeAll_9 (by decide) h2 (fun c3 h4 => ?_) (fun c3 h4 => ?_)
    · clear h2
      refine J_lload_n 2 dX5_writeAll_15 rfl rfl ?_
      refine J_aload_n 1 dX5_writeAll_16 rfl rfl ?_
      obtain ⟨g5, h6⟩ := gd_some h4; clear h4
      have kg5 := kb_of g5
      refine J_get (k := 2) (v := .int (mI S a1 2)) dX5_writeAll_17 gF_X5_55 kg5 rfl ?_
      obtain ⟨i7_, ei7_, h8⟩ := bnd_some h6; clear h6
      refine J_callS (As := [.long j2, .int (mI S a1 2)]) (rest := []) (st' := [.int i7_]) (t_X5_digitCount ei7_) gC_X5_digitCount gM_X5_317 rfl (by decide) (by decide) rfl rfl (Nat.le_of_ble_eq_true rfl) dX5_writeAll_20 ?_
      refine J_aload_n 1 dX5_writeAll_23 rfl rfl ?_
      refine J_get (k := 5) (v := va_rf (mR S a1 5)) dX5_writeAll_24 gF_X5_61 kg5 rfl ?_
      obtain ⟨a9, ea9, ka9, h10⟩ := ob_some h8; clear h8
      rw [ea9]
      refine J_lvst (lv' := [(0, .ref a0), (1, .ref a1), (2, .long j2)]) (st' := [.ref a9, .int i7_]) rfl rfl ?_
      refine J_alen (z := 4) dX5_writeAll_27 (fun _ => rfl) ka9 ?_
      refine J_icmp_le 34 dX5_writeAll_28 (by decide) h10 (fun c11 h12 => ?_) (fun c11 h12 => ?_)
      · clear h10
        refine J_aload_n 1 dX5_writeAll_34 rfl rfl ?_
        obtain ⟨i13_, ei13_, h14⟩ := bnd_some h12; clear h12
        refine J_callV (As := []) (rest := []) (st' := [.int i13_]) (t_X1_firstFault kg5 ei13_) gC_X1_firstFault gM_X5_116 (mRecv kg5 (by decide) jCl1) rfl (by decide) (by decide) rfl rfl (Nat.le_of_ble_eq_true rfl) dX5_writeAll_35 ?_
        refine J_istore dX5_writeAll_38 (by decide) [1, 2, 3, 0] (lv' := [(0, .ref a0), (1, .ref a1), (2, .long j2), (4, .int i13_)]) rfl ?_
        refine J_iload 3 dX5_writeAll_40 rfl ?_
        refine J_if_eq 52 dX5_writeAll_42 (by decide) h14 (fun c15 h16 => ?_) (fun c15 h16 => ?_)
        · clear h14
          refine J_aload_n 1 dX5_writeAll_52 rfl rfl ?_
          refine J_lload_n 2 dX5_writeAll_53 rfl rfl ?_
          obtain ⟨S17, eS17, h18⟩ := bnd_some h16; clear h16
          have cS17 := (t_X1_writeNumber kg5 eS17)
          have lS17 : jle MX S S17 := cS17.1
          have hS17_a0 : mKd S17 a0 = 6 := kd_le lS17 ha
          have hS17_a1 : mKd S17 a1 = 2 := kd_le lS17 kg5
          have hS17_a9 : mKd S17 a9 = 12 := kd_le lS17 ka9
          refine J_callV (As := [.long j2]) (rest := []) (st' := []) cS17 gC_X1_writeNumber gM_X5_321 (mRecv kg5 (by decide) jCl1) rfl (by decide) (by decide) rfl rfl (Nat.le_of_ble_eq_true rfl) dX5_writeAll_54 ?_
          refine J_aload_n 0 dX5_writeAll_57 rfl rfl ?_
          refine J_get (k := 4) (v := va_rf (mR S17 a0 4)) dX5_writeAll_58 gF_X5_26 hS17_a0 rfl ?_
          refine J_iconst (1 : Int32) dX5_writeAll_61 (by decide) ?_
          obtain ⟨a19, ea19, ka19, h20⟩ := ob_some h18; clear h18
          rw [ea19]
          refine J_lvst (lv' := [(0, .ref a0), (1, .ref a1), (2, .long j2), (4, .int i13_)]) (st' := [.int (1 : Int32), .ref a19]) rfl rfl ?_
          refine J_putZ (k := 4) dX5_writeAll_62 gW_X5_90 ka19 rfl (by decide) ?_
          obtain ⟨S21, eS21, h22⟩ := jLet_some h20; clear h20
          refine J_topS eS21 ?_
          have hS21_a0 : mKd S21 a0 = 6 := by rw [eS21]; exact hS17_a0
          have hS21_a1 : mKd S21 a1 = 2 := by rw [eS21]; exact hS17_a1
          have hS21_a9 : mKd S21 a9 = 12 := by rw [eS21]; exact hS17_a9
          have hS21_a19 : mKd S21 a19 = 4 := by rw [eS21]; exact ka19
          refine J_iconst (1 : Int32) dX5_writeAll_65 (by decide) ?_
          have hw := Option.some.inj h22; subst hw
          exact J_iret rfl dX5_writeAll_66
        · clear h14
          refine J_aload_n 0 dX5_writeAll_45 rfl rfl ?_
          refine J_iload 3 dX5_writeAll_46 rfl ?_
          obtain ⟨i23_, S24, ei23_, h25⟩ := bnd2_some h16; clear h16
          have cS24 := (t_X5_faulted ha ei23_)
          have lS24 : jle MX S S24 := cS24.1
          have hS24_a0 : mKd S24 a0 = 6 := kd_le lS24 ha
          have hS24_a1 : mKd S24 a1 = 2 := kd_le lS24 kg5
          have hS24_a9 : mKd S24 a9 = 12 := kd_le lS24 ka9
          refine J_callV (As := [.int i13_]) (rest := []) (st' := [.int i23_]) cS24 gC_X5_faulted gM_X5_45 (mRecv ha (by decide) jCl5) rfl (by decide) (by decide) rfl rfl (Nat.le_of_ble_eq_true rfl) dX5_writeAll_48 ?_
          have hw := Option.some.inj h25; subst hw
          exact J_iret rfl dX5_writeAll_51
      · clear h10
        refine J_bipush (-3 : Int32) dX5_writeAll_31 (by decide) ?_
        have hw := Option.some.inj h12; subst hw
        exact J_iret rfl dX5_writeAll_33
    · clear h2
      refine J_bipush (-2 : Int32) dX5_writeAll_12 (by decide) ?_
      have hw := Option.some.inj h4; subst hw
      exact J_iret rfl dX5_writeAll_14
def c_X5_set (S : Mem) (a0 : Nat) (i1 : Int32) (j2 : Int64) : Option (Int32 × Mem) :=
  bnd (c_X5_known S a0 i1) fun r1_ =>
  bnd2 (c_X5_writeAll S a0 r1_ j2) fun i3_ S4 =>
  some (i3_, S4)
set_option maxRecDepth 100000 in
set_option maxHeartbeats 4000000 in
theorem t_X5_set {S : Mem} {a0 : Nat} {i1 : Int32} {j2 : Int64} {w : (Int32 × Mem)} (ha : mKd S a0 = 6) (h : c_X5_set S a0 i1 j2 = some w) : CT MX yX5_set cX5_set 4 (some .int) 4 89 [.ref a0, .int i1, .long j2] S (some (.int w.1)) w.2 := by
  refine CT.of (lv := [(0, .ref a0), (1, .int i1), (2, .long j2)]) (by decide) rfl (Nat.le_of_ble_eq_true rfl) ?_
  refine J_aload_n 0 dX5_set_0 rfl rfl ?_
  refine J_aload_n 0 dX5_set_1 rfl rfl ?_
  refine J_iload_n 1 dX5_set_2 rfl rfl ?_
  obtain ⟨r1_, er1_, h2⟩ := bnd_some h; clear h
  refine J_callV (As := [.int i1]) (rest := [.ref a0]) (st' := [va_rf r1_, .ref a0]) (t_X5_known ha er1_) gC_X5_known gM_X5_51 (mRecv ha (by decide) jCl5) rfl (by decide) (by decide) rfl rfl (Nat.le_of_ble_eq_true rfl) dX5_set_3 ?_
  refine J_lload_n 2 dX5_set_6 rfl rfl ?_
  obtain ⟨i3_, S4, ei3_, h5⟩ := bnd2_some h2; clear h2
  have cS4 := (t_X5_writeAll ha ei3_)
  have lS4 : jle MX S S4 := cS4.1
  have hS4_a0 : mKd S4 a0 = 6 := kd_le lS4 ha
  refine J_callV (As := [va_rf r1_, .long j2]) (rest := []) (st' := [.int i3_]) cS4 gC_X5_writeAll gM_X5_127 (mRecv ha (by decide) jCl5) rfl (by decide) (by decide) rfl rfl (Nat.le_of_ble_eq_true rfl) dX5_set_7 ?_
  have hw := Option.some.inj h5; subst hw
  exact J_iret rfl dX5_set_10
def c_X5_proper (S : Mem) (a0 : Nat) (i1 : Int32) : Option Int32 :=
  bnd (c_X5_known S a0 i1) fun r1_ =>
  oc r1_
    (some (-1 : Int32))
    (fun a3 =>
      gd (kb S a3 2) <|
      bnd (c_X1_allProper S a3) fun i7_ =>
      if i7_ = 0 then
        (some (0 : Int32))
      else
        (some (1 : Int32)))
set_option maxRecDepth 100000 in
set_option maxHeartbeats 4000000 in
theorem t_X5_proper {S : Mem} {a0 : Nat} {i1 : Int32} {w : Int32} (ha : mKd S a0 = 6) (h : c_X5_proper S a0 i1 = some w) : CT MX yX5_proper cX5_proper 3 (some .int) 3 64 [.ref a0, .int i1] S (some (.int w)) S := by
  refine CT.of (lv := [(0, .ref a0), (1, .int i1)]) (by decide) rfl (Nat.le_of_ble_eq_true rfl) ?_
  refine J_aload_n 0 dX5_proper_0 rfl rfl ?_
  refine J_iload_n 1 dX5_proper_1 rfl rfl ?_
  obtain ⟨r1_, er1_, h2⟩ := bnd_some h; clear h
  refine J_callV (As := [.int i1]) (rest := []) (st' := [va_rf r1_]) (t_X5_known ha er1_) gC_X5_known gM_X5_51 (mRecv ha (by decide) jCl5) rfl (by decide) (by decide) rfl rfl (Nat.le_of_ble_eq_true rfl) dX5_proper_2 ?_
  refine J_astore_nq dX5_proper_5 rfl (by decide) [1, 0] (lv' := [(0, .ref a0), (2, va_rf r1_)]) rfl ?_
  refine J_aload_nq 1 dX5_proper_6 rfl rfl ?_
  refine J_ifnonnull 12 dX5_proper_7 (by decide) h2 (fun ea3 h4 => ?_) (fun a3 ea3 h4 => ?_)
  · clear h2
    subst ea3
    refine J_lvst (lv' := [(0, .ref a0), (2, va_rf none)]) (st' := []) rfl rfl ?_
    refine J_iconst (-1 : Int32) dX5_proper_10 (by decide) ?_
    have hw := Option.some.inj h4; subst hw
    exact J_iret rfl dX5_proper_11
  · clear h2
    subst ea3
    refine J_lvst (lv' := [(0, .ref a0), (2, .ref a3)]) (st' := []) rfl rfl ?_
    refine J_aload_n 1 dX5_proper_12 rfl rfl ?_
    obtain ⟨g5, h6⟩ := gd_some h4; clear h4
    have kg5 := kb_of g5
    obtain ⟨i7_, ei7_, h8⟩ := bnd_some h6; clear h6
    refine J_callV (As := []) (rest := []) (st' := [.int i7_]) (t_X1_allProper kg5 ei7_) gC_X1_allProper gM_X5_131 (mRecv kg5 (by decide) jCl1) rfl (by decide) (by decide) rfl rfl (Nat.le_of_ble_eq_true rfl) dX5_proper_13 ?_
    refine J_if_eq 23 dX5_proper_16 (by decide) h8 (fun c9 h10 => ?_) (fun c9 h10 => ?_)
    · clear h8
      refine J_iconst (0 : Int32) dX5_proper_23 (by decide) ?_
      have hw := Option.some.inj h10; subst hw
      exact J_iret rfl dX5_proper_24
    · clear h8
      refine J_iconst (1 : Int32) dX5_proper_19 (by decide) ?_
      refine J_goto 24 dX5_proper_20 (by decide) ?_
      have hw := Option.some.inj h10; subst hw
      exact J_iret rfl dX5_proper_24
def c_X5_size (S : Mem) (a0 : Nat) (i1 : Int32) (i2 : Int32) : Option Int32 :=
  bnd (c_X5_known S a0 i1) fun r1_ =>
  oc r1_
    (some (-1 : Int32))
    (fun a3 =>
      if i2 = (0 : Int32) then
        (gd (kb S a3 2) <|
        bnd (ob S (mR S a3 5) 12) fun a8 =>
        some (nI (mLn S a8)))
      else if i2 = (1 : Int32) then
        (gd (kb S a3 2) <|
        some (mI S a3 1))
      else if i2 = (2 : Int32) then
        (gd (kb S a3 2) <|
        some (mI S a3 2))
      else if i2 = (3 : Int32) then
        (gd (kb S a3 2) <|
        bnd (c_X1_readable S a3) fun i19_ =>
        some i19_)
      else if i2 = (4 : Int32) then
        (gd (kb S a3 2) <|
        some (mI S a3 3))
      else (some (-2 : Int32)))
set_option maxRecDepth 100000 in
set_option maxHeartbeats 4000000 in
theorem t_X5_size {S : Mem} {a0 : Nat} {i1 : Int32} {i2 : Int32} {w : Int32} (ha : mKd S a0 = 6) (h : c_X5_size S a0 i1 i2 = some w) : CT MX yX5_size cX5_size 4 (some .int) 2 42 [.ref a0, .int i1, .int i2] S (some (.int w)) S := by
  refine CT.of (lv := [(0, .ref a0), (1, .int i1), (2, .int i2)]) (by decide) rfl (Nat.le_of_ble_eq_true rfl) ?_
  refine J_aload_n 0 dX5_size_0 rfl rfl ?_
  refine J_iload_n 1 dX5_size_1 rfl rfl ?_
  obtain ⟨r1_, er1_, h2⟩ := bnd_some h; clear h
  refine J_callV (As := [.int i1]) (rest := []) (st' := [va_rf r1_]) (t_X5_known ha er1_) gC_X5_known gM_X5_51 (mRecv ha (by decide) jCl5) rfl (by decide) (by decide) rfl rfl (Nat.le_of_ble_eq_true rfl) dX5_size_2 ?_
  refine J_astore_nq dX5_size_5 rfl (by decide) [1, 3, 0] (lv' := [(0, .ref a0), (2, .int i2), (3, va_rf r1_)]) rfl ?_
  refine J_aload_nq 2 dX5_size_6 rfl rfl ?_
  refine J_ifnonnull 12 dX5_size_7 (by decide) h2 (fun ea3 h4 => ?_) (fun a3 ea3 h4 => ?_)
  · clear h2
    subst ea3
    refine J_lvst (lv' := [(0, .ref a0), (2, .int i2), (3, va_rf none)]) (st' := []) rfl rfl ?_
    refine J_iconst (-1 : Int32) dX5_size_10 (by decide) ?_
    have hw := Option.some.inj h4; subst hw
    exact J_iret rfl dX5_size_11
  · clear h2
    subst ea3
    refine J_lvst (lv' := [(0, .ref a0), (2, .int i2), (3, .ref a3)]) (st' := []) rfl rfl ?_
    refine J_iload_n 1 dX5_size_12 rfl rfl ?_
    by_cases c5 : i2 = (0 : Int32)
    · replace h4 := ifp c5 h4
      refine J_tabIn (0 : Int32) 48 dX5_size_13 c5 (by decide) (by decide) rfl (by decide) ?_
      refine J_aload_n 2 dX5_size_48 rfl rfl ?_
      obtain ⟨g6, h7⟩ := gd_some h4; clear h4
      have kg6 := kb_of g6
      refine J_get (k := 5) (v := va_rf (mR S a3 5)) dX5_size_49 gF_X5_61 kg6 rfl ?_
      obtain ⟨a8, ea8, ka8, h9⟩ := ob_some h7; clear h7
      rw [ea8]
      refine J_lvst (lv' := [(0, .ref a0), (2, .int i2), (3, .ref a3)]) (st' := [.ref a8]) rfl rfl ?_
      refine J_alen (z := 4) dX5_size_52 (fun _ => rfl) ka8 ?_
      have hw := Option.some.inj h9; subst hw
      exact J_iret rfl dX5_size_53
    replace h4 := ifn c5 h4
    by_cases c10 : i2 = (1 : Int32)
    · replace h4 := ifp c10 h4
      refine J_tabIn (1 : Int32) 54 dX5_size_13 c10 (by decide) (by decide) rfl (by decide) ?_
      refine J_aload_n 2 dX5_size_54 rfl rfl ?_
      obtain ⟨g11, h12⟩ := gd_some h4; clear h4
      have kg11 := kb_of g11
      refine J_get (k := 1) (v := .int (mI S a3 1)) dX5_size_55 gF_X5_77 kg11 rfl ?_
      have hw := Option.some.inj h12; subst hw
      exact J_iret rfl dX5_size_58
    replace h4 := ifn c10 h4
    by_cases c13 : i2 = (2 : Int32)
    · replace h4 := ifp c13 h4
      refine J_tabIn (2 : Int32) 59 dX5_size_13 c13 (by decide) (by decide) rfl (by decide) ?_
      refine J_aload_n 2 dX5_size_59 rfl rfl ?_
      obtain ⟨g14, h15⟩ := gd_some h4; clear h4
      have kg14 := kb_of g14
      refine J_get (k := 2) (v := .int (mI S a3 2)) dX5_size_60 gF_X5_55 kg14 rfl ?_
      have hw := Option.some.inj h15; subst hw
      exact J_iret rfl dX5_size_63
    replace h4 := ifn c13 h4
    by_cases c16 : i2 = (3 : Int32)
    · replace h4 := ifp c16 h4
      refine J_tabIn (3 : Int32) 64 dX5_size_13 c16 (by decide) (by decide) rfl (by decide) ?_
      refine J_aload_n 2 dX5_size_64 rfl rfl ?_
      obtain ⟨g17, h18⟩ := gd_some h4; clear h4
      have kg17 := kb_of g17
      obtain ⟨i19_, ei19_, h20⟩ := bnd_some h18; clear h18
      refine J_callV (As := []) (rest := []) (st' := [.int i19_]) (t_X1_readable kg17 ei19_) gC_X1_readable gM_X5_135 (mRecv kg17 (by decide) jCl1) rfl (by decide) (by decide) rfl rfl (Nat.le_of_ble_eq_true rfl) dX5_size_65 ?_
      have hw := Option.some.inj h20; subst hw
      exact J_iret rfl dX5_size_68
    replace h4 := ifn c16 h4
    by_cases c21 : i2 = (4 : Int32)
    · replace h4 := ifp c21 h4
      refine J_tabIn (4 : Int32) 69 dX5_size_13 c21 (by decide) (by decide) rfl (by decide) ?_
      refine J_aload_n 2 dX5_size_69 rfl rfl ?_
      obtain ⟨g22, h23⟩ := gd_some h4; clear h4
      have kg22 := kb_of g22
      refine J_get (k := 3) (v := .int (mI S a3 3)) dX5_size_70 gF_X5_65 kg22 rfl ?_
      have hw := Option.some.inj h23; subst hw
      exact J_iret rfl dX5_size_73
    replace h4 := ifn c21 h4
    have hout := tabOut (x := i2) (n := 4) (by decide) (fun k hk => by
      match k, hk with
      | 0, _ => exact c5
      | 1, _ => exact c10
      | 2, _ => exact c13
      | 3, _ => exact c16
      | 4, _ => exact c21
      | k + 5, hk => exact absurd hk (by omega))
    refine J_tabOut 74 dX5_size_13 hout (by decide) ?_
    refine J_bipush (-2 : Int32) dX5_size_74 (by decide) ?_
    have hw := Option.some.inj h4; subst hw
    exact J_iret rfl dX5_size_76
def c_X5_isA_J14 (i0 : Int32) (i1 : Int32) : Option Int32 :=
  if i0 = (3 : Int32) then
    (if i1 = (1 : Int32) then
      (some (1 : Int32))
    else
      (if i1 = 0 then
        (some (1 : Int32))
      else
        (some (0 : Int32))))
  else
    (some (0 : Int32))
set_option maxRecDepth 100000 in
set_option maxHeartbeats 4000000 in
theorem t_X5_isA_J14 {S : Mem} {i0 : Int32} {i1 : Int32} {w : Int32} (h : c_X5_isA_J14 i0 i1 = some w) : J MX yX5_isA cX5_isA 2 (some .boolean) 0 0 14 [(0, .int i0), (1, .int i1)] [] S (some (.int w)) S := by
  refine J_iload_n 0 dX5_isA_14 rfl rfl ?_
  refine J_iconst (3 : Int32) dX5_isA_15 (by decide) ?_
  refine J_icmp_ne 32 dX5_isA_16 (by decide) h (fun c1 h2 => ?_) (fun c1 h2 => ?_)
  · clear h
    refine J_iload_n 1 dX5_isA_19 rfl rfl ?_
    refine J_iconst (1 : Int32) dX5_isA_20 (by decide) ?_
    refine J_icmp_eq 28 dX5_isA_21 (by decide) h2 (fun c3 h4 => ?_) (fun c3 h4 => ?_)
    · clear h2
      refine J_iconst (1 : Int32) dX5_isA_28 (by decide) ?_
      refine J_goto 33 dX5_isA_29 (by decide) ?_
      have hw := Option.some.inj h4; subst hw
      exact J_zret rfl (by decide) dX5_isA_33
    · clear h2
      refine J_iload_n 1 dX5_isA_24 rfl rfl ?_
      refine J_if_ne 32 dX5_isA_25 (by decide) h4 (fun c5 h6 => ?_) (fun c5 h6 => ?_)
      · clear h4
        refine J_iconst (1 : Int32) dX5_isA_28 (by decide) ?_
        refine J_goto 33 dX5_isA_29 (by decide) ?_
        have hw := Option.some.inj h6; subst hw
        exact J_zret rfl (by decide) dX5_isA_33
      · clear h4
        refine J_iconst (0 : Int32) dX5_isA_32 (by decide) ?_
        have hw := Option.some.inj h6; subst hw
        exact J_zret rfl (by decide) dX5_isA_33
  · clear h
    refine J_iconst (0 : Int32) dX5_isA_32 (by decide) ?_
    have hw := Option.some.inj h2; subst hw
    exact J_zret rfl (by decide) dX5_isA_33
def c_X5_isA (i0 : Int32) (i1 : Int32) : Option Int32 :=
  if i0 = i1 then
    (some (1 : Int32))
  else
    (if i0 = (1 : Int32) then
      (if i1 = 0 then
        (some (1 : Int32))
      else
        (c_X5_isA_J14 i0 i1))
    else
      (c_X5_isA_J14 i0 i1))
set_option maxRecDepth 100000 in
set_option maxHeartbeats 4000000 in
theorem t_X5_isA {S : Mem} {i0 : Int32} {i1 : Int32} {w : Int32} (h : c_X5_isA i0 i1 = some w) : CT MX yX5_isA cX5_isA 2 (some .boolean) 0 0 [.int i0, .int i1] S (some (.int w)) S := by
  refine CT.of (lv := [(0, .int i0), (1, .int i1)]) (by decide) rfl (Nat.le_of_ble_eq_true rfl) ?_
  refine J_iload_n 0 dX5_isA_0 rfl rfl ?_
  refine J_iload_n 1 dX5_isA_1 rfl rfl ?_
  refine J_icmp_eq 28 dX5_isA_2 (by decide) h (fun c1 h2 => ?_) (fun c1 h2 => ?_)
  · clear h
    refine J_iconst (1 : Int32) dX5_isA_28 (by decide) ?_
    refine J_goto 33 dX5_isA_29 (by decide) ?_
    have hw := Option.some.inj h2; subst hw
    exact J_zret rfl (by decide) dX5_isA_33
  · clear h
    refine J_iload_n 0 dX5_isA_5 rfl rfl ?_
    refine J_iconst (1 : Int32) dX5_isA_6 (by decide) ?_
    refine J_icmp_ne 14 dX5_isA_7 (by decide) h2 (fun c3 h4 => ?_) (fun c3 h4 => ?_)
    · clear h2
      refine J_iload_n 1 dX5_isA_10 rfl rfl ?_
      refine J_if_eq 28 dX5_isA_11 (by decide) h4 (fun c5 h6 => ?_) (fun c5 h6 => ?_)
      · clear h4
        refine J_iconst (1 : Int32) dX5_isA_28 (by decide) ?_
        refine J_goto 33 dX5_isA_29 (by decide) ?_
        have hw := Option.some.inj h6; subst hw
        exact J_zret rfl (by decide) dX5_isA_33
      · clear h4
        exact t_X5_isA_J14 h6
    · clear h2
      exact t_X5_isA_J14 h4
def c_X5_meant (S : Mem) (a0 : Nat) (i1 : Int32) (i2 : Int32) : Option (Int32 × Mem) :=
  bnd (c_X5_known S a0 i1) fun r1_ =>
  oc r1_
    (some ((-1 : Int32), S))
    (fun a3 =>
      if i2 < 0 then
        (some ((-2 : Int32), S))
      else
        (if i2 ≤ (4 : Int32) then
          (gd (kb S a3 2) <|
          bnd (c_X5_isA (mI S a3 1) i2) fun i11_ =>
          if i11_ = 0 then
            (bnd2 (c_X5_faulted S a0 (3 : Int32)) fun i15_ S16 =>
            some (i15_, S16))
          else
            (some ((1 : Int32), S)))
        else
          (some ((-2 : Int32), S))))
set_option maxRecDepth 100000 in
set_option maxHeartbeats 4000000 in
theorem t_X5_meant {S : Mem} {a0 : Nat} {i1 : Int32} {i2 : Int32} {w : (Int32 × Mem)} (ha : mKd S a0 = 6) (h : c_X5_meant S a0 i1 i2 = some w) : CT MX yX5_meant cX5_meant 4 (some .int) 1 21 [.ref a0, .int i1, .int i2] S (some (.int w.1)) w.2 := by
  refine CT.of (lv := [(0, .ref a0), (1, .int i1), (2, .int i2)]) (by decide) rfl (Nat.le_of_ble_eq_true rfl) ?_
  refine J_aload_n 0 dX5_meant_0 rfl rfl ?_
  refine J_iload_n 1 dX5_meant_1 rfl rfl ?_
  obtain ⟨r1_, er1_, h2⟩ := bnd_some h; clear h
  refine J_callV (As := [.int i1]) (rest := []) (st' := [va_rf r1_]) (t_X5_known ha er1_) gC_X5_known gM_X5_51 (mRecv ha (by decide) jCl5) rfl (by decide) (by decide) rfl rfl (Nat.le_of_ble_eq_true rfl) dX5_meant_2 ?_
  refine J_astore_nq dX5_meant_5 rfl (by decide) [1, 3, 0] (lv' := [(0, .ref a0), (2, .int i2), (3, va_rf r1_)]) rfl ?_
  refine J_aload_nq 2 dX5_meant_6 rfl rfl ?_
  refine J_ifnonnull 12 dX5_meant_7 (by decide) h2 (fun ea3 h4 => ?_) (fun a3 ea3 h4 => ?_)
  · clear h2
    subst ea3
    refine J_lvst (lv' := [(0, .ref a0), (2, .int i2), (3, va_rf none)]) (st' := []) rfl rfl ?_
    refine J_iconst (-1 : Int32) dX5_meant_10 (by decide) ?_
    have hw := Option.some.inj h4; subst hw
    exact J_iret rfl dX5_meant_11
  · clear h2
    subst ea3
    refine J_lvst (lv' := [(0, .ref a0), (2, .int i2), (3, .ref a3)]) (st' := []) rfl rfl ?_
    refine J_iload_n 1 dX5_meant_12 rfl rfl ?_
    refine J_if_lt 21 dX5_meant_13 (by decide) h4 (fun c5 h6 => ?_) (fun c5 h6 => ?_)
    · clear h4
      refine J_bipush (-2 : Int32) dX5_meant_21 (by decide) ?_
      have hw := Option.some.inj h6; subst hw
      exact J_iret rfl dX5_meant_23
    · clear h4
      refine J_iload_n 1 dX5_meant_16 rfl rfl ?_
      refine J_iconst (4 : Int32) dX5_meant_17 (by decide) ?_
      refine J_icmp_le 24 dX5_meant_18 (by decide) h6 (fun c7 h8 => ?_) (fun c7 h8 => ?_)
      · clear h6
        refine J_aload_n 2 dX5_meant_24 rfl rfl ?_
        obtain ⟨g9, h10⟩ := gd_some h8; clear h8
        have kg9 := kb_of g9
        refine J_get (k := 1) (v := .int (mI S a3 1)) dX5_meant_25 gF_X5_77 kg9 rfl ?_
        refine J_iload_n 1 dX5_meant_28 rfl rfl ?_
        obtain ⟨i11_, ei11_, h12⟩ := bnd_some h10; clear h10
        refine J_callS (As := [.int (mI S a3 1), .int i2]) (rest := []) (st' := [.int i11_]) (t_X5_isA ei11_) gC_X5_isA gM_X5_138 rfl (by decide) (by decide) rfl rfl (Nat.le_of_ble_eq_true rfl) dX5_meant_29 ?_
        refine J_if_eq 39 dX5_meant_32 (by decide) h12 (fun c13 h14 => ?_) (fun c13 h14 => ?_)
        · clear h12
          refine J_aload_n 0 dX5_meant_39 rfl rfl ?_
          refine J_iconst (3 : Int32) dX5_meant_40 (by decide) ?_
          obtain ⟨i15_, S16, ei15_, h17⟩ := bnd2_some h14; clear h14
          have cS16 := (t_X5_faulted ha ei15_)
          have lS16 : jle MX S S16 := cS16.1
          have hS16_a0 : mKd S16 a0 = 6 := kd_le lS16 ha
          have hS16_a3 : mKd S16 a3 = 2 := kd_le lS16 kg9
          refine J_callV (As := [.int (3 : Int32)]) (rest := []) (st' := [.int i15_]) cS16 gC_X5_faulted gM_X5_45 (mRecv ha (by decide) jCl5) rfl (by decide) (by decide) rfl rfl (Nat.le_of_ble_eq_true rfl) dX5_meant_41 ?_
          have hw := Option.some.inj h17; subst hw
          exact J_iret rfl dX5_meant_44
        · clear h12
          refine J_iconst (1 : Int32) dX5_meant_35 (by decide) ?_
          refine J_goto 44 dX5_meant_36 (by decide) ?_
          have hw := Option.some.inj h14; subst hw
          exact J_iret rfl dX5_meant_44
      · clear h6
        refine J_bipush (-2 : Int32) dX5_meant_21 (by decide) ?_
        have hw := Option.some.inj h8; subst hw
        exact J_iret rfl dX5_meant_23
