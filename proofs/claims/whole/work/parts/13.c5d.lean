def c_X5_undo (S : Mem) (a0 : Nat) : Option (Int32 × Mem) :=
  bnd (ob S (mR S a0 4) 4) fun a1 =>
  if (mI S a1 3) ≤ 0 then
    (some ((-3 : Int32), S))
  else
    (bnd (ob S (mR S a0 4) 4) fun a5 =>
    if (mI S a5 4) = 0 then
      (bnd (ob S (mR S a0 4) 4) fun a9 =>
      jLet (((mI S a9 3) - (1 : Int32))) fun i11_ =>
      jLet (mSI S a9 3 i11_) fun S13 =>
      bnd (ob S13 (mR S13 a0 4) 4) fun a15 =>
      bnd (c_X3_takeBack S13 a15 (mI S13 a15 3)) fun S17 =>
      bnd (ob S17 (mR S17 a0 4) 4) fun a19 =>
      some ((mI S17 a19 3), S17))
    else
      (some ((-3 : Int32), S)))
set_option maxRecDepth 100000 in
set_option maxHeartbeats 4000000 in
theorem t_X5_undo {S : Mem} {a0 : Nat} {w : (Int32 × Mem)} (ha : mKd S a0 = 6) (h : c_X5_undo S a0 = some w) : CT MX yX5_undo cX5_undo 1 (some .int) 2 46 [.ref a0] S (some (.int w.1)) w.2 := by
  refine CT.of (lv := [(0, .ref a0)]) (by decide) rfl (Nat.le_of_ble_eq_true rfl) ?_
  refine J_aload_n 0 dX5_undo_0 rfl rfl ?_
  refine J_get (k := 4) (v := va_rf (mR S a0 4)) dX5_undo_1 gF_X5_26 ha rfl ?_
  obtain ⟨a1, ea1, ka1, h2⟩ := ob_some h; clear h
  rw [ea1]
  refine J_lvst (lv' := [(0, .ref a0)]) (st' := [.ref a1]) rfl rfl ?_
  refine J_get (k := 3) (v := .int (mI S a1 3)) dX5_undo_4 gF_X5_259 ka1 rfl ?_
  refine J_if_le 20 dX5_undo_7 (by decide) h2 (fun c3 h4 => ?_) (fun c3 h4 => ?_)
  · clear h2
    refine J_bipush (-3 : Int32) dX5_undo_20 (by decide) ?_
    have hw := Option.some.inj h4; subst hw
    exact J_iret rfl dX5_undo_22
  · clear h2
    refine J_aload_n 0 dX5_undo_10 rfl rfl ?_
    refine J_get (k := 4) (v := va_rf (mR S a0 4)) dX5_undo_11 gF_X5_26 ha rfl ?_
    obtain ⟨a5, ea5, ka5, h6⟩ := ob_some h4; clear h4
    rw [ea5]
    refine J_lvst (lv' := [(0, .ref a0)]) (st' := [.ref a5]) rfl rfl ?_
    refine J_get (k := 4) (v := .int (mI S a5 4)) dX5_undo_14 gF_X5_90 ka5 rfl ?_
    refine J_if_eq 23 dX5_undo_17 (by decide) h6 (fun c7 h8 => ?_) (fun c7 h8 => ?_)
    · clear h6
      refine J_aload_n 0 dX5_undo_23 rfl rfl ?_
      refine J_get (k := 4) (v := va_rf (mR S a0 4)) dX5_undo_24 gF_X5_26 ha rfl ?_
      refine J_dup dX5_undo_27 (va_rf_cat _) ?_
      obtain ⟨a9, ea9, ka9, h10⟩ := ob_some h8; clear h8
      rw [ea9]
      refine J_lvst (lv' := [(0, .ref a0)]) (st' := [.ref a9, .ref a9]) rfl rfl ?_
      refine J_get (k := 3) (v := .int (mI S a9 3)) dX5_undo_28 gF_X5_259 ka9 rfl ?_
      refine J_iconst (1 : Int32) dX5_undo_31 (by decide) ?_
      refine J_isub dX5_undo_32 ?_
      obtain ⟨i11_, ei11_, h12⟩ := jLet_some h10; clear h10
      refine J_topI ei11_ ?_
      refine J_putI (k := 3) dX5_undo_33 gW_X5_259 ka9 rfl ?_
      obtain ⟨S13, eS13, h14⟩ := jLet_some h12; clear h12
      refine J_topS eS13 ?_
      have hS13_a0 : mKd S13 a0 = 6 := by rw [eS13]; exact ha
      have hS13_a1 : mKd S13 a1 = 4 := by rw [eS13]; exact ka1
      have hS13_a5 : mKd S13 a5 = 4 := by rw [eS13]; exact ka5
      have hS13_a9 : mKd S13 a9 = 4 := by rw [eS13]; exact ka9
      refine J_aload_n 0 dX5_undo_36 rfl rfl ?_
      refine J_get (k := 4) (v := va_rf (mR S13 a0 4)) dX5_undo_37 gF_X5_26 hS13_a0 rfl ?_
      refine J_aload_n 0 dX5_undo_40 rfl rfl ?_
      refine J_get (k := 4) (v := va_rf (mR S13 a0 4)) dX5_undo_41 gF_X5_26 hS13_a0 rfl ?_
      obtain ⟨a15, ea15, ka15, h16⟩ := ob_some h14; clear h14
      rw [ea15]
      refine J_lvst (lv' := [(0, .ref a0)]) (st' := [.ref a15, .ref a15]) rfl rfl ?_
      refine J_get (k := 3) (v := .int (mI S13 a15 3)) dX5_undo_44 gF_X5_259 ka15 rfl ?_
      obtain ⟨S17, eS17, h18⟩ := bnd_some h16; clear h16
      have cS17 := (t_X3_takeBack ka15 eS17)
      have lS17 : jle MX S13 S17 := cS17.1
      have hS17_a0 : mKd S17 a0 = 6 := kd_le lS17 hS13_a0
      have hS17_a1 : mKd S17 a1 = 4 := kd_le lS17 hS13_a1
      have hS17_a5 : mKd S17 a5 = 4 := kd_le lS17 hS13_a5
      have hS17_a9 : mKd S17 a9 = 4 := kd_le lS17 hS13_a9
      have hS17_a15 : mKd S17 a15 = 4 := kd_le lS17 ka15
      refine J_callV (As := [.int (mI S13 a15 3)]) (rest := []) (st' := []) cS17 gC_X3_takeBack gM_X5_262 (mRecv ka15 (by decide) jCl3) rfl (by decide) (by decide) rfl rfl (Nat.le_of_ble_eq_true rfl) dX5_undo_47 ?_
      refine J_aload_n 0 dX5_undo_50 rfl rfl ?_
      refine J_get (k := 4) (v := va_rf (mR S17 a0 4)) dX5_undo_51 gF_X5_26 hS17_a0 rfl ?_
      obtain ⟨a19, ea19, ka19, h20⟩ := ob_some h18; clear h18
      rw [ea19]
      refine J_lvst (lv' := [(0, .ref a0)]) (st' := [.ref a19]) rfl rfl ?_
      refine J_get (k := 3) (v := .int (mI S17 a19 3)) dX5_undo_54 gF_X5_259 ka19 rfl ?_
      have hw := Option.some.inj h20; subst hw
      exact J_iret rfl dX5_undo_57
    · clear h6
      refine J_bipush (-3 : Int32) dX5_undo_20 (by decide) ?_
      have hw := Option.some.inj h8; subst hw
      exact J_iret rfl dX5_undo_22
def c_X5_writePupil_J35 (S : Mem) (a0 : Nat) (i2 : Int32) (i3 : Int32) (i4 : Int32) (i5 : Int32) (i6 : Int32) : Option Mem :=
  bnd (ob S (mR S a0 5) 8) fun a1 =>
  gd (inB i6 (mLn S a1)) <|
  jLet (mSI S a1 (Int32.toNatClampNeg i6) i2) fun S5 =>
  bnd (ob S5 (mR S5 a0 5) 8) fun a7 =>
  gd (inB (i6 + (1 : Int32)) (mLn S5 a7)) <|
  jLet (mSI S5 a7 (Int32.toNatClampNeg (i6 + (1 : Int32))) i3) fun S11 =>
  bnd (ob S11 (mR S11 a0 5) 8) fun a13 =>
  gd (inB (i6 + (2 : Int32)) (mLn S11 a13)) <|
  jLet (mSI S11 a13 (Int32.toNatClampNeg (i6 + (2 : Int32))) i4) fun S17 =>
  bnd (ob S17 (mR S17 a0 5) 8) fun a19 =>
  gd (inB (i6 + (3 : Int32)) (mLn S17 a19)) <|
  jLet (mSI S17 a19 (Int32.toNatClampNeg (i6 + (3 : Int32))) i5) fun S23 =>
  some S23
set_option maxRecDepth 100000 in
set_option maxHeartbeats 4000000 in
theorem t_X5_writePupil_J35 {S : Mem} {a0 : Nat} {i2 : Int32} {i3 : Int32} {i4 : Int32} {i5 : Int32} {i6 : Int32} {w : Mem} (ha : mKd S a0 = 6) (h : c_X5_writePupil_J35 S a0 i2 i3 i4 i5 i6 = some w) : J MX yX5_writePupil cX5_writePupil 7 none 2 82 35 [(0, .ref a0), (2, .int i2), (3, .int i3), (4, .int i4), (5, .int i5), (6, .int i6)] [] S none w := by
  refine J_aload_n 0 dX5_writePupil_35 rfl rfl ?_
  refine J_get (k := 5) (v := va_rf (mR S a0 5)) dX5_writePupil_36 gF_X5_30 ha rfl ?_
  refine J_iload 5 dX5_writePupil_39 rfl ?_
  refine J_iload_n 1 dX5_writePupil_41 rfl rfl ?_
  obtain ⟨a1, ea1, ka1, h2⟩ := ob_some h; clear h
  rw [ea1]
  refine J_lvst (lv' := [(0, .ref a0), (2, .int i2), (3, .int i3), (4, .int i4), (5, .int i5), (6, .int i6)]) (st' := [.int i2, .int i6, .ref a1]) rfl rfl ?_
  obtain ⟨g3, h4⟩ := gd_some h2; clear h2
  refine J_iast dX5_writePupil_42 ka1 g3 ?_
  obtain ⟨S5, eS5, h6⟩ := jLet_some h4; clear h4
  refine J_topS eS5 ?_
  have hS5_a0 : mKd S5 a0 = 6 := by rw [eS5]; exact ha
  have hS5_a1 : mKd S5 a1 = 8 := by rw [eS5]; exact ka1
  refine J_aload_n 0 dX5_writePupil_43 rfl rfl ?_
  refine J_get (k := 5) (v := va_rf (mR S5 a0 5)) dX5_writePupil_44 gF_X5_30 hS5_a0 rfl ?_
  refine J_iload 5 dX5_writePupil_47 rfl ?_
  refine J_iconst (1 : Int32) dX5_writePupil_49 (by decide) ?_
  refine J_iadd dX5_writePupil_50 ?_
  refine J_iload_n 2 dX5_writePupil_51 rfl rfl ?_
  obtain ⟨a7, ea7, ka7, h8⟩ := ob_some h6; clear h6
  rw [ea7]
  refine J_lvst (lv' := [(0, .ref a0), (2, .int i2), (3, .int i3), (4, .int i4), (5, .int i5), (6, .int i6)]) (st' := [.int i3, .int (i6 + (1 : Int32)), .ref a7]) rfl rfl ?_
  obtain ⟨g9, h10⟩ := gd_some h8; clear h8
  refine J_iast dX5_writePupil_52 ka7 g9 ?_
  obtain ⟨S11, eS11, h12⟩ := jLet_some h10; clear h10
  refine J_topS eS11 ?_
  have hS11_a0 : mKd S11 a0 = 6 := by rw [eS11]; exact hS5_a0
  have hS11_a1 : mKd S11 a1 = 8 := by rw [eS11]; exact hS5_a1
  have hS11_a7 : mKd S11 a7 = 8 := by rw [eS11]; exact ka7
  refine J_aload_n 0 dX5_writePupil_53 rfl rfl ?_
  refine J_get (k := 5) (v := va_rf (mR S11 a0 5)) dX5_writePupil_54 gF_X5_30 hS11_a0 rfl ?_
  refine J_iload 5 dX5_writePupil_57 rfl ?_
  refine J_iconst (2 : Int32) dX5_writePupil_59 (by decide) ?_
  refine J_iadd dX5_writePupil_60 ?_
  refine J_iload 3 dX5_writePupil_61 rfl ?_
  obtain ⟨a13, ea13, ka13, h14⟩ := ob_some h12; clear h12
  rw [ea13]
  refine J_lvst (lv' := [(0, .ref a0), (2, .int i2), (3, .int i3), (4, .int i4), (5, .int i5), (6, .int i6)]) (st' := [.int i4, .int (i6 + (2 : Int32)), .ref a13]) rfl rfl ?_
  obtain ⟨g15, h16⟩ := gd_some h14; clear h14
  refine J_iast dX5_writePupil_63 ka13 g15 ?_
  obtain ⟨S17, eS17, h18⟩ := jLet_some h16; clear h16
  refine J_topS eS17 ?_
  have hS17_a0 : mKd S17 a0 = 6 := by rw [eS17]; exact hS11_a0
  have hS17_a1 : mKd S17 a1 = 8 := by rw [eS17]; exact hS11_a1
  have hS17_a7 : mKd S17 a7 = 8 := by rw [eS17]; exact hS11_a7
  have hS17_a13 : mKd S17 a13 = 8 := by rw [eS17]; exact ka13
  refine J_aload_n 0 dX5_writePupil_64 rfl rfl ?_
  refine J_get (k := 5) (v := va_rf (mR S17 a0 5)) dX5_writePupil_65 gF_X5_30 hS17_a0 rfl ?_
  refine J_iload 5 dX5_writePupil_68 rfl ?_
  refine J_iconst (3 : Int32) dX5_writePupil_70 (by decide) ?_
  refine J_iadd dX5_writePupil_71 ?_
  refine J_iload 4 dX5_writePupil_72 rfl ?_
  obtain ⟨a19, ea19, ka19, h20⟩ := ob_some h18; clear h18
  rw [ea19]
  refine J_lvst (lv' := [(0, .ref a0), (2, .int i2), (3, .int i3), (4, .int i4), (5, .int i5), (6, .int i6)]) (st' := [.int i5, .int (i6 + (3 : Int32)), .ref a19]) rfl rfl ?_
  obtain ⟨g21, h22⟩ := gd_some h20; clear h20
  refine J_iast dX5_writePupil_74 ka19 g21 ?_
  obtain ⟨S23, eS23, h24⟩ := jLet_some h22; clear h22
  refine J_topS eS23 ?_
  have hS23_a0 : mKd S23 a0 = 6 := by rw [eS23]; exact hS17_a0
  have hS23_a1 : mKd S23 a1 = 8 := by rw [eS23]; exact hS17_a1
  have hS23_a7 : mKd S23 a7 = 8 := by rw [eS23]; exact hS17_a7
  have hS23_a13 : mKd S23 a13 = 8 := by rw [eS23]; exact hS17_a13
  have hS23_a19 : mKd S23 a19 = 8 := by rw [eS23]; exact ka19
  have hw := Option.some.inj h24; subst hw
  exact J_vret rfl dX5_writePupil_75
def c_X5_writePupil (S : Mem) (a0 : Nat) (i1 : Int32) (i2 : Int32) (i3 : Int32) (i4 : Int32) (i5 : Int32) : Option Mem :=
  jLet (((4 : Int32) * i1)) fun i1_ =>
  bnd (ob S (mR S a0 5) 8) fun a3 =>
  if (i1_ + (4 : Int32)) ≤ (nI (mLn S a3)) then
    (c_X5_writePupil_J35 S a0 i2 i3 i4 i5 i1_)
  else
    (bnd (ob S (mR S a0 5) 8) fun a7 =>
    jLet (((2 : Int32) * (nI (mLn S a7)))) fun i9_ =>
    gd (copyOK S a7 i9_) <|
    jLet (mNx S) fun a14 =>
    jLet (mCopy S a7 (Int32.toNatClampNeg i9_)) fun S13 =>
    jLet (mSR S13 a0 5 (some a14)) fun S17 =>
    c_X5_writePupil_J35 S17 a0 i2 i3 i4 i5 i1_)
set_option maxRecDepth 100000 in
set_option maxHeartbeats 4000000 in
theorem t_X5_writePupil {S : Mem} {a0 : Nat} {i1 : Int32} {i2 : Int32} {i3 : Int32} {i4 : Int32} {i5 : Int32} {w : Mem} (ha : mKd S a0 = 6) (h : c_X5_writePupil S a0 i1 i2 i3 i4 i5 = some w) : CT MX yX5_writePupil cX5_writePupil 7 none 2 82 [.ref a0, .int i1, .int i2, .int i3, .int i4, .int i5] S none w := by
  refine CT.of (lv := [(0, .ref a0), (1, .int i1), (2, .int i2), (3, .int i3), (4, .int i4), (5, .int i5)]) (by decide) rfl (Nat.le_of_ble_eq_true rfl) ?_
  refine J_iconst (4 : Int32) dX5_writePupil_0 (by decide) ?_
  refine J_iload_n 1 dX5_writePupil_1 rfl rfl ?_
  refine J_imul dX5_writePupil_2 ?_
  obtain ⟨i1_, ei1_, h2⟩ := jLet_some h; clear h
  refine J_topI ei1_ ?_
  refine J_istore dX5_writePupil_3 (by decide) [1, 3, 4, 5, 6, 0] (lv' := [(0, .ref a0), (2, .int i2), (3, .int i3), (4, .int i4), (5, .int i5), (6, .int i1_)]) rfl ?_
  refine J_iload 5 dX5_writePupil_5 rfl ?_
  refine J_iconst (4 : Int32) dX5_writePupil_7 (by decide) ?_
  refine J_iadd dX5_writePupil_8 ?_
  refine J_aload_n 0 dX5_writePupil_9 rfl rfl ?_
  refine J_get (k := 5) (v := va_rf (mR S a0 5)) dX5_writePupil_10 gF_X5_30 ha rfl ?_
  obtain ⟨a3, ea3, ka3, h4⟩ := ob_some h2; clear h2
  rw [ea3]
  refine J_lvst (lv' := [(0, .ref a0), (2, .int i2), (3, .int i3), (4, .int i4), (5, .int i5), (6, .int i1_)]) (st' := [.ref a3, .int (i1_ + (4 : Int32))]) rfl rfl ?_
  refine J_alen (z := 0) dX5_writePupil_13 (fun _ => rfl) ka3 ?_
  refine J_icmp_le 35 dX5_writePupil_14 (by decide) h4 (fun c5 h6 => ?_) (fun c5 h6 => ?_)
  · clear h4
    exact t_X5_writePupil_J35 ha h6
  · clear h4
    refine J_aload_n 0 dX5_writePupil_17 rfl rfl ?_
    refine J_aload_n 0 dX5_writePupil_18 rfl rfl ?_
    refine J_get (k := 5) (v := va_rf (mR S a0 5)) dX5_writePupil_19 gF_X5_30 ha rfl ?_
    refine J_iconst (2 : Int32) dX5_writePupil_22 (by decide) ?_
    refine J_aload_n 0 dX5_writePupil_23 rfl rfl ?_
    refine J_get (k := 5) (v := va_rf (mR S a0 5)) dX5_writePupil_24 gF_X5_30 ha rfl ?_
    obtain ⟨a7, ea7, ka7, h8⟩ := ob_some h6; clear h6
    rw [ea7]
    refine J_lvst (lv' := [(0, .ref a0), (2, .int i2), (3, .int i3), (4, .int i4), (5, .int i5), (6, .int i1_)]) (st' := [.ref a7, .int (2 : Int32), .ref a7, .ref a0]) rfl rfl ?_
    refine J_alen (z := 0) dX5_writePupil_27 (fun _ => rfl) ka7 ?_
    refine J_imul dX5_writePupil_28 ?_
    obtain ⟨i9_, ei9_, h10⟩ := jLet_some h8; clear h8
    refine J_topI ei9_ ?_
    obtain ⟨g11, h12⟩ := gd_some h10; clear h10
    refine J_callS (v := some (.ref (mNx S))) (As := [.ref a7, .int i9_]) (rest := [.ref a0]) (t_copyOf ka7 g11) gC_J7_copyOf_59c91 gM_X5_381 rfl (by decide) (by decide) rfl rfl (Nat.le_of_ble_eq_true rfl) dX5_writePupil_29 ?_
    obtain ⟨a14, ea14, h15⟩ := jLet_some h12; clear h12
    obtain ⟨S13, eS13, h16⟩ := jLet_some h15; clear h15
    rw [← ea14]
    refine J_topS eS13 ?_
    have lS13 : jle MX S S13 := by rw [eS13]; exact mCopy_le _ _ _
    have hS13_a0 : mKd S13 a0 = 6 := kd_le lS13 ha
    have hS13_a3 : mKd S13 a3 = 8 := kd_le lS13 ka3
    have hS13_a7 : mKd S13 a7 = 8 := kd_le lS13 ka7
    have hS13_new : mKd S13 a14 = 8 := by rw [eS13, mKd_copy, if_pos ea14]
    refine J_putA (k := 5) (x := (some a14)) dX5_writePupil_32 gW_X5_30 hS13_a0 rfl ?_
    obtain ⟨S17, eS17, h18⟩ := jLet_some h16; clear h16
    refine J_topS eS17 ?_
    have hS17_a0 : mKd S17 a0 = 6 := by rw [eS17]; exact hS13_a0
    have hS17_a3 : mKd S17 a3 = 8 := by rw [eS17]; exact hS13_a3
    have hS17_a7 : mKd S17 a7 = 8 := by rw [eS17]; exact hS13_a7
    have hS17_a14 : mKd S17 a14 = 8 := by rw [eS17]; exact hS13_new
    exact t_X5_writePupil_J35 hS17_a0 h18
def c_X5_pupil (S : Mem) (a0 : Nat) (i1 : Int32) (i2 : Int32) (i3 : Int32) (i4 : Int32) : Option (Int32 × Mem) :=
  if (mI S a0 6) < (300 : Int32) then
    (jLet (((mI S a0 6) + (1 : Int32))) fun i3_ =>
    jLet (mSI S a0 6 i3_) fun S5 =>
    bnd (c_X5_writePupil S5 a0 ((mI S5 a0 6) - (1 : Int32)) i1 i2 i3 i4) fun S7 =>
    some ((mI S7 a0 6), S7))
  else
    (some ((-4 : Int32), S))
set_option maxRecDepth 100000 in
set_option maxHeartbeats 4000000 in
theorem t_X5_pupil {S : Mem} {a0 : Nat} {i1 : Int32} {i2 : Int32} {i3 : Int32} {i4 : Int32} {w : (Int32 × Mem)} (ha : mKd S a0 = 6) (h : c_X5_pupil S a0 i1 i2 i3 i4 = some w) : CT MX yX5_pupil cX5_pupil 5 (some .int) 3 108 [.ref a0, .int i1, .int i2, .int i3, .int i4] S (some (.int w.1)) w.2 := by
  refine CT.of (lv := [(0, .ref a0), (1, .int i1), (2, .int i2), (3, .int i3), (4, .int i4)]) (by decide) rfl (Nat.le_of_ble_eq_true rfl) ?_
  refine J_aload_n 0 dX5_pupil_0 rfl rfl ?_
  refine J_get (k := 6) (v := .int (mI S a0 6)) dX5_pupil_1 gF_X5_265 ha rfl ?_
  refine J_sipush (300 : Int32) dX5_pupil_4 (by decide) ?_
  refine J_icmp_lt 13 dX5_pupil_7 (by decide) h (fun c1 h2 => ?_) (fun c1 h2 => ?_)
  · clear h
    refine J_aload_n 0 dX5_pupil_13 rfl rfl ?_
    refine J_dup dX5_pupil_14 rfl ?_
    refine J_get (k := 6) (v := .int (mI S a0 6)) dX5_pupil_15 gF_X5_265 ha rfl ?_
    refine J_iconst (1 : Int32) dX5_pupil_18 (by decide) ?_
    refine J_iadd dX5_pupil_19 ?_
    obtain ⟨i3_, ei3_, h4⟩ := jLet_some h2; clear h2
    refine J_topI ei3_ ?_
    refine J_putI (k := 6) dX5_pupil_20 gW_X5_265 ha rfl ?_
    obtain ⟨S5, eS5, h6⟩ := jLet_some h4; clear h4
    refine J_topS eS5 ?_
    have hS5_a0 : mKd S5 a0 = 6 := by rw [eS5]; exact ha
    refine J_aload_n 0 dX5_pupil_23 rfl rfl ?_
    refine J_aload_n 0 dX5_pupil_24 rfl rfl ?_
    refine J_get (k := 6) (v := .int (mI S5 a0 6)) dX5_pupil_25 gF_X5_265 hS5_a0 rfl ?_
    refine J_iconst (1 : Int32) dX5_pupil_28 (by decide) ?_
    refine J_isub dX5_pupil_29 ?_
    refine J_iload_n 1 dX5_pupil_30 rfl rfl ?_
    refine J_iload_n 2 dX5_pupil_31 rfl rfl ?_
    refine J_iload_n 3 dX5_pupil_32 rfl rfl ?_
    refine J_iload 4 dX5_pupil_33 rfl ?_
    obtain ⟨S7, eS7, h8⟩ := bnd_some h6; clear h6
    have cS7 := (t_X5_writePupil hS5_a0 eS7)
    have lS7 : jle MX S5 S7 := cS7.1
    have hS7_a0 : mKd S7 a0 = 6 := kd_le lS7 hS5_a0
    refine J_callV (As := [.int ((mI S5 a0 6) - (1 : Int32)), .int i1, .int i2, .int i3, .int i4]) (rest := []) (st' := []) cS7 gC_X5_writePupil gM_X5_268 (mRecv hS5_a0 (by decide) jCl5) rfl (by decide) (by decide) rfl rfl (Nat.le_of_ble_eq_true rfl) dX5_pupil_35 ?_
    refine J_aload_n 0 dX5_pupil_38 rfl rfl ?_
    refine J_get (k := 6) (v := .int (mI S7 a0 6)) dX5_pupil_39 gF_X5_265 hS7_a0 rfl ?_
    have hw := Option.some.inj h8; subst hw
    exact J_iret rfl dX5_pupil_42
  · clear h
    refine J_bipush (-4 : Int32) dX5_pupil_10 (by decide) ?_
    have hw := Option.some.inj h2; subst hw
    exact J_iret rfl dX5_pupil_12
def c_X5_begin (S : Mem) (a0 : Nat) : Option (Int32 × Mem) :=
  jLet ((mI S a0 6)) fun i1_ =>
  jLet (mSI S a0 6 (0 : Int32)) fun S3 =>
  some (i1_, S3)
set_option maxRecDepth 100000 in
set_option maxHeartbeats 4000000 in
theorem t_X5_begin {S : Mem} {a0 : Nat} {w : (Int32 × Mem)} (ha : mKd S a0 = 6) (h : c_X5_begin S a0 = some w) : CT MX yX5_begin cX5_begin 2 (some .int) 0 0 [.ref a0] S (some (.int w.1)) w.2 := by
  refine CT.of (lv := [(0, .ref a0)]) (by decide) rfl (Nat.le_of_ble_eq_true rfl) ?_
  refine J_aload_n 0 dX5_begin_0 rfl rfl ?_
  refine J_get (k := 6) (v := .int (mI S a0 6)) dX5_begin_1 gF_X5_265 ha rfl ?_
  obtain ⟨i1_, ei1_, h2⟩ := jLet_some h; clear h
  refine J_topI ei1_ ?_
  refine J_istore_n dX5_begin_4 rfl (by decide) [1, 0] (lv' := [(0, .ref a0), (1, .int i1_)]) rfl ?_
  refine J_aload_n 0 dX5_begin_5 rfl rfl ?_
  refine J_iconst (0 : Int32) dX5_begin_6 (by decide) ?_
  refine J_putI (k := 6) dX5_begin_7 gW_X5_265 ha rfl ?_
  obtain ⟨S3, eS3, h4⟩ := jLet_some h2; clear h2
  refine J_topS eS3 ?_
  have hS3_a0 : mKd S3 a0 = 6 := by rw [eS3]; exact ha
  refine J_iload_n 1 dX5_begin_10 rfl rfl ?_
  have hw := Option.some.inj h4; subst hw
  exact J_iret rfl dX5_begin_11
def c_X5_alike (S : Mem) (a0 : Nat) (i1 : Int32) (i2 : Int32) : Option Int32 :=
  bnd (ob S (mR S a0 5) 8) fun a1 =>
  gd (inB (((4 : Int32) * i1) + i2) (mLn S a1)) <|
  bnd (ob S (mR S a0 4) 4) fun a5 =>
  bnd (c_X3_tell S a5 i1 i2) fun i7_ =>
  if (mI S a1 (Int32.toNatClampNeg (((4 : Int32) * i1) + i2))) = i7_ then
    (some (1 : Int32))
  else
    (some (0 : Int32))
set_option maxRecDepth 100000 in
set_option maxHeartbeats 4000000 in
theorem t_X5_alike {S : Mem} {a0 : Nat} {i1 : Int32} {i2 : Int32} {w : Int32} (ha : mKd S a0 = 6) (h : c_X5_alike S a0 i1 i2 = some w) : CT MX yX5_alike cX5_alike 3 (some .boolean) 1 22 [.ref a0, .int i1, .int i2] S (some (.int w)) S := by
  refine CT.of (lv := [(0, .ref a0), (1, .int i1), (2, .int i2)]) (by decide) rfl (Nat.le_of_ble_eq_true rfl) ?_
  refine J_aload_n 0 dX5_alike_0 rfl rfl ?_
  refine J_get (k := 5) (v := va_rf (mR S a0 5)) dX5_alike_1 gF_X5_30 ha rfl ?_
  refine J_iconst (4 : Int32) dX5_alike_4 (by decide) ?_
  refine J_iload_n 1 dX5_alike_5 rfl rfl ?_
  refine J_imul dX5_alike_6 ?_
  refine J_iload_n 2 dX5_alike_7 rfl rfl ?_
  refine J_iadd dX5_alike_8 ?_
  obtain ⟨a1, ea1, ka1, h2⟩ := ob_some h; clear h
  rw [ea1]
  refine J_lvst (lv' := [(0, .ref a0), (1, .int i1), (2, .int i2)]) (st' := [.int (((4 : Int32) * i1) + i2), .ref a1]) rfl rfl ?_
  obtain ⟨g3, h4⟩ := gd_some h2; clear h2
  refine J_iald dX5_alike_9 ka1 g3 ?_
  refine J_aload_n 0 dX5_alike_10 rfl rfl ?_
  refine J_get (k := 4) (v := va_rf (mR S a0 4)) dX5_alike_11 gF_X5_26 ha rfl ?_
  refine J_iload_n 1 dX5_alike_14 rfl rfl ?_
  refine J_iload_n 2 dX5_alike_15 rfl rfl ?_
  obtain ⟨a5, ea5, ka5, h6⟩ := ob_some h4; clear h4
  rw [ea5]
  refine J_lvst (lv' := [(0, .ref a0), (1, .int i1), (2, .int i2)]) (st' := [.int i2, .int i1, .ref a5, .int (mI S a1 (Int32.toNatClampNeg (((4 : Int32) * i1) + i2)))]) rfl rfl ?_
  obtain ⟨i7_, ei7_, h8⟩ := bnd_some h6; clear h6
  refine J_callV (As := [.int i1, .int i2]) (rest := [.int (mI S a1 (Int32.toNatClampNeg (((4 : Int32) * i1) + i2)))]) (st' := [.int i7_, .int (mI S a1 (Int32.toNatClampNeg (((4 : Int32) * i1) + i2)))]) (t_X3_tell ka5 ei7_) gC_X3_tell gM_X5_247 (mRecv ka5 (by decide) jCl3) rfl (by decide) (by decide) rfl rfl (Nat.le_of_ble_eq_true rfl) dX5_alike_16 ?_
  refine J_icmp_ne 26 dX5_alike_19 (by decide) h8 (fun c9 h10 => ?_) (fun c9 h10 => ?_)
  · clear h8
    refine J_iconst (1 : Int32) dX5_alike_22 (by decide) ?_
    refine J_goto 27 dX5_alike_23 (by decide) ?_
    have hw := Option.some.inj h10; subst hw
    exact J_zret rfl (by decide) dX5_alike_27
  · clear h8
    refine J_iconst (0 : Int32) dX5_alike_26 (by decide) ?_
    have hw := Option.some.inj h10; subst hw
    exact J_zret rfl (by decide) dX5_alike_27
def c_X5_slipPlace_L17 (S : Mem) : Nat → Nat → Int32 → Int32 → Option Int32
  | 0, _, _, _ => none
  | n + 1, a0, i1, i2 =>
    if i1 ≤ i2 then
      (bnd (ob S (mR S a0 4) 4) fun a3 =>
      if (mI S a0 6) = (mI S a3 2) then
        (some (-5 : Int32))
      else
        (some i1))
    else
      (bnd (c_X5_alike S a0 i2 (0 : Int32)) fun i7_ =>
      if i7_ = 0 then
        (some i2)
      else
        (bnd (c_X5_alike S a0 i2 (1 : Int32)) fun i11_ =>
        if i11_ = 0 then
          (some i2)
        else
          (bnd (c_X5_alike S a0 i2 (2 : Int32)) fun i15_ =>
          if i15_ = 0 then
            (some i2)
          else
            (bnd (c_X5_alike S a0 i2 (3 : Int32)) fun i19_ =>
            if i19_ = 0 then
              (some i2)
            else
              (c_X5_slipPlace_L17 S n a0 i1 (i2 + (1 : Int32)))))))
set_option maxRecDepth 100000 in
set_option maxHeartbeats 4000000 in
theorem t_X5_slipPlace_L17 {S : Mem} {w : Int32} (n : Nat) : ∀ (a0 : Nat) (i1 : Int32) (i2 : Int32), (mKd S a0 = 6) → c_X5_slipPlace_L17 S n a0 i1 i2 = some w → J MX yX5_slipPlace cX5_slipPlace 3 (some .int) 2 44 17 [(0, .ref a0), (1, .int i1), (2, .int i2)] [] S (some (.int w)) S := by
  induction n with
  | zero => intro a0 i1 i2 ha h; cases h
  | succ n lh =>
    intro a0 i1 i2 ha h
    refine J_iload_n 2 dX5_slipPlace_17 rfl rfl ?_
    refine J_iload_n 1 dX5_slipPlace_18 rfl rfl ?_
    refine J_icmp_ge 66 dX5_slipPlace_19 (by decide) h (fun c1 h2 => ?_) (fun c1 h2 => ?_)
    · clear h
      refine J_aload_n 0 dX5_slipPlace_66 rfl rfl ?_
      refine J_get (k := 6) (v := .int (mI S a0 6)) dX5_slipPlace_67 gF_X5_265 ha rfl ?_
      refine J_aload_n 0 dX5_slipPlace_70 rfl rfl ?_
      refine J_get (k := 4) (v := va_rf (mR S a0 4)) dX5_slipPlace_71 gF_X5_26 ha rfl ?_
      obtain ⟨a3, ea3, ka3, h4⟩ := ob_some h2; clear h2
      rw [ea3]
      refine J_lvst (lv' := [(0, .ref a0), (1, .int i1), (2, .int i2)]) (st' := [.ref a3, .int (mI S a0 6)]) rfl rfl ?_
      refine J_get (k := 2) (v := .int (mI S a3 2)) dX5_slipPlace_74 gF_X5_244 ka3 rfl ?_
      refine J_icmp_ne 85 dX5_slipPlace_77 (by decide) h4 (fun c5 h6 => ?_) (fun c5 h6 => ?_)
      · clear h4
        refine J_bipush (-5 : Int32) dX5_slipPlace_80 (by decide) ?_
        refine J_goto 86 dX5_slipPlace_82 (by decide) ?_
        have hw := Option.some.inj h6; subst hw
        exact J_iret rfl dX5_slipPlace_86
      · clear h4
        refine J_iload_n 1 dX5_slipPlace_85 rfl rfl ?_
        have hw := Option.some.inj h6; subst hw
        exact J_iret rfl dX5_slipPlace_86
    · clear h
      refine J_aload_n 0 dX5_slipPlace_22 rfl rfl ?_
      refine J_iload_n 2 dX5_slipPlace_23 rfl rfl ?_
      refine J_iconst (0 : Int32) dX5_slipPlace_24 (by decide) ?_
      obtain ⟨i7_, ei7_, h8⟩ := bnd_some h2; clear h2
      refine J_callV (As := [.int i2, .int (0 : Int32)]) (rest := []) (st' := [.int i7_]) (t_X5_alike ha ei7_) gC_X5_alike gM_X5_387 (mRecv ha (by decide) jCl5) rfl (by decide) (by decide) rfl rfl (Nat.le_of_ble_eq_true rfl) dX5_slipPlace_25 ?_
      refine J_if_eq 58 dX5_slipPlace_28 (by decide) h8 (fun c9 h10 => ?_) (fun c9 h10 => ?_)
      · clear h8
        refine J_iload_n 2 dX5_slipPlace_58 rfl rfl ?_
        have hw := Option.some.inj h10; subst hw
        exact J_iret rfl dX5_slipPlace_59
      · clear h8
        refine J_aload_n 0 dX5_slipPlace_31 rfl rfl ?_
        refine J_iload_n 2 dX5_slipPlace_32 rfl rfl ?_
        refine J_iconst (1 : Int32) dX5_slipPlace_33 (by decide) ?_
        obtain ⟨i11_, ei11_, h12⟩ := bnd_some h10; clear h10
        refine J_callV (As := [.int i2, .int (1 : Int32)]) (rest := []) (st' := [.int i11_]) (t_X5_alike ha ei11_) gC_X5_alike gM_X5_387 (mRecv ha (by decide) jCl5) rfl (by decide) (by decide) rfl rfl (Nat.le_of_ble_eq_true rfl) dX5_slipPlace_34 ?_
        refine J_if_eq 58 dX5_slipPlace_37 (by decide) h12 (fun c13 h14 => ?_) (fun c13 h14 => ?_)
        · clear h12
          refine J_iload_n 2 dX5_slipPlace_58 rfl rfl ?_
          have hw := Option.some.inj h14; subst hw
          exact J_iret rfl dX5_slipPlace_59
        · clear h12
          refine J_aload_n 0 dX5_slipPlace_40 rfl rfl ?_
          refine J_iload_n 2 dX5_slipPlace_41 rfl rfl ?_
          refine J_iconst (2 : Int32) dX5_slipPlace_42 (by decide) ?_
          obtain ⟨i15_, ei15_, h16⟩ := bnd_some h14; clear h14
          refine J_callV (As := [.int i2, .int (2 : Int32)]) (rest := []) (st' := [.int i15_]) (t_X5_alike ha ei15_) gC_X5_alike gM_X5_387 (mRecv ha (by decide) jCl5) rfl (by decide) (by decide) rfl rfl (Nat.le_of_ble_eq_true rfl) dX5_slipPlace_43 ?_
          refine J_if_eq 58 dX5_slipPlace_46 (by decide) h16 (fun c17 h18 => ?_) (fun c17 h18 => ?_)
          · clear h16
            refine J_iload_n 2 dX5_slipPlace_58 rfl rfl ?_
            have hw := Option.some.inj h18; subst hw
            exact J_iret rfl dX5_slipPlace_59
          · clear h16
            refine J_aload_n 0 dX5_slipPlace_49 rfl rfl ?_
            refine J_iload_n 2 dX5_slipPlace_50 rfl rfl ?_
            refine J_iconst (3 : Int32) dX5_slipPlace_51 (by decide) ?_
            obtain ⟨i19_, ei19_, h20⟩ := bnd_some h18; clear h18
            refine J_callV (As := [.int i2, .int (3 : Int32)]) (rest := []) (st' := [.int i19_]) (t_X5_alike ha ei19_) gC_X5_alike gM_X5_387 (mRecv ha (by decide) jCl5) rfl (by decide) (by decide) rfl rfl (Nat.le_of_ble_eq_true rfl) dX5_slipPlace_52 ?_
            refine J_if_ne 60 dX5_slipPlace_55 (by decide) h20 (fun c21 h22 => ?_) (fun c21 h22 => ?_)
            · clear h20
              refine J_iload_n 2 dX5_slipPlace_58 rfl rfl ?_
              have hw := Option.some.inj h22; subst hw
              exact J_iret rfl dX5_slipPlace_59
            · clear h20
              refine J_iinc 2 (1 : Int32) dX5_slipPlace_60 rfl (by decide) (by decide) [1, 2, 0] (lv' := [(0, .ref a0), (1, .int i1), (2, .int (i2 + (1 : Int32)))]) rfl ?_
              refine J_goto 17 dX5_slipPlace_63 (by decide) ?_
              exact lh a0 i1 (i2 + (1 : Int32)) ha h22
def c_X5_slipPlace (S : Mem) (a0 : Nat) : Option Int32 :=
  bnd (ob S (mR S a0 4) 4) fun a1 =>
  jLet ((if (mI S a1 2) < (mI S a0 6) then (mI S a1 2) else (mI S a0 6))) fun i3_ =>
  c_X5_slipPlace_L17 S bigN a0 i3_ (0 : Int32)
set_option maxRecDepth 100000 in
set_option maxHeartbeats 4000000 in
theorem t_X5_slipPlace {S : Mem} {a0 : Nat} {w : Int32} (ha : mKd S a0 = 6) (h : c_X5_slipPlace S a0 = some w) : CT MX yX5_slipPlace cX5_slipPlace 3 (some .int) 2 44 [.ref a0] S (some (.int w)) S := by
  refine CT.of (lv := [(0, .ref a0)]) (by decide) rfl (Nat.le_of_ble_eq_true rfl) ?_
  refine J_aload_n 0 dX5_slipPlace_0 rfl rfl ?_
  refine J_get (k := 6) (v := .int (mI S a0 6)) dX5_slipPlace_1 gF_X5_265 ha rfl ?_
  refine J_aload_n 0 dX5_slipPlace_4 rfl rfl ?_
  refine J_get (k := 4) (v := va_rf (mR S a0 4)) dX5_slipPlace_5 gF_X5_26 ha rfl ?_
  obtain ⟨a1, ea1, ka1, h2⟩ := ob_some h; clear h
  rw [ea1]
  refine J_lvst (lv' := [(0, .ref a0)]) (st' := [.ref a1, .int (mI S a0 6)]) rfl rfl ?_
  refine J_get (k := 2) (v := .int (mI S a1 2)) dX5_slipPlace_8 gF_X5_244 ka1 rfl ?_
  refine J_mmin dX5_slipPlace_11 gM_X5_374 (by decide) (by decide) (Nat.le_of_ble_eq_true rfl) ?_
  obtain ⟨i3_, ei3_, h4⟩ := jLet_some h2; clear h2
  refine J_topI ei3_ ?_
  refine J_istore_n dX5_slipPlace_14 rfl (by decide) [1, 0] (lv' := [(0, .ref a0), (1, .int i3_)]) rfl ?_
  refine J_iconst (0 : Int32) dX5_slipPlace_15 (by decide) ?_
  refine J_istore_n dX5_slipPlace_16 rfl (by decide) [1, 2, 0] (lv' := [(0, .ref a0), (1, .int i3_), (2, .int (0 : Int32))]) rfl ?_
  exact t_X5_slipPlace_L17 bigN a0 i3_ (0 : Int32) ha h4
def c_X5_slip (S : Mem) (a0 : Nat) : Option Int32 :=
  bnd (c_X5_slipPlace S a0) fun i1_ =>
  some i1_
set_option maxRecDepth 100000 in
set_option maxHeartbeats 4000000 in
theorem t_X5_slip {S : Mem} {a0 : Nat} {w : Int32} (ha : mKd S a0 = 6) (h : c_X5_slip S a0 = some w) : CT MX yX5_slip cX5_slip 1 (some .int) 3 66 [.ref a0] S (some (.int w)) S := by
  refine CT.of (lv := [(0, .ref a0)]) (by decide) rfl (Nat.le_of_ble_eq_true rfl) ?_
  refine J_aload_n 0 dX5_slip_0 rfl rfl ?_
  obtain ⟨i1_, ei1_, h2⟩ := bnd_some h; clear h
  refine J_callV (As := []) (rest := []) (st' := [.int i1_]) (t_X5_slipPlace ha ei1_) gC_X5_slipPlace gM_X5_272 (mRecv ha (by decide) jCl5) rfl (by decide) (by decide) rfl rfl (Nat.le_of_ble_eq_true rfl) dX5_slip_1 ?_
  have hw := Option.some.inj h2; subst hw
  exact J_iret rfl dX5_slip_4
def c_X5_lapseAt (S : Mem) (a0 : Nat) (i1 : Int32) : Option Int32 :=
  if 0 ≤ i1 then
    (if i1 < (mI S a0 6) then
      (bnd (ob S (mR S a0 4) 4) fun a5 =>
      if i1 < (mI S a5 2) then
        (bnd (c_X5_alike S a0 i1 (0 : Int32)) fun i9_ =>
        if i9_ = 0 then
          (some (1 : Int32))
        else
          (bnd (c_X5_alike S a0 i1 (1 : Int32)) fun i13_ =>
          if i13_ = 0 then
            (some (1 : Int32))
          else
            (some (2 : Int32))))
      else
        (some (4 : Int32)))
    else
      (some (3 : Int32)))
  else
    (some (0 : Int32))
set_option maxRecDepth 100000 in
set_option maxHeartbeats 4000000 in
theorem t_X5_lapseAt {S : Mem} {a0 : Nat} {i1 : Int32} {w : Int32} (ha : mKd S a0 = 6) (h : c_X5_lapseAt S a0 i1 = some w) : CT MX yX5_lapseAt cX5_lapseAt 2 (some .int) 2 44 [.ref a0, .int i1] S (some (.int w)) S := by
  refine CT.of (lv := [(0, .ref a0), (1, .int i1)]) (by decide) rfl (Nat.le_of_ble_eq_true rfl) ?_
  refine J_iload_n 1 dX5_lapseAt_0 rfl rfl ?_
  refine J_if_ge 6 dX5_lapseAt_1 (by decide) h (fun c1 h2 => ?_) (fun c1 h2 => ?_)
  · clear h
    refine J_iload_n 1 dX5_lapseAt_6 rfl rfl ?_
    refine J_aload_n 0 dX5_lapseAt_7 rfl rfl ?_
    refine J_get (k := 6) (v := .int (mI S a0 6)) dX5_lapseAt_8 gF_X5_265 ha rfl ?_
    refine J_icmp_lt 16 dX5_lapseAt_11 (by decide) h2 (fun c3 h4 => ?_) (fun c3 h4 => ?_)
    · clear h2
      refine J_iload_n 1 dX5_lapseAt_16 rfl rfl ?_
      refine J_aload_n 0 dX5_lapseAt_17 rfl rfl ?_
      refine J_get (k := 4) (v := va_rf (mR S a0 4)) dX5_lapseAt_18 gF_X5_26 ha rfl ?_
      obtain ⟨a5, ea5, ka5, h6⟩ := ob_some h4; clear h4
      rw [ea5]
      refine J_lvst (lv' := [(0, .ref a0), (1, .int i1)]) (st' := [.ref a5, .int i1]) rfl rfl ?_
      refine J_get (k := 2) (v := .int (mI S a5 2)) dX5_lapseAt_21 gF_X5_244 ka5 rfl ?_
      refine J_icmp_lt 29 dX5_lapseAt_24 (by decide) h6 (fun c7 h8 => ?_) (fun c7 h8 => ?_)
      · clear h6
        refine J_aload_n 0 dX5_lapseAt_29 rfl rfl ?_
        refine J_iload_n 1 dX5_lapseAt_30 rfl rfl ?_
        refine J_iconst (0 : Int32) dX5_lapseAt_31 (by decide) ?_
        obtain ⟨i9_, ei9_, h10⟩ := bnd_some h8; clear h8
        refine J_callV (As := [.int i1, .int (0 : Int32)]) (rest := []) (st' := [.int i9_]) (t_X5_alike ha ei9_) gC_X5_alike gM_X5_387 (mRecv ha (by decide) jCl5) rfl (by decide) (by decide) rfl rfl (Nat.le_of_ble_eq_true rfl) dX5_lapseAt_32 ?_
        refine J_if_eq 51 dX5_lapseAt_35 (by decide) h10 (fun c11 h12 => ?_) (fun c11 h12 => ?_)
        · clear h10
          refine J_iconst (1 : Int32) dX5_lapseAt_51 (by decide) ?_
          have hw := Option.some.inj h12; subst hw
          exact J_iret rfl dX5_lapseAt_52
        · clear h10
          refine J_aload_n 0 dX5_lapseAt_38 rfl rfl ?_
          refine J_iload_n 1 dX5_lapseAt_39 rfl rfl ?_
          refine J_iconst (1 : Int32) dX5_lapseAt_40 (by decide) ?_
          obtain ⟨i13_, ei13_, h14⟩ := bnd_some h12; clear h12
          refine J_callV (As := [.int i1, .int (1 : Int32)]) (rest := []) (st' := [.int i13_]) (t_X5_alike ha ei13_) gC_X5_alike gM_X5_387 (mRecv ha (by decide) jCl5) rfl (by decide) (by decide) rfl rfl (Nat.le_of_ble_eq_true rfl) dX5_lapseAt_41 ?_
          refine J_if_eq 51 dX5_lapseAt_44 (by decide) h14 (fun c15 h16 => ?_) (fun c15 h16 => ?_)
          · clear h14
            refine J_iconst (1 : Int32) dX5_lapseAt_51 (by decide) ?_
            have hw := Option.some.inj h16; subst hw
            exact J_iret rfl dX5_lapseAt_52
          · clear h14
            refine J_iconst (2 : Int32) dX5_lapseAt_47 (by decide) ?_
            refine J_goto 52 dX5_lapseAt_48 (by decide) ?_
            have hw := Option.some.inj h16; subst hw
            exact J_iret rfl dX5_lapseAt_52
      · clear h6
        refine J_iconst (4 : Int32) dX5_lapseAt_27 (by decide) ?_
        have hw := Option.some.inj h8; subst hw
        exact J_iret rfl dX5_lapseAt_28
    · clear h2
      refine J_iconst (3 : Int32) dX5_lapseAt_14 (by decide) ?_
      have hw := Option.some.inj h4; subst hw
      exact J_iret rfl dX5_lapseAt_15
  · clear h
    refine J_iconst (0 : Int32) dX5_lapseAt_4 (by decide) ?_
    have hw := Option.some.inj h2; subst hw
    exact J_iret rfl dX5_lapseAt_5
def c_X5_lapse (S : Mem) (a0 : Nat) : Option Int32 :=
  bnd (c_X5_slipPlace S a0) fun i1_ =>
  bnd (c_X5_lapseAt S a0 i1_) fun i3_ =>
  some i3_
set_option maxRecDepth 100000 in
set_option maxHeartbeats 4000000 in
theorem t_X5_lapse {S : Mem} {a0 : Nat} {w : Int32} (ha : mKd S a0 = 6) (h : c_X5_lapse S a0 = some w) : CT MX yX5_lapse cX5_lapse 1 (some .int) 3 66 [.ref a0] S (some (.int w)) S := by
  refine CT.of (lv := [(0, .ref a0)]) (by decide) rfl (Nat.le_of_ble_eq_true rfl) ?_
  refine J_aload_n 0 dX5_lapse_0 rfl rfl ?_
  refine J_aload_n 0 dX5_lapse_1 rfl rfl ?_
  obtain ⟨i1_, ei1_, h2⟩ := bnd_some h; clear h
  refine J_callV (As := []) (rest := [.ref a0]) (st' := [.int i1_, .ref a0]) (t_X5_slipPlace ha ei1_) gC_X5_slipPlace gM_X5_272 (mRecv ha (by decide) jCl5) rfl (by decide) (by decide) rfl rfl (Nat.le_of_ble_eq_true rfl) dX5_lapse_2 ?_
  obtain ⟨i3_, ei3_, h4⟩ := bnd_some h2; clear h2
  refine J_callV (As := [.int i1_]) (rest := []) (st' := [.int i3_]) (t_X5_lapseAt ha ei3_) gC_X5_lapseAt gM_X5_275 (mRecv ha (by decide) jCl5) rfl (by decide) (by decide) rfl rfl (Nat.le_of_ble_eq_true rfl) dX5_lapse_5 ?_
  have hw := Option.some.inj h4; subst hw
  exact J_iret rfl dX5_lapse_8
def c_X5_fix_J61 (S : Mem) (a0 : Nat) (i1 : Int32) : Option (Int32 × Mem) :=
  bnd (ob S (mR S a0 4) 4) fun a1 =>
  bnd (c_X3_tell S a1 i1 (0 : Int32)) fun i3_ =>
  bnd (ob S (mR S a0 4) 4) fun a5 =>
  bnd (c_X3_tell S a5 i1 (1 : Int32)) fun i7_ =>
  bnd (ob S (mR S a0 4) 4) fun a9 =>
  bnd (c_X3_tell S a9 i1 (2 : Int32)) fun i11_ =>
  bnd (ob S (mR S a0 4) 4) fun a13 =>
  bnd (c_X3_tell S a13 i1 (3 : Int32)) fun i15_ =>
  bnd (c_X5_writePupil S a0 i1 i3_ i7_ i11_ i15_) fun S17 =>
  bnd (c_X5_slipPlace S17 a0) fun i19_ =>
  some (i19_, S17)
set_option maxRecDepth 100000 in
set_option maxHeartbeats 4000000 in
theorem t_X5_fix_J61 {S : Mem} {a0 : Nat} {i1 : Int32} {w : (Int32 × Mem)} (ha : mKd S a0 = 6) (h : c_X5_fix_J61 S a0 i1 = some w) : J MX yX5_fix cX5_fix 3 (some .int) 3 108 61 [(0, .ref a0), (1, .int i1)] [] S (some (.int w.1)) w.2 := by
  refine J_aload_n 0 dX5_fix_61 rfl rfl ?_
  refine J_iload_n 1 dX5_fix_62 rfl rfl ?_
  refine J_aload_n 0 dX5_fix_63 rfl rfl ?_
  refine J_get (k := 4) (v := va_rf (mR S a0 4)) dX5_fix_64 gF_X5_26 ha rfl ?_
  refine J_iload_n 1 dX5_fix_67 rfl rfl ?_
  refine J_iconst (0 : Int32) dX5_fix_68 (by decide) ?_
  obtain ⟨a1, ea1, ka1, h2⟩ := ob_some h; clear h
  rw [ea1]
  refine J_lvst (lv' := [(0, .ref a0), (1, .int i1)]) (st' := [.int (0 : Int32), .int i1, .ref a1, .int i1, .ref a0]) rfl rfl ?_
  obtain ⟨i3_, ei3_, h4⟩ := bnd_some h2; clear h2
  refine J_callV (As := [.int i1, .int (0 : Int32)]) (rest := [.int i1, .ref a0]) (st' := [.int i3_, .int i1, .ref a0]) (t_X3_tell ka1 ei3_) gC_X3_tell gM_X5_247 (mRecv ka1 (by decide) jCl3) rfl (by decide) (by decide) rfl rfl (Nat.le_of_ble_eq_true rfl) dX5_fix_69 ?_
  refine J_aload_n 0 dX5_fix_72 rfl rfl ?_
  refine J_get (k := 4) (v := va_rf (mR S a0 4)) dX5_fix_73 gF_X5_26 ha rfl ?_
  refine J_iload_n 1 dX5_fix_76 rfl rfl ?_
  refine J_iconst (1 : Int32) dX5_fix_77 (by decide) ?_
  obtain ⟨a5, ea5, ka5, h6⟩ := ob_some h4; clear h4
  rw [ea5]
  refine J_lvst (lv' := [(0, .ref a0), (1, .int i1)]) (st' := [.int (1 : Int32), .int i1, .ref a5, .int i3_, .int i1, .ref a0]) rfl rfl ?_
  obtain ⟨i7_, ei7_, h8⟩ := bnd_some h6; clear h6
  refine J_callV (As := [.int i1, .int (1 : Int32)]) (rest := [.int i3_, .int i1, .ref a0]) (st' := [.int i7_, .int i3_, .int i1, .ref a0]) (t_X3_tell ka5 ei7_) gC_X3_tell gM_X5_247 (mRecv ka5 (by decide) jCl3) rfl (by decide) (by decide) rfl rfl (Nat.le_of_ble_eq_true rfl) dX5_fix_78 ?_
  refine J_aload_n 0 dX5_fix_81 rfl rfl ?_
  refine J_get (k := 4) (v := va_rf (mR S a0 4)) dX5_fix_82 gF_X5_26 ha rfl ?_
  refine J_iload_n 1 dX5_fix_85 rfl rfl ?_
  refine J_iconst (2 : Int32) dX5_fix_86 (by decide) ?_
  obtain ⟨a9, ea9, ka9, h10⟩ := ob_some h8; clear h8
  rw [ea9]
  refine J_lvst (lv' := [(0, .ref a0), (1, .int i1)]) (st' := [.int (2 : Int32), .int i1, .ref a9, .int i7_, .int i3_, .int i1, .ref a0]) rfl rfl ?_
  obtain ⟨i11_, ei11_, h12⟩ := bnd_some h10; clear h10
  refine J_callV (As := [.int i1, .int (2 : Int32)]) (rest := [.int i7_, .int i3_, .int i1, .ref a0]) (st' := [.int i11_, .int i7_, .int i3_, .int i1, .ref a0]) (t_X3_tell ka9 ei11_) gC_X3_tell gM_X5_247 (mRecv ka9 (by decide) jCl3) rfl (by decide) (by decide) rfl rfl (Nat.le_of_ble_eq_true rfl) dX5_fix_87 ?_
  refine J_aload_n 0 dX5_fix_90 rfl rfl ?_
  refine J_get (k := 4) (v := va_rf (mR S a0 4)) dX5_fix_91 gF_X5_26 ha rfl ?_
  refine J_iload_n 1 dX5_fix_94 rfl rfl ?_
  refine J_iconst (3 : Int32) dX5_fix_95 (by decide) ?_
  obtain ⟨a13, ea13, ka13, h14⟩ := ob_some h12; clear h12
  rw [ea13]
  refine J_lvst (lv' := [(0, .ref a0), (1, .int i1)]) (st' := [.int (3 : Int32), .int i1, .ref a13, .int i11_, .int i7_, .int i3_, .int i1, .ref a0]) rfl rfl ?_
  obtain ⟨i15_, ei15_, h16⟩ := bnd_some h14; clear h14
  refine J_callV (As := [.int i1, .int (3 : Int32)]) (rest := [.int i11_, .int i7_, .int i3_, .int i1, .ref a0]) (st' := [.int i15_, .int i11_, .int i7_, .int i3_, .int i1, .ref a0]) (t_X3_tell ka13 ei15_) gC_X3_tell gM_X5_247 (mRecv ka13 (by decide) jCl3) rfl (by decide) (by decide) rfl rfl (Nat.le_of_ble_eq_true rfl) dX5_fix_96 ?_
  obtain ⟨S17, eS17, h18⟩ := bnd_some h16; clear h16
  have cS17 := (t_X5_writePupil ha eS17)
  have lS17 : jle MX S S17 := cS17.1
  have hS17_a0 : mKd S17 a0 = 6 := kd_le lS17 ha
  have hS17_a1 : mKd S17 a1 = 4 := kd_le lS17 ka1
  have hS17_a5 : mKd S17 a5 = 4 := kd_le lS17 ka5
  have hS17_a9 : mKd S17 a9 = 4 := kd_le lS17 ka9
  have hS17_a13 : mKd S17 a13 = 4 := kd_le lS17 ka13
  refine J_callV (As := [.int i1, .int i3_, .int i7_, .int i11_, .int i15_]) (rest := []) (st' := []) cS17 gC_X5_writePupil gM_X5_268 (mRecv ha (by decide) jCl5) rfl (by decide) (by decide) rfl rfl (Nat.le_of_ble_eq_true rfl) dX5_fix_99 ?_
  refine J_aload_n 0 dX5_fix_102 rfl rfl ?_
  obtain ⟨i19_, ei19_, h20⟩ := bnd_some h18; clear h18
  refine J_callV (As := []) (rest := []) (st' := [.int i19_]) (t_X5_slipPlace hS17_a0 ei19_) gC_X5_slipPlace gM_X5_272 (mRecv hS17_a0 (by decide) jCl5) rfl (by decide) (by decide) rfl rfl (Nat.le_of_ble_eq_true rfl) dX5_fix_103 ?_
  have hw := Option.some.inj h20; subst hw
  exact J_iret rfl dX5_fix_106
def c_X5_fix (S : Mem) (a0 : Nat) : Option (Int32 × Mem) :=
  bnd (c_X5_slipPlace S a0) fun i1_ =>
  bnd (c_X5_lapseAt S a0 i1_) fun i3_ =>
  if i3_ = 0 then
    (some ((-3 : Int32), S))
  else
    (if i3_ = (4 : Int32) then
      (jLet (mSI S a0 6 i1_) fun S9 =>
      bnd (c_X5_slipPlace S9 a0) fun i11_ =>
      some (i11_, S9))
    else
      (if i3_ = (3 : Int32) then
        (if (mI S a0 6) < (300 : Int32) then
          (jLet (((mI S a0 6) + (1 : Int32))) fun i17_ =>
          jLet (mSI S a0 6 i17_) fun S19 =>
          c_X5_fix_J61 S19 a0 i1_)
        else
          (some ((-4 : Int32), S)))
      else
        (c_X5_fix_J61 S a0 i1_)))
set_option maxRecDepth 100000 in
set_option maxHeartbeats 4000000 in
theorem t_X5_fix {S : Mem} {a0 : Nat} {w : (Int32 × Mem)} (ha : mKd S a0 = 6) (h : c_X5_fix S a0 = some w) : CT MX yX5_fix cX5_fix 3 (some .int) 3 108 [.ref a0] S (some (.int w.1)) w.2 := by
  refine CT.of (lv := [(0, .ref a0)]) (by decide) rfl (Nat.le_of_ble_eq_true rfl) ?_
  refine J_aload_n 0 dX5_fix_0 rfl rfl ?_
  obtain ⟨i1_, ei1_, h2⟩ := bnd_some h; clear h
  refine J_callV (As := []) (rest := []) (st' := [.int i1_]) (t_X5_slipPlace ha ei1_) gC_X5_slipPlace gM_X5_272 (mRecv ha (by decide) jCl5) rfl (by decide) (by decide) rfl rfl (Nat.le_of_ble_eq_true rfl) dX5_fix_1 ?_
  refine J_istore_n dX5_fix_4 rfl (by decide) [1, 0] (lv' := [(0, .ref a0), (1, .int i1_)]) rfl ?_
  refine J_aload_n 0 dX5_fix_5 rfl rfl ?_
  refine J_iload_n 1 dX5_fix_6 rfl rfl ?_
  obtain ⟨i3_, ei3_, h4⟩ := bnd_some h2; clear h2
  refine J_callV (As := [.int i1_]) (rest := []) (st' := [.int i3_]) (t_X5_lapseAt ha ei3_) gC_X5_lapseAt gM_X5_275 (mRecv ha (by decide) jCl5) rfl (by decide) (by decide) rfl rfl (Nat.le_of_ble_eq_true rfl) dX5_fix_7 ?_
  refine J_istore_n dX5_fix_10 rfl (by decide) [1, 2, 0] (lv' := [(0, .ref a0), (1, .int i1_), (2, .int i3_)]) rfl ?_
  refine J_iload_n 2 dX5_fix_11 rfl rfl ?_
  refine J_if_ne 18 dX5_fix_12 (by decide) h4 (fun c5 h6 => ?_) (fun c5 h6 => ?_)
  · clear h4
    refine J_bipush (-3 : Int32) dX5_fix_15 (by decide) ?_
    have hw := Option.some.inj h6; subst hw
    exact J_iret rfl dX5_fix_17
  · clear h4
    refine J_iload_n 2 dX5_fix_18 rfl rfl ?_
    refine J_iconst (4 : Int32) dX5_fix_19 (by decide) ?_
    refine J_icmp_ne 33 dX5_fix_20 (by decide) h6 (fun c7 h8 => ?_) (fun c7 h8 => ?_)
    · clear h6
      refine J_aload_n 0 dX5_fix_23 rfl rfl ?_
      refine J_iload_n 1 dX5_fix_24 rfl rfl ?_
      refine J_putI (k := 6) dX5_fix_25 gW_X5_265 ha rfl ?_
      obtain ⟨S9, eS9, h10⟩ := jLet_some h8; clear h8
      refine J_topS eS9 ?_
      have hS9_a0 : mKd S9 a0 = 6 := by rw [eS9]; exact ha
      refine J_aload_n 0 dX5_fix_28 rfl rfl ?_
      obtain ⟨i11_, ei11_, h12⟩ := bnd_some h10; clear h10
      refine J_callV (As := []) (rest := []) (st' := [.int i11_]) (t_X5_slipPlace hS9_a0 ei11_) gC_X5_slipPlace gM_X5_272 (mRecv hS9_a0 (by decide) jCl5) rfl (by decide) (by decide) rfl rfl (Nat.le_of_ble_eq_true rfl) dX5_fix_29 ?_
      have hw := Option.some.inj h12; subst hw
      exact J_iret rfl dX5_fix_32
    · clear h6
      refine J_iload_n 2 dX5_fix_33 rfl rfl ?_
      refine J_iconst (3 : Int32) dX5_fix_34 (by decide) ?_
      refine J_icmp_ne 61 dX5_fix_35 (by decide) h8 (fun c13 h14 => ?_) (fun c13 h14 => ?_)
      · clear h8
        refine J_aload_n 0 dX5_fix_38 rfl rfl ?_
        refine J_get (k := 6) (v := .int (mI S a0 6)) dX5_fix_39 gF_X5_265 ha rfl ?_
        refine J_sipush (300 : Int32) dX5_fix_42 (by decide) ?_
        refine J_icmp_lt 51 dX5_fix_45 (by decide) h14 (fun c15 h16 => ?_) (fun c15 h16 => ?_)
        · clear h14
          refine J_aload_n 0 dX5_fix_51 rfl rfl ?_
          refine J_dup dX5_fix_52 rfl ?_
          refine J_get (k := 6) (v := .int (mI S a0 6)) dX5_fix_53 gF_X5_265 ha rfl ?_
          refine J_iconst (1 : Int32) dX5_fix_56 (by decide) ?_
          refine J_iadd dX5_fix_57 ?_
          obtain ⟨i17_, ei17_, h18⟩ := jLet_some h16; clear h16
          refine J_topI ei17_ ?_
          refine J_putI (k := 6) dX5_fix_58 gW_X5_265 ha rfl ?_
          obtain ⟨S19, eS19, h20⟩ := jLet_some h18; clear h18
          refine J_topS eS19 ?_
          have hS19_a0 : mKd S19 a0 = 6 := by rw [eS19]; exact ha
          refine J_lv [0, 1] rfl ?_
          exact t_X5_fix_J61 hS19_a0 h20
        · clear h14
          refine J_bipush (-4 : Int32) dX5_fix_48 (by decide) ?_
          have hw := Option.some.inj h16; subst hw
          exact J_iret rfl dX5_fix_50
      · clear h8
        refine J_lv [0, 1] rfl ?_
        exact t_X5_fix_J61 ha h14
def c_X5_exercise (S : Mem) (a0 : Nat) (i1 : Int32) (i2 : Int32) : Option (Int32 × Mem) :=
  if i1 < 0 then
    (some ((-2 : Int32), S))
  else
    (if i1 ≤ (2 : Int32) then
      (if (mI S a0 3) < (200 : Int32) then
        (jLet (mNx S) fun a8 =>
        jLet (mNew S 1 0 (cN 0)) fun S7 =>
        bnd (c_X0_init S7 a8 i1 i2) fun S11 =>
        bnd (c_X0_solve S11 a8) fun S13 =>
        bnd (ob S13 (mR S13 a0 2) 13) fun a15 =>
        gd (inB (mI S13 a0 3) (mLn S13 a15)) <|
        jLet (mSR S13 a15 (Int32.toNatClampNeg (mI S13 a0 3)) (some a8)) fun S19 =>
        jLet (((mI S19 a0 3) + (1 : Int32))) fun i21_ =>
        jLet (mSI S19 a0 3 i21_) fun S23 =>
        some (((mI S23 a0 3) - (1 : Int32)), S23))
      else
        (some ((-4 : Int32), S)))
    else
      (some ((-2 : Int32), S)))
set_option maxRecDepth 100000 in
set_option maxHeartbeats 4000000 in
theorem t_X5_exercise {S : Mem} {a0 : Nat} {i1 : Int32} {i2 : Int32} {w : (Int32 × Mem)} (ha : mKd S a0 = 6) (h : c_X5_exercise S a0 i1 i2 = some w) : CT MX yX5_exercise cX5_exercise 4 (some .int) 15 710 [.ref a0, .int i1, .int i2] S (some (.int w.1)) w.2 := by
  refine CT.of (lv := [(0, .ref a0), (1, .int i1), (2, .int i2)]) (by decide) rfl (Nat.le_of_ble_eq_true rfl) ?_
  refine J_iload_n 1 dX5_exercise_0 rfl rfl ?_
  refine J_if_lt 9 dX5_exercise_1 (by decide) h (fun c1 h2 => ?_) (fun c1 h2 => ?_)
  · clear h
    refine J_bipush (-2 : Int32) dX5_exercise_9 (by decide) ?_
    have hw := Option.some.inj h2; subst hw
    exact J_iret rfl dX5_exercise_11
  · clear h
    refine J_iload_n 1 dX5_exercise_4 rfl rfl ?_
    refine J_iconst (2 : Int32) dX5_exercise_5 (by decide) ?_
    refine J_icmp_le 12 dX5_exercise_6 (by decide) h2 (fun c3 h4 => ?_) (fun c3 h4 => ?_)
    · clear h2
      refine J_aload_n 0 dX5_exercise_12 rfl rfl ?_
      refine J_get (k := 3) (v := .int (mI S a0 3)) dX5_exercise_13 gF_X5_278 ha rfl ?_
      refine J_sipush (200 : Int32) dX5_exercise_16 (by decide) ?_
      refine J_icmp_lt 25 dX5_exercise_19 (by decide) h4 (fun c5 h6 => ?_) (fun c5 h6 => ?_)
      · clear h4
        refine J_new dX5_exercise_25 jCl0 (by decide) (by decide +kernel) gN_X5_17 ?_
        obtain ⟨a8, ea8, h9⟩ := jLet_some h6; clear h6
        obtain ⟨S7, eS7, h10⟩ := jLet_some h9; clear h9
        rw [← ea8]
        refine J_topS eS7 ?_
        have lS7 : jle MX S S7 := by rw [eS7]; exact mNew_le _ _ _ _
        have hS7_a0 : mKd S7 a0 = 6 := kd_le lS7 ha
        have hS7_new : mKd S7 a8 = 1 := by rw [eS7, mKd_new, if_pos ea8]
        refine J_dup dX5_exercise_28 rfl ?_
        refine J_iload_n 1 dX5_exercise_29 rfl rfl ?_
        refine J_iload_n 2 dX5_exercise_30 rfl rfl ?_
        obtain ⟨S11, eS11, h12⟩ := bnd_some h10; clear h10
        have cS11 := (t_X0_init hS7_new eS11)
        have lS11 : jle MX S7 S11 := cS11.1
        have hS11_a0 : mKd S11 a0 = 6 := kd_le lS11 hS7_a0
        have hS11_a8 : mKd S11 a8 = 1 := kd_le lS11 hS7_new
        refine J_callI (As := [.int i1, .int i2]) (rest := [.ref a8]) (st' := [.ref a8]) cS11 gC_X0_init gM_X5_281 rfl rfl (by decide) (by decide) rfl rfl (Nat.le_of_ble_eq_true rfl) dX5_exercise_31 ?_
        refine J_astore_n dX5_exercise_34 rfl (by decide) [1, 0] (lv' := [(0, .ref a0), (3, .ref a8)]) rfl ?_
        refine J_aload_n 1 dX5_exercise_35 rfl rfl ?_
        obtain ⟨S13, eS13, h14⟩ := bnd_some h12; clear h12
        have cS13 := (t_X0_solve hS11_a8 eS13)
        have lS13 : jle MX S11 S13 := cS13.1
        have hS13_a0 : mKd S13 a0 = 6 := kd_le lS13 hS11_a0
        have hS13_a8 : mKd S13 a8 = 1 := kd_le lS13 hS11_a8
        refine J_callV (As := []) (rest := []) (st' := []) cS13 gC_X0_solve gM_X5_283 (mRecv hS11_a8 (by decide) jCl0) rfl (by decide) (by decide) rfl rfl (Nat.le_of_ble_eq_true rfl) dX5_exercise_36 ?_
        refine J_aload_n 0 dX5_exercise_39 rfl rfl ?_
        refine J_get (k := 2) (v := va_rf (mR S13 a0 2)) dX5_exercise_40 gF_X5_19 hS13_a0 rfl ?_
        refine J_aload_n 0 dX5_exercise_43 rfl rfl ?_
        refine J_get (k := 3) (v := .int (mI S13 a0 3)) dX5_exercise_44 gF_X5_278 hS13_a0 rfl ?_
        refine J_aload_n 1 dX5_exercise_47 rfl rfl ?_
        obtain ⟨a15, ea15, ka15, h16⟩ := ob_some h14; clear h14
        rw [ea15]
        refine J_lvst (lv' := [(0, .ref a0), (3, .ref a8)]) (st' := [.ref a8, .int (mI S13 a0 3), .ref a15]) rfl rfl ?_
        obtain ⟨g17, h18⟩ := gd_some h16; clear h16
        refine J_aast (z := 5) dX5_exercise_48 (fun _ => rfl) (fun _ _ => rfl) jCl0 (by decide) hS13_a8 ka15 g17 ?_
        obtain ⟨S19, eS19, h20⟩ := jLet_some h18; clear h18
        refine J_topS eS19 ?_
        have hS19_a0 : mKd S19 a0 = 6 := by rw [eS19]; exact hS13_a0
        have hS19_a8 : mKd S19 a8 = 1 := by rw [eS19]; exact hS13_a8
        have hS19_a15 : mKd S19 a15 = 13 := by rw [eS19]; exact ka15
        refine J_aload_n 0 dX5_exercise_49 rfl rfl ?_
        refine J_dup dX5_exercise_50 rfl ?_
        refine J_get (k := 3) (v := .int (mI S19 a0 3)) dX5_exercise_51 gF_X5_278 hS19_a0 rfl ?_
        refine J_iconst (1 : Int32) dX5_exercise_54 (by decide) ?_
        refine J_iadd dX5_exercise_55 ?_
        obtain ⟨i21_, ei21_, h22⟩ := jLet_some h20; clear h20
        refine J_topI ei21_ ?_
        refine J_putI (k := 3) dX5_exercise_56 gW_X5_278 hS19_a0 rfl ?_
        obtain ⟨S23, eS23, h24⟩ := jLet_some h22; clear h22
        refine J_topS eS23 ?_
        have hS23_a0 : mKd S23 a0 = 6 := by rw [eS23]; exact hS19_a0
        have hS23_a8 : mKd S23 a8 = 1 := by rw [eS23]; exact hS19_a8
        have hS23_a15 : mKd S23 a15 = 13 := by rw [eS23]; exact hS19_a15
        refine J_aload_n 0 dX5_exercise_59 rfl rfl ?_
        refine J_get (k := 3) (v := .int (mI S23 a0 3)) dX5_exercise_60 gF_X5_278 hS23_a0 rfl ?_
        refine J_iconst (1 : Int32) dX5_exercise_63 (by decide) ?_
        refine J_isub dX5_exercise_64 ?_
        have hw := Option.some.inj h24; subst hw
        exact J_iret rfl dX5_exercise_65
      · clear h4
        refine J_bipush (-4 : Int32) dX5_exercise_22 (by decide) ?_
        have hw := Option.some.inj h6; subst hw
        exact J_iret rfl dX5_exercise_24
    · clear h2
      refine J_bipush (-2 : Int32) dX5_exercise_9 (by decide) ?_
      have hw := Option.some.inj h4; subst hw
      exact J_iret rfl dX5_exercise_11
def c_X5_knownExercise (S : Mem) (a0 : Nat) (i1 : Int32) : Option (Option Nat) :=
  if i1 < 0 then
    (some none)
  else
    (if i1 < (mI S a0 3) then
      (bnd (ob S (mR S a0 2) 13) fun a5 =>
      gd (inB i1 (mLn S a5)) <|
      some (mR S a5 (Int32.toNatClampNeg i1)))
    else
      (some none))
set_option maxRecDepth 100000 in
set_option maxHeartbeats 4000000 in
theorem t_X5_knownExercise {S : Mem} {a0 : Nat} {i1 : Int32} {w : (Option Nat)} (ha : mKd S a0 = 6) (h : c_X5_knownExercise S a0 i1 = some w) : CT MX yX5_knownExercise cX5_knownExercise 2 (some (.object "BeadSchool$Exercise")) 0 0 [.ref a0, .int i1] S (some (va_rf w)) S := by
  refine CT.of (lv := [(0, .ref a0), (1, .int i1)]) (by decide) rfl (Nat.le_of_ble_eq_true rfl) ?_
  refine J_iload_n 1 dX5_knownExercise_0 rfl rfl ?_
  refine J_if_lt 12 dX5_knownExercise_1 (by decide) h (fun c1 h2 => ?_) (fun c1 h2 => ?_)
  · clear h
    refine J_null dX5_knownExercise_12 ?_
    refine J_goto 22 dX5_knownExercise_13 (by decide) ?_
    have hw := Option.some.inj h2; subst hw
    exact J_aretq (x := none) rfl dX5_knownExercise_22
  · clear h
    refine J_iload_n 1 dX5_knownExercise_4 rfl rfl ?_
    refine J_aload_n 0 dX5_knownExercise_5 rfl rfl ?_
    refine J_get (k := 3) (v := .int (mI S a0 3)) dX5_knownExercise_6 gF_X5_278 ha rfl ?_
    refine J_icmp_lt 16 dX5_knownExercise_9 (by decide) h2 (fun c3 h4 => ?_) (fun c3 h4 => ?_)
    · clear h2
      refine J_aload_n 0 dX5_knownExercise_16 rfl rfl ?_
      refine J_get (k := 2) (v := va_rf (mR S a0 2)) dX5_knownExercise_17 gF_X5_19 ha rfl ?_
      refine J_iload_n 1 dX5_knownExercise_20 rfl rfl ?_
      obtain ⟨a5, ea5, ka5, h6⟩ := ob_some h4; clear h4
      rw [ea5]
      refine J_lvst (lv' := [(0, .ref a0), (1, .int i1)]) (st' := [.int i1, .ref a5]) rfl rfl ?_
      obtain ⟨g7, h8⟩ := gd_some h6; clear h6
      refine J_aald (z := 5) (C := RX0) dX5_knownExercise_21 (fun _ => rfl) (fun _ _ => rfl) ka5 g7 ?_
      have hw := Option.some.inj h8; subst hw
      exact J_aretq (x := (mR S a5 (Int32.toNatClampNeg i1))) rfl dX5_knownExercise_22
    · clear h2
      refine J_null dX5_knownExercise_12 ?_
      refine J_goto 22 dX5_knownExercise_13 (by decide) ?_
      have hw := Option.some.inj h4; subst hw
      exact J_aretq (x := none) rfl dX5_knownExercise_22
def c_X5_place (S : Mem) (a0 : Nat) (i1 : Int32) (i2 : Int32) : Option Int32 :=
  bnd (c_X5_knownExercise S a0 i1) fun r1_ =>
  oc r1_
    (some (-1 : Int32))
    (fun a3 =>
      if i2 < 0 then
        (some (-2 : Int32))
      else
        (if i2 < (12 : Int32) then
          (gd (kb S a3 1) <|
          bnd (c_X0_isBlank S a3 i2) fun i11_ =>
          if i11_ = 0 then
            (bnd (ob S (mR S a3 1) 8) fun a15 =>
            gd (inB i2 (mLn S a15)) <|
            some (mI S a15 (Int32.toNatClampNeg i2)))
          else
            (some (-5 : Int32)))
        else
          (some (-2 : Int32))))
set_option maxRecDepth 100000 in
set_option maxHeartbeats 4000000 in
theorem t_X5_place {S : Mem} {a0 : Nat} {i1 : Int32} {i2 : Int32} {w : Int32} (ha : mKd S a0 = 6) (h : c_X5_place S a0 i1 i2 = some w) : CT MX yX5_place cX5_place 4 (some .int) 1 21 [.ref a0, .int i1, .int i2] S (some (.int w)) S := by
  refine CT.of (lv := [(0, .ref a0), (1, .int i1), (2, .int i2)]) (by decide) rfl (Nat.le_of_ble_eq_true rfl) ?_
  refine J_aload_n 0 dX5_place_0 rfl rfl ?_
  refine J_iload_n 1 dX5_place_1 rfl rfl ?_
  obtain ⟨r1_, er1_, h2⟩ := bnd_some h; clear h
  refine J_callV (As := [.int i1]) (rest := []) (st' := [va_rf r1_]) (t_X5_knownExercise ha er1_) gC_X5_knownExercise gM_X5_286 (mRecv ha (by decide) jCl5) rfl (by decide) (by decide) rfl rfl (Nat.le_of_ble_eq_true rfl) dX5_place_2 ?_
  refine J_astore_nq dX5_place_5 rfl (by decide) [1, 3, 0] (lv' := [(0, .ref a0), (2, .int i2), (3, va_rf r1_)]) rfl ?_
  refine J_aload_nq 2 dX5_place_6 rfl rfl ?_
  refine J_ifnonnull 12 dX5_place_7 (by decide) h2 (fun ea3 h4 => ?_) (fun a3 ea3 h4 => ?_)
  · clear h2
    subst ea3
    refine J_lvst (lv' := [(0, .ref a0), (2, .int i2), (3, va_rf none)]) (st' := []) rfl rfl ?_
    refine J_iconst (-1 : Int32) dX5_place_10 (by decide) ?_
    have hw := Option.some.inj h4; subst hw
    exact J_iret rfl dX5_place_11
  · clear h2
    subst ea3
    refine J_lvst (lv' := [(0, .ref a0), (2, .int i2), (3, .ref a3)]) (st' := []) rfl rfl ?_
    refine J_iload_n 1 dX5_place_12 rfl rfl ?_
    refine J_if_lt 22 dX5_place_13 (by decide) h4 (fun c5 h6 => ?_) (fun c5 h6 => ?_)
    · clear h4
      refine J_bipush (-2 : Int32) dX5_place_22 (by decide) ?_
      have hw := Option.some.inj h6; subst hw
      exact J_iret rfl dX5_place_24
    · clear h4
      refine J_iload_n 1 dX5_place_16 rfl rfl ?_
      refine J_bipush (12 : Int32) dX5_place_17 (by decide) ?_
      refine J_icmp_lt 25 dX5_place_19 (by decide) h6 (fun c7 h8 => ?_) (fun c7 h8 => ?_)
      · clear h6
        refine J_aload_n 2 dX5_place_25 rfl rfl ?_
        refine J_iload_n 1 dX5_place_26 rfl rfl ?_
        obtain ⟨g9, h10⟩ := gd_some h8; clear h8
        have kg9 := kb_of g9
        obtain ⟨i11_, ei11_, h12⟩ := bnd_some h10; clear h10
        refine J_callV (As := [.int i2]) (rest := []) (st' := [.int i11_]) (t_X0_isBlank kg9 ei11_) gC_X0_isBlank gM_X5_290 (mRecv kg9 (by decide) jCl0) rfl (by decide) (by decide) rfl rfl (Nat.le_of_ble_eq_true rfl) dX5_place_27 ?_
        refine J_if_eq 38 dX5_place_30 (by decide) h12 (fun c13 h14 => ?_) (fun c13 h14 => ?_)
        · clear h12
          refine J_aload_n 2 dX5_place_38 rfl rfl ?_
          refine J_get (k := 1) (v := va_rf (mR S a3 1)) dX5_place_39 gF_X5_293 kg9 rfl ?_
          refine J_iload_n 1 dX5_place_42 rfl rfl ?_
          obtain ⟨a15, ea15, ka15, h16⟩ := ob_some h14; clear h14
          rw [ea15]
          refine J_lvst (lv' := [(0, .ref a0), (2, .int i2), (3, .ref a3)]) (st' := [.int i2, .ref a15]) rfl rfl ?_
          obtain ⟨g17, h18⟩ := gd_some h16; clear h16
          refine J_iald dX5_place_43 ka15 g17 ?_
          have hw := Option.some.inj h18; subst hw
          exact J_iret rfl dX5_place_44
        · clear h12
          refine J_bipush (-5 : Int32) dX5_place_33 (by decide) ?_
          refine J_goto 44 dX5_place_35 (by decide) ?_
          have hw := Option.some.inj h14; subst hw
          exact J_iret rfl dX5_place_44
      · clear h6
        refine J_bipush (-2 : Int32) dX5_place_22 (by decide) ?_
        have hw := Option.some.inj h8; subst hw
        exact J_iret rfl dX5_place_24
def c_X5_fillings (S : Mem) (a0 : Nat) (i1 : Int32) : Option Int32 :=
  bnd (c_X5_knownExercise S a0 i1) fun r1_ =>
  oc r1_
    (some (-1 : Int32))
    (fun a3 =>
      gd (kb S a3 1) <|
      some (mI S a3 3))
set_option maxRecDepth 100000 in
set_option maxHeartbeats 4000000 in
theorem t_X5_fillings {S : Mem} {a0 : Nat} {i1 : Int32} {w : Int32} (ha : mKd S a0 = 6) (h : c_X5_fillings S a0 i1 = some w) : CT MX yX5_fillings cX5_fillings 3 (some .int) 1 21 [.ref a0, .int i1] S (some (.int w)) S := by
  refine CT.of (lv := [(0, .ref a0), (1, .int i1)]) (by decide) rfl (Nat.le_of_ble_eq_true rfl) ?_
  refine J_aload_n 0 dX5_fillings_0 rfl rfl ?_
  refine J_iload_n 1 dX5_fillings_1 rfl rfl ?_
  obtain ⟨r1_, er1_, h2⟩ := bnd_some h; clear h
  refine J_callV (As := [.int i1]) (rest := []) (st' := [va_rf r1_]) (t_X5_knownExercise ha er1_) gC_X5_knownExercise gM_X5_286 (mRecv ha (by decide) jCl5) rfl (by decide) (by decide) rfl rfl (Nat.le_of_ble_eq_true rfl) dX5_fillings_2 ?_
  refine J_astore_nq dX5_fillings_5 rfl (by decide) [1, 0] (lv' := [(0, .ref a0), (2, va_rf r1_)]) rfl ?_
  refine J_aload_nq 1 dX5_fillings_6 rfl rfl ?_
  refine J_ifnonnull 14 dX5_fillings_7 (by decide) h2 (fun ea3 h4 => ?_) (fun a3 ea3 h4 => ?_)
  · clear h2
    subst ea3
    refine J_lvst (lv' := [(0, .ref a0), (2, va_rf none)]) (st' := []) rfl rfl ?_
    refine J_iconst (-1 : Int32) dX5_fillings_10 (by decide) ?_
    refine J_goto 18 dX5_fillings_11 (by decide) ?_
    have hw := Option.some.inj h4; subst hw
    exact J_iret rfl dX5_fillings_18
  · clear h2
    subst ea3
    refine J_lvst (lv' := [(0, .ref a0), (2, .ref a3)]) (st' := []) rfl rfl ?_
    refine J_aload_n 1 dX5_fillings_14 rfl rfl ?_
    obtain ⟨g5, h6⟩ := gd_some h4; clear h4
    have kg5 := kb_of g5
    refine J_get (k := 3) (v := .int (mI S a3 3)) dX5_fillings_15 gF_X5_296 kg5 rfl ?_
    have hw := Option.some.inj h6; subst hw
    exact J_iret rfl dX5_fillings_18
def c_X5_answer (S : Mem) (a0 : Nat) (i1 : Int32) (i2 : Int32) : Option Int32 :=
  bnd (c_X5_knownExercise S a0 i1) fun r1_ =>
  oc r1_
    (some (-1 : Int32))
    (fun a3 =>
      if i2 < 0 then
        (some (-2 : Int32))
      else
        (if i2 < (12 : Int32) then
          (gd (kb S a3 1) <|
          bnd (ob S (mR S a3 1) 8) fun a11 =>
          gd (inB i2 (mLn S a11)) <|
          some (mI S a11 (Int32.toNatClampNeg i2)))
        else
          (some (-2 : Int32))))
set_option maxRecDepth 100000 in
set_option maxHeartbeats 4000000 in
theorem t_X5_answer {S : Mem} {a0 : Nat} {i1 : Int32} {i2 : Int32} {w : Int32} (ha : mKd S a0 = 6) (h : c_X5_answer S a0 i1 i2 = some w) : CT MX yX5_answer cX5_answer 4 (some .int) 1 21 [.ref a0, .int i1, .int i2] S (some (.int w)) S := by
  refine CT.of (lv := [(0, .ref a0), (1, .int i1), (2, .int i2)]) (by decide) rfl (Nat.le_of_ble_eq_true rfl) ?_
  refine J_aload_n 0 dX5_answer_0 rfl rfl ?_
  refine J_iload_n 1 dX5_answer_1 rfl rfl ?_
  obtain ⟨r1_, er1_, h2⟩ := bnd_some h; clear h
  refine J_callV (As := [.int i1]) (rest := []) (st' := [va_rf r1_]) (t_X5_knownExercise ha er1_) gC_X5_knownExercise gM_X5_286 (mRecv ha (by decide) jCl5) rfl (by decide) (by decide) rfl rfl (Nat.le_of_ble_eq_true rfl) dX5_answer_2 ?_
  refine J_astore_nq dX5_answer_5 rfl (by decide) [1, 3, 0] (lv' := [(0, .ref a0), (2, .int i2), (3, va_rf r1_)]) rfl ?_
  refine J_aload_nq 2 dX5_answer_6 rfl rfl ?_
  refine J_ifnonnull 12 dX5_answer_7 (by decide) h2 (fun ea3 h4 => ?_) (fun a3 ea3 h4 => ?_)
  · clear h2
    subst ea3
    refine J_lvst (lv' := [(0, .ref a0), (2, .int i2), (3, va_rf none)]) (st' := []) rfl rfl ?_
    refine J_iconst (-1 : Int32) dX5_answer_10 (by decide) ?_
    have hw := Option.some.inj h4; subst hw
    exact J_iret rfl dX5_answer_11
  · clear h2
    subst ea3
    refine J_lvst (lv' := [(0, .ref a0), (2, .int i2), (3, .ref a3)]) (st' := []) rfl rfl ?_
    refine J_iload_n 1 dX5_answer_12 rfl rfl ?_
    refine J_if_lt 22 dX5_answer_13 (by decide) h4 (fun c5 h6 => ?_) (fun c5 h6 => ?_)
    · clear h4
      refine J_bipush (-2 : Int32) dX5_answer_22 (by decide) ?_
      refine J_goto 33 dX5_answer_24 (by decide) ?_
      have hw := Option.some.inj h6; subst hw
      exact J_iret rfl dX5_answer_33
    · clear h4
      refine J_iload_n 1 dX5_answer_16 rfl rfl ?_
      refine J_bipush (12 : Int32) dX5_answer_17 (by decide) ?_
      refine J_icmp_lt 27 dX5_answer_19 (by decide) h6 (fun c7 h8 => ?_) (fun c7 h8 => ?_)
      · clear h6
        refine J_aload_n 2 dX5_answer_27 rfl rfl ?_
        obtain ⟨g9, h10⟩ := gd_some h8; clear h8
        have kg9 := kb_of g9
        refine J_get (k := 1) (v := va_rf (mR S a3 1)) dX5_answer_28 gF_X5_293 kg9 rfl ?_
        refine J_iload_n 1 dX5_answer_31 rfl rfl ?_
        obtain ⟨a11, ea11, ka11, h12⟩ := ob_some h10; clear h10
        rw [ea11]
        refine J_lvst (lv' := [(0, .ref a0), (2, .int i2), (3, .ref a3)]) (st' := [.int i2, .ref a11]) rfl rfl ?_
        obtain ⟨g13, h14⟩ := gd_some h12; clear h12
        refine J_iald dX5_answer_32 ka11 g13 ?_
        have hw := Option.some.inj h14; subst hw
        exact J_iret rfl dX5_answer_33
      · clear h6
        refine J_bipush (-2 : Int32) dX5_answer_22 (by decide) ?_
        refine J_goto 33 dX5_answer_24 (by decide) ?_
        have hw := Option.some.inj h8; subst hw
        exact J_iret rfl dX5_answer_33
def c_X5_singleExercises_L4 (S : Mem) : Nat → Nat → Int32 → Int32 → Option Int32
  | 0, _, _, _ => none
  | n + 1, a0, i1, i2 =>
    if (mI S a0 3) ≤ i2 then
      (some i1)
    else
      (bnd (ob S (mR S a0 2) 13) fun a3 =>
      gd (inB i2 (mLn S a3)) <|
      bnd (ob S (mR S a3 (Int32.toNatClampNeg i2)) 1) fun a7 =>
      if (mI S a7 3) = (1 : Int32) then
        (c_X5_singleExercises_L4 S n a0 (i1 + (1 : Int32)) (i2 + (1 : Int32)))
      else
        (c_X5_singleExercises_L4 S n a0 i1 (i2 + (1 : Int32))))
set_option maxRecDepth 100000 in
set_option maxHeartbeats 4000000 in
theorem t_X5_singleExercises_L4 {S : Mem} {w : Int32} (n : Nat) : ∀ (a0 : Nat) (i1 : Int32) (i2 : Int32), (mKd S a0 = 6) → c_X5_singleExercises_L4 S n a0 i1 i2 = some w → J MX yX5_singleExercises cX5_singleExercises 3 (some .int) 0 0 4 [(0, .ref a0), (1, .int i1), (2, .int i2)] [] S (some (.int w)) S := by
  induction n with
  | zero => intro a0 i1 i2 ha h; cases h
  | succ n lh =>
    intro a0 i1 i2 ha h
    refine J_iload_n 2 dX5_singleExercises_4 rfl rfl ?_
    refine J_aload_n 0 dX5_singleExercises_5 rfl rfl ?_
    refine J_get (k := 3) (v := .int (mI S a0 3)) dX5_singleExercises_6 gF_X5_278 ha rfl ?_
    refine J_icmp_ge 34 dX5_singleExercises_9 (by decide) h (fun c1 h2 => ?_) (fun c1 h2 => ?_)
    · clear h
      refine J_iload_n 1 dX5_singleExercises_34 rfl rfl ?_
      have hw := Option.some.inj h2; subst hw
      exact J_iret rfl dX5_singleExercises_35
    · clear h
      refine J_aload_n 0 dX5_singleExercises_12 rfl rfl ?_
      refine J_get (k := 2) (v := va_rf (mR S a0 2)) dX5_singleExercises_13 gF_X5_19 ha rfl ?_
      refine J_iload_n 2 dX5_singleExercises_16 rfl rfl ?_
      obtain ⟨a3, ea3, ka3, h4⟩ := ob_some h2; clear h2
      rw [ea3]
      refine J_lvst (lv' := [(0, .ref a0), (1, .int i1), (2, .int i2)]) (st' := [.int i2, .ref a3]) rfl rfl ?_
      obtain ⟨g5, h6⟩ := gd_some h4; clear h4
      refine J_aald (z := 5) (C := RX0) dX5_singleExercises_17 (fun _ => rfl) (fun _ _ => rfl) ka3 g5 ?_
      obtain ⟨a7, ea7, ka7, h8⟩ := ob_some h6; clear h6
      rw [ea7]
      refine J_lvst (lv' := [(0, .ref a0), (1, .int i1), (2, .int i2)]) (st' := [.ref a7]) rfl rfl ?_
      refine J_get (k := 3) (v := .int (mI S a7 3)) dX5_singleExercises_18 gF_X5_296 ka7 rfl ?_
      refine J_iconst (1 : Int32) dX5_singleExercises_21 (by decide) ?_
      refine J_icmp_ne 28 dX5_singleExercises_22 (by decide) h8 (fun c9 h10 => ?_) (fun c9 h10 => ?_)
      · clear h8
        refine J_iinc 1 (1 : Int32) dX5_singleExercises_25 rfl (by decide) (by decide) [1, 0, 2] (lv' := [(0, .ref a0), (1, .int (i1 + (1 : Int32))), (2, .int i2)]) rfl ?_
        refine J_iinc 2 (1 : Int32) dX5_singleExercises_28 rfl (by decide) (by decide) [1, 2, 0] (lv' := [(0, .ref a0), (1, .int (i1 + (1 : Int32))), (2, .int (i2 + (1 : Int32)))]) rfl ?_
        refine J_goto 4 dX5_singleExercises_31 (by decide) ?_
        exact lh a0 (i1 + (1 : Int32)) (i2 + (1 : Int32)) ha h10
      · clear h8
        refine J_iinc 2 (1 : Int32) dX5_singleExercises_28 rfl (by decide) (by decide) [1, 2, 0] (lv' := [(0, .ref a0), (1, .int i1), (2, .int (i2 + (1 : Int32)))]) rfl ?_
        refine J_goto 4 dX5_singleExercises_31 (by decide) ?_
        exact lh a0 i1 (i2 + (1 : Int32)) ha h10
def c_X5_singleExercises (S : Mem) (a0 : Nat) : Option Int32 :=
  c_X5_singleExercises_L4 S bigN a0 (0 : Int32) (0 : Int32)
set_option maxRecDepth 100000 in
set_option maxHeartbeats 4000000 in
theorem t_X5_singleExercises {S : Mem} {a0 : Nat} {w : Int32} (ha : mKd S a0 = 6) (h : c_X5_singleExercises S a0 = some w) : CT MX yX5_singleExercises cX5_singleExercises 3 (some .int) 0 0 [.ref a0] S (some (.int w)) S := by
  refine CT.of (lv := [(0, .ref a0)]) (by decide) rfl (Nat.le_of_ble_eq_true rfl) ?_
  refine J_iconst (0 : Int32) dX5_singleExercises_0 (by decide) ?_
  refine J_istore_n dX5_singleExercises_1 rfl (by decide) [1, 0] (lv' := [(0, .ref a0), (1, .int (0 : Int32))]) rfl ?_
  refine J_iconst (0 : Int32) dX5_singleExercises_2 (by decide) ?_
  refine J_istore_n dX5_singleExercises_3 rfl (by decide) [1, 2, 0] (lv' := [(0, .ref a0), (1, .int (0 : Int32)), (2, .int (0 : Int32))]) rfl ?_
  exact t_X5_singleExercises_L4 bigN a0 (0 : Int32) (0 : Int32) ha h
def c_X5_told (S : Mem) (a0 : Nat) (i1 : Int32) : Option Int32 :=
  if i1 = (0 : Int32) then
    (some (mI S a0 1))
  else if i1 = (1 : Int32) then
    (some (mI S a0 3))
  else if i1 = (2 : Int32) then
    (bnd (ob S (mR S a0 4) 4) fun a4 =>
    some (mI S a4 10))
  else if i1 = (3 : Int32) then
    (bnd (ob S (mR S a0 4) 4) fun a7 =>
    some (mI S a7 11))
  else if i1 = (4 : Int32) then
    (some (mI S a0 10))
  else if i1 = (5 : Int32) then
    (some (mI S a0 6))
  else if i1 = (6 : Int32) then
    (bnd (c_X5_singleExercises S a0) fun i12_ =>
    some i12_)
  else (some (-2 : Int32))
set_option maxRecDepth 100000 in
set_option maxHeartbeats 4000000 in
theorem t_X5_told {S : Mem} {a0 : Nat} {i1 : Int32} {w : Int32} (ha : mKd S a0 = 6) (h : c_X5_told S a0 i1 = some w) : CT MX yX5_told cX5_told 2 (some .int) 1 22 [.ref a0, .int i1] S (some (.int w)) S := by
  refine CT.of (lv := [(0, .ref a0), (1, .int i1)]) (by decide) rfl (Nat.le_of_ble_eq_true rfl) ?_
  refine J_iload_n 1 dX5_told_0 rfl rfl ?_
  by_cases c1 : i1 = (0 : Int32)
  · replace h := ifp c1 h
    refine J_tabIn (0 : Int32) 44 dX5_told_1 c1 (by decide) (by decide) rfl (by decide) ?_
    refine J_aload_n 0 dX5_told_44 rfl rfl ?_
    refine J_get (k := 1) (v := .int (mI S a0 1)) dX5_told_45 gF_X5_41 ha rfl ?_
    have hw := Option.some.inj h; subst hw
    exact J_iret rfl dX5_told_48
  replace h := ifn c1 h
  by_cases c2 : i1 = (1 : Int32)
  · replace h := ifp c2 h
    refine J_tabIn (1 : Int32) 49 dX5_told_1 c2 (by decide) (by decide) rfl (by decide) ?_
    refine J_aload_n 0 dX5_told_49 rfl rfl ?_
    refine J_get (k := 3) (v := .int (mI S a0 3)) dX5_told_50 gF_X5_278 ha rfl ?_
    have hw := Option.some.inj h; subst hw
    exact J_iret rfl dX5_told_53
  replace h := ifn c2 h
  by_cases c3 : i1 = (2 : Int32)
  · replace h := ifp c3 h
    refine J_tabIn (2 : Int32) 54 dX5_told_1 c3 (by decide) (by decide) rfl (by decide) ?_
    refine J_aload_n 0 dX5_told_54 rfl rfl ?_
    refine J_get (k := 4) (v := va_rf (mR S a0 4)) dX5_told_55 gF_X5_26 ha rfl ?_
    obtain ⟨a4, ea4, ka4, h5⟩ := ob_some h; clear h
    rw [ea4]
    refine J_lvst (lv' := [(0, .ref a0), (1, .int i1)]) (st' := [.ref a4]) rfl rfl ?_
    refine J_get (k := 10) (v := .int (mI S a4 10)) dX5_told_58 gF_X5_299 ka4 rfl ?_
    have hw := Option.some.inj h5; subst hw
    exact J_iret rfl dX5_told_61
  replace h := ifn c3 h
  by_cases c6 : i1 = (3 : Int32)
  · replace h := ifp c6 h
    refine J_tabIn (3 : Int32) 62 dX5_told_1 c6 (by decide) (by decide) rfl (by decide) ?_
    refine J_aload_n 0 dX5_told_62 rfl rfl ?_
    refine J_get (k := 4) (v := va_rf (mR S a0 4)) dX5_told_63 gF_X5_26 ha rfl ?_
    obtain ⟨a7, ea7, ka7, h8⟩ := ob_some h; clear h
    rw [ea7]
    refine J_lvst (lv' := [(0, .ref a0), (1, .int i1)]) (st' := [.ref a7]) rfl rfl ?_
    refine J_get (k := 11) (v := .int (mI S a7 11)) dX5_told_66 gF_X5_302 ka7 rfl ?_
    have hw := Option.some.inj h8; subst hw
    exact J_iret rfl dX5_told_69
  replace h := ifn c6 h
  by_cases c9 : i1 = (4 : Int32)
  · replace h := ifp c9 h
    refine J_tabIn (4 : Int32) 70 dX5_told_1 c9 (by decide) (by decide) rfl (by decide) ?_
    refine J_aload_n 0 dX5_told_70 rfl rfl ?_
    refine J_get (k := 10) (v := .int (mI S a0 10)) dX5_told_71 gF_X5_305 ha rfl ?_
    have hw := Option.some.inj h; subst hw
    exact J_iret rfl dX5_told_74
  replace h := ifn c9 h
  by_cases c10 : i1 = (5 : Int32)
  · replace h := ifp c10 h
    refine J_tabIn (5 : Int32) 75 dX5_told_1 c10 (by decide) (by decide) rfl (by decide) ?_
    refine J_aload_n 0 dX5_told_75 rfl rfl ?_
    refine J_get (k := 6) (v := .int (mI S a0 6)) dX5_told_76 gF_X5_265 ha rfl ?_
    have hw := Option.some.inj h; subst hw
    exact J_iret rfl dX5_told_79
  replace h := ifn c10 h
  by_cases c11 : i1 = (6 : Int32)
  · replace h := ifp c11 h
    refine J_tabIn (6 : Int32) 80 dX5_told_1 c11 (by decide) (by decide) rfl (by decide) ?_
    refine J_aload_n 0 dX5_told_80 rfl rfl ?_
    obtain ⟨i12_, ei12_, h13⟩ := bnd_some h; clear h
    refine J_callV (As := []) (rest := []) (st' := [.int i12_]) (t_X5_singleExercises ha ei12_) gC_X5_singleExercises gM_X5_308 (mRecv ha (by decide) jCl5) rfl (by decide) (by decide) rfl rfl (Nat.le_of_ble_eq_true rfl) dX5_told_81 ?_
    have hw := Option.some.inj h13; subst hw
    exact J_iret rfl dX5_told_84
  replace h := ifn c11 h
  have hout := tabOut (x := i1) (n := 6) (by decide) (fun k hk => by
    match k, hk with
    | 0, _ => exact c1
    | 1, _ => exact c2
    | 2, _ => exact c3
    | 3, _ => exact c6
    | 4, _ => exact c9
    | 5, _ => exact c10
    | 6, _ => exact c11
    | k + 7, hk => exact absurd hk (by omega))
  refine J_tabOut 85 dX5_told_1 hout (by decide) ?_
  refine J_bipush (-2 : Int32) dX5_told_85 (by decide) ?_
  have hw := Option.some.inj h; subst hw
  exact J_iret rfl dX5_told_87
def c_X5_fault (S : Mem) (a0 : Nat) : Option Int32 :=
  some (mI S a0 9)
set_option maxRecDepth 100000 in
set_option maxHeartbeats 4000000 in
theorem t_X5_fault {S : Mem} {a0 : Nat} {w : Int32} (ha : mKd S a0 = 6) (h : c_X5_fault S a0 = some w) : CT MX yX5_fault cX5_fault 1 (some .int) 0 0 [.ref a0] S (some (.int w)) S := by
  refine CT.of (lv := [(0, .ref a0)]) (by decide) rfl (Nat.le_of_ble_eq_true rfl) ?_
  refine J_aload_n 0 dX5_fault_0 rfl rfl ?_
  refine J_get (k := 9) (v := .int (mI S a0 9)) dX5_fault_1 gF_X5_311 ha rfl ?_
  have hw := Option.some.inj h; subst hw
  exact J_iret rfl dX5_fault_4
