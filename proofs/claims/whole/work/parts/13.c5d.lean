def c_X5_undo (S : Mem) (a0 : Nat) : Option (Int32 × Mem) :=
  bnd (ob S (mR S a0 4) 4) fun a1 =>
  if (mI S a1 3) ≤ 0 then
    (some ((-3 : Int32), S))
  else
    (bnd (ob S (mR S a0 4) 4) fun a5 =>
    if (mI S a5 4) = 0 then
      (bnd (ob S (mR S a0 4) 4) fun a9 =>
      jLet (((mI S a9 3) - (1 : Int32))) fun i11_ =>
      jLet (mSI S a9 3 i11_) fun S13 =>
      bnd (ob S13 (mR S13 a0 4) 4) fun a15 =>
      bnd (c_X3_takeBack S13 a15 (mI S13 a15 3)) fun S17 =>
      bnd (ob S17 (mR S17 a0 4) 4) fun a19 =>
      some ((mI S17 a19 3), S17))
    else
      (some ((-3 : Int32), S)))
set_option maxRecDepth 100000 in
set_option maxHeartbeats 4000000 in
theorem t_X5_undo {S : Mem} {a0 : Nat} {w : (Int32 × Mem)} (ha : mKd S a0 = 6) (h : c_X5_undo S a0 = some w) : CT MX yX5_undo cX5_undo 1 (some .int) 2 46 [.ref a0] S (some (.int w.1)) w.2 := by
  refine CT.of (lv := [(0, .ref a0)]) (by decide) rfl (Nat.le_of_ble_eq_true rfl) ?_
  refine J_aload_n 0 dX5_undo_0 rfl rfl ?_
  refine J_get (k := 4) (v := va_rf (mR S a0 4)) dX5_undo_1 gF_X5_26 ha rfl ?_
  obtain ⟨a1, ea1, ka1, h2⟩ := ob_some h; clear h
  rw [ea1]
  refine J_lvst (lv' := [(0, .ref a0)]) (st' := [.ref a1]) rfl rfl ?_
  refine J_get (k := 3) (v := .int (mI S a1 3)) dX5_undo_4 gF_X5_259 ka1 rfl ?_
  refine J_if_le 20 dX5_undo_7 (by decide) h2 (fun c3 h4 => ?_) (fun c3 h4 => ?_)
  · clear h2
    refine J_bipush (-3 : Int32) dX5_undo_20 (by decide) ?_
    have hw := Option.some.inj h4; subst hw
    exact J_iret rfl dX5_undo_22
  · clear h2
    refine J_aload_n 0 dX5_undo_10 rfl rfl ?_
    refine J_get (k := 4) (v := va_rf (mR S a0 4)) dX5_undo_11 gF_X5_26 ha rfl ?_
    obtain ⟨a5, ea5, ka5, h6⟩ := ob_some h4; clear h4
    rw [ea5]
    refine J_lvst (lv' := [(0, .ref a0)]) (st' := [.ref a5]) rfl rfl ?_
    refine J_get (k := 4) (v := .int (mI S a5 4)) dX5_undo_14 gF_X5_90 ka5 rfl ?_
    refine J_if_eq 23 dX5_undo_17 (by decide) h6 (fun c7 h8 => ?_) (fun c7 h8 => ?_)
    · clear h6
      refine J_aload_n 0 dX5_undo_23 rfl rfl ?_
      refine J_get (k := 4) (v := va_rf (mR S a0 4)) dX5_undo_24 gF_X5_26 ha rfl ?_
      refine J_dup dX5_undo_27 (va_rf_cat _) ?_
      obtain ⟨a9, ea9, ka9, h10⟩ := ob_some h8; clear h8
      rw [ea9]
      refine J_lvst (lv' := [(0, .ref a0)]) (st' := [.ref a9, .ref a9]) rfl rfl ?_
      refine J_get (k := 3) (v := .int (mI S a9 3)) dX5_undo_28 gF_X5_259 ka9 rfl ?_
      refine J_iconst (1 : Int32) dX5_undo_31 (by decide) ?_
      refine J_isub dX5_undo_32 ?_
      obtain ⟨i11_, ei11_, h12⟩ := jLet_some h10; clear h10
      refine J_topI ei11_ ?_
      refine J_putI (k := 3) dX5_undo_33 gW_X5_259 ka9 rfl ?_
      obtain ⟨S13, eS13, h14⟩ := jLet_some h12; clear h12
      refine J_topS eS13 ?_
      have hS13_a0 : mKd S13 a0 = 6 := by rw [eS13]; exact ha
      have hS13_a1 : mKd S13 a1 = 4 := by rw [eS13]; exact ka1
      have hS13_a5 : mKd S13 a5 = 4 := by rw [eS13]; exact ka5
      have hS13_a9 : mKd S13 a9 = 4 := by rw [eS13]; exact ka9
      refine J_aload_n 0 dX5_undo_36 rfl rfl ?_
      refine J_get (k := 4) (v := va_rf (mR S13 a0 4)) dX5_undo_37 gF_X5_26 hS13_a0 rfl ?_
      refine J_aload_n 0 dX5_undo_40 rfl rfl ?_
      refine J_get (k := 4) (v := va_rf (mR S13 a0 4)) dX5_undo_41 gF_X5_26 hS13_a0 rfl ?_
      obtain ⟨a15, ea15, ka15, h16⟩ := ob_some h14; clear h14
      rw [ea15]
      refine J_lvst (lv' := [(0, .ref a0)]) (st' := [.ref a15, .ref a15]) rfl rfl ?_
      refine J_get (k := 3) (v := .int (mI S13 a15 3)) dX5_undo_44 gF_X5_259 ka15 rfl ?_
      obtain ⟨S17, eS17, h18⟩ := bnd_some h16; clear h16
      have cS17 := (t_X3_takeBack ka15 eS17)
      have lS17 : jle MX S13 S17 := cS17.1
      have hS17_a0 : mKd S17 a0 = 6 := kd_le lS17 hS13_a0
      have hS17_a1 : mKd S17 a1 = 4 := kd_le lS17 hS13_a1
      have hS17_a5 : mKd S17 a5 = 4 := kd_le lS17 hS13_a5
      have hS17_a9 : mKd S17 a9 = 4 := kd_le lS17 hS13_a9
      have hS17_a15 : mKd S17 a15 = 4 := kd_le lS17 ka15
      refine J_callV (As := [.int (mI S13 a15 3)]) (rest := []) (st' := []) cS17 gC_X3_takeBack gM_X5_262 (mRecv ka15 (by decide) jCl3) rfl (by decide) (by decide) rfl rfl (Nat.le_of_ble_eq_true rfl) dX5_undo_47 ?_
      refine J_aload_n 0 dX5_undo_50 rfl rfl ?_
      refine J_get (k := 4) (v := va_rf (mR S17 a0 4)) dX5_undo_51 gF_X5_26 hS17_a0 rfl ?_
      obtain ⟨a19, ea19, ka19, h20⟩ := ob_some h18; clear h18
      rw [ea19]
      refine J_lvst (lv' := [(0, .ref a0)]) (st' := [.ref a19]) rfl rfl ?_
      refine J_get (k := 3) (v := .int (mI S17 a19 3)) dX5_undo_54 gF_X5_259 ka19 rfl ?_
      have hw := Option.some.inj h20; subst hw
      exact J_iret rfl dX5_undo_57
    · clear h6
      refine J_bipush (-3 : Int32) dX5_undo_20 (by decide) ?_
      have hw := Option.some.inj h8; subst hw
      exact J_iret rfl dX5_undo_22
def c_X5_writePupil_J35 (S : Mem) (a0 : Nat) (i2 : Int32) (i3 : Int32) (i4 : Int32) (i5 : Int32) (i6 : Int32) : Option Mem :=
  bnd (ob S (mR S a0 5) 8) fun a1 =>
  gd (inB i6 (mLn S a1)) <|
  jLet (mSI S a1 (Int32.toNatClampNeg i6) i2) fun S5 =>
  bnd (ob S5 (mR S5 a0 5) 8) fun a7 =>
  gd (inB (i6 + (1 : Int32)) (mLn S5 a7)) <|
  jLet (mSI S5 a7 (Int32.toNatClampNeg (i6 + (1 : Int32))) i3) fun S11 =>
  bnd (ob S11 (mR S11 a0 5) 8) fun a13 =>
  gd (inB (i6 + (2 : Int32)) (mLn S11 a13)) <|
  jLet (mSI S11 a13 (Int32.toNatClampNeg (i6 + (2 : Int32))) i4) fun S17 =>
  bnd (ob S17 (mR S17 a0 5) 8) fun a19 =>
  gd (inB (i6 + (3 : Int32)) (mLn S17 a19)) <|
  jLet (mSI S17 a19 (Int32.toNatClampNeg (i6 + (3 : Int32))) i5) fun S23 =>
  some S23
set_option maxRecDepth 100000 in
set_option maxHeartbeats 4000000 in
theorem t_X5_writePupil_J35 {S : Mem} {a0 : Nat} {i2 : Int32} {i3 : Int32} {i4 : Int32} {i5 : Int32} {i6 : Int32} {w : Mem} (ha : mKd S a0 = 6) (h : c_X5_writePupil_J35 S a0 i2 i3 i4 i5 i6 = some w) : J MX yX5_writePupil cX5_writePupil 7 none 2 82 35 [(0, .ref a0), (2, .int i2), (3, .int i3), (4, .int i4), (5, .int i5), (6, .int i6)] [] S none w := by
  refine J_aload_n 0 dX5_writePupil_35 rfl rfl ?_
  refine J_get (k := 5) (v := va_rf (mR S a0 5)) dX5_writePupil_36 gF_X5_30 ha rfl ?_
  refine J_iload 5 dX5_writePupil_39 rfl ?_
  refine J_iload_n 1 dX5_writePupil_41 rfl rfl ?_
  obtain ⟨a1, ea1, ka1, h2⟩ := ob_some h; clear h
  rw [ea1]
  refine J_lvst (lv' := [(0, .ref a0), (2, .int i2), (3, .int i3), (4, .int i4), (5, .int i5), (6, .int i6)]) (st' := [.int i2, .int i6, .ref a1]) rfl rfl ?_
  obtain ⟨g3, h4⟩ := gd_some h2; clear h2
  refine J_iast dX5_writePupil_42 ka1 g3 ?_
  obtain ⟨S5, eS5, h6⟩ := jLet_some h4; clear h4
  refine J_topS eS5 ?_
  have hS5_a0 : mKd S5 a0 = 6 := by rw [eS5]; exact ha
  have hS5_a1 : mKd S5 a1 = 8 := by rw [eS5]; exact ka1
  refine J_aload_n 0 dX5_writePupil_43 rfl rfl ?_
  refine J_get (k := 5) (v := va_rf (mR S5 a0 5)) dX5_writePupil_44 gF_X5_30 hS5_a0 rfl ?_
  refine J_iload 5 dX5_writePupil_47 rfl ?_
  refine J_iconst (1 : Int32) dX5_writePupil_49 (by decide) ?_
  refine J_iadd dX5_writePupil_50 ?_
  refine J_iload_n 2 dX5_writePupil_51 rfl rfl ?_
  obtain ⟨a7, ea7, ka7, h8⟩ := ob_some h6; clear h6
  rw [ea7]
  refine J_lvst (lv' := [(0, .ref a0), (2, .int i2), (3, .int i3), (4, .int i4), (5, .int i5), (6, .int i6)]) (st' := [.int i3, .int (i6 + (1 : Int32)), .ref a7]) rfl rfl ?_
  obtain ⟨g9, h10⟩ := gd_some h8; clear h8
  refine J_iast dX5_writePupil_52 ka7 g9 ?_
  obtain ⟨S11, eS11, h12⟩ := jLet_some h10; clear h10
  refine J_topS eS11 ?_
  have hS11_a0 : mKd S11 a0 = 6 := by rw [eS11]; exact hS5_a0
  have hS11_a1 : mKd S11 a1 = 8 := by rw [eS11]; exact hS5_a1
  have hS11_a7 : mKd S11 a7 = 8 := by rw [eS11]; exact ka7
  refine J_aload_n 0 dX5_writePupil_53 rfl rfl ?_
  refine J_get (k := 5) (v := va_rf (mR S11 a0 5)) dX5_writePupil_54 gF_X5_30 hS11_a0 rfl ?_
  refine J_iload 5 dX5_writePupil_57 rfl ?_
  refine J_iconst (2 : Int32) dX5_writePupil_59 (by decide) ?_
  refine J_iadd dX5_writePupil_60 ?_
  refine J_iload 3 dX5_writePupil_61 rfl ?_
  obtain ⟨a13, ea13, ka13, h14⟩ := ob_some h12; clear h12
  rw [ea13]
  refine J_lvst (lv' := [(0, .ref a0), (2, .int i2), (3, .int i3), (4, .int i4), (5, .int i5), (6, .int i6)]) (st' := [.int i4, .int (i6 + (2 : Int32)), .ref a13]) rfl rfl ?_
  obtain ⟨g15, h16⟩ := gd_some h14; clear h14
  refine J_iast dX5_writePupil_63 ka13 g15 ?_
  obtain ⟨S17, eS17, h18⟩ := jLet_some h16; clear h16
  refine J_topS eS17 ?_
  have hS17_a0 : mKd S17 a0 = 6 := by rw [eS17]; exact hS11_a0
  have hS17_a1 : mKd S17 a1 = 8 := by rw [eS17]; exact hS11_a1
  have hS17_a7 : mKd S17 a7 = 8 := by rw [eS17]; exact hS11_a7
  have hS17_a13 : mKd S17 a13 = 8 := by rw [eS17]; exact ka13
  refine J_aload_n 0 dX5_writePupil_64 rfl rfl ?_
  refine J_get (k := 5) (v := va_rf (mR S17 a0 5)) dX5_writePupil_65 gF_X5_30 hS17_a0 rfl ?_
  refine J_iload 5 dX5_writePupil_68 rfl ?_
  refine J_iconst (3 : Int32) dX5_writePupil_70 (by decide) ?_
  refine J_iadd dX5_writePupil_71 ?_
  refine J_iload 4 dX5_writePupil_72 rfl ?_
  obtain ⟨a19, ea19, ka19, h20⟩ := ob_some h18; clear h18
  rw [ea19]
  refine J_lvst (lv' := [(0, .ref a0), (2, .int i2), (3, .int i3), (4, .int i4), (5, .int i5), (6, .int i6)]) (st' := [.int i5, .int (i6 + (3 : Int32)), .ref a19]) rfl rfl ?_
  obtain ⟨g21, h22⟩ := gd_some h20; clear h20
  refine J_iast dX5_writePupil_74 ka19 g21 ?_
  obtain ⟨S23, eS23, h24⟩ := jLet_some h22; clear h22
  refine J_topS eS23 ?_
  have hS23_a0 : mKd S23 a0 = 6 := by rw [eS23]; exact hS17_a0
  have hS23_a1 : mKd S23 a1 = 8 := by rw [eS23]; exact hS17_a1
  have hS23_a7 : mKd S23 a7 = 8 := by rw [eS23]; exact hS17_a7
  have hS23_a13 : mKd S23 a13 = 8 := by rw [eS23]; exact hS17_a13
  have hS23_a19 : mKd S23 a19 = 8 := by rw [eS23]; exact ka19
  have hw := Option.some.inj h24; subst hw
  exact J_vret rfl dX5_writePupil_75
def c_X5_writePupil (S : Mem) (a0 : Nat) (i1 : Int32) (i2 : Int32) (i3 : Int32) (i4 : Int32) (i5 : Int32) : Option Mem :=
  jLet (((4 : Int32) * i1)) fun i1_ =>
  bnd (ob S (mR S a0 5) 8) fun a3 =>
  if (i1_ + (4 : Int32)) ≤ (nI (mLn S a3)) then
    (c_X5_writePupil_J35 S a0 i2 i3 i4 i5 i1_)
  else
    (bnd (ob S (mR S a0 5) 8) fun a7 =>
    jLet (((2 : Int32) * (nI (mLn S a7)))) fun i9_ =>
    gd (copyOK S a7 i9_) <|
    jLet (mNx S) fun a14 =>
    jLet (mCopy S a7 (Int32.toNatClampNeg i9_)) fun S13 =>
    jLet (mSR S13 a0 5 (some a14)) fun S17 =>
    c_X5_writePupil_J35 S17 a0 i2 i3 i4 i5 i1_)
set_option maxRecDepth 100000 in
set_option maxHeartbeats 4000000 in
theorem t_X5_writePupil {S : Mem} {a0 : Nat} {i1 : Int32} {i2 : Int32} {i3 : Int32} {i4 : Int32} {i5 : Int32} {w : Mem} (ha : mKd S a0 = 6) (h : c_X5_writePupil S a0 i1 i2 i3 i4 i5 = some w) : CT MX yX5_writePupil cX5_writePupil 7 none 2 82 [.ref a0, .int i1, .int i2, .int i3, .int i4, .int i5] S none w := by
  refine CT.of (lv := [(0, .ref a0), (1, .int i1), (2, .int i2), (3, .int i3), (4, .int i4), (5, .int i5)]) (by decide) rfl (Nat.le_of_ble_eq_true rfl) ?_
  refine J_iconst (4 : Int32) dX5_writePupil_0 (by decide) ?_
  refine J_iload_n 1 dX5_writePupil_1 rfl rfl ?_
  refine J_imul dX5_writePupil_2 ?_
  obtain ⟨i1_, ei1_, h2⟩ := jLet_some h; clear h
  refine J_topI ei1_ ?_
  refine J_istore dX5_writePupil_3 (by decide) [1, 3, 4, 5, 6, 0] (lv' := [(0, .ref a0), (2, .int i2), (3, .int i3), (4, .int i4), (5, .int i5), (6, .int i1_)]) rfl ?_
  refine J_iload 5 dX5_writePupil_5 rfl ?_
  refine J_iconst (4 : Int32) dX5_writePupil_7 (by decide) ?_
  refine J_iadd dX5_writePupil_8 ?_
  refine J_aload_n 0 dX5_writePupil_9 rfl rfl ?_
  refine J_get (k := 5) (v := va_rf (mR S a0 5)) dX5_writePupil_10 gF_X5_30 ha rfl ?_
  obtain ⟨a3, ea3, ka3, h4⟩ := ob_some h2; clear h2
  rw [ea3]
  refine J_lvst (lv' := [(0, .ref a0), (2, .int i2), (3, .int i3), (4, .int i4), (5, .int i5), (6, .int i1_)]) (st' := [.ref a3, .int (i1_ + (4 : Int32))]) rfl rfl ?_
  refine J_alen (z := 0) dX5_writePupil_13 (fun _ => rfl) ka3 ?_
  refine J_icmp_le 35 dX5_writePupil_14 (by decide) h4 (fun c5 h6 => ?_) (fun c5 h6 => ?_)
  · clear h4
    exact t_X5_writePupil_J35 ha h6
  · clear h4
    refine J_aload_n 0 dX5_writePupil_17 rfl rfl ?_
    refine J_aload_n 0 dX5_writePupil_18 rfl rfl ?_
    refine J_get (k := 5) (v := va_rf (mR S a0 5)) dX5_writePupil_19 gF_X5_30 ha rfl ?_
    refine J_iconst (2 : Int32) dX5_writePupil_22 (by decide) ?_
    refine J_aload_n 0 dX5_writePupil_23 rfl rfl ?_
    refine J_get (k := 5) (v := va_rf (mR S a0 5)) dX5_writePupil_24 gF_X5_30 ha rfl ?_
    obtain ⟨a7, ea7, ka7, h8⟩ := ob_some h6; clear h6
    rw [ea7]
    refine J_lvst (lv' := [(0, .ref a0), (2, .int i2), (3, .int i3), (4, .int i4), (5, .int i5), (6, .int i1_)]) (st' := [.ref a7, .int (2 : Int32), .ref a7, .ref a0]) rfl rfl ?_
    refine J_alen (z := 0) dX5_writePupil_27 (fun _ => rfl) ka7 ?_
    refine J_imul dX5_writePupil_28 ?_
    obtain ⟨i9_, ei9_, h10⟩ := jLet_some h8; clear h8
    refine J_topI ei9_ ?_
    obtain ⟨g11, h12⟩ := gd_some h10; clear h10
    refine J_callS (v := some (.ref (mNx S))) (As := [.ref a7, .int i9_]) (rest := [.ref a0]) (t_copyOf ka7 g11) gC_J7_copyOf_59c91 gM_X5_384 rfl (by decide) (by decide) rfl rfl (Nat.le_of_ble_eq_true rfl) dX5_writePupil_29 ?_
    obtain ⟨a14, ea14, h15⟩ := jLet_some h12; clear h12
    obtain ⟨S13, eS13, h16⟩ := jLet_some h15; clear h15
    rw [← ea14]
    refine J_topS eS13 ?_
    have lS13 : jle MX S S13 := by rw [eS13]; exact mCopy_le _ _ _
    have hS13_a0 : mKd S13 a0 = 6 := kd_le lS13 ha
    have hS13_a3 : mKd S13 a3 = 8 := kd_le lS13 ka3
    have hS13_a7 : mKd S13 a7 = 8 := kd_le lS13 ka7
    have hS13_new : mKd S13 a14 = 8 := by rw [eS13, mKd_copy, if_pos ea14]
    refine J_putA (k := 5) (x := (some a14)) dX5_writePupil_32 gW_X5_30 hS13_a0 rfl ?_
    obtain ⟨S17, eS17, h18⟩ := jLet_some h16; clear h16
    refine J_topS eS17 ?_
    have hS17_a0 : mKd S17 a0 = 6 := by rw [eS17]; exact hS13_a0
    have hS17_a3 : mKd S17 a3 = 8 := by rw [eS17]; exact hS13_a3
    have hS17_a7 : mKd S17 a7 = 8 := by rw [eS17]; exact hS13_a7
    have hS17_a14 : mKd S17 a14 = 8 := by rw [eS17]; exact hS13_new
    exact t_X5_writePupil_J35 hS17_a0 h18
def c_X5_pupil (S : Mem) (a0 : Nat) (i1 : Int32) (i2 : Int32) (i3 : Int32) (i4 : Int32) : Option (Int32 × Mem) :=
  if (mI S a0 6) < (300 : Int32) then
    (jLet (((mI S a0 6) + (1 : Int32))) fun i3_ =>
    jLet (mSI S a0 6 i3_) fun S5 =>
    bnd (c_X5_writePupil S5 a0 ((mI S5 a0 6) - (1 : Int32)) i1 i2 i3 i4) fun S7 =>
    some ((mI S7 a0 6), S7))
  else
    (some ((-4 : Int32), S))
set_option maxRecDepth 100000 in
set_option maxHeartbeats 4000000 in
theorem t_X5_pupil {S : Mem} {a0 : Nat} {i1 : Int32} {i2 : Int32} {i3 : Int32} {i4 : Int32} {w : (Int32 × Mem)} (ha : mKd S a0 = 6) (h : c_X5_pupil S a0 i1 i2 i3 i4 = some w) : CT MX yX5_pupil cX5_pupil 5 (some .int) 3 108 [.ref a0, .int i1, .int i2, .int i3, .int i4] S (some (.int w.1)) w.2 := by
  refine CT.of (lv := [(0, .ref a0), (1, .int i1), (2, .int i2), (3, .int i3), (4, .int i4)]) (by decide) rfl (Nat.le_of_ble_eq_true rfl) ?_
  refine J_aload_n 0 dX5_pupil_0 rfl rfl ?_
  refine J_get (k := 6) (v := .int (mI S a0 6)) dX5_pupil_1 gF_X5_265 ha rfl ?_
  refine J_sipush (300 : Int32) dX5_pupil_4 (by decide) ?_
  refine J_icmp_lt 13 dX5_pupil_7 (by decide) h (fun c1 h2 => ?_) (fun c1 h2 => ?_)
  · clear h
    refine J_aload_n 0 dX5_pupil_13 rfl rfl ?_
    refine J_dup dX5_pupil_14 rfl ?_
    refine J_get (k := 6) (v := .int (mI S a0 6)) dX5_pupil_15 gF_X5_265 ha rfl ?_
    refine J_iconst (1 : Int32) dX5_pupil_18 (by decide) ?_
    refine J_iadd dX5_pupil_19 ?_
    obtain ⟨i3_, ei3_, h4⟩ := jLet_some h2; clear h2
    refine J_topI ei3_ ?_
    refine J_putI (k := 6) dX5_pupil_20 gW_X5_265 ha rfl ?_
    obtain ⟨S5, eS5, h6⟩ := jLet_some h4; clear h4
    refine J_topS eS5 ?_
    have hS5_a0 : mKd S5 a0 = 6 := by rw [eS5]; exact ha
    refine J_aload_n 0 dX5_pupil_23 rfl rfl ?_
    refine J_aload_n 0 dX5_pupil_24 rfl rfl ?_
    refine J_get (k := 6) (v := .int (mI S5 a0 6)) dX5_pupil_25 gF_X5_265 hS5_a0 rfl ?_
    refine J_iconst (1 : Int32) dX5_pupil_28 (by decide) ?_
    refine J_isub dX5_pupil_29 ?_
    refine J_iload_n 1 dX5_pupil_30 rfl rfl ?_
    refine J_iload_n 2 dX5_pupil_31 rfl rfl ?_
    refine J_iload_n 3 dX5_pupil_32 rfl rfl ?_
    refine J_iload 4 dX5_pupil_33 rfl ?_
    obtain ⟨S7, eS7, h8⟩ := bnd_some h6; clear h6
    have cS7 := (t_X5_writePupil hS5_a0 eS7)
    have lS7 : jle MX S5 S7 := cS7.1
    have hS7_a0 : mKd S7 a0 = 6 := kd_le lS7 hS5_a0
    refine J_callV (As := [.int ((mI S5 a0 6) - (1 : Int32)), .int i1, .int i2, .int i3, .int i4]) (rest := []) (st' := []) cS7 gC_X5_writePupil gM_X5_268 (mRecv hS5_a0 (by decide) jCl5) rfl (by decide) (by decide) rfl rfl (Nat.le_of_ble_eq_true rfl) dX5_pupil_35 ?_
    refine J_aload_n 0 dX5_pupil_38 rfl rfl ?_
    refine J_get (k := 6) (v := .int (mI S7 a0 6)) dX5_pupil_39 gF_X5_265 hS7_a0 rfl ?_
    have hw := Option.some.inj h8; subst hw
    exact J_iret rfl dX5_pupil_42
  · clear h
    refine J_bipush (-4 : Int32) dX5_pupil_10 (by decide) ?_
    have hw := Option.some.inj h2; subst hw
    exact J_iret rfl dX5_pupil_12
def c_X5_begin (S : Mem) (a0 : Nat) : Option (Int32 × Mem) :=
  jLet ((mI S a0 6)) fun i1_ =>
  jLet (mSI S a0 6 (0 : Int32)) fun S3 =>
  some (i1_, S3)
set_option maxRecDepth 100000 in
set_option maxHeartbeats 4000000 in
theorem t_X5_begin {S : Mem} {a0 : Nat} {w : (Int32 × Mem)} (ha : mKd S a0 = 6) (h : c_X5_begin S a0 = some w) : CT MX yX5_begin cX5_begin 2 (some .int) 0 0 [.ref a0] S (some (.int w.1)) w.2 := by
  refine CT.of (lv := [(0, .ref a0)]) (by decide) rfl (Nat.le_of_ble_eq_true rfl) ?_
  refine J_aload_n 0 dX5_begin_0 rfl rfl ?_
  refine J_get (k := 6) (v := .int (mI S a0 6)) dX5_begin_1 gF_X5_265 ha rfl ?_
  obtain ⟨i1_, ei1_, h2⟩ := jLet_some h; clear h
  refine J_topI ei1_ ?_
  refine J_istore_n dX5_begin_4 rfl (by decide) [1, 0] (lv' := [(0, .ref a0), (1, .int i1_)]) rfl ?_
  refine J_aload_n 0 dX5_begin_5 rfl rfl ?_
  refine J_iconst (0 : Int32) dX5_begin_6 (by decide) ?_
  refine J_putI (k := 6) dX5_begin_7 gW_X5_265 ha rfl ?_
  obtain ⟨S3, eS3, h4⟩ := jLet_some h2; clear h2
  refine J_topS eS3 ?_
  have hS3_a0 : mKd S3 a0 = 6 := by rw [eS3]; exact ha
  refine J_iload_n 1 dX5_begin_10 rfl rfl ?_
  have hw := Option.some.inj h4; subst hw
  exact J_iret rfl dX5_begin_11
def c_X5_alike (S : Mem) (a0 : Nat) (i1 : Int32) (i2 : Int32) : Option Int32 :=
  bnd (ob S (mR S a0 5) 8) fun a1 =>
  gd (inB (((4 : Int32) * i1) + i2) (mLn S a1)) <|
  bnd (ob S (mR S a0 4) 4) fun a5 =>
  bnd (c_X3_tell S a5 i1 i2) fun i7_ =>
  if (mI S a1 (Int32.toNatClampNeg (((4 : Int32) * i1) + i2))) = i7_ then
    (some (1 : Int32))
  else
    (some (0 : Int32))
set_option maxRecDepth 100000 in
set_option maxHeartbeats 4000000 in
theorem t_X5_alike {S : Mem} {a0 : Nat} {i1 : Int32} {i2 : Int32} {w : Int32} (ha : mKd S a0 = 6) (h : c_X5_alike S a0 i1 i2 = some w) : CT MX yX5_alike cX5_alike 3 (some .boolean) 1 22 [.ref a0, .int i1, .int i2] S (some (.int w)) S := by
  refine CT.of (lv := [(0, .ref a0), (1, .int i1), (2, .int i2)]) (by decide) rfl (Nat.le_of_ble_eq_true rfl) ?_
  refine J_aload_n 0 dX5_alike_0 rfl rfl ?_
  refine J_get (k := 5) (v := va_rf (mR S a0 5)) dX5_alike_1 gF_X5_30 ha rfl ?_
  refine J_iconst (4 : Int32) dX5_alike_4 (by decide) ?_
  refine J_iload_n 1 dX5_alike_5 rfl rfl ?_
  refine J_imul dX5_alike_6 ?_
  refine J_iload_n 2 dX5_alike_7 rfl rfl ?_
  refine J_iadd dX5_alike_8 ?_
  obtain ⟨a1, ea1, ka1, h2⟩ := ob_some h; clear h
  rw [ea1]
  refine J_lvst (lv' := [(0, .ref a0), (1, .int i1), (2, .int i2)]) (st' := [.int (((4 : Int32) * i1) + i2), .ref a1]) rfl rfl ?_
  obtain ⟨g3, h4⟩ := gd_some h2; clear h2
  refine J_iald dX5_alike_9 ka1 g3 ?_
  refine J_aload_n 0 dX5_alike_10 rfl rfl ?_
  refine J_get (k := 4) (v := va_rf (mR S a0 4)) dX5_alike_11 gF_X5_26 ha rfl ?_
  refine J_iload_n 1 dX5_alike_14 rfl rfl ?_
  refine J_iload_n 2 dX5_alike_15 rfl rfl ?_
  obtain ⟨a5, ea5, ka5, h6⟩ := ob_some h4; clear h4
  rw [ea5]
  refine J_lvst (lv' := [(0, .ref a0), (1, .int i1), (2, .int i2)]) (st' := [.int i2, .int i1, .ref a5, .int (mI S a1 (Int32.toNatClampNeg (((4 : Int32) * i1) + i2)))]) rfl rfl ?_
  obtain ⟨i7_, ei7_, h8⟩ := bnd_some h6; clear h6
  refine J_callV (As := [.int i1, .int i2]) (rest := [.int (mI S a1 (Int32.toNatClampNeg (((4 : Int32) * i1) + i2)))]) (st' := [.int i7_, .int (mI S a1 (Int32.toNatClampNeg (((4 : Int32) * i1) + i2)))]) (t_X3_tell ka5 ei7_) gC_X3_tell gM_X5_247 (mRecv ka5 (by decide) jCl3) rfl (by decide) (by decide) rfl rfl (Nat.le_of_ble_eq_true rfl) dX5_alike_16 ?_
  refine J_icmp_ne 26 dX5_alike_19 (by decide) h8 (fun c9 h10 => ?_) (fun c9 h10 => ?_)
  · clear h8
    refine J_iconst (1 : Int32) dX5_alike_22 (by decide) ?_
    refine J_goto 27 dX5_alike_23 (by decide) ?_
    have hw := Option.some.inj h10; subst hw
    exact J_zret rfl (by decide) dX5_alike_27
  · clear h8
    refine J_iconst (0 : Int32) dX5_alike_26 (by decide) ?_
    have hw := Option.some.inj h10; subst hw
    exact J_zret rfl (by decide) dX5_alike_27
def c_X5_slipPlace_L17 (S : Mem) : Nat → Nat → Int32 → Int32 → Option Int32
  | 0, _, _, _ => none
  | n + 1, a0, i1, i2 =>
    if i1 ≤ i2 then
      (bnd (ob S (mR S a0 4) 4) fun a3 =>
      if (mI S a0 6) = (mI S a3 2) then
        (some (-5 : Int32))
      else
        (some i1))
    else
      (bnd (c_X5_alike S a0 i2 (0 : Int32)) fun i7_ =>
      if i7_ = 0 then
        (some i2)
      else
        (bnd (c_X5_alike S a0 i2 (1 : Int32)) fun i11_ =>
        if i11_ = 0 then
          (some i2)
        else
          (bnd (c_X5_alike S a0 i2 (2 : Int32)) fun i15_ =>
          if i15_ = 0 then
            (some i2)
          else
            (bnd (c_X5_alike S a0 i2 (3 : Int32)) fun i19_ =>
            if i19_ = 0 then
              (some i2)
            else
              (c_X5_slipPlace_L17 S n a0 i1 (i2 + (1 : Int32)))))))
set_option maxRecDepth 100000 in
set_option maxHeartbeats 4000000 in
theorem t_X5_slipPlace_L17 {S : Mem} {w : Int32} (n : Nat) : ∀ (a0 : Nat) (i1 : Int32) (i2 : Int32), (mKd S a0 = 6) → c_X5_slipPlace_L17 S n a0 i1 i2 = some w → J MX yX5_slipPlace cX5_slipPlace 3 (some .int) 2 44 17 [(0, .ref a0), (1, .int i1), (2, .int i2)] [] S (some (.int w)) S := by
  induction n with
  | zero => intro a0 i1 i2 ha h; cases h
  | succ n lh =>
    intro a0 i1 i2 ha h
    refine J_iload_n 2 dX5_slipPlace_17 rfl rfl ?_
    refine J_iload_n 1 dX5_slipPlace_18 rfl rfl ?_
    refine J_icmp_ge 66 dX5_slipPlace_19 (by decide) h (fun c1 h2 => ?_) (fun c1 h2 => ?_)
    · clear h
      refine J_aload_n 0 dX5_slipPlace_66 rfl rfl ?_
      refine J_get (k := 6) (v := .int (mI S a0 6)) dX5_slipPlace_67 gF_X5_265 ha rfl ?_
      refine J_aload_n 0 dX5_slipPlace_70 rfl rfl ?_
      refine J_get (k := 4) (v := va_rf (mR S a0 4)) dX5_slipPlace_71 gF_X5_26 ha rfl ?_
      obtain ⟨a3, ea3, ka3, h4⟩ := ob_some h2; clear h2
      rw [ea3]
      refine J_lvst (lv' := [(0, .ref a0), (1, .int i1), (2, .int i2)]) (st' := [.ref a3, .int (mI S a0 6)]) rfl rfl ?_
      refine J_get (k := 2) (v := .int (mI S a3 2)) dX5_slipPlace_74 gF_X5_244 ka3 rfl ?_
      refine J_icmp_ne 85 dX5_slipPlace_77 (by decide) h4 (fun c5 h6 => ?_) (fun c5 h6 => ?_)
      · clear h4
        refine J_bipush (-5 : Int32) dX5_slipPlace_80 (by decide) ?_
        refine J_goto 86 dX5_slipPlace_82 (by decide) ?_
        have hw := Option.some.inj h6; subst hw
        exact J_iret rfl dX5_slipPlace_86
      · clear h4
        refine J_iload_n 1 dX5_slipPlace_85 rfl rfl ?_
        have hw := Option.some.inj h6; subst hw
        exact J_iret rfl dX5_slipPlace_86
    · clear h
      refine J_aload_n 0 dX5_slipPlace_22 rfl rfl ?_
      refine J_iload_n 2 dX5_slipPlace_23 rfl rfl ?_
      refine J_iconst (0 : Int32) dX5_slipPlace_24 (by decide) ?_
      obtain ⟨i7_, ei7_, h8⟩ := bnd_some h2; clear h2
      refine J_callV (As := [.int i2, .int (0 : Int32)]) (rest := []) (st' := [.int i7_]) (t_X5_alike ha ei7_) gC_X5_alike gM_X5_390 (mRecv ha (by decide) jCl5) rfl (by decide) (by decide) rfl rfl (Nat.le_of_ble_eq_true rfl) dX5_slipPlace_25 ?_
      refine J_if_eq 58 dX5_slipPlace_28 (by decide) h8 (fun c9 h10 => ?_) (fun c9 h10 => ?_)
      · clear h8
        refine J_iload_n 2 dX5_slipPlace_58 rfl rfl ?_
        have hw := Option.some.inj h10; subst hw
        exact J_iret rfl dX5_slipPlace_59
      · clear h8
        refine J_aload_n 0 dX5_slipPlace_31 rfl rfl ?_
        refine J_iload_n 2 dX5_slipPlace_32 rfl rfl ?_
        refine J_iconst (1 : Int32) dX5_slipPlace_33 (by decide) ?_
        obtain ⟨i11_, ei11_, h12⟩ := bnd_some h10; clear h10
        refine J_callV (As := [.int i2, .int (1 : Int32)]) (rest := []) (st' := [.int i11_]) (t_X5_alike ha ei11_) gC_X5_alike gM_X5_390 (mRecv ha (by decide) jCl5) rfl (by decide) (by decide) rfl rfl (Nat.le_of_ble_eq_true rfl) dX5_slipPlace_34 ?_
        refine J_if_eq 58 dX5_slipPlace_37 (by decide) h12 (fun c13 h14 => ?_) (fun c13 h14 => ?_)
        · clear h12
          refine J_iload_n 2 dX5_slipPlace_58 rfl rfl ?_
          have hw := Option.some.inj h14; subst hw
          exact J_iret rfl dX5_slipPlace_59
        · clear h12
          refine J_aload_n 0 dX5_slipPlace_40 rfl rfl ?_
          refine J_iload_n 2 dX5_slipPlace_41 rfl rfl ?_
          refine J_iconst (2 : Int32) dX5_slipPlace_42 (by decide) ?_
          obtain ⟨i15_, ei15_, h16⟩ := bnd_some h14; clear h14
          refine J_callV (As := [.int i2, .int (2 : Int32)]) (rest := []) (st' := [.int i15_]) (t_X5_alike ha ei15_) gC_X5_alike gM_X5_390 (mRecv ha (by decide) jCl5) rfl (by decide) (by decide) rfl rfl (Nat.le_of_ble_eq_true rfl) dX5_slipPlace_43 ?_
          refine J_if_eq 58 dX5_slipPlace_46 (by decide) h16 (fun c17 h18 => ?_) (fun c17 h18 => ?_)
          · clear h16
            refine J_iload_n 2 dX5_slipPlace_58 rfl rfl ?_
            have hw := Option.some.inj h18; subst hw
            exact J_iret rfl dX5_slipPlace_59
          · clear h16
            refine J_aload_n 0 dX5_slipPlace_49 rfl rfl ?_
            refine J_iload_n 2 dX5_slipPlace_50 rfl rfl ?_
            refine J_iconst (3 : Int32) dX5_slipPlace_51 (by decide) ?_
            obtain ⟨i19_, ei19_, h20⟩ := bnd_some h18; clear h18
            refine J_callV (As := [.int i2, .int (3 : Int32)]) (rest := []) (st' := [.int i19_]) (t_X5_alike ha ei19_) gC_X5_alike gM_X5_390 (mRecv ha (by decide) jCl5) rfl (by decide) (by decide) rfl rfl (Nat.le_of_ble_eq_true rfl) dX5_slipPlace_52 ?_
            refine J_if_ne 60 dX5_slipPlace_55 (by decide) h20 (fun c21 h22 => ?_) (fun c21 h22 => ?_)
            · clear h20
              refine J_iload_n 2 dX5_slipPlace_58 rfl rfl ?_
              have hw := Option.some.inj h22; subst hw
              exact J_iret rfl dX5_slipPlace_59
            · clear h20
              refine J_iinc 2 (1 : Int32) dX5_slipPlace_60 rfl (by decide) (by decide) [1, 2, 0] (lv' := [(0, .ref a0), (1, .int i1), (2, .int (i2 + (1 : Int32)))]) rfl ?_
              refine J_goto 17 dX5_slipPlace_63 (by decide) ?_
              exact lh a0 i1 (i2 + (1 : Int32)) ha h22
def c_X5_slipPlace (S : Mem) (a0 : Nat) : Option Int32 :=
  bnd (ob S (mR S a0 4) 4) fun a1 =>
  jLet ((if (mI S a1 2) < (mI S a0 6) then (mI S a1 2) else (mI S a0 6))) fun i3_ =>
  c_X5_slipPlace_L17 S bigN a0 i3_ (0 : Int32)
set_option maxRecDepth 100000 in
set_option maxHeartbeats 4000000 in
theorem t_X5_slipPlace {S : Mem} {a0 : Nat} {w : Int32} (ha : mKd S a0 = 6) (h : c_X5_slipPlace S a0 = some w) : CT MX yX5_slipPlace cX5_slipPlace 3 (some .int) 2 44 [.ref a0] S (some (.int w)) S := by
  refine CT.of (lv := [(0, .ref a0)]) (by decide) rfl (Nat.le_of_ble_eq_true rfl) ?_
  refine J_aload_n 0 dX5_slipPlace_0 rfl rfl ?_
  refine J_get (k := 6) (v := .int (mI S a0 6)) dX5_slipPlace_1 gF_X5_265 ha rfl ?_
  refine J_aload_n 0 dX5_slipPlace_4 rfl rfl ?_
  refine J_get (k := 4) (v := va_rf (mR S a0 4)) dX5_slipPlace_5 gF_X5_26 ha rfl ?_
  obtain ⟨a1, ea1, ka1, h2⟩ := ob_some h; clear h
  rw [ea1]
  refine J_lvst (lv' := [(0, .ref a0)]) (st' := [.ref a1, .int (mI S a0 6)]) rfl rfl ?_
  refine J_get (k := 2) (v := .int (mI S a1 2)) dX5_slipPlace_8 gF_X5_244 ka1 rfl ?_
  refine J_mmin dX5_slipPlace_11 gM_X5_377 (by decide) (by decide) (Nat.le_of_ble_eq_true rfl) ?_
  obtain ⟨i3_, ei3_, h4⟩ := jLet_some h2; clear h2
  refine J_topI ei3_ ?_
  refine J_istore_n dX5_slipPlace_14 rfl (by decide) [1, 0] (lv' := [(0, .ref a0), (1, .int i3_)]) rfl ?_
  refine J_iconst (0 : Int32) dX5_slipPlace_15 (by decide) ?_
  refine J_istore_n dX5_slipPlace_16 rfl (by decide) [1, 2, 0] (lv' := [(0, .ref a0), (1, .int i3_), (2, .int (0 : Int32))]) rfl ?_
  exact t_X5_slipPlace_L17 bigN a0 i3_ (0 : Int32) ha h4
def c_X5_slip (S : Mem) (a0 : Nat) : Option Int32 :=
  bnd (c_X5_slipPlace S a0) fun i1_ =>
  some i1_
set_option maxRecDepth 100000 in
set_option maxHeartbeats 4000000 in
theorem t_X5_slip {S : Mem} {a0 : Nat} {w : Int32} (ha : mKd S a0 = 6) (h : c_X5_slip S a0 = some w) : CT MX yX5_slip cX5_slip 1 (some .int) 3 66 [.ref a0] S (some (.int w)) S := by
  refine CT.of (lv := [(0, .ref a0)]) (by decide) rfl (Nat.le_of_ble_eq_true rfl) ?_
  refine J_aload_n 0 dX5_slip_0 rfl rfl ?_
  obtain ⟨i1_, ei1_, h2⟩ := bnd_some h; clear h
  refine J_callV (As := []) (rest := []) (st' := [.int i1_]) (t_X5_slipPlace ha ei1_) gC_X5_slipPlace gM_X5_272 (mRecv ha (by decide) jCl5) rfl (by decide) (by decide) rfl rfl (Nat.le_of_ble_eq_true rfl) dX5_slip_1 ?_
  have hw := Option.some.inj h2; subst hw
  exact J_iret rfl dX5_slip_4
def c_X5_lapseAt (S : Mem) (a0 : Nat) (i1 : Int32) : Option Int32 :=
  if 0 ≤ i1 then
    (if i1 < (mI S a0 6) then
      (bnd (ob S (mR S a0 4) 4) fun a5 =>
      if i1 < (mI S a5 2) then
        (bnd (c_X5_alike S a0 i1 (0 : Int32)) fun i9_ =>
        if i9_ = 0 then
          (some (1 : Int32))
        else
          (bnd (c_X5_alike S a0 i1 (1 : Int32)) fun i13_ =>
          if i13_ = 0 then
            (some (1 : Int32))
          else
            (some (2 : Int32))))
      else
        (some (4 : Int32)))
    else
      (some (3 : Int32)))
  else
    (some (0 : Int32))
set_option maxRecDepth 100000 in
set_option maxHeartbeats 4000000 in
theorem t_X5_lapseAt {S : Mem} {a0 : Nat} {i1 : Int32} {w : Int32} (ha : mKd S a0 = 6) (h : c_X5_lapseAt S a0 i1 = some w) : CT MX yX5_lapseAt cX5_lapseAt 2 (some .int) 2 44 [.ref a0, .int i1] S (some (.int w)) S := by
  refine CT.of (lv := [(0, .ref a0), (1, .int i1)]) (by decide) rfl (Nat.le_of_ble_eq_true rfl) ?_
  refine J_iload_n 1 dX5_lapseAt_0 rfl rfl ?_
  refine J_if_ge 6 dX5_lapseAt_1 (by decide) h (fun c1 h2 => ?_) (fun c1 h2 => ?_)
  · clear h
    refine J_iload_n 1 dX5_lapseAt_6 rfl rfl ?_
    refine J_aload_n 0 dX5_lapseAt_7 rfl rfl ?_
    refine J_get (k := 6) (v := .int (mI S a0 6)) dX5_lapseAt_8 gF_X5_265 ha rfl ?_
    refine J_icmp_lt 16 dX5_lapseAt_11 (by decide) h2 (fun c3 h4 => ?_) (fun c3 h4 => ?_)
    · clear h2
      refine J_iload_n 1 dX5_lapseAt_16 rfl rfl ?_
      refine J_aload_n 0 dX5_lapseAt_17 rfl rfl ?_
      refine J_get (k := 4) (v := va_rf (mR S a0 4)) dX5_lapseAt_18 gF_X5_26 ha rfl ?_
      obtain ⟨a5, ea5, ka5, h6⟩ := ob_some h4; clear h4
      rw [ea5]
      refine J_lvst (lv' := [(0, .ref a0), (1, .int i1)]) (st' := [.ref a5, .int i1]) rfl rfl ?_
      refine J_get (k := 2) (v := .int (mI S a5 2)) dX5_lapseAt_21 gF_X5_244 ka5 rfl ?_
      refine J_icmp_lt 29 dX5_lapseAt_24 (by decide) h6 (fun c7 h8 => ?_) (fun c7 h8 => ?_)
      · clear h6
        refine J_aload_n 0 dX5_lapseAt_29 rfl rfl ?_
        refine J_iload_n 1 dX5_lapseAt_30 rfl rfl ?_
        refine J_iconst (0 : Int32) dX5_lapseAt_31 (by decide) ?_
        obtain ⟨i9_, ei9_, h10⟩ := bnd_some h8; clear h8
        refine J_callV (As := [.int i1, .int (0 : Int32)]) (rest := []) (st' := [.int i9_]) (t_X5_alike ha ei9_) gC_X5_alike gM_X5_390 (mRecv ha (by decide) jCl5) rfl (by decide) (by decide) rfl rfl (Nat.le_of_ble_eq_true rfl) dX5_lapseAt_32 ?_
        refine J_if_eq 51 dX5_lapseAt_35 (by decide) h10 (fun c11 h12 => ?_) (fun c11 h12 => ?_)
        · clear h10
          refine J_iconst (1 : Int32) dX5_lapseAt_51 (by decide) ?_
          have hw := Option.some.inj h12; subst hw
          exact J_iret rfl dX5_lapseAt_52
        · clear h10
          refine J_aload_n 0 dX5_lapseAt_38 rfl rfl ?_
          refine J_iload_n 1 dX5_lapseAt_39 rfl rfl ?_
          refine J_iconst (1 : Int32) dX5_lapseAt_40 (by decide) ?_
          obtain ⟨i13_, ei13_, h14⟩ := bnd_some h12; clear h12
          refine J_callV (As := [.int i1, .int (1 : Int32)]) (rest := []) (st' := [.int i13_]) (t_X5_alike ha ei13_) gC_X5_alike gM_X5_390 (mRecv ha (by decide) jCl5) rfl (by decide) (by decide) rfl rfl (Nat.le_of_ble_eq_true rfl) dX5_lapseAt_41 ?_
          refine J_if_eq 51 dX5_lapseAt_44 (by decide) h14 (fun c15 h16 => ?_) (fun c15 h16 => ?_)
          · clear h14
            refine J_iconst (1 : Int32) dX5_lapseAt_51 (by decide) ?_
            have hw := Option.some.inj h16; subst hw
            exact J_iret rfl dX5_lapseAt_52
          · clear h14
            refine J_iconst (2 : Int32) dX5_lapseAt_47 (by decide) ?_
            refine J_goto 52 dX5_lapseAt_48 (by decide) ?_
            have hw := Option.some.inj h16; subst hw
            exact J_iret rfl dX5_lapseAt_52
      · clear h6
        refine J_iconst (4 : Int32) dX5_lapseAt_27 (by decide) ?_
        have hw := Option.some.inj h8; subst hw
        exact J_iret rfl dX5_lapseAt_28
    · clear h2
      refine J_iconst (3 : Int32) dX5_lapseAt_14 (by decide) ?_
      have hw := Option.some.inj h4; subst hw
      exact J_iret rfl dX5_lapseAt_15
  · clear h
    refine J_iconst (0 : Int32) dX5_lapseAt_4 (by decide) ?_
    have hw := Option.some.inj h2; subst hw
    exact J_iret rfl dX5_lapseAt_5
def c_X5_lapse (S : Mem) (a0 : Nat) : Option Int32 :=
  bnd (c_X5_slipPlace S a0) fun i1_ =>
  bnd (c_X5_lapseAt S a0 i1_) fun i3_ =>
  some i3_
set_option maxRecDepth 100000 in
set_option maxHeartbeats 4000000 in
theorem t_X5_lapse {S : Mem} {a0 : Nat} {w : Int32} (ha : mKd S a0 = 6) (h : c_X5_lapse S a0 = some w) : CT MX yX5_lapse cX5_lapse 1 (some .int) 3 66 [.ref a0] S (some (.int w)) S := by
  refine CT.of (lv := [(0, .ref a0)]) (by decide) rfl (Nat.le_of_ble_eq_true rfl) ?_
  refine J_aload_n 0 dX5_lapse_0 rfl rfl ?_
  refine J_aload_n 0 dX5_lapse_1 rfl rfl ?_
  obtain ⟨i1_, ei1_, h2⟩ := bnd_some h; clear h
  refine J_callV (As := []) (rest := [.ref a0]) (st' := [.int i1_, .ref a0]) (t_X5_slipPlace ha ei1_) gC_X5_slipPlace gM_X5_272 (mRecv ha (by decide) jCl5) rfl (by decide) (by decide) rfl rfl (Nat.le_of_ble_eq_true rfl) dX5_lapse_2 ?_
  obtain ⟨i3_, ei3_, h4⟩ := bnd_some h2; clear h2
  refine J_callV (As := [.int i1_]) (rest := []) (st' := [.int i3_]) (t_X5_lapseAt ha ei3_) gC_X5_lapseAt gM_X5_275 (mRecv ha (by decide) jCl5) rfl (by decide) (by decide) rfl rfl (Nat.le_of_ble_eq_true rfl) dX5_lapse_5 ?_
  have hw := Option.some.inj h4; subst hw
  exact J_iret rfl dX5_lapse_8
def c_X5_fix_J61 (S : Mem) (a0 : Nat) (i1 : Int32) : Option (Int32 × Mem) :=
  bnd (ob S (mR S a0 4) 4) fun a1 =>
  bnd (c_X3_tell S a1 i1 (0 : Int32)) fun i3_ =>
  bnd (ob S (mR S a0 4) 4) fun a5 =>
  bnd (c_X3_tell S a5 i1 (1 : Int32)) fun i7_ =>
  bnd (ob S (mR S a0 4) 4) fun a9 =>
  bnd (c_X3_tell S a9 i1 (2 : Int32)) fun i11_ =>
  bnd (ob S (mR S a0 4) 4) fun a13 =>
  bnd (c_X3_tell S a13 i1 (3 : Int32)) fun i15_ =>
  bnd (c_X5_writePupil S a0 i1 i3_ i7_ i11_ i15_) fun S17 =>
  bnd (c_X5_slipPlace S17 a0) fun i19_ =>
  some (i19_, S17)
set_option maxRecDepth 100000 in
set_option maxHeartbeats 4000000 in
theorem t_X5_fix_J61 {S : Mem} {a0 : Nat} {i1 : Int32} {w : (Int32 × Mem)} (ha : mKd S a0 = 6) (h : c_X5_fix_J61 S a0 i1 = some w) : J MX yX5_fix cX5_fix 3 (some .int) 3 108 61 [(0, .ref a0), (1, .int i1)] [] S (some (.int w.1)) w.2 := by
  refine J_aload_n 0 dX5_fix_61 rfl rfl ?_
  refine J_iload_n 1 dX5_fix_62 rfl rfl ?_
  refine J_aload_n 0 dX5_fix_63 rfl rfl ?_
  refine J_get (k := 4) (v := va_rf (mR S a0 4)) dX5_fix_64 gF_X5_26 ha rfl ?_
  refine J_iload_n 1 dX5_fix_67 rfl rfl ?_
  refine J_iconst (0 : Int32) dX5_fix_68 (by decide) ?_
  obtain ⟨a1, ea1, ka1, h2⟩ := ob_some h; clear h
  rw [ea1]
  refine J_lvst (lv' := [(0, .ref a0), (1, .int i1)]) (st' := [.int (0 : Int32), .int i1, .ref a1, .int i1, .ref a0]) rfl rfl ?_
  obtain ⟨i3_, ei3_, h4⟩ := bnd_some h2; clear h2
  refine J_callV (As := [.int i1, .int (0 : Int32)]) (rest := [.int i1, .ref a0]) (st' := [.int i3_, .int i1, .ref a0]) (t_X3_tell ka1 ei3_) gC_X3_tell gM_X5_247 (mRecv ka1 (by decide) jCl3) rfl (by decide) (by decide) rfl rfl (Nat.le_of_ble_eq_true rfl) dX5_fix_69 ?_
  refine J_aload_n 0 dX5_fix_72 rfl rfl ?_
  refine J_get (k := 4) (v := va_rf (mR S a0 4)) dX5_fix_73 gF_X5_26 ha rfl ?_
  refine J_iload_n 1 dX5_fix_76 rfl rfl ?_
  refine J_iconst (1 : Int32) dX5_fix_77 (by decide) ?_
  obtain ⟨a5, ea5, ka5, h6⟩ := ob_some h4; clear h4
  rw [ea5]
  refine J_lvst (lv' := [(0, .ref a0), (1, .int i1)]) (st' := [.int (1 : Int32), .int i1, .ref a5, .int i3_, .int i1, .ref a0]) rfl rfl ?_
  obtain ⟨i7_, ei7_, h8⟩ := bnd_some h6; clear h6
  refine J_callV (As := [.int i1, .int (1 : Int32)]) (rest := [.int i3_, .int i1, .ref a0]) (st' := [.int i7_, .int i3_, .int i1, .ref a0]) (t_X3_tell ka5 ei7_) gC_X3_tell gM_X5_247 (mRecv ka5 (by decide) jCl3) rfl (by decide) (by decide) rfl rfl (Nat.le_of_ble_eq_true rfl) dX5_fix_78 ?_
  refine J_aload_n 0 dX5_fix_81 rfl rfl ?_
  refine J_get (k := 4) (v := va_rf (mR S a0 4)) dX5_fix_82 gF_X5_26 ha rfl ?_
  refine J_iload_n 1 dX5_fix_85 rfl rfl ?_
  refine J_iconst (2 : Int32) dX5_fix_86 (by decide) ?_
  obtain ⟨a9, ea9, ka9, h10⟩ := ob_some h8; clear h8
  rw [ea9]
  refine J_lvst (lv' := [(0, .ref a0), (1, .int i1)]) (st' := [.int (2 : Int32), .int i1, .ref a9, .int i7_, .int i3_, .int i1, .ref a0]) rfl rfl ?_
  obtain ⟨i11_, ei11_, h12⟩ := bnd_some h10; clear h10
  refine J_callV (As := [.int i1, .int (2 : Int32)]) (rest := [.int i7_, .int i3_, .int i1, .ref a0]) (st' := [.int i11_, .int i7_, .int i3_, .int i1, .ref a0]) (t_X3_tell ka9 ei11_) gC_X3_tell gM_X5_247 (mRecv ka9 (by decide) jCl3) rfl (by decide) (by decide) rfl rfl (Nat.le_of_ble_eq_true rfl) dX5_fix_87 ?_
  refine J_aload_n 0 dX5_fix_90 rfl rfl ?_
  refine J_get (k := 4) (v := va_rf (mR S a0 4)) dX5_fix_91 gF_X5_26 ha rfl ?_
  refine J_iload_n 1 dX5_fix_94 rfl rfl ?_
  refine J_iconst (3 : Int32) dX5_fix_95 (by decide) ?_
  obtain ⟨a13, ea13, ka13, h14⟩ := ob_some h12; clear h12
  rw [ea13]
  refine J_lvst (lv' := [(0, .ref a0), (1, .int i1)]) (st' := [.int (3 : Int32), .int i1, .ref a13, .int i11_, .int i7_, .int i3_, .int i1, .ref a0]) rfl rfl ?_
  obtain ⟨i15_, ei15_, h16⟩ := bnd_some h14; clear h14
  refine J_callV (As := [.int i1, .int (3 : Int32)]) (rest := [.int i11_, .int i7_, .int i3_, .int i1, .ref a0]) (st' := [.int i15_, .int i11_, .int i7_, .int i3_, .int i1, .ref a0]) (t_X3_tell ka13 ei15_) gC_X3_tell gM_X5_247 (mRecv ka13 (by decide) jCl3) rfl (by decide) (by decide) rfl rfl (Nat.le_of_ble_eq_true rfl) dX5_fix_96 ?_
  obtain ⟨S17, eS17, h18⟩ := bnd_some h16; clear h16
  have cS17 := (t_X5_writePupil ha eS17)
  have lS17 : jle MX S S17 := cS17.1
  have hS17_a0 : mKd S17 a0 = 6 := kd_le lS17 ha
  have hS17_a1 : mKd S17 a1 = 4 := kd_le lS17 ka1
  have hS17_a5 : mKd S17 a5 = 4 := kd_le lS17 ka5
  have hS17_a9 : mKd S17 a9 = 4 := kd_le lS17 ka9
  have hS17_a13 : mKd S17 a13 = 4 := kd_le lS17 ka13
  refine J_callV (As := [.int i1, .int i3_, .int i7_, .int i11_, .int i15_]) (rest := []) (st' := []) cS17 gC_X5_writePupil gM_X5_268 (mRecv ha (by decide) jCl5) rfl (by decide) (by decide) rfl rfl (Nat.le_of_ble_eq_true rfl) dX5_fix_99 ?_
  refine J_aload_n 0 dX5_fix_102 rfl rfl ?_
  obtain ⟨i19_, ei19_, h20⟩ := bnd_some h18; clear h18
  refine J_callV (As := []) (rest := []) (st' := [.int i19_]) (t_X5_slipPlace hS17_a0 ei19_) gC_X5_slipPlace gM_X5_272 (mRecv hS17_a0 (by decide) jCl5) rfl (by decide) (by decide) rfl rfl (Nat.le_of_ble_eq_true rfl) dX5_fix_103 ?_
  have hw := Option.some.inj h20; subst hw
  exact J_iret rfl dX5_fix_106
def c_X5_fix (S : Mem) (a0 : Nat) : Option (Int32 × Mem) :=
  bnd (c_X5_slipPlace S a0) fun i1_ =>
  bnd (c_X5_lapseAt S a0 i1_) fun i3_ =>
  if i3_ = 0 then
    (some ((-3 : Int32), S))
  else
    (if i3_ = (4 : Int32) then
      (jLet (mSI S a0 6 i1_) fun S9 =>
      bnd (c_X5_slipPlace S9 a0) fun i11_ =>
      some (i11_, S9))
    else
      (if i3_ = (3 : Int32) then
        (if (mI S a0 6) < (300 : Int32) then
          (jLet (((mI S a0 6) + (1 : Int32))) fun i17_ =>
          jLet (mSI S a0 6 i17_) fun S19 =>
          c_X5_fix_J61 S19 a0 i1_)
        else
          (some ((-4 : Int32), S)))
      else
        (c_X5_fix_J61 S a0 i1_)))
set_option maxRecDepth 100000 in
set_option maxHeartbeats 4000000 in
theorem t_X5_fix {S : Mem} {a0 : Nat} {w : (Int32 × Mem)} (ha : mKd S a0 = 6) (h : c_X5_fix S a0 = some w) : CT MX yX5_fix cX5_fix 3 (some .int) 3 108 [.ref a0] S (some (.int w.1)) w.2 := by
  refine CT.of (lv := [(0, .ref a0)]) (by decide) rfl (Nat.le_of_ble_eq_true rfl) ?_
  refine J_aload_n 0 dX5_fix_0 rfl rfl ?_
  obtain ⟨i1_, ei1_, h2⟩ := bnd_some h; clear h
  refine J_callV (As := []) (rest := []) (st' := [.int i1_]) (t_X5_slipPlace ha ei1_) gC_X5_slipPlace gM_X5_272 (mRecv ha (by decide) jCl5) rfl (by decide) (by decide) rfl rfl (Nat.le_of_ble_eq_true rfl) dX5_fix_1 ?_
  refine J_istore_n dX5_fix_4 rfl (by decide) [1, 0] (lv' := [(0, .ref a0), (1, .int i1_)]) rfl ?_
  refine J_aload_n 0 dX5_fix_5 rfl rfl ?_
  refine J_iload_n 1 dX5_fix_6 rfl rfl ?_
  obtain ⟨i3_, ei3_, h4⟩ := bnd_some h2; clear h2
  refine J_callV (As := [.int i1_]) (rest := []) (st' := [.int i3_]) (t_X5_lapseAt ha ei3_) gC_X5_lapseAt gM_X5_275 (mRecv ha (by decide) jCl5) rfl (by decide) (by decide) rfl rfl (Nat.le_of_ble_eq_true rfl) dX5_fix_7 ?_
  refine J_istore_n dX5_fix_10 rfl (by decide) [1, 2, 0] (lv' := [(0, .ref a0), (1, .int i1_), (2, .int i3_)]) rfl ?_
  refine J_iload_n 2 dX5_fix_11 rfl rfl ?_
  refine J_if_ne 18 dX5_fix_12 (by decide) h4 (fun c5 h6 => ?_) (fun c5 h6 => ?_)
  · clear h4
    refine J_bipush (-3 : Int32) dX5_fix_15 (by decide) ?_
    have hw := Option.some.inj h6; subst hw
    exact J_iret rfl dX5_fix_17
  · clear h4
    refine J_iload_n 2 dX5_fix_18 rfl rfl ?_
    refine J_iconst (4 : Int32) dX5_fix_19 (by decide) ?_
    refine J_icmp_ne 33 dX5_fix_20 (by decide) h6 (fun c7 h8 => ?_) (fun c7 h8 => ?_)
    · clear h6
      refine J_aload_n 0 dX5_fix_23 rfl rfl ?_
      refine J_iload_n 1 dX5_fix_24 rfl rfl ?_
      refine J_putI (k := 6) dX5_fix_25 gW_X5_265 ha rfl ?_
      obtain ⟨S9, eS9, h10⟩ := jLet_some h8; clear h8
      refine J_topS eS9 ?_
      have hS9_a0 : mKd S9 a0 = 6 := by rw [eS9]; exact ha
      refine J_aload_n 0 dX5_fix_28 rfl rfl ?_
      obtain ⟨i11_, ei11_, h12⟩ := bnd_some h10; clear h10
      refine J_callV (As := []) (rest := []) (st' := [.int i11_]) (t_X5_slipPlace hS9_a0 ei11_) gC_X5_slipPlace gM_X5_272 (mRecv hS9_a0 (by decide) jCl5) rfl (by decide) (by decide) rfl rfl (Nat.le_of_ble_eq_true rfl) dX5_fix_29 ?_
      have hw := Option.some.inj h12; subst hw
      exact J_iret rfl dX5_fix_32
    · clear h6
      refine J_iload_n 2 dX5_fix_33 rfl rfl ?_
      refine J_iconst (3 : Int32) dX5_fix_34 (by decide) ?_
      refine J_icmp_ne 61 dX5_fix_35 (by decide) h8 (fun c13 h14 => ?_) (fun c13 h14 => ?_)
      · clear h8
        refine J_aload_n 0 dX5_fix_38 rfl rfl ?_
        refine J_get (k := 6) (v := .int (mI S a0 6)) dX5_fix_39 gF_X5_265 ha rfl ?_
        refine J_sipush (300 : Int32) dX5_fix_42 (by decide) ?_
        refine J_icmp_lt 51 dX5_fix_45 (by decide) h14 (fun c15 h16 => ?_) (fun c15 h16 => ?_)
        · clear h14
          refine J_aload_n 0 dX5_fix_51 rfl rfl ?_
          refine J_dup dX5_fix_52 rfl ?_
          refine J_get (k := 6) (v := .int (mI S a0 6)) dX5_fix_53 gF_X5_265 ha rfl ?_
          refine J_iconst (1 : Int32) dX5_fix_56 (by decide) ?_
          refine J_iadd dX5_fix_57 ?_
          obtain ⟨i17_, ei17_, h18⟩ := jLet_some h16; clear h16
          refine J_topI ei17_ ?_
          refine J_putI (k := 6) dX5_fix_58 gW_X5_265 ha rfl ?_
          obtain ⟨S19, eS19, h20⟩ := jLet_some h18; clear h18
          refine J_topS eS19 ?_
          have hS19_a0 : mKd S19 a0 = 6 := by rw [eS19]; exact ha
          refine J_lv [0, 1] rfl ?_
          exact t_X5_fix_J61 hS19_a0 h20
        · clear h14
          refine J_bipush (-4 : Int32) dX5_fix_48 (by decide) ?_
          have hw := Option.some.inj h16; subst hw
          exact J_iret rfl dX5_fix_50
      · clear h8
        refine J_lv [0, 1] rfl ?_
        exact t_X5_fix_J61 ha h14
def c_X5_exercise (S : Mem) (a0 : Nat) (i1 : Int32) (i2 : Int32) : Option (Int32 × Mem) :=
  if i1 < 0 then
    (some ((-2 : Int32), S))
  else
    (if i1 ≤ (2 : Int32) then
      (if (mI S a0 3) < (200 : Int32) then
        (jLet (mNx S) fun a8 =>
        jLet (mNew S 1 0 (cN 0)) fun S7 =>
        bnd (c_X0_init S7 a8 i1) fun S11 =>
        bnd (c_X0_draw S11 a8 i2) fun S13 =>
        bnd (c_X0_solve S13 a8) fun S15 =>
        bnd (ob S15 (mR S15 a0 2) 13) fun a17 =>
        gd (inB (mI S15 a0 3) (mLn S15 a17)) <|
        jLet (mSR S15 a17 (Int32.toNatClampNeg (mI S15 a0 3)) (some a8)) fun S21 =>
        jLet (((mI S21 a0 3) + (1 : Int32))) fun i23_ =>
        jLet (mSI S21 a0 3 i23_) fun S25 =>
        some (((mI S25 a0 3) - (1 : Int32)), S25))
      else
        (some ((-4 : Int32), S)))
    else
      (some ((-2 : Int32), S)))
set_option maxRecDepth 100000 in
set_option maxHeartbeats 4000000 in
theorem t_X5_exercise {S : Mem} {a0 : Nat} {i1 : Int32} {i2 : Int32} {w : (Int32 × Mem)} (ha : mKd S a0 = 6) (h : c_X5_exercise S a0 i1 i2 = some w) : CT MX yX5_exercise cX5_exercise 4 (some .int) 15 710 [.ref a0, .int i1, .int i2] S (some (.int w.1)) w.2 := by
  refine CT.of (lv := [(0, .ref a0), (1, .int i1), (2, .int i2)]) (by decide) rfl (Nat.le_of_ble_eq_true rfl) ?_
  refine J_iload_n 1 dX5_exercise_0 rfl rfl ?_
  refine J_if_lt 9 dX5_exercise_1 (by decide) h (fun c1 h2 => ?_) (fun c1 h2 => ?_)
  · clear h
    refine J_bipush (-2 : Int32) dX5_exercise_9 (by decide) ?_
    have hw := Option.some.inj h2; subst hw
    exact J_iret rfl dX5_exercise_11
  · clear h
    refine J_iload_n 1 dX5_exercise_4 rfl rfl ?_
    refine J_iconst (2 : Int32) dX5_exercise_5 (by decide) ?_
    refine J_icmp_le 12 dX5_exercise_6 (by decide) h2 (fun c3 h4 => ?_) (fun c3 h4 => ?_)
    · clear h2
      refine J_aload_n 0 dX5_exercise_12 rfl rfl ?_
      refine J_get (k := 3) (v := .int (mI S a0 3)) dX5_exercise_13 gF_X5_278 ha rfl ?_
      refine J_sipush (200 : Int32) dX5_exercise_16 (by decide) ?_
      refine J_icmp_lt 25 dX5_exercise_19 (by decide) h4 (fun c5 h6 => ?_) (fun c5 h6 => ?_)
      · clear h4
        refine J_new dX5_exercise_25 jCl0 (by decide) (by decide +kernel) gN_X5_17 ?_
        obtain ⟨a8, ea8, h9⟩ := jLet_some h6; clear h6
        obtain ⟨S7, eS7, h10⟩ := jLet_some h9; clear h9
        rw [← ea8]
        refine J_topS eS7 ?_
        have lS7 : jle MX S S7 := by rw [eS7]; exact mNew_le _ _ _ _
        have hS7_a0 : mKd S7 a0 = 6 := kd_le lS7 ha
        have hS7_new : mKd S7 a8 = 1 := by rw [eS7, mKd_new, if_pos ea8]
        refine J_dup dX5_exercise_28 rfl ?_
        refine J_iload_n 1 dX5_exercise_29 rfl rfl ?_
        obtain ⟨S11, eS11, h12⟩ := bnd_some h10; clear h10
        have cS11 := (t_X0_init hS7_new eS11)
        have lS11 : jle MX S7 S11 := cS11.1
        have hS11_a0 : mKd S11 a0 = 6 := kd_le lS11 hS7_a0
        have hS11_a8 : mKd S11 a8 = 1 := kd_le lS11 hS7_new
        refine J_callI (As := [.int i1]) (rest := [.ref a8]) (st' := [.ref a8]) cS11 gC_X0_init gM_X5_281 rfl rfl (by decide) (by decide) rfl rfl (Nat.le_of_ble_eq_true rfl) dX5_exercise_30 ?_
        refine J_astore_n dX5_exercise_33 rfl (by decide) [1, 3, 0] (lv' := [(0, .ref a0), (2, .int i2), (3, .ref a8)]) rfl ?_
        refine J_aload_n 2 dX5_exercise_34 rfl rfl ?_
        refine J_iload_n 1 dX5_exercise_35 rfl rfl ?_
        obtain ⟨S13, eS13, h14⟩ := bnd_some h12; clear h12
        have cS13 := (t_X0_draw hS11_a8 eS13)
        have lS13 : jle MX S11 S13 := cS13.1
        have hS13_a0 : mKd S13 a0 = 6 := kd_le lS13 hS11_a0
        have hS13_a8 : mKd S13 a8 = 1 := kd_le lS13 hS11_a8
        refine J_callV (As := [.int i2]) (rest := []) (st' := []) cS13 gC_X0_draw gM_X5_283 (mRecv hS11_a8 (by decide) jCl0) rfl (by decide) (by decide) rfl rfl (Nat.le_of_ble_eq_true rfl) dX5_exercise_36 ?_
        refine J_aload_n 2 dX5_exercise_39 rfl rfl ?_
        obtain ⟨S15, eS15, h16⟩ := bnd_some h14; clear h14
        have cS15 := (t_X0_solve hS13_a8 eS15)
        have lS15 : jle MX S13 S15 := cS15.1
        have hS15_a0 : mKd S15 a0 = 6 := kd_le lS15 hS13_a0
        have hS15_a8 : mKd S15 a8 = 1 := kd_le lS15 hS13_a8
        refine J_callV (As := []) (rest := []) (st' := []) cS15 gC_X0_solve gM_X5_286 (mRecv hS13_a8 (by decide) jCl0) rfl (by decide) (by decide) rfl rfl (Nat.le_of_ble_eq_true rfl) dX5_exercise_40 ?_
        refine J_aload_n 0 dX5_exercise_43 rfl rfl ?_
        refine J_get (k := 2) (v := va_rf (mR S15 a0 2)) dX5_exercise_44 gF_X5_19 hS15_a0 rfl ?_
        refine J_aload_n 0 dX5_exercise_47 rfl rfl ?_
        refine J_get (k := 3) (v := .int (mI S15 a0 3)) dX5_exercise_48 gF_X5_278 hS15_a0 rfl ?_
        refine J_aload_n 2 dX5_exercise_51 rfl rfl ?_
        obtain ⟨a17, ea17, ka17, h18⟩ := ob_some h16; clear h16
        rw [ea17]
        refine J_lvst (lv' := [(0, .ref a0), (2, .int i2), (3, .ref a8)]) (st' := [.ref a8, .int (mI S15 a0 3), .ref a17]) rfl rfl ?_
        obtain ⟨g19, h20⟩ := gd_some h18; clear h18
        refine J_aast (z := 5) dX5_exercise_52 (fun _ => rfl) (fun _ _ => rfl) jCl0 (by decide) (by decide) hS15_a8 ka17 g19 ?_
        obtain ⟨S21, eS21, h22⟩ := jLet_some h20; clear h20
        refine J_topS eS21 ?_
        have hS21_a0 : mKd S21 a0 = 6 := by rw [eS21]; exact hS15_a0
        have hS21_a8 : mKd S21 a8 = 1 := by rw [eS21]; exact hS15_a8
        have hS21_a17 : mKd S21 a17 = 13 := by rw [eS21]; exact ka17
        refine J_aload_n 0 dX5_exercise_53 rfl rfl ?_
        refine J_dup dX5_exercise_54 rfl ?_
        refine J_get (k := 3) (v := .int (mI S21 a0 3)) dX5_exercise_55 gF_X5_278 hS21_a0 rfl ?_
        refine J_iconst (1 : Int32) dX5_exercise_58 (by decide) ?_
        refine J_iadd dX5_exercise_59 ?_
        obtain ⟨i23_, ei23_, h24⟩ := jLet_some h22; clear h22
        refine J_topI ei23_ ?_
        refine J_putI (k := 3) dX5_exercise_60 gW_X5_278 hS21_a0 rfl ?_
        obtain ⟨S25, eS25, h26⟩ := jLet_some h24; clear h24
        refine J_topS eS25 ?_
        have hS25_a0 : mKd S25 a0 = 6 := by rw [eS25]; exact hS21_a0
        have hS25_a8 : mKd S25 a8 = 1 := by rw [eS25]; exact hS21_a8
        have hS25_a17 : mKd S25 a17 = 13 := by rw [eS25]; exact hS21_a17
        refine J_aload_n 0 dX5_exercise_63 rfl rfl ?_
        refine J_get (k := 3) (v := .int (mI S25 a0 3)) dX5_exercise_64 gF_X5_278 hS25_a0 rfl ?_
        refine J_iconst (1 : Int32) dX5_exercise_67 (by decide) ?_
        refine J_isub dX5_exercise_68 ?_
        have hw := Option.some.inj h26; subst hw
        exact J_iret rfl dX5_exercise_69
      · clear h4
        refine J_bipush (-4 : Int32) dX5_exercise_22 (by decide) ?_
        have hw := Option.some.inj h6; subst hw
        exact J_iret rfl dX5_exercise_24
    · clear h2
      refine J_bipush (-2 : Int32) dX5_exercise_9 (by decide) ?_
      have hw := Option.some.inj h4; subst hw
      exact J_iret rfl dX5_exercise_11
def c_X5_knownExercise (S : Mem) (a0 : Nat) (i1 : Int32) : Option (Option Nat) :=
  if i1 < 0 then
    (some none)
  else
    (if i1 < (mI S a0 3) then
      (bnd (ob S (mR S a0 2) 13) fun a5 =>
      gd (inB i1 (mLn S a5)) <|
      some (mR S a5 (Int32.toNatClampNeg i1)))
    else
      (some none))
set_option maxRecDepth 100000 in
set_option maxHeartbeats 4000000 in
theorem t_X5_knownExercise {S : Mem} {a0 : Nat} {i1 : Int32} {w : (Option Nat)} (ha : mKd S a0 = 6) (h : c_X5_knownExercise S a0 i1 = some w) : CT MX yX5_knownExercise cX5_knownExercise 2 (some (.object "BeadSchool$Exercise")) 0 0 [.ref a0, .int i1] S (some (va_rf w)) S := by
  refine CT.of (lv := [(0, .ref a0), (1, .int i1)]) (by decide) rfl (Nat.le_of_ble_eq_true rfl) ?_
  refine J_iload_n 1 dX5_knownExercise_0 rfl rfl ?_
  refine J_if_lt 12 dX5_knownExercise_1 (by decide) h (fun c1 h2 => ?_) (fun c1 h2 => ?_)
  · clear h
    refine J_null dX5_knownExercise_12 ?_
    refine J_goto 22 dX5_knownExercise_13 (by decide) ?_
    have hw := Option.some.inj h2; subst hw
    exact J_aretq (x := none) rfl dX5_knownExercise_22
  · clear h
    refine J_iload_n 1 dX5_knownExercise_4 rfl rfl ?_
    refine J_aload_n 0 dX5_knownExercise_5 rfl rfl ?_
    refine J_get (k := 3) (v := .int (mI S a0 3)) dX5_knownExercise_6 gF_X5_278 ha rfl ?_
    refine J_icmp_lt 16 dX5_knownExercise_9 (by decide) h2 (fun c3 h4 => ?_) (fun c3 h4 => ?_)
    · clear h2
      refine J_aload_n 0 dX5_knownExercise_16 rfl rfl ?_
      refine J_get (k := 2) (v := va_rf (mR S a0 2)) dX5_knownExercise_17 gF_X5_19 ha rfl ?_
      refine J_iload_n 1 dX5_knownExercise_20 rfl rfl ?_
      obtain ⟨a5, ea5, ka5, h6⟩ := ob_some h4; clear h4
      rw [ea5]
      refine J_lvst (lv' := [(0, .ref a0), (1, .int i1)]) (st' := [.int i1, .ref a5]) rfl rfl ?_
      obtain ⟨g7, h8⟩ := gd_some h6; clear h6
      refine J_aald (z := 5) (C := RX0) dX5_knownExercise_21 (fun _ => rfl) (fun _ _ => rfl) ka5 g7 ?_
      have hw := Option.some.inj h8; subst hw
      exact J_aretq (x := (mR S a5 (Int32.toNatClampNeg i1))) rfl dX5_knownExercise_22
    · clear h2
      refine J_null dX5_knownExercise_12 ?_
      refine J_goto 22 dX5_knownExercise_13 (by decide) ?_
      have hw := Option.some.inj h4; subst hw
      exact J_aretq (x := none) rfl dX5_knownExercise_22
def c_X5_place (S : Mem) (a0 : Nat) (i1 : Int32) (i2 : Int32) : Option Int32 :=
  bnd (c_X5_knownExercise S a0 i1) fun r1_ =>
  oc r1_
    (some (-1 : Int32))
    (fun a3 =>
      if i2 < 0 then
        (some (-2 : Int32))
      else
        (if i2 < (12 : Int32) then
          (gd (kb S a3 1) <|
          bnd (c_X0_isBlank S a3 i2) fun i11_ =>
          if i11_ = 0 then
            (bnd (ob S (mR S a3 1) 8) fun a15 =>
            gd (inB i2 (mLn S a15)) <|
            some (mI S a15 (Int32.toNatClampNeg i2)))
          else
            (some (-5 : Int32)))
        else
          (some (-2 : Int32))))
set_option maxRecDepth 100000 in
set_option maxHeartbeats 4000000 in
theorem t_X5_place {S : Mem} {a0 : Nat} {i1 : Int32} {i2 : Int32} {w : Int32} (ha : mKd S a0 = 6) (h : c_X5_place S a0 i1 i2 = some w) : CT MX yX5_place cX5_place 4 (some .int) 1 21 [.ref a0, .int i1, .int i2] S (some (.int w)) S := by
  refine CT.of (lv := [(0, .ref a0), (1, .int i1), (2, .int i2)]) (by decide) rfl (Nat.le_of_ble_eq_true rfl) ?_
  refine J_aload_n 0 dX5_place_0 rfl rfl ?_
  refine J_iload_n 1 dX5_place_1 rfl rfl ?_
  obtain ⟨r1_, er1_, h2⟩ := bnd_some h; clear h
  refine J_callV (As := [.int i1]) (rest := []) (st' := [va_rf r1_]) (t_X5_knownExercise ha er1_) gC_X5_knownExercise gM_X5_289 (mRecv ha (by decide) jCl5) rfl (by decide) (by decide) rfl rfl (Nat.le_of_ble_eq_true rfl) dX5_place_2 ?_
  refine J_astore_nq dX5_place_5 rfl (by decide) [1, 3, 0] (lv' := [(0, .ref a0), (2, .int i2), (3, va_rf r1_)]) rfl ?_
  refine J_aload_nq 2 dX5_place_6 rfl rfl ?_
  refine J_ifnonnull 12 dX5_place_7 (by decide) h2 (fun ea3 h4 => ?_) (fun a3 ea3 h4 => ?_)
  · clear h2
    subst ea3
    refine J_lvst (lv' := [(0, .ref a0), (2, .int i2), (3, va_rf none)]) (st' := []) rfl rfl ?_
    refine J_iconst (-1 : Int32) dX5_place_10 (by decide) ?_
    have hw := Option.some.inj h4; subst hw
    exact J_iret rfl dX5_place_11
  · clear h2
    subst ea3
    refine J_lvst (lv' := [(0, .ref a0), (2, .int i2), (3, .ref a3)]) (st' := []) rfl rfl ?_
    refine J_iload_n 1 dX5_place_12 rfl rfl ?_
    refine J_if_lt 22 dX5_place_13 (by decide) h4 (fun c5 h6 => ?_) (fun c5 h6 => ?_)
    · clear h4
      refine J_bipush (-2 : Int32) dX5_place_22 (by decide) ?_
      have hw := Option.some.inj h6; subst hw
      exact J_iret rfl dX5_place_24
    · clear h4
      refine J_iload_n 1 dX5_place_16 rfl rfl ?_
      refine J_bipush (12 : Int32) dX5_place_17 (by decide) ?_
      refine J_icmp_lt 25 dX5_place_19 (by decide) h6 (fun c7 h8 => ?_) (fun c7 h8 => ?_)
      · clear h6
        refine J_aload_n 2 dX5_place_25 rfl rfl ?_
        refine J_iload_n 1 dX5_place_26 rfl rfl ?_
        obtain ⟨g9, h10⟩ := gd_some h8; clear h8
        have kg9 := kb_of g9
        obtain ⟨i11_, ei11_, h12⟩ := bnd_some h10; clear h10
        refine J_callV (As := [.int i2]) (rest := []) (st' := [.int i11_]) (t_X0_isBlank kg9 ei11_) gC_X0_isBlank gM_X5_293 (mRecv kg9 (by decide) jCl0) rfl (by decide) (by decide) rfl rfl (Nat.le_of_ble_eq_true rfl) dX5_place_27 ?_
        refine J_if_eq 38 dX5_place_30 (by decide) h12 (fun c13 h14 => ?_) (fun c13 h14 => ?_)
        · clear h12
          refine J_aload_n 2 dX5_place_38 rfl rfl ?_
          refine J_get (k := 1) (v := va_rf (mR S a3 1)) dX5_place_39 gF_X5_296 kg9 rfl ?_
          refine J_iload_n 1 dX5_place_42 rfl rfl ?_
          obtain ⟨a15, ea15, ka15, h16⟩ := ob_some h14; clear h14
          rw [ea15]
          refine J_lvst (lv' := [(0, .ref a0), (2, .int i2), (3, .ref a3)]) (st' := [.int i2, .ref a15]) rfl rfl ?_
          obtain ⟨g17, h18⟩ := gd_some h16; clear h16
          refine J_iald dX5_place_43 ka15 g17 ?_
          have hw := Option.some.inj h18; subst hw
          exact J_iret rfl dX5_place_44
        · clear h12
          refine J_bipush (-5 : Int32) dX5_place_33 (by decide) ?_
          refine J_goto 44 dX5_place_35 (by decide) ?_
          have hw := Option.some.inj h14; subst hw
          exact J_iret rfl dX5_place_44
      · clear h6
        refine J_bipush (-2 : Int32) dX5_place_22 (by decide) ?_
        have hw := Option.some.inj h8; subst hw
        exact J_iret rfl dX5_place_24
def c_X5_fillings (S : Mem) (a0 : Nat) (i1 : Int32) : Option Int32 :=
  bnd (c_X5_knownExercise S a0 i1) fun r1_ =>
  oc r1_
    (some (-1 : Int32))
    (fun a3 =>
      gd (kb S a3 1) <|
      some (mI S a3 3))
set_option maxRecDepth 100000 in
set_option maxHeartbeats 4000000 in
theorem t_X5_fillings {S : Mem} {a0 : Nat} {i1 : Int32} {w : Int32} (ha : mKd S a0 = 6) (h : c_X5_fillings S a0 i1 = some w) : CT MX yX5_fillings cX5_fillings 3 (some .int) 1 21 [.ref a0, .int i1] S (some (.int w)) S := by
  refine CT.of (lv := [(0, .ref a0), (1, .int i1)]) (by decide) rfl (Nat.le_of_ble_eq_true rfl) ?_
  refine J_aload_n 0 dX5_fillings_0 rfl rfl ?_
  refine J_iload_n 1 dX5_fillings_1 rfl rfl ?_
  obtain ⟨r1_, er1_, h2⟩ := bnd_some h; clear h
  refine J_callV (As := [.int i1]) (rest := []) (st' := [va_rf r1_]) (t_X5_knownExercise ha er1_) gC_X5_knownExercise gM_X5_289 (mRecv ha (by decide) jCl5) rfl (by decide) (by decide) rfl rfl (Nat.le_of_ble_eq_true rfl) dX5_fillings_2 ?_
  refine J_astore_nq dX5_fillings_5 rfl (by decide) [1, 0] (lv' := [(0, .ref a0), (2, va_rf r1_)]) rfl ?_
  refine J_aload_nq 1 dX5_fillings_6 rfl rfl ?_
  refine J_ifnonnull 14 dX5_fillings_7 (by decide) h2 (fun ea3 h4 => ?_) (fun a3 ea3 h4 => ?_)
  · clear h2
    subst ea3
    refine J_lvst (lv' := [(0, .ref a0), (2, va_rf none)]) (st' := []) rfl rfl ?_
    refine J_iconst (-1 : Int32) dX5_fillings_10 (by decide) ?_
    refine J_goto 18 dX5_fillings_11 (by decide) ?_
    have hw := Option.some.inj h4; subst hw
    exact J_iret rfl dX5_fillings_18
  · clear h2
    subst ea3
    refine J_lvst (lv' := [(0, .ref a0), (2, .ref a3)]) (st' := []) rfl rfl ?_
    refine J_aload_n 1 dX5_fillings_14 rfl rfl ?_
    obtain ⟨g5, h6⟩ := gd_some h4; clear h4
    have kg5 := kb_of g5
    refine J_get (k := 3) (v := .int (mI S a3 3)) dX5_fillings_15 gF_X5_299 kg5 rfl ?_
    have hw := Option.some.inj h6; subst hw
    exact J_iret rfl dX5_fillings_18
def c_X5_answer (S : Mem) (a0 : Nat) (i1 : Int32) (i2 : Int32) : Option Int32 :=
  bnd (c_X5_knownExercise S a0 i1) fun r1_ =>
  oc r1_
    (some (-1 : Int32))
    (fun a3 =>
      if i2 < 0 then
        (some (-2 : Int32))
      else
        (if i2 < (12 : Int32) then
          (gd (kb S a3 1) <|
          bnd (ob S (mR S a3 1) 8) fun a11 =>
          gd (inB i2 (mLn S a11)) <|
          some (mI S a11 (Int32.toNatClampNeg i2)))
        else
          (some (-2 : Int32))))
set_option maxRecDepth 100000 in
set_option maxHeartbeats 4000000 in
theorem t_X5_answer {S : Mem} {a0 : Nat} {i1 : Int32} {i2 : Int32} {w : Int32} (ha : mKd S a0 = 6) (h : c_X5_answer S a0 i1 i2 = some w) : CT MX yX5_answer cX5_answer 4 (some .int) 1 21 [.ref a0, .int i1, .int i2] S (some (.int w)) S := by
  refine CT.of (lv := [(0, .ref a0), (1, .int i1), (2, .int i2)]) (by decide) rfl (Nat.le_of_ble_eq_true rfl) ?_
  refine J_aload_n 0 dX5_answer_0 rfl rfl ?_
  refine J_iload_n 1 dX5_answer_1 rfl rfl ?_
  obtain ⟨r1_, er1_, h2⟩ := bnd_some h; clear h
  refine J_callV (As := [.int i1]) (rest := []) (st' := [va_rf r1_]) (t_X5_knownExercise ha er1_) gC_X5_knownExercise gM_X5_289 (mRecv ha (by decide) jCl5) rfl (by decide) (by decide) rfl rfl (Nat.le_of_ble_eq_true rfl) dX5_answer_2 ?_
  refine J_astore_nq dX5_answer_5 rfl (by decide) [1, 3, 0] (lv' := [(0, .ref a0), (2, .int i2), (3, va_rf r1_)]) rfl ?_
  refine J_aload_nq 2 dX5_answer_6 rfl rfl ?_
  refine J_ifnonnull 12 dX5_answer_7 (by decide) h2 (fun ea3 h4 => ?_) (fun a3 ea3 h4 => ?_)
  · clear h2
    subst ea3
    refine J_lvst (lv' := [(0, .ref a0), (2, .int i2), (3, va_rf none)]) (st' := []) rfl rfl ?_
    refine J_iconst (-1 : Int32) dX5_answer_10 (by decide) ?_
    have hw := Option.some.inj h4; subst hw
    exact J_iret rfl dX5_answer_11
  · clear h2
    subst ea3
    refine J_lvst (lv' := [(0, .ref a0), (2, .int i2), (3, .ref a3)]) (st' := []) rfl rfl ?_
    refine J_iload_n 1 dX5_answer_12 rfl rfl ?_
    refine J_if_lt 22 dX5_answer_13 (by decide) h4 (fun c5 h6 => ?_) (fun c5 h6 => ?_)
    · clear h4
      refine J_bipush (-2 : Int32) dX5_answer_22 (by decide) ?_
      refine J_goto 33 dX5_answer_24 (by decide) ?_
      have hw := Option.some.inj h6; subst hw
      exact J_iret rfl dX5_answer_33
    · clear h4
      refine J_iload_n 1 dX5_answer_16 rfl rfl ?_
      refine J_bipush (12 : Int32) dX5_answer_17 (by decide) ?_
      refine J_icmp_lt 27 dX5_answer_19 (by decide) h6 (fun c7 h8 => ?_) (fun c7 h8 => ?_)
      · clear h6
        refine J_aload_n 2 dX5_answer_27 rfl rfl ?_
        obtain ⟨g9, h10⟩ := gd_some h8; clear h8
        have kg9 := kb_of g9
        refine J_get (k := 1) (v := va_rf (mR S a3 1)) dX5_answer_28 gF_X5_296 kg9 rfl ?_
        refine J_iload_n 1 dX5_answer_31 rfl rfl ?_
        obtain ⟨a11, ea11, ka11, h12⟩ := ob_some h10; clear h10
        rw [ea11]
        refine J_lvst (lv' := [(0, .ref a0), (2, .int i2), (3, .ref a3)]) (st' := [.int i2, .ref a11]) rfl rfl ?_
        obtain ⟨g13, h14⟩ := gd_some h12; clear h12
        refine J_iald dX5_answer_32 ka11 g13 ?_
        have hw := Option.some.inj h14; subst hw
        exact J_iret rfl dX5_answer_33
      · clear h6
        refine J_bipush (-2 : Int32) dX5_answer_22 (by decide) ?_
        refine J_goto 33 dX5_answer_24 (by decide) ?_
        have hw := Option.some.inj h8; subst hw
        exact J_iret rfl dX5_answer_33
def c_X5_singleExercises_L4 (S : Mem) : Nat → Nat → Int32 → Int32 → Option Int32
  | 0, _, _, _ => none
  | n + 1, a0, i1, i2 =>
    if (mI S a0 3) ≤ i2 then
      (some i1)
    else
      (bnd (c_X5_knownExercise S a0 i2) fun r3_ =>
      oc r3_
        (c_X5_singleExercises_L4 S n a0 i1 (i2 + (1 : Int32)))
        (fun a5 =>
          gd (kb S a5 1) <|
          if (mI S a5 3) = (1 : Int32) then
            (c_X5_singleExercises_L4 S n a0 (i1 + (1 : Int32)) (i2 + (1 : Int32)))
          else
            (c_X5_singleExercises_L4 S n a0 i1 (i2 + (1 : Int32)))))
set_option maxRecDepth 100000 in
set_option maxHeartbeats 4000000 in
theorem t_X5_singleExercises_L4 {S : Mem} {w : Int32} (n : Nat) : ∀ (a0 : Nat) (i1 : Int32) (i2 : Int32), (mKd S a0 = 6) → c_X5_singleExercises_L4 S n a0 i1 i2 = some w → J MX yX5_singleExercises cX5_singleExercises 4 (some .int) 1 21 4 [(0, .ref a0), (1, .int i1), (2, .int i2)] [] S (some (.int w)) S := by
  induction n with
  | zero => intro a0 i1 i2 ha h; cases h
  | succ n lh =>
    intro a0 i1 i2 ha h
    refine J_iload_n 2 dX5_singleExercises_4 rfl rfl ?_
    refine J_aload_n 0 dX5_singleExercises_5 rfl rfl ?_
    refine J_get (k := 3) (v := .int (mI S a0 3)) dX5_singleExercises_6 gF_X5_278 ha rfl ?_
    refine J_icmp_ge 39 dX5_singleExercises_9 (by decide) h (fun c1 h2 => ?_) (fun c1 h2 => ?_)
    · clear h
      refine J_iload_n 1 dX5_singleExercises_39 rfl rfl ?_
      have hw := Option.some.inj h2; subst hw
      exact J_iret rfl dX5_singleExercises_40
    · clear h
      refine J_aload_n 0 dX5_singleExercises_12 rfl rfl ?_
      refine J_iload_n 2 dX5_singleExercises_13 rfl rfl ?_
      obtain ⟨r3_, er3_, h4⟩ := bnd_some h2; clear h2
      refine J_callV (As := [.int i2]) (rest := []) (st' := [va_rf r3_]) (t_X5_knownExercise ha er3_) gC_X5_knownExercise gM_X5_289 (mRecv ha (by decide) jCl5) rfl (by decide) (by decide) rfl rfl (Nat.le_of_ble_eq_true rfl) dX5_singleExercises_14 ?_
      refine J_astore_nq dX5_singleExercises_17 rfl (by decide) [1, 2, 3, 0] (lv' := [(0, .ref a0), (1, .int i1), (2, .int i2), (3, va_rf r3_)]) rfl ?_
      refine J_aload_nq 3 dX5_singleExercises_18 rfl rfl ?_
      refine J_ifnull 33 dX5_singleExercises_19 (by decide) h4 (fun ea5 h6 => ?_) (fun a5 ea5 h6 => ?_)
      · clear h4
        subst ea5
        refine J_lvst (lv' := [(0, .ref a0), (1, .int i1), (2, .int i2), (3, va_rf none)]) (st' := []) rfl rfl ?_
        refine J_iinc 2 (1 : Int32) dX5_singleExercises_33 rfl (by decide) (by decide) [1, 2, 0, 3] (lv' := [(0, .ref a0), (1, .int i1), (2, .int (i2 + (1 : Int32))), (3, va_rf none)]) rfl ?_
        refine J_goto 4 dX5_singleExercises_36 (by decide) ?_
        refine J_lv [0, 1, 2] rfl ?_
        exact lh a0 i1 (i2 + (1 : Int32)) ha h6
      · clear h4
        subst ea5
        refine J_lvst (lv' := [(0, .ref a0), (1, .int i1), (2, .int i2), (3, .ref a5)]) (st' := []) rfl rfl ?_
        refine J_aload_n 3 dX5_singleExercises_22 rfl rfl ?_
        obtain ⟨g7, h8⟩ := gd_some h6; clear h6
        have kg7 := kb_of g7
        refine J_get (k := 3) (v := .int (mI S a5 3)) dX5_singleExercises_23 gF_X5_299 kg7 rfl ?_
        refine J_iconst (1 : Int32) dX5_singleExercises_26 (by decide) ?_
        refine J_icmp_ne 33 dX5_singleExercises_27 (by decide) h8 (fun c9 h10 => ?_) (fun c9 h10 => ?_)
        · clear h8
          refine J_iinc 1 (1 : Int32) dX5_singleExercises_30 rfl (by decide) (by decide) [1, 0, 2, 3] (lv' := [(0, .ref a0), (1, .int (i1 + (1 : Int32))), (2, .int i2), (3, .ref a5)]) rfl ?_
          refine J_iinc 2 (1 : Int32) dX5_singleExercises_33 rfl (by decide) (by decide) [1, 2, 0, 3] (lv' := [(0, .ref a0), (1, .int (i1 + (1 : Int32))), (2, .int (i2 + (1 : Int32))), (3, .ref a5)]) rfl ?_
          refine J_goto 4 dX5_singleExercises_36 (by decide) ?_
          refine J_lv [0, 1, 2] rfl ?_
          exact lh a0 (i1 + (1 : Int32)) (i2 + (1 : Int32)) ha h10
        · clear h8
          refine J_iinc 2 (1 : Int32) dX5_singleExercises_33 rfl (by decide) (by decide) [1, 2, 0, 3] (lv' := [(0, .ref a0), (1, .int i1), (2, .int (i2 + (1 : Int32))), (3, .ref a5)]) rfl ?_
          refine J_goto 4 dX5_singleExercises_36 (by decide) ?_
          refine J_lv [0, 1, 2] rfl ?_
          exact lh a0 i1 (i2 + (1 : Int32)) ha h10
def c_X5_singleExercises (S : Mem) (a0 : Nat) : Option Int32 :=
  c_X5_singleExercises_L4 S bigN a0 (0 : Int32) (0 : Int32)
set_option maxRecDepth 100000 in
set_option maxHeartbeats 4000000 in
theorem t_X5_singleExercises {S : Mem} {a0 : Nat} {w : Int32} (ha : mKd S a0 = 6) (h : c_X5_singleExercises S a0 = some w) : CT MX yX5_singleExercises cX5_singleExercises 4 (some .int) 1 21 [.ref a0] S (some (.int w)) S := by
  refine CT.of (lv := [(0, .ref a0)]) (by decide) rfl (Nat.le_of_ble_eq_true rfl) ?_
  refine J_iconst (0 : Int32) dX5_singleExercises_0 (by decide) ?_
  refine J_istore_n dX5_singleExercises_1 rfl (by decide) [1, 0] (lv' := [(0, .ref a0), (1, .int (0 : Int32))]) rfl ?_
  refine J_iconst (0 : Int32) dX5_singleExercises_2 (by decide) ?_
  refine J_istore_n dX5_singleExercises_3 rfl (by decide) [1, 2, 0] (lv' := [(0, .ref a0), (1, .int (0 : Int32)), (2, .int (0 : Int32))]) rfl ?_
  exact t_X5_singleExercises_L4 bigN a0 (0 : Int32) (0 : Int32) ha h
def c_X5_told (S : Mem) (a0 : Nat) (i1 : Int32) : Option Int32 :=
  if i1 = (0 : Int32) then
    (some (mI S a0 1))
  else if i1 = (1 : Int32) then
    (some (mI S a0 3))
  else if i1 = (2 : Int32) then
    (bnd (ob S (mR S a0 4) 4) fun a4 =>
    some (mI S a4 10))
  else if i1 = (3 : Int32) then
    (bnd (ob S (mR S a0 4) 4) fun a7 =>
    some (mI S a7 11))
  else if i1 = (4 : Int32) then
    (some (mI S a0 10))
  else if i1 = (5 : Int32) then
    (some (mI S a0 6))
  else if i1 = (6 : Int32) then
    (bnd (c_X5_singleExercises S a0) fun i12_ =>
    some i12_)
  else (some (-2 : Int32))
set_option maxRecDepth 100000 in
set_option maxHeartbeats 4000000 in
theorem t_X5_told {S : Mem} {a0 : Nat} {i1 : Int32} {w : Int32} (ha : mKd S a0 = 6) (h : c_X5_told S a0 i1 = some w) : CT MX yX5_told cX5_told 2 (some .int) 2 44 [.ref a0, .int i1] S (some (.int w)) S := by
  refine CT.of (lv := [(0, .ref a0), (1, .int i1)]) (by decide) rfl (Nat.le_of_ble_eq_true rfl) ?_
  refine J_iload_n 1 dX5_told_0 rfl rfl ?_
  by_cases c1 : i1 = (0 : Int32)
  · replace h := ifp c1 h
    refine J_tabIn (0 : Int32) 44 dX5_told_1 c1 (by decide) (by decide) rfl (by decide) ?_
    refine J_aload_n 0 dX5_told_44 rfl rfl ?_
    refine J_get (k := 1) (v := .int (mI S a0 1)) dX5_told_45 gF_X5_41 ha rfl ?_
    have hw := Option.some.inj h; subst hw
    exact J_iret rfl dX5_told_48
  replace h := ifn c1 h
  by_cases c2 : i1 = (1 : Int32)
  · replace h := ifp c2 h
    refine J_tabIn (1 : Int32) 49 dX5_told_1 c2 (by decide) (by decide) rfl (by decide) ?_
    refine J_aload_n 0 dX5_told_49 rfl rfl ?_
    refine J_get (k := 3) (v := .int (mI S a0 3)) dX5_told_50 gF_X5_278 ha rfl ?_
    have hw := Option.some.inj h; subst hw
    exact J_iret rfl dX5_told_53
  replace h := ifn c2 h
  by_cases c3 : i1 = (2 : Int32)
  · replace h := ifp c3 h
    refine J_tabIn (2 : Int32) 54 dX5_told_1 c3 (by decide) (by decide) rfl (by decide) ?_
    refine J_aload_n 0 dX5_told_54 rfl rfl ?_
    refine J_get (k := 4) (v := va_rf (mR S a0 4)) dX5_told_55 gF_X5_26 ha rfl ?_
    obtain ⟨a4, ea4, ka4, h5⟩ := ob_some h; clear h
    rw [ea4]
    refine J_lvst (lv' := [(0, .ref a0), (1, .int i1)]) (st' := [.ref a4]) rfl rfl ?_
    refine J_get (k := 10) (v := .int (mI S a4 10)) dX5_told_58 gF_X5_302 ka4 rfl ?_
    have hw := Option.some.inj h5; subst hw
    exact J_iret rfl dX5_told_61
  replace h := ifn c3 h
  by_cases c6 : i1 = (3 : Int32)
  · replace h := ifp c6 h
    refine J_tabIn (3 : Int32) 62 dX5_told_1 c6 (by decide) (by decide) rfl (by decide) ?_
    refine J_aload_n 0 dX5_told_62 rfl rfl ?_
    refine J_get (k := 4) (v := va_rf (mR S a0 4)) dX5_told_63 gF_X5_26 ha rfl ?_
    obtain ⟨a7, ea7, ka7, h8⟩ := ob_some h; clear h
    rw [ea7]
    refine J_lvst (lv' := [(0, .ref a0), (1, .int i1)]) (st' := [.ref a7]) rfl rfl ?_
    refine J_get (k := 11) (v := .int (mI S a7 11)) dX5_told_66 gF_X5_305 ka7 rfl ?_
    have hw := Option.some.inj h8; subst hw
    exact J_iret rfl dX5_told_69
  replace h := ifn c6 h
  by_cases c9 : i1 = (4 : Int32)
  · replace h := ifp c9 h
    refine J_tabIn (4 : Int32) 70 dX5_told_1 c9 (by decide) (by decide) rfl (by decide) ?_
    refine J_aload_n 0 dX5_told_70 rfl rfl ?_
    refine J_get (k := 10) (v := .int (mI S a0 10)) dX5_told_71 gF_X5_308 ha rfl ?_
    have hw := Option.some.inj h; subst hw
    exact J_iret rfl dX5_told_74
  replace h := ifn c9 h
  by_cases c10 : i1 = (5 : Int32)
  · replace h := ifp c10 h
    refine J_tabIn (5 : Int32) 75 dX5_told_1 c10 (by decide) (by decide) rfl (by decide) ?_
    refine J_aload_n 0 dX5_told_75 rfl rfl ?_
    refine J_get (k := 6) (v := .int (mI S a0 6)) dX5_told_76 gF_X5_265 ha rfl ?_
    have hw := Option.some.inj h; subst hw
    exact J_iret rfl dX5_told_79
  replace h := ifn c10 h
  by_cases c11 : i1 = (6 : Int32)
  · replace h := ifp c11 h
    refine J_tabIn (6 : Int32) 80 dX5_told_1 c11 (by decide) (by decide) rfl (by decide) ?_
    refine J_aload_n 0 dX5_told_80 rfl rfl ?_
    obtain ⟨i12_, ei12_, h13⟩ := bnd_some h; clear h
    refine J_callV (As := []) (rest := []) (st' := [.int i12_]) (t_X5_singleExercises ha ei12_) gC_X5_singleExercises gM_X5_311 (mRecv ha (by decide) jCl5) rfl (by decide) (by decide) rfl rfl (Nat.le_of_ble_eq_true rfl) dX5_told_81 ?_
    have hw := Option.some.inj h13; subst hw
    exact J_iret rfl dX5_told_84
  replace h := ifn c11 h
  have hout := tabOut (x := i1) (n := 6) (by decide) (fun k hk => by
    match k, hk with
    | 0, _ => exact c1
    | 1, _ => exact c2
    | 2, _ => exact c3
    | 3, _ => exact c6
    | 4, _ => exact c9
    | 5, _ => exact c10
    | 6, _ => exact c11
    | k + 7, hk => exact absurd hk (by omega))
  refine J_tabOut 85 dX5_told_1 hout (by decide) ?_
  refine J_bipush (-2 : Int32) dX5_told_85 (by decide) ?_
  have hw := Option.some.inj h; subst hw
  exact J_iret rfl dX5_told_87
def c_X5_fault (S : Mem) (a0 : Nat) : Option Int32 :=
  some (mI S a0 9)
set_option maxRecDepth 100000 in
set_option maxHeartbeats 4000000 in
theorem t_X5_fault {S : Mem} {a0 : Nat} {w : Int32} (ha : mKd S a0 = 6) (h : c_X5_fault S a0 = some w) : CT MX yX5_fault cX5_fault 1 (some .int) 0 0 [.ref a0] S (some (.int w)) S := by
  refine CT.of (lv := [(0, .ref a0)]) (by decide) rfl (Nat.le_of_ble_eq_true rfl) ?_
  refine J_aload_n 0 dX5_fault_0 rfl rfl ?_
  refine J_get (k := 9) (v := .int (mI S a0 9)) dX5_fault_1 gF_X5_314 ha rfl ?_
  have hw := Option.some.inj h; subst hw
  exact J_iret rfl dX5_fault_4
def c_X6_init (S : Mem) (a0 : Nat) : Option Mem :=
  jLet (mNx S) fun a2 =>
  jLet (mNew S 8 (Int32.toNatClampNeg (30 : Int32)) (Int32.toNatClampNeg (30 : Int32))) fun S1 =>
  jLet (mSR S1 a0 1 (some a2)) fun S5 =>
  jLet (mNx S5) fun a8 =>
  jLet (mNew S5 8 (Int32.toNatClampNeg (30 : Int32)) (Int32.toNatClampNeg (30 : Int32))) fun S7 =>
  jLet (mSR S7 a0 2 (some a8)) fun S11 =>
  jLet (mNx S11) fun a14 =>
  jLet (mNew S11 8 (Int32.toNatClampNeg (30 : Int32)) (Int32.toNatClampNeg (30 : Int32))) fun S13 =>
  jLet (mSR S13 a0 3 (some a14)) fun S17 =>
  jLet (mNx S17) fun a20 =>
  jLet (mNew S17 8 (Int32.toNatClampNeg (30 : Int32)) (Int32.toNatClampNeg (30 : Int32))) fun S19 =>
  jLet (mSR S19 a0 4 (some a20)) fun S23 =>
  jLet (mNx S23) fun a26 =>
  jLet (mNew S23 8 (Int32.toNatClampNeg (30 : Int32)) (Int32.toNatClampNeg (30 : Int32))) fun S25 =>
  jLet (mSR S25 a0 5 (some a26)) fun S29 =>
  jLet (mNx S29) fun a32 =>
  jLet (mNew S29 8 (Int32.toNatClampNeg (30 : Int32)) (Int32.toNatClampNeg (30 : Int32))) fun S31 =>
  jLet (mSR S31 a0 6 (some a32)) fun S35 =>
  jLet (mNx S35) fun a38 =>
  jLet (mNew S35 8 (Int32.toNatClampNeg (30 : Int32)) (Int32.toNatClampNeg (30 : Int32))) fun S37 =>
  jLet (mSR S37 a0 7 (some a38)) fun S41 =>
  jLet (mNx S41) fun a44 =>
  jLet (mNew S41 8 (Int32.toNatClampNeg (540 : Int32)) (Int32.toNatClampNeg (540 : Int32))) fun S43 =>
  jLet (mSR S43 a0 8 (some a44)) fun S47 =>
  jLet (mNx S47) fun a50 =>
  jLet (mNew S47 8 (Int32.toNatClampNeg (540 : Int32)) (Int32.toNatClampNeg (540 : Int32))) fun S49 =>
  jLet (mSR S49 a0 9 (some a50)) fun S53 =>
  jLet (mNx S53) fun a56 =>
  jLet (mNew S53 8 (Int32.toNatClampNeg (540 : Int32)) (Int32.toNatClampNeg (540 : Int32))) fun S55 =>
  jLet (mSR S55 a0 10 (some a56)) fun S59 =>
  jLet (mNx S59) fun a62 =>
  jLet (mNew S59 8 (Int32.toNatClampNeg (540 : Int32)) (Int32.toNatClampNeg (540 : Int32))) fun S61 =>
  jLet (mSR S61 a0 11 (some a62)) fun S65 =>
  jLet (mNx S65) fun a68 =>
  jLet (mNew S65 8 (Int32.toNatClampNeg (60 : Int32)) (Int32.toNatClampNeg (60 : Int32))) fun S67 =>
  jLet (mSR S67 a0 17 (some a68)) fun S71 =>
  jLet (mSI S71 a0 24 (-5 : Int32)) fun S73 =>
  jLet (mSI S73 a0 25 (-5 : Int32)) fun S75 =>
  jLet (mNx S75) fun a78 =>
  jLet (mNew S75 8 (Int32.toNatClampNeg (35000 : Int32)) (Int32.toNatClampNeg (35000 : Int32))) fun S77 =>
  jLet (mSR S77 a0 28 (some a78)) fun S81 =>
  jLet (mNx S81) fun a84 =>
  jLet (mNew S81 10 (Int32.toNatClampNeg (20 : Int32)) (Int32.toNatClampNeg (20 : Int32))) fun S83 =>
  jLet (mSR S83 a0 32 (some a84)) fun S87 =>
  jLet (mNx S87) fun a90 =>
  jLet (mNew S87 9 (Int32.toNatClampNeg (400 : Int32)) (Int32.toNatClampNeg (400 : Int32))) fun S89 =>
  jLet (mSR S89 a0 33 (some a90)) fun S93 =>
  jLet (mNx S93) fun a96 =>
  jLet (mNew S93 8 (Int32.toNatClampNeg (1200 : Int32)) (Int32.toNatClampNeg (1200 : Int32))) fun S95 =>
  jLet (mSR S95 a0 35 (some a96)) fun S99 =>
  jLet (mNx S99) fun a102 =>
  jLet (mNew S99 8 (Int32.toNatClampNeg (200 : Int32)) (Int32.toNatClampNeg (200 : Int32))) fun S101 =>
  jLet (mSR S101 a0 37 (some a102)) fun S105 =>
  jLet (mNx S105) fun a108 =>
  jLet (mNew S105 8 (Int32.toNatClampNeg (2400 : Int32)) (Int32.toNatClampNeg (2400 : Int32))) fun S107 =>
  jLet (mSR S107 a0 38 (some a108)) fun S111 =>
  jLet (mNx S111) fun a114 =>
  jLet (mNew S111 10 (Int32.toNatClampNeg (2400 : Int32)) (Int32.toNatClampNeg (2400 : Int32))) fun S113 =>
  jLet (mSR S113 a0 39 (some a114)) fun S117 =>
  jLet (mNx S117) fun a120 =>
  jLet (mNew S117 8 (Int32.toNatClampNeg (2400 : Int32)) (Int32.toNatClampNeg (2400 : Int32))) fun S119 =>
  jLet (mSR S119 a0 40 (some a120)) fun S123 =>
  jLet (mNx S123) fun a126 =>
  jLet (mNew S123 8 (Int32.toNatClampNeg (200 : Int32)) (Int32.toNatClampNeg (200 : Int32))) fun S125 =>
  jLet (mSR S125 a0 41 (some a126)) fun S129 =>
  jLet (mNx S129) fun a132 =>
  jLet (mNew S129 8 (Int32.toNatClampNeg (12 : Int32)) (Int32.toNatClampNeg (12 : Int32))) fun S131 =>
  jLet (mSR S131 a0 43 (some a132)) fun S135 =>
  jLet (mNx S135) fun a138 =>
  jLet (mNew S135 8 (Int32.toNatClampNeg (4 : Int32)) (Int32.toNatClampNeg (4 : Int32))) fun S137 =>
  jLet (mSR S137 a0 44 (some a138)) fun S141 =>
  some S141
set_option maxRecDepth 100000 in
set_option maxHeartbeats 4000000 in
theorem t_X6_init {S : Mem} {a0 : Nat} {w : Mem} (ha : mKd S a0 = 7) (h : c_X6_init S a0 = some w) : CT MX yX6_init cX6_init 1 none 1 40 [.ref a0] S none w := by
  refine CT.of (lv := [(0, .ref a0)]) (by decide) rfl (Nat.le_of_ble_eq_true rfl) ?_
  refine J_aload_n 0 dX6_init_0 rfl rfl ?_
  refine J_objInit gO_X6_1 gO_i gO_c (by decide) (by decide) (Nat.le_of_ble_eq_true rfl) dX6_init_1 ?_
  refine J_aload_n 0 dX6_init_4 rfl rfl ?_
  refine J_bipush (30 : Int32) dX6_init_5 (by decide) ?_
  refine J_newa (z := 0) (by decide) dX6_init_7 gA_int (fun _ => rfl) (by decide) (fun _ _ q => q) (fun S ln sl q => by simp [avT, mI, mL, mR, mNew, up1, defaultValue, newarray.typeOf]) (by decide) ?_
  obtain ⟨a2, ea2, h3⟩ := jLet_some h; clear h
  obtain ⟨S1, eS1, h4⟩ := jLet_some h3; clear h3
  rw [← ea2]
  refine J_topS eS1 ?_
  have lS1 : jle MX S S1 := by rw [eS1]; exact mNew_le _ _ _ _
  have hS1_a0 : mKd S1 a0 = 7 := kd_le lS1 ha
  have hS1_new : mKd S1 a2 = 8 := by rw [eS1, mKd_new, if_pos ea2]
  refine J_putAF (k := 1) (x := (some a2)) dX6_init_9 rfl gP_X6_7 hS1_a0 rfl ?_
  obtain ⟨S5, eS5, h6⟩ := jLet_some h4; clear h4
  refine J_topS eS5 ?_
  have hS5_a0 : mKd S5 a0 = 7 := by rw [eS5]; exact hS1_a0
  have hS5_a2 : mKd S5 a2 = 8 := by rw [eS5]; exact hS1_new
  refine J_aload_n 0 dX6_init_12 rfl rfl ?_
  refine J_bipush (30 : Int32) dX6_init_13 (by decide) ?_
  refine J_newa (z := 0) (by decide) dX6_init_15 gA_int (fun _ => rfl) (by decide) (fun _ _ q => q) (fun S ln sl q => by simp [avT, mI, mL, mR, mNew, up1, defaultValue, newarray.typeOf]) (by decide) ?_
  obtain ⟨a8, ea8, h9⟩ := jLet_some h6; clear h6
  obtain ⟨S7, eS7, h10⟩ := jLet_some h9; clear h9
  rw [← ea8]
  refine J_topS eS7 ?_
  have lS7 : jle MX S5 S7 := by rw [eS7]; exact mNew_le _ _ _ _
  have hS7_a0 : mKd S7 a0 = 7 := kd_le lS7 hS5_a0
  have hS7_a2 : mKd S7 a2 = 8 := kd_le lS7 hS5_a2
  have hS7_new : mKd S7 a8 = 8 := by rw [eS7, mKd_new, if_pos ea8]
  refine J_putAF (k := 2) (x := (some a8)) dX6_init_17 rfl gP_X6_13 hS7_a0 rfl ?_
  obtain ⟨S11, eS11, h12⟩ := jLet_some h10; clear h10
  refine J_topS eS11 ?_
  have hS11_a0 : mKd S11 a0 = 7 := by rw [eS11]; exact hS7_a0
  have hS11_a2 : mKd S11 a2 = 8 := by rw [eS11]; exact hS7_a2
  have hS11_a8 : mKd S11 a8 = 8 := by rw [eS11]; exact hS7_new
  refine J_aload_n 0 dX6_init_20 rfl rfl ?_
  refine J_bipush (30 : Int32) dX6_init_21 (by decide) ?_
  refine J_newa (z := 0) (by decide) dX6_init_23 gA_int (fun _ => rfl) (by decide) (fun _ _ q => q) (fun S ln sl q => by simp [avT, mI, mL, mR, mNew, up1, defaultValue, newarray.typeOf]) (by decide) ?_
  obtain ⟨a14, ea14, h15⟩ := jLet_some h12; clear h12
  obtain ⟨S13, eS13, h16⟩ := jLet_some h15; clear h15
  rw [← ea14]
  refine J_topS eS13 ?_
  have lS13 : jle MX S11 S13 := by rw [eS13]; exact mNew_le _ _ _ _
  have hS13_a0 : mKd S13 a0 = 7 := kd_le lS13 hS11_a0
  have hS13_a2 : mKd S13 a2 = 8 := kd_le lS13 hS11_a2
  have hS13_a8 : mKd S13 a8 = 8 := kd_le lS13 hS11_a8
  have hS13_new : mKd S13 a14 = 8 := by rw [eS13, mKd_new, if_pos ea14]
  refine J_putAF (k := 3) (x := (some a14)) dX6_init_25 rfl gP_X6_16 hS13_a0 rfl ?_
  obtain ⟨S17, eS17, h18⟩ := jLet_some h16; clear h16
  refine J_topS eS17 ?_
  have hS17_a0 : mKd S17 a0 = 7 := by rw [eS17]; exact hS13_a0
  have hS17_a2 : mKd S17 a2 = 8 := by rw [eS17]; exact hS13_a2
  have hS17_a8 : mKd S17 a8 = 8 := by rw [eS17]; exact hS13_a8
  have hS17_a14 : mKd S17 a14 = 8 := by rw [eS17]; exact hS13_new
  refine J_aload_n 0 dX6_init_28 rfl rfl ?_
  refine J_bipush (30 : Int32) dX6_init_29 (by decide) ?_
  refine J_newa (z := 0) (by decide) dX6_init_31 gA_int (fun _ => rfl) (by decide) (fun _ _ q => q) (fun S ln sl q => by simp [avT, mI, mL, mR, mNew, up1, defaultValue, newarray.typeOf]) (by decide) ?_
  obtain ⟨a20, ea20, h21⟩ := jLet_some h18; clear h18
  obtain ⟨S19, eS19, h22⟩ := jLet_some h21; clear h21
  rw [← ea20]
  refine J_topS eS19 ?_
  have lS19 : jle MX S17 S19 := by rw [eS19]; exact mNew_le _ _ _ _
  have hS19_a0 : mKd S19 a0 = 7 := kd_le lS19 hS17_a0
  have hS19_a2 : mKd S19 a2 = 8 := kd_le lS19 hS17_a2
  have hS19_a8 : mKd S19 a8 = 8 := kd_le lS19 hS17_a8
  have hS19_a14 : mKd S19 a14 = 8 := kd_le lS19 hS17_a14
  have hS19_new : mKd S19 a20 = 8 := by rw [eS19, mKd_new, if_pos ea20]
  refine J_putAF (k := 4) (x := (some a20)) dX6_init_33 rfl gP_X6_19 hS19_a0 rfl ?_
  obtain ⟨S23, eS23, h24⟩ := jLet_some h22; clear h22
  refine J_topS eS23 ?_
  have hS23_a0 : mKd S23 a0 = 7 := by rw [eS23]; exact hS19_a0
  have hS23_a2 : mKd S23 a2 = 8 := by rw [eS23]; exact hS19_a2
  have hS23_a8 : mKd S23 a8 = 8 := by rw [eS23]; exact hS19_a8
  have hS23_a14 : mKd S23 a14 = 8 := by rw [eS23]; exact hS19_a14
  have hS23_a20 : mKd S23 a20 = 8 := by rw [eS23]; exact hS19_new
  refine J_aload_n 0 dX6_init_36 rfl rfl ?_
  refine J_bipush (30 : Int32) dX6_init_37 (by decide) ?_
  refine J_newa (z := 0) (by decide) dX6_init_39 gA_int (fun _ => rfl) (by decide) (fun _ _ q => q) (fun S ln sl q => by simp [avT, mI, mL, mR, mNew, up1, defaultValue, newarray.typeOf]) (by decide) ?_
  obtain ⟨a26, ea26, h27⟩ := jLet_some h24; clear h24
  obtain ⟨S25, eS25, h28⟩ := jLet_some h27; clear h27
  rw [← ea26]
  refine J_topS eS25 ?_
  have lS25 : jle MX S23 S25 := by rw [eS25]; exact mNew_le _ _ _ _
  have hS25_a0 : mKd S25 a0 = 7 := kd_le lS25 hS23_a0
  have hS25_a2 : mKd S25 a2 = 8 := kd_le lS25 hS23_a2
  have hS25_a8 : mKd S25 a8 = 8 := kd_le lS25 hS23_a8
  have hS25_a14 : mKd S25 a14 = 8 := kd_le lS25 hS23_a14
  have hS25_a20 : mKd S25 a20 = 8 := kd_le lS25 hS23_a20
  have hS25_new : mKd S25 a26 = 8 := by rw [eS25, mKd_new, if_pos ea26]
  refine J_putAF (k := 5) (x := (some a26)) dX6_init_41 rfl gP_X6_22 hS25_a0 rfl ?_
  obtain ⟨S29, eS29, h30⟩ := jLet_some h28; clear h28
  refine J_topS eS29 ?_
  have hS29_a0 : mKd S29 a0 = 7 := by rw [eS29]; exact hS25_a0
  have hS29_a2 : mKd S29 a2 = 8 := by rw [eS29]; exact hS25_a2
  have hS29_a8 : mKd S29 a8 = 8 := by rw [eS29]; exact hS25_a8
  have hS29_a14 : mKd S29 a14 = 8 := by rw [eS29]; exact hS25_a14
  have hS29_a20 : mKd S29 a20 = 8 := by rw [eS29]; exact hS25_a20
  have hS29_a26 : mKd S29 a26 = 8 := by rw [eS29]; exact hS25_new
  refine J_aload_n 0 dX6_init_44 rfl rfl ?_
  refine J_bipush (30 : Int32) dX6_init_45 (by decide) ?_
  refine J_newa (z := 0) (by decide) dX6_init_47 gA_int (fun _ => rfl) (by decide) (fun _ _ q => q) (fun S ln sl q => by simp [avT, mI, mL, mR, mNew, up1, defaultValue, newarray.typeOf]) (by decide) ?_
  obtain ⟨a32, ea32, h33⟩ := jLet_some h30; clear h30
  obtain ⟨S31, eS31, h34⟩ := jLet_some h33; clear h33
  rw [← ea32]
  refine J_topS eS31 ?_
  have lS31 : jle MX S29 S31 := by rw [eS31]; exact mNew_le _ _ _ _
  have hS31_a0 : mKd S31 a0 = 7 := kd_le lS31 hS29_a0
  have hS31_a2 : mKd S31 a2 = 8 := kd_le lS31 hS29_a2
  have hS31_a8 : mKd S31 a8 = 8 := kd_le lS31 hS29_a8
  have hS31_a14 : mKd S31 a14 = 8 := kd_le lS31 hS29_a14
  have hS31_a20 : mKd S31 a20 = 8 := kd_le lS31 hS29_a20
  have hS31_a26 : mKd S31 a26 = 8 := kd_le lS31 hS29_a26
  have hS31_new : mKd S31 a32 = 8 := by rw [eS31, mKd_new, if_pos ea32]
  refine J_putAF (k := 6) (x := (some a32)) dX6_init_49 rfl gP_X6_25 hS31_a0 rfl ?_
  obtain ⟨S35, eS35, h36⟩ := jLet_some h34; clear h34
  refine J_topS eS35 ?_
  have hS35_a0 : mKd S35 a0 = 7 := by rw [eS35]; exact hS31_a0
  have hS35_a2 : mKd S35 a2 = 8 := by rw [eS35]; exact hS31_a2
  have hS35_a8 : mKd S35 a8 = 8 := by rw [eS35]; exact hS31_a8
  have hS35_a14 : mKd S35 a14 = 8 := by rw [eS35]; exact hS31_a14
  have hS35_a20 : mKd S35 a20 = 8 := by rw [eS35]; exact hS31_a20
  have hS35_a26 : mKd S35 a26 = 8 := by rw [eS35]; exact hS31_a26
  have hS35_a32 : mKd S35 a32 = 8 := by rw [eS35]; exact hS31_new
  refine J_aload_n 0 dX6_init_52 rfl rfl ?_
  refine J_bipush (30 : Int32) dX6_init_53 (by decide) ?_
  refine J_newa (z := 0) (by decide) dX6_init_55 gA_int (fun _ => rfl) (by decide) (fun _ _ q => q) (fun S ln sl q => by simp [avT, mI, mL, mR, mNew, up1, defaultValue, newarray.typeOf]) (by decide) ?_
  obtain ⟨a38, ea38, h39⟩ := jLet_some h36; clear h36
  obtain ⟨S37, eS37, h40⟩ := jLet_some h39; clear h39
  rw [← ea38]
  refine J_topS eS37 ?_
  have lS37 : jle MX S35 S37 := by rw [eS37]; exact mNew_le _ _ _ _
  have hS37_a0 : mKd S37 a0 = 7 := kd_le lS37 hS35_a0
  have hS37_a2 : mKd S37 a2 = 8 := kd_le lS37 hS35_a2
  have hS37_a8 : mKd S37 a8 = 8 := kd_le lS37 hS35_a8
  have hS37_a14 : mKd S37 a14 = 8 := kd_le lS37 hS35_a14
  have hS37_a20 : mKd S37 a20 = 8 := kd_le lS37 hS35_a20
  have hS37_a26 : mKd S37 a26 = 8 := kd_le lS37 hS35_a26
  have hS37_a32 : mKd S37 a32 = 8 := kd_le lS37 hS35_a32
  have hS37_new : mKd S37 a38 = 8 := by rw [eS37, mKd_new, if_pos ea38]
  refine J_putAF (k := 7) (x := (some a38)) dX6_init_57 rfl gP_X6_28 hS37_a0 rfl ?_
  obtain ⟨S41, eS41, h42⟩ := jLet_some h40; clear h40
  refine J_topS eS41 ?_
  have hS41_a0 : mKd S41 a0 = 7 := by rw [eS41]; exact hS37_a0
  have hS41_a2 : mKd S41 a2 = 8 := by rw [eS41]; exact hS37_a2
  have hS41_a8 : mKd S41 a8 = 8 := by rw [eS41]; exact hS37_a8
  have hS41_a14 : mKd S41 a14 = 8 := by rw [eS41]; exact hS37_a14
  have hS41_a20 : mKd S41 a20 = 8 := by rw [eS41]; exact hS37_a20
  have hS41_a26 : mKd S41 a26 = 8 := by rw [eS41]; exact hS37_a26
  have hS41_a32 : mKd S41 a32 = 8 := by rw [eS41]; exact hS37_a32
  have hS41_a38 : mKd S41 a38 = 8 := by rw [eS41]; exact hS37_new
  refine J_aload_n 0 dX6_init_60 rfl rfl ?_
  refine J_sipush (540 : Int32) dX6_init_61 (by decide) ?_
  refine J_newa (z := 0) (by decide) dX6_init_64 gA_int (fun _ => rfl) (by decide) (fun _ _ q => q) (fun S ln sl q => by simp [avT, mI, mL, mR, mNew, up1, defaultValue, newarray.typeOf]) (by decide) ?_
  obtain ⟨a44, ea44, h45⟩ := jLet_some h42; clear h42
  obtain ⟨S43, eS43, h46⟩ := jLet_some h45; clear h45
  rw [← ea44]
  refine J_topS eS43 ?_
  have lS43 : jle MX S41 S43 := by rw [eS43]; exact mNew_le _ _ _ _
  have hS43_a0 : mKd S43 a0 = 7 := kd_le lS43 hS41_a0
  have hS43_a2 : mKd S43 a2 = 8 := kd_le lS43 hS41_a2
  have hS43_a8 : mKd S43 a8 = 8 := kd_le lS43 hS41_a8
  have hS43_a14 : mKd S43 a14 = 8 := kd_le lS43 hS41_a14
  have hS43_a20 : mKd S43 a20 = 8 := kd_le lS43 hS41_a20
  have hS43_a26 : mKd S43 a26 = 8 := kd_le lS43 hS41_a26
  have hS43_a32 : mKd S43 a32 = 8 := kd_le lS43 hS41_a32
  have hS43_a38 : mKd S43 a38 = 8 := kd_le lS43 hS41_a38
  have hS43_new : mKd S43 a44 = 8 := by rw [eS43, mKd_new, if_pos ea44]
  refine J_putAF (k := 8) (x := (some a44)) dX6_init_66 rfl gP_X6_31 hS43_a0 rfl ?_
  obtain ⟨S47, eS47, h48⟩ := jLet_some h46; clear h46
  refine J_topS eS47 ?_
  have hS47_a0 : mKd S47 a0 = 7 := by rw [eS47]; exact hS43_a0
  have hS47_a2 : mKd S47 a2 = 8 := by rw [eS47]; exact hS43_a2
  have hS47_a8 : mKd S47 a8 = 8 := by rw [eS47]; exact hS43_a8
  have hS47_a14 : mKd S47 a14 = 8 := by rw [eS47]; exact hS43_a14
  have hS47_a20 : mKd S47 a20 = 8 := by rw [eS47]; exact hS43_a20
  have hS47_a26 : mKd S47 a26 = 8 := by rw [eS47]; exact hS43_a26
  have hS47_a32 : mKd S47 a32 = 8 := by rw [eS47]; exact hS43_a32
  have hS47_a38 : mKd S47 a38 = 8 := by rw [eS47]; exact hS43_a38
  have hS47_a44 : mKd S47 a44 = 8 := by rw [eS47]; exact hS43_new
  refine J_aload_n 0 dX6_init_69 rfl rfl ?_
  refine J_sipush (540 : Int32) dX6_init_70 (by decide) ?_
  refine J_newa (z := 0) (by decide) dX6_init_73 gA_int (fun _ => rfl) (by decide) (fun _ _ q => q) (fun S ln sl q => by simp [avT, mI, mL, mR, mNew, up1, defaultValue, newarray.typeOf]) (by decide) ?_
  obtain ⟨a50, ea50, h51⟩ := jLet_some h48; clear h48
  obtain ⟨S49, eS49, h52⟩ := jLet_some h51; clear h51
  rw [← ea50]
  refine J_topS eS49 ?_
  have lS49 : jle MX S47 S49 := by rw [eS49]; exact mNew_le _ _ _ _
  have hS49_a0 : mKd S49 a0 = 7 := kd_le lS49 hS47_a0
  have hS49_a2 : mKd S49 a2 = 8 := kd_le lS49 hS47_a2
  have hS49_a8 : mKd S49 a8 = 8 := kd_le lS49 hS47_a8
  have hS49_a14 : mKd S49 a14 = 8 := kd_le lS49 hS47_a14
  have hS49_a20 : mKd S49 a20 = 8 := kd_le lS49 hS47_a20
  have hS49_a26 : mKd S49 a26 = 8 := kd_le lS49 hS47_a26
  have hS49_a32 : mKd S49 a32 = 8 := kd_le lS49 hS47_a32
  have hS49_a38 : mKd S49 a38 = 8 := kd_le lS49 hS47_a38
  have hS49_a44 : mKd S49 a44 = 8 := kd_le lS49 hS47_a44
  have hS49_new : mKd S49 a50 = 8 := by rw [eS49, mKd_new, if_pos ea50]
  refine J_putAF (k := 9) (x := (some a50)) dX6_init_75 rfl gP_X6_34 hS49_a0 rfl ?_
  obtain ⟨S53, eS53, h54⟩ := jLet_some h52; clear h52
  refine J_topS eS53 ?_
  have hS53_a0 : mKd S53 a0 = 7 := by rw [eS53]; exact hS49_a0
  have hS53_a2 : mKd S53 a2 = 8 := by rw [eS53]; exact hS49_a2
  have hS53_a8 : mKd S53 a8 = 8 := by rw [eS53]; exact hS49_a8
  have hS53_a14 : mKd S53 a14 = 8 := by rw [eS53]; exact hS49_a14
  have hS53_a20 : mKd S53 a20 = 8 := by rw [eS53]; exact hS49_a20
  have hS53_a26 : mKd S53 a26 = 8 := by rw [eS53]; exact hS49_a26
  have hS53_a32 : mKd S53 a32 = 8 := by rw [eS53]; exact hS49_a32
  have hS53_a38 : mKd S53 a38 = 8 := by rw [eS53]; exact hS49_a38
  have hS53_a44 : mKd S53 a44 = 8 := by rw [eS53]; exact hS49_a44
  have hS53_a50 : mKd S53 a50 = 8 := by rw [eS53]; exact hS49_new
  refine J_aload_n 0 dX6_init_78 rfl rfl ?_
  refine J_sipush (540 : Int32) dX6_init_79 (by decide) ?_
  refine J_newa (z := 0) (by decide) dX6_init_82 gA_int (fun _ => rfl) (by decide) (fun _ _ q => q) (fun S ln sl q => by simp [avT, mI, mL, mR, mNew, up1, defaultValue, newarray.typeOf]) (by decide) ?_
  obtain ⟨a56, ea56, h57⟩ := jLet_some h54; clear h54
  obtain ⟨S55, eS55, h58⟩ := jLet_some h57; clear h57
  rw [← ea56]
  refine J_topS eS55 ?_
  have lS55 : jle MX S53 S55 := by rw [eS55]; exact mNew_le _ _ _ _
  have hS55_a0 : mKd S55 a0 = 7 := kd_le lS55 hS53_a0
  have hS55_a2 : mKd S55 a2 = 8 := kd_le lS55 hS53_a2
  have hS55_a8 : mKd S55 a8 = 8 := kd_le lS55 hS53_a8
  have hS55_a14 : mKd S55 a14 = 8 := kd_le lS55 hS53_a14
  have hS55_a20 : mKd S55 a20 = 8 := kd_le lS55 hS53_a20
  have hS55_a26 : mKd S55 a26 = 8 := kd_le lS55 hS53_a26
  have hS55_a32 : mKd S55 a32 = 8 := kd_le lS55 hS53_a32
  have hS55_a38 : mKd S55 a38 = 8 := kd_le lS55 hS53_a38
  have hS55_a44 : mKd S55 a44 = 8 := kd_le lS55 hS53_a44
  have hS55_a50 : mKd S55 a50 = 8 := kd_le lS55 hS53_a50
  have hS55_new : mKd S55 a56 = 8 := by rw [eS55, mKd_new, if_pos ea56]
  refine J_putAF (k := 10) (x := (some a56)) dX6_init_84 rfl gP_X6_37 hS55_a0 rfl ?_
  obtain ⟨S59, eS59, h60⟩ := jLet_some h58; clear h58
  refine J_topS eS59 ?_
  have hS59_a0 : mKd S59 a0 = 7 := by rw [eS59]; exact hS55_a0
  have hS59_a2 : mKd S59 a2 = 8 := by rw [eS59]; exact hS55_a2
  have hS59_a8 : mKd S59 a8 = 8 := by rw [eS59]; exact hS55_a8
  have hS59_a14 : mKd S59 a14 = 8 := by rw [eS59]; exact hS55_a14
  have hS59_a20 : mKd S59 a20 = 8 := by rw [eS59]; exact hS55_a20
  have hS59_a26 : mKd S59 a26 = 8 := by rw [eS59]; exact hS55_a26
  have hS59_a32 : mKd S59 a32 = 8 := by rw [eS59]; exact hS55_a32
  have hS59_a38 : mKd S59 a38 = 8 := by rw [eS59]; exact hS55_a38
  have hS59_a44 : mKd S59 a44 = 8 := by rw [eS59]; exact hS55_a44
  have hS59_a50 : mKd S59 a50 = 8 := by rw [eS59]; exact hS55_a50
  have hS59_a56 : mKd S59 a56 = 8 := by rw [eS59]; exact hS55_new
  refine J_aload_n 0 dX6_init_87 rfl rfl ?_
  refine J_sipush (540 : Int32) dX6_init_88 (by decide) ?_
  refine J_newa (z := 0) (by decide) dX6_init_91 gA_int (fun _ => rfl) (by decide) (fun _ _ q => q) (fun S ln sl q => by simp [avT, mI, mL, mR, mNew, up1, defaultValue, newarray.typeOf]) (by decide) ?_
  obtain ⟨a62, ea62, h63⟩ := jLet_some h60; clear h60
  obtain ⟨S61, eS61, h64⟩ := jLet_some h63; clear h63
  rw [← ea62]
  refine J_topS eS61 ?_
  have lS61 : jle MX S59 S61 := by rw [eS61]; exact mNew_le _ _ _ _
  have hS61_a0 : mKd S61 a0 = 7 := kd_le lS61 hS59_a0
  have hS61_a2 : mKd S61 a2 = 8 := kd_le lS61 hS59_a2
  have hS61_a8 : mKd S61 a8 = 8 := kd_le lS61 hS59_a8
  have hS61_a14 : mKd S61 a14 = 8 := kd_le lS61 hS59_a14
  have hS61_a20 : mKd S61 a20 = 8 := kd_le lS61 hS59_a20
  have hS61_a26 : mKd S61 a26 = 8 := kd_le lS61 hS59_a26
  have hS61_a32 : mKd S61 a32 = 8 := kd_le lS61 hS59_a32
  have hS61_a38 : mKd S61 a38 = 8 := kd_le lS61 hS59_a38
  have hS61_a44 : mKd S61 a44 = 8 := kd_le lS61 hS59_a44
  have hS61_a50 : mKd S61 a50 = 8 := kd_le lS61 hS59_a50
  have hS61_a56 : mKd S61 a56 = 8 := kd_le lS61 hS59_a56
  have hS61_new : mKd S61 a62 = 8 := by rw [eS61, mKd_new, if_pos ea62]
  refine J_putAF (k := 11) (x := (some a62)) dX6_init_93 rfl gP_X6_40 hS61_a0 rfl ?_
  obtain ⟨S65, eS65, h66⟩ := jLet_some h64; clear h64
  refine J_topS eS65 ?_
  have hS65_a0 : mKd S65 a0 = 7 := by rw [eS65]; exact hS61_a0
  have hS65_a2 : mKd S65 a2 = 8 := by rw [eS65]; exact hS61_a2
  have hS65_a8 : mKd S65 a8 = 8 := by rw [eS65]; exact hS61_a8
  have hS65_a14 : mKd S65 a14 = 8 := by rw [eS65]; exact hS61_a14
  have hS65_a20 : mKd S65 a20 = 8 := by rw [eS65]; exact hS61_a20
  have hS65_a26 : mKd S65 a26 = 8 := by rw [eS65]; exact hS61_a26
  have hS65_a32 : mKd S65 a32 = 8 := by rw [eS65]; exact hS61_a32
  have hS65_a38 : mKd S65 a38 = 8 := by rw [eS65]; exact hS61_a38
  have hS65_a44 : mKd S65 a44 = 8 := by rw [eS65]; exact hS61_a44
  have hS65_a50 : mKd S65 a50 = 8 := by rw [eS65]; exact hS61_a50
  have hS65_a56 : mKd S65 a56 = 8 := by rw [eS65]; exact hS61_a56
  have hS65_a62 : mKd S65 a62 = 8 := by rw [eS65]; exact hS61_new
  refine J_aload_n 0 dX6_init_96 rfl rfl ?_
  refine J_bipush (60 : Int32) dX6_init_97 (by decide) ?_
  refine J_newa (z := 0) (by decide) dX6_init_99 gA_int (fun _ => rfl) (by decide) (fun _ _ q => q) (fun S ln sl q => by simp [avT, mI, mL, mR, mNew, up1, defaultValue, newarray.typeOf]) (by decide) ?_
  obtain ⟨a68, ea68, h69⟩ := jLet_some h66; clear h66
  obtain ⟨S67, eS67, h70⟩ := jLet_some h69; clear h69
  rw [← ea68]
  refine J_topS eS67 ?_
  have lS67 : jle MX S65 S67 := by rw [eS67]; exact mNew_le _ _ _ _
  have hS67_a0 : mKd S67 a0 = 7 := kd_le lS67 hS65_a0
  have hS67_a2 : mKd S67 a2 = 8 := kd_le lS67 hS65_a2
  have hS67_a8 : mKd S67 a8 = 8 := kd_le lS67 hS65_a8
  have hS67_a14 : mKd S67 a14 = 8 := kd_le lS67 hS65_a14
  have hS67_a20 : mKd S67 a20 = 8 := kd_le lS67 hS65_a20
  have hS67_a26 : mKd S67 a26 = 8 := kd_le lS67 hS65_a26
  have hS67_a32 : mKd S67 a32 = 8 := kd_le lS67 hS65_a32
  have hS67_a38 : mKd S67 a38 = 8 := kd_le lS67 hS65_a38
  have hS67_a44 : mKd S67 a44 = 8 := kd_le lS67 hS65_a44
  have hS67_a50 : mKd S67 a50 = 8 := kd_le lS67 hS65_a50
  have hS67_a56 : mKd S67 a56 = 8 := kd_le lS67 hS65_a56
  have hS67_a62 : mKd S67 a62 = 8 := kd_le lS67 hS65_a62
  have hS67_new : mKd S67 a68 = 8 := by rw [eS67, mKd_new, if_pos ea68]
  refine J_putAF (k := 17) (x := (some a68)) dX6_init_101 rfl gP_X6_43 hS67_a0 rfl ?_
  obtain ⟨S71, eS71, h72⟩ := jLet_some h70; clear h70
  refine J_topS eS71 ?_
  have hS71_a0 : mKd S71 a0 = 7 := by rw [eS71]; exact hS67_a0
  have hS71_a2 : mKd S71 a2 = 8 := by rw [eS71]; exact hS67_a2
  have hS71_a8 : mKd S71 a8 = 8 := by rw [eS71]; exact hS67_a8
  have hS71_a14 : mKd S71 a14 = 8 := by rw [eS71]; exact hS67_a14
  have hS71_a20 : mKd S71 a20 = 8 := by rw [eS71]; exact hS67_a20
  have hS71_a26 : mKd S71 a26 = 8 := by rw [eS71]; exact hS67_a26
  have hS71_a32 : mKd S71 a32 = 8 := by rw [eS71]; exact hS67_a32
  have hS71_a38 : mKd S71 a38 = 8 := by rw [eS71]; exact hS67_a38
  have hS71_a44 : mKd S71 a44 = 8 := by rw [eS71]; exact hS67_a44
  have hS71_a50 : mKd S71 a50 = 8 := by rw [eS71]; exact hS67_a50
  have hS71_a56 : mKd S71 a56 = 8 := by rw [eS71]; exact hS67_a56
  have hS71_a62 : mKd S71 a62 = 8 := by rw [eS71]; exact hS67_a62
  have hS71_a68 : mKd S71 a68 = 8 := by rw [eS71]; exact hS67_new
  refine J_aload_n 0 dX6_init_104 rfl rfl ?_
  refine J_bipush (-5 : Int32) dX6_init_105 (by decide) ?_
  refine J_putI (k := 24) dX6_init_107 gW_X6_46 hS71_a0 rfl ?_
  obtain ⟨S73, eS73, h74⟩ := jLet_some h72; clear h72
  refine J_topS eS73 ?_
  have hS73_a0 : mKd S73 a0 = 7 := by rw [eS73]; exact hS71_a0
  have hS73_a2 : mKd S73 a2 = 8 := by rw [eS73]; exact hS71_a2
  have hS73_a8 : mKd S73 a8 = 8 := by rw [eS73]; exact hS71_a8
  have hS73_a14 : mKd S73 a14 = 8 := by rw [eS73]; exact hS71_a14
  have hS73_a20 : mKd S73 a20 = 8 := by rw [eS73]; exact hS71_a20
  have hS73_a26 : mKd S73 a26 = 8 := by rw [eS73]; exact hS71_a26
  have hS73_a32 : mKd S73 a32 = 8 := by rw [eS73]; exact hS71_a32
  have hS73_a38 : mKd S73 a38 = 8 := by rw [eS73]; exact hS71_a38
  have hS73_a44 : mKd S73 a44 = 8 := by rw [eS73]; exact hS71_a44
  have hS73_a50 : mKd S73 a50 = 8 := by rw [eS73]; exact hS71_a50
  have hS73_a56 : mKd S73 a56 = 8 := by rw [eS73]; exact hS71_a56
  have hS73_a62 : mKd S73 a62 = 8 := by rw [eS73]; exact hS71_a62
  have hS73_a68 : mKd S73 a68 = 8 := by rw [eS73]; exact hS71_a68
  refine J_aload_n 0 dX6_init_110 rfl rfl ?_
  refine J_bipush (-5 : Int32) dX6_init_111 (by decide) ?_
  refine J_putI (k := 25) dX6_init_113 gW_X6_50 hS73_a0 rfl ?_
  obtain ⟨S75, eS75, h76⟩ := jLet_some h74; clear h74
  refine J_topS eS75 ?_
  have hS75_a0 : mKd S75 a0 = 7 := by rw [eS75]; exact hS73_a0
  have hS75_a2 : mKd S75 a2 = 8 := by rw [eS75]; exact hS73_a2
  have hS75_a8 : mKd S75 a8 = 8 := by rw [eS75]; exact hS73_a8
  have hS75_a14 : mKd S75 a14 = 8 := by rw [eS75]; exact hS73_a14
  have hS75_a20 : mKd S75 a20 = 8 := by rw [eS75]; exact hS73_a20
  have hS75_a26 : mKd S75 a26 = 8 := by rw [eS75]; exact hS73_a26
  have hS75_a32 : mKd S75 a32 = 8 := by rw [eS75]; exact hS73_a32
  have hS75_a38 : mKd S75 a38 = 8 := by rw [eS75]; exact hS73_a38
  have hS75_a44 : mKd S75 a44 = 8 := by rw [eS75]; exact hS73_a44
  have hS75_a50 : mKd S75 a50 = 8 := by rw [eS75]; exact hS73_a50
  have hS75_a56 : mKd S75 a56 = 8 := by rw [eS75]; exact hS73_a56
  have hS75_a62 : mKd S75 a62 = 8 := by rw [eS75]; exact hS73_a62
  have hS75_a68 : mKd S75 a68 = 8 := by rw [eS75]; exact hS73_a68
  refine J_aload_n 0 dX6_init_116 rfl rfl ?_
  refine J_ldc (35000 : Int32) dX6_init_117 gK_X6_53 ?_
  refine J_newa (z := 0) (by decide) dX6_init_119 gA_int (fun _ => rfl) (by decide) (fun _ _ q => q) (fun S ln sl q => by simp [avT, mI, mL, mR, mNew, up1, defaultValue, newarray.typeOf]) (by decide) ?_
  obtain ⟨a78, ea78, h79⟩ := jLet_some h76; clear h76
  obtain ⟨S77, eS77, h80⟩ := jLet_some h79; clear h79
  rw [← ea78]
  refine J_topS eS77 ?_
  have lS77 : jle MX S75 S77 := by rw [eS77]; exact mNew_le _ _ _ _
  have hS77_a0 : mKd S77 a0 = 7 := kd_le lS77 hS75_a0
  have hS77_a2 : mKd S77 a2 = 8 := kd_le lS77 hS75_a2
  have hS77_a8 : mKd S77 a8 = 8 := kd_le lS77 hS75_a8
  have hS77_a14 : mKd S77 a14 = 8 := kd_le lS77 hS75_a14
  have hS77_a20 : mKd S77 a20 = 8 := kd_le lS77 hS75_a20
  have hS77_a26 : mKd S77 a26 = 8 := kd_le lS77 hS75_a26
  have hS77_a32 : mKd S77 a32 = 8 := kd_le lS77 hS75_a32
  have hS77_a38 : mKd S77 a38 = 8 := kd_le lS77 hS75_a38
  have hS77_a44 : mKd S77 a44 = 8 := kd_le lS77 hS75_a44
  have hS77_a50 : mKd S77 a50 = 8 := kd_le lS77 hS75_a50
  have hS77_a56 : mKd S77 a56 = 8 := kd_le lS77 hS75_a56
  have hS77_a62 : mKd S77 a62 = 8 := kd_le lS77 hS75_a62
  have hS77_a68 : mKd S77 a68 = 8 := kd_le lS77 hS75_a68
  have hS77_new : mKd S77 a78 = 8 := by rw [eS77, mKd_new, if_pos ea78]
  refine J_putAF (k := 28) (x := (some a78)) dX6_init_121 rfl gP_X6_54 hS77_a0 rfl ?_
  obtain ⟨S81, eS81, h82⟩ := jLet_some h80; clear h80
  refine J_topS eS81 ?_
  have hS81_a0 : mKd S81 a0 = 7 := by rw [eS81]; exact hS77_a0
  have hS81_a2 : mKd S81 a2 = 8 := by rw [eS81]; exact hS77_a2
  have hS81_a8 : mKd S81 a8 = 8 := by rw [eS81]; exact hS77_a8
  have hS81_a14 : mKd S81 a14 = 8 := by rw [eS81]; exact hS77_a14
  have hS81_a20 : mKd S81 a20 = 8 := by rw [eS81]; exact hS77_a20
  have hS81_a26 : mKd S81 a26 = 8 := by rw [eS81]; exact hS77_a26
  have hS81_a32 : mKd S81 a32 = 8 := by rw [eS81]; exact hS77_a32
  have hS81_a38 : mKd S81 a38 = 8 := by rw [eS81]; exact hS77_a38
  have hS81_a44 : mKd S81 a44 = 8 := by rw [eS81]; exact hS77_a44
  have hS81_a50 : mKd S81 a50 = 8 := by rw [eS81]; exact hS77_a50
  have hS81_a56 : mKd S81 a56 = 8 := by rw [eS81]; exact hS77_a56
  have hS81_a62 : mKd S81 a62 = 8 := by rw [eS81]; exact hS77_a62
  have hS81_a68 : mKd S81 a68 = 8 := by rw [eS81]; exact hS77_a68
  have hS81_a78 : mKd S81 a78 = 8 := by rw [eS81]; exact hS77_new
  refine J_aload_n 0 dX6_init_124 rfl rfl ?_
  refine J_bipush (20 : Int32) dX6_init_125 (by decide) ?_
  refine J_newa (z := 2) (by decide) dX6_init_127 gA_boolean (fun _ => rfl) (by decide) (fun _ _ q => q) (fun S ln sl q => by simp [avT, mI, mL, mR, mNew, up1, defaultValue, newarray.typeOf]) (by decide) ?_
  obtain ⟨a84, ea84, h85⟩ := jLet_some h82; clear h82
  obtain ⟨S83, eS83, h86⟩ := jLet_some h85; clear h85
  rw [← ea84]
  refine J_topS eS83 ?_
  have lS83 : jle MX S81 S83 := by rw [eS83]; exact mNew_le _ _ _ _
  have hS83_a0 : mKd S83 a0 = 7 := kd_le lS83 hS81_a0
  have hS83_a2 : mKd S83 a2 = 8 := kd_le lS83 hS81_a2
  have hS83_a8 : mKd S83 a8 = 8 := kd_le lS83 hS81_a8
  have hS83_a14 : mKd S83 a14 = 8 := kd_le lS83 hS81_a14
  have hS83_a20 : mKd S83 a20 = 8 := kd_le lS83 hS81_a20
  have hS83_a26 : mKd S83 a26 = 8 := kd_le lS83 hS81_a26
  have hS83_a32 : mKd S83 a32 = 8 := kd_le lS83 hS81_a32
  have hS83_a38 : mKd S83 a38 = 8 := kd_le lS83 hS81_a38
  have hS83_a44 : mKd S83 a44 = 8 := kd_le lS83 hS81_a44
  have hS83_a50 : mKd S83 a50 = 8 := kd_le lS83 hS81_a50
  have hS83_a56 : mKd S83 a56 = 8 := kd_le lS83 hS81_a56
  have hS83_a62 : mKd S83 a62 = 8 := kd_le lS83 hS81_a62
  have hS83_a68 : mKd S83 a68 = 8 := kd_le lS83 hS81_a68
  have hS83_a78 : mKd S83 a78 = 8 := kd_le lS83 hS81_a78
  have hS83_new : mKd S83 a84 = 10 := by rw [eS83, mKd_new, if_pos ea84]
  refine J_putAF (k := 32) (x := (some a84)) dX6_init_129 rfl gP_X6_57 hS83_a0 rfl ?_
  obtain ⟨S87, eS87, h88⟩ := jLet_some h86; clear h86
  refine J_topS eS87 ?_
  have hS87_a0 : mKd S87 a0 = 7 := by rw [eS87]; exact hS83_a0
  have hS87_a2 : mKd S87 a2 = 8 := by rw [eS87]; exact hS83_a2
  have hS87_a8 : mKd S87 a8 = 8 := by rw [eS87]; exact hS83_a8
  have hS87_a14 : mKd S87 a14 = 8 := by rw [eS87]; exact hS83_a14
  have hS87_a20 : mKd S87 a20 = 8 := by rw [eS87]; exact hS83_a20
  have hS87_a26 : mKd S87 a26 = 8 := by rw [eS87]; exact hS83_a26
  have hS87_a32 : mKd S87 a32 = 8 := by rw [eS87]; exact hS83_a32
  have hS87_a38 : mKd S87 a38 = 8 := by rw [eS87]; exact hS83_a38
  have hS87_a44 : mKd S87 a44 = 8 := by rw [eS87]; exact hS83_a44
  have hS87_a50 : mKd S87 a50 = 8 := by rw [eS87]; exact hS83_a50
  have hS87_a56 : mKd S87 a56 = 8 := by rw [eS87]; exact hS83_a56
  have hS87_a62 : mKd S87 a62 = 8 := by rw [eS87]; exact hS83_a62
  have hS87_a68 : mKd S87 a68 = 8 := by rw [eS87]; exact hS83_a68
  have hS87_a78 : mKd S87 a78 = 8 := by rw [eS87]; exact hS83_a78
  have hS87_a84 : mKd S87 a84 = 10 := by rw [eS87]; exact hS83_new
  refine J_aload_n 0 dX6_init_132 rfl rfl ?_
  refine J_sipush (400 : Int32) dX6_init_133 (by decide) ?_
  refine J_newa (z := 1) (by decide) dX6_init_136 gA_long (fun _ => rfl) (by decide) (fun _ _ q => q) (fun S ln sl q => by simp [avT, mI, mL, mR, mNew, up1, defaultValue, newarray.typeOf]) (by decide) ?_
  obtain ⟨a90, ea90, h91⟩ := jLet_some h88; clear h88
  obtain ⟨S89, eS89, h92⟩ := jLet_some h91; clear h91
  rw [← ea90]
  refine J_topS eS89 ?_
  have lS89 : jle MX S87 S89 := by rw [eS89]; exact mNew_le _ _ _ _
  have hS89_a0 : mKd S89 a0 = 7 := kd_le lS89 hS87_a0
  have hS89_a2 : mKd S89 a2 = 8 := kd_le lS89 hS87_a2
  have hS89_a8 : mKd S89 a8 = 8 := kd_le lS89 hS87_a8
  have hS89_a14 : mKd S89 a14 = 8 := kd_le lS89 hS87_a14
  have hS89_a20 : mKd S89 a20 = 8 := kd_le lS89 hS87_a20
  have hS89_a26 : mKd S89 a26 = 8 := kd_le lS89 hS87_a26
  have hS89_a32 : mKd S89 a32 = 8 := kd_le lS89 hS87_a32
  have hS89_a38 : mKd S89 a38 = 8 := kd_le lS89 hS87_a38
  have hS89_a44 : mKd S89 a44 = 8 := kd_le lS89 hS87_a44
  have hS89_a50 : mKd S89 a50 = 8 := kd_le lS89 hS87_a50
  have hS89_a56 : mKd S89 a56 = 8 := kd_le lS89 hS87_a56
  have hS89_a62 : mKd S89 a62 = 8 := kd_le lS89 hS87_a62
  have hS89_a68 : mKd S89 a68 = 8 := kd_le lS89 hS87_a68
  have hS89_a78 : mKd S89 a78 = 8 := kd_le lS89 hS87_a78
  have hS89_a84 : mKd S89 a84 = 10 := kd_le lS89 hS87_a84
  have hS89_new : mKd S89 a90 = 9 := by rw [eS89, mKd_new, if_pos ea90]
  refine J_putAF (k := 33) (x := (some a90)) dX6_init_138 rfl gP_X6_61 hS89_a0 rfl ?_
  obtain ⟨S93, eS93, h94⟩ := jLet_some h92; clear h92
  refine J_topS eS93 ?_
  have hS93_a0 : mKd S93 a0 = 7 := by rw [eS93]; exact hS89_a0
  have hS93_a2 : mKd S93 a2 = 8 := by rw [eS93]; exact hS89_a2
  have hS93_a8 : mKd S93 a8 = 8 := by rw [eS93]; exact hS89_a8
  have hS93_a14 : mKd S93 a14 = 8 := by rw [eS93]; exact hS89_a14
  have hS93_a20 : mKd S93 a20 = 8 := by rw [eS93]; exact hS89_a20
  have hS93_a26 : mKd S93 a26 = 8 := by rw [eS93]; exact hS89_a26
  have hS93_a32 : mKd S93 a32 = 8 := by rw [eS93]; exact hS89_a32
  have hS93_a38 : mKd S93 a38 = 8 := by rw [eS93]; exact hS89_a38
  have hS93_a44 : mKd S93 a44 = 8 := by rw [eS93]; exact hS89_a44
  have hS93_a50 : mKd S93 a50 = 8 := by rw [eS93]; exact hS89_a50
  have hS93_a56 : mKd S93 a56 = 8 := by rw [eS93]; exact hS89_a56
  have hS93_a62 : mKd S93 a62 = 8 := by rw [eS93]; exact hS89_a62
  have hS93_a68 : mKd S93 a68 = 8 := by rw [eS93]; exact hS89_a68
  have hS93_a78 : mKd S93 a78 = 8 := by rw [eS93]; exact hS89_a78
  have hS93_a84 : mKd S93 a84 = 10 := by rw [eS93]; exact hS89_a84
  have hS93_a90 : mKd S93 a90 = 9 := by rw [eS93]; exact hS89_new
  refine J_aload_n 0 dX6_init_141 rfl rfl ?_
  refine J_sipush (1200 : Int32) dX6_init_142 (by decide) ?_
  refine J_newa (z := 0) (by decide) dX6_init_145 gA_int (fun _ => rfl) (by decide) (fun _ _ q => q) (fun S ln sl q => by simp [avT, mI, mL, mR, mNew, up1, defaultValue, newarray.typeOf]) (by decide) ?_
  obtain ⟨a96, ea96, h97⟩ := jLet_some h94; clear h94
  obtain ⟨S95, eS95, h98⟩ := jLet_some h97; clear h97
  rw [← ea96]
  refine J_topS eS95 ?_
  have lS95 : jle MX S93 S95 := by rw [eS95]; exact mNew_le _ _ _ _
  have hS95_a0 : mKd S95 a0 = 7 := kd_le lS95 hS93_a0
  have hS95_a2 : mKd S95 a2 = 8 := kd_le lS95 hS93_a2
  have hS95_a8 : mKd S95 a8 = 8 := kd_le lS95 hS93_a8
  have hS95_a14 : mKd S95 a14 = 8 := kd_le lS95 hS93_a14
  have hS95_a20 : mKd S95 a20 = 8 := kd_le lS95 hS93_a20
  have hS95_a26 : mKd S95 a26 = 8 := kd_le lS95 hS93_a26
  have hS95_a32 : mKd S95 a32 = 8 := kd_le lS95 hS93_a32
  have hS95_a38 : mKd S95 a38 = 8 := kd_le lS95 hS93_a38
  have hS95_a44 : mKd S95 a44 = 8 := kd_le lS95 hS93_a44
  have hS95_a50 : mKd S95 a50 = 8 := kd_le lS95 hS93_a50
  have hS95_a56 : mKd S95 a56 = 8 := kd_le lS95 hS93_a56
  have hS95_a62 : mKd S95 a62 = 8 := kd_le lS95 hS93_a62
  have hS95_a68 : mKd S95 a68 = 8 := kd_le lS95 hS93_a68
  have hS95_a78 : mKd S95 a78 = 8 := kd_le lS95 hS93_a78
  have hS95_a84 : mKd S95 a84 = 10 := kd_le lS95 hS93_a84
  have hS95_a90 : mKd S95 a90 = 9 := kd_le lS95 hS93_a90
  have hS95_new : mKd S95 a96 = 8 := by rw [eS95, mKd_new, if_pos ea96]
  refine J_putAF (k := 35) (x := (some a96)) dX6_init_147 rfl gP_X6_65 hS95_a0 rfl ?_
  obtain ⟨S99, eS99, h100⟩ := jLet_some h98; clear h98
  refine J_topS eS99 ?_
  have hS99_a0 : mKd S99 a0 = 7 := by rw [eS99]; exact hS95_a0
  have hS99_a2 : mKd S99 a2 = 8 := by rw [eS99]; exact hS95_a2
  have hS99_a8 : mKd S99 a8 = 8 := by rw [eS99]; exact hS95_a8
  have hS99_a14 : mKd S99 a14 = 8 := by rw [eS99]; exact hS95_a14
  have hS99_a20 : mKd S99 a20 = 8 := by rw [eS99]; exact hS95_a20
  have hS99_a26 : mKd S99 a26 = 8 := by rw [eS99]; exact hS95_a26
  have hS99_a32 : mKd S99 a32 = 8 := by rw [eS99]; exact hS95_a32
  have hS99_a38 : mKd S99 a38 = 8 := by rw [eS99]; exact hS95_a38
  have hS99_a44 : mKd S99 a44 = 8 := by rw [eS99]; exact hS95_a44
  have hS99_a50 : mKd S99 a50 = 8 := by rw [eS99]; exact hS95_a50
  have hS99_a56 : mKd S99 a56 = 8 := by rw [eS99]; exact hS95_a56
  have hS99_a62 : mKd S99 a62 = 8 := by rw [eS99]; exact hS95_a62
  have hS99_a68 : mKd S99 a68 = 8 := by rw [eS99]; exact hS95_a68
  have hS99_a78 : mKd S99 a78 = 8 := by rw [eS99]; exact hS95_a78
  have hS99_a84 : mKd S99 a84 = 10 := by rw [eS99]; exact hS95_a84
  have hS99_a90 : mKd S99 a90 = 9 := by rw [eS99]; exact hS95_a90
  have hS99_a96 : mKd S99 a96 = 8 := by rw [eS99]; exact hS95_new
  refine J_aload_n 0 dX6_init_150 rfl rfl ?_
  refine J_sipush (200 : Int32) dX6_init_151 (by decide) ?_
  refine J_newa (z := 0) (by decide) dX6_init_154 gA_int (fun _ => rfl) (by decide) (fun _ _ q => q) (fun S ln sl q => by simp [avT, mI, mL, mR, mNew, up1, defaultValue, newarray.typeOf]) (by decide) ?_
  obtain ⟨a102, ea102, h103⟩ := jLet_some h100; clear h100
  obtain ⟨S101, eS101, h104⟩ := jLet_some h103; clear h103
  rw [← ea102]
  refine J_topS eS101 ?_
  have lS101 : jle MX S99 S101 := by rw [eS101]; exact mNew_le _ _ _ _
  have hS101_a0 : mKd S101 a0 = 7 := kd_le lS101 hS99_a0
  have hS101_a2 : mKd S101 a2 = 8 := kd_le lS101 hS99_a2
  have hS101_a8 : mKd S101 a8 = 8 := kd_le lS101 hS99_a8
  have hS101_a14 : mKd S101 a14 = 8 := kd_le lS101 hS99_a14
  have hS101_a20 : mKd S101 a20 = 8 := kd_le lS101 hS99_a20
  have hS101_a26 : mKd S101 a26 = 8 := kd_le lS101 hS99_a26
  have hS101_a32 : mKd S101 a32 = 8 := kd_le lS101 hS99_a32
  have hS101_a38 : mKd S101 a38 = 8 := kd_le lS101 hS99_a38
  have hS101_a44 : mKd S101 a44 = 8 := kd_le lS101 hS99_a44
  have hS101_a50 : mKd S101 a50 = 8 := kd_le lS101 hS99_a50
  have hS101_a56 : mKd S101 a56 = 8 := kd_le lS101 hS99_a56
  have hS101_a62 : mKd S101 a62 = 8 := kd_le lS101 hS99_a62
  have hS101_a68 : mKd S101 a68 = 8 := kd_le lS101 hS99_a68
  have hS101_a78 : mKd S101 a78 = 8 := kd_le lS101 hS99_a78
  have hS101_a84 : mKd S101 a84 = 10 := kd_le lS101 hS99_a84
  have hS101_a90 : mKd S101 a90 = 9 := kd_le lS101 hS99_a90
  have hS101_a96 : mKd S101 a96 = 8 := kd_le lS101 hS99_a96
  have hS101_new : mKd S101 a102 = 8 := by rw [eS101, mKd_new, if_pos ea102]
  refine J_putAF (k := 37) (x := (some a102)) dX6_init_156 rfl gP_X6_68 hS101_a0 rfl ?_
  obtain ⟨S105, eS105, h106⟩ := jLet_some h104; clear h104
  refine J_topS eS105 ?_
  have hS105_a0 : mKd S105 a0 = 7 := by rw [eS105]; exact hS101_a0
  have hS105_a2 : mKd S105 a2 = 8 := by rw [eS105]; exact hS101_a2
  have hS105_a8 : mKd S105 a8 = 8 := by rw [eS105]; exact hS101_a8
  have hS105_a14 : mKd S105 a14 = 8 := by rw [eS105]; exact hS101_a14
  have hS105_a20 : mKd S105 a20 = 8 := by rw [eS105]; exact hS101_a20
  have hS105_a26 : mKd S105 a26 = 8 := by rw [eS105]; exact hS101_a26
  have hS105_a32 : mKd S105 a32 = 8 := by rw [eS105]; exact hS101_a32
  have hS105_a38 : mKd S105 a38 = 8 := by rw [eS105]; exact hS101_a38
  have hS105_a44 : mKd S105 a44 = 8 := by rw [eS105]; exact hS101_a44
  have hS105_a50 : mKd S105 a50 = 8 := by rw [eS105]; exact hS101_a50
  have hS105_a56 : mKd S105 a56 = 8 := by rw [eS105]; exact hS101_a56
  have hS105_a62 : mKd S105 a62 = 8 := by rw [eS105]; exact hS101_a62
  have hS105_a68 : mKd S105 a68 = 8 := by rw [eS105]; exact hS101_a68
  have hS105_a78 : mKd S105 a78 = 8 := by rw [eS105]; exact hS101_a78
  have hS105_a84 : mKd S105 a84 = 10 := by rw [eS105]; exact hS101_a84
  have hS105_a90 : mKd S105 a90 = 9 := by rw [eS105]; exact hS101_a90
  have hS105_a96 : mKd S105 a96 = 8 := by rw [eS105]; exact hS101_a96
  have hS105_a102 : mKd S105 a102 = 8 := by rw [eS105]; exact hS101_new
  refine J_aload_n 0 dX6_init_159 rfl rfl ?_
  refine J_sipush (2400 : Int32) dX6_init_160 (by decide) ?_
  refine J_newa (z := 0) (by decide) dX6_init_163 gA_int (fun _ => rfl) (by decide) (fun _ _ q => q) (fun S ln sl q => by simp [avT, mI, mL, mR, mNew, up1, defaultValue, newarray.typeOf]) (by decide) ?_
  obtain ⟨a108, ea108, h109⟩ := jLet_some h106; clear h106
  obtain ⟨S107, eS107, h110⟩ := jLet_some h109; clear h109
  rw [← ea108]
  refine J_topS eS107 ?_
  have lS107 : jle MX S105 S107 := by rw [eS107]; exact mNew_le _ _ _ _
  have hS107_a0 : mKd S107 a0 = 7 := kd_le lS107 hS105_a0
  have hS107_a2 : mKd S107 a2 = 8 := kd_le lS107 hS105_a2
  have hS107_a8 : mKd S107 a8 = 8 := kd_le lS107 hS105_a8
  have hS107_a14 : mKd S107 a14 = 8 := kd_le lS107 hS105_a14
  have hS107_a20 : mKd S107 a20 = 8 := kd_le lS107 hS105_a20
  have hS107_a26 : mKd S107 a26 = 8 := kd_le lS107 hS105_a26
  have hS107_a32 : mKd S107 a32 = 8 := kd_le lS107 hS105_a32
  have hS107_a38 : mKd S107 a38 = 8 := kd_le lS107 hS105_a38
  have hS107_a44 : mKd S107 a44 = 8 := kd_le lS107 hS105_a44
  have hS107_a50 : mKd S107 a50 = 8 := kd_le lS107 hS105_a50
  have hS107_a56 : mKd S107 a56 = 8 := kd_le lS107 hS105_a56
  have hS107_a62 : mKd S107 a62 = 8 := kd_le lS107 hS105_a62
  have hS107_a68 : mKd S107 a68 = 8 := kd_le lS107 hS105_a68
  have hS107_a78 : mKd S107 a78 = 8 := kd_le lS107 hS105_a78
  have hS107_a84 : mKd S107 a84 = 10 := kd_le lS107 hS105_a84
  have hS107_a90 : mKd S107 a90 = 9 := kd_le lS107 hS105_a90
  have hS107_a96 : mKd S107 a96 = 8 := kd_le lS107 hS105_a96
  have hS107_a102 : mKd S107 a102 = 8 := kd_le lS107 hS105_a102
  have hS107_new : mKd S107 a108 = 8 := by rw [eS107, mKd_new, if_pos ea108]
  refine J_putAF (k := 38) (x := (some a108)) dX6_init_165 rfl gP_X6_71 hS107_a0 rfl ?_
  obtain ⟨S111, eS111, h112⟩ := jLet_some h110; clear h110
  refine J_topS eS111 ?_
  have hS111_a0 : mKd S111 a0 = 7 := by rw [eS111]; exact hS107_a0
  have hS111_a2 : mKd S111 a2 = 8 := by rw [eS111]; exact hS107_a2
  have hS111_a8 : mKd S111 a8 = 8 := by rw [eS111]; exact hS107_a8
  have hS111_a14 : mKd S111 a14 = 8 := by rw [eS111]; exact hS107_a14
  have hS111_a20 : mKd S111 a20 = 8 := by rw [eS111]; exact hS107_a20
  have hS111_a26 : mKd S111 a26 = 8 := by rw [eS111]; exact hS107_a26
  have hS111_a32 : mKd S111 a32 = 8 := by rw [eS111]; exact hS107_a32
  have hS111_a38 : mKd S111 a38 = 8 := by rw [eS111]; exact hS107_a38
  have hS111_a44 : mKd S111 a44 = 8 := by rw [eS111]; exact hS107_a44
  have hS111_a50 : mKd S111 a50 = 8 := by rw [eS111]; exact hS107_a50
  have hS111_a56 : mKd S111 a56 = 8 := by rw [eS111]; exact hS107_a56
  have hS111_a62 : mKd S111 a62 = 8 := by rw [eS111]; exact hS107_a62
  have hS111_a68 : mKd S111 a68 = 8 := by rw [eS111]; exact hS107_a68
  have hS111_a78 : mKd S111 a78 = 8 := by rw [eS111]; exact hS107_a78
  have hS111_a84 : mKd S111 a84 = 10 := by rw [eS111]; exact hS107_a84
  have hS111_a90 : mKd S111 a90 = 9 := by rw [eS111]; exact hS107_a90
  have hS111_a96 : mKd S111 a96 = 8 := by rw [eS111]; exact hS107_a96
  have hS111_a102 : mKd S111 a102 = 8 := by rw [eS111]; exact hS107_a102
  have hS111_a108 : mKd S111 a108 = 8 := by rw [eS111]; exact hS107_new
  refine J_aload_n 0 dX6_init_168 rfl rfl ?_
  refine J_sipush (2400 : Int32) dX6_init_169 (by decide) ?_
  refine J_newa (z := 2) (by decide) dX6_init_172 gA_boolean (fun _ => rfl) (by decide) (fun _ _ q => q) (fun S ln sl q => by simp [avT, mI, mL, mR, mNew, up1, defaultValue, newarray.typeOf]) (by decide) ?_
  obtain ⟨a114, ea114, h115⟩ := jLet_some h112; clear h112
  obtain ⟨S113, eS113, h116⟩ := jLet_some h115; clear h115
  rw [← ea114]
  refine J_topS eS113 ?_
  have lS113 : jle MX S111 S113 := by rw [eS113]; exact mNew_le _ _ _ _
  have hS113_a0 : mKd S113 a0 = 7 := kd_le lS113 hS111_a0
  have hS113_a2 : mKd S113 a2 = 8 := kd_le lS113 hS111_a2
  have hS113_a8 : mKd S113 a8 = 8 := kd_le lS113 hS111_a8
  have hS113_a14 : mKd S113 a14 = 8 := kd_le lS113 hS111_a14
  have hS113_a20 : mKd S113 a20 = 8 := kd_le lS113 hS111_a20
  have hS113_a26 : mKd S113 a26 = 8 := kd_le lS113 hS111_a26
  have hS113_a32 : mKd S113 a32 = 8 := kd_le lS113 hS111_a32
  have hS113_a38 : mKd S113 a38 = 8 := kd_le lS113 hS111_a38
  have hS113_a44 : mKd S113 a44 = 8 := kd_le lS113 hS111_a44
  have hS113_a50 : mKd S113 a50 = 8 := kd_le lS113 hS111_a50
  have hS113_a56 : mKd S113 a56 = 8 := kd_le lS113 hS111_a56
  have hS113_a62 : mKd S113 a62 = 8 := kd_le lS113 hS111_a62
  have hS113_a68 : mKd S113 a68 = 8 := kd_le lS113 hS111_a68
  have hS113_a78 : mKd S113 a78 = 8 := kd_le lS113 hS111_a78
  have hS113_a84 : mKd S113 a84 = 10 := kd_le lS113 hS111_a84
  have hS113_a90 : mKd S113 a90 = 9 := kd_le lS113 hS111_a90
  have hS113_a96 : mKd S113 a96 = 8 := kd_le lS113 hS111_a96
  have hS113_a102 : mKd S113 a102 = 8 := kd_le lS113 hS111_a102
  have hS113_a108 : mKd S113 a108 = 8 := kd_le lS113 hS111_a108
  have hS113_new : mKd S113 a114 = 10 := by rw [eS113, mKd_new, if_pos ea114]
  refine J_putAF (k := 39) (x := (some a114)) dX6_init_174 rfl gP_X6_74 hS113_a0 rfl ?_
  obtain ⟨S117, eS117, h118⟩ := jLet_some h116; clear h116
  refine J_topS eS117 ?_
  have hS117_a0 : mKd S117 a0 = 7 := by rw [eS117]; exact hS113_a0
  have hS117_a2 : mKd S117 a2 = 8 := by rw [eS117]; exact hS113_a2
  have hS117_a8 : mKd S117 a8 = 8 := by rw [eS117]; exact hS113_a8
  have hS117_a14 : mKd S117 a14 = 8 := by rw [eS117]; exact hS113_a14
  have hS117_a20 : mKd S117 a20 = 8 := by rw [eS117]; exact hS113_a20
  have hS117_a26 : mKd S117 a26 = 8 := by rw [eS117]; exact hS113_a26
  have hS117_a32 : mKd S117 a32 = 8 := by rw [eS117]; exact hS113_a32
  have hS117_a38 : mKd S117 a38 = 8 := by rw [eS117]; exact hS113_a38
  have hS117_a44 : mKd S117 a44 = 8 := by rw [eS117]; exact hS113_a44
  have hS117_a50 : mKd S117 a50 = 8 := by rw [eS117]; exact hS113_a50
  have hS117_a56 : mKd S117 a56 = 8 := by rw [eS117]; exact hS113_a56
  have hS117_a62 : mKd S117 a62 = 8 := by rw [eS117]; exact hS113_a62
  have hS117_a68 : mKd S117 a68 = 8 := by rw [eS117]; exact hS113_a68
  have hS117_a78 : mKd S117 a78 = 8 := by rw [eS117]; exact hS113_a78
  have hS117_a84 : mKd S117 a84 = 10 := by rw [eS117]; exact hS113_a84
  have hS117_a90 : mKd S117 a90 = 9 := by rw [eS117]; exact hS113_a90
  have hS117_a96 : mKd S117 a96 = 8 := by rw [eS117]; exact hS113_a96
  have hS117_a102 : mKd S117 a102 = 8 := by rw [eS117]; exact hS113_a102
  have hS117_a108 : mKd S117 a108 = 8 := by rw [eS117]; exact hS113_a108
  have hS117_a114 : mKd S117 a114 = 10 := by rw [eS117]; exact hS113_new
  refine J_aload_n 0 dX6_init_177 rfl rfl ?_
  refine J_sipush (2400 : Int32) dX6_init_178 (by decide) ?_
  refine J_newa (z := 0) (by decide) dX6_init_181 gA_int (fun _ => rfl) (by decide) (fun _ _ q => q) (fun S ln sl q => by simp [avT, mI, mL, mR, mNew, up1, defaultValue, newarray.typeOf]) (by decide) ?_
  obtain ⟨a120, ea120, h121⟩ := jLet_some h118; clear h118
  obtain ⟨S119, eS119, h122⟩ := jLet_some h121; clear h121
  rw [← ea120]
  refine J_topS eS119 ?_
  have lS119 : jle MX S117 S119 := by rw [eS119]; exact mNew_le _ _ _ _
  have hS119_a0 : mKd S119 a0 = 7 := kd_le lS119 hS117_a0
  have hS119_a2 : mKd S119 a2 = 8 := kd_le lS119 hS117_a2
  have hS119_a8 : mKd S119 a8 = 8 := kd_le lS119 hS117_a8
  have hS119_a14 : mKd S119 a14 = 8 := kd_le lS119 hS117_a14
  have hS119_a20 : mKd S119 a20 = 8 := kd_le lS119 hS117_a20
  have hS119_a26 : mKd S119 a26 = 8 := kd_le lS119 hS117_a26
  have hS119_a32 : mKd S119 a32 = 8 := kd_le lS119 hS117_a32
  have hS119_a38 : mKd S119 a38 = 8 := kd_le lS119 hS117_a38
  have hS119_a44 : mKd S119 a44 = 8 := kd_le lS119 hS117_a44
  have hS119_a50 : mKd S119 a50 = 8 := kd_le lS119 hS117_a50
  have hS119_a56 : mKd S119 a56 = 8 := kd_le lS119 hS117_a56
  have hS119_a62 : mKd S119 a62 = 8 := kd_le lS119 hS117_a62
  have hS119_a68 : mKd S119 a68 = 8 := kd_le lS119 hS117_a68
  have hS119_a78 : mKd S119 a78 = 8 := kd_le lS119 hS117_a78
  have hS119_a84 : mKd S119 a84 = 10 := kd_le lS119 hS117_a84
  have hS119_a90 : mKd S119 a90 = 9 := kd_le lS119 hS117_a90
  have hS119_a96 : mKd S119 a96 = 8 := kd_le lS119 hS117_a96
  have hS119_a102 : mKd S119 a102 = 8 := kd_le lS119 hS117_a102
  have hS119_a108 : mKd S119 a108 = 8 := kd_le lS119 hS117_a108
  have hS119_a114 : mKd S119 a114 = 10 := kd_le lS119 hS117_a114
  have hS119_new : mKd S119 a120 = 8 := by rw [eS119, mKd_new, if_pos ea120]
  refine J_putAF (k := 40) (x := (some a120)) dX6_init_183 rfl gP_X6_77 hS119_a0 rfl ?_
  obtain ⟨S123, eS123, h124⟩ := jLet_some h122; clear h122
  refine J_topS eS123 ?_
  have hS123_a0 : mKd S123 a0 = 7 := by rw [eS123]; exact hS119_a0
  have hS123_a2 : mKd S123 a2 = 8 := by rw [eS123]; exact hS119_a2
  have hS123_a8 : mKd S123 a8 = 8 := by rw [eS123]; exact hS119_a8
  have hS123_a14 : mKd S123 a14 = 8 := by rw [eS123]; exact hS119_a14
  have hS123_a20 : mKd S123 a20 = 8 := by rw [eS123]; exact hS119_a20
  have hS123_a26 : mKd S123 a26 = 8 := by rw [eS123]; exact hS119_a26
  have hS123_a32 : mKd S123 a32 = 8 := by rw [eS123]; exact hS119_a32
  have hS123_a38 : mKd S123 a38 = 8 := by rw [eS123]; exact hS119_a38
  have hS123_a44 : mKd S123 a44 = 8 := by rw [eS123]; exact hS119_a44
  have hS123_a50 : mKd S123 a50 = 8 := by rw [eS123]; exact hS119_a50
  have hS123_a56 : mKd S123 a56 = 8 := by rw [eS123]; exact hS119_a56
  have hS123_a62 : mKd S123 a62 = 8 := by rw [eS123]; exact hS119_a62
  have hS123_a68 : mKd S123 a68 = 8 := by rw [eS123]; exact hS119_a68
  have hS123_a78 : mKd S123 a78 = 8 := by rw [eS123]; exact hS119_a78
  have hS123_a84 : mKd S123 a84 = 10 := by rw [eS123]; exact hS119_a84
  have hS123_a90 : mKd S123 a90 = 9 := by rw [eS123]; exact hS119_a90
  have hS123_a96 : mKd S123 a96 = 8 := by rw [eS123]; exact hS119_a96
  have hS123_a102 : mKd S123 a102 = 8 := by rw [eS123]; exact hS119_a102
  have hS123_a108 : mKd S123 a108 = 8 := by rw [eS123]; exact hS119_a108
  have hS123_a114 : mKd S123 a114 = 10 := by rw [eS123]; exact hS119_a114
  have hS123_a120 : mKd S123 a120 = 8 := by rw [eS123]; exact hS119_new
  refine J_aload_n 0 dX6_init_186 rfl rfl ?_
  refine J_sipush (200 : Int32) dX6_init_187 (by decide) ?_
  refine J_newa (z := 0) (by decide) dX6_init_190 gA_int (fun _ => rfl) (by decide) (fun _ _ q => q) (fun S ln sl q => by simp [avT, mI, mL, mR, mNew, up1, defaultValue, newarray.typeOf]) (by decide) ?_
  obtain ⟨a126, ea126, h127⟩ := jLet_some h124; clear h124
  obtain ⟨S125, eS125, h128⟩ := jLet_some h127; clear h127
  rw [← ea126]
  refine J_topS eS125 ?_
  have lS125 : jle MX S123 S125 := by rw [eS125]; exact mNew_le _ _ _ _
  have hS125_a0 : mKd S125 a0 = 7 := kd_le lS125 hS123_a0
  have hS125_a2 : mKd S125 a2 = 8 := kd_le lS125 hS123_a2
  have hS125_a8 : mKd S125 a8 = 8 := kd_le lS125 hS123_a8
  have hS125_a14 : mKd S125 a14 = 8 := kd_le lS125 hS123_a14
  have hS125_a20 : mKd S125 a20 = 8 := kd_le lS125 hS123_a20
  have hS125_a26 : mKd S125 a26 = 8 := kd_le lS125 hS123_a26
  have hS125_a32 : mKd S125 a32 = 8 := kd_le lS125 hS123_a32
  have hS125_a38 : mKd S125 a38 = 8 := kd_le lS125 hS123_a38
  have hS125_a44 : mKd S125 a44 = 8 := kd_le lS125 hS123_a44
  have hS125_a50 : mKd S125 a50 = 8 := kd_le lS125 hS123_a50
  have hS125_a56 : mKd S125 a56 = 8 := kd_le lS125 hS123_a56
  have hS125_a62 : mKd S125 a62 = 8 := kd_le lS125 hS123_a62
  have hS125_a68 : mKd S125 a68 = 8 := kd_le lS125 hS123_a68
  have hS125_a78 : mKd S125 a78 = 8 := kd_le lS125 hS123_a78
  have hS125_a84 : mKd S125 a84 = 10 := kd_le lS125 hS123_a84
  have hS125_a90 : mKd S125 a90 = 9 := kd_le lS125 hS123_a90
  have hS125_a96 : mKd S125 a96 = 8 := kd_le lS125 hS123_a96
  have hS125_a102 : mKd S125 a102 = 8 := kd_le lS125 hS123_a102
  have hS125_a108 : mKd S125 a108 = 8 := kd_le lS125 hS123_a108
  have hS125_a114 : mKd S125 a114 = 10 := kd_le lS125 hS123_a114
  have hS125_a120 : mKd S125 a120 = 8 := kd_le lS125 hS123_a120
  have hS125_new : mKd S125 a126 = 8 := by rw [eS125, mKd_new, if_pos ea126]
  refine J_putAF (k := 41) (x := (some a126)) dX6_init_192 rfl gP_X6_80 hS125_a0 rfl ?_
  obtain ⟨S129, eS129, h130⟩ := jLet_some h128; clear h128
  refine J_topS eS129 ?_
  have hS129_a0 : mKd S129 a0 = 7 := by rw [eS129]; exact hS125_a0
  have hS129_a2 : mKd S129 a2 = 8 := by rw [eS129]; exact hS125_a2
  have hS129_a8 : mKd S129 a8 = 8 := by rw [eS129]; exact hS125_a8
  have hS129_a14 : mKd S129 a14 = 8 := by rw [eS129]; exact hS125_a14
  have hS129_a20 : mKd S129 a20 = 8 := by rw [eS129]; exact hS125_a20
  have hS129_a26 : mKd S129 a26 = 8 := by rw [eS129]; exact hS125_a26
  have hS129_a32 : mKd S129 a32 = 8 := by rw [eS129]; exact hS125_a32
  have hS129_a38 : mKd S129 a38 = 8 := by rw [eS129]; exact hS125_a38
  have hS129_a44 : mKd S129 a44 = 8 := by rw [eS129]; exact hS125_a44
  have hS129_a50 : mKd S129 a50 = 8 := by rw [eS129]; exact hS125_a50
  have hS129_a56 : mKd S129 a56 = 8 := by rw [eS129]; exact hS125_a56
  have hS129_a62 : mKd S129 a62 = 8 := by rw [eS129]; exact hS125_a62
  have hS129_a68 : mKd S129 a68 = 8 := by rw [eS129]; exact hS125_a68
  have hS129_a78 : mKd S129 a78 = 8 := by rw [eS129]; exact hS125_a78
  have hS129_a84 : mKd S129 a84 = 10 := by rw [eS129]; exact hS125_a84
  have hS129_a90 : mKd S129 a90 = 9 := by rw [eS129]; exact hS125_a90
  have hS129_a96 : mKd S129 a96 = 8 := by rw [eS129]; exact hS125_a96
  have hS129_a102 : mKd S129 a102 = 8 := by rw [eS129]; exact hS125_a102
  have hS129_a108 : mKd S129 a108 = 8 := by rw [eS129]; exact hS125_a108
  have hS129_a114 : mKd S129 a114 = 10 := by rw [eS129]; exact hS125_a114
  have hS129_a120 : mKd S129 a120 = 8 := by rw [eS129]; exact hS125_a120
  have hS129_a126 : mKd S129 a126 = 8 := by rw [eS129]; exact hS125_new
  refine J_aload_n 0 dX6_init_195 rfl rfl ?_
  refine J_bipush (12 : Int32) dX6_init_196 (by decide) ?_
  refine J_newa (z := 0) (by decide) dX6_init_198 gA_int (fun _ => rfl) (by decide) (fun _ _ q => q) (fun S ln sl q => by simp [avT, mI, mL, mR, mNew, up1, defaultValue, newarray.typeOf]) (by decide) ?_
  obtain ⟨a132, ea132, h133⟩ := jLet_some h130; clear h130
  obtain ⟨S131, eS131, h134⟩ := jLet_some h133; clear h133
  rw [← ea132]
  refine J_topS eS131 ?_
  have lS131 : jle MX S129 S131 := by rw [eS131]; exact mNew_le _ _ _ _
  have hS131_a0 : mKd S131 a0 = 7 := kd_le lS131 hS129_a0
  have hS131_a2 : mKd S131 a2 = 8 := kd_le lS131 hS129_a2
  have hS131_a8 : mKd S131 a8 = 8 := kd_le lS131 hS129_a8
  have hS131_a14 : mKd S131 a14 = 8 := kd_le lS131 hS129_a14
  have hS131_a20 : mKd S131 a20 = 8 := kd_le lS131 hS129_a20
  have hS131_a26 : mKd S131 a26 = 8 := kd_le lS131 hS129_a26
  have hS131_a32 : mKd S131 a32 = 8 := kd_le lS131 hS129_a32
  have hS131_a38 : mKd S131 a38 = 8 := kd_le lS131 hS129_a38
  have hS131_a44 : mKd S131 a44 = 8 := kd_le lS131 hS129_a44
  have hS131_a50 : mKd S131 a50 = 8 := kd_le lS131 hS129_a50
  have hS131_a56 : mKd S131 a56 = 8 := kd_le lS131 hS129_a56
  have hS131_a62 : mKd S131 a62 = 8 := kd_le lS131 hS129_a62
  have hS131_a68 : mKd S131 a68 = 8 := kd_le lS131 hS129_a68
  have hS131_a78 : mKd S131 a78 = 8 := kd_le lS131 hS129_a78
  have hS131_a84 : mKd S131 a84 = 10 := kd_le lS131 hS129_a84
  have hS131_a90 : mKd S131 a90 = 9 := kd_le lS131 hS129_a90
  have hS131_a96 : mKd S131 a96 = 8 := kd_le lS131 hS129_a96
  have hS131_a102 : mKd S131 a102 = 8 := kd_le lS131 hS129_a102
  have hS131_a108 : mKd S131 a108 = 8 := kd_le lS131 hS129_a108
  have hS131_a114 : mKd S131 a114 = 10 := kd_le lS131 hS129_a114
  have hS131_a120 : mKd S131 a120 = 8 := kd_le lS131 hS129_a120
  have hS131_a126 : mKd S131 a126 = 8 := kd_le lS131 hS129_a126
  have hS131_new : mKd S131 a132 = 8 := by rw [eS131, mKd_new, if_pos ea132]
  refine J_putAF (k := 43) (x := (some a132)) dX6_init_200 rfl gP_X6_83 hS131_a0 rfl ?_
  obtain ⟨S135, eS135, h136⟩ := jLet_some h134; clear h134
  refine J_topS eS135 ?_
  have hS135_a0 : mKd S135 a0 = 7 := by rw [eS135]; exact hS131_a0
  have hS135_a2 : mKd S135 a2 = 8 := by rw [eS135]; exact hS131_a2
  have hS135_a8 : mKd S135 a8 = 8 := by rw [eS135]; exact hS131_a8
  have hS135_a14 : mKd S135 a14 = 8 := by rw [eS135]; exact hS131_a14
  have hS135_a20 : mKd S135 a20 = 8 := by rw [eS135]; exact hS131_a20
  have hS135_a26 : mKd S135 a26 = 8 := by rw [eS135]; exact hS131_a26
  have hS135_a32 : mKd S135 a32 = 8 := by rw [eS135]; exact hS131_a32
  have hS135_a38 : mKd S135 a38 = 8 := by rw [eS135]; exact hS131_a38
  have hS135_a44 : mKd S135 a44 = 8 := by rw [eS135]; exact hS131_a44
  have hS135_a50 : mKd S135 a50 = 8 := by rw [eS135]; exact hS131_a50
  have hS135_a56 : mKd S135 a56 = 8 := by rw [eS135]; exact hS131_a56
  have hS135_a62 : mKd S135 a62 = 8 := by rw [eS135]; exact hS131_a62
  have hS135_a68 : mKd S135 a68 = 8 := by rw [eS135]; exact hS131_a68
  have hS135_a78 : mKd S135 a78 = 8 := by rw [eS135]; exact hS131_a78
  have hS135_a84 : mKd S135 a84 = 10 := by rw [eS135]; exact hS131_a84
  have hS135_a90 : mKd S135 a90 = 9 := by rw [eS135]; exact hS131_a90
  have hS135_a96 : mKd S135 a96 = 8 := by rw [eS135]; exact hS131_a96
  have hS135_a102 : mKd S135 a102 = 8 := by rw [eS135]; exact hS131_a102
  have hS135_a108 : mKd S135 a108 = 8 := by rw [eS135]; exact hS131_a108
  have hS135_a114 : mKd S135 a114 = 10 := by rw [eS135]; exact hS131_a114
  have hS135_a120 : mKd S135 a120 = 8 := by rw [eS135]; exact hS131_a120
  have hS135_a126 : mKd S135 a126 = 8 := by rw [eS135]; exact hS131_a126
  have hS135_a132 : mKd S135 a132 = 8 := by rw [eS135]; exact hS131_new
  refine J_aload_n 0 dX6_init_203 rfl rfl ?_
  refine J_iconst (4 : Int32) dX6_init_204 (by decide) ?_
  refine J_newa (z := 0) (by decide) dX6_init_205 gA_int (fun _ => rfl) (by decide) (fun _ _ q => q) (fun S ln sl q => by simp [avT, mI, mL, mR, mNew, up1, defaultValue, newarray.typeOf]) (by decide) ?_
  obtain ⟨a138, ea138, h139⟩ := jLet_some h136; clear h136
  obtain ⟨S137, eS137, h140⟩ := jLet_some h139; clear h139
  rw [← ea138]
  refine J_topS eS137 ?_
  have lS137 : jle MX S135 S137 := by rw [eS137]; exact mNew_le _ _ _ _
  have hS137_a0 : mKd S137 a0 = 7 := kd_le lS137 hS135_a0
  have hS137_a2 : mKd S137 a2 = 8 := kd_le lS137 hS135_a2
  have hS137_a8 : mKd S137 a8 = 8 := kd_le lS137 hS135_a8
  have hS137_a14 : mKd S137 a14 = 8 := kd_le lS137 hS135_a14
  have hS137_a20 : mKd S137 a20 = 8 := kd_le lS137 hS135_a20
  have hS137_a26 : mKd S137 a26 = 8 := kd_le lS137 hS135_a26
  have hS137_a32 : mKd S137 a32 = 8 := kd_le lS137 hS135_a32
  have hS137_a38 : mKd S137 a38 = 8 := kd_le lS137 hS135_a38
  have hS137_a44 : mKd S137 a44 = 8 := kd_le lS137 hS135_a44
  have hS137_a50 : mKd S137 a50 = 8 := kd_le lS137 hS135_a50
  have hS137_a56 : mKd S137 a56 = 8 := kd_le lS137 hS135_a56
  have hS137_a62 : mKd S137 a62 = 8 := kd_le lS137 hS135_a62
  have hS137_a68 : mKd S137 a68 = 8 := kd_le lS137 hS135_a68
  have hS137_a78 : mKd S137 a78 = 8 := kd_le lS137 hS135_a78
  have hS137_a84 : mKd S137 a84 = 10 := kd_le lS137 hS135_a84
  have hS137_a90 : mKd S137 a90 = 9 := kd_le lS137 hS135_a90
  have hS137_a96 : mKd S137 a96 = 8 := kd_le lS137 hS135_a96
  have hS137_a102 : mKd S137 a102 = 8 := kd_le lS137 hS135_a102
  have hS137_a108 : mKd S137 a108 = 8 := kd_le lS137 hS135_a108
  have hS137_a114 : mKd S137 a114 = 10 := kd_le lS137 hS135_a114
  have hS137_a120 : mKd S137 a120 = 8 := kd_le lS137 hS135_a120
  have hS137_a126 : mKd S137 a126 = 8 := kd_le lS137 hS135_a126
  have hS137_a132 : mKd S137 a132 = 8 := kd_le lS137 hS135_a132
  have hS137_new : mKd S137 a138 = 8 := by rw [eS137, mKd_new, if_pos ea138]
  refine J_putAF (k := 44) (x := (some a138)) dX6_init_207 rfl gP_X6_86 hS137_a0 rfl ?_
  obtain ⟨S141, eS141, h142⟩ := jLet_some h140; clear h140
  refine J_topS eS141 ?_
  have hS141_a0 : mKd S141 a0 = 7 := by rw [eS141]; exact hS137_a0
  have hS141_a2 : mKd S141 a2 = 8 := by rw [eS141]; exact hS137_a2
  have hS141_a8 : mKd S141 a8 = 8 := by rw [eS141]; exact hS137_a8
  have hS141_a14 : mKd S141 a14 = 8 := by rw [eS141]; exact hS137_a14
  have hS141_a20 : mKd S141 a20 = 8 := by rw [eS141]; exact hS137_a20
  have hS141_a26 : mKd S141 a26 = 8 := by rw [eS141]; exact hS137_a26
  have hS141_a32 : mKd S141 a32 = 8 := by rw [eS141]; exact hS137_a32
  have hS141_a38 : mKd S141 a38 = 8 := by rw [eS141]; exact hS137_a38
  have hS141_a44 : mKd S141 a44 = 8 := by rw [eS141]; exact hS137_a44
  have hS141_a50 : mKd S141 a50 = 8 := by rw [eS141]; exact hS137_a50
  have hS141_a56 : mKd S141 a56 = 8 := by rw [eS141]; exact hS137_a56
  have hS141_a62 : mKd S141 a62 = 8 := by rw [eS141]; exact hS137_a62
  have hS141_a68 : mKd S141 a68 = 8 := by rw [eS141]; exact hS137_a68
  have hS141_a78 : mKd S141 a78 = 8 := by rw [eS141]; exact hS137_a78
  have hS141_a84 : mKd S141 a84 = 10 := by rw [eS141]; exact hS137_a84
  have hS141_a90 : mKd S141 a90 = 9 := by rw [eS141]; exact hS137_a90
  have hS141_a96 : mKd S141 a96 = 8 := by rw [eS141]; exact hS137_a96
  have hS141_a102 : mKd S141 a102 = 8 := by rw [eS141]; exact hS137_a102
  have hS141_a108 : mKd S141 a108 = 8 := by rw [eS141]; exact hS137_a108
  have hS141_a114 : mKd S141 a114 = 10 := by rw [eS141]; exact hS137_a114
  have hS141_a120 : mKd S141 a120 = 8 := by rw [eS141]; exact hS137_a120
  have hS141_a126 : mKd S141 a126 = 8 := by rw [eS141]; exact hS137_a126
  have hS141_a132 : mKd S141 a132 = 8 := by rw [eS141]; exact hS137_a132
  have hS141_a138 : mKd S141 a138 = 8 := by rw [eS141]; exact hS137_new
  have hw := Option.some.inj h142; subst hw
  exact J_vret rfl dX6_init_210
