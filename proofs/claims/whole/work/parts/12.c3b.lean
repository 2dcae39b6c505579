def c_X3_multiply_L53 : Nat → Mem → Nat → Option Nat → Int64 → Int64 → Int32 → Int32 → Option (Int32 × Mem)
  | 0, _, _, _, _, _, _, _ => none
  | n + 1, S, a0, r1, j2, j4, i6, i7 =>
    if i7 < 0 then
      (some ((1 : Int32), S))
    else
      (bnd (ob S r1 2) fun a3 =>
      bnd (c_X5_digitAt j4 (mI S a3 2) i7) fun i5_ =>
      jLet ((i6 - (1 : Int32))) fun i7_ =>
      c_X3_multiply_L77 (c_X3_multiply_L53 n) bigN S a0 (some a3) j2 j4 i6 i7 i5_ i7_)
set_option maxRecDepth 100000 in
set_option maxHeartbeats 4000000 in
theorem t_X3_multiply_L53 {w : (Int32 × Mem)} (n : Nat) : ∀ (S : Mem) (a0 : Nat) (r1 : Option Nat) (j2 : Int64) (j4 : Int64) (i6 : Int32) (i7 : Int32), (mKd S a0 = 4) → c_X3_multiply_L53 n S a0 r1 j2 j4 i6 i7 = some w → J MX yX3_multiply cX3_multiply 11 (some .boolean) 5 158 53 [(0, .ref a0), (1, va_rf r1), (2, .long j2), (4, .long j4), (6, .int i6), (7, .int i7)] [] S (some (.int w.1)) w.2 := by
  induction n with
  | zero => intro S a0 r1 j2 j4 i6 i7 ha h; cases h
  | succ n lh =>
    intro S a0 r1 j2 j4 i6 i7 ha h
    refine J_iload 5 dX3_multiply_53 rfl ?_
    refine J_if_lt 177 dX3_multiply_55 (by decide) h (fun c1 h2 => ?_) (fun c1 h2 => ?_)
    · clear h
      refine J_iconst (1 : Int32) dX3_multiply_177 (by decide) ?_
      have hw := Option.some.inj h2; subst hw
      exact J_zret rfl (by decide) dX3_multiply_178
    · clear h
      refine J_lload 3 dX3_multiply_58 rfl ?_
      refine J_aload_nq 1 dX3_multiply_60 rfl rfl ?_
      obtain ⟨a3, ea3, ka3, h4⟩ := ob_some h2; clear h2
      subst ea3
      refine J_lvst (lv' := [(0, .ref a0), (1, .ref a3), (2, .long j2), (4, .long j4), (6, .int i6), (7, .int i7)]) (st' := [.ref a3, .long j4]) rfl rfl ?_
      refine J_get (k := 2) (v := .int (mI S a3 2)) dX3_multiply_61 gF_X3_95 ka3 rfl ?_
      refine J_iload 5 dX3_multiply_64 rfl ?_
      obtain ⟨i5_, ei5_, h6⟩ := bnd_some h4; clear h4
      refine J_callSN (As := [.long j4, .int (mI S a3 2), .int i7]) (rest := []) (st' := [.int i5_]) (t_X5_digitAt ei5_) gC_X5_digitAt gM_X3_119 rfl (by decide) (by decide) rfl rfl (Nat.le_of_ble_eq_true rfl) dX3_multiply_66 ?_
      refine J_istore dX3_multiply_69 (by decide) [1, 2, 3, 4, 5, 6, 0] (lv' := [(0, .ref a0), (1, .ref a3), (2, .long j2), (4, .long j4), (6, .int i6), (7, .int i7), (8, .int i5_)]) rfl ?_
      refine J_iload 4 dX3_multiply_71 rfl ?_
      refine J_iconst (1 : Int32) dX3_multiply_73 (by decide) ?_
      refine J_isub dX3_multiply_74 ?_
      obtain ⟨i7_, ei7_, h8⟩ := jLet_some h6; clear h6
      refine J_topI ei7_ ?_
      refine J_istore dX3_multiply_75 (by decide) [1, 2, 3, 4, 5, 6, 7, 0] (lv' := [(0, .ref a0), (1, .ref a3), (2, .long j2), (4, .long j4), (6, .int i6), (7, .int i7), (8, .int i5_), (9, .int i7_)]) rfl ?_
      exact t_X3_multiply_L77 lh bigN S a0 (some a3) j2 j4 i6 i7 i5_ i7_ ha h8
def c_X3_multiply (S : Mem) (a0 : Nat) (r1 : Option Nat) (j2 : Int64) : Option (Int32 × Mem) :=
  bnd (ob S r1 2) fun a1 =>
  bnd (c_X1_sum S a1) fun j3_ =>
  bnd (c_X5_digitCount j2 (mI S a1 2)) fun i5_ =>
  bnd (ob S (mR S a0 0) 3) fun a7 =>
  bnd (c_X2_open S a7 (mI S a1 2) j3_ j2) fun S9 =>
  bnd2 (c_X3_clear S9 a0 (some a1)) fun i11_ S12 =>
  if i11_ = 0 then
    (some ((0 : Int32), S12))
  else
    (bnd (c_X5_digitCount j3_ (mI S12 a1 2)) fun i16_ =>
    jLet ((i16_ - (1 : Int32))) fun i18_ =>
    c_X3_multiply_L53 bigN S12 a0 (some a1) j2 j3_ i5_ i18_)
set_option maxRecDepth 100000 in
set_option maxHeartbeats 4000000 in
theorem t_X3_multiply {S : Mem} {a0 : Nat} {r1 : Option Nat} {j2 : Int64} {w : (Int32 × Mem)} (ha : mKd S a0 = 4) (h : c_X3_multiply S a0 r1 j2 = some w) : CT MX yX3_multiply cX3_multiply 11 (some .boolean) 5 158 [.ref a0, va_rf r1, .long j2] S (some (.int w.1)) w.2 := by
  refine CT.of (lv := [(0, .ref a0), (1, va_rf r1), (2, .long j2)]) (by decide) (by cases r1 <;> exact rfl) (by cases r1 <;> exact Nat.le_of_ble_eq_true rfl) ?_
  refine J_aload_nq 1 dX3_multiply_0 rfl rfl ?_
  obtain ⟨a1, ea1, ka1, h2⟩ := ob_some h; clear h
  subst ea1
  refine J_lvst (lv' := [(0, .ref a0), (1, .ref a1), (2, .long j2)]) (st' := [.ref a1]) rfl rfl ?_
  obtain ⟨j3_, ej3_, h4⟩ := bnd_some h2; clear h2
  refine J_callV (As := []) (rest := []) (st' := [.long j3_]) (t_X1_sum ka1 ej3_) gC_X1_sum gM_X3_127 (mRecv ka1 (by decide) jCl1) rfl (by decide) (by decide) rfl rfl (Nat.le_of_ble_eq_true rfl) dX3_multiply_1 ?_
  refine J_lstore dX3_multiply_4 (by decide) [1, 2, 3, 0] (lv' := [(0, .ref a0), (1, .ref a1), (2, .long j2), (4, .long j3_)]) rfl ?_
  refine J_lload_n 2 dX3_multiply_6 rfl rfl ?_
  refine J_aload_n 1 dX3_multiply_7 rfl rfl ?_
  refine J_get (k := 2) (v := .int (mI S a1 2)) dX3_multiply_8 gF_X3_95 ka1 rfl ?_
  obtain ⟨i5_, ei5_, h6⟩ := bnd_some h4; clear h4
  refine J_callSN (As := [.long j2, .int (mI S a1 2)]) (rest := []) (st' := [.int i5_]) (t_X5_digitCount ei5_) gC_X5_digitCount gM_X3_115 rfl (by decide) (by decide) rfl rfl (Nat.le_of_ble_eq_true rfl) dX3_multiply_11 ?_
  refine J_istore dX3_multiply_14 (by decide) [1, 2, 3, 4, 0] (lv' := [(0, .ref a0), (1, .ref a1), (2, .long j2), (4, .long j3_), (6, .int i5_)]) rfl ?_
  refine J_aload_n 0 dX3_multiply_16 rfl rfl ?_
  refine J_get (k := 0) (v := va_rf (mR S a0 0)) dX3_multiply_17 gF_X3_12 ha rfl ?_
  refine J_aload_n 1 dX3_multiply_20 rfl rfl ?_
  refine J_get (k := 2) (v := .int (mI S a1 2)) dX3_multiply_21 gF_X3_95 ka1 rfl ?_
  refine J_lload 3 dX3_multiply_24 rfl ?_
  refine J_lload_n 2 dX3_multiply_26 rfl rfl ?_
  obtain ⟨a7, ea7, ka7, h8⟩ := ob_some h6; clear h6
  rw [ea7]
  refine J_lvst (lv' := [(0, .ref a0), (1, .ref a1), (2, .long j2), (4, .long j3_), (6, .int i5_)]) (st' := [.long j2, .long j3_, .int (mI S a1 2), .ref a7]) rfl rfl ?_
  obtain ⟨S9, eS9, h10⟩ := bnd_some h8; clear h8
  have cS9 := (t_X2_open ka7 eS9)
  have lS9 : jle MX S S9 := cS9.1
  have hS9_a0 : mKd S9 a0 = 4 := kd_le lS9 ha
  have hS9_a1 : mKd S9 a1 = 2 := kd_le lS9 ka1
  have hS9_a7 : mKd S9 a7 = 3 := kd_le lS9 ka7
  refine J_callV (As := [.int (mI S a1 2), .long j3_, .long j2]) (rest := []) (st' := []) cS9 gC_X2_open gM_X3_131 (mRecv ka7 (by decide) jCl2) rfl (by decide) (by decide) rfl rfl (Nat.le_of_ble_eq_true rfl) dX3_multiply_27 ?_
  refine J_aload_n 0 dX3_multiply_30 rfl rfl ?_
  refine J_aload_n 1 dX3_multiply_31 rfl rfl ?_
  obtain ⟨i11_, S12, ei11_, h13⟩ := bnd2_some h10; clear h10
  have cS12 := (t_X3_clear hS9_a0 ei11_)
  have lS12 : jle MX S9 S12 := cS12.1
  have hS12_a0 : mKd S12 a0 = 4 := kd_le lS12 hS9_a0
  have hS12_a1 : mKd S12 a1 = 2 := kd_le lS12 hS9_a1
  have hS12_a7 : mKd S12 a7 = 3 := kd_le lS12 hS9_a7
  refine J_callV (As := [.ref a1]) (rest := []) (st' := [.int i11_]) cS12 gC_X3_clear gM_X3_135 (mRecv hS9_a0 (by decide) jCl3) rfl (by decide) (by decide) rfl rfl (Nat.le_of_ble_eq_true rfl) dX3_multiply_32 ?_
  refine J_if_ne 40 dX3_multiply_35 (by decide) h13 (fun c14 h15 => ?_) (fun c14 h15 => ?_)
  · clear h13
    refine J_iconst (0 : Int32) dX3_multiply_38 (by decide) ?_
    have hw := Option.some.inj h15; subst hw
    exact J_zret rfl (by decide) dX3_multiply_39
  · clear h13
    refine J_lload 3 dX3_multiply_40 rfl ?_
    refine J_aload_n 1 dX3_multiply_42 rfl rfl ?_
    refine J_get (k := 2) (v := .int (mI S12 a1 2)) dX3_multiply_43 gF_X3_95 hS12_a1 rfl ?_
    obtain ⟨i16_, ei16_, h17⟩ := bnd_some h15; clear h15
    refine J_callSN (As := [.long j3_, .int (mI S12 a1 2)]) (rest := []) (st' := [.int i16_]) (t_X5_digitCount ei16_) gC_X5_digitCount gM_X3_115 rfl (by decide) (by decide) rfl rfl (Nat.le_of_ble_eq_true rfl) dX3_multiply_46 ?_
    refine J_iconst (1 : Int32) dX3_multiply_49 (by decide) ?_
    refine J_isub dX3_multiply_50 ?_
    obtain ⟨i18_, ei18_, h19⟩ := jLet_some h17; clear h17
    refine J_topI ei18_ ?_
    refine J_istore dX3_multiply_51 (by decide) [1, 2, 3, 4, 5, 0] (lv' := [(0, .ref a0), (1, .ref a1), (2, .long j2), (4, .long j3_), (6, .int i5_), (7, .int i18_)]) rfl ?_
    exact t_X3_multiply_L53 bigN S12 a0 (some a1) j2 j3_ i5_ i18_ hS12_a0 h19
def c_X5_power_L5 : Nat → Int32 → Int32 → Int64 → Int32 → Option Int64
  | 0, _, _, _, _ => none
  | n + 1, i0, i1, j2, i4 =>
    if i1 ≤ i4 then
      (some j2)
    else
      (jLet ((j2 * (Int32.toInt64 i0))) fun j3_ =>
      c_X5_power_L5 n i0 i1 j3_ (i4 + (1 : Int32)))
set_option maxRecDepth 100000 in
set_option maxHeartbeats 4000000 in
theorem t_X5_power_L5 {S : Mem} {w : Int64} (n : Nat) : ∀ (i0 : Int32) (i1 : Int32) (j2 : Int64) (i4 : Int32), c_X5_power_L5 n i0 i1 j2 i4 = some w → J MX yX5_power cX5_power 5 (some .long) 0 0 5 [(0, .int i0), (1, .int i1), (2, .long j2), (4, .int i4)] [] S (some (.long w)) S := by
  induction n with
  | zero => intro i0 i1 j2 i4 h; cases h
  | succ n lh =>
    intro i0 i1 j2 i4 h
    refine J_iload 3 dX5_power_5 rfl ?_
    refine J_iload_n 1 dX5_power_7 rfl rfl ?_
    refine J_icmp_ge 22 dX5_power_8 (by decide) h (fun c1 h2 => ?_) (fun c1 h2 => ?_)
    · clear h
      refine J_lload_n 2 dX5_power_22 rfl rfl ?_
      have hw := Option.some.inj h2; subst hw
      exact J_lret rfl dX5_power_23
    · clear h
      refine J_lload_n 2 dX5_power_11 rfl rfl ?_
      refine J_iload_n 0 dX5_power_12 rfl rfl ?_
      refine J_i2l dX5_power_13 ?_
      refine J_lmul dX5_power_14 ?_
      obtain ⟨j3_, ej3_, h4⟩ := jLet_some h2; clear h2
      refine J_topL ej3_ ?_
      refine J_lstore_n dX5_power_15 rfl (by decide) [1, 2, 0, 3] (lv' := [(0, .int i0), (1, .int i1), (2, .long j3_), (4, .int i4)]) rfl ?_
      refine J_iinc 3 (1 : Int32) dX5_power_16 rfl (by decide) (by decide) [1, 2, 3, 0] (lv' := [(0, .int i0), (1, .int i1), (2, .long j3_), (4, .int (i4 + (1 : Int32)))]) rfl ?_
      refine J_goto 5 dX5_power_19 (by decide) ?_
      exact lh i0 i1 j3_ (i4 + (1 : Int32)) h4
def c_X5_power (i0 : Int32) (i1 : Int32) : Option Int64 :=
  c_X5_power_L5 bigN i0 i1 (1 : Int64) (0 : Int32)
set_option maxRecDepth 100000 in
set_option maxHeartbeats 4000000 in
theorem t_X5_power {S : Mem} {i0 : Int32} {i1 : Int32} {w : Int64} (h : c_X5_power i0 i1 = some w) : CT MX yX5_power cX5_power 5 (some .long) 0 0 [.int i0, .int i1] S (some (.long w)) S := by
  refine CT.of (lv := [(0, .int i0), (1, .int i1)]) (by decide) rfl (Nat.le_of_ble_eq_true rfl) ?_
  refine J_lconst (1 : Int64) dX5_power_0 (by decide) ?_
  refine J_lstore_n dX5_power_1 rfl (by decide) [1, 2, 0] (lv' := [(0, .int i0), (1, .int i1), (2, .long (1 : Int64))]) rfl ?_
  refine J_iconst (0 : Int32) dX5_power_2 (by decide) ?_
  refine J_istore dX5_power_3 (by decide) [1, 2, 3, 0] (lv' := [(0, .int i0), (1, .int i1), (2, .long (1 : Int64)), (4, .int (0 : Int32))]) rfl ?_
  exact t_X5_power_L5 bigN i0 i1 (1 : Int64) (0 : Int32) h
def c_X3_firstTrial (j0 : Int64) (i2 : Int32) (i3 : Int32) (i4 : Int32) : Option Int32 :=
  bnd (c_X5_power i2 i4) fun j1_ =>
  if j1_ ≤ (0 : Int64) then
    (some (0 : Int32))
  else
    (if 0 < i3 then
      (gd (nzL j1_) <|
      gd (nzL (Int32.toInt64 i3)) <|
      some (Int64.toInt32 (if (Int32.toInt64 (i2 - (1 : Int32))) < ((j0 / j1_) / (Int32.toInt64 i3)) then (Int32.toInt64 (i2 - (1 : Int32))) else ((j0 / j1_) / (Int32.toInt64 i3)))))
    else
      (some (0 : Int32)))
set_option maxRecDepth 100000 in
set_option maxHeartbeats 4000000 in
theorem t_X3_firstTrial {S : Mem} {j0 : Int64} {i2 : Int32} {i3 : Int32} {i4 : Int32} {w : Int32} (h : c_X3_firstTrial j0 i2 i3 i4 = some w) : CT MX yX3_firstTrial cX3_firstTrial 7 (some .int) 1 40 [.long j0, .int i2, .int i3, .int i4] S (some (.int w)) S := by
  refine CT.of (lv := [(0, .long j0), (2, .int i2), (3, .int i3), (4, .int i4)]) (by decide) rfl (Nat.le_of_ble_eq_true rfl) ?_
  refine J_iload_n 1 dX3_firstTrial_0 rfl rfl ?_
  refine J_iload 3 dX3_firstTrial_1 rfl ?_
  obtain ⟨j1_, ej1_, h2⟩ := bnd_some h; clear h
  refine J_callSN (As := [.int i2, .int i4]) (rest := []) (st' := [.long j1_]) (t_X5_power ej1_) gC_X5_power gM_X3_147 rfl (by decide) (by decide) rfl rfl (Nat.le_of_ble_eq_true rfl) dX3_firstTrial_3 ?_
  refine J_lstore dX3_firstTrial_6 (by decide) [1, 2, 3, 0] (lv' := [(0, .long j0), (2, .int i2), (3, .int i3), (5, .long j1_)]) rfl ?_
  refine J_lload 3 dX3_firstTrial_8 rfl ?_
  refine J_lconst (0 : Int64) dX3_firstTrial_10 (by decide) ?_
  refine J_lcmp_le 19 dX3_firstTrial_11 dX3_firstTrial_12 (by decide) h2 (fun c3 h4 => ?_) (fun c3 h4 => ?_)
  · clear h2
    refine J_iconst (0 : Int32) dX3_firstTrial_19 (by decide) ?_
    refine J_goto 38 dX3_firstTrial_20 (by decide) ?_
    have hw := Option.some.inj h4; subst hw
    exact J_iret rfl dX3_firstTrial_38
  · clear h2
    refine J_iload_n 2 dX3_firstTrial_15 rfl rfl ?_
    refine J_if_gt 23 dX3_firstTrial_16 (by decide) h4 (fun c5 h6 => ?_) (fun c5 h6 => ?_)
    · clear h4
      refine J_lload_n 0 dX3_firstTrial_23 rfl rfl ?_
      refine J_lload 3 dX3_firstTrial_24 rfl ?_
      obtain ⟨g7, h8⟩ := gd_some h6; clear h6
      refine J_ldiv dX3_firstTrial_26 (nzL_of g7) ?_
      refine J_iload_n 2 dX3_firstTrial_27 rfl rfl ?_
      refine J_i2l dX3_firstTrial_28 ?_
      obtain ⟨g9, h10⟩ := gd_some h8; clear h8
      refine J_ldiv dX3_firstTrial_29 (nzL_of g9) ?_
      refine J_iload_n 1 dX3_firstTrial_30 rfl rfl ?_
      refine J_iconst (1 : Int32) dX3_firstTrial_31 (by decide) ?_
      refine J_isub dX3_firstTrial_32 ?_
      refine J_i2l dX3_firstTrial_33 ?_
      refine J_mminL dX3_firstTrial_34 gM_X3_155 (by decide) (by decide) (Nat.le_of_ble_eq_true rfl) ?_
      refine J_l2i dX3_firstTrial_37 ?_
      have hw := Option.some.inj h10; subst hw
      exact J_iret rfl dX3_firstTrial_38
    · clear h4
      refine J_iconst (0 : Int32) dX3_firstTrial_19 (by decide) ?_
      refine J_goto 38 dX3_firstTrial_20 (by decide) ?_
      have hw := Option.some.inj h6; subst hw
      exact J_iret rfl dX3_firstTrial_38
def c_X3_takeProducts_L12 : Nat → Mem → Nat → Option Nat → Int64 → Int32 → Int32 → Int32 → Option (Int32 × Mem)
  | 0, _, _, _, _, _, _, _ => none
  | n + 1, S, a0, r1, j2, i4, i5, i6 =>
    if i6 < 0 then
      (some ((1 : Int32), S))
    else
      (bnd (ob S r1 2) fun a3 =>
      bnd (c_X5_digitAt j2 (mI S a3 2) i6) fun i5_ =>
      jLet ((i5 * i5_)) fun i7_ =>
      bnd (c_X5_digitAt (Int32.toInt64 i7_) (mI S a3 2) (1 : Int32)) fun i9_ =>
      bnd2 (c_X3_put S a0 (some a3) ((i4 + i6) + (1 : Int32)) (-i9_)) fun i11_ S12 =>
      if i11_ = 0 then
        (some ((0 : Int32), S12))
      else
        (bnd (c_X5_digitAt (Int32.toInt64 i7_) (mI S12 a3 2) (0 : Int32)) fun i16_ =>
        bnd2 (c_X3_put S12 a0 (some a3) (i4 + i6) (-i16_)) fun i18_ S19 =>
        if i18_ = 0 then
          (some ((0 : Int32), S19))
        else
          (c_X3_takeProducts_L12 n S19 a0 (some a3) j2 i4 i5 (i6 + (-1 : Int32)))))
set_option maxRecDepth 100000 in
set_option maxHeartbeats 4000000 in
theorem t_X3_takeProducts_L12 {w : (Int32 × Mem)} (n : Nat) : ∀ (S : Mem) (a0 : Nat) (r1 : Option Nat) (j2 : Int64) (i4 : Int32) (i5 : Int32) (i6 : Int32), (mKd S a0 = 4) → c_X3_takeProducts_L12 n S a0 r1 j2 i4 i5 i6 = some w → J MX yX3_takeProducts cX3_takeProducts 8 (some .boolean) 4 136 12 [(0, .ref a0), (1, va_rf r1), (2, .long j2), (4, .int i4), (5, .int i5), (6, .int i6)] [] S (some (.int w.1)) w.2 := by
  induction n with
  | zero => intro S a0 r1 j2 i4 i5 i6 ha h; cases h
  | succ n lh =>
    intro S a0 r1 j2 i4 i5 i6 ha h
    refine J_iload 5 dX3_takeProducts_12 rfl ?_
    refine J_if_lt 92 dX3_takeProducts_14 (by decide) h (fun c1 h2 => ?_) (fun c1 h2 => ?_)
    · clear h
      refine J_iconst (1 : Int32) dX3_takeProducts_92 (by decide) ?_
      have hw := Option.some.inj h2; subst hw
      exact J_zret rfl (by decide) dX3_takeProducts_93
    · clear h
      refine J_iload 4 dX3_takeProducts_17 rfl ?_
      refine J_lload_n 2 dX3_takeProducts_19 rfl rfl ?_
      refine J_aload_nq 1 dX3_takeProducts_20 rfl rfl ?_
      obtain ⟨a3, ea3, ka3, h4⟩ := ob_some h2; clear h2
      subst ea3
      refine J_lvst (lv' := [(0, .ref a0), (1, .ref a3), (2, .long j2), (4, .int i4), (5, .int i5), (6, .int i6)]) (st' := [.ref a3, .long j2, .int i5]) rfl rfl ?_
      refine J_get (k := 2) (v := .int (mI S a3 2)) dX3_takeProducts_21 gF_X3_95 ka3 rfl ?_
      refine J_iload 5 dX3_takeProducts_24 rfl ?_
      obtain ⟨i5_, ei5_, h6⟩ := bnd_some h4; clear h4
      refine J_callSN (As := [.long j2, .int (mI S a3 2), .int i6]) (rest := [.int i5]) (st' := [.int i5_, .int i5]) (t_X5_digitAt ei5_) gC_X5_digitAt gM_X3_119 rfl (by decide) (by decide) rfl rfl (Nat.le_of_ble_eq_true rfl) dX3_takeProducts_26 ?_
      refine J_imul dX3_takeProducts_29 ?_
      obtain ⟨i7_, ei7_, h8⟩ := jLet_some h6; clear h6
      refine J_topI ei7_ ?_
      refine J_istore dX3_takeProducts_30 (by decide) [1, 2, 3, 4, 5, 6, 0] (lv' := [(0, .ref a0), (1, .ref a3), (2, .long j2), (4, .int i4), (5, .int i5), (6, .int i6), (7, .int i7_)]) rfl ?_
      refine J_aload_n 0 dX3_takeProducts_32 rfl rfl ?_
      refine J_aload_n 1 dX3_takeProducts_33 rfl rfl ?_
      refine J_iload 3 dX3_takeProducts_34 rfl ?_
      refine J_iload 5 dX3_takeProducts_36 rfl ?_
      refine J_iadd dX3_takeProducts_38 ?_
      refine J_iconst (1 : Int32) dX3_takeProducts_39 (by decide) ?_
      refine J_iadd dX3_takeProducts_40 ?_
      refine J_iload 6 dX3_takeProducts_41 rfl ?_
      refine J_i2l dX3_takeProducts_43 ?_
      refine J_aload_n 1 dX3_takeProducts_44 rfl rfl ?_
      refine J_get (k := 2) (v := .int (mI S a3 2)) dX3_takeProducts_45 gF_X3_95 ka3 rfl ?_
      refine J_iconst (1 : Int32) dX3_takeProducts_48 (by decide) ?_
      obtain ⟨i9_, ei9_, h10⟩ := bnd_some h8; clear h8
      refine J_callSN (As := [.long (Int32.toInt64 i7_), .int (mI S a3 2), .int (1 : Int32)]) (rest := [.int ((i4 + i6) + (1 : Int32)), .ref a3, .ref a0]) (st' := [.int i9_, .int ((i4 + i6) + (1 : Int32)), .ref a3, .ref a0]) (t_X5_digitAt ei9_) gC_X5_digitAt gM_X3_119 rfl (by decide) (by decide) rfl rfl (Nat.le_of_ble_eq_true rfl) dX3_takeProducts_49 ?_
      refine J_ineg dX3_takeProducts_52 ?_
      obtain ⟨i11_, S12, ei11_, h13⟩ := bnd2_some h10; clear h10
      have cS12 := (t_X3_put ha ei11_)
      have lS12 : jle MX S S12 := cS12.1
      have hS12_a0 : mKd S12 a0 = 4 := kd_le lS12 ha
      have hS12_a3 : mKd S12 a3 = 2 := kd_le lS12 ka3
      refine J_callV (As := [.ref a3, .int ((i4 + i6) + (1 : Int32)), .int (-i9_)]) (rest := []) (st' := [.int i11_]) cS12 gC_X3_put gM_X3_123 (mRecv ha (by decide) jCl3) rfl (by decide) (by decide) rfl rfl (Nat.le_of_ble_eq_true rfl) dX3_takeProducts_53 ?_
      refine J_if_eq 84 dX3_takeProducts_56 (by decide) h13 (fun c14 h15 => ?_) (fun c14 h15 => ?_)
      · clear h13
        refine J_iconst (0 : Int32) dX3_takeProducts_84 (by decide) ?_
        have hw := Option.some.inj h15; subst hw
        exact J_zret rfl (by decide) dX3_takeProducts_85
      · clear h13
        refine J_aload_n 0 dX3_takeProducts_59 rfl rfl ?_
        refine J_aload_n 1 dX3_takeProducts_60 rfl rfl ?_
        refine J_iload 3 dX3_takeProducts_61 rfl ?_
        refine J_iload 5 dX3_takeProducts_63 rfl ?_
        refine J_iadd dX3_takeProducts_65 ?_
        refine J_iload 6 dX3_takeProducts_66 rfl ?_
        refine J_i2l dX3_takeProducts_68 ?_
        refine J_aload_n 1 dX3_takeProducts_69 rfl rfl ?_
        refine J_get (k := 2) (v := .int (mI S12 a3 2)) dX3_takeProducts_70 gF_X3_95 hS12_a3 rfl ?_
        refine J_iconst (0 : Int32) dX3_takeProducts_73 (by decide) ?_
        obtain ⟨i16_, ei16_, h17⟩ := bnd_some h15; clear h15
        refine J_callSN (As := [.long (Int32.toInt64 i7_), .int (mI S12 a3 2), .int (0 : Int32)]) (rest := [.int (i4 + i6), .ref a3, .ref a0]) (st' := [.int i16_, .int (i4 + i6), .ref a3, .ref a0]) (t_X5_digitAt ei16_) gC_X5_digitAt gM_X3_119 rfl (by decide) (by decide) rfl rfl (Nat.le_of_ble_eq_true rfl) dX3_takeProducts_74 ?_
        refine J_ineg dX3_takeProducts_77 ?_
        obtain ⟨i18_, S19, ei18_, h20⟩ := bnd2_some h17; clear h17
        have cS19 := (t_X3_put hS12_a0 ei18_)
        have lS19 : jle MX S12 S19 := cS19.1
        have hS19_a0 : mKd S19 a0 = 4 := kd_le lS19 hS12_a0
        have hS19_a3 : mKd S19 a3 = 2 := kd_le lS19 hS12_a3
        refine J_callV (As := [.ref a3, .int (i4 + i6), .int (-i16_)]) (rest := []) (st' := [.int i18_]) cS19 gC_X3_put gM_X3_123 (mRecv hS12_a0 (by decide) jCl3) rfl (by decide) (by decide) rfl rfl (Nat.le_of_ble_eq_true rfl) dX3_takeProducts_78 ?_
        refine J_if_ne 86 dX3_takeProducts_81 (by decide) h20 (fun c21 h22 => ?_) (fun c21 h22 => ?_)
        · clear h20
          refine J_iconst (0 : Int32) dX3_takeProducts_84 (by decide) ?_
          have hw := Option.some.inj h22; subst hw
          exact J_zret rfl (by decide) dX3_takeProducts_85
        · clear h20
          refine J_iinc 5 (-1 : Int32) dX3_takeProducts_86 rfl (by decide) (by decide) [1, 2, 3, 4, 5, 0, 6] (lv' := [(0, .ref a0), (1, .ref a3), (2, .long j2), (4, .int i4), (5, .int i5), (6, .int (i6 + (-1 : Int32))), (7, .int i7_)]) rfl ?_
          refine J_goto 12 dX3_takeProducts_89 (by decide) ?_
          refine J_lv [0, 1, 2, 3, 4, 5] rfl ?_
          exact lh S19 a0 (some a3) j2 i4 i5 (i6 + (-1 : Int32)) hS19_a0 h22
def c_X3_takeProducts (S : Mem) (a0 : Nat) (r1 : Option Nat) (j2 : Int64) (i4 : Int32) (i5 : Int32) : Option (Int32 × Mem) :=
  bnd (ob S r1 2) fun a1 =>
  bnd (c_X5_digitCount j2 (mI S a1 2)) fun i3_ =>
  jLet ((i3_ - (1 : Int32))) fun i5_ =>
  c_X3_takeProducts_L12 bigN S a0 (some a1) j2 i4 i5 i5_
set_option maxRecDepth 100000 in
set_option maxHeartbeats 4000000 in
theorem t_X3_takeProducts {S : Mem} {a0 : Nat} {r1 : Option Nat} {j2 : Int64} {i4 : Int32} {i5 : Int32} {w : (Int32 × Mem)} (ha : mKd S a0 = 4) (h : c_X3_takeProducts S a0 r1 j2 i4 i5 = some w) : CT MX yX3_takeProducts cX3_takeProducts 8 (some .boolean) 4 136 [.ref a0, va_rf r1, .long j2, .int i4, .int i5] S (some (.int w.1)) w.2 := by
  refine CT.of (lv := [(0, .ref a0), (1, va_rf r1), (2, .long j2), (4, .int i4), (5, .int i5)]) (by decide) (by cases r1 <;> exact rfl) (by cases r1 <;> exact Nat.le_of_ble_eq_true rfl) ?_
  refine J_lload_n 2 dX3_takeProducts_0 rfl rfl ?_
  refine J_aload_nq 1 dX3_takeProducts_1 rfl rfl ?_
  obtain ⟨a1, ea1, ka1, h2⟩ := ob_some h; clear h
  subst ea1
  refine J_lvst (lv' := [(0, .ref a0), (1, .ref a1), (2, .long j2), (4, .int i4), (5, .int i5)]) (st' := [.ref a1, .long j2]) rfl rfl ?_
  refine J_get (k := 2) (v := .int (mI S a1 2)) dX3_takeProducts_2 gF_X3_95 ka1 rfl ?_
  obtain ⟨i3_, ei3_, h4⟩ := bnd_some h2; clear h2
  refine J_callSN (As := [.long j2, .int (mI S a1 2)]) (rest := []) (st' := [.int i3_]) (t_X5_digitCount ei3_) gC_X5_digitCount gM_X3_115 rfl (by decide) (by decide) rfl rfl (Nat.le_of_ble_eq_true rfl) dX3_takeProducts_5 ?_
  refine J_iconst (1 : Int32) dX3_takeProducts_8 (by decide) ?_
  refine J_isub dX3_takeProducts_9 ?_
  obtain ⟨i5_, ei5_, h6⟩ := jLet_some h4; clear h4
  refine J_topI ei5_ ?_
  refine J_istore dX3_takeProducts_10 (by decide) [1, 2, 3, 4, 5, 0] (lv' := [(0, .ref a0), (1, .ref a1), (2, .long j2), (4, .int i4), (5, .int i5), (6, .int i5_)]) rfl ?_
  exact t_X3_takeProducts_L12 bigN S a0 (some a1) j2 i4 i5 i5_ ha h6
def c_X3_quotient_J144 (k40 : Mem → Nat → Option Nat → Option Nat → Int64 → Int32 → Int32 → Option (Int32 × Mem)) (S : Mem) (a0 : Nat) (r1 : Option Nat) (r2 : Option Nat) (j3 : Int64) (i5 : Int32) (i7 : Int32) (i10 : Int32) : Option (Int32 × Mem) :=
  bnd2 (c_X3_takeProducts S a0 r1 j3 i7 i10) fun i1_ S2 =>
  if i1_ = 0 then
    (some ((0 : Int32), S2))
  else
    (k40 S2 a0 r1 r2 j3 i5 (i7 + (-1 : Int32)))
set_option maxRecDepth 100000 in
set_option maxHeartbeats 4000000 in
theorem t_X3_quotient_J144 {k40 : Mem → Nat → Option Nat → Option Nat → Int64 → Int32 → Int32 → Option (Int32 × Mem)} {S : Mem} {a0 : Nat} {r1 : Option Nat} {r2 : Option Nat} {j3 : Int64} {i5 : Int32} {i7 : Int32} {i10 : Int32} {w : (Int32 × Mem)} (hk40 : ∀ (S : Mem) (a0 : Nat) (r1 : Option Nat) (r2 : Option Nat) (j3 : Int64) (i5 : Int32) (i7 : Int32), (mKd S a0 = 4) → k40 S a0 r1 r2 j3 i5 i7 = some w → J MX yX3_quotient cX3_quotient 13 (some .boolean) 5 163 40 [(0, .ref a0), (1, va_rf r1), (2, va_rf r2), (3, .long j3), (5, .int i5), (7, .int i7)] [] S (some (.int w.1)) w.2) (ha : mKd S a0 = 4) (h : c_X3_quotient_J144 k40 S a0 r1 r2 j3 i5 i7 i10 = some w) : J MX yX3_quotient cX3_quotient 13 (some .boolean) 5 163 144 [(0, .ref a0), (1, va_rf r1), (2, va_rf r2), (3, .long j3), (5, .int i5), (7, .int i7), (10, .int i10)] [] S (some (.int w.1)) w.2 := by
  refine J_aload_n 0 dX3_quotient_144 rfl rfl ?_
  refine J_aload_nq 1 dX3_quotient_145 rfl rfl ?_
  refine J_lload_n 3 dX3_quotient_146 rfl rfl ?_
  refine J_iload 5 dX3_quotient_147 rfl ?_
  refine J_iload 6 dX3_quotient_149 rfl ?_
  obtain ⟨i1_, S2, ei1_, h3⟩ := bnd2_some h; clear h
  have cS2 := (t_X3_takeProducts ha ei1_)
  have lS2 : jle MX S S2 := cS2.1
  have hS2_a0 : mKd S2 a0 = 4 := kd_le lS2 ha
  refine J_callV (As := [va_rf r1, .long j3, .int i7, .int i10]) (rest := []) (st' := [.int i1_]) cS2 gC_X3_takeProducts gM_X3_151 (mRecv ha (by decide) jCl3) rfl (by decide) (by decide) rfl rfl (Nat.le_of_ble_eq_true rfl) dX3_quotient_151 ?_
  refine J_if_ne 159 dX3_quotient_154 (by decide) h3 (fun c4 h5 => ?_) (fun c4 h5 => ?_)
  · clear h3
    refine J_iconst (0 : Int32) dX3_quotient_157 (by decide) ?_
    have hw := Option.some.inj h5; subst hw
    exact J_zret rfl (by decide) dX3_quotient_158
  · clear h3
    refine J_iinc 5 (-1 : Int32) dX3_quotient_159 rfl (by decide) (by decide) [1, 2, 3, 4, 5, 0, 6] (lv' := [(0, .ref a0), (1, va_rf r1), (2, va_rf r2), (3, .long j3), (5, .int i5), (7, .int (i7 + (-1 : Int32))), (10, .int i10)]) rfl ?_
    refine J_goto 40 dX3_quotient_162 (by decide) ?_
    refine J_lv [0, 1, 2, 3, 4, 5] rfl ?_
    exact hk40 S2 a0 r1 r2 j3 i5 (i7 + (-1 : Int32)) hS2_a0 h5
def c_X3_quotient_L108 (k40 : Mem → Nat → Option Nat → Option Nat → Int64 → Int32 → Int32 → Option (Int32 × Mem)) : Nat → Mem → Nat → Option Nat → Option Nat → Int64 → Int32 → Int32 → Int64 → Int32 → Int64 → Option (Int32 × Mem)
  | 0, _, _, _, _, _, _, _, _, _, _ => none
  | n + 1, S, a0, r1, r2, j3, i5, i7, j8, i10, j11 =>
    if i10 ≤ 0 then
      (c_X3_quotient_J144 k40 S a0 r1 r2 j3 i5 i7 i10)
    else
      (if ((Int32.toInt64 i10) * j11) ≤ j8 then
        (c_X3_quotient_J144 k40 S a0 r1 r2 j3 i5 i7 i10)
      else
        (bnd2 (c_X3_put S a0 r2 i7 (-1 : Int32)) fun i5_ S6 =>
        if i5_ = 0 then
          (some ((0 : Int32), S6))
        else
          (c_X3_quotient_L108 k40 n S6 a0 r1 r2 j3 i5 i7 j8 (i10 + (-1 : Int32)) j11)))
set_option maxRecDepth 100000 in
set_option maxHeartbeats 4000000 in
theorem t_X3_quotient_L108 {k40 : Mem → Nat → Option Nat → Option Nat → Int64 → Int32 → Int32 → Option (Int32 × Mem)} {w : (Int32 × Mem)} (hk40 : ∀ (S : Mem) (a0 : Nat) (r1 : Option Nat) (r2 : Option Nat) (j3 : Int64) (i5 : Int32) (i7 : Int32), (mKd S a0 = 4) → k40 S a0 r1 r2 j3 i5 i7 = some w → J MX yX3_quotient cX3_quotient 13 (some .boolean) 5 163 40 [(0, .ref a0), (1, va_rf r1), (2, va_rf r2), (3, .long j3), (5, .int i5), (7, .int i7)] [] S (some (.int w.1)) w.2) (n : Nat) : ∀ (S : Mem) (a0 : Nat) (r1 : Option Nat) (r2 : Option Nat) (j3 : Int64) (i5 : Int32) (i7 : Int32) (j8 : Int64) (i10 : Int32) (j11 : Int64), (mKd S a0 = 4) → c_X3_quotient_L108 k40 n S a0 r1 r2 j3 i5 i7 j8 i10 j11 = some w → J MX yX3_quotient cX3_quotient 13 (some .boolean) 5 163 108 [(0, .ref a0), (1, va_rf r1), (2, va_rf r2), (3, .long j3), (5, .int i5), (7, .int i7), (8, .long j8), (10, .int i10), (11, .long j11)] [] S (some (.int w.1)) w.2 := by
  induction n with
  | zero => intro S a0 r1 r2 j3 i5 i7 j8 i10 j11 ha h; cases h
  | succ n lh =>
    intro S a0 r1 r2 j3 i5 i7 j8 i10 j11 ha h
    refine J_iload 7 dX3_quotient_108 rfl ?_
    refine J_if_le 144 dX3_quotient_110 (by decide) h (fun c1 h2 => ?_) (fun c1 h2 => ?_)
    · clear h
      refine J_lv [0, 1, 2, 3, 4, 5, 7] rfl ?_
      exact t_X3_quotient_J144 hk40 ha h2
    · clear h
      refine J_iload 7 dX3_quotient_113 rfl ?_
      refine J_i2l dX3_quotient_115 ?_
      refine J_lload 8 dX3_quotient_116 rfl ?_
      refine J_lmul dX3_quotient_118 ?_
      refine J_lload 6 dX3_quotient_119 rfl ?_
      refine J_lcmp_le 144 dX3_quotient_121 dX3_quotient_122 (by decide) h2 (fun c3 h4 => ?_) (fun c3 h4 => ?_)
      · clear h2
        refine J_lv [0, 1, 2, 3, 4, 5, 7] rfl ?_
        exact t_X3_quotient_J144 hk40 ha h4
      · clear h2
        refine J_aload_n 0 dX3_quotient_125 rfl rfl ?_
        refine J_aload_nq 2 dX3_quotient_126 rfl rfl ?_
        refine J_iload 5 dX3_quotient_127 rfl ?_
        refine J_iconst (-1 : Int32) dX3_quotient_129 (by decide) ?_
        obtain ⟨i5_, S6, ei5_, h7⟩ := bnd2_some h4; clear h4
        have cS6 := (t_X3_put ha ei5_)
        have lS6 : jle MX S S6 := cS6.1
        have hS6_a0 : mKd S6 a0 = 4 := kd_le lS6 ha
        refine J_callV (As := [va_rf r2, .int i7, .int (-1 : Int32)]) (rest := []) (st' := [.int i5_]) cS6 gC_X3_put gM_X3_123 (mRecv ha (by decide) jCl3) rfl (by decide) (by decide) rfl rfl (Nat.le_of_ble_eq_true rfl) dX3_quotient_130 ?_
        refine J_if_ne 138 dX3_quotient_133 (by decide) h7 (fun c8 h9 => ?_) (fun c8 h9 => ?_)
        · clear h7
          refine J_iconst (0 : Int32) dX3_quotient_136 (by decide) ?_
          have hw := Option.some.inj h9; subst hw
          exact J_zret rfl (by decide) dX3_quotient_137
        · clear h7
          refine J_iinc 7 (-1 : Int32) dX3_quotient_138 rfl (by decide) (by decide) [1, 2, 3, 4, 5, 6, 7, 0, 8] (lv' := [(0, .ref a0), (1, va_rf r1), (2, va_rf r2), (3, .long j3), (5, .int i5), (7, .int i7), (8, .long j8), (10, .int (i10 + (-1 : Int32))), (11, .long j11)]) rfl ?_
          refine J_goto 108 dX3_quotient_141 (by decide) ?_
          exact lh S6 a0 r1 r2 j3 i5 i7 j8 (i10 + (-1 : Int32)) j11 hS6_a0 h9
def c_X3_quotient_L40 : Nat → Mem → Nat → Option Nat → Option Nat → Int64 → Int32 → Int32 → Option (Int32 × Mem)
  | 0, _, _, _, _, _, _, _ => none
  | n + 1, S, a0, r1, r2, j3, i5, i7 =>
    if i7 < 0 then
      (some ((1 : Int32), S))
    else
      (bnd (ob S r1 2) fun a3 =>
      bnd (c_X1_sum S a3) fun j5_ =>
      bnd (c_X5_digitAt j3 (mI S a3 2) (i5 - (1 : Int32))) fun i7_ =>
      bnd (c_X3_firstTrial j5_ (mI S a3 2) i7_ ((i7 + i5) - (1 : Int32))) fun i9_ =>
      bnd2 (c_X3_put S a0 r2 i7 i9_) fun i11_ S12 =>
      if i11_ = 0 then
        (some ((0 : Int32), S12))
      else
        (bnd (c_X5_power (mI S12 a3 2) i7) fun j16_ =>
        jLet ((j3 * j16_)) fun j18_ =>
        c_X3_quotient_L108 (c_X3_quotient_L40 n) bigN S12 a0 (some a3) r2 j3 i5 i7 j5_ i9_ j18_))
set_option maxRecDepth 100000 in
set_option maxHeartbeats 4000000 in
theorem t_X3_quotient_L40 {w : (Int32 × Mem)} (n : Nat) : ∀ (S : Mem) (a0 : Nat) (r1 : Option Nat) (r2 : Option Nat) (j3 : Int64) (i5 : Int32) (i7 : Int32), (mKd S a0 = 4) → c_X3_quotient_L40 n S a0 r1 r2 j3 i5 i7 = some w → J MX yX3_quotient cX3_quotient 13 (some .boolean) 5 163 40 [(0, .ref a0), (1, va_rf r1), (2, va_rf r2), (3, .long j3), (5, .int i5), (7, .int i7)] [] S (some (.int w.1)) w.2 := by
  induction n with
  | zero => intro S a0 r1 r2 j3 i5 i7 ha h; cases h
  | succ n lh =>
    intro S a0 r1 r2 j3 i5 i7 ha h
    refine J_iload 5 dX3_quotient_40 rfl ?_
    refine J_if_lt 165 dX3_quotient_42 (by decide) h (fun c1 h2 => ?_) (fun c1 h2 => ?_)
    · clear h
      refine J_iconst (1 : Int32) dX3_quotient_165 (by decide) ?_
      have hw := Option.some.inj h2; subst hw
      exact J_zret rfl (by decide) dX3_quotient_166
    · clear h
      refine J_aload_nq 1 dX3_quotient_45 rfl rfl ?_
      obtain ⟨a3, ea3, ka3, h4⟩ := ob_some h2; clear h2
      subst ea3
      refine J_lvst (lv' := [(0, .ref a0), (1, .ref a3), (2, va_rf r2), (3, .long j3), (5, .int i5), (7, .int i7)]) (st' := [.ref a3]) rfl rfl ?_
      obtain ⟨j5_, ej5_, h6⟩ := bnd_some h4; clear h4
      refine J_callV (As := []) (rest := []) (st' := [.long j5_]) (t_X1_sum ka3 ej5_) gC_X1_sum gM_X3_127 (mRecv ka3 (by decide) jCl1) rfl (by decide) (by decide) rfl rfl (Nat.le_of_ble_eq_true rfl) dX3_quotient_46 ?_
      refine J_lstore dX3_quotient_49 (by decide) [1, 2, 3, 4, 5, 6, 0] (lv' := [(0, .ref a0), (1, .ref a3), (2, va_rf r2), (3, .long j3), (5, .int i5), (7, .int i7), (8, .long j5_)]) rfl ?_
      refine J_lload 6 dX3_quotient_51 rfl ?_
      refine J_aload_n 1 dX3_quotient_53 rfl rfl ?_
      refine J_get (k := 2) (v := .int (mI S a3 2)) dX3_quotient_54 gF_X3_95 ka3 rfl ?_
      refine J_lload_n 3 dX3_quotient_57 rfl rfl ?_
      refine J_aload_n 1 dX3_quotient_58 rfl rfl ?_
      refine J_get (k := 2) (v := .int (mI S a3 2)) dX3_quotient_59 gF_X3_95 ka3 rfl ?_
      refine J_iload 4 dX3_quotient_62 rfl ?_
      refine J_iconst (1 : Int32) dX3_quotient_64 (by decide) ?_
      refine J_isub dX3_quotient_65 ?_
      obtain ⟨i7_, ei7_, h8⟩ := bnd_some h6; clear h6
      refine J_callSN (As := [.long j3, .int (mI S a3 2), .int (i5 - (1 : Int32))]) (rest := [.int (mI S a3 2), .long j5_]) (st' := [.int i7_, .int (mI S a3 2), .long j5_]) (t_X5_digitAt ei7_) gC_X5_digitAt gM_X3_119 rfl (by decide) (by decide) rfl rfl (Nat.le_of_ble_eq_true rfl) dX3_quotient_66 ?_
      refine J_iload 5 dX3_quotient_69 rfl ?_
      refine J_iload 4 dX3_quotient_71 rfl ?_
      refine J_iadd dX3_quotient_73 ?_
      refine J_iconst (1 : Int32) dX3_quotient_74 (by decide) ?_
      refine J_isub dX3_quotient_75 ?_
      obtain ⟨i9_, ei9_, h10⟩ := bnd_some h8; clear h8
      refine J_callS (As := [.long j5_, .int (mI S a3 2), .int i7_, .int ((i7 + i5) - (1 : Int32))]) (rest := []) (st' := [.int i9_]) (t_X3_firstTrial ei9_) gC_X3_firstTrial gM_X3_143 rfl (by decide) (by decide) rfl rfl (Nat.le_of_ble_eq_true rfl) dX3_quotient_76 ?_
      refine J_istore dX3_quotient_79 (by decide) [1, 2, 3, 4, 5, 6, 7, 0] (lv' := [(0, .ref a0), (1, .ref a3), (2, va_rf r2), (3, .long j3), (5, .int i5), (7, .int i7), (8, .long j5_), (10, .int i9_)]) rfl ?_
      refine J_aload_n 0 dX3_quotient_81 rfl rfl ?_
      refine J_aload_nq 2 dX3_quotient_82 rfl rfl ?_
      refine J_iload 5 dX3_quotient_83 rfl ?_
      refine J_iload 7 dX3_quotient_85 rfl ?_
      obtain ⟨i11_, S12, ei11_, h13⟩ := bnd2_some h10; clear h10
      have cS12 := (t_X3_put ha ei11_)
      have lS12 : jle MX S S12 := cS12.1
      have hS12_a0 : mKd S12 a0 = 4 := kd_le lS12 ha
      have hS12_a3 : mKd S12 a3 = 2 := kd_le lS12 ka3
      refine J_callV (As := [va_rf r2, .int i7, .int i9_]) (rest := []) (st' := [.int i11_]) cS12 gC_X3_put gM_X3_123 (mRecv ha (by decide) jCl3) rfl (by decide) (by decide) rfl rfl (Nat.le_of_ble_eq_true rfl) dX3_quotient_87 ?_
      refine J_if_ne 95 dX3_quotient_90 (by decide) h13 (fun c14 h15 => ?_) (fun c14 h15 => ?_)
      · clear h13
        refine J_iconst (0 : Int32) dX3_quotient_93 (by decide) ?_
        have hw := Option.some.inj h15; subst hw
        exact J_zret rfl (by decide) dX3_quotient_94
      · clear h13
        refine J_lload_n 3 dX3_quotient_95 rfl rfl ?_
        refine J_aload_n 1 dX3_quotient_96 rfl rfl ?_
        refine J_get (k := 2) (v := .int (mI S12 a3 2)) dX3_quotient_97 gF_X3_95 hS12_a3 rfl ?_
        refine J_iload 5 dX3_quotient_100 rfl ?_
        obtain ⟨j16_, ej16_, h17⟩ := bnd_some h15; clear h15
        refine J_callSN (As := [.int (mI S12 a3 2), .int i7]) (rest := [.long j3]) (st' := [.long j16_, .long j3]) (t_X5_power ej16_) gC_X5_power gM_X3_147 rfl (by decide) (by decide) rfl rfl (Nat.le_of_ble_eq_true rfl) dX3_quotient_102 ?_
        refine J_lmul dX3_quotient_105 ?_
        obtain ⟨j18_, ej18_, h19⟩ := jLet_some h17; clear h17
        refine J_topL ej18_ ?_
        refine J_lstore dX3_quotient_106 (by decide) [1, 2, 3, 4, 5, 6, 7, 8, 0] (lv' := [(0, .ref a0), (1, .ref a3), (2, va_rf r2), (3, .long j3), (5, .int i5), (7, .int i7), (8, .long j5_), (10, .int i9_), (11, .long j18_)]) rfl ?_
        exact t_X3_quotient_L108 lh bigN S12 a0 (some a3) r2 j3 i5 i7 j5_ i9_ j18_ hS12_a0 h19
def c_X3_quotient (S : Mem) (a0 : Nat) (r1 : Option Nat) (r2 : Option Nat) (j3 : Int64) : Option (Int32 × Mem) :=
  bnd (ob S r1 2) fun a1 =>
  bnd (c_X5_digitCount j3 (mI S a1 2)) fun i3_ =>
  bnd (c_X1_sum S a1) fun j5_ =>
  bnd (c_X5_digitCount j5_ (mI S a1 2)) fun i7_ =>
  jLet ((i7_ - i3_)) fun i9_ =>
  bnd2 (c_X3_clear S a0 r2) fun i11_ S12 =>
  if i11_ = 0 then
    (some ((0 : Int32), S12))
  else
    (c_X3_quotient_L40 bigN S12 a0 (some a1) r2 j3 i3_ i9_)
set_option maxRecDepth 100000 in
set_option maxHeartbeats 4000000 in
theorem t_X3_quotient {S : Mem} {a0 : Nat} {r1 : Option Nat} {r2 : Option Nat} {j3 : Int64} {w : (Int32 × Mem)} (ha : mKd S a0 = 4) (h : c_X3_quotient S a0 r1 r2 j3 = some w) : CT MX yX3_quotient cX3_quotient 13 (some .boolean) 5 163 [.ref a0, va_rf r1, va_rf r2, .long j3] S (some (.int w.1)) w.2 := by
  refine CT.of (lv := [(0, .ref a0), (1, va_rf r1), (2, va_rf r2), (3, .long j3)]) (by decide) (by cases r1 <;> cases r2 <;> exact rfl) (by cases r1 <;> cases r2 <;> exact Nat.le_of_ble_eq_true rfl) ?_
  refine J_lload_n 3 dX3_quotient_0 rfl rfl ?_
  refine J_aload_nq 1 dX3_quotient_1 rfl rfl ?_
  obtain ⟨a1, ea1, ka1, h2⟩ := ob_some h; clear h
  subst ea1
  refine J_lvst (lv' := [(0, .ref a0), (1, .ref a1), (2, va_rf r2), (3, .long j3)]) (st' := [.ref a1, .long j3]) rfl rfl ?_
  refine J_get (k := 2) (v := .int (mI S a1 2)) dX3_quotient_2 gF_X3_95 ka1 rfl ?_
  obtain ⟨i3_, ei3_, h4⟩ := bnd_some h2; clear h2
  refine J_callSN (As := [.long j3, .int (mI S a1 2)]) (rest := []) (st' := [.int i3_]) (t_X5_digitCount ei3_) gC_X5_digitCount gM_X3_115 rfl (by decide) (by decide) rfl rfl (Nat.le_of_ble_eq_true rfl) dX3_quotient_5 ?_
  refine J_istore dX3_quotient_8 (by decide) [1, 2, 3, 4, 0] (lv' := [(0, .ref a0), (1, .ref a1), (2, va_rf r2), (3, .long j3), (5, .int i3_)]) rfl ?_
  refine J_aload_n 1 dX3_quotient_10 rfl rfl ?_
  obtain ⟨j5_, ej5_, h6⟩ := bnd_some h4; clear h4
  refine J_callV (As := []) (rest := []) (st' := [.long j5_]) (t_X1_sum ka1 ej5_) gC_X1_sum gM_X3_127 (mRecv ka1 (by decide) jCl1) rfl (by decide) (by decide) rfl rfl (Nat.le_of_ble_eq_true rfl) dX3_quotient_11 ?_
  refine J_aload_n 1 dX3_quotient_14 rfl rfl ?_
  refine J_get (k := 2) (v := .int (mI S a1 2)) dX3_quotient_15 gF_X3_95 ka1 rfl ?_
  obtain ⟨i7_, ei7_, h8⟩ := bnd_some h6; clear h6
  refine J_callSN (As := [.long j5_, .int (mI S a1 2)]) (rest := []) (st' := [.int i7_]) (t_X5_digitCount ei7_) gC_X5_digitCount gM_X3_115 rfl (by decide) (by decide) rfl rfl (Nat.le_of_ble_eq_true rfl) dX3_quotient_18 ?_
  refine J_iload 4 dX3_quotient_21 rfl ?_
  refine J_isub dX3_quotient_23 ?_
  obtain ⟨i9_, ei9_, h10⟩ := jLet_some h8; clear h8
  refine J_topI ei9_ ?_
  refine J_istore dX3_quotient_24 (by decide) [1, 2, 3, 4, 5, 0] (lv' := [(0, .ref a0), (1, .ref a1), (2, va_rf r2), (3, .long j3), (5, .int i3_), (6, .int i9_)]) rfl ?_
  refine J_aload_n 0 dX3_quotient_26 rfl rfl ?_
  refine J_aload_nq 2 dX3_quotient_27 rfl rfl ?_
  obtain ⟨i11_, S12, ei11_, h13⟩ := bnd2_some h10; clear h10
  have cS12 := (t_X3_clear ha ei11_)
  have lS12 : jle MX S S12 := cS12.1
  have hS12_a0 : mKd S12 a0 = 4 := kd_le lS12 ha
  have hS12_a1 : mKd S12 a1 = 2 := kd_le lS12 ka1
  refine J_callV (As := [va_rf r2]) (rest := []) (st' := [.int i11_]) cS12 gC_X3_clear gM_X3_135 (mRecv ha (by decide) jCl3) rfl (by decide) (by decide) rfl rfl (Nat.le_of_ble_eq_true rfl) dX3_quotient_28 ?_
  refine J_if_ne 36 dX3_quotient_31 (by decide) h13 (fun c14 h15 => ?_) (fun c14 h15 => ?_)
  · clear h13
    refine J_iconst (0 : Int32) dX3_quotient_34 (by decide) ?_
    have hw := Option.some.inj h15; subst hw
    exact J_zret rfl (by decide) dX3_quotient_35
  · clear h13
    refine J_iload 5 dX3_quotient_36 rfl ?_
    refine J_istore dX3_quotient_38 (by decide) [1, 2, 3, 4, 5, 0] (lv' := [(0, .ref a0), (1, .ref a1), (2, va_rf r2), (3, .long j3), (5, .int i3_), (7, .int i9_)]) rfl ?_
    exact t_X3_quotient_L40 bigN S12 a0 (some a1) r2 j3 i3_ i9_ hS12_a0 h15
def c_X3_taken (i0 : Int32) (j1 : Int64) (j3 : Int64) (j5 : Int64) : Option Int64 :=
  if i0 = (2 : Int32) then
    (some (((((2 : Int64) * j1) * j3) + j5) * j5))
  else
    (some ((((((((3 : Int64) * j1) * j1) * j3) * j3) + ((((3 : Int64) * j1) * j3) * j5)) + (j5 * j5)) * j5))
set_option maxRecDepth 100000 in
set_option maxHeartbeats 4000000 in
theorem t_X3_taken {S : Mem} {i0 : Int32} {j1 : Int64} {j3 : Int64} {j5 : Int64} {w : Int64} (h : c_X3_taken i0 j1 j3 j5 = some w) : CT MX yX3_taken cX3_taken 7 (some .long) 0 0 [.int i0, .long j1, .long j3, .long j5] S (some (.long w)) S := by
  refine CT.of (lv := [(0, .int i0), (1, .long j1), (3, .long j3), (5, .long j5)]) (by decide) rfl (Nat.le_of_ble_eq_true rfl) ?_
  refine J_iload_n 0 dX3_taken_0 rfl rfl ?_
  refine J_iconst (2 : Int32) dX3_taken_1 (by decide) ?_
  refine J_icmp_ne 21 dX3_taken_2 (by decide) h (fun c1 h2 => ?_) (fun c1 h2 => ?_)
  · clear h
    refine J_ldc2 (2 : Int64) dX3_taken_5 gK_X3_161 ?_
    refine J_lload_n 1 dX3_taken_8 rfl rfl ?_
    refine J_lmul dX3_taken_9 ?_
    refine J_lload_n 2 dX3_taken_10 rfl rfl ?_
    refine J_lmul dX3_taken_11 ?_
    refine J_lload 3 dX3_taken_12 rfl ?_
    refine J_ladd dX3_taken_14 ?_
    refine J_lload 3 dX3_taken_15 rfl ?_
    refine J_lmul dX3_taken_17 ?_
    refine J_goto 52 dX3_taken_18 (by decide) ?_
    have hw := Option.some.inj h2; subst hw
    exact J_lret rfl dX3_taken_52
  · clear h
    refine J_ldc2 (3 : Int64) dX3_taken_21 gK_X3_163 ?_
    refine J_lload_n 1 dX3_taken_24 rfl rfl ?_
    refine J_lmul dX3_taken_25 ?_
    refine J_lload_n 1 dX3_taken_26 rfl rfl ?_
    refine J_lmul dX3_taken_27 ?_
    refine J_lload_n 2 dX3_taken_28 rfl rfl ?_
    refine J_lmul dX3_taken_29 ?_
    refine J_lload_n 2 dX3_taken_30 rfl rfl ?_
    refine J_lmul dX3_taken_31 ?_
    refine J_ldc2 (3 : Int64) dX3_taken_32 gK_X3_163 ?_
    refine J_lload_n 1 dX3_taken_35 rfl rfl ?_
    refine J_lmul dX3_taken_36 ?_
    refine J_lload_n 2 dX3_taken_37 rfl rfl ?_
    refine J_lmul dX3_taken_38 ?_
    refine J_lload 3 dX3_taken_39 rfl ?_
    refine J_lmul dX3_taken_41 ?_
    refine J_ladd dX3_taken_42 ?_
    refine J_lload 3 dX3_taken_43 rfl ?_
    refine J_lload 3 dX3_taken_45 rfl ?_
    refine J_lmul dX3_taken_47 ?_
    refine J_ladd dX3_taken_48 ?_
    refine J_lload 3 dX3_taken_49 rfl ?_
    refine J_lmul dX3_taken_51 ?_
    have hw := Option.some.inj h2; subst hw
    exact J_lret rfl dX3_taken_52
def c_X3_extract_J111 (k45 : Mem → Nat → Option Nat → Option Nat → Int32 → Int64 → Int32 → Option (Int32 × Mem)) (S : Mem) (a0 : Nat) (r1 : Option Nat) (r2 : Option Nat) (i3 : Int32) (j5 : Int64) (i7 : Int32) (i12 : Int32) : Option (Int32 × Mem) :=
  bnd2 (c_X3_put S a0 r2 i7 i12) fun i1_ S2 =>
  if i1_ = 0 then
    (some ((0 : Int32), S2))
  else
    (bnd (ob S2 r1 2) fun a6 =>
    bnd (c_X3_taken i3 (Int32.toInt64 (mI S2 a6 2)) j5 (Int32.toInt64 i12)) fun j8_ =>
    bnd2 (c_X3_putDigits S2 a0 (some a6) j8_ (i3 * i7) (-1 : Int32)) fun i10_ S11 =>
    if i10_ = 0 then
      (some ((0 : Int32), S11))
    else
      (jLet ((((Int32.toInt64 (mI S11 a6 2)) * j5) + (Int32.toInt64 i12))) fun j15_ =>
      k45 S11 a0 (some a6) r2 i3 j15_ (i7 + (-1 : Int32))))
set_option maxRecDepth 100000 in
set_option maxHeartbeats 4000000 in
theorem t_X3_extract_J111 {k45 : Mem → Nat → Option Nat → Option Nat → Int32 → Int64 → Int32 → Option (Int32 × Mem)} {S : Mem} {a0 : Nat} {r1 : Option Nat} {r2 : Option Nat} {i3 : Int32} {j5 : Int64} {i7 : Int32} {i12 : Int32} {w : (Int32 × Mem)} (hk45 : ∀ (S : Mem) (a0 : Nat) (r1 : Option Nat) (r2 : Option Nat) (i3 : Int32) (j5 : Int64) (i7 : Int32), (mKd S a0 = 4) → k45 S a0 r1 r2 i3 j5 i7 = some w → J MX yX3_extract cX3_extract 13 (some .boolean) 5 162 45 [(0, .ref a0), (1, va_rf r1), (2, va_rf r2), (3, .int i3), (5, .long j5), (7, .int i7)] [] S (some (.int w.1)) w.2) (ha : mKd S a0 = 4) (h : c_X3_extract_J111 k45 S a0 r1 r2 i3 j5 i7 i12 = some w) : J MX yX3_extract cX3_extract 13 (some .boolean) 5 162 111 [(0, .ref a0), (1, va_rf r1), (2, va_rf r2), (3, .int i3), (5, .long j5), (7, .int i7), (12, .int i12)] [] S (some (.int w.1)) w.2 := by
  refine J_aload_n 0 dX3_extract_111 rfl rfl ?_
  refine J_aload_nq 2 dX3_extract_112 rfl rfl ?_
  refine J_iload 5 dX3_extract_113 rfl ?_
  refine J_iload 6 dX3_extract_115 rfl ?_
  obtain ⟨i1_, S2, ei1_, h3⟩ := bnd2_some h; clear h
  have cS2 := (t_X3_put ha ei1_)
  have lS2 : jle MX S S2 := cS2.1
  have hS2_a0 : mKd S2 a0 = 4 := kd_le lS2 ha
  refine J_callV (As := [va_rf r2, .int i7, .int i12]) (rest := []) (st' := [.int i1_]) cS2 gC_X3_put gM_X3_123 (mRecv ha (by decide) jCl3) rfl (by decide) (by decide) rfl rfl (Nat.le_of_ble_eq_true rfl) dX3_extract_117 ?_
  refine J_if_eq 150 dX3_extract_120 (by decide) h3 (fun c4 h5 => ?_) (fun c4 h5 => ?_)
  · clear h3
    refine J_iconst (0 : Int32) dX3_extract_150 (by decide) ?_
    have hw := Option.some.inj h5; subst hw
    exact J_zret rfl (by decide) dX3_extract_151
  · clear h3
    refine J_aload_n 0 dX3_extract_123 rfl rfl ?_
    refine J_aload_nq 1 dX3_extract_124 rfl rfl ?_
    refine J_iload_n 3 dX3_extract_125 rfl rfl ?_
    refine J_aload_nq 1 dX3_extract_126 rfl rfl ?_
    obtain ⟨a6, ea6, ka6, h7⟩ := ob_some h5; clear h5
    subst ea6
    refine J_lvst (lv' := [(0, .ref a0), (1, .ref a6), (2, va_rf r2), (3, .int i3), (5, .long j5), (7, .int i7), (12, .int i12)]) (st' := [.ref a6, .int i3, .ref a6, .ref a0]) rfl rfl ?_
    refine J_get (k := 2) (v := .int (mI S2 a6 2)) dX3_extract_127 gF_X3_95 ka6 rfl ?_
    refine J_i2l dX3_extract_130 ?_
    refine J_lload 4 dX3_extract_131 rfl ?_
    refine J_iload 6 dX3_extract_133 rfl ?_
    refine J_i2l dX3_extract_135 ?_
    obtain ⟨j8_, ej8_, h9⟩ := bnd_some h7; clear h7
    refine J_callS (As := [.int i3, .long (Int32.toInt64 (mI S2 a6 2)), .long j5, .long (Int32.toInt64 i12)]) (rest := [.ref a6, .ref a0]) (st' := [.long j8_, .ref a6, .ref a0]) (t_X3_taken ej8_) gC_X3_taken gM_X3_165 rfl (by decide) (by decide) rfl rfl (Nat.le_of_ble_eq_true rfl) dX3_extract_136 ?_
    refine J_iload_n 3 dX3_extract_139 rfl rfl ?_
    refine J_iload 5 dX3_extract_140 rfl ?_
    refine J_imul dX3_extract_142 ?_
    refine J_iconst (-1 : Int32) dX3_extract_143 (by decide) ?_
    obtain ⟨i10_, S11, ei10_, h12⟩ := bnd2_some h9; clear h9
    have cS11 := (t_X3_putDigits hS2_a0 ei10_)
    have lS11 : jle MX S2 S11 := cS11.1
    have hS11_a0 : mKd S11 a0 = 4 := kd_le lS11 hS2_a0
    have hS11_a6 : mKd S11 a6 = 2 := kd_le lS11 ka6
    refine J_callV (As := [.ref a6, .long j8_, .int (i3 * i7), .int (-1 : Int32)]) (rest := []) (st' := [.int i10_]) cS11 gC_X3_putDigits gM_X3_169 (mRecv hS2_a0 (by decide) jCl3) rfl (by decide) (by decide) rfl rfl (Nat.le_of_ble_eq_true rfl) dX3_extract_144 ?_
    refine J_if_ne 152 dX3_extract_147 (by decide) h12 (fun c13 h14 => ?_) (fun c13 h14 => ?_)
    · clear h12
      refine J_iconst (0 : Int32) dX3_extract_150 (by decide) ?_
      have hw := Option.some.inj h14; subst hw
      exact J_zret rfl (by decide) dX3_extract_151
    · clear h12
      refine J_aload_n 1 dX3_extract_152 rfl rfl ?_
      refine J_get (k := 2) (v := .int (mI S11 a6 2)) dX3_extract_153 gF_X3_95 hS11_a6 rfl ?_
      refine J_i2l dX3_extract_156 ?_
      refine J_lload 4 dX3_extract_157 rfl ?_
      refine J_lmul dX3_extract_159 ?_
      refine J_iload 6 dX3_extract_160 rfl ?_
      refine J_i2l dX3_extract_162 ?_
      refine J_ladd dX3_extract_163 ?_
      obtain ⟨j15_, ej15_, h16⟩ := jLet_some h14; clear h14
      refine J_topL ej15_ ?_
      refine J_lstore dX3_extract_164 (by decide) [1, 2, 3, 4, 0, 5] (lv' := [(0, .ref a0), (1, .ref a6), (2, va_rf r2), (3, .int i3), (5, .long j15_), (7, .int i7)]) rfl ?_
      refine J_iinc 5 (-1 : Int32) dX3_extract_166 rfl (by decide) (by decide) [1, 2, 3, 4, 5, 0] (lv' := [(0, .ref a0), (1, .ref a6), (2, va_rf r2), (3, .int i3), (5, .long j15_), (7, .int (i7 + (-1 : Int32)))]) rfl ?_
      refine J_goto 45 dX3_extract_169 (by decide) ?_
      exact hk45 S11 a0 (some a6) r2 i3 j15_ (i7 + (-1 : Int32)) hS11_a0 h16
def c_X3_extract_L77 (k45 : Mem → Nat → Option Nat → Option Nat → Int32 → Int64 → Int32 → Option (Int32 × Mem)) : Nat → Mem → Nat → Option Nat → Option Nat → Int32 → Int64 → Int32 → Int64 → Int64 → Int32 → Option (Int32 × Mem)
  | 0, _, _, _, _, _, _, _, _, _, _ => none
  | n + 1, S, a0, r1, r2, i3, j5, i7, j8, j10, i12 =>
    if i12 ≤ 0 then
      (c_X3_extract_J111 k45 S a0 r1 r2 i3 j5 i7 i12)
    else
      (bnd (ob S r1 2) fun a3 =>
      bnd (c_X3_taken i3 (Int32.toInt64 (mI S a3 2)) j5 (Int32.toInt64 i12)) fun j5_ =>
      if (j5_ * j10) ≤ j8 then
        (c_X3_extract_J111 k45 S a0 (some a3) r2 i3 j5 i7 i12)
      else
        (c_X3_extract_L77 k45 n S a0 (some a3) r2 i3 j5 i7 j8 j10 (i12 + (-1 : Int32))))
set_option maxRecDepth 100000 in
set_option maxHeartbeats 4000000 in
theorem t_X3_extract_L77 {k45 : Mem → Nat → Option Nat → Option Nat → Int32 → Int64 → Int32 → Option (Int32 × Mem)} {w : (Int32 × Mem)} (hk45 : ∀ (S : Mem) (a0 : Nat) (r1 : Option Nat) (r2 : Option Nat) (i3 : Int32) (j5 : Int64) (i7 : Int32), (mKd S a0 = 4) → k45 S a0 r1 r2 i3 j5 i7 = some w → J MX yX3_extract cX3_extract 13 (some .boolean) 5 162 45 [(0, .ref a0), (1, va_rf r1), (2, va_rf r2), (3, .int i3), (5, .long j5), (7, .int i7)] [] S (some (.int w.1)) w.2) (n : Nat) : ∀ (S : Mem) (a0 : Nat) (r1 : Option Nat) (r2 : Option Nat) (i3 : Int32) (j5 : Int64) (i7 : Int32) (j8 : Int64) (j10 : Int64) (i12 : Int32), (mKd S a0 = 4) → c_X3_extract_L77 k45 n S a0 r1 r2 i3 j5 i7 j8 j10 i12 = some w → J MX yX3_extract cX3_extract 13 (some .boolean) 5 162 77 [(0, .ref a0), (1, va_rf r1), (2, va_rf r2), (3, .int i3), (5, .long j5), (7, .int i7), (8, .long j8), (10, .long j10), (12, .int i12)] [] S (some (.int w.1)) w.2 := by
  induction n with
  | zero => intro S a0 r1 r2 i3 j5 i7 j8 j10 i12 ha h; cases h
  | succ n lh =>
    intro S a0 r1 r2 i3 j5 i7 j8 j10 i12 ha h
    refine J_iload 8 dX3_extract_77 rfl ?_
    refine J_if_le 111 dX3_extract_79 (by decide) h (fun c1 h2 => ?_) (fun c1 h2 => ?_)
    · clear h
      refine J_lv [0, 1, 2, 3, 4, 5, 8] rfl ?_
      exact t_X3_extract_J111 hk45 ha h2
    · clear h
      refine J_iload_n 3 dX3_extract_82 rfl rfl ?_
      refine J_aload_nq 1 dX3_extract_83 rfl rfl ?_
      obtain ⟨a3, ea3, ka3, h4⟩ := ob_some h2; clear h2
      subst ea3
      refine J_lvst (lv' := [(0, .ref a0), (1, .ref a3), (2, va_rf r2), (3, .int i3), (5, .long j5), (7, .int i7), (8, .long j8), (10, .long j10), (12, .int i12)]) (st' := [.ref a3, .int i3]) rfl rfl ?_
      refine J_get (k := 2) (v := .int (mI S a3 2)) dX3_extract_84 gF_X3_95 ka3 rfl ?_
      refine J_i2l dX3_extract_87 ?_
      refine J_lload 4 dX3_extract_88 rfl ?_
      refine J_iload 8 dX3_extract_90 rfl ?_
      refine J_i2l dX3_extract_92 ?_
      obtain ⟨j5_, ej5_, h6⟩ := bnd_some h4; clear h4
      refine J_callS (As := [.int i3, .long (Int32.toInt64 (mI S a3 2)), .long j5, .long (Int32.toInt64 i12)]) (rest := []) (st' := [.long j5_]) (t_X3_taken ej5_) gC_X3_taken gM_X3_165 rfl (by decide) (by decide) rfl rfl (Nat.le_of_ble_eq_true rfl) dX3_extract_93 ?_
      refine J_lload 7 dX3_extract_96 rfl ?_
      refine J_lmul dX3_extract_98 ?_
      refine J_lload 6 dX3_extract_99 rfl ?_
      refine J_lcmp_le 111 dX3_extract_101 dX3_extract_102 (by decide) h6 (fun c7 h8 => ?_) (fun c7 h8 => ?_)
      · clear h6
        refine J_lv [0, 1, 2, 3, 4, 5, 8] rfl ?_
        exact t_X3_extract_J111 hk45 ha h8
      · clear h6
        refine J_iinc 8 (-1 : Int32) dX3_extract_105 rfl (by decide) (by decide) [1, 2, 3, 4, 5, 6, 7, 8, 0] (lv' := [(0, .ref a0), (1, .ref a3), (2, va_rf r2), (3, .int i3), (5, .long j5), (7, .int i7), (8, .long j8), (10, .long j10), (12, .int (i12 + (-1 : Int32)))]) rfl ?_
        refine J_goto 77 dX3_extract_108 (by decide) ?_
        exact lh S a0 (some a3) r2 i3 j5 i7 j8 j10 (i12 + (-1 : Int32)) ha h8
def c_X3_extract_L45 : Nat → Mem → Nat → Option Nat → Option Nat → Int32 → Int64 → Int32 → Option (Int32 × Mem)
  | 0, _, _, _, _, _, _, _ => none
  | n + 1, S, a0, r1, r2, i3, j5, i7 =>
    if i7 < 0 then
      (some ((1 : Int32), S))
    else
      (bnd (ob S r1 2) fun a3 =>
      bnd (c_X1_sum S a3) fun j5_ =>
      bnd (c_X5_power (mI S a3 2) (i3 * i7)) fun j7_ =>
      jLet (((mI S a3 2) - (1 : Int32))) fun i9_ =>
      c_X3_extract_L77 (c_X3_extract_L45 n) bigN S a0 (some a3) r2 i3 j5 i7 j5_ j7_ i9_)
set_option maxRecDepth 100000 in
set_option maxHeartbeats 4000000 in
theorem t_X3_extract_L45 {w : (Int32 × Mem)} (n : Nat) : ∀ (S : Mem) (a0 : Nat) (r1 : Option Nat) (r2 : Option Nat) (i3 : Int32) (j5 : Int64) (i7 : Int32), (mKd S a0 = 4) → c_X3_extract_L45 n S a0 r1 r2 i3 j5 i7 = some w → J MX yX3_extract cX3_extract 13 (some .boolean) 5 162 45 [(0, .ref a0), (1, va_rf r1), (2, va_rf r2), (3, .int i3), (5, .long j5), (7, .int i7)] [] S (some (.int w.1)) w.2 := by
  induction n with
  | zero => intro S a0 r1 r2 i3 j5 i7 ha h; cases h
  | succ n lh =>
    intro S a0 r1 r2 i3 j5 i7 ha h
    refine J_iload 5 dX3_extract_45 rfl ?_
    refine J_if_lt 172 dX3_extract_47 (by decide) h (fun c1 h2 => ?_) (fun c1 h2 => ?_)
    · clear h
      refine J_iconst (1 : Int32) dX3_extract_172 (by decide) ?_
      have hw := Option.some.inj h2; subst hw
      exact J_zret rfl (by decide) dX3_extract_173
    · clear h
      refine J_aload_nq 1 dX3_extract_50 rfl rfl ?_
      obtain ⟨a3, ea3, ka3, h4⟩ := ob_some h2; clear h2
      subst ea3
      refine J_lvst (lv' := [(0, .ref a0), (1, .ref a3), (2, va_rf r2), (3, .int i3), (5, .long j5), (7, .int i7)]) (st' := [.ref a3]) rfl rfl ?_
      obtain ⟨j5_, ej5_, h6⟩ := bnd_some h4; clear h4
      refine J_callV (As := []) (rest := []) (st' := [.long j5_]) (t_X1_sum ka3 ej5_) gC_X1_sum gM_X3_127 (mRecv ka3 (by decide) jCl1) rfl (by decide) (by decide) rfl rfl (Nat.le_of_ble_eq_true rfl) dX3_extract_51 ?_
      refine J_lstore dX3_extract_54 (by decide) [1, 2, 3, 4, 5, 6, 0] (lv' := [(0, .ref a0), (1, .ref a3), (2, va_rf r2), (3, .int i3), (5, .long j5), (7, .int i7), (8, .long j5_)]) rfl ?_
      refine J_aload_n 1 dX3_extract_56 rfl rfl ?_
      refine J_get (k := 2) (v := .int (mI S a3 2)) dX3_extract_57 gF_X3_95 ka3 rfl ?_
      refine J_iload_n 3 dX3_extract_60 rfl rfl ?_
      refine J_iload 5 dX3_extract_61 rfl ?_
      refine J_imul dX3_extract_63 ?_
      obtain ⟨j7_, ej7_, h8⟩ := bnd_some h6; clear h6
      refine J_callSN (As := [.int (mI S a3 2), .int (i3 * i7)]) (rest := []) (st' := [.long j7_]) (t_X5_power ej7_) gC_X5_power gM_X3_147 rfl (by decide) (by decide) rfl rfl (Nat.le_of_ble_eq_true rfl) dX3_extract_64 ?_
      refine J_lstore dX3_extract_67 (by decide) [1, 2, 3, 4, 5, 6, 7, 0] (lv' := [(0, .ref a0), (1, .ref a3), (2, va_rf r2), (3, .int i3), (5, .long j5), (7, .int i7), (8, .long j5_), (10, .long j7_)]) rfl ?_
      refine J_aload_n 1 dX3_extract_69 rfl rfl ?_
      refine J_get (k := 2) (v := .int (mI S a3 2)) dX3_extract_70 gF_X3_95 ka3 rfl ?_
      refine J_iconst (1 : Int32) dX3_extract_73 (by decide) ?_
      refine J_isub dX3_extract_74 ?_
      obtain ⟨i9_, ei9_, h10⟩ := jLet_some h8; clear h8
      refine J_topI ei9_ ?_
      refine J_istore dX3_extract_75 (by decide) [1, 2, 3, 4, 5, 6, 7, 8, 0] (lv' := [(0, .ref a0), (1, .ref a3), (2, va_rf r2), (3, .int i3), (5, .long j5), (7, .int i7), (8, .long j5_), (10, .long j7_), (12, .int i9_)]) rfl ?_
      exact t_X3_extract_L77 lh bigN S a0 (some a3) r2 i3 j5 i7 j5_ j7_ i9_ ha h10
def c_X3_extract (S : Mem) (a0 : Nat) (r1 : Option Nat) (r2 : Option Nat) (i3 : Int32) : Option (Int32 × Mem) :=
  if (2 : Int32) ≤ i3 then
    (bnd (ob S r1 2) fun a3 =>
    bnd (c_X1_sum S a3) fun j5_ =>
    bnd (c_X5_digitCount j5_ (mI S a3 2)) fun i7_ =>
    gd (nz i3) <|
    jLet (((((i7_ + i3) - (1 : Int32)) / i3) - (1 : Int32))) fun i11_ =>
    bnd2 (c_X3_clear S a0 r2) fun i13_ S14 =>
    if i13_ = 0 then
      (some ((0 : Int32), S14))
    else
      (c_X3_extract_L45 bigN S14 a0 (some a3) r2 i3 (0 : Int64) i11_))
  else
    (some ((0 : Int32), S))
set_option maxRecDepth 100000 in
set_option maxHeartbeats 4000000 in
theorem t_X3_extract {S : Mem} {a0 : Nat} {r1 : Option Nat} {r2 : Option Nat} {i3 : Int32} {w : (Int32 × Mem)} (ha : mKd S a0 = 4) (h : c_X3_extract S a0 r1 r2 i3 = some w) : CT MX yX3_extract cX3_extract 13 (some .boolean) 5 162 [.ref a0, va_rf r1, va_rf r2, .int i3] S (some (.int w.1)) w.2 := by
  refine CT.of (lv := [(0, .ref a0), (1, va_rf r1), (2, va_rf r2), (3, .int i3)]) (by decide) (by cases r1 <;> cases r2 <;> exact rfl) (by cases r1 <;> cases r2 <;> exact Nat.le_of_ble_eq_true rfl) ?_
  refine J_iload_n 3 dX3_extract_0 rfl rfl ?_
  refine J_iconst (2 : Int32) dX3_extract_1 (by decide) ?_
  refine J_icmp_ge 7 dX3_extract_2 (by decide) h (fun c1 h2 => ?_) (fun c1 h2 => ?_)
  · clear h
    refine J_aload_nq 1 dX3_extract_7 rfl rfl ?_
    obtain ⟨a3, ea3, ka3, h4⟩ := ob_some h2; clear h2
    subst ea3
    refine J_lvst (lv' := [(0, .ref a0), (1, .ref a3), (2, va_rf r2), (3, .int i3)]) (st' := [.ref a3]) rfl rfl ?_
    obtain ⟨j5_, ej5_, h6⟩ := bnd_some h4; clear h4
    refine J_callV (As := []) (rest := []) (st' := [.long j5_]) (t_X1_sum ka3 ej5_) gC_X1_sum gM_X3_127 (mRecv ka3 (by decide) jCl1) rfl (by decide) (by decide) rfl rfl (Nat.le_of_ble_eq_true rfl) dX3_extract_8 ?_
    refine J_aload_n 1 dX3_extract_11 rfl rfl ?_
    refine J_get (k := 2) (v := .int (mI S a3 2)) dX3_extract_12 gF_X3_95 ka3 rfl ?_
    obtain ⟨i7_, ei7_, h8⟩ := bnd_some h6; clear h6
    refine J_callSN (As := [.long j5_, .int (mI S a3 2)]) (rest := []) (st' := [.int i7_]) (t_X5_digitCount ei7_) gC_X5_digitCount gM_X3_115 rfl (by decide) (by decide) rfl rfl (Nat.le_of_ble_eq_true rfl) dX3_extract_15 ?_
    refine J_iload_n 3 dX3_extract_18 rfl rfl ?_
    refine J_iadd dX3_extract_19 ?_
    refine J_iconst (1 : Int32) dX3_extract_20 (by decide) ?_
    refine J_isub dX3_extract_21 ?_
    refine J_iload_n 3 dX3_extract_22 rfl rfl ?_
    obtain ⟨g9, h10⟩ := gd_some h8; clear h8
    refine J_idiv dX3_extract_23 (nz_of g9) ?_
    refine J_iconst (1 : Int32) dX3_extract_24 (by decide) ?_
    refine J_isub dX3_extract_25 ?_
    obtain ⟨i11_, ei11_, h12⟩ := jLet_some h10; clear h10
    refine J_topI ei11_ ?_
    refine J_istore dX3_extract_26 (by decide) [1, 2, 3, 4, 0] (lv' := [(0, .ref a0), (1, .ref a3), (2, va_rf r2), (3, .int i3), (4, .int i11_)]) rfl ?_
    refine J_aload_n 0 dX3_extract_28 rfl rfl ?_
    refine J_aload_nq 2 dX3_extract_29 rfl rfl ?_
    obtain ⟨i13_, S14, ei13_, h15⟩ := bnd2_some h12; clear h12
    have cS14 := (t_X3_clear ha ei13_)
    have lS14 : jle MX S S14 := cS14.1
    have hS14_a0 : mKd S14 a0 = 4 := kd_le lS14 ha
    have hS14_a3 : mKd S14 a3 = 2 := kd_le lS14 ka3
    refine J_callV (As := [va_rf r2]) (rest := []) (st' := [.int i13_]) cS14 gC_X3_clear gM_X3_135 (mRecv ha (by decide) jCl3) rfl (by decide) (by decide) rfl rfl (Nat.le_of_ble_eq_true rfl) dX3_extract_30 ?_
    refine J_if_ne 38 dX3_extract_33 (by decide) h15 (fun c16 h17 => ?_) (fun c16 h17 => ?_)
    · clear h15
      refine J_iconst (0 : Int32) dX3_extract_36 (by decide) ?_
      have hw := Option.some.inj h17; subst hw
      exact J_zret rfl (by decide) dX3_extract_37
    · clear h15
      refine J_lconst (0 : Int64) dX3_extract_38 (by decide) ?_
      refine J_lstore dX3_extract_39 (by decide) [1, 2, 3, 4, 5, 0] (lv' := [(0, .ref a0), (1, .ref a3), (2, va_rf r2), (3, .int i3), (4, .int i11_), (5, .long (0 : Int64))]) rfl ?_
      refine J_iload 4 dX3_extract_41 rfl ?_
      refine J_istore dX3_extract_43 (by decide) [1, 2, 3, 4, 6, 0] (lv' := [(0, .ref a0), (1, .ref a3), (2, va_rf r2), (3, .int i3), (5, .long (0 : Int64)), (7, .int i11_)]) rfl ?_
      exact t_X3_extract_L45 bigN S14 a0 (some a3) r2 i3 (0 : Int64) i11_ hS14_a0 h17
  · clear h
    refine J_iconst (0 : Int32) dX3_extract_5 (by decide) ?_
    have hw := Option.some.inj h2; subst hw
    exact J_zret rfl (by decide) dX3_extract_6
def c_X3_turnOver_L27 : Nat → Mem → Nat → Option Nat → Option Nat → Int64 → Int32 → Option (Int32 × Mem)
  | 0, _, _, _, _, _, _ => none
  | n + 1, S, a0, r1, r2, j3, i5 =>
    if i5 < 0 then
      (some ((1 : Int32), S))
    else
      (bnd (ob S r1 2) fun a3 =>
      bnd2 (c_X3_multiply S a0 r2 (Int32.toInt64 (mI S a3 2))) fun i5_ S6 =>
      if i5_ = 0 then
        (some ((0 : Int32), S6))
      else
        (bnd (c_X5_digitAt j3 (mI S6 a3 2) i5) fun i10_ =>
        bnd2 (c_X3_putDigits S6 a0 r2 (Int32.toInt64 i10_) (0 : Int32) (1 : Int32)) fun i12_ S13 =>
        if i12_ = 0 then
          (some ((0 : Int32), S13))
        else
          (c_X3_turnOver_L27 n S13 a0 (some a3) r2 j3 (i5 + (-1 : Int32)))))
set_option maxRecDepth 100000 in
set_option maxHeartbeats 4000000 in
theorem t_X3_turnOver_L27 {w : (Int32 × Mem)} (n : Nat) : ∀ (S : Mem) (a0 : Nat) (r1 : Option Nat) (r2 : Option Nat) (j3 : Int64) (i5 : Int32), (mKd S a0 = 4) → c_X3_turnOver_L27 n S a0 r1 r2 j3 i5 = some w → J MX yX3_turnOver cX3_turnOver 6 (some .boolean) 6 188 27 [(0, .ref a0), (1, va_rf r1), (2, va_rf r2), (3, .long j3), (5, .int i5)] [] S (some (.int w.1)) w.2 := by
  induction n with
  | zero => intro S a0 r1 r2 j3 i5 ha h; cases h
  | succ n lh =>
    intro S a0 r1 r2 j3 i5 ha h
    refine J_iload 4 dX3_turnOver_27 rfl ?_
    refine J_if_lt 74 dX3_turnOver_29 (by decide) h (fun c1 h2 => ?_) (fun c1 h2 => ?_)
    · clear h
      refine J_iconst (1 : Int32) dX3_turnOver_74 (by decide) ?_
      have hw := Option.some.inj h2; subst hw
      exact J_zret rfl (by decide) dX3_turnOver_75
    · clear h
      refine J_aload_n 0 dX3_turnOver_32 rfl rfl ?_
      refine J_aload_nq 2 dX3_turnOver_33 rfl rfl ?_
      refine J_aload_nq 1 dX3_turnOver_34 rfl rfl ?_
      obtain ⟨a3, ea3, ka3, h4⟩ := ob_some h2; clear h2
      subst ea3
      refine J_lvst (lv' := [(0, .ref a0), (1, .ref a3), (2, va_rf r2), (3, .long j3), (5, .int i5)]) (st' := [.ref a3, va_rf r2, .ref a0]) rfl rfl ?_
      refine J_get (k := 2) (v := .int (mI S a3 2)) dX3_turnOver_35 gF_X3_95 ka3 rfl ?_
      refine J_i2l dX3_turnOver_38 ?_
      obtain ⟨i5_, S6, ei5_, h7⟩ := bnd2_some h4; clear h4
      have cS6 := (t_X3_multiply ha ei5_)
      have lS6 : jle MX S S6 := cS6.1
      have hS6_a0 : mKd S6 a0 = 4 := kd_le lS6 ha
      have hS6_a3 : mKd S6 a3 = 2 := kd_le lS6 ka3
      refine J_callV (As := [va_rf r2, .long (Int32.toInt64 (mI S a3 2))]) (rest := []) (st' := [.int i5_]) cS6 gC_X3_multiply gM_X3_172 (mRecv ha (by decide) jCl3) rfl (by decide) (by decide) rfl rfl (Nat.le_of_ble_eq_true rfl) dX3_turnOver_39 ?_
      refine J_if_eq 66 dX3_turnOver_42 (by decide) h7 (fun c8 h9 => ?_) (fun c8 h9 => ?_)
      · clear h7
        refine J_iconst (0 : Int32) dX3_turnOver_66 (by decide) ?_
        have hw := Option.some.inj h9; subst hw
        exact J_zret rfl (by decide) dX3_turnOver_67
      · clear h7
        refine J_aload_n 0 dX3_turnOver_45 rfl rfl ?_
        refine J_aload_nq 2 dX3_turnOver_46 rfl rfl ?_
        refine J_lload_n 3 dX3_turnOver_47 rfl rfl ?_
        refine J_aload_n 1 dX3_turnOver_48 rfl rfl ?_
        refine J_get (k := 2) (v := .int (mI S6 a3 2)) dX3_turnOver_49 gF_X3_95 hS6_a3 rfl ?_
        refine J_iload 4 dX3_turnOver_52 rfl ?_
        obtain ⟨i10_, ei10_, h11⟩ := bnd_some h9; clear h9
        refine J_callSN (As := [.long j3, .int (mI S6 a3 2), .int i5]) (rest := [va_rf r2, .ref a0]) (st' := [.int i10_, va_rf r2, .ref a0]) (t_X5_digitAt ei10_) gC_X5_digitAt gM_X3_119 rfl (by decide) (by decide) rfl rfl (by simp only [List.map_cons, List.map_nil, List.sum_cons, List.sum_nil, va_rf_cat]; exact Nat.le_of_ble_eq_true rfl) dX3_turnOver_54 ?_
        refine J_i2l dX3_turnOver_57 ?_
        refine J_iconst (0 : Int32) dX3_turnOver_58 (by decide) ?_
        refine J_iconst (1 : Int32) dX3_turnOver_59 (by decide) ?_
        obtain ⟨i12_, S13, ei12_, h14⟩ := bnd2_some h11; clear h11
        have cS13 := (t_X3_putDigits hS6_a0 ei12_)
        have lS13 : jle MX S6 S13 := cS13.1
        have hS13_a0 : mKd S13 a0 = 4 := kd_le lS13 hS6_a0
        have hS13_a3 : mKd S13 a3 = 2 := kd_le lS13 hS6_a3
        refine J_callV (As := [va_rf r2, .long (Int32.toInt64 i10_), .int (0 : Int32), .int (1 : Int32)]) (rest := []) (st' := [.int i12_]) cS13 gC_X3_putDigits gM_X3_169 (mRecv hS6_a0 (by decide) jCl3) rfl (by decide) (by decide) rfl rfl (Nat.le_of_ble_eq_true rfl) dX3_turnOver_60 ?_
        refine J_if_ne 68 dX3_turnOver_63 (by decide) h14 (fun c15 h16 => ?_) (fun c15 h16 => ?_)
        · clear h14
          refine J_iconst (0 : Int32) dX3_turnOver_66 (by decide) ?_
          have hw := Option.some.inj h16; subst hw
          exact J_zret rfl (by decide) dX3_turnOver_67
        · clear h14
          refine J_iinc 4 (-1 : Int32) dX3_turnOver_68 rfl (by decide) (by decide) [1, 2, 3, 4, 0] (lv' := [(0, .ref a0), (1, .ref a3), (2, va_rf r2), (3, .long j3), (5, .int (i5 + (-1 : Int32)))]) rfl ?_
          refine J_goto 27 dX3_turnOver_71 (by decide) ?_
          exact lh S13 a0 (some a3) r2 j3 (i5 + (-1 : Int32)) hS13_a0 h16
def c_X3_turnOver (S : Mem) (a0 : Nat) (r1 : Option Nat) (r2 : Option Nat) : Option (Int32 × Mem) :=
  bnd (ob S r1 2) fun a1 =>
  bnd (c_X1_sum S a1) fun j3_ =>
  bnd2 (c_X3_clear S a0 r2) fun i5_ S6 =>
  if i5_ = 0 then
    (some ((0 : Int32), S6))
  else
    (bnd (c_X5_digitCount j3_ (mI S6 a1 2)) fun i10_ =>
    jLet ((i10_ - (1 : Int32))) fun i12_ =>
    c_X3_turnOver_L27 bigN S6 a0 (some a1) r2 j3_ i12_)
set_option maxRecDepth 100000 in
set_option maxHeartbeats 4000000 in
theorem t_X3_turnOver {S : Mem} {a0 : Nat} {r1 : Option Nat} {r2 : Option Nat} {w : (Int32 × Mem)} (ha : mKd S a0 = 4) (h : c_X3_turnOver S a0 r1 r2 = some w) : CT MX yX3_turnOver cX3_turnOver 6 (some .boolean) 6 188 [.ref a0, va_rf r1, va_rf r2] S (some (.int w.1)) w.2 := by
  refine CT.of (lv := [(0, .ref a0), (1, va_rf r1), (2, va_rf r2)]) (by decide) (by cases r1 <;> cases r2 <;> exact rfl) (by cases r1 <;> cases r2 <;> exact Nat.le_of_ble_eq_true rfl) ?_
  refine J_aload_nq 1 dX3_turnOver_0 rfl rfl ?_
  obtain ⟨a1, ea1, ka1, h2⟩ := ob_some h; clear h
  subst ea1
  refine J_lvst (lv' := [(0, .ref a0), (1, .ref a1), (2, va_rf r2)]) (st' := [.ref a1]) rfl rfl ?_
  obtain ⟨j3_, ej3_, h4⟩ := bnd_some h2; clear h2
  refine J_callV (As := []) (rest := []) (st' := [.long j3_]) (t_X1_sum ka1 ej3_) gC_X1_sum gM_X3_127 (mRecv ka1 (by decide) jCl1) rfl (by decide) (by decide) rfl rfl (Nat.le_of_ble_eq_true rfl) dX3_turnOver_1 ?_
  refine J_lstore_n dX3_turnOver_4 rfl (by decide) [1, 2, 3, 0] (lv' := [(0, .ref a0), (1, .ref a1), (2, va_rf r2), (3, .long j3_)]) (by cases r2 <;> rfl) ?_
  refine J_aload_n 0 dX3_turnOver_5 rfl rfl ?_
  refine J_aload_nq 2 dX3_turnOver_6 rfl rfl ?_
  obtain ⟨i5_, S6, ei5_, h7⟩ := bnd2_some h4; clear h4
  have cS6 := (t_X3_clear ha ei5_)
  have lS6 : jle MX S S6 := cS6.1
  have hS6_a0 : mKd S6 a0 = 4 := kd_le lS6 ha
  have hS6_a1 : mKd S6 a1 = 2 := kd_le lS6 ka1
  refine J_callV (As := [va_rf r2]) (rest := []) (st' := [.int i5_]) cS6 gC_X3_clear gM_X3_135 (mRecv ha (by decide) jCl3) rfl (by decide) (by decide) rfl rfl (Nat.le_of_ble_eq_true rfl) dX3_turnOver_7 ?_
  refine J_if_ne 15 dX3_turnOver_10 (by decide) h7 (fun c8 h9 => ?_) (fun c8 h9 => ?_)
  · clear h7
    refine J_iconst (0 : Int32) dX3_turnOver_13 (by decide) ?_
    have hw := Option.some.inj h9; subst hw
    exact J_zret rfl (by decide) dX3_turnOver_14
  · clear h7
    refine J_lload_n 3 dX3_turnOver_15 rfl rfl ?_
    refine J_aload_n 1 dX3_turnOver_16 rfl rfl ?_
    refine J_get (k := 2) (v := .int (mI S6 a1 2)) dX3_turnOver_17 gF_X3_95 hS6_a1 rfl ?_
    obtain ⟨i10_, ei10_, h11⟩ := bnd_some h9; clear h9
    refine J_callSN (As := [.long j3_, .int (mI S6 a1 2)]) (rest := []) (st' := [.int i10_]) (t_X5_digitCount ei10_) gC_X5_digitCount gM_X3_115 rfl (by decide) (by decide) rfl rfl (Nat.le_of_ble_eq_true rfl) dX3_turnOver_20 ?_
    refine J_iconst (1 : Int32) dX3_turnOver_23 (by decide) ?_
    refine J_isub dX3_turnOver_24 ?_
    obtain ⟨i12_, ei12_, h13⟩ := jLet_some h11; clear h11
    refine J_topI ei12_ ?_
    refine J_istore dX3_turnOver_25 (by decide) [1, 2, 3, 4, 0] (lv' := [(0, .ref a0), (1, .ref a1), (2, va_rf r2), (3, .long j3_), (5, .int i12_)]) rfl ?_
    exact t_X3_turnOver_L27 bigN S6 a0 (some a1) r2 j3_ i12_ hS6_a0 h13
