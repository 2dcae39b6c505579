def c_X0_init (S : Mem) (a0 : Nat) (i1 : Int32) : Option Mem :=
  jLet (mNx S) fun a2 =>
  jLet (mNew S 8 (Int32.toNatClampNeg (12 : Int32)) (Int32.toNatClampNeg (12 : Int32))) fun S1 =>
  jLet (mSR S1 a0 1 (some a2)) fun S5 =>
  jLet (mSI S5 a0 4 (-1 : Int32)) fun S7 =>
  jLet (mSI S7 a0 0 i1) fun S9 =>
  some S9
set_option maxRecDepth 100000 in
set_option maxHeartbeats 4000000 in
theorem t_X0_init {S : Mem} {a0 : Nat} {i1 : Int32} {w : Mem} (ha : mKd S a0 = 1) (h : c_X0_init S a0 i1 = some w) : CT MX yX0_init cX0_init 2 none 1 40 [.ref a0, .int i1] S none w := by
  refine CT.of (lv := [(0, .ref a0), (1, .int i1)]) (by decide) rfl (Nat.le_of_ble_eq_true rfl) ?_
  refine J_aload_n 0 dX0_init_0 rfl rfl ?_
  refine J_objInit gO_X0_1 gO_i gO_c (by decide) (by decide) (Nat.le_of_ble_eq_true rfl) dX0_init_1 ?_
  refine J_aload_n 0 dX0_init_4 rfl rfl ?_
  refine J_bipush (12 : Int32) dX0_init_5 (by decide) ?_
  refine J_newa (z := 0) (by decide) dX0_init_7 gA_int (fun _ => rfl) (by decide) (fun _ _ q => q) (fun S ln sl q => by simp [avT, mI, mL, mR, mNew, up1, defaultValue, newarray.typeOf]) (by decide) ?_
  obtain ⟨a2, ea2, h3⟩ := jLet_some h; clear h
  obtain ⟨S1, eS1, h4⟩ := jLet_some h3; clear h3
  rw [← ea2]
  refine J_topS eS1 ?_
  have lS1 : jle MX S S1 := by rw [eS1]; exact mNew_le _ _ _ _
  have hS1_a0 : mKd S1 a0 = 1 := kd_le lS1 ha
  have hS1_new : mKd S1 a2 = 8 := by rw [eS1, mKd_new, if_pos ea2]
  refine J_putAF (k := 1) (x := (some a2)) dX0_init_9 rfl gP_X0_9 hS1_a0 rfl ?_
  obtain ⟨S5, eS5, h6⟩ := jLet_some h4; clear h4
  refine J_topS eS5 ?_
  have hS5_a0 : mKd S5 a0 = 1 := by rw [eS5]; exact hS1_a0
  have hS5_a2 : mKd S5 a2 = 8 := by rw [eS5]; exact hS1_new
  refine J_aload_n 0 dX0_init_12 rfl rfl ?_
  refine J_iconst (-1 : Int32) dX0_init_13 (by decide) ?_
  refine J_putI (k := 4) dX0_init_14 gW_X0_13 hS5_a0 rfl ?_
  obtain ⟨S7, eS7, h8⟩ := jLet_some h6; clear h6
  refine J_topS eS7 ?_
  have hS7_a0 : mKd S7 a0 = 1 := by rw [eS7]; exact hS5_a0
  have hS7_a2 : mKd S7 a2 = 8 := by rw [eS7]; exact hS5_a2
  refine J_aload_n 0 dX0_init_17 rfl rfl ?_
  refine J_iload_n 1 dX0_init_18 rfl rfl ?_
  refine J_putIF (k := 0) dX0_init_19 rfl gP_X0_17 hS7_a0 rfl ?_
  obtain ⟨S9, eS9, h10⟩ := jLet_some h8; clear h8
  refine J_topS eS9 ?_
  have hS9_a0 : mKd S9 a0 = 1 := by rw [eS9]; exact hS7_a0
  have hS9_a2 : mKd S9 a2 = 8 := by rw [eS9]; exact hS7_a2
  have hw := Option.some.inj h10; subst hw
  exact J_vret rfl dX0_init_22
def c_X0_next (i0 : Int32) : Option Int32 :=
  some (((1103515245 : Int32) * i0) + (12345 : Int32))
set_option maxRecDepth 100000 in
set_option maxHeartbeats 4000000 in
theorem t_X0_next {S : Mem} {i0 : Int32} {w : Int32} (h : c_X0_next i0 = some w) : CT MX yX0_next cX0_next 1 (some .int) 0 0 [.int i0] S (some (.int w)) S := by
  refine CT.of (lv := [(0, .int i0)]) (by decide) rfl (Nat.le_of_ble_eq_true rfl) ?_
  refine J_ldc (1103515245 : Int32) dX0_next_0 gK_X0_50 ?_
  refine J_iload_n 0 dX0_next_2 rfl rfl ?_
  refine J_imul dX0_next_3 ?_
  refine J_sipush (12345 : Int32) dX0_next_4 (by decide) ?_
  refine J_iadd dX0_next_7 ?_
  have hw := Option.some.inj h; subst hw
  exact J_iret rfl dX0_next_8
def c_X0_drawn (i0 : Int32) (i1 : Int32) : Option Int32 :=
  if 0 < i1 then
    (gd (nz i1) <|
    some (((Int32.toUInt32 i0 >>> (Int32.toUInt32 (16 : Int32) &&& Int32.toUInt32 31)).toInt32) - ((Int32.toUInt32 i0 >>> (Int32.toUInt32 (16 : Int32) &&& Int32.toUInt32 31)).toInt32) / i1 * i1))
  else
    (some (0 : Int32))
set_option maxRecDepth 100000 in
set_option maxHeartbeats 4000000 in
theorem t_X0_drawn {S : Mem} {i0 : Int32} {i1 : Int32} {w : Int32} (h : c_X0_drawn i0 i1 = some w) : CT MX yX0_drawn cX0_drawn 2 (some .int) 0 0 [.int i0, .int i1] S (some (.int w)) S := by
  refine CT.of (lv := [(0, .int i0), (1, .int i1)]) (by decide) rfl (Nat.le_of_ble_eq_true rfl) ?_
  refine J_iload_n 1 dX0_drawn_0 rfl rfl ?_
  refine J_if_gt 8 dX0_drawn_1 (by decide) h (fun c1 h2 => ?_) (fun c1 h2 => ?_)
  · clear h
    refine J_iload_n 0 dX0_drawn_8 rfl rfl ?_
    refine J_bipush (16 : Int32) dX0_drawn_9 (by decide) ?_
    refine J_iushr dX0_drawn_11 ?_
    refine J_iload_n 1 dX0_drawn_12 rfl rfl ?_
    obtain ⟨g3, h4⟩ := gd_some h2; clear h2
    refine J_irem dX0_drawn_13 (nz_of g3) ?_
    have hw := Option.some.inj h4; subst hw
    exact J_iret rfl dX0_drawn_14
  · clear h
    refine J_iconst (0 : Int32) dX0_drawn_4 (by decide) ?_
    refine J_goto 14 dX0_drawn_5 (by decide) ?_
    have hw := Option.some.inj h2; subst hw
    exact J_iret rfl dX0_drawn_14
def c_X0_result (i0 : Int32) (i1 : Int32) (i2 : Int32) : Option Int32 :=
  if i0 = 0 then
    (some (i1 + i2))
  else
    (if i0 = (1 : Int32) then
      (some (i1 - i2))
    else
      (some (i1 * i2)))
set_option maxRecDepth 100000 in
set_option maxHeartbeats 4000000 in
theorem t_X0_result {S : Mem} {i0 : Int32} {i1 : Int32} {i2 : Int32} {w : Int32} (h : c_X0_result i0 i1 i2 = some w) : CT MX yX0_result cX0_result 3 (some .int) 0 0 [.int i0, .int i1, .int i2] S (some (.int w)) S := by
  refine CT.of (lv := [(0, .int i0), (1, .int i1), (2, .int i2)]) (by decide) rfl (Nat.le_of_ble_eq_true rfl) ?_
  refine J_iload_n 0 dX0_result_0 rfl rfl ?_
  refine J_if_ne 10 dX0_result_1 (by decide) h (fun c1 h2 => ?_) (fun c1 h2 => ?_)
  · clear h
    refine J_iload_n 1 dX0_result_4 rfl rfl ?_
    refine J_iload_n 2 dX0_result_5 rfl rfl ?_
    refine J_iadd dX0_result_6 ?_
    refine J_goto 24 dX0_result_7 (by decide) ?_
    have hw := Option.some.inj h2; subst hw
    exact J_iret rfl dX0_result_24
  · clear h
    refine J_iload_n 0 dX0_result_10 rfl rfl ?_
    refine J_iconst (1 : Int32) dX0_result_11 (by decide) ?_
    refine J_icmp_ne 21 dX0_result_12 (by decide) h2 (fun c3 h4 => ?_) (fun c3 h4 => ?_)
    · clear h2
      refine J_iload_n 1 dX0_result_15 rfl rfl ?_
      refine J_iload_n 2 dX0_result_16 rfl rfl ?_
      refine J_isub dX0_result_17 ?_
      refine J_goto 24 dX0_result_18 (by decide) ?_
      have hw := Option.some.inj h4; subst hw
      exact J_iret rfl dX0_result_24
    · clear h2
      refine J_iload_n 1 dX0_result_21 rfl rfl ?_
      refine J_iload_n 2 dX0_result_22 rfl rfl ?_
      refine J_imul dX0_result_23 ?_
      have hw := Option.some.inj h4; subst hw
      exact J_iret rfl dX0_result_24
def c_X5_digitAt_L13 : Nat → Int32 → Int32 → Int64 → Int32 → Option Int32
  | 0, _, _, _, _ => none
  | n + 1, i2, i3, j4, i6 =>
    if i3 ≤ i6 then
      (gd (nzL (Int32.toInt64 i2)) <|
      some (Int64.toInt32 (j4 - j4 / (Int32.toInt64 i2) * (Int32.toInt64 i2))))
    else
      (gd (nzL (Int32.toInt64 i2)) <|
      jLet ((j4 / (Int32.toInt64 i2))) fun j7_ =>
      c_X5_digitAt_L13 n i2 i3 j7_ (i6 + (1 : Int32)))
set_option maxRecDepth 100000 in
set_option maxHeartbeats 4000000 in
theorem t_X5_digitAt_L13 {S : Mem} {w : Int32} (n : Nat) : ∀ (i2 : Int32) (i3 : Int32) (j4 : Int64) (i6 : Int32), c_X5_digitAt_L13 n i2 i3 j4 i6 = some w → J MX yX5_digitAt cX5_digitAt 7 (some .int) 0 0 13 [(2, .int i2), (3, .int i3), (4, .long j4), (6, .int i6)] [] S (some (.int w)) S := by
  induction n with
  | zero => intro i2 i3 j4 i6 h; cases h
  | succ n lh =>
    intro i2 i3 j4 i6 h
    refine J_iload 3 dX5_digitAt_13 rfl ?_
    refine J_iload_n 1 dX5_digitAt_15 rfl rfl ?_
    refine J_icmp_ge 32 dX5_digitAt_16 (by decide) h (fun c1 h2 => ?_) (fun c1 h2 => ?_)
    · clear h
      refine J_lload 2 dX5_digitAt_32 rfl ?_
      refine J_iload_n 0 dX5_digitAt_34 rfl rfl ?_
      refine J_i2l dX5_digitAt_35 ?_
      obtain ⟨g3, h4⟩ := gd_some h2; clear h2
      refine J_lrem dX5_digitAt_36 (nzL_of g3) ?_
      refine J_l2i dX5_digitAt_37 ?_
      have hw := Option.some.inj h4; subst hw
      exact J_iret rfl dX5_digitAt_38
    · clear h
      refine J_lload 2 dX5_digitAt_19 rfl ?_
      refine J_iload_n 0 dX5_digitAt_21 rfl rfl ?_
      refine J_i2l dX5_digitAt_22 ?_
      obtain ⟨g5, h6⟩ := gd_some h2; clear h2
      refine J_ldiv dX5_digitAt_23 (nzL_of g5) ?_
      obtain ⟨j7_, ej7_, h8⟩ := jLet_some h6; clear h6
      refine J_topL ej7_ ?_
      refine J_lstore dX5_digitAt_24 (by decide) [1, 2, 0, 3] (lv' := [(2, .int i2), (3, .int i3), (4, .long j7_), (6, .int i6)]) rfl ?_
      refine J_iinc 3 (1 : Int32) dX5_digitAt_26 rfl (by decide) (by decide) [1, 2, 3, 0] (lv' := [(2, .int i2), (3, .int i3), (4, .long j7_), (6, .int (i6 + (1 : Int32)))]) rfl ?_
      refine J_goto 13 dX5_digitAt_29 (by decide) ?_
      exact lh i2 i3 j7_ (i6 + (1 : Int32)) h8
def c_X5_digitAt (j0 : Int64) (i2 : Int32) (i3 : Int32) : Option Int32 :=
  if (1 : Int32) < i2 then
    (c_X5_digitAt_L13 bigN i2 i3 j0 (0 : Int32))
  else
    (some (0 : Int32))
set_option maxRecDepth 100000 in
set_option maxHeartbeats 4000000 in
theorem t_X5_digitAt {S : Mem} {j0 : Int64} {i2 : Int32} {i3 : Int32} {w : Int32} (h : c_X5_digitAt j0 i2 i3 = some w) : CT MX yX5_digitAt cX5_digitAt 7 (some .int) 0 0 [.long j0, .int i2, .int i3] S (some (.int w)) S := by
  refine CT.of (lv := [(0, .long j0), (2, .int i2), (3, .int i3)]) (by decide) rfl (Nat.le_of_ble_eq_true rfl) ?_
  refine J_iload_n 1 dX5_digitAt_0 rfl rfl ?_
  refine J_iconst (1 : Int32) dX5_digitAt_1 (by decide) ?_
  refine J_icmp_gt 7 dX5_digitAt_2 (by decide) h (fun c1 h2 => ?_) (fun c1 h2 => ?_)
  · clear h
    refine J_lload_n 0 dX5_digitAt_7 rfl rfl ?_
    refine J_lstore dX5_digitAt_8 (by decide) [2, 3, 0] (lv' := [(2, .int i2), (3, .int i3), (4, .long j0)]) rfl ?_
    refine J_iconst (0 : Int32) dX5_digitAt_10 (by decide) ?_
    refine J_istore dX5_digitAt_11 (by decide) [1, 2, 3, 0] (lv' := [(2, .int i2), (3, .int i3), (4, .long j0), (6, .int (0 : Int32))]) rfl ?_
    exact t_X5_digitAt_L13 bigN i2 i3 j0 (0 : Int32) h2
  · clear h
    refine J_iconst (0 : Int32) dX5_digitAt_5 (by decide) ?_
    have hw := Option.some.inj h2; subst hw
    exact J_iret rfl dX5_digitAt_6
def c_X0_spread_L47 : Nat → Mem → Int32 → Int32 → Option Nat → Int32 → Option Mem
  | 0, _, _, _, _, _ => none
  | n + 1, S, i0, i1, r3, i5 =>
    if (3 : Int32) ≤ i5 then
      (some S)
    else
      (bnd (c_X5_digitAt (Int32.toInt64 i0) (10 : Int32) ((2 : Int32) - i5)) fun i3_ =>
      bnd (ob S r3 8) fun a5 =>
      gd (inB i5 (mLn S a5)) <|
      jLet (mSI S a5 (Int32.toNatClampNeg i5) i3_) fun S9 =>
      bnd (c_X5_digitAt (Int32.toInt64 i1) (10 : Int32) ((2 : Int32) - i5)) fun i11_ =>
      gd (inB (i5 + (3 : Int32)) (mLn S9 a5)) <|
      jLet (mSI S9 a5 (Int32.toNatClampNeg (i5 + (3 : Int32))) i11_) fun S15 =>
      c_X0_spread_L47 n S15 i0 i1 (some a5) (i5 + (1 : Int32)))
set_option maxRecDepth 100000 in
set_option maxHeartbeats 4000000 in
theorem t_X0_spread_L47 {w : Mem} (n : Nat) : ∀ (S : Mem) (i0 : Int32) (i1 : Int32) (r3 : Option Nat) (i5 : Int32), c_X0_spread_L47 n S i0 i1 r3 i5 = some w → J MX yX0_spread cX0_spread 6 none 1 26 47 [(0, .int i0), (1, .int i1), (3, va_rf r3), (5, .int i5)] [] S none w := by
  induction n with
  | zero => intro S i0 i1 r3 i5 h; cases h
  | succ n lh =>
    intro S i0 i1 r3 i5 h
    refine J_iload 3 dX0_spread_47 rfl ?_
    refine J_iconst (3 : Int32) dX0_spread_49 (by decide) ?_
    refine J_icmp_ge 91 dX0_spread_50 (by decide) h (fun c1 h2 => ?_) (fun c1 h2 => ?_)
    · clear h
      have hw := Option.some.inj h2; subst hw
      exact J_vret rfl dX0_spread_91
    · clear h
      refine J_aload_nq 2 dX0_spread_53 rfl rfl ?_
      refine J_iload 3 dX0_spread_54 rfl ?_
      refine J_iload_n 0 dX0_spread_56 rfl rfl ?_
      refine J_i2l dX0_spread_57 ?_
      refine J_bipush (10 : Int32) dX0_spread_58 (by decide) ?_
      refine J_iconst (2 : Int32) dX0_spread_60 (by decide) ?_
      refine J_iload 3 dX0_spread_61 rfl ?_
      refine J_isub dX0_spread_63 ?_
      obtain ⟨i3_, ei3_, h4⟩ := bnd_some h2; clear h2
      refine J_callSN (As := [.long (Int32.toInt64 i0), .int (10 : Int32), .int ((2 : Int32) - i5)]) (rest := [.int i5, va_rf r3]) (st' := [.int i3_, .int i5, va_rf r3]) (t_X5_digitAt ei3_) gC_X5_digitAt gM_X0_51 rfl (by decide) (by decide) rfl rfl (by simp only [List.map_cons, List.map_nil, List.sum_cons, List.sum_nil, va_rf_cat]; exact Nat.le_of_ble_eq_true rfl) dX0_spread_64 ?_
      obtain ⟨a5, ea5, ka5, h6⟩ := ob_some h4; clear h4
      subst ea5
      refine J_lvst (lv' := [(0, .int i0), (1, .int i1), (3, .ref a5), (5, .int i5)]) (st' := [.int i3_, .int i5, .ref a5]) rfl rfl ?_
      obtain ⟨g7, h8⟩ := gd_some h6; clear h6
      refine J_iast dX0_spread_67 ka5 g7 ?_
      obtain ⟨S9, eS9, h10⟩ := jLet_some h8; clear h8
      refine J_topS eS9 ?_
      have hS9_a5 : mKd S9 a5 = 8 := by rw [eS9]; exact ka5
      refine J_aload_n 2 dX0_spread_68 rfl rfl ?_
      refine J_iload 3 dX0_spread_69 rfl ?_
      refine J_iconst (3 : Int32) dX0_spread_71 (by decide) ?_
      refine J_iadd dX0_spread_72 ?_
      refine J_iload_n 1 dX0_spread_73 rfl rfl ?_
      refine J_i2l dX0_spread_74 ?_
      refine J_bipush (10 : Int32) dX0_spread_75 (by decide) ?_
      refine J_iconst (2 : Int32) dX0_spread_77 (by decide) ?_
      refine J_iload 3 dX0_spread_78 rfl ?_
      refine J_isub dX0_spread_80 ?_
      obtain ⟨i11_, ei11_, h12⟩ := bnd_some h10; clear h10
      refine J_callSN (As := [.long (Int32.toInt64 i1), .int (10 : Int32), .int ((2 : Int32) - i5)]) (rest := [.int (i5 + (3 : Int32)), .ref a5]) (st' := [.int i11_, .int (i5 + (3 : Int32)), .ref a5]) (t_X5_digitAt ei11_) gC_X5_digitAt gM_X0_51 rfl (by decide) (by decide) rfl rfl (Nat.le_of_ble_eq_true rfl) dX0_spread_81 ?_
      obtain ⟨g13, h14⟩ := gd_some h12; clear h12
      refine J_iast dX0_spread_84 hS9_a5 g13 ?_
      obtain ⟨S15, eS15, h16⟩ := jLet_some h14; clear h14
      refine J_topS eS15 ?_
      have hS15_a5 : mKd S15 a5 = 8 := by rw [eS15]; exact hS9_a5
      refine J_iinc 3 (1 : Int32) dX0_spread_85 rfl (by decide) (by decide) [1, 2, 3, 0] (lv' := [(0, .int i0), (1, .int i1), (3, .ref a5), (5, .int (i5 + (1 : Int32)))]) rfl ?_
      refine J_goto 47 dX0_spread_88 (by decide) ?_
      exact lh S15 i0 i1 (some a5) (i5 + (1 : Int32)) h16
def c_X0_spread_L15 : Nat → Mem → Int32 → Int32 → Option Nat → Int32 → Int32 → Option Mem
  | 0, _, _, _, _, _, _ => none
  | n + 1, S, i0, i1, r3, i4, i5 =>
    if i5 < (6 : Int32) then
      (c_X0_spread_L47 bigN S i0 i1 r3 (0 : Int32))
    else
      (jLet ((i4 - i4 / (10 : Int32) * (10 : Int32))) fun i3_ =>
      bnd (ob S r3 8) fun a5 =>
      gd (inB i5 (mLn S a5)) <|
      jLet (mSI S a5 (Int32.toNatClampNeg i5) i3_) fun S9 =>
      jLet ((i4 / (10 : Int32))) fun i11_ =>
      c_X0_spread_L15 n S9 i0 i1 (some a5) i11_ (i5 + (-1 : Int32)))
set_option maxRecDepth 100000 in
set_option maxHeartbeats 4000000 in
theorem t_X0_spread_L15 {w : Mem} (n : Nat) : ∀ (S : Mem) (i0 : Int32) (i1 : Int32) (r3 : Option Nat) (i4 : Int32) (i5 : Int32), c_X0_spread_L15 n S i0 i1 r3 i4 i5 = some w → J MX yX0_spread cX0_spread 6 none 1 26 15 [(0, .int i0), (1, .int i1), (3, va_rf r3), (4, .int i4), (5, .int i5)] [] S none w := by
  induction n with
  | zero => intro S i0 i1 r3 i4 i5 h; cases h
  | succ n lh =>
    intro S i0 i1 r3 i4 i5 h
    refine J_iload 4 dX0_spread_15 rfl ?_
    refine J_bipush (6 : Int32) dX0_spread_17 (by decide) ?_
    refine J_icmp_lt 44 dX0_spread_19 (by decide) h (fun c1 h2 => ?_) (fun c1 h2 => ?_)
    · clear h
      refine J_iconst (0 : Int32) dX0_spread_44 (by decide) ?_
      refine J_istore dX0_spread_45 (by decide) [1, 2, 3, 0] (lv' := [(0, .int i0), (1, .int i1), (3, va_rf r3), (5, .int (0 : Int32))]) rfl ?_
      exact t_X0_spread_L47 bigN S i0 i1 r3 (0 : Int32) h2
    · clear h
      refine J_aload_nq 2 dX0_spread_22 rfl rfl ?_
      refine J_iload 4 dX0_spread_23 rfl ?_
      refine J_iload 3 dX0_spread_25 rfl ?_
      refine J_bipush (10 : Int32) dX0_spread_27 (by decide) ?_
      refine J_irem dX0_spread_29 (by decide) ?_
      obtain ⟨i3_, ei3_, h4⟩ := jLet_some h2; clear h2
      refine J_topI ei3_ ?_
      obtain ⟨a5, ea5, ka5, h6⟩ := ob_some h4; clear h4
      subst ea5
      refine J_lvst (lv' := [(0, .int i0), (1, .int i1), (3, .ref a5), (4, .int i4), (5, .int i5)]) (st' := [.int i3_, .int i5, .ref a5]) rfl rfl ?_
      obtain ⟨g7, h8⟩ := gd_some h6; clear h6
      refine J_iast dX0_spread_30 ka5 g7 ?_
      obtain ⟨S9, eS9, h10⟩ := jLet_some h8; clear h8
      refine J_topS eS9 ?_
      have hS9_a5 : mKd S9 a5 = 8 := by rw [eS9]; exact ka5
      refine J_iload 3 dX0_spread_31 rfl ?_
      refine J_bipush (10 : Int32) dX0_spread_33 (by decide) ?_
      refine J_idiv dX0_spread_35 (by decide) ?_
      obtain ⟨i11_, ei11_, h12⟩ := jLet_some h10; clear h10
      refine J_topI ei11_ ?_
      refine J_istore dX0_spread_36 (by decide) [1, 2, 3, 0, 4] (lv' := [(0, .int i0), (1, .int i1), (3, .ref a5), (4, .int i11_), (5, .int i5)]) rfl ?_
      refine J_iinc 4 (-1 : Int32) dX0_spread_38 rfl (by decide) (by decide) [1, 2, 3, 4, 0] (lv' := [(0, .int i0), (1, .int i1), (3, .ref a5), (4, .int i11_), (5, .int (i5 + (-1 : Int32)))]) rfl ?_
      refine J_goto 15 dX0_spread_41 (by decide) ?_
      exact lh S9 i0 i1 (some a5) i11_ (i5 + (-1 : Int32)) h12
def c_X0_spread (S : Mem) (i0 : Int32) (i1 : Int32) (i2 : Int32) (r3 : Option Nat) : Option Mem :=
  bnd (ob S r3 8) fun a1 =>
  if (12 : Int32) ≤ (nI (mLn S a1)) then
    (c_X0_spread_L15 bigN S i0 i1 (some a1) i2 (11 : Int32))
  else
    (some S)
set_option maxRecDepth 100000 in
set_option maxHeartbeats 4000000 in
theorem t_X0_spread {S : Mem} {i0 : Int32} {i1 : Int32} {i2 : Int32} {r3 : Option Nat} {w : Mem} (h : c_X0_spread S i0 i1 i2 r3 = some w) : CT MX yX0_spread cX0_spread 6 none 1 26 [.int i0, .int i1, .int i2, va_rf r3] S none w := by
  refine CT.of (lv := [(0, .int i0), (1, .int i1), (2, .int i2), (3, va_rf r3)]) (by decide) (by cases r3 <;> exact rfl) (by cases r3 <;> exact Nat.le_of_ble_eq_true rfl) ?_
  refine J_aload_nq 3 dX0_spread_0 rfl rfl ?_
  obtain ⟨a1, ea1, ka1, h2⟩ := ob_some h; clear h
  subst ea1
  refine J_lvst (lv' := [(0, .int i0), (1, .int i1), (2, .int i2), (3, .ref a1)]) (st' := [.ref a1]) rfl rfl ?_
  refine J_alen (z := 0) dX0_spread_1 (fun _ => rfl) ka1 ?_
  refine J_bipush (12 : Int32) dX0_spread_2 (by decide) ?_
  refine J_icmp_ge 8 dX0_spread_4 (by decide) h2 (fun c3 h4 => ?_) (fun c3 h4 => ?_)
  · clear h2
    refine J_iload_n 2 dX0_spread_8 rfl rfl ?_
    refine J_istore dX0_spread_9 (by decide) [1, 2, 4, 0] (lv' := [(0, .int i0), (1, .int i1), (3, .ref a1), (4, .int i2)]) rfl ?_
    refine J_bipush (11 : Int32) dX0_spread_11 (by decide) ?_
    refine J_istore dX0_spread_13 (by decide) [1, 2, 3, 4, 0] (lv' := [(0, .int i0), (1, .int i1), (3, .ref a1), (4, .int i2), (5, .int (11 : Int32))]) rfl ?_
    exact t_X0_spread_L15 bigN S i0 i1 (some a1) i2 (11 : Int32) h4
  · clear h2
    have hw := Option.some.inj h4; subst hw
    exact J_vret rfl dX0_spread_7
def c_X0_freePlace_L4 : Nat → Int32 → Int32 → Int32 → Option Int32
  | 0, _, _, _ => none
  | n + 1, i0, i2, i3 =>
    if (12 : Int32) ≤ i3 then
      (some i2)
    else
      (if ((i0 >>> (i2 &&& 31)) &&& (1 : Int32)) = 0 then
        (some i2)
      else
        (if (12 : Int32) ≤ (i2 + (1 : Int32)) then
          (c_X0_freePlace_L4 n i0 (0 : Int32) (i3 + (1 : Int32)))
        else
          (jLet ((i2 + (1 : Int32))) fun i7_ =>
          c_X0_freePlace_L4 n i0 i7_ (i3 + (1 : Int32)))))
set_option maxRecDepth 100000 in
set_option maxHeartbeats 4000000 in
theorem t_X0_freePlace_L4 {S : Mem} {w : Int32} (n : Nat) : ∀ (i0 : Int32) (i2 : Int32) (i3 : Int32), c_X0_freePlace_L4 n i0 i2 i3 = some w → J MX yX0_freePlace cX0_freePlace 4 (some .int) 0 0 4 [(0, .int i0), (2, .int i2), (3, .int i3)] [] S (some (.int w)) S := by
  induction n with
  | zero => intro i0 i2 i3 h; cases h
  | succ n lh =>
    intro i0 i2 i3 h
    refine J_iload_n 2 dX0_freePlace_4 rfl rfl ?_
    refine J_bipush (12 : Int32) dX0_freePlace_5 (by decide) ?_
    refine J_icmp_ge 40 dX0_freePlace_7 (by decide) h (fun c1 h2 => ?_) (fun c1 h2 => ?_)
    · clear h
      refine J_iload_n 1 dX0_freePlace_40 rfl rfl ?_
      have hw := Option.some.inj h2; subst hw
      exact J_iret rfl dX0_freePlace_41
    · clear h
      refine J_iload_n 0 dX0_freePlace_10 rfl rfl ?_
      refine J_iload_n 1 dX0_freePlace_11 rfl rfl ?_
      refine J_ishr dX0_freePlace_12 ?_
      refine J_iconst (1 : Int32) dX0_freePlace_13 (by decide) ?_
      refine J_iand dX0_freePlace_14 ?_
      refine J_if_eq 40 dX0_freePlace_15 (by decide) h2 (fun c3 h4 => ?_) (fun c3 h4 => ?_)
      · clear h2
        refine J_iload_n 1 dX0_freePlace_40 rfl rfl ?_
        have hw := Option.some.inj h4; subst hw
        exact J_iret rfl dX0_freePlace_41
      · clear h2
        refine J_iload_n 1 dX0_freePlace_18 rfl rfl ?_
        refine J_iconst (1 : Int32) dX0_freePlace_19 (by decide) ?_
        refine J_iadd dX0_freePlace_20 ?_
        refine J_bipush (12 : Int32) dX0_freePlace_21 (by decide) ?_
        refine J_icmp_ge 32 dX0_freePlace_23 (by decide) h4 (fun c5 h6 => ?_) (fun c5 h6 => ?_)
        · clear h4
          refine J_iconst (0 : Int32) dX0_freePlace_32 (by decide) ?_
          refine J_istore_n dX0_freePlace_33 rfl (by decide) [1, 0, 2] (lv' := [(0, .int i0), (2, .int (0 : Int32)), (3, .int i3)]) rfl ?_
          refine J_iinc 2 (1 : Int32) dX0_freePlace_34 rfl (by decide) (by decide) [1, 2, 0] (lv' := [(0, .int i0), (2, .int (0 : Int32)), (3, .int (i3 + (1 : Int32)))]) rfl ?_
          refine J_goto 4 dX0_freePlace_37 (by decide) ?_
          exact lh i0 (0 : Int32) (i3 + (1 : Int32)) h6
        · clear h4
          refine J_iload_n 1 dX0_freePlace_26 rfl rfl ?_
          refine J_iconst (1 : Int32) dX0_freePlace_27 (by decide) ?_
          refine J_iadd dX0_freePlace_28 ?_
          refine J_goto 33 dX0_freePlace_29 (by decide) ?_
          obtain ⟨i7_, ei7_, h8⟩ := jLet_some h6; clear h6
          refine J_topI ei7_ ?_
          refine J_istore_n dX0_freePlace_33 rfl (by decide) [1, 0, 2] (lv' := [(0, .int i0), (2, .int i7_), (3, .int i3)]) rfl ?_
          refine J_iinc 2 (1 : Int32) dX0_freePlace_34 rfl (by decide) (by decide) [1, 2, 0] (lv' := [(0, .int i0), (2, .int i7_), (3, .int (i3 + (1 : Int32)))]) rfl ?_
          refine J_goto 4 dX0_freePlace_37 (by decide) ?_
          exact lh i0 i7_ (i3 + (1 : Int32)) h8
def c_X0_freePlace (i0 : Int32) (i1 : Int32) : Option Int32 :=
  c_X0_freePlace_L4 bigN i0 i1 (0 : Int32)
set_option maxRecDepth 100000 in
set_option maxHeartbeats 4000000 in
theorem t_X0_freePlace {S : Mem} {i0 : Int32} {i1 : Int32} {w : Int32} (h : c_X0_freePlace i0 i1 = some w) : CT MX yX0_freePlace cX0_freePlace 4 (some .int) 0 0 [.int i0, .int i1] S (some (.int w)) S := by
  refine CT.of (lv := [(0, .int i0), (1, .int i1)]) (by decide) rfl (Nat.le_of_ble_eq_true rfl) ?_
  refine J_iload_n 1 dX0_freePlace_0 rfl rfl ?_
  refine J_istore_n dX0_freePlace_1 rfl (by decide) [1, 0] (lv' := [(0, .int i0), (2, .int i1)]) rfl ?_
  refine J_iconst (0 : Int32) dX0_freePlace_2 (by decide) ?_
  refine J_istore_n dX0_freePlace_3 rfl (by decide) [1, 2, 0] (lv' := [(0, .int i0), (2, .int i1), (3, .int (0 : Int32))]) rfl ?_
  exact t_X0_freePlace_L4 bigN i0 i1 (0 : Int32) h
def c_X0_draw_L107 : Nat → Mem → Nat → Int32 → Int32 → Int32 → Option Mem
  | 0, _, _, _, _, _ => none
  | n + 1, S, a0, i2, i7, i8 =>
    if i7 ≤ i8 then
      (some S)
    else
      (bnd (c_X0_next i2) fun i3_ =>
      bnd (c_X0_drawn i3_ (12 : Int32)) fun i5_ =>
      bnd (c_X0_freePlace (mI S a0 2) i5_) fun i7_ =>
      jLet (((mI S a0 2) ||| ((1 : Int32) <<< (i7_ &&& 31)))) fun i9_ =>
      jLet (mSI S a0 2 i9_) fun S11 =>
      c_X0_draw_L107 n S11 a0 i3_ i7 (i8 + (1 : Int32)))
set_option maxRecDepth 100000 in
set_option maxHeartbeats 4000000 in
theorem t_X0_draw_L107 {w : Mem} (n : Nat) : ∀ (S : Mem) (a0 : Nat) (i2 : Int32) (i7 : Int32) (i8 : Int32), (mKd S a0 = 1) → c_X0_draw_L107 n S a0 i2 i7 i8 = some w → J MX yX0_draw cX0_draw 9 none 2 51 107 [(0, .ref a0), (2, .int i2), (7, .int i7), (8, .int i8)] [] S none w := by
  induction n with
  | zero => intro S a0 i2 i7 i8 ha h; cases h
  | succ n lh =>
    intro S a0 i2 i7 i8 ha h
    refine J_iload 3 dX0_draw_107 rfl ?_
    refine J_iload 2 dX0_draw_109 rfl ?_
    refine J_icmp_ge 149 dX0_draw_111 (by decide) h (fun c1 h2 => ?_) (fun c1 h2 => ?_)
    · clear h
      have hw := Option.some.inj h2; subst hw
      exact J_vret rfl dX0_draw_149
    · clear h
      refine J_iload_n 1 dX0_draw_114 rfl rfl ?_
      obtain ⟨i3_, ei3_, h4⟩ := bnd_some h2; clear h2
      refine J_callS (As := [.int i2]) (rest := []) (st' := [.int i3_]) (t_X0_next ei3_) gC_X0_next gM_X0_20 rfl (by decide) (by decide) rfl rfl (Nat.le_of_ble_eq_true rfl) dX0_draw_115 ?_
      refine J_istore_n dX0_draw_118 rfl (by decide) [1, 0, 2, 3] (lv' := [(0, .ref a0), (2, .int i3_), (7, .int i7), (8, .int i8)]) rfl ?_
      refine J_aload_n 0 dX0_draw_119 rfl rfl ?_
      refine J_dup dX0_draw_120 rfl ?_
      refine J_get (k := 2) (v := .int (mI S a0 2)) dX0_draw_121 gF_X0_44 ha rfl ?_
      refine J_iconst (1 : Int32) dX0_draw_124 (by decide) ?_
      refine J_aload_n 0 dX0_draw_125 rfl rfl ?_
      refine J_get (k := 2) (v := .int (mI S a0 2)) dX0_draw_126 gF_X0_44 ha rfl ?_
      refine J_iload_n 1 dX0_draw_129 rfl rfl ?_
      refine J_bipush (12 : Int32) dX0_draw_130 (by decide) ?_
      obtain ⟨i5_, ei5_, h6⟩ := bnd_some h4; clear h4
      refine J_callS (As := [.int i3_, .int (12 : Int32)]) (rest := [.int (mI S a0 2), .int (1 : Int32), .int (mI S a0 2), .ref a0]) (st' := [.int i5_, .int (mI S a0 2), .int (1 : Int32), .int (mI S a0 2), .ref a0]) (t_X0_drawn ei5_) gC_X0_drawn gM_X0_24 rfl (by decide) (by decide) rfl rfl (Nat.le_of_ble_eq_true rfl) dX0_draw_132 ?_
      obtain ⟨i7_, ei7_, h8⟩ := bnd_some h6; clear h6
      refine J_callS (As := [.int (mI S a0 2), .int i5_]) (rest := [.int (1 : Int32), .int (mI S a0 2), .ref a0]) (st' := [.int i7_, .int (1 : Int32), .int (mI S a0 2), .ref a0]) (t_X0_freePlace ei7_) gC_X0_freePlace gM_X0_47 rfl (by decide) (by decide) rfl rfl (Nat.le_of_ble_eq_true rfl) dX0_draw_135 ?_
      refine J_ishl dX0_draw_138 ?_
      refine J_ior dX0_draw_139 ?_
      obtain ⟨i9_, ei9_, h10⟩ := jLet_some h8; clear h8
      refine J_topI ei9_ ?_
      refine J_putI (k := 2) dX0_draw_140 gW_X0_44 ha rfl ?_
      obtain ⟨S11, eS11, h12⟩ := jLet_some h10; clear h10
      refine J_topS eS11 ?_
      have hS11_a0 : mKd S11 a0 = 1 := by rw [eS11]; exact ha
      refine J_iinc 3 (1 : Int32) dX0_draw_143 rfl (by decide) (by decide) [1, 2, 3, 0] (lv' := [(0, .ref a0), (2, .int i3_), (7, .int i7), (8, .int (i8 + (1 : Int32)))]) rfl ?_
      refine J_goto 107 dX0_draw_146 (by decide) ?_
      exact lh S11 a0 i3_ i7 (i8 + (1 : Int32)) hS11_a0 h12
def c_X0_draw_J66 (S : Mem) (a0 : Nat) (i2 : Int32) (i5 : Int32) (is0 : Int32) : Option Mem :=
  bnd (c_X0_result (mI S a0 0) i5 is0) fun i1_ =>
  bnd (c_X0_spread S i5 is0 i1_ (mR S a0 1)) fun S3 =>
  bnd (c_X0_next i2) fun i5_ =>
  bnd (c_X0_drawn i5_ (4 : Int32)) fun i7_ =>
  jLet (((1 : Int32) + i7_)) fun i9_ =>
  c_X0_draw_L107 bigN S3 a0 i5_ i9_ (0 : Int32)
set_option maxRecDepth 100000 in
set_option maxHeartbeats 4000000 in
theorem t_X0_draw_J66 {S : Mem} {a0 : Nat} {i2 : Int32} {i5 : Int32} {is0 : Int32} {w : Mem} (ha : mKd S a0 = 1) (h : c_X0_draw_J66 S a0 i2 i5 is0 = some w) : J MX yX0_draw cX0_draw 9 none 2 51 66 [(0, .ref a0), (2, .int i2), (5, .int i5)] [.int is0] S none w := by
  refine J_istore dX0_draw_66 (by decide) [1, 2, 3, 0] (lv' := [(0, .ref a0), (2, .int i2), (5, .int i5), (6, .int is0)]) rfl ?_
  refine J_iload 2 dX0_draw_68 rfl ?_
  refine J_iload 3 dX0_draw_70 rfl ?_
  refine J_aload_n 0 dX0_draw_72 rfl rfl ?_
  refine J_get (k := 0) (v := .int (mI S a0 0)) dX0_draw_73 gF_X0_17 ha rfl ?_
  refine J_iload 2 dX0_draw_76 rfl ?_
  refine J_iload 3 dX0_draw_78 rfl ?_
  obtain ⟨i1_, ei1_, h2⟩ := bnd_some h; clear h
  refine J_callS (As := [.int (mI S a0 0), .int i5, .int is0]) (rest := [.int is0, .int i5]) (st' := [.int i1_, .int is0, .int i5]) (t_X0_result ei1_) gC_X0_result gM_X0_36 rfl (by decide) (by decide) rfl rfl (Nat.le_of_ble_eq_true rfl) dX0_draw_80 ?_
  refine J_aload_n 0 dX0_draw_83 rfl rfl ?_
  refine J_get (k := 1) (v := va_rf (mR S a0 1)) dX0_draw_84 gF_X0_9 ha rfl ?_
  obtain ⟨S3, eS3, h4⟩ := bnd_some h2; clear h2
  have cS3 := (t_X0_spread eS3)
  have lS3 : jle MX S S3 := cS3.1
  have hS3_a0 : mKd S3 a0 = 1 := kd_le lS3 ha
  refine J_callS (As := [.int i5, .int is0, .int i1_, va_rf (mR S a0 1)]) (rest := []) (st' := []) cS3 gC_X0_spread gM_X0_40 rfl (by decide) (by decide) rfl rfl (Nat.le_of_ble_eq_true rfl) dX0_draw_87 ?_
  refine J_iload_n 1 dX0_draw_90 rfl rfl ?_
  obtain ⟨i5_, ei5_, h6⟩ := bnd_some h4; clear h4
  refine J_callS (As := [.int i2]) (rest := []) (st' := [.int i5_]) (t_X0_next ei5_) gC_X0_next gM_X0_20 rfl (by decide) (by decide) rfl rfl (Nat.le_of_ble_eq_true rfl) dX0_draw_91 ?_
  refine J_istore_n dX0_draw_94 rfl (by decide) [1, 0] (lv' := [(0, .ref a0), (2, .int i5_)]) rfl ?_
  refine J_iconst (1 : Int32) dX0_draw_95 (by decide) ?_
  refine J_iload_n 1 dX0_draw_96 rfl rfl ?_
  refine J_iconst (4 : Int32) dX0_draw_97 (by decide) ?_
  obtain ⟨i7_, ei7_, h8⟩ := bnd_some h6; clear h6
  refine J_callS (As := [.int i5_, .int (4 : Int32)]) (rest := [.int (1 : Int32)]) (st' := [.int i7_, .int (1 : Int32)]) (t_X0_drawn ei7_) gC_X0_drawn gM_X0_24 rfl (by decide) (by decide) rfl rfl (Nat.le_of_ble_eq_true rfl) dX0_draw_98 ?_
  refine J_iadd dX0_draw_101 ?_
  obtain ⟨i9_, ei9_, h10⟩ := jLet_some h8; clear h8
  refine J_topI ei9_ ?_
  refine J_istore dX0_draw_102 (by decide) [1, 2, 0] (lv' := [(0, .ref a0), (2, .int i5_), (7, .int i9_)]) rfl ?_
  refine J_iconst (0 : Int32) dX0_draw_104 (by decide) ?_
  refine J_istore dX0_draw_105 (by decide) [1, 2, 3, 0] (lv' := [(0, .ref a0), (2, .int i5_), (7, .int i9_), (8, .int (0 : Int32))]) rfl ?_
  exact t_X0_draw_L107 bigN S3 a0 i5_ i9_ (0 : Int32) hS3_a0 h10
def c_X0_draw_J45 (S : Mem) (a0 : Nat) (i2 : Int32) (i3 : Int32) (i4 : Int32) (is0 : Int32) : Option Mem :=
  if (mI S a0 0) = (1 : Int32) then
    (c_X0_draw_J66 S a0 i2 is0 (if i4 < i3 then i4 else i3))
  else
    (c_X0_draw_J66 S a0 i2 is0 i4)
set_option maxRecDepth 100000 in
set_option maxHeartbeats 4000000 in
theorem t_X0_draw_J45 {S : Mem} {a0 : Nat} {i2 : Int32} {i3 : Int32} {i4 : Int32} {is0 : Int32} {w : Mem} (ha : mKd S a0 = 1) (h : c_X0_draw_J45 S a0 i2 i3 i4 is0 = some w) : J MX yX0_draw cX0_draw 9 none 2 51 45 [(0, .ref a0), (2, .int i2), (3, .int i3), (4, .int i4)] [.int is0] S none w := by
  refine J_istore dX0_draw_45 (by decide) [1, 2, 3, 4, 0] (lv' := [(0, .ref a0), (2, .int i2), (3, .int i3), (4, .int i4), (5, .int is0)]) rfl ?_
  refine J_aload_n 0 dX0_draw_47 rfl rfl ?_
  refine J_get (k := 0) (v := .int (mI S a0 0)) dX0_draw_48 gF_X0_17 ha rfl ?_
  refine J_iconst (1 : Int32) dX0_draw_51 (by decide) ?_
  refine J_icmp_ne 64 dX0_draw_52 (by decide) h (fun c1 h2 => ?_) (fun c1 h2 => ?_)
  · clear h
    refine J_iload_n 2 dX0_draw_55 rfl rfl ?_
    refine J_iload 3 dX0_draw_56 rfl ?_
    refine J_mmin dX0_draw_58 gM_X0_33 (by decide) (by decide) (Nat.le_of_ble_eq_true rfl) ?_
    refine J_goto 66 dX0_draw_61 (by decide) ?_
    refine J_lv [0, 1, 4] rfl ?_
    exact t_X0_draw_J66 ha h2
  · clear h
    refine J_iload 3 dX0_draw_64 rfl ?_
    refine J_lv [0, 1, 4] rfl ?_
    exact t_X0_draw_J66 ha h2
def c_X0_draw (S : Mem) (a0 : Nat) (i1 : Int32) : Option Mem :=
  bnd (c_X0_next i1) fun i1_ =>
  bnd (c_X0_drawn i1_ (1000 : Int32)) fun i3_ =>
  bnd (c_X0_next i1_) fun i5_ =>
  bnd (c_X0_drawn i5_ (1000 : Int32)) fun i7_ =>
  if (mI S a0 0) = (1 : Int32) then
    (c_X0_draw_J45 S a0 i5_ i3_ i7_ (if i3_ < i7_ then i7_ else i3_))
  else
    (c_X0_draw_J45 S a0 i5_ i3_ i7_ i3_)
set_option maxRecDepth 100000 in
set_option maxHeartbeats 4000000 in
theorem t_X0_draw {S : Mem} {a0 : Nat} {i1 : Int32} {w : Mem} (ha : mKd S a0 = 1) (h : c_X0_draw S a0 i1 = some w) : CT MX yX0_draw cX0_draw 9 none 2 51 [.ref a0, .int i1] S none w := by
  refine CT.of (lv := [(0, .ref a0), (1, .int i1)]) (by decide) rfl (Nat.le_of_ble_eq_true rfl) ?_
  refine J_iload_n 1 dX0_draw_0 rfl rfl ?_
  obtain ⟨i1_, ei1_, h2⟩ := bnd_some h; clear h
  refine J_callS (As := [.int i1]) (rest := []) (st' := [.int i1_]) (t_X0_next ei1_) gC_X0_next gM_X0_20 rfl (by decide) (by decide) rfl rfl (Nat.le_of_ble_eq_true rfl) dX0_draw_1 ?_
  refine J_istore_n dX0_draw_4 rfl (by decide) [1, 0] (lv' := [(0, .ref a0), (2, .int i1_)]) rfl ?_
  refine J_iload_n 1 dX0_draw_5 rfl rfl ?_
  refine J_sipush (1000 : Int32) dX0_draw_6 (by decide) ?_
  obtain ⟨i3_, ei3_, h4⟩ := bnd_some h2; clear h2
  refine J_callS (As := [.int i1_, .int (1000 : Int32)]) (rest := []) (st' := [.int i3_]) (t_X0_drawn ei3_) gC_X0_drawn gM_X0_24 rfl (by decide) (by decide) rfl rfl (Nat.le_of_ble_eq_true rfl) dX0_draw_9 ?_
  refine J_istore_n dX0_draw_12 rfl (by decide) [1, 2, 0] (lv' := [(0, .ref a0), (2, .int i1_), (3, .int i3_)]) rfl ?_
  refine J_iload_n 1 dX0_draw_13 rfl rfl ?_
  obtain ⟨i5_, ei5_, h6⟩ := bnd_some h4; clear h4
  refine J_callS (As := [.int i1_]) (rest := []) (st' := [.int i5_]) (t_X0_next ei5_) gC_X0_next gM_X0_20 rfl (by decide) (by decide) rfl rfl (Nat.le_of_ble_eq_true rfl) dX0_draw_14 ?_
  refine J_istore_n dX0_draw_17 rfl (by decide) [1, 0, 2] (lv' := [(0, .ref a0), (2, .int i5_), (3, .int i3_)]) rfl ?_
  refine J_iload_n 1 dX0_draw_18 rfl rfl ?_
  refine J_sipush (1000 : Int32) dX0_draw_19 (by decide) ?_
  obtain ⟨i7_, ei7_, h8⟩ := bnd_some h6; clear h6
  refine J_callS (As := [.int i5_, .int (1000 : Int32)]) (rest := []) (st' := [.int i7_]) (t_X0_drawn ei7_) gC_X0_drawn gM_X0_24 rfl (by decide) (by decide) rfl rfl (Nat.le_of_ble_eq_true rfl) dX0_draw_22 ?_
  refine J_istore dX0_draw_25 (by decide) [1, 2, 3, 0] (lv' := [(0, .ref a0), (2, .int i5_), (3, .int i3_), (4, .int i7_)]) rfl ?_
  refine J_aload_n 0 dX0_draw_27 rfl rfl ?_
  refine J_get (k := 0) (v := .int (mI S a0 0)) dX0_draw_28 gF_X0_17 ha rfl ?_
  refine J_iconst (1 : Int32) dX0_draw_31 (by decide) ?_
  refine J_icmp_ne 44 dX0_draw_32 (by decide) h8 (fun c9 h10 => ?_) (fun c9 h10 => ?_)
  · clear h8
    refine J_iload_n 2 dX0_draw_35 rfl rfl ?_
    refine J_iload 3 dX0_draw_36 rfl ?_
    refine J_mmax dX0_draw_38 gM_X0_28 (by decide) (by decide) (Nat.le_of_ble_eq_true rfl) ?_
    refine J_goto 45 dX0_draw_41 (by decide) ?_
    exact t_X0_draw_J45 ha h10
  · clear h8
    refine J_iload_n 2 dX0_draw_44 rfl rfl ?_
    exact t_X0_draw_J45 ha h10
def c_X0_isBlank (S : Mem) (a0 : Nat) (i1 : Int32) : Option Int32 :=
  if (((mI S a0 2) >>> (i1 &&& 31)) &&& (1 : Int32)) = 0 then
    (some (0 : Int32))
  else
    (some (1 : Int32))
set_option maxRecDepth 100000 in
set_option maxHeartbeats 4000000 in
theorem t_X0_isBlank {S : Mem} {a0 : Nat} {i1 : Int32} {w : Int32} (ha : mKd S a0 = 1) (h : c_X0_isBlank S a0 i1 = some w) : CT MX yX0_isBlank cX0_isBlank 2 (some .boolean) 0 0 [.ref a0, .int i1] S (some (.int w)) S := by
  refine CT.of (lv := [(0, .ref a0), (1, .int i1)]) (by decide) rfl (Nat.le_of_ble_eq_true rfl) ?_
  refine J_aload_n 0 dX0_isBlank_0 rfl rfl ?_
  refine J_get (k := 2) (v := .int (mI S a0 2)) dX0_isBlank_1 gF_X0_44 ha rfl ?_
  refine J_iload_n 1 dX0_isBlank_4 rfl rfl ?_
  refine J_ishr dX0_isBlank_5 ?_
  refine J_iconst (1 : Int32) dX0_isBlank_6 (by decide) ?_
  refine J_iand dX0_isBlank_7 ?_
  refine J_if_eq 15 dX0_isBlank_8 (by decide) h (fun c1 h2 => ?_) (fun c1 h2 => ?_)
  · clear h
    refine J_iconst (0 : Int32) dX0_isBlank_15 (by decide) ?_
    have hw := Option.some.inj h2; subst hw
    exact J_zret rfl (by decide) dX0_isBlank_16
  · clear h
    refine J_iconst (1 : Int32) dX0_isBlank_11 (by decide) ?_
    refine J_goto 16 dX0_isBlank_12 (by decide) ?_
    have hw := Option.some.inj h2; subst hw
    exact J_zret rfl (by decide) dX0_isBlank_16
def c_X0_fits_L5 (S : Mem) : Nat → Nat → Int32 → Int32 → Int32 → Option Int32
  | 0, _, _, _, _ => none
  | n + 1, a0, i1, i2, i3 =>
    if i3 < (6 : Int32) then
      (if i1 < 0 then
        (some (0 : Int32))
      else
        (some (1 : Int32)))
    else
      (bnd (c_X0_isBlank S a0 i3) fun i5_ =>
      if i5_ = 0 then
        (bnd (ob S (mR S a0 1) 8) fun a9 =>
        gd (inB i3 (mLn S a9)) <|
        if (mI S a9 (Int32.toNatClampNeg i3)) = (i2 - i2 / (10 : Int32) * (10 : Int32)) then
          (jLet ((i2 / (10 : Int32))) fun i15_ =>
          c_X0_fits_L5 S n a0 i1 i15_ (i3 + (-1 : Int32)))
        else
          (some (0 : Int32)))
      else
        (jLet ((i2 / (10 : Int32))) fun i17_ =>
        c_X0_fits_L5 S n a0 i1 i17_ (i3 + (-1 : Int32))))
set_option maxRecDepth 100000 in
set_option maxHeartbeats 4000000 in
theorem t_X0_fits_L5 {S : Mem} {w : Int32} (n : Nat) : ∀ (a0 : Nat) (i1 : Int32) (i2 : Int32) (i3 : Int32), (mKd S a0 = 1) → c_X0_fits_L5 S n a0 i1 i2 i3 = some w → J MX yX0_fits cX0_fits 4 (some .boolean) 1 21 5 [(0, .ref a0), (1, .int i1), (2, .int i2), (3, .int i3)] [] S (some (.int w)) S := by
  induction n with
  | zero => intro a0 i1 i2 i3 ha h; cases h
  | succ n lh =>
    intro a0 i1 i2 i3 ha h
    refine J_iload_n 3 dX0_fits_5 rfl rfl ?_
    refine J_bipush (6 : Int32) dX0_fits_6 (by decide) ?_
    refine J_icmp_lt 45 dX0_fits_8 (by decide) h (fun c1 h2 => ?_) (fun c1 h2 => ?_)
    · clear h
      refine J_iload_n 1 dX0_fits_45 rfl rfl ?_
      refine J_if_lt 53 dX0_fits_46 (by decide) h2 (fun c3 h4 => ?_) (fun c3 h4 => ?_)
      · clear h2
        refine J_iconst (0 : Int32) dX0_fits_53 (by decide) ?_
        have hw := Option.some.inj h4; subst hw
        exact J_zret rfl (by decide) dX0_fits_54
      · clear h2
        refine J_iconst (1 : Int32) dX0_fits_49 (by decide) ?_
        refine J_goto 54 dX0_fits_50 (by decide) ?_
        have hw := Option.some.inj h4; subst hw
        exact J_zret rfl (by decide) dX0_fits_54
    · clear h
      refine J_aload_n 0 dX0_fits_11 rfl rfl ?_
      refine J_iload_n 3 dX0_fits_12 rfl rfl ?_
      obtain ⟨i5_, ei5_, h6⟩ := bnd_some h2; clear h2
      refine J_callV (As := [.int i3]) (rest := []) (st' := [.int i5_]) (t_X0_isBlank ha ei5_) gC_X0_isBlank gM_X0_57 (mRecv ha (by decide) jCl0) rfl (by decide) (by decide) rfl rfl (Nat.le_of_ble_eq_true rfl) dX0_fits_13 ?_
      refine J_if_ne 34 dX0_fits_16 (by decide) h6 (fun c7 h8 => ?_) (fun c7 h8 => ?_)
      · clear h6
        refine J_aload_n 0 dX0_fits_19 rfl rfl ?_
        refine J_get (k := 1) (v := va_rf (mR S a0 1)) dX0_fits_20 gF_X0_9 ha rfl ?_
        refine J_iload_n 3 dX0_fits_23 rfl rfl ?_
        obtain ⟨a9, ea9, ka9, h10⟩ := ob_some h8; clear h8
        rw [ea9]
        refine J_lvst (lv' := [(0, .ref a0), (1, .int i1), (2, .int i2), (3, .int i3)]) (st' := [.int i3, .ref a9]) rfl rfl ?_
        obtain ⟨g11, h12⟩ := gd_some h10; clear h10
        refine J_iald dX0_fits_24 ka9 g11 ?_
        refine J_iload_n 2 dX0_fits_25 rfl rfl ?_
        refine J_bipush (10 : Int32) dX0_fits_26 (by decide) ?_
        refine J_irem dX0_fits_28 (by decide) ?_
        refine J_icmp_eq 34 dX0_fits_29 (by decide) h12 (fun c13 h14 => ?_) (fun c13 h14 => ?_)
        · clear h12
          refine J_iload_n 2 dX0_fits_34 rfl rfl ?_
          refine J_bipush (10 : Int32) dX0_fits_35 (by decide) ?_
          refine J_idiv dX0_fits_37 (by decide) ?_
          obtain ⟨i15_, ei15_, h16⟩ := jLet_some h14; clear h14
          refine J_topI ei15_ ?_
          refine J_istore_n dX0_fits_38 rfl (by decide) [1, 2, 0, 3] (lv' := [(0, .ref a0), (1, .int i1), (2, .int i15_), (3, .int i3)]) rfl ?_
          refine J_iinc 3 (-1 : Int32) dX0_fits_39 rfl (by decide) (by decide) [1, 2, 3, 0] (lv' := [(0, .ref a0), (1, .int i1), (2, .int i15_), (3, .int (i3 + (-1 : Int32)))]) rfl ?_
          refine J_goto 5 dX0_fits_42 (by decide) ?_
          exact lh a0 i1 i15_ (i3 + (-1 : Int32)) ha h16
        · clear h12
          refine J_iconst (0 : Int32) dX0_fits_32 (by decide) ?_
          have hw := Option.some.inj h14; subst hw
          exact J_zret rfl (by decide) dX0_fits_33
      · clear h6
        refine J_iload_n 2 dX0_fits_34 rfl rfl ?_
        refine J_bipush (10 : Int32) dX0_fits_35 (by decide) ?_
        refine J_idiv dX0_fits_37 (by decide) ?_
        obtain ⟨i17_, ei17_, h18⟩ := jLet_some h8; clear h8
        refine J_topI ei17_ ?_
        refine J_istore_n dX0_fits_38 rfl (by decide) [1, 2, 0, 3] (lv' := [(0, .ref a0), (1, .int i1), (2, .int i17_), (3, .int i3)]) rfl ?_
        refine J_iinc 3 (-1 : Int32) dX0_fits_39 rfl (by decide) (by decide) [1, 2, 3, 0] (lv' := [(0, .ref a0), (1, .int i1), (2, .int i17_), (3, .int (i3 + (-1 : Int32)))]) rfl ?_
        refine J_goto 5 dX0_fits_42 (by decide) ?_
        exact lh a0 i1 i17_ (i3 + (-1 : Int32)) ha h18
def c_X0_fits (S : Mem) (a0 : Nat) (i1 : Int32) : Option Int32 :=
  c_X0_fits_L5 S bigN a0 i1 i1 (11 : Int32)
set_option maxRecDepth 100000 in
set_option maxHeartbeats 4000000 in
theorem t_X0_fits {S : Mem} {a0 : Nat} {i1 : Int32} {w : Int32} (ha : mKd S a0 = 1) (h : c_X0_fits S a0 i1 = some w) : CT MX yX0_fits cX0_fits 4 (some .boolean) 1 21 [.ref a0, .int i1] S (some (.int w)) S := by
  refine CT.of (lv := [(0, .ref a0), (1, .int i1)]) (by decide) rfl (Nat.le_of_ble_eq_true rfl) ?_
  refine J_iload_n 1 dX0_fits_0 rfl rfl ?_
  refine J_istore_n dX0_fits_1 rfl (by decide) [1, 2, 0] (lv' := [(0, .ref a0), (1, .int i1), (2, .int i1)]) rfl ?_
  refine J_bipush (11 : Int32) dX0_fits_2 (by decide) ?_
  refine J_istore_n dX0_fits_4 rfl (by decide) [1, 2, 3, 0] (lv' := [(0, .ref a0), (1, .int i1), (2, .int i1), (3, .int (11 : Int32))]) rfl ?_
  exact t_X0_fits_L5 bigN a0 i1 i1 (11 : Int32) ha h
def c_X0_note (S : Mem) (a0 : Nat) (i1 : Int32) : Option Mem :=
  bnd (c_X0_result (mI S a0 0) (i1 / (1000 : Int32)) (i1 - i1 / (1000 : Int32) * (1000 : Int32))) fun i1_ =>
  bnd (c_X0_fits S a0 i1_) fun i3_ =>
  if i3_ = 0 then
    (some S)
  else
    (if 0 ≤ (mI S a0 4) then
      (jLet ((mI S a0 4)) fun i9_ =>
      jLet (mSI S a0 4 i9_) fun S11 =>
      jLet (((mI S11 a0 3) + (1 : Int32))) fun i13_ =>
      jLet (mSI S11 a0 3 i13_) fun S15 =>
      some S15)
    else
      (jLet (mSI S a0 4 i1) fun S17 =>
      jLet (((mI S17 a0 3) + (1 : Int32))) fun i19_ =>
      jLet (mSI S17 a0 3 i19_) fun S21 =>
      some S21))
set_option maxRecDepth 100000 in
set_option maxHeartbeats 4000000 in
theorem t_X0_note {S : Mem} {a0 : Nat} {i1 : Int32} {w : Mem} (ha : mKd S a0 = 1) (h : c_X0_note S a0 i1 = some w) : CT MX yX0_note cX0_note 2 none 2 44 [.ref a0, .int i1] S none w := by
  refine CT.of (lv := [(0, .ref a0), (1, .int i1)]) (by decide) rfl (Nat.le_of_ble_eq_true rfl) ?_
  refine J_aload_n 0 dX0_note_0 rfl rfl ?_
  refine J_aload_n 0 dX0_note_1 rfl rfl ?_
  refine J_get (k := 0) (v := .int (mI S a0 0)) dX0_note_2 gF_X0_17 ha rfl ?_
  refine J_iload_n 1 dX0_note_5 rfl rfl ?_
  refine J_sipush (1000 : Int32) dX0_note_6 (by decide) ?_
  refine J_idiv dX0_note_9 (by decide) ?_
  refine J_iload_n 1 dX0_note_10 rfl rfl ?_
  refine J_sipush (1000 : Int32) dX0_note_11 (by decide) ?_
  refine J_irem dX0_note_14 (by decide) ?_
  obtain ⟨i1_, ei1_, h2⟩ := bnd_some h; clear h
  refine J_callS (As := [.int (mI S a0 0), .int (i1 / (1000 : Int32)), .int (i1 - i1 / (1000 : Int32) * (1000 : Int32))]) (rest := [.ref a0]) (st' := [.int i1_, .ref a0]) (t_X0_result ei1_) gC_X0_result gM_X0_36 rfl (by decide) (by decide) rfl rfl (Nat.le_of_ble_eq_true rfl) dX0_note_15 ?_
  obtain ⟨i3_, ei3_, h4⟩ := bnd_some h2; clear h2
  refine J_callV (As := [.int i1_]) (rest := []) (st' := [.int i3_]) (t_X0_fits ha ei3_) gC_X0_fits gM_X0_72 (mRecv ha (by decide) jCl0) rfl (by decide) (by decide) rfl rfl (Nat.le_of_ble_eq_true rfl) dX0_note_18 ?_
  refine J_if_eq 53 dX0_note_21 (by decide) h4 (fun c5 h6 => ?_) (fun c5 h6 => ?_)
  · clear h4
    have hw := Option.some.inj h6; subst hw
    exact J_vret rfl dX0_note_53
  · clear h4
    refine J_aload_n 0 dX0_note_24 rfl rfl ?_
    refine J_aload_n 0 dX0_note_25 rfl rfl ?_
    refine J_get (k := 4) (v := .int (mI S a0 4)) dX0_note_26 gF_X0_13 ha rfl ?_
    refine J_if_ge 36 dX0_note_29 (by decide) h6 (fun c7 h8 => ?_) (fun c7 h8 => ?_)
    · clear h6
      refine J_aload_n 0 dX0_note_36 rfl rfl ?_
      refine J_get (k := 4) (v := .int (mI S a0 4)) dX0_note_37 gF_X0_13 ha rfl ?_
      obtain ⟨i9_, ei9_, h10⟩ := jLet_some h8; clear h8
      refine J_topI ei9_ ?_
      refine J_putI (k := 4) dX0_note_40 gW_X0_13 ha rfl ?_
      obtain ⟨S11, eS11, h12⟩ := jLet_some h10; clear h10
      refine J_topS eS11 ?_
      have hS11_a0 : mKd S11 a0 = 1 := by rw [eS11]; exact ha
      refine J_aload_n 0 dX0_note_43 rfl rfl ?_
      refine J_dup dX0_note_44 rfl ?_
      refine J_get (k := 3) (v := .int (mI S11 a0 3)) dX0_note_45 gF_X0_75 hS11_a0 rfl ?_
      refine J_iconst (1 : Int32) dX0_note_48 (by decide) ?_
      refine J_iadd dX0_note_49 ?_
      obtain ⟨i13_, ei13_, h14⟩ := jLet_some h12; clear h12
      refine J_topI ei13_ ?_
      refine J_putI (k := 3) dX0_note_50 gW_X0_75 hS11_a0 rfl ?_
      obtain ⟨S15, eS15, h16⟩ := jLet_some h14; clear h14
      refine J_topS eS15 ?_
      have hS15_a0 : mKd S15 a0 = 1 := by rw [eS15]; exact hS11_a0
      have hw := Option.some.inj h16; subst hw
      exact J_vret rfl dX0_note_53
    · clear h6
      refine J_iload_n 1 dX0_note_32 rfl rfl ?_
      refine J_goto 40 dX0_note_33 (by decide) ?_
      refine J_putI (k := 4) dX0_note_40 gW_X0_13 ha rfl ?_
      obtain ⟨S17, eS17, h18⟩ := jLet_some h8; clear h8
      refine J_topS eS17 ?_
      have hS17_a0 : mKd S17 a0 = 1 := by rw [eS17]; exact ha
      refine J_aload_n 0 dX0_note_43 rfl rfl ?_
      refine J_dup dX0_note_44 rfl ?_
      refine J_get (k := 3) (v := .int (mI S17 a0 3)) dX0_note_45 gF_X0_75 hS17_a0 rfl ?_
      refine J_iconst (1 : Int32) dX0_note_48 (by decide) ?_
      refine J_iadd dX0_note_49 ?_
      obtain ⟨i19_, ei19_, h20⟩ := jLet_some h18; clear h18
      refine J_topI ei19_ ?_
      refine J_putI (k := 3) dX0_note_50 gW_X0_75 hS17_a0 rfl ?_
      obtain ⟨S21, eS21, h22⟩ := jLet_some h20; clear h20
      refine J_topS eS21 ?_
      have hS21_a0 : mKd S21 a0 = 1 := by rw [eS21]; exact hS17_a0
      have hw := Option.some.inj h22; subst hw
      exact J_vret rfl dX0_note_53
def c_X0_tryFrom_L59 (rec : Mem → Nat → Int32 → Int32 → Option Mem) : Nat → Mem → Nat → Int32 → Int32 → Int32 → Int32 → Option Mem
  | 0, _, _, _, _, _, _ => none
  | n + 1, S, a0, i1, i2, i4, i5 =>
    if i4 < i5 then
      (some S)
    else
      (gd (kb S (mW S) 14) <|
      gd (inB i1 (mLn S (mW S))) <|
      bnd (rec S a0 (i1 + (1 : Int32)) (i2 + ((mI S (mW S) (Int32.toNatClampNeg i1)) * i5))) fun S7 =>
      c_X0_tryFrom_L59 rec n S7 a0 i1 i2 i4 (i5 + (1 : Int32)))
set_option maxRecDepth 100000 in
set_option maxHeartbeats 4000000 in
theorem t_X0_tryFrom_L59 {w : Mem} {n1 : Nat} {rec : Mem → Nat → Int32 → Int32 → Option Mem} (ih : ∀ (S : Mem) (a0 : Nat) (i1 : Int32) (i2 : Int32) (w : Mem), mKd S a0 = 1 → rec S a0 i1 i2 = some w → CT MX yX0_tryFrom cX0_tryFrom 6 none (3 + n1) (65 + n1 * 60) [.ref a0, .int i1, .int i2] S none w) (n : Nat) : ∀ (S : Mem) (a0 : Nat) (i1 : Int32) (i2 : Int32) (i4 : Int32) (i5 : Int32), (mKd S a0 = 1) → c_X0_tryFrom_L59 rec n S a0 i1 i2 i4 i5 = some w → J MX yX0_tryFrom cX0_tryFrom 6 none (3 + (n1 + 1)) (65 + (n1 + 1) * 60) 59 [(0, .ref a0), (1, .int i1), (2, .int i2), (4, .int i4), (5, .int i5)] [] S none w := by
  induction n with
  | zero => intro S a0 i1 i2 i4 i5 ha h; cases h
  | succ n lh =>
    intro S a0 i1 i2 i4 i5 ha h
    refine J_iload 4 dX0_tryFrom_59 rfl ?_
    refine J_iload 3 dX0_tryFrom_61 rfl ?_
    refine J_icmp_gt 89 dX0_tryFrom_63 (by decide) h (fun c1 h2 => ?_) (fun c1 h2 => ?_)
    · clear h
      have hw := Option.some.inj h2; subst hw
      exact J_vret rfl dX0_tryFrom_89
    · clear h
      refine J_aload_n 0 dX0_tryFrom_66 rfl rfl ?_
      refine J_iload_n 1 dX0_tryFrom_67 rfl rfl ?_
      refine J_iconst (1 : Int32) dX0_tryFrom_68 (by decide) ?_
      refine J_iadd dX0_tryFrom_69 ?_
      refine J_iload_n 2 dX0_tryFrom_70 rfl rfl ?_
      refine J_gets dX0_tryFrom_71 gS_X0_69 ?_
      refine J_iload_n 1 dX0_tryFrom_74 rfl rfl ?_
      obtain ⟨g3, h4⟩ := gd_some h2; clear h2
      have kg3 := kb_of g3
      obtain ⟨g5, h6⟩ := gd_some h4; clear h4
      refine J_wald dX0_tryFrom_75 kg3 g5 ?_
      refine J_iload 4 dX0_tryFrom_76 rfl ?_
      refine J_imul dX0_tryFrom_78 ?_
      refine J_iadd dX0_tryFrom_79 ?_
      obtain ⟨S7, eS7, h8⟩ := bnd_some h6; clear h6
      have cS7 := (ih S a0 (i1 + (1 : Int32)) (i2 + ((mI S (mW S) (Int32.toNatClampNeg i1)) * i5)) _ ha eS7)
      have lS7 : jle MX S S7 := cS7.1
      have hS7_a0 : mKd S7 a0 = 1 := kd_le lS7 ha
      have hS7_mWS : mKd S7 (mW S) = 14 := kd_le lS7 kg3
      refine J_callV (As := [.int (i1 + (1 : Int32)), .int (i2 + ((mI S (mW S) (Int32.toNatClampNeg i1)) * i5))]) (rest := []) (st' := []) cS7 gC_X0_tryFrom gM_X0_61 (mRecv ha (by decide) jCl0) rfl (by omega) (by omega) rfl rfl (Nat.le_of_ble_eq_true rfl) dX0_tryFrom_80 ?_
      refine J_iinc 4 (1 : Int32) dX0_tryFrom_83 rfl (by decide) (by decide) [1, 2, 3, 4, 0] (lv' := [(0, .ref a0), (1, .int i1), (2, .int i2), (4, .int i4), (5, .int (i5 + (1 : Int32)))]) rfl ?_
      refine J_goto 59 dX0_tryFrom_86 (by decide) ?_
      exact lh S7 a0 i1 i2 i4 (i5 + (1 : Int32)) hS7_a0 h8
def c_X0_tryFrom_J34 (rec : Mem → Nat → Int32 → Int32 → Option Mem) (S : Mem) (a0 : Nat) (i1 : Int32) (i2 : Int32) (is0 : Int32) : Option Mem :=
  bnd (c_X0_isBlank S a0 i1) fun i1_ =>
  if i1_ = 0 then
    (bnd (ob S (mR S a0 1) 8) fun a5 =>
    gd (inB i1 (mLn S a5)) <|
    jLet ((mI S a5 (Int32.toNatClampNeg i1))) fun i9_ =>
    c_X0_tryFrom_L59 rec bigN S a0 i1 i2 i9_ is0)
  else
    (c_X0_tryFrom_L59 rec bigN S a0 i1 i2 (9 : Int32) is0)
set_option maxRecDepth 100000 in
set_option maxHeartbeats 4000000 in
theorem t_X0_tryFrom_J34 {S : Mem} {a0 : Nat} {i1 : Int32} {i2 : Int32} {is0 : Int32} {w : Mem} {n1 : Nat} {rec : Mem → Nat → Int32 → Int32 → Option Mem} (ih : ∀ (S : Mem) (a0 : Nat) (i1 : Int32) (i2 : Int32) (w : Mem), mKd S a0 = 1 → rec S a0 i1 i2 = some w → CT MX yX0_tryFrom cX0_tryFrom 6 none (3 + n1) (65 + n1 * 60) [.ref a0, .int i1, .int i2] S none w) (ha : mKd S a0 = 1) (h : c_X0_tryFrom_J34 rec S a0 i1 i2 is0 = some w) : J MX yX0_tryFrom cX0_tryFrom 6 none (3 + (n1 + 1)) (65 + (n1 + 1) * 60) 34 [(0, .ref a0), (1, .int i1), (2, .int i2)] [.int is0] S none w := by
  refine J_istore_n dX0_tryFrom_34 rfl (by decide) [1, 2, 3, 0] (lv' := [(0, .ref a0), (1, .int i1), (2, .int i2), (3, .int is0)]) rfl ?_
  refine J_aload_n 0 dX0_tryFrom_35 rfl rfl ?_
  refine J_iload_n 1 dX0_tryFrom_36 rfl rfl ?_
  obtain ⟨i1_, ei1_, h2⟩ := bnd_some h; clear h
  refine J_callV (As := [.int i1]) (rest := []) (st' := [.int i1_]) (t_X0_isBlank ha ei1_) gC_X0_isBlank gM_X0_57 (mRecv ha (by decide) jCl0) rfl (by omega) (by omega) rfl rfl (Nat.le_of_ble_eq_true rfl) dX0_tryFrom_37 ?_
  refine J_if_eq 48 dX0_tryFrom_40 (by decide) h2 (fun c3 h4 => ?_) (fun c3 h4 => ?_)
  · clear h2
    refine J_aload_n 0 dX0_tryFrom_48 rfl rfl ?_
    refine J_get (k := 1) (v := va_rf (mR S a0 1)) dX0_tryFrom_49 gF_X0_9 ha rfl ?_
    refine J_iload_n 1 dX0_tryFrom_52 rfl rfl ?_
    obtain ⟨a5, ea5, ka5, h6⟩ := ob_some h4; clear h4
    rw [ea5]
    refine J_lvst (lv' := [(0, .ref a0), (1, .int i1), (2, .int i2), (3, .int is0)]) (st' := [.int i1, .ref a5]) rfl rfl ?_
    obtain ⟨g7, h8⟩ := gd_some h6; clear h6
    refine J_iald dX0_tryFrom_53 ka5 g7 ?_
    obtain ⟨i9_, ei9_, h10⟩ := jLet_some h8; clear h8
    refine J_topI ei9_ ?_
    refine J_istore dX0_tryFrom_54 (by decide) [1, 2, 3, 4, 0] (lv' := [(0, .ref a0), (1, .int i1), (2, .int i2), (3, .int is0), (4, .int i9_)]) rfl ?_
    refine J_iload_n 3 dX0_tryFrom_56 rfl rfl ?_
    refine J_istore dX0_tryFrom_57 (by decide) [1, 2, 3, 5, 0] (lv' := [(0, .ref a0), (1, .int i1), (2, .int i2), (4, .int i9_), (5, .int is0)]) rfl ?_
    exact t_X0_tryFrom_L59 ih bigN S a0 i1 i2 i9_ is0 ha h10
  · clear h2
    refine J_bipush (9 : Int32) dX0_tryFrom_43 (by decide) ?_
    refine J_goto 54 dX0_tryFrom_45 (by decide) ?_
    refine J_istore dX0_tryFrom_54 (by decide) [1, 2, 3, 4, 0] (lv' := [(0, .ref a0), (1, .int i1), (2, .int i2), (3, .int is0), (4, .int (9 : Int32))]) rfl ?_
    refine J_iload_n 3 dX0_tryFrom_56 rfl rfl ?_
    refine J_istore dX0_tryFrom_57 (by decide) [1, 2, 3, 5, 0] (lv' := [(0, .ref a0), (1, .int i1), (2, .int i2), (4, .int (9 : Int32)), (5, .int is0)]) rfl ?_
    exact t_X0_tryFrom_L59 ih bigN S a0 i1 i2 (9 : Int32) is0 ha h4
def c_X0_tryFrom : Nat → Mem → Nat → Int32 → Int32 → Option Mem
  | 0, _, _, _, _ => none
  | n + 1, S, a0, i1, i2 =>
    if i1 < 0 then
      (bnd (c_X0_note S a0 i2) fun S3 =>
      some S3)
    else
      (if i1 < (6 : Int32) then
        (bnd (c_X0_isBlank S a0 i1) fun i7_ =>
        if i7_ = 0 then
          (bnd (ob S (mR S a0 1) 8) fun a11 =>
          gd (inB i1 (mLn S a11)) <|
          c_X0_tryFrom_J34 (c_X0_tryFrom n) S a0 i1 i2 (mI S a11 (Int32.toNatClampNeg i1)))
        else
          (c_X0_tryFrom_J34 (c_X0_tryFrom n) S a0 i1 i2 (0 : Int32)))
      else
        (bnd (c_X0_note S a0 i2) fun S15 =>
        some S15))
set_option maxRecDepth 100000 in
set_option maxHeartbeats 4000000 in
theorem t_X0_tryFrom (n0 : Nat) : ∀ (S : Mem) (a0 : Nat) (i1 : Int32) (i2 : Int32) (w : Mem) (ha : mKd S a0 = 1), c_X0_tryFrom n0 S a0 i1 i2 = some w → CT MX yX0_tryFrom cX0_tryFrom 6 none (3 + n0) (65 + n0 * 60) [.ref a0, .int i1, .int i2] S none w := by
  induction n0 with
  | zero => intro S a0 i1 i2 w ha h; cases h
  | succ n ih =>
    intro S a0 i1 i2 w ha h
    refine CT.of (lv := [(0, .ref a0), (1, .int i1), (2, .int i2)]) (by decide) rfl (Nat.le_of_ble_eq_true rfl) ?_
    refine J_iload_n 1 dX0_tryFrom_0 rfl rfl ?_
    refine J_if_lt 10 dX0_tryFrom_1 (by decide) h (fun c1 h2 => ?_) (fun c1 h2 => ?_)
    · clear h
      refine J_aload_n 0 dX0_tryFrom_10 rfl rfl ?_
      refine J_iload_n 2 dX0_tryFrom_11 rfl rfl ?_
      obtain ⟨S3, eS3, h4⟩ := bnd_some h2; clear h2
      have cS3 := (t_X0_note ha eS3)
      have lS3 : jle MX S S3 := cS3.1
      have hS3_a0 : mKd S3 a0 = 1 := kd_le lS3 ha
      refine J_callV (As := [.int i2]) (rest := []) (st' := []) cS3 gC_X0_note gM_X0_65 (mRecv ha (by decide) jCl0) rfl (by omega) (by omega) rfl rfl (Nat.le_of_ble_eq_true rfl) dX0_tryFrom_12 ?_
      have hw := Option.some.inj h4; subst hw
      exact J_vret rfl dX0_tryFrom_15
    · clear h
      refine J_iload_n 1 dX0_tryFrom_4 rfl rfl ?_
      refine J_bipush (6 : Int32) dX0_tryFrom_5 (by decide) ?_
      refine J_icmp_lt 16 dX0_tryFrom_7 (by decide) h2 (fun c5 h6 => ?_) (fun c5 h6 => ?_)
      · clear h2
        refine J_aload_n 0 dX0_tryFrom_16 rfl rfl ?_
        refine J_iload_n 1 dX0_tryFrom_17 rfl rfl ?_
        obtain ⟨i7_, ei7_, h8⟩ := bnd_some h6; clear h6
        refine J_callV (As := [.int i1]) (rest := []) (st' := [.int i7_]) (t_X0_isBlank ha ei7_) gC_X0_isBlank gM_X0_57 (mRecv ha (by decide) jCl0) rfl (by omega) (by omega) rfl rfl (Nat.le_of_ble_eq_true rfl) dX0_tryFrom_18 ?_
        refine J_if_eq 28 dX0_tryFrom_21 (by decide) h8 (fun c9 h10 => ?_) (fun c9 h10 => ?_)
        · clear h8
          refine J_aload_n 0 dX0_tryFrom_28 rfl rfl ?_
          refine J_get (k := 1) (v := va_rf (mR S a0 1)) dX0_tryFrom_29 gF_X0_9 ha rfl ?_
          refine J_iload_n 1 dX0_tryFrom_32 rfl rfl ?_
          obtain ⟨a11, ea11, ka11, h12⟩ := ob_some h10; clear h10
          rw [ea11]
          refine J_lvst (lv' := [(0, .ref a0), (1, .int i1), (2, .int i2)]) (st' := [.int i1, .ref a11]) rfl rfl ?_
          obtain ⟨g13, h14⟩ := gd_some h12; clear h12
          refine J_iald dX0_tryFrom_33 ka11 g13 ?_
          exact t_X0_tryFrom_J34 ih ha h14
        · clear h8
          refine J_iconst (0 : Int32) dX0_tryFrom_24 (by decide) ?_
          refine J_goto 34 dX0_tryFrom_25 (by decide) ?_
          exact t_X0_tryFrom_J34 ih ha h10
      · clear h2
        refine J_aload_n 0 dX0_tryFrom_10 rfl rfl ?_
        refine J_iload_n 2 dX0_tryFrom_11 rfl rfl ?_
        obtain ⟨S15, eS15, h16⟩ := bnd_some h6; clear h6
        have cS15 := (t_X0_note ha eS15)
        have lS15 : jle MX S S15 := cS15.1
        have hS15_a0 : mKd S15 a0 = 1 := kd_le lS15 ha
        refine J_callV (As := [.int i2]) (rest := []) (st' := []) cS15 gC_X0_note gM_X0_65 (mRecv ha (by decide) jCl0) rfl (by omega) (by omega) rfl rfl (Nat.le_of_ble_eq_true rfl) dX0_tryFrom_12 ?_
        have hw := Option.some.inj h16; subst hw
        exact J_vret rfl dX0_tryFrom_15
def c_X0_solve (S : Mem) (a0 : Nat) : Option Mem :=
  bnd (c_X0_tryFrom 10 S a0 (0 : Int32) (0 : Int32)) fun S1 =>
  if (mI S1 a0 4) < 0 then
    (some S1)
  else
    (bnd (c_X0_result (mI S1 a0 0) ((mI S1 a0 4) / (1000 : Int32)) ((mI S1 a0 4) - (mI S1 a0 4) / (1000 : Int32) * (1000 : Int32))) fun i5_ =>
    bnd (c_X0_spread S1 ((mI S1 a0 4) / (1000 : Int32)) ((mI S1 a0 4) - (mI S1 a0 4) / (1000 : Int32) * (1000 : Int32)) i5_ (mR S1 a0 1)) fun S7 =>
    some S7)
set_option maxRecDepth 100000 in
set_option maxHeartbeats 4000000 in
theorem t_X0_solve {S : Mem} {a0 : Nat} {w : Mem} (ha : mKd S a0 = 1) (h : c_X0_solve S a0 = some w) : CT MX yX0_solve cX0_solve 1 none 14 690 [.ref a0] S none w := by
  refine CT.of (lv := [(0, .ref a0)]) (by decide) rfl (Nat.le_of_ble_eq_true rfl) ?_
  refine J_aload_n 0 dX0_solve_0 rfl rfl ?_
  refine J_iconst (0 : Int32) dX0_solve_1 (by decide) ?_
  refine J_iconst (0 : Int32) dX0_solve_2 (by decide) ?_
  obtain ⟨S1, eS1, h2⟩ := bnd_some h; clear h
  have cS1 := (t_X0_tryFrom 10 S a0 (0 : Int32) (0 : Int32) _ ha eS1)
  have lS1 : jle MX S S1 := cS1.1
  have hS1_a0 : mKd S1 a0 = 1 := kd_le lS1 ha
  refine J_callV (As := [.int (0 : Int32), .int (0 : Int32)]) (rest := []) (st' := []) cS1 gC_X0_tryFrom gM_X0_61 (mRecv ha (by decide) jCl0) rfl (by decide) (by decide) rfl rfl (Nat.le_of_ble_eq_true rfl) dX0_solve_3 ?_
  refine J_aload_n 0 dX0_solve_6 rfl rfl ?_
  refine J_get (k := 4) (v := .int (mI S1 a0 4)) dX0_solve_7 gF_X0_13 hS1_a0 rfl ?_
  refine J_if_lt 59 dX0_solve_10 (by decide) h2 (fun c3 h4 => ?_) (fun c3 h4 => ?_)
  · clear h2
    have hw := Option.some.inj h4; subst hw
    exact J_vret rfl dX0_solve_59
  · clear h2
    refine J_aload_n 0 dX0_solve_13 rfl rfl ?_
    refine J_get (k := 4) (v := .int (mI S1 a0 4)) dX0_solve_14 gF_X0_13 hS1_a0 rfl ?_
    refine J_sipush (1000 : Int32) dX0_solve_17 (by decide) ?_
    refine J_idiv dX0_solve_20 (by decide) ?_
    refine J_aload_n 0 dX0_solve_21 rfl rfl ?_
    refine J_get (k := 4) (v := .int (mI S1 a0 4)) dX0_solve_22 gF_X0_13 hS1_a0 rfl ?_
    refine J_sipush (1000 : Int32) dX0_solve_25 (by decide) ?_
    refine J_irem dX0_solve_28 (by decide) ?_
    refine J_aload_n 0 dX0_solve_29 rfl rfl ?_
    refine J_get (k := 0) (v := .int (mI S1 a0 0)) dX0_solve_30 gF_X0_17 hS1_a0 rfl ?_
    refine J_aload_n 0 dX0_solve_33 rfl rfl ?_
    refine J_get (k := 4) (v := .int (mI S1 a0 4)) dX0_solve_34 gF_X0_13 hS1_a0 rfl ?_
    refine J_sipush (1000 : Int32) dX0_solve_37 (by decide) ?_
    refine J_idiv dX0_solve_40 (by decide) ?_
    refine J_aload_n 0 dX0_solve_41 rfl rfl ?_
    refine J_get (k := 4) (v := .int (mI S1 a0 4)) dX0_solve_42 gF_X0_13 hS1_a0 rfl ?_
    refine J_sipush (1000 : Int32) dX0_solve_45 (by decide) ?_
    refine J_irem dX0_solve_48 (by decide) ?_
    obtain ⟨i5_, ei5_, h6⟩ := bnd_some h4; clear h4
    refine J_callS (As := [.int (mI S1 a0 0), .int ((mI S1 a0 4) / (1000 : Int32)), .int ((mI S1 a0 4) - (mI S1 a0 4) / (1000 : Int32) * (1000 : Int32))]) (rest := [.int ((mI S1 a0 4) - (mI S1 a0 4) / (1000 : Int32) * (1000 : Int32)), .int ((mI S1 a0 4) / (1000 : Int32))]) (st' := [.int i5_, .int ((mI S1 a0 4) - (mI S1 a0 4) / (1000 : Int32) * (1000 : Int32)), .int ((mI S1 a0 4) / (1000 : Int32))]) (t_X0_result ei5_) gC_X0_result gM_X0_36 rfl (by decide) (by decide) rfl rfl (Nat.le_of_ble_eq_true rfl) dX0_solve_49 ?_
    refine J_aload_n 0 dX0_solve_52 rfl rfl ?_
    refine J_get (k := 1) (v := va_rf (mR S1 a0 1)) dX0_solve_53 gF_X0_9 hS1_a0 rfl ?_
    obtain ⟨S7, eS7, h8⟩ := bnd_some h6; clear h6
    have cS7 := (t_X0_spread eS7)
    have lS7 : jle MX S1 S7 := cS7.1
    have hS7_a0 : mKd S7 a0 = 1 := kd_le lS7 hS1_a0
    refine J_callS (As := [.int ((mI S1 a0 4) / (1000 : Int32)), .int ((mI S1 a0 4) - (mI S1 a0 4) / (1000 : Int32) * (1000 : Int32)), .int i5_, va_rf (mR S1 a0 1)]) (rest := []) (st' := []) cS7 gC_X0_spread gM_X0_40 rfl (by decide) (by decide) rfl rfl (Nat.le_of_ble_eq_true rfl) dX0_solve_56 ?_
    have hw := Option.some.inj h8; subst hw
    exact J_vret rfl dX0_solve_59
def c_X5_baseOf (i0 : Int32) : Option Int32 :=
  if i0 = (3 : Int32) then
    (some (16 : Int32))
  else
    (some (10 : Int32))
set_option maxRecDepth 100000 in
set_option maxHeartbeats 4000000 in
theorem t_X5_baseOf {S : Mem} {i0 : Int32} {w : Int32} (h : c_X5_baseOf i0 = some w) : CT MX yX5_baseOf cX5_baseOf 1 (some .int) 0 0 [.int i0] S (some (.int w)) S := by
  refine CT.of (lv := [(0, .int i0)]) (by decide) rfl (Nat.le_of_ble_eq_true rfl) ?_
  refine J_iload_n 0 dX5_baseOf_0 rfl rfl ?_
  refine J_iconst (3 : Int32) dX5_baseOf_1 (by decide) ?_
  refine J_icmp_ne 10 dX5_baseOf_2 (by decide) h (fun c1 h2 => ?_) (fun c1 h2 => ?_)
  · clear h
    refine J_bipush (16 : Int32) dX5_baseOf_5 (by decide) ?_
    refine J_goto 12 dX5_baseOf_7 (by decide) ?_
    have hw := Option.some.inj h2; subst hw
    exact J_iret rfl dX5_baseOf_12
  · clear h
    refine J_bipush (10 : Int32) dX5_baseOf_10 (by decide) ?_
    have hw := Option.some.inj h2; subst hw
    exact J_iret rfl dX5_baseOf_12
def c_X4_init_J64 (S : Mem) (a0 : Nat) (is1 : Int32) : Option Mem :=
  jLet (mSI S a0 3 is1) fun S1 =>
  if (mI S1 a0 0) = 0 then
    (jLet (mSI S1 a0 1 (2 : Int32)) fun S5 =>
    jLet ((mI S5 a0 1)) fun i7_ =>
    jLet (mSI S5 a0 4 i7_) fun S9 =>
    some S9)
  else
    (jLet (mSI S1 a0 1 (1 : Int32)) fun S11 =>
    jLet ((mI S11 a0 1)) fun i13_ =>
    jLet (mSI S11 a0 4 i13_) fun S15 =>
    some S15)
set_option maxRecDepth 100000 in
set_option maxHeartbeats 4000000 in
theorem t_X4_init_J64 {S : Mem} {a0 : Nat} {is1 : Int32} {w : Mem} (ha : mKd S a0 = 5) (h : c_X4_init_J64 S a0 is1 = some w) : J MX yX4_init cX4_init 2 none 1 40 64 [(0, .ref a0)] [.int is1, .ref a0] S none w := by
  refine J_putIF (k := 3) dX4_init_64 rfl gP_X4_19 ha rfl ?_
  obtain ⟨S1, eS1, h2⟩ := jLet_some h; clear h
  refine J_topS eS1 ?_
  have hS1_a0 : mKd S1 a0 = 5 := by rw [eS1]; exact ha
  refine J_aload_n 0 dX4_init_67 rfl rfl ?_
  refine J_aload_n 0 dX4_init_68 rfl rfl ?_
  refine J_get (k := 0) (v := .int (mI S1 a0 0)) dX4_init_69 gF_X4_9 hS1_a0 rfl ?_
  refine J_if_eq 79 dX4_init_72 (by decide) h2 (fun c3 h4 => ?_) (fun c3 h4 => ?_)
  · clear h2
    refine J_iconst (2 : Int32) dX4_init_79 (by decide) ?_
    refine J_putIF (k := 1) dX4_init_80 rfl gP_X4_22 hS1_a0 rfl ?_
    obtain ⟨S5, eS5, h6⟩ := jLet_some h4; clear h4
    refine J_topS eS5 ?_
    have hS5_a0 : mKd S5 a0 = 5 := by rw [eS5]; exact hS1_a0
    refine J_aload_n 0 dX4_init_83 rfl rfl ?_
    refine J_aload_n 0 dX4_init_84 rfl rfl ?_
    refine J_get (k := 1) (v := .int (mI S5 a0 1)) dX4_init_85 gF_X4_22 hS5_a0 rfl ?_
    obtain ⟨i7_, ei7_, h8⟩ := jLet_some h6; clear h6
    refine J_topI ei7_ ?_
    refine J_putI (k := 4) dX4_init_88 gW_X4_25 hS5_a0 rfl ?_
    obtain ⟨S9, eS9, h10⟩ := jLet_some h8; clear h8
    refine J_topS eS9 ?_
    have hS9_a0 : mKd S9 a0 = 5 := by rw [eS9]; exact hS5_a0
    have hw := Option.some.inj h10; subst hw
    exact J_vret rfl dX4_init_91
  · clear h2
    refine J_iconst (1 : Int32) dX4_init_75 (by decide) ?_
    refine J_goto 80 dX4_init_76 (by decide) ?_
    refine J_putIF (k := 1) dX4_init_80 rfl gP_X4_22 hS1_a0 rfl ?_
    obtain ⟨S11, eS11, h12⟩ := jLet_some h4; clear h4
    refine J_topS eS11 ?_
    have hS11_a0 : mKd S11 a0 = 5 := by rw [eS11]; exact hS1_a0
    refine J_aload_n 0 dX4_init_83 rfl rfl ?_
    refine J_aload_n 0 dX4_init_84 rfl rfl ?_
    refine J_get (k := 1) (v := .int (mI S11 a0 1)) dX4_init_85 gF_X4_22 hS11_a0 rfl ?_
    obtain ⟨i13_, ei13_, h14⟩ := jLet_some h12; clear h12
    refine J_topI ei13_ ?_
    refine J_putI (k := 4) dX4_init_88 gW_X4_25 hS11_a0 rfl ?_
    obtain ⟨S15, eS15, h16⟩ := jLet_some h14; clear h14
    refine J_topS eS15 ?_
    have hS15_a0 : mKd S15 a0 = 5 := by rw [eS15]; exact hS11_a0
    have hw := Option.some.inj h16; subst hw
    exact J_vret rfl dX4_init_91
def c_X4_init_J40 (S : Mem) (a0 : Nat) (i1 : Int32) (is1 : Int32) : Option Mem :=
  jLet (mSI S a0 2 is1) fun S1 =>
  if (mI S1 a0 0) = 0 then
    (if i1 = 0 then
      (c_X4_init_J64 S1 a0 (1 : Int32))
    else
      (c_X4_init_J64 S1 a0 (2 : Int32)))
  else
    (c_X4_init_J64 S1 a0 (0 : Int32))
set_option maxRecDepth 100000 in
set_option maxHeartbeats 4000000 in
theorem t_X4_init_J40 {S : Mem} {a0 : Nat} {i1 : Int32} {is1 : Int32} {w : Mem} (ha : mKd S a0 = 5) (h : c_X4_init_J40 S a0 i1 is1 = some w) : J MX yX4_init cX4_init 2 none 1 40 40 [(0, .ref a0), (1, .int i1)] [.int is1, .ref a0] S none w := by
  refine J_putIF (k := 2) dX4_init_40 rfl gP_X4_15 ha rfl ?_
  obtain ⟨S1, eS1, h2⟩ := jLet_some h; clear h
  refine J_topS eS1 ?_
  have hS1_a0 : mKd S1 a0 = 5 := by rw [eS1]; exact ha
  refine J_aload_n 0 dX4_init_43 rfl rfl ?_
  refine J_aload_n 0 dX4_init_44 rfl rfl ?_
  refine J_get (k := 0) (v := .int (mI S1 a0 0)) dX4_init_45 gF_X4_9 hS1_a0 rfl ?_
  refine J_if_eq 55 dX4_init_48 (by decide) h2 (fun c3 h4 => ?_) (fun c3 h4 => ?_)
  · clear h2
    refine J_iload_n 1 dX4_init_55 rfl rfl ?_
    refine J_if_ne 63 dX4_init_56 (by decide) h4 (fun c5 h6 => ?_) (fun c5 h6 => ?_)
    · clear h4
      refine J_iconst (1 : Int32) dX4_init_59 (by decide) ?_
      refine J_goto 64 dX4_init_60 (by decide) ?_
      refine J_lv [0] rfl ?_
      exact t_X4_init_J64 hS1_a0 h6
    · clear h4
      refine J_iconst (2 : Int32) dX4_init_63 (by decide) ?_
      refine J_lv [0] rfl ?_
      exact t_X4_init_J64 hS1_a0 h6
  · clear h2
    refine J_iconst (0 : Int32) dX4_init_51 (by decide) ?_
    refine J_goto 64 dX4_init_52 (by decide) ?_
    refine J_lv [0] rfl ?_
    exact t_X4_init_J64 hS1_a0 h4
def c_X4_init_J15 (S : Mem) (a0 : Nat) (i1 : Int32) (is1 : Int32) : Option Mem :=
  gd (zb is1) <|
  jLet (mSI S a0 0 is1) fun S3 =>
  if (mI S3 a0 0) = 0 then
    (if i1 = 0 then
      (c_X4_init_J40 S3 a0 i1 (4 : Int32))
    else
      (c_X4_init_J40 S3 a0 i1 (5 : Int32)))
  else
    (c_X4_init_J40 S3 a0 i1 (10 : Int32))
set_option maxRecDepth 100000 in
set_option maxHeartbeats 4000000 in
theorem t_X4_init_J15 {S : Mem} {a0 : Nat} {i1 : Int32} {is1 : Int32} {w : Mem} (ha : mKd S a0 = 5) (h : c_X4_init_J15 S a0 i1 is1 = some w) : J MX yX4_init cX4_init 2 none 1 40 15 [(0, .ref a0), (1, .int i1)] [.int is1, .ref a0] S none w := by
  obtain ⟨g1, h2⟩ := gd_some h; clear h
  refine J_putZF (k := 0) dX4_init_15 rfl gP_X4_9 ha rfl (zb_of g1) ?_
  obtain ⟨S3, eS3, h4⟩ := jLet_some h2; clear h2
  refine J_topS eS3 ?_
  have hS3_a0 : mKd S3 a0 = 5 := by rw [eS3]; exact ha
  refine J_aload_n 0 dX4_init_18 rfl rfl ?_
  refine J_aload_n 0 dX4_init_19 rfl rfl ?_
  refine J_get (k := 0) (v := .int (mI S3 a0 0)) dX4_init_20 gF_X4_9 hS3_a0 rfl ?_
  refine J_if_eq 31 dX4_init_23 (by decide) h4 (fun c5 h6 => ?_) (fun c5 h6 => ?_)
  · clear h4
    refine J_iload_n 1 dX4_init_31 rfl rfl ?_
    refine J_if_ne 39 dX4_init_32 (by decide) h6 (fun c7 h8 => ?_) (fun c7 h8 => ?_)
    · clear h6
      refine J_iconst (4 : Int32) dX4_init_35 (by decide) ?_
      refine J_goto 40 dX4_init_36 (by decide) ?_
      exact t_X4_init_J40 hS3_a0 h8
    · clear h6
      refine J_iconst (5 : Int32) dX4_init_39 (by decide) ?_
      exact t_X4_init_J40 hS3_a0 h8
  · clear h4
    refine J_bipush (10 : Int32) dX4_init_26 (by decide) ?_
    refine J_goto 40 dX4_init_28 (by decide) ?_
    exact t_X4_init_J40 hS3_a0 h6
def c_X4_init (S : Mem) (a0 : Nat) (i1 : Int32) : Option Mem :=
  if i1 = (2 : Int32) then
    (c_X4_init_J15 S a0 i1 (1 : Int32))
  else
    (c_X4_init_J15 S a0 i1 (0 : Int32))
set_option maxRecDepth 100000 in
set_option maxHeartbeats 4000000 in
theorem t_X4_init {S : Mem} {a0 : Nat} {i1 : Int32} {w : Mem} (ha : mKd S a0 = 5) (h : c_X4_init S a0 i1 = some w) : CT MX yX4_init cX4_init 2 none 1 40 [.ref a0, .int i1] S none w := by
  refine CT.of (lv := [(0, .ref a0), (1, .int i1)]) (by decide) rfl (Nat.le_of_ble_eq_true rfl) ?_
  refine J_aload_n 0 dX4_init_0 rfl rfl ?_
  refine J_objInit gO_X4_3 gO_i gO_c (by decide) (by decide) (Nat.le_of_ble_eq_true rfl) dX4_init_1 ?_
  refine J_aload_n 0 dX4_init_4 rfl rfl ?_
  refine J_iload_n 1 dX4_init_5 rfl rfl ?_
  refine J_iconst (2 : Int32) dX4_init_6 (by decide) ?_
  refine J_icmp_ne 14 dX4_init_7 (by decide) h (fun c1 h2 => ?_) (fun c1 h2 => ?_)
  · clear h
    refine J_iconst (1 : Int32) dX4_init_10 (by decide) ?_
    refine J_goto 15 dX4_init_11 (by decide) ?_
    exact t_X4_init_J15 ha h2
  · clear h
    refine J_iconst (0 : Int32) dX4_init_14 (by decide) ?_
    exact t_X4_init_J15 ha h2
def c_X1_init_L49 : Nat → Mem → Nat → Int32 → Int32 → Option Mem
  | 0, _, _, _, _ => none
  | n + 1, S, a0, i2, i4 =>
    bnd (ob S (mR S a0 5) 12) fun a1 =>
    if (nI (mLn S a1)) ≤ i4 then
      (jLet (mSR S a0 6 none) fun S5 =>
      jLet (mSR S5 a0 7 none) fun S7 =>
      some S7)
    else
      (jLet (mNx S) fun a10 =>
      jLet (mNew S 5 0 (cN 4)) fun S9 =>
      bnd (c_X4_init S9 a10 i2) fun S13 =>
      bnd (ob S13 (mR S a0 5) 12) fun a15 =>
      gd (inB i4 (mLn S13 a15)) <|
      jLet (mSR S13 a15 (Int32.toNatClampNeg i4) (some a10)) fun S19 =>
      c_X1_init_L49 n S19 a0 i2 (i4 + (1 : Int32)))
set_option maxRecDepth 100000 in
set_option maxHeartbeats 4000000 in
theorem t_X1_init_L49 {w : Mem} (n : Nat) : ∀ (S : Mem) (a0 : Nat) (i2 : Int32) (i4 : Int32), (mKd S a0 = 2) → c_X1_init_L49 n S a0 i2 i4 = some w → J MX yX1_init cX1_init 5 none 2 61 49 [(0, .ref a0), (2, .int i2), (4, .int i4)] [] S none w := by
  induction n with
  | zero => intro S a0 i2 i4 ha h; cases h
  | succ n lh =>
    intro S a0 i2 i4 ha h
    refine J_iload 2 dX1_init_49 rfl ?_
    refine J_aload_n 0 dX1_init_51 rfl rfl ?_
    refine J_get (k := 5) (v := va_rf (mR S a0 5)) dX1_init_52 gF_X1_39 ha rfl ?_
    obtain ⟨a1, ea1, ka1, h2⟩ := ob_some h; clear h
    rw [ea1]
    refine J_lvst (lv' := [(0, .ref a0), (2, .int i2), (4, .int i4)]) (st' := [.ref a1, .int i4]) rfl rfl ?_
    refine J_alen (z := 4) dX1_init_55 (fun _ => rfl) ka1 ?_
    refine J_icmp_ge 80 dX1_init_56 (by decide) h2 (fun c3 h4 => ?_) (fun c3 h4 => ?_)
    · clear h2
      refine J_aload_n 0 dX1_init_80 rfl rfl ?_
      refine J_null dX1_init_81 ?_
      refine J_putRF (k := 6) (x := none) dX1_init_82 rfl gP_X1_46 ha rfl ?_
      obtain ⟨S5, eS5, h6⟩ := jLet_some h4; clear h4
      refine J_topS eS5 ?_
      have hS5_a0 : mKd S5 a0 = 2 := by rw [eS5]; exact ha
      have hS5_a1 : mKd S5 a1 = 12 := by rw [eS5]; exact ka1
      refine J_aload_n 0 dX1_init_85 rfl rfl ?_
      refine J_null dX1_init_86 ?_
      refine J_putRF (k := 7) (x := none) dX1_init_87 rfl gP_X1_50 hS5_a0 rfl ?_
      obtain ⟨S7, eS7, h8⟩ := jLet_some h6; clear h6
      refine J_topS eS7 ?_
      have hS7_a0 : mKd S7 a0 = 2 := by rw [eS7]; exact hS5_a0
      have hS7_a1 : mKd S7 a1 = 12 := by rw [eS7]; exact hS5_a1
      have hw := Option.some.inj h8; subst hw
      exact J_vret rfl dX1_init_90
    · clear h2
      refine J_aload_n 0 dX1_init_59 rfl rfl ?_
      refine J_get (k := 5) (v := va_rf (mR S a0 5)) dX1_init_60 gF_X1_39 ha rfl ?_
      refine J_iload 2 dX1_init_63 rfl ?_
      refine J_new dX1_init_65 jCl4 (by decide) (by decide +kernel) gN_X1_37 ?_
      obtain ⟨a10, ea10, h11⟩ := jLet_some h4; clear h4
      obtain ⟨S9, eS9, h12⟩ := jLet_some h11; clear h11
      rw [← ea10]
      refine J_topS eS9 ?_
      have lS9 : jle MX S S9 := by rw [eS9]; exact mNew_le _ _ _ _
      have hS9_a0 : mKd S9 a0 = 2 := kd_le lS9 ha
      have hS9_a1 : mKd S9 a1 = 12 := kd_le lS9 ka1
      have hS9_new : mKd S9 a10 = 5 := by rw [eS9, mKd_new, if_pos ea10]
      refine J_dup dX1_init_68 rfl ?_
      refine J_iload_n 1 dX1_init_69 rfl rfl ?_
      obtain ⟨S13, eS13, h14⟩ := bnd_some h12; clear h12
      have cS13 := (t_X4_init hS9_new eS13)
      have lS13 : jle MX S9 S13 := cS13.1
      have hS13_a0 : mKd S13 a0 = 2 := kd_le lS13 hS9_a0
      have hS13_a1 : mKd S13 a1 = 12 := kd_le lS13 hS9_a1
      have hS13_a10 : mKd S13 a10 = 5 := kd_le lS13 hS9_new
      refine J_callI (As := [.int i2]) (rest := [.ref a10, .int i4, va_rf (mR S a0 5)]) (st' := [.ref a10, .int i4, va_rf (mR S a0 5)]) cS13 gC_X4_init gM_X1_43 rfl rfl (by decide) (by decide) rfl rfl (by simp only [List.map_cons, List.map_nil, List.sum_cons, List.sum_nil, va_rf_cat]; exact Nat.le_of_ble_eq_true rfl) dX1_init_70 ?_
      obtain ⟨a15, ea15, ka15, h16⟩ := ob_some h14; clear h14
      rw [ea15]
      refine J_lvst (lv' := [(0, .ref a0), (2, .int i2), (4, .int i4)]) (st' := [.ref a10, .int i4, .ref a15]) rfl rfl ?_
      obtain ⟨g17, h18⟩ := gd_some h16; clear h16
      refine J_aast (z := 4) dX1_init_73 (fun _ => rfl) (fun _ _ => rfl) jCl4 (by decide) (by decide) hS13_a10 ka15 g17 ?_
      obtain ⟨S19, eS19, h20⟩ := jLet_some h18; clear h18
      refine J_topS eS19 ?_
      have hS19_a0 : mKd S19 a0 = 2 := by rw [eS19]; exact hS13_a0
      have hS19_a1 : mKd S19 a1 = 12 := by rw [eS19]; exact hS13_a1
      have hS19_a10 : mKd S19 a10 = 5 := by rw [eS19]; exact hS13_a10
      have hS19_a15 : mKd S19 a15 = 12 := by rw [eS19]; exact ka15
      refine J_iinc 2 (1 : Int32) dX1_init_74 rfl (by decide) (by decide) [1, 2, 0] (lv' := [(0, .ref a0), (2, .int i2), (4, .int (i4 + (1 : Int32)))]) rfl ?_
      refine J_goto 49 dX1_init_77 (by decide) ?_
      exact lh S19 a0 i2 (i4 + (1 : Int32)) hS19_a0 h20
def c_X1_init (S : Mem) (a0 : Nat) (i1 : Int32) (i2 : Int32) (i3 : Int32) : Option Mem :=
  jLet (mSI S a0 0 i1) fun S1 =>
  jLet (mSI S1 a0 1 i2) fun S3 =>
  bnd (c_X5_baseOf i2) fun i5_ =>
  jLet (mSI S3 a0 2 i5_) fun S7 =>
  jLet (mSI S7 a0 3 (0 : Int32)) fun S9 =>
  jLet (((1 : Int32) <<< (i1 &&& 31))) fun i11_ =>
  jLet (mSI S9 a0 4 i11_) fun S13 =>
  jLet ((if i3 < (0 : Int32) then (0 : Int32) else i3)) fun i15_ =>
  gd (newOK i15_) <|
  jLet (mNx S13) fun a20 =>
  jLet (mNew S13 12 (Int32.toNatClampNeg i15_) (Int32.toNatClampNeg i15_)) fun S19 =>
  jLet (mSR S19 a0 5 (some a20)) fun S23 =>
  c_X1_init_L49 bigN S23 a0 i2 (0 : Int32)
set_option maxRecDepth 100000 in
set_option maxHeartbeats 4000000 in
theorem t_X1_init {S : Mem} {a0 : Nat} {i1 : Int32} {i2 : Int32} {i3 : Int32} {w : Mem} (ha : mKd S a0 = 2) (h : c_X1_init S a0 i1 i2 i3 = some w) : CT MX yX1_init cX1_init 5 none 2 61 [.ref a0, .int i1, .int i2, .int i3] S none w := by
  refine CT.of (lv := [(0, .ref a0), (1, .int i1), (2, .int i2), (3, .int i3)]) (by decide) rfl (Nat.le_of_ble_eq_true rfl) ?_
  refine J_aload_n 0 dX1_init_0 rfl rfl ?_
  refine J_objInit gO_X1_3 gO_i gO_c (by decide) (by decide) (Nat.le_of_ble_eq_true rfl) dX1_init_1 ?_
  refine J_aload_n 0 dX1_init_4 rfl rfl ?_
  refine J_iload_n 1 dX1_init_5 rfl rfl ?_
  refine J_putIF (k := 0) dX1_init_6 rfl gP_X1_9 ha rfl ?_
  obtain ⟨S1, eS1, h2⟩ := jLet_some h; clear h
  refine J_topS eS1 ?_
  have hS1_a0 : mKd S1 a0 = 2 := by rw [eS1]; exact ha
  refine J_aload_n 0 dX1_init_9 rfl rfl ?_
  refine J_iload_n 2 dX1_init_10 rfl rfl ?_
  refine J_putIF (k := 1) dX1_init_11 rfl gP_X1_15 hS1_a0 rfl ?_
  obtain ⟨S3, eS3, h4⟩ := jLet_some h2; clear h2
  refine J_topS eS3 ?_
  have hS3_a0 : mKd S3 a0 = 2 := by rw [eS3]; exact hS1_a0
  refine J_aload_n 0 dX1_init_14 rfl rfl ?_
  refine J_iload_n 2 dX1_init_15 rfl rfl ?_
  obtain ⟨i5_, ei5_, h6⟩ := bnd_some h4; clear h4
  refine J_callSN (As := [.int i2]) (rest := [.ref a0]) (st' := [.int i5_, .ref a0]) (t_X5_baseOf ei5_) gC_X5_baseOf gM_X1_18 rfl (by decide) (by decide) rfl rfl (Nat.le_of_ble_eq_true rfl) dX1_init_16 ?_
  refine J_putIF (k := 2) dX1_init_19 rfl gP_X1_22 hS3_a0 rfl ?_
  obtain ⟨S7, eS7, h8⟩ := jLet_some h6; clear h6
  refine J_topS eS7 ?_
  have hS7_a0 : mKd S7 a0 = 2 := by rw [eS7]; exact hS3_a0
  refine J_aload_n 0 dX1_init_22 rfl rfl ?_
  refine J_iconst (0 : Int32) dX1_init_23 (by decide) ?_
  refine J_putIF (k := 3) dX1_init_24 rfl gP_X1_25 hS7_a0 rfl ?_
  obtain ⟨S9, eS9, h10⟩ := jLet_some h8; clear h8
  refine J_topS eS9 ?_
  have hS9_a0 : mKd S9 a0 = 2 := by rw [eS9]; exact hS7_a0
  refine J_aload_n 0 dX1_init_27 rfl rfl ?_
  refine J_iconst (1 : Int32) dX1_init_28 (by decide) ?_
  refine J_iload_n 1 dX1_init_29 rfl rfl ?_
  refine J_ishl dX1_init_30 ?_
  obtain ⟨i11_, ei11_, h12⟩ := jLet_some h10; clear h10
  refine J_topI ei11_ ?_
  refine J_putIF (k := 4) dX1_init_31 rfl gP_X1_28 hS9_a0 rfl ?_
  obtain ⟨S13, eS13, h14⟩ := jLet_some h12; clear h12
  refine J_topS eS13 ?_
  have hS13_a0 : mKd S13 a0 = 2 := by rw [eS13]; exact hS9_a0
  refine J_aload_n 0 dX1_init_34 rfl rfl ?_
  refine J_iload_n 3 dX1_init_35 rfl rfl ?_
  refine J_iconst (0 : Int32) dX1_init_36 (by decide) ?_
  refine J_mmax dX1_init_37 gM_X1_31 (by decide) (by decide) (Nat.le_of_ble_eq_true rfl) ?_
  obtain ⟨i15_, ei15_, h16⟩ := jLet_some h14; clear h14
  refine J_topI ei15_ ?_
  obtain ⟨g17, h18⟩ := gd_some h16; clear h16
  refine J_anew (z := 4) (by decide) dX1_init_40 gL_X1_37 (fun D s hK => hK.2.2.1.2.1) (fun _ => rfl) (fun S ln sl q => by simp [avT, mR, mNew, up1, va_rf]) g17 ?_
  obtain ⟨a20, ea20, h21⟩ := jLet_some h18; clear h18
  obtain ⟨S19, eS19, h22⟩ := jLet_some h21; clear h21
  rw [← ea20]
  refine J_topS eS19 ?_
  have lS19 : jle MX S13 S19 := by rw [eS19]; exact mNew_le _ _ _ _
  have hS19_a0 : mKd S19 a0 = 2 := kd_le lS19 hS13_a0
  have hS19_new : mKd S19 a20 = 12 := by rw [eS19, mKd_new, if_pos ea20]
  refine J_putAF (k := 5) (x := (some a20)) dX1_init_43 rfl gP_X1_39 hS19_a0 rfl ?_
  obtain ⟨S23, eS23, h24⟩ := jLet_some h22; clear h22
  refine J_topS eS23 ?_
  have hS23_a0 : mKd S23 a0 = 2 := by rw [eS23]; exact hS19_a0
  have hS23_a20 : mKd S23 a20 = 12 := by rw [eS23]; exact hS19_new
  refine J_iconst (0 : Int32) dX1_init_46 (by decide) ?_
  refine J_istore dX1_init_47 (by decide) [1, 3, 0] (lv' := [(0, .ref a0), (2, .int i2), (4, .int (0 : Int32))]) rfl ?_
  exact t_X1_init_L49 bigN S23 a0 i2 (0 : Int32) hS23_a0 h24
def c_X1_init__L81 : Nat → Mem → Nat → Option Nat → Option Nat → Int32 → Int32 → Option Mem
  | 0, _, _, _, _, _, _ => none
  | n + 1, S, a0, r2, r3, i4, i5 =>
    bnd (ob S (mR S a0 5) 12) fun a1 =>
    if (nI (mLn S a1)) ≤ i5 then
      (jLet (mSR S a0 6 r2) fun S5 =>
      jLet (mSR S5 a0 7 r3) fun S7 =>
      some S7)
    else
      (if i4 ≤ i5 then
        (bnd (ob S r2 2) fun a11 =>
        bnd (ob S (mR S a11 5) 12) fun a13 =>
        gd (inB (i5 - i4) (mLn S a13)) <|
        bnd (ob S (mR S a0 5) 12) fun a17 =>
        bnd (ob S (mR S a13 (Int32.toNatClampNeg (i5 - i4))) 5) fun a19 =>
        gd (inB i5 (mLn S a17)) <|
        jLet (mSR S a17 (Int32.toNatClampNeg i5) (some a19)) fun S23 =>
        c_X1_init__L81 n S23 a0 (some a11) r3 i4 (i5 + (1 : Int32)))
      else
        (bnd (ob S r3 2) fun a25 =>
        bnd (ob S (mR S a25 5) 12) fun a27 =>
        gd (inB i5 (mLn S a27)) <|
        bnd (ob S (mR S a0 5) 12) fun a31 =>
        bnd (ob S (mR S a27 (Int32.toNatClampNeg i5)) 5) fun a33 =>
        gd (inB i5 (mLn S a31)) <|
        jLet (mSR S a31 (Int32.toNatClampNeg i5) (some a33)) fun S37 =>
        c_X1_init__L81 n S37 a0 r2 (some a25) i4 (i5 + (1 : Int32))))
set_option maxRecDepth 100000 in
set_option maxHeartbeats 4000000 in
theorem t_X1_init__L81 {w : Mem} (n : Nat) : ∀ (S : Mem) (a0 : Nat) (r2 : Option Nat) (r3 : Option Nat) (i4 : Int32) (i5 : Int32), (mKd S a0 = 2) → c_X1_init__L81 n S a0 r2 r3 i4 i5 = some w → J MX yX1_init_ cX1_init_ 6 none 1 40 81 [(0, .ref a0), (2, va_rf r2), (3, va_rf r3), (4, .int i4), (5, .int i5)] [] S none w := by
  induction n with
  | zero => intro S a0 r2 r3 i4 i5 ha h; cases h
  | succ n lh =>
    intro S a0 r2 r3 i4 i5 ha h
    refine J_iload 4 dX1_init__81 rfl ?_
    refine J_aload_n 0 dX1_init__83 rfl rfl ?_
    refine J_get (k := 5) (v := va_rf (mR S a0 5)) dX1_init__84 gF_X1_39 ha rfl ?_
    obtain ⟨a1, ea1, ka1, h2⟩ := ob_some h; clear h
    rw [ea1]
    refine J_lvst (lv' := [(0, .ref a0), (2, va_rf r2), (3, va_rf r3), (4, .int i4), (5, .int i5)]) (st' := [.ref a1, .int i5]) rfl rfl ?_
    refine J_alen (z := 4) dX1_init__87 (fun _ => rfl) ka1 ?_
    refine J_icmp_ge 131 dX1_init__88 (by decide) h2 (fun c3 h4 => ?_) (fun c3 h4 => ?_)
    · clear h2
      refine J_aload_n 0 dX1_init__131 rfl rfl ?_
      refine J_aload_nq 1 dX1_init__132 rfl rfl ?_
      refine J_putRF (k := 6) (x := r2) dX1_init__133 rfl gP_X1_46 ha rfl ?_
      obtain ⟨S5, eS5, h6⟩ := jLet_some h4; clear h4
      refine J_topS eS5 ?_
      have hS5_a0 : mKd S5 a0 = 2 := by rw [eS5]; exact ha
      have hS5_a1 : mKd S5 a1 = 12 := by rw [eS5]; exact ka1
      refine J_aload_n 0 dX1_init__136 rfl rfl ?_
      refine J_aload_nq 2 dX1_init__137 rfl rfl ?_
      refine J_putRF (k := 7) (x := r3) dX1_init__138 rfl gP_X1_50 hS5_a0 rfl ?_
      obtain ⟨S7, eS7, h8⟩ := jLet_some h6; clear h6
      refine J_topS eS7 ?_
      have hS7_a0 : mKd S7 a0 = 2 := by rw [eS7]; exact hS5_a0
      have hS7_a1 : mKd S7 a1 = 12 := by rw [eS7]; exact hS5_a1
      have hw := Option.some.inj h8; subst hw
      exact J_vret rfl dX1_init__141
    · clear h2
      refine J_aload_n 0 dX1_init__91 rfl rfl ?_
      refine J_get (k := 5) (v := va_rf (mR S a0 5)) dX1_init__92 gF_X1_39 ha rfl ?_
      refine J_iload 4 dX1_init__95 rfl ?_
      refine J_iload 4 dX1_init__97 rfl ?_
      refine J_iload 3 dX1_init__99 rfl ?_
      refine J_icmp_ge 114 dX1_init__101 (by decide) h4 (fun c9 h10 => ?_) (fun c9 h10 => ?_)
      · clear h4
        refine J_aload_nq 1 dX1_init__114 rfl rfl ?_
        obtain ⟨a11, ea11, ka11, h12⟩ := ob_some h10; clear h10
        subst ea11
        refine J_lvst (lv' := [(0, .ref a0), (2, .ref a11), (3, va_rf r3), (4, .int i4), (5, .int i5)]) (st' := [.ref a11, .int i5, va_rf (mR S a0 5)]) rfl rfl ?_
        refine J_get (k := 5) (v := va_rf (mR S a11 5)) dX1_init__115 gF_X1_39 ka11 rfl ?_
        refine J_iload 4 dX1_init__118 rfl ?_
        refine J_iload 3 dX1_init__120 rfl ?_
        refine J_isub dX1_init__122 ?_
        obtain ⟨a13, ea13, ka13, h14⟩ := ob_some h12; clear h12
        rw [ea13]
        refine J_lvst (lv' := [(0, .ref a0), (2, .ref a11), (3, va_rf r3), (4, .int i4), (5, .int i5)]) (st' := [.int (i5 - i4), .ref a13, .int i5, va_rf (mR S a0 5)]) rfl rfl ?_
        obtain ⟨g15, h16⟩ := gd_some h14; clear h14
        refine J_aald (z := 4) (C := RX4) dX1_init__123 (fun _ => rfl) (fun _ _ => rfl) ka13 g15 ?_
        obtain ⟨a17, ea17, ka17, h18⟩ := ob_some h16; clear h16
        rw [ea17]
        refine J_lvst (lv' := [(0, .ref a0), (2, .ref a11), (3, va_rf r3), (4, .int i4), (5, .int i5)]) (st' := [va_rf (mR S a13 (Int32.toNatClampNeg (i5 - i4))), .int i5, .ref a17]) rfl rfl ?_
        obtain ⟨a19, ea19, ka19, h20⟩ := ob_some h18; clear h18
        rw [ea19]
        refine J_lvst (lv' := [(0, .ref a0), (2, .ref a11), (3, va_rf r3), (4, .int i4), (5, .int i5)]) (st' := [.ref a19, .int i5, .ref a17]) rfl rfl ?_
        obtain ⟨g21, h22⟩ := gd_some h20; clear h20
        refine J_aast (z := 4) dX1_init__124 (fun _ => rfl) (fun _ _ => rfl) jCl4 (by decide) (by decide) ka19 ka17 g21 ?_
        obtain ⟨S23, eS23, h24⟩ := jLet_some h22; clear h22
        refine J_topS eS23 ?_
        have hS23_a0 : mKd S23 a0 = 2 := by rw [eS23]; exact ha
        have hS23_a1 : mKd S23 a1 = 12 := by rw [eS23]; exact ka1
        have hS23_a11 : mKd S23 a11 = 2 := by rw [eS23]; exact ka11
        have hS23_a13 : mKd S23 a13 = 12 := by rw [eS23]; exact ka13
        have hS23_a17 : mKd S23 a17 = 12 := by rw [eS23]; exact ka17
        have hS23_a19 : mKd S23 a19 = 5 := by rw [eS23]; exact ka19
        refine J_iinc 4 (1 : Int32) dX1_init__125 rfl (by decide) (by decide) [1, 2, 3, 4, 0] (lv' := [(0, .ref a0), (2, .ref a11), (3, va_rf r3), (4, .int i4), (5, .int (i5 + (1 : Int32)))]) rfl ?_
        refine J_goto 81 dX1_init__128 (by decide) ?_
        exact lh S23 a0 (some a11) r3 i4 (i5 + (1 : Int32)) hS23_a0 h24
      · clear h4
        refine J_aload_nq 2 dX1_init__104 rfl rfl ?_
        obtain ⟨a25, ea25, ka25, h26⟩ := ob_some h10; clear h10
        subst ea25
        refine J_lvst (lv' := [(0, .ref a0), (2, va_rf r2), (3, .ref a25), (4, .int i4), (5, .int i5)]) (st' := [.ref a25, .int i5, va_rf (mR S a0 5)]) rfl rfl ?_
        refine J_get (k := 5) (v := va_rf (mR S a25 5)) dX1_init__105 gF_X1_39 ka25 rfl ?_
        refine J_iload 4 dX1_init__108 rfl ?_
        obtain ⟨a27, ea27, ka27, h28⟩ := ob_some h26; clear h26
        rw [ea27]
        refine J_lvst (lv' := [(0, .ref a0), (2, va_rf r2), (3, .ref a25), (4, .int i4), (5, .int i5)]) (st' := [.int i5, .ref a27, .int i5, va_rf (mR S a0 5)]) rfl rfl ?_
        obtain ⟨g29, h30⟩ := gd_some h28; clear h28
        refine J_aald (z := 4) (C := RX4) dX1_init__110 (fun _ => rfl) (fun _ _ => rfl) ka27 g29 ?_
        refine J_goto 124 dX1_init__111 (by decide) ?_
        obtain ⟨a31, ea31, ka31, h32⟩ := ob_some h30; clear h30
        rw [ea31]
        refine J_lvst (lv' := [(0, .ref a0), (2, va_rf r2), (3, .ref a25), (4, .int i4), (5, .int i5)]) (st' := [va_rf (mR S a27 (Int32.toNatClampNeg i5)), .int i5, .ref a31]) rfl rfl ?_
        obtain ⟨a33, ea33, ka33, h34⟩ := ob_some h32; clear h32
        rw [ea33]
        refine J_lvst (lv' := [(0, .ref a0), (2, va_rf r2), (3, .ref a25), (4, .int i4), (5, .int i5)]) (st' := [.ref a33, .int i5, .ref a31]) rfl rfl ?_
        obtain ⟨g35, h36⟩ := gd_some h34; clear h34
        refine J_aast (z := 4) dX1_init__124 (fun _ => rfl) (fun _ _ => rfl) jCl4 (by decide) (by decide) ka33 ka31 g35 ?_
        obtain ⟨S37, eS37, h38⟩ := jLet_some h36; clear h36
        refine J_topS eS37 ?_
        have hS37_a0 : mKd S37 a0 = 2 := by rw [eS37]; exact ha
        have hS37_a1 : mKd S37 a1 = 12 := by rw [eS37]; exact ka1
        have hS37_a25 : mKd S37 a25 = 2 := by rw [eS37]; exact ka25
        have hS37_a27 : mKd S37 a27 = 12 := by rw [eS37]; exact ka27
        have hS37_a31 : mKd S37 a31 = 12 := by rw [eS37]; exact ka31
        have hS37_a33 : mKd S37 a33 = 5 := by rw [eS37]; exact ka33
        refine J_iinc 4 (1 : Int32) dX1_init__125 rfl (by decide) (by decide) [1, 2, 3, 4, 0] (lv' := [(0, .ref a0), (2, va_rf r2), (3, .ref a25), (4, .int i4), (5, .int (i5 + (1 : Int32)))]) rfl ?_
        refine J_goto 81 dX1_init__128 (by decide) ?_
        exact lh S37 a0 r2 (some a25) i4 (i5 + (1 : Int32)) hS37_a0 h38
def c_X1_init_ (S : Mem) (a0 : Nat) (i1 : Int32) (r2 : Option Nat) (r3 : Option Nat) : Option Mem :=
  jLet (mSI S a0 0 i1) fun S1 =>
  jLet (mSI S1 a0 1 (4 : Int32)) fun S3 =>
  bnd (ob S3 r2 2) fun a5 =>
  jLet ((mI S3 a5 2)) fun i7_ =>
  jLet (mSI S3 a0 2 i7_) fun S9 =>
  bnd (ob S9 r3 2) fun a11 =>
  jLet (((1 : Int32) + (if (mI S9 a5 3) < (mI S9 a11 3) then (mI S9 a11 3) else (mI S9 a5 3)))) fun i13_ =>
  jLet (mSI S9 a0 3 i13_) fun S15 =>
  jLet ((((mI S15 a5 4) ||| (mI S15 a11 4)) ||| ((1 : Int32) <<< (i1 &&& 31)))) fun i17_ =>
  jLet (mSI S15 a0 4 i17_) fun S19 =>
  bnd (ob S19 (mR S19 a11 5) 12) fun a21 =>
  jLet ((nI (mLn S19 a21))) fun i23_ =>
  bnd (ob S19 (mR S19 a5 5) 12) fun a25 =>
  jLet ((i23_ + (nI (mLn S19 a25)))) fun i27_ =>
  gd (newOK i27_) <|
  jLet (mNx S19) fun a32 =>
  jLet (mNew S19 12 (Int32.toNatClampNeg i27_) (Int32.toNatClampNeg i27_)) fun S31 =>
  jLet (mSR S31 a0 5 (some a32)) fun S35 =>
  c_X1_init__L81 bigN S35 a0 (some a5) (some a11) i23_ (0 : Int32)
set_option maxRecDepth 100000 in
set_option maxHeartbeats 4000000 in
theorem t_X1_init_ {S : Mem} {a0 : Nat} {i1 : Int32} {r2 : Option Nat} {r3 : Option Nat} {w : Mem} (ha : mKd S a0 = 2) (h : c_X1_init_ S a0 i1 r2 r3 = some w) : CT MX yX1_init_ cX1_init_ 6 none 1 40 [.ref a0, .int i1, va_rf r2, va_rf r3] S none w := by
  refine CT.of (lv := [(0, .ref a0), (1, .int i1), (2, va_rf r2), (3, va_rf r3)]) (by decide) (by cases r2 <;> cases r3 <;> exact rfl) (by cases r2 <;> cases r3 <;> exact Nat.le_of_ble_eq_true rfl) ?_
  refine J_aload_n 0 dX1_init__0 rfl rfl ?_
  refine J_objInit gO_X1_3 gO_i gO_c (by decide) (by decide) (Nat.le_of_ble_eq_true rfl) dX1_init__1 ?_
  refine J_aload_n 0 dX1_init__4 rfl rfl ?_
  refine J_iload_n 1 dX1_init__5 rfl rfl ?_
  refine J_putIF (k := 0) dX1_init__6 rfl gP_X1_9 ha rfl ?_
  obtain ⟨S1, eS1, h2⟩ := jLet_some h; clear h
  refine J_topS eS1 ?_
  have hS1_a0 : mKd S1 a0 = 2 := by rw [eS1]; exact ha
  refine J_aload_n 0 dX1_init__9 rfl rfl ?_
  refine J_iconst (4 : Int32) dX1_init__10 (by decide) ?_
  refine J_putIF (k := 1) dX1_init__11 rfl gP_X1_15 hS1_a0 rfl ?_
  obtain ⟨S3, eS3, h4⟩ := jLet_some h2; clear h2
  refine J_topS eS3 ?_
  have hS3_a0 : mKd S3 a0 = 2 := by rw [eS3]; exact hS1_a0
  refine J_aload_n 0 dX1_init__14 rfl rfl ?_
  refine J_aload_nq 2 dX1_init__15 rfl rfl ?_
  obtain ⟨a5, ea5, ka5, h6⟩ := ob_some h4; clear h4
  subst ea5
  refine J_lvst (lv' := [(0, .ref a0), (1, .int i1), (2, .ref a5), (3, va_rf r3)]) (st' := [.ref a5, .ref a0]) rfl rfl ?_
  refine J_get (k := 2) (v := .int (mI S3 a5 2)) dX1_init__16 gF_X1_22 ka5 rfl ?_
  obtain ⟨i7_, ei7_, h8⟩ := jLet_some h6; clear h6
  refine J_topI ei7_ ?_
  refine J_putIF (k := 2) dX1_init__19 rfl gP_X1_22 hS3_a0 rfl ?_
  obtain ⟨S9, eS9, h10⟩ := jLet_some h8; clear h8
  refine J_topS eS9 ?_
  have hS9_a0 : mKd S9 a0 = 2 := by rw [eS9]; exact hS3_a0
  have hS9_a5 : mKd S9 a5 = 2 := by rw [eS9]; exact ka5
  refine J_aload_n 0 dX1_init__22 rfl rfl ?_
  refine J_iconst (1 : Int32) dX1_init__23 (by decide) ?_
  refine J_aload_n 2 dX1_init__24 rfl rfl ?_
  refine J_get (k := 3) (v := .int (mI S9 a5 3)) dX1_init__25 gF_X1_25 hS9_a5 rfl ?_
  refine J_aload_nq 3 dX1_init__28 rfl rfl ?_
  obtain ⟨a11, ea11, ka11, h12⟩ := ob_some h10; clear h10
  subst ea11
  refine J_lvst (lv' := [(0, .ref a0), (1, .int i1), (2, .ref a5), (3, .ref a11)]) (st' := [.ref a11, .int (mI S9 a5 3), .int (1 : Int32), .ref a0]) rfl rfl ?_
  refine J_get (k := 3) (v := .int (mI S9 a11 3)) dX1_init__29 gF_X1_25 ka11 rfl ?_
  refine J_mmax dX1_init__32 gM_X1_31 (by decide) (by decide) (Nat.le_of_ble_eq_true rfl) ?_
  refine J_iadd dX1_init__35 ?_
  obtain ⟨i13_, ei13_, h14⟩ := jLet_some h12; clear h12
  refine J_topI ei13_ ?_
  refine J_putIF (k := 3) dX1_init__36 rfl gP_X1_25 hS9_a0 rfl ?_
  obtain ⟨S15, eS15, h16⟩ := jLet_some h14; clear h14
  refine J_topS eS15 ?_
  have hS15_a0 : mKd S15 a0 = 2 := by rw [eS15]; exact hS9_a0
  have hS15_a5 : mKd S15 a5 = 2 := by rw [eS15]; exact hS9_a5
  have hS15_a11 : mKd S15 a11 = 2 := by rw [eS15]; exact ka11
  refine J_aload_n 0 dX1_init__39 rfl rfl ?_
  refine J_aload_n 2 dX1_init__40 rfl rfl ?_
  refine J_get (k := 4) (v := .int (mI S15 a5 4)) dX1_init__41 gF_X1_28 hS15_a5 rfl ?_
  refine J_aload_n 3 dX1_init__44 rfl rfl ?_
  refine J_get (k := 4) (v := .int (mI S15 a11 4)) dX1_init__45 gF_X1_28 hS15_a11 rfl ?_
  refine J_ior dX1_init__48 ?_
  refine J_iconst (1 : Int32) dX1_init__49 (by decide) ?_
  refine J_iload_n 1 dX1_init__50 rfl rfl ?_
  refine J_ishl dX1_init__51 ?_
  refine J_ior dX1_init__52 ?_
  obtain ⟨i17_, ei17_, h18⟩ := jLet_some h16; clear h16
  refine J_topI ei17_ ?_
  refine J_putIF (k := 4) dX1_init__53 rfl gP_X1_28 hS15_a0 rfl ?_
  obtain ⟨S19, eS19, h20⟩ := jLet_some h18; clear h18
  refine J_topS eS19 ?_
  have hS19_a0 : mKd S19 a0 = 2 := by rw [eS19]; exact hS15_a0
  have hS19_a5 : mKd S19 a5 = 2 := by rw [eS19]; exact hS15_a5
  have hS19_a11 : mKd S19 a11 = 2 := by rw [eS19]; exact hS15_a11
  refine J_aload_n 3 dX1_init__56 rfl rfl ?_
  refine J_get (k := 5) (v := va_rf (mR S19 a11 5)) dX1_init__57 gF_X1_39 hS19_a11 rfl ?_
  obtain ⟨a21, ea21, ka21, h22⟩ := ob_some h20; clear h20
  rw [ea21]
  refine J_lvst (lv' := [(0, .ref a0), (1, .int i1), (2, .ref a5), (3, .ref a11)]) (st' := [.ref a21]) rfl rfl ?_
  refine J_alen (z := 4) dX1_init__60 (fun _ => rfl) ka21 ?_
  obtain ⟨i23_, ei23_, h24⟩ := jLet_some h22; clear h22
  refine J_topI ei23_ ?_
  refine J_istore dX1_init__61 (by decide) [1, 3, 4, 0] (lv' := [(0, .ref a0), (2, .ref a5), (3, .ref a11), (4, .int i23_)]) rfl ?_
  refine J_aload_n 0 dX1_init__63 rfl rfl ?_
  refine J_iload 3 dX1_init__64 rfl ?_
  refine J_aload_n 1 dX1_init__66 rfl rfl ?_
  refine J_get (k := 5) (v := va_rf (mR S19 a5 5)) dX1_init__67 gF_X1_39 hS19_a5 rfl ?_
  obtain ⟨a25, ea25, ka25, h26⟩ := ob_some h24; clear h24
  rw [ea25]
  refine J_lvst (lv' := [(0, .ref a0), (2, .ref a5), (3, .ref a11), (4, .int i23_)]) (st' := [.ref a25, .int i23_, .ref a0]) rfl rfl ?_
  refine J_alen (z := 4) dX1_init__70 (fun _ => rfl) ka25 ?_
  refine J_iadd dX1_init__71 ?_
  obtain ⟨i27_, ei27_, h28⟩ := jLet_some h26; clear h26
  refine J_topI ei27_ ?_
  obtain ⟨g29, h30⟩ := gd_some h28; clear h28
  refine J_anew (z := 4) (by decide) dX1_init__72 gL_X1_37 (fun D s hK => hK.2.2.1.2.1) (fun _ => rfl) (fun S ln sl q => by simp [avT, mR, mNew, up1, va_rf]) g29 ?_
  obtain ⟨a32, ea32, h33⟩ := jLet_some h30; clear h30
  obtain ⟨S31, eS31, h34⟩ := jLet_some h33; clear h33
  rw [← ea32]
  refine J_topS eS31 ?_
  have lS31 : jle MX S19 S31 := by rw [eS31]; exact mNew_le _ _ _ _
  have hS31_a0 : mKd S31 a0 = 2 := kd_le lS31 hS19_a0
  have hS31_a5 : mKd S31 a5 = 2 := kd_le lS31 hS19_a5
  have hS31_a11 : mKd S31 a11 = 2 := kd_le lS31 hS19_a11
  have hS31_a21 : mKd S31 a21 = 12 := kd_le lS31 ka21
  have hS31_a25 : mKd S31 a25 = 12 := kd_le lS31 ka25
  have hS31_new : mKd S31 a32 = 12 := by rw [eS31, mKd_new, if_pos ea32]
  refine J_putAF (k := 5) (x := (some a32)) dX1_init__75 rfl gP_X1_39 hS31_a0 rfl ?_
  obtain ⟨S35, eS35, h36⟩ := jLet_some h34; clear h34
  refine J_topS eS35 ?_
  have hS35_a0 : mKd S35 a0 = 2 := by rw [eS35]; exact hS31_a0
  have hS35_a5 : mKd S35 a5 = 2 := by rw [eS35]; exact hS31_a5
  have hS35_a11 : mKd S35 a11 = 2 := by rw [eS35]; exact hS31_a11
  have hS35_a21 : mKd S35 a21 = 12 := by rw [eS35]; exact hS31_a21
  have hS35_a25 : mKd S35 a25 = 12 := by rw [eS35]; exact hS31_a25
  have hS35_a32 : mKd S35 a32 = 12 := by rw [eS35]; exact hS31_new
  refine J_iconst (0 : Int32) dX1_init__78 (by decide) ?_
  refine J_istore dX1_init__79 (by decide) [1, 2, 3, 4, 0] (lv' := [(0, .ref a0), (2, .ref a5), (3, .ref a11), (4, .int i23_), (5, .int (0 : Int32))]) rfl ?_
  exact t_X1_init__L81 bigN S35 a0 (some a5) (some a11) i23_ (0 : Int32) hS35_a0 h36
