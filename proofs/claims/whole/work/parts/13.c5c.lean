def c_X5_ofFloat (S : Mem) (a0 : Nat) (i1 : Int32) (i2 : Int32) : Option (Int32 × Mem) :=
  bnd (c_X5_known S a0 i1) fun r1_ =>
  bnd2 (c_X5_writeWhole S a0 r1_ ((Int32.toInt64 i2) &&& (4294967295 : Int64)) (23 : Int32)) fun i3_ S4 =>
  some (i3_, S4)
set_option maxRecDepth 100000 in
set_option maxHeartbeats 4000000 in
theorem t_X5_ofFloat {S : Mem} {a0 : Nat} {i1 : Int32} {i2 : Int32} {w : (Int32 × Mem)} (ha : mKd S a0 = 6) (h : c_X5_ofFloat S a0 i1 i2 = some w) : CT MX yX5_ofFloat cX5_ofFloat 3 (some .int) 5 117 [.ref a0, .int i1, .int i2] S (some (.int w.1)) w.2 := by
  refine CT.of (lv := [(0, .ref a0), (1, .int i1), (2, .int i2)]) (by decide) rfl (Nat.le_of_ble_eq_true rfl) ?_
  refine J_aload_n 0 dX5_ofFloat_0 rfl rfl ?_
  refine J_aload_n 0 dX5_ofFloat_1 rfl rfl ?_
  refine J_iload_n 1 dX5_ofFloat_2 rfl rfl ?_
  obtain ⟨r1_, er1_, h2⟩ := bnd_some h; clear h
  refine J_callV (As := [.int i1]) (rest := [.ref a0]) (st' := [va_rf r1_, .ref a0]) (t_X5_known ha er1_) gC_X5_known gM_X5_51 (mRecv ha (by decide) jCl5) rfl (by decide) (by decide) rfl rfl (Nat.le_of_ble_eq_true rfl) dX5_ofFloat_3 ?_
  refine J_iload_n 2 dX5_ofFloat_6 rfl rfl ?_
  refine J_i2l dX5_ofFloat_7 ?_
  refine J_ldc2 (4294967295 : Int64) dX5_ofFloat_8 gK_X5_177 ?_
  refine J_land dX5_ofFloat_11 ?_
  refine J_bipush (23 : Int32) dX5_ofFloat_12 (by decide) ?_
  obtain ⟨i3_, S4, ei3_, h5⟩ := bnd2_some h2; clear h2
  have cS4 := (t_X5_writeWhole ha ei3_)
  have lS4 : jle MX S S4 := cS4.1
  have hS4_a0 : mKd S4 a0 = 6 := kd_le lS4 ha
  refine J_callV (As := [va_rf r1_, .long ((Int32.toInt64 i2) &&& (4294967295 : Int64)), .int (23 : Int32)]) (rest := []) (st' := [.int i3_]) cS4 gC_X5_writeWhole gM_X5_179 (mRecv ha (by decide) jCl5) rfl (by decide) (by decide) rfl rfl (Nat.le_of_ble_eq_true rfl) dX5_ofFloat_14 ?_
  have hw := Option.some.inj h5; subst hw
  exact J_iret rfl dX5_ofFloat_17
def c_X5_ofDouble (S : Mem) (a0 : Nat) (i1 : Int32) (j2 : Int64) : Option (Int32 × Mem) :=
  bnd (c_X5_known S a0 i1) fun r1_ =>
  bnd2 (c_X5_writeWhole S a0 r1_ j2 (52 : Int32)) fun i3_ S4 =>
  some (i3_, S4)
set_option maxRecDepth 100000 in
set_option maxHeartbeats 4000000 in
theorem t_X5_ofDouble {S : Mem} {a0 : Nat} {i1 : Int32} {j2 : Int64} {w : (Int32 × Mem)} (ha : mKd S a0 = 6) (h : c_X5_ofDouble S a0 i1 j2 = some w) : CT MX yX5_ofDouble cX5_ofDouble 4 (some .int) 5 117 [.ref a0, .int i1, .long j2] S (some (.int w.1)) w.2 := by
  refine CT.of (lv := [(0, .ref a0), (1, .int i1), (2, .long j2)]) (by decide) rfl (Nat.le_of_ble_eq_true rfl) ?_
  refine J_aload_n 0 dX5_ofDouble_0 rfl rfl ?_
  refine J_aload_n 0 dX5_ofDouble_1 rfl rfl ?_
  refine J_iload_n 1 dX5_ofDouble_2 rfl rfl ?_
  obtain ⟨r1_, er1_, h2⟩ := bnd_some h; clear h
  refine J_callV (As := [.int i1]) (rest := [.ref a0]) (st' := [va_rf r1_, .ref a0]) (t_X5_known ha er1_) gC_X5_known gM_X5_51 (mRecv ha (by decide) jCl5) rfl (by decide) (by decide) rfl rfl (Nat.le_of_ble_eq_true rfl) dX5_ofDouble_3 ?_
  refine J_lload_n 2 dX5_ofDouble_6 rfl rfl ?_
  refine J_bipush (52 : Int32) dX5_ofDouble_7 (by decide) ?_
  obtain ⟨i3_, S4, ei3_, h5⟩ := bnd2_some h2; clear h2
  have cS4 := (t_X5_writeWhole ha ei3_)
  have lS4 : jle MX S S4 := cS4.1
  have hS4_a0 : mKd S4 a0 = 6 := kd_le lS4 ha
  refine J_callV (As := [va_rf r1_, .long j2, .int (52 : Int32)]) (rest := []) (st' := [.int i3_]) cS4 gC_X5_writeWhole gM_X5_179 (mRecv ha (by decide) jCl5) rfl (by decide) (by decide) rfl rfl (Nat.le_of_ble_eq_true rfl) dX5_ofDouble_9 ?_
  have hw := Option.some.inj h5; subst hw
  exact J_iret rfl dX5_ofDouble_12
def c_X5_packed_J45 (i3 : Int32) (j4 : Int64) (i6 : Int32) : Option Int64 :=
  if ((1 : Int64) <<< (Int32.toInt64 i3 &&& 63)) ≤ j4 then
    (bnd (c_X5_fraction j4 i3) fun j3_ =>
    some (((Int32.toInt64 i6) <<< (Int32.toInt64 i3 &&& 63)) ||| j3_))
  else
    (some j4)
set_option maxRecDepth 100000 in
set_option maxHeartbeats 4000000 in
theorem t_X5_packed_J45 {S : Mem} {i3 : Int32} {j4 : Int64} {i6 : Int32} {w : Int64} (h : c_X5_packed_J45 i3 j4 i6 = some w) : J MX yX5_packed cX5_packed 8 (some .long) 1 22 45 [(3, .int i3), (4, .long j4), (6, .int i6)] [] S (some (.long w)) S := by
  refine J_lload 1 dX5_packed_45 rfl ?_
  refine J_lconst (1 : Int64) dX5_packed_47 (by decide) ?_
  refine J_iload_n 0 dX5_packed_48 rfl rfl ?_
  refine J_lshl dX5_packed_49 ?_
  refine J_lcmp_ge 59 dX5_packed_50 dX5_packed_51 (by decide) h (fun c1 h2 => ?_) (fun c1 h2 => ?_)
  · clear h
    refine J_iload 2 dX5_packed_59 rfl ?_
    refine J_i2l dX5_packed_61 ?_
    refine J_iload_n 0 dX5_packed_62 rfl rfl ?_
    refine J_lshl dX5_packed_63 ?_
    refine J_lload 1 dX5_packed_64 rfl ?_
    refine J_iload_n 0 dX5_packed_66 rfl rfl ?_
    obtain ⟨j3_, ej3_, h4⟩ := bnd_some h2; clear h2
    refine J_callS (As := [.long j4, .int i3]) (rest := [.long ((Int32.toInt64 i6) <<< (Int32.toInt64 i3 &&& 63))]) (st' := [.long j3_, .long ((Int32.toInt64 i6) <<< (Int32.toInt64 i3 &&& 63))]) (t_X5_fraction ej3_) gC_X5_fraction gM_X5_353 rfl (by decide) (by decide) rfl rfl (Nat.le_of_ble_eq_true rfl) dX5_packed_67 ?_
    refine J_lor dX5_packed_70 ?_
    have hw := Option.some.inj h4; subst hw
    exact J_lret rfl dX5_packed_71
  · clear h
    refine J_lload 1 dX5_packed_54 rfl ?_
    refine J_goto 71 dX5_packed_56 (by decide) ?_
    have hw := Option.some.inj h2; subst hw
    exact J_lret rfl dX5_packed_71
def c_X5_packed_L9 : Nat → Int32 → Int64 → Int32 → Int32 → Option Int64
  | 0, _, _, _, _ => none
  | n + 1, i3, j4, i6, i7 =>
    if i3 ≤ i7 then
      (c_X5_packed_J45 i3 j4 i6)
    else
      (if i6 ≤ (1 : Int32) then
        (c_X5_packed_J45 i3 j4 i6)
      else
        (if ((1 : Int64) <<< (Int32.toInt64 i3 &&& 63)) ≤ j4 then
          (c_X5_packed_J45 i3 j4 i6)
        else
          (jLet ((j4 <<< (Int32.toInt64 (1 : Int32) &&& 63))) fun j7_ =>
          c_X5_packed_L9 n i3 j7_ (i6 + (-1 : Int32)) (i7 + (1 : Int32)))))
set_option maxRecDepth 100000 in
set_option maxHeartbeats 4000000 in
theorem t_X5_packed_L9 {S : Mem} {w : Int64} (n : Nat) : ∀ (i3 : Int32) (j4 : Int64) (i6 : Int32) (i7 : Int32), c_X5_packed_L9 n i3 j4 i6 i7 = some w → J MX yX5_packed cX5_packed 8 (some .long) 1 22 9 [(3, .int i3), (4, .long j4), (6, .int i6), (7, .int i7)] [] S (some (.long w)) S := by
  induction n with
  | zero => intro i3 j4 i6 i7 h; cases h
  | succ n lh =>
    intro i3 j4 i6 i7 h
    refine J_iload 3 dX5_packed_9 rfl ?_
    refine J_iload_n 0 dX5_packed_11 rfl rfl ?_
    refine J_icmp_ge 45 dX5_packed_12 (by decide) h (fun c1 h2 => ?_) (fun c1 h2 => ?_)
    · clear h
      refine J_lv [0, 1, 2] rfl ?_
      exact t_X5_packed_J45 h2
    · clear h
      refine J_iload 2 dX5_packed_15 rfl ?_
      refine J_iconst (1 : Int32) dX5_packed_17 (by decide) ?_
      refine J_icmp_le 45 dX5_packed_18 (by decide) h2 (fun c3 h4 => ?_) (fun c3 h4 => ?_)
      · clear h2
        refine J_lv [0, 1, 2] rfl ?_
        exact t_X5_packed_J45 h4
      · clear h2
        refine J_lload 1 dX5_packed_21 rfl ?_
        refine J_lconst (1 : Int64) dX5_packed_23 (by decide) ?_
        refine J_iload_n 0 dX5_packed_24 rfl rfl ?_
        refine J_lshl dX5_packed_25 ?_
        refine J_lcmp_ge 45 dX5_packed_26 dX5_packed_27 (by decide) h4 (fun c5 h6 => ?_) (fun c5 h6 => ?_)
        · clear h4
          refine J_lv [0, 1, 2] rfl ?_
          exact t_X5_packed_J45 h6
        · clear h4
          refine J_lload 1 dX5_packed_30 rfl ?_
          refine J_iconst (1 : Int32) dX5_packed_32 (by decide) ?_
          refine J_lshl dX5_packed_33 ?_
          obtain ⟨j7_, ej7_, h8⟩ := jLet_some h6; clear h6
          refine J_topL ej7_ ?_
          refine J_lstore dX5_packed_34 (by decide) [1, 0, 2, 3] (lv' := [(3, .int i3), (4, .long j7_), (6, .int i6), (7, .int i7)]) rfl ?_
          refine J_iinc 2 (-1 : Int32) dX5_packed_36 rfl (by decide) (by decide) [1, 2, 0, 3] (lv' := [(3, .int i3), (4, .long j7_), (6, .int (i6 + (-1 : Int32))), (7, .int i7)]) rfl ?_
          refine J_iinc 3 (1 : Int32) dX5_packed_39 rfl (by decide) (by decide) [1, 2, 3, 0] (lv' := [(3, .int i3), (4, .long j7_), (6, .int (i6 + (-1 : Int32))), (7, .int (i7 + (1 : Int32)))]) rfl ?_
          refine J_goto 9 dX5_packed_42 (by decide) ?_
          exact lh i3 j7_ (i6 + (-1 : Int32)) (i7 + (1 : Int32)) h8
def c_X5_packed (j0 : Int64) (i2 : Int32) (i3 : Int32) : Option Int64 :=
  c_X5_packed_L9 bigN i3 j0 i2 (0 : Int32)
set_option maxRecDepth 100000 in
set_option maxHeartbeats 4000000 in
theorem t_X5_packed {S : Mem} {j0 : Int64} {i2 : Int32} {i3 : Int32} {w : Int64} (h : c_X5_packed j0 i2 i3 = some w) : CT MX yX5_packed cX5_packed 8 (some .long) 1 22 [.long j0, .int i2, .int i3] S (some (.long w)) S := by
  refine CT.of (lv := [(0, .long j0), (2, .int i2), (3, .int i3)]) (by decide) rfl (Nat.le_of_ble_eq_true rfl) ?_
  refine J_lload_n 0 dX5_packed_0 rfl rfl ?_
  refine J_lstore dX5_packed_1 (by decide) [2, 3, 0] (lv' := [(2, .int i2), (3, .int i3), (4, .long j0)]) rfl ?_
  refine J_iload_n 0 dX5_packed_3 rfl rfl ?_
  refine J_istore dX5_packed_4 (by decide) [2, 3, 0] (lv' := [(3, .int i3), (4, .long j0), (6, .int i2)]) rfl ?_
  refine J_iconst (0 : Int32) dX5_packed_6 (by decide) ?_
  refine J_istore dX5_packed_7 (by decide) [1, 2, 3, 0] (lv' := [(3, .int i3), (4, .long j0), (6, .int i2), (7, .int (0 : Int32))]) rfl ?_
  exact t_X5_packed_L9 bigN i3 j0 i2 (0 : Int32) h
def c_X5_rest_L134 : Nat → Int64 → Int32 → Int64 → Int32 → Int64 → Int32 → Option Int64
  | 0, _, _, _, _, _, _ => none
  | n + 1, j0, i4, j8, i11, j12, i14 =>
    if i14 ≤ 0 then
      (bnd (c_X5_signBit j0 i4) fun j3_ =>
      bnd (c_X5_packed j12 i11 i4) fun j5_ =>
      some (j3_ ||| j5_))
    else
      (gd (nzL j8) <|
      jLet (((j12 <<< (Int32.toInt64 (if (10 : Int32) < i14 then (10 : Int32) else i14) &&& 63)) - (j12 <<< (Int32.toInt64 (if (10 : Int32) < i14 then (10 : Int32) else i14) &&& 63)) / j8 * j8)) fun j9_ =>
      c_X5_rest_L134 n j0 i4 j8 i11 j9_ (i14 + (-10 : Int32)))
set_option maxRecDepth 100000 in
set_option maxHeartbeats 4000000 in
theorem t_X5_rest_L134 {S : Mem} {w : Int64} (n : Nat) : ∀ (j0 : Int64) (i4 : Int32) (j8 : Int64) (i11 : Int32) (j12 : Int64) (i14 : Int32), c_X5_rest_L134 n j0 i4 j8 i11 j12 i14 = some w → J MX yX5_rest cX5_rest 15 (some .long) 3 66 134 [(0, .long j0), (4, .int i4), (8, .long j8), (11, .int i11), (12, .long j12), (14, .int i14)] [] S (some (.long w)) S := by
  induction n with
  | zero => intro j0 i4 j8 i11 j12 i14 h; cases h
  | succ n lh =>
    intro j0 i4 j8 i11 j12 i14 h
    refine J_iload 5 dX5_rest_134 rfl ?_
    refine J_if_le 160 dX5_rest_136 (by decide) h (fun c1 h2 => ?_) (fun c1 h2 => ?_)
    · clear h
      refine J_lload_n 0 dX5_rest_160 rfl rfl ?_
      refine J_iload 1 dX5_rest_161 rfl ?_
      obtain ⟨j3_, ej3_, h4⟩ := bnd_some h2; clear h2
      refine J_callS (As := [.long j0, .int i4]) (rest := []) (st' := [.long j3_]) (t_X5_signBit ej3_) gC_X5_signBit gM_X5_365 rfl (by decide) (by decide) rfl rfl (Nat.le_of_ble_eq_true rfl) dX5_rest_163 ?_
      refine J_lload 4 dX5_rest_166 rfl ?_
      refine J_iload 3 dX5_rest_168 rfl ?_
      refine J_iload 1 dX5_rest_170 rfl ?_
      obtain ⟨j5_, ej5_, h6⟩ := bnd_some h4; clear h4
      refine J_callS (As := [.long j12, .int i11, .int i4]) (rest := [.long j3_]) (st' := [.long j5_, .long j3_]) (t_X5_packed ej5_) gC_X5_packed gM_X5_380 rfl (by decide) (by decide) rfl rfl (Nat.le_of_ble_eq_true rfl) dX5_rest_172 ?_
      refine J_lor dX5_rest_175 ?_
      have hw := Option.some.inj h6; subst hw
      exact J_lret rfl dX5_rest_176
    · clear h
      refine J_lload 4 dX5_rest_139 rfl ?_
      refine J_iload 5 dX5_rest_141 rfl ?_
      refine J_bipush (10 : Int32) dX5_rest_143 (by decide) ?_
      refine J_mmin dX5_rest_145 gM_X5_377 (by decide) (by decide) (Nat.le_of_ble_eq_true rfl) ?_
      refine J_lshl dX5_rest_148 ?_
      refine J_lload 2 dX5_rest_149 rfl ?_
      obtain ⟨g7, h8⟩ := gd_some h2; clear h2
      refine J_lrem dX5_rest_151 (nzL_of g7) ?_
      obtain ⟨j9_, ej9_, h10⟩ := jLet_some h8; clear h8
      refine J_topL ej9_ ?_
      refine J_lstore dX5_rest_152 (by decide) [1, 2, 3, 4, 0, 5] (lv' := [(0, .long j0), (4, .int i4), (8, .long j8), (11, .int i11), (12, .long j9_), (14, .int i14)]) rfl ?_
      refine J_iinc 5 (-10 : Int32) dX5_rest_154 rfl (by decide) (by decide) [1, 2, 3, 4, 5, 0] (lv' := [(0, .long j0), (4, .int i4), (8, .long j8), (11, .int i11), (12, .long j9_), (14, .int (i14 + (-10 : Int32)))]) rfl ?_
      refine J_goto 134 dX5_rest_157 (by decide) ?_
      exact lh j0 i4 j8 i11 j9_ (i14 + (-10 : Int32)) h10
def c_X5_rest_J16 (j0 : Int64) (j2 : Int64) (i4 : Int32) (js0 : Int64) : Option Int64 :=
  bnd (c_X5_endlessField i4) fun i1_ =>
  bnd (c_X5_significand j2 i4) fun j3_ =>
  bnd (c_X5_exponentField j0 i4) fun i5_ =>
  if i5_ = i1_ then
    (some js0)
  else
    (if j3_ = (0 : Int64) then
      (some js0)
    else
      (bnd (c_X5_exponentField j2 i4) fun i11_ =>
      if i11_ = i1_ then
        (bnd (c_X5_fraction j2 i4) fun j15_ =>
        if j15_ = (0 : Int64) then
          (some j0)
        else
          (some js0))
      else
        (bnd (c_X5_exponentField j0 i4) fun i19_ =>
        jLet ((if i19_ < (1 : Int32) then (1 : Int32) else i19_)) fun i21_ =>
        bnd (c_X5_exponentField j2 i4) fun i23_ =>
        jLet ((if i23_ < (1 : Int32) then (1 : Int32) else i23_)) fun i25_ =>
        if i25_ ≤ i21_ then
          (bnd (c_X5_significand j0 i4) fun j29_ =>
          gd (nzL j3_) <|
          jLet ((j29_ - j29_ / j3_ * j3_)) fun j33_ =>
          jLet ((i21_ - i25_)) fun i35_ =>
          c_X5_rest_L134 bigN j0 i4 j3_ i25_ j33_ i35_)
        else
          (some j0))))
set_option maxRecDepth 100000 in
set_option maxHeartbeats 4000000 in
theorem t_X5_rest_J16 {S : Mem} {j0 : Int64} {j2 : Int64} {i4 : Int32} {js0 : Int64} {w : Int64} (h : c_X5_rest_J16 j0 j2 i4 js0 = some w) : J MX yX5_rest cX5_rest 15 (some .long) 3 66 16 [(0, .long j0), (2, .long j2), (4, .int i4)] [.long js0] S (some (.long w)) S := by
  refine J_lstore dX5_rest_16 (by decide) [1, 2, 3, 0] (lv' := [(0, .long j0), (2, .long j2), (4, .int i4), (5, .long js0)]) rfl ?_
  refine J_iload 2 dX5_rest_18 rfl ?_
  obtain ⟨i1_, ei1_, h2⟩ := bnd_some h; clear h
  refine J_callS (As := [.int i4]) (rest := []) (st' := [.int i1_]) (t_X5_endlessField ei1_) gC_X5_endlessField gM_X5_350 rfl (by decide) (by decide) rfl rfl (Nat.le_of_ble_eq_true rfl) dX5_rest_20 ?_
  refine J_istore dX5_rest_23 (by decide) [1, 2, 3, 4, 0] (lv' := [(0, .long j0), (2, .long j2), (4, .int i4), (5, .long js0), (7, .int i1_)]) rfl ?_
  refine J_lload_n 1 dX5_rest_25 rfl rfl ?_
  refine J_iload 2 dX5_rest_26 rfl ?_
  obtain ⟨j3_, ej3_, h4⟩ := bnd_some h2; clear h2
  refine J_callS (As := [.long j2, .int i4]) (rest := []) (st' := [.long j3_]) (t_X5_significand ej3_) gC_X5_significand gM_X5_362 rfl (by decide) (by decide) rfl rfl (Nat.le_of_ble_eq_true rfl) dX5_rest_28 ?_
  refine J_lstore dX5_rest_31 (by decide) [1, 2, 3, 4, 5, 0] (lv' := [(0, .long j0), (2, .long j2), (4, .int i4), (5, .long js0), (7, .int i1_), (8, .long j3_)]) rfl ?_
  refine J_lload_n 0 dX5_rest_33 rfl rfl ?_
  refine J_iload 2 dX5_rest_34 rfl ?_
  obtain ⟨i5_, ei5_, h6⟩ := bnd_some h4; clear h4
  refine J_callS (As := [.long j0, .int i4]) (rest := []) (st' := [.int i5_]) (t_X5_exponentField ei5_) gC_X5_exponentField gM_X5_357 rfl (by decide) (by decide) rfl rfl (Nat.le_of_ble_eq_true rfl) dX5_rest_36 ?_
  refine J_iload 4 dX5_rest_39 rfl ?_
  refine J_icmp_eq 51 dX5_rest_41 (by decide) h6 (fun c7 h8 => ?_) (fun c7 h8 => ?_)
  · clear h6
    refine J_lload 3 dX5_rest_51 rfl ?_
    have hw := Option.some.inj h8; subst hw
    exact J_lret rfl dX5_rest_53
  · clear h6
    refine J_lload 5 dX5_rest_44 rfl ?_
    refine J_lconst (0 : Int64) dX5_rest_46 (by decide) ?_
    refine J_lcmp_ne 54 dX5_rest_47 dX5_rest_48 (by decide) h8 (fun c9 h10 => ?_) (fun c9 h10 => ?_)
    · clear h8
      refine J_lload 3 dX5_rest_51 rfl ?_
      have hw := Option.some.inj h10; subst hw
      exact J_lret rfl dX5_rest_53
    · clear h8
      refine J_lload_n 1 dX5_rest_54 rfl rfl ?_
      refine J_iload 2 dX5_rest_55 rfl ?_
      obtain ⟨i11_, ei11_, h12⟩ := bnd_some h10; clear h10
      refine J_callS (As := [.long j2, .int i4]) (rest := []) (st' := [.int i11_]) (t_X5_exponentField ei11_) gC_X5_exponentField gM_X5_357 rfl (by decide) (by decide) rfl rfl (Nat.le_of_ble_eq_true rfl) dX5_rest_57 ?_
      refine J_iload 4 dX5_rest_60 rfl ?_
      refine J_icmp_ne 83 dX5_rest_62 (by decide) h12 (fun c13 h14 => ?_) (fun c13 h14 => ?_)
      · clear h12
        refine J_lload_n 1 dX5_rest_65 rfl rfl ?_
        refine J_iload 2 dX5_rest_66 rfl ?_
        obtain ⟨j15_, ej15_, h16⟩ := bnd_some h14; clear h14
        refine J_callS (As := [.long j2, .int i4]) (rest := []) (st' := [.long j15_]) (t_X5_fraction ej15_) gC_X5_fraction gM_X5_353 rfl (by decide) (by decide) rfl rfl (Nat.le_of_ble_eq_true rfl) dX5_rest_68 ?_
        refine J_lconst (0 : Int64) dX5_rest_71 (by decide) ?_
        refine J_lcmp_ne 80 dX5_rest_72 dX5_rest_73 (by decide) h16 (fun c17 h18 => ?_) (fun c17 h18 => ?_)
        · clear h16
          refine J_lload_n 0 dX5_rest_76 rfl rfl ?_
          refine J_goto 82 dX5_rest_77 (by decide) ?_
          have hw := Option.some.inj h18; subst hw
          exact J_lret rfl dX5_rest_82
        · clear h16
          refine J_lload 3 dX5_rest_80 rfl ?_
          have hw := Option.some.inj h18; subst hw
          exact J_lret rfl dX5_rest_82
      · clear h12
        refine J_lload_n 0 dX5_rest_83 rfl rfl ?_
        refine J_iload 2 dX5_rest_84 rfl ?_
        obtain ⟨i19_, ei19_, h20⟩ := bnd_some h14; clear h14
        refine J_callS (As := [.long j0, .int i4]) (rest := []) (st' := [.int i19_]) (t_X5_exponentField ei19_) gC_X5_exponentField gM_X5_357 rfl (by decide) (by decide) rfl rfl (Nat.le_of_ble_eq_true rfl) dX5_rest_86 ?_
        refine J_iconst (1 : Int32) dX5_rest_89 (by decide) ?_
        refine J_mmax dX5_rest_90 gM_X5_68 (by decide) (by decide) (Nat.le_of_ble_eq_true rfl) ?_
        obtain ⟨i21_, ei21_, h22⟩ := jLet_some h20; clear h20
        refine J_topI ei21_ ?_
        refine J_istore dX5_rest_93 (by decide) [1, 2, 3, 6, 0] (lv' := [(0, .long j0), (2, .long j2), (4, .int i4), (8, .long j3_), (10, .int i21_)]) rfl ?_
        refine J_lload_n 1 dX5_rest_95 rfl rfl ?_
        refine J_iload 2 dX5_rest_96 rfl ?_
        obtain ⟨i23_, ei23_, h24⟩ := bnd_some h22; clear h22
        refine J_callS (As := [.long j2, .int i4]) (rest := []) (st' := [.int i23_]) (t_X5_exponentField ei23_) gC_X5_exponentField gM_X5_357 rfl (by decide) (by decide) rfl rfl (Nat.le_of_ble_eq_true rfl) dX5_rest_98 ?_
        refine J_iconst (1 : Int32) dX5_rest_101 (by decide) ?_
        refine J_mmax dX5_rest_102 gM_X5_68 (by decide) (by decide) (Nat.le_of_ble_eq_true rfl) ?_
        obtain ⟨i25_, ei25_, h26⟩ := jLet_some h24; clear h24
        refine J_topI ei25_ ?_
        refine J_istore dX5_rest_105 (by decide) [1, 3, 4, 5, 0] (lv' := [(0, .long j0), (4, .int i4), (8, .long j3_), (10, .int i21_), (11, .int i25_)]) rfl ?_
        refine J_iload 3 dX5_rest_107 rfl ?_
        refine J_iload 4 dX5_rest_109 rfl ?_
        refine J_icmp_ge 116 dX5_rest_111 (by decide) h26 (fun c27 h28 => ?_) (fun c27 h28 => ?_)
        · clear h26
          refine J_lload_n 0 dX5_rest_116 rfl rfl ?_
          refine J_iload 1 dX5_rest_117 rfl ?_
          obtain ⟨j29_, ej29_, h30⟩ := bnd_some h28; clear h28
          refine J_callS (As := [.long j0, .int i4]) (rest := []) (st' := [.long j29_]) (t_X5_significand ej29_) gC_X5_significand gM_X5_362 rfl (by decide) (by decide) rfl rfl (Nat.le_of_ble_eq_true rfl) dX5_rest_119 ?_
          refine J_lload 2 dX5_rest_122 rfl ?_
          obtain ⟨g31, h32⟩ := gd_some h30; clear h30
          refine J_lrem dX5_rest_124 (nzL_of g31) ?_
          obtain ⟨j33_, ej33_, h34⟩ := jLet_some h32; clear h32
          refine J_topL ej33_ ?_
          refine J_lstore dX5_rest_125 (by decide) [1, 2, 3, 4, 5, 0] (lv' := [(0, .long j0), (4, .int i4), (8, .long j3_), (10, .int i21_), (11, .int i25_), (12, .long j33_)]) rfl ?_
          refine J_iload 3 dX5_rest_127 rfl ?_
          refine J_iload 4 dX5_rest_129 rfl ?_
          refine J_isub dX5_rest_131 ?_
          obtain ⟨i35_, ei35_, h36⟩ := jLet_some h34; clear h34
          refine J_topI ei35_ ?_
          refine J_istore dX5_rest_132 (by decide) [1, 2, 3, 5, 6, 0] (lv' := [(0, .long j0), (4, .int i4), (8, .long j3_), (11, .int i25_), (12, .long j33_), (14, .int i35_)]) rfl ?_
          exact t_X5_rest_L134 bigN j0 i4 j3_ i25_ j33_ i35_ h36
        · clear h26
          refine J_lload_n 0 dX5_rest_114 rfl rfl ?_
          have hw := Option.some.inj h28; subst hw
          exact J_lret rfl dX5_rest_115
def c_X5_rest (j0 : Int64) (j2 : Int64) (i4 : Int32) : Option Int64 :=
  if i4 = (23 : Int32) then
    (c_X5_rest_J16 j0 j2 i4 (2143289344 : Int64))
  else
    (c_X5_rest_J16 j0 j2 i4 (9221120237041090560 : Int64))
set_option maxRecDepth 100000 in
set_option maxHeartbeats 4000000 in
theorem t_X5_rest {S : Mem} {j0 : Int64} {j2 : Int64} {i4 : Int32} {w : Int64} (h : c_X5_rest j0 j2 i4 = some w) : CT MX yX5_rest cX5_rest 15 (some .long) 3 66 [.long j0, .long j2, .int i4] S (some (.long w)) S := by
  refine CT.of (lv := [(0, .long j0), (2, .long j2), (4, .int i4)]) (by decide) rfl (Nat.le_of_ble_eq_true rfl) ?_
  refine J_iload 2 dX5_rest_0 rfl ?_
  refine J_bipush (23 : Int32) dX5_rest_2 (by decide) ?_
  refine J_icmp_ne 13 dX5_rest_4 (by decide) h (fun c1 h2 => ?_) (fun c1 h2 => ?_)
  · clear h
    refine J_ldc2 (2143289344 : Int64) dX5_rest_7 gK_X5_373 ?_
    refine J_goto 16 dX5_rest_10 (by decide) ?_
    exact t_X5_rest_J16 h2
  · clear h
    refine J_ldc2 (9221120237041090560 : Int64) dX5_rest_13 gK_X5_375 ?_
    exact t_X5_rest_J16 h2
def c_X5_restFloat (a0 : Nat) (i1 : Int32) (i2 : Int32) : Option Int32 :=
  bnd (c_X5_rest ((Int32.toInt64 i1) &&& (4294967295 : Int64)) ((Int32.toInt64 i2) &&& (4294967295 : Int64)) (23 : Int32)) fun j1_ =>
  some (Int64.toInt32 j1_)
set_option maxRecDepth 100000 in
set_option maxHeartbeats 4000000 in
theorem t_X5_restFloat {S : Mem} {a0 : Nat} {i1 : Int32} {i2 : Int32} {w : Int32} (ha : mKd S a0 = 6) (h : c_X5_restFloat a0 i1 i2 = some w) : CT MX yX5_restFloat cX5_restFloat 3 (some .int) 4 100 [.ref a0, .int i1, .int i2] S (some (.int w)) S := by
  refine CT.of (lv := [(0, .ref a0), (1, .int i1), (2, .int i2)]) (by decide) rfl (Nat.le_of_ble_eq_true rfl) ?_
  refine J_iload_n 1 dX5_restFloat_0 rfl rfl ?_
  refine J_i2l dX5_restFloat_1 ?_
  refine J_ldc2 (4294967295 : Int64) dX5_restFloat_2 gK_X5_177 ?_
  refine J_land dX5_restFloat_5 ?_
  refine J_iload_n 2 dX5_restFloat_6 rfl rfl ?_
  refine J_i2l dX5_restFloat_7 ?_
  refine J_ldc2 (4294967295 : Int64) dX5_restFloat_8 gK_X5_177 ?_
  refine J_land dX5_restFloat_11 ?_
  refine J_bipush (23 : Int32) dX5_restFloat_12 (by decide) ?_
  obtain ⟨j1_, ej1_, h2⟩ := bnd_some h; clear h
  refine J_callS (As := [.long ((Int32.toInt64 i1) &&& (4294967295 : Int64)), .long ((Int32.toInt64 i2) &&& (4294967295 : Int64)), .int (23 : Int32)]) (rest := []) (st' := [.long j1_]) (t_X5_rest ej1_) gC_X5_rest gM_X5_183 rfl (by decide) (by decide) rfl rfl (Nat.le_of_ble_eq_true rfl) dX5_restFloat_14 ?_
  refine J_l2i dX5_restFloat_17 ?_
  have hw := Option.some.inj h2; subst hw
  exact J_iret rfl dX5_restFloat_18
def c_X5_restDouble (a0 : Nat) (j1 : Int64) (j3 : Int64) : Option Int64 :=
  bnd (c_X5_rest j1 j3 (52 : Int32)) fun j1_ =>
  some j1_
set_option maxRecDepth 100000 in
set_option maxHeartbeats 4000000 in
theorem t_X5_restDouble {S : Mem} {a0 : Nat} {j1 : Int64} {j3 : Int64} {w : Int64} (ha : mKd S a0 = 6) (h : c_X5_restDouble a0 j1 j3 = some w) : CT MX yX5_restDouble cX5_restDouble 5 (some .long) 4 100 [.ref a0, .long j1, .long j3] S (some (.long w)) S := by
  refine CT.of (lv := [(0, .ref a0), (1, .long j1), (3, .long j3)]) (by decide) rfl (Nat.le_of_ble_eq_true rfl) ?_
  refine J_lload_n 1 dX5_restDouble_0 rfl rfl ?_
  refine J_lload_n 2 dX5_restDouble_1 rfl rfl ?_
  refine J_bipush (52 : Int32) dX5_restDouble_2 (by decide) ?_
  obtain ⟨j1_, ej1_, h2⟩ := bnd_some h; clear h
  refine J_callS (As := [.long j1, .long j3, .int (52 : Int32)]) (rest := []) (st' := [.long j1_]) (t_X5_rest ej1_) gC_X5_rest gM_X5_183 rfl (by decide) (by decide) rfl rfl (Nat.le_of_ble_eq_true rfl) dX5_restDouble_4 ?_
  have hw := Option.some.inj h2; subst hw
  exact J_lret rfl dX5_restDouble_7
def c_X5_refusalOf (S : Mem) (r0 : Option Nat) (j1 : Int64) : Option Int32 :=
  if (0 : Int64) ≤ j1 then
    (bnd (ob S r0 2) fun a3 =>
    bnd (c_X1_allProper S a3) fun i5_ =>
    if i5_ = 0 then
      (some (-3 : Int32))
    else
      (some (0 : Int32)))
  else
    (some (-2 : Int32))
set_option maxRecDepth 100000 in
set_option maxHeartbeats 4000000 in
theorem t_X5_refusalOf {S : Mem} {r0 : Option Nat} {j1 : Int64} {w : Int32} (h : c_X5_refusalOf S r0 j1 = some w) : CT MX yX5_refusalOf cX5_refusalOf 3 (some .int) 3 64 [va_rf r0, .long j1] S (some (.int w)) S := by
  refine CT.of (lv := [(0, va_rf r0), (1, .long j1)]) (by decide) (by cases r0 <;> exact rfl) (by cases r0 <;> exact Nat.le_of_ble_eq_true rfl) ?_
  refine J_lload_n 1 dX5_refusalOf_0 rfl rfl ?_
  refine J_lconst (0 : Int64) dX5_refusalOf_1 (by decide) ?_
  refine J_lcmp_ge 9 dX5_refusalOf_2 dX5_refusalOf_3 (by decide) h (fun c1 h2 => ?_) (fun c1 h2 => ?_)
  · clear h
    refine J_aload_nq 0 dX5_refusalOf_9 rfl rfl ?_
    obtain ⟨a3, ea3, ka3, h4⟩ := ob_some h2; clear h2
    subst ea3
    refine J_lvst (lv' := [(0, .ref a3), (1, .long j1)]) (st' := [.ref a3]) rfl rfl ?_
    obtain ⟨i5_, ei5_, h6⟩ := bnd_some h4; clear h4
    refine J_callV (As := []) (rest := []) (st' := [.int i5_]) (t_X1_allProper ka3 ei5_) gC_X1_allProper gM_X5_131 (mRecv ka3 (by decide) jCl1) rfl (by decide) (by decide) rfl rfl (Nat.le_of_ble_eq_true rfl) dX5_refusalOf_10 ?_
    refine J_if_eq 20 dX5_refusalOf_13 (by decide) h6 (fun c7 h8 => ?_) (fun c7 h8 => ?_)
    · clear h6
      refine J_bipush (-3 : Int32) dX5_refusalOf_20 (by decide) ?_
      have hw := Option.some.inj h8; subst hw
      exact J_iret rfl dX5_refusalOf_22
    · clear h6
      refine J_iconst (0 : Int32) dX5_refusalOf_16 (by decide) ?_
      refine J_goto 22 dX5_refusalOf_17 (by decide) ?_
      have hw := Option.some.inj h8; subst hw
      exact J_iret rfl dX5_refusalOf_22
  · clear h
    refine J_bipush (-2 : Int32) dX5_refusalOf_6 (by decide) ?_
    have hw := Option.some.inj h2; subst hw
    exact J_iret rfl dX5_refusalOf_8
def c_X5_sumUp (S : Mem) (a0 : Nat) (r1 : Option Nat) (j2 : Int64) (i4 : Int32) : Option (Int32 × Mem) :=
  oc r1
    (some ((-1 : Int32), S))
    (fun a1 =>
      bnd (c_X5_refusalOf S (some a1) j2) fun i3_ =>
      if i3_ = 0 then
        (bnd (ob S (mR S a0 4) 4) fun a7 =>
        bnd (c_X3_open S a7 (some a1) none) fun S9 =>
        bnd (ob S9 (mR S9 a0 4) 4) fun a11 =>
        bnd2 (c_X3_putDigits S9 a11 (some a1) j2 (0 : Int32) i4) fun i13_ S14 =>
        bnd2 (c_X3_close S14 a11 i13_) fun i16_ S17 =>
        some (i16_, S17))
      else
        (some (i3_, S)))
set_option maxRecDepth 100000 in
set_option maxHeartbeats 4000000 in
theorem t_X5_sumUp {S : Mem} {a0 : Nat} {r1 : Option Nat} {j2 : Int64} {i4 : Int32} {w : (Int32 × Mem)} (ha : mKd S a0 = 6) (h : c_X5_sumUp S a0 r1 j2 i4 = some w) : CT MX yX5_sumUp cX5_sumUp 6 (some .int) 5 162 [.ref a0, va_rf r1, .long j2, .int i4] S (some (.int w.1)) w.2 := by
  refine CT.of (lv := [(0, .ref a0), (1, va_rf r1), (2, .long j2), (4, .int i4)]) (by decide) (by cases r1 <;> exact rfl) (by cases r1 <;> exact Nat.le_of_ble_eq_true rfl) ?_
  refine J_aload_nq 1 dX5_sumUp_0 rfl rfl ?_
  refine J_ifnonnull 6 dX5_sumUp_1 (by decide) h (fun ea1 h2 => ?_) (fun a1 ea1 h2 => ?_)
  · clear h
    subst ea1
    refine J_lvst (lv' := [(0, .ref a0), (1, va_rf none), (2, .long j2), (4, .int i4)]) (st' := []) rfl rfl ?_
    refine J_iconst (-1 : Int32) dX5_sumUp_4 (by decide) ?_
    have hw := Option.some.inj h2; subst hw
    exact J_iret rfl dX5_sumUp_5
  · clear h
    subst ea1
    refine J_lvst (lv' := [(0, .ref a0), (1, .ref a1), (2, .long j2), (4, .int i4)]) (st' := []) rfl rfl ?_
    refine J_aload_n 1 dX5_sumUp_6 rfl rfl ?_
    refine J_lload_n 2 dX5_sumUp_7 rfl rfl ?_
    obtain ⟨i3_, ei3_, h4⟩ := bnd_some h2; clear h2
    refine J_callS (As := [.ref a1, .long j2]) (rest := []) (st' := [.int i3_]) (t_X5_refusalOf ei3_) gC_X5_refusalOf gM_X5_190 rfl (by decide) (by decide) rfl rfl (Nat.le_of_ble_eq_true rfl) dX5_sumUp_8 ?_
    refine J_istore dX5_sumUp_11 (by decide) [1, 2, 3, 4, 0] (lv' := [(0, .ref a0), (1, .ref a1), (2, .long j2), (4, .int i4), (5, .int i3_)]) rfl ?_
    refine J_iload 4 dX5_sumUp_13 rfl ?_
    refine J_if_eq 21 dX5_sumUp_15 (by decide) h4 (fun c5 h6 => ?_) (fun c5 h6 => ?_)
    · clear h4
      refine J_aload_n 0 dX5_sumUp_21 rfl rfl ?_
      refine J_get (k := 4) (v := va_rf (mR S a0 4)) dX5_sumUp_22 gF_X5_26 ha rfl ?_
      refine J_aload_n 1 dX5_sumUp_25 rfl rfl ?_
      refine J_null dX5_sumUp_26 ?_
      obtain ⟨a7, ea7, ka7, h8⟩ := ob_some h6; clear h6
      rw [ea7]
      refine J_lvst (lv' := [(0, .ref a0), (1, .ref a1), (2, .long j2), (4, .int i4), (5, .int i3_)]) (st' := [va_rf none, .ref a1, .ref a7]) rfl rfl ?_
      obtain ⟨S9, eS9, h10⟩ := bnd_some h8; clear h8
      have cS9 := (t_X3_open ka7 eS9)
      have lS9 : jle MX S S9 := cS9.1
      have hS9_a0 : mKd S9 a0 = 6 := kd_le lS9 ha
      have hS9_a7 : mKd S9 a7 = 4 := kd_le lS9 ka7
      refine J_callV (As := [.ref a1, va_rf none]) (rest := []) (st' := []) cS9 gC_X3_open gM_X5_329 (mRecv ka7 (by decide) jCl3) rfl (by decide) (by decide) rfl rfl (Nat.le_of_ble_eq_true rfl) dX5_sumUp_27 ?_
      refine J_aload_n 0 dX5_sumUp_30 rfl rfl ?_
      refine J_get (k := 4) (v := va_rf (mR S9 a0 4)) dX5_sumUp_31 gF_X5_26 hS9_a0 rfl ?_
      refine J_aload_n 0 dX5_sumUp_34 rfl rfl ?_
      refine J_get (k := 4) (v := va_rf (mR S9 a0 4)) dX5_sumUp_35 gF_X5_26 hS9_a0 rfl ?_
      refine J_aload_n 1 dX5_sumUp_38 rfl rfl ?_
      refine J_lload_n 2 dX5_sumUp_39 rfl rfl ?_
      refine J_iconst (0 : Int32) dX5_sumUp_40 (by decide) ?_
      refine J_iload 3 dX5_sumUp_41 rfl ?_
      obtain ⟨a11, ea11, ka11, h12⟩ := ob_some h10; clear h10
      rw [ea11]
      refine J_lvst (lv' := [(0, .ref a0), (1, .ref a1), (2, .long j2), (4, .int i4), (5, .int i3_)]) (st' := [.int i4, .int (0 : Int32), .long j2, .ref a1, .ref a11, .ref a11]) rfl rfl ?_
      obtain ⟨i13_, S14, ei13_, h15⟩ := bnd2_some h12; clear h12
      have cS14 := (t_X3_putDigits ka11 ei13_)
      have lS14 : jle MX S9 S14 := cS14.1
      have hS14_a0 : mKd S14 a0 = 6 := kd_le lS14 hS9_a0
      have hS14_a7 : mKd S14 a7 = 4 := kd_le lS14 hS9_a7
      have hS14_a11 : mKd S14 a11 = 4 := kd_le lS14 ka11
      refine J_callV (As := [.ref a1, .long j2, .int (0 : Int32), .int i4]) (rest := [.ref a11]) (st' := [.int i13_, .ref a11]) cS14 gC_X3_putDigits gM_X5_333 (mRecv ka11 (by decide) jCl3) rfl (by decide) (by decide) rfl rfl (Nat.le_of_ble_eq_true rfl) dX5_sumUp_43 ?_
      obtain ⟨i16_, S17, ei16_, h18⟩ := bnd2_some h15; clear h15
      have cS17 := (t_X3_close hS14_a11 ei16_)
      have lS17 : jle MX S14 S17 := cS17.1
      have hS17_a0 : mKd S17 a0 = 6 := kd_le lS17 hS14_a0
      have hS17_a7 : mKd S17 a7 = 4 := kd_le lS17 hS14_a7
      have hS17_a11 : mKd S17 a11 = 4 := kd_le lS17 hS14_a11
      refine J_callV (As := [.int i13_]) (rest := []) (st' := [.int i16_]) cS17 gC_X3_close gM_X5_201 (mRecv hS14_a11 (by decide) jCl3) rfl (by decide) (by decide) rfl rfl (Nat.le_of_ble_eq_true rfl) dX5_sumUp_46 ?_
      have hw := Option.some.inj h18; subst hw
      exact J_iret rfl dX5_sumUp_49
    · clear h4
      refine J_iload 4 dX5_sumUp_18 rfl ?_
      have hw := Option.some.inj h6; subst hw
      exact J_iret rfl dX5_sumUp_20
def c_X5_add (S : Mem) (a0 : Nat) (i1 : Int32) (j2 : Int64) : Option (Int32 × Mem) :=
  bnd (c_X5_known S a0 i1) fun r1_ =>
  bnd2 (c_X5_sumUp S a0 r1_ j2 (1 : Int32)) fun i3_ S4 =>
  some (i3_, S4)
set_option maxRecDepth 100000 in
set_option maxHeartbeats 4000000 in
theorem t_X5_add {S : Mem} {a0 : Nat} {i1 : Int32} {j2 : Int64} {w : (Int32 × Mem)} (ha : mKd S a0 = 6) (h : c_X5_add S a0 i1 j2 = some w) : CT MX yX5_add cX5_add 4 (some .int) 6 187 [.ref a0, .int i1, .long j2] S (some (.int w.1)) w.2 := by
  refine CT.of (lv := [(0, .ref a0), (1, .int i1), (2, .long j2)]) (by decide) rfl (Nat.le_of_ble_eq_true rfl) ?_
  refine J_aload_n 0 dX5_add_0 rfl rfl ?_
  refine J_aload_n 0 dX5_add_1 rfl rfl ?_
  refine J_iload_n 1 dX5_add_2 rfl rfl ?_
  obtain ⟨r1_, er1_, h2⟩ := bnd_some h; clear h
  refine J_callV (As := [.int i1]) (rest := [.ref a0]) (st' := [va_rf r1_, .ref a0]) (t_X5_known ha er1_) gC_X5_known gM_X5_51 (mRecv ha (by decide) jCl5) rfl (by decide) (by decide) rfl rfl (Nat.le_of_ble_eq_true rfl) dX5_add_3 ?_
  refine J_lload_n 2 dX5_add_6 rfl rfl ?_
  refine J_iconst (1 : Int32) dX5_add_7 (by decide) ?_
  obtain ⟨i3_, S4, ei3_, h5⟩ := bnd2_some h2; clear h2
  have cS4 := (t_X5_sumUp ha ei3_)
  have lS4 : jle MX S S4 := cS4.1
  have hS4_a0 : mKd S4 a0 = 6 := kd_le lS4 ha
  refine J_callV (As := [va_rf r1_, .long j2, .int (1 : Int32)]) (rest := []) (st' := [.int i3_]) cS4 gC_X5_sumUp gM_X5_187 (mRecv ha (by decide) jCl5) rfl (by decide) (by decide) rfl rfl (Nat.le_of_ble_eq_true rfl) dX5_add_8 ?_
  have hw := Option.some.inj h5; subst hw
  exact J_iret rfl dX5_add_11
def c_X5_less (S : Mem) (a0 : Nat) (i1 : Int32) (j2 : Int64) : Option (Int32 × Mem) :=
  bnd (c_X5_known S a0 i1) fun r1_ =>
  bnd2 (c_X5_sumUp S a0 r1_ j2 (-1 : Int32)) fun i3_ S4 =>
  some (i3_, S4)
set_option maxRecDepth 100000 in
set_option maxHeartbeats 4000000 in
theorem t_X5_less {S : Mem} {a0 : Nat} {i1 : Int32} {j2 : Int64} {w : (Int32 × Mem)} (ha : mKd S a0 = 6) (h : c_X5_less S a0 i1 j2 = some w) : CT MX yX5_less cX5_less 4 (some .int) 6 187 [.ref a0, .int i1, .long j2] S (some (.int w.1)) w.2 := by
  refine CT.of (lv := [(0, .ref a0), (1, .int i1), (2, .long j2)]) (by decide) rfl (Nat.le_of_ble_eq_true rfl) ?_
  refine J_aload_n 0 dX5_less_0 rfl rfl ?_
  refine J_aload_n 0 dX5_less_1 rfl rfl ?_
  refine J_iload_n 1 dX5_less_2 rfl rfl ?_
  obtain ⟨r1_, er1_, h2⟩ := bnd_some h; clear h
  refine J_callV (As := [.int i1]) (rest := [.ref a0]) (st' := [va_rf r1_, .ref a0]) (t_X5_known ha er1_) gC_X5_known gM_X5_51 (mRecv ha (by decide) jCl5) rfl (by decide) (by decide) rfl rfl (Nat.le_of_ble_eq_true rfl) dX5_less_3 ?_
  refine J_lload_n 2 dX5_less_6 rfl rfl ?_
  refine J_iconst (-1 : Int32) dX5_less_7 (by decide) ?_
  obtain ⟨i3_, S4, ei3_, h5⟩ := bnd2_some h2; clear h2
  have cS4 := (t_X5_sumUp ha ei3_)
  have lS4 : jle MX S S4 := cS4.1
  have hS4_a0 : mKd S4 a0 = 6 := kd_le lS4 ha
  refine J_callV (As := [va_rf r1_, .long j2, .int (-1 : Int32)]) (rest := []) (st' := [.int i3_]) cS4 gC_X5_sumUp gM_X5_187 (mRecv ha (by decide) jCl5) rfl (by decide) (by decide) rfl rfl (Nat.le_of_ble_eq_true rfl) dX5_less_8 ?_
  have hw := Option.some.inj h5; subst hw
  exact J_iret rfl dX5_less_11
def c_X5_opened_J25 (S : Mem) (a0 : Nat) (r1 : Option Nat) (r2 : Option Nat) (i5 : Int32) : Option (Int32 × Mem) :=
  if i5 = 0 then
    (bnd (ob S (mR S a0 4) 4) fun a3 =>
    bnd (c_X3_open S a3 r1 r2) fun S5 =>
    some ((0 : Int32), S5))
  else
    (bnd2 (c_X5_faulted S a0 i5) fun i7_ S8 =>
    some (i7_, S8))
set_option maxRecDepth 100000 in
set_option maxHeartbeats 4000000 in
theorem t_X5_opened_J25 {S : Mem} {a0 : Nat} {r1 : Option Nat} {r2 : Option Nat} {i5 : Int32} {w : (Int32 × Mem)} (ha : mKd S a0 = 6) (h : c_X5_opened_J25 S a0 r1 r2 i5 = some w) : J MX yX5_opened cX5_opened 6 (some .int) 2 42 25 [(0, .ref a0), (1, va_rf r1), (2, va_rf r2), (5, .int i5)] [] S (some (.int w.1)) w.2 := by
  refine J_iload 3 dX5_opened_25 rfl ?_
  refine J_if_eq 37 dX5_opened_27 (by decide) h (fun c1 h2 => ?_) (fun c1 h2 => ?_)
  · clear h
    refine J_aload_n 0 dX5_opened_37 rfl rfl ?_
    refine J_get (k := 4) (v := va_rf (mR S a0 4)) dX5_opened_38 gF_X5_26 ha rfl ?_
    refine J_aload_nq 1 dX5_opened_41 rfl rfl ?_
    refine J_aload_nq 2 dX5_opened_42 rfl rfl ?_
    obtain ⟨a3, ea3, ka3, h4⟩ := ob_some h2; clear h2
    rw [ea3]
    refine J_lvst (lv' := [(0, .ref a0), (1, va_rf r1), (2, va_rf r2), (5, .int i5)]) (st' := [va_rf r2, va_rf r1, .ref a3]) rfl rfl ?_
    obtain ⟨S5, eS5, h6⟩ := bnd_some h4; clear h4
    have cS5 := (t_X3_open ka3 eS5)
    have lS5 : jle MX S S5 := cS5.1
    have hS5_a0 : mKd S5 a0 = 6 := kd_le lS5 ha
    have hS5_a3 : mKd S5 a3 = 4 := kd_le lS5 ka3
    refine J_callV (As := [va_rf r1, va_rf r2]) (rest := []) (st' := []) cS5 gC_X3_open gM_X5_329 (mRecv ka3 (by decide) jCl3) rfl (by decide) (by decide) rfl rfl (Nat.le_of_ble_eq_true rfl) dX5_opened_43 ?_
    refine J_iconst (0 : Int32) dX5_opened_46 (by decide) ?_
    have hw := Option.some.inj h6; subst hw
    exact J_iret rfl dX5_opened_47
  · clear h
    refine J_aload_n 0 dX5_opened_30 rfl rfl ?_
    refine J_iload 3 dX5_opened_31 rfl ?_
    obtain ⟨i7_, S8, ei7_, h9⟩ := bnd2_some h2; clear h2
    have cS8 := (t_X5_faulted ha ei7_)
    have lS8 : jle MX S S8 := cS8.1
    have hS8_a0 : mKd S8 a0 = 6 := kd_le lS8 ha
    refine J_callV (As := [.int i5]) (rest := []) (st' := [.int i7_]) cS8 gC_X5_faulted gM_X5_45 (mRecv ha (by decide) jCl5) rfl (by decide) (by decide) rfl rfl (Nat.le_of_ble_eq_true rfl) dX5_opened_33 ?_
    have hw := Option.some.inj h9; subst hw
    exact J_iret rfl dX5_opened_36
def c_X5_opened (S : Mem) (a0 : Nat) (r1 : Option Nat) (r2 : Option Nat) (i3 : Int32) (i4 : Int32) : Option (Int32 × Mem) :=
  if i3 = 0 then
    (bnd (ob S r1 2) fun a3 =>
    bnd (c_X1_firstFault S a3) fun i5_ =>
    if i5_ = 0 then
      (if i4 = 0 then
        (c_X5_opened_J25 S a0 (some a3) r2 i5_)
      else
        (c_X5_opened_J25 S a0 (some a3) r2 (5 : Int32)))
    else
      (c_X5_opened_J25 S a0 (some a3) r2 i5_))
  else
    (some (i3, S))
set_option maxRecDepth 100000 in
set_option maxHeartbeats 4000000 in
theorem t_X5_opened {S : Mem} {a0 : Nat} {r1 : Option Nat} {r2 : Option Nat} {i3 : Int32} {i4 : Int32} {w : (Int32 × Mem)} (ha : mKd S a0 = 6) (h : c_X5_opened S a0 r1 r2 i3 i4 = some w) : CT MX yX5_opened cX5_opened 6 (some .int) 2 42 [.ref a0, va_rf r1, va_rf r2, .int i3, .int i4] S (some (.int w.1)) w.2 := by
  refine CT.of (lv := [(0, .ref a0), (1, va_rf r1), (2, va_rf r2), (3, .int i3), (4, .int i4)]) (by decide) (by cases r1 <;> cases r2 <;> exact rfl) (by cases r1 <;> cases r2 <;> exact Nat.le_of_ble_eq_true rfl) ?_
  refine J_iload_n 3 dX5_opened_0 rfl rfl ?_
  refine J_if_eq 6 dX5_opened_1 (by decide) h (fun c1 h2 => ?_) (fun c1 h2 => ?_)
  · clear h
    refine J_aload_nq 1 dX5_opened_6 rfl rfl ?_
    obtain ⟨a3, ea3, ka3, h4⟩ := ob_some h2; clear h2
    subst ea3
    refine J_lvst (lv' := [(0, .ref a0), (1, .ref a3), (2, va_rf r2), (3, .int i3), (4, .int i4)]) (st' := [.ref a3]) rfl rfl ?_
    obtain ⟨i5_, ei5_, h6⟩ := bnd_some h4; clear h4
    refine J_callV (As := []) (rest := []) (st' := [.int i5_]) (t_X1_firstFault ka3 ei5_) gC_X1_firstFault gM_X5_116 (mRecv ka3 (by decide) jCl1) rfl (by decide) (by decide) rfl rfl (Nat.le_of_ble_eq_true rfl) dX5_opened_7 ?_
    refine J_istore dX5_opened_10 (by decide) [1, 2, 3, 5, 0] (lv' := [(0, .ref a0), (1, .ref a3), (2, va_rf r2), (4, .int i4), (5, .int i5_)]) rfl ?_
    refine J_iload 4 dX5_opened_12 rfl ?_
    refine J_if_ne 25 dX5_opened_14 (by decide) h6 (fun c7 h8 => ?_) (fun c7 h8 => ?_)
    · clear h6
      refine J_iload 3 dX5_opened_17 rfl ?_
      refine J_if_eq 25 dX5_opened_19 (by decide) h8 (fun c9 h10 => ?_) (fun c9 h10 => ?_)
      · clear h8
        refine J_lv [0, 1, 2, 4] rfl ?_
        exact t_X5_opened_J25 ha h10
      · clear h8
        refine J_iconst (5 : Int32) dX5_opened_22 (by decide) ?_
        refine J_istore dX5_opened_23 (by decide) [1, 2, 3, 0] (lv' := [(0, .ref a0), (1, .ref a3), (2, va_rf r2), (5, .int (5 : Int32))]) rfl ?_
        exact t_X5_opened_J25 ha h10
    · clear h6
      refine J_lv [0, 1, 2, 4] rfl ?_
      exact t_X5_opened_J25 ha h8
  · clear h
    refine J_iload_n 3 dX5_opened_4 rfl rfl ?_
    have hw := Option.some.inj h2; subst hw
    exact J_iret rfl dX5_opened_5
def c_X5_times (S : Mem) (a0 : Nat) (i1 : Int32) (j2 : Int64) : Option (Int32 × Mem) :=
  bnd (c_X5_known S a0 i1) fun r1_ =>
  oc r1_
    (some ((-1 : Int32), S))
    (fun a3 =>
      bnd (c_X5_refusalOf S (some a3) j2) fun i5_ =>
      bnd2 (c_X5_opened S a0 (some a3) none i5_ (0 : Int32)) fun i7_ S8 =>
      if i7_ = 0 then
        (bnd (ob S8 (mR S8 a0 4) 4) fun a12 =>
        bnd2 (c_X3_multiply S8 a12 (some a3) j2) fun i14_ S15 =>
        bnd2 (c_X3_close S15 a12 i14_) fun i17_ S18 =>
        some (i17_, S18))
      else
        (some (i7_, S8)))
set_option maxRecDepth 100000 in
set_option maxHeartbeats 4000000 in
theorem t_X5_times {S : Mem} {a0 : Nat} {i1 : Int32} {j2 : Int64} {w : (Int32 × Mem)} (ha : mKd S a0 = 6) (h : c_X5_times S a0 i1 j2 = some w) : CT MX yX5_times cX5_times 6 (some .int) 6 188 [.ref a0, .int i1, .long j2] S (some (.int w.1)) w.2 := by
  refine CT.of (lv := [(0, .ref a0), (1, .int i1), (2, .long j2)]) (by decide) rfl (Nat.le_of_ble_eq_true rfl) ?_
  refine J_aload_n 0 dX5_times_0 rfl rfl ?_
  refine J_iload_n 1 dX5_times_1 rfl rfl ?_
  obtain ⟨r1_, er1_, h2⟩ := bnd_some h; clear h
  refine J_callV (As := [.int i1]) (rest := []) (st' := [va_rf r1_]) (t_X5_known ha er1_) gC_X5_known gM_X5_51 (mRecv ha (by decide) jCl5) rfl (by decide) (by decide) rfl rfl (Nat.le_of_ble_eq_true rfl) dX5_times_2 ?_
  refine J_astoreq dX5_times_5 (by decide) [1, 3, 0] (lv' := [(0, .ref a0), (2, .long j2), (4, va_rf r1_)]) rfl ?_
  refine J_aloadq 2 dX5_times_7 rfl ?_
  refine J_ifnonnull 14 dX5_times_9 (by decide) h2 (fun ea3 h4 => ?_) (fun a3 ea3 h4 => ?_)
  · clear h2
    subst ea3
    refine J_lvst (lv' := [(0, .ref a0), (2, .long j2), (4, va_rf none)]) (st' := []) rfl rfl ?_
    refine J_iconst (-1 : Int32) dX5_times_12 (by decide) ?_
    have hw := Option.some.inj h4; subst hw
    exact J_iret rfl dX5_times_13
  · clear h2
    subst ea3
    refine J_lvst (lv' := [(0, .ref a0), (2, .long j2), (4, .ref a3)]) (st' := []) rfl rfl ?_
    refine J_aload_n 0 dX5_times_14 rfl rfl ?_
    refine J_aload 2 dX5_times_15 rfl ?_
    refine J_null dX5_times_17 ?_
    refine J_aload 2 dX5_times_18 rfl ?_
    refine J_lload_n 1 dX5_times_20 rfl rfl ?_
    obtain ⟨i5_, ei5_, h6⟩ := bnd_some h4; clear h4
    refine J_callS (As := [.ref a3, .long j2]) (rest := [va_rf none, .ref a3, .ref a0]) (st' := [.int i5_, va_rf none, .ref a3, .ref a0]) (t_X5_refusalOf ei5_) gC_X5_refusalOf gM_X5_190 rfl (by decide) (by decide) rfl rfl (by simp only [List.map_cons, List.map_nil, List.sum_cons, List.sum_nil, va_rf_cat]; exact Nat.le_of_ble_eq_true rfl) dX5_times_21 ?_
    refine J_iconst (0 : Int32) dX5_times_24 (by decide) ?_
    obtain ⟨i7_, S8, ei7_, h9⟩ := bnd2_some h6; clear h6
    have cS8 := (t_X5_opened ha ei7_)
    have lS8 : jle MX S S8 := cS8.1
    have hS8_a0 : mKd S8 a0 = 6 := kd_le lS8 ha
    refine J_callV (As := [.ref a3, va_rf none, .int i5_, .int (0 : Int32)]) (rest := []) (st' := [.int i7_]) cS8 gC_X5_opened gM_X5_193 (mRecv ha (by decide) jCl5) rfl (by decide) (by decide) rfl rfl (Nat.le_of_ble_eq_true rfl) dX5_times_25 ?_
    refine J_istore dX5_times_28 (by decide) [1, 2, 3, 0] (lv' := [(0, .ref a0), (2, .long j2), (4, .ref a3), (5, .int i7_)]) rfl ?_
    refine J_iload 3 dX5_times_30 rfl ?_
    refine J_if_eq 40 dX5_times_32 (by decide) h9 (fun c10 h11 => ?_) (fun c10 h11 => ?_)
    · clear h9
      refine J_aload_n 0 dX5_times_40 rfl rfl ?_
      refine J_get (k := 4) (v := va_rf (mR S8 a0 4)) dX5_times_41 gF_X5_26 hS8_a0 rfl ?_
      refine J_aload_n 0 dX5_times_44 rfl rfl ?_
      refine J_get (k := 4) (v := va_rf (mR S8 a0 4)) dX5_times_45 gF_X5_26 hS8_a0 rfl ?_
      refine J_aload 2 dX5_times_48 rfl ?_
      refine J_lload_n 1 dX5_times_50 rfl rfl ?_
      obtain ⟨a12, ea12, ka12, h13⟩ := ob_some h11; clear h11
      rw [ea12]
      refine J_lvst (lv' := [(0, .ref a0), (2, .long j2), (4, .ref a3), (5, .int i7_)]) (st' := [.long j2, .ref a3, .ref a12, .ref a12]) rfl rfl ?_
      obtain ⟨i14_, S15, ei14_, h16⟩ := bnd2_some h13; clear h13
      have cS15 := (t_X3_multiply ka12 ei14_)
      have lS15 : jle MX S8 S15 := cS15.1
      have hS15_a0 : mKd S15 a0 = 6 := kd_le lS15 hS8_a0
      have hS15_a12 : mKd S15 a12 = 4 := kd_le lS15 ka12
      refine J_callV (As := [.ref a3, .long j2]) (rest := [.ref a12]) (st' := [.int i14_, .ref a12]) cS15 gC_X3_multiply gM_X5_197 (mRecv ka12 (by decide) jCl3) rfl (by decide) (by decide) rfl rfl (Nat.le_of_ble_eq_true rfl) dX5_times_51 ?_
      obtain ⟨i17_, S18, ei17_, h19⟩ := bnd2_some h16; clear h16
      have cS18 := (t_X3_close hS15_a12 ei17_)
      have lS18 : jle MX S15 S18 := cS18.1
      have hS18_a0 : mKd S18 a0 = 6 := kd_le lS18 hS15_a0
      have hS18_a12 : mKd S18 a12 = 4 := kd_le lS18 hS15_a12
      refine J_callV (As := [.int i14_]) (rest := []) (st' := [.int i17_]) cS18 gC_X3_close gM_X5_201 (mRecv hS15_a12 (by decide) jCl3) rfl (by decide) (by decide) rfl rfl (Nat.le_of_ble_eq_true rfl) dX5_times_54 ?_
      have hw := Option.some.inj h19; subst hw
      exact J_iret rfl dX5_times_57
    · clear h9
      refine J_iload 3 dX5_times_35 rfl ?_
      refine J_goto 57 dX5_times_37 (by decide) ?_
      have hw := Option.some.inj h11; subst hw
      exact J_iret rfl dX5_times_57
def c_X5_refusalOfTwo_J51 (S : Mem) : Option Int32 :=
  if (1 : Int32) = 0 then
    (some (0 : Int32))
  else
    (some (-3 : Int32))
set_option maxRecDepth 100000 in
set_option maxHeartbeats 4000000 in
theorem t_X5_refusalOfTwo_J51 {S : Mem} {w : Int32} (h : c_X5_refusalOfTwo_J51 S = some w) : J MX yX5_refusalOfTwo cX5_refusalOfTwo 6 (some .int) 3 64 51 [] [] S (some (.int w)) S := by
  refine J_iconst (1 : Int32) dX5_refusalOfTwo_51 (by decide) ?_
  refine J_goto 56 dX5_refusalOfTwo_52 (by decide) ?_
  refine J_istore dX5_refusalOfTwo_56 (by decide) [0] (lv' := [(5, .int (1 : Int32))]) rfl ?_
  refine J_iload 0 dX5_refusalOfTwo_58 rfl ?_
  refine J_if_eq 68 dX5_refusalOfTwo_60 (by decide) h (fun c1 h2 => ?_) (fun c1 h2 => ?_)
  · clear h
    refine J_iconst (0 : Int32) dX5_refusalOfTwo_68 (by decide) ?_
    have hw := Option.some.inj h2; subst hw
    exact J_iret rfl dX5_refusalOfTwo_69
  · clear h
    refine J_bipush (-3 : Int32) dX5_refusalOfTwo_63 (by decide) ?_
    refine J_goto 69 dX5_refusalOfTwo_65 (by decide) ?_
    have hw := Option.some.inj h2; subst hw
    exact J_iret rfl dX5_refusalOfTwo_69
def c_X5_refusalOfTwo (S : Mem) (r0 : Option Nat) (r1 : Option Nat) (j2 : Int64) (i4 : Int32) : Option Int32 :=
  if (0 : Int64) ≤ j2 then
    (bnd (ob S r0 2) fun a3 =>
    bnd (c_X1_allProper S a3) fun i5_ =>
    if i5_ = 0 then
      (c_X5_refusalOfTwo_J51 S)
    else
      (bnd (ob S r1 2) fun a9 =>
      bnd (c_X1_allProper S a9) fun i11_ =>
      if i11_ = 0 then
        (c_X5_refusalOfTwo_J51 S)
      else
        (if ((mI S a3 4) &&& (mI S a9 4)) = 0 then
          (if i4 = 0 then
            (if (0 : Int32) = 0 then
              (some (0 : Int32))
            else
              (some (-3 : Int32)))
          else
            (if (mI S a3 2) = (mI S a9 2) then
              (if (0 : Int32) = 0 then
                (some (0 : Int32))
              else
                (some (-3 : Int32)))
            else
              (c_X5_refusalOfTwo_J51 S)))
        else
          (c_X5_refusalOfTwo_J51 S))))
  else
    (some (-2 : Int32))
set_option maxRecDepth 100000 in
set_option maxHeartbeats 4000000 in
theorem t_X5_refusalOfTwo {S : Mem} {r0 : Option Nat} {r1 : Option Nat} {j2 : Int64} {i4 : Int32} {w : Int32} (h : c_X5_refusalOfTwo S r0 r1 j2 i4 = some w) : CT MX yX5_refusalOfTwo cX5_refusalOfTwo 6 (some .int) 3 64 [va_rf r0, va_rf r1, .long j2, .int i4] S (some (.int w)) S := by
  refine CT.of (lv := [(0, va_rf r0), (1, va_rf r1), (2, .long j2), (4, .int i4)]) (by decide) (by cases r0 <;> cases r1 <;> exact rfl) (by cases r0 <;> cases r1 <;> exact Nat.le_of_ble_eq_true rfl) ?_
  refine J_lload_n 2 dX5_refusalOfTwo_0 rfl rfl ?_
  refine J_lconst (0 : Int64) dX5_refusalOfTwo_1 (by decide) ?_
  refine J_lcmp_ge 9 dX5_refusalOfTwo_2 dX5_refusalOfTwo_3 (by decide) h (fun c1 h2 => ?_) (fun c1 h2 => ?_)
  · clear h
    refine J_aload_nq 0 dX5_refusalOfTwo_9 rfl rfl ?_
    obtain ⟨a3, ea3, ka3, h4⟩ := ob_some h2; clear h2
    subst ea3
    refine J_lvst (lv' := [(0, .ref a3), (1, va_rf r1), (2, .long j2), (4, .int i4)]) (st' := [.ref a3]) rfl rfl ?_
    obtain ⟨i5_, ei5_, h6⟩ := bnd_some h4; clear h4
    refine J_callV (As := []) (rest := []) (st' := [.int i5_]) (t_X1_allProper ka3 ei5_) gC_X1_allProper gM_X5_131 (mRecv ka3 (by decide) jCl1) rfl (by decide) (by decide) rfl rfl (Nat.le_of_ble_eq_true rfl) dX5_refusalOfTwo_10 ?_
    refine J_if_eq 51 dX5_refusalOfTwo_13 (by decide) h6 (fun c7 h8 => ?_) (fun c7 h8 => ?_)
    · clear h6
      refine J_lv [] rfl ?_
      exact t_X5_refusalOfTwo_J51 h8
    · clear h6
      refine J_aload_nq 1 dX5_refusalOfTwo_16 rfl rfl ?_
      obtain ⟨a9, ea9, ka9, h10⟩ := ob_some h8; clear h8
      subst ea9
      refine J_lvst (lv' := [(0, .ref a3), (1, .ref a9), (2, .long j2), (4, .int i4)]) (st' := [.ref a9]) rfl rfl ?_
      obtain ⟨i11_, ei11_, h12⟩ := bnd_some h10; clear h10
      refine J_callV (As := []) (rest := []) (st' := [.int i11_]) (t_X1_allProper ka9 ei11_) gC_X1_allProper gM_X5_131 (mRecv ka9 (by decide) jCl1) rfl (by decide) (by decide) rfl rfl (Nat.le_of_ble_eq_true rfl) dX5_refusalOfTwo_17 ?_
      refine J_if_eq 51 dX5_refusalOfTwo_20 (by decide) h12 (fun c13 h14 => ?_) (fun c13 h14 => ?_)
      · clear h12
        refine J_lv [] rfl ?_
        exact t_X5_refusalOfTwo_J51 h14
      · clear h12
        refine J_aload_n 0 dX5_refusalOfTwo_23 rfl rfl ?_
        refine J_get (k := 4) (v := .int (mI S a3 4)) dX5_refusalOfTwo_24 gF_X5_58 ka3 rfl ?_
        refine J_aload_n 1 dX5_refusalOfTwo_27 rfl rfl ?_
        refine J_get (k := 4) (v := .int (mI S a9 4)) dX5_refusalOfTwo_28 gF_X5_58 ka9 rfl ?_
        refine J_iand dX5_refusalOfTwo_31 ?_
        refine J_if_ne 51 dX5_refusalOfTwo_32 (by decide) h14 (fun c15 h16 => ?_) (fun c15 h16 => ?_)
        · clear h14
          refine J_iload 3 dX5_refusalOfTwo_35 rfl ?_
          refine J_if_eq 55 dX5_refusalOfTwo_37 (by decide) h16 (fun c17 h18 => ?_) (fun c17 h18 => ?_)
          · clear h16
            refine J_iconst (0 : Int32) dX5_refusalOfTwo_55 (by decide) ?_
            refine J_istore dX5_refusalOfTwo_56 (by decide) [0] (lv' := [(5, .int (0 : Int32))]) rfl ?_
            refine J_iload 0 dX5_refusalOfTwo_58 rfl ?_
            refine J_if_eq 68 dX5_refusalOfTwo_60 (by decide) h18 (fun c19 h20 => ?_) (fun c19 h20 => ?_)
            · clear h18
              refine J_iconst (0 : Int32) dX5_refusalOfTwo_68 (by decide) ?_
              have hw := Option.some.inj h20; subst hw
              exact J_iret rfl dX5_refusalOfTwo_69
            · clear h18
              refine J_bipush (-3 : Int32) dX5_refusalOfTwo_63 (by decide) ?_
              refine J_goto 69 dX5_refusalOfTwo_65 (by decide) ?_
              have hw := Option.some.inj h20; subst hw
              exact J_iret rfl dX5_refusalOfTwo_69
          · clear h16
            refine J_aload_n 0 dX5_refusalOfTwo_40 rfl rfl ?_
            refine J_get (k := 2) (v := .int (mI S a3 2)) dX5_refusalOfTwo_41 gF_X5_55 ka3 rfl ?_
            refine J_aload_n 1 dX5_refusalOfTwo_44 rfl rfl ?_
            refine J_get (k := 2) (v := .int (mI S a9 2)) dX5_refusalOfTwo_45 gF_X5_55 ka9 rfl ?_
            refine J_icmp_eq 55 dX5_refusalOfTwo_48 (by decide) h18 (fun c21 h22 => ?_) (fun c21 h22 => ?_)
            · clear h18
              refine J_iconst (0 : Int32) dX5_refusalOfTwo_55 (by decide) ?_
              refine J_istore dX5_refusalOfTwo_56 (by decide) [0] (lv' := [(5, .int (0 : Int32))]) rfl ?_
              refine J_iload 0 dX5_refusalOfTwo_58 rfl ?_
              refine J_if_eq 68 dX5_refusalOfTwo_60 (by decide) h22 (fun c23 h24 => ?_) (fun c23 h24 => ?_)
              · clear h22
                refine J_iconst (0 : Int32) dX5_refusalOfTwo_68 (by decide) ?_
                have hw := Option.some.inj h24; subst hw
                exact J_iret rfl dX5_refusalOfTwo_69
              · clear h22
                refine J_bipush (-3 : Int32) dX5_refusalOfTwo_63 (by decide) ?_
                refine J_goto 69 dX5_refusalOfTwo_65 (by decide) ?_
                have hw := Option.some.inj h24; subst hw
                exact J_iret rfl dX5_refusalOfTwo_69
            · clear h18
              refine J_lv [] rfl ?_
              exact t_X5_refusalOfTwo_J51 h22
        · clear h14
          refine J_lv [] rfl ?_
          exact t_X5_refusalOfTwo_J51 h16
  · clear h
    refine J_bipush (-2 : Int32) dX5_refusalOfTwo_6 (by decide) ?_
    have hw := Option.some.inj h2; subst hw
    exact J_iret rfl dX5_refusalOfTwo_8
def c_X5_divide_J51 (S : Mem) (a0 : Nat) (j3 : Int64) (r5 : Option Nat) (r6 : Option Nat) (rs1 : Option Nat) (rs2 : Option Nat) (is3 : Int32) (is4 : Int32) : Option (Int32 × Mem) :=
  bnd2 (c_X5_opened S a0 rs1 rs2 is3 is4) fun i1_ S2 =>
  if i1_ = 0 then
    (bnd (ob S2 (mR S2 a0 4) 4) fun a6 =>
    bnd2 (c_X3_quotient S2 a6 r5 r6 j3) fun i8_ S9 =>
    bnd2 (c_X3_close S9 a6 i8_) fun i11_ S12 =>
    some (i11_, S12))
  else
    (some (i1_, S2))
set_option maxRecDepth 100000 in
set_option maxHeartbeats 4000000 in
theorem t_X5_divide_J51 {S : Mem} {a0 : Nat} {j3 : Int64} {r5 : Option Nat} {r6 : Option Nat} {rs1 : Option Nat} {rs2 : Option Nat} {is3 : Int32} {is4 : Int32} {w : (Int32 × Mem)} (ha : mKd S a0 = 6) (h : c_X5_divide_J51 S a0 j3 r5 r6 rs1 rs2 is3 is4 = some w) : J MX yX5_divide cX5_divide 8 (some .int) 6 195 51 [(0, .ref a0), (3, .long j3), (5, va_rf r5), (6, va_rf r6)] [.int is4, .int is3, va_rf rs2, va_rf rs1, .ref a0] S (some (.int w.1)) w.2 := by
  obtain ⟨i1_, S2, ei1_, h3⟩ := bnd2_some h; clear h
  have cS2 := (t_X5_opened ha ei1_)
  have lS2 : jle MX S S2 := cS2.1
  have hS2_a0 : mKd S2 a0 = 6 := kd_le lS2 ha
  refine J_callV (As := [va_rf rs1, va_rf rs2, .int is3, .int is4]) (rest := []) (st' := [.int i1_]) cS2 gC_X5_opened gM_X5_193 (mRecv ha (by decide) jCl5) rfl (by decide) (by decide) rfl rfl (Nat.le_of_ble_eq_true rfl) dX5_divide_51 ?_
  refine J_istore dX5_divide_54 (by decide) [1, 2, 3, 4, 0] (lv' := [(0, .ref a0), (3, .long j3), (5, va_rf r5), (6, va_rf r6), (7, .int i1_)]) (by cases r6 <;> rfl) ?_
  refine J_iload 4 dX5_divide_56 rfl ?_
  refine J_if_eq 66 dX5_divide_58 (by decide) h3 (fun c4 h5 => ?_) (fun c4 h5 => ?_)
  · clear h3
    refine J_aload_n 0 dX5_divide_66 rfl rfl ?_
    refine J_get (k := 4) (v := va_rf (mR S2 a0 4)) dX5_divide_67 gF_X5_26 hS2_a0 rfl ?_
    refine J_aload_n 0 dX5_divide_70 rfl rfl ?_
    refine J_get (k := 4) (v := va_rf (mR S2 a0 4)) dX5_divide_71 gF_X5_26 hS2_a0 rfl ?_
    refine J_aloadq 2 dX5_divide_74 rfl ?_
    refine J_aloadq 3 dX5_divide_76 rfl ?_
    refine J_lload_n 1 dX5_divide_78 rfl rfl ?_
    obtain ⟨a6, ea6, ka6, h7⟩ := ob_some h5; clear h5
    rw [ea6]
    refine J_lvst (lv' := [(0, .ref a0), (3, .long j3), (5, va_rf r5), (6, va_rf r6), (7, .int i1_)]) (st' := [.long j3, va_rf r6, va_rf r5, .ref a6, .ref a6]) rfl rfl ?_
    obtain ⟨i8_, S9, ei8_, h10⟩ := bnd2_some h7; clear h7
    have cS9 := (t_X3_quotient ka6 ei8_)
    have lS9 : jle MX S2 S9 := cS9.1
    have hS9_a0 : mKd S9 a0 = 6 := kd_le lS9 hS2_a0
    have hS9_a6 : mKd S9 a6 = 4 := kd_le lS9 ka6
    refine J_callV (As := [va_rf r5, va_rf r6, .long j3]) (rest := [.ref a6]) (st' := [.int i8_, .ref a6]) cS9 gC_X3_quotient gM_X5_209 (mRecv ka6 (by decide) jCl3) rfl (by decide) (by decide) rfl rfl (Nat.le_of_ble_eq_true rfl) dX5_divide_79 ?_
    obtain ⟨i11_, S12, ei11_, h13⟩ := bnd2_some h10; clear h10
    have cS12 := (t_X3_close hS9_a6 ei11_)
    have lS12 : jle MX S9 S12 := cS12.1
    have hS12_a0 : mKd S12 a0 = 6 := kd_le lS12 hS9_a0
    have hS12_a6 : mKd S12 a6 = 4 := kd_le lS12 hS9_a6
    refine J_callV (As := [.int i8_]) (rest := []) (st' := [.int i11_]) cS12 gC_X3_close gM_X5_201 (mRecv hS9_a6 (by decide) jCl3) rfl (by decide) (by decide) rfl rfl (Nat.le_of_ble_eq_true rfl) dX5_divide_82 ?_
    have hw := Option.some.inj h13; subst hw
    exact J_iret rfl dX5_divide_85
  · clear h3
    refine J_iload 4 dX5_divide_61 rfl ?_
    refine J_goto 85 dX5_divide_63 (by decide) ?_
    have hw := Option.some.inj h5; subst hw
    exact J_iret rfl dX5_divide_85
def c_X5_divide (S : Mem) (a0 : Nat) (i1 : Int32) (i2 : Int32) (j3 : Int64) : Option (Int32 × Mem) :=
  bnd (c_X5_known S a0 i1) fun r1_ =>
  bnd (c_X5_known S a0 i2) fun r3_ =>
  oc r1_
    (some ((-1 : Int32), S))
    (fun a5 =>
      oc r3_
        (some ((-1 : Int32), S))
        (fun a7 =>
          bnd (c_X5_refusalOfTwo S (some a5) (some a7) j3 (1 : Int32)) fun i9_ =>
          if j3 = (0 : Int64) then
            (c_X5_divide_J51 S a0 j3 (some a5) (some a7) (some a5) (some a7) i9_ (1 : Int32))
          else
            (c_X5_divide_J51 S a0 j3 (some a5) (some a7) (some a5) (some a7) i9_ (0 : Int32))))
set_option maxRecDepth 100000 in
set_option maxHeartbeats 4000000 in
theorem t_X5_divide {S : Mem} {a0 : Nat} {i1 : Int32} {i2 : Int32} {j3 : Int64} {w : (Int32 × Mem)} (ha : mKd S a0 = 6) (h : c_X5_divide S a0 i1 i2 j3 = some w) : CT MX yX5_divide cX5_divide 8 (some .int) 6 195 [.ref a0, .int i1, .int i2, .long j3] S (some (.int w.1)) w.2 := by
  refine CT.of (lv := [(0, .ref a0), (1, .int i1), (2, .int i2), (3, .long j3)]) (by decide) rfl (Nat.le_of_ble_eq_true rfl) ?_
  refine J_aload_n 0 dX5_divide_0 rfl rfl ?_
  refine J_iload_n 1 dX5_divide_1 rfl rfl ?_
  obtain ⟨r1_, er1_, h2⟩ := bnd_some h; clear h
  refine J_callV (As := [.int i1]) (rest := []) (st' := [va_rf r1_]) (t_X5_known ha er1_) gC_X5_known gM_X5_51 (mRecv ha (by decide) jCl5) rfl (by decide) (by decide) rfl rfl (Nat.le_of_ble_eq_true rfl) dX5_divide_2 ?_
  refine J_astoreq dX5_divide_5 (by decide) [1, 3, 4, 0] (lv' := [(0, .ref a0), (2, .int i2), (3, .long j3), (5, va_rf r1_)]) rfl ?_
  refine J_aload_n 0 dX5_divide_7 rfl rfl ?_
  refine J_iload_n 1 dX5_divide_8 rfl rfl ?_
  obtain ⟨r3_, er3_, h4⟩ := bnd_some h2; clear h2
  refine J_callV (As := [.int i2]) (rest := []) (st' := [va_rf r3_]) (t_X5_known ha er3_) gC_X5_known gM_X5_51 (mRecv ha (by decide) jCl5) rfl (by decide) (by decide) rfl rfl (Nat.le_of_ble_eq_true rfl) dX5_divide_9 ?_
  refine J_astoreq dX5_divide_12 (by decide) [1, 3, 4, 0] (lv' := [(0, .ref a0), (3, .long j3), (5, va_rf r1_), (6, va_rf r3_)]) (by cases r1_ <;> rfl) ?_
  refine J_aloadq 2 dX5_divide_14 rfl ?_
  refine J_ifnull 24 dX5_divide_16 (by decide) h4 (fun ea5 h6 => ?_) (fun a5 ea5 h6 => ?_)
  · clear h4
    subst ea5
    refine J_lvst (lv' := [(0, .ref a0), (3, .long j3), (5, va_rf none), (6, va_rf r3_)]) (st' := []) rfl rfl ?_
    refine J_iconst (-1 : Int32) dX5_divide_24 (by decide) ?_
    have hw := Option.some.inj h6; subst hw
    exact J_iret rfl dX5_divide_25
  · clear h4
    subst ea5
    refine J_lvst (lv' := [(0, .ref a0), (3, .long j3), (5, .ref a5), (6, va_rf r3_)]) (st' := []) rfl rfl ?_
    refine J_aloadq 3 dX5_divide_19 rfl ?_
    refine J_ifnonnull 26 dX5_divide_21 (by decide) h6 (fun ea7 h8 => ?_) (fun a7 ea7 h8 => ?_)
    · clear h6
      subst ea7
      refine J_lvst (lv' := [(0, .ref a0), (3, .long j3), (5, .ref a5), (6, va_rf none)]) (st' := []) rfl rfl ?_
      refine J_iconst (-1 : Int32) dX5_divide_24 (by decide) ?_
      have hw := Option.some.inj h8; subst hw
      exact J_iret rfl dX5_divide_25
    · clear h6
      subst ea7
      refine J_lvst (lv' := [(0, .ref a0), (3, .long j3), (5, .ref a5), (6, .ref a7)]) (st' := []) rfl rfl ?_
      refine J_aload_n 0 dX5_divide_26 rfl rfl ?_
      refine J_aload 2 dX5_divide_27 rfl ?_
      refine J_aload 3 dX5_divide_29 rfl ?_
      refine J_aload 2 dX5_divide_31 rfl ?_
      refine J_aload 3 dX5_divide_33 rfl ?_
      refine J_lload_n 1 dX5_divide_35 rfl rfl ?_
      refine J_iconst (1 : Int32) dX5_divide_36 (by decide) ?_
      obtain ⟨i9_, ei9_, h10⟩ := bnd_some h8; clear h8
      refine J_callS (As := [.ref a5, .ref a7, .long j3, .int (1 : Int32)]) (rest := [.ref a7, .ref a5, .ref a0]) (st' := [.int i9_, .ref a7, .ref a5, .ref a0]) (t_X5_refusalOfTwo ei9_) gC_X5_refusalOfTwo gM_X5_205 rfl (by decide) (by decide) rfl rfl (Nat.le_of_ble_eq_true rfl) dX5_divide_37 ?_
      refine J_lload_n 1 dX5_divide_40 rfl rfl ?_
      refine J_lconst (0 : Int64) dX5_divide_41 (by decide) ?_
      refine J_lcmp_ne 50 dX5_divide_42 dX5_divide_43 (by decide) h10 (fun c11 h12 => ?_) (fun c11 h12 => ?_)
      · clear h10
        refine J_iconst (1 : Int32) dX5_divide_46 (by decide) ?_
        refine J_goto 51 dX5_divide_47 (by decide) ?_
        exact t_X5_divide_J51 ha h12
      · clear h10
        refine J_iconst (0 : Int32) dX5_divide_50 (by decide) ?_
        exact t_X5_divide_J51 ha h12
def c_X5_rootBy (S : Mem) (a0 : Nat) (r1 : Option Nat) (r2 : Option Nat) (i3 : Int32) : Option (Int32 × Mem) :=
  oc r1
    (some ((-1 : Int32), S))
    (fun a1 =>
      oc r2
        (some ((-1 : Int32), S))
        (fun a3 =>
          bnd (c_X5_refusalOfTwo S (some a1) (some a3) (0 : Int64) (1 : Int32)) fun i5_ =>
          bnd2 (c_X5_opened S a0 (some a1) (some a3) i5_ (0 : Int32)) fun i7_ S8 =>
          if i7_ = 0 then
            (bnd (ob S8 (mR S8 a0 4) 4) fun a12 =>
            bnd2 (c_X3_extract S8 a12 (some a1) (some a3) i3) fun i14_ S15 =>
            bnd2 (c_X3_close S15 a12 i14_) fun i17_ S18 =>
            some (i17_, S18))
          else
            (some (i7_, S8))))
set_option maxRecDepth 100000 in
set_option maxHeartbeats 4000000 in
theorem t_X5_rootBy {S : Mem} {a0 : Nat} {r1 : Option Nat} {r2 : Option Nat} {i3 : Int32} {w : (Int32 × Mem)} (ha : mKd S a0 = 6) (h : c_X5_rootBy S a0 r1 r2 i3 = some w) : CT MX yX5_rootBy cX5_rootBy 5 (some .int) 6 194 [.ref a0, va_rf r1, va_rf r2, .int i3] S (some (.int w.1)) w.2 := by
  refine CT.of (lv := [(0, .ref a0), (1, va_rf r1), (2, va_rf r2), (3, .int i3)]) (by decide) (by cases r1 <;> cases r2 <;> exact rfl) (by cases r1 <;> cases r2 <;> exact Nat.le_of_ble_eq_true rfl) ?_
  refine J_aload_nq 1 dX5_rootBy_0 rfl rfl ?_
  refine J_ifnull 8 dX5_rootBy_1 (by decide) h (fun ea1 h2 => ?_) (fun a1 ea1 h2 => ?_)
  · clear h
    subst ea1
    refine J_lvst (lv' := [(0, .ref a0), (1, va_rf none), (2, va_rf r2), (3, .int i3)]) (st' := []) rfl rfl ?_
    refine J_iconst (-1 : Int32) dX5_rootBy_8 (by decide) ?_
    have hw := Option.some.inj h2; subst hw
    exact J_iret rfl dX5_rootBy_9
  · clear h
    subst ea1
    refine J_lvst (lv' := [(0, .ref a0), (1, .ref a1), (2, va_rf r2), (3, .int i3)]) (st' := []) rfl rfl ?_
    refine J_aload_nq 2 dX5_rootBy_4 rfl rfl ?_
    refine J_ifnonnull 10 dX5_rootBy_5 (by decide) h2 (fun ea3 h4 => ?_) (fun a3 ea3 h4 => ?_)
    · clear h2
      subst ea3
      refine J_lvst (lv' := [(0, .ref a0), (1, .ref a1), (2, va_rf none), (3, .int i3)]) (st' := []) rfl rfl ?_
      refine J_iconst (-1 : Int32) dX5_rootBy_8 (by decide) ?_
      have hw := Option.some.inj h4; subst hw
      exact J_iret rfl dX5_rootBy_9
    · clear h2
      subst ea3
      refine J_lvst (lv' := [(0, .ref a0), (1, .ref a1), (2, .ref a3), (3, .int i3)]) (st' := []) rfl rfl ?_
      refine J_aload_n 0 dX5_rootBy_10 rfl rfl ?_
      refine J_aload_n 1 dX5_rootBy_11 rfl rfl ?_
      refine J_aload_n 2 dX5_rootBy_12 rfl rfl ?_
      refine J_aload_n 1 dX5_rootBy_13 rfl rfl ?_
      refine J_aload_n 2 dX5_rootBy_14 rfl rfl ?_
      refine J_lconst (0 : Int64) dX5_rootBy_15 (by decide) ?_
      refine J_iconst (1 : Int32) dX5_rootBy_16 (by decide) ?_
      obtain ⟨i5_, ei5_, h6⟩ := bnd_some h4; clear h4
      refine J_callS (As := [.ref a1, .ref a3, .long (0 : Int64), .int (1 : Int32)]) (rest := [.ref a3, .ref a1, .ref a0]) (st' := [.int i5_, .ref a3, .ref a1, .ref a0]) (t_X5_refusalOfTwo ei5_) gC_X5_refusalOfTwo gM_X5_205 rfl (by decide) (by decide) rfl rfl (Nat.le_of_ble_eq_true rfl) dX5_rootBy_17 ?_
      refine J_iconst (0 : Int32) dX5_rootBy_20 (by decide) ?_
      obtain ⟨i7_, S8, ei7_, h9⟩ := bnd2_some h6; clear h6
      have cS8 := (t_X5_opened ha ei7_)
      have lS8 : jle MX S S8 := cS8.1
      have hS8_a0 : mKd S8 a0 = 6 := kd_le lS8 ha
      refine J_callV (As := [.ref a1, .ref a3, .int i5_, .int (0 : Int32)]) (rest := []) (st' := [.int i7_]) cS8 gC_X5_opened gM_X5_193 (mRecv ha (by decide) jCl5) rfl (by decide) (by decide) rfl rfl (Nat.le_of_ble_eq_true rfl) dX5_rootBy_21 ?_
      refine J_istore dX5_rootBy_24 (by decide) [1, 2, 3, 4, 0] (lv' := [(0, .ref a0), (1, .ref a1), (2, .ref a3), (3, .int i3), (4, .int i7_)]) rfl ?_
      refine J_iload 4 dX5_rootBy_26 rfl ?_
      refine J_if_eq 36 dX5_rootBy_28 (by decide) h9 (fun c10 h11 => ?_) (fun c10 h11 => ?_)
      · clear h9
        refine J_aload_n 0 dX5_rootBy_36 rfl rfl ?_
        refine J_get (k := 4) (v := va_rf (mR S8 a0 4)) dX5_rootBy_37 gF_X5_26 hS8_a0 rfl ?_
        refine J_aload_n 0 dX5_rootBy_40 rfl rfl ?_
        refine J_get (k := 4) (v := va_rf (mR S8 a0 4)) dX5_rootBy_41 gF_X5_26 hS8_a0 rfl ?_
        refine J_aload_n 1 dX5_rootBy_44 rfl rfl ?_
        refine J_aload_n 2 dX5_rootBy_45 rfl rfl ?_
        refine J_iload_n 3 dX5_rootBy_46 rfl rfl ?_
        obtain ⟨a12, ea12, ka12, h13⟩ := ob_some h11; clear h11
        rw [ea12]
        refine J_lvst (lv' := [(0, .ref a0), (1, .ref a1), (2, .ref a3), (3, .int i3), (4, .int i7_)]) (st' := [.int i3, .ref a3, .ref a1, .ref a12, .ref a12]) rfl rfl ?_
        obtain ⟨i14_, S15, ei14_, h16⟩ := bnd2_some h13; clear h13
        have cS15 := (t_X3_extract ka12 ei14_)
        have lS15 : jle MX S8 S15 := cS15.1
        have hS15_a0 : mKd S15 a0 = 6 := kd_le lS15 hS8_a0
        have hS15_a12 : mKd S15 a12 = 4 := kd_le lS15 ka12
        refine J_callV (As := [.ref a1, .ref a3, .int i3]) (rest := [.ref a12]) (st' := [.int i14_, .ref a12]) cS15 gC_X3_extract gM_X5_337 (mRecv ka12 (by decide) jCl3) rfl (by decide) (by decide) rfl rfl (Nat.le_of_ble_eq_true rfl) dX5_rootBy_47 ?_
        obtain ⟨i17_, S18, ei17_, h19⟩ := bnd2_some h16; clear h16
        have cS18 := (t_X3_close hS15_a12 ei17_)
        have lS18 : jle MX S15 S18 := cS18.1
        have hS18_a0 : mKd S18 a0 = 6 := kd_le lS18 hS15_a0
        have hS18_a12 : mKd S18 a12 = 4 := kd_le lS18 hS15_a12
        refine J_callV (As := [.int i14_]) (rest := []) (st' := [.int i17_]) cS18 gC_X3_close gM_X5_201 (mRecv hS15_a12 (by decide) jCl3) rfl (by decide) (by decide) rfl rfl (Nat.le_of_ble_eq_true rfl) dX5_rootBy_50 ?_
        have hw := Option.some.inj h19; subst hw
        exact J_iret rfl dX5_rootBy_53
      · clear h9
        refine J_iload 4 dX5_rootBy_31 rfl ?_
        refine J_goto 53 dX5_rootBy_33 (by decide) ?_
        have hw := Option.some.inj h11; subst hw
        exact J_iret rfl dX5_rootBy_53
def c_X5_root (S : Mem) (a0 : Nat) (i1 : Int32) (i2 : Int32) : Option (Int32 × Mem) :=
  bnd (c_X5_known S a0 i1) fun r1_ =>
  bnd (c_X5_known S a0 i2) fun r3_ =>
  bnd2 (c_X5_rootBy S a0 r1_ r3_ (2 : Int32)) fun i5_ S6 =>
  some (i5_, S6)
set_option maxRecDepth 100000 in
set_option maxHeartbeats 4000000 in
theorem t_X5_root {S : Mem} {a0 : Nat} {i1 : Int32} {i2 : Int32} {w : (Int32 × Mem)} (ha : mKd S a0 = 6) (h : c_X5_root S a0 i1 i2 = some w) : CT MX yX5_root cX5_root 3 (some .int) 7 218 [.ref a0, .int i1, .int i2] S (some (.int w.1)) w.2 := by
  refine CT.of (lv := [(0, .ref a0), (1, .int i1), (2, .int i2)]) (by decide) rfl (Nat.le_of_ble_eq_true rfl) ?_
  refine J_aload_n 0 dX5_root_0 rfl rfl ?_
  refine J_aload_n 0 dX5_root_1 rfl rfl ?_
  refine J_iload_n 1 dX5_root_2 rfl rfl ?_
  obtain ⟨r1_, er1_, h2⟩ := bnd_some h; clear h
  refine J_callV (As := [.int i1]) (rest := [.ref a0]) (st' := [va_rf r1_, .ref a0]) (t_X5_known ha er1_) gC_X5_known gM_X5_51 (mRecv ha (by decide) jCl5) rfl (by decide) (by decide) rfl rfl (Nat.le_of_ble_eq_true rfl) dX5_root_3 ?_
  refine J_aload_n 0 dX5_root_6 rfl rfl ?_
  refine J_iload_n 2 dX5_root_7 rfl rfl ?_
  obtain ⟨r3_, er3_, h4⟩ := bnd_some h2; clear h2
  refine J_callV (As := [.int i2]) (rest := [va_rf r1_, .ref a0]) (st' := [va_rf r3_, va_rf r1_, .ref a0]) (t_X5_known ha er3_) gC_X5_known gM_X5_51 (mRecv ha (by decide) jCl5) rfl (by decide) (by decide) rfl rfl (by simp only [List.map_cons, List.map_nil, List.sum_cons, List.sum_nil, va_rf_cat]; exact Nat.le_of_ble_eq_true rfl) dX5_root_8 ?_
  refine J_iconst (2 : Int32) dX5_root_11 (by decide) ?_
  obtain ⟨i5_, S6, ei5_, h7⟩ := bnd2_some h4; clear h4
  have cS6 := (t_X5_rootBy ha ei5_)
  have lS6 : jle MX S S6 := cS6.1
  have hS6_a0 : mKd S6 a0 = 6 := kd_le lS6 ha
  refine J_callV (As := [va_rf r1_, va_rf r3_, .int (2 : Int32)]) (rest := []) (st' := [.int i5_]) cS6 gC_X5_rootBy gM_X5_213 (mRecv ha (by decide) jCl5) rfl (by decide) (by decide) rfl rfl (Nat.le_of_ble_eq_true rfl) dX5_root_12 ?_
  have hw := Option.some.inj h7; subst hw
  exact J_iret rfl dX5_root_15
def c_X5_cube (S : Mem) (a0 : Nat) (i1 : Int32) (i2 : Int32) : Option (Int32 × Mem) :=
  bnd (c_X5_known S a0 i1) fun r1_ =>
  bnd (c_X5_known S a0 i2) fun r3_ =>
  bnd2 (c_X5_rootBy S a0 r1_ r3_ (3 : Int32)) fun i5_ S6 =>
  some (i5_, S6)
set_option maxRecDepth 100000 in
set_option maxHeartbeats 4000000 in
theorem t_X5_cube {S : Mem} {a0 : Nat} {i1 : Int32} {i2 : Int32} {w : (Int32 × Mem)} (ha : mKd S a0 = 6) (h : c_X5_cube S a0 i1 i2 = some w) : CT MX yX5_cube cX5_cube 3 (some .int) 7 218 [.ref a0, .int i1, .int i2] S (some (.int w.1)) w.2 := by
  refine CT.of (lv := [(0, .ref a0), (1, .int i1), (2, .int i2)]) (by decide) rfl (Nat.le_of_ble_eq_true rfl) ?_
  refine J_aload_n 0 dX5_cube_0 rfl rfl ?_
  refine J_aload_n 0 dX5_cube_1 rfl rfl ?_
  refine J_iload_n 1 dX5_cube_2 rfl rfl ?_
  obtain ⟨r1_, er1_, h2⟩ := bnd_some h; clear h
  refine J_callV (As := [.int i1]) (rest := [.ref a0]) (st' := [va_rf r1_, .ref a0]) (t_X5_known ha er1_) gC_X5_known gM_X5_51 (mRecv ha (by decide) jCl5) rfl (by decide) (by decide) rfl rfl (Nat.le_of_ble_eq_true rfl) dX5_cube_3 ?_
  refine J_aload_n 0 dX5_cube_6 rfl rfl ?_
  refine J_iload_n 2 dX5_cube_7 rfl rfl ?_
  obtain ⟨r3_, er3_, h4⟩ := bnd_some h2; clear h2
  refine J_callV (As := [.int i2]) (rest := [va_rf r1_, .ref a0]) (st' := [va_rf r3_, va_rf r1_, .ref a0]) (t_X5_known ha er3_) gC_X5_known gM_X5_51 (mRecv ha (by decide) jCl5) rfl (by decide) (by decide) rfl rfl (by simp only [List.map_cons, List.map_nil, List.sum_cons, List.sum_nil, va_rf_cat]; exact Nat.le_of_ble_eq_true rfl) dX5_cube_8 ?_
  refine J_iconst (3 : Int32) dX5_cube_11 (by decide) ?_
  obtain ⟨i5_, S6, ei5_, h7⟩ := bnd2_some h4; clear h4
  have cS6 := (t_X5_rootBy ha ei5_)
  have lS6 : jle MX S S6 := cS6.1
  have hS6_a0 : mKd S6 a0 = 6 := kd_le lS6 ha
  refine J_callV (As := [va_rf r1_, va_rf r3_, .int (3 : Int32)]) (rest := []) (st' := [.int i5_]) cS6 gC_X5_rootBy gM_X5_213 (mRecv ha (by decide) jCl5) rfl (by decide) (by decide) rfl rfl (Nat.le_of_ble_eq_true rfl) dX5_cube_12 ?_
  have hw := Option.some.inj h7; subst hw
  exact J_iret rfl dX5_cube_15
def c_X5_turn (S : Mem) (a0 : Nat) (i1 : Int32) (i2 : Int32) : Option (Int32 × Mem) :=
  bnd (c_X5_known S a0 i1) fun r1_ =>
  bnd (c_X5_known S a0 i2) fun r3_ =>
  oc r1_
    (some ((-1 : Int32), S))
    (fun a5 =>
      oc r3_
        (some ((-1 : Int32), S))
        (fun a7 =>
          bnd (c_X5_refusalOfTwo S (some a5) (some a7) (0 : Int64) (0 : Int32)) fun i9_ =>
          bnd2 (c_X5_opened S a0 (some a5) (some a7) i9_ (0 : Int32)) fun i11_ S12 =>
          if i11_ = 0 then
            (bnd (ob S12 (mR S12 a0 4) 4) fun a16 =>
            bnd2 (c_X3_turnOver S12 a16 (some a5) (some a7)) fun i18_ S19 =>
            bnd2 (c_X3_close S19 a16 i18_) fun i21_ S22 =>
            some (i21_, S22))
          else
            (some (i11_, S12))))
set_option maxRecDepth 100000 in
set_option maxHeartbeats 4000000 in
theorem t_X5_turn {S : Mem} {a0 : Nat} {i1 : Int32} {i2 : Int32} {w : (Int32 × Mem)} (ha : mKd S a0 = 6) (h : c_X5_turn S a0 i1 i2 = some w) : CT MX yX5_turn cX5_turn 6 (some .int) 7 213 [.ref a0, .int i1, .int i2] S (some (.int w.1)) w.2 := by
  refine CT.of (lv := [(0, .ref a0), (1, .int i1), (2, .int i2)]) (by decide) rfl (Nat.le_of_ble_eq_true rfl) ?_
  refine J_aload_n 0 dX5_turn_0 rfl rfl ?_
  refine J_iload_n 1 dX5_turn_1 rfl rfl ?_
  obtain ⟨r1_, er1_, h2⟩ := bnd_some h; clear h
  refine J_callV (As := [.int i1]) (rest := []) (st' := [va_rf r1_]) (t_X5_known ha er1_) gC_X5_known gM_X5_51 (mRecv ha (by decide) jCl5) rfl (by decide) (by decide) rfl rfl (Nat.le_of_ble_eq_true rfl) dX5_turn_2 ?_
  refine J_astore_nq dX5_turn_5 rfl (by decide) [1, 3, 0] (lv' := [(0, .ref a0), (2, .int i2), (3, va_rf r1_)]) rfl ?_
  refine J_aload_n 0 dX5_turn_6 rfl rfl ?_
  refine J_iload_n 1 dX5_turn_7 rfl rfl ?_
  obtain ⟨r3_, er3_, h4⟩ := bnd_some h2; clear h2
  refine J_callV (As := [.int i2]) (rest := []) (st' := [va_rf r3_]) (t_X5_known ha er3_) gC_X5_known gM_X5_51 (mRecv ha (by decide) jCl5) rfl (by decide) (by decide) rfl rfl (Nat.le_of_ble_eq_true rfl) dX5_turn_8 ?_
  refine J_astoreq dX5_turn_11 (by decide) [1, 3, 0] (lv' := [(0, .ref a0), (3, va_rf r1_), (4, va_rf r3_)]) (by cases r1_ <;> rfl) ?_
  refine J_aload_nq 1 dX5_turn_13 rfl rfl ?_
  refine J_ifnull 22 dX5_turn_14 (by decide) h4 (fun ea5 h6 => ?_) (fun a5 ea5 h6 => ?_)
  · clear h4
    subst ea5
    refine J_lvst (lv' := [(0, .ref a0), (3, va_rf none), (4, va_rf r3_)]) (st' := []) rfl rfl ?_
    refine J_iconst (-1 : Int32) dX5_turn_22 (by decide) ?_
    have hw := Option.some.inj h6; subst hw
    exact J_iret rfl dX5_turn_23
  · clear h4
    subst ea5
    refine J_lvst (lv' := [(0, .ref a0), (3, .ref a5), (4, va_rf r3_)]) (st' := []) rfl rfl ?_
    refine J_aloadq 2 dX5_turn_17 rfl ?_
    refine J_ifnonnull 24 dX5_turn_19 (by decide) h6 (fun ea7 h8 => ?_) (fun a7 ea7 h8 => ?_)
    · clear h6
      subst ea7
      refine J_lvst (lv' := [(0, .ref a0), (3, .ref a5), (4, va_rf none)]) (st' := []) rfl rfl ?_
      refine J_iconst (-1 : Int32) dX5_turn_22 (by decide) ?_
      have hw := Option.some.inj h8; subst hw
      exact J_iret rfl dX5_turn_23
    · clear h6
      subst ea7
      refine J_lvst (lv' := [(0, .ref a0), (3, .ref a5), (4, .ref a7)]) (st' := []) rfl rfl ?_
      refine J_aload_n 0 dX5_turn_24 rfl rfl ?_
      refine J_aload_n 1 dX5_turn_25 rfl rfl ?_
      refine J_aload 2 dX5_turn_26 rfl ?_
      refine J_aload_n 1 dX5_turn_28 rfl rfl ?_
      refine J_aload 2 dX5_turn_29 rfl ?_
      refine J_lconst (0 : Int64) dX5_turn_31 (by decide) ?_
      refine J_iconst (0 : Int32) dX5_turn_32 (by decide) ?_
      obtain ⟨i9_, ei9_, h10⟩ := bnd_some h8; clear h8
      refine J_callS (As := [.ref a5, .ref a7, .long (0 : Int64), .int (0 : Int32)]) (rest := [.ref a7, .ref a5, .ref a0]) (st' := [.int i9_, .ref a7, .ref a5, .ref a0]) (t_X5_refusalOfTwo ei9_) gC_X5_refusalOfTwo gM_X5_205 rfl (by decide) (by decide) rfl rfl (Nat.le_of_ble_eq_true rfl) dX5_turn_33 ?_
      refine J_iconst (0 : Int32) dX5_turn_36 (by decide) ?_
      obtain ⟨i11_, S12, ei11_, h13⟩ := bnd2_some h10; clear h10
      have cS12 := (t_X5_opened ha ei11_)
      have lS12 : jle MX S S12 := cS12.1
      have hS12_a0 : mKd S12 a0 = 6 := kd_le lS12 ha
      refine J_callV (As := [.ref a5, .ref a7, .int i9_, .int (0 : Int32)]) (rest := []) (st' := [.int i11_]) cS12 gC_X5_opened gM_X5_193 (mRecv ha (by decide) jCl5) rfl (by decide) (by decide) rfl rfl (Nat.le_of_ble_eq_true rfl) dX5_turn_37 ?_
      refine J_istore dX5_turn_40 (by decide) [1, 2, 3, 0] (lv' := [(0, .ref a0), (3, .ref a5), (4, .ref a7), (5, .int i11_)]) rfl ?_
      refine J_iload 3 dX5_turn_42 rfl ?_
      refine J_if_eq 52 dX5_turn_44 (by decide) h13 (fun c14 h15 => ?_) (fun c14 h15 => ?_)
      · clear h13
        refine J_aload_n 0 dX5_turn_52 rfl rfl ?_
        refine J_get (k := 4) (v := va_rf (mR S12 a0 4)) dX5_turn_53 gF_X5_26 hS12_a0 rfl ?_
        refine J_aload_n 0 dX5_turn_56 rfl rfl ?_
        refine J_get (k := 4) (v := va_rf (mR S12 a0 4)) dX5_turn_57 gF_X5_26 hS12_a0 rfl ?_
        refine J_aload_n 1 dX5_turn_60 rfl rfl ?_
        refine J_aload 2 dX5_turn_61 rfl ?_
        obtain ⟨a16, ea16, ka16, h17⟩ := ob_some h15; clear h15
        rw [ea16]
        refine J_lvst (lv' := [(0, .ref a0), (3, .ref a5), (4, .ref a7), (5, .int i11_)]) (st' := [.ref a7, .ref a5, .ref a16, .ref a16]) rfl rfl ?_
        obtain ⟨i18_, S19, ei18_, h20⟩ := bnd2_some h17; clear h17
        have cS19 := (t_X3_turnOver ka16 ei18_)
        have lS19 : jle MX S12 S19 := cS19.1
        have hS19_a0 : mKd S19 a0 = 6 := kd_le lS19 hS12_a0
        have hS19_a16 : mKd S19 a16 = 4 := kd_le lS19 ka16
        refine J_callV (As := [.ref a5, .ref a7]) (rest := [.ref a16]) (st' := [.int i18_, .ref a16]) cS19 gC_X3_turnOver gM_X5_217 (mRecv ka16 (by decide) jCl3) rfl (by decide) (by decide) rfl rfl (Nat.le_of_ble_eq_true rfl) dX5_turn_63 ?_
        obtain ⟨i21_, S22, ei21_, h23⟩ := bnd2_some h20; clear h20
        have cS22 := (t_X3_close hS19_a16 ei21_)
        have lS22 : jle MX S19 S22 := cS22.1
        have hS22_a0 : mKd S22 a0 = 6 := kd_le lS22 hS19_a0
        have hS22_a16 : mKd S22 a16 = 4 := kd_le lS22 hS19_a16
        refine J_callV (As := [.int i18_]) (rest := []) (st' := [.int i21_]) cS22 gC_X3_close gM_X5_201 (mRecv hS19_a16 (by decide) jCl3) rfl (by decide) (by decide) rfl rfl (Nat.le_of_ble_eq_true rfl) dX5_turn_66 ?_
        have hw := Option.some.inj h23; subst hw
        exact J_iret rfl dX5_turn_69
      · clear h13
        refine J_iload 3 dX5_turn_47 rfl ?_
        refine J_goto 69 dX5_turn_49 (by decide) ?_
        have hw := Option.some.inj h15; subst hw
        exact J_iret rfl dX5_turn_69
def c_X5_part (S : Mem) (a0 : Nat) (i1 : Int32) (i2 : Int32) : Option (Int64 × Mem) :=
  bnd (ob S (mR S a0 4) 4) fun a1 =>
  bnd (ob S (mR S a1 0) 3) fun a3 =>
  bnd (c_X2_faultAt S a3 i1 i2) fun i5_ =>
  if i5_ = 0 then
    (bnd (c_X2_at S a3 i1 i2) fun j9_ =>
    some (j9_, S))
  else
    (bnd2 (c_X5_lost S a0 i5_) fun j11_ S12 =>
    some (j11_, S12))
set_option maxRecDepth 100000 in
set_option maxHeartbeats 4000000 in
theorem t_X5_part {S : Mem} {a0 : Nat} {i1 : Int32} {i2 : Int32} {w : (Int64 × Mem)} (ha : mKd S a0 = 6) (h : c_X5_part S a0 i1 i2 = some w) : CT MX yX5_part cX5_part 5 (some .long) 2 49 [.ref a0, .int i1, .int i2] S (some (.long w.1)) w.2 := by
  refine CT.of (lv := [(0, .ref a0), (1, .int i1), (2, .int i2)]) (by decide) rfl (Nat.le_of_ble_eq_true rfl) ?_
  refine J_aload_n 0 dX5_part_0 rfl rfl ?_
  refine J_get (k := 4) (v := va_rf (mR S a0 4)) dX5_part_1 gF_X5_26 ha rfl ?_
  obtain ⟨a1, ea1, ka1, h2⟩ := ob_some h; clear h
  rw [ea1]
  refine J_lvst (lv' := [(0, .ref a0), (1, .int i1), (2, .int i2)]) (st' := [.ref a1]) rfl rfl ?_
  refine J_get (k := 0) (v := va_rf (mR S a1 0)) dX5_part_4 gF_X5_221 ka1 rfl ?_
  refine J_astore_nq dX5_part_7 rfl (by decide) [1, 2, 3, 0] (lv' := [(0, .ref a0), (1, .int i1), (2, .int i2), (3, va_rf (mR S a1 0))]) rfl ?_
  refine J_aload_nq 3 dX5_part_8 rfl rfl ?_
  refine J_iload_n 1 dX5_part_9 rfl rfl ?_
  refine J_iload_n 2 dX5_part_10 rfl rfl ?_
  obtain ⟨a3, ea3, ka3, h4⟩ := ob_some h2; clear h2
  rw [ea3]
  refine J_lvst (lv' := [(0, .ref a0), (1, .int i1), (2, .int i2), (3, .ref a3)]) (st' := [.int i2, .int i1, .ref a3]) rfl rfl ?_
  obtain ⟨i5_, ei5_, h6⟩ := bnd_some h4; clear h4
  refine J_callV (As := [.int i1, .int i2]) (rest := []) (st' := [.int i5_]) (t_X2_faultAt ka3 ei5_) gC_X2_faultAt gM_X5_225 (mRecv ka3 (by decide) jCl2) rfl (by decide) (by decide) rfl rfl (Nat.le_of_ble_eq_true rfl) dX5_part_11 ?_
  refine J_istore dX5_part_14 (by decide) [1, 2, 3, 4, 0] (lv' := [(0, .ref a0), (1, .int i1), (2, .int i2), (3, .ref a3), (4, .int i5_)]) rfl ?_
  refine J_iload 4 dX5_part_16 rfl ?_
  refine J_if_eq 30 dX5_part_18 (by decide) h6 (fun c7 h8 => ?_) (fun c7 h8 => ?_)
  · clear h6
    refine J_aload_n 3 dX5_part_30 rfl rfl ?_
    refine J_iload_n 1 dX5_part_31 rfl rfl ?_
    refine J_iload_n 2 dX5_part_32 rfl rfl ?_
    obtain ⟨j9_, ej9_, h10⟩ := bnd_some h8; clear h8
    refine J_callV (As := [.int i1, .int i2]) (rest := []) (st' := [.long j9_]) (t_X2_at ka3 ej9_) gC_X2_at gM_X5_230 (mRecv ka3 (by decide) jCl2) rfl (by decide) (by decide) rfl rfl (Nat.le_of_ble_eq_true rfl) dX5_part_33 ?_
    have hw := Option.some.inj h10; subst hw
    exact J_lret rfl dX5_part_36
  · clear h6
    refine J_aload_n 0 dX5_part_21 rfl rfl ?_
    refine J_iload 4 dX5_part_22 rfl ?_
    obtain ⟨j11_, S12, ej11_, h13⟩ := bnd2_some h8; clear h8
    have cS12 := (t_X5_lost ha ej11_)
    have lS12 : jle MX S S12 := cS12.1
    have hS12_a0 : mKd S12 a0 = 6 := kd_le lS12 ha
    have hS12_a1 : mKd S12 a1 = 4 := kd_le lS12 ka1
    have hS12_a3 : mKd S12 a3 = 3 := kd_le lS12 ka3
    refine J_callV (As := [.int i5_]) (rest := []) (st' := [.long j11_]) cS12 gC_X5_lost gM_X5_119 (mRecv ha (by decide) jCl5) rfl (by decide) (by decide) rfl rfl (Nat.le_of_ble_eq_true rfl) dX5_part_24 ?_
    refine J_goto 36 dX5_part_27 (by decide) ?_
    have hw := Option.some.inj h13; subst hw
    exact J_lret rfl dX5_part_36
def c_X5_tally (S : Mem) (a0 : Nat) (i1 : Int32) (i2 : Int32) : Option (Int32 × Mem) :=
  bnd (ob S (mR S a0 4) 4) fun a1 =>
  oc (mR S a1 5)
    (bnd2 (c_X5_faulted S a0 (1 : Int32)) fun i5_ S6 =>
    some (i5_, S6))
    (fun a3 =>
      gd (kb S a3 2) <|
      bnd (c_X1_holds S a3 i1) fun i10_ =>
      if i10_ = 0 then
        (bnd2 (c_X5_faulted S a0 (2 : Int32)) fun i14_ S15 =>
        some (i14_, S15))
      else
        (bnd (ob S (mR S a0 4) 4) fun a17 =>
        bnd (c_X3_countOn S a17 (mI S a3 0) i1 (0 : Int32)) fun i19_ =>
        if i19_ = 0 then
          (bnd2 (c_X5_faulted S a0 (1 : Int32)) fun i23_ S24 =>
          some (i23_, S24))
        else
          (if i2 < (1 : Int32) then
            (bnd2 (c_X5_faulted S a0 (2 : Int32)) fun i28_ S29 =>
            some (i28_, S29))
          else
            (if i2 ≤ (4 : Int32) then
              (bnd (ob S (mR S a0 4) 4) fun a33 =>
              bnd (c_X3_countOn S a33 (mI S a3 0) i1 i2) fun i35_ =>
              some (i35_, S))
            else
              (bnd2 (c_X5_faulted S a0 (2 : Int32)) fun i37_ S38 =>
              some (i37_, S38))))))
set_option maxRecDepth 100000 in
set_option maxHeartbeats 4000000 in
theorem t_X5_tally {S : Mem} {a0 : Nat} {i1 : Int32} {i2 : Int32} {w : (Int32 × Mem)} (ha : mKd S a0 = 6) (h : c_X5_tally S a0 i1 i2 = some w) : CT MX yX5_tally cX5_tally 4 (some .int) 2 47 [.ref a0, .int i1, .int i2] S (some (.int w.1)) w.2 := by
  refine CT.of (lv := [(0, .ref a0), (1, .int i1), (2, .int i2)]) (by decide) rfl (Nat.le_of_ble_eq_true rfl) ?_
  refine J_aload_n 0 dX5_tally_0 rfl rfl ?_
  refine J_get (k := 4) (v := va_rf (mR S a0 4)) dX5_tally_1 gF_X5_26 ha rfl ?_
  obtain ⟨a1, ea1, ka1, h2⟩ := ob_some h; clear h
  rw [ea1]
  refine J_lvst (lv' := [(0, .ref a0), (1, .int i1), (2, .int i2)]) (st' := [.ref a1]) rfl rfl ?_
  refine J_get (k := 5) (v := va_rf (mR S a1 5)) dX5_tally_4 gF_X5_234 ka1 rfl ?_
  refine J_astore_nq dX5_tally_7 rfl (by decide) [1, 2, 3, 0] (lv' := [(0, .ref a0), (1, .int i1), (2, .int i2), (3, va_rf (mR S a1 5))]) rfl ?_
  refine J_aload_nq 3 dX5_tally_8 rfl rfl ?_
  refine J_ifnonnull 18 dX5_tally_9 (by decide) h2 (fun ea3 h4 => ?_) (fun a3 ea3 h4 => ?_)
  · clear h2
    rw [ea3]
    refine J_lvst (lv' := [(0, .ref a0), (1, .int i1), (2, .int i2), (3, va_rf none)]) (st' := []) rfl rfl ?_
    refine J_aload_n 0 dX5_tally_12 rfl rfl ?_
    refine J_iconst (1 : Int32) dX5_tally_13 (by decide) ?_
    obtain ⟨i5_, S6, ei5_, h7⟩ := bnd2_some h4; clear h4
    have cS6 := (t_X5_faulted ha ei5_)
    have lS6 : jle MX S S6 := cS6.1
    have hS6_a0 : mKd S6 a0 = 6 := kd_le lS6 ha
    have hS6_a1 : mKd S6 a1 = 4 := kd_le lS6 ka1
    refine J_callV (As := [.int (1 : Int32)]) (rest := []) (st' := [.int i5_]) cS6 gC_X5_faulted gM_X5_45 (mRecv ha (by decide) jCl5) rfl (by decide) (by decide) rfl rfl (Nat.le_of_ble_eq_true rfl) dX5_tally_14 ?_
    have hw := Option.some.inj h7; subst hw
    exact J_iret rfl dX5_tally_17
  · clear h2
    rw [ea3]
    refine J_lvst (lv' := [(0, .ref a0), (1, .int i1), (2, .int i2), (3, .ref a3)]) (st' := []) rfl rfl ?_
    refine J_aload_n 3 dX5_tally_18 rfl rfl ?_
    refine J_iload_n 1 dX5_tally_19 rfl rfl ?_
    obtain ⟨g8, h9⟩ := gd_some h4; clear h4
    have kg8 := kb_of g8
    obtain ⟨i10_, ei10_, h11⟩ := bnd_some h9; clear h9
    refine J_callV (As := [.int i1]) (rest := []) (st' := [.int i10_]) (t_X1_holds kg8 ei10_) gC_X1_holds gM_X5_80 (mRecv kg8 (by decide) jCl1) rfl (by decide) (by decide) rfl rfl (Nat.le_of_ble_eq_true rfl) dX5_tally_20 ?_
    refine J_if_ne 32 dX5_tally_23 (by decide) h11 (fun c12 h13 => ?_) (fun c12 h13 => ?_)
    · clear h11
      refine J_aload_n 0 dX5_tally_26 rfl rfl ?_
      refine J_iconst (2 : Int32) dX5_tally_27 (by decide) ?_
      obtain ⟨i14_, S15, ei14_, h16⟩ := bnd2_some h13; clear h13
      have cS15 := (t_X5_faulted ha ei14_)
      have lS15 : jle MX S S15 := cS15.1
      have hS15_a0 : mKd S15 a0 = 6 := kd_le lS15 ha
      have hS15_a1 : mKd S15 a1 = 4 := kd_le lS15 ka1
      have hS15_a3 : mKd S15 a3 = 2 := kd_le lS15 kg8
      refine J_callV (As := [.int (2 : Int32)]) (rest := []) (st' := [.int i14_]) cS15 gC_X5_faulted gM_X5_45 (mRecv ha (by decide) jCl5) rfl (by decide) (by decide) rfl rfl (Nat.le_of_ble_eq_true rfl) dX5_tally_28 ?_
      have hw := Option.some.inj h16; subst hw
      exact J_iret rfl dX5_tally_31
    · clear h11
      refine J_aload_n 0 dX5_tally_32 rfl rfl ?_
      refine J_get (k := 4) (v := va_rf (mR S a0 4)) dX5_tally_33 gF_X5_26 ha rfl ?_
      refine J_aload_n 3 dX5_tally_36 rfl rfl ?_
      refine J_get (k := 0) (v := .int (mI S a3 0)) dX5_tally_37 gF_X5_238 kg8 rfl ?_
      refine J_iload_n 1 dX5_tally_40 rfl rfl ?_
      refine J_iconst (0 : Int32) dX5_tally_41 (by decide) ?_
      obtain ⟨a17, ea17, ka17, h18⟩ := ob_some h13; clear h13
      rw [ea17]
      refine J_lvst (lv' := [(0, .ref a0), (1, .int i1), (2, .int i2), (3, .ref a3)]) (st' := [.int (0 : Int32), .int i1, .int (mI S a3 0), .ref a17]) rfl rfl ?_
      obtain ⟨i19_, ei19_, h20⟩ := bnd_some h18; clear h18
      refine J_callV (As := [.int (mI S a3 0), .int i1, .int (0 : Int32)]) (rest := []) (st' := [.int i19_]) (t_X3_countOn ka17 ei19_) gC_X3_countOn gM_X5_240 (mRecv ka17 (by decide) jCl3) rfl (by decide) (by decide) rfl rfl (Nat.le_of_ble_eq_true rfl) dX5_tally_42 ?_
      refine J_if_ne 54 dX5_tally_45 (by decide) h20 (fun c21 h22 => ?_) (fun c21 h22 => ?_)
      · clear h20
        refine J_aload_n 0 dX5_tally_48 rfl rfl ?_
        refine J_iconst (1 : Int32) dX5_tally_49 (by decide) ?_
        obtain ⟨i23_, S24, ei23_, h25⟩ := bnd2_some h22; clear h22
        have cS24 := (t_X5_faulted ha ei23_)
        have lS24 : jle MX S S24 := cS24.1
        have hS24_a0 : mKd S24 a0 = 6 := kd_le lS24 ha
        have hS24_a1 : mKd S24 a1 = 4 := kd_le lS24 ka1
        have hS24_a3 : mKd S24 a3 = 2 := kd_le lS24 kg8
        have hS24_a17 : mKd S24 a17 = 4 := kd_le lS24 ka17
        refine J_callV (As := [.int (1 : Int32)]) (rest := []) (st' := [.int i23_]) cS24 gC_X5_faulted gM_X5_45 (mRecv ha (by decide) jCl5) rfl (by decide) (by decide) rfl rfl (Nat.le_of_ble_eq_true rfl) dX5_tally_50 ?_
        have hw := Option.some.inj h25; subst hw
        exact J_iret rfl dX5_tally_53
      · clear h20
        refine J_iload_n 2 dX5_tally_54 rfl rfl ?_
        refine J_iconst (1 : Int32) dX5_tally_55 (by decide) ?_
        refine J_icmp_lt 64 dX5_tally_56 (by decide) h22 (fun c26 h27 => ?_) (fun c26 h27 => ?_)
        · clear h22
          refine J_aload_n 0 dX5_tally_64 rfl rfl ?_
          refine J_iconst (2 : Int32) dX5_tally_65 (by decide) ?_
          obtain ⟨i28_, S29, ei28_, h30⟩ := bnd2_some h27; clear h27
          have cS29 := (t_X5_faulted ha ei28_)
          have lS29 : jle MX S S29 := cS29.1
          have hS29_a0 : mKd S29 a0 = 6 := kd_le lS29 ha
          have hS29_a1 : mKd S29 a1 = 4 := kd_le lS29 ka1
          have hS29_a3 : mKd S29 a3 = 2 := kd_le lS29 kg8
          have hS29_a17 : mKd S29 a17 = 4 := kd_le lS29 ka17
          refine J_callV (As := [.int (2 : Int32)]) (rest := []) (st' := [.int i28_]) cS29 gC_X5_faulted gM_X5_45 (mRecv ha (by decide) jCl5) rfl (by decide) (by decide) rfl rfl (Nat.le_of_ble_eq_true rfl) dX5_tally_66 ?_
          have hw := Option.some.inj h30; subst hw
          exact J_iret rfl dX5_tally_69
        · clear h22
          refine J_iload_n 2 dX5_tally_59 rfl rfl ?_
          refine J_iconst (4 : Int32) dX5_tally_60 (by decide) ?_
          refine J_icmp_le 70 dX5_tally_61 (by decide) h27 (fun c31 h32 => ?_) (fun c31 h32 => ?_)
          · clear h27
            refine J_aload_n 0 dX5_tally_70 rfl rfl ?_
            refine J_get (k := 4) (v := va_rf (mR S a0 4)) dX5_tally_71 gF_X5_26 ha rfl ?_
            refine J_aload_n 3 dX5_tally_74 rfl rfl ?_
            refine J_get (k := 0) (v := .int (mI S a3 0)) dX5_tally_75 gF_X5_238 kg8 rfl ?_
            refine J_iload_n 1 dX5_tally_78 rfl rfl ?_
            refine J_iload_n 2 dX5_tally_79 rfl rfl ?_
            obtain ⟨a33, ea33, ka33, h34⟩ := ob_some h32; clear h32
            rw [ea33]
            refine J_lvst (lv' := [(0, .ref a0), (1, .int i1), (2, .int i2), (3, .ref a3)]) (st' := [.int i2, .int i1, .int (mI S a3 0), .ref a33]) rfl rfl ?_
            obtain ⟨i35_, ei35_, h36⟩ := bnd_some h34; clear h34
            refine J_callV (As := [.int (mI S a3 0), .int i1, .int i2]) (rest := []) (st' := [.int i35_]) (t_X3_countOn ka33 ei35_) gC_X3_countOn gM_X5_240 (mRecv ka33 (by decide) jCl3) rfl (by decide) (by decide) rfl rfl (Nat.le_of_ble_eq_true rfl) dX5_tally_80 ?_
            have hw := Option.some.inj h36; subst hw
            exact J_iret rfl dX5_tally_83
          · clear h27
            refine J_aload_n 0 dX5_tally_64 rfl rfl ?_
            refine J_iconst (2 : Int32) dX5_tally_65 (by decide) ?_
            obtain ⟨i37_, S38, ei37_, h39⟩ := bnd2_some h32; clear h32
            have cS38 := (t_X5_faulted ha ei37_)
            have lS38 : jle MX S S38 := cS38.1
            have hS38_a0 : mKd S38 a0 = 6 := kd_le lS38 ha
            have hS38_a1 : mKd S38 a1 = 4 := kd_le lS38 ka1
            have hS38_a3 : mKd S38 a3 = 2 := kd_le lS38 kg8
            have hS38_a17 : mKd S38 a17 = 4 := kd_le lS38 ka17
            refine J_callV (As := [.int (2 : Int32)]) (rest := []) (st' := [.int i37_]) cS38 gC_X5_faulted gM_X5_45 (mRecv ha (by decide) jCl5) rfl (by decide) (by decide) rfl rfl (Nat.le_of_ble_eq_true rfl) dX5_tally_66 ?_
            have hw := Option.some.inj h39; subst hw
            exact J_iret rfl dX5_tally_69
def c_X5_steps (S : Mem) (a0 : Nat) : Option Int32 :=
  bnd (ob S (mR S a0 4) 4) fun a1 =>
  some (mI S a1 2)
set_option maxRecDepth 100000 in
set_option maxHeartbeats 4000000 in
theorem t_X5_steps {S : Mem} {a0 : Nat} {w : Int32} (ha : mKd S a0 = 6) (h : c_X5_steps S a0 = some w) : CT MX yX5_steps cX5_steps 1 (some .int) 0 0 [.ref a0] S (some (.int w)) S := by
  refine CT.of (lv := [(0, .ref a0)]) (by decide) rfl (Nat.le_of_ble_eq_true rfl) ?_
  refine J_aload_n 0 dX5_steps_0 rfl rfl ?_
  refine J_get (k := 4) (v := va_rf (mR S a0 4)) dX5_steps_1 gF_X5_26 ha rfl ?_
  obtain ⟨a1, ea1, ka1, h2⟩ := ob_some h; clear h
  rw [ea1]
  refine J_lvst (lv' := [(0, .ref a0)]) (st' := [.ref a1]) rfl rfl ?_
  refine J_get (k := 2) (v := .int (mI S a1 2)) dX5_steps_4 gF_X5_244 ka1 rfl ?_
  have hw := Option.some.inj h2; subst hw
  exact J_iret rfl dX5_steps_7
def c_X5_step (S : Mem) (a0 : Nat) (i1 : Int32) (i2 : Int32) : Option Int32 :=
  if i1 < 0 then
    (some (-1 : Int32))
  else
    (bnd (ob S (mR S a0 4) 4) fun a3 =>
    if i1 < (mI S a3 2) then
      (if i2 < 0 then
        (some (-2 : Int32))
      else
        (if i2 < (7 : Int32) then
          (bnd (ob S (mR S a0 4) 4) fun a11 =>
          bnd (c_X3_tell S a11 i1 i2) fun i13_ =>
          some i13_)
        else
          (some (-2 : Int32))))
    else
      (some (-1 : Int32)))
set_option maxRecDepth 100000 in
set_option maxHeartbeats 4000000 in
theorem t_X5_step {S : Mem} {a0 : Nat} {i1 : Int32} {i2 : Int32} {w : Int32} (ha : mKd S a0 = 6) (h : c_X5_step S a0 i1 i2 = some w) : CT MX yX5_step cX5_step 3 (some .int) 1 22 [.ref a0, .int i1, .int i2] S (some (.int w)) S := by
  refine CT.of (lv := [(0, .ref a0), (1, .int i1), (2, .int i2)]) (by decide) rfl (Nat.le_of_ble_eq_true rfl) ?_
  refine J_iload_n 1 dX5_step_0 rfl rfl ?_
  refine J_if_lt 15 dX5_step_1 (by decide) h (fun c1 h2 => ?_) (fun c1 h2 => ?_)
  · clear h
    refine J_iconst (-1 : Int32) dX5_step_15 (by decide) ?_
    have hw := Option.some.inj h2; subst hw
    exact J_iret rfl dX5_step_16
  · clear h
    refine J_iload_n 1 dX5_step_4 rfl rfl ?_
    refine J_aload_n 0 dX5_step_5 rfl rfl ?_
    refine J_get (k := 4) (v := va_rf (mR S a0 4)) dX5_step_6 gF_X5_26 ha rfl ?_
    obtain ⟨a3, ea3, ka3, h4⟩ := ob_some h2; clear h2
    rw [ea3]
    refine J_lvst (lv' := [(0, .ref a0), (1, .int i1), (2, .int i2)]) (st' := [.ref a3, .int i1]) rfl rfl ?_
    refine J_get (k := 2) (v := .int (mI S a3 2)) dX5_step_9 gF_X5_244 ka3 rfl ?_
    refine J_icmp_lt 17 dX5_step_12 (by decide) h4 (fun c5 h6 => ?_) (fun c5 h6 => ?_)
    · clear h4
      refine J_iload_n 2 dX5_step_17 rfl rfl ?_
      refine J_if_lt 27 dX5_step_18 (by decide) h6 (fun c7 h8 => ?_) (fun c7 h8 => ?_)
      · clear h6
        refine J_bipush (-2 : Int32) dX5_step_27 (by decide) ?_
        have hw := Option.some.inj h8; subst hw
        exact J_iret rfl dX5_step_29
      · clear h6
        refine J_iload_n 2 dX5_step_21 rfl rfl ?_
        refine J_bipush (7 : Int32) dX5_step_22 (by decide) ?_
        refine J_icmp_lt 30 dX5_step_24 (by decide) h8 (fun c9 h10 => ?_) (fun c9 h10 => ?_)
        · clear h8
          refine J_aload_n 0 dX5_step_30 rfl rfl ?_
          refine J_get (k := 4) (v := va_rf (mR S a0 4)) dX5_step_31 gF_X5_26 ha rfl ?_
          refine J_iload_n 1 dX5_step_34 rfl rfl ?_
          refine J_iload_n 2 dX5_step_35 rfl rfl ?_
          obtain ⟨a11, ea11, ka11, h12⟩ := ob_some h10; clear h10
          rw [ea11]
          refine J_lvst (lv' := [(0, .ref a0), (1, .int i1), (2, .int i2)]) (st' := [.int i2, .int i1, .ref a11]) rfl rfl ?_
          obtain ⟨i13_, ei13_, h14⟩ := bnd_some h12; clear h12
          refine J_callV (As := [.int i1, .int i2]) (rest := []) (st' := [.int i13_]) (t_X3_tell ka11 ei13_) gC_X3_tell gM_X5_247 (mRecv ka11 (by decide) jCl3) rfl (by decide) (by decide) rfl rfl (Nat.le_of_ble_eq_true rfl) dX5_step_36 ?_
          have hw := Option.some.inj h14; subst hw
          exact J_iret rfl dX5_step_39
        · clear h8
          refine J_bipush (-2 : Int32) dX5_step_27 (by decide) ?_
          have hw := Option.some.inj h10; subst hw
          exact J_iret rfl dX5_step_29
    · clear h4
      refine J_iconst (-1 : Int32) dX5_step_15 (by decide) ?_
      have hw := Option.some.inj h6; subst hw
      exact J_iret rfl dX5_step_16
def c_X5_stuck (S : Mem) (a0 : Nat) (i1 : Int32) : Option Int32 :=
  if i1 = (0 : Int32) then
    (bnd (ob S (mR S a0 4) 4) fun a2 =>
    some (mI S a2 7))
  else if i1 = (1 : Int32) then
    (bnd (ob S (mR S a0 4) 4) fun a5 =>
    some (mI S a5 8))
  else if i1 = (2 : Int32) then
    (bnd (ob S (mR S a0 4) 4) fun a8 =>
    some (mI S a8 9))
  else (some (-2 : Int32))
set_option maxRecDepth 100000 in
set_option maxHeartbeats 4000000 in
theorem t_X5_stuck {S : Mem} {a0 : Nat} {i1 : Int32} {w : Int32} (ha : mKd S a0 = 6) (h : c_X5_stuck S a0 i1 = some w) : CT MX yX5_stuck cX5_stuck 2 (some .int) 0 0 [.ref a0, .int i1] S (some (.int w)) S := by
  refine CT.of (lv := [(0, .ref a0), (1, .int i1)]) (by decide) rfl (Nat.le_of_ble_eq_true rfl) ?_
  refine J_iload_n 1 dX5_stuck_0 rfl rfl ?_
  by_cases c1 : i1 = (0 : Int32)
  · replace h := ifp c1 h
    refine J_tabIn (0 : Int32) 28 dX5_stuck_1 c1 (by decide) (by decide) rfl (by decide) ?_
    refine J_aload_n 0 dX5_stuck_28 rfl rfl ?_
    refine J_get (k := 4) (v := va_rf (mR S a0 4)) dX5_stuck_29 gF_X5_26 ha rfl ?_
    obtain ⟨a2, ea2, ka2, h3⟩ := ob_some h; clear h
    rw [ea2]
    refine J_lvst (lv' := [(0, .ref a0), (1, .int i1)]) (st' := [.ref a2]) rfl rfl ?_
    refine J_get (k := 7) (v := .int (mI S a2 7)) dX5_stuck_32 gF_X5_250 ka2 rfl ?_
    have hw := Option.some.inj h3; subst hw
    exact J_iret rfl dX5_stuck_35
  replace h := ifn c1 h
  by_cases c4 : i1 = (1 : Int32)
  · replace h := ifp c4 h
    refine J_tabIn (1 : Int32) 36 dX5_stuck_1 c4 (by decide) (by decide) rfl (by decide) ?_
    refine J_aload_n 0 dX5_stuck_36 rfl rfl ?_
    refine J_get (k := 4) (v := va_rf (mR S a0 4)) dX5_stuck_37 gF_X5_26 ha rfl ?_
    obtain ⟨a5, ea5, ka5, h6⟩ := ob_some h; clear h
    rw [ea5]
    refine J_lvst (lv' := [(0, .ref a0), (1, .int i1)]) (st' := [.ref a5]) rfl rfl ?_
    refine J_get (k := 8) (v := .int (mI S a5 8)) dX5_stuck_40 gF_X5_253 ka5 rfl ?_
    have hw := Option.some.inj h6; subst hw
    exact J_iret rfl dX5_stuck_43
  replace h := ifn c4 h
  by_cases c7 : i1 = (2 : Int32)
  · replace h := ifp c7 h
    refine J_tabIn (2 : Int32) 44 dX5_stuck_1 c7 (by decide) (by decide) rfl (by decide) ?_
    refine J_aload_n 0 dX5_stuck_44 rfl rfl ?_
    refine J_get (k := 4) (v := va_rf (mR S a0 4)) dX5_stuck_45 gF_X5_26 ha rfl ?_
    obtain ⟨a8, ea8, ka8, h9⟩ := ob_some h; clear h
    rw [ea8]
    refine J_lvst (lv' := [(0, .ref a0), (1, .int i1)]) (st' := [.ref a8]) rfl rfl ?_
    refine J_get (k := 9) (v := .int (mI S a8 9)) dX5_stuck_48 gF_X5_256 ka8 rfl ?_
    have hw := Option.some.inj h9; subst hw
    exact J_iret rfl dX5_stuck_51
  replace h := ifn c7 h
  have hout := tabOut (x := i1) (n := 2) (by decide) (fun k hk => by
    match k, hk with
    | 0, _ => exact c1
    | 1, _ => exact c4
    | 2, _ => exact c7
    | k + 3, hk => exact absurd hk (by omega))
  refine J_tabOut 52 dX5_stuck_1 hout (by decide) ?_
  refine J_bipush (-2 : Int32) dX5_stuck_52 (by decide) ?_
  have hw := Option.some.inj h; subst hw
  exact J_iret rfl dX5_stuck_54
