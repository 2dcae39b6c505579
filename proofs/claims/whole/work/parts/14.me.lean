def m_X6_divided_L176 (k48 : MS → Int32 → Int32 → Int64 → Int32 → Int32 → Int32 → Int32 → Int32 → Option (Int32 × MS)) : Nat → MS → Int32 → Int32 → Int64 → Int32 → Int32 → Int32 → Int32 → Int32 → Int64 → Int32 → Option (Int32 × MS)
  | 0, _, _, _, _, _, _, _, _, _, _, _ => none
  | n + 1, S, i1, i2, j5, i7, i8, i9, i10, i11, j16, i18 =>
    if i18 < 0 then
      (k48 S i1 i2 j5 i7 i8 i9 i10 (i11 + (-1 : Int32)))
    else
      (if i10 = 0 then
        (k48 S i1 i2 j5 i7 i8 i9 i10 (i11 + (-1 : Int32)))
      else
        (bnd (m_X6_digitOf j5 i7 i18) fun i5_ =>
        bnd2 (m_X6_changeTwo S i1 (i11 + i18) ((Int64.toInt32 j16) * i5_) (-1 : Int32)) fun i7_ S8 =>
        m_X6_divided_L176 k48 n S8 i1 i2 j5 i7 i8 i9 i7_ i11 j16 (i18 + (-1 : Int32))))
set_option maxRecDepth 100000 in
set_option maxHeartbeats 4000000 in
theorem t_X6_divided_L176 {k48 : MS → Int32 → Int32 → Int64 → Int32 → Int32 → Int32 → Int32 → Int32 → Option (Int32 × MS)} {w : (Int32 × MS)} (hk48 : ∀ (S : MS) (a0 : Nat) (i1 : Int32) (i2 : Int32) (j5 : Int64) (i7 : Int32) (i8 : Int32) (i9 : Int32) (i10 : Int32) (i11 : Int32), (a0 = S.1) → k48 S i1 i2 j5 i7 i8 i9 i10 i11 = some w → J NX yX6_divided cX6_divided 19 (some .boolean) 5 128 48 [(0, .ref a0), (1, .int i1), (2, .int i2), (5, .long j5), (7, .int i7), (8, .int i8), (9, .int i9), (10, .int i10), (11, .int i11)] [] S (some (.int w.1)) w.2) (n : Nat) : ∀ (S : MS) (a0 : Nat) (i1 : Int32) (i2 : Int32) (j5 : Int64) (i7 : Int32) (i8 : Int32) (i9 : Int32) (i10 : Int32) (i11 : Int32) (j16 : Int64) (i18 : Int32), (a0 = S.1) → m_X6_divided_L176 k48 n S i1 i2 j5 i7 i8 i9 i10 i11 j16 i18 = some w → J NX yX6_divided cX6_divided 19 (some .boolean) 5 128 176 [(0, .ref a0), (1, .int i1), (2, .int i2), (5, .long j5), (7, .int i7), (8, .int i8), (9, .int i9), (10, .int i10), (11, .int i11), (16, .long j16), (18, .int i18)] [] S (some (.int w.1)) w.2 := by
  induction n with
  | zero => intro S a0 i1 i2 j5 i7 i8 i9 i10 i11 j16 i18 ha h; cases h
  | succ n lh =>
    intro S a0 i1 i2 j5 i7 i8 i9 i10 i11 j16 i18 ha h
    refine J_iload 10 dX6_divided_176 rfl ?_
    refine J_if_lt 218 dX6_divided_178 (by decide) h (fun c1 h2 => ?_) (fun c1 h2 => ?_)
    · clear h
      refine J_iinc 8 (-1 : Int32) dX6_divided_218 rfl (by decide) (by decide) [1, 2, 3, 4, 5, 6, 7, 8, 0, 9, 10] (lv' := [(0, .ref a0), (1, .int i1), (2, .int i2), (5, .long j5), (7, .int i7), (8, .int i8), (9, .int i9), (10, .int i10), (11, .int (i11 + (-1 : Int32))), (16, .long j16), (18, .int i18)]) rfl ?_
      refine J_goto 48 dX6_divided_221 (by decide) ?_
      refine J_lv [0, 1, 2, 3, 4, 5, 6, 7, 8] rfl ?_
      exact hk48 S a0 i1 i2 j5 i7 i8 i9 i10 (i11 + (-1 : Int32)) ha h2
    · clear h
      refine J_iload 7 dX6_divided_181 rfl ?_
      refine J_if_eq 218 dX6_divided_183 (by decide) h2 (fun c3 h4 => ?_) (fun c3 h4 => ?_)
      · clear h2
        refine J_iinc 8 (-1 : Int32) dX6_divided_218 rfl (by decide) (by decide) [1, 2, 3, 4, 5, 6, 7, 8, 0, 9, 10] (lv' := [(0, .ref a0), (1, .int i1), (2, .int i2), (5, .long j5), (7, .int i7), (8, .int i8), (9, .int i9), (10, .int i10), (11, .int (i11 + (-1 : Int32))), (16, .long j16), (18, .int i18)]) rfl ?_
        refine J_goto 48 dX6_divided_221 (by decide) ?_
        refine J_lv [0, 1, 2, 3, 4, 5, 6, 7, 8] rfl ?_
        exact hk48 S a0 i1 i2 j5 i7 i8 i9 i10 (i11 + (-1 : Int32)) ha h4
      · clear h2
        refine J_aload_n 0 dX6_divided_186 rfl rfl ?_
        refine J_iload_n 1 dX6_divided_187 rfl rfl ?_
        refine J_iload 8 dX6_divided_188 rfl ?_
        refine J_iload 10 dX6_divided_190 rfl ?_
        refine J_iadd dX6_divided_192 ?_
        refine J_lload 9 dX6_divided_193 rfl ?_
        refine J_l2i dX6_divided_195 ?_
        refine J_lload 3 dX6_divided_196 rfl ?_
        refine J_iload 4 dX6_divided_198 rfl ?_
        refine J_iload 10 dX6_divided_200 rfl ?_
        obtain ⟨i5_, ei5_, h6⟩ := bnd_some h4; clear h4
        refine J_callS (As := [.long j5, .int i7, .int i18]) (rest := [.int (Int64.toInt32 j16), .int (i11 + i18), .int i1, .ref a0]) (st' := [.int i5_, .int (Int64.toInt32 j16), .int (i11 + i18), .int i1, .ref a0]) (t_X6_digitOf ei5_) gC_X6_digitOf gM_X6_266 rfl (by decide) (by decide) rfl rfl (Nat.le_of_ble_eq_true rfl) dX6_divided_202 ?_
        refine J_imul dX6_divided_205 ?_
        refine J_iconst (-1 : Int32) dX6_divided_206 (by decide) ?_
        obtain ⟨i7_, S8, ei7_, h9⟩ := bnd2_some h6; clear h6
        have cS8 := (t_X6_changeTwo ha ei7_)
        have lS8 : jle NX S S8 := cS8.1
        have hS8_a0 : a0 = S8.1 := ha.trans (nle_eq lS8).symm
        refine J_callV (As := [.int i1, .int (i11 + i18), .int ((Int64.toInt32 j16) * i5_), .int (-1 : Int32)]) (rest := []) (st' := [.int i7_]) cS8 gC_X6_changeTwo gM_X6_282 (by rw [ha]; exact nRecv) rfl (by decide) (by decide) rfl rfl (Nat.le_of_ble_eq_true rfl) dX6_divided_207 ?_
        refine J_istore dX6_divided_210 (by decide) [1, 2, 3, 4, 5, 6, 7, 0, 8, 9, 10] (lv' := [(0, .ref a0), (1, .int i1), (2, .int i2), (5, .long j5), (7, .int i7), (8, .int i8), (9, .int i9), (10, .int i7_), (11, .int i11), (16, .long j16), (18, .int i18)]) rfl ?_
        refine J_iinc 10 (-1 : Int32) dX6_divided_212 rfl (by decide) (by decide) [1, 2, 3, 4, 5, 6, 7, 8, 9, 10, 0] (lv' := [(0, .ref a0), (1, .int i1), (2, .int i2), (5, .long j5), (7, .int i7), (8, .int i8), (9, .int i9), (10, .int i7_), (11, .int i11), (16, .long j16), (18, .int (i18 + (-1 : Int32)))]) rfl ?_
        refine J_goto 176 dX6_divided_215 (by decide) ?_
        exact lh S8 a0 i1 i2 j5 i7 i8 i9 i7_ i11 j16 (i18 + (-1 : Int32)) hS8_a0 h9
def m_X6_divided_L131 (k48 : MS → Int32 → Int32 → Int64 → Int32 → Int32 → Int32 → Int32 → Int32 → Option (Int32 × MS)) : Nat → MS → Int32 → Int32 → Int64 → Int32 → Int32 → Int32 → Int32 → Int32 → Int64 → Int64 → Int64 → Option (Int32 × MS)
  | 0, _, _, _, _, _, _, _, _, _, _, _, _ => none
  | n + 1, S, i1, i2, j5, i7, i8, i9, i10, i11, j12, j14, j16 =>
    if i10 = 0 then
      (jLet ((i8 - (1 : Int32))) fun i3_ =>
      m_X6_divided_L176 k48 bigN S i1 i2 j5 i7 i8 i9 i10 i11 j16 i3_)
    else
      (if ((j16 * j5) * j14) ≤ j12 then
        (jLet ((i8 - (1 : Int32))) fun i7_ =>
        m_X6_divided_L176 k48 bigN S i1 i2 j5 i7 i8 i9 i10 i11 j16 i7_)
      else
        (bnd2 (m_X6_change S i2 i11 (1 : Int32) (-1 : Int32)) fun i9_ S10 =>
        jLet ((j16 - (1 : Int64))) fun j12_ =>
        m_X6_divided_L131 k48 n S10 i1 i2 j5 i7 i8 i9 i9_ i11 j12 j14 j12_))
set_option maxRecDepth 100000 in
set_option maxHeartbeats 4000000 in
theorem t_X6_divided_L131 {k48 : MS → Int32 → Int32 → Int64 → Int32 → Int32 → Int32 → Int32 → Int32 → Option (Int32 × MS)} {w : (Int32 × MS)} (hk48 : ∀ (S : MS) (a0 : Nat) (i1 : Int32) (i2 : Int32) (j5 : Int64) (i7 : Int32) (i8 : Int32) (i9 : Int32) (i10 : Int32) (i11 : Int32), (a0 = S.1) → k48 S i1 i2 j5 i7 i8 i9 i10 i11 = some w → J NX yX6_divided cX6_divided 19 (some .boolean) 5 128 48 [(0, .ref a0), (1, .int i1), (2, .int i2), (5, .long j5), (7, .int i7), (8, .int i8), (9, .int i9), (10, .int i10), (11, .int i11)] [] S (some (.int w.1)) w.2) (n : Nat) : ∀ (S : MS) (a0 : Nat) (i1 : Int32) (i2 : Int32) (j5 : Int64) (i7 : Int32) (i8 : Int32) (i9 : Int32) (i10 : Int32) (i11 : Int32) (j12 : Int64) (j14 : Int64) (j16 : Int64), (a0 = S.1) → m_X6_divided_L131 k48 n S i1 i2 j5 i7 i8 i9 i10 i11 j12 j14 j16 = some w → J NX yX6_divided cX6_divided 19 (some .boolean) 5 128 131 [(0, .ref a0), (1, .int i1), (2, .int i2), (5, .long j5), (7, .int i7), (8, .int i8), (9, .int i9), (10, .int i10), (11, .int i11), (12, .long j12), (14, .long j14), (16, .long j16)] [] S (some (.int w.1)) w.2 := by
  induction n with
  | zero => intro S a0 i1 i2 j5 i7 i8 i9 i10 i11 j12 j14 j16 ha h; cases h
  | succ n lh =>
    intro S a0 i1 i2 j5 i7 i8 i9 i10 i11 j12 j14 j16 ha h
    refine J_iload 7 dX6_divided_131 rfl ?_
    refine J_if_eq 170 dX6_divided_133 (by decide) h (fun c1 h2 => ?_) (fun c1 h2 => ?_)
    · clear h
      refine J_iload 5 dX6_divided_170 rfl ?_
      refine J_iconst (1 : Int32) dX6_divided_172 (by decide) ?_
      refine J_isub dX6_divided_173 ?_
      obtain ⟨i3_, ei3_, h4⟩ := jLet_some h2; clear h2
      refine J_topI ei3_ ?_
      refine J_istore dX6_divided_174 (by decide) [1, 2, 3, 4, 5, 6, 7, 8, 9, 12, 0] (lv' := [(0, .ref a0), (1, .int i1), (2, .int i2), (5, .long j5), (7, .int i7), (8, .int i8), (9, .int i9), (10, .int i10), (11, .int i11), (16, .long j16), (18, .int i3_)]) rfl ?_
      exact t_X6_divided_L176 hk48 bigN S a0 i1 i2 j5 i7 i8 i9 i10 i11 j16 i3_ ha h4
    · clear h
      refine J_lload 11 dX6_divided_136 rfl ?_
      refine J_lload 3 dX6_divided_138 rfl ?_
      refine J_lmul dX6_divided_140 ?_
      refine J_lload 10 dX6_divided_141 rfl ?_
      refine J_lmul dX6_divided_143 ?_
      refine J_lload 9 dX6_divided_144 rfl ?_
      refine J_lcmp_le 170 dX6_divided_146 dX6_divided_147 (by decide) h2 (fun c5 h6 => ?_) (fun c5 h6 => ?_)
      · clear h2
        refine J_iload 5 dX6_divided_170 rfl ?_
        refine J_iconst (1 : Int32) dX6_divided_172 (by decide) ?_
        refine J_isub dX6_divided_173 ?_
        obtain ⟨i7_, ei7_, h8⟩ := jLet_some h6; clear h6
        refine J_topI ei7_ ?_
        refine J_istore dX6_divided_174 (by decide) [1, 2, 3, 4, 5, 6, 7, 8, 9, 12, 0] (lv' := [(0, .ref a0), (1, .int i1), (2, .int i2), (5, .long j5), (7, .int i7), (8, .int i8), (9, .int i9), (10, .int i10), (11, .int i11), (16, .long j16), (18, .int i7_)]) rfl ?_
        exact t_X6_divided_L176 hk48 bigN S a0 i1 i2 j5 i7 i8 i9 i10 i11 j16 i7_ ha h8
      · clear h2
        refine J_aload_n 0 dX6_divided_150 rfl rfl ?_
        refine J_iload_n 2 dX6_divided_151 rfl rfl ?_
        refine J_iload 8 dX6_divided_152 rfl ?_
        refine J_iconst (1 : Int32) dX6_divided_154 (by decide) ?_
        refine J_iconst (-1 : Int32) dX6_divided_155 (by decide) ?_
        obtain ⟨i9_, S10, ei9_, h11⟩ := bnd2_some h6; clear h6
        have cS10 := (t_X6_change ha ei9_)
        have lS10 : jle NX S S10 := cS10.1
        have hS10_a0 : a0 = S10.1 := ha.trans (nle_eq lS10).symm
        refine J_callV (As := [.int i2, .int i11, .int (1 : Int32), .int (-1 : Int32)]) (rest := []) (st' := [.int i9_]) cS10 gC_X6_change gM_X6_262 (by rw [ha]; exact nRecv) rfl (by decide) (by decide) rfl rfl (Nat.le_of_ble_eq_true rfl) dX6_divided_156 ?_
        refine J_istore dX6_divided_159 (by decide) [1, 2, 3, 4, 5, 6, 7, 0, 8, 9, 10, 11] (lv' := [(0, .ref a0), (1, .int i1), (2, .int i2), (5, .long j5), (7, .int i7), (8, .int i8), (9, .int i9), (10, .int i9_), (11, .int i11), (12, .long j12), (14, .long j14), (16, .long j16)]) rfl ?_
        refine J_lload 11 dX6_divided_161 rfl ?_
        refine J_lconst (1 : Int64) dX6_divided_163 (by decide) ?_
        refine J_lsub dX6_divided_164 ?_
        obtain ⟨j12_, ej12_, h13⟩ := jLet_some h11; clear h11
        refine J_topL ej12_ ?_
        refine J_lstore dX6_divided_165 (by decide) [1, 2, 3, 4, 5, 6, 7, 8, 9, 10, 11, 0] (lv' := [(0, .ref a0), (1, .int i1), (2, .int i2), (5, .long j5), (7, .int i7), (8, .int i8), (9, .int i9), (10, .int i9_), (11, .int i11), (12, .long j12), (14, .long j14), (16, .long j12_)]) rfl ?_
        refine J_goto 131 dX6_divided_167 (by decide) ?_
        exact lh S10 a0 i1 i2 j5 i7 i8 i9 i9_ i11 j12 j14 j12_ hS10_a0 h13
def m_X6_divided_J116 (k48 : MS → Int32 → Int32 → Int64 → Int32 → Int32 → Int32 → Int32 → Int32 → Option (Int32 × MS)) (S : MS) (i1 : Int32) (i2 : Int32) (j5 : Int64) (i7 : Int32) (i8 : Int32) (i9 : Int32) (i11 : Int32) (j12 : Int64) (j14 : Int64) (js0 : Int64) : Option (Int32 × MS) :=
  bnd2 (m_X6_change S i2 i11 (Int64.toInt32 js0) (1 : Int32)) fun i1_ S2 =>
  m_X6_divided_L131 k48 bigN S2 i1 i2 j5 i7 i8 i9 i1_ i11 j12 j14 js0
set_option maxRecDepth 100000 in
set_option maxHeartbeats 4000000 in
theorem t_X6_divided_J116 {k48 : MS → Int32 → Int32 → Int64 → Int32 → Int32 → Int32 → Int32 → Int32 → Option (Int32 × MS)} {S : MS} {a0 : Nat} {i1 : Int32} {i2 : Int32} {j5 : Int64} {i7 : Int32} {i8 : Int32} {i9 : Int32} {i11 : Int32} {j12 : Int64} {j14 : Int64} {js0 : Int64} {w : (Int32 × MS)} (hk48 : ∀ (S : MS) (a0 : Nat) (i1 : Int32) (i2 : Int32) (j5 : Int64) (i7 : Int32) (i8 : Int32) (i9 : Int32) (i10 : Int32) (i11 : Int32), (a0 = S.1) → k48 S i1 i2 j5 i7 i8 i9 i10 i11 = some w → J NX yX6_divided cX6_divided 19 (some .boolean) 5 128 48 [(0, .ref a0), (1, .int i1), (2, .int i2), (5, .long j5), (7, .int i7), (8, .int i8), (9, .int i9), (10, .int i10), (11, .int i11)] [] S (some (.int w.1)) w.2) (ha : a0 = S.1) (h : m_X6_divided_J116 k48 S i1 i2 j5 i7 i8 i9 i11 j12 j14 js0 = some w) : J NX yX6_divided cX6_divided 19 (some .boolean) 5 128 116 [(0, .ref a0), (1, .int i1), (2, .int i2), (5, .long j5), (7, .int i7), (8, .int i8), (9, .int i9), (11, .int i11), (12, .long j12), (14, .long j14)] [.long js0] S (some (.int w.1)) w.2 := by
  refine J_lstore dX6_divided_116 (by decide) [1, 2, 3, 4, 5, 6, 7, 8, 9, 10, 0] (lv' := [(0, .ref a0), (1, .int i1), (2, .int i2), (5, .long j5), (7, .int i7), (8, .int i8), (9, .int i9), (11, .int i11), (12, .long j12), (14, .long j14), (16, .long js0)]) rfl ?_
  refine J_aload_n 0 dX6_divided_118 rfl rfl ?_
  refine J_iload_n 2 dX6_divided_119 rfl rfl ?_
  refine J_iload 7 dX6_divided_120 rfl ?_
  refine J_lload 10 dX6_divided_122 rfl ?_
  refine J_l2i dX6_divided_124 ?_
  refine J_iconst (1 : Int32) dX6_divided_125 (by decide) ?_
  obtain ⟨i1_, S2, ei1_, h3⟩ := bnd2_some h; clear h
  have cS2 := (t_X6_change ha ei1_)
  have lS2 : jle NX S S2 := cS2.1
  have hS2_a0 : a0 = S2.1 := ha.trans (nle_eq lS2).symm
  refine J_callV (As := [.int i2, .int i11, .int (Int64.toInt32 js0), .int (1 : Int32)]) (rest := []) (st' := [.int i1_]) cS2 gC_X6_change gM_X6_262 (by rw [ha]; exact nRecv) rfl (by decide) (by decide) rfl rfl (Nat.le_of_ble_eq_true rfl) dX6_divided_126 ?_
  refine J_istore dX6_divided_129 (by decide) [1, 2, 3, 4, 5, 6, 7, 0, 8, 9, 10, 11] (lv' := [(0, .ref a0), (1, .int i1), (2, .int i2), (5, .long j5), (7, .int i7), (8, .int i8), (9, .int i9), (10, .int i1_), (11, .int i11), (12, .long j12), (14, .long j14), (16, .long js0)]) rfl ?_
  exact t_X6_divided_L131 hk48 bigN S2 a0 i1 i2 j5 i7 i8 i9 i1_ i11 j12 j14 js0 hS2_a0 h3
def m_X6_divided_L48 : Nat → MS → Int32 → Int32 → Int64 → Int32 → Int32 → Int32 → Int32 → Int32 → Option (Int32 × MS)
  | 0, _, _, _, _, _, _, _, _, _ => none
  | n + 1, S, i1, i2, j5, i7, i8, i9, i10, i11 =>
    if i11 < 0 then
      (gd (zb i10) <|
      some (i10, S))
    else
      (if i10 = 0 then
        (gd (zb i10) <|
        some (i10, S))
      else
        (bnd2 (m_X6_shown S i1) fun j9_ S10 =>
        bnd (m_X6_power i7 i11) fun j12_ =>
        bnd (m_X6_power i7 ((i11 + i8) - (1 : Int32))) fun j14_ =>
        gd (nzL j14_) <|
        gd (nzL (Int32.toInt64 i9)) <|
        jLet (((j9_ / j14_) / (Int32.toInt64 i9))) fun j20_ =>
        if j20_ ≤ (Int32.toInt64 (i7 - (1 : Int32))) then
          (m_X6_divided_J116 (m_X6_divided_L48 n) S10 i1 i2 j5 i7 i8 i9 i11 j9_ j12_ j20_)
        else
          (m_X6_divided_J116 (m_X6_divided_L48 n) S10 i1 i2 j5 i7 i8 i9 i11 j9_ j12_ (Int32.toInt64 (i7 - (1 : Int32))))))
set_option maxRecDepth 100000 in
set_option maxHeartbeats 4000000 in
theorem t_X6_divided_L48 {w : (Int32 × MS)} (n : Nat) : ∀ (S : MS) (a0 : Nat) (i1 : Int32) (i2 : Int32) (j5 : Int64) (i7 : Int32) (i8 : Int32) (i9 : Int32) (i10 : Int32) (i11 : Int32), (a0 = S.1) → m_X6_divided_L48 n S i1 i2 j5 i7 i8 i9 i10 i11 = some w → J NX yX6_divided cX6_divided 19 (some .boolean) 5 128 48 [(0, .ref a0), (1, .int i1), (2, .int i2), (5, .long j5), (7, .int i7), (8, .int i8), (9, .int i9), (10, .int i10), (11, .int i11)] [] S (some (.int w.1)) w.2 := by
  induction n with
  | zero => intro S a0 i1 i2 j5 i7 i8 i9 i10 i11 ha h; cases h
  | succ n lh =>
    intro S a0 i1 i2 j5 i7 i8 i9 i10 i11 ha h
    refine J_iload 8 dX6_divided_48 rfl ?_
    refine J_if_lt 224 dX6_divided_50 (by decide) h (fun c1 h2 => ?_) (fun c1 h2 => ?_)
    · clear h
      refine J_iload 7 dX6_divided_224 rfl ?_
      obtain ⟨g3, h4⟩ := gd_some h2; clear h2
      have hw := Option.some.inj h4; subst hw
      exact J_zret rfl (zb_of g3) dX6_divided_226
    · clear h
      refine J_iload 7 dX6_divided_53 rfl ?_
      refine J_if_eq 224 dX6_divided_55 (by decide) h2 (fun c5 h6 => ?_) (fun c5 h6 => ?_)
      · clear h2
        refine J_iload 7 dX6_divided_224 rfl ?_
        obtain ⟨g7, h8⟩ := gd_some h6; clear h6
        have hw := Option.some.inj h8; subst hw
        exact J_zret rfl (zb_of g7) dX6_divided_226
      · clear h2
        refine J_aload_n 0 dX6_divided_58 rfl rfl ?_
        refine J_iload_n 1 dX6_divided_59 rfl rfl ?_
        obtain ⟨j9_, S10, ej9_, h11⟩ := bnd2_some h6; clear h6
        have cS10 := (t_X6_shown ha ej9_)
        have lS10 : jle NX S S10 := cS10.1
        have hS10_a0 : a0 = S10.1 := ha.trans (nle_eq lS10).symm
        refine J_callV (As := [.int i1]) (rest := []) (st' := [.long j9_]) cS10 gC_X6_shown gM_X6_148 (by rw [ha]; exact nRecv) rfl (by decide) (by decide) rfl rfl (Nat.le_of_ble_eq_true rfl) dX6_divided_60 ?_
        refine J_lstore dX6_divided_63 (by decide) [1, 2, 3, 4, 5, 6, 7, 9, 0] (lv' := [(0, .ref a0), (1, .int i1), (2, .int i2), (5, .long j5), (7, .int i7), (8, .int i8), (9, .int i9), (11, .int i11), (12, .long j9_)]) rfl ?_
        refine J_iload 4 dX6_divided_65 rfl ?_
        refine J_iload 7 dX6_divided_67 rfl ?_
        obtain ⟨j12_, ej12_, h13⟩ := bnd_some h11; clear h11
        refine J_callS (As := [.int i7, .int i11]) (rest := []) (st' := [.long j12_]) (t_X6_power ej12_) gC_X6_power gM_X6_304 rfl (by decide) (by decide) rfl rfl (Nat.le_of_ble_eq_true rfl) dX6_divided_69 ?_
        refine J_lstore dX6_divided_72 (by decide) [1, 2, 3, 4, 5, 6, 7, 8, 9, 0] (lv' := [(0, .ref a0), (1, .int i1), (2, .int i2), (5, .long j5), (7, .int i7), (8, .int i8), (9, .int i9), (11, .int i11), (12, .long j9_), (14, .long j12_)]) rfl ?_
        refine J_lload 8 dX6_divided_74 rfl ?_
        refine J_iload 4 dX6_divided_76 rfl ?_
        refine J_iload 7 dX6_divided_78 rfl ?_
        refine J_iload 5 dX6_divided_80 rfl ?_
        refine J_iadd dX6_divided_82 ?_
        refine J_iconst (1 : Int32) dX6_divided_83 (by decide) ?_
        refine J_isub dX6_divided_84 ?_
        obtain ⟨j14_, ej14_, h15⟩ := bnd_some h13; clear h13
        refine J_callS (As := [.int i7, .int ((i11 + i8) - (1 : Int32))]) (rest := [.long j9_]) (st' := [.long j14_, .long j9_]) (t_X6_power ej14_) gC_X6_power gM_X6_304 rfl (by decide) (by decide) rfl rfl (Nat.le_of_ble_eq_true rfl) dX6_divided_85 ?_
        obtain ⟨g16, h17⟩ := gd_some h15; clear h15
        refine J_ldiv dX6_divided_88 (nzL_of g16) ?_
        refine J_iload 6 dX6_divided_89 rfl ?_
        refine J_i2l dX6_divided_91 ?_
        obtain ⟨g18, h19⟩ := gd_some h17; clear h17
        refine J_ldiv dX6_divided_92 (nzL_of g18) ?_
        obtain ⟨j20_, ej20_, h21⟩ := jLet_some h19; clear h19
        refine J_topL ej20_ ?_
        refine J_lstore dX6_divided_93 (by decide) [1, 2, 3, 4, 5, 6, 7, 8, 9, 10, 0] (lv' := [(0, .ref a0), (1, .int i1), (2, .int i2), (5, .long j5), (7, .int i7), (8, .int i8), (9, .int i9), (11, .int i11), (12, .long j9_), (14, .long j12_), (16, .long j20_)]) rfl ?_
        refine J_lload 10 dX6_divided_95 rfl ?_
        refine J_iload 4 dX6_divided_97 rfl ?_
        refine J_iconst (1 : Int32) dX6_divided_99 (by decide) ?_
        refine J_isub dX6_divided_100 ?_
        refine J_i2l dX6_divided_101 ?_
        refine J_lcmp_le 114 dX6_divided_102 dX6_divided_103 (by decide) h21 (fun c22 h23 => ?_) (fun c22 h23 => ?_)
        · clear h21
          refine J_lload 10 dX6_divided_114 rfl ?_
          refine J_lv [0, 1, 2, 3, 4, 5, 6, 7, 8, 9] rfl ?_
          exact t_X6_divided_J116 lh hS10_a0 h23
        · clear h21
          refine J_iload 4 dX6_divided_106 rfl ?_
          refine J_iconst (1 : Int32) dX6_divided_108 (by decide) ?_
          refine J_isub dX6_divided_109 ?_
          refine J_i2l dX6_divided_110 ?_
          refine J_goto 116 dX6_divided_111 (by decide) ?_
          refine J_lv [0, 1, 2, 3, 4, 5, 6, 7, 8, 9] rfl ?_
          exact t_X6_divided_J116 lh hS10_a0 h23
def m_X6_divided (S : MS) (i1 : Int32) (i2 : Int32) (j3 : Int64) (j5 : Int64) : Option (Int32 × MS) :=
  gd (inB i1 30) <|
  jLet ((nA S 3 (Int32.toNatClampNeg i1))) fun i3_ =>
  bnd (m_X6_digits j5 i3_) fun i5_ =>
  bnd (m_X6_digitOf j5 i3_ (i5_ - (1 : Int32))) fun i7_ =>
  bnd2 (m_X6_clear S i2) fun i9_ S10 =>
  bnd (m_X6_digits j3 i3_) fun i12_ =>
  jLet ((i12_ - i5_)) fun i14_ =>
  m_X6_divided_L48 bigN S10 i1 i2 j5 i3_ i5_ i7_ i9_ i14_
set_option maxRecDepth 100000 in
set_option maxHeartbeats 4000000 in
theorem t_X6_divided {S : MS} {a0 : Nat} {i1 : Int32} {i2 : Int32} {j3 : Int64} {j5 : Int64} {w : (Int32 × MS)} (ha : a0 = S.1) (h : m_X6_divided S i1 i2 j3 j5 = some w) : CT NX yX6_divided cX6_divided 19 (some .boolean) 5 128 [.ref a0, .int i1, .int i2, .long j3, .long j5] S (some (.int w.1)) w.2 := by
  refine CT.of (lv := [(0, .ref a0), (1, .int i1), (2, .int i2), (3, .long j3), (5, .long j5)]) (by decide) rfl (Nat.le_of_ble_eq_true rfl) ?_
  refine J_aload_n 0 dX6_divided_0 rfl rfl ?_
  refine J_ngetA (k := 3) (o := 2) dX6_divided_1 gF_X6_16 ha rfl ?_
  refine J_iload_n 1 dX6_divided_4 rfl rfl ?_
  obtain ⟨g1, h2⟩ := gd_some h; clear h
  refine J_niald (k := 3) (o := 2) dX6_divided_5 ha rfl rfl (by decide) g1 ?_
  obtain ⟨i3_, ei3_, h4⟩ := jLet_some h2; clear h2
  refine J_topI ei3_ ?_
  refine J_istore dX6_divided_6 (by decide) [1, 2, 3, 4, 5, 0] (lv' := [(0, .ref a0), (1, .int i1), (2, .int i2), (3, .long j3), (5, .long j5), (7, .int i3_)]) rfl ?_
  refine J_lload 4 dX6_divided_8 rfl ?_
  refine J_iload 5 dX6_divided_10 rfl ?_
  obtain ⟨i5_, ei5_, h6⟩ := bnd_some h4; clear h4
  refine J_callS (As := [.long j5, .int i3_]) (rest := []) (st' := [.int i5_]) (t_X6_digits ei5_) gC_X6_digits gM_X6_155 rfl (by decide) (by decide) rfl rfl (Nat.le_of_ble_eq_true rfl) dX6_divided_12 ?_
  refine J_istore dX6_divided_15 (by decide) [1, 2, 3, 4, 5, 6, 0] (lv' := [(0, .ref a0), (1, .int i1), (2, .int i2), (3, .long j3), (5, .long j5), (7, .int i3_), (8, .int i5_)]) rfl ?_
  refine J_lload 4 dX6_divided_17 rfl ?_
  refine J_iload 5 dX6_divided_19 rfl ?_
  refine J_iload 6 dX6_divided_21 rfl ?_
  refine J_iconst (1 : Int32) dX6_divided_23 (by decide) ?_
  refine J_isub dX6_divided_24 ?_
  obtain ⟨i7_, ei7_, h8⟩ := bnd_some h6; clear h6
  refine J_callS (As := [.long j5, .int i3_, .int (i5_ - (1 : Int32))]) (rest := []) (st' := [.int i7_]) (t_X6_digitOf ei7_) gC_X6_digitOf gM_X6_266 rfl (by decide) (by decide) rfl rfl (Nat.le_of_ble_eq_true rfl) dX6_divided_25 ?_
  refine J_istore dX6_divided_28 (by decide) [1, 2, 3, 4, 5, 6, 7, 0] (lv' := [(0, .ref a0), (1, .int i1), (2, .int i2), (3, .long j3), (5, .long j5), (7, .int i3_), (8, .int i5_), (9, .int i7_)]) rfl ?_
  refine J_aload_n 0 dX6_divided_30 rfl rfl ?_
  refine J_iload_n 2 dX6_divided_31 rfl rfl ?_
  obtain ⟨i9_, S10, ei9_, h11⟩ := bnd2_some h8; clear h8
  have cS10 := (t_X6_clear ha ei9_)
  have lS10 : jle NX S S10 := cS10.1
  have hS10_a0 : a0 = S10.1 := ha.trans (nle_eq lS10).symm
  refine J_callV (As := [.int i2]) (rest := []) (st' := [.int i9_]) cS10 gC_X6_clear gM_X6_279 (by rw [ha]; exact nRecv) rfl (by decide) (by decide) rfl rfl (Nat.le_of_ble_eq_true rfl) dX6_divided_32 ?_
  refine J_istore dX6_divided_35 (by decide) [1, 2, 3, 4, 5, 6, 7, 8, 0] (lv' := [(0, .ref a0), (1, .int i1), (2, .int i2), (3, .long j3), (5, .long j5), (7, .int i3_), (8, .int i5_), (9, .int i7_), (10, .int i9_)]) rfl ?_
  refine J_lload_n 3 dX6_divided_37 rfl rfl ?_
  refine J_iload 5 dX6_divided_38 rfl ?_
  obtain ⟨i12_, ei12_, h13⟩ := bnd_some h11; clear h11
  refine J_callS (As := [.long j3, .int i3_]) (rest := []) (st' := [.int i12_]) (t_X6_digits ei12_) gC_X6_digits gM_X6_155 rfl (by decide) (by decide) rfl rfl (Nat.le_of_ble_eq_true rfl) dX6_divided_40 ?_
  refine J_iload 6 dX6_divided_43 rfl ?_
  refine J_isub dX6_divided_45 ?_
  obtain ⟨i14_, ei14_, h15⟩ := jLet_some h13; clear h13
  refine J_topI ei14_ ?_
  refine J_istore dX6_divided_46 (by decide) [1, 2, 3, 5, 6, 7, 8, 9, 0] (lv' := [(0, .ref a0), (1, .int i1), (2, .int i2), (5, .long j5), (7, .int i3_), (8, .int i5_), (9, .int i7_), (10, .int i9_), (11, .int i14_)]) rfl ?_
  exact t_X6_divided_L48 bigN S10 a0 i1 i2 j5 i3_ i5_ i7_ i9_ i14_ hS10_a0 h15
def m_X6_divide (S : MS) (i1 : Int32) (i2 : Int32) (j3 : Int64) : Option (Int32 × MS) :=
  bnd (m_X6_isFrame S i1) fun i1_ =>
  if i1_ = 0 then
    (some ((-1 : Int32), S))
  else
    (bnd (m_X6_isFrame S i2) fun i5_ =>
    if i5_ = 0 then
      (some ((-1 : Int32), S))
    else
      (if (0 : Int64) ≤ j3 then
        (bnd (m_X6_bars S i1 i2 (1 : Int32)) fun i11_ =>
        if 0 ≤ i11_ then
          (bnd2 (m_X6_shown S i1) fun j15_ S16 =>
          if (nF S16 16) ≤ 0 then
            (if j3 = (0 : Int64) then
              (bnd2 (m_X6_meets S16 (5 : Int32)) fun i22_ S23 =>
              some (i22_, S23))
            else
              (bnd (m_X6_start S16 i1) fun S25 =>
              bnd2 (m_X6_divided S25 i1 i2 j15_ j3) fun i27_ S28 =>
              bnd2 (m_X6_ended S28 i27_) fun i30_ S31 =>
              some (i30_, S31)))
          else
            (bnd2 (m_X6_meets S16 (nF S16 16)) fun i33_ S34 =>
            some (i33_, S34)))
        else
          (some ((-3 : Int32), S)))
      else
        (some ((-2 : Int32), S))))
set_option maxRecDepth 100000 in
set_option maxHeartbeats 4000000 in
theorem t_X6_divide {S : MS} {a0 : Nat} {i1 : Int32} {i2 : Int32} {j3 : Int64} {w : (Int32 × MS)} (ha : a0 = S.1) (h : m_X6_divide S i1 i2 j3 = some w) : CT NX yX6_divide cX6_divide 7 (some .int) 6 166 [.ref a0, .int i1, .int i2, .long j3] S (some (.int w.1)) w.2 := by
  refine CT.of (lv := [(0, .ref a0), (1, .int i1), (2, .int i2), (3, .long j3)]) (by decide) rfl (Nat.le_of_ble_eq_true rfl) ?_
  refine J_aload_n 0 dX6_divide_0 rfl rfl ?_
  refine J_iload_n 1 dX6_divide_1 rfl rfl ?_
  obtain ⟨i1_, ei1_, h2⟩ := bnd_some h; clear h
  refine J_callV (As := [.int i1]) (rest := []) (st' := [.int i1_]) (t_X6_isFrame ha ei1_) gC_X6_isFrame gM_X6_129 (by rw [ha]; exact nRecv) rfl (by decide) (by decide) rfl rfl (Nat.le_of_ble_eq_true rfl) dX6_divide_2 ?_
  refine J_if_eq 16 dX6_divide_5 (by decide) h2 (fun c3 h4 => ?_) (fun c3 h4 => ?_)
  · clear h2
    refine J_iconst (-1 : Int32) dX6_divide_16 (by decide) ?_
    have hw := Option.some.inj h4; subst hw
    exact J_iret rfl dX6_divide_17
  · clear h2
    refine J_aload_n 0 dX6_divide_8 rfl rfl ?_
    refine J_iload_n 2 dX6_divide_9 rfl rfl ?_
    obtain ⟨i5_, ei5_, h6⟩ := bnd_some h4; clear h4
    refine J_callV (As := [.int i2]) (rest := []) (st' := [.int i5_]) (t_X6_isFrame ha ei5_) gC_X6_isFrame gM_X6_129 (by rw [ha]; exact nRecv) rfl (by decide) (by decide) rfl rfl (Nat.le_of_ble_eq_true rfl) dX6_divide_10 ?_
    refine J_if_ne 18 dX6_divide_13 (by decide) h6 (fun c7 h8 => ?_) (fun c7 h8 => ?_)
    · clear h6
      refine J_iconst (-1 : Int32) dX6_divide_16 (by decide) ?_
      have hw := Option.some.inj h8; subst hw
      exact J_iret rfl dX6_divide_17
    · clear h6
      refine J_lload_n 3 dX6_divide_18 rfl rfl ?_
      refine J_lconst (0 : Int64) dX6_divide_19 (by decide) ?_
      refine J_lcmp_ge 27 dX6_divide_20 dX6_divide_21 (by decide) h8 (fun c9 h10 => ?_) (fun c9 h10 => ?_)
      · clear h8
        refine J_aload_n 0 dX6_divide_27 rfl rfl ?_
        refine J_iload_n 1 dX6_divide_28 rfl rfl ?_
        refine J_iload_n 2 dX6_divide_29 rfl rfl ?_
        refine J_iconst (1 : Int32) dX6_divide_30 (by decide) ?_
        obtain ⟨i11_, ei11_, h12⟩ := bnd_some h10; clear h10
        refine J_callV (As := [.int i1, .int i2, .int (1 : Int32)]) (rest := []) (st' := [.int i11_]) (t_X6_bars ha ei11_) gC_X6_bars gM_X6_308 (by rw [ha]; exact nRecv) rfl (by decide) (by decide) rfl rfl (Nat.le_of_ble_eq_true rfl) dX6_divide_31 ?_
        refine J_if_ge 40 dX6_divide_34 (by decide) h12 (fun c13 h14 => ?_) (fun c13 h14 => ?_)
        · clear h12
          refine J_aload_n 0 dX6_divide_40 rfl rfl ?_
          refine J_iload_n 1 dX6_divide_41 rfl rfl ?_
          obtain ⟨j15_, S16, ej15_, h17⟩ := bnd2_some h14; clear h14
          have cS16 := (t_X6_shown ha ej15_)
          have lS16 : jle NX S S16 := cS16.1
          have hS16_a0 : a0 = S16.1 := ha.trans (nle_eq lS16).symm
          refine J_callV (As := [.int i1]) (rest := []) (st' := [.long j15_]) cS16 gC_X6_shown gM_X6_148 (by rw [ha]; exact nRecv) rfl (by decide) (by decide) rfl rfl (Nat.le_of_ble_eq_true rfl) dX6_divide_42 ?_
          refine J_lstore dX6_divide_45 (by decide) [1, 2, 3, 4, 0] (lv' := [(0, .ref a0), (1, .int i1), (2, .int i2), (3, .long j3), (5, .long j15_)]) rfl ?_
          refine J_aload_n 0 dX6_divide_47 rfl rfl ?_
          refine J_nget (k := 16) dX6_divide_48 gF_X6_124 hS16_a0 rfl ?_
          refine J_if_le 63 dX6_divide_51 (by decide) h17 (fun c18 h19 => ?_) (fun c18 h19 => ?_)
          · clear h17
            refine J_lload_n 3 dX6_divide_63 rfl rfl ?_
            refine J_lconst (0 : Int64) dX6_divide_64 (by decide) ?_
            refine J_lcmp_ne 75 dX6_divide_65 dX6_divide_66 (by decide) h19 (fun c20 h21 => ?_) (fun c20 h21 => ?_)
            · clear h19
              refine J_aload_n 0 dX6_divide_69 rfl rfl ?_
              refine J_iconst (5 : Int32) dX6_divide_70 (by decide) ?_
              obtain ⟨i22_, S23, ei22_, h24⟩ := bnd2_some h21; clear h21
              have cS23 := (t_X6_meets hS16_a0 ei22_)
              have lS23 : jle NX S16 S23 := cS23.1
              have hS23_a0 : a0 = S23.1 := hS16_a0.trans (nle_eq lS23).symm
              refine J_callV (As := [.int (5 : Int32)]) (rest := []) (st' := [.int i22_]) cS23 gC_X6_meets gM_X6_102 (by rw [hS16_a0]; exact nRecv) rfl (by decide) (by decide) rfl rfl (Nat.le_of_ble_eq_true rfl) dX6_divide_71 ?_
              have hw := Option.some.inj h24; subst hw
              exact J_iret rfl dX6_divide_74
            · clear h19
              refine J_aload_n 0 dX6_divide_75 rfl rfl ?_
              refine J_iload_n 1 dX6_divide_76 rfl rfl ?_
              obtain ⟨S25, eS25, h26⟩ := bnd_some h21; clear h21
              have cS25 := (t_X6_start hS16_a0 eS25)
              have lS25 : jle NX S16 S25 := cS25.1
              have hS25_a0 : a0 = S25.1 := hS16_a0.trans (nle_eq lS25).symm
              refine J_callV (As := [.int i1]) (rest := []) (st' := []) cS25 gC_X6_start gM_X6_285 (by rw [hS16_a0]; exact nRecv) rfl (by decide) (by decide) rfl rfl (Nat.le_of_ble_eq_true rfl) dX6_divide_77 ?_
              refine J_aload_n 0 dX6_divide_80 rfl rfl ?_
              refine J_aload_n 0 dX6_divide_81 rfl rfl ?_
              refine J_iload_n 1 dX6_divide_82 rfl rfl ?_
              refine J_iload_n 2 dX6_divide_83 rfl rfl ?_
              refine J_lload 4 dX6_divide_84 rfl ?_
              refine J_lload_n 3 dX6_divide_86 rfl rfl ?_
              obtain ⟨i27_, S28, ei27_, h29⟩ := bnd2_some h26; clear h26
              have cS28 := (t_X6_divided hS25_a0 ei27_)
              have lS28 : jle NX S25 S28 := cS28.1
              have hS28_a0 : a0 = S28.1 := hS25_a0.trans (nle_eq lS28).symm
              refine J_callV (As := [.int i1, .int i2, .long j15_, .long j3]) (rest := [.ref a0]) (st' := [.int i27_, .ref a0]) cS28 gC_X6_divided gM_X6_312 (by rw [hS25_a0]; exact nRecv) rfl (by decide) (by decide) rfl rfl (Nat.le_of_ble_eq_true rfl) dX6_divide_87 ?_
              obtain ⟨i30_, S31, ei30_, h32⟩ := bnd2_some h29; clear h29
              have cS31 := (t_X6_ended hS28_a0 ei30_)
              have lS31 : jle NX S28 S31 := cS31.1
              have hS31_a0 : a0 = S31.1 := hS28_a0.trans (nle_eq lS31).symm
              refine J_callV (As := [.int i27_]) (rest := []) (st' := [.int i30_]) cS31 gC_X6_ended gM_X6_292 (by rw [hS28_a0]; exact nRecv) rfl (by decide) (by decide) rfl rfl (Nat.le_of_ble_eq_true rfl) dX6_divide_90 ?_
              have hw := Option.some.inj h32; subst hw
              exact J_iret rfl dX6_divide_93
          · clear h17
            refine J_aload_n 0 dX6_divide_54 rfl rfl ?_
            refine J_aload_n 0 dX6_divide_55 rfl rfl ?_
            refine J_nget (k := 16) dX6_divide_56 gF_X6_124 hS16_a0 rfl ?_
            obtain ⟨i33_, S34, ei33_, h35⟩ := bnd2_some h19; clear h19
            have cS34 := (t_X6_meets hS16_a0 ei33_)
            have lS34 : jle NX S16 S34 := cS34.1
            have hS34_a0 : a0 = S34.1 := hS16_a0.trans (nle_eq lS34).symm
            refine J_callV (As := [.int (nF S16 16)]) (rest := []) (st' := [.int i33_]) cS34 gC_X6_meets gM_X6_102 (by rw [hS16_a0]; exact nRecv) rfl (by decide) (by decide) rfl rfl (Nat.le_of_ble_eq_true rfl) dX6_divide_59 ?_
            have hw := Option.some.inj h35; subst hw
            exact J_iret rfl dX6_divide_62
        · clear h12
          refine J_bipush (-3 : Int32) dX6_divide_37 (by decide) ?_
          have hw := Option.some.inj h14; subst hw
          exact J_iret rfl dX6_divide_39
      · clear h8
        refine J_bipush (-2 : Int32) dX6_divide_24 (by decide) ?_
        have hw := Option.some.inj h10; subst hw
        exact J_iret rfl dX6_divide_26
def m_X6_wanted (i0 : Int32) (j1 : Int64) (i3 : Int32) (i4 : Int32) : Option Int64 :=
  if i4 = 0 then
    (some (((((2 : Int64) * (Int32.toInt64 i0)) * j1) + (Int32.toInt64 i3)) * (Int32.toInt64 i3)))
  else
    (some ((((((((3 : Int64) * (Int32.toInt64 i0)) * (Int32.toInt64 i0)) * j1) * j1) + ((((3 : Int64) * (Int32.toInt64 i0)) * j1) * (Int32.toInt64 i3))) + ((Int32.toInt64 i3) * (Int32.toInt64 i3))) * (Int32.toInt64 i3)))
set_option maxRecDepth 100000 in
set_option maxHeartbeats 4000000 in
theorem t_X6_wanted {S : MS} {i0 : Int32} {j1 : Int64} {i3 : Int32} {i4 : Int32} {w : Int64} (h : m_X6_wanted i0 j1 i3 i4 = some w) : CT NX yX6_wanted cX6_wanted 5 (some .long) 0 0 [.int i0, .long j1, .int i3, .int i4] S (some (.long w)) S := by
  refine CT.of (lv := [(0, .int i0), (1, .long j1), (3, .int i3), (4, .int i4)]) (by decide) rfl (Nat.le_of_ble_eq_true rfl) ?_
  refine J_iload 3 dX6_wanted_0 rfl ?_
  refine J_if_eq 42 dX6_wanted_2 (by decide) h (fun c1 h2 => ?_) (fun c1 h2 => ?_)
  · clear h
    refine J_ldc2 (2 : Int64) dX6_wanted_42 gK_X6_135 ?_
    refine J_iload_n 0 dX6_wanted_45 rfl rfl ?_
    refine J_i2l dX6_wanted_46 ?_
    refine J_lmul dX6_wanted_47 ?_
    refine J_lload_n 1 dX6_wanted_48 rfl rfl ?_
    refine J_lmul dX6_wanted_49 ?_
    refine J_iload_n 2 dX6_wanted_50 rfl rfl ?_
    refine J_i2l dX6_wanted_51 ?_
    refine J_ladd dX6_wanted_52 ?_
    refine J_iload_n 2 dX6_wanted_53 rfl rfl ?_
    refine J_i2l dX6_wanted_54 ?_
    refine J_lmul dX6_wanted_55 ?_
    have hw := Option.some.inj h2; subst hw
    exact J_lret rfl dX6_wanted_56
  · clear h
    refine J_ldc2 (3 : Int64) dX6_wanted_5 gK_X6_127 ?_
    refine J_iload_n 0 dX6_wanted_8 rfl rfl ?_
    refine J_i2l dX6_wanted_9 ?_
    refine J_lmul dX6_wanted_10 ?_
    refine J_iload_n 0 dX6_wanted_11 rfl rfl ?_
    refine J_i2l dX6_wanted_12 ?_
    refine J_lmul dX6_wanted_13 ?_
    refine J_lload_n 1 dX6_wanted_14 rfl rfl ?_
    refine J_lmul dX6_wanted_15 ?_
    refine J_lload_n 1 dX6_wanted_16 rfl rfl ?_
    refine J_lmul dX6_wanted_17 ?_
    refine J_ldc2 (3 : Int64) dX6_wanted_18 gK_X6_127 ?_
    refine J_iload_n 0 dX6_wanted_21 rfl rfl ?_
    refine J_i2l dX6_wanted_22 ?_
    refine J_lmul dX6_wanted_23 ?_
    refine J_lload_n 1 dX6_wanted_24 rfl rfl ?_
    refine J_lmul dX6_wanted_25 ?_
    refine J_iload_n 2 dX6_wanted_26 rfl rfl ?_
    refine J_i2l dX6_wanted_27 ?_
    refine J_lmul dX6_wanted_28 ?_
    refine J_ladd dX6_wanted_29 ?_
    refine J_iload_n 2 dX6_wanted_30 rfl rfl ?_
    refine J_i2l dX6_wanted_31 ?_
    refine J_iload_n 2 dX6_wanted_32 rfl rfl ?_
    refine J_i2l dX6_wanted_33 ?_
    refine J_lmul dX6_wanted_34 ?_
    refine J_ladd dX6_wanted_35 ?_
    refine J_iload_n 2 dX6_wanted_36 rfl rfl ?_
    refine J_i2l dX6_wanted_37 ?_
    refine J_lmul dX6_wanted_38 ?_
    refine J_goto 56 dX6_wanted_39 (by decide) ?_
    have hw := Option.some.inj h2; subst hw
    exact J_lret rfl dX6_wanted_56
def m_X6_rooted_J152 (k48 : MS → Int32 → Int32 → Int32 → Int32 → Int32 → Int32 → Int64 → Int32 → Option (Int32 × MS)) (S : MS) (i1 : Int32) (i2 : Int32) (i5 : Int32) (i6 : Int32) (i7 : Int32) (j9 : Int64) (i11 : Int32) (i16 : Int32) (is0 : Int32) : Option (Int32 × MS) :=
  jLet ((((Int32.toInt64 i6) * j9) + (Int32.toInt64 i16))) fun j1_ =>
  k48 S i1 i2 i5 i6 i7 is0 j1_ (i11 + (-1 : Int32))
set_option maxRecDepth 100000 in
set_option maxHeartbeats 4000000 in
theorem t_X6_rooted_J152 {k48 : MS → Int32 → Int32 → Int32 → Int32 → Int32 → Int32 → Int64 → Int32 → Option (Int32 × MS)} {S : MS} {a0 : Nat} {i1 : Int32} {i2 : Int32} {i5 : Int32} {i6 : Int32} {i7 : Int32} {j9 : Int64} {i11 : Int32} {i16 : Int32} {is0 : Int32} {w : (Int32 × MS)} (hk48 : ∀ (S : MS) (a0 : Nat) (i1 : Int32) (i2 : Int32) (i5 : Int32) (i6 : Int32) (i7 : Int32) (i8 : Int32) (j9 : Int64) (i11 : Int32), (a0 = S.1) → k48 S i1 i2 i5 i6 i7 i8 j9 i11 = some w → J NX yX6_rooted cX6_rooted 17 (some .boolean) 5 131 48 [(0, .ref a0), (1, .int i1), (2, .int i2), (5, .int i5), (6, .int i6), (7, .int i7), (8, .int i8), (9, .long j9), (11, .int i11)] [] S (some (.int w.1)) w.2) (ha : a0 = S.1) (h : m_X6_rooted_J152 k48 S i1 i2 i5 i6 i7 j9 i11 i16 is0 = some w) : J NX yX6_rooted cX6_rooted 17 (some .boolean) 5 131 152 [(0, .ref a0), (1, .int i1), (2, .int i2), (5, .int i5), (6, .int i6), (7, .int i7), (9, .long j9), (11, .int i11), (16, .int i16)] [.int is0] S (some (.int w.1)) w.2 := by
  refine J_istore dX6_rooted_152 (by decide) [1, 2, 3, 4, 5, 6, 0, 7, 8, 9] (lv' := [(0, .ref a0), (1, .int i1), (2, .int i2), (5, .int i5), (6, .int i6), (7, .int i7), (8, .int is0), (9, .long j9), (11, .int i11), (16, .int i16)]) rfl ?_
  refine J_iload 4 dX6_rooted_154 rfl ?_
  refine J_i2l dX6_rooted_156 ?_
  refine J_lload 7 dX6_rooted_157 rfl ?_
  refine J_lmul dX6_rooted_159 ?_
  refine J_iload 9 dX6_rooted_160 rfl ?_
  refine J_i2l dX6_rooted_162 ?_
  refine J_ladd dX6_rooted_163 ?_
  obtain ⟨j1_, ej1_, h2⟩ := jLet_some h; clear h
  refine J_topL ej1_ ?_
  refine J_lstore dX6_rooted_164 (by decide) [1, 2, 3, 4, 5, 6, 7, 0, 8] (lv' := [(0, .ref a0), (1, .int i1), (2, .int i2), (5, .int i5), (6, .int i6), (7, .int i7), (8, .int is0), (9, .long j1_), (11, .int i11)]) rfl ?_
  refine J_iinc 8 (-1 : Int32) dX6_rooted_166 rfl (by decide) (by decide) [1, 2, 3, 4, 5, 6, 7, 8, 0] (lv' := [(0, .ref a0), (1, .int i1), (2, .int i2), (5, .int i5), (6, .int i6), (7, .int i7), (8, .int is0), (9, .long j1_), (11, .int (i11 + (-1 : Int32)))]) rfl ?_
  refine J_goto 48 dX6_rooted_169 (by decide) ?_
  exact hk48 S a0 i1 i2 i5 i6 i7 is0 j1_ (i11 + (-1 : Int32)) ha h2
def m_X6_rooted_L83 (k48 : MS → Int32 → Int32 → Int32 → Int32 → Int32 → Int32 → Int64 → Int32 → Option (Int32 × MS)) : Nat → MS → Int32 → Int32 → Int32 → Int32 → Int32 → Int64 → Int32 → Int64 → Int64 → Int32 → Option (Int32 × MS)
  | 0, _, _, _, _, _, _, _, _, _, _, _ => none
  | n + 1, S, i1, i2, i5, i6, i7, j9, i11, j12, j14, i16 =>
    bnd (m_X6_wanted i6 j9 i16 i5) fun j1_ =>
    if (j1_ * j14) ≤ j12 then
      (bnd2 (m_X6_change S i2 i11 i16 (1 : Int32)) fun i5_ S6 =>
      if i5_ = 0 then
        (m_X6_rooted_J152 k48 S6 i1 i2 i5 i6 i7 j9 i11 i16 (0 : Int32))
      else
        (bnd (m_X6_wanted i6 j9 i16 i5) fun j10_ =>
        bnd2 (m_X6_changeAll S6 i1 (i7 * i11) j10_ (-1 : Int32)) fun i12_ S13 =>
        if i12_ = 0 then
          (m_X6_rooted_J152 k48 S13 i1 i2 i5 i6 i7 j9 i11 i16 (0 : Int32))
        else
          (m_X6_rooted_J152 k48 S13 i1 i2 i5 i6 i7 j9 i11 i16 (1 : Int32))))
    else
      (m_X6_rooted_L83 k48 n S i1 i2 i5 i6 i7 j9 i11 j12 j14 (i16 + (-1 : Int32)))
set_option maxRecDepth 100000 in
set_option maxHeartbeats 4000000 in
theorem t_X6_rooted_L83 {k48 : MS → Int32 → Int32 → Int32 → Int32 → Int32 → Int32 → Int64 → Int32 → Option (Int32 × MS)} {w : (Int32 × MS)} (hk48 : ∀ (S : MS) (a0 : Nat) (i1 : Int32) (i2 : Int32) (i5 : Int32) (i6 : Int32) (i7 : Int32) (i8 : Int32) (j9 : Int64) (i11 : Int32), (a0 = S.1) → k48 S i1 i2 i5 i6 i7 i8 j9 i11 = some w → J NX yX6_rooted cX6_rooted 17 (some .boolean) 5 131 48 [(0, .ref a0), (1, .int i1), (2, .int i2), (5, .int i5), (6, .int i6), (7, .int i7), (8, .int i8), (9, .long j9), (11, .int i11)] [] S (some (.int w.1)) w.2) (n : Nat) : ∀ (S : MS) (a0 : Nat) (i1 : Int32) (i2 : Int32) (i5 : Int32) (i6 : Int32) (i7 : Int32) (j9 : Int64) (i11 : Int32) (j12 : Int64) (j14 : Int64) (i16 : Int32), (a0 = S.1) → m_X6_rooted_L83 k48 n S i1 i2 i5 i6 i7 j9 i11 j12 j14 i16 = some w → J NX yX6_rooted cX6_rooted 17 (some .boolean) 5 131 83 [(0, .ref a0), (1, .int i1), (2, .int i2), (5, .int i5), (6, .int i6), (7, .int i7), (9, .long j9), (11, .int i11), (12, .long j12), (14, .long j14), (16, .int i16)] [] S (some (.int w.1)) w.2 := by
  induction n with
  | zero => intro S a0 i1 i2 i5 i6 i7 j9 i11 j12 j14 i16 ha h; cases h
  | succ n lh =>
    intro S a0 i1 i2 i5 i6 i7 j9 i11 j12 j14 i16 ha h
    refine J_iload 4 dX6_rooted_83 rfl ?_
    refine J_lload 6 dX6_rooted_85 rfl ?_
    refine J_iload 10 dX6_rooted_87 rfl ?_
    refine J_iload 3 dX6_rooted_89 rfl ?_
    obtain ⟨j1_, ej1_, h2⟩ := bnd_some h; clear h
    refine J_callS (As := [.int i6, .long j9, .int i16, .int i5]) (rest := []) (st' := [.long j1_]) (t_X6_wanted ej1_) gC_X6_wanted gM_X6_316 rfl (by decide) (by decide) rfl rfl (Nat.le_of_ble_eq_true rfl) dX6_rooted_91 ?_
    refine J_lload 9 dX6_rooted_94 rfl ?_
    refine J_lmul dX6_rooted_96 ?_
    refine J_lload 8 dX6_rooted_97 rfl ?_
    refine J_lcmp_le 109 dX6_rooted_99 dX6_rooted_100 (by decide) h2 (fun c3 h4 => ?_) (fun c3 h4 => ?_)
    · clear h2
      refine J_aload_n 0 dX6_rooted_109 rfl rfl ?_
      refine J_iload_n 2 dX6_rooted_110 rfl rfl ?_
      refine J_iload 7 dX6_rooted_111 rfl ?_
      refine J_iload 10 dX6_rooted_113 rfl ?_
      refine J_iconst (1 : Int32) dX6_rooted_115 (by decide) ?_
      obtain ⟨i5_, S6, ei5_, h7⟩ := bnd2_some h4; clear h4
      have cS6 := (t_X6_change ha ei5_)
      have lS6 : jle NX S S6 := cS6.1
      have hS6_a0 : a0 = S6.1 := ha.trans (nle_eq lS6).symm
      refine J_callV (As := [.int i2, .int i11, .int i16, .int (1 : Int32)]) (rest := []) (st' := [.int i5_]) cS6 gC_X6_change gM_X6_262 (by rw [ha]; exact nRecv) rfl (by decide) (by decide) rfl rfl (Nat.le_of_ble_eq_true rfl) dX6_rooted_116 ?_
      refine J_if_eq 151 dX6_rooted_119 (by decide) h7 (fun c8 h9 => ?_) (fun c8 h9 => ?_)
      · clear h7
        refine J_iconst (0 : Int32) dX6_rooted_151 (by decide) ?_
        refine J_lv [0, 1, 2, 3, 4, 5, 6, 7, 10] rfl ?_
        exact t_X6_rooted_J152 hk48 hS6_a0 h9
      · clear h7
        refine J_aload_n 0 dX6_rooted_122 rfl rfl ?_
        refine J_iload_n 1 dX6_rooted_123 rfl rfl ?_
        refine J_iload 5 dX6_rooted_124 rfl ?_
        refine J_iload 7 dX6_rooted_126 rfl ?_
        refine J_imul dX6_rooted_128 ?_
        refine J_iload 4 dX6_rooted_129 rfl ?_
        refine J_lload 6 dX6_rooted_131 rfl ?_
        refine J_iload 10 dX6_rooted_133 rfl ?_
        refine J_iload 3 dX6_rooted_135 rfl ?_
        obtain ⟨j10_, ej10_, h11⟩ := bnd_some h9; clear h9
        refine J_callS (As := [.int i6, .long j9, .int i16, .int i5]) (rest := [.int (i7 * i11), .int i1, .ref a0]) (st' := [.long j10_, .int (i7 * i11), .int i1, .ref a0]) (t_X6_wanted ej10_) gC_X6_wanted gM_X6_316 rfl (by decide) (by decide) rfl rfl (Nat.le_of_ble_eq_true rfl) dX6_rooted_137 ?_
        refine J_iconst (-1 : Int32) dX6_rooted_140 (by decide) ?_
        obtain ⟨i12_, S13, ei12_, h14⟩ := bnd2_some h11; clear h11
        have cS13 := (t_X6_changeAll hS6_a0 ei12_)
        have lS13 : jle NX S6 S13 := cS13.1
        have hS13_a0 : a0 = S13.1 := hS6_a0.trans (nle_eq lS13).symm
        refine J_callV (As := [.int i1, .int (i7 * i11), .long j10_, .int (-1 : Int32)]) (rest := []) (st' := [.int i12_]) cS13 gC_X6_changeAll gM_X6_288 (by rw [hS6_a0]; exact nRecv) rfl (by decide) (by decide) rfl rfl (Nat.le_of_ble_eq_true rfl) dX6_rooted_141 ?_
        refine J_if_eq 151 dX6_rooted_144 (by decide) h14 (fun c15 h16 => ?_) (fun c15 h16 => ?_)
        · clear h14
          refine J_iconst (0 : Int32) dX6_rooted_151 (by decide) ?_
          refine J_lv [0, 1, 2, 3, 4, 5, 6, 7, 10] rfl ?_
          exact t_X6_rooted_J152 hk48 hS13_a0 h16
        · clear h14
          refine J_iconst (1 : Int32) dX6_rooted_147 (by decide) ?_
          refine J_goto 152 dX6_rooted_148 (by decide) ?_
          refine J_lv [0, 1, 2, 3, 4, 5, 6, 7, 10] rfl ?_
          exact t_X6_rooted_J152 hk48 hS13_a0 h16
    · clear h2
      refine J_iinc 10 (-1 : Int32) dX6_rooted_103 rfl (by decide) (by decide) [1, 2, 3, 4, 5, 6, 7, 8, 9, 10, 0] (lv' := [(0, .ref a0), (1, .int i1), (2, .int i2), (5, .int i5), (6, .int i6), (7, .int i7), (9, .long j9), (11, .int i11), (12, .long j12), (14, .long j14), (16, .int (i16 + (-1 : Int32)))]) rfl ?_
      refine J_goto 83 dX6_rooted_106 (by decide) ?_
      exact lh S a0 i1 i2 i5 i6 i7 j9 i11 j12 j14 (i16 + (-1 : Int32)) ha h4
def m_X6_rooted_L48 : Nat → MS → Int32 → Int32 → Int32 → Int32 → Int32 → Int32 → Int64 → Int32 → Option (Int32 × MS)
  | 0, _, _, _, _, _, _, _, _, _ => none
  | n + 1, S, i1, i2, i5, i6, i7, i8, j9, i11 =>
    if i11 < 0 then
      (gd (zb i8) <|
      some (i8, S))
    else
      (if i8 = 0 then
        (gd (zb i8) <|
        some (i8, S))
      else
        (bnd2 (m_X6_shown S i1) fun j9_ S10 =>
        bnd (m_X6_power i6 (i7 * i11)) fun j12_ =>
        jLet ((i6 - (1 : Int32))) fun i14_ =>
        m_X6_rooted_L83 (m_X6_rooted_L48 n) bigN S10 i1 i2 i5 i6 i7 j9 i11 j9_ j12_ i14_))
set_option maxRecDepth 100000 in
set_option maxHeartbeats 4000000 in
theorem t_X6_rooted_L48 {w : (Int32 × MS)} (n : Nat) : ∀ (S : MS) (a0 : Nat) (i1 : Int32) (i2 : Int32) (i5 : Int32) (i6 : Int32) (i7 : Int32) (i8 : Int32) (j9 : Int64) (i11 : Int32), (a0 = S.1) → m_X6_rooted_L48 n S i1 i2 i5 i6 i7 i8 j9 i11 = some w → J NX yX6_rooted cX6_rooted 17 (some .boolean) 5 131 48 [(0, .ref a0), (1, .int i1), (2, .int i2), (5, .int i5), (6, .int i6), (7, .int i7), (8, .int i8), (9, .long j9), (11, .int i11)] [] S (some (.int w.1)) w.2 := by
  induction n with
  | zero => intro S a0 i1 i2 i5 i6 i7 i8 j9 i11 ha h; cases h
  | succ n lh =>
    intro S a0 i1 i2 i5 i6 i7 i8 j9 i11 ha h
    refine J_iload 8 dX6_rooted_48 rfl ?_
    refine J_if_lt 172 dX6_rooted_50 (by decide) h (fun c1 h2 => ?_) (fun c1 h2 => ?_)
    · clear h
      refine J_iload 6 dX6_rooted_172 rfl ?_
      obtain ⟨g3, h4⟩ := gd_some h2; clear h2
      have hw := Option.some.inj h4; subst hw
      exact J_zret rfl (zb_of g3) dX6_rooted_174
    · clear h
      refine J_iload 6 dX6_rooted_53 rfl ?_
      refine J_if_eq 172 dX6_rooted_55 (by decide) h2 (fun c5 h6 => ?_) (fun c5 h6 => ?_)
      · clear h2
        refine J_iload 6 dX6_rooted_172 rfl ?_
        obtain ⟨g7, h8⟩ := gd_some h6; clear h6
        have hw := Option.some.inj h8; subst hw
        exact J_zret rfl (zb_of g7) dX6_rooted_174
      · clear h2
        refine J_aload_n 0 dX6_rooted_58 rfl rfl ?_
        refine J_iload_n 1 dX6_rooted_59 rfl rfl ?_
        obtain ⟨j9_, S10, ej9_, h11⟩ := bnd2_some h6; clear h6
        have cS10 := (t_X6_shown ha ej9_)
        have lS10 : jle NX S S10 := cS10.1
        have hS10_a0 : a0 = S10.1 := ha.trans (nle_eq lS10).symm
        refine J_callV (As := [.int i1]) (rest := []) (st' := [.long j9_]) cS10 gC_X6_shown gM_X6_148 (by rw [ha]; exact nRecv) rfl (by decide) (by decide) rfl rfl (Nat.le_of_ble_eq_true rfl) dX6_rooted_60 ?_
        refine J_lstore dX6_rooted_63 (by decide) [1, 2, 3, 4, 5, 6, 8, 9, 0] (lv' := [(0, .ref a0), (1, .int i1), (2, .int i2), (5, .int i5), (6, .int i6), (7, .int i7), (9, .long j9), (11, .int i11), (12, .long j9_)]) rfl ?_
        refine J_iload 4 dX6_rooted_65 rfl ?_
        refine J_iload 5 dX6_rooted_67 rfl ?_
        refine J_iload 7 dX6_rooted_69 rfl ?_
        refine J_imul dX6_rooted_71 ?_
        obtain ⟨j12_, ej12_, h13⟩ := bnd_some h11; clear h11
        refine J_callS (As := [.int i6, .int (i7 * i11)]) (rest := []) (st' := [.long j12_]) (t_X6_power ej12_) gC_X6_power gM_X6_304 rfl (by decide) (by decide) rfl rfl (Nat.le_of_ble_eq_true rfl) dX6_rooted_72 ?_
        refine J_lstore dX6_rooted_75 (by decide) [1, 2, 3, 4, 5, 6, 7, 8, 9, 0] (lv' := [(0, .ref a0), (1, .int i1), (2, .int i2), (5, .int i5), (6, .int i6), (7, .int i7), (9, .long j9), (11, .int i11), (12, .long j9_), (14, .long j12_)]) rfl ?_
        refine J_iload 4 dX6_rooted_77 rfl ?_
        refine J_iconst (1 : Int32) dX6_rooted_79 (by decide) ?_
        refine J_isub dX6_rooted_80 ?_
        obtain ⟨i14_, ei14_, h15⟩ := jLet_some h13; clear h13
        refine J_topI ei14_ ?_
        refine J_istore dX6_rooted_81 (by decide) [1, 2, 3, 4, 5, 6, 7, 8, 9, 10, 0] (lv' := [(0, .ref a0), (1, .int i1), (2, .int i2), (5, .int i5), (6, .int i6), (7, .int i7), (9, .long j9), (11, .int i11), (12, .long j9_), (14, .long j12_), (16, .int i14_)]) rfl ?_
        exact t_X6_rooted_L83 lh bigN S10 a0 i1 i2 i5 i6 i7 j9 i11 j9_ j12_ i14_ hS10_a0 h15
def m_X6_rooted_J18 (S : MS) (i1 : Int32) (i2 : Int32) (j3 : Int64) (i5 : Int32) (i6 : Int32) (is0 : Int32) : Option (Int32 × MS) :=
  bnd2 (m_X6_clear S i2) fun i1_ S2 =>
  bnd (m_X6_digits j3 i6) fun i4_ =>
  gd (nz is0) <|
  jLet (((((i4_ + is0) - (1 : Int32)) / is0) - (1 : Int32))) fun i8_ =>
  m_X6_rooted_L48 bigN S2 i1 i2 i5 i6 is0 i1_ (0 : Int64) i8_
set_option maxRecDepth 100000 in
set_option maxHeartbeats 4000000 in
theorem t_X6_rooted_J18 {S : MS} {a0 : Nat} {i1 : Int32} {i2 : Int32} {j3 : Int64} {i5 : Int32} {i6 : Int32} {is0 : Int32} {w : (Int32 × MS)} (ha : a0 = S.1) (h : m_X6_rooted_J18 S i1 i2 j3 i5 i6 is0 = some w) : J NX yX6_rooted cX6_rooted 17 (some .boolean) 5 131 18 [(0, .ref a0), (1, .int i1), (2, .int i2), (3, .long j3), (5, .int i5), (6, .int i6)] [.int is0] S (some (.int w.1)) w.2 := by
  refine J_istore dX6_rooted_18 (by decide) [1, 2, 3, 4, 5, 6, 0] (lv' := [(0, .ref a0), (1, .int i1), (2, .int i2), (3, .long j3), (5, .int i5), (6, .int i6), (7, .int is0)]) rfl ?_
  refine J_aload_n 0 dX6_rooted_20 rfl rfl ?_
  refine J_iload_n 2 dX6_rooted_21 rfl rfl ?_
  obtain ⟨i1_, S2, ei1_, h3⟩ := bnd2_some h; clear h
  have cS2 := (t_X6_clear ha ei1_)
  have lS2 : jle NX S S2 := cS2.1
  have hS2_a0 : a0 = S2.1 := ha.trans (nle_eq lS2).symm
  refine J_callV (As := [.int i2]) (rest := []) (st' := [.int i1_]) cS2 gC_X6_clear gM_X6_279 (by rw [ha]; exact nRecv) rfl (by decide) (by decide) rfl rfl (Nat.le_of_ble_eq_true rfl) dX6_rooted_22 ?_
  refine J_istore dX6_rooted_25 (by decide) [1, 2, 3, 4, 5, 6, 7, 0] (lv' := [(0, .ref a0), (1, .int i1), (2, .int i2), (3, .long j3), (5, .int i5), (6, .int i6), (7, .int is0), (8, .int i1_)]) rfl ?_
  refine J_lconst (0 : Int64) dX6_rooted_27 (by decide) ?_
  refine J_lstore dX6_rooted_28 (by decide) [1, 2, 3, 4, 5, 6, 7, 8, 0] (lv' := [(0, .ref a0), (1, .int i1), (2, .int i2), (3, .long j3), (5, .int i5), (6, .int i6), (7, .int is0), (8, .int i1_), (9, .long (0 : Int64))]) rfl ?_
  refine J_lload_n 3 dX6_rooted_30 rfl rfl ?_
  refine J_iload 5 dX6_rooted_31 rfl ?_
  obtain ⟨i4_, ei4_, h5⟩ := bnd_some h3; clear h3
  refine J_callS (As := [.long j3, .int i6]) (rest := []) (st' := [.int i4_]) (t_X6_digits ei4_) gC_X6_digits gM_X6_155 rfl (by decide) (by decide) rfl rfl (Nat.le_of_ble_eq_true rfl) dX6_rooted_33 ?_
  refine J_iload 6 dX6_rooted_36 rfl ?_
  refine J_iadd dX6_rooted_38 ?_
  refine J_iconst (1 : Int32) dX6_rooted_39 (by decide) ?_
  refine J_isub dX6_rooted_40 ?_
  refine J_iload 6 dX6_rooted_41 rfl ?_
  obtain ⟨g6, h7⟩ := gd_some h5; clear h5
  refine J_idiv dX6_rooted_43 (nz_of g6) ?_
  refine J_iconst (1 : Int32) dX6_rooted_44 (by decide) ?_
  refine J_isub dX6_rooted_45 ?_
  obtain ⟨i8_, ei8_, h9⟩ := jLet_some h7; clear h7
  refine J_topI ei8_ ?_
  refine J_istore dX6_rooted_46 (by decide) [1, 2, 3, 5, 6, 7, 8, 9, 0] (lv' := [(0, .ref a0), (1, .int i1), (2, .int i2), (5, .int i5), (6, .int i6), (7, .int is0), (8, .int i1_), (9, .long (0 : Int64)), (11, .int i8_)]) rfl ?_
  exact t_X6_rooted_L48 bigN S2 a0 i1 i2 i5 i6 is0 i1_ (0 : Int64) i8_ hS2_a0 h9
def m_X6_rooted (S : MS) (i1 : Int32) (i2 : Int32) (j3 : Int64) (i5 : Int32) : Option (Int32 × MS) :=
  gd (inB i1 30) <|
  jLet ((nA S 3 (Int32.toNatClampNeg i1))) fun i3_ =>
  if i5 = 0 then
    (m_X6_rooted_J18 S i1 i2 j3 i5 i3_ (2 : Int32))
  else
    (m_X6_rooted_J18 S i1 i2 j3 i5 i3_ (3 : Int32))
set_option maxRecDepth 100000 in
set_option maxHeartbeats 4000000 in
theorem t_X6_rooted {S : MS} {a0 : Nat} {i1 : Int32} {i2 : Int32} {j3 : Int64} {i5 : Int32} {w : (Int32 × MS)} (ha : a0 = S.1) (h : m_X6_rooted S i1 i2 j3 i5 = some w) : CT NX yX6_rooted cX6_rooted 17 (some .boolean) 5 131 [.ref a0, .int i1, .int i2, .long j3, .int i5] S (some (.int w.1)) w.2 := by
  refine CT.of (lv := [(0, .ref a0), (1, .int i1), (2, .int i2), (3, .long j3), (5, .int i5)]) (by decide) rfl (Nat.le_of_ble_eq_true rfl) ?_
  refine J_aload_n 0 dX6_rooted_0 rfl rfl ?_
  refine J_ngetA (k := 3) (o := 2) dX6_rooted_1 gF_X6_16 ha rfl ?_
  refine J_iload_n 1 dX6_rooted_4 rfl rfl ?_
  obtain ⟨g1, h2⟩ := gd_some h; clear h
  refine J_niald (k := 3) (o := 2) dX6_rooted_5 ha rfl rfl (by decide) g1 ?_
  obtain ⟨i3_, ei3_, h4⟩ := jLet_some h2; clear h2
  refine J_topI ei3_ ?_
  refine J_istore dX6_rooted_6 (by decide) [1, 2, 3, 4, 5, 0] (lv' := [(0, .ref a0), (1, .int i1), (2, .int i2), (3, .long j3), (5, .int i5), (6, .int i3_)]) rfl ?_
  refine J_iload 4 dX6_rooted_8 rfl ?_
  refine J_if_eq 17 dX6_rooted_10 (by decide) h4 (fun c5 h6 => ?_) (fun c5 h6 => ?_)
  · clear h4
    refine J_iconst (2 : Int32) dX6_rooted_17 (by decide) ?_
    exact t_X6_rooted_J18 ha h6
  · clear h4
    refine J_iconst (3 : Int32) dX6_rooted_13 (by decide) ?_
    refine J_goto 18 dX6_rooted_14 (by decide) ?_
    exact t_X6_rooted_J18 ha h6
def m_X6_rootOf (S : MS) (i1 : Int32) (i2 : Int32) (i3 : Int32) : Option (Int32 × MS) :=
  bnd (m_X6_isFrame S i1) fun i1_ =>
  if i1_ = 0 then
    (some ((-1 : Int32), S))
  else
    (bnd (m_X6_isFrame S i2) fun i5_ =>
    if i5_ = 0 then
      (some ((-1 : Int32), S))
    else
      (bnd (m_X6_bars S i1 i2 (1 : Int32)) fun i9_ =>
      if 0 ≤ i9_ then
        (bnd2 (m_X6_shown S i1) fun j13_ S14 =>
        if (nF S14 16) ≤ 0 then
          (bnd (m_X6_start S14 i1) fun S18 =>
          bnd2 (m_X6_rooted S18 i1 i2 j13_ i3) fun i20_ S21 =>
          bnd2 (m_X6_ended S21 i20_) fun i23_ S24 =>
          some (i23_, S24))
        else
          (bnd2 (m_X6_meets S14 (nF S14 16)) fun i26_ S27 =>
          some (i26_, S27)))
      else
        (some ((-3 : Int32), S))))
set_option maxRecDepth 100000 in
set_option maxHeartbeats 4000000 in
theorem t_X6_rootOf {S : MS} {a0 : Nat} {i1 : Int32} {i2 : Int32} {i3 : Int32} {w : (Int32 × MS)} (ha : a0 = S.1) (h : m_X6_rootOf S i1 i2 i3 = some w) : CT NX yX6_rootOf cX6_rootOf 6 (some .int) 6 167 [.ref a0, .int i1, .int i2, .int i3] S (some (.int w.1)) w.2 := by
  refine CT.of (lv := [(0, .ref a0), (1, .int i1), (2, .int i2), (3, .int i3)]) (by decide) rfl (Nat.le_of_ble_eq_true rfl) ?_
  refine J_aload_n 0 dX6_rootOf_0 rfl rfl ?_
  refine J_iload_n 1 dX6_rootOf_1 rfl rfl ?_
  obtain ⟨i1_, ei1_, h2⟩ := bnd_some h; clear h
  refine J_callV (As := [.int i1]) (rest := []) (st' := [.int i1_]) (t_X6_isFrame ha ei1_) gC_X6_isFrame gM_X6_129 (by rw [ha]; exact nRecv) rfl (by decide) (by decide) rfl rfl (Nat.le_of_ble_eq_true rfl) dX6_rootOf_2 ?_
  refine J_if_eq 16 dX6_rootOf_5 (by decide) h2 (fun c3 h4 => ?_) (fun c3 h4 => ?_)
  · clear h2
    refine J_iconst (-1 : Int32) dX6_rootOf_16 (by decide) ?_
    have hw := Option.some.inj h4; subst hw
    exact J_iret rfl dX6_rootOf_17
  · clear h2
    refine J_aload_n 0 dX6_rootOf_8 rfl rfl ?_
    refine J_iload_n 2 dX6_rootOf_9 rfl rfl ?_
    obtain ⟨i5_, ei5_, h6⟩ := bnd_some h4; clear h4
    refine J_callV (As := [.int i2]) (rest := []) (st' := [.int i5_]) (t_X6_isFrame ha ei5_) gC_X6_isFrame gM_X6_129 (by rw [ha]; exact nRecv) rfl (by decide) (by decide) rfl rfl (Nat.le_of_ble_eq_true rfl) dX6_rootOf_10 ?_
    refine J_if_ne 18 dX6_rootOf_13 (by decide) h6 (fun c7 h8 => ?_) (fun c7 h8 => ?_)
    · clear h6
      refine J_iconst (-1 : Int32) dX6_rootOf_16 (by decide) ?_
      have hw := Option.some.inj h8; subst hw
      exact J_iret rfl dX6_rootOf_17
    · clear h6
      refine J_aload_n 0 dX6_rootOf_18 rfl rfl ?_
      refine J_iload_n 1 dX6_rootOf_19 rfl rfl ?_
      refine J_iload_n 2 dX6_rootOf_20 rfl rfl ?_
      refine J_iconst (1 : Int32) dX6_rootOf_21 (by decide) ?_
      obtain ⟨i9_, ei9_, h10⟩ := bnd_some h8; clear h8
      refine J_callV (As := [.int i1, .int i2, .int (1 : Int32)]) (rest := []) (st' := [.int i9_]) (t_X6_bars ha ei9_) gC_X6_bars gM_X6_308 (by rw [ha]; exact nRecv) rfl (by decide) (by decide) rfl rfl (Nat.le_of_ble_eq_true rfl) dX6_rootOf_22 ?_
      refine J_if_ge 31 dX6_rootOf_25 (by decide) h10 (fun c11 h12 => ?_) (fun c11 h12 => ?_)
      · clear h10
        refine J_aload_n 0 dX6_rootOf_31 rfl rfl ?_
        refine J_iload_n 1 dX6_rootOf_32 rfl rfl ?_
        obtain ⟨j13_, S14, ej13_, h15⟩ := bnd2_some h12; clear h12
        have cS14 := (t_X6_shown ha ej13_)
        have lS14 : jle NX S S14 := cS14.1
        have hS14_a0 : a0 = S14.1 := ha.trans (nle_eq lS14).symm
        refine J_callV (As := [.int i1]) (rest := []) (st' := [.long j13_]) cS14 gC_X6_shown gM_X6_148 (by rw [ha]; exact nRecv) rfl (by decide) (by decide) rfl rfl (Nat.le_of_ble_eq_true rfl) dX6_rootOf_33 ?_
        refine J_lstore dX6_rootOf_36 (by decide) [1, 2, 3, 4, 0] (lv' := [(0, .ref a0), (1, .int i1), (2, .int i2), (3, .int i3), (4, .long j13_)]) rfl ?_
        refine J_aload_n 0 dX6_rootOf_38 rfl rfl ?_
        refine J_nget (k := 16) dX6_rootOf_39 gF_X6_124 hS14_a0 rfl ?_
        refine J_if_le 54 dX6_rootOf_42 (by decide) h15 (fun c16 h17 => ?_) (fun c16 h17 => ?_)
        · clear h15
          refine J_aload_n 0 dX6_rootOf_54 rfl rfl ?_
          refine J_iload_n 1 dX6_rootOf_55 rfl rfl ?_
          obtain ⟨S18, eS18, h19⟩ := bnd_some h17; clear h17
          have cS18 := (t_X6_start hS14_a0 eS18)
          have lS18 : jle NX S14 S18 := cS18.1
          have hS18_a0 : a0 = S18.1 := hS14_a0.trans (nle_eq lS18).symm
          refine J_callV (As := [.int i1]) (rest := []) (st' := []) cS18 gC_X6_start gM_X6_285 (by rw [hS14_a0]; exact nRecv) rfl (by decide) (by decide) rfl rfl (Nat.le_of_ble_eq_true rfl) dX6_rootOf_56 ?_
          refine J_aload_n 0 dX6_rootOf_59 rfl rfl ?_
          refine J_aload_n 0 dX6_rootOf_60 rfl rfl ?_
          refine J_iload_n 1 dX6_rootOf_61 rfl rfl ?_
          refine J_iload_n 2 dX6_rootOf_62 rfl rfl ?_
          refine J_lload 4 dX6_rootOf_63 rfl ?_
          refine J_iload_n 3 dX6_rootOf_65 rfl rfl ?_
          obtain ⟨i20_, S21, ei20_, h22⟩ := bnd2_some h19; clear h19
          have cS21 := (t_X6_rooted hS18_a0 ei20_)
          have lS21 : jle NX S18 S21 := cS21.1
          have hS21_a0 : a0 = S21.1 := hS18_a0.trans (nle_eq lS21).symm
          refine J_callV (As := [.int i1, .int i2, .long j13_, .int i3]) (rest := [.ref a0]) (st' := [.int i20_, .ref a0]) cS21 gC_X6_rooted gM_X6_320 (by rw [hS18_a0]; exact nRecv) rfl (by decide) (by decide) rfl rfl (Nat.le_of_ble_eq_true rfl) dX6_rootOf_66 ?_
          obtain ⟨i23_, S24, ei23_, h25⟩ := bnd2_some h22; clear h22
          have cS24 := (t_X6_ended hS21_a0 ei23_)
          have lS24 : jle NX S21 S24 := cS24.1
          have hS24_a0 : a0 = S24.1 := hS21_a0.trans (nle_eq lS24).symm
          refine J_callV (As := [.int i20_]) (rest := []) (st' := [.int i23_]) cS24 gC_X6_ended gM_X6_292 (by rw [hS21_a0]; exact nRecv) rfl (by decide) (by decide) rfl rfl (Nat.le_of_ble_eq_true rfl) dX6_rootOf_69 ?_
          have hw := Option.some.inj h25; subst hw
          exact J_iret rfl dX6_rootOf_72
        · clear h15
          refine J_aload_n 0 dX6_rootOf_45 rfl rfl ?_
          refine J_aload_n 0 dX6_rootOf_46 rfl rfl ?_
          refine J_nget (k := 16) dX6_rootOf_47 gF_X6_124 hS14_a0 rfl ?_
          obtain ⟨i26_, S27, ei26_, h28⟩ := bnd2_some h17; clear h17
          have cS27 := (t_X6_meets hS14_a0 ei26_)
          have lS27 : jle NX S14 S27 := cS27.1
          have hS27_a0 : a0 = S27.1 := hS14_a0.trans (nle_eq lS27).symm
          refine J_callV (As := [.int (nF S14 16)]) (rest := []) (st' := [.int i26_]) cS27 gC_X6_meets gM_X6_102 (by rw [hS14_a0]; exact nRecv) rfl (by decide) (by decide) rfl rfl (Nat.le_of_ble_eq_true rfl) dX6_rootOf_50 ?_
          have hw := Option.some.inj h28; subst hw
          exact J_iret rfl dX6_rootOf_53
      · clear h10
        refine J_bipush (-3 : Int32) dX6_rootOf_28 (by decide) ?_
        have hw := Option.some.inj h12; subst hw
        exact J_iret rfl dX6_rootOf_30
def m_X6_root (S : MS) (i1 : Int32) (i2 : Int32) : Option (Int32 × MS) :=
  bnd2 (m_X6_rootOf S i1 i2 (0 : Int32)) fun i1_ S2 =>
  some (i1_, S2)
set_option maxRecDepth 100000 in
set_option maxHeartbeats 4000000 in
theorem t_X6_root {S : MS} {a0 : Nat} {i1 : Int32} {i2 : Int32} {w : (Int32 × MS)} (ha : a0 = S.1) (h : m_X6_root S i1 i2 = some w) : CT NX yX6_root cX6_root 3 (some .int) 7 192 [.ref a0, .int i1, .int i2] S (some (.int w.1)) w.2 := by
  refine CT.of (lv := [(0, .ref a0), (1, .int i1), (2, .int i2)]) (by decide) rfl (Nat.le_of_ble_eq_true rfl) ?_
  refine J_aload_n 0 dX6_root_0 rfl rfl ?_
  refine J_iload_n 1 dX6_root_1 rfl rfl ?_
  refine J_iload_n 2 dX6_root_2 rfl rfl ?_
  refine J_iconst (0 : Int32) dX6_root_3 (by decide) ?_
  obtain ⟨i1_, S2, ei1_, h3⟩ := bnd2_some h; clear h
  have cS2 := (t_X6_rootOf ha ei1_)
  have lS2 : jle NX S S2 := cS2.1
  have hS2_a0 : a0 = S2.1 := ha.trans (nle_eq lS2).symm
  refine J_callV (As := [.int i1, .int i2, .int (0 : Int32)]) (rest := []) (st' := [.int i1_]) cS2 gC_X6_rootOf gM_X6_324 (by rw [ha]; exact nRecv) rfl (by decide) (by decide) rfl rfl (Nat.le_of_ble_eq_true rfl) dX6_root_4 ?_
  have hw := Option.some.inj h3; subst hw
  exact J_iret rfl dX6_root_7
def m_X6_cube (S : MS) (i1 : Int32) (i2 : Int32) : Option (Int32 × MS) :=
  bnd2 (m_X6_rootOf S i1 i2 (1 : Int32)) fun i1_ S2 =>
  some (i1_, S2)
set_option maxRecDepth 100000 in
set_option maxHeartbeats 4000000 in
theorem t_X6_cube {S : MS} {a0 : Nat} {i1 : Int32} {i2 : Int32} {w : (Int32 × MS)} (ha : a0 = S.1) (h : m_X6_cube S i1 i2 = some w) : CT NX yX6_cube cX6_cube 3 (some .int) 7 192 [.ref a0, .int i1, .int i2] S (some (.int w.1)) w.2 := by
  refine CT.of (lv := [(0, .ref a0), (1, .int i1), (2, .int i2)]) (by decide) rfl (Nat.le_of_ble_eq_true rfl) ?_
  refine J_aload_n 0 dX6_cube_0 rfl rfl ?_
  refine J_iload_n 1 dX6_cube_1 rfl rfl ?_
  refine J_iload_n 2 dX6_cube_2 rfl rfl ?_
  refine J_iconst (1 : Int32) dX6_cube_3 (by decide) ?_
  obtain ⟨i1_, S2, ei1_, h3⟩ := bnd2_some h; clear h
  have cS2 := (t_X6_rootOf ha ei1_)
  have lS2 : jle NX S S2 := cS2.1
  have hS2_a0 : a0 = S2.1 := ha.trans (nle_eq lS2).symm
  refine J_callV (As := [.int i1, .int i2, .int (1 : Int32)]) (rest := []) (st' := [.int i1_]) cS2 gC_X6_rootOf gM_X6_324 (by rw [ha]; exact nRecv) rfl (by decide) (by decide) rfl rfl (Nat.le_of_ble_eq_true rfl) dX6_cube_4 ?_
  have hw := Option.some.inj h3; subst hw
  exact J_iret rfl dX6_cube_7
def m_X6_turn_L79 : Nat → MS → Int32 → Int32 → Int64 → Int32 → Int32 → Option (Int32 × MS)
  | 0, _, _, _, _, _, _ => none
  | n + 1, S, i1, i2, j3, i5, i6 =>
    if i6 < 0 then
      (bnd2 (m_X6_ended S i5) fun i3_ S4 =>
      some (i3_, S4))
    else
      (if i5 = 0 then
        (bnd2 (m_X6_ended S i5) fun i8_ S9 =>
        some (i8_, S9))
      else
        (bnd2 (m_X6_shown S i2) fun j11_ S12 =>
        gd (inB i1 30) <|
        bnd2 (m_X6_multiply S12 i2 j11_ (Int32.toInt64 (nA S12 3 (Int32.toNatClampNeg i1)))) fun i16_ S17 =>
        if i16_ = 0 then
          (m_X6_turn_L79 n S17 i1 i2 j3 (0 : Int32) (i6 + (-1 : Int32)))
        else
          (gd (inB i1 30) <|
          bnd (m_X6_digitOf j3 (nA S17 3 (Int32.toNatClampNeg i1)) i6) fun i23_ =>
          bnd2 (m_X6_changeAll S17 i2 (0 : Int32) (Int32.toInt64 i23_) (1 : Int32)) fun i25_ S26 =>
          if i25_ = 0 then
            (m_X6_turn_L79 n S26 i1 i2 j3 (0 : Int32) (i6 + (-1 : Int32)))
          else
            (m_X6_turn_L79 n S26 i1 i2 j3 (1 : Int32) (i6 + (-1 : Int32))))))
set_option maxRecDepth 100000 in
set_option maxHeartbeats 4000000 in
theorem t_X6_turn_L79 {w : (Int32 × MS)} (n : Nat) : ∀ (S : MS) (a0 : Nat) (i1 : Int32) (i2 : Int32) (j3 : Int64) (i5 : Int32) (i6 : Int32), (a0 = S.1) → m_X6_turn_L79 n S i1 i2 j3 i5 i6 = some w → J NX yX6_turn cX6_turn 7 (some .int) 6 158 79 [(0, .ref a0), (1, .int i1), (2, .int i2), (3, .long j3), (5, .int i5), (6, .int i6)] [] S (some (.int w.1)) w.2 := by
  induction n with
  | zero => intro S a0 i1 i2 j3 i5 i6 ha h; cases h
  | succ n lh =>
    intro S a0 i1 i2 j3 i5 i6 ha h
    refine J_iload 5 dX6_turn_79 rfl ?_
    refine J_if_lt 145 dX6_turn_81 (by decide) h (fun c1 h2 => ?_) (fun c1 h2 => ?_)
    · clear h
      refine J_aload_n 0 dX6_turn_145 rfl rfl ?_
      refine J_iload 4 dX6_turn_146 rfl ?_
      obtain ⟨i3_, S4, ei3_, h5⟩ := bnd2_some h2; clear h2
      have cS4 := (t_X6_ended ha ei3_)
      have lS4 : jle NX S S4 := cS4.1
      have hS4_a0 : a0 = S4.1 := ha.trans (nle_eq lS4).symm
      refine J_callV (As := [.int i5]) (rest := []) (st' := [.int i3_]) cS4 gC_X6_ended gM_X6_292 (by rw [ha]; exact nRecv) rfl (by decide) (by decide) rfl rfl (Nat.le_of_ble_eq_true rfl) dX6_turn_148 ?_
      have hw := Option.some.inj h5; subst hw
      exact J_iret rfl dX6_turn_151
    · clear h
      refine J_iload 4 dX6_turn_84 rfl ?_
      refine J_if_eq 145 dX6_turn_86 (by decide) h2 (fun c6 h7 => ?_) (fun c6 h7 => ?_)
      · clear h2
        refine J_aload_n 0 dX6_turn_145 rfl rfl ?_
        refine J_iload 4 dX6_turn_146 rfl ?_
        obtain ⟨i8_, S9, ei8_, h10⟩ := bnd2_some h7; clear h7
        have cS9 := (t_X6_ended ha ei8_)
        have lS9 : jle NX S S9 := cS9.1
        have hS9_a0 : a0 = S9.1 := ha.trans (nle_eq lS9).symm
        refine J_callV (As := [.int i5]) (rest := []) (st' := [.int i8_]) cS9 gC_X6_ended gM_X6_292 (by rw [ha]; exact nRecv) rfl (by decide) (by decide) rfl rfl (Nat.le_of_ble_eq_true rfl) dX6_turn_148 ?_
        have hw := Option.some.inj h10; subst hw
        exact J_iret rfl dX6_turn_151
      · clear h2
        refine J_aload_n 0 dX6_turn_89 rfl rfl ?_
        refine J_iload_n 2 dX6_turn_90 rfl rfl ?_
        refine J_aload_n 0 dX6_turn_91 rfl rfl ?_
        refine J_iload_n 2 dX6_turn_92 rfl rfl ?_
        obtain ⟨j11_, S12, ej11_, h13⟩ := bnd2_some h7; clear h7
        have cS12 := (t_X6_shown ha ej11_)
        have lS12 : jle NX S S12 := cS12.1
        have hS12_a0 : a0 = S12.1 := ha.trans (nle_eq lS12).symm
        refine J_callV (As := [.int i2]) (rest := [.int i2, .ref a0]) (st' := [.long j11_, .int i2, .ref a0]) cS12 gC_X6_shown gM_X6_148 (by rw [ha]; exact nRecv) rfl (by decide) (by decide) rfl rfl (Nat.le_of_ble_eq_true rfl) dX6_turn_93 ?_
        refine J_aload_n 0 dX6_turn_96 rfl rfl ?_
        refine J_ngetA (k := 3) (o := 2) dX6_turn_97 gF_X6_16 hS12_a0 rfl ?_
        refine J_iload_n 1 dX6_turn_100 rfl rfl ?_
        obtain ⟨g14, h15⟩ := gd_some h13; clear h13
        refine J_niald (k := 3) (o := 2) dX6_turn_101 hS12_a0 rfl rfl (by decide) g14 ?_
        refine J_i2l dX6_turn_102 ?_
        obtain ⟨i16_, S17, ei16_, h18⟩ := bnd2_some h15; clear h15
        have cS17 := (t_X6_multiply hS12_a0 ei16_)
        have lS17 : jle NX S12 S17 := cS17.1
        have hS17_a0 : a0 = S17.1 := hS12_a0.trans (nle_eq lS17).symm
        refine J_callV (As := [.int i2, .long j11_, .long (Int32.toInt64 (nA S12 3 (Int32.toNatClampNeg i1)))]) (rest := []) (st' := [.int i16_]) cS17 gC_X6_multiply gM_X6_300 (by rw [hS12_a0]; exact nRecv) rfl (by decide) (by decide) rfl rfl (Nat.le_of_ble_eq_true rfl) dX6_turn_103 ?_
        refine J_if_eq 136 dX6_turn_106 (by decide) h18 (fun c19 h20 => ?_) (fun c19 h20 => ?_)
        · clear h18
          refine J_iconst (0 : Int32) dX6_turn_136 (by decide) ?_
          refine J_istore dX6_turn_137 (by decide) [1, 2, 3, 4, 0, 5] (lv' := [(0, .ref a0), (1, .int i1), (2, .int i2), (3, .long j3), (5, .int (0 : Int32)), (6, .int i6)]) rfl ?_
          refine J_iinc 5 (-1 : Int32) dX6_turn_139 rfl (by decide) (by decide) [1, 2, 3, 4, 5, 0] (lv' := [(0, .ref a0), (1, .int i1), (2, .int i2), (3, .long j3), (5, .int (0 : Int32)), (6, .int (i6 + (-1 : Int32)))]) rfl ?_
          refine J_goto 79 dX6_turn_142 (by decide) ?_
          exact lh S17 a0 i1 i2 j3 (0 : Int32) (i6 + (-1 : Int32)) hS17_a0 h20
        · clear h18
          refine J_aload_n 0 dX6_turn_109 rfl rfl ?_
          refine J_iload_n 2 dX6_turn_110 rfl rfl ?_
          refine J_iconst (0 : Int32) dX6_turn_111 (by decide) ?_
          refine J_lload_n 3 dX6_turn_112 rfl rfl ?_
          refine J_aload_n 0 dX6_turn_113 rfl rfl ?_
          refine J_ngetA (k := 3) (o := 2) dX6_turn_114 gF_X6_16 hS17_a0 rfl ?_
          refine J_iload_n 1 dX6_turn_117 rfl rfl ?_
          obtain ⟨g21, h22⟩ := gd_some h20; clear h20
          refine J_niald (k := 3) (o := 2) dX6_turn_118 hS17_a0 rfl rfl (by decide) g21 ?_
          refine J_iload 5 dX6_turn_119 rfl ?_
          obtain ⟨i23_, ei23_, h24⟩ := bnd_some h22; clear h22
          refine J_callS (As := [.long j3, .int (nA S17 3 (Int32.toNatClampNeg i1)), .int i6]) (rest := [.int (0 : Int32), .int i2, .ref a0]) (st' := [.int i23_, .int (0 : Int32), .int i2, .ref a0]) (t_X6_digitOf ei23_) gC_X6_digitOf gM_X6_266 rfl (by decide) (by decide) rfl rfl (Nat.le_of_ble_eq_true rfl) dX6_turn_121 ?_
          refine J_i2l dX6_turn_124 ?_
          refine J_iconst (1 : Int32) dX6_turn_125 (by decide) ?_
          obtain ⟨i25_, S26, ei25_, h27⟩ := bnd2_some h24; clear h24
          have cS26 := (t_X6_changeAll hS17_a0 ei25_)
          have lS26 : jle NX S17 S26 := cS26.1
          have hS26_a0 : a0 = S26.1 := hS17_a0.trans (nle_eq lS26).symm
          refine J_callV (As := [.int i2, .int (0 : Int32), .long (Int32.toInt64 i23_), .int (1 : Int32)]) (rest := []) (st' := [.int i25_]) cS26 gC_X6_changeAll gM_X6_288 (by rw [hS17_a0]; exact nRecv) rfl (by decide) (by decide) rfl rfl (Nat.le_of_ble_eq_true rfl) dX6_turn_126 ?_
          refine J_if_eq 136 dX6_turn_129 (by decide) h27 (fun c28 h29 => ?_) (fun c28 h29 => ?_)
          · clear h27
            refine J_iconst (0 : Int32) dX6_turn_136 (by decide) ?_
            refine J_istore dX6_turn_137 (by decide) [1, 2, 3, 4, 0, 5] (lv' := [(0, .ref a0), (1, .int i1), (2, .int i2), (3, .long j3), (5, .int (0 : Int32)), (6, .int i6)]) rfl ?_
            refine J_iinc 5 (-1 : Int32) dX6_turn_139 rfl (by decide) (by decide) [1, 2, 3, 4, 5, 0] (lv' := [(0, .ref a0), (1, .int i1), (2, .int i2), (3, .long j3), (5, .int (0 : Int32)), (6, .int (i6 + (-1 : Int32)))]) rfl ?_
            refine J_goto 79 dX6_turn_142 (by decide) ?_
            exact lh S26 a0 i1 i2 j3 (0 : Int32) (i6 + (-1 : Int32)) hS26_a0 h29
          · clear h27
            refine J_iconst (1 : Int32) dX6_turn_132 (by decide) ?_
            refine J_goto 137 dX6_turn_133 (by decide) ?_
            refine J_istore dX6_turn_137 (by decide) [1, 2, 3, 4, 0, 5] (lv' := [(0, .ref a0), (1, .int i1), (2, .int i2), (3, .long j3), (5, .int (1 : Int32)), (6, .int i6)]) rfl ?_
            refine J_iinc 5 (-1 : Int32) dX6_turn_139 rfl (by decide) (by decide) [1, 2, 3, 4, 5, 0] (lv' := [(0, .ref a0), (1, .int i1), (2, .int i2), (3, .long j3), (5, .int (1 : Int32)), (6, .int (i6 + (-1 : Int32)))]) rfl ?_
            refine J_goto 79 dX6_turn_142 (by decide) ?_
            exact lh S26 a0 i1 i2 j3 (1 : Int32) (i6 + (-1 : Int32)) hS26_a0 h29
def m_X6_turn (S : MS) (i1 : Int32) (i2 : Int32) : Option (Int32 × MS) :=
  bnd (m_X6_isFrame S i1) fun i1_ =>
  if i1_ = 0 then
    (some ((-1 : Int32), S))
  else
    (bnd (m_X6_isFrame S i2) fun i5_ =>
    if i5_ = 0 then
      (some ((-1 : Int32), S))
    else
      (bnd (m_X6_bars S i1 i2 (0 : Int32)) fun i9_ =>
      if 0 ≤ i9_ then
        (bnd2 (m_X6_shown S i1) fun j13_ S14 =>
        if (nF S14 16) ≤ 0 then
          (bnd (m_X6_start S14 i1) fun S18 =>
          bnd2 (m_X6_clear S18 i2) fun i20_ S21 =>
          gd (inB i1 30) <|
          bnd (m_X6_digits j13_ (nA S21 3 (Int32.toNatClampNeg i1))) fun i25_ =>
          jLet ((i25_ - (1 : Int32))) fun i27_ =>
          m_X6_turn_L79 bigN S21 i1 i2 j13_ i20_ i27_)
        else
          (bnd2 (m_X6_meets S14 (nF S14 16)) fun i29_ S30 =>
          some (i29_, S30)))
      else
        (some ((-3 : Int32), S))))
set_option maxRecDepth 100000 in
set_option maxHeartbeats 4000000 in
theorem t_X6_turn {S : MS} {a0 : Nat} {i1 : Int32} {i2 : Int32} {w : (Int32 × MS)} (ha : a0 = S.1) (h : m_X6_turn S i1 i2 = some w) : CT NX yX6_turn cX6_turn 7 (some .int) 6 158 [.ref a0, .int i1, .int i2] S (some (.int w.1)) w.2 := by
  refine CT.of (lv := [(0, .ref a0), (1, .int i1), (2, .int i2)]) (by decide) rfl (Nat.le_of_ble_eq_true rfl) ?_
  refine J_aload_n 0 dX6_turn_0 rfl rfl ?_
  refine J_iload_n 1 dX6_turn_1 rfl rfl ?_
  obtain ⟨i1_, ei1_, h2⟩ := bnd_some h; clear h
  refine J_callV (As := [.int i1]) (rest := []) (st' := [.int i1_]) (t_X6_isFrame ha ei1_) gC_X6_isFrame gM_X6_129 (by rw [ha]; exact nRecv) rfl (by decide) (by decide) rfl rfl (Nat.le_of_ble_eq_true rfl) dX6_turn_2 ?_
  refine J_if_eq 16 dX6_turn_5 (by decide) h2 (fun c3 h4 => ?_) (fun c3 h4 => ?_)
  · clear h2
    refine J_iconst (-1 : Int32) dX6_turn_16 (by decide) ?_
    have hw := Option.some.inj h4; subst hw
    exact J_iret rfl dX6_turn_17
  · clear h2
    refine J_aload_n 0 dX6_turn_8 rfl rfl ?_
    refine J_iload_n 2 dX6_turn_9 rfl rfl ?_
    obtain ⟨i5_, ei5_, h6⟩ := bnd_some h4; clear h4
    refine J_callV (As := [.int i2]) (rest := []) (st' := [.int i5_]) (t_X6_isFrame ha ei5_) gC_X6_isFrame gM_X6_129 (by rw [ha]; exact nRecv) rfl (by decide) (by decide) rfl rfl (Nat.le_of_ble_eq_true rfl) dX6_turn_10 ?_
    refine J_if_ne 18 dX6_turn_13 (by decide) h6 (fun c7 h8 => ?_) (fun c7 h8 => ?_)
    · clear h6
      refine J_iconst (-1 : Int32) dX6_turn_16 (by decide) ?_
      have hw := Option.some.inj h8; subst hw
      exact J_iret rfl dX6_turn_17
    · clear h6
      refine J_aload_n 0 dX6_turn_18 rfl rfl ?_
      refine J_iload_n 1 dX6_turn_19 rfl rfl ?_
      refine J_iload_n 2 dX6_turn_20 rfl rfl ?_
      refine J_iconst (0 : Int32) dX6_turn_21 (by decide) ?_
      obtain ⟨i9_, ei9_, h10⟩ := bnd_some h8; clear h8
      refine J_callV (As := [.int i1, .int i2, .int (0 : Int32)]) (rest := []) (st' := [.int i9_]) (t_X6_bars ha ei9_) gC_X6_bars gM_X6_308 (by rw [ha]; exact nRecv) rfl (by decide) (by decide) rfl rfl (Nat.le_of_ble_eq_true rfl) dX6_turn_22 ?_
      refine J_if_ge 31 dX6_turn_25 (by decide) h10 (fun c11 h12 => ?_) (fun c11 h12 => ?_)
      · clear h10
        refine J_aload_n 0 dX6_turn_31 rfl rfl ?_
        refine J_iload_n 1 dX6_turn_32 rfl rfl ?_
        obtain ⟨j13_, S14, ej13_, h15⟩ := bnd2_some h12; clear h12
        have cS14 := (t_X6_shown ha ej13_)
        have lS14 : jle NX S S14 := cS14.1
        have hS14_a0 : a0 = S14.1 := ha.trans (nle_eq lS14).symm
        refine J_callV (As := [.int i1]) (rest := []) (st' := [.long j13_]) cS14 gC_X6_shown gM_X6_148 (by rw [ha]; exact nRecv) rfl (by decide) (by decide) rfl rfl (Nat.le_of_ble_eq_true rfl) dX6_turn_33 ?_
        refine J_lstore_n dX6_turn_36 rfl (by decide) [1, 2, 3, 0] (lv' := [(0, .ref a0), (1, .int i1), (2, .int i2), (3, .long j13_)]) rfl ?_
        refine J_aload_n 0 dX6_turn_37 rfl rfl ?_
        refine J_nget (k := 16) dX6_turn_38 gF_X6_124 hS14_a0 rfl ?_
        refine J_if_le 53 dX6_turn_41 (by decide) h15 (fun c16 h17 => ?_) (fun c16 h17 => ?_)
        · clear h15
          refine J_aload_n 0 dX6_turn_53 rfl rfl ?_
          refine J_iload_n 1 dX6_turn_54 rfl rfl ?_
          obtain ⟨S18, eS18, h19⟩ := bnd_some h17; clear h17
          have cS18 := (t_X6_start hS14_a0 eS18)
          have lS18 : jle NX S14 S18 := cS18.1
          have hS18_a0 : a0 = S18.1 := hS14_a0.trans (nle_eq lS18).symm
          refine J_callV (As := [.int i1]) (rest := []) (st' := []) cS18 gC_X6_start gM_X6_285 (by rw [hS14_a0]; exact nRecv) rfl (by decide) (by decide) rfl rfl (Nat.le_of_ble_eq_true rfl) dX6_turn_55 ?_
          refine J_aload_n 0 dX6_turn_58 rfl rfl ?_
          refine J_iload_n 2 dX6_turn_59 rfl rfl ?_
          obtain ⟨i20_, S21, ei20_, h22⟩ := bnd2_some h19; clear h19
          have cS21 := (t_X6_clear hS18_a0 ei20_)
          have lS21 : jle NX S18 S21 := cS21.1
          have hS21_a0 : a0 = S21.1 := hS18_a0.trans (nle_eq lS21).symm
          refine J_callV (As := [.int i2]) (rest := []) (st' := [.int i20_]) cS21 gC_X6_clear gM_X6_279 (by rw [hS18_a0]; exact nRecv) rfl (by decide) (by decide) rfl rfl (Nat.le_of_ble_eq_true rfl) dX6_turn_60 ?_
          refine J_istore dX6_turn_63 (by decide) [1, 2, 3, 4, 0] (lv' := [(0, .ref a0), (1, .int i1), (2, .int i2), (3, .long j13_), (5, .int i20_)]) rfl ?_
          refine J_lload_n 3 dX6_turn_65 rfl rfl ?_
          refine J_aload_n 0 dX6_turn_66 rfl rfl ?_
          refine J_ngetA (k := 3) (o := 2) dX6_turn_67 gF_X6_16 hS21_a0 rfl ?_
          refine J_iload_n 1 dX6_turn_70 rfl rfl ?_
          obtain ⟨g23, h24⟩ := gd_some h22; clear h22
          refine J_niald (k := 3) (o := 2) dX6_turn_71 hS21_a0 rfl rfl (by decide) g23 ?_
          obtain ⟨i25_, ei25_, h26⟩ := bnd_some h24; clear h24
          refine J_callS (As := [.long j13_, .int (nA S21 3 (Int32.toNatClampNeg i1))]) (rest := []) (st' := [.int i25_]) (t_X6_digits ei25_) gC_X6_digits gM_X6_155 rfl (by decide) (by decide) rfl rfl (Nat.le_of_ble_eq_true rfl) dX6_turn_72 ?_
          refine J_iconst (1 : Int32) dX6_turn_75 (by decide) ?_
          refine J_isub dX6_turn_76 ?_
          obtain ⟨i27_, ei27_, h28⟩ := jLet_some h26; clear h26
          refine J_topI ei27_ ?_
          refine J_istore dX6_turn_77 (by decide) [1, 2, 3, 4, 5, 0] (lv' := [(0, .ref a0), (1, .int i1), (2, .int i2), (3, .long j13_), (5, .int i20_), (6, .int i27_)]) rfl ?_
          exact t_X6_turn_L79 bigN S21 a0 i1 i2 j13_ i20_ i27_ hS21_a0 h28
        · clear h15
          refine J_aload_n 0 dX6_turn_44 rfl rfl ?_
          refine J_aload_n 0 dX6_turn_45 rfl rfl ?_
          refine J_nget (k := 16) dX6_turn_46 gF_X6_124 hS14_a0 rfl ?_
          obtain ⟨i29_, S30, ei29_, h31⟩ := bnd2_some h17; clear h17
          have cS30 := (t_X6_meets hS14_a0 ei29_)
          have lS30 : jle NX S14 S30 := cS30.1
          have hS30_a0 : a0 = S30.1 := hS14_a0.trans (nle_eq lS30).symm
          refine J_callV (As := [.int (nF S14 16)]) (rest := []) (st' := [.int i29_]) cS30 gC_X6_meets gM_X6_102 (by rw [hS14_a0]; exact nRecv) rfl (by decide) (by decide) rfl rfl (Nat.le_of_ble_eq_true rfl) dX6_turn_49 ?_
          have hw := Option.some.inj h31; subst hw
          exact J_iret rfl dX6_turn_52
      · clear h10
        refine J_bipush (-3 : Int32) dX6_turn_28 (by decide) ?_
        have hw := Option.some.inj h12; subst hw
        exact J_iret rfl dX6_turn_30
def m_X6_part (S : MS) (i1 : Int32) (i2 : Int32) : Option (Int64 × MS) :=
  if (nF S 29) = 0 then
    (bnd2 (m_X6_loses S (1 : Int32)) fun j3_ S4 =>
    some (j3_, S4))
  else
    (bnd (m_X6_in (Int32.toInt64 i1) (0 : Int64) (Int32.toInt64 ((nF S 30) - (1 : Int32)))) fun i6_ =>
    if i6_ = 0 then
      (bnd2 (m_X6_loses S (2 : Int32)) fun j10_ S11 =>
      some (j10_, S11))
    else
      (gd (inB i1 20) <|
      if (nA S 32 (Int32.toNatClampNeg i1)) = 0 then
        (bnd2 (m_X6_loses S (1 : Int32)) fun j17_ S18 =>
        some (j17_, S18))
      else
        (bnd (m_X6_in (Int32.toInt64 i2) (0 : Int64) (Int32.toInt64 ((nF S 31) - (1 : Int32)))) fun i20_ =>
        if i20_ = 0 then
          (bnd2 (m_X6_loses S (2 : Int32)) fun j24_ S25 =>
          some (j24_, S25))
        else
          (gd (inB (((20 : Int32) * i1) + i2) 400) <|
          some ((nP S (Int32.toNatClampNeg (((20 : Int32) * i1) + i2))), S)))))
set_option maxRecDepth 100000 in
set_option maxHeartbeats 4000000 in
theorem t_X6_part {S : MS} {a0 : Nat} {i1 : Int32} {i2 : Int32} {w : (Int64 × MS)} (ha : a0 = S.1) (h : m_X6_part S i1 i2 = some w) : CT NX yX6_part cX6_part 3 (some .long) 2 43 [.ref a0, .int i1, .int i2] S (some (.long w.1)) w.2 := by
  refine CT.of (lv := [(0, .ref a0), (1, .int i1), (2, .int i2)]) (by decide) rfl (Nat.le_of_ble_eq_true rfl) ?_
  refine J_aload_n 0 dX6_part_0 rfl rfl ?_
  refine J_nget (k := 29) dX6_part_1 gF_X6_270 ha rfl ?_
  refine J_if_ne 13 dX6_part_4 (by decide) h (fun c1 h2 => ?_) (fun c1 h2 => ?_)
  · clear h
    refine J_aload_n 0 dX6_part_7 rfl rfl ?_
    refine J_iconst (1 : Int32) dX6_part_8 (by decide) ?_
    obtain ⟨j3_, S4, ej3_, h5⟩ := bnd2_some h2; clear h2
    have cS4 := (t_X6_loses ha ej3_)
    have lS4 : jle NX S S4 := cS4.1
    have hS4_a0 : a0 = S4.1 := ha.trans (nle_eq lS4).symm
    refine J_callV (As := [.int (1 : Int32)]) (rest := []) (st' := [.long j3_]) cS4 gC_X6_loses gM_X6_152 (by rw [ha]; exact nRecv) rfl (by decide) (by decide) rfl rfl (Nat.le_of_ble_eq_true rfl) dX6_part_9 ?_
    have hw := Option.some.inj h5; subst hw
    exact J_lret rfl dX6_part_12
  · clear h
    refine J_iload_n 1 dX6_part_13 rfl rfl ?_
    refine J_i2l dX6_part_14 ?_
    refine J_lconst (0 : Int64) dX6_part_15 (by decide) ?_
    refine J_aload_n 0 dX6_part_16 rfl rfl ?_
    refine J_nget (k := 30) dX6_part_17 gF_X6_273 ha rfl ?_
    refine J_iconst (1 : Int32) dX6_part_20 (by decide) ?_
    refine J_isub dX6_part_21 ?_
    refine J_i2l dX6_part_22 ?_
    obtain ⟨i6_, ei6_, h7⟩ := bnd_some h2; clear h2
    refine J_callS (As := [.long (Int32.toInt64 i1), .long (0 : Int64), .long (Int32.toInt64 ((nF S 30) - (1 : Int32)))]) (rest := []) (st' := [.int i6_]) (t_X6_in ei6_) gC_X6_in gM_X6_92 rfl (by decide) (by decide) rfl rfl (Nat.le_of_ble_eq_true rfl) dX6_part_23 ?_
    refine J_if_ne 35 dX6_part_26 (by decide) h7 (fun c8 h9 => ?_) (fun c8 h9 => ?_)
    · clear h7
      refine J_aload_n 0 dX6_part_29 rfl rfl ?_
      refine J_iconst (2 : Int32) dX6_part_30 (by decide) ?_
      obtain ⟨j10_, S11, ej10_, h12⟩ := bnd2_some h9; clear h9
      have cS11 := (t_X6_loses ha ej10_)
      have lS11 : jle NX S S11 := cS11.1
      have hS11_a0 : a0 = S11.1 := ha.trans (nle_eq lS11).symm
      refine J_callV (As := [.int (2 : Int32)]) (rest := []) (st' := [.long j10_]) cS11 gC_X6_loses gM_X6_152 (by rw [ha]; exact nRecv) rfl (by decide) (by decide) rfl rfl (Nat.le_of_ble_eq_true rfl) dX6_part_31 ?_
      have hw := Option.some.inj h12; subst hw
      exact J_lret rfl dX6_part_34
    · clear h7
      refine J_aload_n 0 dX6_part_35 rfl rfl ?_
      refine J_ngetA (k := 32) (o := 13) dX6_part_36 gF_X6_57 ha rfl ?_
      refine J_iload_n 1 dX6_part_39 rfl rfl ?_
      obtain ⟨g13, h14⟩ := gd_some h9; clear h9
      refine J_nzald (k := 32) (o := 13) dX6_part_40 ha rfl rfl (by decide) g13 ?_
      refine J_if_ne 50 dX6_part_41 (by decide) h14 (fun c15 h16 => ?_) (fun c15 h16 => ?_)
      · clear h14
        refine J_aload_n 0 dX6_part_44 rfl rfl ?_
        refine J_iconst (1 : Int32) dX6_part_45 (by decide) ?_
        obtain ⟨j17_, S18, ej17_, h19⟩ := bnd2_some h16; clear h16
        have cS18 := (t_X6_loses ha ej17_)
        have lS18 : jle NX S S18 := cS18.1
        have hS18_a0 : a0 = S18.1 := ha.trans (nle_eq lS18).symm
        refine J_callV (As := [.int (1 : Int32)]) (rest := []) (st' := [.long j17_]) cS18 gC_X6_loses gM_X6_152 (by rw [ha]; exact nRecv) rfl (by decide) (by decide) rfl rfl (Nat.le_of_ble_eq_true rfl) dX6_part_46 ?_
        have hw := Option.some.inj h19; subst hw
        exact J_lret rfl dX6_part_49
      · clear h14
        refine J_iload_n 2 dX6_part_50 rfl rfl ?_
        refine J_i2l dX6_part_51 ?_
        refine J_lconst (0 : Int64) dX6_part_52 (by decide) ?_
        refine J_aload_n 0 dX6_part_53 rfl rfl ?_
        refine J_nget (k := 31) dX6_part_54 gF_X6_276 ha rfl ?_
        refine J_iconst (1 : Int32) dX6_part_57 (by decide) ?_
        refine J_isub dX6_part_58 ?_
        refine J_i2l dX6_part_59 ?_
        obtain ⟨i20_, ei20_, h21⟩ := bnd_some h16; clear h16
        refine J_callS (As := [.long (Int32.toInt64 i2), .long (0 : Int64), .long (Int32.toInt64 ((nF S 31) - (1 : Int32)))]) (rest := []) (st' := [.int i20_]) (t_X6_in ei20_) gC_X6_in gM_X6_92 rfl (by decide) (by decide) rfl rfl (Nat.le_of_ble_eq_true rfl) dX6_part_60 ?_
        refine J_if_eq 80 dX6_part_63 (by decide) h21 (fun c22 h23 => ?_) (fun c22 h23 => ?_)
        · clear h21
          refine J_aload_n 0 dX6_part_80 rfl rfl ?_
          refine J_iconst (2 : Int32) dX6_part_81 (by decide) ?_
          obtain ⟨j24_, S25, ej24_, h26⟩ := bnd2_some h23; clear h23
          have cS25 := (t_X6_loses ha ej24_)
          have lS25 : jle NX S S25 := cS25.1
          have hS25_a0 : a0 = S25.1 := ha.trans (nle_eq lS25).symm
          refine J_callV (As := [.int (2 : Int32)]) (rest := []) (st' := [.long j24_]) cS25 gC_X6_loses gM_X6_152 (by rw [ha]; exact nRecv) rfl (by decide) (by decide) rfl rfl (Nat.le_of_ble_eq_true rfl) dX6_part_82 ?_
          have hw := Option.some.inj h26; subst hw
          exact J_lret rfl dX6_part_85
        · clear h21
          refine J_aload_n 0 dX6_part_66 rfl rfl ?_
          refine J_ngetA (k := 33) (o := 14) dX6_part_67 gF_X6_61 ha rfl ?_
          refine J_bipush (20 : Int32) dX6_part_70 (by decide) ?_
          refine J_iload_n 1 dX6_part_72 rfl rfl ?_
          refine J_imul dX6_part_73 ?_
          refine J_iload_n 2 dX6_part_74 rfl rfl ?_
          refine J_iadd dX6_part_75 ?_
          obtain ⟨g27, h28⟩ := gd_some h23; clear h23
          refine J_nlald dX6_part_76 ha g27 ?_
          refine J_goto 85 dX6_part_77 (by decide) ?_
          have hw := Option.some.inj h28; subst hw
          exact J_lret rfl dX6_part_85
def m_X6_tally_J108 (k48 : MS → Int32 → Int32 → Int32 → Int32 → Int32 → Option (Int32 × MS)) (S : MS) (i1 : Int32) (i2 : Int32) (i4 : Int32) (i5 : Int32) (i6 : Int32) (is0 : Int32) (is1 : Int32) : Option (Int32 × MS) :=
  jLet ((is0 + is1)) fun i1_ =>
  if i6 = 0 then
    (jLet ((i4 + (0 : Int32))) fun i5_ =>
    k48 S i1 i2 i1_ i5_ (i5 + (1 : Int32)))
  else
    (gd (inB (((7 : Int32) * i5) + (4 : Int32)) 35000) <|
    if (nA S 28 (Int32.toNatClampNeg (((7 : Int32) * i5) + (4 : Int32)))) = i2 then
      (jLet ((i4 + (1 : Int32))) fun i11_ =>
      k48 S i1 i2 i1_ i11_ (i5 + (1 : Int32)))
    else
      (jLet ((i4 + (0 : Int32))) fun i13_ =>
      k48 S i1 i2 i1_ i13_ (i5 + (1 : Int32))))
set_option maxRecDepth 100000 in
set_option maxHeartbeats 4000000 in
theorem t_X6_tally_J108 {k48 : MS → Int32 → Int32 → Int32 → Int32 → Int32 → Option (Int32 × MS)} {S : MS} {a0 : Nat} {i1 : Int32} {i2 : Int32} {i4 : Int32} {i5 : Int32} {i6 : Int32} {is0 : Int32} {is1 : Int32} {w : (Int32 × MS)} (hk48 : ∀ (S : MS) (a0 : Nat) (i1 : Int32) (i2 : Int32) (i3 : Int32) (i4 : Int32) (i5 : Int32), (a0 = S.1) → k48 S i1 i2 i3 i4 i5 = some w → J NX yX6_tally cX6_tally 7 (some .int) 1 25 48 [(0, .ref a0), (1, .int i1), (2, .int i2), (3, .int i3), (4, .int i4), (5, .int i5)] [] S (some (.int w.1)) w.2) (ha : a0 = S.1) (h : m_X6_tally_J108 k48 S i1 i2 i4 i5 i6 is0 is1 = some w) : J NX yX6_tally cX6_tally 7 (some .int) 1 25 108 [(0, .ref a0), (1, .int i1), (2, .int i2), (4, .int i4), (5, .int i5), (6, .int i6)] [.int is1, .int is0] S (some (.int w.1)) w.2 := by
  refine J_iadd dX6_tally_108 ?_
  obtain ⟨i1_, ei1_, h2⟩ := jLet_some h; clear h
  refine J_topI ei1_ ?_
  refine J_istore_n dX6_tally_109 rfl (by decide) [1, 2, 3, 0, 4, 5, 6] (lv' := [(0, .ref a0), (1, .int i1), (2, .int i2), (3, .int i1_), (4, .int i4), (5, .int i5), (6, .int i6)]) rfl ?_
  refine J_iload 4 dX6_tally_110 rfl ?_
  refine J_iload 6 dX6_tally_112 rfl ?_
  refine J_if_eq 137 dX6_tally_114 (by decide) h2 (fun c3 h4 => ?_) (fun c3 h4 => ?_)
  · clear h2
    refine J_iconst (0 : Int32) dX6_tally_137 (by decide) ?_
    refine J_iadd dX6_tally_138 ?_
    obtain ⟨i5_, ei5_, h6⟩ := jLet_some h4; clear h4
    refine J_topI ei5_ ?_
    refine J_istore dX6_tally_139 (by decide) [1, 2, 3, 4, 0, 5] (lv' := [(0, .ref a0), (1, .int i1), (2, .int i2), (3, .int i1_), (4, .int i5_), (5, .int i5)]) rfl ?_
    refine J_iinc 5 (1 : Int32) dX6_tally_141 rfl (by decide) (by decide) [1, 2, 3, 4, 5, 0] (lv' := [(0, .ref a0), (1, .int i1), (2, .int i2), (3, .int i1_), (4, .int i5_), (5, .int (i5 + (1 : Int32)))]) rfl ?_
    refine J_goto 48 dX6_tally_144 (by decide) ?_
    exact hk48 S a0 i1 i2 i1_ i5_ (i5 + (1 : Int32)) ha h6
  · clear h2
    refine J_aload_n 0 dX6_tally_117 rfl rfl ?_
    refine J_ngetA (k := 28) (o := 12) dX6_tally_118 gF_X6_54 ha rfl ?_
    refine J_bipush (7 : Int32) dX6_tally_121 (by decide) ?_
    refine J_iload 5 dX6_tally_123 rfl ?_
    refine J_imul dX6_tally_125 ?_
    refine J_iconst (4 : Int32) dX6_tally_126 (by decide) ?_
    refine J_iadd dX6_tally_127 ?_
    obtain ⟨g7, h8⟩ := gd_some h4; clear h4
    refine J_niald (k := 28) (o := 12) dX6_tally_128 ha rfl rfl (by decide) g7 ?_
    refine J_iload_n 2 dX6_tally_129 rfl rfl ?_
    refine J_icmp_ne 137 dX6_tally_130 (by decide) h8 (fun c9 h10 => ?_) (fun c9 h10 => ?_)
    · clear h8
      refine J_iconst (1 : Int32) dX6_tally_133 (by decide) ?_
      refine J_goto 138 dX6_tally_134 (by decide) ?_
      refine J_iadd dX6_tally_138 ?_
      obtain ⟨i11_, ei11_, h12⟩ := jLet_some h10; clear h10
      refine J_topI ei11_ ?_
      refine J_istore dX6_tally_139 (by decide) [1, 2, 3, 4, 0, 5] (lv' := [(0, .ref a0), (1, .int i1), (2, .int i2), (3, .int i1_), (4, .int i11_), (5, .int i5)]) rfl ?_
      refine J_iinc 5 (1 : Int32) dX6_tally_141 rfl (by decide) (by decide) [1, 2, 3, 4, 5, 0] (lv' := [(0, .ref a0), (1, .int i1), (2, .int i2), (3, .int i1_), (4, .int i11_), (5, .int (i5 + (1 : Int32)))]) rfl ?_
      refine J_goto 48 dX6_tally_144 (by decide) ?_
      exact hk48 S a0 i1 i2 i1_ i11_ (i5 + (1 : Int32)) ha h12
    · clear h8
      refine J_iconst (0 : Int32) dX6_tally_137 (by decide) ?_
      refine J_iadd dX6_tally_138 ?_
      obtain ⟨i13_, ei13_, h14⟩ := jLet_some h10; clear h10
      refine J_topI ei13_ ?_
      refine J_istore dX6_tally_139 (by decide) [1, 2, 3, 4, 0, 5] (lv' := [(0, .ref a0), (1, .int i1), (2, .int i2), (3, .int i1_), (4, .int i13_), (5, .int i5)]) rfl ?_
      refine J_iinc 5 (1 : Int32) dX6_tally_141 rfl (by decide) (by decide) [1, 2, 3, 4, 5, 0] (lv' := [(0, .ref a0), (1, .int i1), (2, .int i2), (3, .int i1_), (4, .int i13_), (5, .int (i5 + (1 : Int32)))]) rfl ?_
      refine J_goto 48 dX6_tally_144 (by decide) ?_
      exact hk48 S a0 i1 i2 i1_ i13_ (i5 + (1 : Int32)) ha h14
def m_X6_tally_J95 (k48 : MS → Int32 → Int32 → Int32 → Int32 → Int32 → Option (Int32 × MS)) (S : MS) (i1 : Int32) (i2 : Int32) (i3 : Int32) (i4 : Int32) (i5 : Int32) (is0 : Int32) : Option (Int32 × MS) :=
  if is0 = 0 then
    (m_X6_tally_J108 k48 S i1 i2 i4 i5 is0 i3 (0 : Int32))
  else
    (m_X6_tally_J108 k48 S i1 i2 i4 i5 is0 i3 (1 : Int32))
set_option maxRecDepth 100000 in
set_option maxHeartbeats 4000000 in
theorem t_X6_tally_J95 {k48 : MS → Int32 → Int32 → Int32 → Int32 → Int32 → Option (Int32 × MS)} {S : MS} {a0 : Nat} {i1 : Int32} {i2 : Int32} {i3 : Int32} {i4 : Int32} {i5 : Int32} {is0 : Int32} {w : (Int32 × MS)} (hk48 : ∀ (S : MS) (a0 : Nat) (i1 : Int32) (i2 : Int32) (i3 : Int32) (i4 : Int32) (i5 : Int32), (a0 = S.1) → k48 S i1 i2 i3 i4 i5 = some w → J NX yX6_tally cX6_tally 7 (some .int) 1 25 48 [(0, .ref a0), (1, .int i1), (2, .int i2), (3, .int i3), (4, .int i4), (5, .int i5)] [] S (some (.int w.1)) w.2) (ha : a0 = S.1) (h : m_X6_tally_J95 k48 S i1 i2 i3 i4 i5 is0 = some w) : J NX yX6_tally cX6_tally 7 (some .int) 1 25 95 [(0, .ref a0), (1, .int i1), (2, .int i2), (3, .int i3), (4, .int i4), (5, .int i5)] [.int is0] S (some (.int w.1)) w.2 := by
  refine J_istore dX6_tally_95 (by decide) [1, 2, 3, 4, 5, 6, 0] (lv' := [(0, .ref a0), (1, .int i1), (2, .int i2), (3, .int i3), (4, .int i4), (5, .int i5), (6, .int is0)]) rfl ?_
  refine J_iload_n 3 dX6_tally_97 rfl rfl ?_
  refine J_iload 6 dX6_tally_98 rfl ?_
  refine J_if_eq 107 dX6_tally_100 (by decide) h (fun c1 h2 => ?_) (fun c1 h2 => ?_)
  · clear h
    refine J_iconst (0 : Int32) dX6_tally_107 (by decide) ?_
    refine J_lv [0, 1, 2, 4, 5, 6] rfl ?_
    exact t_X6_tally_J108 hk48 ha h2
  · clear h
    refine J_iconst (1 : Int32) dX6_tally_103 (by decide) ?_
    refine J_goto 108 dX6_tally_104 (by decide) ?_
    refine J_lv [0, 1, 2, 4, 5, 6] rfl ?_
    exact t_X6_tally_J108 hk48 ha h2
def m_X6_tally_L48 : Nat → MS → Int32 → Int32 → Int32 → Int32 → Int32 → Option (Int32 × MS)
  | 0, _, _, _, _, _, _ => none
  | n + 1, S, i1, i2, i3, i4, i5 =>
    if (nF S 21) ≤ i5 then
      (if i3 = 0 then
        (bnd2 (m_X6_meets S (1 : Int32)) fun i5_ S6 =>
        some (i5_, S6))
      else
        (bnd (m_X6_in (Int32.toInt64 i2) (1 : Int64) (4 : Int64)) fun i8_ =>
        if i8_ = 0 then
          (bnd2 (m_X6_meets S (2 : Int32)) fun i12_ S13 =>
          some (i12_, S13))
        else
          (some (i4, S))))
    else
      (gd (inB ((7 : Int32) * i5) 35000) <|
      if (nA S 28 (Int32.toNatClampNeg ((7 : Int32) * i5))) = (nF S 19) then
        (gd (inB (((7 : Int32) * i5) + (1 : Int32)) 35000) <|
        if (nA S 28 (Int32.toNatClampNeg (((7 : Int32) * i5) + (1 : Int32)))) = i1 then
          (m_X6_tally_J95 (m_X6_tally_L48 n) S i1 i2 i3 i4 i5 (1 : Int32))
        else
          (m_X6_tally_J95 (m_X6_tally_L48 n) S i1 i2 i3 i4 i5 (0 : Int32)))
      else
        (m_X6_tally_J95 (m_X6_tally_L48 n) S i1 i2 i3 i4 i5 (0 : Int32)))
set_option maxRecDepth 100000 in
set_option maxHeartbeats 4000000 in
theorem t_X6_tally_L48 {w : (Int32 × MS)} (n : Nat) : ∀ (S : MS) (a0 : Nat) (i1 : Int32) (i2 : Int32) (i3 : Int32) (i4 : Int32) (i5 : Int32), (a0 = S.1) → m_X6_tally_L48 n S i1 i2 i3 i4 i5 = some w → J NX yX6_tally cX6_tally 7 (some .int) 1 25 48 [(0, .ref a0), (1, .int i1), (2, .int i2), (3, .int i3), (4, .int i4), (5, .int i5)] [] S (some (.int w.1)) w.2 := by
  induction n with
  | zero => intro S a0 i1 i2 i3 i4 i5 ha h; cases h
  | succ n lh =>
    intro S a0 i1 i2 i3 i4 i5 ha h
    refine J_iload 5 dX6_tally_48 rfl ?_
    refine J_aload_n 0 dX6_tally_50 rfl rfl ?_
    refine J_nget (k := 21) dX6_tally_51 gF_X6_236 ha rfl ?_
    refine J_icmp_ge 147 dX6_tally_54 (by decide) h (fun c1 h2 => ?_) (fun c1 h2 => ?_)
    · clear h
      refine J_iload_n 3 dX6_tally_147 rfl rfl ?_
      refine J_if_ne 157 dX6_tally_148 (by decide) h2 (fun c3 h4 => ?_) (fun c3 h4 => ?_)
      · clear h2
        refine J_aload_n 0 dX6_tally_151 rfl rfl ?_
        refine J_iconst (1 : Int32) dX6_tally_152 (by decide) ?_
        obtain ⟨i5_, S6, ei5_, h7⟩ := bnd2_some h4; clear h4
        have cS6 := (t_X6_meets ha ei5_)
        have lS6 : jle NX S S6 := cS6.1
        have hS6_a0 : a0 = S6.1 := ha.trans (nle_eq lS6).symm
        refine J_callV (As := [.int (1 : Int32)]) (rest := []) (st' := [.int i5_]) cS6 gC_X6_meets gM_X6_102 (by rw [ha]; exact nRecv) rfl (by decide) (by decide) rfl rfl (Nat.le_of_ble_eq_true rfl) dX6_tally_153 ?_
        have hw := Option.some.inj h7; subst hw
        exact J_iret rfl dX6_tally_156
      · clear h2
        refine J_iload_n 2 dX6_tally_157 rfl rfl ?_
        refine J_i2l dX6_tally_158 ?_
        refine J_lconst (1 : Int64) dX6_tally_159 (by decide) ?_
        refine J_ldc2 (4 : Int64) dX6_tally_160 gK_X6_166 ?_
        obtain ⟨i8_, ei8_, h9⟩ := bnd_some h4; clear h4
        refine J_callS (As := [.long (Int32.toInt64 i2), .long (1 : Int64), .long (4 : Int64)]) (rest := []) (st' := [.int i8_]) (t_X6_in ei8_) gC_X6_in gM_X6_92 rfl (by decide) (by decide) rfl rfl (Nat.le_of_ble_eq_true rfl) dX6_tally_163 ?_
        refine J_if_eq 174 dX6_tally_166 (by decide) h9 (fun c10 h11 => ?_) (fun c10 h11 => ?_)
        · clear h9
          refine J_aload_n 0 dX6_tally_174 rfl rfl ?_
          refine J_iconst (2 : Int32) dX6_tally_175 (by decide) ?_
          obtain ⟨i12_, S13, ei12_, h14⟩ := bnd2_some h11; clear h11
          have cS13 := (t_X6_meets ha ei12_)
          have lS13 : jle NX S S13 := cS13.1
          have hS13_a0 : a0 = S13.1 := ha.trans (nle_eq lS13).symm
          refine J_callV (As := [.int (2 : Int32)]) (rest := []) (st' := [.int i12_]) cS13 gC_X6_meets gM_X6_102 (by rw [ha]; exact nRecv) rfl (by decide) (by decide) rfl rfl (Nat.le_of_ble_eq_true rfl) dX6_tally_176 ?_
          have hw := Option.some.inj h14; subst hw
          exact J_iret rfl dX6_tally_179
        · clear h9
          refine J_iload 4 dX6_tally_169 rfl ?_
          refine J_goto 179 dX6_tally_171 (by decide) ?_
          have hw := Option.some.inj h11; subst hw
          exact J_iret rfl dX6_tally_179
    · clear h
      refine J_aload_n 0 dX6_tally_57 rfl rfl ?_
      refine J_ngetA (k := 28) (o := 12) dX6_tally_58 gF_X6_54 ha rfl ?_
      refine J_bipush (7 : Int32) dX6_tally_61 (by decide) ?_
      refine J_iload 5 dX6_tally_63 rfl ?_
      refine J_imul dX6_tally_65 ?_
      obtain ⟨g15, h16⟩ := gd_some h2; clear h2
      refine J_niald (k := 28) (o := 12) dX6_tally_66 ha rfl rfl (by decide) g15 ?_
      refine J_aload_n 0 dX6_tally_67 rfl rfl ?_
      refine J_nget (k := 19) dX6_tally_68 gF_X6_233 ha rfl ?_
      refine J_icmp_ne 94 dX6_tally_71 (by decide) h16 (fun c17 h18 => ?_) (fun c17 h18 => ?_)
      · clear h16
        refine J_aload_n 0 dX6_tally_74 rfl rfl ?_
        refine J_ngetA (k := 28) (o := 12) dX6_tally_75 gF_X6_54 ha rfl ?_
        refine J_bipush (7 : Int32) dX6_tally_78 (by decide) ?_
        refine J_iload 5 dX6_tally_80 rfl ?_
        refine J_imul dX6_tally_82 ?_
        refine J_iconst (1 : Int32) dX6_tally_83 (by decide) ?_
        refine J_iadd dX6_tally_84 ?_
        obtain ⟨g19, h20⟩ := gd_some h18; clear h18
        refine J_niald (k := 28) (o := 12) dX6_tally_85 ha rfl rfl (by decide) g19 ?_
        refine J_iload_n 1 dX6_tally_86 rfl rfl ?_
        refine J_icmp_ne 94 dX6_tally_87 (by decide) h20 (fun c21 h22 => ?_) (fun c21 h22 => ?_)
        · clear h20
          refine J_iconst (1 : Int32) dX6_tally_90 (by decide) ?_
          refine J_goto 95 dX6_tally_91 (by decide) ?_
          exact t_X6_tally_J95 lh ha h22
        · clear h20
          refine J_iconst (0 : Int32) dX6_tally_94 (by decide) ?_
          exact t_X6_tally_J95 lh ha h22
      · clear h16
        refine J_iconst (0 : Int32) dX6_tally_94 (by decide) ?_
        exact t_X6_tally_J95 lh ha h18
def m_X6_tally (S : MS) (i1 : Int32) (i2 : Int32) : Option (Int32 × MS) :=
  if (nF S 18) = 0 then
    (bnd2 (m_X6_meets S (1 : Int32)) fun i3_ S4 =>
    some (i3_, S4))
  else
    (gd (inB (nF S 19) 30) <|
    bnd (m_X6_in (Int32.toInt64 i1) (0 : Int64) (Int32.toInt64 ((nA S 2 (Int32.toNatClampNeg (nF S 19))) - (1 : Int32)))) fun i8_ =>
    if i8_ = 0 then
      (bnd2 (m_X6_meets S (2 : Int32)) fun i12_ S13 =>
      some (i12_, S13))
    else
      (m_X6_tally_L48 bigN S i1 i2 (0 : Int32) (0 : Int32) (0 : Int32)))
set_option maxRecDepth 100000 in
set_option maxHeartbeats 4000000 in
theorem t_X6_tally {S : MS} {a0 : Nat} {i1 : Int32} {i2 : Int32} {w : (Int32 × MS)} (ha : a0 = S.1) (h : m_X6_tally S i1 i2 = some w) : CT NX yX6_tally cX6_tally 7 (some .int) 1 25 [.ref a0, .int i1, .int i2] S (some (.int w.1)) w.2 := by
  refine CT.of (lv := [(0, .ref a0), (1, .int i1), (2, .int i2)]) (by decide) rfl (Nat.le_of_ble_eq_true rfl) ?_
  refine J_aload_n 0 dX6_tally_0 rfl rfl ?_
  refine J_nget (k := 18) dX6_tally_1 gF_X6_230 ha rfl ?_
  refine J_if_ne 13 dX6_tally_4 (by decide) h (fun c1 h2 => ?_) (fun c1 h2 => ?_)
  · clear h
    refine J_aload_n 0 dX6_tally_7 rfl rfl ?_
    refine J_iconst (1 : Int32) dX6_tally_8 (by decide) ?_
    obtain ⟨i3_, S4, ei3_, h5⟩ := bnd2_some h2; clear h2
    have cS4 := (t_X6_meets ha ei3_)
    have lS4 : jle NX S S4 := cS4.1
    have hS4_a0 : a0 = S4.1 := ha.trans (nle_eq lS4).symm
    refine J_callV (As := [.int (1 : Int32)]) (rest := []) (st' := [.int i3_]) cS4 gC_X6_meets gM_X6_102 (by rw [ha]; exact nRecv) rfl (by decide) (by decide) rfl rfl (Nat.le_of_ble_eq_true rfl) dX6_tally_9 ?_
    have hw := Option.some.inj h5; subst hw
    exact J_iret rfl dX6_tally_12
  · clear h
    refine J_iload_n 1 dX6_tally_13 rfl rfl ?_
    refine J_i2l dX6_tally_14 ?_
    refine J_lconst (0 : Int64) dX6_tally_15 (by decide) ?_
    refine J_aload_n 0 dX6_tally_16 rfl rfl ?_
    refine J_ngetA (k := 2) (o := 1) dX6_tally_17 gF_X6_13 ha rfl ?_
    refine J_aload_n 0 dX6_tally_20 rfl rfl ?_
    refine J_nget (k := 19) dX6_tally_21 gF_X6_233 ha rfl ?_
    obtain ⟨g6, h7⟩ := gd_some h2; clear h2
    refine J_niald (k := 2) (o := 1) dX6_tally_24 ha rfl rfl (by decide) g6 ?_
    refine J_iconst (1 : Int32) dX6_tally_25 (by decide) ?_
    refine J_isub dX6_tally_26 ?_
    refine J_i2l dX6_tally_27 ?_
    obtain ⟨i8_, ei8_, h9⟩ := bnd_some h7; clear h7
    refine J_callS (As := [.long (Int32.toInt64 i1), .long (0 : Int64), .long (Int32.toInt64 ((nA S 2 (Int32.toNatClampNeg (nF S 19))) - (1 : Int32)))]) (rest := []) (st' := [.int i8_]) (t_X6_in ei8_) gC_X6_in gM_X6_92 rfl (by decide) (by decide) rfl rfl (Nat.le_of_ble_eq_true rfl) dX6_tally_28 ?_
    refine J_if_ne 40 dX6_tally_31 (by decide) h9 (fun c10 h11 => ?_) (fun c10 h11 => ?_)
    · clear h9
      refine J_aload_n 0 dX6_tally_34 rfl rfl ?_
      refine J_iconst (2 : Int32) dX6_tally_35 (by decide) ?_
      obtain ⟨i12_, S13, ei12_, h14⟩ := bnd2_some h11; clear h11
      have cS13 := (t_X6_meets ha ei12_)
      have lS13 : jle NX S S13 := cS13.1
      have hS13_a0 : a0 = S13.1 := ha.trans (nle_eq lS13).symm
      refine J_callV (As := [.int (2 : Int32)]) (rest := []) (st' := [.int i12_]) cS13 gC_X6_meets gM_X6_102 (by rw [ha]; exact nRecv) rfl (by decide) (by decide) rfl rfl (Nat.le_of_ble_eq_true rfl) dX6_tally_36 ?_
      have hw := Option.some.inj h14; subst hw
      exact J_iret rfl dX6_tally_39
    · clear h9
      refine J_iconst (0 : Int32) dX6_tally_40 (by decide) ?_
      refine J_istore_n dX6_tally_41 rfl (by decide) [1, 2, 3, 0] (lv' := [(0, .ref a0), (1, .int i1), (2, .int i2), (3, .int (0 : Int32))]) rfl ?_
      refine J_iconst (0 : Int32) dX6_tally_42 (by decide) ?_
      refine J_istore dX6_tally_43 (by decide) [1, 2, 3, 4, 0] (lv' := [(0, .ref a0), (1, .int i1), (2, .int i2), (3, .int (0 : Int32)), (4, .int (0 : Int32))]) rfl ?_
      refine J_iconst (0 : Int32) dX6_tally_45 (by decide) ?_
      refine J_istore dX6_tally_46 (by decide) [1, 2, 3, 4, 5, 0] (lv' := [(0, .ref a0), (1, .int i1), (2, .int i2), (3, .int (0 : Int32)), (4, .int (0 : Int32)), (5, .int (0 : Int32))]) rfl ?_
      exact t_X6_tally_L48 bigN S a0 i1 i2 (0 : Int32) (0 : Int32) (0 : Int32) ha h11
def m_X6_steps (S : MS) : Option Int32 :=
  some (nF S 21)
set_option maxRecDepth 100000 in
set_option maxHeartbeats 4000000 in
theorem t_X6_steps {S : MS} {a0 : Nat} {w : Int32} (ha : a0 = S.1) (h : m_X6_steps S = some w) : CT NX yX6_steps cX6_steps 1 (some .int) 0 0 [.ref a0] S (some (.int w)) S := by
  refine CT.of (lv := [(0, .ref a0)]) (by decide) rfl (Nat.le_of_ble_eq_true rfl) ?_
  refine J_aload_n 0 dX6_steps_0 rfl rfl ?_
  refine J_nget (k := 21) dX6_steps_1 gF_X6_236 ha rfl ?_
  have hw := Option.some.inj h; subst hw
  exact J_iret rfl dX6_steps_4
def m_X6_step (S : MS) (i1 : Int32) (i2 : Int32) : Option Int32 :=
  bnd (m_X6_in (Int32.toInt64 i1) (0 : Int64) (Int32.toInt64 ((nF S 21) - (1 : Int32)))) fun i1_ =>
  if i1_ = 0 then
    (some (-1 : Int32))
  else
    (bnd (m_X6_in (Int32.toInt64 i2) (0 : Int64) (6 : Int64)) fun i5_ =>
    if i5_ = 0 then
      (some (-2 : Int32))
    else
      (gd (inB (((7 : Int32) * i1) + i2) 35000) <|
      some (nA S 28 (Int32.toNatClampNeg (((7 : Int32) * i1) + i2)))))
set_option maxRecDepth 100000 in
set_option maxHeartbeats 4000000 in
theorem t_X6_step {S : MS} {a0 : Nat} {i1 : Int32} {i2 : Int32} {w : Int32} (ha : a0 = S.1) (h : m_X6_step S i1 i2 = some w) : CT NX yX6_step cX6_step 3 (some .int) 1 25 [.ref a0, .int i1, .int i2] S (some (.int w)) S := by
  refine CT.of (lv := [(0, .ref a0), (1, .int i1), (2, .int i2)]) (by decide) rfl (Nat.le_of_ble_eq_true rfl) ?_
  refine J_iload_n 1 dX6_step_0 rfl rfl ?_
  refine J_i2l dX6_step_1 ?_
  refine J_lconst (0 : Int64) dX6_step_2 (by decide) ?_
  refine J_aload_n 0 dX6_step_3 rfl rfl ?_
  refine J_nget (k := 21) dX6_step_4 gF_X6_236 ha rfl ?_
  refine J_iconst (1 : Int32) dX6_step_7 (by decide) ?_
  refine J_isub dX6_step_8 ?_
  refine J_i2l dX6_step_9 ?_
  obtain ⟨i1_, ei1_, h2⟩ := bnd_some h; clear h
  refine J_callS (As := [.long (Int32.toInt64 i1), .long (0 : Int64), .long (Int32.toInt64 ((nF S 21) - (1 : Int32)))]) (rest := []) (st' := [.int i1_]) (t_X6_in ei1_) gC_X6_in gM_X6_92 rfl (by decide) (by decide) rfl rfl (Nat.le_of_ble_eq_true rfl) dX6_step_10 ?_
  refine J_if_ne 18 dX6_step_13 (by decide) h2 (fun c3 h4 => ?_) (fun c3 h4 => ?_)
  · clear h2
    refine J_iconst (-1 : Int32) dX6_step_16 (by decide) ?_
    have hw := Option.some.inj h4; subst hw
    exact J_iret rfl dX6_step_17
  · clear h2
    refine J_iload_n 2 dX6_step_18 rfl rfl ?_
    refine J_i2l dX6_step_19 ?_
    refine J_lconst (0 : Int64) dX6_step_20 (by decide) ?_
    refine J_ldc2 (6 : Int64) dX6_step_21 gK_X6_327 ?_
    obtain ⟨i5_, ei5_, h6⟩ := bnd_some h4; clear h4
    refine J_callS (As := [.long (Int32.toInt64 i2), .long (0 : Int64), .long (6 : Int64)]) (rest := []) (st' := [.int i5_]) (t_X6_in ei5_) gC_X6_in gM_X6_92 rfl (by decide) (by decide) rfl rfl (Nat.le_of_ble_eq_true rfl) dX6_step_24 ?_
    refine J_if_eq 44 dX6_step_27 (by decide) h6 (fun c7 h8 => ?_) (fun c7 h8 => ?_)
    · clear h6
      refine J_bipush (-2 : Int32) dX6_step_44 (by decide) ?_
      have hw := Option.some.inj h8; subst hw
      exact J_iret rfl dX6_step_46
    · clear h6
      refine J_aload_n 0 dX6_step_30 rfl rfl ?_
      refine J_ngetA (k := 28) (o := 12) dX6_step_31 gF_X6_54 ha rfl ?_
      refine J_bipush (7 : Int32) dX6_step_34 (by decide) ?_
      refine J_iload_n 1 dX6_step_36 rfl rfl ?_
      refine J_imul dX6_step_37 ?_
      refine J_iload_n 2 dX6_step_38 rfl rfl ?_
      refine J_iadd dX6_step_39 ?_
      obtain ⟨g9, h10⟩ := gd_some h8; clear h8
      refine J_niald (k := 28) (o := 12) dX6_step_40 ha rfl rfl (by decide) g9 ?_
      refine J_goto 46 dX6_step_41 (by decide) ?_
      have hw := Option.some.inj h10; subst hw
      exact J_iret rfl dX6_step_46
