def c_X5_begun (S : Mem) (a0 : Nat) (i1 : Int32) : Option Mem :=
  jLet ((((31 : Int32) * (mI S a0 7)) + i1)) fun i1_ =>
  jLet (mSI S a0 7 i1_) fun S3 =>
  some S3
set_option maxRecDepth 100000 in
set_option maxHeartbeats 4000000 in
theorem t_X5_begun {S : Mem} {a0 : Nat} {i1 : Int32} {w : Mem} (ha : mKd S a0 = 6) (h : c_X5_begun S a0 i1 = some w) : CT MX yX5_begun cX5_begun 2 none 0 0 [.ref a0, .int i1] S none w := by
  refine CT.of (lv := [(0, .ref a0), (1, .int i1)]) (by decide) rfl (Nat.le_of_ble_eq_true rfl) ?_
  refine J_aload_n 0 dX5_begun_0 rfl rfl ?_
  refine J_bipush (31 : Int32) dX5_begun_1 (by decide) ?_
  refine J_aload_n 0 dX5_begun_3 rfl rfl ?_
  refine J_get (k := 7) (v := .int (mI S a0 7)) dX5_begun_4 gF_X5_156 ha rfl ?_
  refine J_imul dX5_begun_7 ?_
  refine J_iload_n 1 dX5_begun_8 rfl rfl ?_
  refine J_iadd dX5_begun_9 ?_
  obtain ⟨i1_, ei1_, h2⟩ := jLet_some h; clear h
  refine J_topI ei1_ ?_
  refine J_putI (k := 7) dX5_begun_10 gW_X5_156 ha rfl ?_
  obtain ⟨S3, eS3, h4⟩ := jLet_some h2; clear h2
  refine J_topS eS3 ?_
  have hS3_a0 : mKd S3 a0 = 6 := by rw [eS3]; exact ha
  have hw := Option.some.inj h4; subst hw
  exact J_vret rfl dX5_begun_13
def c_X5_askBase : Nat → Mem → Nat → Option Nat → Int32 → Option (Int32 × Mem)
  | 0, _, _, _, _ => none
  | n + 1, S, a0, r1, i2 =>
    bnd (ob S r1 2) fun a1 =>
    if (mI S a1 1) = (4 : Int32) then
      (bnd (c_X5_begun S a0 (3 : Int32)) fun S5 =>
      oc (mR S5 a1 6)
        (some ((-1 : Int32), S5))
        (fun a7 =>
          if i2 ≤ (5 : Int32) then
            (bnd2 (c_X5_askBase n S5 a0 (some a7) (i2 + (1 : Int32))) fun i11_ S12 =>
            some (i11_, S12))
          else
            (some ((-1 : Int32), S5))))
    else
      (if (mI S a1 1) = (3 : Int32) then
        (bnd (c_X5_begun S a0 (2 : Int32)) fun S16 =>
        some ((16 : Int32), S16))
      else
        (bnd (c_X5_begun S a0 (1 : Int32)) fun S18 =>
        some ((10 : Int32), S18)))
set_option maxRecDepth 100000 in
set_option maxHeartbeats 4000000 in
theorem t_X5_askBase (n0 : Nat) : ∀ (S : Mem) (a0 : Nat) (r1 : Option Nat) (i2 : Int32) (w : (Int32 × Mem)) (ha : mKd S a0 = 6), c_X5_askBase n0 S a0 r1 i2 = some w → CT MX yX5_askBase cX5_askBase 4 (some .int) (1 + n0) (21 + n0 * 60) [.ref a0, va_rf r1, .int i2] S (some (.int w.1)) w.2 := by
  induction n0 with
  | zero => intro S a0 r1 i2 w ha h; cases h
  | succ n ih =>
    intro S a0 r1 i2 w ha h
    refine CT.of (lv := [(0, .ref a0), (1, va_rf r1), (2, .int i2)]) (by decide) (by cases r1 <;> exact rfl) (by cases r1 <;> exact Nat.le_of_ble_eq_true rfl) ?_
    refine J_aload_nq 1 dX5_askBase_0 rfl rfl ?_
    obtain ⟨a1, ea1, ka1, h2⟩ := ob_some h; clear h
    subst ea1
    refine J_lvst (lv' := [(0, .ref a0), (1, .ref a1), (2, .int i2)]) (st' := [.ref a1]) rfl rfl ?_
    refine J_get (k := 1) (v := .int (mI S a1 1)) dX5_askBase_1 gF_X5_77 ka1 rfl ?_
    refine J_iconst (4 : Int32) dX5_askBase_4 (by decide) ?_
    refine J_icmp_ne 40 dX5_askBase_5 (by decide) h2 (fun c3 h4 => ?_) (fun c3 h4 => ?_)
    · clear h2
      refine J_aload_n 0 dX5_askBase_8 rfl rfl ?_
      refine J_iconst (3 : Int32) dX5_askBase_9 (by decide) ?_
      obtain ⟨S5, eS5, h6⟩ := bnd_some h4; clear h4
      have cS5 := (t_X5_begun ha eS5)
      have lS5 : jle MX S S5 := cS5.1
      have hS5_a0 : mKd S5 a0 = 6 := kd_le lS5 ha
      have hS5_a1 : mKd S5 a1 = 2 := kd_le lS5 ka1
      refine J_callV (As := [.int (3 : Int32)]) (rest := []) (st' := []) cS5 gC_X5_begun gM_X5_341 (mRecv ha (by decide) jCl5) rfl (by omega) (by omega) rfl rfl (Nat.le_of_ble_eq_true rfl) dX5_askBase_10 ?_
      refine J_aload_n 1 dX5_askBase_13 rfl rfl ?_
      refine J_get (k := 6) (v := va_rf (mR S5 a1 6)) dX5_askBase_14 gF_X5_344 hS5_a1 rfl ?_
      refine J_astore_nq dX5_askBase_17 rfl (by decide) [1, 3, 0] (lv' := [(0, .ref a0), (2, .int i2), (3, va_rf (mR S5 a1 6))]) rfl ?_
      refine J_aload_nq 2 dX5_askBase_18 rfl rfl ?_
      refine J_ifnull 27 dX5_askBase_19 (by decide) h6 (fun ea7 h8 => ?_) (fun a7 ea7 h8 => ?_)
      · clear h6
        rw [ea7]
        refine J_lvst (lv' := [(0, .ref a0), (2, .int i2), (3, va_rf none)]) (st' := []) rfl rfl ?_
        refine J_iconst (-1 : Int32) dX5_askBase_27 (by decide) ?_
        refine J_goto 39 dX5_askBase_28 (by decide) ?_
        have hw := Option.some.inj h8; subst hw
        exact J_iret rfl dX5_askBase_39
      · clear h6
        rw [ea7]
        refine J_lvst (lv' := [(0, .ref a0), (2, .int i2), (3, .ref a7)]) (st' := []) rfl rfl ?_
        refine J_iload_n 1 dX5_askBase_22 rfl rfl ?_
        refine J_iconst (5 : Int32) dX5_askBase_23 (by decide) ?_
        refine J_icmp_le 31 dX5_askBase_24 (by decide) h8 (fun c9 h10 => ?_) (fun c9 h10 => ?_)
        · clear h8
          refine J_aload_n 0 dX5_askBase_31 rfl rfl ?_
          refine J_aload_n 2 dX5_askBase_32 rfl rfl ?_
          refine J_iload_n 1 dX5_askBase_33 rfl rfl ?_
          refine J_iconst (1 : Int32) dX5_askBase_34 (by decide) ?_
          refine J_iadd dX5_askBase_35 ?_
          obtain ⟨i11_, S12, ei11_, h13⟩ := bnd2_some h10; clear h10
          have cS12 := (ih S5 a0 (some a7) (i2 + (1 : Int32)) _ hS5_a0 ei11_)
          have lS12 : jle MX S5 S12 := cS12.1
          have hS12_a0 : mKd S12 a0 = 6 := kd_le lS12 hS5_a0
          have hS12_a1 : mKd S12 a1 = 2 := kd_le lS12 hS5_a1
          refine J_callV (As := [.ref a7, .int (i2 + (1 : Int32))]) (rest := []) (st' := [.int i11_]) cS12 gC_X5_askBase gM_X5_142 (mRecv hS5_a0 (by decide) jCl5) rfl (by omega) (by omega) rfl rfl (Nat.le_of_ble_eq_true rfl) dX5_askBase_36 ?_
          have hw := Option.some.inj h13; subst hw
          exact J_iret rfl dX5_askBase_39
        · clear h8
          refine J_iconst (-1 : Int32) dX5_askBase_27 (by decide) ?_
          refine J_goto 39 dX5_askBase_28 (by decide) ?_
          have hw := Option.some.inj h10; subst hw
          exact J_iret rfl dX5_askBase_39
    · clear h2
      refine J_aload_n 1 dX5_askBase_40 rfl rfl ?_
      refine J_get (k := 1) (v := .int (mI S a1 1)) dX5_askBase_41 gF_X5_77 ka1 rfl ?_
      refine J_iconst (3 : Int32) dX5_askBase_44 (by decide) ?_
      refine J_icmp_ne 56 dX5_askBase_45 (by decide) h4 (fun c14 h15 => ?_) (fun c14 h15 => ?_)
      · clear h4
        refine J_aload_n 0 dX5_askBase_48 rfl rfl ?_
        refine J_iconst (2 : Int32) dX5_askBase_49 (by decide) ?_
        obtain ⟨S16, eS16, h17⟩ := bnd_some h15; clear h15
        have cS16 := (t_X5_begun ha eS16)
        have lS16 : jle MX S S16 := cS16.1
        have hS16_a0 : mKd S16 a0 = 6 := kd_le lS16 ha
        have hS16_a1 : mKd S16 a1 = 2 := kd_le lS16 ka1
        refine J_callV (As := [.int (2 : Int32)]) (rest := []) (st' := []) cS16 gC_X5_begun gM_X5_341 (mRecv ha (by decide) jCl5) rfl (by omega) (by omega) rfl rfl (Nat.le_of_ble_eq_true rfl) dX5_askBase_50 ?_
        refine J_bipush (16 : Int32) dX5_askBase_53 (by decide) ?_
        have hw := Option.some.inj h17; subst hw
        exact J_iret rfl dX5_askBase_55
      · clear h4
        refine J_aload_n 0 dX5_askBase_56 rfl rfl ?_
        refine J_iconst (1 : Int32) dX5_askBase_57 (by decide) ?_
        obtain ⟨S18, eS18, h19⟩ := bnd_some h15; clear h15
        have cS18 := (t_X5_begun ha eS18)
        have lS18 : jle MX S S18 := cS18.1
        have hS18_a0 : mKd S18 a0 = 6 := kd_le lS18 ha
        have hS18_a1 : mKd S18 a1 = 2 := kd_le lS18 ka1
        refine J_callV (As := [.int (1 : Int32)]) (rest := []) (st' := []) cS18 gC_X5_begun gM_X5_341 (mRecv ha (by decide) jCl5) rfl (by omega) (by omega) rfl rfl (Nat.le_of_ble_eq_true rfl) dX5_askBase_58 ?_
        refine J_bipush (10 : Int32) dX5_askBase_61 (by decide) ?_
        have hw := Option.some.inj h19; subst hw
        exact J_iret rfl dX5_askBase_63
def c_X5_askBeads (S : Mem) (a0 : Nat) (r1 : Option Nat) : Option (Int32 × Mem) :=
  bnd (ob S r1 2) fun a1 =>
  if (mI S a1 1) = (4 : Int32) then
    (some ((-1 : Int32), S))
  else
    (if (mI S a1 1) = (2 : Int32) then
      (bnd (c_X5_begun S a0 (6 : Int32)) fun S7 =>
      some ((10 : Int32), S7))
    else
      (if (mI S a1 1) = 0 then
        (bnd (c_X5_begun S a0 (4 : Int32)) fun S11 =>
        some ((5 : Int32), S11))
      else
        (bnd (c_X5_begun S a0 (5 : Int32)) fun S13 =>
        bnd (c_X5_begun S13 a0 (4 : Int32)) fun S15 =>
        some ((7 : Int32), S15))))
set_option maxRecDepth 100000 in
set_option maxHeartbeats 4000000 in
theorem t_X5_askBeads {S : Mem} {a0 : Nat} {r1 : Option Nat} {w : (Int32 × Mem)} (ha : mKd S a0 = 6) (h : c_X5_askBeads S a0 r1 = some w) : CT MX yX5_askBeads cX5_askBeads 2 (some .int) 1 21 [.ref a0, va_rf r1] S (some (.int w.1)) w.2 := by
  refine CT.of (lv := [(0, .ref a0), (1, va_rf r1)]) (by decide) (by cases r1 <;> exact rfl) (by cases r1 <;> exact Nat.le_of_ble_eq_true rfl) ?_
  refine J_aload_nq 1 dX5_askBeads_0 rfl rfl ?_
  obtain ⟨a1, ea1, ka1, h2⟩ := ob_some h; clear h
  subst ea1
  refine J_lvst (lv' := [(0, .ref a0), (1, .ref a1)]) (st' := [.ref a1]) rfl rfl ?_
  refine J_get (k := 1) (v := .int (mI S a1 1)) dX5_askBeads_1 gF_X5_77 ka1 rfl ?_
  refine J_iconst (4 : Int32) dX5_askBeads_4 (by decide) ?_
  refine J_icmp_ne 10 dX5_askBeads_5 (by decide) h2 (fun c3 h4 => ?_) (fun c3 h4 => ?_)
  · clear h2
    refine J_iconst (-1 : Int32) dX5_askBeads_8 (by decide) ?_
    have hw := Option.some.inj h4; subst hw
    exact J_iret rfl dX5_askBeads_9
  · clear h2
    refine J_aload_n 1 dX5_askBeads_10 rfl rfl ?_
    refine J_get (k := 1) (v := .int (mI S a1 1)) dX5_askBeads_11 gF_X5_77 ka1 rfl ?_
    refine J_iconst (2 : Int32) dX5_askBeads_14 (by decide) ?_
    refine J_icmp_ne 27 dX5_askBeads_15 (by decide) h4 (fun c5 h6 => ?_) (fun c5 h6 => ?_)
    · clear h4
      refine J_aload_n 0 dX5_askBeads_18 rfl rfl ?_
      refine J_bipush (6 : Int32) dX5_askBeads_19 (by decide) ?_
      obtain ⟨S7, eS7, h8⟩ := bnd_some h6; clear h6
      have cS7 := (t_X5_begun ha eS7)
      have lS7 : jle MX S S7 := cS7.1
      have hS7_a0 : mKd S7 a0 = 6 := kd_le lS7 ha
      have hS7_a1 : mKd S7 a1 = 2 := kd_le lS7 ka1
      refine J_callV (As := [.int (6 : Int32)]) (rest := []) (st' := []) cS7 gC_X5_begun gM_X5_341 (mRecv ha (by decide) jCl5) rfl (by decide) (by decide) rfl rfl (Nat.le_of_ble_eq_true rfl) dX5_askBeads_21 ?_
      refine J_bipush (10 : Int32) dX5_askBeads_24 (by decide) ?_
      have hw := Option.some.inj h8; subst hw
      exact J_iret rfl dX5_askBeads_26
    · clear h4
      refine J_aload_n 1 dX5_askBeads_27 rfl rfl ?_
      refine J_get (k := 1) (v := .int (mI S a1 1)) dX5_askBeads_28 gF_X5_77 ka1 rfl ?_
      refine J_if_ne 41 dX5_askBeads_31 (by decide) h6 (fun c9 h10 => ?_) (fun c9 h10 => ?_)
      · clear h6
        refine J_aload_n 0 dX5_askBeads_34 rfl rfl ?_
        refine J_iconst (4 : Int32) dX5_askBeads_35 (by decide) ?_
        obtain ⟨S11, eS11, h12⟩ := bnd_some h10; clear h10
        have cS11 := (t_X5_begun ha eS11)
        have lS11 : jle MX S S11 := cS11.1
        have hS11_a0 : mKd S11 a0 = 6 := kd_le lS11 ha
        have hS11_a1 : mKd S11 a1 = 2 := kd_le lS11 ka1
        refine J_callV (As := [.int (4 : Int32)]) (rest := []) (st' := []) cS11 gC_X5_begun gM_X5_341 (mRecv ha (by decide) jCl5) rfl (by decide) (by decide) rfl rfl (Nat.le_of_ble_eq_true rfl) dX5_askBeads_36 ?_
        refine J_iconst (5 : Int32) dX5_askBeads_39 (by decide) ?_
        have hw := Option.some.inj h12; subst hw
        exact J_iret rfl dX5_askBeads_40
      · clear h6
        refine J_aload_n 0 dX5_askBeads_41 rfl rfl ?_
        refine J_iconst (5 : Int32) dX5_askBeads_42 (by decide) ?_
        obtain ⟨S13, eS13, h14⟩ := bnd_some h10; clear h10
        have cS13 := (t_X5_begun ha eS13)
        have lS13 : jle MX S S13 := cS13.1
        have hS13_a0 : mKd S13 a0 = 6 := kd_le lS13 ha
        have hS13_a1 : mKd S13 a1 = 2 := kd_le lS13 ka1
        refine J_callV (As := [.int (5 : Int32)]) (rest := []) (st' := []) cS13 gC_X5_begun gM_X5_341 (mRecv ha (by decide) jCl5) rfl (by decide) (by decide) rfl rfl (Nat.le_of_ble_eq_true rfl) dX5_askBeads_43 ?_
        refine J_aload_n 0 dX5_askBeads_46 rfl rfl ?_
        refine J_iconst (4 : Int32) dX5_askBeads_47 (by decide) ?_
        obtain ⟨S15, eS15, h16⟩ := bnd_some h14; clear h14
        have cS15 := (t_X5_begun hS13_a0 eS15)
        have lS15 : jle MX S13 S15 := cS15.1
        have hS15_a0 : mKd S15 a0 = 6 := kd_le lS15 hS13_a0
        have hS15_a1 : mKd S15 a1 = 2 := kd_le lS15 hS13_a1
        refine J_callV (As := [.int (4 : Int32)]) (rest := []) (st' := []) cS15 gC_X5_begun gM_X5_341 (mRecv hS13_a0 (by decide) jCl5) rfl (by decide) (by decide) rfl rfl (Nat.le_of_ble_eq_true rfl) dX5_askBeads_48 ?_
        refine J_bipush (7 : Int32) dX5_askBeads_51 (by decide) ?_
        have hw := Option.some.inj h16; subst hw
        exact J_iret rfl dX5_askBeads_53
def c_X5_askCarry : Nat → Mem → Nat → Option Nat → Int32 → Option (Int32 × Mem)
  | 0, _, _, _, _ => none
  | n + 1, S, a0, r1, i2 =>
    bnd (ob S r1 2) fun a1 =>
    if (mI S a1 1) = (2 : Int32) then
      (some ((-1 : Int32), S))
    else
      (if (mI S a1 1) = 0 then
        (bnd (c_X5_begun S a0 (7 : Int32)) fun S7 =>
        bnd2 (c_X5_askBase 10 S7 a0 (some a1) i2) fun i9_ S10 =>
        some ((i9_ - (1 : Int32)), S10))
      else
        (if (mI S a1 1) = (4 : Int32) then
          (bnd (c_X5_begun S a0 (9 : Int32)) fun S14 =>
          oc (mR S14 a1 6)
            (some ((-1 : Int32), S14))
            (fun a16 =>
              oc (mR S14 a1 7)
                (some ((-1 : Int32), S14))
                (fun a18 =>
                  if i2 ≤ (5 : Int32) then
                    (bnd2 (c_X5_askCarry n S14 a0 (some a16) (i2 + (1 : Int32))) fun i22_ S23 =>
                    if 0 ≤ i22_ then
                      (bnd2 (c_X5_askCarry n S23 a0 (some a18) (i2 + (1 : Int32))) fun i27_ S28 =>
                      if 0 ≤ i27_ then
                        (some ((i22_ + i27_), S28))
                      else
                        (some (i27_, S28)))
                    else
                      (some (i22_, S23)))
                  else
                    (some ((-1 : Int32), S14)))))
        else
          (bnd (c_X5_begun S a0 (8 : Int32)) fun S32 =>
          bnd2 (c_X5_askBeads S32 a0 (some a1)) fun i34_ S35 =>
          some (((5 : Int32) + i34_), S35))))
set_option maxRecDepth 100000 in
set_option maxHeartbeats 4000000 in
theorem t_X5_askCarry (n0 : Nat) : ∀ (S : Mem) (a0 : Nat) (r1 : Option Nat) (i2 : Int32) (w : (Int32 × Mem)) (ha : mKd S a0 = 6), c_X5_askCarry n0 S a0 r1 i2 = some w → CT MX yX5_askCarry cX5_askCarry 7 (some .int) (12 + n0) (644 + n0 * 60) [.ref a0, va_rf r1, .int i2] S (some (.int w.1)) w.2 := by
  induction n0 with
  | zero => intro S a0 r1 i2 w ha h; cases h
  | succ n ih =>
    intro S a0 r1 i2 w ha h
    refine CT.of (lv := [(0, .ref a0), (1, va_rf r1), (2, .int i2)]) (by decide) (by cases r1 <;> exact rfl) (by cases r1 <;> exact Nat.le_of_ble_eq_true rfl) ?_
    refine J_aload_nq 1 dX5_askCarry_0 rfl rfl ?_
    obtain ⟨a1, ea1, ka1, h2⟩ := ob_some h; clear h
    subst ea1
    refine J_lvst (lv' := [(0, .ref a0), (1, .ref a1), (2, .int i2)]) (st' := [.ref a1]) rfl rfl ?_
    refine J_get (k := 1) (v := .int (mI S a1 1)) dX5_askCarry_1 gF_X5_77 ka1 rfl ?_
    refine J_iconst (2 : Int32) dX5_askCarry_4 (by decide) ?_
    refine J_icmp_ne 10 dX5_askCarry_5 (by decide) h2 (fun c3 h4 => ?_) (fun c3 h4 => ?_)
    · clear h2
      refine J_iconst (-1 : Int32) dX5_askCarry_8 (by decide) ?_
      have hw := Option.some.inj h4; subst hw
      exact J_iret rfl dX5_askCarry_9
    · clear h2
      refine J_aload_n 1 dX5_askCarry_10 rfl rfl ?_
      refine J_get (k := 1) (v := .int (mI S a1 1)) dX5_askCarry_11 gF_X5_77 ka1 rfl ?_
      refine J_if_ne 32 dX5_askCarry_14 (by decide) h4 (fun c5 h6 => ?_) (fun c5 h6 => ?_)
      · clear h4
        refine J_aload_n 0 dX5_askCarry_17 rfl rfl ?_
        refine J_bipush (7 : Int32) dX5_askCarry_18 (by decide) ?_
        obtain ⟨S7, eS7, h8⟩ := bnd_some h6; clear h6
        have cS7 := (t_X5_begun ha eS7)
        have lS7 : jle MX S S7 := cS7.1
        have hS7_a0 : mKd S7 a0 = 6 := kd_le lS7 ha
        have hS7_a1 : mKd S7 a1 = 2 := kd_le lS7 ka1
        refine J_callV (As := [.int (7 : Int32)]) (rest := []) (st' := []) cS7 gC_X5_begun gM_X5_341 (mRecv ha (by decide) jCl5) rfl (by omega) (by omega) rfl rfl (Nat.le_of_ble_eq_true rfl) dX5_askCarry_20 ?_
        refine J_aload_n 0 dX5_askCarry_23 rfl rfl ?_
        refine J_aload_n 1 dX5_askCarry_24 rfl rfl ?_
        refine J_iload_n 2 dX5_askCarry_25 rfl rfl ?_
        obtain ⟨i9_, S10, ei9_, h11⟩ := bnd2_some h8; clear h8
        have cS10 := (t_X5_askBase 10 S7 a0 (some a1) i2 _ hS7_a0 ei9_)
        have lS10 : jle MX S7 S10 := cS10.1
        have hS10_a0 : mKd S10 a0 = 6 := kd_le lS10 hS7_a0
        have hS10_a1 : mKd S10 a1 = 2 := kd_le lS10 hS7_a1
        refine J_callV (As := [.ref a1, .int i2]) (rest := []) (st' := [.int i9_]) cS10 gC_X5_askBase gM_X5_142 (mRecv hS7_a0 (by decide) jCl5) rfl (by omega) (by omega) rfl rfl (Nat.le_of_ble_eq_true rfl) dX5_askCarry_26 ?_
        refine J_iconst (1 : Int32) dX5_askCarry_29 (by decide) ?_
        refine J_isub dX5_askCarry_30 ?_
        have hw := Option.some.inj h11; subst hw
        exact J_iret rfl dX5_askCarry_31
      · clear h4
        refine J_aload_n 1 dX5_askCarry_32 rfl rfl ?_
        refine J_get (k := 1) (v := .int (mI S a1 1)) dX5_askCarry_33 gF_X5_77 ka1 rfl ?_
        refine J_iconst (4 : Int32) dX5_askCarry_36 (by decide) ?_
        refine J_icmp_eq 54 dX5_askCarry_37 (by decide) h6 (fun c12 h13 => ?_) (fun c12 h13 => ?_)
        · clear h6
          refine J_aload_n 0 dX5_askCarry_54 rfl rfl ?_
          refine J_bipush (9 : Int32) dX5_askCarry_55 (by decide) ?_
          obtain ⟨S14, eS14, h15⟩ := bnd_some h13; clear h13
          have cS14 := (t_X5_begun ha eS14)
          have lS14 : jle MX S S14 := cS14.1
          have hS14_a0 : mKd S14 a0 = 6 := kd_le lS14 ha
          have hS14_a1 : mKd S14 a1 = 2 := kd_le lS14 ka1
          refine J_callV (As := [.int (9 : Int32)]) (rest := []) (st' := []) cS14 gC_X5_begun gM_X5_341 (mRecv ha (by decide) jCl5) rfl (by omega) (by omega) rfl rfl (Nat.le_of_ble_eq_true rfl) dX5_askCarry_57 ?_
          refine J_aload_n 1 dX5_askCarry_60 rfl rfl ?_
          refine J_get (k := 6) (v := va_rf (mR S14 a1 6)) dX5_askCarry_61 gF_X5_344 hS14_a1 rfl ?_
          refine J_astore_nq dX5_askCarry_64 rfl (by decide) [1, 2, 3, 0] (lv' := [(0, .ref a0), (1, .ref a1), (2, .int i2), (3, va_rf (mR S14 a1 6))]) rfl ?_
          refine J_aload_n 1 dX5_askCarry_65 rfl rfl ?_
          refine J_get (k := 7) (v := va_rf (mR S14 a1 7)) dX5_askCarry_66 gF_X5_347 hS14_a1 rfl ?_
          refine J_astoreq dX5_askCarry_69 (by decide) [1, 3, 4, 0] (lv' := [(0, .ref a0), (2, .int i2), (3, va_rf (mR S14 a1 6)), (4, va_rf (mR S14 a1 7))]) (by cases (mR S14 a1 6) <;> rfl) ?_
          refine J_aload_nq 2 dX5_askCarry_71 rfl rfl ?_
          refine J_ifnull 85 dX5_askCarry_72 (by decide) h15 (fun ea16 h17 => ?_) (fun a16 ea16 h17 => ?_)
          · clear h15
            rw [ea16]
            refine J_lvst (lv' := [(0, .ref a0), (2, .int i2), (3, va_rf none), (4, va_rf (mR S14 a1 7))]) (st' := []) rfl rfl ?_
            refine J_iconst (-1 : Int32) dX5_askCarry_85 (by decide) ?_
            have hw := Option.some.inj h17; subst hw
            exact J_iret rfl dX5_askCarry_86
          · clear h15
            rw [ea16]
            refine J_lvst (lv' := [(0, .ref a0), (2, .int i2), (3, .ref a16), (4, va_rf (mR S14 a1 7))]) (st' := []) rfl rfl ?_
            refine J_aloadq 3 dX5_askCarry_75 rfl ?_
            refine J_ifnull 85 dX5_askCarry_77 (by decide) h17 (fun ea18 h19 => ?_) (fun a18 ea18 h19 => ?_)
            · clear h17
              rw [ea18]
              refine J_lvst (lv' := [(0, .ref a0), (2, .int i2), (3, .ref a16), (4, va_rf none)]) (st' := []) rfl rfl ?_
              refine J_iconst (-1 : Int32) dX5_askCarry_85 (by decide) ?_
              have hw := Option.some.inj h19; subst hw
              exact J_iret rfl dX5_askCarry_86
            · clear h17
              rw [ea18]
              refine J_lvst (lv' := [(0, .ref a0), (2, .int i2), (3, .ref a16), (4, .ref a18)]) (st' := []) rfl rfl ?_
              refine J_iload_n 1 dX5_askCarry_80 rfl rfl ?_
              refine J_iconst (5 : Int32) dX5_askCarry_81 (by decide) ?_
              refine J_icmp_le 87 dX5_askCarry_82 (by decide) h19 (fun c20 h21 => ?_) (fun c20 h21 => ?_)
              · clear h19
                refine J_aload_n 0 dX5_askCarry_87 rfl rfl ?_
                refine J_aload_n 2 dX5_askCarry_88 rfl rfl ?_
                refine J_iload_n 1 dX5_askCarry_89 rfl rfl ?_
                refine J_iconst (1 : Int32) dX5_askCarry_90 (by decide) ?_
                refine J_iadd dX5_askCarry_91 ?_
                obtain ⟨i22_, S23, ei22_, h24⟩ := bnd2_some h21; clear h21
                have cS23 := (ih S14 a0 (some a16) (i2 + (1 : Int32)) _ hS14_a0 ei22_)
                have lS23 : jle MX S14 S23 := cS23.1
                have hS23_a0 : mKd S23 a0 = 6 := kd_le lS23 hS14_a0
                have hS23_a1 : mKd S23 a1 = 2 := kd_le lS23 hS14_a1
                refine J_callV (As := [.ref a16, .int (i2 + (1 : Int32))]) (rest := []) (st' := [.int i22_]) cS23 gC_X5_askCarry gM_X5_150 (mRecv hS14_a0 (by decide) jCl5) rfl (by omega) (by omega) rfl rfl (Nat.le_of_ble_eq_true rfl) dX5_askCarry_92 ?_
                refine J_istore dX5_askCarry_95 (by decide) [1, 2, 4, 0] (lv' := [(0, .ref a0), (2, .int i2), (4, .ref a18), (5, .int i22_)]) rfl ?_
                refine J_iload 3 dX5_askCarry_97 rfl ?_
                refine J_if_ge 105 dX5_askCarry_99 (by decide) h24 (fun c25 h26 => ?_) (fun c25 h26 => ?_)
                · clear h24
                  refine J_aload_n 0 dX5_askCarry_105 rfl rfl ?_
                  refine J_aload 2 dX5_askCarry_106 rfl ?_
                  refine J_iload_n 1 dX5_askCarry_108 rfl rfl ?_
                  refine J_iconst (1 : Int32) dX5_askCarry_109 (by decide) ?_
                  refine J_iadd dX5_askCarry_110 ?_
                  obtain ⟨i27_, S28, ei27_, h29⟩ := bnd2_some h26; clear h26
                  have cS28 := (ih S23 a0 (some a18) (i2 + (1 : Int32)) _ hS23_a0 ei27_)
                  have lS28 : jle MX S23 S28 := cS28.1
                  have hS28_a0 : mKd S28 a0 = 6 := kd_le lS28 hS23_a0
                  have hS28_a1 : mKd S28 a1 = 2 := kd_le lS28 hS23_a1
                  refine J_callV (As := [.ref a18, .int (i2 + (1 : Int32))]) (rest := []) (st' := [.int i27_]) cS28 gC_X5_askCarry gM_X5_150 (mRecv hS23_a0 (by decide) jCl5) rfl (by omega) (by omega) rfl rfl (Nat.le_of_ble_eq_true rfl) dX5_askCarry_111 ?_
                  refine J_istore dX5_askCarry_114 (by decide) [1, 4, 0] (lv' := [(0, .ref a0), (5, .int i22_), (6, .int i27_)]) rfl ?_
                  refine J_iload 2 dX5_askCarry_116 rfl ?_
                  refine J_if_ge 126 dX5_askCarry_118 (by decide) h29 (fun c30 h31 => ?_) (fun c30 h31 => ?_)
                  · clear h29
                    refine J_iload 1 dX5_askCarry_126 rfl ?_
                    refine J_iload 2 dX5_askCarry_128 rfl ?_
                    refine J_iadd dX5_askCarry_130 ?_
                    have hw := Option.some.inj h31; subst hw
                    exact J_iret rfl dX5_askCarry_131
                  · clear h29
                    refine J_iload 2 dX5_askCarry_121 rfl ?_
                    refine J_goto 131 dX5_askCarry_123 (by decide) ?_
                    have hw := Option.some.inj h31; subst hw
                    exact J_iret rfl dX5_askCarry_131
                · clear h24
                  refine J_iload 3 dX5_askCarry_102 rfl ?_
                  have hw := Option.some.inj h26; subst hw
                  exact J_iret rfl dX5_askCarry_104
              · clear h19
                refine J_iconst (-1 : Int32) dX5_askCarry_85 (by decide) ?_
                have hw := Option.some.inj h21; subst hw
                exact J_iret rfl dX5_askCarry_86
        · clear h6
          refine J_aload_n 0 dX5_askCarry_40 rfl rfl ?_
          refine J_bipush (8 : Int32) dX5_askCarry_41 (by decide) ?_
          obtain ⟨S32, eS32, h33⟩ := bnd_some h13; clear h13
          have cS32 := (t_X5_begun ha eS32)
          have lS32 : jle MX S S32 := cS32.1
          have hS32_a0 : mKd S32 a0 = 6 := kd_le lS32 ha
          have hS32_a1 : mKd S32 a1 = 2 := kd_le lS32 ka1
          refine J_callV (As := [.int (8 : Int32)]) (rest := []) (st' := []) cS32 gC_X5_begun gM_X5_341 (mRecv ha (by decide) jCl5) rfl (by omega) (by omega) rfl rfl (Nat.le_of_ble_eq_true rfl) dX5_askCarry_43 ?_
          refine J_iconst (5 : Int32) dX5_askCarry_46 (by decide) ?_
          refine J_aload_n 0 dX5_askCarry_47 rfl rfl ?_
          refine J_aload_n 1 dX5_askCarry_48 rfl rfl ?_
          obtain ⟨i34_, S35, ei34_, h36⟩ := bnd2_some h33; clear h33
          have cS35 := (t_X5_askBeads hS32_a0 ei34_)
          have lS35 : jle MX S32 S35 := cS35.1
          have hS35_a0 : mKd S35 a0 = 6 := kd_le lS35 hS32_a0
          have hS35_a1 : mKd S35 a1 = 2 := kd_le lS35 hS32_a1
          refine J_callV (As := [.ref a1]) (rest := [.int (5 : Int32)]) (st' := [.int i34_, .int (5 : Int32)]) cS35 gC_X5_askBeads gM_X5_146 (mRecv hS32_a0 (by decide) jCl5) rfl (by omega) (by omega) rfl rfl (Nat.le_of_ble_eq_true rfl) dX5_askCarry_49 ?_
          refine J_iadd dX5_askCarry_52 ?_
          have hw := Option.some.inj h36; subst hw
          exact J_iret rfl dX5_askCarry_53
def c_X5_askJudge_J55 (S : Mem) (a0 : Nat) (r1 : Option Nat) (i2 : Int32) : Option (Int32 × Mem) :=
  bnd (c_X5_begun S a0 (10 : Int32)) fun S1 =>
  bnd (ob S1 r1 2) fun a3 =>
  if (mI S1 a3 1) = (3 : Int32) then
    (some ((i2 + (1 : Int32)), S1))
  else
    (some (i2, S1))
set_option maxRecDepth 100000 in
set_option maxHeartbeats 4000000 in
theorem t_X5_askJudge_J55 {S : Mem} {a0 : Nat} {r1 : Option Nat} {i2 : Int32} {w : (Int32 × Mem)} (ha : mKd S a0 = 6) (h : c_X5_askJudge_J55 S a0 r1 i2 = some w) : J MX yX5_askJudge cX5_askJudge 3 (some .int) 1 21 55 [(0, .ref a0), (1, va_rf r1), (2, .int i2)] [] S (some (.int w.1)) w.2 := by
  refine J_aload_n 0 dX5_askJudge_55 rfl rfl ?_
  refine J_bipush (10 : Int32) dX5_askJudge_56 (by decide) ?_
  obtain ⟨S1, eS1, h2⟩ := bnd_some h; clear h
  have cS1 := (t_X5_begun ha eS1)
  have lS1 : jle MX S S1 := cS1.1
  have hS1_a0 : mKd S1 a0 = 6 := kd_le lS1 ha
  refine J_callV (As := [.int (10 : Int32)]) (rest := []) (st' := []) cS1 gC_X5_begun gM_X5_341 (mRecv ha (by decide) jCl5) rfl (by decide) (by decide) rfl rfl (Nat.le_of_ble_eq_true rfl) dX5_askJudge_58 ?_
  refine J_aload_nq 1 dX5_askJudge_61 rfl rfl ?_
  obtain ⟨a3, ea3, ka3, h4⟩ := ob_some h2; clear h2
  subst ea3
  refine J_lvst (lv' := [(0, .ref a0), (1, .ref a3), (2, .int i2)]) (st' := [.ref a3]) rfl rfl ?_
  refine J_get (k := 1) (v := .int (mI S1 a3 1)) dX5_askJudge_62 gF_X5_77 ka3 rfl ?_
  refine J_iconst (3 : Int32) dX5_askJudge_65 (by decide) ?_
  refine J_icmp_ne 75 dX5_askJudge_66 (by decide) h4 (fun c5 h6 => ?_) (fun c5 h6 => ?_)
  · clear h4
    refine J_iload_n 2 dX5_askJudge_69 rfl rfl ?_
    refine J_iconst (1 : Int32) dX5_askJudge_70 (by decide) ?_
    refine J_iadd dX5_askJudge_71 ?_
    refine J_goto 76 dX5_askJudge_72 (by decide) ?_
    have hw := Option.some.inj h6; subst hw
    exact J_iret rfl dX5_askJudge_76
  · clear h4
    refine J_iload_n 2 dX5_askJudge_75 rfl rfl ?_
    have hw := Option.some.inj h6; subst hw
    exact J_iret rfl dX5_askJudge_76
def c_X5_askJudge_J38 (S : Mem) (a0 : Nat) (r1 : Option Nat) (i2 : Int32) : Option (Int32 × Mem) :=
  bnd (ob S r1 2) fun a1 =>
  if (mI S a1 1) = 0 then
    (c_X5_askJudge_J55 S a0 (some a1) i2)
  else
    (bnd (c_X5_begun S a0 (11 : Int32)) fun S5 =>
    jLet (((2 : Int32) * i2)) fun i7_ =>
    c_X5_askJudge_J55 S5 a0 (some a1) i7_)
set_option maxRecDepth 100000 in
set_option maxHeartbeats 4000000 in
theorem t_X5_askJudge_J38 {S : Mem} {a0 : Nat} {r1 : Option Nat} {i2 : Int32} {w : (Int32 × Mem)} (ha : mKd S a0 = 6) (h : c_X5_askJudge_J38 S a0 r1 i2 = some w) : J MX yX5_askJudge cX5_askJudge 3 (some .int) 1 21 38 [(0, .ref a0), (1, va_rf r1), (2, .int i2)] [] S (some (.int w.1)) w.2 := by
  refine J_aload_nq 1 dX5_askJudge_38 rfl rfl ?_
  obtain ⟨a1, ea1, ka1, h2⟩ := ob_some h; clear h
  subst ea1
  refine J_lvst (lv' := [(0, .ref a0), (1, .ref a1), (2, .int i2)]) (st' := [.ref a1]) rfl rfl ?_
  refine J_get (k := 1) (v := .int (mI S a1 1)) dX5_askJudge_39 gF_X5_77 ka1 rfl ?_
  refine J_if_eq 55 dX5_askJudge_42 (by decide) h2 (fun c3 h4 => ?_) (fun c3 h4 => ?_)
  · clear h2
    exact t_X5_askJudge_J55 ha h4
  · clear h2
    refine J_aload_n 0 dX5_askJudge_45 rfl rfl ?_
    refine J_bipush (11 : Int32) dX5_askJudge_46 (by decide) ?_
    obtain ⟨S5, eS5, h6⟩ := bnd_some h4; clear h4
    have cS5 := (t_X5_begun ha eS5)
    have lS5 : jle MX S S5 := cS5.1
    have hS5_a0 : mKd S5 a0 = 6 := kd_le lS5 ha
    have hS5_a1 : mKd S5 a1 = 2 := kd_le lS5 ka1
    refine J_callV (As := [.int (11 : Int32)]) (rest := []) (st' := []) cS5 gC_X5_begun gM_X5_341 (mRecv ha (by decide) jCl5) rfl (by decide) (by decide) rfl rfl (Nat.le_of_ble_eq_true rfl) dX5_askJudge_48 ?_
    refine J_iconst (2 : Int32) dX5_askJudge_51 (by decide) ?_
    refine J_iload_n 2 dX5_askJudge_52 rfl rfl ?_
    refine J_imul dX5_askJudge_53 ?_
    obtain ⟨i7_, ei7_, h8⟩ := jLet_some h6; clear h6
    refine J_topI ei7_ ?_
    refine J_istore_n dX5_askJudge_54 rfl (by decide) [1, 2, 0] (lv' := [(0, .ref a0), (1, .ref a1), (2, .int i7_)]) rfl ?_
    exact t_X5_askJudge_J55 hS5_a0 h8
def c_X5_askJudge (S : Mem) (a0 : Nat) (r1 : Option Nat) : Option (Int32 × Mem) :=
  bnd (ob S r1 2) fun a1 =>
  if (mI S a1 1) = (4 : Int32) then
    (some ((-1 : Int32), S))
  else
    (if (mI S a1 1) = (2 : Int32) then
      (some ((-1 : Int32), S))
    else
      (bnd (ob S (mR S a1 5) 12) fun a7 =>
      jLet ((nI (mLn S a7))) fun i9_ =>
      if (mI S a1 1) = (3 : Int32) then
        (bnd (c_X5_begun S a0 (12 : Int32)) fun S13 =>
        c_X5_askJudge_J38 S13 a0 (some a1) i9_)
      else
        (c_X5_askJudge_J38 S a0 (some a1) i9_)))
set_option maxRecDepth 100000 in
set_option maxHeartbeats 4000000 in
theorem t_X5_askJudge {S : Mem} {a0 : Nat} {r1 : Option Nat} {w : (Int32 × Mem)} (ha : mKd S a0 = 6) (h : c_X5_askJudge S a0 r1 = some w) : CT MX yX5_askJudge cX5_askJudge 3 (some .int) 1 21 [.ref a0, va_rf r1] S (some (.int w.1)) w.2 := by
  refine CT.of (lv := [(0, .ref a0), (1, va_rf r1)]) (by decide) (by cases r1 <;> exact rfl) (by cases r1 <;> exact Nat.le_of_ble_eq_true rfl) ?_
  refine J_aload_nq 1 dX5_askJudge_0 rfl rfl ?_
  obtain ⟨a1, ea1, ka1, h2⟩ := ob_some h; clear h
  subst ea1
  refine J_lvst (lv' := [(0, .ref a0), (1, .ref a1)]) (st' := [.ref a1]) rfl rfl ?_
  refine J_get (k := 1) (v := .int (mI S a1 1)) dX5_askJudge_1 gF_X5_77 ka1 rfl ?_
  refine J_iconst (4 : Int32) dX5_askJudge_4 (by decide) ?_
  refine J_icmp_eq 16 dX5_askJudge_5 (by decide) h2 (fun c3 h4 => ?_) (fun c3 h4 => ?_)
  · clear h2
    refine J_iconst (-1 : Int32) dX5_askJudge_16 (by decide) ?_
    have hw := Option.some.inj h4; subst hw
    exact J_iret rfl dX5_askJudge_17
  · clear h2
    refine J_aload_n 1 dX5_askJudge_8 rfl rfl ?_
    refine J_get (k := 1) (v := .int (mI S a1 1)) dX5_askJudge_9 gF_X5_77 ka1 rfl ?_
    refine J_iconst (2 : Int32) dX5_askJudge_12 (by decide) ?_
    refine J_icmp_ne 18 dX5_askJudge_13 (by decide) h4 (fun c5 h6 => ?_) (fun c5 h6 => ?_)
    · clear h4
      refine J_iconst (-1 : Int32) dX5_askJudge_16 (by decide) ?_
      have hw := Option.some.inj h6; subst hw
      exact J_iret rfl dX5_askJudge_17
    · clear h4
      refine J_aload_n 1 dX5_askJudge_18 rfl rfl ?_
      refine J_get (k := 5) (v := va_rf (mR S a1 5)) dX5_askJudge_19 gF_X5_61 ka1 rfl ?_
      obtain ⟨a7, ea7, ka7, h8⟩ := ob_some h6; clear h6
      rw [ea7]
      refine J_lvst (lv' := [(0, .ref a0), (1, .ref a1)]) (st' := [.ref a7]) rfl rfl ?_
      refine J_alen (z := 4) dX5_askJudge_22 (fun _ => rfl) ka7 ?_
      obtain ⟨i9_, ei9_, h10⟩ := jLet_some h8; clear h8
      refine J_topI ei9_ ?_
      refine J_istore_n dX5_askJudge_23 rfl (by decide) [1, 2, 0] (lv' := [(0, .ref a0), (1, .ref a1), (2, .int i9_)]) rfl ?_
      refine J_aload_n 1 dX5_askJudge_24 rfl rfl ?_
      refine J_get (k := 1) (v := .int (mI S a1 1)) dX5_askJudge_25 gF_X5_77 ka1 rfl ?_
      refine J_iconst (3 : Int32) dX5_askJudge_28 (by decide) ?_
      refine J_icmp_ne 38 dX5_askJudge_29 (by decide) h10 (fun c11 h12 => ?_) (fun c11 h12 => ?_)
      · clear h10
        refine J_aload_n 0 dX5_askJudge_32 rfl rfl ?_
        refine J_bipush (12 : Int32) dX5_askJudge_33 (by decide) ?_
        obtain ⟨S13, eS13, h14⟩ := bnd_some h12; clear h12
        have cS13 := (t_X5_begun ha eS13)
        have lS13 : jle MX S S13 := cS13.1
        have hS13_a0 : mKd S13 a0 = 6 := kd_le lS13 ha
        have hS13_a1 : mKd S13 a1 = 2 := kd_le lS13 ka1
        have hS13_a7 : mKd S13 a7 = 12 := kd_le lS13 ka7
        refine J_callV (As := [.int (12 : Int32)]) (rest := []) (st' := []) cS13 gC_X5_begun gM_X5_341 (mRecv ha (by decide) jCl5) rfl (by decide) (by decide) rfl rfl (Nat.le_of_ble_eq_true rfl) dX5_askJudge_35 ?_
        exact t_X5_askJudge_J38 hS13_a0 h14
      · clear h10
        exact t_X5_askJudge_J38 ha h12
def c_X5_asks_J69 (S : Mem) (a0 : Nat) (is0 : Int32) : Option (Int32 × Mem) :=
  if 0 ≤ is0 then
    (some (is0, S))
  else
    (bnd2 (c_X5_faulted S a0 (3 : Int32)) fun i3_ S4 =>
    some (i3_, S4))
set_option maxRecDepth 100000 in
set_option maxHeartbeats 4000000 in
theorem t_X5_asks_J69 {S : Mem} {a0 : Nat} {is0 : Int32} {w : (Int32 × Mem)} (ha : mKd S a0 = 6) (h : c_X5_asks_J69 S a0 is0 = some w) : J MX yX5_asks cX5_asks 5 (some .int) 23 1270 69 [(0, .ref a0)] [.int is0] S (some (.int w.1)) w.2 := by
  refine J_istore dX5_asks_69 (by decide) [1, 0] (lv' := [(0, .ref a0), (4, .int is0)]) rfl ?_
  refine J_iload 1 dX5_asks_71 rfl ?_
  refine J_if_ge 84 dX5_asks_73 (by decide) h (fun c1 h2 => ?_) (fun c1 h2 => ?_)
  · clear h
    refine J_iload 1 dX5_asks_84 rfl ?_
    have hw := Option.some.inj h2; subst hw
    exact J_iret rfl dX5_asks_86
  · clear h
    refine J_aload_n 0 dX5_asks_76 rfl rfl ?_
    refine J_iconst (3 : Int32) dX5_asks_77 (by decide) ?_
    obtain ⟨i3_, S4, ei3_, h5⟩ := bnd2_some h2; clear h2
    have cS4 := (t_X5_faulted ha ei3_)
    have lS4 : jle MX S S4 := cS4.1
    have hS4_a0 : mKd S4 a0 = 6 := kd_le lS4 ha
    refine J_callV (As := [.int (3 : Int32)]) (rest := []) (st' := [.int i3_]) cS4 gC_X5_faulted gM_X5_45 (mRecv ha (by decide) jCl5) rfl (by decide) (by decide) rfl rfl (Nat.le_of_ble_eq_true rfl) dX5_asks_78 ?_
    refine J_goto 86 dX5_asks_81 (by decide) ?_
    have hw := Option.some.inj h5; subst hw
    exact J_iret rfl dX5_asks_86
def c_X5_asks (S : Mem) (a0 : Nat) (i1 : Int32) (i2 : Int32) : Option (Int32 × Mem) :=
  bnd (c_X5_known S a0 i1) fun r1_ =>
  oc r1_
    (some ((-1 : Int32), S))
    (fun a3 =>
      if i2 < 0 then
        (some ((-2 : Int32), S))
      else
        (if i2 ≤ (3 : Int32) then
          (if i2 = 0 then
            (bnd2 (c_X5_askBase 10 S a0 (some a3) (0 : Int32)) fun i11_ S12 =>
            c_X5_asks_J69 S12 a0 i11_)
          else
            (if i2 = (1 : Int32) then
              (bnd2 (c_X5_askBeads S a0 (some a3)) fun i16_ S17 =>
              c_X5_asks_J69 S17 a0 i16_)
            else
              (if i2 = (2 : Int32) then
                (bnd2 (c_X5_askCarry 10 S a0 (some a3) (0 : Int32)) fun i21_ S22 =>
                c_X5_asks_J69 S22 a0 i21_)
              else
                (bnd2 (c_X5_askJudge S a0 (some a3)) fun i24_ S25 =>
                c_X5_asks_J69 S25 a0 i24_))))
        else
          (some ((-2 : Int32), S))))
set_option maxRecDepth 100000 in
set_option maxHeartbeats 4000000 in
theorem t_X5_asks {S : Mem} {a0 : Nat} {i1 : Int32} {i2 : Int32} {w : (Int32 × Mem)} (ha : mKd S a0 = 6) (h : c_X5_asks S a0 i1 i2 = some w) : CT MX yX5_asks cX5_asks 5 (some .int) 23 1270 [.ref a0, .int i1, .int i2] S (some (.int w.1)) w.2 := by
  refine CT.of (lv := [(0, .ref a0), (1, .int i1), (2, .int i2)]) (by decide) rfl (Nat.le_of_ble_eq_true rfl) ?_
  refine J_aload_n 0 dX5_asks_0 rfl rfl ?_
  refine J_iload_n 1 dX5_asks_1 rfl rfl ?_
  obtain ⟨r1_, er1_, h2⟩ := bnd_some h; clear h
  refine J_callV (As := [.int i1]) (rest := []) (st' := [va_rf r1_]) (t_X5_known ha er1_) gC_X5_known gM_X5_51 (mRecv ha (by decide) jCl5) rfl (by decide) (by decide) rfl rfl (Nat.le_of_ble_eq_true rfl) dX5_asks_2 ?_
  refine J_astore_nq dX5_asks_5 rfl (by decide) [1, 3, 0] (lv' := [(0, .ref a0), (2, .int i2), (3, va_rf r1_)]) rfl ?_
  refine J_aload_nq 2 dX5_asks_6 rfl rfl ?_
  refine J_ifnonnull 12 dX5_asks_7 (by decide) h2 (fun ea3 h4 => ?_) (fun a3 ea3 h4 => ?_)
  · clear h2
    subst ea3
    refine J_lvst (lv' := [(0, .ref a0), (2, .int i2), (3, va_rf none)]) (st' := []) rfl rfl ?_
    refine J_iconst (-1 : Int32) dX5_asks_10 (by decide) ?_
    have hw := Option.some.inj h4; subst hw
    exact J_iret rfl dX5_asks_11
  · clear h2
    subst ea3
    refine J_lvst (lv' := [(0, .ref a0), (2, .int i2), (3, .ref a3)]) (st' := []) rfl rfl ?_
    refine J_iload_n 1 dX5_asks_12 rfl rfl ?_
    refine J_if_lt 21 dX5_asks_13 (by decide) h4 (fun c5 h6 => ?_) (fun c5 h6 => ?_)
    · clear h4
      refine J_bipush (-2 : Int32) dX5_asks_21 (by decide) ?_
      have hw := Option.some.inj h6; subst hw
      exact J_iret rfl dX5_asks_23
    · clear h4
      refine J_iload_n 1 dX5_asks_16 rfl rfl ?_
      refine J_iconst (3 : Int32) dX5_asks_17 (by decide) ?_
      refine J_icmp_le 24 dX5_asks_18 (by decide) h6 (fun c7 h8 => ?_) (fun c7 h8 => ?_)
      · clear h6
        refine J_iload_n 1 dX5_asks_24 rfl rfl ?_
        refine J_if_ne 37 dX5_asks_25 (by decide) h8 (fun c9 h10 => ?_) (fun c9 h10 => ?_)
        · clear h8
          refine J_aload_n 0 dX5_asks_28 rfl rfl ?_
          refine J_aload_n 2 dX5_asks_29 rfl rfl ?_
          refine J_iconst (0 : Int32) dX5_asks_30 (by decide) ?_
          obtain ⟨i11_, S12, ei11_, h13⟩ := bnd2_some h10; clear h10
          have cS12 := (t_X5_askBase 10 S a0 (some a3) (0 : Int32) _ ha ei11_)
          have lS12 : jle MX S S12 := cS12.1
          have hS12_a0 : mKd S12 a0 = 6 := kd_le lS12 ha
          refine J_callV (As := [.ref a3, .int (0 : Int32)]) (rest := []) (st' := [.int i11_]) cS12 gC_X5_askBase gM_X5_142 (mRecv ha (by decide) jCl5) rfl (by decide) (by decide) rfl rfl (Nat.le_of_ble_eq_true rfl) dX5_asks_31 ?_
          refine J_goto 69 dX5_asks_34 (by decide) ?_
          refine J_lv [0] rfl ?_
          exact t_X5_asks_J69 hS12_a0 h13
        · clear h8
          refine J_iload_n 1 dX5_asks_37 rfl rfl ?_
          refine J_iconst (1 : Int32) dX5_asks_38 (by decide) ?_
          refine J_icmp_ne 50 dX5_asks_39 (by decide) h10 (fun c14 h15 => ?_) (fun c14 h15 => ?_)
          · clear h10
            refine J_aload_n 0 dX5_asks_42 rfl rfl ?_
            refine J_aload_n 2 dX5_asks_43 rfl rfl ?_
            obtain ⟨i16_, S17, ei16_, h18⟩ := bnd2_some h15; clear h15
            have cS17 := (t_X5_askBeads ha ei16_)
            have lS17 : jle MX S S17 := cS17.1
            have hS17_a0 : mKd S17 a0 = 6 := kd_le lS17 ha
            refine J_callV (As := [.ref a3]) (rest := []) (st' := [.int i16_]) cS17 gC_X5_askBeads gM_X5_146 (mRecv ha (by decide) jCl5) rfl (by decide) (by decide) rfl rfl (Nat.le_of_ble_eq_true rfl) dX5_asks_44 ?_
            refine J_goto 69 dX5_asks_47 (by decide) ?_
            refine J_lv [0] rfl ?_
            exact t_X5_asks_J69 hS17_a0 h18
          · clear h10
            refine J_iload_n 1 dX5_asks_50 rfl rfl ?_
            refine J_iconst (2 : Int32) dX5_asks_51 (by decide) ?_
            refine J_icmp_ne 64 dX5_asks_52 (by decide) h15 (fun c19 h20 => ?_) (fun c19 h20 => ?_)
            · clear h15
              refine J_aload_n 0 dX5_asks_55 rfl rfl ?_
              refine J_aload_n 2 dX5_asks_56 rfl rfl ?_
              refine J_iconst (0 : Int32) dX5_asks_57 (by decide) ?_
              obtain ⟨i21_, S22, ei21_, h23⟩ := bnd2_some h20; clear h20
              have cS22 := (t_X5_askCarry 10 S a0 (some a3) (0 : Int32) _ ha ei21_)
              have lS22 : jle MX S S22 := cS22.1
              have hS22_a0 : mKd S22 a0 = 6 := kd_le lS22 ha
              refine J_callV (As := [.ref a3, .int (0 : Int32)]) (rest := []) (st' := [.int i21_]) cS22 gC_X5_askCarry gM_X5_150 (mRecv ha (by decide) jCl5) rfl (by decide) (by decide) rfl rfl (Nat.le_of_ble_eq_true rfl) dX5_asks_58 ?_
              refine J_goto 69 dX5_asks_61 (by decide) ?_
              refine J_lv [0] rfl ?_
              exact t_X5_asks_J69 hS22_a0 h23
            · clear h15
              refine J_aload_n 0 dX5_asks_64 rfl rfl ?_
              refine J_aload_n 2 dX5_asks_65 rfl rfl ?_
              obtain ⟨i24_, S25, ei24_, h26⟩ := bnd2_some h20; clear h20
              have cS25 := (t_X5_askJudge ha ei24_)
              have lS25 : jle MX S S25 := cS25.1
              have hS25_a0 : mKd S25 a0 = 6 := kd_le lS25 ha
              refine J_callV (As := [.ref a3]) (rest := []) (st' := [.int i24_]) cS25 gC_X5_askJudge gM_X5_153 (mRecv ha (by decide) jCl5) rfl (by decide) (by decide) rfl rfl (Nat.le_of_ble_eq_true rfl) dX5_asks_66 ?_
              refine J_lv [0] rfl ?_
              exact t_X5_asks_J69 hS25_a0 h26
      · clear h6
        refine J_bipush (-2 : Int32) dX5_asks_21 (by decide) ?_
        have hw := Option.some.inj h8; subst hw
        exact J_iret rfl dX5_asks_23
def c_X5_trace (S : Mem) (a0 : Nat) : Option Int32 :=
  some (mI S a0 7)
set_option maxRecDepth 100000 in
set_option maxHeartbeats 4000000 in
theorem t_X5_trace {S : Mem} {a0 : Nat} {w : Int32} (ha : mKd S a0 = 6) (h : c_X5_trace S a0 = some w) : CT MX yX5_trace cX5_trace 1 (some .int) 0 0 [.ref a0] S (some (.int w)) S := by
  refine CT.of (lv := [(0, .ref a0)]) (by decide) rfl (Nat.le_of_ble_eq_true rfl) ?_
  refine J_aload_n 0 dX5_trace_0 rfl rfl ?_
  refine J_get (k := 7) (v := .int (mI S a0 7)) dX5_trace_1 gF_X5_156 ha rfl ?_
  have hw := Option.some.inj h; subst hw
  exact J_iret rfl dX5_trace_4
def c_X5_copyWithin_J25 (k3 : Mem → Option Nat → Int32 → Int32 → Int32 → Int32 → Option (Int32 × Mem)) (S : Mem) (r0 : Option Nat) (i1 : Int32) (i2 : Int32) (i3 : Int32) (i4 : Int32) (is0 : Int32) : Option (Int32 × Mem) :=
  bnd (ob S r0 2) fun a1 =>
  bnd (ob S (mR S a1 5) 12) fun a3 =>
  gd (inB (i2 + is0) (mLn S a3)) <|
  bnd (ob S (mR S a1 5) 12) fun a7 =>
  gd (inB (i1 + is0) (mLn S a7)) <|
  bnd (ob S (mR S a3 (Int32.toNatClampNeg (i2 + is0))) 5) fun a11 =>
  bnd (c_X4_become S a11 (mR S a7 (Int32.toNatClampNeg (i1 + is0)))) fun S13 =>
  k3 S13 (some a1) i1 i2 i3 (i4 + (1 : Int32))
set_option maxRecDepth 100000 in
set_option maxHeartbeats 4000000 in
theorem t_X5_copyWithin_J25 {k3 : Mem → Option Nat → Int32 → Int32 → Int32 → Int32 → Option (Int32 × Mem)} {S : Mem} {r0 : Option Nat} {i1 : Int32} {i2 : Int32} {i3 : Int32} {i4 : Int32} {is0 : Int32} {w : (Int32 × Mem)} (hk3 : ∀ (S : Mem) (r0 : Option Nat) (i1 : Int32) (i2 : Int32) (i3 : Int32) (i4 : Int32), k3 S r0 i1 i2 i3 i4 = some w → J MX yX5_copyWithin cX5_copyWithin 6 (some .int) 1 21 3 [(0, va_rf r0), (1, .int i1), (2, .int i2), (3, .int i3), (4, .int i4)] [] S (some (.int w.1)) w.2) (h : c_X5_copyWithin_J25 k3 S r0 i1 i2 i3 i4 is0 = some w) : J MX yX5_copyWithin cX5_copyWithin 6 (some .int) 1 21 25 [(0, va_rf r0), (1, .int i1), (2, .int i2), (3, .int i3), (4, .int i4)] [.int is0] S (some (.int w.1)) w.2 := by
  refine J_istore dX5_copyWithin_25 (by decide) [1, 2, 3, 4, 5, 0] (lv' := [(0, va_rf r0), (1, .int i1), (2, .int i2), (3, .int i3), (4, .int i4), (5, .int is0)]) rfl ?_
  refine J_aload_nq 0 dX5_copyWithin_27 rfl rfl ?_
  obtain ⟨a1, ea1, ka1, h2⟩ := ob_some h; clear h
  subst ea1
  refine J_lvst (lv' := [(0, .ref a1), (1, .int i1), (2, .int i2), (3, .int i3), (4, .int i4), (5, .int is0)]) (st' := [.ref a1]) rfl rfl ?_
  refine J_get (k := 5) (v := va_rf (mR S a1 5)) dX5_copyWithin_28 gF_X5_61 ka1 rfl ?_
  refine J_iload_n 2 dX5_copyWithin_31 rfl rfl ?_
  refine J_iload 5 dX5_copyWithin_32 rfl ?_
  refine J_iadd dX5_copyWithin_34 ?_
  obtain ⟨a3, ea3, ka3, h4⟩ := ob_some h2; clear h2
  rw [ea3]
  refine J_lvst (lv' := [(0, .ref a1), (1, .int i1), (2, .int i2), (3, .int i3), (4, .int i4), (5, .int is0)]) (st' := [.int (i2 + is0), .ref a3]) rfl rfl ?_
  obtain ⟨g5, h6⟩ := gd_some h4; clear h4
  refine J_aald (z := 4) (C := RX4) dX5_copyWithin_35 (fun _ => rfl) (fun _ _ => rfl) ka3 g5 ?_
  refine J_aload_n 0 dX5_copyWithin_36 rfl rfl ?_
  refine J_get (k := 5) (v := va_rf (mR S a1 5)) dX5_copyWithin_37 gF_X5_61 ka1 rfl ?_
  refine J_iload_n 1 dX5_copyWithin_40 rfl rfl ?_
  refine J_iload 5 dX5_copyWithin_41 rfl ?_
  refine J_iadd dX5_copyWithin_43 ?_
  obtain ⟨a7, ea7, ka7, h8⟩ := ob_some h6; clear h6
  rw [ea7]
  refine J_lvst (lv' := [(0, .ref a1), (1, .int i1), (2, .int i2), (3, .int i3), (4, .int i4), (5, .int is0)]) (st' := [.int (i1 + is0), .ref a7, va_rf (mR S a3 (Int32.toNatClampNeg (i2 + is0)))]) rfl rfl ?_
  obtain ⟨g9, h10⟩ := gd_some h8; clear h8
  refine J_aald (z := 4) (C := RX4) dX5_copyWithin_44 (fun _ => rfl) (fun _ _ => rfl) ka7 g9 ?_
  obtain ⟨a11, ea11, ka11, h12⟩ := ob_some h10; clear h10
  rw [ea11]
  refine J_lvst (lv' := [(0, .ref a1), (1, .int i1), (2, .int i2), (3, .int i3), (4, .int i4), (5, .int is0)]) (st' := [va_rf (mR S a7 (Int32.toNatClampNeg (i1 + is0))), .ref a11]) rfl rfl ?_
  obtain ⟨S13, eS13, h14⟩ := bnd_some h12; clear h12
  have cS13 := (t_X4_become ka11 eS13)
  have lS13 : jle MX S S13 := cS13.1
  have hS13_a1 : mKd S13 a1 = 2 := kd_le lS13 ka1
  have hS13_a3 : mKd S13 a3 = 12 := kd_le lS13 ka3
  have hS13_a7 : mKd S13 a7 = 12 := kd_le lS13 ka7
  have hS13_a11 : mKd S13 a11 = 5 := kd_le lS13 ka11
  refine J_callV (As := [va_rf (mR S a7 (Int32.toNatClampNeg (i1 + is0)))]) (rest := []) (st' := []) cS13 gC_X4_become gM_X5_325 (mRecv ka11 (by decide) jCl4) rfl (by decide) (by decide) rfl rfl (Nat.le_of_ble_eq_true rfl) dX5_copyWithin_45 ?_
  refine J_iinc 4 (1 : Int32) dX5_copyWithin_48 rfl (by decide) (by decide) [1, 2, 3, 4, 0, 5] (lv' := [(0, .ref a1), (1, .int i1), (2, .int i2), (3, .int i3), (4, .int (i4 + (1 : Int32))), (5, .int is0)]) rfl ?_
  refine J_goto 3 dX5_copyWithin_51 (by decide) ?_
  refine J_lv [0, 1, 2, 3, 4] rfl ?_
  exact hk3 S13 (some a1) i1 i2 i3 (i4 + (1 : Int32)) h14
def c_X5_copyWithin_L3 : Nat → Mem → Option Nat → Int32 → Int32 → Int32 → Int32 → Option (Int32 × Mem)
  | 0, _, _, _, _, _, _ => none
  | n + 1, S, r0, i1, i2, i3, i4 =>
    if i3 ≤ i4 then
      (some (i3, S))
    else
      (if i1 < i2 then
        (c_X5_copyWithin_J25 (c_X5_copyWithin_L3 n) S r0 i1 i2 i3 i4 ((i3 - (1 : Int32)) - i4))
      else
        (c_X5_copyWithin_J25 (c_X5_copyWithin_L3 n) S r0 i1 i2 i3 i4 i4))
set_option maxRecDepth 100000 in
set_option maxHeartbeats 4000000 in
theorem t_X5_copyWithin_L3 {w : (Int32 × Mem)} (n : Nat) : ∀ (S : Mem) (r0 : Option Nat) (i1 : Int32) (i2 : Int32) (i3 : Int32) (i4 : Int32), c_X5_copyWithin_L3 n S r0 i1 i2 i3 i4 = some w → J MX yX5_copyWithin cX5_copyWithin 6 (some .int) 1 21 3 [(0, va_rf r0), (1, .int i1), (2, .int i2), (3, .int i3), (4, .int i4)] [] S (some (.int w.1)) w.2 := by
  induction n with
  | zero => intro S r0 i1 i2 i3 i4 h; cases h
  | succ n lh =>
    intro S r0 i1 i2 i3 i4 h
    refine J_iload 4 dX5_copyWithin_3 rfl ?_
    refine J_iload_n 3 dX5_copyWithin_5 rfl rfl ?_
    refine J_icmp_ge 54 dX5_copyWithin_6 (by decide) h (fun c1 h2 => ?_) (fun c1 h2 => ?_)
    · clear h
      refine J_iload_n 3 dX5_copyWithin_54 rfl rfl ?_
      have hw := Option.some.inj h2; subst hw
      exact J_iret rfl dX5_copyWithin_55
    · clear h
      refine J_iload_n 2 dX5_copyWithin_9 rfl rfl ?_
      refine J_iload_n 1 dX5_copyWithin_10 rfl rfl ?_
      refine J_icmp_gt 19 dX5_copyWithin_11 (by decide) h2 (fun c3 h4 => ?_) (fun c3 h4 => ?_)
      · clear h2
        refine J_iload_n 3 dX5_copyWithin_19 rfl rfl ?_
        refine J_iconst (1 : Int32) dX5_copyWithin_20 (by decide) ?_
        refine J_isub dX5_copyWithin_21 ?_
        refine J_iload 4 dX5_copyWithin_22 rfl ?_
        refine J_isub dX5_copyWithin_24 ?_
        exact t_X5_copyWithin_J25 lh h4
      · clear h2
        refine J_iload 4 dX5_copyWithin_14 rfl ?_
        refine J_goto 25 dX5_copyWithin_16 (by decide) ?_
        exact t_X5_copyWithin_J25 lh h4
def c_X5_copyWithin (S : Mem) (r0 : Option Nat) (i1 : Int32) (i2 : Int32) (i3 : Int32) : Option (Int32 × Mem) :=
  c_X5_copyWithin_L3 bigN S r0 i1 i2 i3 (0 : Int32)
set_option maxRecDepth 100000 in
set_option maxHeartbeats 4000000 in
theorem t_X5_copyWithin {S : Mem} {r0 : Option Nat} {i1 : Int32} {i2 : Int32} {i3 : Int32} {w : (Int32 × Mem)} (h : c_X5_copyWithin S r0 i1 i2 i3 = some w) : CT MX yX5_copyWithin cX5_copyWithin 6 (some .int) 1 21 [va_rf r0, .int i1, .int i2, .int i3] S (some (.int w.1)) w.2 := by
  refine CT.of (lv := [(0, va_rf r0), (1, .int i1), (2, .int i2), (3, .int i3)]) (by decide) (by cases r0 <;> exact rfl) (by cases r0 <;> exact Nat.le_of_ble_eq_true rfl) ?_
  refine J_iconst (0 : Int32) dX5_copyWithin_0 (by decide) ?_
  refine J_istore dX5_copyWithin_1 (by decide) [1, 2, 3, 4, 0] (lv' := [(0, va_rf r0), (1, .int i1), (2, .int i2), (3, .int i3), (4, .int (0 : Int32))]) rfl ?_
  exact t_X5_copyWithin_L3 bigN S r0 i1 i2 i3 (0 : Int32) h
def c_X5_copyAcross_L3 : Nat → Mem → Option Nat → Int32 → Option Nat → Int32 → Int32 → Int32 → Option (Int32 × Mem)
  | 0, _, _, _, _, _, _, _ => none
  | n + 1, S, r0, i1, r2, i3, i4, i5 =>
    if i4 ≤ i5 then
      (some ((if i4 < (0 : Int32) then (0 : Int32) else i4), S))
    else
      (bnd (ob S r0 2) fun a3 =>
      bnd (c_X1_holds S a3 (i1 + i5)) fun i5_ =>
      if i5_ = 0 then
        (some (i5, S))
      else
        (bnd (ob S r2 2) fun a9 =>
        bnd (c_X1_holds S a9 (i3 + i5)) fun i11_ =>
        if i11_ = 0 then
          (some (i5, S))
        else
          (bnd (ob S (mR S a9 5) 12) fun a15 =>
          gd (inB (i3 + i5) (mLn S a15)) <|
          bnd (ob S (mR S a3 5) 12) fun a19 =>
          gd (inB (i1 + i5) (mLn S a19)) <|
          bnd (ob S (mR S a15 (Int32.toNatClampNeg (i3 + i5))) 5) fun a23 =>
          bnd (c_X4_become S a23 (mR S a19 (Int32.toNatClampNeg (i1 + i5)))) fun S25 =>
          c_X5_copyAcross_L3 n S25 (some a3) i1 (some a9) i3 i4 (i5 + (1 : Int32)))))
set_option maxRecDepth 100000 in
set_option maxHeartbeats 4000000 in
theorem t_X5_copyAcross_L3 {w : (Int32 × Mem)} (n : Nat) : ∀ (S : Mem) (r0 : Option Nat) (i1 : Int32) (r2 : Option Nat) (i3 : Int32) (i4 : Int32) (i5 : Int32), c_X5_copyAcross_L3 n S r0 i1 r2 i3 i4 i5 = some w → J MX yX5_copyAcross cX5_copyAcross 6 (some .int) 1 40 3 [(0, va_rf r0), (1, .int i1), (2, va_rf r2), (3, .int i3), (4, .int i4), (5, .int i5)] [] S (some (.int w.1)) w.2 := by
  induction n with
  | zero => intro S r0 i1 r2 i3 i4 i5 h; cases h
  | succ n lh =>
    intro S r0 i1 r2 i3 i4 i5 h
    refine J_iload 5 dX5_copyAcross_3 rfl ?_
    refine J_iload 4 dX5_copyAcross_5 rfl ?_
    refine J_icmp_ge 62 dX5_copyAcross_7 (by decide) h (fun c1 h2 => ?_) (fun c1 h2 => ?_)
    · clear h
      refine J_iload 4 dX5_copyAcross_62 rfl ?_
      refine J_iconst (0 : Int32) dX5_copyAcross_64 (by decide) ?_
      refine J_mmax dX5_copyAcross_65 gM_X5_68 (by decide) (by decide) (Nat.le_of_ble_eq_true rfl) ?_
      have hw := Option.some.inj h2; subst hw
      exact J_iret rfl dX5_copyAcross_68
    · clear h
      refine J_aload_nq 0 dX5_copyAcross_10 rfl rfl ?_
      refine J_iload_n 1 dX5_copyAcross_11 rfl rfl ?_
      refine J_iload 5 dX5_copyAcross_12 rfl ?_
      refine J_iadd dX5_copyAcross_14 ?_
      obtain ⟨a3, ea3, ka3, h4⟩ := ob_some h2; clear h2
      subst ea3
      refine J_lvst (lv' := [(0, .ref a3), (1, .int i1), (2, va_rf r2), (3, .int i3), (4, .int i4), (5, .int i5)]) (st' := [.int (i1 + i5), .ref a3]) rfl rfl ?_
      obtain ⟨i5_, ei5_, h6⟩ := bnd_some h4; clear h4
      refine J_callV (As := [.int (i1 + i5)]) (rest := []) (st' := [.int i5_]) (t_X1_holds ka3 ei5_) gC_X1_holds gM_X5_80 (mRecv ka3 (by decide) jCl1) rfl (by decide) (by decide) rfl rfl (Nat.le_of_ble_eq_true rfl) dX5_copyAcross_15 ?_
      refine J_if_eq 32 dX5_copyAcross_18 (by decide) h6 (fun c7 h8 => ?_) (fun c7 h8 => ?_)
      · clear h6
        refine J_iload 5 dX5_copyAcross_32 rfl ?_
        have hw := Option.some.inj h8; subst hw
        exact J_iret rfl dX5_copyAcross_34
      · clear h6
        refine J_aload_nq 2 dX5_copyAcross_21 rfl rfl ?_
        refine J_iload_n 3 dX5_copyAcross_22 rfl rfl ?_
        refine J_iload 5 dX5_copyAcross_23 rfl ?_
        refine J_iadd dX5_copyAcross_25 ?_
        obtain ⟨a9, ea9, ka9, h10⟩ := ob_some h8; clear h8
        subst ea9
        refine J_lvst (lv' := [(0, .ref a3), (1, .int i1), (2, .ref a9), (3, .int i3), (4, .int i4), (5, .int i5)]) (st' := [.int (i3 + i5), .ref a9]) rfl rfl ?_
        obtain ⟨i11_, ei11_, h12⟩ := bnd_some h10; clear h10
        refine J_callV (As := [.int (i3 + i5)]) (rest := []) (st' := [.int i11_]) (t_X1_holds ka9 ei11_) gC_X1_holds gM_X5_80 (mRecv ka9 (by decide) jCl1) rfl (by decide) (by decide) rfl rfl (Nat.le_of_ble_eq_true rfl) dX5_copyAcross_26 ?_
        refine J_if_ne 35 dX5_copyAcross_29 (by decide) h12 (fun c13 h14 => ?_) (fun c13 h14 => ?_)
        · clear h12
          refine J_iload 5 dX5_copyAcross_32 rfl ?_
          have hw := Option.some.inj h14; subst hw
          exact J_iret rfl dX5_copyAcross_34
        · clear h12
          refine J_aload_n 2 dX5_copyAcross_35 rfl rfl ?_
          refine J_get (k := 5) (v := va_rf (mR S a9 5)) dX5_copyAcross_36 gF_X5_61 ka9 rfl ?_
          refine J_iload_n 3 dX5_copyAcross_39 rfl rfl ?_
          refine J_iload 5 dX5_copyAcross_40 rfl ?_
          refine J_iadd dX5_copyAcross_42 ?_
          obtain ⟨a15, ea15, ka15, h16⟩ := ob_some h14; clear h14
          rw [ea15]
          refine J_lvst (lv' := [(0, .ref a3), (1, .int i1), (2, .ref a9), (3, .int i3), (4, .int i4), (5, .int i5)]) (st' := [.int (i3 + i5), .ref a15]) rfl rfl ?_
          obtain ⟨g17, h18⟩ := gd_some h16; clear h16
          refine J_aald (z := 4) (C := RX4) dX5_copyAcross_43 (fun _ => rfl) (fun _ _ => rfl) ka15 g17 ?_
          refine J_aload_n 0 dX5_copyAcross_44 rfl rfl ?_
          refine J_get (k := 5) (v := va_rf (mR S a3 5)) dX5_copyAcross_45 gF_X5_61 ka3 rfl ?_
          refine J_iload_n 1 dX5_copyAcross_48 rfl rfl ?_
          refine J_iload 5 dX5_copyAcross_49 rfl ?_
          refine J_iadd dX5_copyAcross_51 ?_
          obtain ⟨a19, ea19, ka19, h20⟩ := ob_some h18; clear h18
          rw [ea19]
          refine J_lvst (lv' := [(0, .ref a3), (1, .int i1), (2, .ref a9), (3, .int i3), (4, .int i4), (5, .int i5)]) (st' := [.int (i1 + i5), .ref a19, va_rf (mR S a15 (Int32.toNatClampNeg (i3 + i5)))]) rfl rfl ?_
          obtain ⟨g21, h22⟩ := gd_some h20; clear h20
          refine J_aald (z := 4) (C := RX4) dX5_copyAcross_52 (fun _ => rfl) (fun _ _ => rfl) ka19 g21 ?_
          obtain ⟨a23, ea23, ka23, h24⟩ := ob_some h22; clear h22
          rw [ea23]
          refine J_lvst (lv' := [(0, .ref a3), (1, .int i1), (2, .ref a9), (3, .int i3), (4, .int i4), (5, .int i5)]) (st' := [va_rf (mR S a19 (Int32.toNatClampNeg (i1 + i5))), .ref a23]) rfl rfl ?_
          obtain ⟨S25, eS25, h26⟩ := bnd_some h24; clear h24
          have cS25 := (t_X4_become ka23 eS25)
          have lS25 : jle MX S S25 := cS25.1
          have hS25_a3 : mKd S25 a3 = 2 := kd_le lS25 ka3
          have hS25_a9 : mKd S25 a9 = 2 := kd_le lS25 ka9
          have hS25_a15 : mKd S25 a15 = 12 := kd_le lS25 ka15
          have hS25_a19 : mKd S25 a19 = 12 := kd_le lS25 ka19
          have hS25_a23 : mKd S25 a23 = 5 := kd_le lS25 ka23
          refine J_callV (As := [va_rf (mR S a19 (Int32.toNatClampNeg (i1 + i5)))]) (rest := []) (st' := []) cS25 gC_X4_become gM_X5_325 (mRecv ka23 (by decide) jCl4) rfl (by decide) (by decide) rfl rfl (Nat.le_of_ble_eq_true rfl) dX5_copyAcross_53 ?_
          refine J_iinc 5 (1 : Int32) dX5_copyAcross_56 rfl (by decide) (by decide) [1, 2, 3, 4, 5, 0] (lv' := [(0, .ref a3), (1, .int i1), (2, .ref a9), (3, .int i3), (4, .int i4), (5, .int (i5 + (1 : Int32)))]) rfl ?_
          refine J_goto 3 dX5_copyAcross_59 (by decide) ?_
          exact lh S25 (some a3) i1 (some a9) i3 i4 (i5 + (1 : Int32)) h26
def c_X5_copyAcross (S : Mem) (r0 : Option Nat) (i1 : Int32) (r2 : Option Nat) (i3 : Int32) (i4 : Int32) : Option (Int32 × Mem) :=
  c_X5_copyAcross_L3 bigN S r0 i1 r2 i3 i4 (0 : Int32)
set_option maxRecDepth 100000 in
set_option maxHeartbeats 4000000 in
theorem t_X5_copyAcross {S : Mem} {r0 : Option Nat} {i1 : Int32} {r2 : Option Nat} {i3 : Int32} {i4 : Int32} {w : (Int32 × Mem)} (h : c_X5_copyAcross S r0 i1 r2 i3 i4 = some w) : CT MX yX5_copyAcross cX5_copyAcross 6 (some .int) 1 40 [va_rf r0, .int i1, va_rf r2, .int i3, .int i4] S (some (.int w.1)) w.2 := by
  refine CT.of (lv := [(0, va_rf r0), (1, .int i1), (2, va_rf r2), (3, .int i3), (4, .int i4)]) (by decide) (by cases r0 <;> cases r2 <;> exact rfl) (by cases r0 <;> cases r2 <;> exact Nat.le_of_ble_eq_true rfl) ?_
  refine J_iconst (0 : Int32) dX5_copyAcross_0 (by decide) ?_
  refine J_istore dX5_copyAcross_1 (by decide) [1, 2, 3, 4, 5, 0] (lv' := [(0, va_rf r0), (1, .int i1), (2, va_rf r2), (3, .int i3), (4, .int i4), (5, .int (0 : Int32))]) rfl ?_
  exact t_X5_copyAcross_L3 bigN S r0 i1 r2 i3 i4 (0 : Int32) h
def c_X5_copy_J169 (S : Mem) (a0 : Nat) (i5 : Int32) (is1 : Int32) : Option (Int32 × Mem) :=
  jLet (mSI S a0 8 is1) fun S1 =>
  if i5 ≤ (mI S1 a0 8) then
    (some ((mI S1 a0 8), S1))
  else
    (bnd2 (c_X5_faulted S1 a0 (2 : Int32)) fun i5_ S6 =>
    some (i5_, S6))
set_option maxRecDepth 100000 in
set_option maxHeartbeats 4000000 in
theorem t_X5_copy_J169 {S : Mem} {a0 : Nat} {i5 : Int32} {is1 : Int32} {w : (Int32 × Mem)} (ha : mKd S a0 = 6) (h : c_X5_copy_J169 S a0 i5 is1 = some w) : J MX yX5_copy cX5_copy 9 (some .int) 2 65 169 [(0, .ref a0), (5, .int i5)] [.int is1, .ref a0] S (some (.int w.1)) w.2 := by
  refine J_putI (k := 8) dX5_copy_169 gW_X5_163 ha rfl ?_
  obtain ⟨S1, eS1, h2⟩ := jLet_some h; clear h
  refine J_topS eS1 ?_
  have hS1_a0 : mKd S1 a0 = 6 := by rw [eS1]; exact ha
  refine J_aload_n 0 dX5_copy_172 rfl rfl ?_
  refine J_get (k := 8) (v := .int (mI S1 a0 8)) dX5_copy_173 gF_X5_163 hS1_a0 rfl ?_
  refine J_iload 1 dX5_copy_176 rfl ?_
  refine J_icmp_ge 189 dX5_copy_178 (by decide) h2 (fun c3 h4 => ?_) (fun c3 h4 => ?_)
  · clear h2
    refine J_aload_n 0 dX5_copy_189 rfl rfl ?_
    refine J_get (k := 8) (v := .int (mI S1 a0 8)) dX5_copy_190 gF_X5_163 hS1_a0 rfl ?_
    have hw := Option.some.inj h4; subst hw
    exact J_iret rfl dX5_copy_193
  · clear h2
    refine J_aload_n 0 dX5_copy_181 rfl rfl ?_
    refine J_iconst (2 : Int32) dX5_copy_182 (by decide) ?_
    obtain ⟨i5_, S6, ei5_, h7⟩ := bnd2_some h4; clear h4
    have cS6 := (t_X5_faulted hS1_a0 ei5_)
    have lS6 : jle MX S1 S6 := cS6.1
    have hS6_a0 : mKd S6 a0 = 6 := kd_le lS6 hS1_a0
    refine J_callV (As := [.int (2 : Int32)]) (rest := []) (st' := [.int i5_]) cS6 gC_X5_faulted gM_X5_45 (mRecv hS1_a0 (by decide) jCl5) rfl (by decide) (by decide) rfl rfl (Nat.le_of_ble_eq_true rfl) dX5_copy_183 ?_
    refine J_goto 193 dX5_copy_186 (by decide) ?_
    have hw := Option.some.inj h7; subst hw
    exact J_iret rfl dX5_copy_193
def c_X5_copy_J138 (S : Mem) (a0 : Nat) (i1 : Int32) (i2 : Int32) (i3 : Int32) (i4 : Int32) (i5 : Int32) (r6 : Option Nat) (r7 : Option Nat) : Option (Int32 × Mem) :=
  if i1 = i3 then
    (bnd2 (c_X5_copyWithin S r6 i2 i4 i5) fun i3_ S4 =>
    c_X5_copy_J169 S4 a0 i5 i3_)
  else
    (bnd2 (c_X5_copyAcross S r6 i2 r7 i4 i5) fun i6_ S7 =>
    c_X5_copy_J169 S7 a0 i5 i6_)
set_option maxRecDepth 100000 in
set_option maxHeartbeats 4000000 in
theorem t_X5_copy_J138 {S : Mem} {a0 : Nat} {i1 : Int32} {i2 : Int32} {i3 : Int32} {i4 : Int32} {i5 : Int32} {r6 : Option Nat} {r7 : Option Nat} {w : (Int32 × Mem)} (ha : mKd S a0 = 6) (h : c_X5_copy_J138 S a0 i1 i2 i3 i4 i5 r6 r7 = some w) : J MX yX5_copy cX5_copy 9 (some .int) 2 65 138 [(0, .ref a0), (1, .int i1), (2, .int i2), (3, .int i3), (4, .int i4), (5, .int i5), (6, va_rf r6), (7, va_rf r7)] [] S (some (.int w.1)) w.2 := by
  refine J_aload_n 0 dX5_copy_138 rfl rfl ?_
  refine J_iload_n 1 dX5_copy_139 rfl rfl ?_
  refine J_iload_n 3 dX5_copy_140 rfl rfl ?_
  refine J_icmp_ne 157 dX5_copy_141 (by decide) h (fun c1 h2 => ?_) (fun c1 h2 => ?_)
  · clear h
    refine J_aloadq 6 dX5_copy_144 rfl ?_
    refine J_iload_n 2 dX5_copy_146 rfl rfl ?_
    refine J_iload 4 dX5_copy_147 rfl ?_
    refine J_iload 5 dX5_copy_149 rfl ?_
    obtain ⟨i3_, S4, ei3_, h5⟩ := bnd2_some h2; clear h2
    have cS4 := (t_X5_copyWithin ei3_)
    have lS4 : jle MX S S4 := cS4.1
    have hS4_a0 : mKd S4 a0 = 6 := kd_le lS4 ha
    refine J_callS (As := [va_rf r6, .int i2, .int i4, .int i5]) (rest := [.ref a0]) (st' := [.int i3_, .ref a0]) cS4 gC_X5_copyWithin gM_X5_166 rfl (by decide) (by decide) rfl rfl (Nat.le_of_ble_eq_true rfl) dX5_copy_151 ?_
    refine J_goto 169 dX5_copy_154 (by decide) ?_
    refine J_lv [0, 5] rfl ?_
    exact t_X5_copy_J169 hS4_a0 h5
  · clear h
    refine J_aloadq 6 dX5_copy_157 rfl ?_
    refine J_iload_n 2 dX5_copy_159 rfl rfl ?_
    refine J_aloadq 7 dX5_copy_160 rfl ?_
    refine J_iload 4 dX5_copy_162 rfl ?_
    refine J_iload 5 dX5_copy_164 rfl ?_
    obtain ⟨i6_, S7, ei6_, h8⟩ := bnd2_some h2; clear h2
    have cS7 := (t_X5_copyAcross ei6_)
    have lS7 : jle MX S S7 := cS7.1
    have hS7_a0 : mKd S7 a0 = 6 := kd_le lS7 ha
    refine J_callS (As := [va_rf r6, .int i2, va_rf r7, .int i4, .int i5]) (rest := [.ref a0]) (st' := [.int i6_, .ref a0]) cS7 gC_X5_copyAcross gM_X5_170 rfl (by decide) (by decide) rfl rfl (Nat.le_of_ble_eq_true rfl) dX5_copy_166 ?_
    refine J_lv [0, 5] rfl ?_
    exact t_X5_copy_J169 hS7_a0 h8
def c_X5_copy_J90 (S : Mem) (a0 : Nat) (i1 : Int32) (i2 : Int32) (i3 : Int32) (i4 : Int32) (i5 : Int32) (r6 : Option Nat) (r7 : Option Nat) (i8 : Int32) : Option (Int32 × Mem) :=
  if i8 = 0 then
    (bnd (ob S (mR S a0 4) 4) fun a3 =>
    jLet (mSI S a3 4 (1 : Int32)) fun S5 =>
    if i1 = i3 then
      (bnd (ob S5 r6 2) fun a9 =>
      bnd (c_X1_holdsAll S5 a9 i2 i4 i5) fun i11_ =>
      if i11_ = 0 then
        (jLet (mSI S5 a0 8 (0 : Int32)) fun S15 =>
        bnd2 (c_X5_faulted S15 a0 (2 : Int32)) fun i17_ S18 =>
        some (i17_, S18))
      else
        (c_X5_copy_J138 S5 a0 i1 i2 i3 i4 i5 (some a9) r7))
    else
      (c_X5_copy_J138 S5 a0 i1 i2 i3 i4 i5 r6 r7))
  else
    (bnd2 (c_X5_faulted S a0 (3 : Int32)) fun i20_ S21 =>
    some (i20_, S21))
set_option maxRecDepth 100000 in
set_option maxHeartbeats 4000000 in
theorem t_X5_copy_J90 {S : Mem} {a0 : Nat} {i1 : Int32} {i2 : Int32} {i3 : Int32} {i4 : Int32} {i5 : Int32} {r6 : Option Nat} {r7 : Option Nat} {i8 : Int32} {w : (Int32 × Mem)} (ha : mKd S a0 = 6) (h : c_X5_copy_J90 S a0 i1 i2 i3 i4 i5 r6 r7 i8 = some w) : J MX yX5_copy cX5_copy 9 (some .int) 2 65 90 [(0, .ref a0), (1, .int i1), (2, .int i2), (3, .int i3), (4, .int i4), (5, .int i5), (6, va_rf r6), (7, va_rf r7), (8, .int i8)] [] S (some (.int w.1)) w.2 := by
  refine J_iload 8 dX5_copy_90 rfl ?_
  refine J_if_eq 101 dX5_copy_92 (by decide) h (fun c1 h2 => ?_) (fun c1 h2 => ?_)
  · clear h
    refine J_aload_n 0 dX5_copy_101 rfl rfl ?_
    refine J_get (k := 4) (v := va_rf (mR S a0 4)) dX5_copy_102 gF_X5_26 ha rfl ?_
    refine J_iconst (1 : Int32) dX5_copy_105 (by decide) ?_
    obtain ⟨a3, ea3, ka3, h4⟩ := ob_some h2; clear h2
    rw [ea3]
    refine J_lvst (lv' := [(0, .ref a0), (1, .int i1), (2, .int i2), (3, .int i3), (4, .int i4), (5, .int i5), (6, va_rf r6), (7, va_rf r7), (8, .int i8)]) (st' := [.int (1 : Int32), .ref a3]) rfl rfl ?_
    refine J_putZ (k := 4) dX5_copy_106 gW_X5_90 ka3 rfl (by decide) ?_
    obtain ⟨S5, eS5, h6⟩ := jLet_some h4; clear h4
    refine J_topS eS5 ?_
    have hS5_a0 : mKd S5 a0 = 6 := by rw [eS5]; exact ha
    have hS5_a3 : mKd S5 a3 = 4 := by rw [eS5]; exact ka3
    refine J_iload_n 1 dX5_copy_109 rfl rfl ?_
    refine J_iload_n 3 dX5_copy_110 rfl rfl ?_
    refine J_icmp_ne 138 dX5_copy_111 (by decide) h6 (fun c7 h8 => ?_) (fun c7 h8 => ?_)
    · clear h6
      refine J_aloadq 6 dX5_copy_114 rfl ?_
      refine J_iload_n 2 dX5_copy_116 rfl rfl ?_
      refine J_iload 4 dX5_copy_117 rfl ?_
      refine J_iload 5 dX5_copy_119 rfl ?_
      obtain ⟨a9, ea9, ka9, h10⟩ := ob_some h8; clear h8
      subst ea9
      refine J_lvst (lv' := [(0, .ref a0), (1, .int i1), (2, .int i2), (3, .int i3), (4, .int i4), (5, .int i5), (6, .ref a9), (7, va_rf r7), (8, .int i8)]) (st' := [.int i5, .int i4, .int i2, .ref a9]) rfl rfl ?_
      obtain ⟨i11_, ei11_, h12⟩ := bnd_some h10; clear h10
      refine J_callV (As := [.int i2, .int i4, .int i5]) (rest := []) (st' := [.int i11_]) (t_X1_holdsAll ka9 ei11_) gC_X1_holdsAll gM_X5_159 (mRecv ka9 (by decide) jCl1) rfl (by decide) (by decide) rfl rfl (Nat.le_of_ble_eq_true rfl) dX5_copy_121 ?_
      refine J_if_ne 138 dX5_copy_124 (by decide) h12 (fun c13 h14 => ?_) (fun c13 h14 => ?_)
      · clear h12
        refine J_aload_n 0 dX5_copy_127 rfl rfl ?_
        refine J_iconst (0 : Int32) dX5_copy_128 (by decide) ?_
        refine J_putI (k := 8) dX5_copy_129 gW_X5_163 hS5_a0 rfl ?_
        obtain ⟨S15, eS15, h16⟩ := jLet_some h14; clear h14
        refine J_topS eS15 ?_
        have hS15_a0 : mKd S15 a0 = 6 := by rw [eS15]; exact hS5_a0
        have hS15_a3 : mKd S15 a3 = 4 := by rw [eS15]; exact hS5_a3
        have hS15_a9 : mKd S15 a9 = 2 := by rw [eS15]; exact ka9
        refine J_aload_n 0 dX5_copy_132 rfl rfl ?_
        refine J_iconst (2 : Int32) dX5_copy_133 (by decide) ?_
        obtain ⟨i17_, S18, ei17_, h19⟩ := bnd2_some h16; clear h16
        have cS18 := (t_X5_faulted hS15_a0 ei17_)
        have lS18 : jle MX S15 S18 := cS18.1
        have hS18_a0 : mKd S18 a0 = 6 := kd_le lS18 hS15_a0
        have hS18_a3 : mKd S18 a3 = 4 := kd_le lS18 hS15_a3
        have hS18_a9 : mKd S18 a9 = 2 := kd_le lS18 hS15_a9
        refine J_callV (As := [.int (2 : Int32)]) (rest := []) (st' := [.int i17_]) cS18 gC_X5_faulted gM_X5_45 (mRecv hS15_a0 (by decide) jCl5) rfl (by decide) (by decide) rfl rfl (Nat.le_of_ble_eq_true rfl) dX5_copy_134 ?_
        have hw := Option.some.inj h19; subst hw
        exact J_iret rfl dX5_copy_137
      · clear h12
        refine J_lv [0, 1, 2, 3, 4, 5, 6, 7] rfl ?_
        exact t_X5_copy_J138 hS5_a0 h14
    · clear h6
      refine J_lv [0, 1, 2, 3, 4, 5, 6, 7] rfl ?_
      exact t_X5_copy_J138 hS5_a0 h8
  · clear h
    refine J_aload_n 0 dX5_copy_95 rfl rfl ?_
    refine J_iconst (3 : Int32) dX5_copy_96 (by decide) ?_
    obtain ⟨i20_, S21, ei20_, h22⟩ := bnd2_some h2; clear h2
    have cS21 := (t_X5_faulted ha ei20_)
    have lS21 : jle MX S S21 := cS21.1
    have hS21_a0 : mKd S21 a0 = 6 := kd_le lS21 ha
    refine J_callV (As := [.int (3 : Int32)]) (rest := []) (st' := [.int i20_]) cS21 gC_X5_faulted gM_X5_45 (mRecv ha (by decide) jCl5) rfl (by decide) (by decide) rfl rfl (Nat.le_of_ble_eq_true rfl) dX5_copy_97 ?_
    have hw := Option.some.inj h22; subst hw
    exact J_iret rfl dX5_copy_100
def c_X5_copy_J70 (S : Mem) (a0 : Nat) (i1 : Int32) (i2 : Int32) (i3 : Int32) (i4 : Int32) (i5 : Int32) (r6 : Option Nat) (r7 : Option Nat) (i8 : Int32) (is0 : Int32) : Option (Int32 × Mem) :=
  bnd (ob S r7 2) fun a1 =>
  if (mI S a1 1) = (2 : Int32) then
    (if is0 = (1 : Int32) then
      (c_X5_copy_J90 S a0 i1 i2 i3 i4 i5 r6 (some a1) i8)
    else
      (some ((-3 : Int32), S)))
  else
    (if is0 = (0 : Int32) then
      (c_X5_copy_J90 S a0 i1 i2 i3 i4 i5 r6 (some a1) i8)
    else
      (some ((-3 : Int32), S)))
set_option maxRecDepth 100000 in
set_option maxHeartbeats 4000000 in
theorem t_X5_copy_J70 {S : Mem} {a0 : Nat} {i1 : Int32} {i2 : Int32} {i3 : Int32} {i4 : Int32} {i5 : Int32} {r6 : Option Nat} {r7 : Option Nat} {i8 : Int32} {is0 : Int32} {w : (Int32 × Mem)} (ha : mKd S a0 = 6) (h : c_X5_copy_J70 S a0 i1 i2 i3 i4 i5 r6 r7 i8 is0 = some w) : J MX yX5_copy cX5_copy 9 (some .int) 2 65 70 [(0, .ref a0), (1, .int i1), (2, .int i2), (3, .int i3), (4, .int i4), (5, .int i5), (6, va_rf r6), (7, va_rf r7), (8, .int i8)] [.int is0] S (some (.int w.1)) w.2 := by
  refine J_aloadq 7 dX5_copy_70 rfl ?_
  obtain ⟨a1, ea1, ka1, h2⟩ := ob_some h; clear h
  subst ea1
  refine J_lvst (lv' := [(0, .ref a0), (1, .int i1), (2, .int i2), (3, .int i3), (4, .int i4), (5, .int i5), (6, va_rf r6), (7, .ref a1), (8, .int i8)]) (st' := [.ref a1, .int is0]) rfl rfl ?_
  refine J_get (k := 1) (v := .int (mI S a1 1)) dX5_copy_72 gF_X5_77 ka1 rfl ?_
  refine J_iconst (2 : Int32) dX5_copy_75 (by decide) ?_
  refine J_icmp_ne 83 dX5_copy_76 (by decide) h2 (fun c3 h4 => ?_) (fun c3 h4 => ?_)
  · clear h2
    refine J_iconst (1 : Int32) dX5_copy_79 (by decide) ?_
    refine J_goto 84 dX5_copy_80 (by decide) ?_
    refine J_icmp_eq 90 dX5_copy_84 (by decide) h4 (fun c5 h6 => ?_) (fun c5 h6 => ?_)
    · clear h4
      exact t_X5_copy_J90 ha h6
    · clear h4
      refine J_bipush (-3 : Int32) dX5_copy_87 (by decide) ?_
      have hw := Option.some.inj h6; subst hw
      exact J_iret rfl dX5_copy_89
  · clear h2
    refine J_iconst (0 : Int32) dX5_copy_83 (by decide) ?_
    refine J_icmp_eq 90 dX5_copy_84 (by decide) h4 (fun c7 h8 => ?_) (fun c7 h8 => ?_)
    · clear h4
      exact t_X5_copy_J90 ha h8
    · clear h4
      refine J_bipush (-3 : Int32) dX5_copy_87 (by decide) ?_
      have hw := Option.some.inj h8; subst hw
      exact J_iret rfl dX5_copy_89
def c_X5_copy_J49 (S : Mem) (a0 : Nat) (i1 : Int32) (i2 : Int32) (i3 : Int32) (i4 : Int32) (i5 : Int32) (r6 : Option Nat) (r7 : Option Nat) (is0 : Int32) : Option (Int32 × Mem) :=
  if is0 = 0 then
    (bnd (ob S r6 2) fun a3 =>
    if (mI S a3 1) = (2 : Int32) then
      (c_X5_copy_J70 S a0 i1 i2 i3 i4 i5 (some a3) r7 is0 (1 : Int32))
    else
      (c_X5_copy_J70 S a0 i1 i2 i3 i4 i5 (some a3) r7 is0 (0 : Int32)))
  else
    (c_X5_copy_J90 S a0 i1 i2 i3 i4 i5 r6 r7 is0)
set_option maxRecDepth 100000 in
set_option maxHeartbeats 4000000 in
theorem t_X5_copy_J49 {S : Mem} {a0 : Nat} {i1 : Int32} {i2 : Int32} {i3 : Int32} {i4 : Int32} {i5 : Int32} {r6 : Option Nat} {r7 : Option Nat} {is0 : Int32} {w : (Int32 × Mem)} (ha : mKd S a0 = 6) (h : c_X5_copy_J49 S a0 i1 i2 i3 i4 i5 r6 r7 is0 = some w) : J MX yX5_copy cX5_copy 9 (some .int) 2 65 49 [(0, .ref a0), (1, .int i1), (2, .int i2), (3, .int i3), (4, .int i4), (5, .int i5), (6, va_rf r6), (7, va_rf r7)] [.int is0] S (some (.int w.1)) w.2 := by
  refine J_istore dX5_copy_49 (by decide) [1, 2, 3, 4, 5, 6, 7, 8, 0] (lv' := [(0, .ref a0), (1, .int i1), (2, .int i2), (3, .int i3), (4, .int i4), (5, .int i5), (6, va_rf r6), (7, va_rf r7), (8, .int is0)]) (by cases r7 <;> rfl) ?_
  refine J_iload 8 dX5_copy_51 rfl ?_
  refine J_if_ne 90 dX5_copy_53 (by decide) h (fun c1 h2 => ?_) (fun c1 h2 => ?_)
  · clear h
    refine J_aloadq 6 dX5_copy_56 rfl ?_
    obtain ⟨a3, ea3, ka3, h4⟩ := ob_some h2; clear h2
    subst ea3
    refine J_lvst (lv' := [(0, .ref a0), (1, .int i1), (2, .int i2), (3, .int i3), (4, .int i4), (5, .int i5), (6, .ref a3), (7, va_rf r7), (8, .int is0)]) (st' := [.ref a3]) rfl rfl ?_
    refine J_get (k := 1) (v := .int (mI S a3 1)) dX5_copy_58 gF_X5_77 ka3 rfl ?_
    refine J_iconst (2 : Int32) dX5_copy_61 (by decide) ?_
    refine J_icmp_ne 69 dX5_copy_62 (by decide) h4 (fun c5 h6 => ?_) (fun c5 h6 => ?_)
    · clear h4
      refine J_iconst (1 : Int32) dX5_copy_65 (by decide) ?_
      refine J_goto 70 dX5_copy_66 (by decide) ?_
      exact t_X5_copy_J70 ha h6
    · clear h4
      refine J_iconst (0 : Int32) dX5_copy_69 (by decide) ?_
      exact t_X5_copy_J70 ha h6
  · clear h
    exact t_X5_copy_J90 ha h2
def c_X5_copy (S : Mem) (a0 : Nat) (i1 : Int32) (i2 : Int32) (i3 : Int32) (i4 : Int32) (i5 : Int32) : Option (Int32 × Mem) :=
  bnd (c_X5_known S a0 i1) fun r1_ =>
  bnd (c_X5_known S a0 i3) fun r3_ =>
  oc r1_
    (some ((-1 : Int32), S))
    (fun a5 =>
      oc r3_
        (some ((-1 : Int32), S))
        (fun a7 =>
          gd (kb S a5 2) <|
          if (mI S a5 1) = (4 : Int32) then
            (c_X5_copy_J49 S a0 i1 i2 i3 i4 i5 (some a5) (some a7) (1 : Int32))
          else
            (gd (kb S a7 2) <|
            if (mI S a7 1) = (4 : Int32) then
              (c_X5_copy_J49 S a0 i1 i2 i3 i4 i5 (some a5) (some a7) (1 : Int32))
            else
              (c_X5_copy_J49 S a0 i1 i2 i3 i4 i5 (some a5) (some a7) (0 : Int32)))))
set_option maxRecDepth 100000 in
set_option maxHeartbeats 4000000 in
theorem t_X5_copy {S : Mem} {a0 : Nat} {i1 : Int32} {i2 : Int32} {i3 : Int32} {i4 : Int32} {i5 : Int32} {w : (Int32 × Mem)} (ha : mKd S a0 = 6) (h : c_X5_copy S a0 i1 i2 i3 i4 i5 = some w) : CT MX yX5_copy cX5_copy 9 (some .int) 2 65 [.ref a0, .int i1, .int i2, .int i3, .int i4, .int i5] S (some (.int w.1)) w.2 := by
  refine CT.of (lv := [(0, .ref a0), (1, .int i1), (2, .int i2), (3, .int i3), (4, .int i4), (5, .int i5)]) (by decide) rfl (Nat.le_of_ble_eq_true rfl) ?_
  refine J_aload_n 0 dX5_copy_0 rfl rfl ?_
  refine J_iload_n 1 dX5_copy_1 rfl rfl ?_
  obtain ⟨r1_, er1_, h2⟩ := bnd_some h; clear h
  refine J_callV (As := [.int i1]) (rest := []) (st' := [va_rf r1_]) (t_X5_known ha er1_) gC_X5_known gM_X5_51 (mRecv ha (by decide) jCl5) rfl (by decide) (by decide) rfl rfl (Nat.le_of_ble_eq_true rfl) dX5_copy_2 ?_
  refine J_astoreq dX5_copy_5 (by decide) [1, 2, 3, 4, 5, 6, 0] (lv' := [(0, .ref a0), (1, .int i1), (2, .int i2), (3, .int i3), (4, .int i4), (5, .int i5), (6, va_rf r1_)]) rfl ?_
  refine J_aload_n 0 dX5_copy_7 rfl rfl ?_
  refine J_iload_n 3 dX5_copy_8 rfl rfl ?_
  obtain ⟨r3_, er3_, h4⟩ := bnd_some h2; clear h2
  refine J_callV (As := [.int i3]) (rest := []) (st' := [va_rf r3_]) (t_X5_known ha er3_) gC_X5_known gM_X5_51 (mRecv ha (by decide) jCl5) rfl (by decide) (by decide) rfl rfl (Nat.le_of_ble_eq_true rfl) dX5_copy_9 ?_
  refine J_astoreq dX5_copy_12 (by decide) [1, 2, 3, 4, 5, 6, 7, 0] (lv' := [(0, .ref a0), (1, .int i1), (2, .int i2), (3, .int i3), (4, .int i4), (5, .int i5), (6, va_rf r1_), (7, va_rf r3_)]) (by cases r1_ <;> rfl) ?_
  refine J_aloadq 6 dX5_copy_14 rfl ?_
  refine J_ifnull 24 dX5_copy_16 (by decide) h4 (fun ea5 h6 => ?_) (fun a5 ea5 h6 => ?_)
  · clear h4
    subst ea5
    refine J_lvst (lv' := [(0, .ref a0), (1, .int i1), (2, .int i2), (3, .int i3), (4, .int i4), (5, .int i5), (6, va_rf none), (7, va_rf r3_)]) (st' := []) rfl rfl ?_
    refine J_iconst (-1 : Int32) dX5_copy_24 (by decide) ?_
    have hw := Option.some.inj h6; subst hw
    exact J_iret rfl dX5_copy_25
  · clear h4
    subst ea5
    refine J_lvst (lv' := [(0, .ref a0), (1, .int i1), (2, .int i2), (3, .int i3), (4, .int i4), (5, .int i5), (6, .ref a5), (7, va_rf r3_)]) (st' := []) rfl rfl ?_
    refine J_aloadq 7 dX5_copy_19 rfl ?_
    refine J_ifnonnull 26 dX5_copy_21 (by decide) h6 (fun ea7 h8 => ?_) (fun a7 ea7 h8 => ?_)
    · clear h6
      subst ea7
      refine J_lvst (lv' := [(0, .ref a0), (1, .int i1), (2, .int i2), (3, .int i3), (4, .int i4), (5, .int i5), (6, .ref a5), (7, va_rf none)]) (st' := []) rfl rfl ?_
      refine J_iconst (-1 : Int32) dX5_copy_24 (by decide) ?_
      have hw := Option.some.inj h8; subst hw
      exact J_iret rfl dX5_copy_25
    · clear h6
      subst ea7
      refine J_lvst (lv' := [(0, .ref a0), (1, .int i1), (2, .int i2), (3, .int i3), (4, .int i4), (5, .int i5), (6, .ref a5), (7, .ref a7)]) (st' := []) rfl rfl ?_
      refine J_aload 6 dX5_copy_26 rfl ?_
      obtain ⟨g9, h10⟩ := gd_some h8; clear h8
      have kg9 := kb_of g9
      refine J_get (k := 1) (v := .int (mI S a5 1)) dX5_copy_28 gF_X5_77 kg9 rfl ?_
      refine J_iconst (4 : Int32) dX5_copy_31 (by decide) ?_
      refine J_icmp_eq 44 dX5_copy_32 (by decide) h10 (fun c11 h12 => ?_) (fun c11 h12 => ?_)
      · clear h10
        refine J_iconst (1 : Int32) dX5_copy_44 (by decide) ?_
        refine J_goto 49 dX5_copy_45 (by decide) ?_
        exact t_X5_copy_J49 ha h12
      · clear h10
        refine J_aload 7 dX5_copy_35 rfl ?_
        obtain ⟨g13, h14⟩ := gd_some h12; clear h12
        have kg13 := kb_of g13
        refine J_get (k := 1) (v := .int (mI S a7 1)) dX5_copy_37 gF_X5_77 kg13 rfl ?_
        refine J_iconst (4 : Int32) dX5_copy_40 (by decide) ?_
        refine J_icmp_ne 48 dX5_copy_41 (by decide) h14 (fun c15 h16 => ?_) (fun c15 h16 => ?_)
        · clear h14
          refine J_iconst (1 : Int32) dX5_copy_44 (by decide) ?_
          refine J_goto 49 dX5_copy_45 (by decide) ?_
          exact t_X5_copy_J49 ha h16
        · clear h14
          refine J_iconst (0 : Int32) dX5_copy_48 (by decide) ?_
          exact t_X5_copy_J49 ha h16
def c_X5_copied (S : Mem) (a0 : Nat) : Option Int32 :=
  some (mI S a0 8)
set_option maxRecDepth 100000 in
set_option maxHeartbeats 4000000 in
theorem t_X5_copied {S : Mem} {a0 : Nat} {w : Int32} (ha : mKd S a0 = 6) (h : c_X5_copied S a0 = some w) : CT MX yX5_copied cX5_copied 1 (some .int) 0 0 [.ref a0] S (some (.int w)) S := by
  refine CT.of (lv := [(0, .ref a0)]) (by decide) rfl (Nat.le_of_ble_eq_true rfl) ?_
  refine J_aload_n 0 dX5_copied_0 rfl rfl ?_
  refine J_get (k := 8) (v := .int (mI S a0 8)) dX5_copied_1 gF_X5_163 ha rfl ?_
  have hw := Option.some.inj h; subst hw
  exact J_iret rfl dX5_copied_4
def c_X5_digest (S : Mem) (a0 : Nat) (i1 : Int32) : Option Int64 :=
  bnd (c_X5_known S a0 i1) fun r1_ =>
  oc r1_
    (some (-9223372036854775808 : Int64))
    (fun a3 =>
      gd (kb S a3 2) <|
      bnd (c_X1_digestSum S a3) fun j7_ =>
      some j7_)
set_option maxRecDepth 100000 in
set_option maxHeartbeats 4000000 in
theorem t_X5_digest {S : Mem} {a0 : Nat} {i1 : Int32} {w : Int64} (ha : mKd S a0 = 6) (h : c_X5_digest S a0 i1 = some w) : CT MX yX5_digest cX5_digest 3 (some .long) 2 47 [.ref a0, .int i1] S (some (.long w)) S := by
  refine CT.of (lv := [(0, .ref a0), (1, .int i1)]) (by decide) rfl (Nat.le_of_ble_eq_true rfl) ?_
  refine J_aload_n 0 dX5_digest_0 rfl rfl ?_
  refine J_iload_n 1 dX5_digest_1 rfl rfl ?_
  obtain ⟨r1_, er1_, h2⟩ := bnd_some h; clear h
  refine J_callV (As := [.int i1]) (rest := []) (st' := [va_rf r1_]) (t_X5_known ha er1_) gC_X5_known gM_X5_51 (mRecv ha (by decide) jCl5) rfl (by decide) (by decide) rfl rfl (Nat.le_of_ble_eq_true rfl) dX5_digest_2 ?_
  refine J_astore_nq dX5_digest_5 rfl (by decide) [1, 0] (lv' := [(0, .ref a0), (2, va_rf r1_)]) rfl ?_
  refine J_aload_nq 1 dX5_digest_6 rfl rfl ?_
  refine J_ifnonnull 16 dX5_digest_7 (by decide) h2 (fun ea3 h4 => ?_) (fun a3 ea3 h4 => ?_)
  · clear h2
    subst ea3
    refine J_lvst (lv' := [(0, .ref a0), (2, va_rf none)]) (st' := []) rfl rfl ?_
    refine J_ldc2 (-9223372036854775808 : Int64) dX5_digest_10 gK_X5_114 ?_
    refine J_goto 20 dX5_digest_13 (by decide) ?_
    have hw := Option.some.inj h4; subst hw
    exact J_lret rfl dX5_digest_20
  · clear h2
    subst ea3
    refine J_lvst (lv' := [(0, .ref a0), (2, .ref a3)]) (st' := []) rfl rfl ?_
    refine J_aload_n 1 dX5_digest_16 rfl rfl ?_
    obtain ⟨g5, h6⟩ := gd_some h4; clear h4
    have kg5 := kb_of g5
    obtain ⟨j7_, ej7_, h8⟩ := bnd_some h6; clear h6
    refine J_callV (As := []) (rest := []) (st' := [.long j7_]) (t_X1_digestSum kg5 ej7_) gC_X1_digestSum gM_X5_174 (mRecv kg5 (by decide) jCl1) rfl (by decide) (by decide) rfl rfl (Nat.le_of_ble_eq_true rfl) dX5_digest_17 ?_
    have hw := Option.some.inj h8; subst hw
    exact J_lret rfl dX5_digest_20
def c_X5_endlessField (i0 : Int32) : Option Int32 :=
  if i0 = (23 : Int32) then
    (some (255 : Int32))
  else
    (some (2047 : Int32))
set_option maxRecDepth 100000 in
set_option maxHeartbeats 4000000 in
theorem t_X5_endlessField {S : Mem} {i0 : Int32} {w : Int32} (h : c_X5_endlessField i0 = some w) : CT MX yX5_endlessField cX5_endlessField 1 (some .int) 0 0 [.int i0] S (some (.int w)) S := by
  refine CT.of (lv := [(0, .int i0)]) (by decide) rfl (Nat.le_of_ble_eq_true rfl) ?_
  refine J_iload_n 0 dX5_endlessField_0 rfl rfl ?_
  refine J_bipush (23 : Int32) dX5_endlessField_1 (by decide) ?_
  refine J_icmp_ne 12 dX5_endlessField_3 (by decide) h (fun c1 h2 => ?_) (fun c1 h2 => ?_)
  · clear h
    refine J_sipush (255 : Int32) dX5_endlessField_6 (by decide) ?_
    refine J_goto 15 dX5_endlessField_9 (by decide) ?_
    have hw := Option.some.inj h2; subst hw
    exact J_iret rfl dX5_endlessField_15
  · clear h
    refine J_sipush (2047 : Int32) dX5_endlessField_12 (by decide) ?_
    have hw := Option.some.inj h2; subst hw
    exact J_iret rfl dX5_endlessField_15
def c_X5_exponentField (j0 : Int64) (i2 : Int32) : Option Int32 :=
  bnd (c_X5_endlessField i2) fun i1_ =>
  some ((Int64.toInt32 ((Int64.toUInt64 j0 >>> (Int64.toUInt64 (Int32.toInt64 i2) &&& Int64.toUInt64 63)).toInt64)) &&& i1_)
set_option maxRecDepth 100000 in
set_option maxHeartbeats 4000000 in
theorem t_X5_exponentField {S : Mem} {j0 : Int64} {i2 : Int32} {w : Int32} (h : c_X5_exponentField j0 i2 = some w) : CT MX yX5_exponentField cX5_exponentField 3 (some .int) 1 20 [.long j0, .int i2] S (some (.int w)) S := by
  refine CT.of (lv := [(0, .long j0), (2, .int i2)]) (by decide) rfl (Nat.le_of_ble_eq_true rfl) ?_
  refine J_lload_n 0 dX5_exponentField_0 rfl rfl ?_
  refine J_iload_n 1 dX5_exponentField_1 rfl rfl ?_
  refine J_lushr dX5_exponentField_2 ?_
  refine J_l2i dX5_exponentField_3 ?_
  refine J_iload_n 1 dX5_exponentField_4 rfl rfl ?_
  obtain ⟨i1_, ei1_, h2⟩ := bnd_some h; clear h
  refine J_callS (As := [.int i2]) (rest := [.int (Int64.toInt32 ((Int64.toUInt64 j0 >>> (Int64.toUInt64 (Int32.toInt64 i2) &&& Int64.toUInt64 63)).toInt64))]) (st' := [.int i1_, .int (Int64.toInt32 ((Int64.toUInt64 j0 >>> (Int64.toUInt64 (Int32.toInt64 i2) &&& Int64.toUInt64 63)).toInt64))]) (t_X5_endlessField ei1_) gC_X5_endlessField gM_X5_350 rfl (by decide) (by decide) rfl rfl (Nat.le_of_ble_eq_true rfl) dX5_exponentField_5 ?_
  refine J_iand dX5_exponentField_8 ?_
  have hw := Option.some.inj h2; subst hw
  exact J_iret rfl dX5_exponentField_9
def c_X5_fraction (j0 : Int64) (i2 : Int32) : Option Int64 :=
  some (j0 &&& (((1 : Int64) <<< (Int32.toInt64 i2 &&& 63)) - (1 : Int64)))
set_option maxRecDepth 100000 in
set_option maxHeartbeats 4000000 in
theorem t_X5_fraction {S : Mem} {j0 : Int64} {i2 : Int32} {w : Int64} (h : c_X5_fraction j0 i2 = some w) : CT MX yX5_fraction cX5_fraction 3 (some .long) 0 0 [.long j0, .int i2] S (some (.long w)) S := by
  refine CT.of (lv := [(0, .long j0), (2, .int i2)]) (by decide) rfl (Nat.le_of_ble_eq_true rfl) ?_
  refine J_lload_n 0 dX5_fraction_0 rfl rfl ?_
  refine J_lconst (1 : Int64) dX5_fraction_1 (by decide) ?_
  refine J_iload_n 1 dX5_fraction_2 rfl rfl ?_
  refine J_lshl dX5_fraction_3 ?_
  refine J_lconst (1 : Int64) dX5_fraction_4 (by decide) ?_
  refine J_lsub dX5_fraction_5 ?_
  refine J_land dX5_fraction_6 ?_
  have hw := Option.some.inj h; subst hw
  exact J_lret rfl dX5_fraction_7
def c_X5_significand (j0 : Int64) (i2 : Int32) : Option Int64 :=
  bnd (c_X5_fraction j0 i2) fun j1_ =>
  bnd (c_X5_exponentField j0 i2) fun i3_ =>
  if i3_ = 0 then
    (some j1_)
  else
    (some (j1_ ||| ((1 : Int64) <<< (Int32.toInt64 i2 &&& 63))))
set_option maxRecDepth 100000 in
set_option maxHeartbeats 4000000 in
theorem t_X5_significand {S : Mem} {j0 : Int64} {i2 : Int32} {w : Int64} (h : c_X5_significand j0 i2 = some w) : CT MX yX5_significand cX5_significand 5 (some .long) 2 42 [.long j0, .int i2] S (some (.long w)) S := by
  refine CT.of (lv := [(0, .long j0), (2, .int i2)]) (by decide) rfl (Nat.le_of_ble_eq_true rfl) ?_
  refine J_lload_n 0 dX5_significand_0 rfl rfl ?_
  refine J_iload_n 1 dX5_significand_1 rfl rfl ?_
  obtain ⟨j1_, ej1_, h2⟩ := bnd_some h; clear h
  refine J_callS (As := [.long j0, .int i2]) (rest := []) (st' := [.long j1_]) (t_X5_fraction ej1_) gC_X5_fraction gM_X5_353 rfl (by decide) (by decide) rfl rfl (Nat.le_of_ble_eq_true rfl) dX5_significand_2 ?_
  refine J_lstore_n dX5_significand_5 rfl (by decide) [1, 2, 0] (lv' := [(0, .long j0), (2, .int i2), (3, .long j1_)]) rfl ?_
  refine J_lload_n 0 dX5_significand_6 rfl rfl ?_
  refine J_iload_n 1 dX5_significand_7 rfl rfl ?_
  obtain ⟨i3_, ei3_, h4⟩ := bnd_some h2; clear h2
  refine J_callS (As := [.long j0, .int i2]) (rest := []) (st' := [.int i3_]) (t_X5_exponentField ei3_) gC_X5_exponentField gM_X5_357 rfl (by decide) (by decide) rfl rfl (Nat.le_of_ble_eq_true rfl) dX5_significand_8 ?_
  refine J_if_ne 18 dX5_significand_11 (by decide) h4 (fun c5 h6 => ?_) (fun c5 h6 => ?_)
  · clear h4
    refine J_lload_n 2 dX5_significand_14 rfl rfl ?_
    refine J_goto 23 dX5_significand_15 (by decide) ?_
    have hw := Option.some.inj h6; subst hw
    exact J_lret rfl dX5_significand_23
  · clear h4
    refine J_lload_n 2 dX5_significand_18 rfl rfl ?_
    refine J_lconst (1 : Int64) dX5_significand_19 (by decide) ?_
    refine J_iload_n 1 dX5_significand_20 rfl rfl ?_
    refine J_lshl dX5_significand_21 ?_
    refine J_lor dX5_significand_22 ?_
    have hw := Option.some.inj h6; subst hw
    exact J_lret rfl dX5_significand_23
def c_X5_signBit (j0 : Int64) (i2 : Int32) : Option Int64 :=
  if i2 = (23 : Int32) then
    (some (j0 &&& (2147483648 : Int64)))
  else
    (some (j0 &&& (-9223372036854775808 : Int64)))
set_option maxRecDepth 100000 in
set_option maxHeartbeats 4000000 in
theorem t_X5_signBit {S : Mem} {j0 : Int64} {i2 : Int32} {w : Int64} (h : c_X5_signBit j0 i2 = some w) : CT MX yX5_signBit cX5_signBit 3 (some .long) 0 0 [.long j0, .int i2] S (some (.long w)) S := by
  refine CT.of (lv := [(0, .long j0), (2, .int i2)]) (by decide) rfl (Nat.le_of_ble_eq_true rfl) ?_
  refine J_lload_n 0 dX5_signBit_0 rfl rfl ?_
  refine J_iload_n 1 dX5_signBit_1 rfl rfl ?_
  refine J_bipush (23 : Int32) dX5_signBit_2 (by decide) ?_
  refine J_icmp_ne 13 dX5_signBit_4 (by decide) h (fun c1 h2 => ?_) (fun c1 h2 => ?_)
  · clear h
    refine J_ldc2 (2147483648 : Int64) dX5_signBit_7 gK_X5_360 ?_
    refine J_goto 16 dX5_signBit_10 (by decide) ?_
    refine J_land dX5_signBit_16 ?_
    have hw := Option.some.inj h2; subst hw
    exact J_lret rfl dX5_signBit_17
  · clear h
    refine J_ldc2 (-9223372036854775808 : Int64) dX5_signBit_13 gK_X5_114 ?_
    refine J_land dX5_signBit_16 ?_
    have hw := Option.some.inj h2; subst hw
    exact J_lret rfl dX5_signBit_17
def c_X5_shifted (j0 : Int64) (i2 : Int32) : Option Int64 :=
  if j0 = (0 : Int64) then
    (some (0 : Int64))
  else
    (if (-64 : Int32) < i2 then
      (if 0 < i2 then
        (if (62 : Int32) < i2 then
          (some (9223372036854775807 : Int64))
        else
          (if j0 ≤ ((9223372036854775807 : Int64) >>> (Int32.toInt64 i2 &&& 63)) then
            (some (j0 <<< (Int32.toInt64 i2 &&& 63)))
          else
            (some (9223372036854775807 : Int64))))
      else
        (some ((Int64.toUInt64 j0 >>> (Int64.toUInt64 (Int32.toInt64 (-i2)) &&& Int64.toUInt64 63)).toInt64)))
    else
      (some (0 : Int64)))
set_option maxRecDepth 100000 in
set_option maxHeartbeats 4000000 in
theorem t_X5_shifted {S : Mem} {j0 : Int64} {i2 : Int32} {w : Int64} (h : c_X5_shifted j0 i2 = some w) : CT MX yX5_shifted cX5_shifted 3 (some .long) 0 0 [.long j0, .int i2] S (some (.long w)) S := by
  refine CT.of (lv := [(0, .long j0), (2, .int i2)]) (by decide) rfl (Nat.le_of_ble_eq_true rfl) ?_
  refine J_lload_n 0 dX5_shifted_0 rfl rfl ?_
  refine J_lconst (0 : Int64) dX5_shifted_1 (by decide) ?_
  refine J_lcmp_eq 12 dX5_shifted_2 dX5_shifted_3 (by decide) h (fun c1 h2 => ?_) (fun c1 h2 => ?_)
  · clear h
    refine J_lconst (0 : Int64) dX5_shifted_12 (by decide) ?_
    have hw := Option.some.inj h2; subst hw
    exact J_lret rfl dX5_shifted_13
  · clear h
    refine J_iload_n 1 dX5_shifted_6 rfl rfl ?_
    refine J_bipush (-64 : Int32) dX5_shifted_7 (by decide) ?_
    refine J_icmp_gt 14 dX5_shifted_9 (by decide) h2 (fun c3 h4 => ?_) (fun c3 h4 => ?_)
    · clear h2
      refine J_iload_n 1 dX5_shifted_14 rfl rfl ?_
      refine J_if_gt 23 dX5_shifted_15 (by decide) h4 (fun c5 h6 => ?_) (fun c5 h6 => ?_)
      · clear h4
        refine J_iload_n 1 dX5_shifted_23 rfl rfl ?_
        refine J_bipush (62 : Int32) dX5_shifted_24 (by decide) ?_
        refine J_icmp_gt 39 dX5_shifted_26 (by decide) h6 (fun c7 h8 => ?_) (fun c7 h8 => ?_)
        · clear h6
          refine J_ldc2 (9223372036854775807 : Int64) dX5_shifted_39 gK_X5_371 ?_
          refine J_goto 48 dX5_shifted_42 (by decide) ?_
          have hw := Option.some.inj h8; subst hw
          exact J_lret rfl dX5_shifted_48
        · clear h6
          refine J_lload_n 0 dX5_shifted_29 rfl rfl ?_
          refine J_ldc2 (9223372036854775807 : Int64) dX5_shifted_30 gK_X5_371 ?_
          refine J_iload_n 1 dX5_shifted_33 rfl rfl ?_
          refine J_lshr dX5_shifted_34 ?_
          refine J_lcmp_le 45 dX5_shifted_35 dX5_shifted_36 (by decide) h8 (fun c9 h10 => ?_) (fun c9 h10 => ?_)
          · clear h8
            refine J_lload_n 0 dX5_shifted_45 rfl rfl ?_
            refine J_iload_n 1 dX5_shifted_46 rfl rfl ?_
            refine J_lshl dX5_shifted_47 ?_
            have hw := Option.some.inj h10; subst hw
            exact J_lret rfl dX5_shifted_48
          · clear h8
            refine J_ldc2 (9223372036854775807 : Int64) dX5_shifted_39 gK_X5_371 ?_
            refine J_goto 48 dX5_shifted_42 (by decide) ?_
            have hw := Option.some.inj h10; subst hw
            exact J_lret rfl dX5_shifted_48
      · clear h4
        refine J_lload_n 0 dX5_shifted_18 rfl rfl ?_
        refine J_iload_n 1 dX5_shifted_19 rfl rfl ?_
        refine J_ineg dX5_shifted_20 ?_
        refine J_lushr dX5_shifted_21 ?_
        have hw := Option.some.inj h6; subst hw
        exact J_lret rfl dX5_shifted_22
    · clear h2
      refine J_lconst (0 : Int64) dX5_shifted_12 (by decide) ?_
      have hw := Option.some.inj h4; subst hw
      exact J_lret rfl dX5_shifted_13
def c_X5_writeWhole_J53 (S : Mem) (a0 : Nat) (r1 : Option Nat) (i4 : Int32) (i5 : Int32) (j6 : Int64) : Option (Int32 × Mem) :=
  bnd (c_X5_endlessField i4) fun i1_ =>
  jLet ((i1_ / (2 : Int32))) fun i3_ =>
  bnd (c_X5_shifted j6 (((if i5 < (1 : Int32) then (1 : Int32) else i5) - i3_) - i4)) fun j5_ =>
  bnd2 (c_X5_writeAll S a0 r1 j5_) fun i7_ S8 =>
  some (i7_, S8)
set_option maxRecDepth 100000 in
set_option maxHeartbeats 4000000 in
theorem t_X5_writeWhole_J53 {S : Mem} {a0 : Nat} {r1 : Option Nat} {i4 : Int32} {i5 : Int32} {j6 : Int64} {w : (Int32 × Mem)} (ha : mKd S a0 = 6) (h : c_X5_writeWhole_J53 S a0 r1 i4 i5 j6 = some w) : J MX yX5_writeWhole cX5_writeWhole 9 (some .int) 4 89 53 [(0, .ref a0), (1, va_rf r1), (4, .int i4), (5, .int i5), (6, .long j6)] [] S (some (.int w.1)) w.2 := by
  refine J_iload 2 dX5_writeWhole_53 rfl ?_
  obtain ⟨i1_, ei1_, h2⟩ := bnd_some h; clear h
  refine J_callS (As := [.int i4]) (rest := []) (st' := [.int i1_]) (t_X5_endlessField ei1_) gC_X5_endlessField gM_X5_350 rfl (by decide) (by decide) rfl rfl (Nat.le_of_ble_eq_true rfl) dX5_writeWhole_55 ?_
  refine J_iconst (2 : Int32) dX5_writeWhole_58 (by decide) ?_
  refine J_idiv dX5_writeWhole_59 (by decide) ?_
  obtain ⟨i3_, ei3_, h4⟩ := jLet_some h2; clear h2
  refine J_topI ei3_ ?_
  refine J_istore dX5_writeWhole_60 (by decide) [1, 2, 3, 4, 5, 0] (lv' := [(0, .ref a0), (1, va_rf r1), (4, .int i4), (5, .int i5), (6, .long j6), (8, .int i3_)]) rfl ?_
  refine J_aload_n 0 dX5_writeWhole_62 rfl rfl ?_
  refine J_aload_nq 1 dX5_writeWhole_63 rfl rfl ?_
  refine J_lload 4 dX5_writeWhole_64 rfl ?_
  refine J_iload 3 dX5_writeWhole_66 rfl ?_
  refine J_iconst (1 : Int32) dX5_writeWhole_68 (by decide) ?_
  refine J_mmax dX5_writeWhole_69 gM_X5_68 (by decide) (by decide) (by simp only [List.map_cons, List.map_nil, List.sum_cons, List.sum_nil, va_rf_cat]; exact Nat.le_of_ble_eq_true rfl) ?_
  refine J_iload 5 dX5_writeWhole_72 rfl ?_
  refine J_isub dX5_writeWhole_74 ?_
  refine J_iload 2 dX5_writeWhole_75 rfl ?_
  refine J_isub dX5_writeWhole_77 ?_
  obtain ⟨j5_, ej5_, h6⟩ := bnd_some h4; clear h4
  refine J_callS (As := [.long j6, .int (((if i5 < (1 : Int32) then (1 : Int32) else i5) - i3_) - i4)]) (rest := [va_rf r1, .ref a0]) (st' := [.long j5_, va_rf r1, .ref a0]) (t_X5_shifted ej5_) gC_X5_shifted gM_X5_368 rfl (by decide) (by decide) rfl rfl (by simp only [List.map_cons, List.map_nil, List.sum_cons, List.sum_nil, va_rf_cat]; exact Nat.le_of_ble_eq_true rfl) dX5_writeWhole_78 ?_
  obtain ⟨i7_, S8, ei7_, h9⟩ := bnd2_some h6; clear h6
  have cS8 := (t_X5_writeAll ha ei7_)
  have lS8 : jle MX S S8 := cS8.1
  have hS8_a0 : mKd S8 a0 = 6 := kd_le lS8 ha
  refine J_callV (As := [va_rf r1, .long j5_]) (rest := []) (st' := [.int i7_]) cS8 gC_X5_writeAll gM_X5_127 (mRecv ha (by decide) jCl5) rfl (by decide) (by decide) rfl rfl (Nat.le_of_ble_eq_true rfl) dX5_writeWhole_81 ?_
  have hw := Option.some.inj h9; subst hw
  exact J_iret rfl dX5_writeWhole_84
def c_X5_writeWhole (S : Mem) (a0 : Nat) (r1 : Option Nat) (j2 : Int64) (i4 : Int32) : Option (Int32 × Mem) :=
  oc r1
    (some ((-1 : Int32), S))
    (fun a1 =>
      bnd (c_X5_exponentField j2 i4) fun i3_ =>
      bnd (c_X5_significand j2 i4) fun j5_ =>
      bnd (c_X5_endlessField i4) fun i7_ =>
      if i3_ = i7_ then
        (some ((-2 : Int32), S))
      else
        (bnd (c_X5_signBit j2 i4) fun j11_ =>
        if j11_ = (0 : Int64) then
          (c_X5_writeWhole_J53 S a0 (some a1) i4 i3_ j5_)
        else
          (if j5_ = (0 : Int64) then
            (c_X5_writeWhole_J53 S a0 (some a1) i4 i3_ j5_)
          else
            (some ((-2 : Int32), S)))))
set_option maxRecDepth 100000 in
set_option maxHeartbeats 4000000 in
theorem t_X5_writeWhole {S : Mem} {a0 : Nat} {r1 : Option Nat} {j2 : Int64} {i4 : Int32} {w : (Int32 × Mem)} (ha : mKd S a0 = 6) (h : c_X5_writeWhole S a0 r1 j2 i4 = some w) : CT MX yX5_writeWhole cX5_writeWhole 9 (some .int) 4 89 [.ref a0, va_rf r1, .long j2, .int i4] S (some (.int w.1)) w.2 := by
  refine CT.of (lv := [(0, .ref a0), (1, va_rf r1), (2, .long j2), (4, .int i4)]) (by decide) (by cases r1 <;> exact rfl) (by cases r1 <;> exact Nat.le_of_ble_eq_true rfl) ?_
  refine J_aload_nq 1 dX5_writeWhole_0 rfl rfl ?_
  refine J_ifnonnull 6 dX5_writeWhole_1 (by decide) h (fun ea1 h2 => ?_) (fun a1 ea1 h2 => ?_)
  · clear h
    subst ea1
    refine J_lvst (lv' := [(0, .ref a0), (1, va_rf none), (2, .long j2), (4, .int i4)]) (st' := []) rfl rfl ?_
    refine J_iconst (-1 : Int32) dX5_writeWhole_4 (by decide) ?_
    have hw := Option.some.inj h2; subst hw
    exact J_iret rfl dX5_writeWhole_5
  · clear h
    subst ea1
    refine J_lvst (lv' := [(0, .ref a0), (1, .ref a1), (2, .long j2), (4, .int i4)]) (st' := []) rfl rfl ?_
    refine J_lload_n 2 dX5_writeWhole_6 rfl rfl ?_
    refine J_iload 3 dX5_writeWhole_7 rfl ?_
    obtain ⟨i3_, ei3_, h4⟩ := bnd_some h2; clear h2
    refine J_callS (As := [.long j2, .int i4]) (rest := []) (st' := [.int i3_]) (t_X5_exponentField ei3_) gC_X5_exponentField gM_X5_357 rfl (by decide) (by decide) rfl rfl (Nat.le_of_ble_eq_true rfl) dX5_writeWhole_9 ?_
    refine J_istore dX5_writeWhole_12 (by decide) [1, 2, 3, 4, 0] (lv' := [(0, .ref a0), (1, .ref a1), (2, .long j2), (4, .int i4), (5, .int i3_)]) rfl ?_
    refine J_lload_n 2 dX5_writeWhole_14 rfl rfl ?_
    refine J_iload 3 dX5_writeWhole_15 rfl ?_
    obtain ⟨j5_, ej5_, h6⟩ := bnd_some h4; clear h4
    refine J_callS (As := [.long j2, .int i4]) (rest := []) (st' := [.long j5_]) (t_X5_significand ej5_) gC_X5_significand gM_X5_362 rfl (by decide) (by decide) rfl rfl (Nat.le_of_ble_eq_true rfl) dX5_writeWhole_17 ?_
    refine J_lstore dX5_writeWhole_20 (by decide) [1, 2, 3, 4, 5, 0] (lv' := [(0, .ref a0), (1, .ref a1), (2, .long j2), (4, .int i4), (5, .int i3_), (6, .long j5_)]) rfl ?_
    refine J_iload 4 dX5_writeWhole_22 rfl ?_
    refine J_iload 3 dX5_writeWhole_24 rfl ?_
    obtain ⟨i7_, ei7_, h8⟩ := bnd_some h6; clear h6
    refine J_callS (As := [.int i4]) (rest := [.int i3_]) (st' := [.int i7_, .int i3_]) (t_X5_endlessField ei7_) gC_X5_endlessField gM_X5_350 rfl (by decide) (by decide) rfl rfl (Nat.le_of_ble_eq_true rfl) dX5_writeWhole_26 ?_
    refine J_icmp_eq 50 dX5_writeWhole_29 (by decide) h8 (fun c9 h10 => ?_) (fun c9 h10 => ?_)
    · clear h8
      refine J_bipush (-2 : Int32) dX5_writeWhole_50 (by decide) ?_
      have hw := Option.some.inj h10; subst hw
      exact J_iret rfl dX5_writeWhole_52
    · clear h8
      refine J_lload_n 2 dX5_writeWhole_32 rfl rfl ?_
      refine J_iload 3 dX5_writeWhole_33 rfl ?_
      obtain ⟨j11_, ej11_, h12⟩ := bnd_some h10; clear h10
      refine J_callS (As := [.long j2, .int i4]) (rest := []) (st' := [.long j11_]) (t_X5_signBit ej11_) gC_X5_signBit gM_X5_365 rfl (by decide) (by decide) rfl rfl (Nat.le_of_ble_eq_true rfl) dX5_writeWhole_35 ?_
      refine J_lconst (0 : Int64) dX5_writeWhole_38 (by decide) ?_
      refine J_lcmp_eq 53 dX5_writeWhole_39 dX5_writeWhole_40 (by decide) h12 (fun c13 h14 => ?_) (fun c13 h14 => ?_)
      · clear h12
        refine J_lv [0, 1, 3, 4, 5] rfl ?_
        exact t_X5_writeWhole_J53 ha h14
      · clear h12
        refine J_lload 5 dX5_writeWhole_43 rfl ?_
        refine J_lconst (0 : Int64) dX5_writeWhole_45 (by decide) ?_
        refine J_lcmp_eq 53 dX5_writeWhole_46 dX5_writeWhole_47 (by decide) h14 (fun c15 h16 => ?_) (fun c15 h16 => ?_)
        · clear h14
          refine J_lv [0, 1, 3, 4, 5] rfl ?_
          exact t_X5_writeWhole_J53 ha h16
        · clear h14
          refine J_bipush (-2 : Int32) dX5_writeWhole_50 (by decide) ?_
          have hw := Option.some.inj h16; subst hw
          exact J_iret rfl dX5_writeWhole_52
