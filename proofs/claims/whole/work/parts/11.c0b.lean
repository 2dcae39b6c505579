def c_X1_holds (S : Mem) (a0 : Nat) (i1 : Int32) : Option Int32 :=
  if i1 < 0 then
    (some (0 : Int32))
  else
    (bnd (ob S (mR S a0 5) 12) fun a3 =>
    if (nI (mLn S a3)) ≤ i1 then
      (some (0 : Int32))
    else
      (some (1 : Int32)))
set_option maxRecDepth 100000 in
set_option maxHeartbeats 4000000 in
theorem t_X1_holds {S : Mem} {a0 : Nat} {i1 : Int32} {w : Int32} (ha : mKd S a0 = 2) (h : c_X1_holds S a0 i1 = some w) : CT MX yX1_holds cX1_holds 2 (some .boolean) 0 0 [.ref a0, .int i1] S (some (.int w)) S := by
  refine CT.of (lv := [(0, .ref a0), (1, .int i1)]) (by decide) rfl (Nat.le_of_ble_eq_true rfl) ?_
  refine J_iload_n 1 dX1_holds_0 rfl rfl ?_
  refine J_if_lt 17 dX1_holds_1 (by decide) h (fun c1 h2 => ?_) (fun c1 h2 => ?_)
  · clear h
    refine J_iconst (0 : Int32) dX1_holds_17 (by decide) ?_
    have hw := Option.some.inj h2; subst hw
    exact J_zret rfl (by decide) dX1_holds_18
  · clear h
    refine J_iload_n 1 dX1_holds_4 rfl rfl ?_
    refine J_aload_n 0 dX1_holds_5 rfl rfl ?_
    refine J_get (k := 5) (v := va_rf (mR S a0 5)) dX1_holds_6 gF_X1_39 ha rfl ?_
    obtain ⟨a3, ea3, ka3, h4⟩ := ob_some h2; clear h2
    rw [ea3]
    refine J_lvst (lv' := [(0, .ref a0), (1, .int i1)]) (st' := [.ref a3, .int i1]) rfl rfl ?_
    refine J_alen (z := 4) dX1_holds_9 (fun _ => rfl) ka3 ?_
    refine J_icmp_ge 17 dX1_holds_10 (by decide) h4 (fun c5 h6 => ?_) (fun c5 h6 => ?_)
    · clear h4
      refine J_iconst (0 : Int32) dX1_holds_17 (by decide) ?_
      have hw := Option.some.inj h6; subst hw
      exact J_zret rfl (by decide) dX1_holds_18
    · clear h4
      refine J_iconst (1 : Int32) dX1_holds_13 (by decide) ?_
      refine J_goto 18 dX1_holds_14 (by decide) ?_
      have hw := Option.some.inj h6; subst hw
      exact J_zret rfl (by decide) dX1_holds_18
def c_X1_holdsAll (S : Mem) (a0 : Nat) (i1 : Int32) (i2 : Int32) (i3 : Int32) : Option Int32 :=
  bnd (ob S (mR S a0 5) 12) fun a1 =>
  jLet ((nI (mLn S a1))) fun i3_ =>
  if i3 < 0 then
    (some (0 : Int32))
  else
    (if i3_ < i3 then
      (some (0 : Int32))
    else
      (if i1 < 0 then
        (some (0 : Int32))
      else
        (if (i3_ - i3) < i1 then
          (some (0 : Int32))
        else
          (if i2 < 0 then
            (some (0 : Int32))
          else
            (if (i3_ - i3) < i2 then
              (some (0 : Int32))
            else
              (some (1 : Int32)))))))
set_option maxRecDepth 100000 in
set_option maxHeartbeats 4000000 in
theorem t_X1_holdsAll {S : Mem} {a0 : Nat} {i1 : Int32} {i2 : Int32} {i3 : Int32} {w : Int32} (ha : mKd S a0 = 2) (h : c_X1_holdsAll S a0 i1 i2 i3 = some w) : CT MX yX1_holdsAll cX1_holdsAll 5 (some .boolean) 0 0 [.ref a0, .int i1, .int i2, .int i3] S (some (.int w)) S := by
  refine CT.of (lv := [(0, .ref a0), (1, .int i1), (2, .int i2), (3, .int i3)]) (by decide) rfl (Nat.le_of_ble_eq_true rfl) ?_
  refine J_aload_n 0 dX1_holdsAll_0 rfl rfl ?_
  refine J_get (k := 5) (v := va_rf (mR S a0 5)) dX1_holdsAll_1 gF_X1_39 ha rfl ?_
  obtain ⟨a1, ea1, ka1, h2⟩ := ob_some h; clear h
  rw [ea1]
  refine J_lvst (lv' := [(0, .ref a0), (1, .int i1), (2, .int i2), (3, .int i3)]) (st' := [.ref a1]) rfl rfl ?_
  refine J_alen (z := 4) dX1_holdsAll_4 (fun _ => rfl) ka1 ?_
  obtain ⟨i3_, ei3_, h4⟩ := jLet_some h2; clear h2
  refine J_topI ei3_ ?_
  refine J_istore dX1_holdsAll_5 (by decide) [1, 2, 3, 4, 0] (lv' := [(0, .ref a0), (1, .int i1), (2, .int i2), (3, .int i3), (4, .int i3_)]) rfl ?_
  refine J_iload_n 3 dX1_holdsAll_7 rfl rfl ?_
  refine J_if_lt 45 dX1_holdsAll_8 (by decide) h4 (fun c5 h6 => ?_) (fun c5 h6 => ?_)
  · clear h4
    refine J_iconst (0 : Int32) dX1_holdsAll_45 (by decide) ?_
    have hw := Option.some.inj h6; subst hw
    exact J_zret rfl (by decide) dX1_holdsAll_46
  · clear h4
    refine J_iload_n 3 dX1_holdsAll_11 rfl rfl ?_
    refine J_iload 4 dX1_holdsAll_12 rfl ?_
    refine J_icmp_gt 45 dX1_holdsAll_14 (by decide) h6 (fun c7 h8 => ?_) (fun c7 h8 => ?_)
    · clear h6
      refine J_iconst (0 : Int32) dX1_holdsAll_45 (by decide) ?_
      have hw := Option.some.inj h8; subst hw
      exact J_zret rfl (by decide) dX1_holdsAll_46
    · clear h6
      refine J_iload_n 1 dX1_holdsAll_17 rfl rfl ?_
      refine J_if_lt 45 dX1_holdsAll_18 (by decide) h8 (fun c9 h10 => ?_) (fun c9 h10 => ?_)
      · clear h8
        refine J_iconst (0 : Int32) dX1_holdsAll_45 (by decide) ?_
        have hw := Option.some.inj h10; subst hw
        exact J_zret rfl (by decide) dX1_holdsAll_46
      · clear h8
        refine J_iload_n 1 dX1_holdsAll_21 rfl rfl ?_
        refine J_iload 4 dX1_holdsAll_22 rfl ?_
        refine J_iload_n 3 dX1_holdsAll_24 rfl rfl ?_
        refine J_isub dX1_holdsAll_25 ?_
        refine J_icmp_gt 45 dX1_holdsAll_26 (by decide) h10 (fun c11 h12 => ?_) (fun c11 h12 => ?_)
        · clear h10
          refine J_iconst (0 : Int32) dX1_holdsAll_45 (by decide) ?_
          have hw := Option.some.inj h12; subst hw
          exact J_zret rfl (by decide) dX1_holdsAll_46
        · clear h10
          refine J_iload_n 2 dX1_holdsAll_29 rfl rfl ?_
          refine J_if_lt 45 dX1_holdsAll_30 (by decide) h12 (fun c13 h14 => ?_) (fun c13 h14 => ?_)
          · clear h12
            refine J_iconst (0 : Int32) dX1_holdsAll_45 (by decide) ?_
            have hw := Option.some.inj h14; subst hw
            exact J_zret rfl (by decide) dX1_holdsAll_46
          · clear h12
            refine J_iload_n 2 dX1_holdsAll_33 rfl rfl ?_
            refine J_iload 4 dX1_holdsAll_34 rfl ?_
            refine J_iload_n 3 dX1_holdsAll_36 rfl rfl ?_
            refine J_isub dX1_holdsAll_37 ?_
            refine J_icmp_gt 45 dX1_holdsAll_38 (by decide) h14 (fun c15 h16 => ?_) (fun c15 h16 => ?_)
            · clear h14
              refine J_iconst (0 : Int32) dX1_holdsAll_45 (by decide) ?_
              have hw := Option.some.inj h16; subst hw
              exact J_zret rfl (by decide) dX1_holdsAll_46
            · clear h14
              refine J_iconst (1 : Int32) dX1_holdsAll_41 (by decide) ?_
              refine J_goto 46 dX1_holdsAll_42 (by decide) ?_
              have hw := Option.some.inj h16; subst hw
              exact J_zret rfl (by decide) dX1_holdsAll_46
def c_X4_readFault (S : Mem) (a0 : Nat) : Option Int32 :=
  if 0 ≤ (mI S a0 4) then
    (if (mI S a0 1) ≤ (mI S a0 4) then
      (some (0 : Int32))
    else
      (some (2 : Int32)))
  else
    (some (1 : Int32))
set_option maxRecDepth 100000 in
set_option maxHeartbeats 4000000 in
theorem t_X4_readFault {S : Mem} {a0 : Nat} {w : Int32} (ha : mKd S a0 = 5) (h : c_X4_readFault S a0 = some w) : CT MX yX4_readFault cX4_readFault 1 (some .int) 0 0 [.ref a0] S (some (.int w)) S := by
  refine CT.of (lv := [(0, .ref a0)]) (by decide) rfl (Nat.le_of_ble_eq_true rfl) ?_
  refine J_aload_n 0 dX4_readFault_0 rfl rfl ?_
  refine J_get (k := 4) (v := .int (mI S a0 4)) dX4_readFault_1 gF_X4_25 ha rfl ?_
  refine J_if_ge 11 dX4_readFault_4 (by decide) h (fun c1 h2 => ?_) (fun c1 h2 => ?_)
  · clear h
    refine J_aload_n 0 dX4_readFault_11 rfl rfl ?_
    refine J_get (k := 4) (v := .int (mI S a0 4)) dX4_readFault_12 gF_X4_25 ha rfl ?_
    refine J_aload_n 0 dX4_readFault_15 rfl rfl ?_
    refine J_get (k := 1) (v := .int (mI S a0 1)) dX4_readFault_16 gF_X4_22 ha rfl ?_
    refine J_icmp_ge 26 dX4_readFault_19 (by decide) h2 (fun c3 h4 => ?_) (fun c3 h4 => ?_)
    · clear h2
      refine J_iconst (0 : Int32) dX4_readFault_26 (by decide) ?_
      have hw := Option.some.inj h4; subst hw
      exact J_iret rfl dX4_readFault_27
    · clear h2
      refine J_iconst (2 : Int32) dX4_readFault_22 (by decide) ?_
      refine J_goto 27 dX4_readFault_23 (by decide) ?_
      have hw := Option.some.inj h4; subst hw
      exact J_iret rfl dX4_readFault_27
  · clear h
    refine J_iconst (1 : Int32) dX4_readFault_7 (by decide) ?_
    refine J_goto 27 dX4_readFault_8 (by decide) ?_
    have hw := Option.some.inj h2; subst hw
    exact J_iret rfl dX4_readFault_27
def c_X1_readFault (S : Mem) (a0 : Nat) (i1 : Int32) : Option Int32 :=
  bnd (c_X1_holds S a0 i1) fun i1_ =>
  if i1_ = 0 then
    (some (2 : Int32))
  else
    (bnd (ob S (mR S a0 5) 12) fun a5 =>
    gd (inB i1 (mLn S a5)) <|
    bnd (ob S (mR S a5 (Int32.toNatClampNeg i1)) 5) fun a9 =>
    bnd (c_X4_readFault S a9) fun i11_ =>
    some i11_)
set_option maxRecDepth 100000 in
set_option maxHeartbeats 4000000 in
theorem t_X1_readFault {S : Mem} {a0 : Nat} {i1 : Int32} {w : Int32} (ha : mKd S a0 = 2) (h : c_X1_readFault S a0 i1 = some w) : CT MX yX1_readFault cX1_readFault 2 (some .int) 1 21 [.ref a0, .int i1] S (some (.int w)) S := by
  refine CT.of (lv := [(0, .ref a0), (1, .int i1)]) (by decide) rfl (Nat.le_of_ble_eq_true rfl) ?_
  refine J_aload_n 0 dX1_readFault_0 rfl rfl ?_
  refine J_iload_n 1 dX1_readFault_1 rfl rfl ?_
  obtain ⟨i1_, ei1_, h2⟩ := bnd_some h; clear h
  refine J_callV (As := [.int i1]) (rest := []) (st' := [.int i1_]) (t_X1_holds ha ei1_) gC_X1_holds gM_X1_53 (mRecv ha (by decide) jCl1) rfl (by decide) (by decide) rfl rfl (Nat.le_of_ble_eq_true rfl) dX1_readFault_2 ?_
  refine J_if_eq 20 dX1_readFault_5 (by decide) h2 (fun c3 h4 => ?_) (fun c3 h4 => ?_)
  · clear h2
    refine J_iconst (2 : Int32) dX1_readFault_20 (by decide) ?_
    have hw := Option.some.inj h4; subst hw
    exact J_iret rfl dX1_readFault_21
  · clear h2
    refine J_aload_n 0 dX1_readFault_8 rfl rfl ?_
    refine J_get (k := 5) (v := va_rf (mR S a0 5)) dX1_readFault_9 gF_X1_39 ha rfl ?_
    refine J_iload_n 1 dX1_readFault_12 rfl rfl ?_
    obtain ⟨a5, ea5, ka5, h6⟩ := ob_some h4; clear h4
    rw [ea5]
    refine J_lvst (lv' := [(0, .ref a0), (1, .int i1)]) (st' := [.int i1, .ref a5]) rfl rfl ?_
    obtain ⟨g7, h8⟩ := gd_some h6; clear h6
    refine J_aald (z := 4) (C := RX4) dX1_readFault_13 (fun _ => rfl) (fun _ _ => rfl) ka5 g7 ?_
    obtain ⟨a9, ea9, ka9, h10⟩ := ob_some h8; clear h8
    rw [ea9]
    refine J_lvst (lv' := [(0, .ref a0), (1, .int i1)]) (st' := [.ref a9]) rfl rfl ?_
    obtain ⟨i11_, ei11_, h12⟩ := bnd_some h10; clear h10
    refine J_callV (As := []) (rest := []) (st' := [.int i11_]) (t_X4_readFault ka9 ei11_) gC_X4_readFault gM_X1_57 (mRecv ka9 (by decide) jCl4) rfl (by decide) (by decide) rfl rfl (Nat.le_of_ble_eq_true rfl) dX1_readFault_14 ?_
    refine J_goto 21 dX1_readFault_17 (by decide) ?_
    have hw := Option.some.inj h12; subst hw
    exact J_iret rfl dX1_readFault_21
def c_X4_numberFault (S : Mem) (a0 : Nat) (i1 : Int32) : Option Int32 :=
  if 0 ≤ (mI S a0 4) then
    (if i1 < (mI S a0 4) then
      (some (0 : Int32))
    else
      (some (2 : Int32)))
  else
    (some (1 : Int32))
set_option maxRecDepth 100000 in
set_option maxHeartbeats 4000000 in
theorem t_X4_numberFault {S : Mem} {a0 : Nat} {i1 : Int32} {w : Int32} (ha : mKd S a0 = 5) (h : c_X4_numberFault S a0 i1 = some w) : CT MX yX4_numberFault cX4_numberFault 2 (some .int) 0 0 [.ref a0, .int i1] S (some (.int w)) S := by
  refine CT.of (lv := [(0, .ref a0), (1, .int i1)]) (by decide) rfl (Nat.le_of_ble_eq_true rfl) ?_
  refine J_aload_n 0 dX4_numberFault_0 rfl rfl ?_
  refine J_get (k := 4) (v := .int (mI S a0 4)) dX4_numberFault_1 gF_X4_25 ha rfl ?_
  refine J_if_ge 11 dX4_numberFault_4 (by decide) h (fun c1 h2 => ?_) (fun c1 h2 => ?_)
  · clear h
    refine J_iload_n 1 dX4_numberFault_11 rfl rfl ?_
    refine J_aload_n 0 dX4_numberFault_12 rfl rfl ?_
    refine J_get (k := 4) (v := .int (mI S a0 4)) dX4_numberFault_13 gF_X4_25 ha rfl ?_
    refine J_icmp_lt 23 dX4_numberFault_16 (by decide) h2 (fun c3 h4 => ?_) (fun c3 h4 => ?_)
    · clear h2
      refine J_iconst (0 : Int32) dX4_numberFault_23 (by decide) ?_
      have hw := Option.some.inj h4; subst hw
      exact J_iret rfl dX4_numberFault_24
    · clear h2
      refine J_iconst (2 : Int32) dX4_numberFault_19 (by decide) ?_
      refine J_goto 24 dX4_numberFault_20 (by decide) ?_
      have hw := Option.some.inj h4; subst hw
      exact J_iret rfl dX4_numberFault_24
  · clear h
    refine J_iconst (1 : Int32) dX4_numberFault_7 (by decide) ?_
    refine J_goto 24 dX4_numberFault_8 (by decide) ?_
    have hw := Option.some.inj h2; subst hw
    exact J_iret rfl dX4_numberFault_24
def c_X1_numberFault (S : Mem) (a0 : Nat) (i1 : Int32) (i2 : Int32) : Option Int32 :=
  bnd (c_X1_holds S a0 i1) fun i1_ =>
  if i1_ = 0 then
    (some (2 : Int32))
  else
    (bnd (ob S (mR S a0 5) 12) fun a5 =>
    gd (inB i1 (mLn S a5)) <|
    bnd (ob S (mR S a5 (Int32.toNatClampNeg i1)) 5) fun a9 =>
    bnd (c_X4_numberFault S a9 i2) fun i11_ =>
    some i11_)
set_option maxRecDepth 100000 in
set_option maxHeartbeats 4000000 in
theorem t_X1_numberFault {S : Mem} {a0 : Nat} {i1 : Int32} {i2 : Int32} {w : Int32} (ha : mKd S a0 = 2) (h : c_X1_numberFault S a0 i1 i2 = some w) : CT MX yX1_numberFault cX1_numberFault 3 (some .int) 1 21 [.ref a0, .int i1, .int i2] S (some (.int w)) S := by
  refine CT.of (lv := [(0, .ref a0), (1, .int i1), (2, .int i2)]) (by decide) rfl (Nat.le_of_ble_eq_true rfl) ?_
  refine J_aload_n 0 dX1_numberFault_0 rfl rfl ?_
  refine J_iload_n 1 dX1_numberFault_1 rfl rfl ?_
  obtain ⟨i1_, ei1_, h2⟩ := bnd_some h; clear h
  refine J_callV (As := [.int i1]) (rest := []) (st' := [.int i1_]) (t_X1_holds ha ei1_) gC_X1_holds gM_X1_53 (mRecv ha (by decide) jCl1) rfl (by decide) (by decide) rfl rfl (Nat.le_of_ble_eq_true rfl) dX1_numberFault_2 ?_
  refine J_if_eq 21 dX1_numberFault_5 (by decide) h2 (fun c3 h4 => ?_) (fun c3 h4 => ?_)
  · clear h2
    refine J_iconst (2 : Int32) dX1_numberFault_21 (by decide) ?_
    have hw := Option.some.inj h4; subst hw
    exact J_iret rfl dX1_numberFault_22
  · clear h2
    refine J_aload_n 0 dX1_numberFault_8 rfl rfl ?_
    refine J_get (k := 5) (v := va_rf (mR S a0 5)) dX1_numberFault_9 gF_X1_39 ha rfl ?_
    refine J_iload_n 1 dX1_numberFault_12 rfl rfl ?_
    obtain ⟨a5, ea5, ka5, h6⟩ := ob_some h4; clear h4
    rw [ea5]
    refine J_lvst (lv' := [(0, .ref a0), (1, .int i1), (2, .int i2)]) (st' := [.int i1, .ref a5]) rfl rfl ?_
    obtain ⟨g7, h8⟩ := gd_some h6; clear h6
    refine J_aald (z := 4) (C := RX4) dX1_numberFault_13 (fun _ => rfl) (fun _ _ => rfl) ka5 g7 ?_
    refine J_iload_n 2 dX1_numberFault_14 rfl rfl ?_
    obtain ⟨a9, ea9, ka9, h10⟩ := ob_some h8; clear h8
    rw [ea9]
    refine J_lvst (lv' := [(0, .ref a0), (1, .int i1), (2, .int i2)]) (st' := [.int i2, .ref a9]) rfl rfl ?_
    obtain ⟨i11_, ei11_, h12⟩ := bnd_some h10; clear h10
    refine J_callV (As := [.int i2]) (rest := []) (st' := [.int i11_]) (t_X4_numberFault ka9 ei11_) gC_X4_numberFault gM_X1_61 (mRecv ka9 (by decide) jCl4) rfl (by decide) (by decide) rfl rfl (Nat.le_of_ble_eq_true rfl) dX1_numberFault_15 ?_
    refine J_goto 22 dX1_numberFault_18 (by decide) ?_
    have hw := Option.some.inj h12; subst hw
    exact J_iret rfl dX1_numberFault_22
def c_X1_firstFault_L2 (S : Mem) : Nat → Nat → Int32 → Option Int32
  | 0, _, _ => none
  | n + 1, a0, i1 =>
    bnd (ob S (mR S a0 5) 12) fun a1 =>
    if (nI (mLn S a1)) ≤ i1 then
      (some (0 : Int32))
    else
      (bnd (ob S (mR S a0 5) 12) fun a5 =>
      gd (inB i1 (mLn S a5)) <|
      bnd (ob S (mR S a5 (Int32.toNatClampNeg i1)) 5) fun a9 =>
      bnd (c_X4_readFault S a9) fun i11_ =>
      if i11_ = 0 then
        (c_X1_firstFault_L2 S n a0 (i1 + (1 : Int32)))
      else
        (some i11_))
set_option maxRecDepth 100000 in
set_option maxHeartbeats 4000000 in
theorem t_X1_firstFault_L2 {S : Mem} {w : Int32} (n : Nat) : ∀ (a0 : Nat) (i1 : Int32), (mKd S a0 = 2) → c_X1_firstFault_L2 S n a0 i1 = some w → J MX yX1_firstFault cX1_firstFault 3 (some .int) 1 20 2 [(0, .ref a0), (1, .int i1)] [] S (some (.int w)) S := by
  induction n with
  | zero => intro a0 i1 ha h; cases h
  | succ n lh =>
    intro a0 i1 ha h
    refine J_iload_n 1 dX1_firstFault_2 rfl rfl ?_
    refine J_aload_n 0 dX1_firstFault_3 rfl rfl ?_
    refine J_get (k := 5) (v := va_rf (mR S a0 5)) dX1_firstFault_4 gF_X1_39 ha rfl ?_
    obtain ⟨a1, ea1, ka1, h2⟩ := ob_some h; clear h
    rw [ea1]
    refine J_lvst (lv' := [(0, .ref a0), (1, .int i1)]) (st' := [.ref a1, .int i1]) rfl rfl ?_
    refine J_alen (z := 4) dX1_firstFault_7 (fun _ => rfl) ka1 ?_
    refine J_icmp_ge 33 dX1_firstFault_8 (by decide) h2 (fun c3 h4 => ?_) (fun c3 h4 => ?_)
    · clear h2
      refine J_iconst (0 : Int32) dX1_firstFault_33 (by decide) ?_
      have hw := Option.some.inj h4; subst hw
      exact J_iret rfl dX1_firstFault_34
    · clear h2
      refine J_aload_n 0 dX1_firstFault_11 rfl rfl ?_
      refine J_get (k := 5) (v := va_rf (mR S a0 5)) dX1_firstFault_12 gF_X1_39 ha rfl ?_
      refine J_iload_n 1 dX1_firstFault_15 rfl rfl ?_
      obtain ⟨a5, ea5, ka5, h6⟩ := ob_some h4; clear h4
      rw [ea5]
      refine J_lvst (lv' := [(0, .ref a0), (1, .int i1)]) (st' := [.int i1, .ref a5]) rfl rfl ?_
      obtain ⟨g7, h8⟩ := gd_some h6; clear h6
      refine J_aald (z := 4) (C := RX4) dX1_firstFault_16 (fun _ => rfl) (fun _ _ => rfl) ka5 g7 ?_
      obtain ⟨a9, ea9, ka9, h10⟩ := ob_some h8; clear h8
      rw [ea9]
      refine J_lvst (lv' := [(0, .ref a0), (1, .int i1)]) (st' := [.ref a9]) rfl rfl ?_
      obtain ⟨i11_, ei11_, h12⟩ := bnd_some h10; clear h10
      refine J_callV (As := []) (rest := []) (st' := [.int i11_]) (t_X4_readFault ka9 ei11_) gC_X4_readFault gM_X1_57 (mRecv ka9 (by decide) jCl4) rfl (by decide) (by decide) rfl rfl (Nat.le_of_ble_eq_true rfl) dX1_firstFault_17 ?_
      refine J_istore_n dX1_firstFault_20 rfl (by decide) [1, 2, 0] (lv' := [(0, .ref a0), (1, .int i1), (2, .int i11_)]) rfl ?_
      refine J_iload_n 2 dX1_firstFault_21 rfl rfl ?_
      refine J_if_eq 27 dX1_firstFault_22 (by decide) h12 (fun c13 h14 => ?_) (fun c13 h14 => ?_)
      · clear h12
        refine J_iinc 1 (1 : Int32) dX1_firstFault_27 rfl (by decide) (by decide) [1, 0, 2] (lv' := [(0, .ref a0), (1, .int (i1 + (1 : Int32))), (2, .int i11_)]) rfl ?_
        refine J_goto 2 dX1_firstFault_30 (by decide) ?_
        refine J_lv [0, 1] rfl ?_
        exact lh a0 (i1 + (1 : Int32)) ha h14
      · clear h12
        refine J_iload_n 2 dX1_firstFault_25 rfl rfl ?_
        have hw := Option.some.inj h14; subst hw
        exact J_iret rfl dX1_firstFault_26
def c_X1_firstFault (S : Mem) (a0 : Nat) : Option Int32 :=
  c_X1_firstFault_L2 S bigN a0 (0 : Int32)
set_option maxRecDepth 100000 in
set_option maxHeartbeats 4000000 in
theorem t_X1_firstFault {S : Mem} {a0 : Nat} {w : Int32} (ha : mKd S a0 = 2) (h : c_X1_firstFault S a0 = some w) : CT MX yX1_firstFault cX1_firstFault 3 (some .int) 1 20 [.ref a0] S (some (.int w)) S := by
  refine CT.of (lv := [(0, .ref a0)]) (by decide) rfl (Nat.le_of_ble_eq_true rfl) ?_
  refine J_iconst (0 : Int32) dX1_firstFault_0 (by decide) ?_
  refine J_istore_n dX1_firstFault_1 rfl (by decide) [1, 0] (lv' := [(0, .ref a0), (1, .int (0 : Int32))]) rfl ?_
  exact t_X1_firstFault_L2 bigN a0 (0 : Int32) ha h
def c_X4_value (S : Mem) (a0 : Nat) : Option Int32 :=
  some ((mI S a0 5) + ((5 : Int32) * (mI S a0 6)))
set_option maxRecDepth 100000 in
set_option maxHeartbeats 4000000 in
theorem t_X4_value {S : Mem} {a0 : Nat} {w : Int32} (ha : mKd S a0 = 5) (h : c_X4_value S a0 = some w) : CT MX yX4_value cX4_value 1 (some .int) 0 0 [.ref a0] S (some (.int w)) S := by
  refine CT.of (lv := [(0, .ref a0)]) (by decide) rfl (Nat.le_of_ble_eq_true rfl) ?_
  refine J_aload_n 0 dX4_value_0 rfl rfl ?_
  refine J_get (k := 5) (v := .int (mI S a0 5)) dX4_value_1 gF_X4_28 ha rfl ?_
  refine J_iconst (5 : Int32) dX4_value_4 (by decide) ?_
  refine J_aload_n 0 dX4_value_5 rfl rfl ?_
  refine J_get (k := 6) (v := .int (mI S a0 6)) dX4_value_6 gF_X4_31 ha rfl ?_
  refine J_imul dX4_value_9 ?_
  refine J_iadd dX4_value_10 ?_
  have hw := Option.some.inj h; subst hw
  exact J_iret rfl dX4_value_11
def c_X1_sum_L10 (S : Mem) : Nat → Nat → Int64 → Int32 → Option Int64
  | 0, _, _, _ => none
  | n + 1, a0, j1, i3 =>
    if i3 < 0 then
      (some j1)
    else
      (bnd (ob S (mR S a0 5) 12) fun a3 =>
      gd (inB i3 (mLn S a3)) <|
      bnd (ob S (mR S a3 (Int32.toNatClampNeg i3)) 5) fun a7 =>
      bnd (c_X4_value S a7) fun i9_ =>
      jLet (((j1 * (Int32.toInt64 (mI S a0 2))) + (Int32.toInt64 i9_))) fun j11_ =>
      c_X1_sum_L10 S n a0 j11_ (i3 + (-1 : Int32)))
set_option maxRecDepth 100000 in
set_option maxHeartbeats 4000000 in
theorem t_X1_sum_L10 {S : Mem} {w : Int64} (n : Nat) : ∀ (a0 : Nat) (j1 : Int64) (i3 : Int32), (mKd S a0 = 2) → c_X1_sum_L10 S n a0 j1 i3 = some w → J MX yX1_sum cX1_sum 4 (some .long) 1 20 10 [(0, .ref a0), (1, .long j1), (3, .int i3)] [] S (some (.long w)) S := by
  induction n with
  | zero => intro a0 j1 i3 ha h; cases h
  | succ n lh =>
    intro a0 j1 i3 ha h
    refine J_iload_n 2 dX1_sum_10 rfl rfl ?_
    refine J_if_lt 39 dX1_sum_11 (by decide) h (fun c1 h2 => ?_) (fun c1 h2 => ?_)
    · clear h
      refine J_lload_n 1 dX1_sum_39 rfl rfl ?_
      have hw := Option.some.inj h2; subst hw
      exact J_lret rfl dX1_sum_40
    · clear h
      refine J_lload_n 1 dX1_sum_14 rfl rfl ?_
      refine J_aload_n 0 dX1_sum_15 rfl rfl ?_
      refine J_get (k := 2) (v := .int (mI S a0 2)) dX1_sum_16 gF_X1_22 ha rfl ?_
      refine J_i2l dX1_sum_19 ?_
      refine J_lmul dX1_sum_20 ?_
      refine J_aload_n 0 dX1_sum_21 rfl rfl ?_
      refine J_get (k := 5) (v := va_rf (mR S a0 5)) dX1_sum_22 gF_X1_39 ha rfl ?_
      refine J_iload_n 2 dX1_sum_25 rfl rfl ?_
      obtain ⟨a3, ea3, ka3, h4⟩ := ob_some h2; clear h2
      rw [ea3]
      refine J_lvst (lv' := [(0, .ref a0), (1, .long j1), (3, .int i3)]) (st' := [.int i3, .ref a3, .long (j1 * (Int32.toInt64 (mI S a0 2)))]) rfl rfl ?_
      obtain ⟨g5, h6⟩ := gd_some h4; clear h4
      refine J_aald (z := 4) (C := RX4) dX1_sum_26 (fun _ => rfl) (fun _ _ => rfl) ka3 g5 ?_
      obtain ⟨a7, ea7, ka7, h8⟩ := ob_some h6; clear h6
      rw [ea7]
      refine J_lvst (lv' := [(0, .ref a0), (1, .long j1), (3, .int i3)]) (st' := [.ref a7, .long (j1 * (Int32.toInt64 (mI S a0 2)))]) rfl rfl ?_
      obtain ⟨i9_, ei9_, h10⟩ := bnd_some h8; clear h8
      refine J_callV (As := []) (rest := [.long (j1 * (Int32.toInt64 (mI S a0 2)))]) (st' := [.int i9_, .long (j1 * (Int32.toInt64 (mI S a0 2)))]) (t_X4_value ka7 ei9_) gC_X4_value gM_X1_64 (mRecv ka7 (by decide) jCl4) rfl (by decide) (by decide) rfl rfl (Nat.le_of_ble_eq_true rfl) dX1_sum_27 ?_
      refine J_i2l dX1_sum_30 ?_
      refine J_ladd dX1_sum_31 ?_
      obtain ⟨j11_, ej11_, h12⟩ := jLet_some h10; clear h10
      refine J_topL ej11_ ?_
      refine J_lstore_n dX1_sum_32 rfl (by decide) [1, 0, 2] (lv' := [(0, .ref a0), (1, .long j11_), (3, .int i3)]) rfl ?_
      refine J_iinc 2 (-1 : Int32) dX1_sum_33 rfl (by decide) (by decide) [1, 2, 0] (lv' := [(0, .ref a0), (1, .long j11_), (3, .int (i3 + (-1 : Int32)))]) rfl ?_
      refine J_goto 10 dX1_sum_36 (by decide) ?_
      exact lh a0 j11_ (i3 + (-1 : Int32)) ha h12
def c_X1_sum (S : Mem) (a0 : Nat) : Option Int64 :=
  bnd (ob S (mR S a0 5) 12) fun a1 =>
  jLet (((nI (mLn S a1)) - (1 : Int32))) fun i3_ =>
  c_X1_sum_L10 S bigN a0 (0 : Int64) i3_
set_option maxRecDepth 100000 in
set_option maxHeartbeats 4000000 in
theorem t_X1_sum {S : Mem} {a0 : Nat} {w : Int64} (ha : mKd S a0 = 2) (h : c_X1_sum S a0 = some w) : CT MX yX1_sum cX1_sum 4 (some .long) 1 20 [.ref a0] S (some (.long w)) S := by
  refine CT.of (lv := [(0, .ref a0)]) (by decide) rfl (Nat.le_of_ble_eq_true rfl) ?_
  refine J_lconst (0 : Int64) dX1_sum_0 (by decide) ?_
  refine J_lstore_n dX1_sum_1 rfl (by decide) [1, 0] (lv' := [(0, .ref a0), (1, .long (0 : Int64))]) rfl ?_
  refine J_aload_n 0 dX1_sum_2 rfl rfl ?_
  refine J_get (k := 5) (v := va_rf (mR S a0 5)) dX1_sum_3 gF_X1_39 ha rfl ?_
  obtain ⟨a1, ea1, ka1, h2⟩ := ob_some h; clear h
  rw [ea1]
  refine J_lvst (lv' := [(0, .ref a0), (1, .long (0 : Int64))]) (st' := [.ref a1]) rfl rfl ?_
  refine J_alen (z := 4) dX1_sum_6 (fun _ => rfl) ka1 ?_
  refine J_iconst (1 : Int32) dX1_sum_7 (by decide) ?_
  refine J_isub dX1_sum_8 ?_
  obtain ⟨i3_, ei3_, h4⟩ := jLet_some h2; clear h2
  refine J_topI ei3_ ?_
  refine J_istore_n dX1_sum_9 rfl (by decide) [1, 2, 0] (lv' := [(0, .ref a0), (1, .long (0 : Int64)), (3, .int i3_)]) rfl ?_
  exact t_X1_sum_L10 bigN a0 (0 : Int64) i3_ ha h4
def c_X4_writtenUpper (S : Mem) (a0 : Nat) (i1 : Int32) : Option Int32 :=
  if (mI S a0 0) = 0 then
    (if (10 : Int32) ≤ i1 then
      (some (2 : Int32))
    else
      (some (i1 / (5 : Int32))))
  else
    (some (0 : Int32))
set_option maxRecDepth 100000 in
set_option maxHeartbeats 4000000 in
theorem t_X4_writtenUpper {S : Mem} {a0 : Nat} {i1 : Int32} {w : Int32} (ha : mKd S a0 = 5) (h : c_X4_writtenUpper S a0 i1 = some w) : CT MX yX4_writtenUpper cX4_writtenUpper 2 (some .int) 0 0 [.ref a0, .int i1] S (some (.int w)) S := by
  refine CT.of (lv := [(0, .ref a0), (1, .int i1)]) (by decide) rfl (Nat.le_of_ble_eq_true rfl) ?_
  refine J_aload_n 0 dX4_writtenUpper_0 rfl rfl ?_
  refine J_get (k := 0) (v := .int (mI S a0 0)) dX4_writtenUpper_1 gF_X4_9 ha rfl ?_
  refine J_if_eq 11 dX4_writtenUpper_4 (by decide) h (fun c1 h2 => ?_) (fun c1 h2 => ?_)
  · clear h
    refine J_iload_n 1 dX4_writtenUpper_11 rfl rfl ?_
    refine J_bipush (10 : Int32) dX4_writtenUpper_12 (by decide) ?_
    refine J_icmp_ge 23 dX4_writtenUpper_14 (by decide) h2 (fun c3 h4 => ?_) (fun c3 h4 => ?_)
    · clear h2
      refine J_iconst (2 : Int32) dX4_writtenUpper_23 (by decide) ?_
      have hw := Option.some.inj h4; subst hw
      exact J_iret rfl dX4_writtenUpper_24
    · clear h2
      refine J_iload_n 1 dX4_writtenUpper_17 rfl rfl ?_
      refine J_iconst (5 : Int32) dX4_writtenUpper_18 (by decide) ?_
      refine J_idiv dX4_writtenUpper_19 (by decide) ?_
      refine J_goto 24 dX4_writtenUpper_20 (by decide) ?_
      have hw := Option.some.inj h4; subst hw
      exact J_iret rfl dX4_writtenUpper_24
  · clear h
    refine J_iconst (0 : Int32) dX4_writtenUpper_7 (by decide) ?_
    refine J_goto 24 dX4_writtenUpper_8 (by decide) ?_
    have hw := Option.some.inj h2; subst hw
    exact J_iret rfl dX4_writtenUpper_24
def c_X4_write (S : Mem) (a0 : Nat) (i1 : Int32) : Option Mem :=
  bnd (c_X4_writtenUpper S a0 i1) fun i1_ =>
  jLet (mSI S a0 6 i1_) fun S3 =>
  jLet ((i1 - ((5 : Int32) * (mI S3 a0 6)))) fun i5_ =>
  jLet (mSI S3 a0 5 i5_) fun S7 =>
  some S7
set_option maxRecDepth 100000 in
set_option maxHeartbeats 4000000 in
theorem t_X4_write {S : Mem} {a0 : Nat} {i1 : Int32} {w : Mem} (ha : mKd S a0 = 5) (h : c_X4_write S a0 i1 = some w) : CT MX yX4_write cX4_write 2 none 1 21 [.ref a0, .int i1] S none w := by
  refine CT.of (lv := [(0, .ref a0), (1, .int i1)]) (by decide) rfl (Nat.le_of_ble_eq_true rfl) ?_
  refine J_aload_n 0 dX4_write_0 rfl rfl ?_
  refine J_aload_n 0 dX4_write_1 rfl rfl ?_
  refine J_iload_n 1 dX4_write_2 rfl rfl ?_
  obtain ⟨i1_, ei1_, h2⟩ := bnd_some h; clear h
  refine J_callV (As := [.int i1]) (rest := [.ref a0]) (st' := [.int i1_, .ref a0]) (t_X4_writtenUpper ha ei1_) gC_X4_writtenUpper gM_X4_34 (mRecv ha (by decide) jCl4) rfl (by decide) (by decide) rfl rfl (Nat.le_of_ble_eq_true rfl) dX4_write_3 ?_
  refine J_putI (k := 6) dX4_write_6 gW_X4_31 ha rfl ?_
  obtain ⟨S3, eS3, h4⟩ := jLet_some h2; clear h2
  refine J_topS eS3 ?_
  have hS3_a0 : mKd S3 a0 = 5 := by rw [eS3]; exact ha
  refine J_aload_n 0 dX4_write_9 rfl rfl ?_
  refine J_iload_n 1 dX4_write_10 rfl rfl ?_
  refine J_iconst (5 : Int32) dX4_write_11 (by decide) ?_
  refine J_aload_n 0 dX4_write_12 rfl rfl ?_
  refine J_get (k := 6) (v := .int (mI S3 a0 6)) dX4_write_13 gF_X4_31 hS3_a0 rfl ?_
  refine J_imul dX4_write_16 ?_
  refine J_isub dX4_write_17 ?_
  obtain ⟨i5_, ei5_, h6⟩ := jLet_some h4; clear h4
  refine J_topI ei5_ ?_
  refine J_putI (k := 5) dX4_write_18 gW_X4_28 hS3_a0 rfl ?_
  obtain ⟨S7, eS7, h8⟩ := jLet_some h6; clear h6
  refine J_topS eS7 ?_
  have hS7_a0 : mKd S7 a0 = 5 := by rw [eS7]; exact hS3_a0
  have hw := Option.some.inj h8; subst hw
  exact J_vret rfl dX4_write_21
def c_X1_writeNumber_L2 : Nat → Mem → Nat → Int64 → Int32 → Option Mem
  | 0, _, _, _, _ => none
  | n + 1, S, a0, j1, i3 =>
    bnd (ob S (mR S a0 5) 12) fun a1 =>
    if (nI (mLn S a1)) ≤ i3 then
      (some S)
    else
      (bnd (ob S (mR S a0 5) 12) fun a5 =>
      gd (inB i3 (mLn S a5)) <|
      bnd (c_X5_digitAt j1 (mI S a0 2) i3) fun i9_ =>
      bnd (ob S (mR S a5 (Int32.toNatClampNeg i3)) 5) fun a11 =>
      bnd (c_X4_write S a11 i9_) fun S13 =>
      c_X1_writeNumber_L2 n S13 a0 j1 (i3 + (1 : Int32)))
set_option maxRecDepth 100000 in
set_option maxHeartbeats 4000000 in
theorem t_X1_writeNumber_L2 {w : Mem} (n : Nat) : ∀ (S : Mem) (a0 : Nat) (j1 : Int64) (i3 : Int32), (mKd S a0 = 2) → c_X1_writeNumber_L2 n S a0 j1 i3 = some w → J MX yX1_writeNumber cX1_writeNumber 4 none 2 42 2 [(0, .ref a0), (1, .long j1), (3, .int i3)] [] S none w := by
  induction n with
  | zero => intro S a0 j1 i3 ha h; cases h
  | succ n lh =>
    intro S a0 j1 i3 ha h
    refine J_iload_n 2 dX1_writeNumber_2 rfl rfl ?_
    refine J_aload_n 0 dX1_writeNumber_3 rfl rfl ?_
    refine J_get (k := 5) (v := va_rf (mR S a0 5)) dX1_writeNumber_4 gF_X1_39 ha rfl ?_
    obtain ⟨a1, ea1, ka1, h2⟩ := ob_some h; clear h
    rw [ea1]
    refine J_lvst (lv' := [(0, .ref a0), (1, .long j1), (3, .int i3)]) (st' := [.ref a1, .int i3]) rfl rfl ?_
    refine J_alen (z := 4) dX1_writeNumber_7 (fun _ => rfl) ka1 ?_
    refine J_icmp_ge 35 dX1_writeNumber_8 (by decide) h2 (fun c3 h4 => ?_) (fun c3 h4 => ?_)
    · clear h2
      have hw := Option.some.inj h4; subst hw
      exact J_vret rfl dX1_writeNumber_35
    · clear h2
      refine J_aload_n 0 dX1_writeNumber_11 rfl rfl ?_
      refine J_get (k := 5) (v := va_rf (mR S a0 5)) dX1_writeNumber_12 gF_X1_39 ha rfl ?_
      refine J_iload_n 2 dX1_writeNumber_15 rfl rfl ?_
      obtain ⟨a5, ea5, ka5, h6⟩ := ob_some h4; clear h4
      rw [ea5]
      refine J_lvst (lv' := [(0, .ref a0), (1, .long j1), (3, .int i3)]) (st' := [.int i3, .ref a5]) rfl rfl ?_
      obtain ⟨g7, h8⟩ := gd_some h6; clear h6
      refine J_aald (z := 4) (C := RX4) dX1_writeNumber_16 (fun _ => rfl) (fun _ _ => rfl) ka5 g7 ?_
      refine J_lload_n 1 dX1_writeNumber_17 rfl rfl ?_
      refine J_aload_n 0 dX1_writeNumber_18 rfl rfl ?_
      refine J_get (k := 2) (v := .int (mI S a0 2)) dX1_writeNumber_19 gF_X1_22 ha rfl ?_
      refine J_iload_n 2 dX1_writeNumber_22 rfl rfl ?_
      obtain ⟨i9_, ei9_, h10⟩ := bnd_some h8; clear h8
      refine J_callSN (As := [.long j1, .int (mI S a0 2), .int i3]) (rest := [va_rf (mR S a5 (Int32.toNatClampNeg i3))]) (st' := [.int i9_, va_rf (mR S a5 (Int32.toNatClampNeg i3))]) (t_X5_digitAt ei9_) gC_X5_digitAt gM_X1_67 rfl (by decide) (by decide) rfl rfl (by simp only [List.map_cons, List.map_nil, List.sum_cons, List.sum_nil, va_rf_cat]; exact Nat.le_of_ble_eq_true rfl) dX1_writeNumber_23 ?_
      obtain ⟨a11, ea11, ka11, h12⟩ := ob_some h10; clear h10
      rw [ea11]
      refine J_lvst (lv' := [(0, .ref a0), (1, .long j1), (3, .int i3)]) (st' := [.int i9_, .ref a11]) rfl rfl ?_
      obtain ⟨S13, eS13, h14⟩ := bnd_some h12; clear h12
      have cS13 := (t_X4_write ka11 eS13)
      have lS13 : jle MX S S13 := cS13.1
      have hS13_a0 : mKd S13 a0 = 2 := kd_le lS13 ha
      have hS13_a1 : mKd S13 a1 = 12 := kd_le lS13 ka1
      have hS13_a5 : mKd S13 a5 = 12 := kd_le lS13 ka5
      have hS13_a11 : mKd S13 a11 = 5 := kd_le lS13 ka11
      refine J_callV (As := [.int i9_]) (rest := []) (st' := []) cS13 gC_X4_write gM_X1_71 (mRecv ka11 (by decide) jCl4) rfl (by decide) (by decide) rfl rfl (Nat.le_of_ble_eq_true rfl) dX1_writeNumber_26 ?_
      refine J_iinc 2 (1 : Int32) dX1_writeNumber_29 rfl (by decide) (by decide) [1, 2, 0] (lv' := [(0, .ref a0), (1, .long j1), (3, .int (i3 + (1 : Int32)))]) rfl ?_
      refine J_goto 2 dX1_writeNumber_32 (by decide) ?_
      exact lh S13 a0 j1 (i3 + (1 : Int32)) hS13_a0 h14
def c_X1_writeNumber (S : Mem) (a0 : Nat) (j1 : Int64) : Option Mem :=
  c_X1_writeNumber_L2 bigN S a0 j1 (0 : Int32)
set_option maxRecDepth 100000 in
set_option maxHeartbeats 4000000 in
theorem t_X1_writeNumber {S : Mem} {a0 : Nat} {j1 : Int64} {w : Mem} (ha : mKd S a0 = 2) (h : c_X1_writeNumber S a0 j1 = some w) : CT MX yX1_writeNumber cX1_writeNumber 4 none 2 42 [.ref a0, .long j1] S none w := by
  refine CT.of (lv := [(0, .ref a0), (1, .long j1)]) (by decide) rfl (Nat.le_of_ble_eq_true rfl) ?_
  refine J_iconst (0 : Int32) dX1_writeNumber_0 (by decide) ?_
  refine J_istore_n dX1_writeNumber_1 rfl (by decide) [1, 2, 0] (lv' := [(0, .ref a0), (1, .long j1), (3, .int (0 : Int32))]) rfl ?_
  exact t_X1_writeNumber_L2 bigN S a0 j1 (0 : Int32) ha h
def c_X4_isProper (S : Mem) (a0 : Nat) (i1 : Int32) : Option Int32 :=
  bnd (c_X4_value S a0) fun i1_ =>
  if i1 ≤ i1_ then
    (some (0 : Int32))
  else
    (bnd (c_X4_writtenUpper S a0 i1_) fun i5_ =>
    if (mI S a0 6) = i5_ then
      (some (1 : Int32))
    else
      (some (0 : Int32)))
set_option maxRecDepth 100000 in
set_option maxHeartbeats 4000000 in
theorem t_X4_isProper {S : Mem} {a0 : Nat} {i1 : Int32} {w : Int32} (ha : mKd S a0 = 5) (h : c_X4_isProper S a0 i1 = some w) : CT MX yX4_isProper cX4_isProper 3 (some .boolean) 1 21 [.ref a0, .int i1] S (some (.int w)) S := by
  refine CT.of (lv := [(0, .ref a0), (1, .int i1)]) (by decide) rfl (Nat.le_of_ble_eq_true rfl) ?_
  refine J_aload_n 0 dX4_isProper_0 rfl rfl ?_
  obtain ⟨i1_, ei1_, h2⟩ := bnd_some h; clear h
  refine J_callV (As := []) (rest := []) (st' := [.int i1_]) (t_X4_value ha ei1_) gC_X4_value gM_X4_38 (mRecv ha (by decide) jCl4) rfl (by decide) (by decide) rfl rfl (Nat.le_of_ble_eq_true rfl) dX4_isProper_1 ?_
  refine J_istore_n dX4_isProper_4 rfl (by decide) [1, 2, 0] (lv' := [(0, .ref a0), (1, .int i1), (2, .int i1_)]) rfl ?_
  refine J_iload_n 2 dX4_isProper_5 rfl rfl ?_
  refine J_iload_n 1 dX4_isProper_6 rfl rfl ?_
  refine J_icmp_ge 26 dX4_isProper_7 (by decide) h2 (fun c3 h4 => ?_) (fun c3 h4 => ?_)
  · clear h2
    refine J_iconst (0 : Int32) dX4_isProper_26 (by decide) ?_
    have hw := Option.some.inj h4; subst hw
    exact J_zret rfl (by decide) dX4_isProper_27
  · clear h2
    refine J_aload_n 0 dX4_isProper_10 rfl rfl ?_
    refine J_get (k := 6) (v := .int (mI S a0 6)) dX4_isProper_11 gF_X4_31 ha rfl ?_
    refine J_aload_n 0 dX4_isProper_14 rfl rfl ?_
    refine J_iload_n 2 dX4_isProper_15 rfl rfl ?_
    obtain ⟨i5_, ei5_, h6⟩ := bnd_some h4; clear h4
    refine J_callV (As := [.int i1_]) (rest := [.int (mI S a0 6)]) (st' := [.int i5_, .int (mI S a0 6)]) (t_X4_writtenUpper ha ei5_) gC_X4_writtenUpper gM_X4_34 (mRecv ha (by decide) jCl4) rfl (by decide) (by decide) rfl rfl (Nat.le_of_ble_eq_true rfl) dX4_isProper_16 ?_
    refine J_icmp_ne 26 dX4_isProper_19 (by decide) h6 (fun c7 h8 => ?_) (fun c7 h8 => ?_)
    · clear h6
      refine J_iconst (1 : Int32) dX4_isProper_22 (by decide) ?_
      refine J_goto 27 dX4_isProper_23 (by decide) ?_
      have hw := Option.some.inj h8; subst hw
      exact J_zret rfl (by decide) dX4_isProper_27
    · clear h6
      refine J_iconst (0 : Int32) dX4_isProper_26 (by decide) ?_
      have hw := Option.some.inj h8; subst hw
      exact J_zret rfl (by decide) dX4_isProper_27
def c_X1_allProper_L2 (S : Mem) : Nat → Nat → Int32 → Option Int32
  | 0, _, _ => none
  | n + 1, a0, i1 =>
    bnd (ob S (mR S a0 5) 12) fun a1 =>
    if (nI (mLn S a1)) ≤ i1 then
      (some (1 : Int32))
    else
      (bnd (ob S (mR S a0 5) 12) fun a5 =>
      gd (inB i1 (mLn S a5)) <|
      bnd (ob S (mR S a5 (Int32.toNatClampNeg i1)) 5) fun a9 =>
      bnd (c_X4_readFault S a9) fun i11_ =>
      if i11_ = 0 then
        (bnd (ob S (mR S a0 5) 12) fun a15 =>
        gd (inB i1 (mLn S a15)) <|
        bnd (ob S (mR S a15 (Int32.toNatClampNeg i1)) 5) fun a19 =>
        bnd (c_X4_isProper S a19 (mI S a0 2)) fun i21_ =>
        if i21_ = 0 then
          (some (0 : Int32))
        else
          (c_X1_allProper_L2 S n a0 (i1 + (1 : Int32))))
      else
        (c_X1_allProper_L2 S n a0 (i1 + (1 : Int32))))
set_option maxRecDepth 100000 in
set_option maxHeartbeats 4000000 in
theorem t_X1_allProper_L2 {S : Mem} {w : Int32} (n : Nat) : ∀ (a0 : Nat) (i1 : Int32), (mKd S a0 = 2) → c_X1_allProper_L2 S n a0 i1 = some w → J MX yX1_allProper cX1_allProper 2 (some .boolean) 2 43 2 [(0, .ref a0), (1, .int i1)] [] S (some (.int w)) S := by
  induction n with
  | zero => intro a0 i1 ha h; cases h
  | succ n lh =>
    intro a0 i1 ha h
    refine J_iload_n 1 dX1_allProper_2 rfl rfl ?_
    refine J_aload_n 0 dX1_allProper_3 rfl rfl ?_
    refine J_get (k := 5) (v := va_rf (mR S a0 5)) dX1_allProper_4 gF_X1_39 ha rfl ?_
    obtain ⟨a1, ea1, ka1, h2⟩ := ob_some h; clear h
    rw [ea1]
    refine J_lvst (lv' := [(0, .ref a0), (1, .int i1)]) (st' := [.ref a1, .int i1]) rfl rfl ?_
    refine J_alen (z := 4) dX1_allProper_7 (fun _ => rfl) ka1 ?_
    refine J_icmp_ge 47 dX1_allProper_8 (by decide) h2 (fun c3 h4 => ?_) (fun c3 h4 => ?_)
    · clear h2
      refine J_iconst (1 : Int32) dX1_allProper_47 (by decide) ?_
      have hw := Option.some.inj h4; subst hw
      exact J_zret rfl (by decide) dX1_allProper_48
    · clear h2
      refine J_aload_n 0 dX1_allProper_11 rfl rfl ?_
      refine J_get (k := 5) (v := va_rf (mR S a0 5)) dX1_allProper_12 gF_X1_39 ha rfl ?_
      refine J_iload_n 1 dX1_allProper_15 rfl rfl ?_
      obtain ⟨a5, ea5, ka5, h6⟩ := ob_some h4; clear h4
      rw [ea5]
      refine J_lvst (lv' := [(0, .ref a0), (1, .int i1)]) (st' := [.int i1, .ref a5]) rfl rfl ?_
      obtain ⟨g7, h8⟩ := gd_some h6; clear h6
      refine J_aald (z := 4) (C := RX4) dX1_allProper_16 (fun _ => rfl) (fun _ _ => rfl) ka5 g7 ?_
      obtain ⟨a9, ea9, ka9, h10⟩ := ob_some h8; clear h8
      rw [ea9]
      refine J_lvst (lv' := [(0, .ref a0), (1, .int i1)]) (st' := [.ref a9]) rfl rfl ?_
      obtain ⟨i11_, ei11_, h12⟩ := bnd_some h10; clear h10
      refine J_callV (As := []) (rest := []) (st' := [.int i11_]) (t_X4_readFault ka9 ei11_) gC_X4_readFault gM_X1_57 (mRecv ka9 (by decide) jCl4) rfl (by decide) (by decide) rfl rfl (Nat.le_of_ble_eq_true rfl) dX1_allProper_17 ?_
      refine J_if_ne 41 dX1_allProper_20 (by decide) h12 (fun c13 h14 => ?_) (fun c13 h14 => ?_)
      · clear h12
        refine J_aload_n 0 dX1_allProper_23 rfl rfl ?_
        refine J_get (k := 5) (v := va_rf (mR S a0 5)) dX1_allProper_24 gF_X1_39 ha rfl ?_
        refine J_iload_n 1 dX1_allProper_27 rfl rfl ?_
        obtain ⟨a15, ea15, ka15, h16⟩ := ob_some h14; clear h14
        rw [ea15]
        refine J_lvst (lv' := [(0, .ref a0), (1, .int i1)]) (st' := [.int i1, .ref a15]) rfl rfl ?_
        obtain ⟨g17, h18⟩ := gd_some h16; clear h16
        refine J_aald (z := 4) (C := RX4) dX1_allProper_28 (fun _ => rfl) (fun _ _ => rfl) ka15 g17 ?_
        refine J_aload_n 0 dX1_allProper_29 rfl rfl ?_
        refine J_get (k := 2) (v := .int (mI S a0 2)) dX1_allProper_30 gF_X1_22 ha rfl ?_
        obtain ⟨a19, ea19, ka19, h20⟩ := ob_some h18; clear h18
        rw [ea19]
        refine J_lvst (lv' := [(0, .ref a0), (1, .int i1)]) (st' := [.int (mI S a0 2), .ref a19]) rfl rfl ?_
        obtain ⟨i21_, ei21_, h22⟩ := bnd_some h20; clear h20
        refine J_callV (As := [.int (mI S a0 2)]) (rest := []) (st' := [.int i21_]) (t_X4_isProper ka19 ei21_) gC_X4_isProper gM_X1_74 (mRecv ka19 (by decide) jCl4) rfl (by decide) (by decide) rfl rfl (Nat.le_of_ble_eq_true rfl) dX1_allProper_33 ?_
        refine J_if_ne 41 dX1_allProper_36 (by decide) h22 (fun c23 h24 => ?_) (fun c23 h24 => ?_)
        · clear h22
          refine J_iconst (0 : Int32) dX1_allProper_39 (by decide) ?_
          have hw := Option.some.inj h24; subst hw
          exact J_zret rfl (by decide) dX1_allProper_40
        · clear h22
          refine J_iinc 1 (1 : Int32) dX1_allProper_41 rfl (by decide) (by decide) [1, 0] (lv' := [(0, .ref a0), (1, .int (i1 + (1 : Int32)))]) rfl ?_
          refine J_goto 2 dX1_allProper_44 (by decide) ?_
          exact lh a0 (i1 + (1 : Int32)) ha h24
      · clear h12
        refine J_iinc 1 (1 : Int32) dX1_allProper_41 rfl (by decide) (by decide) [1, 0] (lv' := [(0, .ref a0), (1, .int (i1 + (1 : Int32)))]) rfl ?_
        refine J_goto 2 dX1_allProper_44 (by decide) ?_
        exact lh a0 (i1 + (1 : Int32)) ha h14
def c_X1_allProper (S : Mem) (a0 : Nat) : Option Int32 :=
  c_X1_allProper_L2 S bigN a0 (0 : Int32)
set_option maxRecDepth 100000 in
set_option maxHeartbeats 4000000 in
theorem t_X1_allProper {S : Mem} {a0 : Nat} {w : Int32} (ha : mKd S a0 = 2) (h : c_X1_allProper S a0 = some w) : CT MX yX1_allProper cX1_allProper 2 (some .boolean) 2 43 [.ref a0] S (some (.int w)) S := by
  refine CT.of (lv := [(0, .ref a0)]) (by decide) rfl (Nat.le_of_ble_eq_true rfl) ?_
  refine J_iconst (0 : Int32) dX1_allProper_0 (by decide) ?_
  refine J_istore_n dX1_allProper_1 rfl (by decide) [1, 0] (lv' := [(0, .ref a0), (1, .int (0 : Int32))]) rfl ?_
  exact t_X1_allProper_L2 bigN a0 (0 : Int32) ha h
def c_X1_readable_L4 (S : Mem) : Nat → Nat → Int32 → Int32 → Option Int32
  | 0, _, _, _ => none
  | n + 1, a0, i1, i2 =>
    bnd (ob S (mR S a0 5) 12) fun a1 =>
    if (nI (mLn S a1)) ≤ i2 then
      (some i1)
    else
      (bnd (ob S (mR S a0 5) 12) fun a5 =>
      gd (inB i2 (mLn S a5)) <|
      bnd (ob S (mR S a5 (Int32.toNatClampNeg i2)) 5) fun a9 =>
      bnd (c_X4_readFault S a9) fun i11_ =>
      if i11_ = 0 then
        (c_X1_readable_L4 S n a0 (i1 + (1 : Int32)) (i2 + (1 : Int32)))
      else
        (c_X1_readable_L4 S n a0 i1 (i2 + (1 : Int32))))
set_option maxRecDepth 100000 in
set_option maxHeartbeats 4000000 in
theorem t_X1_readable_L4 {S : Mem} {w : Int32} (n : Nat) : ∀ (a0 : Nat) (i1 : Int32) (i2 : Int32), (mKd S a0 = 2) → c_X1_readable_L4 S n a0 i1 i2 = some w → J MX yX1_readable cX1_readable 3 (some .int) 1 20 4 [(0, .ref a0), (1, .int i1), (2, .int i2)] [] S (some (.int w)) S := by
  induction n with
  | zero => intro a0 i1 i2 ha h; cases h
  | succ n lh =>
    intro a0 i1 i2 ha h
    refine J_iload_n 2 dX1_readable_4 rfl rfl ?_
    refine J_aload_n 0 dX1_readable_5 rfl rfl ?_
    refine J_get (k := 5) (v := va_rf (mR S a0 5)) dX1_readable_6 gF_X1_39 ha rfl ?_
    obtain ⟨a1, ea1, ka1, h2⟩ := ob_some h; clear h
    rw [ea1]
    refine J_lvst (lv' := [(0, .ref a0), (1, .int i1), (2, .int i2)]) (st' := [.ref a1, .int i2]) rfl rfl ?_
    refine J_alen (z := 4) dX1_readable_9 (fun _ => rfl) ka1 ?_
    refine J_icmp_ge 34 dX1_readable_10 (by decide) h2 (fun c3 h4 => ?_) (fun c3 h4 => ?_)
    · clear h2
      refine J_iload_n 1 dX1_readable_34 rfl rfl ?_
      have hw := Option.some.inj h4; subst hw
      exact J_iret rfl dX1_readable_35
    · clear h2
      refine J_aload_n 0 dX1_readable_13 rfl rfl ?_
      refine J_get (k := 5) (v := va_rf (mR S a0 5)) dX1_readable_14 gF_X1_39 ha rfl ?_
      refine J_iload_n 2 dX1_readable_17 rfl rfl ?_
      obtain ⟨a5, ea5, ka5, h6⟩ := ob_some h4; clear h4
      rw [ea5]
      refine J_lvst (lv' := [(0, .ref a0), (1, .int i1), (2, .int i2)]) (st' := [.int i2, .ref a5]) rfl rfl ?_
      obtain ⟨g7, h8⟩ := gd_some h6; clear h6
      refine J_aald (z := 4) (C := RX4) dX1_readable_18 (fun _ => rfl) (fun _ _ => rfl) ka5 g7 ?_
      obtain ⟨a9, ea9, ka9, h10⟩ := ob_some h8; clear h8
      rw [ea9]
      refine J_lvst (lv' := [(0, .ref a0), (1, .int i1), (2, .int i2)]) (st' := [.ref a9]) rfl rfl ?_
      obtain ⟨i11_, ei11_, h12⟩ := bnd_some h10; clear h10
      refine J_callV (As := []) (rest := []) (st' := [.int i11_]) (t_X4_readFault ka9 ei11_) gC_X4_readFault gM_X1_57 (mRecv ka9 (by decide) jCl4) rfl (by decide) (by decide) rfl rfl (Nat.le_of_ble_eq_true rfl) dX1_readable_19 ?_
      refine J_if_ne 28 dX1_readable_22 (by decide) h12 (fun c13 h14 => ?_) (fun c13 h14 => ?_)
      · clear h12
        refine J_iinc 1 (1 : Int32) dX1_readable_25 rfl (by decide) (by decide) [1, 0, 2] (lv' := [(0, .ref a0), (1, .int (i1 + (1 : Int32))), (2, .int i2)]) rfl ?_
        refine J_iinc 2 (1 : Int32) dX1_readable_28 rfl (by decide) (by decide) [1, 2, 0] (lv' := [(0, .ref a0), (1, .int (i1 + (1 : Int32))), (2, .int (i2 + (1 : Int32)))]) rfl ?_
        refine J_goto 4 dX1_readable_31 (by decide) ?_
        exact lh a0 (i1 + (1 : Int32)) (i2 + (1 : Int32)) ha h14
      · clear h12
        refine J_iinc 2 (1 : Int32) dX1_readable_28 rfl (by decide) (by decide) [1, 2, 0] (lv' := [(0, .ref a0), (1, .int i1), (2, .int (i2 + (1 : Int32)))]) rfl ?_
        refine J_goto 4 dX1_readable_31 (by decide) ?_
        exact lh a0 i1 (i2 + (1 : Int32)) ha h14
def c_X1_readable (S : Mem) (a0 : Nat) : Option Int32 :=
  c_X1_readable_L4 S bigN a0 (0 : Int32) (0 : Int32)
set_option maxRecDepth 100000 in
set_option maxHeartbeats 4000000 in
theorem t_X1_readable {S : Mem} {a0 : Nat} {w : Int32} (ha : mKd S a0 = 2) (h : c_X1_readable S a0 = some w) : CT MX yX1_readable cX1_readable 3 (some .int) 1 20 [.ref a0] S (some (.int w)) S := by
  refine CT.of (lv := [(0, .ref a0)]) (by decide) rfl (Nat.le_of_ble_eq_true rfl) ?_
  refine J_iconst (0 : Int32) dX1_readable_0 (by decide) ?_
  refine J_istore_n dX1_readable_1 rfl (by decide) [1, 0] (lv' := [(0, .ref a0), (1, .int (0 : Int32))]) rfl ?_
  refine J_iconst (0 : Int32) dX1_readable_2 (by decide) ?_
  refine J_istore_n dX1_readable_3 rfl (by decide) [1, 2, 0] (lv' := [(0, .ref a0), (1, .int (0 : Int32)), (2, .int (0 : Int32))]) rfl ?_
  exact t_X1_readable_L4 bigN a0 (0 : Int32) (0 : Int32) ha h
def c_X4_digestOn_J44 (S : Mem) (a0 : Nat) (j3 : Int64) : Option Int64 :=
  if (mI S a0 4) ≤ (1 : Int32) then
    (some j3)
  else
    (some (((31 : Int64) * j3) + (Int32.toInt64 (mI S a0 6))))
set_option maxRecDepth 100000 in
set_option maxHeartbeats 4000000 in
theorem t_X4_digestOn_J44 {S : Mem} {a0 : Nat} {j3 : Int64} {w : Int64} (ha : mKd S a0 = 5) (h : c_X4_digestOn_J44 S a0 j3 = some w) : J MX yX4_digestOn cX4_digestOn 5 (some .long) 0 0 44 [(0, .ref a0), (3, .long j3)] [] S (some (.long w)) S := by
  refine J_aload_n 0 dX4_digestOn_44 rfl rfl ?_
  refine J_get (k := 4) (v := .int (mI S a0 4)) dX4_digestOn_45 gF_X4_25 ha rfl ?_
  refine J_iconst (1 : Int32) dX4_digestOn_48 (by decide) ?_
  refine J_icmp_le 66 dX4_digestOn_49 (by decide) h (fun c1 h2 => ?_) (fun c1 h2 => ?_)
  · clear h
    refine J_lload_n 1 dX4_digestOn_66 rfl rfl ?_
    have hw := Option.some.inj h2; subst hw
    exact J_lret rfl dX4_digestOn_67
  · clear h
    refine J_ldc2 (31 : Int64) dX4_digestOn_52 gK_X4_42 ?_
    refine J_lload_n 1 dX4_digestOn_55 rfl rfl ?_
    refine J_lmul dX4_digestOn_56 ?_
    refine J_aload_n 0 dX4_digestOn_57 rfl rfl ?_
    refine J_get (k := 6) (v := .int (mI S a0 6)) dX4_digestOn_58 gF_X4_31 ha rfl ?_
    refine J_i2l dX4_digestOn_61 ?_
    refine J_ladd dX4_digestOn_62 ?_
    refine J_goto 67 dX4_digestOn_63 (by decide) ?_
    have hw := Option.some.inj h2; subst hw
    exact J_lret rfl dX4_digestOn_67
def c_X4_digestOn_J22 (S : Mem) (a0 : Nat) (js0 : Int64) (is1 : Int32) : Option Int64 :=
  jLet ((js0 + (Int32.toInt64 is1))) fun j1_ =>
  if (mI S a0 4) ≤ 0 then
    (c_X4_digestOn_J44 S a0 j1_)
  else
    (jLet ((((31 : Int64) * j1_) + (Int32.toInt64 (mI S a0 5)))) fun j5_ =>
    c_X4_digestOn_J44 S a0 j5_)
set_option maxRecDepth 100000 in
set_option maxHeartbeats 4000000 in
theorem t_X4_digestOn_J22 {S : Mem} {a0 : Nat} {js0 : Int64} {is1 : Int32} {w : Int64} (ha : mKd S a0 = 5) (h : c_X4_digestOn_J22 S a0 js0 is1 = some w) : J MX yX4_digestOn cX4_digestOn 5 (some .long) 0 0 22 [(0, .ref a0)] [.int is1, .long js0] S (some (.long w)) S := by
  refine J_i2l dX4_digestOn_22 ?_
  refine J_ladd dX4_digestOn_23 ?_
  obtain ⟨j1_, ej1_, h2⟩ := jLet_some h; clear h
  refine J_topL ej1_ ?_
  refine J_lstore_n dX4_digestOn_24 rfl (by decide) [1, 0] (lv' := [(0, .ref a0), (3, .long j1_)]) rfl ?_
  refine J_aload_n 0 dX4_digestOn_25 rfl rfl ?_
  refine J_get (k := 4) (v := .int (mI S a0 4)) dX4_digestOn_26 gF_X4_25 ha rfl ?_
  refine J_if_le 44 dX4_digestOn_29 (by decide) h2 (fun c3 h4 => ?_) (fun c3 h4 => ?_)
  · clear h2
    exact t_X4_digestOn_J44 ha h4
  · clear h2
    refine J_ldc2 (31 : Int64) dX4_digestOn_32 gK_X4_42 ?_
    refine J_lload_n 1 dX4_digestOn_35 rfl rfl ?_
    refine J_lmul dX4_digestOn_36 ?_
    refine J_aload_n 0 dX4_digestOn_37 rfl rfl ?_
    refine J_get (k := 5) (v := .int (mI S a0 5)) dX4_digestOn_38 gF_X4_28 ha rfl ?_
    refine J_i2l dX4_digestOn_41 ?_
    refine J_ladd dX4_digestOn_42 ?_
    obtain ⟨j5_, ej5_, h6⟩ := jLet_some h4; clear h4
    refine J_topL ej5_ ?_
    refine J_lstore_n dX4_digestOn_43 rfl (by decide) [1, 0] (lv' := [(0, .ref a0), (3, .long j5_)]) rfl ?_
    exact t_X4_digestOn_J44 ha h6
def c_X4_digestOn (S : Mem) (a0 : Nat) (j1 : Int64) : Option Int64 :=
  if 0 ≤ (mI S a0 4) then
    (c_X4_digestOn_J22 S a0 ((31 : Int64) * j1) ((1 : Int32) + (mI S a0 4)))
  else
    (c_X4_digestOn_J22 S a0 ((31 : Int64) * j1) (0 : Int32))
set_option maxRecDepth 100000 in
set_option maxHeartbeats 4000000 in
theorem t_X4_digestOn {S : Mem} {a0 : Nat} {j1 : Int64} {w : Int64} (ha : mKd S a0 = 5) (h : c_X4_digestOn S a0 j1 = some w) : CT MX yX4_digestOn cX4_digestOn 5 (some .long) 0 0 [.ref a0, .long j1] S (some (.long w)) S := by
  refine CT.of (lv := [(0, .ref a0), (1, .long j1)]) (by decide) rfl (Nat.le_of_ble_eq_true rfl) ?_
  refine J_ldc2 (31 : Int64) dX4_digestOn_0 gK_X4_42 ?_
  refine J_lload_n 1 dX4_digestOn_3 rfl rfl ?_
  refine J_lmul dX4_digestOn_4 ?_
  refine J_aload_n 0 dX4_digestOn_5 rfl rfl ?_
  refine J_get (k := 4) (v := .int (mI S a0 4)) dX4_digestOn_6 gF_X4_25 ha rfl ?_
  refine J_if_ge 16 dX4_digestOn_9 (by decide) h (fun c1 h2 => ?_) (fun c1 h2 => ?_)
  · clear h
    refine J_iconst (1 : Int32) dX4_digestOn_16 (by decide) ?_
    refine J_aload_n 0 dX4_digestOn_17 rfl rfl ?_
    refine J_get (k := 4) (v := .int (mI S a0 4)) dX4_digestOn_18 gF_X4_25 ha rfl ?_
    refine J_iadd dX4_digestOn_21 ?_
    refine J_lv [0] rfl ?_
    exact t_X4_digestOn_J22 ha h2
  · clear h
    refine J_iconst (0 : Int32) dX4_digestOn_12 (by decide) ?_
    refine J_goto 22 dX4_digestOn_13 (by decide) ?_
    refine J_lv [0] rfl ?_
    exact t_X4_digestOn_J22 ha h2
def c_X1_digestSum_L6 (S : Mem) : Nat → Nat → Int64 → Int32 → Option Int64
  | 0, _, _, _ => none
  | n + 1, a0, j1, i3 =>
    bnd (ob S (mR S a0 5) 12) fun a1 =>
    if (nI (mLn S a1)) ≤ i3 then
      (some j1)
    else
      (bnd (ob S (mR S a0 5) 12) fun a5 =>
      gd (inB i3 (mLn S a5)) <|
      bnd (ob S (mR S a5 (Int32.toNatClampNeg i3)) 5) fun a9 =>
      bnd (c_X4_digestOn S a9 j1) fun j11_ =>
      c_X1_digestSum_L6 S n a0 j11_ (i3 + (1 : Int32)))
set_option maxRecDepth 100000 in
set_option maxHeartbeats 4000000 in
theorem t_X1_digestSum_L6 {S : Mem} {w : Int64} (n : Nat) : ∀ (a0 : Nat) (j1 : Int64) (i3 : Int32), (mKd S a0 = 2) → c_X1_digestSum_L6 S n a0 j1 i3 = some w → J MX yX1_digestSum cX1_digestSum 4 (some .long) 1 24 6 [(0, .ref a0), (1, .long j1), (3, .int i3)] [] S (some (.long w)) S := by
  induction n with
  | zero => intro a0 j1 i3 ha h; cases h
  | succ n lh =>
    intro a0 j1 i3 ha h
    refine J_iload_n 2 dX1_digestSum_6 rfl rfl ?_
    refine J_aload_n 0 dX1_digestSum_7 rfl rfl ?_
    refine J_get (k := 5) (v := va_rf (mR S a0 5)) dX1_digestSum_8 gF_X1_39 ha rfl ?_
    obtain ⟨a1, ea1, ka1, h2⟩ := ob_some h; clear h
    rw [ea1]
    refine J_lvst (lv' := [(0, .ref a0), (1, .long j1), (3, .int i3)]) (st' := [.ref a1, .int i3]) rfl rfl ?_
    refine J_alen (z := 4) dX1_digestSum_11 (fun _ => rfl) ka1 ?_
    refine J_icmp_ge 32 dX1_digestSum_12 (by decide) h2 (fun c3 h4 => ?_) (fun c3 h4 => ?_)
    · clear h2
      refine J_lload_n 1 dX1_digestSum_32 rfl rfl ?_
      have hw := Option.some.inj h4; subst hw
      exact J_lret rfl dX1_digestSum_33
    · clear h2
      refine J_aload_n 0 dX1_digestSum_15 rfl rfl ?_
      refine J_get (k := 5) (v := va_rf (mR S a0 5)) dX1_digestSum_16 gF_X1_39 ha rfl ?_
      refine J_iload_n 2 dX1_digestSum_19 rfl rfl ?_
      obtain ⟨a5, ea5, ka5, h6⟩ := ob_some h4; clear h4
      rw [ea5]
      refine J_lvst (lv' := [(0, .ref a0), (1, .long j1), (3, .int i3)]) (st' := [.int i3, .ref a5]) rfl rfl ?_
      obtain ⟨g7, h8⟩ := gd_some h6; clear h6
      refine J_aald (z := 4) (C := RX4) dX1_digestSum_20 (fun _ => rfl) (fun _ _ => rfl) ka5 g7 ?_
      refine J_lload_n 1 dX1_digestSum_21 rfl rfl ?_
      obtain ⟨a9, ea9, ka9, h10⟩ := ob_some h8; clear h8
      rw [ea9]
      refine J_lvst (lv' := [(0, .ref a0), (1, .long j1), (3, .int i3)]) (st' := [.long j1, .ref a9]) rfl rfl ?_
      obtain ⟨j11_, ej11_, h12⟩ := bnd_some h10; clear h10
      refine J_callV (As := [.long j1]) (rest := []) (st' := [.long j11_]) (t_X4_digestOn ka9 ej11_) gC_X4_digestOn gM_X1_79 (mRecv ka9 (by decide) jCl4) rfl (by decide) (by decide) rfl rfl (Nat.le_of_ble_eq_true rfl) dX1_digestSum_22 ?_
      refine J_lstore_n dX1_digestSum_25 rfl (by decide) [1, 0, 2] (lv' := [(0, .ref a0), (1, .long j11_), (3, .int i3)]) rfl ?_
      refine J_iinc 2 (1 : Int32) dX1_digestSum_26 rfl (by decide) (by decide) [1, 2, 0] (lv' := [(0, .ref a0), (1, .long j11_), (3, .int (i3 + (1 : Int32)))]) rfl ?_
      refine J_goto 6 dX1_digestSum_29 (by decide) ?_
      exact lh a0 j11_ (i3 + (1 : Int32)) ha h12
def c_X1_digestSum (S : Mem) (a0 : Nat) : Option Int64 :=
  c_X1_digestSum_L6 S bigN a0 (7 : Int64) (0 : Int32)
set_option maxRecDepth 100000 in
set_option maxHeartbeats 4000000 in
theorem t_X1_digestSum {S : Mem} {a0 : Nat} {w : Int64} (ha : mKd S a0 = 2) (h : c_X1_digestSum S a0 = some w) : CT MX yX1_digestSum cX1_digestSum 4 (some .long) 1 24 [.ref a0] S (some (.long w)) S := by
  refine CT.of (lv := [(0, .ref a0)]) (by decide) rfl (Nat.le_of_ble_eq_true rfl) ?_
  refine J_ldc2 (7 : Int64) dX1_digestSum_0 gK_X1_77 ?_
  refine J_lstore_n dX1_digestSum_3 rfl (by decide) [1, 0] (lv' := [(0, .ref a0), (1, .long (7 : Int64))]) rfl ?_
  refine J_iconst (0 : Int32) dX1_digestSum_4 (by decide) ?_
  refine J_istore_n dX1_digestSum_5 rfl (by decide) [1, 2, 0] (lv' := [(0, .ref a0), (1, .long (7 : Int64)), (3, .int (0 : Int32))]) rfl ?_
  exact t_X1_digestSum_L6 bigN a0 (7 : Int64) (0 : Int32) ha h
def c_X2_init (S : Mem) (a0 : Nat) : Option Mem :=
  some S
set_option maxRecDepth 100000 in
set_option maxHeartbeats 4000000 in
theorem t_X2_init {S : Mem} {a0 : Nat} {w : Mem} (ha : mKd S a0 = 3) (h : c_X2_init S a0 = some w) : CT MX yX2_init cX2_init 1 none 1 40 [.ref a0] S none w := by
  refine CT.of (lv := [(0, .ref a0)]) (by decide) rfl (Nat.le_of_ble_eq_true rfl) ?_
  refine J_aload_n 0 dX2_init_0 rfl rfl ?_
  refine J_objInit gO_X2_3 gO_i gO_c (by decide) (by decide) (Nat.le_of_ble_eq_true rfl) dX2_init_1 ?_
  have hw := Option.some.inj h; subst hw
  exact J_vret rfl dX2_init_4
def c_X2_open (S : Mem) (a0 : Nat) (i1 : Int32) (j2 : Int64) (j4 : Int64) : Option Mem :=
  jLet (mSI S a0 0 i1) fun S1 =>
  jLet (mSL S1 a0 1 j2) fun S3 =>
  jLet (mSL S3 a0 2 j4) fun S5 =>
  jLet (mSI S5 a0 3 (64 : Int32)) fun S7 =>
  jLet (mSI S7 a0 4 (64 : Int32)) fun S9 =>
  some S9
set_option maxRecDepth 100000 in
set_option maxHeartbeats 4000000 in
theorem t_X2_open {S : Mem} {a0 : Nat} {i1 : Int32} {j2 : Int64} {j4 : Int64} {w : Mem} (ha : mKd S a0 = 3) (h : c_X2_open S a0 i1 j2 j4 = some w) : CT MX yX2_open cX2_open 6 none 0 0 [.ref a0, .int i1, .long j2, .long j4] S none w := by
  refine CT.of (lv := [(0, .ref a0), (1, .int i1), (2, .long j2), (4, .long j4)]) (by decide) rfl (Nat.le_of_ble_eq_true rfl) ?_
  refine J_aload_n 0 dX2_open_0 rfl rfl ?_
  refine J_iload_n 1 dX2_open_1 rfl rfl ?_
  refine J_putI (k := 0) dX2_open_2 gW_X2_9 ha rfl ?_
  obtain ⟨S1, eS1, h2⟩ := jLet_some h; clear h
  refine J_topS eS1 ?_
  have hS1_a0 : mKd S1 a0 = 3 := by rw [eS1]; exact ha
  refine J_aload_n 0 dX2_open_5 rfl rfl ?_
  refine J_lload_n 2 dX2_open_6 rfl rfl ?_
  refine J_putL (k := 1) dX2_open_7 gW_X2_15 hS1_a0 rfl ?_
  obtain ⟨S3, eS3, h4⟩ := jLet_some h2; clear h2
  refine J_topS eS3 ?_
  have hS3_a0 : mKd S3 a0 = 3 := by rw [eS3]; exact hS1_a0
  refine J_aload_n 0 dX2_open_10 rfl rfl ?_
  refine J_lload 3 dX2_open_11 rfl ?_
  refine J_putL (k := 2) dX2_open_13 gW_X2_19 hS3_a0 rfl ?_
  obtain ⟨S5, eS5, h6⟩ := jLet_some h4; clear h4
  refine J_topS eS5 ?_
  have hS5_a0 : mKd S5 a0 = 3 := by rw [eS5]; exact hS3_a0
  refine J_aload_n 0 dX2_open_16 rfl rfl ?_
  refine J_bipush (64 : Int32) dX2_open_17 (by decide) ?_
  refine J_putI (k := 3) dX2_open_19 gW_X2_22 hS5_a0 rfl ?_
  obtain ⟨S7, eS7, h8⟩ := jLet_some h6; clear h6
  refine J_topS eS7 ?_
  have hS7_a0 : mKd S7 a0 = 3 := by rw [eS7]; exact hS5_a0
  refine J_aload_n 0 dX2_open_22 rfl rfl ?_
  refine J_bipush (64 : Int32) dX2_open_23 (by decide) ?_
  refine J_putI (k := 4) dX2_open_25 gW_X2_25 hS7_a0 rfl ?_
  obtain ⟨S9, eS9, h10⟩ := jLet_some h8; clear h8
  refine J_topS eS9 ?_
  have hS9_a0 : mKd S9 a0 = 3 := by rw [eS9]; exact hS7_a0
  have hw := Option.some.inj h10; subst hw
  exact J_vret rfl dX2_open_28
def c_X2_comeTo (S : Mem) (a0 : Nat) (i1 : Int32) (i2 : Int32) : Option Mem :=
  jLet (mSI S a0 3 i1) fun S1 =>
  jLet (mSI S1 a0 4 i2) fun S3 =>
  some S3
set_option maxRecDepth 100000 in
set_option maxHeartbeats 4000000 in
theorem t_X2_comeTo {S : Mem} {a0 : Nat} {i1 : Int32} {i2 : Int32} {w : Mem} (ha : mKd S a0 = 3) (h : c_X2_comeTo S a0 i1 i2 = some w) : CT MX yX2_comeTo cX2_comeTo 3 none 0 0 [.ref a0, .int i1, .int i2] S none w := by
  refine CT.of (lv := [(0, .ref a0), (1, .int i1), (2, .int i2)]) (by decide) rfl (Nat.le_of_ble_eq_true rfl) ?_
  refine J_aload_n 0 dX2_comeTo_0 rfl rfl ?_
  refine J_iload_n 1 dX2_comeTo_1 rfl rfl ?_
  refine J_putI (k := 3) dX2_comeTo_2 gW_X2_22 ha rfl ?_
  obtain ⟨S1, eS1, h2⟩ := jLet_some h; clear h
  refine J_topS eS1 ?_
  have hS1_a0 : mKd S1 a0 = 3 := by rw [eS1]; exact ha
  refine J_aload_n 0 dX2_comeTo_5 rfl rfl ?_
  refine J_iload_n 2 dX2_comeTo_6 rfl rfl ?_
  refine J_putI (k := 4) dX2_comeTo_7 gW_X2_25 hS1_a0 rfl ?_
  obtain ⟨S3, eS3, h4⟩ := jLet_some h2; clear h2
  refine J_topS eS3 ?_
  have hS3_a0 : mKd S3 a0 = 3 := by rw [eS3]; exact hS1_a0
  have hw := Option.some.inj h4; subst hw
  exact J_vret rfl dX2_comeTo_10
def c_X5_digitCount_L12 : Nat → Int32 → Int64 → Int32 → Option Int32
  | 0, _, _, _ => none
  | n + 1, i2, j3, i5 =>
    if (64 : Int32) ≤ i5 then
      (some i5)
    else
      (if j3 ≤ (0 : Int64) then
        (some i5)
      else
        (gd (nzL (Int32.toInt64 i2)) <|
        jLet ((j3 / (Int32.toInt64 i2))) fun j7_ =>
        c_X5_digitCount_L12 n i2 j7_ (i5 + (1 : Int32))))
set_option maxRecDepth 100000 in
set_option maxHeartbeats 4000000 in
theorem t_X5_digitCount_L12 {S : Mem} {w : Int32} (n : Nat) : ∀ (i2 : Int32) (j3 : Int64) (i5 : Int32), c_X5_digitCount_L12 n i2 j3 i5 = some w → J MX yX5_digitCount cX5_digitCount 6 (some .int) 0 0 12 [(2, .int i2), (3, .long j3), (5, .int i5)] [] S (some (.int w)) S := by
  induction n with
  | zero => intro i2 j3 i5 h; cases h
  | succ n lh =>
    intro i2 j3 i5 h
    refine J_iload 2 dX5_digitCount_12 rfl ?_
    refine J_bipush (64 : Int32) dX5_digitCount_14 (by decide) ?_
    refine J_icmp_ge 36 dX5_digitCount_16 (by decide) h (fun c1 h2 => ?_) (fun c1 h2 => ?_)
    · clear h
      refine J_iload 2 dX5_digitCount_36 rfl ?_
      have hw := Option.some.inj h2; subst hw
      exact J_iret rfl dX5_digitCount_38
    · clear h
      refine J_lload_n 1 dX5_digitCount_19 rfl rfl ?_
      refine J_lconst (0 : Int64) dX5_digitCount_20 (by decide) ?_
      refine J_lcmp_le 36 dX5_digitCount_21 dX5_digitCount_22 (by decide) h2 (fun c3 h4 => ?_) (fun c3 h4 => ?_)
      · clear h2
        refine J_iload 2 dX5_digitCount_36 rfl ?_
        have hw := Option.some.inj h4; subst hw
        exact J_iret rfl dX5_digitCount_38
      · clear h2
        refine J_lload_n 1 dX5_digitCount_25 rfl rfl ?_
        refine J_iload_n 0 dX5_digitCount_26 rfl rfl ?_
        refine J_i2l dX5_digitCount_27 ?_
        obtain ⟨g5, h6⟩ := gd_some h4; clear h4
        refine J_ldiv dX5_digitCount_28 (nzL_of g5) ?_
        obtain ⟨j7_, ej7_, h8⟩ := jLet_some h6; clear h6
        refine J_topL ej7_ ?_
        refine J_lstore_n dX5_digitCount_29 rfl (by decide) [1, 0, 2] (lv' := [(2, .int i2), (3, .long j7_), (5, .int i5)]) rfl ?_
        refine J_iinc 2 (1 : Int32) dX5_digitCount_30 rfl (by decide) (by decide) [1, 2, 0] (lv' := [(2, .int i2), (3, .long j7_), (5, .int (i5 + (1 : Int32)))]) rfl ?_
        refine J_goto 12 dX5_digitCount_33 (by decide) ?_
        exact lh i2 j7_ (i5 + (1 : Int32)) h8
def c_X5_digitCount (j0 : Int64) (i2 : Int32) : Option Int32 :=
  if (1 : Int32) < i2 then
    (c_X5_digitCount_L12 bigN i2 j0 (0 : Int32))
  else
    (some (0 : Int32))
set_option maxRecDepth 100000 in
set_option maxHeartbeats 4000000 in
theorem t_X5_digitCount {S : Mem} {j0 : Int64} {i2 : Int32} {w : Int32} (h : c_X5_digitCount j0 i2 = some w) : CT MX yX5_digitCount cX5_digitCount 6 (some .int) 0 0 [.long j0, .int i2] S (some (.int w)) S := by
  refine CT.of (lv := [(0, .long j0), (2, .int i2)]) (by decide) rfl (Nat.le_of_ble_eq_true rfl) ?_
  refine J_iload_n 1 dX5_digitCount_0 rfl rfl ?_
  refine J_iconst (1 : Int32) dX5_digitCount_1 (by decide) ?_
  refine J_icmp_gt 7 dX5_digitCount_2 (by decide) h (fun c1 h2 => ?_) (fun c1 h2 => ?_)
  · clear h
    refine J_lload_n 0 dX5_digitCount_7 rfl rfl ?_
    refine J_lstore_n dX5_digitCount_8 rfl (by decide) [2, 0] (lv' := [(2, .int i2), (3, .long j0)]) rfl ?_
    refine J_iconst (0 : Int32) dX5_digitCount_9 (by decide) ?_
    refine J_istore dX5_digitCount_10 (by decide) [1, 2, 0] (lv' := [(2, .int i2), (3, .long j0), (5, .int (0 : Int32))]) rfl ?_
    exact t_X5_digitCount_L12 bigN i2 j0 (0 : Int32) h2
  · clear h
    refine J_iconst (0 : Int32) dX5_digitCount_5 (by decide) ?_
    have hw := Option.some.inj h2; subst hw
    exact J_iret rfl dX5_digitCount_6
def c_X2_faultAt (S : Mem) (a0 : Nat) (i1 : Int32) (i2 : Int32) : Option Int32 :=
  if (mI S a0 0) = 0 then
    (some (1 : Int32))
  else
    (if i1 < 0 then
      (some (2 : Int32))
    else
      (bnd (c_X5_digitCount (mL S a0 1) (mI S a0 0)) fun i5_ =>
      if i1 < i5_ then
        (bnd (c_X5_digitAt (mL S a0 1) (mI S a0 0) i1) fun i9_ =>
        if i9_ = 0 then
          (some (1 : Int32))
        else
          (if i2 < 0 then
            (some (2 : Int32))
          else
            (bnd (c_X5_digitCount (mL S a0 2) (mI S a0 0)) fun i15_ =>
            if i2 < i15_ then
              (some (0 : Int32))
            else
              (some (2 : Int32)))))
      else
        (some (2 : Int32))))
set_option maxRecDepth 100000 in
set_option maxHeartbeats 4000000 in
theorem t_X2_faultAt {S : Mem} {a0 : Nat} {i1 : Int32} {i2 : Int32} {w : Int32} (ha : mKd S a0 = 3) (h : c_X2_faultAt S a0 i1 i2 = some w) : CT MX yX2_faultAt cX2_faultAt 3 (some .int) 1 26 [.ref a0, .int i1, .int i2] S (some (.int w)) S := by
  refine CT.of (lv := [(0, .ref a0), (1, .int i1), (2, .int i2)]) (by decide) rfl (Nat.le_of_ble_eq_true rfl) ?_
  refine J_aload_n 0 dX2_faultAt_0 rfl rfl ?_
  refine J_get (k := 0) (v := .int (mI S a0 0)) dX2_faultAt_1 gF_X2_9 ha rfl ?_
  refine J_if_ne 9 dX2_faultAt_4 (by decide) h (fun c1 h2 => ?_) (fun c1 h2 => ?_)
  · clear h
    refine J_iconst (1 : Int32) dX2_faultAt_7 (by decide) ?_
    have hw := Option.some.inj h2; subst hw
    exact J_iret rfl dX2_faultAt_8
  · clear h
    refine J_iload_n 1 dX2_faultAt_9 rfl rfl ?_
    refine J_if_lt 28 dX2_faultAt_10 (by decide) h2 (fun c3 h4 => ?_) (fun c3 h4 => ?_)
    · clear h2
      refine J_iconst (2 : Int32) dX2_faultAt_28 (by decide) ?_
      have hw := Option.some.inj h4; subst hw
      exact J_iret rfl dX2_faultAt_29
    · clear h2
      refine J_iload_n 1 dX2_faultAt_13 rfl rfl ?_
      refine J_aload_n 0 dX2_faultAt_14 rfl rfl ?_
      refine J_get (k := 1) (v := .long (mL S a0 1)) dX2_faultAt_15 gF_X2_15 ha rfl ?_
      refine J_aload_n 0 dX2_faultAt_18 rfl rfl ?_
      refine J_get (k := 0) (v := .int (mI S a0 0)) dX2_faultAt_19 gF_X2_9 ha rfl ?_
      obtain ⟨i5_, ei5_, h6⟩ := bnd_some h4; clear h4
      refine J_callSN (As := [.long (mL S a0 1), .int (mI S a0 0)]) (rest := [.int i1]) (st' := [.int i5_, .int i1]) (t_X5_digitCount ei5_) gC_X5_digitCount gM_X2_28 rfl (by decide) (by decide) rfl rfl (Nat.le_of_ble_eq_true rfl) dX2_faultAt_22 ?_
      refine J_icmp_lt 30 dX2_faultAt_25 (by decide) h6 (fun c7 h8 => ?_) (fun c7 h8 => ?_)
      · clear h6
        refine J_aload_n 0 dX2_faultAt_30 rfl rfl ?_
        refine J_get (k := 1) (v := .long (mL S a0 1)) dX2_faultAt_31 gF_X2_15 ha rfl ?_
        refine J_aload_n 0 dX2_faultAt_34 rfl rfl ?_
        refine J_get (k := 0) (v := .int (mI S a0 0)) dX2_faultAt_35 gF_X2_9 ha rfl ?_
        refine J_iload_n 1 dX2_faultAt_38 rfl rfl ?_
        obtain ⟨i9_, ei9_, h10⟩ := bnd_some h8; clear h8
        refine J_callSN (As := [.long (mL S a0 1), .int (mI S a0 0), .int i1]) (rest := []) (st' := [.int i9_]) (t_X5_digitAt ei9_) gC_X5_digitAt gM_X2_32 rfl (by decide) (by decide) rfl rfl (Nat.le_of_ble_eq_true rfl) dX2_faultAt_39 ?_
        refine J_if_ne 47 dX2_faultAt_42 (by decide) h10 (fun c11 h12 => ?_) (fun c11 h12 => ?_)
        · clear h10
          refine J_iconst (1 : Int32) dX2_faultAt_45 (by decide) ?_
          have hw := Option.some.inj h12; subst hw
          exact J_iret rfl dX2_faultAt_46
        · clear h10
          refine J_iload_n 2 dX2_faultAt_47 rfl rfl ?_
          refine J_if_lt 66 dX2_faultAt_48 (by decide) h12 (fun c13 h14 => ?_) (fun c13 h14 => ?_)
          · clear h12
            refine J_iconst (2 : Int32) dX2_faultAt_66 (by decide) ?_
            refine J_goto 71 dX2_faultAt_67 (by decide) ?_
            have hw := Option.some.inj h14; subst hw
            exact J_iret rfl dX2_faultAt_71
          · clear h12
            refine J_iload_n 2 dX2_faultAt_51 rfl rfl ?_
            refine J_aload_n 0 dX2_faultAt_52 rfl rfl ?_
            refine J_get (k := 2) (v := .long (mL S a0 2)) dX2_faultAt_53 gF_X2_19 ha rfl ?_
            refine J_aload_n 0 dX2_faultAt_56 rfl rfl ?_
            refine J_get (k := 0) (v := .int (mI S a0 0)) dX2_faultAt_57 gF_X2_9 ha rfl ?_
            obtain ⟨i15_, ei15_, h16⟩ := bnd_some h14; clear h14
            refine J_callSN (As := [.long (mL S a0 2), .int (mI S a0 0)]) (rest := [.int i2]) (st' := [.int i15_, .int i2]) (t_X5_digitCount ei15_) gC_X5_digitCount gM_X2_28 rfl (by decide) (by decide) rfl rfl (Nat.le_of_ble_eq_true rfl) dX2_faultAt_60 ?_
            refine J_icmp_lt 70 dX2_faultAt_63 (by decide) h16 (fun c17 h18 => ?_) (fun c17 h18 => ?_)
            · clear h16
              refine J_iconst (0 : Int32) dX2_faultAt_70 (by decide) ?_
              have hw := Option.some.inj h18; subst hw
              exact J_iret rfl dX2_faultAt_71
            · clear h16
              refine J_iconst (2 : Int32) dX2_faultAt_66 (by decide) ?_
              refine J_goto 71 dX2_faultAt_67 (by decide) ?_
              have hw := Option.some.inj h18; subst hw
              exact J_iret rfl dX2_faultAt_71
      · clear h6
        refine J_iconst (2 : Int32) dX2_faultAt_28 (by decide) ?_
        have hw := Option.some.inj h8; subst hw
        exact J_iret rfl dX2_faultAt_29
def c_X2_at_J38 (S : Mem) (a0 : Nat) (i1 : Int32) (i2 : Int32) (is0 : Int32) : Option Int64 :=
  if is0 = 0 then
    (some (0 : Int64))
  else
    (bnd (c_X5_digitAt (mL S a0 1) (mI S a0 0) i1) fun i3_ =>
    bnd (c_X5_digitAt (mL S a0 2) (mI S a0 0) i2) fun i5_ =>
    some (Int32.toInt64 (i3_ * i5_)))
set_option maxRecDepth 100000 in
set_option maxHeartbeats 4000000 in
theorem t_X2_at_J38 {S : Mem} {a0 : Nat} {i1 : Int32} {i2 : Int32} {is0 : Int32} {w : Int64} (ha : mKd S a0 = 3) (h : c_X2_at_J38 S a0 i1 i2 is0 = some w) : J MX yX2_at cX2_at 4 (some .long) 1 26 38 [(0, .ref a0), (1, .int i1), (2, .int i2)] [.int is0] S (some (.long w)) S := by
  refine J_istore_n dX2_at_38 rfl (by decide) [1, 2, 3, 0] (lv' := [(0, .ref a0), (1, .int i1), (2, .int i2), (3, .int is0)]) rfl ?_
  refine J_iload_n 3 dX2_at_39 rfl rfl ?_
  refine J_if_eq 72 dX2_at_40 (by decide) h (fun c1 h2 => ?_) (fun c1 h2 => ?_)
  · clear h
    refine J_lconst (0 : Int64) dX2_at_72 (by decide) ?_
    have hw := Option.some.inj h2; subst hw
    exact J_lret rfl dX2_at_73
  · clear h
    refine J_aload_n 0 dX2_at_43 rfl rfl ?_
    refine J_get (k := 1) (v := .long (mL S a0 1)) dX2_at_44 gF_X2_15 ha rfl ?_
    refine J_aload_n 0 dX2_at_47 rfl rfl ?_
    refine J_get (k := 0) (v := .int (mI S a0 0)) dX2_at_48 gF_X2_9 ha rfl ?_
    refine J_iload_n 1 dX2_at_51 rfl rfl ?_
    obtain ⟨i3_, ei3_, h4⟩ := bnd_some h2; clear h2
    refine J_callSN (As := [.long (mL S a0 1), .int (mI S a0 0), .int i1]) (rest := []) (st' := [.int i3_]) (t_X5_digitAt ei3_) gC_X5_digitAt gM_X2_32 rfl (by decide) (by decide) rfl rfl (Nat.le_of_ble_eq_true rfl) dX2_at_52 ?_
    refine J_aload_n 0 dX2_at_55 rfl rfl ?_
    refine J_get (k := 2) (v := .long (mL S a0 2)) dX2_at_56 gF_X2_19 ha rfl ?_
    refine J_aload_n 0 dX2_at_59 rfl rfl ?_
    refine J_get (k := 0) (v := .int (mI S a0 0)) dX2_at_60 gF_X2_9 ha rfl ?_
    refine J_iload_n 2 dX2_at_63 rfl rfl ?_
    obtain ⟨i5_, ei5_, h6⟩ := bnd_some h4; clear h4
    refine J_callSN (As := [.long (mL S a0 2), .int (mI S a0 0), .int i2]) (rest := [.int i3_]) (st' := [.int i5_, .int i3_]) (t_X5_digitAt ei5_) gC_X5_digitAt gM_X2_32 rfl (by decide) (by decide) rfl rfl (Nat.le_of_ble_eq_true rfl) dX2_at_64 ?_
    refine J_imul dX2_at_67 ?_
    refine J_i2l dX2_at_68 ?_
    refine J_goto 73 dX2_at_69 (by decide) ?_
    have hw := Option.some.inj h6; subst hw
    exact J_lret rfl dX2_at_73
def c_X2_at (S : Mem) (a0 : Nat) (i1 : Int32) (i2 : Int32) : Option Int64 :=
  if (mI S a0 0) = 0 then
    (some (0 : Int64))
  else
    (if (mI S a0 3) < i1 then
      (c_X2_at_J38 S a0 i1 i2 (1 : Int32))
    else
      (if i1 = (mI S a0 3) then
        (if i2 < (mI S a0 4) then
          (c_X2_at_J38 S a0 i1 i2 (0 : Int32))
        else
          (c_X2_at_J38 S a0 i1 i2 (1 : Int32)))
      else
        (c_X2_at_J38 S a0 i1 i2 (0 : Int32))))
set_option maxRecDepth 100000 in
set_option maxHeartbeats 4000000 in
theorem t_X2_at {S : Mem} {a0 : Nat} {i1 : Int32} {i2 : Int32} {w : Int64} (ha : mKd S a0 = 3) (h : c_X2_at S a0 i1 i2 = some w) : CT MX yX2_at cX2_at 4 (some .long) 1 26 [.ref a0, .int i1, .int i2] S (some (.long w)) S := by
  refine CT.of (lv := [(0, .ref a0), (1, .int i1), (2, .int i2)]) (by decide) rfl (Nat.le_of_ble_eq_true rfl) ?_
  refine J_aload_n 0 dX2_at_0 rfl rfl ?_
  refine J_get (k := 0) (v := .int (mI S a0 0)) dX2_at_1 gF_X2_9 ha rfl ?_
  refine J_if_ne 9 dX2_at_4 (by decide) h (fun c1 h2 => ?_) (fun c1 h2 => ?_)
  · clear h
    refine J_lconst (0 : Int64) dX2_at_7 (by decide) ?_
    have hw := Option.some.inj h2; subst hw
    exact J_lret rfl dX2_at_8
  · clear h
    refine J_iload_n 1 dX2_at_9 rfl rfl ?_
    refine J_aload_n 0 dX2_at_10 rfl rfl ?_
    refine J_get (k := 3) (v := .int (mI S a0 3)) dX2_at_11 gF_X2_22 ha rfl ?_
    refine J_icmp_gt 33 dX2_at_14 (by decide) h2 (fun c3 h4 => ?_) (fun c3 h4 => ?_)
    · clear h2
      refine J_iconst (1 : Int32) dX2_at_33 (by decide) ?_
      refine J_goto 38 dX2_at_34 (by decide) ?_
      exact t_X2_at_J38 ha h4
    · clear h2
      refine J_iload_n 1 dX2_at_17 rfl rfl ?_
      refine J_aload_n 0 dX2_at_18 rfl rfl ?_
      refine J_get (k := 3) (v := .int (mI S a0 3)) dX2_at_19 gF_X2_22 ha rfl ?_
      refine J_icmp_ne 37 dX2_at_22 (by decide) h4 (fun c5 h6 => ?_) (fun c5 h6 => ?_)
      · clear h4
        refine J_iload_n 2 dX2_at_25 rfl rfl ?_
        refine J_aload_n 0 dX2_at_26 rfl rfl ?_
        refine J_get (k := 4) (v := .int (mI S a0 4)) dX2_at_27 gF_X2_25 ha rfl ?_
        refine J_icmp_lt 37 dX2_at_30 (by decide) h6 (fun c7 h8 => ?_) (fun c7 h8 => ?_)
        · clear h6
          refine J_iconst (0 : Int32) dX2_at_37 (by decide) ?_
          exact t_X2_at_J38 ha h8
        · clear h6
          refine J_iconst (1 : Int32) dX2_at_33 (by decide) ?_
          refine J_goto 38 dX2_at_34 (by decide) ?_
          exact t_X2_at_J38 ha h8
      · clear h4
        refine J_iconst (0 : Int32) dX2_at_37 (by decide) ?_
        exact t_X2_at_J38 ha h6
def c_X4_renew (S : Mem) (a0 : Nat) (i1 : Int32) : Option Mem :=
  jLet (mSI S a0 4 i1) fun S1 =>
  jLet (mSI S1 a0 5 (0 : Int32)) fun S3 =>
  jLet (mSI S3 a0 6 (0 : Int32)) fun S5 =>
  some S5
set_option maxRecDepth 100000 in
set_option maxHeartbeats 4000000 in
theorem t_X4_renew {S : Mem} {a0 : Nat} {i1 : Int32} {w : Mem} (ha : mKd S a0 = 5) (h : c_X4_renew S a0 i1 = some w) : CT MX yX4_renew cX4_renew 2 none 0 0 [.ref a0, .int i1] S none w := by
  refine CT.of (lv := [(0, .ref a0), (1, .int i1)]) (by decide) rfl (Nat.le_of_ble_eq_true rfl) ?_
  refine J_aload_n 0 dX4_renew_0 rfl rfl ?_
  refine J_iload_n 1 dX4_renew_1 rfl rfl ?_
  refine J_putI (k := 4) dX4_renew_2 gW_X4_25 ha rfl ?_
  obtain ⟨S1, eS1, h2⟩ := jLet_some h; clear h
  refine J_topS eS1 ?_
  have hS1_a0 : mKd S1 a0 = 5 := by rw [eS1]; exact ha
  refine J_aload_n 0 dX4_renew_5 rfl rfl ?_
  refine J_iconst (0 : Int32) dX4_renew_6 (by decide) ?_
  refine J_putI (k := 5) dX4_renew_7 gW_X4_28 hS1_a0 rfl ?_
  obtain ⟨S3, eS3, h4⟩ := jLet_some h2; clear h2
  refine J_topS eS3 ?_
  have hS3_a0 : mKd S3 a0 = 5 := by rw [eS3]; exact hS1_a0
  refine J_aload_n 0 dX4_renew_10 rfl rfl ?_
  refine J_iconst (0 : Int32) dX4_renew_11 (by decide) ?_
  refine J_putI (k := 6) dX4_renew_12 gW_X4_31 hS3_a0 rfl ?_
  obtain ⟨S5, eS5, h6⟩ := jLet_some h4; clear h4
  refine J_topS eS5 ?_
  have hS5_a0 : mKd S5 a0 = 5 := by rw [eS5]; exact hS3_a0
  have hw := Option.some.inj h6; subst hw
  exact J_vret rfl dX4_renew_15
def c_X4_become (S : Mem) (a0 : Nat) (r1 : Option Nat) : Option Mem :=
  bnd (ob S r1 5) fun a1 =>
  jLet ((mI S a1 4)) fun i3_ =>
  jLet (mSI S a0 4 i3_) fun S5 =>
  jLet ((mI S5 a1 5)) fun i7_ =>
  jLet (mSI S5 a0 5 i7_) fun S9 =>
  jLet ((mI S9 a1 6)) fun i11_ =>
  jLet (mSI S9 a0 6 i11_) fun S13 =>
  some S13
set_option maxRecDepth 100000 in
set_option maxHeartbeats 4000000 in
theorem t_X4_become {S : Mem} {a0 : Nat} {r1 : Option Nat} {w : Mem} (ha : mKd S a0 = 5) (h : c_X4_become S a0 r1 = some w) : CT MX yX4_become cX4_become 2 none 0 0 [.ref a0, va_rf r1] S none w := by
  refine CT.of (lv := [(0, .ref a0), (1, va_rf r1)]) (by decide) (by cases r1 <;> exact rfl) (by cases r1 <;> exact Nat.le_of_ble_eq_true rfl) ?_
  refine J_aload_n 0 dX4_become_0 rfl rfl ?_
  refine J_aload_nq 1 dX4_become_1 rfl rfl ?_
  obtain ⟨a1, ea1, ka1, h2⟩ := ob_some h; clear h
  subst ea1
  refine J_lvst (lv' := [(0, .ref a0), (1, .ref a1)]) (st' := [.ref a1, .ref a0]) rfl rfl ?_
  refine J_get (k := 4) (v := .int (mI S a1 4)) dX4_become_2 gF_X4_25 ka1 rfl ?_
  obtain ⟨i3_, ei3_, h4⟩ := jLet_some h2; clear h2
  refine J_topI ei3_ ?_
  refine J_putI (k := 4) dX4_become_5 gW_X4_25 ha rfl ?_
  obtain ⟨S5, eS5, h6⟩ := jLet_some h4; clear h4
  refine J_topS eS5 ?_
  have hS5_a0 : mKd S5 a0 = 5 := by rw [eS5]; exact ha
  have hS5_a1 : mKd S5 a1 = 5 := by rw [eS5]; exact ka1
  refine J_aload_n 0 dX4_become_8 rfl rfl ?_
  refine J_aload_n 1 dX4_become_9 rfl rfl ?_
  refine J_get (k := 5) (v := .int (mI S5 a1 5)) dX4_become_10 gF_X4_28 hS5_a1 rfl ?_
  obtain ⟨i7_, ei7_, h8⟩ := jLet_some h6; clear h6
  refine J_topI ei7_ ?_
  refine J_putI (k := 5) dX4_become_13 gW_X4_28 hS5_a0 rfl ?_
  obtain ⟨S9, eS9, h10⟩ := jLet_some h8; clear h8
  refine J_topS eS9 ?_
  have hS9_a0 : mKd S9 a0 = 5 := by rw [eS9]; exact hS5_a0
  have hS9_a1 : mKd S9 a1 = 5 := by rw [eS9]; exact hS5_a1
  refine J_aload_n 0 dX4_become_16 rfl rfl ?_
  refine J_aload_n 1 dX4_become_17 rfl rfl ?_
  refine J_get (k := 6) (v := .int (mI S9 a1 6)) dX4_become_18 gF_X4_31 hS9_a1 rfl ?_
  obtain ⟨i11_, ei11_, h12⟩ := jLet_some h10; clear h10
  refine J_topI ei11_ ?_
  refine J_putI (k := 6) dX4_become_21 gW_X4_31 hS9_a0 rfl ?_
  obtain ⟨S13, eS13, h14⟩ := jLet_some h12; clear h12
  refine J_topS eS13 ?_
  have hS13_a0 : mKd S13 a0 = 5 := by rw [eS13]; exact hS9_a0
  have hS13_a1 : mKd S13 a1 = 5 := by rw [eS13]; exact hS9_a1
  have hw := Option.some.inj h14; subst hw
  exact J_vret rfl dX4_become_24
def c_X4_number (S : Mem) (a0 : Nat) (i1 : Int32) : Option Int32 :=
  if i1 = 0 then
    (some (mI S a0 5))
  else
    (some (mI S a0 6))
set_option maxRecDepth 100000 in
set_option maxHeartbeats 4000000 in
theorem t_X4_number {S : Mem} {a0 : Nat} {i1 : Int32} {w : Int32} (ha : mKd S a0 = 5) (h : c_X4_number S a0 i1 = some w) : CT MX yX4_number cX4_number 2 (some .int) 0 0 [.ref a0, .int i1] S (some (.int w)) S := by
  refine CT.of (lv := [(0, .ref a0), (1, .int i1)]) (by decide) rfl (Nat.le_of_ble_eq_true rfl) ?_
  refine J_iload_n 1 dX4_number_0 rfl rfl ?_
  refine J_if_ne 11 dX4_number_1 (by decide) h (fun c1 h2 => ?_) (fun c1 h2 => ?_)
  · clear h
    refine J_aload_n 0 dX4_number_4 rfl rfl ?_
    refine J_get (k := 5) (v := .int (mI S a0 5)) dX4_number_5 gF_X4_28 ha rfl ?_
    refine J_goto 15 dX4_number_8 (by decide) ?_
    have hw := Option.some.inj h2; subst hw
    exact J_iret rfl dX4_number_15
  · clear h
    refine J_aload_n 0 dX4_number_11 rfl rfl ?_
    refine J_get (k := 6) (v := .int (mI S a0 6)) dX4_number_12 gF_X4_31 ha rfl ?_
    have hw := Option.some.inj h2; subst hw
    exact J_iret rfl dX4_number_15
def c_X4_most (S : Mem) (a0 : Nat) (i1 : Int32) : Option Int32 :=
  if i1 = 0 then
    (some (mI S a0 2))
  else
    (some (mI S a0 3))
set_option maxRecDepth 100000 in
set_option maxHeartbeats 4000000 in
theorem t_X4_most {S : Mem} {a0 : Nat} {i1 : Int32} {w : Int32} (ha : mKd S a0 = 5) (h : c_X4_most S a0 i1 = some w) : CT MX yX4_most cX4_most 2 (some .int) 0 0 [.ref a0, .int i1] S (some (.int w)) S := by
  refine CT.of (lv := [(0, .ref a0), (1, .int i1)]) (by decide) rfl (Nat.le_of_ble_eq_true rfl) ?_
  refine J_iload_n 1 dX4_most_0 rfl rfl ?_
  refine J_if_ne 11 dX4_most_1 (by decide) h (fun c1 h2 => ?_) (fun c1 h2 => ?_)
  · clear h
    refine J_aload_n 0 dX4_most_4 rfl rfl ?_
    refine J_get (k := 2) (v := .int (mI S a0 2)) dX4_most_5 gF_X4_15 ha rfl ?_
    refine J_goto 15 dX4_most_8 (by decide) ?_
    have hw := Option.some.inj h2; subst hw
    exact J_iret rfl dX4_most_15
  · clear h
    refine J_aload_n 0 dX4_most_11 rfl rfl ?_
    refine J_get (k := 3) (v := .int (mI S a0 3)) dX4_most_12 gF_X4_19 ha rfl ?_
    have hw := Option.some.inj h2; subst hw
    exact J_iret rfl dX4_most_15
def c_X4_put (S : Mem) (a0 : Nat) (i1 : Int32) (i2 : Int32) : Option Mem :=
  if i1 = 0 then
    (jLet (mSI S a0 5 i2) fun S3 =>
    some S3)
  else
    (jLet (mSI S a0 6 i2) fun S5 =>
    some S5)
set_option maxRecDepth 100000 in
set_option maxHeartbeats 4000000 in
theorem t_X4_put {S : Mem} {a0 : Nat} {i1 : Int32} {i2 : Int32} {w : Mem} (ha : mKd S a0 = 5) (h : c_X4_put S a0 i1 i2 = some w) : CT MX yX4_put cX4_put 3 none 0 0 [.ref a0, .int i1, .int i2] S none w := by
  refine CT.of (lv := [(0, .ref a0), (1, .int i1), (2, .int i2)]) (by decide) rfl (Nat.le_of_ble_eq_true rfl) ?_
  refine J_iload_n 1 dX4_put_0 rfl rfl ?_
  refine J_if_ne 12 dX4_put_1 (by decide) h (fun c1 h2 => ?_) (fun c1 h2 => ?_)
  · clear h
    refine J_aload_n 0 dX4_put_4 rfl rfl ?_
    refine J_iload_n 2 dX4_put_5 rfl rfl ?_
    refine J_putI (k := 5) dX4_put_6 gW_X4_28 ha rfl ?_
    obtain ⟨S3, eS3, h4⟩ := jLet_some h2; clear h2
    refine J_topS eS3 ?_
    have hS3_a0 : mKd S3 a0 = 5 := by rw [eS3]; exact ha
    refine J_goto 17 dX4_put_9 (by decide) ?_
    have hw := Option.some.inj h4; subst hw
    exact J_vret rfl dX4_put_17
  · clear h
    refine J_aload_n 0 dX4_put_12 rfl rfl ?_
    refine J_iload_n 2 dX4_put_13 rfl rfl ?_
    refine J_putI (k := 6) dX4_put_14 gW_X4_31 ha rfl ?_
    obtain ⟨S5, eS5, h6⟩ := jLet_some h2; clear h2
    refine J_topS eS5 ?_
    have hS5_a0 : mKd S5 a0 = 5 := by rw [eS5]; exact ha
    have hw := Option.some.inj h6; subst hw
    exact J_vret rfl dX4_put_17
