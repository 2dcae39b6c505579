section Rules2
variable {σ : Type} {X : RT σ} {y : MethodName} {cc : ByteArray} {nL : Nat} {ret : Option FieldType} {fr lo : Nat} {pc : Nat} {lv lv' : List (Nat × Value)} {st rest : List Value} {S S' : σ} {r : Option Value}

theorem J_iadd {x y0 : Int32} (hd : decode cc pc = .ok (.iadd, 1)) (k : J X y cc nL ret fr lo (pc + 1) lv (.int (x + y0) :: st) S r S') : J X y cc nL ret fr lo pc lv (.int y0 :: .int x :: st) S r S' :=
  J_go (fun _ _ _ _ _ _ _ _ _ _ _ _ _ _ _ ls _ hC hl kk => lv_iadd hC.1 hC.2.1 hd (kk ls hl)) k
theorem J_isub {x y0 : Int32} (hd : decode cc pc = .ok (.isub, 1)) (k : J X y cc nL ret fr lo (pc + 1) lv (.int (x - y0) :: st) S r S') : J X y cc nL ret fr lo pc lv (.int y0 :: .int x :: st) S r S' :=
  J_go (fun _ _ _ _ _ _ _ _ _ _ _ _ _ _ _ ls _ hC hl kk => lv_isub hC.1 hC.2.1 hd (kk ls hl)) k
theorem J_imul {x y0 : Int32} (hd : decode cc pc = .ok (.imul, 1)) (k : J X y cc nL ret fr lo (pc + 1) lv (.int (x * y0) :: st) S r S') : J X y cc nL ret fr lo pc lv (.int y0 :: .int x :: st) S r S' :=
  J_go (fun _ _ _ _ _ _ _ _ _ _ _ _ _ _ _ ls _ hC hl kk => lv_imul hC.1 hC.2.1 hd (kk ls hl)) k
theorem J_iand {x y0 : Int32} (hd : decode cc pc = .ok (.iand, 1)) (k : J X y cc nL ret fr lo (pc + 1) lv (.int (x &&& y0) :: st) S r S') : J X y cc nL ret fr lo pc lv (.int y0 :: .int x :: st) S r S' :=
  J_go (fun _ _ _ _ _ _ _ _ _ _ _ _ _ _ _ ls _ hC hl kk => lv_iand hC.1 hC.2.1 hd (kk ls hl)) k
theorem J_ior {x y0 : Int32} (hd : decode cc pc = .ok (.ior, 1)) (k : J X y cc nL ret fr lo (pc + 1) lv (.int (x ||| y0) :: st) S r S') : J X y cc nL ret fr lo pc lv (.int y0 :: .int x :: st) S r S' :=
  J_go (fun _ _ _ _ _ _ _ _ _ _ _ _ _ _ _ ls _ hC hl kk => lv_ior hC.1 hC.2.1 hd (kk ls hl)) k
theorem J_ixor {x y0 : Int32} (hd : decode cc pc = .ok (.ixor, 1)) (k : J X y cc nL ret fr lo (pc + 1) lv (.int (x ^^^ y0) :: st) S r S') : J X y cc nL ret fr lo pc lv (.int y0 :: .int x :: st) S r S' :=
  J_go (fun _ _ _ _ _ _ _ _ _ _ _ _ _ _ _ ls _ hC hl kk => lv_ixor hC.1 hC.2.1 hd (kk ls hl)) k
theorem J_ishl {x y0 : Int32} (hd : decode cc pc = .ok (.ishl, 1)) (k : J X y cc nL ret fr lo (pc + 1) lv (.int (x <<< (y0 &&& 31)) :: st) S r S') : J X y cc nL ret fr lo pc lv (.int y0 :: .int x :: st) S r S' :=
  J_go (fun _ _ _ _ _ _ _ _ _ _ _ _ _ _ _ ls _ hC hl kk => lv_ishl hC.1 hC.2.1 hd (kk ls hl)) k
theorem J_ishr {x y0 : Int32} (hd : decode cc pc = .ok (.ishr, 1)) (k : J X y cc nL ret fr lo (pc + 1) lv (.int (x >>> (y0 &&& 31)) :: st) S r S') : J X y cc nL ret fr lo pc lv (.int y0 :: .int x :: st) S r S' :=
  J_go (fun _ _ _ _ _ _ _ _ _ _ _ _ _ _ _ ls _ hC hl kk => lv_ishr hC.1 hC.2.1 hd (kk ls hl)) k
theorem J_iushr {x y0 : Int32} (hd : decode cc pc = .ok (.iushr, 1)) (k : J X y cc nL ret fr lo (pc + 1) lv (.int ((x.toUInt32 >>> (y0.toUInt32 &&& Int32.toUInt32 31)).toInt32) :: st) S r S') : J X y cc nL ret fr lo pc lv (.int y0 :: .int x :: st) S r S' :=
  J_go (fun _ _ _ _ _ _ _ _ _ _ _ _ _ _ _ ls _ hC hl kk => lv_iushr hC.1 hC.2.1 hd rfl (kk ls hl)) k
theorem J_idiv {x y0 : Int32} (hd : decode cc pc = .ok (.idiv, 1)) (hne : ¬ y0 = 0) (k : J X y cc nL ret fr lo (pc + 1) lv (.int (x / y0) :: st) S r S') : J X y cc nL ret fr lo pc lv (.int y0 :: .int x :: st) S r S' :=
  J_go (fun _ _ _ _ _ _ _ _ _ _ _ _ _ _ _ ls _ hC hl kk => lv_idiv hC.1 hC.2.1 hd hne (kk ls hl)) k
theorem J_irem {x y0 : Int32} (hd : decode cc pc = .ok (.irem, 1)) (hne : ¬ y0 = 0) (k : J X y cc nL ret fr lo (pc + 1) lv (.int (x - x / y0 * y0) :: st) S r S') : J X y cc nL ret fr lo pc lv (.int y0 :: .int x :: st) S r S' :=
  J_go (fun _ _ _ _ _ _ _ _ _ _ _ _ _ _ _ ls _ hC hl kk => lv_irem hC.1 hC.2.1 hd hne (kk ls hl)) k
theorem J_ladd {x y0 : Int64} (hd : decode cc pc = .ok (.ladd, 1)) (k : J X y cc nL ret fr lo (pc + 1) lv (.long (x + y0) :: st) S r S') : J X y cc nL ret fr lo pc lv (.long y0 :: .long x :: st) S r S' :=
  J_go (fun _ _ _ _ _ _ _ _ _ _ _ _ _ _ _ ls _ hC hl kk => lv_ladd hC.1 hC.2.1 hd (kk ls hl)) k
theorem J_lsub {x y0 : Int64} (hd : decode cc pc = .ok (.lsub, 1)) (k : J X y cc nL ret fr lo (pc + 1) lv (.long (x - y0) :: st) S r S') : J X y cc nL ret fr lo pc lv (.long y0 :: .long x :: st) S r S' :=
  J_go (fun _ _ _ _ _ _ _ _ _ _ _ _ _ _ _ ls _ hC hl kk => lv_lsub hC.1 hC.2.1 hd (kk ls hl)) k
theorem J_lmul {x y0 : Int64} (hd : decode cc pc = .ok (.lmul, 1)) (k : J X y cc nL ret fr lo (pc + 1) lv (.long (x * y0) :: st) S r S') : J X y cc nL ret fr lo pc lv (.long y0 :: .long x :: st) S r S' :=
  J_go (fun _ _ _ _ _ _ _ _ _ _ _ _ _ _ _ ls _ hC hl kk => lv_lmul hC.1 hC.2.1 hd (kk ls hl)) k
theorem J_land {x y0 : Int64} (hd : decode cc pc = .ok (.land, 1)) (k : J X y cc nL ret fr lo (pc + 1) lv (.long (x &&& y0) :: st) S r S') : J X y cc nL ret fr lo pc lv (.long y0 :: .long x :: st) S r S' :=
  J_go (fun _ _ _ _ _ _ _ _ _ _ _ _ _ _ _ ls _ hC hl kk => lv_land hC.1 hC.2.1 hd (kk ls hl)) k
theorem J_lor {x y0 : Int64} (hd : decode cc pc = .ok (.lor, 1)) (k : J X y cc nL ret fr lo (pc + 1) lv (.long (x ||| y0) :: st) S r S') : J X y cc nL ret fr lo pc lv (.long y0 :: .long x :: st) S r S' :=
  J_go (fun _ _ _ _ _ _ _ _ _ _ _ _ _ _ _ ls _ hC hl kk => lv_lor hC.1 hC.2.1 hd (kk ls hl)) k
theorem J_ldiv {x y0 : Int64} (hd : decode cc pc = .ok (.ldiv, 1)) (hne : ¬ y0 = 0) (k : J X y cc nL ret fr lo (pc + 1) lv (.long (x / y0) :: st) S r S') : J X y cc nL ret fr lo pc lv (.long y0 :: .long x :: st) S r S' :=
  J_go (fun _ _ _ _ _ _ _ _ _ _ _ _ _ _ _ ls _ hC hl kk => lv_ldiv hC.1 hC.2.1 hd hne (kk ls hl)) k
theorem J_lrem {x y0 : Int64} (hd : decode cc pc = .ok (.lrem, 1)) (hne : ¬ y0 = 0) (k : J X y cc nL ret fr lo (pc + 1) lv (.long (x - x / y0 * y0) :: st) S r S') : J X y cc nL ret fr lo pc lv (.long y0 :: .long x :: st) S r S' :=
  J_go (fun _ _ _ _ _ _ _ _ _ _ _ _ _ _ _ ls _ hC hl kk => lv_lrem hC.1 hC.2.1 hd hne (kk ls hl)) k
theorem J_lushr {x : Int64} {y0 : Int32} (hd : decode cc pc = .ok (.lushr, 1)) (k : J X y cc nL ret fr lo (pc + 1) lv (.long ((x.toUInt64 >>> (y0.toInt64.toUInt64 &&& Int64.toUInt64 63)).toInt64) :: st) S r S') : J X y cc nL ret fr lo pc lv (.int y0 :: .long x :: st) S r S' :=
  J_go (fun _ _ _ _ _ _ _ _ _ _ _ _ _ _ _ ls _ hC hl kk => lv_lushr hC.1 hC.2.1 hd rfl (kk ls hl)) k
theorem J_lshl {x : Int64} {y0 : Int32} (hd : decode cc pc = .ok (.lshl, 1)) (k : J X y cc nL ret fr lo (pc + 1) lv (.long (x <<< (y0.toInt64 &&& 63)) :: st) S r S') : J X y cc nL ret fr lo pc lv (.int y0 :: .long x :: st) S r S' :=
  J_go (fun _ _ _ _ _ _ _ _ _ _ _ _ _ _ _ ls _ hC hl kk => lv_lshl hC.1 hC.2.1 hd rfl (kk ls hl)) k
theorem J_lshr {x : Int64} {y0 : Int32} (hd : decode cc pc = .ok (.lshr, 1)) (k : J X y cc nL ret fr lo (pc + 1) lv (.long (x >>> (y0.toInt64 &&& 63)) :: st) S r S') : J X y cc nL ret fr lo pc lv (.int y0 :: .long x :: st) S r S' :=
  J_go (fun _ _ _ _ _ _ _ _ _ _ _ _ _ _ _ ls _ hC hl kk => lv_lshr hC.1 hC.2.1 hd rfl (kk ls hl)) k
theorem J_ineg {x : Int32} (hd : decode cc pc = .ok (.ineg, 1)) (k : J X y cc nL ret fr lo (pc + 1) lv (.int (-x) :: st) S r S') : J X y cc nL ret fr lo pc lv (.int x :: st) S r S' :=
  J_go (fun _ _ _ _ _ _ _ _ _ _ _ _ _ _ _ ls _ hC hl kk => lv_ineg hC.1 hC.2.1 hd (kk ls hl)) k
theorem J_i2l {x : Int32} (hd : decode cc pc = .ok (.i2l, 1)) (k : J X y cc nL ret fr lo (pc + 1) lv (.long x.toInt64 :: st) S r S') : J X y cc nL ret fr lo pc lv (.int x :: st) S r S' :=
  J_go (fun _ _ _ _ _ _ _ _ _ _ _ _ _ _ _ ls _ hC hl kk => lv_i2l hC.1 hC.2.1 hd rfl (kk ls hl)) k
theorem J_l2i {x : Int64} (hd : decode cc pc = .ok (.l2i, 1)) (k : J X y cc nL ret fr lo (pc + 1) lv (.int x.toInt32 :: st) S r S') : J X y cc nL ret fr lo pc lv (.long x :: st) S r S' :=
  J_go (fun _ _ _ _ _ _ _ _ _ _ _ _ _ _ _ ls _ hC hl kk => lv_l2i hC.1 hC.2.1 hd rfl (kk ls hl)) k
theorem J_f2l {x : UInt32} (hd : decode cc pc = .ok (.f2l, 1)) (k : J X y cc nL ret fr lo (pc + 1) lv (.long (FP.f2l x) :: st) S r S') : J X y cc nL ret fr lo pc lv (.float x :: st) S r S' :=
  J_go (fun _ _ _ _ _ _ _ _ _ _ _ _ _ _ _ ls _ hC hl kk => lv_f2l hC.1 hC.2.1 hd (kk ls hl)) k
theorem J_d2l {x : UInt64} (hd : decode cc pc = .ok (.d2l, 1)) (k : J X y cc nL ret fr lo (pc + 1) lv (.long (FP.d2l x) :: st) S r S') : J X y cc nL ret fr lo pc lv (.double x :: st) S r S' :=
  J_go (fun _ _ _ _ _ _ _ _ _ _ _ _ _ _ _ ls _ hC hl kk => lv_d2l hC.1 hC.2.1 hd (kk ls hl)) k
theorem J_frem {x y0 : UInt32} (hd : decode cc pc = .ok (.frem, 1)) (hne : vf_n32 (FP.frem x y0)) (k : J X y cc nL ret fr lo (pc + 1) lv (.float (FP.frem x y0) :: st) S r S') : J X y cc nL ret fr lo pc lv (.float y0 :: .float x :: st) S r S' :=
  J_go (fun _ _ _ _ _ _ _ _ _ _ _ _ _ _ _ ls _ hC hl kk => lv_frem hC.1 hC.2.1 hd hne (kk ls hl)) k
theorem J_drem {x y0 : UInt64} (hd : decode cc pc = .ok (.drem, 1)) (hne : vf_n64 (FP.drem x y0)) (k : J X y cc nL ret fr lo (pc + 1) lv (.double (FP.drem x y0) :: st) S r S') : J X y cc nL ret fr lo pc lv (.double y0 :: .double x :: st) S r S' :=
  J_go (fun _ _ _ _ _ _ _ _ _ _ _ _ _ _ _ ls _ hC hl kk => lv_drem hC.1 hC.2.1 hd hne (kk ls hl)) k
theorem J_fconst0  (hd : decode cc pc = .ok (.fconst 0, 1)) (k : J X y cc nL ret fr lo (pc + 1) lv (.float 0 :: st) S r S') : J X y cc nL ret fr lo pc lv (st) S r S' :=
  J_go (fun _ _ _ _ _ _ _ _ _ _ _ _ _ _ _ ls _ hC hl kk => lv_fconst0 hC.1 hC.2.1 hd (kk ls hl)) k
theorem J_dconst0  (hd : decode cc pc = .ok (.dconst 0, 1)) (k : J X y cc nL ret fr lo (pc + 1) lv (.double 0 :: st) S r S') : J X y cc nL ret fr lo pc lv (st) S r S' :=
  J_go (fun _ _ _ _ _ _ _ _ _ _ _ _ _ _ _ ls _ hC hl kk => lv_dconst0 hC.1 hC.2.1 hd (kk ls hl)) k
theorem J_dup {va : Value} (hd : decode cc pc = .ok (.dup, 1)) (hva : va.category = 1) (k : J X y cc nL ret fr lo (pc + 1) lv (va :: va :: st) S r S') : J X y cc nL ret fr lo pc lv (va :: st) S r S' :=
  J_go (fun _ _ _ _ _ _ _ _ _ _ _ _ _ _ _ ls _ hC hl kk => lv_dup hC.1 hC.2.1 hd hva (kk ls hl)) k
theorem J_pop {va : Value} (hd : decode cc pc = .ok (.pop, 1)) (hva : va.category = 1) (k : J X y cc nL ret fr lo (pc + 1) lv (st) S r S') : J X y cc nL ret fr lo pc lv (va :: st) S r S' :=
  J_go (fun _ _ _ _ _ _ _ _ _ _ _ _ _ _ _ ls _ hC hl kk => lv_pop hC.1 hC.2.1 hd hva (kk ls hl)) k
theorem J_dup2_11 {va vb : Value} (hd : decode cc pc = .ok (.dup2, 1)) (hva : va.category = 1) (hvb : vb.category = 1) (k : J X y cc nL ret fr lo (pc + 1) lv (va :: vb :: va :: vb :: st) S r S') : J X y cc nL ret fr lo pc lv (va :: vb :: st) S r S' :=
  J_go (fun _ _ _ _ _ _ _ _ _ _ _ _ _ _ _ ls _ hC hl kk => lv_dup2_11 hC.1 hC.2.1 hd hva hvb (kk ls hl)) k
theorem J_null  (hd : decode cc pc = .ok (.aconst_null, 1)) (k : J X y cc nL ret fr lo (pc + 1) lv (va_rf none :: st) S r S') : J X y cc nL ret fr lo pc lv (st) S r S' :=
  J_go (fun _ _ _ _ _ _ _ _ _ _ _ _ _ _ _ ls _ hC hl kk => lv_null hC.1 hC.2.1 hd (kk ls hl)) k
theorem J_goto {off : Int} (tgt : Nat) (hd : decode cc pc = .ok (.goto off, 3)) (ht : (pc : Int) + off = (tgt : Int)) (k : J X y cc nL ret fr lo tgt lv st S r S') : J X y cc nL ret fr lo pc lv st S r S' :=
  J_go (fun _ _ _ _ _ _ _ _ _ _ _ _ _ _ _ ls _ hC hl kk => lv_goto hC.1 hC.2.1 hd ht (kk ls hl)) k
theorem J_ldc {i : Nat} (v : Int32) (hd : decode cc pc = .ok (.ldc i, 2)) (hc : Cond.constant y.cls i v ∈ tblG) (k : J X y cc nL ret fr lo (pc + 2) lv (.int v :: st) S r S') : J X y cc nL ret fr lo pc lv st S r S' :=
  J_go (fun _ _ _ _ _ _ _ _ _ _ _ _ _ _ _ ls _ hC hl kk => lv_ldc hC.1 hC.2.1 hC.2.2.2.1 (hC.2.2.2.2.1 _ hc) hd (kk ls hl)) k
theorem J_ldcw {i : Nat} (v : Int32) (hd : decode cc pc = .ok (.ldc_w i, 3)) (hc : Cond.constant y.cls i v ∈ tblG) (k : J X y cc nL ret fr lo (pc + 3) lv (.int v :: st) S r S') : J X y cc nL ret fr lo pc lv st S r S' :=
  J_go (fun _ _ _ _ _ _ _ _ _ _ _ _ _ _ _ ls _ hC hl kk => lv_ldcw hC.1 hC.2.1 hC.2.2.2.1 (hC.2.2.2.2.1 _ hc) hd (kk ls hl)) k
theorem J_ldc2 {i : Nat} (v : Int64) (hd : decode cc pc = .ok (.ldc2_w i, 3)) (hc : Cond.constantLong y.cls i v ∈ tblG) (k : J X y cc nL ret fr lo (pc + 3) lv (.long v :: st) S r S') : J X y cc nL ret fr lo pc lv st S r S' :=
  J_go (fun _ _ _ _ _ _ _ _ _ _ _ _ _ _ _ ls _ hC hl kk => lv_ldc2 hC.1 hC.2.1 hC.2.2.2.1 (hC.2.2.2.2.1 _ hc) hd (kk ls hl)) k
theorem J_icmp_eq {x y0 : Int32} {α : Type} {a b : Option α} {w : α} {off : Int} (tgt : Nat) (hd : decode cc pc = .ok (.if_icmp .eq off, 3)) (ht : (pc : Int) + off = (tgt : Int)) (h : (if x = y0 then a else b) = some w) (kt : x = y0 → a = some w → J X y cc nL ret fr lo tgt lv st S r S') (kf : ¬ x = y0 → b = some w → J X y cc nL ret fr lo (pc + 3) lv st S r S') : J X y cc nL ret fr lo pc lv (.int y0 :: .int x :: st) S r S' :=
  J_br _ (fun _ _ _ _ _ _ _ _ _ _ _ _ _ _ _ _ _ hC k1 k2 => lv_icmp_eq hC.1 hC.2.1 hd ht k1 k2) h kt kf
theorem J_if_eq {x : Int32} {α : Type} {a b : Option α} {w : α} {off : Int} (tgt : Nat) (hd : decode cc pc = .ok (.ifCond .eq off, 3)) (ht : (pc : Int) + off = (tgt : Int)) (h : (if x = 0 then a else b) = some w) (kt : x = 0 → a = some w → J X y cc nL ret fr lo tgt lv st S r S') (kf : ¬ x = 0 → b = some w → J X y cc nL ret fr lo (pc + 3) lv st S r S') : J X y cc nL ret fr lo pc lv (.int x :: st) S r S' :=
  J_br _ (fun _ _ _ _ _ _ _ _ _ _ _ _ _ _ _ _ _ hC k1 k2 => lv_if_eq hC.1 hC.2.1 hd ht k1 k2) h kt kf
theorem J_icmp_ne {x y0 : Int32} {α : Type} {a b : Option α} {w : α} {off : Int} (tgt : Nat) (hd : decode cc pc = .ok (.if_icmp .ne off, 3)) (ht : (pc : Int) + off = (tgt : Int)) (h : (if x = y0 then a else b) = some w) (kf : x = y0 → a = some w → J X y cc nL ret fr lo (pc + 3) lv st S r S') (kt : ¬ x = y0 → b = some w → J X y cc nL ret fr lo tgt lv st S r S') : J X y cc nL ret fr lo pc lv (.int y0 :: .int x :: st) S r S' :=
  J_br _ (fun _ _ _ _ _ _ _ _ _ _ _ _ _ _ _ _ _ hC k1 k2 => lv_icmp_ne hC.1 hC.2.1 hd ht k2 k1) h kf kt
theorem J_if_ne {x : Int32} {α : Type} {a b : Option α} {w : α} {off : Int} (tgt : Nat) (hd : decode cc pc = .ok (.ifCond .ne off, 3)) (ht : (pc : Int) + off = (tgt : Int)) (h : (if x = 0 then a else b) = some w) (kf : x = 0 → a = some w → J X y cc nL ret fr lo (pc + 3) lv st S r S') (kt : ¬ x = 0 → b = some w → J X y cc nL ret fr lo tgt lv st S r S') : J X y cc nL ret fr lo pc lv (.int x :: st) S r S' :=
  J_br _ (fun _ _ _ _ _ _ _ _ _ _ _ _ _ _ _ _ _ hC k1 k2 => lv_if_ne hC.1 hC.2.1 hd ht k2 k1) h kf kt
theorem J_icmp_lt {x y0 : Int32} {α : Type} {a b : Option α} {w : α} {off : Int} (tgt : Nat) (hd : decode cc pc = .ok (.if_icmp .lt off, 3)) (ht : (pc : Int) + off = (tgt : Int)) (h : (if x < y0 then a else b) = some w) (kt : x < y0 → a = some w → J X y cc nL ret fr lo tgt lv st S r S') (kf : ¬ x < y0 → b = some w → J X y cc nL ret fr lo (pc + 3) lv st S r S') : J X y cc nL ret fr lo pc lv (.int y0 :: .int x :: st) S r S' :=
  J_br _ (fun _ _ _ _ _ _ _ _ _ _ _ _ _ _ _ _ _ hC k1 k2 => lv_icmp_lt hC.1 hC.2.1 hd ht k1 k2) h kt kf
theorem J_if_lt {x : Int32} {α : Type} {a b : Option α} {w : α} {off : Int} (tgt : Nat) (hd : decode cc pc = .ok (.ifCond .lt off, 3)) (ht : (pc : Int) + off = (tgt : Int)) (h : (if x < 0 then a else b) = some w) (kt : x < 0 → a = some w → J X y cc nL ret fr lo tgt lv st S r S') (kf : ¬ x < 0 → b = some w → J X y cc nL ret fr lo (pc + 3) lv st S r S') : J X y cc nL ret fr lo pc lv (.int x :: st) S r S' :=
  J_br _ (fun _ _ _ _ _ _ _ _ _ _ _ _ _ _ _ _ _ hC k1 k2 => lv_if_lt hC.1 hC.2.1 hd ht k1 k2) h kt kf
theorem J_icmp_ge {x y0 : Int32} {α : Type} {a b : Option α} {w : α} {off : Int} (tgt : Nat) (hd : decode cc pc = .ok (.if_icmp .ge off, 3)) (ht : (pc : Int) + off = (tgt : Int)) (h : (if y0 ≤ x then a else b) = some w) (kt : y0 ≤ x → a = some w → J X y cc nL ret fr lo tgt lv st S r S') (kf : ¬ y0 ≤ x → b = some w → J X y cc nL ret fr lo (pc + 3) lv st S r S') : J X y cc nL ret fr lo pc lv (.int y0 :: .int x :: st) S r S' :=
  J_br _ (fun _ _ _ _ _ _ _ _ _ _ _ _ _ _ _ _ _ hC k1 k2 => lv_icmp_ge hC.1 hC.2.1 hd ht k1 k2) h kt kf
theorem J_if_ge {x : Int32} {α : Type} {a b : Option α} {w : α} {off : Int} (tgt : Nat) (hd : decode cc pc = .ok (.ifCond .ge off, 3)) (ht : (pc : Int) + off = (tgt : Int)) (h : (if 0 ≤ x then a else b) = some w) (kt : 0 ≤ x → a = some w → J X y cc nL ret fr lo tgt lv st S r S') (kf : ¬ 0 ≤ x → b = some w → J X y cc nL ret fr lo (pc + 3) lv st S r S') : J X y cc nL ret fr lo pc lv (.int x :: st) S r S' :=
  J_br _ (fun _ _ _ _ _ _ _ _ _ _ _ _ _ _ _ _ _ hC k1 k2 => lv_if_ge hC.1 hC.2.1 hd ht k1 k2) h kt kf
theorem J_icmp_gt {x y0 : Int32} {α : Type} {a b : Option α} {w : α} {off : Int} (tgt : Nat) (hd : decode cc pc = .ok (.if_icmp .gt off, 3)) (ht : (pc : Int) + off = (tgt : Int)) (h : (if y0 < x then a else b) = some w) (kt : y0 < x → a = some w → J X y cc nL ret fr lo tgt lv st S r S') (kf : ¬ y0 < x → b = some w → J X y cc nL ret fr lo (pc + 3) lv st S r S') : J X y cc nL ret fr lo pc lv (.int y0 :: .int x :: st) S r S' :=
  J_br _ (fun _ _ _ _ _ _ _ _ _ _ _ _ _ _ _ _ _ hC k1 k2 => lv_icmp_gt hC.1 hC.2.1 hd ht k1 k2) h kt kf
theorem J_if_gt {x : Int32} {α : Type} {a b : Option α} {w : α} {off : Int} (tgt : Nat) (hd : decode cc pc = .ok (.ifCond .gt off, 3)) (ht : (pc : Int) + off = (tgt : Int)) (h : (if 0 < x then a else b) = some w) (kt : 0 < x → a = some w → J X y cc nL ret fr lo tgt lv st S r S') (kf : ¬ 0 < x → b = some w → J X y cc nL ret fr lo (pc + 3) lv st S r S') : J X y cc nL ret fr lo pc lv (.int x :: st) S r S' :=
  J_br _ (fun _ _ _ _ _ _ _ _ _ _ _ _ _ _ _ _ _ hC k1 k2 => lv_if_gt hC.1 hC.2.1 hd ht k1 k2) h kt kf
theorem J_icmp_le {x y0 : Int32} {α : Type} {a b : Option α} {w : α} {off : Int} (tgt : Nat) (hd : decode cc pc = .ok (.if_icmp .le off, 3)) (ht : (pc : Int) + off = (tgt : Int)) (h : (if x ≤ y0 then a else b) = some w) (kt : x ≤ y0 → a = some w → J X y cc nL ret fr lo tgt lv st S r S') (kf : ¬ x ≤ y0 → b = some w → J X y cc nL ret fr lo (pc + 3) lv st S r S') : J X y cc nL ret fr lo pc lv (.int y0 :: .int x :: st) S r S' :=
  J_br _ (fun _ _ _ _ _ _ _ _ _ _ _ _ _ _ _ _ _ hC k1 k2 => lv_icmp_le hC.1 hC.2.1 hd ht k1 k2) h kt kf
theorem J_if_le {x : Int32} {α : Type} {a b : Option α} {w : α} {off : Int} (tgt : Nat) (hd : decode cc pc = .ok (.ifCond .le off, 3)) (ht : (pc : Int) + off = (tgt : Int)) (h : (if x ≤ 0 then a else b) = some w) (kt : x ≤ 0 → a = some w → J X y cc nL ret fr lo tgt lv st S r S') (kf : ¬ x ≤ 0 → b = some w → J X y cc nL ret fr lo (pc + 3) lv st S r S') : J X y cc nL ret fr lo pc lv (.int x :: st) S r S' :=
  J_br _ (fun _ _ _ _ _ _ _ _ _ _ _ _ _ _ _ _ _ hC k1 k2 => lv_if_le hC.1 hC.2.1 hd ht k1 k2) h kt kf
theorem J_lcmp_eq {x y0 : Int64} {α : Type} {a b : Option α} {w : α} {off : Int} (tgt : Nat) (hd : decode cc pc = .ok (.lcmp, 1)) (hd2 : decode cc (pc + 1) = .ok (.ifCond .eq off, 3)) (ht : ((pc + 1 : Nat) : Int) + off = (tgt : Int)) (h : (if x = y0 then a else b) = some w) (kt : x = y0 → a = some w → J X y cc nL ret fr lo tgt lv st S r S') (kf : ¬ x = y0 → b = some w → J X y cc nL ret fr lo (pc + 4) lv st S r S') : J X y cc nL ret fr lo pc lv (.long y0 :: .long x :: st) S r S' :=
  J_br _ (fun _ _ _ _ _ _ _ _ _ _ _ _ _ _ _ _ _ hC k1 k2 => W.lcmp hC.1 hC.2.1 hd (lv_if_eq hC.1 hC.2.1 hd2 ht (fun q => k1 ((lg_cmp_eq x y0).mp q)) (fun q => k2 (fun z => q ((lg_cmp_eq x y0).mpr z))))) h kt kf
theorem J_lcmp_ne {x y0 : Int64} {α : Type} {a b : Option α} {w : α} {off : Int} (tgt : Nat) (hd : decode cc pc = .ok (.lcmp, 1)) (hd2 : decode cc (pc + 1) = .ok (.ifCond .ne off, 3)) (ht : ((pc + 1 : Nat) : Int) + off = (tgt : Int)) (h : (if x = y0 then a else b) = some w) (kf : x = y0 → a = some w → J X y cc nL ret fr lo (pc + 4) lv st S r S') (kt : ¬ x = y0 → b = some w → J X y cc nL ret fr lo tgt lv st S r S') : J X y cc nL ret fr lo pc lv (.long y0 :: .long x :: st) S r S' :=
  J_br _ (fun _ _ _ _ _ _ _ _ _ _ _ _ _ _ _ _ _ hC k1 k2 => W.lcmp hC.1 hC.2.1 hd (lv_if_ne hC.1 hC.2.1 hd2 ht (fun q => k2 (fun z => q ((lg_cmp_eq x y0).mpr z))) (fun q => k1 ((lg_cmp_eq x y0).mp q)))) h kf kt
theorem J_lcmp_lt {x y0 : Int64} {α : Type} {a b : Option α} {w : α} {off : Int} (tgt : Nat) (hd : decode cc pc = .ok (.lcmp, 1)) (hd2 : decode cc (pc + 1) = .ok (.ifCond .lt off, 3)) (ht : ((pc + 1 : Nat) : Int) + off = (tgt : Int)) (h : (if x < y0 then a else b) = some w) (kt : x < y0 → a = some w → J X y cc nL ret fr lo tgt lv st S r S') (kf : ¬ x < y0 → b = some w → J X y cc nL ret fr lo (pc + 4) lv st S r S') : J X y cc nL ret fr lo pc lv (.long y0 :: .long x :: st) S r S' :=
  J_br _ (fun _ _ _ _ _ _ _ _ _ _ _ _ _ _ _ _ _ hC k1 k2 => W.lcmp hC.1 hC.2.1 hd (lv_if_lt hC.1 hC.2.1 hd2 ht (fun q => k1 ((lg_cmp_lt x y0).mp q)) (fun q => k2 (fun z => q ((lg_cmp_lt x y0).mpr z))))) h kt kf
theorem J_lcmp_ge {x y0 : Int64} {α : Type} {a b : Option α} {w : α} {off : Int} (tgt : Nat) (hd : decode cc pc = .ok (.lcmp, 1)) (hd2 : decode cc (pc + 1) = .ok (.ifCond .ge off, 3)) (ht : ((pc + 1 : Nat) : Int) + off = (tgt : Int)) (h : (if y0 ≤ x then a else b) = some w) (kt : y0 ≤ x → a = some w → J X y cc nL ret fr lo tgt lv st S r S') (kf : ¬ y0 ≤ x → b = some w → J X y cc nL ret fr lo (pc + 4) lv st S r S') : J X y cc nL ret fr lo pc lv (.long y0 :: .long x :: st) S r S' :=
  J_br _ (fun _ _ _ _ _ _ _ _ _ _ _ _ _ _ _ _ _ hC k1 k2 => W.lcmp hC.1 hC.2.1 hd (lv_if_ge hC.1 hC.2.1 hd2 ht (fun q => k1 ((lg_cmp_ge x y0).mp q)) (fun q => k2 (fun z => q ((lg_cmp_ge x y0).mpr z))))) h kt kf
theorem J_lcmp_gt {x y0 : Int64} {α : Type} {a b : Option α} {w : α} {off : Int} (tgt : Nat) (hd : decode cc pc = .ok (.lcmp, 1)) (hd2 : decode cc (pc + 1) = .ok (.ifCond .gt off, 3)) (ht : ((pc + 1 : Nat) : Int) + off = (tgt : Int)) (h : (if y0 < x then a else b) = some w) (kt : y0 < x → a = some w → J X y cc nL ret fr lo tgt lv st S r S') (kf : ¬ y0 < x → b = some w → J X y cc nL ret fr lo (pc + 4) lv st S r S') : J X y cc nL ret fr lo pc lv (.long y0 :: .long x :: st) S r S' :=
  J_br _ (fun _ _ _ _ _ _ _ _ _ _ _ _ _ _ _ _ _ hC k1 k2 => W.lcmp hC.1 hC.2.1 hd (lv_if_gt hC.1 hC.2.1 hd2 ht (fun q => k1 ((lg_cmp_gt x y0).mp q)) (fun q => k2 (fun z => q ((lg_cmp_gt x y0).mpr z))))) h kt kf
theorem J_lcmp_le {x y0 : Int64} {α : Type} {a b : Option α} {w : α} {off : Int} (tgt : Nat) (hd : decode cc pc = .ok (.lcmp, 1)) (hd2 : decode cc (pc + 1) = .ok (.ifCond .le off, 3)) (ht : ((pc + 1 : Nat) : Int) + off = (tgt : Int)) (h : (if x ≤ y0 then a else b) = some w) (kt : x ≤ y0 → a = some w → J X y cc nL ret fr lo tgt lv st S r S') (kf : ¬ x ≤ y0 → b = some w → J X y cc nL ret fr lo (pc + 4) lv st S r S') : J X y cc nL ret fr lo pc lv (.long y0 :: .long x :: st) S r S' :=
  J_br _ (fun _ _ _ _ _ _ _ _ _ _ _ _ _ _ _ _ _ hC k1 k2 => W.lcmp hC.1 hC.2.1 hd (lv_if_le hC.1 hC.2.1 hd2 ht (fun q => k1 ((lg_cmp_le x y0).mp q)) (fun q => k2 (fun z => q ((lg_cmp_le x y0).mpr z))))) h kt kf
end Rules2
