def l_case25 (a1 L : Nat) (xs : Nat → Int32) (K : Mem → MS → Int32 → Option (Int32 × Mem × MS)) (S : Mem) (M : MS) (i3 : Int32) : Option (Int32 × Mem × MS) :=
  gd (inB (i3 + (1 : Int32)) L) <|
  gd (inB (i3 + (2 : Int32)) L) <|
  bnd2 (c_X5_cube S a1 (xs (Int32.toNatClampNeg (i3 + (1 : Int32)))) (xs (Int32.toNatClampNeg (i3 + (2 : Int32))))) fun i341_ S342 =>
  bnd2 (m_X6_cube M (xs (Int32.toNatClampNeg (i3 + (1 : Int32)))) (xs (Int32.toNatClampNeg (i3 + (2 : Int32))))) fun i344_ M345 =>
  if i341_ = i344_ then
    (K S342 M345 (i3 + (6 : Int32)))
  else
    (some ((0 : Int32), S342, M345))
set_option maxRecDepth 100000 in
set_option maxHeartbeats 4000000 in
theorem t_case25 {nm : String} {a1 a2 b L : Nat} {xs : Nat → Int32} {K : Mem → MS → Int32 → Option (Int32 × Mem × MS)} {S : Mem} {M : MS} {i3 : Int32} {w : Int32 × Mem × MS} (ha1 : mKd S a1 = 6) (ha2 : a2 = M.1) (lh : ∀ (S : Mem) (M : MS) (i3 : Int32), mKd S a1 = 6 → a2 = M.1 → K S M i3 = some w → J LX (yl nm) cL_law 4 (some .boolean) 40 1500 18 [(0, .ref b), (1, .ref a1), (2, .ref a2), (3, .int i3)] [] (S, some M, b, L, xs) (some (.int w.1)) (w.2.1, some w.2.2, b, L, xs)) (h : l_case25 a1 L xs K S M i3 = some w) : J LX (yl nm) cL_law 4 (some .boolean) 40 1500 1302 [(0, .ref b), (1, .ref a1), (2, .ref a2), (3, .int i3)] [] (S, some M, b, L, xs) (some (.int w.1)) (w.2.1, some w.2.2, b, L, xs) := by
  refine J_aload_n 1 dL_law_1302 rfl rfl ?_
  refine J_aload_n 0 dL_law_1303 rfl rfl ?_
  refine J_iload_n 3 dL_law_1304 rfl rfl ?_
  refine J_iconst (1 : Int32) dL_law_1305 (by decide) ?_
  refine J_iadd dL_law_1306 ?_
  obtain ⟨g337, h338⟩ := gd_some h; clear h
  refine J_Lsld dL_law_1307 g337 ?_
  refine J_aload_n 0 dL_law_1308 rfl rfl ?_
  refine J_iload_n 3 dL_law_1309 rfl rfl ?_
  refine J_iconst (2 : Int32) dL_law_1310 (by decide) ?_
  refine J_iadd dL_law_1311 ?_
  obtain ⟨g339, h340⟩ := gd_some h338; clear h338
  refine J_Lsld dL_law_1312 g339 ?_
  obtain ⟨i341_, S342, ei341_, h343⟩ := bnd2_some h340; clear h340
  have ki341_ := t_X5_cube ha1 ei341_
  have qS342 : mKd S342 a1 = 6 := kd_le ki341_.1 ha1
  refine J_LC (As := [.int (xs (Int32.toNatClampNeg (i3 + (1 : Int32)))), .int (xs (Int32.toNatClampNeg (i3 + (2 : Int32))))]) (rest := []) (st' := [.int i341_]) ki341_ gC_X5_cube gM_L_125 (mRecv ha1 (by decide) jCl5) rfl (by decide) (by decide) rfl rfl (Nat.le_of_ble_eq_true rfl) dL_law_1313 ?_
  refine J_aload_n 2 dL_law_1316 rfl rfl ?_
  refine J_aload_n 0 dL_law_1317 rfl rfl ?_
  refine J_iload_n 3 dL_law_1318 rfl rfl ?_
  refine J_iconst (1 : Int32) dL_law_1319 (by decide) ?_
  refine J_iadd dL_law_1320 ?_
  refine J_Lsld dL_law_1321 g337 ?_
  refine J_aload_n 0 dL_law_1322 rfl rfl ?_
  refine J_iload_n 3 dL_law_1323 rfl rfl ?_
  refine J_iconst (2 : Int32) dL_law_1324 (by decide) ?_
  refine J_iadd dL_law_1325 ?_
  refine J_Lsld dL_law_1326 g339 ?_
  obtain ⟨i344_, M345, ei344_, h346⟩ := bnd2_some h343; clear h343
  have ki344_ := t_X6_cube ha2 ei344_
  have qM345 : a2 = M345.1 := ha2.trans (nle_eq ki344_.1).symm
  refine J_LM (As := [.int (xs (Int32.toNatClampNeg (i3 + (1 : Int32)))), .int (xs (Int32.toNatClampNeg (i3 + (2 : Int32))))]) (rest := [.int i341_]) (st' := [.int i344_, .int i341_]) ki344_ gC_X6_cube gM_L_128 (by rw [ha2]; exact nRecv) rfl (by decide) (by decide) rfl rfl (Nat.le_of_ble_eq_true rfl) dL_law_1327 ?_
  refine J_icmp_eq 1780 dL_law_1330 (by decide) h346 (fun c347 h348 => ?_) (fun c347 h348 => ?_)
  · clear h346
    refine J_iinc 3 (6 : Int32) dL_law_1780 rfl (by decide) (by decide) [1, 2, 3, 0] (lv' := [(0, .ref b), (1, .ref a1), (2, .ref a2), (3, .int (i3 + (6 : Int32)))]) rfl ?_
    refine J_goto 18 dL_law_1783 (by decide) ?_
    exact lh S342 M345 (i3 + (6 : Int32)) qS342 qM345 h348
  · clear h346
    refine J_iconst (0 : Int32) dL_law_1333 (by decide) ?_
    have hw := Option.some.inj h348; subst hw
    exact J_zret rfl (by decide) dL_law_1334
def l_case26 (a1 L : Nat) (xs : Nat → Int32) (K : Mem → MS → Int32 → Option (Int32 × Mem × MS)) (S : Mem) (M : MS) (i3 : Int32) : Option (Int32 × Mem × MS) :=
  gd (inB (i3 + (1 : Int32)) L) <|
  gd (inB (i3 + (2 : Int32)) L) <|
  bnd2 (c_X5_turn S a1 (xs (Int32.toNatClampNeg (i3 + (1 : Int32)))) (xs (Int32.toNatClampNeg (i3 + (2 : Int32))))) fun i354_ S355 =>
  bnd2 (m_X6_turn M (xs (Int32.toNatClampNeg (i3 + (1 : Int32)))) (xs (Int32.toNatClampNeg (i3 + (2 : Int32))))) fun i357_ M358 =>
  if i354_ = i357_ then
    (K S355 M358 (i3 + (6 : Int32)))
  else
    (some ((0 : Int32), S355, M358))
set_option maxRecDepth 100000 in
set_option maxHeartbeats 4000000 in
theorem t_case26 {nm : String} {a1 a2 b L : Nat} {xs : Nat → Int32} {K : Mem → MS → Int32 → Option (Int32 × Mem × MS)} {S : Mem} {M : MS} {i3 : Int32} {w : Int32 × Mem × MS} (ha1 : mKd S a1 = 6) (ha2 : a2 = M.1) (lh : ∀ (S : Mem) (M : MS) (i3 : Int32), mKd S a1 = 6 → a2 = M.1 → K S M i3 = some w → J LX (yl nm) cL_law 4 (some .boolean) 40 1500 18 [(0, .ref b), (1, .ref a1), (2, .ref a2), (3, .int i3)] [] (S, some M, b, L, xs) (some (.int w.1)) (w.2.1, some w.2.2, b, L, xs)) (h : l_case26 a1 L xs K S M i3 = some w) : J LX (yl nm) cL_law 4 (some .boolean) 40 1500 1335 [(0, .ref b), (1, .ref a1), (2, .ref a2), (3, .int i3)] [] (S, some M, b, L, xs) (some (.int w.1)) (w.2.1, some w.2.2, b, L, xs) := by
  refine J_aload_n 1 dL_law_1335 rfl rfl ?_
  refine J_aload_n 0 dL_law_1336 rfl rfl ?_
  refine J_iload_n 3 dL_law_1337 rfl rfl ?_
  refine J_iconst (1 : Int32) dL_law_1338 (by decide) ?_
  refine J_iadd dL_law_1339 ?_
  obtain ⟨g350, h351⟩ := gd_some h; clear h
  refine J_Lsld dL_law_1340 g350 ?_
  refine J_aload_n 0 dL_law_1341 rfl rfl ?_
  refine J_iload_n 3 dL_law_1342 rfl rfl ?_
  refine J_iconst (2 : Int32) dL_law_1343 (by decide) ?_
  refine J_iadd dL_law_1344 ?_
  obtain ⟨g352, h353⟩ := gd_some h351; clear h351
  refine J_Lsld dL_law_1345 g352 ?_
  obtain ⟨i354_, S355, ei354_, h356⟩ := bnd2_some h353; clear h353
  have ki354_ := t_X5_turn ha1 ei354_
  have qS355 : mKd S355 a1 = 6 := kd_le ki354_.1 ha1
  refine J_LC (As := [.int (xs (Int32.toNatClampNeg (i3 + (1 : Int32)))), .int (xs (Int32.toNatClampNeg (i3 + (2 : Int32))))]) (rest := []) (st' := [.int i354_]) ki354_ gC_X5_turn gM_L_129 (mRecv ha1 (by decide) jCl5) rfl (by decide) (by decide) rfl rfl (Nat.le_of_ble_eq_true rfl) dL_law_1346 ?_
  refine J_aload_n 2 dL_law_1349 rfl rfl ?_
  refine J_aload_n 0 dL_law_1350 rfl rfl ?_
  refine J_iload_n 3 dL_law_1351 rfl rfl ?_
  refine J_iconst (1 : Int32) dL_law_1352 (by decide) ?_
  refine J_iadd dL_law_1353 ?_
  refine J_Lsld dL_law_1354 g350 ?_
  refine J_aload_n 0 dL_law_1355 rfl rfl ?_
  refine J_iload_n 3 dL_law_1356 rfl rfl ?_
  refine J_iconst (2 : Int32) dL_law_1357 (by decide) ?_
  refine J_iadd dL_law_1358 ?_
  refine J_Lsld dL_law_1359 g352 ?_
  obtain ⟨i357_, M358, ei357_, h359⟩ := bnd2_some h356; clear h356
  have ki357_ := t_X6_turn ha2 ei357_
  have qM358 : a2 = M358.1 := ha2.trans (nle_eq ki357_.1).symm
  refine J_LM (As := [.int (xs (Int32.toNatClampNeg (i3 + (1 : Int32)))), .int (xs (Int32.toNatClampNeg (i3 + (2 : Int32))))]) (rest := [.int i354_]) (st' := [.int i357_, .int i354_]) ki357_ gC_X6_turn gM_L_132 (by rw [ha2]; exact nRecv) rfl (by decide) (by decide) rfl rfl (Nat.le_of_ble_eq_true rfl) dL_law_1360 ?_
  refine J_icmp_eq 1780 dL_law_1363 (by decide) h359 (fun c360 h361 => ?_) (fun c360 h361 => ?_)
  · clear h359
    refine J_iinc 3 (6 : Int32) dL_law_1780 rfl (by decide) (by decide) [1, 2, 3, 0] (lv' := [(0, .ref b), (1, .ref a1), (2, .ref a2), (3, .int (i3 + (6 : Int32)))]) rfl ?_
    refine J_goto 18 dL_law_1783 (by decide) ?_
    exact lh S355 M358 (i3 + (6 : Int32)) qS355 qM358 h361
  · clear h359
    refine J_iconst (0 : Int32) dL_law_1366 (by decide) ?_
    have hw := Option.some.inj h361; subst hw
    exact J_zret rfl (by decide) dL_law_1367
def l_case27 (a1 L : Nat) (xs : Nat → Int32) (K : Mem → MS → Int32 → Option (Int32 × Mem × MS)) (S : Mem) (M : MS) (i3 : Int32) : Option (Int32 × Mem × MS) :=
  gd (inB (i3 + (1 : Int32)) L) <|
  gd (inB (i3 + (2 : Int32)) L) <|
  bnd2 (c_X5_part S a1 (xs (Int32.toNatClampNeg (i3 + (1 : Int32)))) (xs (Int32.toNatClampNeg (i3 + (2 : Int32))))) fun j367_ S368 =>
  bnd2 (m_X6_part M (xs (Int32.toNatClampNeg (i3 + (1 : Int32)))) (xs (Int32.toNatClampNeg (i3 + (2 : Int32))))) fun j370_ M371 =>
  if j367_ = j370_ then
    (K S368 M371 (i3 + (6 : Int32)))
  else
    (some ((0 : Int32), S368, M371))
set_option maxRecDepth 100000 in
set_option maxHeartbeats 4000000 in
theorem t_case27 {nm : String} {a1 a2 b L : Nat} {xs : Nat → Int32} {K : Mem → MS → Int32 → Option (Int32 × Mem × MS)} {S : Mem} {M : MS} {i3 : Int32} {w : Int32 × Mem × MS} (ha1 : mKd S a1 = 6) (ha2 : a2 = M.1) (lh : ∀ (S : Mem) (M : MS) (i3 : Int32), mKd S a1 = 6 → a2 = M.1 → K S M i3 = some w → J LX (yl nm) cL_law 4 (some .boolean) 40 1500 18 [(0, .ref b), (1, .ref a1), (2, .ref a2), (3, .int i3)] [] (S, some M, b, L, xs) (some (.int w.1)) (w.2.1, some w.2.2, b, L, xs)) (h : l_case27 a1 L xs K S M i3 = some w) : J LX (yl nm) cL_law 4 (some .boolean) 40 1500 1368 [(0, .ref b), (1, .ref a1), (2, .ref a2), (3, .int i3)] [] (S, some M, b, L, xs) (some (.int w.1)) (w.2.1, some w.2.2, b, L, xs) := by
  refine J_aload_n 1 dL_law_1368 rfl rfl ?_
  refine J_aload_n 0 dL_law_1369 rfl rfl ?_
  refine J_iload_n 3 dL_law_1370 rfl rfl ?_
  refine J_iconst (1 : Int32) dL_law_1371 (by decide) ?_
  refine J_iadd dL_law_1372 ?_
  obtain ⟨g363, h364⟩ := gd_some h; clear h
  refine J_Lsld dL_law_1373 g363 ?_
  refine J_aload_n 0 dL_law_1374 rfl rfl ?_
  refine J_iload_n 3 dL_law_1375 rfl rfl ?_
  refine J_iconst (2 : Int32) dL_law_1376 (by decide) ?_
  refine J_iadd dL_law_1377 ?_
  obtain ⟨g365, h366⟩ := gd_some h364; clear h364
  refine J_Lsld dL_law_1378 g365 ?_
  obtain ⟨j367_, S368, ej367_, h369⟩ := bnd2_some h366; clear h366
  have kj367_ := t_X5_part ha1 ej367_
  have qS368 : mKd S368 a1 = 6 := kd_le kj367_.1 ha1
  refine J_LC (As := [.int (xs (Int32.toNatClampNeg (i3 + (1 : Int32)))), .int (xs (Int32.toNatClampNeg (i3 + (2 : Int32))))]) (rest := []) (st' := [.long j367_]) kj367_ gC_X5_part gM_L_133 (mRecv ha1 (by decide) jCl5) rfl (by decide) (by decide) rfl rfl (Nat.le_of_ble_eq_true rfl) dL_law_1379 ?_
  refine J_aload_n 2 dL_law_1382 rfl rfl ?_
  refine J_aload_n 0 dL_law_1383 rfl rfl ?_
  refine J_iload_n 3 dL_law_1384 rfl rfl ?_
  refine J_iconst (1 : Int32) dL_law_1385 (by decide) ?_
  refine J_iadd dL_law_1386 ?_
  refine J_Lsld dL_law_1387 g363 ?_
  refine J_aload_n 0 dL_law_1388 rfl rfl ?_
  refine J_iload_n 3 dL_law_1389 rfl rfl ?_
  refine J_iconst (2 : Int32) dL_law_1390 (by decide) ?_
  refine J_iadd dL_law_1391 ?_
  refine J_Lsld dL_law_1392 g365 ?_
  obtain ⟨j370_, M371, ej370_, h372⟩ := bnd2_some h369; clear h369
  have kj370_ := t_X6_part ha2 ej370_
  have qM371 : a2 = M371.1 := ha2.trans (nle_eq kj370_.1).symm
  refine J_LM (As := [.int (xs (Int32.toNatClampNeg (i3 + (1 : Int32)))), .int (xs (Int32.toNatClampNeg (i3 + (2 : Int32))))]) (rest := [.long j367_]) (st' := [.long j370_, .long j367_]) kj370_ gC_X6_part gM_L_137 (by rw [ha2]; exact nRecv) rfl (by decide) (by decide) rfl rfl (Nat.le_of_ble_eq_true rfl) dL_law_1393 ?_
  refine J_lcmp_eq 1780 dL_law_1396 dL_law_1397 (by decide) h372 (fun c373 h374 => ?_) (fun c373 h374 => ?_)
  · clear h372
    refine J_iinc 3 (6 : Int32) dL_law_1780 rfl (by decide) (by decide) [1, 2, 3, 0] (lv' := [(0, .ref b), (1, .ref a1), (2, .ref a2), (3, .int (i3 + (6 : Int32)))]) rfl ?_
    refine J_goto 18 dL_law_1783 (by decide) ?_
    exact lh S368 M371 (i3 + (6 : Int32)) qS368 qM371 h374
  · clear h372
    refine J_iconst (0 : Int32) dL_law_1400 (by decide) ?_
    have hw := Option.some.inj h374; subst hw
    exact J_zret rfl (by decide) dL_law_1401
def l_case28 (a1 L : Nat) (xs : Nat → Int32) (K : Mem → MS → Int32 → Option (Int32 × Mem × MS)) (S : Mem) (M : MS) (i3 : Int32) : Option (Int32 × Mem × MS) :=
  gd (inB (i3 + (1 : Int32)) L) <|
  gd (inB (i3 + (2 : Int32)) L) <|
  bnd2 (c_X5_tally S a1 (xs (Int32.toNatClampNeg (i3 + (1 : Int32)))) (xs (Int32.toNatClampNeg (i3 + (2 : Int32))))) fun i380_ S381 =>
  bnd2 (m_X6_tally M (xs (Int32.toNatClampNeg (i3 + (1 : Int32)))) (xs (Int32.toNatClampNeg (i3 + (2 : Int32))))) fun i383_ M384 =>
  if i380_ = i383_ then
    (K S381 M384 (i3 + (6 : Int32)))
  else
    (some ((0 : Int32), S381, M384))
set_option maxRecDepth 100000 in
set_option maxHeartbeats 4000000 in
theorem t_case28 {nm : String} {a1 a2 b L : Nat} {xs : Nat → Int32} {K : Mem → MS → Int32 → Option (Int32 × Mem × MS)} {S : Mem} {M : MS} {i3 : Int32} {w : Int32 × Mem × MS} (ha1 : mKd S a1 = 6) (ha2 : a2 = M.1) (lh : ∀ (S : Mem) (M : MS) (i3 : Int32), mKd S a1 = 6 → a2 = M.1 → K S M i3 = some w → J LX (yl nm) cL_law 4 (some .boolean) 40 1500 18 [(0, .ref b), (1, .ref a1), (2, .ref a2), (3, .int i3)] [] (S, some M, b, L, xs) (some (.int w.1)) (w.2.1, some w.2.2, b, L, xs)) (h : l_case28 a1 L xs K S M i3 = some w) : J LX (yl nm) cL_law 4 (some .boolean) 40 1500 1402 [(0, .ref b), (1, .ref a1), (2, .ref a2), (3, .int i3)] [] (S, some M, b, L, xs) (some (.int w.1)) (w.2.1, some w.2.2, b, L, xs) := by
  refine J_aload_n 1 dL_law_1402 rfl rfl ?_
  refine J_aload_n 0 dL_law_1403 rfl rfl ?_
  refine J_iload_n 3 dL_law_1404 rfl rfl ?_
  refine J_iconst (1 : Int32) dL_law_1405 (by decide) ?_
  refine J_iadd dL_law_1406 ?_
  obtain ⟨g376, h377⟩ := gd_some h; clear h
  refine J_Lsld dL_law_1407 g376 ?_
  refine J_aload_n 0 dL_law_1408 rfl rfl ?_
  refine J_iload_n 3 dL_law_1409 rfl rfl ?_
  refine J_iconst (2 : Int32) dL_law_1410 (by decide) ?_
  refine J_iadd dL_law_1411 ?_
  obtain ⟨g378, h379⟩ := gd_some h377; clear h377
  refine J_Lsld dL_law_1412 g378 ?_
  obtain ⟨i380_, S381, ei380_, h382⟩ := bnd2_some h379; clear h379
  have ki380_ := t_X5_tally ha1 ei380_
  have qS381 : mKd S381 a1 = 6 := kd_le ki380_.1 ha1
  refine J_LC (As := [.int (xs (Int32.toNatClampNeg (i3 + (1 : Int32)))), .int (xs (Int32.toNatClampNeg (i3 + (2 : Int32))))]) (rest := []) (st' := [.int i380_]) ki380_ gC_X5_tally gM_L_138 (mRecv ha1 (by decide) jCl5) rfl (by decide) (by decide) rfl rfl (Nat.le_of_ble_eq_true rfl) dL_law_1413 ?_
  refine J_aload_n 2 dL_law_1416 rfl rfl ?_
  refine J_aload_n 0 dL_law_1417 rfl rfl ?_
  refine J_iload_n 3 dL_law_1418 rfl rfl ?_
  refine J_iconst (1 : Int32) dL_law_1419 (by decide) ?_
  refine J_iadd dL_law_1420 ?_
  refine J_Lsld dL_law_1421 g376 ?_
  refine J_aload_n 0 dL_law_1422 rfl rfl ?_
  refine J_iload_n 3 dL_law_1423 rfl rfl ?_
  refine J_iconst (2 : Int32) dL_law_1424 (by decide) ?_
  refine J_iadd dL_law_1425 ?_
  refine J_Lsld dL_law_1426 g378 ?_
  obtain ⟨i383_, M384, ei383_, h385⟩ := bnd2_some h382; clear h382
  have ki383_ := t_X6_tally ha2 ei383_
  have qM384 : a2 = M384.1 := ha2.trans (nle_eq ki383_.1).symm
  refine J_LM (As := [.int (xs (Int32.toNatClampNeg (i3 + (1 : Int32)))), .int (xs (Int32.toNatClampNeg (i3 + (2 : Int32))))]) (rest := [.int i380_]) (st' := [.int i383_, .int i380_]) ki383_ gC_X6_tally gM_L_141 (by rw [ha2]; exact nRecv) rfl (by decide) (by decide) rfl rfl (Nat.le_of_ble_eq_true rfl) dL_law_1427 ?_
  refine J_icmp_eq 1780 dL_law_1430 (by decide) h385 (fun c386 h387 => ?_) (fun c386 h387 => ?_)
  · clear h385
    refine J_iinc 3 (6 : Int32) dL_law_1780 rfl (by decide) (by decide) [1, 2, 3, 0] (lv' := [(0, .ref b), (1, .ref a1), (2, .ref a2), (3, .int (i3 + (6 : Int32)))]) rfl ?_
    refine J_goto 18 dL_law_1783 (by decide) ?_
    exact lh S381 M384 (i3 + (6 : Int32)) qS381 qM384 h387
  · clear h385
    refine J_iconst (0 : Int32) dL_law_1433 (by decide) ?_
    have hw := Option.some.inj h387; subst hw
    exact J_zret rfl (by decide) dL_law_1434
def l_case29 (a1 L : Nat) (xs : Nat → Int32) (K : Mem → MS → Int32 → Option (Int32 × Mem × MS)) (S : Mem) (M : MS) (i3 : Int32) : Option (Int32 × Mem × MS) :=
  bnd (c_X5_steps S a1) fun i389_ =>
  bnd (m_X6_steps M) fun i391_ =>
  if i389_ = i391_ then
    (K S M (i3 + (6 : Int32)))
  else
    (some ((0 : Int32), S, M))
set_option maxRecDepth 100000 in
set_option maxHeartbeats 4000000 in
theorem t_case29 {nm : String} {a1 a2 b L : Nat} {xs : Nat → Int32} {K : Mem → MS → Int32 → Option (Int32 × Mem × MS)} {S : Mem} {M : MS} {i3 : Int32} {w : Int32 × Mem × MS} (ha1 : mKd S a1 = 6) (ha2 : a2 = M.1) (lh : ∀ (S : Mem) (M : MS) (i3 : Int32), mKd S a1 = 6 → a2 = M.1 → K S M i3 = some w → J LX (yl nm) cL_law 4 (some .boolean) 40 1500 18 [(0, .ref b), (1, .ref a1), (2, .ref a2), (3, .int i3)] [] (S, some M, b, L, xs) (some (.int w.1)) (w.2.1, some w.2.2, b, L, xs)) (h : l_case29 a1 L xs K S M i3 = some w) : J LX (yl nm) cL_law 4 (some .boolean) 40 1500 1435 [(0, .ref b), (1, .ref a1), (2, .ref a2), (3, .int i3)] [] (S, some M, b, L, xs) (some (.int w.1)) (w.2.1, some w.2.2, b, L, xs) := by
  refine J_aload_n 1 dL_law_1435 rfl rfl ?_
  obtain ⟨i389_, ei389_, h390⟩ := bnd_some h; clear h
  have ki389_ := t_X5_steps ha1 ei389_
  refine J_LC (As := []) (rest := []) (st' := [.int i389_]) ki389_ gC_X5_steps gM_L_142 (mRecv ha1 (by decide) jCl5) rfl (by decide) (by decide) rfl rfl (Nat.le_of_ble_eq_true rfl) dL_law_1436 ?_
  refine J_aload_n 2 dL_law_1439 rfl rfl ?_
  obtain ⟨i391_, ei391_, h392⟩ := bnd_some h390; clear h390
  have ki391_ := t_X6_steps ha2 ei391_
  refine J_LM (As := []) (rest := [.int i389_]) (st' := [.int i391_, .int i389_]) ki391_ gC_X6_steps gM_L_145 (by rw [ha2]; exact nRecv) rfl (by decide) (by decide) rfl rfl (Nat.le_of_ble_eq_true rfl) dL_law_1440 ?_
  refine J_icmp_eq 1780 dL_law_1443 (by decide) h392 (fun c393 h394 => ?_) (fun c393 h394 => ?_)
  · clear h392
    refine J_iinc 3 (6 : Int32) dL_law_1780 rfl (by decide) (by decide) [1, 2, 3, 0] (lv' := [(0, .ref b), (1, .ref a1), (2, .ref a2), (3, .int (i3 + (6 : Int32)))]) rfl ?_
    refine J_goto 18 dL_law_1783 (by decide) ?_
    exact lh S M (i3 + (6 : Int32)) ha1 ha2 h394
  · clear h392
    refine J_iconst (0 : Int32) dL_law_1446 (by decide) ?_
    have hw := Option.some.inj h394; subst hw
    exact J_zret rfl (by decide) dL_law_1447
def l_case30 (a1 L : Nat) (xs : Nat → Int32) (K : Mem → MS → Int32 → Option (Int32 × Mem × MS)) (S : Mem) (M : MS) (i3 : Int32) : Option (Int32 × Mem × MS) :=
  gd (inB (i3 + (1 : Int32)) L) <|
  gd (inB (i3 + (2 : Int32)) L) <|
  bnd (c_X5_step S a1 (xs (Int32.toNatClampNeg (i3 + (1 : Int32)))) (xs (Int32.toNatClampNeg (i3 + (2 : Int32))))) fun i400_ =>
  bnd (m_X6_step M (xs (Int32.toNatClampNeg (i3 + (1 : Int32)))) (xs (Int32.toNatClampNeg (i3 + (2 : Int32))))) fun i402_ =>
  if i400_ = i402_ then
    (K S M (i3 + (6 : Int32)))
  else
    (some ((0 : Int32), S, M))
set_option maxRecDepth 100000 in
set_option maxHeartbeats 4000000 in
theorem t_case30 {nm : String} {a1 a2 b L : Nat} {xs : Nat → Int32} {K : Mem → MS → Int32 → Option (Int32 × Mem × MS)} {S : Mem} {M : MS} {i3 : Int32} {w : Int32 × Mem × MS} (ha1 : mKd S a1 = 6) (ha2 : a2 = M.1) (lh : ∀ (S : Mem) (M : MS) (i3 : Int32), mKd S a1 = 6 → a2 = M.1 → K S M i3 = some w → J LX (yl nm) cL_law 4 (some .boolean) 40 1500 18 [(0, .ref b), (1, .ref a1), (2, .ref a2), (3, .int i3)] [] (S, some M, b, L, xs) (some (.int w.1)) (w.2.1, some w.2.2, b, L, xs)) (h : l_case30 a1 L xs K S M i3 = some w) : J LX (yl nm) cL_law 4 (some .boolean) 40 1500 1448 [(0, .ref b), (1, .ref a1), (2, .ref a2), (3, .int i3)] [] (S, some M, b, L, xs) (some (.int w.1)) (w.2.1, some w.2.2, b, L, xs) := by
  refine J_aload_n 1 dL_law_1448 rfl rfl ?_
  refine J_aload_n 0 dL_law_1449 rfl rfl ?_
  refine J_iload_n 3 dL_law_1450 rfl rfl ?_
  refine J_iconst (1 : Int32) dL_law_1451 (by decide) ?_
  refine J_iadd dL_law_1452 ?_
  obtain ⟨g396, h397⟩ := gd_some h; clear h
  refine J_Lsld dL_law_1453 g396 ?_
  refine J_aload_n 0 dL_law_1454 rfl rfl ?_
  refine J_iload_n 3 dL_law_1455 rfl rfl ?_
  refine J_iconst (2 : Int32) dL_law_1456 (by decide) ?_
  refine J_iadd dL_law_1457 ?_
  obtain ⟨g398, h399⟩ := gd_some h397; clear h397
  refine J_Lsld dL_law_1458 g398 ?_
  obtain ⟨i400_, ei400_, h401⟩ := bnd_some h399; clear h399
  have ki400_ := t_X5_step ha1 ei400_
  refine J_LC (As := [.int (xs (Int32.toNatClampNeg (i3 + (1 : Int32)))), .int (xs (Int32.toNatClampNeg (i3 + (2 : Int32))))]) (rest := []) (st' := [.int i400_]) ki400_ gC_X5_step gM_L_146 (mRecv ha1 (by decide) jCl5) rfl (by decide) (by decide) rfl rfl (Nat.le_of_ble_eq_true rfl) dL_law_1459 ?_
  refine J_aload_n 2 dL_law_1462 rfl rfl ?_
  refine J_aload_n 0 dL_law_1463 rfl rfl ?_
  refine J_iload_n 3 dL_law_1464 rfl rfl ?_
  refine J_iconst (1 : Int32) dL_law_1465 (by decide) ?_
  refine J_iadd dL_law_1466 ?_
  refine J_Lsld dL_law_1467 g396 ?_
  refine J_aload_n 0 dL_law_1468 rfl rfl ?_
  refine J_iload_n 3 dL_law_1469 rfl rfl ?_
  refine J_iconst (2 : Int32) dL_law_1470 (by decide) ?_
  refine J_iadd dL_law_1471 ?_
  refine J_Lsld dL_law_1472 g398 ?_
  obtain ⟨i402_, ei402_, h403⟩ := bnd_some h401; clear h401
  have ki402_ := t_X6_step ha2 ei402_
  refine J_LM (As := [.int (xs (Int32.toNatClampNeg (i3 + (1 : Int32)))), .int (xs (Int32.toNatClampNeg (i3 + (2 : Int32))))]) (rest := [.int i400_]) (st' := [.int i402_, .int i400_]) ki402_ gC_X6_step gM_L_149 (by rw [ha2]; exact nRecv) rfl (by decide) (by decide) rfl rfl (Nat.le_of_ble_eq_true rfl) dL_law_1473 ?_
  refine J_icmp_eq 1780 dL_law_1476 (by decide) h403 (fun c404 h405 => ?_) (fun c404 h405 => ?_)
  · clear h403
    refine J_iinc 3 (6 : Int32) dL_law_1780 rfl (by decide) (by decide) [1, 2, 3, 0] (lv' := [(0, .ref b), (1, .ref a1), (2, .ref a2), (3, .int (i3 + (6 : Int32)))]) rfl ?_
    refine J_goto 18 dL_law_1783 (by decide) ?_
    exact lh S M (i3 + (6 : Int32)) ha1 ha2 h405
  · clear h403
    refine J_iconst (0 : Int32) dL_law_1479 (by decide) ?_
    have hw := Option.some.inj h405; subst hw
    exact J_zret rfl (by decide) dL_law_1480
def l_case31 (a1 L : Nat) (xs : Nat → Int32) (K : Mem → MS → Int32 → Option (Int32 × Mem × MS)) (S : Mem) (M : MS) (i3 : Int32) : Option (Int32 × Mem × MS) :=
  gd (inB (i3 + (1 : Int32)) L) <|
  bnd (c_X5_stuck S a1 (xs (Int32.toNatClampNeg (i3 + (1 : Int32))))) fun i409_ =>
  bnd (m_X6_stuck M (xs (Int32.toNatClampNeg (i3 + (1 : Int32))))) fun i411_ =>
  if i409_ = i411_ then
    (K S M (i3 + (6 : Int32)))
  else
    (some ((0 : Int32), S, M))
set_option maxRecDepth 100000 in
set_option maxHeartbeats 4000000 in
theorem t_case31 {nm : String} {a1 a2 b L : Nat} {xs : Nat → Int32} {K : Mem → MS → Int32 → Option (Int32 × Mem × MS)} {S : Mem} {M : MS} {i3 : Int32} {w : Int32 × Mem × MS} (ha1 : mKd S a1 = 6) (ha2 : a2 = M.1) (lh : ∀ (S : Mem) (M : MS) (i3 : Int32), mKd S a1 = 6 → a2 = M.1 → K S M i3 = some w → J LX (yl nm) cL_law 4 (some .boolean) 40 1500 18 [(0, .ref b), (1, .ref a1), (2, .ref a2), (3, .int i3)] [] (S, some M, b, L, xs) (some (.int w.1)) (w.2.1, some w.2.2, b, L, xs)) (h : l_case31 a1 L xs K S M i3 = some w) : J LX (yl nm) cL_law 4 (some .boolean) 40 1500 1481 [(0, .ref b), (1, .ref a1), (2, .ref a2), (3, .int i3)] [] (S, some M, b, L, xs) (some (.int w.1)) (w.2.1, some w.2.2, b, L, xs) := by
  refine J_aload_n 1 dL_law_1481 rfl rfl ?_
  refine J_aload_n 0 dL_law_1482 rfl rfl ?_
  refine J_iload_n 3 dL_law_1483 rfl rfl ?_
  refine J_iconst (1 : Int32) dL_law_1484 (by decide) ?_
  refine J_iadd dL_law_1485 ?_
  obtain ⟨g407, h408⟩ := gd_some h; clear h
  refine J_Lsld dL_law_1486 g407 ?_
  obtain ⟨i409_, ei409_, h410⟩ := bnd_some h408; clear h408
  have ki409_ := t_X5_stuck ha1 ei409_
  refine J_LC (As := [.int (xs (Int32.toNatClampNeg (i3 + (1 : Int32))))]) (rest := []) (st' := [.int i409_]) ki409_ gC_X5_stuck gM_L_150 (mRecv ha1 (by decide) jCl5) rfl (by decide) (by decide) rfl rfl (Nat.le_of_ble_eq_true rfl) dL_law_1487 ?_
  refine J_aload_n 2 dL_law_1490 rfl rfl ?_
  refine J_aload_n 0 dL_law_1491 rfl rfl ?_
  refine J_iload_n 3 dL_law_1492 rfl rfl ?_
  refine J_iconst (1 : Int32) dL_law_1493 (by decide) ?_
  refine J_iadd dL_law_1494 ?_
  refine J_Lsld dL_law_1495 g407 ?_
  obtain ⟨i411_, ei411_, h412⟩ := bnd_some h410; clear h410
  have ki411_ := t_X6_stuck ha2 ei411_
  refine J_LM (As := [.int (xs (Int32.toNatClampNeg (i3 + (1 : Int32))))]) (rest := [.int i409_]) (st' := [.int i411_, .int i409_]) ki411_ gC_X6_stuck gM_L_153 (by rw [ha2]; exact nRecv) rfl (by decide) (by decide) rfl rfl (Nat.le_of_ble_eq_true rfl) dL_law_1496 ?_
  refine J_icmp_eq 1780 dL_law_1499 (by decide) h412 (fun c413 h414 => ?_) (fun c413 h414 => ?_)
  · clear h412
    refine J_iinc 3 (6 : Int32) dL_law_1780 rfl (by decide) (by decide) [1, 2, 3, 0] (lv' := [(0, .ref b), (1, .ref a1), (2, .ref a2), (3, .int (i3 + (6 : Int32)))]) rfl ?_
    refine J_goto 18 dL_law_1783 (by decide) ?_
    exact lh S M (i3 + (6 : Int32)) ha1 ha2 h414
  · clear h412
    refine J_iconst (0 : Int32) dL_law_1502 (by decide) ?_
    have hw := Option.some.inj h414; subst hw
    exact J_zret rfl (by decide) dL_law_1503
def l_case32 (a1 L : Nat) (xs : Nat → Int32) (K : Mem → MS → Int32 → Option (Int32 × Mem × MS)) (S : Mem) (M : MS) (i3 : Int32) : Option (Int32 × Mem × MS) :=
  bnd2 (c_X5_undo S a1) fun i416_ S417 =>
  bnd2 (m_X6_undo M) fun i419_ M420 =>
  if i416_ = i419_ then
    (K S417 M420 (i3 + (6 : Int32)))
  else
    (some ((0 : Int32), S417, M420))
set_option maxRecDepth 100000 in
set_option maxHeartbeats 4000000 in
theorem t_case32 {nm : String} {a1 a2 b L : Nat} {xs : Nat → Int32} {K : Mem → MS → Int32 → Option (Int32 × Mem × MS)} {S : Mem} {M : MS} {i3 : Int32} {w : Int32 × Mem × MS} (ha1 : mKd S a1 = 6) (ha2 : a2 = M.1) (lh : ∀ (S : Mem) (M : MS) (i3 : Int32), mKd S a1 = 6 → a2 = M.1 → K S M i3 = some w → J LX (yl nm) cL_law 4 (some .boolean) 40 1500 18 [(0, .ref b), (1, .ref a1), (2, .ref a2), (3, .int i3)] [] (S, some M, b, L, xs) (some (.int w.1)) (w.2.1, some w.2.2, b, L, xs)) (h : l_case32 a1 L xs K S M i3 = some w) : J LX (yl nm) cL_law 4 (some .boolean) 40 1500 1504 [(0, .ref b), (1, .ref a1), (2, .ref a2), (3, .int i3)] [] (S, some M, b, L, xs) (some (.int w.1)) (w.2.1, some w.2.2, b, L, xs) := by
  refine J_aload_n 1 dL_law_1504 rfl rfl ?_
  obtain ⟨i416_, S417, ei416_, h418⟩ := bnd2_some h; clear h
  have ki416_ := t_X5_undo ha1 ei416_
  have qS417 : mKd S417 a1 = 6 := kd_le ki416_.1 ha1
  refine J_LC (As := []) (rest := []) (st' := [.int i416_]) ki416_ gC_X5_undo gM_L_154 (mRecv ha1 (by decide) jCl5) rfl (by decide) (by decide) rfl rfl (Nat.le_of_ble_eq_true rfl) dL_law_1505 ?_
  refine J_aload_n 2 dL_law_1508 rfl rfl ?_
  obtain ⟨i419_, M420, ei419_, h421⟩ := bnd2_some h418; clear h418
  have ki419_ := t_X6_undo ha2 ei419_
  have qM420 : a2 = M420.1 := ha2.trans (nle_eq ki419_.1).symm
  refine J_LM (As := []) (rest := [.int i416_]) (st' := [.int i419_, .int i416_]) ki419_ gC_X6_undo gM_L_157 (by rw [ha2]; exact nRecv) rfl (by decide) (by decide) rfl rfl (Nat.le_of_ble_eq_true rfl) dL_law_1509 ?_
  refine J_icmp_eq 1780 dL_law_1512 (by decide) h421 (fun c422 h423 => ?_) (fun c422 h423 => ?_)
  · clear h421
    refine J_iinc 3 (6 : Int32) dL_law_1780 rfl (by decide) (by decide) [1, 2, 3, 0] (lv' := [(0, .ref b), (1, .ref a1), (2, .ref a2), (3, .int (i3 + (6 : Int32)))]) rfl ?_
    refine J_goto 18 dL_law_1783 (by decide) ?_
    exact lh S417 M420 (i3 + (6 : Int32)) qS417 qM420 h423
  · clear h421
    refine J_iconst (0 : Int32) dL_law_1515 (by decide) ?_
    have hw := Option.some.inj h423; subst hw
    exact J_zret rfl (by decide) dL_law_1516
def l_case33 (a1 L : Nat) (xs : Nat → Int32) (K : Mem → MS → Int32 → Option (Int32 × Mem × MS)) (S : Mem) (M : MS) (i3 : Int32) : Option (Int32 × Mem × MS) :=
  gd (inB (i3 + (1 : Int32)) L) <|
  gd (inB (i3 + (2 : Int32)) L) <|
  gd (inB (i3 + (3 : Int32)) L) <|
  gd (inB (i3 + (4 : Int32)) L) <|
  bnd2 (c_X5_pupil S a1 (xs (Int32.toNatClampNeg (i3 + (1 : Int32)))) (xs (Int32.toNatClampNeg (i3 + (2 : Int32)))) (xs (Int32.toNatClampNeg (i3 + (3 : Int32)))) (xs (Int32.toNatClampNeg (i3 + (4 : Int32))))) fun i433_ S434 =>
  bnd2 (m_X6_pupil M (xs (Int32.toNatClampNeg (i3 + (1 : Int32)))) (xs (Int32.toNatClampNeg (i3 + (2 : Int32)))) (xs (Int32.toNatClampNeg (i3 + (3 : Int32)))) (xs (Int32.toNatClampNeg (i3 + (4 : Int32))))) fun i436_ M437 =>
  if i433_ = i436_ then
    (K S434 M437 (i3 + (6 : Int32)))
  else
    (some ((0 : Int32), S434, M437))
set_option maxRecDepth 100000 in
set_option maxHeartbeats 4000000 in
theorem t_case33 {nm : String} {a1 a2 b L : Nat} {xs : Nat → Int32} {K : Mem → MS → Int32 → Option (Int32 × Mem × MS)} {S : Mem} {M : MS} {i3 : Int32} {w : Int32 × Mem × MS} (ha1 : mKd S a1 = 6) (ha2 : a2 = M.1) (lh : ∀ (S : Mem) (M : MS) (i3 : Int32), mKd S a1 = 6 → a2 = M.1 → K S M i3 = some w → J LX (yl nm) cL_law 4 (some .boolean) 40 1500 18 [(0, .ref b), (1, .ref a1), (2, .ref a2), (3, .int i3)] [] (S, some M, b, L, xs) (some (.int w.1)) (w.2.1, some w.2.2, b, L, xs)) (h : l_case33 a1 L xs K S M i3 = some w) : J LX (yl nm) cL_law 4 (some .boolean) 40 1500 1517 [(0, .ref b), (1, .ref a1), (2, .ref a2), (3, .int i3)] [] (S, some M, b, L, xs) (some (.int w.1)) (w.2.1, some w.2.2, b, L, xs) := by
  refine J_aload_n 1 dL_law_1517 rfl rfl ?_
  refine J_aload_n 0 dL_law_1518 rfl rfl ?_
  refine J_iload_n 3 dL_law_1519 rfl rfl ?_
  refine J_iconst (1 : Int32) dL_law_1520 (by decide) ?_
  refine J_iadd dL_law_1521 ?_
  obtain ⟨g425, h426⟩ := gd_some h; clear h
  refine J_Lsld dL_law_1522 g425 ?_
  refine J_aload_n 0 dL_law_1523 rfl rfl ?_
  refine J_iload_n 3 dL_law_1524 rfl rfl ?_
  refine J_iconst (2 : Int32) dL_law_1525 (by decide) ?_
  refine J_iadd dL_law_1526 ?_
  obtain ⟨g427, h428⟩ := gd_some h426; clear h426
  refine J_Lsld dL_law_1527 g427 ?_
  refine J_aload_n 0 dL_law_1528 rfl rfl ?_
  refine J_iload_n 3 dL_law_1529 rfl rfl ?_
  refine J_iconst (3 : Int32) dL_law_1530 (by decide) ?_
  refine J_iadd dL_law_1531 ?_
  obtain ⟨g429, h430⟩ := gd_some h428; clear h428
  refine J_Lsld dL_law_1532 g429 ?_
  refine J_aload_n 0 dL_law_1533 rfl rfl ?_
  refine J_iload_n 3 dL_law_1534 rfl rfl ?_
  refine J_iconst (4 : Int32) dL_law_1535 (by decide) ?_
  refine J_iadd dL_law_1536 ?_
  obtain ⟨g431, h432⟩ := gd_some h430; clear h430
  refine J_Lsld dL_law_1537 g431 ?_
  obtain ⟨i433_, S434, ei433_, h435⟩ := bnd2_some h432; clear h432
  have ki433_ := t_X5_pupil ha1 ei433_
  have qS434 : mKd S434 a1 = 6 := kd_le ki433_.1 ha1
  refine J_LC (As := [.int (xs (Int32.toNatClampNeg (i3 + (1 : Int32)))), .int (xs (Int32.toNatClampNeg (i3 + (2 : Int32)))), .int (xs (Int32.toNatClampNeg (i3 + (3 : Int32)))), .int (xs (Int32.toNatClampNeg (i3 + (4 : Int32))))]) (rest := []) (st' := [.int i433_]) ki433_ gC_X5_pupil gM_L_158 (mRecv ha1 (by decide) jCl5) rfl (by decide) (by decide) rfl rfl (Nat.le_of_ble_eq_true rfl) dL_law_1538 ?_
  refine J_aload_n 2 dL_law_1541 rfl rfl ?_
  refine J_aload_n 0 dL_law_1542 rfl rfl ?_
  refine J_iload_n 3 dL_law_1543 rfl rfl ?_
  refine J_iconst (1 : Int32) dL_law_1544 (by decide) ?_
  refine J_iadd dL_law_1545 ?_
  refine J_Lsld dL_law_1546 g425 ?_
  refine J_aload_n 0 dL_law_1547 rfl rfl ?_
  refine J_iload_n 3 dL_law_1548 rfl rfl ?_
  refine J_iconst (2 : Int32) dL_law_1549 (by decide) ?_
  refine J_iadd dL_law_1550 ?_
  refine J_Lsld dL_law_1551 g427 ?_
  refine J_aload_n 0 dL_law_1552 rfl rfl ?_
  refine J_iload_n 3 dL_law_1553 rfl rfl ?_
  refine J_iconst (3 : Int32) dL_law_1554 (by decide) ?_
  refine J_iadd dL_law_1555 ?_
  refine J_Lsld dL_law_1556 g429 ?_
  refine J_aload_n 0 dL_law_1557 rfl rfl ?_
  refine J_iload_n 3 dL_law_1558 rfl rfl ?_
  refine J_iconst (4 : Int32) dL_law_1559 (by decide) ?_
  refine J_iadd dL_law_1560 ?_
  refine J_Lsld dL_law_1561 g431 ?_
  obtain ⟨i436_, M437, ei436_, h438⟩ := bnd2_some h435; clear h435
  have ki436_ := t_X6_pupil ha2 ei436_
  have qM437 : a2 = M437.1 := ha2.trans (nle_eq ki436_.1).symm
  refine J_LM (As := [.int (xs (Int32.toNatClampNeg (i3 + (1 : Int32)))), .int (xs (Int32.toNatClampNeg (i3 + (2 : Int32)))), .int (xs (Int32.toNatClampNeg (i3 + (3 : Int32)))), .int (xs (Int32.toNatClampNeg (i3 + (4 : Int32))))]) (rest := [.int i433_]) (st' := [.int i436_, .int i433_]) ki436_ gC_X6_pupil gM_L_161 (by rw [ha2]; exact nRecv) rfl (by decide) (by decide) rfl rfl (Nat.le_of_ble_eq_true rfl) dL_law_1562 ?_
  refine J_icmp_eq 1780 dL_law_1565 (by decide) h438 (fun c439 h440 => ?_) (fun c439 h440 => ?_)
  · clear h438
    refine J_iinc 3 (6 : Int32) dL_law_1780 rfl (by decide) (by decide) [1, 2, 3, 0] (lv' := [(0, .ref b), (1, .ref a1), (2, .ref a2), (3, .int (i3 + (6 : Int32)))]) rfl ?_
    refine J_goto 18 dL_law_1783 (by decide) ?_
    exact lh S434 M437 (i3 + (6 : Int32)) qS434 qM437 h440
  · clear h438
    refine J_iconst (0 : Int32) dL_law_1568 (by decide) ?_
    have hw := Option.some.inj h440; subst hw
    exact J_zret rfl (by decide) dL_law_1569
def l_case34 (a1 L : Nat) (xs : Nat → Int32) (K : Mem → MS → Int32 → Option (Int32 × Mem × MS)) (S : Mem) (M : MS) (i3 : Int32) : Option (Int32 × Mem × MS) :=
  bnd2 (c_X5_begin S a1) fun i442_ S443 =>
  bnd2 (m_X6_begin M) fun i445_ M446 =>
  if i442_ = i445_ then
    (K S443 M446 (i3 + (6 : Int32)))
  else
    (some ((0 : Int32), S443, M446))
set_option maxRecDepth 100000 in
set_option maxHeartbeats 4000000 in
theorem t_case34 {nm : String} {a1 a2 b L : Nat} {xs : Nat → Int32} {K : Mem → MS → Int32 → Option (Int32 × Mem × MS)} {S : Mem} {M : MS} {i3 : Int32} {w : Int32 × Mem × MS} (ha1 : mKd S a1 = 6) (ha2 : a2 = M.1) (lh : ∀ (S : Mem) (M : MS) (i3 : Int32), mKd S a1 = 6 → a2 = M.1 → K S M i3 = some w → J LX (yl nm) cL_law 4 (some .boolean) 40 1500 18 [(0, .ref b), (1, .ref a1), (2, .ref a2), (3, .int i3)] [] (S, some M, b, L, xs) (some (.int w.1)) (w.2.1, some w.2.2, b, L, xs)) (h : l_case34 a1 L xs K S M i3 = some w) : J LX (yl nm) cL_law 4 (some .boolean) 40 1500 1570 [(0, .ref b), (1, .ref a1), (2, .ref a2), (3, .int i3)] [] (S, some M, b, L, xs) (some (.int w.1)) (w.2.1, some w.2.2, b, L, xs) := by
  refine J_aload_n 1 dL_law_1570 rfl rfl ?_
  obtain ⟨i442_, S443, ei442_, h444⟩ := bnd2_some h; clear h
  have ki442_ := t_X5_begin ha1 ei442_
  have qS443 : mKd S443 a1 = 6 := kd_le ki442_.1 ha1
  refine J_LC (As := []) (rest := []) (st' := [.int i442_]) ki442_ gC_X5_begin gM_L_162 (mRecv ha1 (by decide) jCl5) rfl (by decide) (by decide) rfl rfl (Nat.le_of_ble_eq_true rfl) dL_law_1571 ?_
  refine J_aload_n 2 dL_law_1574 rfl rfl ?_
  obtain ⟨i445_, M446, ei445_, h447⟩ := bnd2_some h444; clear h444
  have ki445_ := t_X6_begin ha2 ei445_
  have qM446 : a2 = M446.1 := ha2.trans (nle_eq ki445_.1).symm
  refine J_LM (As := []) (rest := [.int i442_]) (st' := [.int i445_, .int i442_]) ki445_ gC_X6_begin gM_L_165 (by rw [ha2]; exact nRecv) rfl (by decide) (by decide) rfl rfl (Nat.le_of_ble_eq_true rfl) dL_law_1575 ?_
  refine J_icmp_eq 1780 dL_law_1578 (by decide) h447 (fun c448 h449 => ?_) (fun c448 h449 => ?_)
  · clear h447
    refine J_iinc 3 (6 : Int32) dL_law_1780 rfl (by decide) (by decide) [1, 2, 3, 0] (lv' := [(0, .ref b), (1, .ref a1), (2, .ref a2), (3, .int (i3 + (6 : Int32)))]) rfl ?_
    refine J_goto 18 dL_law_1783 (by decide) ?_
    exact lh S443 M446 (i3 + (6 : Int32)) qS443 qM446 h449
  · clear h447
    refine J_iconst (0 : Int32) dL_law_1581 (by decide) ?_
    have hw := Option.some.inj h449; subst hw
    exact J_zret rfl (by decide) dL_law_1582
def l_case35 (a1 L : Nat) (xs : Nat → Int32) (K : Mem → MS → Int32 → Option (Int32 × Mem × MS)) (S : Mem) (M : MS) (i3 : Int32) : Option (Int32 × Mem × MS) :=
  bnd (c_X5_slip S a1) fun i451_ =>
  bnd (m_X6_slip M) fun i453_ =>
  if i451_ = i453_ then
    (K S M (i3 + (6 : Int32)))
  else
    (some ((0 : Int32), S, M))
set_option maxRecDepth 100000 in
set_option maxHeartbeats 4000000 in
theorem t_case35 {nm : String} {a1 a2 b L : Nat} {xs : Nat → Int32} {K : Mem → MS → Int32 → Option (Int32 × Mem × MS)} {S : Mem} {M : MS} {i3 : Int32} {w : Int32 × Mem × MS} (ha1 : mKd S a1 = 6) (ha2 : a2 = M.1) (lh : ∀ (S : Mem) (M : MS) (i3 : Int32), mKd S a1 = 6 → a2 = M.1 → K S M i3 = some w → J LX (yl nm) cL_law 4 (some .boolean) 40 1500 18 [(0, .ref b), (1, .ref a1), (2, .ref a2), (3, .int i3)] [] (S, some M, b, L, xs) (some (.int w.1)) (w.2.1, some w.2.2, b, L, xs)) (h : l_case35 a1 L xs K S M i3 = some w) : J LX (yl nm) cL_law 4 (some .boolean) 40 1500 1583 [(0, .ref b), (1, .ref a1), (2, .ref a2), (3, .int i3)] [] (S, some M, b, L, xs) (some (.int w.1)) (w.2.1, some w.2.2, b, L, xs) := by
  refine J_aload_n 1 dL_law_1583 rfl rfl ?_
  obtain ⟨i451_, ei451_, h452⟩ := bnd_some h; clear h
  have ki451_ := t_X5_slip ha1 ei451_
  refine J_LC (As := []) (rest := []) (st' := [.int i451_]) ki451_ gC_X5_slip gM_L_166 (mRecv ha1 (by decide) jCl5) rfl (by decide) (by decide) rfl rfl (Nat.le_of_ble_eq_true rfl) dL_law_1584 ?_
  refine J_aload_n 2 dL_law_1587 rfl rfl ?_
  obtain ⟨i453_, ei453_, h454⟩ := bnd_some h452; clear h452
  have ki453_ := t_X6_slip ha2 ei453_
  refine J_LM (As := []) (rest := [.int i451_]) (st' := [.int i453_, .int i451_]) ki453_ gC_X6_slip gM_L_169 (by rw [ha2]; exact nRecv) rfl (by decide) (by decide) rfl rfl (Nat.le_of_ble_eq_true rfl) dL_law_1588 ?_
  refine J_icmp_eq 1780 dL_law_1591 (by decide) h454 (fun c455 h456 => ?_) (fun c455 h456 => ?_)
  · clear h454
    refine J_iinc 3 (6 : Int32) dL_law_1780 rfl (by decide) (by decide) [1, 2, 3, 0] (lv' := [(0, .ref b), (1, .ref a1), (2, .ref a2), (3, .int (i3 + (6 : Int32)))]) rfl ?_
    refine J_goto 18 dL_law_1783 (by decide) ?_
    exact lh S M (i3 + (6 : Int32)) ha1 ha2 h456
  · clear h454
    refine J_iconst (0 : Int32) dL_law_1594 (by decide) ?_
    have hw := Option.some.inj h456; subst hw
    exact J_zret rfl (by decide) dL_law_1595
def l_case36 (a1 L : Nat) (xs : Nat → Int32) (K : Mem → MS → Int32 → Option (Int32 × Mem × MS)) (S : Mem) (M : MS) (i3 : Int32) : Option (Int32 × Mem × MS) :=
  bnd (c_X5_lapse S a1) fun i458_ =>
  bnd (m_X6_lapse M) fun i460_ =>
  if i458_ = i460_ then
    (K S M (i3 + (6 : Int32)))
  else
    (some ((0 : Int32), S, M))
set_option maxRecDepth 100000 in
set_option maxHeartbeats 4000000 in
theorem t_case36 {nm : String} {a1 a2 b L : Nat} {xs : Nat → Int32} {K : Mem → MS → Int32 → Option (Int32 × Mem × MS)} {S : Mem} {M : MS} {i3 : Int32} {w : Int32 × Mem × MS} (ha1 : mKd S a1 = 6) (ha2 : a2 = M.1) (lh : ∀ (S : Mem) (M : MS) (i3 : Int32), mKd S a1 = 6 → a2 = M.1 → K S M i3 = some w → J LX (yl nm) cL_law 4 (some .boolean) 40 1500 18 [(0, .ref b), (1, .ref a1), (2, .ref a2), (3, .int i3)] [] (S, some M, b, L, xs) (some (.int w.1)) (w.2.1, some w.2.2, b, L, xs)) (h : l_case36 a1 L xs K S M i3 = some w) : J LX (yl nm) cL_law 4 (some .boolean) 40 1500 1596 [(0, .ref b), (1, .ref a1), (2, .ref a2), (3, .int i3)] [] (S, some M, b, L, xs) (some (.int w.1)) (w.2.1, some w.2.2, b, L, xs) := by
  refine J_aload_n 1 dL_law_1596 rfl rfl ?_
  obtain ⟨i458_, ei458_, h459⟩ := bnd_some h; clear h
  have ki458_ := t_X5_lapse ha1 ei458_
  refine J_LC (As := []) (rest := []) (st' := [.int i458_]) ki458_ gC_X5_lapse gM_L_170 (mRecv ha1 (by decide) jCl5) rfl (by decide) (by decide) rfl rfl (Nat.le_of_ble_eq_true rfl) dL_law_1597 ?_
  refine J_aload_n 2 dL_law_1600 rfl rfl ?_
  obtain ⟨i460_, ei460_, h461⟩ := bnd_some h459; clear h459
  have ki460_ := t_X6_lapse ha2 ei460_
  refine J_LM (As := []) (rest := [.int i458_]) (st' := [.int i460_, .int i458_]) ki460_ gC_X6_lapse gM_L_173 (by rw [ha2]; exact nRecv) rfl (by decide) (by decide) rfl rfl (Nat.le_of_ble_eq_true rfl) dL_law_1601 ?_
  refine J_icmp_eq 1780 dL_law_1604 (by decide) h461 (fun c462 h463 => ?_) (fun c462 h463 => ?_)
  · clear h461
    refine J_iinc 3 (6 : Int32) dL_law_1780 rfl (by decide) (by decide) [1, 2, 3, 0] (lv' := [(0, .ref b), (1, .ref a1), (2, .ref a2), (3, .int (i3 + (6 : Int32)))]) rfl ?_
    refine J_goto 18 dL_law_1783 (by decide) ?_
    exact lh S M (i3 + (6 : Int32)) ha1 ha2 h463
  · clear h461
    refine J_iconst (0 : Int32) dL_law_1607 (by decide) ?_
    have hw := Option.some.inj h463; subst hw
    exact J_zret rfl (by decide) dL_law_1608
def l_case37 (a1 L : Nat) (xs : Nat → Int32) (K : Mem → MS → Int32 → Option (Int32 × Mem × MS)) (S : Mem) (M : MS) (i3 : Int32) : Option (Int32 × Mem × MS) :=
  bnd2 (c_X5_fix S a1) fun i465_ S466 =>
  bnd2 (m_X6_fix M) fun i468_ M469 =>
  if i465_ = i468_ then
    (K S466 M469 (i3 + (6 : Int32)))
  else
    (some ((0 : Int32), S466, M469))
set_option maxRecDepth 100000 in
set_option maxHeartbeats 4000000 in
theorem t_case37 {nm : String} {a1 a2 b L : Nat} {xs : Nat → Int32} {K : Mem → MS → Int32 → Option (Int32 × Mem × MS)} {S : Mem} {M : MS} {i3 : Int32} {w : Int32 × Mem × MS} (ha1 : mKd S a1 = 6) (ha2 : a2 = M.1) (lh : ∀ (S : Mem) (M : MS) (i3 : Int32), mKd S a1 = 6 → a2 = M.1 → K S M i3 = some w → J LX (yl nm) cL_law 4 (some .boolean) 40 1500 18 [(0, .ref b), (1, .ref a1), (2, .ref a2), (3, .int i3)] [] (S, some M, b, L, xs) (some (.int w.1)) (w.2.1, some w.2.2, b, L, xs)) (h : l_case37 a1 L xs K S M i3 = some w) : J LX (yl nm) cL_law 4 (some .boolean) 40 1500 1609 [(0, .ref b), (1, .ref a1), (2, .ref a2), (3, .int i3)] [] (S, some M, b, L, xs) (some (.int w.1)) (w.2.1, some w.2.2, b, L, xs) := by
  refine J_aload_n 1 dL_law_1609 rfl rfl ?_
  obtain ⟨i465_, S466, ei465_, h467⟩ := bnd2_some h; clear h
  have ki465_ := t_X5_fix ha1 ei465_
  have qS466 : mKd S466 a1 = 6 := kd_le ki465_.1 ha1
  refine J_LC (As := []) (rest := []) (st' := [.int i465_]) ki465_ gC_X5_fix gM_L_174 (mRecv ha1 (by decide) jCl5) rfl (by decide) (by decide) rfl rfl (Nat.le_of_ble_eq_true rfl) dL_law_1610 ?_
  refine J_aload_n 2 dL_law_1613 rfl rfl ?_
  obtain ⟨i468_, M469, ei468_, h470⟩ := bnd2_some h467; clear h467
  have ki468_ := t_X6_fix ha2 ei468_
  have qM469 : a2 = M469.1 := ha2.trans (nle_eq ki468_.1).symm
  refine J_LM (As := []) (rest := [.int i465_]) (st' := [.int i468_, .int i465_]) ki468_ gC_X6_fix gM_L_177 (by rw [ha2]; exact nRecv) rfl (by decide) (by decide) rfl rfl (Nat.le_of_ble_eq_true rfl) dL_law_1614 ?_
  refine J_icmp_eq 1780 dL_law_1617 (by decide) h470 (fun c471 h472 => ?_) (fun c471 h472 => ?_)
  · clear h470
    refine J_iinc 3 (6 : Int32) dL_law_1780 rfl (by decide) (by decide) [1, 2, 3, 0] (lv' := [(0, .ref b), (1, .ref a1), (2, .ref a2), (3, .int (i3 + (6 : Int32)))]) rfl ?_
    refine J_goto 18 dL_law_1783 (by decide) ?_
    exact lh S466 M469 (i3 + (6 : Int32)) qS466 qM469 h472
  · clear h470
    refine J_iconst (0 : Int32) dL_law_1620 (by decide) ?_
    have hw := Option.some.inj h472; subst hw
    exact J_zret rfl (by decide) dL_law_1621
def l_case38 (a1 L : Nat) (xs : Nat → Int32) (K : Mem → MS → Int32 → Option (Int32 × Mem × MS)) (S : Mem) (M : MS) (i3 : Int32) : Option (Int32 × Mem × MS) :=
  gd (inB (i3 + (1 : Int32)) L) <|
  gd (inB (i3 + (2 : Int32)) L) <|
  bnd2 (c_X5_exercise S a1 (xs (Int32.toNatClampNeg (i3 + (1 : Int32)))) (xs (Int32.toNatClampNeg (i3 + (2 : Int32))))) fun i478_ S479 =>
  bnd2 (m_X6_exercise M (xs (Int32.toNatClampNeg (i3 + (1 : Int32)))) (xs (Int32.toNatClampNeg (i3 + (2 : Int32))))) fun i481_ M482 =>
  if i478_ = i481_ then
    (K S479 M482 (i3 + (6 : Int32)))
  else
    (some ((0 : Int32), S479, M482))
set_option maxRecDepth 100000 in
set_option maxHeartbeats 4000000 in
theorem t_case38 {nm : String} {a1 a2 b L : Nat} {xs : Nat → Int32} {K : Mem → MS → Int32 → Option (Int32 × Mem × MS)} {S : Mem} {M : MS} {i3 : Int32} {w : Int32 × Mem × MS} (ha1 : mKd S a1 = 6) (ha2 : a2 = M.1) (lh : ∀ (S : Mem) (M : MS) (i3 : Int32), mKd S a1 = 6 → a2 = M.1 → K S M i3 = some w → J LX (yl nm) cL_law 4 (some .boolean) 40 1500 18 [(0, .ref b), (1, .ref a1), (2, .ref a2), (3, .int i3)] [] (S, some M, b, L, xs) (some (.int w.1)) (w.2.1, some w.2.2, b, L, xs)) (h : l_case38 a1 L xs K S M i3 = some w) : J LX (yl nm) cL_law 4 (some .boolean) 40 1500 1622 [(0, .ref b), (1, .ref a1), (2, .ref a2), (3, .int i3)] [] (S, some M, b, L, xs) (some (.int w.1)) (w.2.1, some w.2.2, b, L, xs) := by
  refine J_aload_n 1 dL_law_1622 rfl rfl ?_
  refine J_aload_n 0 dL_law_1623 rfl rfl ?_
  refine J_iload_n 3 dL_law_1624 rfl rfl ?_
  refine J_iconst (1 : Int32) dL_law_1625 (by decide) ?_
  refine J_iadd dL_law_1626 ?_
  obtain ⟨g474, h475⟩ := gd_some h; clear h
  refine J_Lsld dL_law_1627 g474 ?_
  refine J_aload_n 0 dL_law_1628 rfl rfl ?_
  refine J_iload_n 3 dL_law_1629 rfl rfl ?_
  refine J_iconst (2 : Int32) dL_law_1630 (by decide) ?_
  refine J_iadd dL_law_1631 ?_
  obtain ⟨g476, h477⟩ := gd_some h475; clear h475
  refine J_Lsld dL_law_1632 g476 ?_
  obtain ⟨i478_, S479, ei478_, h480⟩ := bnd2_some h477; clear h477
  have ki478_ := t_X5_exercise ha1 ei478_
  have qS479 : mKd S479 a1 = 6 := kd_le ki478_.1 ha1
  refine J_LC (As := [.int (xs (Int32.toNatClampNeg (i3 + (1 : Int32)))), .int (xs (Int32.toNatClampNeg (i3 + (2 : Int32))))]) (rest := []) (st' := [.int i478_]) ki478_ gC_X5_exercise gM_L_178 (mRecv ha1 (by decide) jCl5) rfl (by decide) (by decide) rfl rfl (Nat.le_of_ble_eq_true rfl) dL_law_1633 ?_
  refine J_aload_n 2 dL_law_1636 rfl rfl ?_
  refine J_aload_n 0 dL_law_1637 rfl rfl ?_
  refine J_iload_n 3 dL_law_1638 rfl rfl ?_
  refine J_iconst (1 : Int32) dL_law_1639 (by decide) ?_
  refine J_iadd dL_law_1640 ?_
  refine J_Lsld dL_law_1641 g474 ?_
  refine J_aload_n 0 dL_law_1642 rfl rfl ?_
  refine J_iload_n 3 dL_law_1643 rfl rfl ?_
  refine J_iconst (2 : Int32) dL_law_1644 (by decide) ?_
  refine J_iadd dL_law_1645 ?_
  refine J_Lsld dL_law_1646 g476 ?_
  obtain ⟨i481_, M482, ei481_, h483⟩ := bnd2_some h480; clear h480
  have ki481_ := t_X6_exercise ha2 ei481_
  have qM482 : a2 = M482.1 := ha2.trans (nle_eq ki481_.1).symm
  refine J_LM (As := [.int (xs (Int32.toNatClampNeg (i3 + (1 : Int32)))), .int (xs (Int32.toNatClampNeg (i3 + (2 : Int32))))]) (rest := [.int i478_]) (st' := [.int i481_, .int i478_]) ki481_ gC_X6_exercise gM_L_181 (by rw [ha2]; exact nRecv) rfl (by decide) (by decide) rfl rfl (Nat.le_of_ble_eq_true rfl) dL_law_1647 ?_
  refine J_icmp_eq 1780 dL_law_1650 (by decide) h483 (fun c484 h485 => ?_) (fun c484 h485 => ?_)
  · clear h483
    refine J_iinc 3 (6 : Int32) dL_law_1780 rfl (by decide) (by decide) [1, 2, 3, 0] (lv' := [(0, .ref b), (1, .ref a1), (2, .ref a2), (3, .int (i3 + (6 : Int32)))]) rfl ?_
    refine J_goto 18 dL_law_1783 (by decide) ?_
    exact lh S479 M482 (i3 + (6 : Int32)) qS479 qM482 h485
  · clear h483
    refine J_iconst (0 : Int32) dL_law_1653 (by decide) ?_
    have hw := Option.some.inj h485; subst hw
    exact J_zret rfl (by decide) dL_law_1654
def l_case39 (a1 L : Nat) (xs : Nat → Int32) (K : Mem → MS → Int32 → Option (Int32 × Mem × MS)) (S : Mem) (M : MS) (i3 : Int32) : Option (Int32 × Mem × MS) :=
  gd (inB (i3 + (1 : Int32)) L) <|
  gd (inB (i3 + (2 : Int32)) L) <|
  bnd (c_X5_place S a1 (xs (Int32.toNatClampNeg (i3 + (1 : Int32)))) (xs (Int32.toNatClampNeg (i3 + (2 : Int32))))) fun i491_ =>
  bnd (m_X6_place M (xs (Int32.toNatClampNeg (i3 + (1 : Int32)))) (xs (Int32.toNatClampNeg (i3 + (2 : Int32))))) fun i493_ =>
  if i491_ = i493_ then
    (K S M (i3 + (6 : Int32)))
  else
    (some ((0 : Int32), S, M))
set_option maxRecDepth 100000 in
set_option maxHeartbeats 4000000 in
theorem t_case39 {nm : String} {a1 a2 b L : Nat} {xs : Nat → Int32} {K : Mem → MS → Int32 → Option (Int32 × Mem × MS)} {S : Mem} {M : MS} {i3 : Int32} {w : Int32 × Mem × MS} (ha1 : mKd S a1 = 6) (ha2 : a2 = M.1) (lh : ∀ (S : Mem) (M : MS) (i3 : Int32), mKd S a1 = 6 → a2 = M.1 → K S M i3 = some w → J LX (yl nm) cL_law 4 (some .boolean) 40 1500 18 [(0, .ref b), (1, .ref a1), (2, .ref a2), (3, .int i3)] [] (S, some M, b, L, xs) (some (.int w.1)) (w.2.1, some w.2.2, b, L, xs)) (h : l_case39 a1 L xs K S M i3 = some w) : J LX (yl nm) cL_law 4 (some .boolean) 40 1500 1655 [(0, .ref b), (1, .ref a1), (2, .ref a2), (3, .int i3)] [] (S, some M, b, L, xs) (some (.int w.1)) (w.2.1, some w.2.2, b, L, xs) := by
  refine J_aload_n 1 dL_law_1655 rfl rfl ?_
  refine J_aload_n 0 dL_law_1656 rfl rfl ?_
  refine J_iload_n 3 dL_law_1657 rfl rfl ?_
  refine J_iconst (1 : Int32) dL_law_1658 (by decide) ?_
  refine J_iadd dL_law_1659 ?_
  obtain ⟨g487, h488⟩ := gd_some h; clear h
  refine J_Lsld dL_law_1660 g487 ?_
  refine J_aload_n 0 dL_law_1661 rfl rfl ?_
  refine J_iload_n 3 dL_law_1662 rfl rfl ?_
  refine J_iconst (2 : Int32) dL_law_1663 (by decide) ?_
  refine J_iadd dL_law_1664 ?_
  obtain ⟨g489, h490⟩ := gd_some h488; clear h488
  refine J_Lsld dL_law_1665 g489 ?_
  obtain ⟨i491_, ei491_, h492⟩ := bnd_some h490; clear h490
  have ki491_ := t_X5_place ha1 ei491_
  refine J_LC (As := [.int (xs (Int32.toNatClampNeg (i3 + (1 : Int32)))), .int (xs (Int32.toNatClampNeg (i3 + (2 : Int32))))]) (rest := []) (st' := [.int i491_]) ki491_ gC_X5_place gM_L_182 (mRecv ha1 (by decide) jCl5) rfl (by decide) (by decide) rfl rfl (Nat.le_of_ble_eq_true rfl) dL_law_1666 ?_
  refine J_aload_n 2 dL_law_1669 rfl rfl ?_
  refine J_aload_n 0 dL_law_1670 rfl rfl ?_
  refine J_iload_n 3 dL_law_1671 rfl rfl ?_
  refine J_iconst (1 : Int32) dL_law_1672 (by decide) ?_
  refine J_iadd dL_law_1673 ?_
  refine J_Lsld dL_law_1674 g487 ?_
  refine J_aload_n 0 dL_law_1675 rfl rfl ?_
  refine J_iload_n 3 dL_law_1676 rfl rfl ?_
  refine J_iconst (2 : Int32) dL_law_1677 (by decide) ?_
  refine J_iadd dL_law_1678 ?_
  refine J_Lsld dL_law_1679 g489 ?_
  obtain ⟨i493_, ei493_, h494⟩ := bnd_some h492; clear h492
  have ki493_ := t_X6_place ha2 ei493_
  refine J_LM (As := [.int (xs (Int32.toNatClampNeg (i3 + (1 : Int32)))), .int (xs (Int32.toNatClampNeg (i3 + (2 : Int32))))]) (rest := [.int i491_]) (st' := [.int i493_, .int i491_]) ki493_ gC_X6_place gM_L_185 (by rw [ha2]; exact nRecv) rfl (by decide) (by decide) rfl rfl (Nat.le_of_ble_eq_true rfl) dL_law_1680 ?_
  refine J_icmp_eq 1780 dL_law_1683 (by decide) h494 (fun c495 h496 => ?_) (fun c495 h496 => ?_)
  · clear h494
    refine J_iinc 3 (6 : Int32) dL_law_1780 rfl (by decide) (by decide) [1, 2, 3, 0] (lv' := [(0, .ref b), (1, .ref a1), (2, .ref a2), (3, .int (i3 + (6 : Int32)))]) rfl ?_
    refine J_goto 18 dL_law_1783 (by decide) ?_
    exact lh S M (i3 + (6 : Int32)) ha1 ha2 h496
  · clear h494
    refine J_iconst (0 : Int32) dL_law_1686 (by decide) ?_
    have hw := Option.some.inj h496; subst hw
    exact J_zret rfl (by decide) dL_law_1687
def l_case40 (a1 L : Nat) (xs : Nat → Int32) (K : Mem → MS → Int32 → Option (Int32 × Mem × MS)) (S : Mem) (M : MS) (i3 : Int32) : Option (Int32 × Mem × MS) :=
  gd (inB (i3 + (1 : Int32)) L) <|
  bnd (c_X5_fillings S a1 (xs (Int32.toNatClampNeg (i3 + (1 : Int32))))) fun i500_ =>
  bnd (m_X6_fillings M (xs (Int32.toNatClampNeg (i3 + (1 : Int32))))) fun i502_ =>
  if i500_ = i502_ then
    (K S M (i3 + (6 : Int32)))
  else
    (some ((0 : Int32), S, M))
set_option maxRecDepth 100000 in
set_option maxHeartbeats 4000000 in
theorem t_case40 {nm : String} {a1 a2 b L : Nat} {xs : Nat → Int32} {K : Mem → MS → Int32 → Option (Int32 × Mem × MS)} {S : Mem} {M : MS} {i3 : Int32} {w : Int32 × Mem × MS} (ha1 : mKd S a1 = 6) (ha2 : a2 = M.1) (lh : ∀ (S : Mem) (M : MS) (i3 : Int32), mKd S a1 = 6 → a2 = M.1 → K S M i3 = some w → J LX (yl nm) cL_law 4 (some .boolean) 40 1500 18 [(0, .ref b), (1, .ref a1), (2, .ref a2), (3, .int i3)] [] (S, some M, b, L, xs) (some (.int w.1)) (w.2.1, some w.2.2, b, L, xs)) (h : l_case40 a1 L xs K S M i3 = some w) : J LX (yl nm) cL_law 4 (some .boolean) 40 1500 1688 [(0, .ref b), (1, .ref a1), (2, .ref a2), (3, .int i3)] [] (S, some M, b, L, xs) (some (.int w.1)) (w.2.1, some w.2.2, b, L, xs) := by
  refine J_aload_n 1 dL_law_1688 rfl rfl ?_
  refine J_aload_n 0 dL_law_1689 rfl rfl ?_
  refine J_iload_n 3 dL_law_1690 rfl rfl ?_
  refine J_iconst (1 : Int32) dL_law_1691 (by decide) ?_
  refine J_iadd dL_law_1692 ?_
  obtain ⟨g498, h499⟩ := gd_some h; clear h
  refine J_Lsld dL_law_1693 g498 ?_
  obtain ⟨i500_, ei500_, h501⟩ := bnd_some h499; clear h499
  have ki500_ := t_X5_fillings ha1 ei500_
  refine J_LC (As := [.int (xs (Int32.toNatClampNeg (i3 + (1 : Int32))))]) (rest := []) (st' := [.int i500_]) ki500_ gC_X5_fillings gM_L_186 (mRecv ha1 (by decide) jCl5) rfl (by decide) (by decide) rfl rfl (Nat.le_of_ble_eq_true rfl) dL_law_1694 ?_
  refine J_aload_n 2 dL_law_1697 rfl rfl ?_
  refine J_aload_n 0 dL_law_1698 rfl rfl ?_
  refine J_iload_n 3 dL_law_1699 rfl rfl ?_
  refine J_iconst (1 : Int32) dL_law_1700 (by decide) ?_
  refine J_iadd dL_law_1701 ?_
  refine J_Lsld dL_law_1702 g498 ?_
  obtain ⟨i502_, ei502_, h503⟩ := bnd_some h501; clear h501
  have ki502_ := t_X6_fillings ha2 ei502_
  refine J_LM (As := [.int (xs (Int32.toNatClampNeg (i3 + (1 : Int32))))]) (rest := [.int i500_]) (st' := [.int i502_, .int i500_]) ki502_ gC_X6_fillings gM_L_189 (by rw [ha2]; exact nRecv) rfl (by decide) (by decide) rfl rfl (Nat.le_of_ble_eq_true rfl) dL_law_1703 ?_
  refine J_icmp_eq 1780 dL_law_1706 (by decide) h503 (fun c504 h505 => ?_) (fun c504 h505 => ?_)
  · clear h503
    refine J_iinc 3 (6 : Int32) dL_law_1780 rfl (by decide) (by decide) [1, 2, 3, 0] (lv' := [(0, .ref b), (1, .ref a1), (2, .ref a2), (3, .int (i3 + (6 : Int32)))]) rfl ?_
    refine J_goto 18 dL_law_1783 (by decide) ?_
    exact lh S M (i3 + (6 : Int32)) ha1 ha2 h505
  · clear h503
    refine J_iconst (0 : Int32) dL_law_1709 (by decide) ?_
    have hw := Option.some.inj h505; subst hw
    exact J_zret rfl (by decide) dL_law_1710
def l_case41 (a1 L : Nat) (xs : Nat → Int32) (K : Mem → MS → Int32 → Option (Int32 × Mem × MS)) (S : Mem) (M : MS) (i3 : Int32) : Option (Int32 × Mem × MS) :=
  gd (inB (i3 + (1 : Int32)) L) <|
  gd (inB (i3 + (2 : Int32)) L) <|
  bnd (c_X5_answer S a1 (xs (Int32.toNatClampNeg (i3 + (1 : Int32)))) (xs (Int32.toNatClampNeg (i3 + (2 : Int32))))) fun i511_ =>
  bnd (m_X6_answer M (xs (Int32.toNatClampNeg (i3 + (1 : Int32)))) (xs (Int32.toNatClampNeg (i3 + (2 : Int32))))) fun i513_ =>
  if i511_ = i513_ then
    (K S M (i3 + (6 : Int32)))
  else
    (some ((0 : Int32), S, M))
set_option maxRecDepth 100000 in
set_option maxHeartbeats 4000000 in
theorem t_case41 {nm : String} {a1 a2 b L : Nat} {xs : Nat → Int32} {K : Mem → MS → Int32 → Option (Int32 × Mem × MS)} {S : Mem} {M : MS} {i3 : Int32} {w : Int32 × Mem × MS} (ha1 : mKd S a1 = 6) (ha2 : a2 = M.1) (lh : ∀ (S : Mem) (M : MS) (i3 : Int32), mKd S a1 = 6 → a2 = M.1 → K S M i3 = some w → J LX (yl nm) cL_law 4 (some .boolean) 40 1500 18 [(0, .ref b), (1, .ref a1), (2, .ref a2), (3, .int i3)] [] (S, some M, b, L, xs) (some (.int w.1)) (w.2.1, some w.2.2, b, L, xs)) (h : l_case41 a1 L xs K S M i3 = some w) : J LX (yl nm) cL_law 4 (some .boolean) 40 1500 1711 [(0, .ref b), (1, .ref a1), (2, .ref a2), (3, .int i3)] [] (S, some M, b, L, xs) (some (.int w.1)) (w.2.1, some w.2.2, b, L, xs) := by
  refine J_aload_n 1 dL_law_1711 rfl rfl ?_
  refine J_aload_n 0 dL_law_1712 rfl rfl ?_
  refine J_iload_n 3 dL_law_1713 rfl rfl ?_
  refine J_iconst (1 : Int32) dL_law_1714 (by decide) ?_
  refine J_iadd dL_law_1715 ?_
  obtain ⟨g507, h508⟩ := gd_some h; clear h
  refine J_Lsld dL_law_1716 g507 ?_
  refine J_aload_n 0 dL_law_1717 rfl rfl ?_
  refine J_iload_n 3 dL_law_1718 rfl rfl ?_
  refine J_iconst (2 : Int32) dL_law_1719 (by decide) ?_
  refine J_iadd dL_law_1720 ?_
  obtain ⟨g509, h510⟩ := gd_some h508; clear h508
  refine J_Lsld dL_law_1721 g509 ?_
  obtain ⟨i511_, ei511_, h512⟩ := bnd_some h510; clear h510
  have ki511_ := t_X5_answer ha1 ei511_
  refine J_LC (As := [.int (xs (Int32.toNatClampNeg (i3 + (1 : Int32)))), .int (xs (Int32.toNatClampNeg (i3 + (2 : Int32))))]) (rest := []) (st' := [.int i511_]) ki511_ gC_X5_answer gM_L_190 (mRecv ha1 (by decide) jCl5) rfl (by decide) (by decide) rfl rfl (Nat.le_of_ble_eq_true rfl) dL_law_1722 ?_
  refine J_aload_n 2 dL_law_1725 rfl rfl ?_
  refine J_aload_n 0 dL_law_1726 rfl rfl ?_
  refine J_iload_n 3 dL_law_1727 rfl rfl ?_
  refine J_iconst (1 : Int32) dL_law_1728 (by decide) ?_
  refine J_iadd dL_law_1729 ?_
  refine J_Lsld dL_law_1730 g507 ?_
  refine J_aload_n 0 dL_law_1731 rfl rfl ?_
  refine J_iload_n 3 dL_law_1732 rfl rfl ?_
  refine J_iconst (2 : Int32) dL_law_1733 (by decide) ?_
  refine J_iadd dL_law_1734 ?_
  refine J_Lsld dL_law_1735 g509 ?_
  obtain ⟨i513_, ei513_, h514⟩ := bnd_some h512; clear h512
  have ki513_ := t_X6_answer ha2 ei513_
  refine J_LM (As := [.int (xs (Int32.toNatClampNeg (i3 + (1 : Int32)))), .int (xs (Int32.toNatClampNeg (i3 + (2 : Int32))))]) (rest := [.int i511_]) (st' := [.int i513_, .int i511_]) ki513_ gC_X6_answer gM_L_193 (by rw [ha2]; exact nRecv) rfl (by decide) (by decide) rfl rfl (Nat.le_of_ble_eq_true rfl) dL_law_1736 ?_
  refine J_icmp_eq 1780 dL_law_1739 (by decide) h514 (fun c515 h516 => ?_) (fun c515 h516 => ?_)
  · clear h514
    refine J_iinc 3 (6 : Int32) dL_law_1780 rfl (by decide) (by decide) [1, 2, 3, 0] (lv' := [(0, .ref b), (1, .ref a1), (2, .ref a2), (3, .int (i3 + (6 : Int32)))]) rfl ?_
    refine J_goto 18 dL_law_1783 (by decide) ?_
    exact lh S M (i3 + (6 : Int32)) ha1 ha2 h516
  · clear h514
    refine J_iconst (0 : Int32) dL_law_1742 (by decide) ?_
    have hw := Option.some.inj h516; subst hw
    exact J_zret rfl (by decide) dL_law_1743
def l_case42 (a1 L : Nat) (xs : Nat → Int32) (K : Mem → MS → Int32 → Option (Int32 × Mem × MS)) (S : Mem) (M : MS) (i3 : Int32) : Option (Int32 × Mem × MS) :=
  gd (inB (i3 + (1 : Int32)) L) <|
  bnd (c_X5_told S a1 (xs (Int32.toNatClampNeg (i3 + (1 : Int32))))) fun i520_ =>
  bnd (m_X6_told M (xs (Int32.toNatClampNeg (i3 + (1 : Int32))))) fun i522_ =>
  if i520_ = i522_ then
    (K S M (i3 + (6 : Int32)))
  else
    (some ((0 : Int32), S, M))
set_option maxRecDepth 100000 in
set_option maxHeartbeats 4000000 in
theorem t_case42 {nm : String} {a1 a2 b L : Nat} {xs : Nat → Int32} {K : Mem → MS → Int32 → Option (Int32 × Mem × MS)} {S : Mem} {M : MS} {i3 : Int32} {w : Int32 × Mem × MS} (ha1 : mKd S a1 = 6) (ha2 : a2 = M.1) (lh : ∀ (S : Mem) (M : MS) (i3 : Int32), mKd S a1 = 6 → a2 = M.1 → K S M i3 = some w → J LX (yl nm) cL_law 4 (some .boolean) 40 1500 18 [(0, .ref b), (1, .ref a1), (2, .ref a2), (3, .int i3)] [] (S, some M, b, L, xs) (some (.int w.1)) (w.2.1, some w.2.2, b, L, xs)) (h : l_case42 a1 L xs K S M i3 = some w) : J LX (yl nm) cL_law 4 (some .boolean) 40 1500 1744 [(0, .ref b), (1, .ref a1), (2, .ref a2), (3, .int i3)] [] (S, some M, b, L, xs) (some (.int w.1)) (w.2.1, some w.2.2, b, L, xs) := by
  refine J_aload_n 1 dL_law_1744 rfl rfl ?_
  refine J_aload_n 0 dL_law_1745 rfl rfl ?_
  refine J_iload_n 3 dL_law_1746 rfl rfl ?_
  refine J_iconst (1 : Int32) dL_law_1747 (by decide) ?_
  refine J_iadd dL_law_1748 ?_
  obtain ⟨g518, h519⟩ := gd_some h; clear h
  refine J_Lsld dL_law_1749 g518 ?_
  obtain ⟨i520_, ei520_, h521⟩ := bnd_some h519; clear h519
  have ki520_ := t_X5_told ha1 ei520_
  refine J_LC (As := [.int (xs (Int32.toNatClampNeg (i3 + (1 : Int32))))]) (rest := []) (st' := [.int i520_]) ki520_ gC_X5_told gM_L_194 (mRecv ha1 (by decide) jCl5) rfl (by decide) (by decide) rfl rfl (Nat.le_of_ble_eq_true rfl) dL_law_1750 ?_
  refine J_aload_n 2 dL_law_1753 rfl rfl ?_
  refine J_aload_n 0 dL_law_1754 rfl rfl ?_
  refine J_iload_n 3 dL_law_1755 rfl rfl ?_
  refine J_iconst (1 : Int32) dL_law_1756 (by decide) ?_
  refine J_iadd dL_law_1757 ?_
  refine J_Lsld dL_law_1758 g518 ?_
  obtain ⟨i522_, ei522_, h523⟩ := bnd_some h521; clear h521
  have ki522_ := t_X6_told ha2 ei522_
  refine J_LM (As := [.int (xs (Int32.toNatClampNeg (i3 + (1 : Int32))))]) (rest := [.int i520_]) (st' := [.int i522_, .int i520_]) ki522_ gC_X6_told gM_L_197 (by rw [ha2]; exact nRecv) rfl (by decide) (by decide) rfl rfl (Nat.le_of_ble_eq_true rfl) dL_law_1759 ?_
  refine J_icmp_eq 1780 dL_law_1762 (by decide) h523 (fun c524 h525 => ?_) (fun c524 h525 => ?_)
  · clear h523
    refine J_iinc 3 (6 : Int32) dL_law_1780 rfl (by decide) (by decide) [1, 2, 3, 0] (lv' := [(0, .ref b), (1, .ref a1), (2, .ref a2), (3, .int (i3 + (6 : Int32)))]) rfl ?_
    refine J_goto 18 dL_law_1783 (by decide) ?_
    exact lh S M (i3 + (6 : Int32)) ha1 ha2 h525
  · clear h523
    refine J_iconst (0 : Int32) dL_law_1765 (by decide) ?_
    have hw := Option.some.inj h525; subst hw
    exact J_zret rfl (by decide) dL_law_1766
def l_case43 (a1 L : Nat) (xs : Nat → Int32) (K : Mem → MS → Int32 → Option (Int32 × Mem × MS)) (S : Mem) (M : MS) (i3 : Int32) : Option (Int32 × Mem × MS) :=
  bnd (c_X5_fault S a1) fun i527_ =>
  bnd (m_X6_fault M) fun i529_ =>
  if i527_ = i529_ then
    (K S M (i3 + (6 : Int32)))
  else
    (some ((0 : Int32), S, M))
set_option maxRecDepth 100000 in
set_option maxHeartbeats 4000000 in
theorem t_case43 {nm : String} {a1 a2 b L : Nat} {xs : Nat → Int32} {K : Mem → MS → Int32 → Option (Int32 × Mem × MS)} {S : Mem} {M : MS} {i3 : Int32} {w : Int32 × Mem × MS} (ha1 : mKd S a1 = 6) (ha2 : a2 = M.1) (lh : ∀ (S : Mem) (M : MS) (i3 : Int32), mKd S a1 = 6 → a2 = M.1 → K S M i3 = some w → J LX (yl nm) cL_law 4 (some .boolean) 40 1500 18 [(0, .ref b), (1, .ref a1), (2, .ref a2), (3, .int i3)] [] (S, some M, b, L, xs) (some (.int w.1)) (w.2.1, some w.2.2, b, L, xs)) (h : l_case43 a1 L xs K S M i3 = some w) : J LX (yl nm) cL_law 4 (some .boolean) 40 1500 1767 [(0, .ref b), (1, .ref a1), (2, .ref a2), (3, .int i3)] [] (S, some M, b, L, xs) (some (.int w.1)) (w.2.1, some w.2.2, b, L, xs) := by
  refine J_aload_n 1 dL_law_1767 rfl rfl ?_
  obtain ⟨i527_, ei527_, h528⟩ := bnd_some h; clear h
  have ki527_ := t_X5_fault ha1 ei527_
  refine J_LC (As := []) (rest := []) (st' := [.int i527_]) ki527_ gC_X5_fault gM_L_198 (mRecv ha1 (by decide) jCl5) rfl (by decide) (by decide) rfl rfl (Nat.le_of_ble_eq_true rfl) dL_law_1768 ?_
  refine J_aload_n 2 dL_law_1771 rfl rfl ?_
  obtain ⟨i529_, ei529_, h530⟩ := bnd_some h528; clear h528
  have ki529_ := t_X6_fault ha2 ei529_
  refine J_LM (As := []) (rest := [.int i527_]) (st' := [.int i529_, .int i527_]) ki529_ gC_X6_fault gM_L_201 (by rw [ha2]; exact nRecv) rfl (by decide) (by decide) rfl rfl (Nat.le_of_ble_eq_true rfl) dL_law_1772 ?_
  refine J_icmp_eq 1780 dL_law_1775 (by decide) h530 (fun c531 h532 => ?_) (fun c531 h532 => ?_)
  · clear h530
    refine J_iinc 3 (6 : Int32) dL_law_1780 rfl (by decide) (by decide) [1, 2, 3, 0] (lv' := [(0, .ref b), (1, .ref a1), (2, .ref a2), (3, .int (i3 + (6 : Int32)))]) rfl ?_
    refine J_goto 18 dL_law_1783 (by decide) ?_
    exact lh S M (i3 + (6 : Int32)) ha1 ha2 h532
  · clear h530
    refine J_iconst (0 : Int32) dL_law_1778 (by decide) ?_
    have hw := Option.some.inj h532; subst hw
    exact J_zret rfl (by decide) dL_law_1779
def l_L (a1 L : Nat) (xs : Nat → Int32) : Nat → Mem → MS → Int32 → Option (Int32 × Mem × MS)
  | 0, _, _, _ => none
  | n + 1, S, M, i3 =>
    if ((nI L) - (6 : Int32)) < i3 then
      (some ((1 : Int32), S, M))
    else
      (gd (inB i3 L) <|
      jLet (((xs (Int32.toNatClampNeg i3)) &&& (63 : Int32))) fun i5_ =>
      if i5_ = (0 : Int32) then
        (l_case0 a1 L xs (l_L a1 L xs n) S M i3)
      else if i5_ = (1 : Int32) then
        (l_case1 a1 L xs (l_L a1 L xs n) S M i3)
      else if i5_ = (2 : Int32) then
        (l_case2 a1 L xs (l_L a1 L xs n) S M i3)
      else if i5_ = (3 : Int32) then
        (l_case3 a1 L xs (l_L a1 L xs n) S M i3)
      else if i5_ = (4 : Int32) then
        (l_case4 a1 L xs (l_L a1 L xs n) S M i3)
      else if i5_ = (5 : Int32) then
        (l_case5 a1 L xs (l_L a1 L xs n) S M i3)
      else if i5_ = (6 : Int32) then
        (l_case6 a1 L xs (l_L a1 L xs n) S M i3)
      else if i5_ = (7 : Int32) then
        (l_case7 a1 L xs (l_L a1 L xs n) S M i3)
      else if i5_ = (8 : Int32) then
        (l_case8 a1 L xs (l_L a1 L xs n) S M i3)
      else if i5_ = (9 : Int32) then
        (l_case9 a1 L xs (l_L a1 L xs n) S M i3)
      else if i5_ = (10 : Int32) then
        (l_case10 a1 L xs (l_L a1 L xs n) S M i3)
      else if i5_ = (11 : Int32) then
        (l_case11 a1 L xs (l_L a1 L xs n) S M i3)
      else if i5_ = (12 : Int32) then
        (l_case12 a1 L xs (l_L a1 L xs n) S M i3)
      else if i5_ = (13 : Int32) then
        (l_case13 a1 L xs (l_L a1 L xs n) S M i3)
      else if i5_ = (14 : Int32) then
        (l_case14 a1 L xs (l_L a1 L xs n) S M i3)
      else if i5_ = (15 : Int32) then
        (l_case15 a1 L xs (l_L a1 L xs n) S M i3)
      else if i5_ = (16 : Int32) then
        (l_case16 a1 L xs (l_L a1 L xs n) S M i3)
      else if i5_ = (17 : Int32) then
        (l_case17 a1 L xs (l_L a1 L xs n) S M i3)
      else if i5_ = (18 : Int32) then
        (l_case18 a1 L xs (l_L a1 L xs n) S M i3)
      else if i5_ = (19 : Int32) then
        (l_case19 a1 L xs (l_L a1 L xs n) S M i3)
      else if i5_ = (20 : Int32) then
        (l_case20 a1 L xs (l_L a1 L xs n) S M i3)
      else if i5_ = (21 : Int32) then
        (l_case21 a1 L xs (l_L a1 L xs n) S M i3)
      else if i5_ = (22 : Int32) then
        (l_case22 a1 L xs (l_L a1 L xs n) S M i3)
      else if i5_ = (23 : Int32) then
        (l_case23 a1 L xs (l_L a1 L xs n) S M i3)
      else if i5_ = (24 : Int32) then
        (l_case24 a1 L xs (l_L a1 L xs n) S M i3)
      else if i5_ = (25 : Int32) then
        (l_case25 a1 L xs (l_L a1 L xs n) S M i3)
      else if i5_ = (26 : Int32) then
        (l_case26 a1 L xs (l_L a1 L xs n) S M i3)
      else if i5_ = (27 : Int32) then
        (l_case27 a1 L xs (l_L a1 L xs n) S M i3)
      else if i5_ = (28 : Int32) then
        (l_case28 a1 L xs (l_L a1 L xs n) S M i3)
      else if i5_ = (29 : Int32) then
        (l_case29 a1 L xs (l_L a1 L xs n) S M i3)
      else if i5_ = (30 : Int32) then
        (l_case30 a1 L xs (l_L a1 L xs n) S M i3)
      else if i5_ = (31 : Int32) then
        (l_case31 a1 L xs (l_L a1 L xs n) S M i3)
      else if i5_ = (32 : Int32) then
        (l_case32 a1 L xs (l_L a1 L xs n) S M i3)
      else if i5_ = (33 : Int32) then
        (l_case33 a1 L xs (l_L a1 L xs n) S M i3)
      else if i5_ = (34 : Int32) then
        (l_case34 a1 L xs (l_L a1 L xs n) S M i3)
      else if i5_ = (35 : Int32) then
        (l_case35 a1 L xs (l_L a1 L xs n) S M i3)
      else if i5_ = (36 : Int32) then
        (l_case36 a1 L xs (l_L a1 L xs n) S M i3)
      else if i5_ = (37 : Int32) then
        (l_case37 a1 L xs (l_L a1 L xs n) S M i3)
      else if i5_ = (38 : Int32) then
        (l_case38 a1 L xs (l_L a1 L xs n) S M i3)
      else if i5_ = (39 : Int32) then
        (l_case39 a1 L xs (l_L a1 L xs n) S M i3)
      else if i5_ = (40 : Int32) then
        (l_case40 a1 L xs (l_L a1 L xs n) S M i3)
      else if i5_ = (41 : Int32) then
        (l_case41 a1 L xs (l_L a1 L xs n) S M i3)
      else if i5_ = (42 : Int32) then
        (l_case42 a1 L xs (l_L a1 L xs n) S M i3)
      else if i5_ = (43 : Int32) then
        (l_case43 a1 L xs (l_L a1 L xs n) S M i3)
      else (l_L a1 L xs n S M (i3 + (6 : Int32))))
set_option maxRecDepth 100000 in
set_option maxHeartbeats 4000000 in
theorem t_L {nm : String} {a1 a2 b L : Nat} {xs : Nat → Int32} {w : Int32 × Mem × MS} (n : Nat) : ∀ (S : Mem) (M : MS) (i3 : Int32), mKd S a1 = 6 → a2 = M.1 → l_L a1 L xs n S M i3 = some w → J LX (yl nm) cL_law 4 (some .boolean) 40 1500 18 [(0, .ref b), (1, .ref a1), (2, .ref a2), (3, .int i3)] [] (S, some M, b, L, xs) (some (.int w.1)) (w.2.1, some w.2.2, b, L, xs) := by
  induction n with
  | zero => intro S M i3 ha1 ha2 h; cases h
  | succ n lh =>
    intro S M i3 ha1 ha2 h
    refine J_iload_n 3 dL_law_18 rfl rfl ?_
    refine J_aload_n 0 dL_law_19 rfl rfl ?_
    refine J_Lslen dL_law_20 ?_
    refine J_bipush (6 : Int32) dL_law_21 (by decide) ?_
    refine J_isub dL_law_23 ?_
    refine J_icmp_gt 1786 dL_law_24 (by decide) h (fun c1 h2 => ?_) (fun c1 h2 => ?_)
    · clear h
      refine J_iconst (1 : Int32) dL_law_1786 (by decide) ?_
      have hw := Option.some.inj h2; subst hw
      exact J_zret rfl (by decide) dL_law_1787
    · clear h
      refine J_aload_n 0 dL_law_27 rfl rfl ?_
      refine J_iload_n 3 dL_law_28 rfl rfl ?_
      obtain ⟨g3, h4⟩ := gd_some h2; clear h2
      refine J_Lsld dL_law_29 g3 ?_
      refine J_bipush (63 : Int32) dL_law_30 (by decide) ?_
      refine J_iand dL_law_32 ?_
      obtain ⟨i5_, ei5_, h6⟩ := jLet_some h4; clear h4
      refine J_topI ei5_ ?_
      by_cases c7 : i5_ = (0 : Int32)
      · replace h6 := ifp c7 h6
        refine J_tabIn (0 : Int32) 224 dL_law_33 c7 (by decide) (by decide) rfl (by decide) ?_
        exact t_case0 ha1 ha2 lh h6
      replace h6 := ifn c7 h6
      by_cases c20 : i5_ = (1 : Int32)
      · replace h6 := ifp c20 h6
        refine J_tabIn (1 : Int32) 257 dL_law_33 c20 (by decide) (by decide) rfl (by decide) ?_
        exact t_case1 ha1 ha2 lh h6
      replace h6 := ifn c20 h6
      by_cases c33 : i5_ = (2 : Int32)
      · replace h6 := ifp c33 h6
        refine J_tabIn (2 : Int32) 290 dL_law_33 c33 (by decide) (by decide) rfl (by decide) ?_
        exact t_case2 ha1 ha2 lh h6
      replace h6 := ifn c33 h6
      by_cases c48 : i5_ = (3 : Int32)
      · replace h6 := ifp c48 h6
        refine J_tabIn (3 : Int32) 333 dL_law_33 c48 (by decide) (by decide) rfl (by decide) ?_
        exact t_case3 ha1 ha2 lh h6
      replace h6 := ifn c48 h6
      by_cases c65 : i5_ = (4 : Int32)
      · replace h6 := ifp c65 h6
        refine J_tabIn (4 : Int32) 386 dL_law_33 c65 (by decide) (by decide) rfl (by decide) ?_
        exact t_case4 ha1 ha2 lh h6
      replace h6 := ifn c65 h6
      by_cases c80 : i5_ = (5 : Int32)
      · replace h6 := ifp c80 h6
        refine J_tabIn (5 : Int32) 429 dL_law_33 c80 (by decide) (by decide) rfl (by decide) ?_
        exact t_case5 ha1 ha2 lh h6
      replace h6 := ifn c80 h6
      by_cases c93 : i5_ = (6 : Int32)
      · replace h6 := ifp c93 h6
        refine J_tabIn (6 : Int32) 462 dL_law_33 c93 (by decide) (by decide) rfl (by decide) ?_
        exact t_case6 ha1 ha2 lh h6
      replace h6 := ifn c93 h6
      by_cases c104 : i5_ = (7 : Int32)
      · replace h6 := ifp c104 h6
        refine J_tabIn (7 : Int32) 486 dL_law_33 c104 (by decide) (by decide) rfl (by decide) ?_
        exact t_case7 ha1 ha2 lh h6
      replace h6 := ifn c104 h6
      by_cases c119 : i5_ = (8 : Int32)
      · replace h6 := ifp c119 h6
        refine J_tabIn (8 : Int32) 549 dL_law_33 c119 (by decide) (by decide) rfl (by decide) ?_
        exact t_case8 ha1 ha2 lh h6
      replace h6 := ifn c119 h6
      by_cases c128 : i5_ = (9 : Int32)
      · replace h6 := ifp c128 h6
        refine J_tabIn (9 : Int32) 572 dL_law_33 c128 (by decide) (by decide) rfl (by decide) ?_
        exact t_case9 ha1 ha2 lh h6
      replace h6 := ifn c128 h6
      by_cases c139 : i5_ = (10 : Int32)
      · replace h6 := ifp c139 h6
        refine J_tabIn (10 : Int32) 605 dL_law_33 c139 (by decide) (by decide) rfl (by decide) ?_
        exact t_case10 ha1 ha2 lh h6
      replace h6 := ifn c139 h6
      by_cases c152 : i5_ = (11 : Int32)
      · replace h6 := ifp c152 h6
        refine J_tabIn (11 : Int32) 638 dL_law_33 c152 (by decide) (by decide) rfl (by decide) ?_
        exact t_case11 ha1 ha2 lh h6
      replace h6 := ifn c152 h6
      by_cases c165 : i5_ = (12 : Int32)
      · replace h6 := ifp c165 h6
        refine J_tabIn (12 : Int32) 671 dL_law_33 c165 (by decide) (by decide) rfl (by decide) ?_
        exact t_case12 ha1 ha2 lh h6
      replace h6 := ifn c165 h6
      by_cases c172 : i5_ = (13 : Int32)
      · replace h6 := ifp c172 h6
        refine J_tabIn (13 : Int32) 684 dL_law_33 c172 (by decide) (by decide) rfl (by decide) ?_
        exact t_case13 ha1 ha2 lh h6
      replace h6 := ifn c172 h6
      by_cases c191 : i5_ = (14 : Int32)
      · replace h6 := ifp c191 h6
        refine J_tabIn (14 : Int32) 747 dL_law_33 c191 (by decide) (by decide) rfl (by decide) ?_
        exact t_case14 ha1 ha2 lh h6
      replace h6 := ifn c191 h6
      by_cases c198 : i5_ = (15 : Int32)
      · replace h6 := ifp c198 h6
        refine J_tabIn (15 : Int32) 760 dL_law_33 c198 (by decide) (by decide) rfl (by decide) ?_
        exact t_case15 ha1 ha2 lh h6
      replace h6 := ifn c198 h6
      by_cases c207 : i5_ = (16 : Int32)
      · replace h6 := ifp c207 h6
        refine J_tabIn (16 : Int32) 784 dL_law_33 c207 (by decide) (by decide) rfl (by decide) ?_
        exact t_case16 ha1 ha2 lh h6
      replace h6 := ifn c207 h6
      by_cases c220 : i5_ = (17 : Int32)
      · replace h6 := ifp c220 h6
        refine J_tabIn (17 : Int32) 817 dL_law_33 c220 (by decide) (by decide) rfl (by decide) ?_
        exact t_case17 ha1 ha2 lh h6
      replace h6 := ifn c220 h6
      by_cases c235 : i5_ = (18 : Int32)
      · replace h6 := ifp c235 h6
        refine J_tabIn (18 : Int32) 880 dL_law_33 c235 (by decide) (by decide) rfl (by decide) ?_
        exact t_case18 ha1 ha2 lh h6
      replace h6 := ifn c235 h6
      by_cases c246 : i5_ = (19 : Int32)
      · replace h6 := ifp c246 h6
        refine J_tabIn (19 : Int32) 913 dL_law_33 c246 (by decide) (by decide) rfl (by decide) ?_
        exact t_case19 ha1 ha2 lh h6
      replace h6 := ifn c246 h6
      by_cases c261 : i5_ = (20 : Int32)
      · replace h6 := ifp c261 h6
        refine J_tabIn (20 : Int32) 1007 dL_law_33 c261 (by decide) (by decide) rfl (by decide) ?_
        exact t_case20 ha1 ha2 lh h6
      replace h6 := ifn c261 h6
      by_cases c276 : i5_ = (21 : Int32)
      · replace h6 := ifp c276 h6
        refine J_tabIn (21 : Int32) 1070 dL_law_33 c276 (by decide) (by decide) rfl (by decide) ?_
        exact t_case21 ha1 ha2 lh h6
      replace h6 := ifn c276 h6
      by_cases c291 : i5_ = (22 : Int32)
      · replace h6 := ifp c291 h6
        refine J_tabIn (22 : Int32) 1133 dL_law_33 c291 (by decide) (by decide) rfl (by decide) ?_
        exact t_case22 ha1 ha2 lh h6
      replace h6 := ifn c291 h6
      by_cases c306 : i5_ = (23 : Int32)
      · replace h6 := ifp c306 h6
        refine J_tabIn (23 : Int32) 1196 dL_law_33 c306 (by decide) (by decide) rfl (by decide) ?_
        exact t_case23 ha1 ha2 lh h6
      replace h6 := ifn c306 h6
      by_cases c323 : i5_ = (24 : Int32)
      · replace h6 := ifp c323 h6
        refine J_tabIn (24 : Int32) 1269 dL_law_33 c323 (by decide) (by decide) rfl (by decide) ?_
        exact t_case24 ha1 ha2 lh h6
      replace h6 := ifn c323 h6
      by_cases c336 : i5_ = (25 : Int32)
      · replace h6 := ifp c336 h6
        refine J_tabIn (25 : Int32) 1302 dL_law_33 c336 (by decide) (by decide) rfl (by decide) ?_
        exact t_case25 ha1 ha2 lh h6
      replace h6 := ifn c336 h6
      by_cases c349 : i5_ = (26 : Int32)
      · replace h6 := ifp c349 h6
        refine J_tabIn (26 : Int32) 1335 dL_law_33 c349 (by decide) (by decide) rfl (by decide) ?_
        exact t_case26 ha1 ha2 lh h6
      replace h6 := ifn c349 h6
      by_cases c362 : i5_ = (27 : Int32)
      · replace h6 := ifp c362 h6
        refine J_tabIn (27 : Int32) 1368 dL_law_33 c362 (by decide) (by decide) rfl (by decide) ?_
        exact t_case27 ha1 ha2 lh h6
      replace h6 := ifn c362 h6
      by_cases c375 : i5_ = (28 : Int32)
      · replace h6 := ifp c375 h6
        refine J_tabIn (28 : Int32) 1402 dL_law_33 c375 (by decide) (by decide) rfl (by decide) ?_
        exact t_case28 ha1 ha2 lh h6
      replace h6 := ifn c375 h6
      by_cases c388 : i5_ = (29 : Int32)
      · replace h6 := ifp c388 h6
        refine J_tabIn (29 : Int32) 1435 dL_law_33 c388 (by decide) (by decide) rfl (by decide) ?_
        exact t_case29 ha1 ha2 lh h6
      replace h6 := ifn c388 h6
      by_cases c395 : i5_ = (30 : Int32)
      · replace h6 := ifp c395 h6
        refine J_tabIn (30 : Int32) 1448 dL_law_33 c395 (by decide) (by decide) rfl (by decide) ?_
        exact t_case30 ha1 ha2 lh h6
      replace h6 := ifn c395 h6
      by_cases c406 : i5_ = (31 : Int32)
      · replace h6 := ifp c406 h6
        refine J_tabIn (31 : Int32) 1481 dL_law_33 c406 (by decide) (by decide) rfl (by decide) ?_
        exact t_case31 ha1 ha2 lh h6
      replace h6 := ifn c406 h6
      by_cases c415 : i5_ = (32 : Int32)
      · replace h6 := ifp c415 h6
        refine J_tabIn (32 : Int32) 1504 dL_law_33 c415 (by decide) (by decide) rfl (by decide) ?_
        exact t_case32 ha1 ha2 lh h6
      replace h6 := ifn c415 h6
      by_cases c424 : i5_ = (33 : Int32)
      · replace h6 := ifp c424 h6
        refine J_tabIn (33 : Int32) 1517 dL_law_33 c424 (by decide) (by decide) rfl (by decide) ?_
        exact t_case33 ha1 ha2 lh h6
      replace h6 := ifn c424 h6
      by_cases c441 : i5_ = (34 : Int32)
      · replace h6 := ifp c441 h6
        refine J_tabIn (34 : Int32) 1570 dL_law_33 c441 (by decide) (by decide) rfl (by decide) ?_
        exact t_case34 ha1 ha2 lh h6
      replace h6 := ifn c441 h6
      by_cases c450 : i5_ = (35 : Int32)
      · replace h6 := ifp c450 h6
        refine J_tabIn (35 : Int32) 1583 dL_law_33 c450 (by decide) (by decide) rfl (by decide) ?_
        exact t_case35 ha1 ha2 lh h6
      replace h6 := ifn c450 h6
      by_cases c457 : i5_ = (36 : Int32)
      · replace h6 := ifp c457 h6
        refine J_tabIn (36 : Int32) 1596 dL_law_33 c457 (by decide) (by decide) rfl (by decide) ?_
        exact t_case36 ha1 ha2 lh h6
      replace h6 := ifn c457 h6
      by_cases c464 : i5_ = (37 : Int32)
      · replace h6 := ifp c464 h6
        refine J_tabIn (37 : Int32) 1609 dL_law_33 c464 (by decide) (by decide) rfl (by decide) ?_
        exact t_case37 ha1 ha2 lh h6
      replace h6 := ifn c464 h6
      by_cases c473 : i5_ = (38 : Int32)
      · replace h6 := ifp c473 h6
        refine J_tabIn (38 : Int32) 1622 dL_law_33 c473 (by decide) (by decide) rfl (by decide) ?_
        exact t_case38 ha1 ha2 lh h6
      replace h6 := ifn c473 h6
      by_cases c486 : i5_ = (39 : Int32)
      · replace h6 := ifp c486 h6
        refine J_tabIn (39 : Int32) 1655 dL_law_33 c486 (by decide) (by decide) rfl (by decide) ?_
        exact t_case39 ha1 ha2 lh h6
      replace h6 := ifn c486 h6
      by_cases c497 : i5_ = (40 : Int32)
      · replace h6 := ifp c497 h6
        refine J_tabIn (40 : Int32) 1688 dL_law_33 c497 (by decide) (by decide) rfl (by decide) ?_
        exact t_case40 ha1 ha2 lh h6
      replace h6 := ifn c497 h6
      by_cases c506 : i5_ = (41 : Int32)
      · replace h6 := ifp c506 h6
        refine J_tabIn (41 : Int32) 1711 dL_law_33 c506 (by decide) (by decide) rfl (by decide) ?_
        exact t_case41 ha1 ha2 lh h6
      replace h6 := ifn c506 h6
      by_cases c517 : i5_ = (42 : Int32)
      · replace h6 := ifp c517 h6
        refine J_tabIn (42 : Int32) 1744 dL_law_33 c517 (by decide) (by decide) rfl (by decide) ?_
        exact t_case42 ha1 ha2 lh h6
      replace h6 := ifn c517 h6
      by_cases c526 : i5_ = (43 : Int32)
      · replace h6 := ifp c526 h6
        refine J_tabIn (43 : Int32) 1767 dL_law_33 c526 (by decide) (by decide) rfl (by decide) ?_
        exact t_case43 ha1 ha2 lh h6
      replace h6 := ifn c526 h6
      have hout := tabOut (x := i5_) (n := 43) (by decide) (fun k hk => by
        match k, hk with
        | 0, _ => exact c7
        | 1, _ => exact c20
        | 2, _ => exact c33
        | 3, _ => exact c48
        | 4, _ => exact c65
        | 5, _ => exact c80
        | 6, _ => exact c93
        | 7, _ => exact c104
        | 8, _ => exact c119
        | 9, _ => exact c128
        | 10, _ => exact c139
        | 11, _ => exact c152
        | 12, _ => exact c165
        | 13, _ => exact c172
        | 14, _ => exact c191
        | 15, _ => exact c198
        | 16, _ => exact c207
        | 17, _ => exact c220
        | 18, _ => exact c235
        | 19, _ => exact c246
        | 20, _ => exact c261
        | 21, _ => exact c276
        | 22, _ => exact c291
        | 23, _ => exact c306
        | 24, _ => exact c323
        | 25, _ => exact c336
        | 26, _ => exact c349
        | 27, _ => exact c362
        | 28, _ => exact c375
        | 29, _ => exact c388
        | 30, _ => exact c395
        | 31, _ => exact c406
        | 32, _ => exact c415
        | 33, _ => exact c424
        | 34, _ => exact c441
        | 35, _ => exact c450
        | 36, _ => exact c457
        | 37, _ => exact c464
        | 38, _ => exact c473
        | 39, _ => exact c486
        | 40, _ => exact c497
        | 41, _ => exact c506
        | 42, _ => exact c517
        | 43, _ => exact c526
        | k + 44, hk => exact absurd hk (by omega))
      refine J_tabOut 1780 dL_law_33 hout (by decide) ?_
      refine J_iinc 3 (6 : Int32) dL_law_1780 rfl (by decide) (by decide) [1, 2, 3, 0] (lv' := [(0, .ref b), (1, .ref a1), (2, .ref a2), (3, .int (i3 + (6 : Int32)))]) rfl ?_
      refine J_goto 18 dL_law_1783 (by decide) ?_
      exact lh S M (i3 + (6 : Int32)) ha1 ha2 h6
set_option maxRecDepth 100000 in
set_option maxHeartbeats 4000000 in
theorem t_law {nm : String} {b L : Nat} {xs : Nat → Int32} {S0 S2 S4 : Mem} {M : MS} {w : Int32 × Mem × MS} (h1 : c_X5_init (mNew S0 6 0 (cN 5)) (mNx S0) = some S2) (h2 : c_X6_init (mNew S2 7 0 (cN 6)) (mNx S2) = some S4) (hM : M.1 = mNx S2) (hm : mIsN S4 M) (hb : ¬ (M.1 ≤ b ∧ b < M.1 + 24)) (hw14 : ∀ q, nFree M q → mKd S4 q ≠ 0 ∧ mKd S4 q ≠ 14) (ha1 : mKd (mDrop S4 M.1) (mNx S0) = 6) (h : l_L (mNx S0) L xs bigN (mDrop S4 M.1) M 0 = some w) : J LX (yl nm) cL_law 4 (some .boolean) 40 1500 0 [(0, .ref b)] [] (S0, none, b, L, xs) (some (.int w.1)) (w.2.1, some w.2.2, b, L, xs) := by
  have k1 : mKd (mNew S0 6 0 (cN 5)) (mNx S0) = 6 := by rw [mKd_new, if_pos rfl]
  have k2 : mKd (mNew S2 7 0 (cN 6)) (mNx S2) = 7 := by rw [mKd_new, if_pos rfl]
  refine J_Lnew (ci := 5) dL_law_0 jCl5 (by decide) (by decide +kernel) gN_L_7 ?_
  refine J_dup dL_law_3 rfl ?_
  refine J_LCI (As := []) (rest := [.ref (mNx S0)]) (st' := [.ref (mNx S0)]) (t_X5_init k1 h1) gC_X5_init gM_L_9 rfl rfl (by decide) (by decide) rfl rfl (Nat.le_of_ble_eq_true rfl) dL_law_4 ?_
  refine J_astore_n dL_law_7 rfl (by decide) [1, 0] (lv' := [(0, .ref b), (1, .ref (mNx S0))]) rfl ?_
  refine J_Lnew (ci := 6) dL_law_8 jCl6 (by decide) (by decide +kernel) gN_L_10 ?_
  refine J_dup dL_law_11 rfl ?_
  refine J_LCI (As := []) (rest := [.ref (mNx S2)]) (st' := [.ref (mNx S2)]) (t_X6_init k2 h2) gC_X6_init gM_L_12 rfl rfl (by decide) (by decide) rfl rfl (Nat.le_of_ble_eq_true rfl) dL_law_12 ?_
  refine J_astore_n dL_law_15 rfl (by decide) [1, 2, 0] (lv' := [(0, .ref b), (1, .ref (mNx S0)), (2, .ref (mNx S2))]) rfl ?_
  refine J_iconst (0 : Int32) dL_law_16 (by decide) ?_
  refine J_istore_n dL_law_17 rfl (by decide) [1, 2, 3, 0] (lv' := [(0, .ref b), (1, .ref (mNx S0)), (2, .ref (mNx S2)), (3, .int 0)]) rfl ?_
  refine J_Lconv hm hb hw14 ?_
  exact t_L bigN _ M 0 ha1 hM.symm h
