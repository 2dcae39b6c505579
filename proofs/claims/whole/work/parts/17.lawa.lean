/-! the walk of the law -/
def yl (nm : String) : MethodName := ⟨RL, nm, ""⟩
def l_case0 (a1 L : Nat) (xs : Nat → Int32) (K : Mem → MS → Int32 → Option (Int32 × Mem × MS)) (S : Mem) (M : MS) (i3 : Int32) : Option (Int32 × Mem × MS) :=
  gd (inB (i3 + (1 : Int32)) L) <|
  gd (inB (i3 + (2 : Int32)) L) <|
  bnd2 (c_X5_frame S a1 (xs (Int32.toNatClampNeg (i3 + (1 : Int32)))) (xs (Int32.toNatClampNeg (i3 + (2 : Int32))))) fun i12_ S13 =>
  bnd2 (m_X6_frame M (xs (Int32.toNatClampNeg (i3 + (1 : Int32)))) (xs (Int32.toNatClampNeg (i3 + (2 : Int32))))) fun i15_ M16 =>
  if i12_ = i15_ then
    (K S13 M16 (i3 + (6 : Int32)))
  else
    (some ((0 : Int32), S13, M16))
set_option maxRecDepth 100000 in
set_option maxHeartbeats 4000000 in
theorem t_case0 {nm : String} {a1 a2 b L : Nat} {xs : Nat → Int32} {K : Mem → MS → Int32 → Option (Int32 × Mem × MS)} {S : Mem} {M : MS} {i3 : Int32} {w : Int32 × Mem × MS} (ha1 : mKd S a1 = 6) (ha2 : a2 = M.1) (lh : ∀ (S : Mem) (M : MS) (i3 : Int32), mKd S a1 = 6 → a2 = M.1 → K S M i3 = some w → J LX (yl nm) cL_law 4 (some .boolean) 40 1500 18 [(0, .ref b), (1, .ref a1), (2, .ref a2), (3, .int i3)] [] (S, some M, b, L, xs) (some (.int w.1)) (w.2.1, some w.2.2, b, L, xs)) (h : l_case0 a1 L xs K S M i3 = some w) : J LX (yl nm) cL_law 4 (some .boolean) 40 1500 224 [(0, .ref b), (1, .ref a1), (2, .ref a2), (3, .int i3)] [] (S, some M, b, L, xs) (some (.int w.1)) (w.2.1, some w.2.2, b, L, xs) := by
  refine J_aload_n 1 dL_law_224 rfl rfl ?_
  refine J_aload_n 0 dL_law_225 rfl rfl ?_
  refine J_iload_n 3 dL_law_226 rfl rfl ?_
  refine J_iconst (1 : Int32) dL_law_227 (by decide) ?_
  refine J_iadd dL_law_228 ?_
  obtain ⟨g8, h9⟩ := gd_some h; clear h
  refine J_Lsld dL_law_229 g8 ?_
  refine J_aload_n 0 dL_law_230 rfl rfl ?_
  refine J_iload_n 3 dL_law_231 rfl rfl ?_
  refine J_iconst (2 : Int32) dL_law_232 (by decide) ?_
  refine J_iadd dL_law_233 ?_
  obtain ⟨g10, h11⟩ := gd_some h9; clear h9
  refine J_Lsld dL_law_234 g10 ?_
  obtain ⟨i12_, S13, ei12_, h14⟩ := bnd2_some h11; clear h11
  have ki12_ := t_X5_frame ha1 ei12_
  have qS13 : mKd S13 a1 = 6 := kd_le ki12_.1 ha1
  refine J_LC (As := [.int (xs (Int32.toNatClampNeg (i3 + (1 : Int32)))), .int (xs (Int32.toNatClampNeg (i3 + (2 : Int32))))]) (rest := []) (st' := [.int i12_]) ki12_ gC_X5_frame gM_L_13 (mRecv ha1 (by decide) jCl5) rfl (by decide) (by decide) rfl rfl (Nat.le_of_ble_eq_true rfl) dL_law_235 ?_
  refine J_aload_n 2 dL_law_238 rfl rfl ?_
  refine J_aload_n 0 dL_law_239 rfl rfl ?_
  refine J_iload_n 3 dL_law_240 rfl rfl ?_
  refine J_iconst (1 : Int32) dL_law_241 (by decide) ?_
  refine J_iadd dL_law_242 ?_
  refine J_Lsld dL_law_243 g8 ?_
  refine J_aload_n 0 dL_law_244 rfl rfl ?_
  refine J_iload_n 3 dL_law_245 rfl rfl ?_
  refine J_iconst (2 : Int32) dL_law_246 (by decide) ?_
  refine J_iadd dL_law_247 ?_
  refine J_Lsld dL_law_248 g10 ?_
  obtain ⟨i15_, M16, ei15_, h17⟩ := bnd2_some h14; clear h14
  have ki15_ := t_X6_frame ha2 ei15_
  have qM16 : a2 = M16.1 := ha2.trans (nle_eq ki15_.1).symm
  refine J_LM (As := [.int (xs (Int32.toNatClampNeg (i3 + (1 : Int32)))), .int (xs (Int32.toNatClampNeg (i3 + (2 : Int32))))]) (rest := [.int i12_]) (st' := [.int i15_, .int i12_]) ki15_ gC_X6_frame gM_L_17 (by rw [ha2]; exact nRecv) rfl (by decide) (by decide) rfl rfl (Nat.le_of_ble_eq_true rfl) dL_law_249 ?_
  refine J_icmp_eq 1780 dL_law_252 (by decide) h17 (fun c18 h19 => ?_) (fun c18 h19 => ?_)
  · clear h17
    refine J_iinc 3 (6 : Int32) dL_law_1780 rfl (by decide) (by decide) [1, 2, 3, 0] (lv' := [(0, .ref b), (1, .ref a1), (2, .ref a2), (3, .int (i3 + (6 : Int32)))]) rfl ?_
    refine J_goto 18 dL_law_1783 (by decide) ?_
    exact lh S13 M16 (i3 + (6 : Int32)) qS13 qM16 h19
  · clear h17
    refine J_iconst (0 : Int32) dL_law_255 (by decide) ?_
    have hw := Option.some.inj h19; subst hw
    exact J_zret rfl (by decide) dL_law_256
def l_case1 (a1 L : Nat) (xs : Nat → Int32) (K : Mem → MS → Int32 → Option (Int32 × Mem × MS)) (S : Mem) (M : MS) (i3 : Int32) : Option (Int32 × Mem × MS) :=
  gd (inB (i3 + (1 : Int32)) L) <|
  gd (inB (i3 + (2 : Int32)) L) <|
  bnd2 (c_X5_both S a1 (xs (Int32.toNatClampNeg (i3 + (1 : Int32)))) (xs (Int32.toNatClampNeg (i3 + (2 : Int32))))) fun i25_ S26 =>
  bnd2 (m_X6_both M (xs (Int32.toNatClampNeg (i3 + (1 : Int32)))) (xs (Int32.toNatClampNeg (i3 + (2 : Int32))))) fun i28_ M29 =>
  if i25_ = i28_ then
    (K S26 M29 (i3 + (6 : Int32)))
  else
    (some ((0 : Int32), S26, M29))
set_option maxRecDepth 100000 in
set_option maxHeartbeats 4000000 in
theorem t_case1 {nm : String} {a1 a2 b L : Nat} {xs : Nat → Int32} {K : Mem → MS → Int32 → Option (Int32 × Mem × MS)} {S : Mem} {M : MS} {i3 : Int32} {w : Int32 × Mem × MS} (ha1 : mKd S a1 = 6) (ha2 : a2 = M.1) (lh : ∀ (S : Mem) (M : MS) (i3 : Int32), mKd S a1 = 6 → a2 = M.1 → K S M i3 = some w → J LX (yl nm) cL_law 4 (some .boolean) 40 1500 18 [(0, .ref b), (1, .ref a1), (2, .ref a2), (3, .int i3)] [] (S, some M, b, L, xs) (some (.int w.1)) (w.2.1, some w.2.2, b, L, xs)) (h : l_case1 a1 L xs K S M i3 = some w) : J LX (yl nm) cL_law 4 (some .boolean) 40 1500 257 [(0, .ref b), (1, .ref a1), (2, .ref a2), (3, .int i3)] [] (S, some M, b, L, xs) (some (.int w.1)) (w.2.1, some w.2.2, b, L, xs) := by
  refine J_aload_n 1 dL_law_257 rfl rfl ?_
  refine J_aload_n 0 dL_law_258 rfl rfl ?_
  refine J_iload_n 3 dL_law_259 rfl rfl ?_
  refine J_iconst (1 : Int32) dL_law_260 (by decide) ?_
  refine J_iadd dL_law_261 ?_
  obtain ⟨g21, h22⟩ := gd_some h; clear h
  refine J_Lsld dL_law_262 g21 ?_
  refine J_aload_n 0 dL_law_263 rfl rfl ?_
  refine J_iload_n 3 dL_law_264 rfl rfl ?_
  refine J_iconst (2 : Int32) dL_law_265 (by decide) ?_
  refine J_iadd dL_law_266 ?_
  obtain ⟨g23, h24⟩ := gd_some h22; clear h22
  refine J_Lsld dL_law_267 g23 ?_
  obtain ⟨i25_, S26, ei25_, h27⟩ := bnd2_some h24; clear h24
  have ki25_ := t_X5_both ha1 ei25_
  have qS26 : mKd S26 a1 = 6 := kd_le ki25_.1 ha1
  refine J_LC (As := [.int (xs (Int32.toNatClampNeg (i3 + (1 : Int32)))), .int (xs (Int32.toNatClampNeg (i3 + (2 : Int32))))]) (rest := []) (st' := [.int i25_]) ki25_ gC_X5_both gM_L_18 (mRecv ha1 (by decide) jCl5) rfl (by decide) (by decide) rfl rfl (Nat.le_of_ble_eq_true rfl) dL_law_268 ?_
  refine J_aload_n 2 dL_law_271 rfl rfl ?_
  refine J_aload_n 0 dL_law_272 rfl rfl ?_
  refine J_iload_n 3 dL_law_273 rfl rfl ?_
  refine J_iconst (1 : Int32) dL_law_274 (by decide) ?_
  refine J_iadd dL_law_275 ?_
  refine J_Lsld dL_law_276 g21 ?_
  refine J_aload_n 0 dL_law_277 rfl rfl ?_
  refine J_iload_n 3 dL_law_278 rfl rfl ?_
  refine J_iconst (2 : Int32) dL_law_279 (by decide) ?_
  refine J_iadd dL_law_280 ?_
  refine J_Lsld dL_law_281 g23 ?_
  obtain ⟨i28_, M29, ei28_, h30⟩ := bnd2_some h27; clear h27
  have ki28_ := t_X6_both ha2 ei28_
  have qM29 : a2 = M29.1 := ha2.trans (nle_eq ki28_.1).symm
  refine J_LM (As := [.int (xs (Int32.toNatClampNeg (i3 + (1 : Int32)))), .int (xs (Int32.toNatClampNeg (i3 + (2 : Int32))))]) (rest := [.int i25_]) (st' := [.int i28_, .int i25_]) ki28_ gC_X6_both gM_L_21 (by rw [ha2]; exact nRecv) rfl (by decide) (by decide) rfl rfl (Nat.le_of_ble_eq_true rfl) dL_law_282 ?_
  refine J_icmp_eq 1780 dL_law_285 (by decide) h30 (fun c31 h32 => ?_) (fun c31 h32 => ?_)
  · clear h30
    refine J_iinc 3 (6 : Int32) dL_law_1780 rfl (by decide) (by decide) [1, 2, 3, 0] (lv' := [(0, .ref b), (1, .ref a1), (2, .ref a2), (3, .int (i3 + (6 : Int32)))]) rfl ?_
    refine J_goto 18 dL_law_1783 (by decide) ?_
    exact lh S26 M29 (i3 + (6 : Int32)) qS26 qM29 h32
  · clear h30
    refine J_iconst (0 : Int32) dL_law_288 (by decide) ?_
    have hw := Option.some.inj h32; subst hw
    exact J_zret rfl (by decide) dL_law_289
def l_case2 (a1 L : Nat) (xs : Nat → Int32) (K : Mem → MS → Int32 → Option (Int32 × Mem × MS)) (S : Mem) (M : MS) (i3 : Int32) : Option (Int32 × Mem × MS) :=
  gd (inB (i3 + (1 : Int32)) L) <|
  gd (inB (i3 + (2 : Int32)) L) <|
  gd (inB (i3 + (3 : Int32)) L) <|
  bnd2 (c_X5_rod S a1 (xs (Int32.toNatClampNeg (i3 + (1 : Int32)))) (xs (Int32.toNatClampNeg (i3 + (2 : Int32)))) (xs (Int32.toNatClampNeg (i3 + (3 : Int32))))) fun i40_ S41 =>
  bnd2 (m_X6_rod M (xs (Int32.toNatClampNeg (i3 + (1 : Int32)))) (xs (Int32.toNatClampNeg (i3 + (2 : Int32)))) (xs (Int32.toNatClampNeg (i3 + (3 : Int32))))) fun i43_ M44 =>
  if i40_ = i43_ then
    (K S41 M44 (i3 + (6 : Int32)))
  else
    (some ((0 : Int32), S41, M44))
set_option maxRecDepth 100000 in
set_option maxHeartbeats 4000000 in
theorem t_case2 {nm : String} {a1 a2 b L : Nat} {xs : Nat → Int32} {K : Mem → MS → Int32 → Option (Int32 × Mem × MS)} {S : Mem} {M : MS} {i3 : Int32} {w : Int32 × Mem × MS} (ha1 : mKd S a1 = 6) (ha2 : a2 = M.1) (lh : ∀ (S : Mem) (M : MS) (i3 : Int32), mKd S a1 = 6 → a2 = M.1 → K S M i3 = some w → J LX (yl nm) cL_law 4 (some .boolean) 40 1500 18 [(0, .ref b), (1, .ref a1), (2, .ref a2), (3, .int i3)] [] (S, some M, b, L, xs) (some (.int w.1)) (w.2.1, some w.2.2, b, L, xs)) (h : l_case2 a1 L xs K S M i3 = some w) : J LX (yl nm) cL_law 4 (some .boolean) 40 1500 290 [(0, .ref b), (1, .ref a1), (2, .ref a2), (3, .int i3)] [] (S, some M, b, L, xs) (some (.int w.1)) (w.2.1, some w.2.2, b, L, xs) := by
  refine J_aload_n 1 dL_law_290 rfl rfl ?_
  refine J_aload_n 0 dL_law_291 rfl rfl ?_
  refine J_iload_n 3 dL_law_292 rfl rfl ?_
  refine J_iconst (1 : Int32) dL_law_293 (by decide) ?_
  refine J_iadd dL_law_294 ?_
  obtain ⟨g34, h35⟩ := gd_some h; clear h
  refine J_Lsld dL_law_295 g34 ?_
  refine J_aload_n 0 dL_law_296 rfl rfl ?_
  refine J_iload_n 3 dL_law_297 rfl rfl ?_
  refine J_iconst (2 : Int32) dL_law_298 (by decide) ?_
  refine J_iadd dL_law_299 ?_
  obtain ⟨g36, h37⟩ := gd_some h35; clear h35
  refine J_Lsld dL_law_300 g36 ?_
  refine J_aload_n 0 dL_law_301 rfl rfl ?_
  refine J_iload_n 3 dL_law_302 rfl rfl ?_
  refine J_iconst (3 : Int32) dL_law_303 (by decide) ?_
  refine J_iadd dL_law_304 ?_
  obtain ⟨g38, h39⟩ := gd_some h37; clear h37
  refine J_Lsld dL_law_305 g38 ?_
  obtain ⟨i40_, S41, ei40_, h42⟩ := bnd2_some h39; clear h39
  have ki40_ := t_X5_rod ha1 ei40_
  have qS41 : mKd S41 a1 = 6 := kd_le ki40_.1 ha1
  refine J_LC (As := [.int (xs (Int32.toNatClampNeg (i3 + (1 : Int32)))), .int (xs (Int32.toNatClampNeg (i3 + (2 : Int32)))), .int (xs (Int32.toNatClampNeg (i3 + (3 : Int32))))]) (rest := []) (st' := [.int i40_]) ki40_ gC_X5_rod gM_L_22 (mRecv ha1 (by decide) jCl5) rfl (by decide) (by decide) rfl rfl (Nat.le_of_ble_eq_true rfl) dL_law_306 ?_
  refine J_aload_n 2 dL_law_309 rfl rfl ?_
  refine J_aload_n 0 dL_law_310 rfl rfl ?_
  refine J_iload_n 3 dL_law_311 rfl rfl ?_
  refine J_iconst (1 : Int32) dL_law_312 (by decide) ?_
  refine J_iadd dL_law_313 ?_
  refine J_Lsld dL_law_314 g34 ?_
  refine J_aload_n 0 dL_law_315 rfl rfl ?_
  refine J_iload_n 3 dL_law_316 rfl rfl ?_
  refine J_iconst (2 : Int32) dL_law_317 (by decide) ?_
  refine J_iadd dL_law_318 ?_
  refine J_Lsld dL_law_319 g36 ?_
  refine J_aload_n 0 dL_law_320 rfl rfl ?_
  refine J_iload_n 3 dL_law_321 rfl rfl ?_
  refine J_iconst (3 : Int32) dL_law_322 (by decide) ?_
  refine J_iadd dL_law_323 ?_
  refine J_Lsld dL_law_324 g38 ?_
  obtain ⟨i43_, M44, ei43_, h45⟩ := bnd2_some h42; clear h42
  have ki43_ := t_X6_rod ha2 ei43_
  have qM44 : a2 = M44.1 := ha2.trans (nle_eq ki43_.1).symm
  refine J_LM (As := [.int (xs (Int32.toNatClampNeg (i3 + (1 : Int32)))), .int (xs (Int32.toNatClampNeg (i3 + (2 : Int32)))), .int (xs (Int32.toNatClampNeg (i3 + (3 : Int32))))]) (rest := [.int i40_]) (st' := [.int i43_, .int i40_]) ki43_ gC_X6_rod gM_L_26 (by rw [ha2]; exact nRecv) rfl (by decide) (by decide) rfl rfl (Nat.le_of_ble_eq_true rfl) dL_law_325 ?_
  refine J_icmp_eq 1780 dL_law_328 (by decide) h45 (fun c46 h47 => ?_) (fun c46 h47 => ?_)
  · clear h45
    refine J_iinc 3 (6 : Int32) dL_law_1780 rfl (by decide) (by decide) [1, 2, 3, 0] (lv' := [(0, .ref b), (1, .ref a1), (2, .ref a2), (3, .int (i3 + (6 : Int32)))]) rfl ?_
    refine J_goto 18 dL_law_1783 (by decide) ?_
    exact lh S41 M44 (i3 + (6 : Int32)) qS41 qM44 h47
  · clear h45
    refine J_iconst (0 : Int32) dL_law_331 (by decide) ?_
    have hw := Option.some.inj h47; subst hw
    exact J_zret rfl (by decide) dL_law_332
def l_case3 (a1 L : Nat) (xs : Nat → Int32) (K : Mem → MS → Int32 → Option (Int32 × Mem × MS)) (S : Mem) (M : MS) (i3 : Int32) : Option (Int32 × Mem × MS) :=
  gd (inB (i3 + (1 : Int32)) L) <|
  gd (inB (i3 + (2 : Int32)) L) <|
  gd (inB (i3 + (3 : Int32)) L) <|
  gd (inB (i3 + (4 : Int32)) L) <|
  bnd2 (c_X5_push S a1 (xs (Int32.toNatClampNeg (i3 + (1 : Int32)))) (xs (Int32.toNatClampNeg (i3 + (2 : Int32)))) (xs (Int32.toNatClampNeg (i3 + (3 : Int32)))) (xs (Int32.toNatClampNeg (i3 + (4 : Int32))))) fun i57_ S58 =>
  bnd2 (m_X6_push M (xs (Int32.toNatClampNeg (i3 + (1 : Int32)))) (xs (Int32.toNatClampNeg (i3 + (2 : Int32)))) (xs (Int32.toNatClampNeg (i3 + (3 : Int32)))) (xs (Int32.toNatClampNeg (i3 + (4 : Int32))))) fun i60_ M61 =>
  if i57_ = i60_ then
    (K S58 M61 (i3 + (6 : Int32)))
  else
    (some ((0 : Int32), S58, M61))
set_option maxRecDepth 100000 in
set_option maxHeartbeats 4000000 in
theorem t_case3 {nm : String} {a1 a2 b L : Nat} {xs : Nat → Int32} {K : Mem → MS → Int32 → Option (Int32 × Mem × MS)} {S : Mem} {M : MS} {i3 : Int32} {w : Int32 × Mem × MS} (ha1 : mKd S a1 = 6) (ha2 : a2 = M.1) (lh : ∀ (S : Mem) (M : MS) (i3 : Int32), mKd S a1 = 6 → a2 = M.1 → K S M i3 = some w → J LX (yl nm) cL_law 4 (some .boolean) 40 1500 18 [(0, .ref b), (1, .ref a1), (2, .ref a2), (3, .int i3)] [] (S, some M, b, L, xs) (some (.int w.1)) (w.2.1, some w.2.2, b, L, xs)) (h : l_case3 a1 L xs K S M i3 = some w) : J LX (yl nm) cL_law 4 (some .boolean) 40 1500 333 [(0, .ref b), (1, .ref a1), (2, .ref a2), (3, .int i3)] [] (S, some M, b, L, xs) (some (.int w.1)) (w.2.1, some w.2.2, b, L, xs) := by
  refine J_aload_n 1 dL_law_333 rfl rfl ?_
  refine J_aload_n 0 dL_law_334 rfl rfl ?_
  refine J_iload_n 3 dL_law_335 rfl rfl ?_
  refine J_iconst (1 : Int32) dL_law_336 (by decide) ?_
  refine J_iadd dL_law_337 ?_
  obtain ⟨g49, h50⟩ := gd_some h; clear h
  refine J_Lsld dL_law_338 g49 ?_
  refine J_aload_n 0 dL_law_339 rfl rfl ?_
  refine J_iload_n 3 dL_law_340 rfl rfl ?_
  refine J_iconst (2 : Int32) dL_law_341 (by decide) ?_
  refine J_iadd dL_law_342 ?_
  obtain ⟨g51, h52⟩ := gd_some h50; clear h50
  refine J_Lsld dL_law_343 g51 ?_
  refine J_aload_n 0 dL_law_344 rfl rfl ?_
  refine J_iload_n 3 dL_law_345 rfl rfl ?_
  refine J_iconst (3 : Int32) dL_law_346 (by decide) ?_
  refine J_iadd dL_law_347 ?_
  obtain ⟨g53, h54⟩ := gd_some h52; clear h52
  refine J_Lsld dL_law_348 g53 ?_
  refine J_aload_n 0 dL_law_349 rfl rfl ?_
  refine J_iload_n 3 dL_law_350 rfl rfl ?_
  refine J_iconst (4 : Int32) dL_law_351 (by decide) ?_
  refine J_iadd dL_law_352 ?_
  obtain ⟨g55, h56⟩ := gd_some h54; clear h54
  refine J_Lsld dL_law_353 g55 ?_
  obtain ⟨i57_, S58, ei57_, h59⟩ := bnd2_some h56; clear h56
  have ki57_ := t_X5_push ha1 ei57_
  have qS58 : mKd S58 a1 = 6 := kd_le ki57_.1 ha1
  refine J_LC (As := [.int (xs (Int32.toNatClampNeg (i3 + (1 : Int32)))), .int (xs (Int32.toNatClampNeg (i3 + (2 : Int32)))), .int (xs (Int32.toNatClampNeg (i3 + (3 : Int32)))), .int (xs (Int32.toNatClampNeg (i3 + (4 : Int32))))]) (rest := []) (st' := [.int i57_]) ki57_ gC_X5_push gM_L_27 (mRecv ha1 (by decide) jCl5) rfl (by decide) (by decide) rfl rfl (Nat.le_of_ble_eq_true rfl) dL_law_354 ?_
  refine J_aload_n 2 dL_law_357 rfl rfl ?_
  refine J_aload_n 0 dL_law_358 rfl rfl ?_
  refine J_iload_n 3 dL_law_359 rfl rfl ?_
  refine J_iconst (1 : Int32) dL_law_360 (by decide) ?_
  refine J_iadd dL_law_361 ?_
  refine J_Lsld dL_law_362 g49 ?_
  refine J_aload_n 0 dL_law_363 rfl rfl ?_
  refine J_iload_n 3 dL_law_364 rfl rfl ?_
  refine J_iconst (2 : Int32) dL_law_365 (by decide) ?_
  refine J_iadd dL_law_366 ?_
  refine J_Lsld dL_law_367 g51 ?_
  refine J_aload_n 0 dL_law_368 rfl rfl ?_
  refine J_iload_n 3 dL_law_369 rfl rfl ?_
  refine J_iconst (3 : Int32) dL_law_370 (by decide) ?_
  refine J_iadd dL_law_371 ?_
  refine J_Lsld dL_law_372 g53 ?_
  refine J_aload_n 0 dL_law_373 rfl rfl ?_
  refine J_iload_n 3 dL_law_374 rfl rfl ?_
  refine J_iconst (4 : Int32) dL_law_375 (by decide) ?_
  refine J_iadd dL_law_376 ?_
  refine J_Lsld dL_law_377 g55 ?_
  obtain ⟨i60_, M61, ei60_, h62⟩ := bnd2_some h59; clear h59
  have ki60_ := t_X6_push ha2 ei60_
  have qM61 : a2 = M61.1 := ha2.trans (nle_eq ki60_.1).symm
  refine J_LM (As := [.int (xs (Int32.toNatClampNeg (i3 + (1 : Int32)))), .int (xs (Int32.toNatClampNeg (i3 + (2 : Int32)))), .int (xs (Int32.toNatClampNeg (i3 + (3 : Int32)))), .int (xs (Int32.toNatClampNeg (i3 + (4 : Int32))))]) (rest := [.int i57_]) (st' := [.int i60_, .int i57_]) ki60_ gC_X6_push gM_L_31 (by rw [ha2]; exact nRecv) rfl (by decide) (by decide) rfl rfl (Nat.le_of_ble_eq_true rfl) dL_law_378 ?_
  refine J_icmp_eq 1780 dL_law_381 (by decide) h62 (fun c63 h64 => ?_) (fun c63 h64 => ?_)
  · clear h62
    refine J_iinc 3 (6 : Int32) dL_law_1780 rfl (by decide) (by decide) [1, 2, 3, 0] (lv' := [(0, .ref b), (1, .ref a1), (2, .ref a2), (3, .int (i3 + (6 : Int32)))]) rfl ?_
    refine J_goto 18 dL_law_1783 (by decide) ?_
    exact lh S58 M61 (i3 + (6 : Int32)) qS58 qM61 h64
  · clear h62
    refine J_iconst (0 : Int32) dL_law_384 (by decide) ?_
    have hw := Option.some.inj h64; subst hw
    exact J_zret rfl (by decide) dL_law_385
def l_case4 (a1 L : Nat) (xs : Nat → Int32) (K : Mem → MS → Int32 → Option (Int32 × Mem × MS)) (S : Mem) (M : MS) (i3 : Int32) : Option (Int32 × Mem × MS) :=
  gd (inB (i3 + (1 : Int32)) L) <|
  gd (inB (i3 + (2 : Int32)) L) <|
  gd (inB (i3 + (3 : Int32)) L) <|
  bnd2 (c_X5_beads S a1 (xs (Int32.toNatClampNeg (i3 + (1 : Int32)))) (xs (Int32.toNatClampNeg (i3 + (2 : Int32)))) (xs (Int32.toNatClampNeg (i3 + (3 : Int32))))) fun i72_ S73 =>
  bnd2 (m_X6_beads M (xs (Int32.toNatClampNeg (i3 + (1 : Int32)))) (xs (Int32.toNatClampNeg (i3 + (2 : Int32)))) (xs (Int32.toNatClampNeg (i3 + (3 : Int32))))) fun i75_ M76 =>
  if i72_ = i75_ then
    (K S73 M76 (i3 + (6 : Int32)))
  else
    (some ((0 : Int32), S73, M76))
set_option maxRecDepth 100000 in
set_option maxHeartbeats 4000000 in
theorem t_case4 {nm : String} {a1 a2 b L : Nat} {xs : Nat → Int32} {K : Mem → MS → Int32 → Option (Int32 × Mem × MS)} {S : Mem} {M : MS} {i3 : Int32} {w : Int32 × Mem × MS} (ha1 : mKd S a1 = 6) (ha2 : a2 = M.1) (lh : ∀ (S : Mem) (M : MS) (i3 : Int32), mKd S a1 = 6 → a2 = M.1 → K S M i3 = some w → J LX (yl nm) cL_law 4 (some .boolean) 40 1500 18 [(0, .ref b), (1, .ref a1), (2, .ref a2), (3, .int i3)] [] (S, some M, b, L, xs) (some (.int w.1)) (w.2.1, some w.2.2, b, L, xs)) (h : l_case4 a1 L xs K S M i3 = some w) : J LX (yl nm) cL_law 4 (some .boolean) 40 1500 386 [(0, .ref b), (1, .ref a1), (2, .ref a2), (3, .int i3)] [] (S, some M, b, L, xs) (some (.int w.1)) (w.2.1, some w.2.2, b, L, xs) := by
  refine J_aload_n 1 dL_law_386 rfl rfl ?_
  refine J_aload_n 0 dL_law_387 rfl rfl ?_
  refine J_iload_n 3 dL_law_388 rfl rfl ?_
  refine J_iconst (1 : Int32) dL_law_389 (by decide) ?_
  refine J_iadd dL_law_390 ?_
  obtain ⟨g66, h67⟩ := gd_some h; clear h
  refine J_Lsld dL_law_391 g66 ?_
  refine J_aload_n 0 dL_law_392 rfl rfl ?_
  refine J_iload_n 3 dL_law_393 rfl rfl ?_
  refine J_iconst (2 : Int32) dL_law_394 (by decide) ?_
  refine J_iadd dL_law_395 ?_
  obtain ⟨g68, h69⟩ := gd_some h67; clear h67
  refine J_Lsld dL_law_396 g68 ?_
  refine J_aload_n 0 dL_law_397 rfl rfl ?_
  refine J_iload_n 3 dL_law_398 rfl rfl ?_
  refine J_iconst (3 : Int32) dL_law_399 (by decide) ?_
  refine J_iadd dL_law_400 ?_
  obtain ⟨g70, h71⟩ := gd_some h69; clear h69
  refine J_Lsld dL_law_401 g70 ?_
  obtain ⟨i72_, S73, ei72_, h74⟩ := bnd2_some h71; clear h71
  have ki72_ := t_X5_beads ha1 ei72_
  have qS73 : mKd S73 a1 = 6 := kd_le ki72_.1 ha1
  refine J_LC (As := [.int (xs (Int32.toNatClampNeg (i3 + (1 : Int32)))), .int (xs (Int32.toNatClampNeg (i3 + (2 : Int32)))), .int (xs (Int32.toNatClampNeg (i3 + (3 : Int32))))]) (rest := []) (st' := [.int i72_]) ki72_ gC_X5_beads gM_L_32 (mRecv ha1 (by decide) jCl5) rfl (by decide) (by decide) rfl rfl (Nat.le_of_ble_eq_true rfl) dL_law_402 ?_
  refine J_aload_n 2 dL_law_405 rfl rfl ?_
  refine J_aload_n 0 dL_law_406 rfl rfl ?_
  refine J_iload_n 3 dL_law_407 rfl rfl ?_
  refine J_iconst (1 : Int32) dL_law_408 (by decide) ?_
  refine J_iadd dL_law_409 ?_
  refine J_Lsld dL_law_410 g66 ?_
  refine J_aload_n 0 dL_law_411 rfl rfl ?_
  refine J_iload_n 3 dL_law_412 rfl rfl ?_
  refine J_iconst (2 : Int32) dL_law_413 (by decide) ?_
  refine J_iadd dL_law_414 ?_
  refine J_Lsld dL_law_415 g68 ?_
  refine J_aload_n 0 dL_law_416 rfl rfl ?_
  refine J_iload_n 3 dL_law_417 rfl rfl ?_
  refine J_iconst (3 : Int32) dL_law_418 (by decide) ?_
  refine J_iadd dL_law_419 ?_
  refine J_Lsld dL_law_420 g70 ?_
  obtain ⟨i75_, M76, ei75_, h77⟩ := bnd2_some h74; clear h74
  have ki75_ := t_X6_beads ha2 ei75_
  have qM76 : a2 = M76.1 := ha2.trans (nle_eq ki75_.1).symm
  refine J_LM (As := [.int (xs (Int32.toNatClampNeg (i3 + (1 : Int32)))), .int (xs (Int32.toNatClampNeg (i3 + (2 : Int32)))), .int (xs (Int32.toNatClampNeg (i3 + (3 : Int32))))]) (rest := [.int i72_]) (st' := [.int i75_, .int i72_]) ki75_ gC_X6_beads gM_L_35 (by rw [ha2]; exact nRecv) rfl (by decide) (by decide) rfl rfl (Nat.le_of_ble_eq_true rfl) dL_law_421 ?_
  refine J_icmp_eq 1780 dL_law_424 (by decide) h77 (fun c78 h79 => ?_) (fun c78 h79 => ?_)
  · clear h77
    refine J_iinc 3 (6 : Int32) dL_law_1780 rfl (by decide) (by decide) [1, 2, 3, 0] (lv' := [(0, .ref b), (1, .ref a1), (2, .ref a2), (3, .int (i3 + (6 : Int32)))]) rfl ?_
    refine J_goto 18 dL_law_1783 (by decide) ?_
    exact lh S73 M76 (i3 + (6 : Int32)) qS73 qM76 h79
  · clear h77
    refine J_iconst (0 : Int32) dL_law_427 (by decide) ?_
    have hw := Option.some.inj h79; subst hw
    exact J_zret rfl (by decide) dL_law_428
def l_case5 (a1 L : Nat) (xs : Nat → Int32) (K : Mem → MS → Int32 → Option (Int32 × Mem × MS)) (S : Mem) (M : MS) (i3 : Int32) : Option (Int32 × Mem × MS) :=
  gd (inB (i3 + (1 : Int32)) L) <|
  gd (inB (i3 + (2 : Int32)) L) <|
  bnd2 (c_X5_digit S a1 (xs (Int32.toNatClampNeg (i3 + (1 : Int32)))) (xs (Int32.toNatClampNeg (i3 + (2 : Int32))))) fun i85_ S86 =>
  bnd2 (m_X6_digit M (xs (Int32.toNatClampNeg (i3 + (1 : Int32)))) (xs (Int32.toNatClampNeg (i3 + (2 : Int32))))) fun i88_ M89 =>
  if i85_ = i88_ then
    (K S86 M89 (i3 + (6 : Int32)))
  else
    (some ((0 : Int32), S86, M89))
set_option maxRecDepth 100000 in
set_option maxHeartbeats 4000000 in
theorem t_case5 {nm : String} {a1 a2 b L : Nat} {xs : Nat → Int32} {K : Mem → MS → Int32 → Option (Int32 × Mem × MS)} {S : Mem} {M : MS} {i3 : Int32} {w : Int32 × Mem × MS} (ha1 : mKd S a1 = 6) (ha2 : a2 = M.1) (lh : ∀ (S : Mem) (M : MS) (i3 : Int32), mKd S a1 = 6 → a2 = M.1 → K S M i3 = some w → J LX (yl nm) cL_law 4 (some .boolean) 40 1500 18 [(0, .ref b), (1, .ref a1), (2, .ref a2), (3, .int i3)] [] (S, some M, b, L, xs) (some (.int w.1)) (w.2.1, some w.2.2, b, L, xs)) (h : l_case5 a1 L xs K S M i3 = some w) : J LX (yl nm) cL_law 4 (some .boolean) 40 1500 429 [(0, .ref b), (1, .ref a1), (2, .ref a2), (3, .int i3)] [] (S, some M, b, L, xs) (some (.int w.1)) (w.2.1, some w.2.2, b, L, xs) := by
  refine J_aload_n 1 dL_law_429 rfl rfl ?_
  refine J_aload_n 0 dL_law_430 rfl rfl ?_
  refine J_iload_n 3 dL_law_431 rfl rfl ?_
  refine J_iconst (1 : Int32) dL_law_432 (by decide) ?_
  refine J_iadd dL_law_433 ?_
  obtain ⟨g81, h82⟩ := gd_some h; clear h
  refine J_Lsld dL_law_434 g81 ?_
  refine J_aload_n 0 dL_law_435 rfl rfl ?_
  refine J_iload_n 3 dL_law_436 rfl rfl ?_
  refine J_iconst (2 : Int32) dL_law_437 (by decide) ?_
  refine J_iadd dL_law_438 ?_
  obtain ⟨g83, h84⟩ := gd_some h82; clear h82
  refine J_Lsld dL_law_439 g83 ?_
  obtain ⟨i85_, S86, ei85_, h87⟩ := bnd2_some h84; clear h84
  have ki85_ := t_X5_digit ha1 ei85_
  have qS86 : mKd S86 a1 = 6 := kd_le ki85_.1 ha1
  refine J_LC (As := [.int (xs (Int32.toNatClampNeg (i3 + (1 : Int32)))), .int (xs (Int32.toNatClampNeg (i3 + (2 : Int32))))]) (rest := []) (st' := [.int i85_]) ki85_ gC_X5_digit gM_L_36 (mRecv ha1 (by decide) jCl5) rfl (by decide) (by decide) rfl rfl (Nat.le_of_ble_eq_true rfl) dL_law_440 ?_
  refine J_aload_n 2 dL_law_443 rfl rfl ?_
  refine J_aload_n 0 dL_law_444 rfl rfl ?_
  refine J_iload_n 3 dL_law_445 rfl rfl ?_
  refine J_iconst (1 : Int32) dL_law_446 (by decide) ?_
  refine J_iadd dL_law_447 ?_
  refine J_Lsld dL_law_448 g81 ?_
  refine J_aload_n 0 dL_law_449 rfl rfl ?_
  refine J_iload_n 3 dL_law_450 rfl rfl ?_
  refine J_iconst (2 : Int32) dL_law_451 (by decide) ?_
  refine J_iadd dL_law_452 ?_
  refine J_Lsld dL_law_453 g83 ?_
  obtain ⟨i88_, M89, ei88_, h90⟩ := bnd2_some h87; clear h87
  have ki88_ := t_X6_digit ha2 ei88_
  have qM89 : a2 = M89.1 := ha2.trans (nle_eq ki88_.1).symm
  refine J_LM (As := [.int (xs (Int32.toNatClampNeg (i3 + (1 : Int32)))), .int (xs (Int32.toNatClampNeg (i3 + (2 : Int32))))]) (rest := [.int i85_]) (st' := [.int i88_, .int i85_]) ki88_ gC_X6_digit gM_L_39 (by rw [ha2]; exact nRecv) rfl (by decide) (by decide) rfl rfl (Nat.le_of_ble_eq_true rfl) dL_law_454 ?_
  refine J_icmp_eq 1780 dL_law_457 (by decide) h90 (fun c91 h92 => ?_) (fun c91 h92 => ?_)
  · clear h90
    refine J_iinc 3 (6 : Int32) dL_law_1780 rfl (by decide) (by decide) [1, 2, 3, 0] (lv' := [(0, .ref b), (1, .ref a1), (2, .ref a2), (3, .int (i3 + (6 : Int32)))]) rfl ?_
    refine J_goto 18 dL_law_1783 (by decide) ?_
    exact lh S86 M89 (i3 + (6 : Int32)) qS86 qM89 h92
  · clear h90
    refine J_iconst (0 : Int32) dL_law_460 (by decide) ?_
    have hw := Option.some.inj h92; subst hw
    exact J_zret rfl (by decide) dL_law_461
def l_case6 (a1 L : Nat) (xs : Nat → Int32) (K : Mem → MS → Int32 → Option (Int32 × Mem × MS)) (S : Mem) (M : MS) (i3 : Int32) : Option (Int32 × Mem × MS) :=
  gd (inB (i3 + (1 : Int32)) L) <|
  bnd2 (c_X5_shows S a1 (xs (Int32.toNatClampNeg (i3 + (1 : Int32))))) fun j96_ S97 =>
  bnd2 (m_X6_shows M (xs (Int32.toNatClampNeg (i3 + (1 : Int32))))) fun j99_ M100 =>
  if j96_ = j99_ then
    (K S97 M100 (i3 + (6 : Int32)))
  else
    (some ((0 : Int32), S97, M100))
set_option maxRecDepth 100000 in
set_option maxHeartbeats 4000000 in
theorem t_case6 {nm : String} {a1 a2 b L : Nat} {xs : Nat → Int32} {K : Mem → MS → Int32 → Option (Int32 × Mem × MS)} {S : Mem} {M : MS} {i3 : Int32} {w : Int32 × Mem × MS} (ha1 : mKd S a1 = 6) (ha2 : a2 = M.1) (lh : ∀ (S : Mem) (M : MS) (i3 : Int32), mKd S a1 = 6 → a2 = M.1 → K S M i3 = some w → J LX (yl nm) cL_law 4 (some .boolean) 40 1500 18 [(0, .ref b), (1, .ref a1), (2, .ref a2), (3, .int i3)] [] (S, some M, b, L, xs) (some (.int w.1)) (w.2.1, some w.2.2, b, L, xs)) (h : l_case6 a1 L xs K S M i3 = some w) : J LX (yl nm) cL_law 4 (some .boolean) 40 1500 462 [(0, .ref b), (1, .ref a1), (2, .ref a2), (3, .int i3)] [] (S, some M, b, L, xs) (some (.int w.1)) (w.2.1, some w.2.2, b, L, xs) := by
  refine J_aload_n 1 dL_law_462 rfl rfl ?_
  refine J_aload_n 0 dL_law_463 rfl rfl ?_
  refine J_iload_n 3 dL_law_464 rfl rfl ?_
  refine J_iconst (1 : Int32) dL_law_465 (by decide) ?_
  refine J_iadd dL_law_466 ?_
  obtain ⟨g94, h95⟩ := gd_some h; clear h
  refine J_Lsld dL_law_467 g94 ?_
  obtain ⟨j96_, S97, ej96_, h98⟩ := bnd2_some h95; clear h95
  have kj96_ := t_X5_shows ha1 ej96_
  have qS97 : mKd S97 a1 = 6 := kd_le kj96_.1 ha1
  refine J_LC (As := [.int (xs (Int32.toNatClampNeg (i3 + (1 : Int32))))]) (rest := []) (st' := [.long j96_]) kj96_ gC_X5_shows gM_L_40 (mRecv ha1 (by decide) jCl5) rfl (by decide) (by decide) rfl rfl (Nat.le_of_ble_eq_true rfl) dL_law_468 ?_
  refine J_aload_n 2 dL_law_471 rfl rfl ?_
  refine J_aload_n 0 dL_law_472 rfl rfl ?_
  refine J_iload_n 3 dL_law_473 rfl rfl ?_
  refine J_iconst (1 : Int32) dL_law_474 (by decide) ?_
  refine J_iadd dL_law_475 ?_
  refine J_Lsld dL_law_476 g94 ?_
  obtain ⟨j99_, M100, ej99_, h101⟩ := bnd2_some h98; clear h98
  have kj99_ := t_X6_shows ha2 ej99_
  have qM100 : a2 = M100.1 := ha2.trans (nle_eq kj99_.1).symm
  refine J_LM (As := [.int (xs (Int32.toNatClampNeg (i3 + (1 : Int32))))]) (rest := [.long j96_]) (st' := [.long j99_, .long j96_]) kj99_ gC_X6_shows gM_L_44 (by rw [ha2]; exact nRecv) rfl (by decide) (by decide) rfl rfl (Nat.le_of_ble_eq_true rfl) dL_law_477 ?_
  refine J_lcmp_eq 1780 dL_law_480 dL_law_481 (by decide) h101 (fun c102 h103 => ?_) (fun c102 h103 => ?_)
  · clear h101
    refine J_iinc 3 (6 : Int32) dL_law_1780 rfl (by decide) (by decide) [1, 2, 3, 0] (lv' := [(0, .ref b), (1, .ref a1), (2, .ref a2), (3, .int (i3 + (6 : Int32)))]) rfl ?_
    refine J_goto 18 dL_law_1783 (by decide) ?_
    exact lh S97 M100 (i3 + (6 : Int32)) qS97 qM100 h103
  · clear h101
    refine J_iconst (0 : Int32) dL_law_484 (by decide) ?_
    have hw := Option.some.inj h103; subst hw
    exact J_zret rfl (by decide) dL_law_485
def l_case7 (a1 L : Nat) (xs : Nat → Int32) (K : Mem → MS → Int32 → Option (Int32 × Mem × MS)) (S : Mem) (M : MS) (i3 : Int32) : Option (Int32 × Mem × MS) :=
  gd (inB (i3 + (1 : Int32)) L) <|
  gd (inB (i3 + (2 : Int32)) L) <|
  gd (inB (i3 + (3 : Int32)) L) <|
  bnd2 (c_X5_set S a1 (xs (Int32.toNatClampNeg (i3 + (1 : Int32)))) (((Int32.toInt64 (xs (Int32.toNatClampNeg (i3 + (2 : Int32))))) <<< (Int32.toInt64 (32 : Int32) &&& 63)) ||| ((Int32.toInt64 (xs (Int32.toNatClampNeg (i3 + (3 : Int32))))) &&& (4294967295 : Int64)))) fun i111_ S112 =>
  bnd2 (m_X6_set M (xs (Int32.toNatClampNeg (i3 + (1 : Int32)))) (((Int32.toInt64 (xs (Int32.toNatClampNeg (i3 + (2 : Int32))))) <<< (Int32.toInt64 (32 : Int32) &&& 63)) ||| ((Int32.toInt64 (xs (Int32.toNatClampNeg (i3 + (3 : Int32))))) &&& (4294967295 : Int64)))) fun i114_ M115 =>
  if i111_ = i114_ then
    (K S112 M115 (i3 + (6 : Int32)))
  else
    (some ((0 : Int32), S112, M115))
set_option maxRecDepth 100000 in
set_option maxHeartbeats 4000000 in
theorem t_case7 {nm : String} {a1 a2 b L : Nat} {xs : Nat → Int32} {K : Mem → MS → Int32 → Option (Int32 × Mem × MS)} {S : Mem} {M : MS} {i3 : Int32} {w : Int32 × Mem × MS} (ha1 : mKd S a1 = 6) (ha2 : a2 = M.1) (lh : ∀ (S : Mem) (M : MS) (i3 : Int32), mKd S a1 = 6 → a2 = M.1 → K S M i3 = some w → J LX (yl nm) cL_law 4 (some .boolean) 40 1500 18 [(0, .ref b), (1, .ref a1), (2, .ref a2), (3, .int i3)] [] (S, some M, b, L, xs) (some (.int w.1)) (w.2.1, some w.2.2, b, L, xs)) (h : l_case7 a1 L xs K S M i3 = some w) : J LX (yl nm) cL_law 4 (some .boolean) 40 1500 486 [(0, .ref b), (1, .ref a1), (2, .ref a2), (3, .int i3)] [] (S, some M, b, L, xs) (some (.int w.1)) (w.2.1, some w.2.2, b, L, xs) := by
  refine J_aload_n 1 dL_law_486 rfl rfl ?_
  refine J_aload_n 0 dL_law_487 rfl rfl ?_
  refine J_iload_n 3 dL_law_488 rfl rfl ?_
  refine J_iconst (1 : Int32) dL_law_489 (by decide) ?_
  refine J_iadd dL_law_490 ?_
  obtain ⟨g105, h106⟩ := gd_some h; clear h
  refine J_Lsld dL_law_491 g105 ?_
  refine J_aload_n 0 dL_law_492 rfl rfl ?_
  refine J_iload_n 3 dL_law_493 rfl rfl ?_
  refine J_iconst (2 : Int32) dL_law_494 (by decide) ?_
  refine J_iadd dL_law_495 ?_
  obtain ⟨g107, h108⟩ := gd_some h106; clear h106
  refine J_Lsld dL_law_496 g107 ?_
  refine J_i2l dL_law_497 ?_
  refine J_bipush (32 : Int32) dL_law_498 (by decide) ?_
  refine J_lshl dL_law_500 ?_
  refine J_aload_n 0 dL_law_501 rfl rfl ?_
  refine J_iload_n 3 dL_law_502 rfl rfl ?_
  refine J_iconst (3 : Int32) dL_law_503 (by decide) ?_
  refine J_iadd dL_law_504 ?_
  obtain ⟨g109, h110⟩ := gd_some h108; clear h108
  refine J_Lsld dL_law_505 g109 ?_
  refine J_i2l dL_law_506 ?_
  refine J_ldc2 (4294967295 : Int64) dL_law_507 gK_L_45 ?_
  refine J_land dL_law_510 ?_
  refine J_lor dL_law_511 ?_
  obtain ⟨i111_, S112, ei111_, h113⟩ := bnd2_some h110; clear h110
  have ki111_ := t_X5_set ha1 ei111_
  have qS112 : mKd S112 a1 = 6 := kd_le ki111_.1 ha1
  refine J_LC (As := [.int (xs (Int32.toNatClampNeg (i3 + (1 : Int32)))), .long (((Int32.toInt64 (xs (Int32.toNatClampNeg (i3 + (2 : Int32))))) <<< (Int32.toInt64 (32 : Int32) &&& 63)) ||| ((Int32.toInt64 (xs (Int32.toNatClampNeg (i3 + (3 : Int32))))) &&& (4294967295 : Int64)))]) (rest := []) (st' := [.int i111_]) ki111_ gC_X5_set gM_L_47 (mRecv ha1 (by decide) jCl5) rfl (by decide) (by decide) rfl rfl (Nat.le_of_ble_eq_true rfl) dL_law_512 ?_
  refine J_aload_n 2 dL_law_515 rfl rfl ?_
  refine J_aload_n 0 dL_law_516 rfl rfl ?_
  refine J_iload_n 3 dL_law_517 rfl rfl ?_
  refine J_iconst (1 : Int32) dL_law_518 (by decide) ?_
  refine J_iadd dL_law_519 ?_
  refine J_Lsld dL_law_520 g105 ?_
  refine J_aload_n 0 dL_law_521 rfl rfl ?_
  refine J_iload_n 3 dL_law_522 rfl rfl ?_
  refine J_iconst (2 : Int32) dL_law_523 (by decide) ?_
  refine J_iadd dL_law_524 ?_
  refine J_Lsld dL_law_525 g107 ?_
  refine J_i2l dL_law_526 ?_
  refine J_bipush (32 : Int32) dL_law_527 (by decide) ?_
  refine J_lshl dL_law_529 ?_
  refine J_aload_n 0 dL_law_530 rfl rfl ?_
  refine J_iload_n 3 dL_law_531 rfl rfl ?_
  refine J_iconst (3 : Int32) dL_law_532 (by decide) ?_
  refine J_iadd dL_law_533 ?_
  refine J_Lsld dL_law_534 g109 ?_
  refine J_i2l dL_law_535 ?_
  refine J_ldc2 (4294967295 : Int64) dL_law_536 gK_L_45 ?_
  refine J_land dL_law_539 ?_
  refine J_lor dL_law_540 ?_
  obtain ⟨i114_, M115, ei114_, h116⟩ := bnd2_some h113; clear h113
  have ki114_ := t_X6_set ha2 ei114_
  have qM115 : a2 = M115.1 := ha2.trans (nle_eq ki114_.1).symm
  refine J_LM (As := [.int (xs (Int32.toNatClampNeg (i3 + (1 : Int32)))), .long (((Int32.toInt64 (xs (Int32.toNatClampNeg (i3 + (2 : Int32))))) <<< (Int32.toInt64 (32 : Int32) &&& 63)) ||| ((Int32.toInt64 (xs (Int32.toNatClampNeg (i3 + (3 : Int32))))) &&& (4294967295 : Int64)))]) (rest := [.int i111_]) (st' := [.int i114_, .int i111_]) ki114_ gC_X6_set gM_L_51 (by rw [ha2]; exact nRecv) rfl (by decide) (by decide) rfl rfl (Nat.le_of_ble_eq_true rfl) dL_law_541 ?_
  refine J_icmp_eq 1780 dL_law_544 (by decide) h116 (fun c117 h118 => ?_) (fun c117 h118 => ?_)
  · clear h116
    refine J_iinc 3 (6 : Int32) dL_law_1780 rfl (by decide) (by decide) [1, 2, 3, 0] (lv' := [(0, .ref b), (1, .ref a1), (2, .ref a2), (3, .int (i3 + (6 : Int32)))]) rfl ?_
    refine J_goto 18 dL_law_1783 (by decide) ?_
    exact lh S112 M115 (i3 + (6 : Int32)) qS112 qM115 h118
  · clear h116
    refine J_iconst (0 : Int32) dL_law_547 (by decide) ?_
    have hw := Option.some.inj h118; subst hw
    exact J_zret rfl (by decide) dL_law_548
def l_case8 (a1 L : Nat) (xs : Nat → Int32) (K : Mem → MS → Int32 → Option (Int32 × Mem × MS)) (S : Mem) (M : MS) (i3 : Int32) : Option (Int32 × Mem × MS) :=
  gd (inB (i3 + (1 : Int32)) L) <|
  bnd (c_X5_proper S a1 (xs (Int32.toNatClampNeg (i3 + (1 : Int32))))) fun i122_ =>
  bnd (m_X6_proper M (xs (Int32.toNatClampNeg (i3 + (1 : Int32))))) fun i124_ =>
  if i122_ = i124_ then
    (K S M (i3 + (6 : Int32)))
  else
    (some ((0 : Int32), S, M))
set_option maxRecDepth 100000 in
set_option maxHeartbeats 4000000 in
theorem t_case8 {nm : String} {a1 a2 b L : Nat} {xs : Nat → Int32} {K : Mem → MS → Int32 → Option (Int32 × Mem × MS)} {S : Mem} {M : MS} {i3 : Int32} {w : Int32 × Mem × MS} (ha1 : mKd S a1 = 6) (ha2 : a2 = M.1) (lh : ∀ (S : Mem) (M : MS) (i3 : Int32), mKd S a1 = 6 → a2 = M.1 → K S M i3 = some w → J LX (yl nm) cL_law 4 (some .boolean) 40 1500 18 [(0, .ref b), (1, .ref a1), (2, .ref a2), (3, .int i3)] [] (S, some M, b, L, xs) (some (.int w.1)) (w.2.1, some w.2.2, b, L, xs)) (h : l_case8 a1 L xs K S M i3 = some w) : J LX (yl nm) cL_law 4 (some .boolean) 40 1500 549 [(0, .ref b), (1, .ref a1), (2, .ref a2), (3, .int i3)] [] (S, some M, b, L, xs) (some (.int w.1)) (w.2.1, some w.2.2, b, L, xs) := by
  refine J_aload_n 1 dL_law_549 rfl rfl ?_
  refine J_aload_n 0 dL_law_550 rfl rfl ?_
  refine J_iload_n 3 dL_law_551 rfl rfl ?_
  refine J_iconst (1 : Int32) dL_law_552 (by decide) ?_
  refine J_iadd dL_law_553 ?_
  obtain ⟨g120, h121⟩ := gd_some h; clear h
  refine J_Lsld dL_law_554 g120 ?_
  obtain ⟨i122_, ei122_, h123⟩ := bnd_some h121; clear h121
  have ki122_ := t_X5_proper ha1 ei122_
  refine J_LC (As := [.int (xs (Int32.toNatClampNeg (i3 + (1 : Int32))))]) (rest := []) (st' := [.int i122_]) ki122_ gC_X5_proper gM_L_52 (mRecv ha1 (by decide) jCl5) rfl (by decide) (by decide) rfl rfl (Nat.le_of_ble_eq_true rfl) dL_law_555 ?_
  refine J_aload_n 2 dL_law_558 rfl rfl ?_
  refine J_aload_n 0 dL_law_559 rfl rfl ?_
  refine J_iload_n 3 dL_law_560 rfl rfl ?_
  refine J_iconst (1 : Int32) dL_law_561 (by decide) ?_
  refine J_iadd dL_law_562 ?_
  refine J_Lsld dL_law_563 g120 ?_
  obtain ⟨i124_, ei124_, h125⟩ := bnd_some h123; clear h123
  have ki124_ := t_X6_proper ha2 ei124_
  refine J_LM (As := [.int (xs (Int32.toNatClampNeg (i3 + (1 : Int32))))]) (rest := [.int i122_]) (st' := [.int i124_, .int i122_]) ki124_ gC_X6_proper gM_L_56 (by rw [ha2]; exact nRecv) rfl (by decide) (by decide) rfl rfl (Nat.le_of_ble_eq_true rfl) dL_law_564 ?_
  refine J_icmp_eq 1780 dL_law_567 (by decide) h125 (fun c126 h127 => ?_) (fun c126 h127 => ?_)
  · clear h125
    refine J_iinc 3 (6 : Int32) dL_law_1780 rfl (by decide) (by decide) [1, 2, 3, 0] (lv' := [(0, .ref b), (1, .ref a1), (2, .ref a2), (3, .int (i3 + (6 : Int32)))]) rfl ?_
    refine J_goto 18 dL_law_1783 (by decide) ?_
    exact lh S M (i3 + (6 : Int32)) ha1 ha2 h127
  · clear h125
    refine J_iconst (0 : Int32) dL_law_570 (by decide) ?_
    have hw := Option.some.inj h127; subst hw
    exact J_zret rfl (by decide) dL_law_571
def l_case9 (a1 L : Nat) (xs : Nat → Int32) (K : Mem → MS → Int32 → Option (Int32 × Mem × MS)) (S : Mem) (M : MS) (i3 : Int32) : Option (Int32 × Mem × MS) :=
  gd (inB (i3 + (1 : Int32)) L) <|
  gd (inB (i3 + (2 : Int32)) L) <|
  bnd (c_X5_size S a1 (xs (Int32.toNatClampNeg (i3 + (1 : Int32)))) (xs (Int32.toNatClampNeg (i3 + (2 : Int32))))) fun i133_ =>
  bnd (m_X6_size M (xs (Int32.toNatClampNeg (i3 + (1 : Int32)))) (xs (Int32.toNatClampNeg (i3 + (2 : Int32))))) fun i135_ =>
  if i133_ = i135_ then
    (K S M (i3 + (6 : Int32)))
  else
    (some ((0 : Int32), S, M))
set_option maxRecDepth 100000 in
set_option maxHeartbeats 4000000 in
theorem t_case9 {nm : String} {a1 a2 b L : Nat} {xs : Nat → Int32} {K : Mem → MS → Int32 → Option (Int32 × Mem × MS)} {S : Mem} {M : MS} {i3 : Int32} {w : Int32 × Mem × MS} (ha1 : mKd S a1 = 6) (ha2 : a2 = M.1) (lh : ∀ (S : Mem) (M : MS) (i3 : Int32), mKd S a1 = 6 → a2 = M.1 → K S M i3 = some w → J LX (yl nm) cL_law 4 (some .boolean) 40 1500 18 [(0, .ref b), (1, .ref a1), (2, .ref a2), (3, .int i3)] [] (S, some M, b, L, xs) (some (.int w.1)) (w.2.1, some w.2.2, b, L, xs)) (h : l_case9 a1 L xs K S M i3 = some w) : J LX (yl nm) cL_law 4 (some .boolean) 40 1500 572 [(0, .ref b), (1, .ref a1), (2, .ref a2), (3, .int i3)] [] (S, some M, b, L, xs) (some (.int w.1)) (w.2.1, some w.2.2, b, L, xs) := by
  refine J_aload_n 1 dL_law_572 rfl rfl ?_
  refine J_aload_n 0 dL_law_573 rfl rfl ?_
  refine J_iload_n 3 dL_law_574 rfl rfl ?_
  refine J_iconst (1 : Int32) dL_law_575 (by decide) ?_
  refine J_iadd dL_law_576 ?_
  obtain ⟨g129, h130⟩ := gd_some h; clear h
  refine J_Lsld dL_law_577 g129 ?_
  refine J_aload_n 0 dL_law_578 rfl rfl ?_
  refine J_iload_n 3 dL_law_579 rfl rfl ?_
  refine J_iconst (2 : Int32) dL_law_580 (by decide) ?_
  refine J_iadd dL_law_581 ?_
  obtain ⟨g131, h132⟩ := gd_some h130; clear h130
  refine J_Lsld dL_law_582 g131 ?_
  obtain ⟨i133_, ei133_, h134⟩ := bnd_some h132; clear h132
  have ki133_ := t_X5_size ha1 ei133_
  refine J_LC (As := [.int (xs (Int32.toNatClampNeg (i3 + (1 : Int32)))), .int (xs (Int32.toNatClampNeg (i3 + (2 : Int32))))]) (rest := []) (st' := [.int i133_]) ki133_ gC_X5_size gM_L_57 (mRecv ha1 (by decide) jCl5) rfl (by decide) (by decide) rfl rfl (Nat.le_of_ble_eq_true rfl) dL_law_583 ?_
  refine J_aload_n 2 dL_law_586 rfl rfl ?_
  refine J_aload_n 0 dL_law_587 rfl rfl ?_
  refine J_iload_n 3 dL_law_588 rfl rfl ?_
  refine J_iconst (1 : Int32) dL_law_589 (by decide) ?_
  refine J_iadd dL_law_590 ?_
  refine J_Lsld dL_law_591 g129 ?_
  refine J_aload_n 0 dL_law_592 rfl rfl ?_
  refine J_iload_n 3 dL_law_593 rfl rfl ?_
  refine J_iconst (2 : Int32) dL_law_594 (by decide) ?_
  refine J_iadd dL_law_595 ?_
  refine J_Lsld dL_law_596 g131 ?_
  obtain ⟨i135_, ei135_, h136⟩ := bnd_some h134; clear h134
  have ki135_ := t_X6_size ha2 ei135_
  refine J_LM (As := [.int (xs (Int32.toNatClampNeg (i3 + (1 : Int32)))), .int (xs (Int32.toNatClampNeg (i3 + (2 : Int32))))]) (rest := [.int i133_]) (st' := [.int i135_, .int i133_]) ki135_ gC_X6_size gM_L_60 (by rw [ha2]; exact nRecv) rfl (by decide) (by decide) rfl rfl (Nat.le_of_ble_eq_true rfl) dL_law_597 ?_
  refine J_icmp_eq 1780 dL_law_600 (by decide) h136 (fun c137 h138 => ?_) (fun c137 h138 => ?_)
  · clear h136
    refine J_iinc 3 (6 : Int32) dL_law_1780 rfl (by decide) (by decide) [1, 2, 3, 0] (lv' := [(0, .ref b), (1, .ref a1), (2, .ref a2), (3, .int (i3 + (6 : Int32)))]) rfl ?_
    refine J_goto 18 dL_law_1783 (by decide) ?_
    exact lh S M (i3 + (6 : Int32)) ha1 ha2 h138
  · clear h136
    refine J_iconst (0 : Int32) dL_law_603 (by decide) ?_
    have hw := Option.some.inj h138; subst hw
    exact J_zret rfl (by decide) dL_law_604
def l_case10 (a1 L : Nat) (xs : Nat → Int32) (K : Mem → MS → Int32 → Option (Int32 × Mem × MS)) (S : Mem) (M : MS) (i3 : Int32) : Option (Int32 × Mem × MS) :=
  gd (inB (i3 + (1 : Int32)) L) <|
  gd (inB (i3 + (2 : Int32)) L) <|
  bnd2 (c_X5_meant S a1 (xs (Int32.toNatClampNeg (i3 + (1 : Int32)))) (xs (Int32.toNatClampNeg (i3 + (2 : Int32))))) fun i144_ S145 =>
  bnd2 (m_X6_meant M (xs (Int32.toNatClampNeg (i3 + (1 : Int32)))) (xs (Int32.toNatClampNeg (i3 + (2 : Int32))))) fun i147_ M148 =>
  if i144_ = i147_ then
    (K S145 M148 (i3 + (6 : Int32)))
  else
    (some ((0 : Int32), S145, M148))
set_option maxRecDepth 100000 in
set_option maxHeartbeats 4000000 in
theorem t_case10 {nm : String} {a1 a2 b L : Nat} {xs : Nat → Int32} {K : Mem → MS → Int32 → Option (Int32 × Mem × MS)} {S : Mem} {M : MS} {i3 : Int32} {w : Int32 × Mem × MS} (ha1 : mKd S a1 = 6) (ha2 : a2 = M.1) (lh : ∀ (S : Mem) (M : MS) (i3 : Int32), mKd S a1 = 6 → a2 = M.1 → K S M i3 = some w → J LX (yl nm) cL_law 4 (some .boolean) 40 1500 18 [(0, .ref b), (1, .ref a1), (2, .ref a2), (3, .int i3)] [] (S, some M, b, L, xs) (some (.int w.1)) (w.2.1, some w.2.2, b, L, xs)) (h : l_case10 a1 L xs K S M i3 = some w) : J LX (yl nm) cL_law 4 (some .boolean) 40 1500 605 [(0, .ref b), (1, .ref a1), (2, .ref a2), (3, .int i3)] [] (S, some M, b, L, xs) (some (.int w.1)) (w.2.1, some w.2.2, b, L, xs) := by
  refine J_aload_n 1 dL_law_605 rfl rfl ?_
  refine J_aload_n 0 dL_law_606 rfl rfl ?_
  refine J_iload_n 3 dL_law_607 rfl rfl ?_
  refine J_iconst (1 : Int32) dL_law_608 (by decide) ?_
  refine J_iadd dL_law_609 ?_
  obtain ⟨g140, h141⟩ := gd_some h; clear h
  refine J_Lsld dL_law_610 g140 ?_
  refine J_aload_n 0 dL_law_611 rfl rfl ?_
  refine J_iload_n 3 dL_law_612 rfl rfl ?_
  refine J_iconst (2 : Int32) dL_law_613 (by decide) ?_
  refine J_iadd dL_law_614 ?_
  obtain ⟨g142, h143⟩ := gd_some h141; clear h141
  refine J_Lsld dL_law_615 g142 ?_
  obtain ⟨i144_, S145, ei144_, h146⟩ := bnd2_some h143; clear h143
  have ki144_ := t_X5_meant ha1 ei144_
  have qS145 : mKd S145 a1 = 6 := kd_le ki144_.1 ha1
  refine J_LC (As := [.int (xs (Int32.toNatClampNeg (i3 + (1 : Int32)))), .int (xs (Int32.toNatClampNeg (i3 + (2 : Int32))))]) (rest := []) (st' := [.int i144_]) ki144_ gC_X5_meant gM_L_61 (mRecv ha1 (by decide) jCl5) rfl (by decide) (by decide) rfl rfl (Nat.le_of_ble_eq_true rfl) dL_law_616 ?_
  refine J_aload_n 2 dL_law_619 rfl rfl ?_
  refine J_aload_n 0 dL_law_620 rfl rfl ?_
  refine J_iload_n 3 dL_law_621 rfl rfl ?_
  refine J_iconst (1 : Int32) dL_law_622 (by decide) ?_
  refine J_iadd dL_law_623 ?_
  refine J_Lsld dL_law_624 g140 ?_
  refine J_aload_n 0 dL_law_625 rfl rfl ?_
  refine J_iload_n 3 dL_law_626 rfl rfl ?_
  refine J_iconst (2 : Int32) dL_law_627 (by decide) ?_
  refine J_iadd dL_law_628 ?_
  refine J_Lsld dL_law_629 g142 ?_
  obtain ⟨i147_, M148, ei147_, h149⟩ := bnd2_some h146; clear h146
  have ki147_ := t_X6_meant ha2 ei147_
  have qM148 : a2 = M148.1 := ha2.trans (nle_eq ki147_.1).symm
  refine J_LM (As := [.int (xs (Int32.toNatClampNeg (i3 + (1 : Int32)))), .int (xs (Int32.toNatClampNeg (i3 + (2 : Int32))))]) (rest := [.int i144_]) (st' := [.int i147_, .int i144_]) ki147_ gC_X6_meant gM_L_64 (by rw [ha2]; exact nRecv) rfl (by decide) (by decide) rfl rfl (Nat.le_of_ble_eq_true rfl) dL_law_630 ?_
  refine J_icmp_eq 1780 dL_law_633 (by decide) h149 (fun c150 h151 => ?_) (fun c150 h151 => ?_)
  · clear h149
    refine J_iinc 3 (6 : Int32) dL_law_1780 rfl (by decide) (by decide) [1, 2, 3, 0] (lv' := [(0, .ref b), (1, .ref a1), (2, .ref a2), (3, .int (i3 + (6 : Int32)))]) rfl ?_
    refine J_goto 18 dL_law_1783 (by decide) ?_
    exact lh S145 M148 (i3 + (6 : Int32)) qS145 qM148 h151
  · clear h149
    refine J_iconst (0 : Int32) dL_law_636 (by decide) ?_
    have hw := Option.some.inj h151; subst hw
    exact J_zret rfl (by decide) dL_law_637
def l_case11 (a1 L : Nat) (xs : Nat → Int32) (K : Mem → MS → Int32 → Option (Int32 × Mem × MS)) (S : Mem) (M : MS) (i3 : Int32) : Option (Int32 × Mem × MS) :=
  gd (inB (i3 + (1 : Int32)) L) <|
  gd (inB (i3 + (2 : Int32)) L) <|
  bnd2 (c_X5_asks S a1 (xs (Int32.toNatClampNeg (i3 + (1 : Int32)))) (xs (Int32.toNatClampNeg (i3 + (2 : Int32))))) fun i157_ S158 =>
  bnd2 (m_X6_asks M (xs (Int32.toNatClampNeg (i3 + (1 : Int32)))) (xs (Int32.toNatClampNeg (i3 + (2 : Int32))))) fun i160_ M161 =>
  if i157_ = i160_ then
    (K S158 M161 (i3 + (6 : Int32)))
  else
    (some ((0 : Int32), S158, M161))
set_option maxRecDepth 100000 in
set_option maxHeartbeats 4000000 in
theorem t_case11 {nm : String} {a1 a2 b L : Nat} {xs : Nat → Int32} {K : Mem → MS → Int32 → Option (Int32 × Mem × MS)} {S : Mem} {M : MS} {i3 : Int32} {w : Int32 × Mem × MS} (ha1 : mKd S a1 = 6) (ha2 : a2 = M.1) (lh : ∀ (S : Mem) (M : MS) (i3 : Int32), mKd S a1 = 6 → a2 = M.1 → K S M i3 = some w → J LX (yl nm) cL_law 4 (some .boolean) 40 1500 18 [(0, .ref b), (1, .ref a1), (2, .ref a2), (3, .int i3)] [] (S, some M, b, L, xs) (some (.int w.1)) (w.2.1, some w.2.2, b, L, xs)) (h : l_case11 a1 L xs K S M i3 = some w) : J LX (yl nm) cL_law 4 (some .boolean) 40 1500 638 [(0, .ref b), (1, .ref a1), (2, .ref a2), (3, .int i3)] [] (S, some M, b, L, xs) (some (.int w.1)) (w.2.1, some w.2.2, b, L, xs) := by
  refine J_aload_n 1 dL_law_638 rfl rfl ?_
  refine J_aload_n 0 dL_law_639 rfl rfl ?_
  refine J_iload_n 3 dL_law_640 rfl rfl ?_
  refine J_iconst (1 : Int32) dL_law_641 (by decide) ?_
  refine J_iadd dL_law_642 ?_
  obtain ⟨g153, h154⟩ := gd_some h; clear h
  refine J_Lsld dL_law_643 g153 ?_
  refine J_aload_n 0 dL_law_644 rfl rfl ?_
  refine J_iload_n 3 dL_law_645 rfl rfl ?_
  refine J_iconst (2 : Int32) dL_law_646 (by decide) ?_
  refine J_iadd dL_law_647 ?_
  obtain ⟨g155, h156⟩ := gd_some h154; clear h154
  refine J_Lsld dL_law_648 g155 ?_
  obtain ⟨i157_, S158, ei157_, h159⟩ := bnd2_some h156; clear h156
  have ki157_ := t_X5_asks ha1 ei157_
  have qS158 : mKd S158 a1 = 6 := kd_le ki157_.1 ha1
  refine J_LC (As := [.int (xs (Int32.toNatClampNeg (i3 + (1 : Int32)))), .int (xs (Int32.toNatClampNeg (i3 + (2 : Int32))))]) (rest := []) (st' := [.int i157_]) ki157_ gC_X5_asks gM_L_65 (mRecv ha1 (by decide) jCl5) rfl (by decide) (by decide) rfl rfl (Nat.le_of_ble_eq_true rfl) dL_law_649 ?_
  refine J_aload_n 2 dL_law_652 rfl rfl ?_
  refine J_aload_n 0 dL_law_653 rfl rfl ?_
  refine J_iload_n 3 dL_law_654 rfl rfl ?_
  refine J_iconst (1 : Int32) dL_law_655 (by decide) ?_
  refine J_iadd dL_law_656 ?_
  refine J_Lsld dL_law_657 g153 ?_
  refine J_aload_n 0 dL_law_658 rfl rfl ?_
  refine J_iload_n 3 dL_law_659 rfl rfl ?_
  refine J_iconst (2 : Int32) dL_law_660 (by decide) ?_
  refine J_iadd dL_law_661 ?_
  refine J_Lsld dL_law_662 g155 ?_
  obtain ⟨i160_, M161, ei160_, h162⟩ := bnd2_some h159; clear h159
  have ki160_ := t_X6_asks ha2 ei160_
  have qM161 : a2 = M161.1 := ha2.trans (nle_eq ki160_.1).symm
  refine J_LM (As := [.int (xs (Int32.toNatClampNeg (i3 + (1 : Int32)))), .int (xs (Int32.toNatClampNeg (i3 + (2 : Int32))))]) (rest := [.int i157_]) (st' := [.int i160_, .int i157_]) ki160_ gC_X6_asks gM_L_68 (by rw [ha2]; exact nRecv) rfl (by decide) (by decide) rfl rfl (Nat.le_of_ble_eq_true rfl) dL_law_663 ?_
  refine J_icmp_eq 1780 dL_law_666 (by decide) h162 (fun c163 h164 => ?_) (fun c163 h164 => ?_)
  · clear h162
    refine J_iinc 3 (6 : Int32) dL_law_1780 rfl (by decide) (by decide) [1, 2, 3, 0] (lv' := [(0, .ref b), (1, .ref a1), (2, .ref a2), (3, .int (i3 + (6 : Int32)))]) rfl ?_
    refine J_goto 18 dL_law_1783 (by decide) ?_
    exact lh S158 M161 (i3 + (6 : Int32)) qS158 qM161 h164
  · clear h162
    refine J_iconst (0 : Int32) dL_law_669 (by decide) ?_
    have hw := Option.some.inj h164; subst hw
    exact J_zret rfl (by decide) dL_law_670
def l_case12 (a1 L : Nat) (xs : Nat → Int32) (K : Mem → MS → Int32 → Option (Int32 × Mem × MS)) (S : Mem) (M : MS) (i3 : Int32) : Option (Int32 × Mem × MS) :=
  bnd (c_X5_trace S a1) fun i166_ =>
  bnd (m_X6_trace M) fun i168_ =>
  if i166_ = i168_ then
    (K S M (i3 + (6 : Int32)))
  else
    (some ((0 : Int32), S, M))
set_option maxRecDepth 100000 in
set_option maxHeartbeats 4000000 in
theorem t_case12 {nm : String} {a1 a2 b L : Nat} {xs : Nat → Int32} {K : Mem → MS → Int32 → Option (Int32 × Mem × MS)} {S : Mem} {M : MS} {i3 : Int32} {w : Int32 × Mem × MS} (ha1 : mKd S a1 = 6) (ha2 : a2 = M.1) (lh : ∀ (S : Mem) (M : MS) (i3 : Int32), mKd S a1 = 6 → a2 = M.1 → K S M i3 = some w → J LX (yl nm) cL_law 4 (some .boolean) 40 1500 18 [(0, .ref b), (1, .ref a1), (2, .ref a2), (3, .int i3)] [] (S, some M, b, L, xs) (some (.int w.1)) (w.2.1, some w.2.2, b, L, xs)) (h : l_case12 a1 L xs K S M i3 = some w) : J LX (yl nm) cL_law 4 (some .boolean) 40 1500 671 [(0, .ref b), (1, .ref a1), (2, .ref a2), (3, .int i3)] [] (S, some M, b, L, xs) (some (.int w.1)) (w.2.1, some w.2.2, b, L, xs) := by
  refine J_aload_n 1 dL_law_671 rfl rfl ?_
  obtain ⟨i166_, ei166_, h167⟩ := bnd_some h; clear h
  have ki166_ := t_X5_trace ha1 ei166_
  refine J_LC (As := []) (rest := []) (st' := [.int i166_]) ki166_ gC_X5_trace gM_L_69 (mRecv ha1 (by decide) jCl5) rfl (by decide) (by decide) rfl rfl (Nat.le_of_ble_eq_true rfl) dL_law_672 ?_
  refine J_aload_n 2 dL_law_675 rfl rfl ?_
  obtain ⟨i168_, ei168_, h169⟩ := bnd_some h167; clear h167
  have ki168_ := t_X6_trace ha2 ei168_
  refine J_LM (As := []) (rest := [.int i166_]) (st' := [.int i168_, .int i166_]) ki168_ gC_X6_trace gM_L_73 (by rw [ha2]; exact nRecv) rfl (by decide) (by decide) rfl rfl (Nat.le_of_ble_eq_true rfl) dL_law_676 ?_
  refine J_icmp_eq 1780 dL_law_679 (by decide) h169 (fun c170 h171 => ?_) (fun c170 h171 => ?_)
  · clear h169
    refine J_iinc 3 (6 : Int32) dL_law_1780 rfl (by decide) (by decide) [1, 2, 3, 0] (lv' := [(0, .ref b), (1, .ref a1), (2, .ref a2), (3, .int (i3 + (6 : Int32)))]) rfl ?_
    refine J_goto 18 dL_law_1783 (by decide) ?_
    exact lh S M (i3 + (6 : Int32)) ha1 ha2 h171
  · clear h169
    refine J_iconst (0 : Int32) dL_law_682 (by decide) ?_
    have hw := Option.some.inj h171; subst hw
    exact J_zret rfl (by decide) dL_law_683
def l_case13 (a1 L : Nat) (xs : Nat → Int32) (K : Mem → MS → Int32 → Option (Int32 × Mem × MS)) (S : Mem) (M : MS) (i3 : Int32) : Option (Int32 × Mem × MS) :=
  gd (inB (i3 + (1 : Int32)) L) <|
  gd (inB (i3 + (2 : Int32)) L) <|
  gd (inB (i3 + (3 : Int32)) L) <|
  gd (inB (i3 + (4 : Int32)) L) <|
  gd (inB (i3 + (5 : Int32)) L) <|
  bnd2 (c_X5_copy S a1 (xs (Int32.toNatClampNeg (i3 + (1 : Int32)))) (xs (Int32.toNatClampNeg (i3 + (2 : Int32)))) (xs (Int32.toNatClampNeg (i3 + (3 : Int32)))) (xs (Int32.toNatClampNeg (i3 + (4 : Int32)))) (xs (Int32.toNatClampNeg (i3 + (5 : Int32))))) fun i183_ S184 =>
  bnd2 (m_X6_copy M (xs (Int32.toNatClampNeg (i3 + (1 : Int32)))) (xs (Int32.toNatClampNeg (i3 + (2 : Int32)))) (xs (Int32.toNatClampNeg (i3 + (3 : Int32)))) (xs (Int32.toNatClampNeg (i3 + (4 : Int32)))) (xs (Int32.toNatClampNeg (i3 + (5 : Int32))))) fun i186_ M187 =>
  if i183_ = i186_ then
    (K S184 M187 (i3 + (6 : Int32)))
  else
    (some ((0 : Int32), S184, M187))
set_option maxRecDepth 100000 in
set_option maxHeartbeats 4000000 in
theorem t_case13 {nm : String} {a1 a2 b L : Nat} {xs : Nat → Int32} {K : Mem → MS → Int32 → Option (Int32 × Mem × MS)} {S : Mem} {M : MS} {i3 : Int32} {w : Int32 × Mem × MS} (ha1 : mKd S a1 = 6) (ha2 : a2 = M.1) (lh : ∀ (S : Mem) (M : MS) (i3 : Int32), mKd S a1 = 6 → a2 = M.1 → K S M i3 = some w → J LX (yl nm) cL_law 4 (some .boolean) 40 1500 18 [(0, .ref b), (1, .ref a1), (2, .ref a2), (3, .int i3)] [] (S, some M, b, L, xs) (some (.int w.1)) (w.2.1, some w.2.2, b, L, xs)) (h : l_case13 a1 L xs K S M i3 = some w) : J LX (yl nm) cL_law 4 (some .boolean) 40 1500 684 [(0, .ref b), (1, .ref a1), (2, .ref a2), (3, .int i3)] [] (S, some M, b, L, xs) (some (.int w.1)) (w.2.1, some w.2.2, b, L, xs) := by
  refine J_aload_n 1 dL_law_684 rfl rfl ?_
  refine J_aload_n 0 dL_law_685 rfl rfl ?_
  refine J_iload_n 3 dL_law_686 rfl rfl ?_
  refine J_iconst (1 : Int32) dL_law_687 (by decide) ?_
  refine J_iadd dL_law_688 ?_
  obtain ⟨g173, h174⟩ := gd_some h; clear h
  refine J_Lsld dL_law_689 g173 ?_
  refine J_aload_n 0 dL_law_690 rfl rfl ?_
  refine J_iload_n 3 dL_law_691 rfl rfl ?_
  refine J_iconst (2 : Int32) dL_law_692 (by decide) ?_
  refine J_iadd dL_law_693 ?_
  obtain ⟨g175, h176⟩ := gd_some h174; clear h174
  refine J_Lsld dL_law_694 g175 ?_
  refine J_aload_n 0 dL_law_695 rfl rfl ?_
  refine J_iload_n 3 dL_law_696 rfl rfl ?_
  refine J_iconst (3 : Int32) dL_law_697 (by decide) ?_
  refine J_iadd dL_law_698 ?_
  obtain ⟨g177, h178⟩ := gd_some h176; clear h176
  refine J_Lsld dL_law_699 g177 ?_
  refine J_aload_n 0 dL_law_700 rfl rfl ?_
  refine J_iload_n 3 dL_law_701 rfl rfl ?_
  refine J_iconst (4 : Int32) dL_law_702 (by decide) ?_
  refine J_iadd dL_law_703 ?_
  obtain ⟨g179, h180⟩ := gd_some h178; clear h178
  refine J_Lsld dL_law_704 g179 ?_
  refine J_aload_n 0 dL_law_705 rfl rfl ?_
  refine J_iload_n 3 dL_law_706 rfl rfl ?_
  refine J_iconst (5 : Int32) dL_law_707 (by decide) ?_
  refine J_iadd dL_law_708 ?_
  obtain ⟨g181, h182⟩ := gd_some h180; clear h180
  refine J_Lsld dL_law_709 g181 ?_
  obtain ⟨i183_, S184, ei183_, h185⟩ := bnd2_some h182; clear h182
  have ki183_ := t_X5_copy ha1 ei183_
  have qS184 : mKd S184 a1 = 6 := kd_le ki183_.1 ha1
  refine J_LC (As := [.int (xs (Int32.toNatClampNeg (i3 + (1 : Int32)))), .int (xs (Int32.toNatClampNeg (i3 + (2 : Int32)))), .int (xs (Int32.toNatClampNeg (i3 + (3 : Int32)))), .int (xs (Int32.toNatClampNeg (i3 + (4 : Int32)))), .int (xs (Int32.toNatClampNeg (i3 + (5 : Int32))))]) (rest := []) (st' := [.int i183_]) ki183_ gC_X5_copy gM_L_74 (mRecv ha1 (by decide) jCl5) rfl (by decide) (by decide) rfl rfl (Nat.le_of_ble_eq_true rfl) dL_law_710 ?_
  refine J_aload_n 2 dL_law_713 rfl rfl ?_
  refine J_aload_n 0 dL_law_714 rfl rfl ?_
  refine J_iload_n 3 dL_law_715 rfl rfl ?_
  refine J_iconst (1 : Int32) dL_law_716 (by decide) ?_
  refine J_iadd dL_law_717 ?_
  refine J_Lsld dL_law_718 g173 ?_
  refine J_aload_n 0 dL_law_719 rfl rfl ?_
  refine J_iload_n 3 dL_law_720 rfl rfl ?_
  refine J_iconst (2 : Int32) dL_law_721 (by decide) ?_
  refine J_iadd dL_law_722 ?_
  refine J_Lsld dL_law_723 g175 ?_
  refine J_aload_n 0 dL_law_724 rfl rfl ?_
  refine J_iload_n 3 dL_law_725 rfl rfl ?_
  refine J_iconst (3 : Int32) dL_law_726 (by decide) ?_
  refine J_iadd dL_law_727 ?_
  refine J_Lsld dL_law_728 g177 ?_
  refine J_aload_n 0 dL_law_729 rfl rfl ?_
  refine J_iload_n 3 dL_law_730 rfl rfl ?_
  refine J_iconst (4 : Int32) dL_law_731 (by decide) ?_
  refine J_iadd dL_law_732 ?_
  refine J_Lsld dL_law_733 g179 ?_
  refine J_aload_n 0 dL_law_734 rfl rfl ?_
  refine J_iload_n 3 dL_law_735 rfl rfl ?_
  refine J_iconst (5 : Int32) dL_law_736 (by decide) ?_
  refine J_iadd dL_law_737 ?_
  refine J_Lsld dL_law_738 g181 ?_
  obtain ⟨i186_, M187, ei186_, h188⟩ := bnd2_some h185; clear h185
  have ki186_ := t_X6_copy ha2 ei186_
  have qM187 : a2 = M187.1 := ha2.trans (nle_eq ki186_.1).symm
  refine J_LM (As := [.int (xs (Int32.toNatClampNeg (i3 + (1 : Int32)))), .int (xs (Int32.toNatClampNeg (i3 + (2 : Int32)))), .int (xs (Int32.toNatClampNeg (i3 + (3 : Int32)))), .int (xs (Int32.toNatClampNeg (i3 + (4 : Int32)))), .int (xs (Int32.toNatClampNeg (i3 + (5 : Int32))))]) (rest := [.int i183_]) (st' := [.int i186_, .int i183_]) ki186_ gC_X6_copy gM_L_78 (by rw [ha2]; exact nRecv) rfl (by decide) (by decide) rfl rfl (Nat.le_of_ble_eq_true rfl) dL_law_739 ?_
  refine J_icmp_eq 1780 dL_law_742 (by decide) h188 (fun c189 h190 => ?_) (fun c189 h190 => ?_)
  · clear h188
    refine J_iinc 3 (6 : Int32) dL_law_1780 rfl (by decide) (by decide) [1, 2, 3, 0] (lv' := [(0, .ref b), (1, .ref a1), (2, .ref a2), (3, .int (i3 + (6 : Int32)))]) rfl ?_
    refine J_goto 18 dL_law_1783 (by decide) ?_
    exact lh S184 M187 (i3 + (6 : Int32)) qS184 qM187 h190
  · clear h188
    refine J_iconst (0 : Int32) dL_law_745 (by decide) ?_
    have hw := Option.some.inj h190; subst hw
    exact J_zret rfl (by decide) dL_law_746
def l_case14 (a1 L : Nat) (xs : Nat → Int32) (K : Mem → MS → Int32 → Option (Int32 × Mem × MS)) (S : Mem) (M : MS) (i3 : Int32) : Option (Int32 × Mem × MS) :=
  bnd (c_X5_copied S a1) fun i192_ =>
  bnd (m_X6_copied M) fun i194_ =>
  if i192_ = i194_ then
    (K S M (i3 + (6 : Int32)))
  else
    (some ((0 : Int32), S, M))
set_option maxRecDepth 100000 in
set_option maxHeartbeats 4000000 in
theorem t_case14 {nm : String} {a1 a2 b L : Nat} {xs : Nat → Int32} {K : Mem → MS → Int32 → Option (Int32 × Mem × MS)} {S : Mem} {M : MS} {i3 : Int32} {w : Int32 × Mem × MS} (ha1 : mKd S a1 = 6) (ha2 : a2 = M.1) (lh : ∀ (S : Mem) (M : MS) (i3 : Int32), mKd S a1 = 6 → a2 = M.1 → K S M i3 = some w → J LX (yl nm) cL_law 4 (some .boolean) 40 1500 18 [(0, .ref b), (1, .ref a1), (2, .ref a2), (3, .int i3)] [] (S, some M, b, L, xs) (some (.int w.1)) (w.2.1, some w.2.2, b, L, xs)) (h : l_case14 a1 L xs K S M i3 = some w) : J LX (yl nm) cL_law 4 (some .boolean) 40 1500 747 [(0, .ref b), (1, .ref a1), (2, .ref a2), (3, .int i3)] [] (S, some M, b, L, xs) (some (.int w.1)) (w.2.1, some w.2.2, b, L, xs) := by
  refine J_aload_n 1 dL_law_747 rfl rfl ?_
  obtain ⟨i192_, ei192_, h193⟩ := bnd_some h; clear h
  have ki192_ := t_X5_copied ha1 ei192_
  refine J_LC (As := []) (rest := []) (st' := [.int i192_]) ki192_ gC_X5_copied gM_L_79 (mRecv ha1 (by decide) jCl5) rfl (by decide) (by decide) rfl rfl (Nat.le_of_ble_eq_true rfl) dL_law_748 ?_
  refine J_aload_n 2 dL_law_751 rfl rfl ?_
  obtain ⟨i194_, ei194_, h195⟩ := bnd_some h193; clear h193
  have ki194_ := t_X6_copied ha2 ei194_
  refine J_LM (As := []) (rest := [.int i192_]) (st' := [.int i194_, .int i192_]) ki194_ gC_X6_copied gM_L_82 (by rw [ha2]; exact nRecv) rfl (by decide) (by decide) rfl rfl (Nat.le_of_ble_eq_true rfl) dL_law_752 ?_
  refine J_icmp_eq 1780 dL_law_755 (by decide) h195 (fun c196 h197 => ?_) (fun c196 h197 => ?_)
  · clear h195
    refine J_iinc 3 (6 : Int32) dL_law_1780 rfl (by decide) (by decide) [1, 2, 3, 0] (lv' := [(0, .ref b), (1, .ref a1), (2, .ref a2), (3, .int (i3 + (6 : Int32)))]) rfl ?_
    refine J_goto 18 dL_law_1783 (by decide) ?_
    exact lh S M (i3 + (6 : Int32)) ha1 ha2 h197
  · clear h195
    refine J_iconst (0 : Int32) dL_law_758 (by decide) ?_
    have hw := Option.some.inj h197; subst hw
    exact J_zret rfl (by decide) dL_law_759
def l_case15 (a1 L : Nat) (xs : Nat → Int32) (K : Mem → MS → Int32 → Option (Int32 × Mem × MS)) (S : Mem) (M : MS) (i3 : Int32) : Option (Int32 × Mem × MS) :=
  gd (inB (i3 + (1 : Int32)) L) <|
  bnd (c_X5_digest S a1 (xs (Int32.toNatClampNeg (i3 + (1 : Int32))))) fun j201_ =>
  bnd (m_X6_digest M (xs (Int32.toNatClampNeg (i3 + (1 : Int32))))) fun j203_ =>
  if j201_ = j203_ then
    (K S M (i3 + (6 : Int32)))
  else
    (some ((0 : Int32), S, M))
set_option maxRecDepth 100000 in
set_option maxHeartbeats 4000000 in
theorem t_case15 {nm : String} {a1 a2 b L : Nat} {xs : Nat → Int32} {K : Mem → MS → Int32 → Option (Int32 × Mem × MS)} {S : Mem} {M : MS} {i3 : Int32} {w : Int32 × Mem × MS} (ha1 : mKd S a1 = 6) (ha2 : a2 = M.1) (lh : ∀ (S : Mem) (M : MS) (i3 : Int32), mKd S a1 = 6 → a2 = M.1 → K S M i3 = some w → J LX (yl nm) cL_law 4 (some .boolean) 40 1500 18 [(0, .ref b), (1, .ref a1), (2, .ref a2), (3, .int i3)] [] (S, some M, b, L, xs) (some (.int w.1)) (w.2.1, some w.2.2, b, L, xs)) (h : l_case15 a1 L xs K S M i3 = some w) : J LX (yl nm) cL_law 4 (some .boolean) 40 1500 760 [(0, .ref b), (1, .ref a1), (2, .ref a2), (3, .int i3)] [] (S, some M, b, L, xs) (some (.int w.1)) (w.2.1, some w.2.2, b, L, xs) := by
  refine J_aload_n 1 dL_law_760 rfl rfl ?_
  refine J_aload_n 0 dL_law_761 rfl rfl ?_
  refine J_iload_n 3 dL_law_762 rfl rfl ?_
  refine J_iconst (1 : Int32) dL_law_763 (by decide) ?_
  refine J_iadd dL_law_764 ?_
  obtain ⟨g199, h200⟩ := gd_some h; clear h
  refine J_Lsld dL_law_765 g199 ?_
  obtain ⟨j201_, ej201_, h202⟩ := bnd_some h200; clear h200
  have kj201_ := t_X5_digest ha1 ej201_
  refine J_LC (As := [.int (xs (Int32.toNatClampNeg (i3 + (1 : Int32))))]) (rest := []) (st' := [.long j201_]) kj201_ gC_X5_digest gM_L_83 (mRecv ha1 (by decide) jCl5) rfl (by decide) (by decide) rfl rfl (Nat.le_of_ble_eq_true rfl) dL_law_766 ?_
  refine J_aload_n 2 dL_law_769 rfl rfl ?_
  refine J_aload_n 0 dL_law_770 rfl rfl ?_
  refine J_iload_n 3 dL_law_771 rfl rfl ?_
  refine J_iconst (1 : Int32) dL_law_772 (by decide) ?_
  refine J_iadd dL_law_773 ?_
  refine J_Lsld dL_law_774 g199 ?_
  obtain ⟨j203_, ej203_, h204⟩ := bnd_some h202; clear h202
  have kj203_ := t_X6_digest ha2 ej203_
  refine J_LM (As := [.int (xs (Int32.toNatClampNeg (i3 + (1 : Int32))))]) (rest := [.long j201_]) (st' := [.long j203_, .long j201_]) kj203_ gC_X6_digest gM_L_86 (by rw [ha2]; exact nRecv) rfl (by decide) (by decide) rfl rfl (Nat.le_of_ble_eq_true rfl) dL_law_775 ?_
  refine J_lcmp_eq 1780 dL_law_778 dL_law_779 (by decide) h204 (fun c205 h206 => ?_) (fun c205 h206 => ?_)
  · clear h204
    refine J_iinc 3 (6 : Int32) dL_law_1780 rfl (by decide) (by decide) [1, 2, 3, 0] (lv' := [(0, .ref b), (1, .ref a1), (2, .ref a2), (3, .int (i3 + (6 : Int32)))]) rfl ?_
    refine J_goto 18 dL_law_1783 (by decide) ?_
    exact lh S M (i3 + (6 : Int32)) ha1 ha2 h206
  · clear h204
    refine J_iconst (0 : Int32) dL_law_782 (by decide) ?_
    have hw := Option.some.inj h206; subst hw
    exact J_zret rfl (by decide) dL_law_783
def l_case16 (a1 L : Nat) (xs : Nat → Int32) (K : Mem → MS → Int32 → Option (Int32 × Mem × MS)) (S : Mem) (M : MS) (i3 : Int32) : Option (Int32 × Mem × MS) :=
  gd (inB (i3 + (1 : Int32)) L) <|
  gd (inB (i3 + (2 : Int32)) L) <|
  bnd2 (c_X5_ofFloat S a1 (xs (Int32.toNatClampNeg (i3 + (1 : Int32)))) (xs (Int32.toNatClampNeg (i3 + (2 : Int32))))) fun i212_ S213 =>
  bnd2 (m_X6_ofFloat M (xs (Int32.toNatClampNeg (i3 + (1 : Int32)))) (xs (Int32.toNatClampNeg (i3 + (2 : Int32))))) fun i215_ M216 =>
  if i212_ = i215_ then
    (K S213 M216 (i3 + (6 : Int32)))
  else
    (some ((0 : Int32), S213, M216))
set_option maxRecDepth 100000 in
set_option maxHeartbeats 4000000 in
theorem t_case16 {nm : String} {a1 a2 b L : Nat} {xs : Nat → Int32} {K : Mem → MS → Int32 → Option (Int32 × Mem × MS)} {S : Mem} {M : MS} {i3 : Int32} {w : Int32 × Mem × MS} (ha1 : mKd S a1 = 6) (ha2 : a2 = M.1) (lh : ∀ (S : Mem) (M : MS) (i3 : Int32), mKd S a1 = 6 → a2 = M.1 → K S M i3 = some w → J LX (yl nm) cL_law 4 (some .boolean) 40 1500 18 [(0, .ref b), (1, .ref a1), (2, .ref a2), (3, .int i3)] [] (S, some M, b, L, xs) (some (.int w.1)) (w.2.1, some w.2.2, b, L, xs)) (h : l_case16 a1 L xs K S M i3 = some w) : J LX (yl nm) cL_law 4 (some .boolean) 40 1500 784 [(0, .ref b), (1, .ref a1), (2, .ref a2), (3, .int i3)] [] (S, some M, b, L, xs) (some (.int w.1)) (w.2.1, some w.2.2, b, L, xs) := by
  refine J_aload_n 1 dL_law_784 rfl rfl ?_
  refine J_aload_n 0 dL_law_785 rfl rfl ?_
  refine J_iload_n 3 dL_law_786 rfl rfl ?_
  refine J_iconst (1 : Int32) dL_law_787 (by decide) ?_
  refine J_iadd dL_law_788 ?_
  obtain ⟨g208, h209⟩ := gd_some h; clear h
  refine J_Lsld dL_law_789 g208 ?_
  refine J_aload_n 0 dL_law_790 rfl rfl ?_
  refine J_iload_n 3 dL_law_791 rfl rfl ?_
  refine J_iconst (2 : Int32) dL_law_792 (by decide) ?_
  refine J_iadd dL_law_793 ?_
  obtain ⟨g210, h211⟩ := gd_some h209; clear h209
  refine J_Lsld dL_law_794 g210 ?_
  obtain ⟨i212_, S213, ei212_, h214⟩ := bnd2_some h211; clear h211
  have ki212_ := t_X5_ofFloat ha1 ei212_
  have qS213 : mKd S213 a1 = 6 := kd_le ki212_.1 ha1
  refine J_LC (As := [.int (xs (Int32.toNatClampNeg (i3 + (1 : Int32)))), .int (xs (Int32.toNatClampNeg (i3 + (2 : Int32))))]) (rest := []) (st' := [.int i212_]) ki212_ gC_X5_ofFloat gM_L_87 (mRecv ha1 (by decide) jCl5) rfl (by decide) (by decide) rfl rfl (Nat.le_of_ble_eq_true rfl) dL_law_795 ?_
  refine J_aload_n 2 dL_law_798 rfl rfl ?_
  refine J_aload_n 0 dL_law_799 rfl rfl ?_
  refine J_iload_n 3 dL_law_800 rfl rfl ?_
  refine J_iconst (1 : Int32) dL_law_801 (by decide) ?_
  refine J_iadd dL_law_802 ?_
  refine J_Lsld dL_law_803 g208 ?_
  refine J_aload_n 0 dL_law_804 rfl rfl ?_
  refine J_iload_n 3 dL_law_805 rfl rfl ?_
  refine J_iconst (2 : Int32) dL_law_806 (by decide) ?_
  refine J_iadd dL_law_807 ?_
  refine J_Lsld dL_law_808 g210 ?_
  obtain ⟨i215_, M216, ei215_, h217⟩ := bnd2_some h214; clear h214
  have ki215_ := t_X6_ofFloat ha2 ei215_
  have qM216 : a2 = M216.1 := ha2.trans (nle_eq ki215_.1).symm
  refine J_LM (As := [.int (xs (Int32.toNatClampNeg (i3 + (1 : Int32)))), .int (xs (Int32.toNatClampNeg (i3 + (2 : Int32))))]) (rest := [.int i212_]) (st' := [.int i215_, .int i212_]) ki215_ gC_X6_ofFloat gM_L_90 (by rw [ha2]; exact nRecv) rfl (by decide) (by decide) rfl rfl (Nat.le_of_ble_eq_true rfl) dL_law_809 ?_
  refine J_icmp_eq 1780 dL_law_812 (by decide) h217 (fun c218 h219 => ?_) (fun c218 h219 => ?_)
  · clear h217
    refine J_iinc 3 (6 : Int32) dL_law_1780 rfl (by decide) (by decide) [1, 2, 3, 0] (lv' := [(0, .ref b), (1, .ref a1), (2, .ref a2), (3, .int (i3 + (6 : Int32)))]) rfl ?_
    refine J_goto 18 dL_law_1783 (by decide) ?_
    exact lh S213 M216 (i3 + (6 : Int32)) qS213 qM216 h219
  · clear h217
    refine J_iconst (0 : Int32) dL_law_815 (by decide) ?_
    have hw := Option.some.inj h219; subst hw
    exact J_zret rfl (by decide) dL_law_816
def l_case17 (a1 L : Nat) (xs : Nat → Int32) (K : Mem → MS → Int32 → Option (Int32 × Mem × MS)) (S : Mem) (M : MS) (i3 : Int32) : Option (Int32 × Mem × MS) :=
  gd (inB (i3 + (1 : Int32)) L) <|
  gd (inB (i3 + (2 : Int32)) L) <|
  gd (inB (i3 + (3 : Int32)) L) <|
  bnd2 (c_X5_ofDouble S a1 (xs (Int32.toNatClampNeg (i3 + (1 : Int32)))) (((Int32.toInt64 (xs (Int32.toNatClampNeg (i3 + (2 : Int32))))) <<< (Int32.toInt64 (32 : Int32) &&& 63)) ||| ((Int32.toInt64 (xs (Int32.toNatClampNeg (i3 + (3 : Int32))))) &&& (4294967295 : Int64)))) fun i227_ S228 =>
  bnd2 (m_X6_ofDouble M (xs (Int32.toNatClampNeg (i3 + (1 : Int32)))) (((Int32.toInt64 (xs (Int32.toNatClampNeg (i3 + (2 : Int32))))) <<< (Int32.toInt64 (32 : Int32) &&& 63)) ||| ((Int32.toInt64 (xs (Int32.toNatClampNeg (i3 + (3 : Int32))))) &&& (4294967295 : Int64)))) fun i230_ M231 =>
  if i227_ = i230_ then
    (K S228 M231 (i3 + (6 : Int32)))
  else
    (some ((0 : Int32), S228, M231))
set_option maxRecDepth 100000 in
set_option maxHeartbeats 4000000 in
theorem t_case17 {nm : String} {a1 a2 b L : Nat} {xs : Nat → Int32} {K : Mem → MS → Int32 → Option (Int32 × Mem × MS)} {S : Mem} {M : MS} {i3 : Int32} {w : Int32 × Mem × MS} (ha1 : mKd S a1 = 6) (ha2 : a2 = M.1) (lh : ∀ (S : Mem) (M : MS) (i3 : Int32), mKd S a1 = 6 → a2 = M.1 → K S M i3 = some w → J LX (yl nm) cL_law 4 (some .boolean) 40 1500 18 [(0, .ref b), (1, .ref a1), (2, .ref a2), (3, .int i3)] [] (S, some M, b, L, xs) (some (.int w.1)) (w.2.1, some w.2.2, b, L, xs)) (h : l_case17 a1 L xs K S M i3 = some w) : J LX (yl nm) cL_law 4 (some .boolean) 40 1500 817 [(0, .ref b), (1, .ref a1), (2, .ref a2), (3, .int i3)] [] (S, some M, b, L, xs) (some (.int w.1)) (w.2.1, some w.2.2, b, L, xs) := by
  refine J_aload_n 1 dL_law_817 rfl rfl ?_
  refine J_aload_n 0 dL_law_818 rfl rfl ?_
  refine J_iload_n 3 dL_law_819 rfl rfl ?_
  refine J_iconst (1 : Int32) dL_law_820 (by decide) ?_
  refine J_iadd dL_law_821 ?_
  obtain ⟨g221, h222⟩ := gd_some h; clear h
  refine J_Lsld dL_law_822 g221 ?_
  refine J_aload_n 0 dL_law_823 rfl rfl ?_
  refine J_iload_n 3 dL_law_824 rfl rfl ?_
  refine J_iconst (2 : Int32) dL_law_825 (by decide) ?_
  refine J_iadd dL_law_826 ?_
  obtain ⟨g223, h224⟩ := gd_some h222; clear h222
  refine J_Lsld dL_law_827 g223 ?_
  refine J_i2l dL_law_828 ?_
  refine J_bipush (32 : Int32) dL_law_829 (by decide) ?_
  refine J_lshl dL_law_831 ?_
  refine J_aload_n 0 dL_law_832 rfl rfl ?_
  refine J_iload_n 3 dL_law_833 rfl rfl ?_
  refine J_iconst (3 : Int32) dL_law_834 (by decide) ?_
  refine J_iadd dL_law_835 ?_
  obtain ⟨g225, h226⟩ := gd_some h224; clear h224
  refine J_Lsld dL_law_836 g225 ?_
  refine J_i2l dL_law_837 ?_
  refine J_ldc2 (4294967295 : Int64) dL_law_838 gK_L_45 ?_
  refine J_land dL_law_841 ?_
  refine J_lor dL_law_842 ?_
  obtain ⟨i227_, S228, ei227_, h229⟩ := bnd2_some h226; clear h226
  have ki227_ := t_X5_ofDouble ha1 ei227_
  have qS228 : mKd S228 a1 = 6 := kd_le ki227_.1 ha1
  refine J_LC (As := [.int (xs (Int32.toNatClampNeg (i3 + (1 : Int32)))), .long (((Int32.toInt64 (xs (Int32.toNatClampNeg (i3 + (2 : Int32))))) <<< (Int32.toInt64 (32 : Int32) &&& 63)) ||| ((Int32.toInt64 (xs (Int32.toNatClampNeg (i3 + (3 : Int32))))) &&& (4294967295 : Int64)))]) (rest := []) (st' := [.int i227_]) ki227_ gC_X5_ofDouble gM_L_91 (mRecv ha1 (by decide) jCl5) rfl (by decide) (by decide) rfl rfl (Nat.le_of_ble_eq_true rfl) dL_law_843 ?_
  refine J_aload_n 2 dL_law_846 rfl rfl ?_
  refine J_aload_n 0 dL_law_847 rfl rfl ?_
  refine J_iload_n 3 dL_law_848 rfl rfl ?_
  refine J_iconst (1 : Int32) dL_law_849 (by decide) ?_
  refine J_iadd dL_law_850 ?_
  refine J_Lsld dL_law_851 g221 ?_
  refine J_aload_n 0 dL_law_852 rfl rfl ?_
  refine J_iload_n 3 dL_law_853 rfl rfl ?_
  refine J_iconst (2 : Int32) dL_law_854 (by decide) ?_
  refine J_iadd dL_law_855 ?_
  refine J_Lsld dL_law_856 g223 ?_
  refine J_i2l dL_law_857 ?_
  refine J_bipush (32 : Int32) dL_law_858 (by decide) ?_
  refine J_lshl dL_law_860 ?_
  refine J_aload_n 0 dL_law_861 rfl rfl ?_
  refine J_iload_n 3 dL_law_862 rfl rfl ?_
  refine J_iconst (3 : Int32) dL_law_863 (by decide) ?_
  refine J_iadd dL_law_864 ?_
  refine J_Lsld dL_law_865 g225 ?_
  refine J_i2l dL_law_866 ?_
  refine J_ldc2 (4294967295 : Int64) dL_law_867 gK_L_45 ?_
  refine J_land dL_law_870 ?_
  refine J_lor dL_law_871 ?_
  obtain ⟨i230_, M231, ei230_, h232⟩ := bnd2_some h229; clear h229
  have ki230_ := t_X6_ofDouble ha2 ei230_
  have qM231 : a2 = M231.1 := ha2.trans (nle_eq ki230_.1).symm
  refine J_LM (As := [.int (xs (Int32.toNatClampNeg (i3 + (1 : Int32)))), .long (((Int32.toInt64 (xs (Int32.toNatClampNeg (i3 + (2 : Int32))))) <<< (Int32.toInt64 (32 : Int32) &&& 63)) ||| ((Int32.toInt64 (xs (Int32.toNatClampNeg (i3 + (3 : Int32))))) &&& (4294967295 : Int64)))]) (rest := [.int i227_]) (st' := [.int i230_, .int i227_]) ki230_ gC_X6_ofDouble gM_L_94 (by rw [ha2]; exact nRecv) rfl (by decide) (by decide) rfl rfl (Nat.le_of_ble_eq_true rfl) dL_law_872 ?_
  refine J_icmp_eq 1780 dL_law_875 (by decide) h232 (fun c233 h234 => ?_) (fun c233 h234 => ?_)
  · clear h232
    refine J_iinc 3 (6 : Int32) dL_law_1780 rfl (by decide) (by decide) [1, 2, 3, 0] (lv' := [(0, .ref b), (1, .ref a1), (2, .ref a2), (3, .int (i3 + (6 : Int32)))]) rfl ?_
    refine J_goto 18 dL_law_1783 (by decide) ?_
    exact lh S228 M231 (i3 + (6 : Int32)) qS228 qM231 h234
  · clear h232
    refine J_iconst (0 : Int32) dL_law_878 (by decide) ?_
    have hw := Option.some.inj h234; subst hw
    exact J_zret rfl (by decide) dL_law_879
def l_case18 (a1 L : Nat) (xs : Nat → Int32) (K : Mem → MS → Int32 → Option (Int32 × Mem × MS)) (S : Mem) (M : MS) (i3 : Int32) : Option (Int32 × Mem × MS) :=
  gd (inB (i3 + (1 : Int32)) L) <|
  gd (inB (i3 + (2 : Int32)) L) <|
  bnd (c_X5_restFloat a1 (xs (Int32.toNatClampNeg (i3 + (1 : Int32)))) (xs (Int32.toNatClampNeg (i3 + (2 : Int32))))) fun i240_ =>
  bnd (m_X6_restFloat (xs (Int32.toNatClampNeg (i3 + (1 : Int32)))) (xs (Int32.toNatClampNeg (i3 + (2 : Int32))))) fun i242_ =>
  if i240_ = i242_ then
    (K S M (i3 + (6 : Int32)))
  else
    (some ((0 : Int32), S, M))
set_option maxRecDepth 100000 in
set_option maxHeartbeats 4000000 in
theorem t_case18 {nm : String} {a1 a2 b L : Nat} {xs : Nat → Int32} {K : Mem → MS → Int32 → Option (Int32 × Mem × MS)} {S : Mem} {M : MS} {i3 : Int32} {w : Int32 × Mem × MS} (ha1 : mKd S a1 = 6) (ha2 : a2 = M.1) (lh : ∀ (S : Mem) (M : MS) (i3 : Int32), mKd S a1 = 6 → a2 = M.1 → K S M i3 = some w → J LX (yl nm) cL_law 4 (some .boolean) 40 1500 18 [(0, .ref b), (1, .ref a1), (2, .ref a2), (3, .int i3)] [] (S, some M, b, L, xs) (some (.int w.1)) (w.2.1, some w.2.2, b, L, xs)) (h : l_case18 a1 L xs K S M i3 = some w) : J LX (yl nm) cL_law 4 (some .boolean) 40 1500 880 [(0, .ref b), (1, .ref a1), (2, .ref a2), (3, .int i3)] [] (S, some M, b, L, xs) (some (.int w.1)) (w.2.1, some w.2.2, b, L, xs) := by
  refine J_aload_n 1 dL_law_880 rfl rfl ?_
  refine J_aload_n 0 dL_law_881 rfl rfl ?_
  refine J_iload_n 3 dL_law_882 rfl rfl ?_
  refine J_iconst (1 : Int32) dL_law_883 (by decide) ?_
  refine J_iadd dL_law_884 ?_
  obtain ⟨g236, h237⟩ := gd_some h; clear h
  refine J_Lsld dL_law_885 g236 ?_
  refine J_aload_n 0 dL_law_886 rfl rfl ?_
  refine J_iload_n 3 dL_law_887 rfl rfl ?_
  refine J_iconst (2 : Int32) dL_law_888 (by decide) ?_
  refine J_iadd dL_law_889 ?_
  obtain ⟨g238, h239⟩ := gd_some h237; clear h237
  refine J_Lsld dL_law_890 g238 ?_
  obtain ⟨i240_, ei240_, h241⟩ := bnd_some h239; clear h239
  have ki240_ := t_X5_restFloat ha1 ei240_
  refine J_LC (As := [.int (xs (Int32.toNatClampNeg (i3 + (1 : Int32)))), .int (xs (Int32.toNatClampNeg (i3 + (2 : Int32))))]) (rest := []) (st' := [.int i240_]) ki240_ gC_X5_restFloat gM_L_95 (mRecv ha1 (by decide) jCl5) rfl (by decide) (by decide) rfl rfl (Nat.le_of_ble_eq_true rfl) dL_law_891 ?_
  refine J_aload_n 2 dL_law_894 rfl rfl ?_
  refine J_aload_n 0 dL_law_895 rfl rfl ?_
  refine J_iload_n 3 dL_law_896 rfl rfl ?_
  refine J_iconst (1 : Int32) dL_law_897 (by decide) ?_
  refine J_iadd dL_law_898 ?_
  refine J_Lsld dL_law_899 g236 ?_
  refine J_aload_n 0 dL_law_900 rfl rfl ?_
  refine J_iload_n 3 dL_law_901 rfl rfl ?_
  refine J_iconst (2 : Int32) dL_law_902 (by decide) ?_
  refine J_iadd dL_law_903 ?_
  refine J_Lsld dL_law_904 g238 ?_
  obtain ⟨i242_, ei242_, h243⟩ := bnd_some h241; clear h241
  have ki242_ := t_X6_restFloat ha2 ei242_
  refine J_LM (As := [.int (xs (Int32.toNatClampNeg (i3 + (1 : Int32)))), .int (xs (Int32.toNatClampNeg (i3 + (2 : Int32))))]) (rest := [.int i240_]) (st' := [.int i242_, .int i240_]) ki242_ gC_X6_restFloat gM_L_98 (by rw [ha2]; exact nRecv) rfl (by decide) (by decide) rfl rfl (Nat.le_of_ble_eq_true rfl) dL_law_905 ?_
  refine J_icmp_eq 1780 dL_law_908 (by decide) h243 (fun c244 h245 => ?_) (fun c244 h245 => ?_)
  · clear h243
    refine J_iinc 3 (6 : Int32) dL_law_1780 rfl (by decide) (by decide) [1, 2, 3, 0] (lv' := [(0, .ref b), (1, .ref a1), (2, .ref a2), (3, .int (i3 + (6 : Int32)))]) rfl ?_
    refine J_goto 18 dL_law_1783 (by decide) ?_
    exact lh S M (i3 + (6 : Int32)) ha1 ha2 h245
  · clear h243
    refine J_iconst (0 : Int32) dL_law_911 (by decide) ?_
    have hw := Option.some.inj h245; subst hw
    exact J_zret rfl (by decide) dL_law_912
def l_case19 (a1 L : Nat) (xs : Nat → Int32) (K : Mem → MS → Int32 → Option (Int32 × Mem × MS)) (S : Mem) (M : MS) (i3 : Int32) : Option (Int32 × Mem × MS) :=
  gd (inB (i3 + (1 : Int32)) L) <|
  gd (inB (i3 + (2 : Int32)) L) <|
  gd (inB (i3 + (3 : Int32)) L) <|
  gd (inB (i3 + (4 : Int32)) L) <|
  bnd (c_X5_restDouble a1 (((Int32.toInt64 (xs (Int32.toNatClampNeg (i3 + (1 : Int32))))) <<< (Int32.toInt64 (32 : Int32) &&& 63)) ||| ((Int32.toInt64 (xs (Int32.toNatClampNeg (i3 + (2 : Int32))))) &&& (4294967295 : Int64))) (((Int32.toInt64 (xs (Int32.toNatClampNeg (i3 + (3 : Int32))))) <<< (Int32.toInt64 (32 : Int32) &&& 63)) ||| ((Int32.toInt64 (xs (Int32.toNatClampNeg (i3 + (4 : Int32))))) &&& (4294967295 : Int64)))) fun j255_ =>
  bnd (m_X6_restDouble (((Int32.toInt64 (xs (Int32.toNatClampNeg (i3 + (1 : Int32))))) <<< (Int32.toInt64 (32 : Int32) &&& 63)) ||| ((Int32.toInt64 (xs (Int32.toNatClampNeg (i3 + (2 : Int32))))) &&& (4294967295 : Int64))) (((Int32.toInt64 (xs (Int32.toNatClampNeg (i3 + (3 : Int32))))) <<< (Int32.toInt64 (32 : Int32) &&& 63)) ||| ((Int32.toInt64 (xs (Int32.toNatClampNeg (i3 + (4 : Int32))))) &&& (4294967295 : Int64)))) fun j257_ =>
  if j255_ = j257_ then
    (K S M (i3 + (6 : Int32)))
  else
    (some ((0 : Int32), S, M))
set_option maxRecDepth 100000 in
set_option maxHeartbeats 4000000 in
theorem t_case19 {nm : String} {a1 a2 b L : Nat} {xs : Nat → Int32} {K : Mem → MS → Int32 → Option (Int32 × Mem × MS)} {S : Mem} {M : MS} {i3 : Int32} {w : Int32 × Mem × MS} (ha1 : mKd S a1 = 6) (ha2 : a2 = M.1) (lh : ∀ (S : Mem) (M : MS) (i3 : Int32), mKd S a1 = 6 → a2 = M.1 → K S M i3 = some w → J LX (yl nm) cL_law 4 (some .boolean) 40 1500 18 [(0, .ref b), (1, .ref a1), (2, .ref a2), (3, .int i3)] [] (S, some M, b, L, xs) (some (.int w.1)) (w.2.1, some w.2.2, b, L, xs)) (h : l_case19 a1 L xs K S M i3 = some w) : J LX (yl nm) cL_law 4 (some .boolean) 40 1500 913 [(0, .ref b), (1, .ref a1), (2, .ref a2), (3, .int i3)] [] (S, some M, b, L, xs) (some (.int w.1)) (w.2.1, some w.2.2, b, L, xs) := by
  refine J_aload_n 1 dL_law_913 rfl rfl ?_
  refine J_aload_n 0 dL_law_914 rfl rfl ?_
  refine J_iload_n 3 dL_law_915 rfl rfl ?_
  refine J_iconst (1 : Int32) dL_law_916 (by decide) ?_
  refine J_iadd dL_law_917 ?_
  obtain ⟨g247, h248⟩ := gd_some h; clear h
  refine J_Lsld dL_law_918 g247 ?_
  refine J_i2l dL_law_919 ?_
  refine J_bipush (32 : Int32) dL_law_920 (by decide) ?_
  refine J_lshl dL_law_922 ?_
  refine J_aload_n 0 dL_law_923 rfl rfl ?_
  refine J_iload_n 3 dL_law_924 rfl rfl ?_
  refine J_iconst (2 : Int32) dL_law_925 (by decide) ?_
  refine J_iadd dL_law_926 ?_
  obtain ⟨g249, h250⟩ := gd_some h248; clear h248
  refine J_Lsld dL_law_927 g249 ?_
  refine J_i2l dL_law_928 ?_
  refine J_ldc2 (4294967295 : Int64) dL_law_929 gK_L_45 ?_
  refine J_land dL_law_932 ?_
  refine J_lor dL_law_933 ?_
  refine J_aload_n 0 dL_law_934 rfl rfl ?_
  refine J_iload_n 3 dL_law_935 rfl rfl ?_
  refine J_iconst (3 : Int32) dL_law_936 (by decide) ?_
  refine J_iadd dL_law_937 ?_
  obtain ⟨g251, h252⟩ := gd_some h250; clear h250
  refine J_Lsld dL_law_938 g251 ?_
  refine J_i2l dL_law_939 ?_
  refine J_bipush (32 : Int32) dL_law_940 (by decide) ?_
  refine J_lshl dL_law_942 ?_
  refine J_aload_n 0 dL_law_943 rfl rfl ?_
  refine J_iload_n 3 dL_law_944 rfl rfl ?_
  refine J_iconst (4 : Int32) dL_law_945 (by decide) ?_
  refine J_iadd dL_law_946 ?_
  obtain ⟨g253, h254⟩ := gd_some h252; clear h252
  refine J_Lsld dL_law_947 g253 ?_
  refine J_i2l dL_law_948 ?_
  refine J_ldc2 (4294967295 : Int64) dL_law_949 gK_L_45 ?_
  refine J_land dL_law_952 ?_
  refine J_lor dL_law_953 ?_
  obtain ⟨j255_, ej255_, h256⟩ := bnd_some h254; clear h254
  have kj255_ := t_X5_restDouble ha1 ej255_
  refine J_LC (As := [.long (((Int32.toInt64 (xs (Int32.toNatClampNeg (i3 + (1 : Int32))))) <<< (Int32.toInt64 (32 : Int32) &&& 63)) ||| ((Int32.toInt64 (xs (Int32.toNatClampNeg (i3 + (2 : Int32))))) &&& (4294967295 : Int64))), .long (((Int32.toInt64 (xs (Int32.toNatClampNeg (i3 + (3 : Int32))))) <<< (Int32.toInt64 (32 : Int32) &&& 63)) ||| ((Int32.toInt64 (xs (Int32.toNatClampNeg (i3 + (4 : Int32))))) &&& (4294967295 : Int64)))]) (rest := []) (st' := [.long j255_]) kj255_ gC_X5_restDouble gM_L_99 (mRecv ha1 (by decide) jCl5) rfl (by decide) (by decide) rfl rfl (Nat.le_of_ble_eq_true rfl) dL_law_954 ?_
  refine J_aload_n 2 dL_law_957 rfl rfl ?_
  refine J_aload_n 0 dL_law_958 rfl rfl ?_
  refine J_iload_n 3 dL_law_959 rfl rfl ?_
  refine J_iconst (1 : Int32) dL_law_960 (by decide) ?_
  refine J_iadd dL_law_961 ?_
  refine J_Lsld dL_law_962 g247 ?_
  refine J_i2l dL_law_963 ?_
  refine J_bipush (32 : Int32) dL_law_964 (by decide) ?_
  refine J_lshl dL_law_966 ?_
  refine J_aload_n 0 dL_law_967 rfl rfl ?_
  refine J_iload_n 3 dL_law_968 rfl rfl ?_
  refine J_iconst (2 : Int32) dL_law_969 (by decide) ?_
  refine J_iadd dL_law_970 ?_
  refine J_Lsld dL_law_971 g249 ?_
  refine J_i2l dL_law_972 ?_
  refine J_ldc2 (4294967295 : Int64) dL_law_973 gK_L_45 ?_
  refine J_land dL_law_976 ?_
  refine J_lor dL_law_977 ?_
  refine J_aload_n 0 dL_law_978 rfl rfl ?_
  refine J_iload_n 3 dL_law_979 rfl rfl ?_
  refine J_iconst (3 : Int32) dL_law_980 (by decide) ?_
  refine J_iadd dL_law_981 ?_
  refine J_Lsld dL_law_982 g251 ?_
  refine J_i2l dL_law_983 ?_
  refine J_bipush (32 : Int32) dL_law_984 (by decide) ?_
  refine J_lshl dL_law_986 ?_
  refine J_aload_n 0 dL_law_987 rfl rfl ?_
  refine J_iload_n 3 dL_law_988 rfl rfl ?_
  refine J_iconst (4 : Int32) dL_law_989 (by decide) ?_
  refine J_iadd dL_law_990 ?_
  refine J_Lsld dL_law_991 g253 ?_
  refine J_i2l dL_law_992 ?_
  refine J_ldc2 (4294967295 : Int64) dL_law_993 gK_L_45 ?_
  refine J_land dL_law_996 ?_
  refine J_lor dL_law_997 ?_
  obtain ⟨j257_, ej257_, h258⟩ := bnd_some h256; clear h256
  have kj257_ := t_X6_restDouble ha2 ej257_
  refine J_LM (As := [.long (((Int32.toInt64 (xs (Int32.toNatClampNeg (i3 + (1 : Int32))))) <<< (Int32.toInt64 (32 : Int32) &&& 63)) ||| ((Int32.toInt64 (xs (Int32.toNatClampNeg (i3 + (2 : Int32))))) &&& (4294967295 : Int64))), .long (((Int32.toInt64 (xs (Int32.toNatClampNeg (i3 + (3 : Int32))))) <<< (Int32.toInt64 (32 : Int32) &&& 63)) ||| ((Int32.toInt64 (xs (Int32.toNatClampNeg (i3 + (4 : Int32))))) &&& (4294967295 : Int64)))]) (rest := [.long j255_]) (st' := [.long j257_, .long j255_]) kj257_ gC_X6_restDouble gM_L_103 (by rw [ha2]; exact nRecv) rfl (by decide) (by decide) rfl rfl (Nat.le_of_ble_eq_true rfl) dL_law_998 ?_
  refine J_lcmp_eq 1780 dL_law_1001 dL_law_1002 (by decide) h258 (fun c259 h260 => ?_) (fun c259 h260 => ?_)
  · clear h258
    refine J_iinc 3 (6 : Int32) dL_law_1780 rfl (by decide) (by decide) [1, 2, 3, 0] (lv' := [(0, .ref b), (1, .ref a1), (2, .ref a2), (3, .int (i3 + (6 : Int32)))]) rfl ?_
    refine J_goto 18 dL_law_1783 (by decide) ?_
    exact lh S M (i3 + (6 : Int32)) ha1 ha2 h260
  · clear h258
    refine J_iconst (0 : Int32) dL_law_1005 (by decide) ?_
    have hw := Option.some.inj h260; subst hw
    exact J_zret rfl (by decide) dL_law_1006
def l_case20 (a1 L : Nat) (xs : Nat → Int32) (K : Mem → MS → Int32 → Option (Int32 × Mem × MS)) (S : Mem) (M : MS) (i3 : Int32) : Option (Int32 × Mem × MS) :=
  gd (inB (i3 + (1 : Int32)) L) <|
  gd (inB (i3 + (2 : Int32)) L) <|
  gd (inB (i3 + (3 : Int32)) L) <|
  bnd2 (c_X5_add S a1 (xs (Int32.toNatClampNeg (i3 + (1 : Int32)))) (((Int32.toInt64 (xs (Int32.toNatClampNeg (i3 + (2 : Int32))))) <<< (Int32.toInt64 (32 : Int32) &&& 63)) ||| ((Int32.toInt64 (xs (Int32.toNatClampNeg (i3 + (3 : Int32))))) &&& (4294967295 : Int64)))) fun i268_ S269 =>
  bnd2 (m_X6_add M (xs (Int32.toNatClampNeg (i3 + (1 : Int32)))) (((Int32.toInt64 (xs (Int32.toNatClampNeg (i3 + (2 : Int32))))) <<< (Int32.toInt64 (32 : Int32) &&& 63)) ||| ((Int32.toInt64 (xs (Int32.toNatClampNeg (i3 + (3 : Int32))))) &&& (4294967295 : Int64)))) fun i271_ M272 =>
  if i268_ = i271_ then
    (K S269 M272 (i3 + (6 : Int32)))
  else
    (some ((0 : Int32), S269, M272))
set_option maxRecDepth 100000 in
set_option maxHeartbeats 4000000 in
theorem t_case20 {nm : String} {a1 a2 b L : Nat} {xs : Nat → Int32} {K : Mem → MS → Int32 → Option (Int32 × Mem × MS)} {S : Mem} {M : MS} {i3 : Int32} {w : Int32 × Mem × MS} (ha1 : mKd S a1 = 6) (ha2 : a2 = M.1) (lh : ∀ (S : Mem) (M : MS) (i3 : Int32), mKd S a1 = 6 → a2 = M.1 → K S M i3 = some w → J LX (yl nm) cL_law 4 (some .boolean) 40 1500 18 [(0, .ref b), (1, .ref a1), (2, .ref a2), (3, .int i3)] [] (S, some M, b, L, xs) (some (.int w.1)) (w.2.1, some w.2.2, b, L, xs)) (h : l_case20 a1 L xs K S M i3 = some w) : J LX (yl nm) cL_law 4 (some .boolean) 40 1500 1007 [(0, .ref b), (1, .ref a1), (2, .ref a2), (3, .int i3)] [] (S, some M, b, L, xs) (some (.int w.1)) (w.2.1, some w.2.2, b, L, xs) := by
  refine J_aload_n 1 dL_law_1007 rfl rfl ?_
  refine J_aload_n 0 dL_law_1008 rfl rfl ?_
  refine J_iload_n 3 dL_law_1009 rfl rfl ?_
  refine J_iconst (1 : Int32) dL_law_1010 (by decide) ?_
  refine J_iadd dL_law_1011 ?_
  obtain ⟨g262, h263⟩ := gd_some h; clear h
  refine J_Lsld dL_law_1012 g262 ?_
  refine J_aload_n 0 dL_law_1013 rfl rfl ?_
  refine J_iload_n 3 dL_law_1014 rfl rfl ?_
  refine J_iconst (2 : Int32) dL_law_1015 (by decide) ?_
  refine J_iadd dL_law_1016 ?_
  obtain ⟨g264, h265⟩ := gd_some h263; clear h263
  refine J_Lsld dL_law_1017 g264 ?_
  refine J_i2l dL_law_1018 ?_
  refine J_bipush (32 : Int32) dL_law_1019 (by decide) ?_
  refine J_lshl dL_law_1021 ?_
  refine J_aload_n 0 dL_law_1022 rfl rfl ?_
  refine J_iload_n 3 dL_law_1023 rfl rfl ?_
  refine J_iconst (3 : Int32) dL_law_1024 (by decide) ?_
  refine J_iadd dL_law_1025 ?_
  obtain ⟨g266, h267⟩ := gd_some h265; clear h265
  refine J_Lsld dL_law_1026 g266 ?_
  refine J_i2l dL_law_1027 ?_
  refine J_ldc2 (4294967295 : Int64) dL_law_1028 gK_L_45 ?_
  refine J_land dL_law_1031 ?_
  refine J_lor dL_law_1032 ?_
  obtain ⟨i268_, S269, ei268_, h270⟩ := bnd2_some h267; clear h267
  have ki268_ := t_X5_add ha1 ei268_
  have qS269 : mKd S269 a1 = 6 := kd_le ki268_.1 ha1
  refine J_LC (As := [.int (xs (Int32.toNatClampNeg (i3 + (1 : Int32)))), .long (((Int32.toInt64 (xs (Int32.toNatClampNeg (i3 + (2 : Int32))))) <<< (Int32.toInt64 (32 : Int32) &&& 63)) ||| ((Int32.toInt64 (xs (Int32.toNatClampNeg (i3 + (3 : Int32))))) &&& (4294967295 : Int64)))]) (rest := []) (st' := [.int i268_]) ki268_ gC_X5_add gM_L_104 (mRecv ha1 (by decide) jCl5) rfl (by decide) (by decide) rfl rfl (Nat.le_of_ble_eq_true rfl) dL_law_1033 ?_
  refine J_aload_n 2 dL_law_1036 rfl rfl ?_
  refine J_aload_n 0 dL_law_1037 rfl rfl ?_
  refine J_iload_n 3 dL_law_1038 rfl rfl ?_
  refine J_iconst (1 : Int32) dL_law_1039 (by decide) ?_
  refine J_iadd dL_law_1040 ?_
  refine J_Lsld dL_law_1041 g262 ?_
  refine J_aload_n 0 dL_law_1042 rfl rfl ?_
  refine J_iload_n 3 dL_law_1043 rfl rfl ?_
  refine J_iconst (2 : Int32) dL_law_1044 (by decide) ?_
  refine J_iadd dL_law_1045 ?_
  refine J_Lsld dL_law_1046 g264 ?_
  refine J_i2l dL_law_1047 ?_
  refine J_bipush (32 : Int32) dL_law_1048 (by decide) ?_
  refine J_lshl dL_law_1050 ?_
  refine J_aload_n 0 dL_law_1051 rfl rfl ?_
  refine J_iload_n 3 dL_law_1052 rfl rfl ?_
  refine J_iconst (3 : Int32) dL_law_1053 (by decide) ?_
  refine J_iadd dL_law_1054 ?_
  refine J_Lsld dL_law_1055 g266 ?_
  refine J_i2l dL_law_1056 ?_
  refine J_ldc2 (4294967295 : Int64) dL_law_1057 gK_L_45 ?_
  refine J_land dL_law_1060 ?_
  refine J_lor dL_law_1061 ?_
  obtain ⟨i271_, M272, ei271_, h273⟩ := bnd2_some h270; clear h270
  have ki271_ := t_X6_add ha2 ei271_
  have qM272 : a2 = M272.1 := ha2.trans (nle_eq ki271_.1).symm
  refine J_LM (As := [.int (xs (Int32.toNatClampNeg (i3 + (1 : Int32)))), .long (((Int32.toInt64 (xs (Int32.toNatClampNeg (i3 + (2 : Int32))))) <<< (Int32.toInt64 (32 : Int32) &&& 63)) ||| ((Int32.toInt64 (xs (Int32.toNatClampNeg (i3 + (3 : Int32))))) &&& (4294967295 : Int64)))]) (rest := [.int i268_]) (st' := [.int i271_, .int i268_]) ki271_ gC_X6_add gM_L_107 (by rw [ha2]; exact nRecv) rfl (by decide) (by decide) rfl rfl (Nat.le_of_ble_eq_true rfl) dL_law_1062 ?_
  refine J_icmp_eq 1780 dL_law_1065 (by decide) h273 (fun c274 h275 => ?_) (fun c274 h275 => ?_)
  · clear h273
    refine J_iinc 3 (6 : Int32) dL_law_1780 rfl (by decide) (by decide) [1, 2, 3, 0] (lv' := [(0, .ref b), (1, .ref a1), (2, .ref a2), (3, .int (i3 + (6 : Int32)))]) rfl ?_
    refine J_goto 18 dL_law_1783 (by decide) ?_
    exact lh S269 M272 (i3 + (6 : Int32)) qS269 qM272 h275
  · clear h273
    refine J_iconst (0 : Int32) dL_law_1068 (by decide) ?_
    have hw := Option.some.inj h275; subst hw
    exact J_zret rfl (by decide) dL_law_1069
def l_case21 (a1 L : Nat) (xs : Nat → Int32) (K : Mem → MS → Int32 → Option (Int32 × Mem × MS)) (S : Mem) (M : MS) (i3 : Int32) : Option (Int32 × Mem × MS) :=
  gd (inB (i3 + (1 : Int32)) L) <|
  gd (inB (i3 + (2 : Int32)) L) <|
  gd (inB (i3 + (3 : Int32)) L) <|
  bnd2 (c_X5_less S a1 (xs (Int32.toNatClampNeg (i3 + (1 : Int32)))) (((Int32.toInt64 (xs (Int32.toNatClampNeg (i3 + (2 : Int32))))) <<< (Int32.toInt64 (32 : Int32) &&& 63)) ||| ((Int32.toInt64 (xs (Int32.toNatClampNeg (i3 + (3 : Int32))))) &&& (4294967295 : Int64)))) fun i283_ S284 =>
  bnd2 (m_X6_less M (xs (Int32.toNatClampNeg (i3 + (1 : Int32)))) (((Int32.toInt64 (xs (Int32.toNatClampNeg (i3 + (2 : Int32))))) <<< (Int32.toInt64 (32 : Int32) &&& 63)) ||| ((Int32.toInt64 (xs (Int32.toNatClampNeg (i3 + (3 : Int32))))) &&& (4294967295 : Int64)))) fun i286_ M287 =>
  if i283_ = i286_ then
    (K S284 M287 (i3 + (6 : Int32)))
  else
    (some ((0 : Int32), S284, M287))
set_option maxRecDepth 100000 in
set_option maxHeartbeats 4000000 in
theorem t_case21 {nm : String} {a1 a2 b L : Nat} {xs : Nat → Int32} {K : Mem → MS → Int32 → Option (Int32 × Mem × MS)} {S : Mem} {M : MS} {i3 : Int32} {w : Int32 × Mem × MS} (ha1 : mKd S a1 = 6) (ha2 : a2 = M.1) (lh : ∀ (S : Mem) (M : MS) (i3 : Int32), mKd S a1 = 6 → a2 = M.1 → K S M i3 = some w → J LX (yl nm) cL_law 4 (some .boolean) 40 1500 18 [(0, .ref b), (1, .ref a1), (2, .ref a2), (3, .int i3)] [] (S, some M, b, L, xs) (some (.int w.1)) (w.2.1, some w.2.2, b, L, xs)) (h : l_case21 a1 L xs K S M i3 = some w) : J LX (yl nm) cL_law 4 (some .boolean) 40 1500 1070 [(0, .ref b), (1, .ref a1), (2, .ref a2), (3, .int i3)] [] (S, some M, b, L, xs) (some (.int w.1)) (w.2.1, some w.2.2, b, L, xs) := by
  refine J_aload_n 1 dL_law_1070 rfl rfl ?_
  refine J_aload_n 0 dL_law_1071 rfl rfl ?_
  refine J_iload_n 3 dL_law_1072 rfl rfl ?_
  refine J_iconst (1 : Int32) dL_law_1073 (by decide) ?_
  refine J_iadd dL_law_1074 ?_
  obtain ⟨g277, h278⟩ := gd_some h; clear h
  refine J_Lsld dL_law_1075 g277 ?_
  refine J_aload_n 0 dL_law_1076 rfl rfl ?_
  refine J_iload_n 3 dL_law_1077 rfl rfl ?_
  refine J_iconst (2 : Int32) dL_law_1078 (by decide) ?_
  refine J_iadd dL_law_1079 ?_
  obtain ⟨g279, h280⟩ := gd_some h278; clear h278
  refine J_Lsld dL_law_1080 g279 ?_
  refine J_i2l dL_law_1081 ?_
  refine J_bipush (32 : Int32) dL_law_1082 (by decide) ?_
  refine J_lshl dL_law_1084 ?_
  refine J_aload_n 0 dL_law_1085 rfl rfl ?_
  refine J_iload_n 3 dL_law_1086 rfl rfl ?_
  refine J_iconst (3 : Int32) dL_law_1087 (by decide) ?_
  refine J_iadd dL_law_1088 ?_
  obtain ⟨g281, h282⟩ := gd_some h280; clear h280
  refine J_Lsld dL_law_1089 g281 ?_
  refine J_i2l dL_law_1090 ?_
  refine J_ldc2 (4294967295 : Int64) dL_law_1091 gK_L_45 ?_
  refine J_land dL_law_1094 ?_
  refine J_lor dL_law_1095 ?_
  obtain ⟨i283_, S284, ei283_, h285⟩ := bnd2_some h282; clear h282
  have ki283_ := t_X5_less ha1 ei283_
  have qS284 : mKd S284 a1 = 6 := kd_le ki283_.1 ha1
  refine J_LC (As := [.int (xs (Int32.toNatClampNeg (i3 + (1 : Int32)))), .long (((Int32.toInt64 (xs (Int32.toNatClampNeg (i3 + (2 : Int32))))) <<< (Int32.toInt64 (32 : Int32) &&& 63)) ||| ((Int32.toInt64 (xs (Int32.toNatClampNeg (i3 + (3 : Int32))))) &&& (4294967295 : Int64)))]) (rest := []) (st' := [.int i283_]) ki283_ gC_X5_less gM_L_108 (mRecv ha1 (by decide) jCl5) rfl (by decide) (by decide) rfl rfl (Nat.le_of_ble_eq_true rfl) dL_law_1096 ?_
  refine J_aload_n 2 dL_law_1099 rfl rfl ?_
  refine J_aload_n 0 dL_law_1100 rfl rfl ?_
  refine J_iload_n 3 dL_law_1101 rfl rfl ?_
  refine J_iconst (1 : Int32) dL_law_1102 (by decide) ?_
  refine J_iadd dL_law_1103 ?_
  refine J_Lsld dL_law_1104 g277 ?_
  refine J_aload_n 0 dL_law_1105 rfl rfl ?_
  refine J_iload_n 3 dL_law_1106 rfl rfl ?_
  refine J_iconst (2 : Int32) dL_law_1107 (by decide) ?_
  refine J_iadd dL_law_1108 ?_
  refine J_Lsld dL_law_1109 g279 ?_
  refine J_i2l dL_law_1110 ?_
  refine J_bipush (32 : Int32) dL_law_1111 (by decide) ?_
  refine J_lshl dL_law_1113 ?_
  refine J_aload_n 0 dL_law_1114 rfl rfl ?_
  refine J_iload_n 3 dL_law_1115 rfl rfl ?_
  refine J_iconst (3 : Int32) dL_law_1116 (by decide) ?_
  refine J_iadd dL_law_1117 ?_
  refine J_Lsld dL_law_1118 g281 ?_
  refine J_i2l dL_law_1119 ?_
  refine J_ldc2 (4294967295 : Int64) dL_law_1120 gK_L_45 ?_
  refine J_land dL_law_1123 ?_
  refine J_lor dL_law_1124 ?_
  obtain ⟨i286_, M287, ei286_, h288⟩ := bnd2_some h285; clear h285
  have ki286_ := t_X6_less ha2 ei286_
  have qM287 : a2 = M287.1 := ha2.trans (nle_eq ki286_.1).symm
  refine J_LM (As := [.int (xs (Int32.toNatClampNeg (i3 + (1 : Int32)))), .long (((Int32.toInt64 (xs (Int32.toNatClampNeg (i3 + (2 : Int32))))) <<< (Int32.toInt64 (32 : Int32) &&& 63)) ||| ((Int32.toInt64 (xs (Int32.toNatClampNeg (i3 + (3 : Int32))))) &&& (4294967295 : Int64)))]) (rest := [.int i283_]) (st' := [.int i286_, .int i283_]) ki286_ gC_X6_less gM_L_111 (by rw [ha2]; exact nRecv) rfl (by decide) (by decide) rfl rfl (Nat.le_of_ble_eq_true rfl) dL_law_1125 ?_
  refine J_icmp_eq 1780 dL_law_1128 (by decide) h288 (fun c289 h290 => ?_) (fun c289 h290 => ?_)
  · clear h288
    refine J_iinc 3 (6 : Int32) dL_law_1780 rfl (by decide) (by decide) [1, 2, 3, 0] (lv' := [(0, .ref b), (1, .ref a1), (2, .ref a2), (3, .int (i3 + (6 : Int32)))]) rfl ?_
    refine J_goto 18 dL_law_1783 (by decide) ?_
    exact lh S284 M287 (i3 + (6 : Int32)) qS284 qM287 h290
  · clear h288
    refine J_iconst (0 : Int32) dL_law_1131 (by decide) ?_
    have hw := Option.some.inj h290; subst hw
    exact J_zret rfl (by decide) dL_law_1132
def l_case22 (a1 L : Nat) (xs : Nat → Int32) (K : Mem → MS → Int32 → Option (Int32 × Mem × MS)) (S : Mem) (M : MS) (i3 : Int32) : Option (Int32 × Mem × MS) :=
  gd (inB (i3 + (1 : Int32)) L) <|
  gd (inB (i3 + (2 : Int32)) L) <|
  gd (inB (i3 + (3 : Int32)) L) <|
  bnd2 (c_X5_times S a1 (xs (Int32.toNatClampNeg (i3 + (1 : Int32)))) (((Int32.toInt64 (xs (Int32.toNatClampNeg (i3 + (2 : Int32))))) <<< (Int32.toInt64 (32 : Int32) &&& 63)) ||| ((Int32.toInt64 (xs (Int32.toNatClampNeg (i3 + (3 : Int32))))) &&& (4294967295 : Int64)))) fun i298_ S299 =>
  bnd2 (m_X6_times M (xs (Int32.toNatClampNeg (i3 + (1 : Int32)))) (((Int32.toInt64 (xs (Int32.toNatClampNeg (i3 + (2 : Int32))))) <<< (Int32.toInt64 (32 : Int32) &&& 63)) ||| ((Int32.toInt64 (xs (Int32.toNatClampNeg (i3 + (3 : Int32))))) &&& (4294967295 : Int64)))) fun i301_ M302 =>
  if i298_ = i301_ then
    (K S299 M302 (i3 + (6 : Int32)))
  else
    (some ((0 : Int32), S299, M302))
set_option maxRecDepth 100000 in
set_option maxHeartbeats 4000000 in
theorem t_case22 {nm : String} {a1 a2 b L : Nat} {xs : Nat → Int32} {K : Mem → MS → Int32 → Option (Int32 × Mem × MS)} {S : Mem} {M : MS} {i3 : Int32} {w : Int32 × Mem × MS} (ha1 : mKd S a1 = 6) (ha2 : a2 = M.1) (lh : ∀ (S : Mem) (M : MS) (i3 : Int32), mKd S a1 = 6 → a2 = M.1 → K S M i3 = some w → J LX (yl nm) cL_law 4 (some .boolean) 40 1500 18 [(0, .ref b), (1, .ref a1), (2, .ref a2), (3, .int i3)] [] (S, some M, b, L, xs) (some (.int w.1)) (w.2.1, some w.2.2, b, L, xs)) (h : l_case22 a1 L xs K S M i3 = some w) : J LX (yl nm) cL_law 4 (some .boolean) 40 1500 1133 [(0, .ref b), (1, .ref a1), (2, .ref a2), (3, .int i3)] [] (S, some M, b, L, xs) (some (.int w.1)) (w.2.1, some w.2.2, b, L, xs) := by
  refine J_aload_n 1 dL_law_1133 rfl rfl ?_
  refine J_aload_n 0 dL_law_1134 rfl rfl ?_
  refine J_iload_n 3 dL_law_1135 rfl rfl ?_
  refine J_iconst (1 : Int32) dL_law_1136 (by decide) ?_
  refine J_iadd dL_law_1137 ?_
  obtain ⟨g292, h293⟩ := gd_some h; clear h
  refine J_Lsld dL_law_1138 g292 ?_
  refine J_aload_n 0 dL_law_1139 rfl rfl ?_
  refine J_iload_n 3 dL_law_1140 rfl rfl ?_
  refine J_iconst (2 : Int32) dL_law_1141 (by decide) ?_
  refine J_iadd dL_law_1142 ?_
  obtain ⟨g294, h295⟩ := gd_some h293; clear h293
  refine J_Lsld dL_law_1143 g294 ?_
  refine J_i2l dL_law_1144 ?_
  refine J_bipush (32 : Int32) dL_law_1145 (by decide) ?_
  refine J_lshl dL_law_1147 ?_
  refine J_aload_n 0 dL_law_1148 rfl rfl ?_
  refine J_iload_n 3 dL_law_1149 rfl rfl ?_
  refine J_iconst (3 : Int32) dL_law_1150 (by decide) ?_
  refine J_iadd dL_law_1151 ?_
  obtain ⟨g296, h297⟩ := gd_some h295; clear h295
  refine J_Lsld dL_law_1152 g296 ?_
  refine J_i2l dL_law_1153 ?_
  refine J_ldc2 (4294967295 : Int64) dL_law_1154 gK_L_45 ?_
  refine J_land dL_law_1157 ?_
  refine J_lor dL_law_1158 ?_
  obtain ⟨i298_, S299, ei298_, h300⟩ := bnd2_some h297; clear h297
  have ki298_ := t_X5_times ha1 ei298_
  have qS299 : mKd S299 a1 = 6 := kd_le ki298_.1 ha1
  refine J_LC (As := [.int (xs (Int32.toNatClampNeg (i3 + (1 : Int32)))), .long (((Int32.toInt64 (xs (Int32.toNatClampNeg (i3 + (2 : Int32))))) <<< (Int32.toInt64 (32 : Int32) &&& 63)) ||| ((Int32.toInt64 (xs (Int32.toNatClampNeg (i3 + (3 : Int32))))) &&& (4294967295 : Int64)))]) (rest := []) (st' := [.int i298_]) ki298_ gC_X5_times gM_L_112 (mRecv ha1 (by decide) jCl5) rfl (by decide) (by decide) rfl rfl (Nat.le_of_ble_eq_true rfl) dL_law_1159 ?_
  refine J_aload_n 2 dL_law_1162 rfl rfl ?_
  refine J_aload_n 0 dL_law_1163 rfl rfl ?_
  refine J_iload_n 3 dL_law_1164 rfl rfl ?_
  refine J_iconst (1 : Int32) dL_law_1165 (by decide) ?_
  refine J_iadd dL_law_1166 ?_
  refine J_Lsld dL_law_1167 g292 ?_
  refine J_aload_n 0 dL_law_1168 rfl rfl ?_
  refine J_iload_n 3 dL_law_1169 rfl rfl ?_
  refine J_iconst (2 : Int32) dL_law_1170 (by decide) ?_
  refine J_iadd dL_law_1171 ?_
  refine J_Lsld dL_law_1172 g294 ?_
  refine J_i2l dL_law_1173 ?_
  refine J_bipush (32 : Int32) dL_law_1174 (by decide) ?_
  refine J_lshl dL_law_1176 ?_
  refine J_aload_n 0 dL_law_1177 rfl rfl ?_
  refine J_iload_n 3 dL_law_1178 rfl rfl ?_
  refine J_iconst (3 : Int32) dL_law_1179 (by decide) ?_
  refine J_iadd dL_law_1180 ?_
  refine J_Lsld dL_law_1181 g296 ?_
  refine J_i2l dL_law_1182 ?_
  refine J_ldc2 (4294967295 : Int64) dL_law_1183 gK_L_45 ?_
  refine J_land dL_law_1186 ?_
  refine J_lor dL_law_1187 ?_
  obtain ⟨i301_, M302, ei301_, h303⟩ := bnd2_some h300; clear h300
  have ki301_ := t_X6_times ha2 ei301_
  have qM302 : a2 = M302.1 := ha2.trans (nle_eq ki301_.1).symm
  refine J_LM (As := [.int (xs (Int32.toNatClampNeg (i3 + (1 : Int32)))), .long (((Int32.toInt64 (xs (Int32.toNatClampNeg (i3 + (2 : Int32))))) <<< (Int32.toInt64 (32 : Int32) &&& 63)) ||| ((Int32.toInt64 (xs (Int32.toNatClampNeg (i3 + (3 : Int32))))) &&& (4294967295 : Int64)))]) (rest := [.int i298_]) (st' := [.int i301_, .int i298_]) ki301_ gC_X6_times gM_L_115 (by rw [ha2]; exact nRecv) rfl (by decide) (by decide) rfl rfl (Nat.le_of_ble_eq_true rfl) dL_law_1188 ?_
  refine J_icmp_eq 1780 dL_law_1191 (by decide) h303 (fun c304 h305 => ?_) (fun c304 h305 => ?_)
  · clear h303
    refine J_iinc 3 (6 : Int32) dL_law_1780 rfl (by decide) (by decide) [1, 2, 3, 0] (lv' := [(0, .ref b), (1, .ref a1), (2, .ref a2), (3, .int (i3 + (6 : Int32)))]) rfl ?_
    refine J_goto 18 dL_law_1783 (by decide) ?_
    exact lh S299 M302 (i3 + (6 : Int32)) qS299 qM302 h305
  · clear h303
    refine J_iconst (0 : Int32) dL_law_1194 (by decide) ?_
    have hw := Option.some.inj h305; subst hw
    exact J_zret rfl (by decide) dL_law_1195
def l_case23 (a1 L : Nat) (xs : Nat → Int32) (K : Mem → MS → Int32 → Option (Int32 × Mem × MS)) (S : Mem) (M : MS) (i3 : Int32) : Option (Int32 × Mem × MS) :=
  gd (inB (i3 + (1 : Int32)) L) <|
  gd (inB (i3 + (2 : Int32)) L) <|
  gd (inB (i3 + (3 : Int32)) L) <|
  gd (inB (i3 + (4 : Int32)) L) <|
  bnd2 (c_X5_divide S a1 (xs (Int32.toNatClampNeg (i3 + (1 : Int32)))) (xs (Int32.toNatClampNeg (i3 + (2 : Int32)))) (((Int32.toInt64 (xs (Int32.toNatClampNeg (i3 + (3 : Int32))))) <<< (Int32.toInt64 (32 : Int32) &&& 63)) ||| ((Int32.toInt64 (xs (Int32.toNatClampNeg (i3 + (4 : Int32))))) &&& (4294967295 : Int64)))) fun i315_ S316 =>
  bnd2 (m_X6_divide M (xs (Int32.toNatClampNeg (i3 + (1 : Int32)))) (xs (Int32.toNatClampNeg (i3 + (2 : Int32)))) (((Int32.toInt64 (xs (Int32.toNatClampNeg (i3 + (3 : Int32))))) <<< (Int32.toInt64 (32 : Int32) &&& 63)) ||| ((Int32.toInt64 (xs (Int32.toNatClampNeg (i3 + (4 : Int32))))) &&& (4294967295 : Int64)))) fun i318_ M319 =>
  if i315_ = i318_ then
    (K S316 M319 (i3 + (6 : Int32)))
  else
    (some ((0 : Int32), S316, M319))
set_option maxRecDepth 100000 in
set_option maxHeartbeats 4000000 in
theorem t_case23 {nm : String} {a1 a2 b L : Nat} {xs : Nat → Int32} {K : Mem → MS → Int32 → Option (Int32 × Mem × MS)} {S : Mem} {M : MS} {i3 : Int32} {w : Int32 × Mem × MS} (ha1 : mKd S a1 = 6) (ha2 : a2 = M.1) (lh : ∀ (S : Mem) (M : MS) (i3 : Int32), mKd S a1 = 6 → a2 = M.1 → K S M i3 = some w → J LX (yl nm) cL_law 4 (some .boolean) 40 1500 18 [(0, .ref b), (1, .ref a1), (2, .ref a2), (3, .int i3)] [] (S, some M, b, L, xs) (some (.int w.1)) (w.2.1, some w.2.2, b, L, xs)) (h : l_case23 a1 L xs K S M i3 = some w) : J LX (yl nm) cL_law 4 (some .boolean) 40 1500 1196 [(0, .ref b), (1, .ref a1), (2, .ref a2), (3, .int i3)] [] (S, some M, b, L, xs) (some (.int w.1)) (w.2.1, some w.2.2, b, L, xs) := by
  refine J_aload_n 1 dL_law_1196 rfl rfl ?_
  refine J_aload_n 0 dL_law_1197 rfl rfl ?_
  refine J_iload_n 3 dL_law_1198 rfl rfl ?_
  refine J_iconst (1 : Int32) dL_law_1199 (by decide) ?_
  refine J_iadd dL_law_1200 ?_
  obtain ⟨g307, h308⟩ := gd_some h; clear h
  refine J_Lsld dL_law_1201 g307 ?_
  refine J_aload_n 0 dL_law_1202 rfl rfl ?_
  refine J_iload_n 3 dL_law_1203 rfl rfl ?_
  refine J_iconst (2 : Int32) dL_law_1204 (by decide) ?_
  refine J_iadd dL_law_1205 ?_
  obtain ⟨g309, h310⟩ := gd_some h308; clear h308
  refine J_Lsld dL_law_1206 g309 ?_
  refine J_aload_n 0 dL_law_1207 rfl rfl ?_
  refine J_iload_n 3 dL_law_1208 rfl rfl ?_
  refine J_iconst (3 : Int32) dL_law_1209 (by decide) ?_
  refine J_iadd dL_law_1210 ?_
  obtain ⟨g311, h312⟩ := gd_some h310; clear h310
  refine J_Lsld dL_law_1211 g311 ?_
  refine J_i2l dL_law_1212 ?_
  refine J_bipush (32 : Int32) dL_law_1213 (by decide) ?_
  refine J_lshl dL_law_1215 ?_
  refine J_aload_n 0 dL_law_1216 rfl rfl ?_
  refine J_iload_n 3 dL_law_1217 rfl rfl ?_
  refine J_iconst (4 : Int32) dL_law_1218 (by decide) ?_
  refine J_iadd dL_law_1219 ?_
  obtain ⟨g313, h314⟩ := gd_some h312; clear h312
  refine J_Lsld dL_law_1220 g313 ?_
  refine J_i2l dL_law_1221 ?_
  refine J_ldc2 (4294967295 : Int64) dL_law_1222 gK_L_45 ?_
  refine J_land dL_law_1225 ?_
  refine J_lor dL_law_1226 ?_
  obtain ⟨i315_, S316, ei315_, h317⟩ := bnd2_some h314; clear h314
  have ki315_ := t_X5_divide ha1 ei315_
  have qS316 : mKd S316 a1 = 6 := kd_le ki315_.1 ha1
  refine J_LC (As := [.int (xs (Int32.toNatClampNeg (i3 + (1 : Int32)))), .int (xs (Int32.toNatClampNeg (i3 + (2 : Int32)))), .long (((Int32.toInt64 (xs (Int32.toNatClampNeg (i3 + (3 : Int32))))) <<< (Int32.toInt64 (32 : Int32) &&& 63)) ||| ((Int32.toInt64 (xs (Int32.toNatClampNeg (i3 + (4 : Int32))))) &&& (4294967295 : Int64)))]) (rest := []) (st' := [.int i315_]) ki315_ gC_X5_divide gM_L_116 (mRecv ha1 (by decide) jCl5) rfl (by decide) (by decide) rfl rfl (Nat.le_of_ble_eq_true rfl) dL_law_1227 ?_
  refine J_aload_n 2 dL_law_1230 rfl rfl ?_
  refine J_aload_n 0 dL_law_1231 rfl rfl ?_
  refine J_iload_n 3 dL_law_1232 rfl rfl ?_
  refine J_iconst (1 : Int32) dL_law_1233 (by decide) ?_
  refine J_iadd dL_law_1234 ?_
  refine J_Lsld dL_law_1235 g307 ?_
  refine J_aload_n 0 dL_law_1236 rfl rfl ?_
  refine J_iload_n 3 dL_law_1237 rfl rfl ?_
  refine J_iconst (2 : Int32) dL_law_1238 (by decide) ?_
  refine J_iadd dL_law_1239 ?_
  refine J_Lsld dL_law_1240 g309 ?_
  refine J_aload_n 0 dL_law_1241 rfl rfl ?_
  refine J_iload_n 3 dL_law_1242 rfl rfl ?_
  refine J_iconst (3 : Int32) dL_law_1243 (by decide) ?_
  refine J_iadd dL_law_1244 ?_
  refine J_Lsld dL_law_1245 g311 ?_
  refine J_i2l dL_law_1246 ?_
  refine J_bipush (32 : Int32) dL_law_1247 (by decide) ?_
  refine J_lshl dL_law_1249 ?_
  refine J_aload_n 0 dL_law_1250 rfl rfl ?_
  refine J_iload_n 3 dL_law_1251 rfl rfl ?_
  refine J_iconst (4 : Int32) dL_law_1252 (by decide) ?_
  refine J_iadd dL_law_1253 ?_
  refine J_Lsld dL_law_1254 g313 ?_
  refine J_i2l dL_law_1255 ?_
  refine J_ldc2 (4294967295 : Int64) dL_law_1256 gK_L_45 ?_
  refine J_land dL_law_1259 ?_
  refine J_lor dL_law_1260 ?_
  obtain ⟨i318_, M319, ei318_, h320⟩ := bnd2_some h317; clear h317
  have ki318_ := t_X6_divide ha2 ei318_
  have qM319 : a2 = M319.1 := ha2.trans (nle_eq ki318_.1).symm
  refine J_LM (As := [.int (xs (Int32.toNatClampNeg (i3 + (1 : Int32)))), .int (xs (Int32.toNatClampNeg (i3 + (2 : Int32)))), .long (((Int32.toInt64 (xs (Int32.toNatClampNeg (i3 + (3 : Int32))))) <<< (Int32.toInt64 (32 : Int32) &&& 63)) ||| ((Int32.toInt64 (xs (Int32.toNatClampNeg (i3 + (4 : Int32))))) &&& (4294967295 : Int64)))]) (rest := [.int i315_]) (st' := [.int i318_, .int i315_]) ki318_ gC_X6_divide gM_L_120 (by rw [ha2]; exact nRecv) rfl (by decide) (by decide) rfl rfl (Nat.le_of_ble_eq_true rfl) dL_law_1261 ?_
  refine J_icmp_eq 1780 dL_law_1264 (by decide) h320 (fun c321 h322 => ?_) (fun c321 h322 => ?_)
  · clear h320
    refine J_iinc 3 (6 : Int32) dL_law_1780 rfl (by decide) (by decide) [1, 2, 3, 0] (lv' := [(0, .ref b), (1, .ref a1), (2, .ref a2), (3, .int (i3 + (6 : Int32)))]) rfl ?_
    refine J_goto 18 dL_law_1783 (by decide) ?_
    exact lh S316 M319 (i3 + (6 : Int32)) qS316 qM319 h322
  · clear h320
    refine J_iconst (0 : Int32) dL_law_1267 (by decide) ?_
    have hw := Option.some.inj h322; subst hw
    exact J_zret rfl (by decide) dL_law_1268
def l_case24 (a1 L : Nat) (xs : Nat → Int32) (K : Mem → MS → Int32 → Option (Int32 × Mem × MS)) (S : Mem) (M : MS) (i3 : Int32) : Option (Int32 × Mem × MS) :=
  gd (inB (i3 + (1 : Int32)) L) <|
  gd (inB (i3 + (2 : Int32)) L) <|
  bnd2 (c_X5_root S a1 (xs (Int32.toNatClampNeg (i3 + (1 : Int32)))) (xs (Int32.toNatClampNeg (i3 + (2 : Int32))))) fun i328_ S329 =>
  bnd2 (m_X6_root M (xs (Int32.toNatClampNeg (i3 + (1 : Int32)))) (xs (Int32.toNatClampNeg (i3 + (2 : Int32))))) fun i331_ M332 =>
  if i328_ = i331_ then
    (K S329 M332 (i3 + (6 : Int32)))
  else
    (some ((0 : Int32), S329, M332))
set_option maxRecDepth 100000 in
set_option maxHeartbeats 4000000 in
theorem t_case24 {nm : String} {a1 a2 b L : Nat} {xs : Nat → Int32} {K : Mem → MS → Int32 → Option (Int32 × Mem × MS)} {S : Mem} {M : MS} {i3 : Int32} {w : Int32 × Mem × MS} (ha1 : mKd S a1 = 6) (ha2 : a2 = M.1) (lh : ∀ (S : Mem) (M : MS) (i3 : Int32), mKd S a1 = 6 → a2 = M.1 → K S M i3 = some w → J LX (yl nm) cL_law 4 (some .boolean) 40 1500 18 [(0, .ref b), (1, .ref a1), (2, .ref a2), (3, .int i3)] [] (S, some M, b, L, xs) (some (.int w.1)) (w.2.1, some w.2.2, b, L, xs)) (h : l_case24 a1 L xs K S M i3 = some w) : J LX (yl nm) cL_law 4 (some .boolean) 40 1500 1269 [(0, .ref b), (1, .ref a1), (2, .ref a2), (3, .int i3)] [] (S, some M, b, L, xs) (some (.int w.1)) (w.2.1, some w.2.2, b, L, xs) := by
  refine J_aload_n 1 dL_law_1269 rfl rfl ?_
  refine J_aload_n 0 dL_law_1270 rfl rfl ?_
  refine J_iload_n 3 dL_law_1271 rfl rfl ?_
  refine J_iconst (1 : Int32) dL_law_1272 (by decide) ?_
  refine J_iadd dL_law_1273 ?_
  obtain ⟨g324, h325⟩ := gd_some h; clear h
  refine J_Lsld dL_law_1274 g324 ?_
  refine J_aload_n 0 dL_law_1275 rfl rfl ?_
  refine J_iload_n 3 dL_law_1276 rfl rfl ?_
  refine J_iconst (2 : Int32) dL_law_1277 (by decide) ?_
  refine J_iadd dL_law_1278 ?_
  obtain ⟨g326, h327⟩ := gd_some h325; clear h325
  refine J_Lsld dL_law_1279 g326 ?_
  obtain ⟨i328_, S329, ei328_, h330⟩ := bnd2_some h327; clear h327
  have ki328_ := t_X5_root ha1 ei328_
  have qS329 : mKd S329 a1 = 6 := kd_le ki328_.1 ha1
  refine J_LC (As := [.int (xs (Int32.toNatClampNeg (i3 + (1 : Int32)))), .int (xs (Int32.toNatClampNeg (i3 + (2 : Int32))))]) (rest := []) (st' := [.int i328_]) ki328_ gC_X5_root gM_L_121 (mRecv ha1 (by decide) jCl5) rfl (by decide) (by decide) rfl rfl (Nat.le_of_ble_eq_true rfl) dL_law_1280 ?_
  refine J_aload_n 2 dL_law_1283 rfl rfl ?_
  refine J_aload_n 0 dL_law_1284 rfl rfl ?_
  refine J_iload_n 3 dL_law_1285 rfl rfl ?_
  refine J_iconst (1 : Int32) dL_law_1286 (by decide) ?_
  refine J_iadd dL_law_1287 ?_
  refine J_Lsld dL_law_1288 g324 ?_
  refine J_aload_n 0 dL_law_1289 rfl rfl ?_
  refine J_iload_n 3 dL_law_1290 rfl rfl ?_
  refine J_iconst (2 : Int32) dL_law_1291 (by decide) ?_
  refine J_iadd dL_law_1292 ?_
  refine J_Lsld dL_law_1293 g326 ?_
  obtain ⟨i331_, M332, ei331_, h333⟩ := bnd2_some h330; clear h330
  have ki331_ := t_X6_root ha2 ei331_
  have qM332 : a2 = M332.1 := ha2.trans (nle_eq ki331_.1).symm
  refine J_LM (As := [.int (xs (Int32.toNatClampNeg (i3 + (1 : Int32)))), .int (xs (Int32.toNatClampNeg (i3 + (2 : Int32))))]) (rest := [.int i328_]) (st' := [.int i331_, .int i328_]) ki331_ gC_X6_root gM_L_124 (by rw [ha2]; exact nRecv) rfl (by decide) (by decide) rfl rfl (Nat.le_of_ble_eq_true rfl) dL_law_1294 ?_
  refine J_icmp_eq 1780 dL_law_1297 (by decide) h333 (fun c334 h335 => ?_) (fun c334 h335 => ?_)
  · clear h333
    refine J_iinc 3 (6 : Int32) dL_law_1780 rfl (by decide) (by decide) [1, 2, 3, 0] (lv' := [(0, .ref b), (1, .ref a1), (2, .ref a2), (3, .int (i3 + (6 : Int32)))]) rfl ?_
    refine J_goto 18 dL_law_1783 (by decide) ?_
    exact lh S329 M332 (i3 + (6 : Int32)) qS329 qM332 h335
  · clear h333
    refine J_iconst (0 : Int32) dL_law_1300 (by decide) ?_
    have hw := Option.some.inj h335; subst hw
    exact J_zret rfl (by decide) dL_law_1301
