/-! the law: the cases of the calls that throw (by program) -/
section LawThrow
variable {p : Program} {l : Launch} {e : Env} {s : State} {m : MethodId} {below : List Frame} {meth : Method} {c : Code} {H : Heap} {locs : List Loc} {cells slots : Nat} {ls : Array Slot} {rest : List Value} {G : GG} {B b L i : Nat} {xs : Nat → Int32} {M : Mem} {Q : State → Prop} {pc : Nat} {lv : List (Nat × Value)}
set_option maxHeartbeats 1000000 in
set_option maxRecDepth 10000 in
theorem lc_4 (l : Launch) (hst : l.stackTraces = false) (cx : Cx p s m #[Value.ref b] c cL_law 8 RL G) (hr : meth.sig.returnType = some .boolean) (hlk : meth.locks = false) (hX : va_X b L xs s s.heap) (hbl : b < s.heap.size) (hbA : ¬ B < b) (hi : i + 5 ≤ L) (hL : L ≤ 320) (wo : Wo Ph G B 205 s M H locs) (rel : Rel M) (hl : lv_has ls 8 [(4, .int (nI i)), (0, .ref b), (1, .ref (B + 1)), (2, .ref (B + 169)), (3, .ref (B + 205))]) (hcl : cells + 1 ≤ 600128) (hsl : slots + 6 ≤ 7301098)
    (kk : ∀ (M1 : Mem) (H1 : Heap) (locs1 : List Loc) (ls1 : Array Slot), Wo Ph G B 205 s M1 H1 locs1 → Rel M1 → lv_has ls1 8 [(4, .int (nI i)), (0, .ref b), (1, .ref (B + 1)), (2, .ref (B + 169)), (3, .ref (B + 205))] → W p l e room_1 s m #[Value.ref b] below meth c H1 locs1 (cells + 1) (slots + 6) Q (F0 m 1495 ls1 [])) : W p l e room_1 s m #[Value.ref b] below meth c H locs cells slots Q (F0 m 316 ls []) := by
  refine lv_aload_n cx.1 cx.2.1 dL_law_316 rfl (lv_at hl 2 rfl) ?_
  refine s_ld (j := 1) cx hX hbl hbA wo hl (by omega) dL_law_317 dL_law_318 dL_law_320 (by decide) dL_law_321 dL_law_322 ?_
  refine s_ld (j := 2) cx hX hbl hbA wo hl (by omega) dL_law_323 dL_law_324 dL_law_326 (by decide) dL_law_327 dL_law_328 ?_
  refine lv_aload_n cx.1 cx.2.1 dL_law_329 rfl (lv_at hl 4 rfl) ?_
  obtain ⟨q1, e1, hq2⟩ : StT (fun M => gX9_boat (xs (i + 1)) (xs (i + 2)) M) (fun M => fX10_boat (xs (i + 1)) (xs (i + 2)) M) M := st_boat rel
  have e1 : gX9_boat (xs (i + 1)) (xs (i + 2)) M = some q1 := e1
  obtain ⟨q2, e2, hthr, hval, hmem, rel2⟩ := hq2 (lwI q1) (lwI_or q1)
  have e2 : fX10_boat (xs (i + 1)) (xs (i + 2)) (lwI q1) = some q2 := e2
  refine x_SHi (rest := []) cx wo (mL_boat l hst e1) ⟨(mem_t4 188 (by decide +kernel)), (mem_t4 189 (by decide +kernel)), (mem_t1 0 (by decide +kernel)), (mem_t4 190 (by decide +kernel)), ⟨by decide +kernel, by decide +kernel, pm_boat⟩, by decide⟩ rfl hl.1 rfl (Nat.le_of_ble_eq_true rfl) (hL_okX hcl hsl (by decide)) dL_law_330 (fun H locs wo => ?_)
  refine lv_istore (lv' := (5, .int (thr q1.1)) :: [(4, .int (nI i)), (0, .ref b), (1, .ref (B + 1)), (2, .ref (B + 169)), (3, .ref (B + 205))]) cx.1 cx.2.1 dL_law_333 hl (by decide) rfl (fun ls hl5 => ?_)
  have hl : lv_has ls 8 [(4, .int (nI i)), (0, .ref b), (1, .ref (B + 1)), (2, .ref (B + 169)), (3, .ref (B + 205))] := ⟨hl5.1, hl5.2.1, fun q hq => hl5.2.2 q (List.mem_cons_of_mem _ hq)⟩
  refine lv_aload_n cx.1 cx.2.1 dL_law_335 rfl (lv_at hl 3 rfl) ?_
  refine s_ld (j := 1) cx hX hbl hbA wo hl (by omega) dL_law_336 dL_law_337 dL_law_339 (by decide) dL_law_340 dL_law_341 ?_
  refine s_ld (j := 2) cx hX hbl hbA wo hl (by omega) dL_law_342 dL_law_343 dL_law_345 (by decide) dL_law_346 dL_law_347 ?_
  refine r_Vi (rest := []) cx wo (mX10_boat l e2) cvL_50 rfl ad_169.1 ad_169.2.1 ad_169.2.2 rfl rfl hl.1 rfl (Nat.le_of_ble_eq_true rfl) (hL_ok1 hcl hsl (by decide)) dL_law_348 (fun H locs wo => ?_)
  refine lv_istore (lv' := (6, .int q2.1) :: (5, .int (thr q1.1)) :: [(4, .int (nI i)), (0, .ref b), (1, .ref (B + 1)), (2, .ref (B + 169)), (3, .ref (B + 205))]) cx.1 cx.2.1 dL_law_351 hl5 (by decide) rfl (fun ls hl6 => ?_)
  have hl : lv_has ls 8 [(4, .int (nI i)), (0, .ref b), (1, .ref (B + 1)), (2, .ref (B + 169)), (3, .ref (B + 205))] := ⟨hl6.1, hl6.2.1, fun q hq => hl6.2.2 q (List.mem_cons_of_mem _ (List.mem_cons_of_mem _ hq))⟩
  refine lv_aload_n cx.1 cx.2.1 dL_law_353 rfl (lv_at hl 3 rfl) ?_
  have e3 : fX10_thrown q2.2 = some (thr q1.1, q2.2) := by rw [fX10_thrown, hthr]
  refine r_Vi (rest := []) cx wo (mX10_thrown l e3) cvL_51 rfl ad_169.1 ad_169.2.1 ad_169.2.2 rfl rfl hl.1 rfl (Nat.le_of_ble_eq_true rfl) (hL_ok1 hcl hsl (by decide)) dL_law_354 (fun H locs wo => ?_)
  refine lv_iload cx.1 cx.2.1 dL_law_357 (lv_at hl6 1 rfl) ?_
  refine lv_icmp_eq (tgt := 364) cx.1 cx.2.1 dL_law_359 (by decide) (fun _ => ?_) (fun hne => absurd rfl hne)
  refine lv_iload cx.1 cx.2.1 dL_law_364 (lv_at hl6 1 rfl) ?_
  refine lv_if_ne (tgt := 381) cx.1 cx.2.1 dL_law_366 (by decide) (fun c1 => ?_) (fun c1 => ?_)
  · refine lv_goto (tgt := 1495) cx.1 cx.2.1 dL_law_381 (by decide) ?_
    exact kk q2.2 H locs ls wo rel2 hl
  · have c1 : thr q1.1 = 0 := c1
    obtain ⟨v, hv⟩ := thr_0 c1
    have hvq := hval v hv
    have hout : q2.2.2.1 205 (ix 0) = v.toInt64 := by rw [hmem]; rw [lwI_some hv]; exact sJ_out
    refine lv_aload_n cx.1 cx.2.1 dL_law_369 rfl (lv_at hl 4 rfl) ?_
    refine lv_iconst (v := 0) cx.1 cx.2.1 dL_law_370 (by decide) ?_
    refine r_lald cx wo ad_205.1 ad_205.2.1 ad_205.2.2 (by decide +kernel) dL_law_371 ?_
    refine lv_iload cx.1 cx.2.1 dL_law_372 (lv_at hl6 0 rfl) ?_
    refine lv_i2l (v := q2.1.toInt64) cx.1 cx.2.1 dL_law_374 rfl ?_
    rw [hout, hvq]
    refine W.lcmp cx.1 cx.2.1 dL_law_375 ?_
    refine r_topi (x := 0) (lcmp_self _).symm ?_
    refine lv_if_eq (tgt := 381) cx.1 cx.2.1 dL_law_376 (by decide) (fun _ => ?_) (fun hne => absurd rfl hne)
    refine lv_goto (tgt := 1495) cx.1 cx.2.1 dL_law_381 (by decide) ?_
    exact kk q2.2 H locs ls wo rel2 hl

set_option maxHeartbeats 1000000 in
set_option maxRecDepth 10000 in
theorem lc_5 (l : Launch) (hst : l.stackTraces = false) (cx : Cx p s m #[Value.ref b] c cL_law 8 RL G) (hr : meth.sig.returnType = some .boolean) (hlk : meth.locks = false) (hX : va_X b L xs s s.heap) (hbl : b < s.heap.size) (hbA : ¬ B < b) (hi : i + 5 ≤ L) (hL : L ≤ 320) (wo : Wo Ph G B 205 s M H locs) (rel : Rel M) (hl : lv_has ls 8 [(4, .int (nI i)), (0, .ref b), (1, .ref (B + 1)), (2, .ref (B + 169)), (3, .ref (B + 205))]) (hcl : cells + 1 ≤ 600128) (hsl : slots + 6 ≤ 7301098)
    (kk : ∀ (M1 : Mem) (H1 : Heap) (locs1 : List Loc) (ls1 : Array Slot), Wo Ph G B 205 s M1 H1 locs1 → Rel M1 → lv_has ls1 8 [(4, .int (nI i)), (0, .ref b), (1, .ref (B + 1)), (2, .ref (B + 169)), (3, .ref (B + 205))] → W p l e room_1 s m #[Value.ref b] below meth c H1 locs1 (cells + 1) (slots + 6) Q (F0 m 1495 ls1 [])) : W p l e room_1 s m #[Value.ref b] below meth c H locs cells slots Q (F0 m 384 ls []) := by
  refine lv_aload_n cx.1 cx.2.1 dL_law_384 rfl (lv_at hl 2 rfl) ?_
  refine s_ld (j := 1) cx hX hbl hbA wo hl (by omega) dL_law_385 dL_law_386 dL_law_388 (by decide) dL_law_389 dL_law_390 ?_
  refine lv_aload_n cx.1 cx.2.1 dL_law_391 rfl (lv_at hl 4 rfl) ?_
  obtain ⟨q1, e1, hq2⟩ : StT (fun M => gX9_at (xs (i + 1)) M) (fun M => fX10_at (xs (i + 1)) M) M := st_at rel
  have e1 : gX9_at (xs (i + 1)) M = some q1 := e1
  obtain ⟨q2, e2, hthr, hval, hmem, rel2⟩ := hq2 (lwI q1) (lwI_or q1)
  have e2 : fX10_at (xs (i + 1)) (lwI q1) = some q2 := e2
  refine x_SHi (rest := []) cx wo (mL_at l hst e1) ⟨(mem_t5 27 (by decide +kernel)), (mem_t5 28 (by decide +kernel)), (mem_t1 0 (by decide +kernel)), (mem_t5 29 (by decide +kernel)), ⟨by decide +kernel, by decide +kernel, pm_at⟩, by decide⟩ rfl hl.1 rfl (Nat.le_of_ble_eq_true rfl) (hL_okX hcl hsl (by decide)) dL_law_392 (fun H locs wo => ?_)
  refine lv_istore (lv' := (5, .int (thr q1.1)) :: [(4, .int (nI i)), (0, .ref b), (1, .ref (B + 1)), (2, .ref (B + 169)), (3, .ref (B + 205))]) cx.1 cx.2.1 dL_law_395 hl (by decide) rfl (fun ls hl5 => ?_)
  have hl : lv_has ls 8 [(4, .int (nI i)), (0, .ref b), (1, .ref (B + 1)), (2, .ref (B + 169)), (3, .ref (B + 205))] := ⟨hl5.1, hl5.2.1, fun q hq => hl5.2.2 q (List.mem_cons_of_mem _ hq)⟩
  refine lv_aload_n cx.1 cx.2.1 dL_law_397 rfl (lv_at hl 3 rfl) ?_
  refine s_ld (j := 1) cx hX hbl hbA wo hl (by omega) dL_law_398 dL_law_399 dL_law_401 (by decide) dL_law_402 dL_law_403 ?_
  refine r_Vi (rest := []) cx wo (mX10_at l e2) cvL_57 rfl ad_169.1 ad_169.2.1 ad_169.2.2 rfl rfl hl.1 rfl (Nat.le_of_ble_eq_true rfl) (hL_ok1 hcl hsl (by decide)) dL_law_404 (fun H locs wo => ?_)
  refine lv_istore (lv' := (6, .int q2.1) :: (5, .int (thr q1.1)) :: [(4, .int (nI i)), (0, .ref b), (1, .ref (B + 1)), (2, .ref (B + 169)), (3, .ref (B + 205))]) cx.1 cx.2.1 dL_law_407 hl5 (by decide) rfl (fun ls hl6 => ?_)
  have hl : lv_has ls 8 [(4, .int (nI i)), (0, .ref b), (1, .ref (B + 1)), (2, .ref (B + 169)), (3, .ref (B + 205))] := ⟨hl6.1, hl6.2.1, fun q hq => hl6.2.2 q (List.mem_cons_of_mem _ (List.mem_cons_of_mem _ hq))⟩
  refine lv_aload_n cx.1 cx.2.1 dL_law_409 rfl (lv_at hl 3 rfl) ?_
  have e3 : fX10_thrown q2.2 = some (thr q1.1, q2.2) := by rw [fX10_thrown, hthr]
  refine r_Vi (rest := []) cx wo (mX10_thrown l e3) cvL_51 rfl ad_169.1 ad_169.2.1 ad_169.2.2 rfl rfl hl.1 rfl (Nat.le_of_ble_eq_true rfl) (hL_ok1 hcl hsl (by decide)) dL_law_410 (fun H locs wo => ?_)
  refine lv_iload cx.1 cx.2.1 dL_law_413 (lv_at hl6 1 rfl) ?_
  refine lv_icmp_eq (tgt := 420) cx.1 cx.2.1 dL_law_415 (by decide) (fun _ => ?_) (fun hne => absurd rfl hne)
  refine lv_iload cx.1 cx.2.1 dL_law_420 (lv_at hl6 1 rfl) ?_
  refine lv_if_ne (tgt := 437) cx.1 cx.2.1 dL_law_422 (by decide) (fun c1 => ?_) (fun c1 => ?_)
  · refine lv_goto (tgt := 1495) cx.1 cx.2.1 dL_law_437 (by decide) ?_
    exact kk q2.2 H locs ls wo rel2 hl
  · have c1 : thr q1.1 = 0 := c1
    obtain ⟨v, hv⟩ := thr_0 c1
    have hvq := hval v hv
    have hout : q2.2.2.1 205 (ix 0) = v.toInt64 := by rw [hmem]; rw [lwI_some hv]; exact sJ_out
    refine lv_aload_n cx.1 cx.2.1 dL_law_425 rfl (lv_at hl 4 rfl) ?_
    refine lv_iconst (v := 0) cx.1 cx.2.1 dL_law_426 (by decide) ?_
    refine r_lald cx wo ad_205.1 ad_205.2.1 ad_205.2.2 (by decide +kernel) dL_law_427 ?_
    refine lv_iload cx.1 cx.2.1 dL_law_428 (lv_at hl6 0 rfl) ?_
    refine lv_i2l (v := q2.1.toInt64) cx.1 cx.2.1 dL_law_430 rfl ?_
    rw [hout, hvq]
    refine W.lcmp cx.1 cx.2.1 dL_law_431 ?_
    refine r_topi (x := 0) (lcmp_self _).symm ?_
    refine lv_if_eq (tgt := 437) cx.1 cx.2.1 dL_law_432 (by decide) (fun _ => ?_) (fun hne => absurd rfl hne)
    refine lv_goto (tgt := 1495) cx.1 cx.2.1 dL_law_437 (by decide) ?_
    exact kk q2.2 H locs ls wo rel2 hl

set_option maxHeartbeats 1000000 in
set_option maxRecDepth 10000 in
theorem lc_46 (l : Launch) (hst : l.stackTraces = false) (cx : Cx p s m #[Value.ref b] c cL_law 8 RL G) (hr : meth.sig.returnType = some .boolean) (hlk : meth.locks = false) (hX : va_X b L xs s s.heap) (hbl : b < s.heap.size) (hbA : ¬ B < b) (hi : i + 5 ≤ L) (hL : L ≤ 320) (wo : Wo Ph G B 205 s M H locs) (rel : Rel M) (hl : lv_has ls 8 [(4, .int (nI i)), (0, .ref b), (1, .ref (B + 1)), (2, .ref (B + 169)), (3, .ref (B + 205))]) (hcl : cells + 1 ≤ 600128) (hsl : slots + 6 ≤ 7301098)
    (kk : ∀ (M1 : Mem) (H1 : Heap) (locs1 : List Loc) (ls1 : Array Slot), Wo Ph G B 205 s M1 H1 locs1 → Rel M1 → lv_has ls1 8 [(4, .int (nI i)), (0, .ref b), (1, .ref (B + 1)), (2, .ref (B + 169)), (3, .ref (B + 205))] → W p l e room_1 s m #[Value.ref b] below meth c H1 locs1 (cells + 1) (slots + 6) Q (F0 m 1495 ls1 [])) : W p l e room_1 s m #[Value.ref b] below meth c H locs cells slots Q (F0 m 1440 ls []) := by
  refine lv_aload_n cx.1 cx.2.1 dL_law_1440 rfl (lv_at hl 2 rfl) ?_
  refine s_ld (j := 1) cx hX hbl hbA wo hl (by omega) dL_law_1441 dL_law_1442 dL_law_1444 (by decide) dL_law_1445 dL_law_1446 ?_
  refine lv_aload_n cx.1 cx.2.1 dL_law_1447 rfl (lv_at hl 4 rfl) ?_
  obtain ⟨q1, e1, hq2⟩ : StT (fun M => gX9_row (xs (i + 1)) M) (fun M => fX10_row (xs (i + 1)) M) M := st_row rel
  have e1 : gX9_row (xs (i + 1)) M = some q1 := e1
  obtain ⟨q2, e2, hthr, hval, hmem, rel2⟩ := hq2 (lwJ q1) (lwJ_or q1)
  have e2 : fX10_row (xs (i + 1)) (lwJ q1) = some q2 := e2
  refine x_SHi (rest := []) cx wo (mL_row l hst e1) ⟨(mem_t5 35 (by decide +kernel)), (mem_t5 36 (by decide +kernel)), (mem_t1 0 (by decide +kernel)), (mem_t5 37 (by decide +kernel)), ⟨by decide +kernel, by decide +kernel, pm_row⟩, by decide⟩ rfl hl.1 rfl (Nat.le_of_ble_eq_true rfl) (hL_okX hcl hsl (by decide)) dL_law_1448 (fun H locs wo => ?_)
  refine lv_istore (lv' := (5, .int (thr q1.1)) :: [(4, .int (nI i)), (0, .ref b), (1, .ref (B + 1)), (2, .ref (B + 169)), (3, .ref (B + 205))]) cx.1 cx.2.1 dL_law_1451 hl (by decide) rfl (fun ls hl5 => ?_)
  have hl : lv_has ls 8 [(4, .int (nI i)), (0, .ref b), (1, .ref (B + 1)), (2, .ref (B + 169)), (3, .ref (B + 205))] := ⟨hl5.1, hl5.2.1, fun q hq => hl5.2.2 q (List.mem_cons_of_mem _ hq)⟩
  refine lv_aload_n cx.1 cx.2.1 dL_law_1453 rfl (lv_at hl 3 rfl) ?_
  refine s_ld (j := 1) cx hX hbl hbA wo hl (by omega) dL_law_1454 dL_law_1455 dL_law_1457 (by decide) dL_law_1458 dL_law_1459 ?_
  refine r_Vl (rest := []) cx wo (mX10_row l e2) cvL_221 rfl ad_169.1 ad_169.2.1 ad_169.2.2 rfl rfl hl.1 rfl (Nat.le_of_ble_eq_true rfl) (hL_ok1 hcl hsl (by decide)) dL_law_1460 (fun H locs wo => ?_)
  refine lv_lstore (lv' := (6, .long q2.1) :: (5, .int (thr q1.1)) :: [(4, .int (nI i)), (0, .ref b), (1, .ref (B + 1)), (2, .ref (B + 169)), (3, .ref (B + 205))]) cx.1 cx.2.1 dL_law_1463 hl5 (by decide) rfl (fun ls hl6 => ?_)
  have hl : lv_has ls 8 [(4, .int (nI i)), (0, .ref b), (1, .ref (B + 1)), (2, .ref (B + 169)), (3, .ref (B + 205))] := ⟨hl6.1, hl6.2.1, fun q hq => hl6.2.2 q (List.mem_cons_of_mem _ (List.mem_cons_of_mem _ hq))⟩
  refine lv_aload_n cx.1 cx.2.1 dL_law_1465 rfl (lv_at hl 3 rfl) ?_
  have e3 : fX10_thrown q2.2 = some (thr q1.1, q2.2) := by rw [fX10_thrown, hthr]
  refine r_Vi (rest := []) cx wo (mX10_thrown l e3) cvL_51 rfl ad_169.1 ad_169.2.1 ad_169.2.2 rfl rfl hl.1 rfl (Nat.le_of_ble_eq_true rfl) (hL_ok1 hcl hsl (by decide)) dL_law_1466 (fun H locs wo => ?_)
  refine lv_iload cx.1 cx.2.1 dL_law_1469 (lv_at hl6 1 rfl) ?_
  refine lv_icmp_eq (tgt := 1476) cx.1 cx.2.1 dL_law_1471 (by decide) (fun _ => ?_) (fun hne => absurd rfl hne)
  refine lv_iload cx.1 cx.2.1 dL_law_1476 (lv_at hl6 1 rfl) ?_
  refine lv_if_ne (tgt := 1492) cx.1 cx.2.1 dL_law_1478 (by decide) (fun c1 => ?_) (fun c1 => ?_)
  · refine lv_goto (tgt := 1495) cx.1 cx.2.1 dL_law_1492 (by decide) ?_
    exact kk q2.2 H locs ls wo rel2 hl
  · have c1 : thr q1.1 = 0 := c1
    obtain ⟨v, hv⟩ := thr_0 c1
    have hvq := hval v hv
    have hout : q2.2.2.1 205 (ix 0) = v := by rw [hmem]; rw [lwJ_some hv]; exact sJ_out
    refine lv_aload_n cx.1 cx.2.1 dL_law_1481 rfl (lv_at hl 4 rfl) ?_
    refine lv_iconst (v := 0) cx.1 cx.2.1 dL_law_1482 (by decide) ?_
    refine r_lald cx wo ad_205.1 ad_205.2.1 ad_205.2.2 (by decide +kernel) dL_law_1483 ?_
    refine lv_lload cx.1 cx.2.1 dL_law_1484 (lv_at hl6 0 rfl) ?_
    rw [hout, hvq]
    refine W.lcmp cx.1 cx.2.1 dL_law_1486 ?_
    refine r_topi (x := 0) (lcmp_self _).symm ?_
    refine lv_if_eq (tgt := 1492) cx.1 cx.2.1 dL_law_1487 (by decide) (fun _ => ?_) (fun hne => absurd rfl hne)
    refine lv_goto (tgt := 1495) cx.1 cx.2.1 dL_law_1492 (by decide) ?_
    exact kk q2.2 H locs ls wo rel2 hl
end LawThrow
