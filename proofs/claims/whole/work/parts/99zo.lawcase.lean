/-! the law: its cases (by program) -/
theorem lcmp_self (x : Int64) : lg_cmp x x = 0 := by simp [lg_cmp]
theorem sJ_out {M : Mem} {w : Int64} : (sJ M 205 0 w).2.1 205 (ix 0) = w := by
  have h : ix 0 = 0 := by decide
  rw [h]
  show up2 M.2.1 205 0 w 205 0 = w
  exact up2_at
theorem lwI_some {q : Option Int32 × Mem} {v : Int32} (h : q.1 = some v) : lwI q = sJ q.2 205 0 v.toInt64 := by unfold lwI; rw [h]
theorem lwJ_some {q : Option Int64 × Mem} {v : Int64} (h : q.1 = some v) : lwJ q = sJ q.2 205 0 v := by unfold lwJ; rw [h]
theorem pm_boat : (parseMethodDescriptor yL_boat.desc).map (fun d => d.parameters.length) = some 4 := by decide +kernel
theorem pm_at : (parseMethodDescriptor yL_at.desc).map (fun d => d.parameters.length) = some 3 := by decide +kernel
theorem pm_row : (parseMethodDescriptor yL_row.desc).map (fun d => d.parameters.length) = some 3 := by decide +kernel
theorem lwI_or (q : Option Int32 × Mem) : lwI q = q.2 ∨ ∃ w : Int64, lwI q = sJ q.2 205 0 w := by
  unfold lwI
  cases q.1 with
  | none => exact Or.inl rfl
  | some v => exact Or.inr ⟨v.toInt64, rfl⟩
theorem lwJ_or (q : Option Int64 × Mem) : lwJ q = q.2 ∨ ∃ w : Int64, lwJ q = sJ q.2 205 0 w := by
  unfold lwJ
  cases q.1 with
  | none => exact Or.inl rfl
  | some v => exact Or.inr ⟨v, rfl⟩
theorem thr_0 {V : Type} {o : Option V} (h : thr o = 0) : ∃ v, o = some v := by
  cases o with
  | none => exact absurd (show (1 : Int32) = 0 from h) (by decide)
  | some v => exact ⟨v, rfl⟩
theorem hL_ok {k cells slots : Nat} (hc : cells + 1 ≤ 600128) (hs : slots + 6 ≤ 7301098) (hk : k ≤ 1300) : k + 1 ≤ room_1.frames ∧ 64 * (k + 1) ≤ room_1.locals ∧ cells ≤ room_1.cells ∧ slots ≤ room_1.slots := ⟨by show k + 1 ≤ 2048; omega, by show 64 * (k + 1) ≤ 84000; omega, by show cells ≤ 600128; omega, by show slots ≤ 7301098; omega⟩
theorem hL_ok1 {k cells slots : Nat} (hc : cells + 1 ≤ 600128) (hs : slots + 6 ≤ 7301098) (hk : k ≤ 1300) : k + 1 ≤ room_1.frames ∧ 64 * (k + 1) ≤ room_1.locals ∧ cells + 1 ≤ room_1.cells ∧ slots + 6 ≤ room_1.slots := ⟨by show k + 1 ≤ 2048; omega, by show 64 * (k + 1) ≤ 84000; omega, hc, hs⟩
theorem hL_okX {k cells slots : Nat} (hc : cells + 1 ≤ 600128) (hs : slots + 6 ≤ 7301098) (hk : k ≤ 1300) : k + 1 ≤ room_1.frames ∧ 64 * (k + 1) ≤ room_1.locals ∧ cells + 1 ≤ room_1.cells ∧ slots + 6 ≤ room_1.slots := hL_ok1 hc hs hk
section LawLoop
variable {p : Program} {l : Launch} {e : Env} {s : State} {m : MethodId} {below : List Frame} {meth : Method} {c : Code} {H : Heap} {locs : List Loc} {cells slots : Nat} {ls : Array Slot} {rest : List Value} {G : GG} {B b L i : Nat} {xs : Nat → Int32} {M : Mem} {Q : State → Prop} {pc : Nat} {lv : List (Nat × Value)}
theorem s_ld {j : Nat} {n : Int} (cx : Cx p s m #[Value.ref b] c cL_law 8 RL G) (hX : va_X b L xs s s.heap) (hbl : b < s.heap.size) (hbA : ¬ B < b) (wo : Wo Ph G B 205 s M H locs) (hl : lv_has ls 8 ((4, .int (nI i)) :: (0, .ref b) :: lv)) (hj : i + j < L ∧ L ≤ 320)
    (d0 : decode cL_law pc = .ok (.aload_n 0, 1)) (d1 : decode cL_law (pc + 1) = .ok (.iload 4, 2)) (d3 : decode cL_law (pc + 3) = .ok (.iconst n, 1)) (hn : Int32.ofInt n = nI j) (d4 : decode cL_law (pc + 4) = .ok (.iadd, 1)) (d5 : decode cL_law (pc + 5) = .ok (.iaload, 1))
    (kk : W p l e room_1 s m #[Value.ref b] below meth c H locs cells slots Q (F0 m (pc + 6) ls (.int (xs (i + j)) :: rest))) : W p l e room_1 s m #[Value.ref b] below meth c H locs cells slots Q (F0 m pc ls rest) := by
  refine lv_aload_n cx.1 cx.2.1 d0 rfl (lv_at hl 1 rfl) ?_
  refine lv_iload cx.1 cx.2.1 d1 (lv_at hl 0 rfl) ?_
  refine lv_iconst (v := nI j) cx.1 cx.2.1 d3 hn ?_
  refine lv_iadd cx.1 cx.2.1 d4 ?_
  refine r_topi (x := nI (i + j)) (nI_add i j).symm ?_
  refine va_sld cx.1 cx.2.1 hX hbl hbA wo.2.1 (fun q => ?_) d5 ?_
  · rcases q with q | q
    · exact nI_pos (by omega) q
    · rw [nI_clamp (by omega)] at q; omega
  · rw [nI_clamp (by omega)]
    exact kk
set_option maxHeartbeats 1000000 in
set_option maxRecDepth 10000 in
theorem lc_0 (l : Launch) (cx : Cx p s m #[Value.ref b] c cL_law 8 RL G) (hr : meth.sig.returnType = some .boolean) (hlk : meth.locks = false) (hX : va_X b L xs s s.heap) (hbl : b < s.heap.size) (hbA : ¬ B < b) (hi : i + 5 ≤ L) (hL : L ≤ 320) (wo : Wo Ph G B 205 s M H locs) (rel : Rel M) (hl : lv_has ls 8 [(4, .int (nI i)), (0, .ref b), (1, .ref (B + 1)), (2, .ref (B + 169)), (3, .ref (B + 205))]) (hcl : cells + 1 ≤ 600128) (hsl : slots + 6 ≤ 7301098)
    (kk : ∀ (M1 : Mem) (H1 : Heap) (locs1 : List Loc) (ls1 : Array Slot), Wo Ph G B 205 s M1 H1 locs1 → Rel M1 → lv_has ls1 8 [(4, .int (nI i)), (0, .ref b), (1, .ref (B + 1)), (2, .ref (B + 169)), (3, .ref (B + 205))] → W p l e room_1 s m #[Value.ref b] below meth c H1 locs1 (cells + 1) (slots + 6) Q (F0 m 1495 ls1 [])) : W p l e room_1 s m #[Value.ref b] below meth c H locs cells slots Q (F0 m 240 ls []) := by
  refine lv_aload_n cx.1 cx.2.1 dL_law_240 rfl (lv_at hl 2 rfl) ?_
  refine s_ld (j := 1) cx hX hbl hbA wo hl (by omega) dL_law_241 dL_law_242 dL_law_244 (by decide) dL_law_245 dL_law_246 ?_
  obtain ⟨q1, e1, q2, e2, heq, rel2⟩ : StI (fun M => fX9_sign (xs (i + 1)) M) (fun M => fX10_sign (xs (i + 1)) M) M := st_sign rel
  have e1 : fX9_sign (xs (i + 1)) M = some q1 := e1
  have e2 : fX10_sign (xs (i + 1)) q1.2 = some q2 := e2
  refine r_Vi (rest := []) cx wo (mX9_sign l e1) cvL_27 rfl ad_1.1 ad_1.2.1 ad_1.2.2 rfl rfl hl.1 rfl (Nat.le_of_ble_eq_true rfl) (hL_ok hcl hsl (by decide)) dL_law_247 (fun H locs wo => ?_)
  refine lv_aload_n cx.1 cx.2.1 dL_law_250 rfl (lv_at hl 3 rfl) ?_
  refine s_ld (j := 1) cx hX hbl hbA wo hl (by omega) dL_law_251 dL_law_252 dL_law_254 (by decide) dL_law_255 dL_law_256 ?_
  refine r_Vi (rest := [.int q1.1]) cx wo (mX10_sign l e2) cvL_30 rfl ad_169.1 ad_169.2.1 ad_169.2.2 rfl rfl hl.1 rfl (Nat.le_of_ble_eq_true rfl) (hL_ok hcl hsl (by decide)) dL_law_257 (fun H locs wo => ?_)
  refine lv_icmp_eq (tgt := 1495) cx.1 cx.2.1 dL_law_260 (by decide) (fun _ => ?_) (fun hne => absurd heq hne)
  exact w_wide (by omega) (by omega) (kk q2.2 H locs ls wo rel2 hl)

set_option maxHeartbeats 1000000 in
set_option maxRecDepth 10000 in
theorem lc_1 (l : Launch) (cx : Cx p s m #[Value.ref b] c cL_law 8 RL G) (hr : meth.sig.returnType = some .boolean) (hlk : meth.locks = false) (hX : va_X b L xs s s.heap) (hbl : b < s.heap.size) (hbA : ¬ B < b) (hi : i + 5 ≤ L) (hL : L ≤ 320) (wo : Wo Ph G B 205 s M H locs) (rel : Rel M) (hl : lv_has ls 8 [(4, .int (nI i)), (0, .ref b), (1, .ref (B + 1)), (2, .ref (B + 169)), (3, .ref (B + 205))]) (hcl : cells + 1 ≤ 600128) (hsl : slots + 6 ≤ 7301098)
    (kk : ∀ (M1 : Mem) (H1 : Heap) (locs1 : List Loc) (ls1 : Array Slot), Wo Ph G B 205 s M1 H1 locs1 → Rel M1 → lv_has ls1 8 [(4, .int (nI i)), (0, .ref b), (1, .ref (B + 1)), (2, .ref (B + 169)), (3, .ref (B + 205))] → W p l e room_1 s m #[Value.ref b] below meth c H1 locs1 (cells + 1) (slots + 6) Q (F0 m 1495 ls1 [])) : W p l e room_1 s m #[Value.ref b] below meth c H locs cells slots Q (F0 m 265 ls []) := by
  refine lv_aload_n cx.1 cx.2.1 dL_law_265 rfl (lv_at hl 2 rfl) ?_
  refine s_ld (j := 1) cx hX hbl hbA wo hl (by omega) dL_law_266 dL_law_267 dL_law_269 (by decide) dL_law_270 dL_law_271 ?_
  obtain ⟨q1, e1, q2, e2, heq, rel2⟩ : StI (fun M => fX9_end (xs (i + 1)) M) (fun M => fX10_end (xs (i + 1)) M) M := st_end rel
  have e1 : fX9_end (xs (i + 1)) M = some q1 := e1
  have e2 : fX10_end (xs (i + 1)) q1.2 = some q2 := e2
  refine r_Vi (rest := []) cx wo (mX9_end l e1) cvL_31 rfl ad_1.1 ad_1.2.1 ad_1.2.2 rfl rfl hl.1 rfl (Nat.le_of_ble_eq_true rfl) (hL_ok hcl hsl (by decide)) dL_law_272 (fun H locs wo => ?_)
  refine lv_aload_n cx.1 cx.2.1 dL_law_275 rfl (lv_at hl 3 rfl) ?_
  refine s_ld (j := 1) cx hX hbl hbA wo hl (by omega) dL_law_276 dL_law_277 dL_law_279 (by decide) dL_law_280 dL_law_281 ?_
  refine r_Vi (rest := [.int q1.1]) cx wo (mX10_end l e2) cvL_35 rfl ad_169.1 ad_169.2.1 ad_169.2.2 rfl rfl hl.1 rfl (Nat.le_of_ble_eq_true rfl) (hL_ok hcl hsl (by decide)) dL_law_282 (fun H locs wo => ?_)
  refine lv_icmp_eq (tgt := 1495) cx.1 cx.2.1 dL_law_285 (by decide) (fun _ => ?_) (fun hne => absurd heq hne)
  exact w_wide (by omega) (by omega) (kk q2.2 H locs ls wo rel2 hl)

set_option maxHeartbeats 1000000 in
set_option maxRecDepth 10000 in
theorem lc_2 (l : Launch) (cx : Cx p s m #[Value.ref b] c cL_law 8 RL G) (hr : meth.sig.returnType = some .boolean) (hlk : meth.locks = false) (hX : va_X b L xs s s.heap) (hbl : b < s.heap.size) (hbA : ¬ B < b) (hi : i + 5 ≤ L) (hL : L ≤ 320) (wo : Wo Ph G B 205 s M H locs) (rel : Rel M) (hl : lv_has ls 8 [(4, .int (nI i)), (0, .ref b), (1, .ref (B + 1)), (2, .ref (B + 169)), (3, .ref (B + 205))]) (hcl : cells + 1 ≤ 600128) (hsl : slots + 6 ≤ 7301098)
    (kk : ∀ (M1 : Mem) (H1 : Heap) (locs1 : List Loc) (ls1 : Array Slot), Wo Ph G B 205 s M1 H1 locs1 → Rel M1 → lv_has ls1 8 [(4, .int (nI i)), (0, .ref b), (1, .ref (B + 1)), (2, .ref (B + 169)), (3, .ref (B + 205))] → W p l e room_1 s m #[Value.ref b] below meth c H1 locs1 (cells + 1) (slots + 6) Q (F0 m 1495 ls1 [])) : W p l e room_1 s m #[Value.ref b] below meth c H locs cells slots Q (F0 m 290 ls []) := by
  refine lv_aload_n cx.1 cx.2.1 dL_law_290 rfl (lv_at hl 2 rfl) ?_
  obtain ⟨q1, e1, q2, e2, heq, rel2⟩ := st_boats rel
  have e1 : fX9_boats  M = some q1 := e1
  have e2 : fX10_boats  q1.2 = some q2 := e2
  refine r_Vi (rest := []) cx wo (mX9_boats l e1) cvL_36 rfl ad_1.1 ad_1.2.1 ad_1.2.2 rfl rfl hl.1 rfl (Nat.le_of_ble_eq_true rfl) (hL_ok hcl hsl (by decide)) dL_law_291 (fun H locs wo => ?_)
  refine lv_aload_n cx.1 cx.2.1 dL_law_294 rfl (lv_at hl 3 rfl) ?_
  refine r_Vi (rest := [.int q1.1]) cx wo (mX10_boats l e2) cvL_40 rfl ad_169.1 ad_169.2.1 ad_169.2.2 rfl rfl hl.1 rfl (Nat.le_of_ble_eq_true rfl) (hL_ok hcl hsl (by decide)) dL_law_295 (fun H locs wo => ?_)
  refine lv_icmp_eq (tgt := 1495) cx.1 cx.2.1 dL_law_298 (by decide) (fun _ => ?_) (fun hne => absurd heq hne)
  exact w_wide (by omega) (by omega) (kk q2.2 H locs ls wo rel2 hl)

set_option maxHeartbeats 1000000 in
set_option maxRecDepth 10000 in
theorem lc_3 (l : Launch) (cx : Cx p s m #[Value.ref b] c cL_law 8 RL G) (hr : meth.sig.returnType = some .boolean) (hlk : meth.locks = false) (hX : va_X b L xs s s.heap) (hbl : b < s.heap.size) (hbA : ¬ B < b) (hi : i + 5 ≤ L) (hL : L ≤ 320) (wo : Wo Ph G B 205 s M H locs) (rel : Rel M) (hl : lv_has ls 8 [(4, .int (nI i)), (0, .ref b), (1, .ref (B + 1)), (2, .ref (B + 169)), (3, .ref (B + 205))]) (hcl : cells + 1 ≤ 600128) (hsl : slots + 6 ≤ 7301098)
    (kk : ∀ (M1 : Mem) (H1 : Heap) (locs1 : List Loc) (ls1 : Array Slot), Wo Ph G B 205 s M1 H1 locs1 → Rel M1 → lv_has ls1 8 [(4, .int (nI i)), (0, .ref b), (1, .ref (B + 1)), (2, .ref (B + 169)), (3, .ref (B + 205))] → W p l e room_1 s m #[Value.ref b] below meth c H1 locs1 (cells + 1) (slots + 6) Q (F0 m 1495 ls1 [])) : W p l e room_1 s m #[Value.ref b] below meth c H locs cells slots Q (F0 m 303 ls []) := by
  refine lv_aload_n cx.1 cx.2.1 dL_law_303 rfl (lv_at hl 2 rfl) ?_
  obtain ⟨q1, e1, q2, e2, heq, rel2⟩ := st_rule rel
  have e1 : fX9_rule  M = some q1 := e1
  have e2 : fX10_rule  q1.2 = some q2 := e2
  refine r_Vi (rest := []) cx wo (mX9_rule l e1) cvL_41 rfl ad_1.1 ad_1.2.1 ad_1.2.2 rfl rfl hl.1 rfl (Nat.le_of_ble_eq_true rfl) (hL_ok hcl hsl (by decide)) dL_law_304 (fun H locs wo => ?_)
  refine lv_aload_n cx.1 cx.2.1 dL_law_307 rfl (lv_at hl 3 rfl) ?_
  refine r_Vi (rest := [.int q1.1]) cx wo (mX10_rule l e2) cvL_44 rfl ad_169.1 ad_169.2.1 ad_169.2.2 rfl rfl hl.1 rfl (Nat.le_of_ble_eq_true rfl) (hL_ok hcl hsl (by decide)) dL_law_308 (fun H locs wo => ?_)
  refine lv_icmp_eq (tgt := 1495) cx.1 cx.2.1 dL_law_311 (by decide) (fun _ => ?_) (fun hne => absurd heq hne)
  exact w_wide (by omega) (by omega) (kk q2.2 H locs ls wo rel2 hl)

set_option maxHeartbeats 1000000 in
set_option maxRecDepth 10000 in
theorem lc_6 (l : Launch) (cx : Cx p s m #[Value.ref b] c cL_law 8 RL G) (hr : meth.sig.returnType = some .boolean) (hlk : meth.locks = false) (hX : va_X b L xs s s.heap) (hbl : b < s.heap.size) (hbA : ¬ B < b) (hi : i + 5 ≤ L) (hL : L ≤ 320) (wo : Wo Ph G B 205 s M H locs) (rel : Rel M) (hl : lv_has ls 8 [(4, .int (nI i)), (0, .ref b), (1, .ref (B + 1)), (2, .ref (B + 169)), (3, .ref (B + 205))]) (hcl : cells + 1 ≤ 600128) (hsl : slots + 6 ≤ 7301098)
    (kk : ∀ (M1 : Mem) (H1 : Heap) (locs1 : List Loc) (ls1 : Array Slot), Wo Ph G B 205 s M1 H1 locs1 → Rel M1 → lv_has ls1 8 [(4, .int (nI i)), (0, .ref b), (1, .ref (B + 1)), (2, .ref (B + 169)), (3, .ref (B + 205))] → W p l e room_1 s m #[Value.ref b] below meth c H1 locs1 (cells + 1) (slots + 6) Q (F0 m 1495 ls1 [])) : W p l e room_1 s m #[Value.ref b] below meth c H locs cells slots Q (F0 m 440 ls []) := by
  refine lv_aload_n cx.1 cx.2.1 dL_law_440 rfl (lv_at hl 2 rfl) ?_
  refine s_ld (j := 1) cx hX hbl hbA wo hl (by omega) dL_law_441 dL_law_442 dL_law_444 (by decide) dL_law_445 dL_law_446 ?_
  refine s_ld (j := 2) cx hX hbl hbA wo hl (by omega) dL_law_447 dL_law_448 dL_law_450 (by decide) dL_law_451 dL_law_452 ?_
  refine s_ld (j := 3) cx hX hbl hbA wo hl (by omega) dL_law_453 dL_law_454 dL_law_456 (by decide) dL_law_457 dL_law_458 ?_
  refine s_ld (j := 4) cx hX hbl hbA wo hl (by omega) dL_law_459 dL_law_460 dL_law_462 (by decide) dL_law_463 dL_law_464 ?_
  obtain ⟨q1, e1, q2, e2, heq, rel2⟩ : StI (fun M => fX9_sheet (xs (i + 1)) (xs (i + 2)) (xs (i + 3)) (xs (i + 4)) M) (fun M => fX10_sheet (xs (i + 1)) (xs (i + 2)) (xs (i + 3)) (xs (i + 4)) M) M := st_sheet rel
  have e1 : fX9_sheet (xs (i + 1)) (xs (i + 2)) (xs (i + 3)) (xs (i + 4)) M = some q1 := e1
  have e2 : fX10_sheet (xs (i + 1)) (xs (i + 2)) (xs (i + 3)) (xs (i + 4)) q1.2 = some q2 := e2
  refine r_Vi (rest := []) cx wo (mX9_sheet l e1) cvL_58 rfl ad_1.1 ad_1.2.1 ad_1.2.2 rfl rfl hl.1 rfl (Nat.le_of_ble_eq_true rfl) (hL_ok hcl hsl (by decide)) dL_law_465 (fun H locs wo => ?_)
  refine lv_aload_n cx.1 cx.2.1 dL_law_468 rfl (lv_at hl 3 rfl) ?_
  refine s_ld (j := 1) cx hX hbl hbA wo hl (by omega) dL_law_469 dL_law_470 dL_law_472 (by decide) dL_law_473 dL_law_474 ?_
  refine s_ld (j := 2) cx hX hbl hbA wo hl (by omega) dL_law_475 dL_law_476 dL_law_478 (by decide) dL_law_479 dL_law_480 ?_
  refine s_ld (j := 3) cx hX hbl hbA wo hl (by omega) dL_law_481 dL_law_482 dL_law_484 (by decide) dL_law_485 dL_law_486 ?_
  refine s_ld (j := 4) cx hX hbl hbA wo hl (by omega) dL_law_487 dL_law_488 dL_law_490 (by decide) dL_law_491 dL_law_492 ?_
  refine r_Vi (rest := [.int q1.1]) cx wo (mX10_sheet l e2) cvL_62 rfl ad_169.1 ad_169.2.1 ad_169.2.2 rfl rfl hl.1 rfl (Nat.le_of_ble_eq_true rfl) (hL_ok hcl hsl (by decide)) dL_law_493 (fun H locs wo => ?_)
  refine lv_icmp_eq (tgt := 1495) cx.1 cx.2.1 dL_law_496 (by decide) (fun _ => ?_) (fun hne => absurd heq hne)
  exact w_wide (by omega) (by omega) (kk q2.2 H locs ls wo rel2 hl)

set_option maxHeartbeats 1000000 in
set_option maxRecDepth 10000 in
theorem lc_7 (l : Launch) (cx : Cx p s m #[Value.ref b] c cL_law 8 RL G) (hr : meth.sig.returnType = some .boolean) (hlk : meth.locks = false) (hX : va_X b L xs s s.heap) (hbl : b < s.heap.size) (hbA : ¬ B < b) (hi : i + 5 ≤ L) (hL : L ≤ 320) (wo : Wo Ph G B 205 s M H locs) (rel : Rel M) (hl : lv_has ls 8 [(4, .int (nI i)), (0, .ref b), (1, .ref (B + 1)), (2, .ref (B + 169)), (3, .ref (B + 205))]) (hcl : cells + 1 ≤ 600128) (hsl : slots + 6 ≤ 7301098)
    (kk : ∀ (M1 : Mem) (H1 : Heap) (locs1 : List Loc) (ls1 : Array Slot), Wo Ph G B 205 s M1 H1 locs1 → Rel M1 → lv_has ls1 8 [(4, .int (nI i)), (0, .ref b), (1, .ref (B + 1)), (2, .ref (B + 169)), (3, .ref (B + 205))] → W p l e room_1 s m #[Value.ref b] below meth c H1 locs1 (cells + 1) (slots + 6) Q (F0 m 1495 ls1 [])) : W p l e room_1 s m #[Value.ref b] below meth c H locs cells slots Q (F0 m 501 ls []) := by
  refine lv_aload_n cx.1 cx.2.1 dL_law_501 rfl (lv_at hl 2 rfl) ?_
  refine s_ld (j := 1) cx hX hbl hbA wo hl (by omega) dL_law_502 dL_law_503 dL_law_505 (by decide) dL_law_506 dL_law_507 ?_
  obtain ⟨q1, e1, q2, e2, heq, rel2⟩ : StI (fun M => fX9_days (xs (i + 1)) M) (fun M => fX10_days (xs (i + 1)) M) M := st_days rel
  have e1 : fX9_days (xs (i + 1)) M = some q1 := e1
  have e2 : fX10_days (xs (i + 1)) q1.2 = some q2 := e2
  refine r_Vi (rest := []) cx wo (mX9_days l e1) cvL_63 rfl ad_1.1 ad_1.2.1 ad_1.2.2 rfl rfl hl.1 rfl (Nat.le_of_ble_eq_true rfl) (hL_ok hcl hsl (by decide)) dL_law_508 (fun H locs wo => ?_)
  refine lv_aload_n cx.1 cx.2.1 dL_law_511 rfl (lv_at hl 3 rfl) ?_
  refine s_ld (j := 1) cx hX hbl hbA wo hl (by omega) dL_law_512 dL_law_513 dL_law_515 (by decide) dL_law_516 dL_law_517 ?_
  refine r_Vi (rest := [.int q1.1]) cx wo (mX10_days l e2) cvL_66 rfl ad_169.1 ad_169.2.1 ad_169.2.2 rfl rfl hl.1 rfl (Nat.le_of_ble_eq_true rfl) (hL_ok hcl hsl (by decide)) dL_law_518 (fun H locs wo => ?_)
  refine lv_icmp_eq (tgt := 1495) cx.1 cx.2.1 dL_law_521 (by decide) (fun _ => ?_) (fun hne => absurd heq hne)
  exact w_wide (by omega) (by omega) (kk q2.2 H locs ls wo rel2 hl)

set_option maxHeartbeats 1000000 in
set_option maxRecDepth 10000 in
theorem lc_8 (l : Launch) (cx : Cx p s m #[Value.ref b] c cL_law 8 RL G) (hr : meth.sig.returnType = some .boolean) (hlk : meth.locks = false) (hX : va_X b L xs s s.heap) (hbl : b < s.heap.size) (hbA : ¬ B < b) (hi : i + 5 ≤ L) (hL : L ≤ 320) (wo : Wo Ph G B 205 s M H locs) (rel : Rel M) (hl : lv_has ls 8 [(4, .int (nI i)), (0, .ref b), (1, .ref (B + 1)), (2, .ref (B + 169)), (3, .ref (B + 205))]) (hcl : cells + 1 ≤ 600128) (hsl : slots + 6 ≤ 7301098)
    (kk : ∀ (M1 : Mem) (H1 : Heap) (locs1 : List Loc) (ls1 : Array Slot), Wo Ph G B 205 s M1 H1 locs1 → Rel M1 → lv_has ls1 8 [(4, .int (nI i)), (0, .ref b), (1, .ref (B + 1)), (2, .ref (B + 169)), (3, .ref (B + 205))] → W p l e room_1 s m #[Value.ref b] below meth c H1 locs1 (cells + 1) (slots + 6) Q (F0 m 1495 ls1 [])) : W p l e room_1 s m #[Value.ref b] below meth c H locs cells slots Q (F0 m 526 ls []) := by
  refine lv_aload_n cx.1 cx.2.1 dL_law_526 rfl (lv_at hl 2 rfl) ?_
  refine s_ld (j := 1) cx hX hbl hbA wo hl (by omega) dL_law_527 dL_law_528 dL_law_530 (by decide) dL_law_531 dL_law_532 ?_
  obtain ⟨q1, e1, q2, e2, heq, rel2⟩ : StI (fun M => fX9_scratches (xs (i + 1)) M) (fun M => fX10_scratches (xs (i + 1)) M) M := st_scratches rel
  have e1 : fX9_scratches (xs (i + 1)) M = some q1 := e1
  have e2 : fX10_scratches (xs (i + 1)) q1.2 = some q2 := e2
  refine r_Vi (rest := []) cx wo (mX9_scratches l e1) cvL_67 rfl ad_1.1 ad_1.2.1 ad_1.2.2 rfl rfl hl.1 rfl (Nat.le_of_ble_eq_true rfl) (hL_ok hcl hsl (by decide)) dL_law_533 (fun H locs wo => ?_)
  refine lv_aload_n cx.1 cx.2.1 dL_law_536 rfl (lv_at hl 3 rfl) ?_
  refine s_ld (j := 1) cx hX hbl hbA wo hl (by omega) dL_law_537 dL_law_538 dL_law_540 (by decide) dL_law_541 dL_law_542 ?_
  refine r_Vi (rest := [.int q1.1]) cx wo (mX10_scratches l e2) cvL_70 rfl ad_169.1 ad_169.2.1 ad_169.2.2 rfl rfl hl.1 rfl (Nat.le_of_ble_eq_true rfl) (hL_ok hcl hsl (by decide)) dL_law_543 (fun H locs wo => ?_)
  refine lv_icmp_eq (tgt := 1495) cx.1 cx.2.1 dL_law_546 (by decide) (fun _ => ?_) (fun hne => absurd heq hne)
  exact w_wide (by omega) (by omega) (kk q2.2 H locs ls wo rel2 hl)

set_option maxHeartbeats 1000000 in
set_option maxRecDepth 10000 in
theorem lc_9 (l : Launch) (cx : Cx p s m #[Value.ref b] c cL_law 8 RL G) (hr : meth.sig.returnType = some .boolean) (hlk : meth.locks = false) (hX : va_X b L xs s s.heap) (hbl : b < s.heap.size) (hbA : ¬ B < b) (hi : i + 5 ≤ L) (hL : L ≤ 320) (wo : Wo Ph G B 205 s M H locs) (rel : Rel M) (hl : lv_has ls 8 [(4, .int (nI i)), (0, .ref b), (1, .ref (B + 1)), (2, .ref (B + 169)), (3, .ref (B + 205))]) (hcl : cells + 1 ≤ 600128) (hsl : slots + 6 ≤ 7301098)
    (kk : ∀ (M1 : Mem) (H1 : Heap) (locs1 : List Loc) (ls1 : Array Slot), Wo Ph G B 205 s M1 H1 locs1 → Rel M1 → lv_has ls1 8 [(4, .int (nI i)), (0, .ref b), (1, .ref (B + 1)), (2, .ref (B + 169)), (3, .ref (B + 205))] → W p l e room_1 s m #[Value.ref b] below meth c H1 locs1 (cells + 1) (slots + 6) Q (F0 m 1495 ls1 [])) : W p l e room_1 s m #[Value.ref b] below meth c H locs cells slots Q (F0 m 551 ls []) := by
  refine lv_aload_n cx.1 cx.2.1 dL_law_551 rfl (lv_at hl 2 rfl) ?_
  refine s_ld (j := 1) cx hX hbl hbA wo hl (by omega) dL_law_552 dL_law_553 dL_law_555 (by decide) dL_law_556 dL_law_557 ?_
  obtain ⟨q1, e1, q2, e2, heq, rel2⟩ : StI (fun M => fX9_rests (xs (i + 1)) M) (fun M => fX10_rests (xs (i + 1)) M) M := st_rests rel
  have e1 : fX9_rests (xs (i + 1)) M = some q1 := e1
  have e2 : fX10_rests (xs (i + 1)) q1.2 = some q2 := e2
  refine r_Vi (rest := []) cx wo (mX9_rests l e1) cvL_71 rfl ad_1.1 ad_1.2.1 ad_1.2.2 rfl rfl hl.1 rfl (Nat.le_of_ble_eq_true rfl) (hL_ok hcl hsl (by decide)) dL_law_558 (fun H locs wo => ?_)
  refine lv_aload_n cx.1 cx.2.1 dL_law_561 rfl (lv_at hl 3 rfl) ?_
  refine s_ld (j := 1) cx hX hbl hbA wo hl (by omega) dL_law_562 dL_law_563 dL_law_565 (by decide) dL_law_566 dL_law_567 ?_
  refine r_Vi (rest := [.int q1.1]) cx wo (mX10_rests l e2) cvL_74 rfl ad_169.1 ad_169.2.1 ad_169.2.2 rfl rfl hl.1 rfl (Nat.le_of_ble_eq_true rfl) (hL_ok hcl hsl (by decide)) dL_law_568 (fun H locs wo => ?_)
  refine lv_icmp_eq (tgt := 1495) cx.1 cx.2.1 dL_law_571 (by decide) (fun _ => ?_) (fun hne => absurd heq hne)
  exact w_wide (by omega) (by omega) (kk q2.2 H locs ls wo rel2 hl)

set_option maxHeartbeats 1000000 in
set_option maxRecDepth 10000 in
theorem lc_10 (l : Launch) (cx : Cx p s m #[Value.ref b] c cL_law 8 RL G) (hr : meth.sig.returnType = some .boolean) (hlk : meth.locks = false) (hX : va_X b L xs s s.heap) (hbl : b < s.heap.size) (hbA : ¬ B < b) (hi : i + 5 ≤ L) (hL : L ≤ 320) (wo : Wo Ph G B 205 s M H locs) (rel : Rel M) (hl : lv_has ls 8 [(4, .int (nI i)), (0, .ref b), (1, .ref (B + 1)), (2, .ref (B + 169)), (3, .ref (B + 205))]) (hcl : cells + 1 ≤ 600128) (hsl : slots + 6 ≤ 7301098)
    (kk : ∀ (M1 : Mem) (H1 : Heap) (locs1 : List Loc) (ls1 : Array Slot), Wo Ph G B 205 s M1 H1 locs1 → Rel M1 → lv_has ls1 8 [(4, .int (nI i)), (0, .ref b), (1, .ref (B + 1)), (2, .ref (B + 169)), (3, .ref (B + 205))] → W p l e room_1 s m #[Value.ref b] below meth c H1 locs1 (cells + 1) (slots + 6) Q (F0 m 1495 ls1 [])) : W p l e room_1 s m #[Value.ref b] below meth c H locs cells slots Q (F0 m 576 ls []) := by
  refine lv_aload_n cx.1 cx.2.1 dL_law_576 rfl (lv_at hl 2 rfl) ?_
  refine s_ld (j := 1) cx hX hbl hbA wo hl (by omega) dL_law_577 dL_law_578 dL_law_580 (by decide) dL_law_581 dL_law_582 ?_
  refine s_ld (j := 2) cx hX hbl hbA wo hl (by omega) dL_law_583 dL_law_584 dL_law_586 (by decide) dL_law_587 dL_law_588 ?_
  obtain ⟨q1, e1, q2, e2, heq, rel2⟩ : StI (fun M => fX9_paces (xs (i + 1)) (xs (i + 2)) M) (fun M => fX10_paces (xs (i + 1)) (xs (i + 2)) M) M := st_paces rel
  have e1 : fX9_paces (xs (i + 1)) (xs (i + 2)) M = some q1 := e1
  have e2 : fX10_paces (xs (i + 1)) (xs (i + 2)) q1.2 = some q2 := e2
  refine r_Vi (rest := []) cx wo (mX9_paces l e1) cvL_75 rfl ad_1.1 ad_1.2.1 ad_1.2.2 rfl rfl hl.1 rfl (Nat.le_of_ble_eq_true rfl) (hL_ok hcl hsl (by decide)) dL_law_589 (fun H locs wo => ?_)
  refine lv_aload_n cx.1 cx.2.1 dL_law_592 rfl (lv_at hl 3 rfl) ?_
  refine s_ld (j := 1) cx hX hbl hbA wo hl (by omega) dL_law_593 dL_law_594 dL_law_596 (by decide) dL_law_597 dL_law_598 ?_
  refine s_ld (j := 2) cx hX hbl hbA wo hl (by omega) dL_law_599 dL_law_600 dL_law_602 (by decide) dL_law_603 dL_law_604 ?_
  refine r_Vi (rest := [.int q1.1]) cx wo (mX10_paces l e2) cvL_78 rfl ad_169.1 ad_169.2.1 ad_169.2.2 rfl rfl hl.1 rfl (Nat.le_of_ble_eq_true rfl) (hL_ok hcl hsl (by decide)) dL_law_605 (fun H locs wo => ?_)
  refine lv_icmp_eq (tgt := 1495) cx.1 cx.2.1 dL_law_608 (by decide) (fun _ => ?_) (fun hne => absurd heq hne)
  exact w_wide (by omega) (by omega) (kk q2.2 H locs ls wo rel2 hl)

set_option maxHeartbeats 1000000 in
set_option maxRecDepth 10000 in
theorem lc_11 (l : Launch) (cx : Cx p s m #[Value.ref b] c cL_law 8 RL G) (hr : meth.sig.returnType = some .boolean) (hlk : meth.locks = false) (hX : va_X b L xs s s.heap) (hbl : b < s.heap.size) (hbA : ¬ B < b) (hi : i + 5 ≤ L) (hL : L ≤ 320) (wo : Wo Ph G B 205 s M H locs) (rel : Rel M) (hl : lv_has ls 8 [(4, .int (nI i)), (0, .ref b), (1, .ref (B + 1)), (2, .ref (B + 169)), (3, .ref (B + 205))]) (hcl : cells + 1 ≤ 600128) (hsl : slots + 6 ≤ 7301098)
    (kk : ∀ (M1 : Mem) (H1 : Heap) (locs1 : List Loc) (ls1 : Array Slot), Wo Ph G B 205 s M1 H1 locs1 → Rel M1 → lv_has ls1 8 [(4, .int (nI i)), (0, .ref b), (1, .ref (B + 1)), (2, .ref (B + 169)), (3, .ref (B + 205))] → W p l e room_1 s m #[Value.ref b] below meth c H1 locs1 (cells + 1) (slots + 6) Q (F0 m 1495 ls1 [])) : W p l e room_1 s m #[Value.ref b] below meth c H locs cells slots Q (F0 m 613 ls []) := by
  refine lv_aload_n cx.1 cx.2.1 dL_law_613 rfl (lv_at hl 2 rfl) ?_
  refine s_ld (j := 1) cx hX hbl hbA wo hl (by omega) dL_law_614 dL_law_615 dL_law_617 (by decide) dL_law_618 dL_law_619 ?_
  obtain ⟨q1, e1, q2, e2, heq, rel2⟩ : StI (fun M => fX9_gap (xs (i + 1)) M) (fun M => fX10_gap (xs (i + 1)) M) M := st_gap rel
  have e1 : fX9_gap (xs (i + 1)) M = some q1 := e1
  have e2 : fX10_gap (xs (i + 1)) q1.2 = some q2 := e2
  refine r_Vi (rest := []) cx wo (mX9_gap l e1) cvL_79 rfl ad_1.1 ad_1.2.1 ad_1.2.2 rfl rfl hl.1 rfl (Nat.le_of_ble_eq_true rfl) (hL_ok hcl hsl (by decide)) dL_law_620 (fun H locs wo => ?_)
  refine lv_aload_n cx.1 cx.2.1 dL_law_623 rfl (lv_at hl 3 rfl) ?_
  refine s_ld (j := 1) cx hX hbl hbA wo hl (by omega) dL_law_624 dL_law_625 dL_law_627 (by decide) dL_law_628 dL_law_629 ?_
  refine r_Vi (rest := [.int q1.1]) cx wo (mX10_gap l e2) cvL_82 rfl ad_169.1 ad_169.2.1 ad_169.2.2 rfl rfl hl.1 rfl (Nat.le_of_ble_eq_true rfl) (hL_ok hcl hsl (by decide)) dL_law_630 (fun H locs wo => ?_)
  refine lv_icmp_eq (tgt := 1495) cx.1 cx.2.1 dL_law_633 (by decide) (fun _ => ?_) (fun hne => absurd heq hne)
  exact w_wide (by omega) (by omega) (kk q2.2 H locs ls wo rel2 hl)

set_option maxHeartbeats 1000000 in
set_option maxRecDepth 10000 in
theorem lc_12 (l : Launch) (cx : Cx p s m #[Value.ref b] c cL_law 8 RL G) (hr : meth.sig.returnType = some .boolean) (hlk : meth.locks = false) (hX : va_X b L xs s s.heap) (hbl : b < s.heap.size) (hbA : ¬ B < b) (hi : i + 5 ≤ L) (hL : L ≤ 320) (wo : Wo Ph G B 205 s M H locs) (rel : Rel M) (hl : lv_has ls 8 [(4, .int (nI i)), (0, .ref b), (1, .ref (B + 1)), (2, .ref (B + 169)), (3, .ref (B + 205))]) (hcl : cells + 1 ≤ 600128) (hsl : slots + 6 ≤ 7301098)
    (kk : ∀ (M1 : Mem) (H1 : Heap) (locs1 : List Loc) (ls1 : Array Slot), Wo Ph G B 205 s M1 H1 locs1 → Rel M1 → lv_has ls1 8 [(4, .int (nI i)), (0, .ref b), (1, .ref (B + 1)), (2, .ref (B + 169)), (3, .ref (B + 205))] → W p l e room_1 s m #[Value.ref b] below meth c H1 locs1 (cells + 1) (slots + 6) Q (F0 m 1495 ls1 [])) : W p l e room_1 s m #[Value.ref b] below meth c H locs cells slots Q (F0 m 638 ls []) := by
  refine lv_aload_n cx.1 cx.2.1 dL_law_638 rfl (lv_at hl 2 rfl) ?_
  refine s_ld (j := 1) cx hX hbl hbA wo hl (by omega) dL_law_639 dL_law_640 dL_law_642 (by decide) dL_law_643 dL_law_644 ?_
  obtain ⟨q1, e1, q2, e2, heq, rel2⟩ : StI (fun M => fX9_strokes (xs (i + 1)) M) (fun M => fX10_strokes (xs (i + 1)) M) M := st_strokes rel
  have e1 : fX9_strokes (xs (i + 1)) M = some q1 := e1
  have e2 : fX10_strokes (xs (i + 1)) q1.2 = some q2 := e2
  refine r_Vi (rest := []) cx wo (mX9_strokes l e1) cvL_83 rfl ad_1.1 ad_1.2.1 ad_1.2.2 rfl rfl hl.1 rfl (Nat.le_of_ble_eq_true rfl) (hL_ok hcl hsl (by decide)) dL_law_645 (fun H locs wo => ?_)
  refine lv_aload_n cx.1 cx.2.1 dL_law_648 rfl (lv_at hl 3 rfl) ?_
  refine s_ld (j := 1) cx hX hbl hbA wo hl (by omega) dL_law_649 dL_law_650 dL_law_652 (by decide) dL_law_653 dL_law_654 ?_
  refine r_Vi (rest := [.int q1.1]) cx wo (mX10_strokes l e2) cvL_86 rfl ad_169.1 ad_169.2.1 ad_169.2.2 rfl rfl hl.1 rfl (Nat.le_of_ble_eq_true rfl) (hL_ok hcl hsl (by decide)) dL_law_655 (fun H locs wo => ?_)
  refine lv_icmp_eq (tgt := 1495) cx.1 cx.2.1 dL_law_658 (by decide) (fun _ => ?_) (fun hne => absurd heq hne)
  exact w_wide (by omega) (by omega) (kk q2.2 H locs ls wo rel2 hl)

set_option maxHeartbeats 1000000 in
set_option maxRecDepth 10000 in
theorem lc_13 (l : Launch) (cx : Cx p s m #[Value.ref b] c cL_law 8 RL G) (hr : meth.sig.returnType = some .boolean) (hlk : meth.locks = false) (hX : va_X b L xs s s.heap) (hbl : b < s.heap.size) (hbA : ¬ B < b) (hi : i + 5 ≤ L) (hL : L ≤ 320) (wo : Wo Ph G B 205 s M H locs) (rel : Rel M) (hl : lv_has ls 8 [(4, .int (nI i)), (0, .ref b), (1, .ref (B + 1)), (2, .ref (B + 169)), (3, .ref (B + 205))]) (hcl : cells + 1 ≤ 600128) (hsl : slots + 6 ≤ 7301098)
    (kk : ∀ (M1 : Mem) (H1 : Heap) (locs1 : List Loc) (ls1 : Array Slot), Wo Ph G B 205 s M1 H1 locs1 → Rel M1 → lv_has ls1 8 [(4, .int (nI i)), (0, .ref b), (1, .ref (B + 1)), (2, .ref (B + 169)), (3, .ref (B + 205))] → W p l e room_1 s m #[Value.ref b] below meth c H1 locs1 (cells + 1) (slots + 6) Q (F0 m 1495 ls1 [])) : W p l e room_1 s m #[Value.ref b] below meth c H locs cells slots Q (F0 m 663 ls []) := by
  refine lv_aload_n cx.1 cx.2.1 dL_law_663 rfl (lv_at hl 2 rfl) ?_
  obtain ⟨q1, e1, q2, e2, heq, rel2⟩ := st_week rel
  have e1 : fX9_week  M = some q1 := e1
  have e2 : fX10_week  q1.2 = some q2 := e2
  refine r_Vi (rest := []) cx wo (mX9_week l e1) cvL_87 rfl ad_1.1 ad_1.2.1 ad_1.2.2 rfl rfl hl.1 rfl (Nat.le_of_ble_eq_true rfl) (hL_ok hcl hsl (by decide)) dL_law_664 (fun H locs wo => ?_)
  refine lv_aload_n cx.1 cx.2.1 dL_law_667 rfl (lv_at hl 3 rfl) ?_
  refine r_Vi (rest := [.int q1.1]) cx wo (mX10_week l e2) cvL_90 rfl ad_169.1 ad_169.2.1 ad_169.2.2 rfl rfl hl.1 rfl (Nat.le_of_ble_eq_true rfl) (hL_ok hcl hsl (by decide)) dL_law_668 (fun H locs wo => ?_)
  refine lv_icmp_eq (tgt := 1495) cx.1 cx.2.1 dL_law_671 (by decide) (fun _ => ?_) (fun hne => absurd heq hne)
  exact w_wide (by omega) (by omega) (kk q2.2 H locs ls wo rel2 hl)

set_option maxHeartbeats 1000000 in
set_option maxRecDepth 10000 in
theorem lc_14 (l : Launch) (cx : Cx p s m #[Value.ref b] c cL_law 8 RL G) (hr : meth.sig.returnType = some .boolean) (hlk : meth.locks = false) (hX : va_X b L xs s s.heap) (hbl : b < s.heap.size) (hbA : ¬ B < b) (hi : i + 5 ≤ L) (hL : L ≤ 320) (wo : Wo Ph G B 205 s M H locs) (rel : Rel M) (hl : lv_has ls 8 [(4, .int (nI i)), (0, .ref b), (1, .ref (B + 1)), (2, .ref (B + 169)), (3, .ref (B + 205))]) (hcl : cells + 1 ≤ 600128) (hsl : slots + 6 ≤ 7301098)
    (kk : ∀ (M1 : Mem) (H1 : Heap) (locs1 : List Loc) (ls1 : Array Slot), Wo Ph G B 205 s M1 H1 locs1 → Rel M1 → lv_has ls1 8 [(4, .int (nI i)), (0, .ref b), (1, .ref (B + 1)), (2, .ref (B + 169)), (3, .ref (B + 205))] → W p l e room_1 s m #[Value.ref b] below meth c H1 locs1 (cells + 1) (slots + 6) Q (F0 m 1495 ls1 [])) : W p l e room_1 s m #[Value.ref b] below meth c H locs cells slots Q (F0 m 676 ls []) := by
  refine lv_aload_n cx.1 cx.2.1 dL_law_676 rfl (lv_at hl 2 rfl) ?_
  obtain ⟨q1, e1, q2, e2, heq, rel2⟩ := st_undo rel
  have e1 : fX9_undo  M = some q1 := e1
  have e2 : fX10_undo  q1.2 = some q2 := e2
  refine r_Vi (rest := []) cx wo (mX9_undo l e1) cvL_91 rfl ad_1.1 ad_1.2.1 ad_1.2.2 rfl rfl hl.1 rfl (Nat.le_of_ble_eq_true rfl) (hL_ok hcl hsl (by decide)) dL_law_677 (fun H locs wo => ?_)
  refine lv_aload_n cx.1 cx.2.1 dL_law_680 rfl (lv_at hl 3 rfl) ?_
  refine r_Vi (rest := [.int q1.1]) cx wo (mX10_undo l e2) cvL_94 rfl ad_169.1 ad_169.2.1 ad_169.2.2 rfl rfl hl.1 rfl (Nat.le_of_ble_eq_true rfl) (hL_ok hcl hsl (by decide)) dL_law_681 (fun H locs wo => ?_)
  refine lv_icmp_eq (tgt := 1495) cx.1 cx.2.1 dL_law_684 (by decide) (fun _ => ?_) (fun hne => absurd heq hne)
  exact w_wide (by omega) (by omega) (kk q2.2 H locs ls wo rel2 hl)

set_option maxHeartbeats 1000000 in
set_option maxRecDepth 10000 in
theorem lc_15 (l : Launch) (cx : Cx p s m #[Value.ref b] c cL_law 8 RL G) (hr : meth.sig.returnType = some .boolean) (hlk : meth.locks = false) (hX : va_X b L xs s s.heap) (hbl : b < s.heap.size) (hbA : ¬ B < b) (hi : i + 5 ≤ L) (hL : L ≤ 320) (wo : Wo Ph G B 205 s M H locs) (rel : Rel M) (hl : lv_has ls 8 [(4, .int (nI i)), (0, .ref b), (1, .ref (B + 1)), (2, .ref (B + 169)), (3, .ref (B + 205))]) (hcl : cells + 1 ≤ 600128) (hsl : slots + 6 ≤ 7301098)
    (kk : ∀ (M1 : Mem) (H1 : Heap) (locs1 : List Loc) (ls1 : Array Slot), Wo Ph G B 205 s M1 H1 locs1 → Rel M1 → lv_has ls1 8 [(4, .int (nI i)), (0, .ref b), (1, .ref (B + 1)), (2, .ref (B + 169)), (3, .ref (B + 205))] → W p l e room_1 s m #[Value.ref b] below meth c H1 locs1 (cells + 1) (slots + 6) Q (F0 m 1495 ls1 [])) : W p l e room_1 s m #[Value.ref b] below meth c H locs cells slots Q (F0 m 689 ls []) := by
  refine lv_aload_n cx.1 cx.2.1 dL_law_689 rfl (lv_at hl 2 rfl) ?_
  obtain ⟨q1, e1, q2, e2, heq, rel2⟩ := st_race rel
  have e1 : fX9_race  M = some q1 := e1
  have e2 : fX10_race  q1.2 = some q2 := e2
  refine r_Vi (rest := []) cx wo (mX9_race l e1) cvL_95 rfl ad_1.1 ad_1.2.1 ad_1.2.2 rfl rfl hl.1 rfl (Nat.le_of_ble_eq_true rfl) (hL_ok hcl hsl (by decide)) dL_law_690 (fun H locs wo => ?_)
  refine lv_aload_n cx.1 cx.2.1 dL_law_693 rfl (lv_at hl 3 rfl) ?_
  refine r_Vi (rest := [.int q1.1]) cx wo (mX10_race l e2) cvL_98 rfl ad_169.1 ad_169.2.1 ad_169.2.2 rfl rfl hl.1 rfl (Nat.le_of_ble_eq_true rfl) (hL_ok hcl hsl (by decide)) dL_law_694 (fun H locs wo => ?_)
  refine lv_icmp_eq (tgt := 1495) cx.1 cx.2.1 dL_law_697 (by decide) (fun _ => ?_) (fun hne => absurd heq hne)
  exact w_wide (by omega) (by omega) (kk q2.2 H locs ls wo rel2 hl)

set_option maxHeartbeats 1000000 in
set_option maxRecDepth 10000 in
theorem lc_16 (l : Launch) (cx : Cx p s m #[Value.ref b] c cL_law 8 RL G) (hr : meth.sig.returnType = some .boolean) (hlk : meth.locks = false) (hX : va_X b L xs s s.heap) (hbl : b < s.heap.size) (hbA : ¬ B < b) (hi : i + 5 ≤ L) (hL : L ≤ 320) (wo : Wo Ph G B 205 s M H locs) (rel : Rel M) (hl : lv_has ls 8 [(4, .int (nI i)), (0, .ref b), (1, .ref (B + 1)), (2, .ref (B + 169)), (3, .ref (B + 205))]) (hcl : cells + 1 ≤ 600128) (hsl : slots + 6 ≤ 7301098)
    (kk : ∀ (M1 : Mem) (H1 : Heap) (locs1 : List Loc) (ls1 : Array Slot), Wo Ph G B 205 s M1 H1 locs1 → Rel M1 → lv_has ls1 8 [(4, .int (nI i)), (0, .ref b), (1, .ref (B + 1)), (2, .ref (B + 169)), (3, .ref (B + 205))] → W p l e room_1 s m #[Value.ref b] below meth c H1 locs1 (cells + 1) (slots + 6) Q (F0 m 1495 ls1 [])) : W p l e room_1 s m #[Value.ref b] below meth c H locs cells slots Q (F0 m 702 ls []) := by
  refine lv_aload_n cx.1 cx.2.1 dL_law_702 rfl (lv_at hl 2 rfl) ?_
  refine s_ld (j := 1) cx hX hbl hbA wo hl (by omega) dL_law_703 dL_law_704 dL_law_706 (by decide) dL_law_707 dL_law_708 ?_
  refine s_ld (j := 2) cx hX hbl hbA wo hl (by omega) dL_law_709 dL_law_710 dL_law_712 (by decide) dL_law_713 dL_law_714 ?_
  obtain ⟨q1, e1, q2, e2, heq, rel2⟩ : StI (fun M => fX9_lies (xs (i + 1)) (xs (i + 2)) M) (fun M => fX10_lies (xs (i + 1)) (xs (i + 2)) M) M := st_lies rel
  have e1 : fX9_lies (xs (i + 1)) (xs (i + 2)) M = some q1 := e1
  have e2 : fX10_lies (xs (i + 1)) (xs (i + 2)) q1.2 = some q2 := e2
  refine r_Vi (rest := []) cx wo (mX9_lies l e1) cvL_99 rfl ad_1.1 ad_1.2.1 ad_1.2.2 rfl rfl hl.1 rfl (Nat.le_of_ble_eq_true rfl) (hL_ok hcl hsl (by decide)) dL_law_715 (fun H locs wo => ?_)
  refine lv_aload_n cx.1 cx.2.1 dL_law_718 rfl (lv_at hl 3 rfl) ?_
  refine s_ld (j := 1) cx hX hbl hbA wo hl (by omega) dL_law_719 dL_law_720 dL_law_722 (by decide) dL_law_723 dL_law_724 ?_
  refine s_ld (j := 2) cx hX hbl hbA wo hl (by omega) dL_law_725 dL_law_726 dL_law_728 (by decide) dL_law_729 dL_law_730 ?_
  refine r_Vi (rest := [.int q1.1]) cx wo (mX10_lies l e2) cvL_102 rfl ad_169.1 ad_169.2.1 ad_169.2.2 rfl rfl hl.1 rfl (Nat.le_of_ble_eq_true rfl) (hL_ok hcl hsl (by decide)) dL_law_731 (fun H locs wo => ?_)
  refine lv_icmp_eq (tgt := 1495) cx.1 cx.2.1 dL_law_734 (by decide) (fun _ => ?_) (fun hne => absurd heq hne)
  exact w_wide (by omega) (by omega) (kk q2.2 H locs ls wo rel2 hl)

set_option maxHeartbeats 1000000 in
set_option maxRecDepth 10000 in
theorem lc_17 (l : Launch) (cx : Cx p s m #[Value.ref b] c cL_law 8 RL G) (hr : meth.sig.returnType = some .boolean) (hlk : meth.locks = false) (hX : va_X b L xs s s.heap) (hbl : b < s.heap.size) (hbA : ¬ B < b) (hi : i + 5 ≤ L) (hL : L ≤ 320) (wo : Wo Ph G B 205 s M H locs) (rel : Rel M) (hl : lv_has ls 8 [(4, .int (nI i)), (0, .ref b), (1, .ref (B + 1)), (2, .ref (B + 169)), (3, .ref (B + 205))]) (hcl : cells + 1 ≤ 600128) (hsl : slots + 6 ≤ 7301098)
    (kk : ∀ (M1 : Mem) (H1 : Heap) (locs1 : List Loc) (ls1 : Array Slot), Wo Ph G B 205 s M1 H1 locs1 → Rel M1 → lv_has ls1 8 [(4, .int (nI i)), (0, .ref b), (1, .ref (B + 1)), (2, .ref (B + 169)), (3, .ref (B + 205))] → W p l e room_1 s m #[Value.ref b] below meth c H1 locs1 (cells + 1) (slots + 6) Q (F0 m 1495 ls1 [])) : W p l e room_1 s m #[Value.ref b] below meth c H locs cells slots Q (F0 m 739 ls []) := by
  refine lv_aload_n cx.1 cx.2.1 dL_law_739 rfl (lv_at hl 2 rfl) ?_
  obtain ⟨q1, e1, q2, e2, heq, rel2⟩ := st_over rel
  have e1 : fX9_over  M = some q1 := e1
  have e2 : fX10_over  q1.2 = some q2 := e2
  refine r_Vi (rest := []) cx wo (mX9_over l e1) cvL_103 rfl ad_1.1 ad_1.2.1 ad_1.2.2 rfl rfl hl.1 rfl (Nat.le_of_ble_eq_true rfl) (hL_ok hcl hsl (by decide)) dL_law_740 (fun H locs wo => ?_)
  refine lv_aload_n cx.1 cx.2.1 dL_law_743 rfl (lv_at hl 3 rfl) ?_
  refine r_Vi (rest := [.int q1.1]) cx wo (mX10_over l e2) cvL_106 rfl ad_169.1 ad_169.2.1 ad_169.2.2 rfl rfl hl.1 rfl (Nat.le_of_ble_eq_true rfl) (hL_ok hcl hsl (by decide)) dL_law_744 (fun H locs wo => ?_)
  refine lv_icmp_eq (tgt := 1495) cx.1 cx.2.1 dL_law_747 (by decide) (fun _ => ?_) (fun hne => absurd heq hne)
  exact w_wide (by omega) (by omega) (kk q2.2 H locs ls wo rel2 hl)

set_option maxHeartbeats 1000000 in
set_option maxRecDepth 10000 in
theorem lc_18 (l : Launch) (cx : Cx p s m #[Value.ref b] c cL_law 8 RL G) (hr : meth.sig.returnType = some .boolean) (hlk : meth.locks = false) (hX : va_X b L xs s s.heap) (hbl : b < s.heap.size) (hbA : ¬ B < b) (hi : i + 5 ≤ L) (hL : L ≤ 320) (wo : Wo Ph G B 205 s M H locs) (rel : Rel M) (hl : lv_has ls 8 [(4, .int (nI i)), (0, .ref b), (1, .ref (B + 1)), (2, .ref (B + 169)), (3, .ref (B + 205))]) (hcl : cells + 1 ≤ 600128) (hsl : slots + 6 ≤ 7301098)
    (kk : ∀ (M1 : Mem) (H1 : Heap) (locs1 : List Loc) (ls1 : Array Slot), Wo Ph G B 205 s M1 H1 locs1 → Rel M1 → lv_has ls1 8 [(4, .int (nI i)), (0, .ref b), (1, .ref (B + 1)), (2, .ref (B + 169)), (3, .ref (B + 205))] → W p l e room_1 s m #[Value.ref b] below meth c H1 locs1 (cells + 1) (slots + 6) Q (F0 m 1495 ls1 [])) : W p l e room_1 s m #[Value.ref b] below meth c H locs cells slots Q (F0 m 752 ls []) := by
  refine lv_aload_n cx.1 cx.2.1 dL_law_752 rfl (lv_at hl 2 rfl) ?_
  refine s_ld (j := 1) cx hX hbl hbA wo hl (by omega) dL_law_753 dL_law_754 dL_law_756 (by decide) dL_law_757 dL_law_758 ?_
  obtain ⟨q1, e1, q2, e2, heq, rel2⟩ : StI (fun M => fX9_closest (xs (i + 1)) M) (fun M => fX10_closest (xs (i + 1)) M) M := st_closest rel
  have e1 : fX9_closest (xs (i + 1)) M = some q1 := e1
  have e2 : fX10_closest (xs (i + 1)) q1.2 = some q2 := e2
  refine r_Vi (rest := []) cx wo (mX9_closest l e1) cvL_107 rfl ad_1.1 ad_1.2.1 ad_1.2.2 rfl rfl hl.1 rfl (Nat.le_of_ble_eq_true rfl) (hL_ok hcl hsl (by decide)) dL_law_759 (fun H locs wo => ?_)
  refine lv_aload_n cx.1 cx.2.1 dL_law_762 rfl (lv_at hl 3 rfl) ?_
  refine s_ld (j := 1) cx hX hbl hbA wo hl (by omega) dL_law_763 dL_law_764 dL_law_766 (by decide) dL_law_767 dL_law_768 ?_
  refine r_Vi (rest := [.int q1.1]) cx wo (mX10_closest l e2) cvL_110 rfl ad_169.1 ad_169.2.1 ad_169.2.2 rfl rfl hl.1 rfl (Nat.le_of_ble_eq_true rfl) (hL_ok hcl hsl (by decide)) dL_law_769 (fun H locs wo => ?_)
  refine lv_icmp_eq (tgt := 1495) cx.1 cx.2.1 dL_law_772 (by decide) (fun _ => ?_) (fun hne => absurd heq hne)
  exact w_wide (by omega) (by omega) (kk q2.2 H locs ls wo rel2 hl)

set_option maxHeartbeats 1000000 in
set_option maxRecDepth 10000 in
theorem lc_19 (l : Launch) (cx : Cx p s m #[Value.ref b] c cL_law 8 RL G) (hr : meth.sig.returnType = some .boolean) (hlk : meth.locks = false) (hX : va_X b L xs s s.heap) (hbl : b < s.heap.size) (hbA : ¬ B < b) (hi : i + 5 ≤ L) (hL : L ≤ 320) (wo : Wo Ph G B 205 s M H locs) (rel : Rel M) (hl : lv_has ls 8 [(4, .int (nI i)), (0, .ref b), (1, .ref (B + 1)), (2, .ref (B + 169)), (3, .ref (B + 205))]) (hcl : cells + 1 ≤ 600128) (hsl : slots + 6 ≤ 7301098)
    (kk : ∀ (M1 : Mem) (H1 : Heap) (locs1 : List Loc) (ls1 : Array Slot), Wo Ph G B 205 s M1 H1 locs1 → Rel M1 → lv_has ls1 8 [(4, .int (nI i)), (0, .ref b), (1, .ref (B + 1)), (2, .ref (B + 169)), (3, .ref (B + 205))] → W p l e room_1 s m #[Value.ref b] below meth c H1 locs1 (cells + 1) (slots + 6) Q (F0 m 1495 ls1 [])) : W p l e room_1 s m #[Value.ref b] below meth c H locs cells slots Q (F0 m 777 ls []) := by
  refine lv_aload_n cx.1 cx.2.1 dL_law_777 rfl (lv_at hl 2 rfl) ?_
  refine s_ld (j := 1) cx hX hbl hbA wo hl (by omega) dL_law_778 dL_law_779 dL_law_781 (by decide) dL_law_782 dL_law_783 ?_
  refine s_ld (j := 2) cx hX hbl hbA wo hl (by omega) dL_law_784 dL_law_785 dL_law_787 (by decide) dL_law_788 dL_law_789 ?_
  obtain ⟨q1, e1, q2, e2, heq, rel2⟩ : StI (fun M => fX9_later (xs (i + 1)) (xs (i + 2)) M) (fun M => fX10_later (xs (i + 1)) (xs (i + 2)) M) M := st_later rel
  have e1 : fX9_later (xs (i + 1)) (xs (i + 2)) M = some q1 := e1
  have e2 : fX10_later (xs (i + 1)) (xs (i + 2)) q1.2 = some q2 := e2
  refine r_Vi (rest := []) cx wo (mX9_later l e1) cvL_111 rfl ad_1.1 ad_1.2.1 ad_1.2.2 rfl rfl hl.1 rfl (Nat.le_of_ble_eq_true rfl) (hL_ok hcl hsl (by decide)) dL_law_790 (fun H locs wo => ?_)
  refine lv_aload_n cx.1 cx.2.1 dL_law_793 rfl (lv_at hl 3 rfl) ?_
  refine s_ld (j := 1) cx hX hbl hbA wo hl (by omega) dL_law_794 dL_law_795 dL_law_797 (by decide) dL_law_798 dL_law_799 ?_
  refine s_ld (j := 2) cx hX hbl hbA wo hl (by omega) dL_law_800 dL_law_801 dL_law_803 (by decide) dL_law_804 dL_law_805 ?_
  refine r_Vi (rest := [.int q1.1]) cx wo (mX10_later l e2) cvL_114 rfl ad_169.1 ad_169.2.1 ad_169.2.2 rfl rfl hl.1 rfl (Nat.le_of_ble_eq_true rfl) (hL_ok hcl hsl (by decide)) dL_law_806 (fun H locs wo => ?_)
  refine lv_icmp_eq (tgt := 1495) cx.1 cx.2.1 dL_law_809 (by decide) (fun _ => ?_) (fun hne => absurd heq hne)
  exact w_wide (by omega) (by omega) (kk q2.2 H locs ls wo rel2 hl)

set_option maxHeartbeats 1000000 in
set_option maxRecDepth 10000 in
theorem lc_20 (l : Launch) (cx : Cx p s m #[Value.ref b] c cL_law 8 RL G) (hr : meth.sig.returnType = some .boolean) (hlk : meth.locks = false) (hX : va_X b L xs s s.heap) (hbl : b < s.heap.size) (hbA : ¬ B < b) (hi : i + 5 ≤ L) (hL : L ≤ 320) (wo : Wo Ph G B 205 s M H locs) (rel : Rel M) (hl : lv_has ls 8 [(4, .int (nI i)), (0, .ref b), (1, .ref (B + 1)), (2, .ref (B + 169)), (3, .ref (B + 205))]) (hcl : cells + 1 ≤ 600128) (hsl : slots + 6 ≤ 7301098)
    (kk : ∀ (M1 : Mem) (H1 : Heap) (locs1 : List Loc) (ls1 : Array Slot), Wo Ph G B 205 s M1 H1 locs1 → Rel M1 → lv_has ls1 8 [(4, .int (nI i)), (0, .ref b), (1, .ref (B + 1)), (2, .ref (B + 169)), (3, .ref (B + 205))] → W p l e room_1 s m #[Value.ref b] below meth c H1 locs1 (cells + 1) (slots + 6) Q (F0 m 1495 ls1 [])) : W p l e room_1 s m #[Value.ref b] below meth c H locs cells slots Q (F0 m 814 ls []) := by
  refine lv_aload_n cx.1 cx.2.1 dL_law_814 rfl (lv_at hl 2 rfl) ?_
  refine s_ld (j := 1) cx hX hbl hbA wo hl (by omega) dL_law_815 dL_law_816 dL_law_818 (by decide) dL_law_819 dL_law_820 ?_
  obtain ⟨q1, e1, q2, e2, heq, rel2⟩ : StI (fun M => fX9_head (xs (i + 1)) M) (fun M => fX10_head (xs (i + 1)) M) M := st_head rel
  have e1 : fX9_head (xs (i + 1)) M = some q1 := e1
  have e2 : fX10_head (xs (i + 1)) q1.2 = some q2 := e2
  refine r_Vi (rest := []) cx wo (mX9_head l e1) cvL_115 rfl ad_1.1 ad_1.2.1 ad_1.2.2 rfl rfl hl.1 rfl (Nat.le_of_ble_eq_true rfl) (hL_ok hcl hsl (by decide)) dL_law_821 (fun H locs wo => ?_)
  refine lv_aload_n cx.1 cx.2.1 dL_law_824 rfl (lv_at hl 3 rfl) ?_
  refine s_ld (j := 1) cx hX hbl hbA wo hl (by omega) dL_law_825 dL_law_826 dL_law_828 (by decide) dL_law_829 dL_law_830 ?_
  refine r_Vi (rest := [.int q1.1]) cx wo (mX10_head l e2) cvL_118 rfl ad_169.1 ad_169.2.1 ad_169.2.2 rfl rfl hl.1 rfl (Nat.le_of_ble_eq_true rfl) (hL_ok hcl hsl (by decide)) dL_law_831 (fun H locs wo => ?_)
  refine lv_icmp_eq (tgt := 1495) cx.1 cx.2.1 dL_law_834 (by decide) (fun _ => ?_) (fun hne => absurd heq hne)
  exact w_wide (by omega) (by omega) (kk q2.2 H locs ls wo rel2 hl)

set_option maxHeartbeats 1000000 in
set_option maxRecDepth 10000 in
theorem lc_21 (l : Launch) (cx : Cx p s m #[Value.ref b] c cL_law 8 RL G) (hr : meth.sig.returnType = some .boolean) (hlk : meth.locks = false) (hX : va_X b L xs s s.heap) (hbl : b < s.heap.size) (hbA : ¬ B < b) (hi : i + 5 ≤ L) (hL : L ≤ 320) (wo : Wo Ph G B 205 s M H locs) (rel : Rel M) (hl : lv_has ls 8 [(4, .int (nI i)), (0, .ref b), (1, .ref (B + 1)), (2, .ref (B + 169)), (3, .ref (B + 205))]) (hcl : cells + 1 ≤ 600128) (hsl : slots + 6 ≤ 7301098)
    (kk : ∀ (M1 : Mem) (H1 : Heap) (locs1 : List Loc) (ls1 : Array Slot), Wo Ph G B 205 s M1 H1 locs1 → Rel M1 → lv_has ls1 8 [(4, .int (nI i)), (0, .ref b), (1, .ref (B + 1)), (2, .ref (B + 169)), (3, .ref (B + 205))] → W p l e room_1 s m #[Value.ref b] below meth c H1 locs1 (cells + 1) (slots + 6) Q (F0 m 1495 ls1 [])) : W p l e room_1 s m #[Value.ref b] below meth c H locs cells slots Q (F0 m 839 ls []) := by
  refine lv_aload_n cx.1 cx.2.1 dL_law_839 rfl (lv_at hl 2 rfl) ?_
  refine s_ld (j := 1) cx hX hbl hbA wo hl (by omega) dL_law_840 dL_law_841 dL_law_843 (by decide) dL_law_844 dL_law_845 ?_
  refine s_ld (j := 2) cx hX hbl hbA wo hl (by omega) dL_law_846 dL_law_847 dL_law_849 (by decide) dL_law_850 dL_law_851 ?_
  obtain ⟨q1, e1, q2, e2, heq, rel2⟩ : StI (fun M => fX9_bumps (xs (i + 1)) (xs (i + 2)) M) (fun M => fX10_bumps (xs (i + 1)) (xs (i + 2)) M) M := st_bumps rel
  have e1 : fX9_bumps (xs (i + 1)) (xs (i + 2)) M = some q1 := e1
  have e2 : fX10_bumps (xs (i + 1)) (xs (i + 2)) q1.2 = some q2 := e2
  refine r_Vi (rest := []) cx wo (mX9_bumps l e1) cvL_119 rfl ad_1.1 ad_1.2.1 ad_1.2.2 rfl rfl hl.1 rfl (Nat.le_of_ble_eq_true rfl) (hL_ok hcl hsl (by decide)) dL_law_852 (fun H locs wo => ?_)
  refine lv_aload_n cx.1 cx.2.1 dL_law_855 rfl (lv_at hl 3 rfl) ?_
  refine s_ld (j := 1) cx hX hbl hbA wo hl (by omega) dL_law_856 dL_law_857 dL_law_859 (by decide) dL_law_860 dL_law_861 ?_
  refine s_ld (j := 2) cx hX hbl hbA wo hl (by omega) dL_law_862 dL_law_863 dL_law_865 (by decide) dL_law_866 dL_law_867 ?_
  refine r_Vi (rest := [.int q1.1]) cx wo (mX10_bumps l e2) cvL_122 rfl ad_169.1 ad_169.2.1 ad_169.2.2 rfl rfl hl.1 rfl (Nat.le_of_ble_eq_true rfl) (hL_ok hcl hsl (by decide)) dL_law_868 (fun H locs wo => ?_)
  refine lv_icmp_eq (tgt := 1495) cx.1 cx.2.1 dL_law_871 (by decide) (fun _ => ?_) (fun hne => absurd heq hne)
  exact w_wide (by omega) (by omega) (kk q2.2 H locs ls wo rel2 hl)

set_option maxHeartbeats 1000000 in
set_option maxRecDepth 10000 in
theorem lc_22 (l : Launch) (cx : Cx p s m #[Value.ref b] c cL_law 8 RL G) (hr : meth.sig.returnType = some .boolean) (hlk : meth.locks = false) (hX : va_X b L xs s s.heap) (hbl : b < s.heap.size) (hbA : ¬ B < b) (hi : i + 5 ≤ L) (hL : L ≤ 320) (wo : Wo Ph G B 205 s M H locs) (rel : Rel M) (hl : lv_has ls 8 [(4, .int (nI i)), (0, .ref b), (1, .ref (B + 1)), (2, .ref (B + 169)), (3, .ref (B + 205))]) (hcl : cells + 1 ≤ 600128) (hsl : slots + 6 ≤ 7301098)
    (kk : ∀ (M1 : Mem) (H1 : Heap) (locs1 : List Loc) (ls1 : Array Slot), Wo Ph G B 205 s M1 H1 locs1 → Rel M1 → lv_has ls1 8 [(4, .int (nI i)), (0, .ref b), (1, .ref (B + 1)), (2, .ref (B + 169)), (3, .ref (B + 205))] → W p l e room_1 s m #[Value.ref b] below meth c H1 locs1 (cells + 1) (slots + 6) Q (F0 m 1495 ls1 [])) : W p l e room_1 s m #[Value.ref b] below meth c H locs cells slots Q (F0 m 876 ls []) := by
  refine lv_aload_n cx.1 cx.2.1 dL_law_876 rfl (lv_at hl 2 rfl) ?_
  refine s_ld (j := 1) cx hX hbl hbA wo hl (by omega) dL_law_877 dL_law_878 dL_law_880 (by decide) dL_law_881 dL_law_882 ?_
  obtain ⟨q1, e1, q2, e2, heq, rel2⟩ : StI (fun M => fX9_blades (xs (i + 1)) M) (fun M => fX10_blades (xs (i + 1)) M) M := st_blades rel
  have e1 : fX9_blades (xs (i + 1)) M = some q1 := e1
  have e2 : fX10_blades (xs (i + 1)) q1.2 = some q2 := e2
  refine r_Vi (rest := []) cx wo (mX9_blades l e1) cvL_123 rfl ad_1.1 ad_1.2.1 ad_1.2.2 rfl rfl hl.1 rfl (Nat.le_of_ble_eq_true rfl) (hL_ok hcl hsl (by decide)) dL_law_883 (fun H locs wo => ?_)
  refine lv_aload_n cx.1 cx.2.1 dL_law_886 rfl (lv_at hl 3 rfl) ?_
  refine s_ld (j := 1) cx hX hbl hbA wo hl (by omega) dL_law_887 dL_law_888 dL_law_890 (by decide) dL_law_891 dL_law_892 ?_
  refine r_Vi (rest := [.int q1.1]) cx wo (mX10_blades l e2) cvL_126 rfl ad_169.1 ad_169.2.1 ad_169.2.2 rfl rfl hl.1 rfl (Nat.le_of_ble_eq_true rfl) (hL_ok hcl hsl (by decide)) dL_law_893 (fun H locs wo => ?_)
  refine lv_icmp_eq (tgt := 1495) cx.1 cx.2.1 dL_law_896 (by decide) (fun _ => ?_) (fun hne => absurd heq hne)
  exact w_wide (by omega) (by omega) (kk q2.2 H locs ls wo rel2 hl)

set_option maxHeartbeats 1000000 in
set_option maxRecDepth 10000 in
theorem lc_23 (l : Launch) (cx : Cx p s m #[Value.ref b] c cL_law 8 RL G) (hr : meth.sig.returnType = some .boolean) (hlk : meth.locks = false) (hX : va_X b L xs s s.heap) (hbl : b < s.heap.size) (hbA : ¬ B < b) (hi : i + 5 ≤ L) (hL : L ≤ 320) (wo : Wo Ph G B 205 s M H locs) (rel : Rel M) (hl : lv_has ls 8 [(4, .int (nI i)), (0, .ref b), (1, .ref (B + 1)), (2, .ref (B + 169)), (3, .ref (B + 205))]) (hcl : cells + 1 ≤ 600128) (hsl : slots + 6 ≤ 7301098)
    (kk : ∀ (M1 : Mem) (H1 : Heap) (locs1 : List Loc) (ls1 : Array Slot), Wo Ph G B 205 s M1 H1 locs1 → Rel M1 → lv_has ls1 8 [(4, .int (nI i)), (0, .ref b), (1, .ref (B + 1)), (2, .ref (B + 169)), (3, .ref (B + 205))] → W p l e room_1 s m #[Value.ref b] below meth c H1 locs1 (cells + 1) (slots + 6) Q (F0 m 1495 ls1 [])) : W p l e room_1 s m #[Value.ref b] below meth c H locs cells slots Q (F0 m 901 ls []) := by
  refine lv_aload_n cx.1 cx.2.1 dL_law_901 rfl (lv_at hl 2 rfl) ?_
  obtain ⟨q1, e1, q2, e2, heq, rel2⟩ := st_round rel
  have e1 : fX9_round  M = some q1 := e1
  have e2 : fX10_round  q1.2 = some q2 := e2
  refine r_Vi (rest := []) cx wo (mX9_round l e1) cvL_127 rfl ad_1.1 ad_1.2.1 ad_1.2.2 rfl rfl hl.1 rfl (Nat.le_of_ble_eq_true rfl) (hL_ok hcl hsl (by decide)) dL_law_902 (fun H locs wo => ?_)
  refine lv_aload_n cx.1 cx.2.1 dL_law_905 rfl (lv_at hl 3 rfl) ?_
  refine r_Vi (rest := [.int q1.1]) cx wo (mX10_round l e2) cvL_130 rfl ad_169.1 ad_169.2.1 ad_169.2.2 rfl rfl hl.1 rfl (Nat.le_of_ble_eq_true rfl) (hL_ok hcl hsl (by decide)) dL_law_906 (fun H locs wo => ?_)
  refine lv_icmp_eq (tgt := 1495) cx.1 cx.2.1 dL_law_909 (by decide) (fun _ => ?_) (fun hne => absurd heq hne)
  exact w_wide (by omega) (by omega) (kk q2.2 H locs ls wo rel2 hl)

set_option maxHeartbeats 1000000 in
set_option maxRecDepth 10000 in
theorem lc_24 (l : Launch) (cx : Cx p s m #[Value.ref b] c cL_law 8 RL G) (hr : meth.sig.returnType = some .boolean) (hlk : meth.locks = false) (hX : va_X b L xs s s.heap) (hbl : b < s.heap.size) (hbA : ¬ B < b) (hi : i + 5 ≤ L) (hL : L ≤ 320) (wo : Wo Ph G B 205 s M H locs) (rel : Rel M) (hl : lv_has ls 8 [(4, .int (nI i)), (0, .ref b), (1, .ref (B + 1)), (2, .ref (B + 169)), (3, .ref (B + 205))]) (hcl : cells + 1 ≤ 600128) (hsl : slots + 6 ≤ 7301098)
    (kk : ∀ (M1 : Mem) (H1 : Heap) (locs1 : List Loc) (ls1 : Array Slot), Wo Ph G B 205 s M1 H1 locs1 → Rel M1 → lv_has ls1 8 [(4, .int (nI i)), (0, .ref b), (1, .ref (B + 1)), (2, .ref (B + 169)), (3, .ref (B + 205))] → W p l e room_1 s m #[Value.ref b] below meth c H1 locs1 (cells + 1) (slots + 6) Q (F0 m 1495 ls1 [])) : W p l e room_1 s m #[Value.ref b] below meth c H locs cells slots Q (F0 m 914 ls []) := by
  refine lv_aload_n cx.1 cx.2.1 dL_law_914 rfl (lv_at hl 2 rfl) ?_
  obtain ⟨q1, e1, q2, e2, heq, rel2⟩ := st_sets rel
  have e1 : fX9_sets  M = some q1 := e1
  have e2 : fX10_sets  q1.2 = some q2 := e2
  refine r_Vi (rest := []) cx wo (mX9_sets l e1) cvL_131 rfl ad_1.1 ad_1.2.1 ad_1.2.2 rfl rfl hl.1 rfl (Nat.le_of_ble_eq_true rfl) (hL_ok hcl hsl (by decide)) dL_law_915 (fun H locs wo => ?_)
  refine lv_aload_n cx.1 cx.2.1 dL_law_918 rfl (lv_at hl 3 rfl) ?_
  refine r_Vi (rest := [.int q1.1]) cx wo (mX10_sets l e2) cvL_134 rfl ad_169.1 ad_169.2.1 ad_169.2.2 rfl rfl hl.1 rfl (Nat.le_of_ble_eq_true rfl) (hL_ok hcl hsl (by decide)) dL_law_919 (fun H locs wo => ?_)
  refine lv_icmp_eq (tgt := 1495) cx.1 cx.2.1 dL_law_922 (by decide) (fun _ => ?_) (fun hne => absurd heq hne)
  exact w_wide (by omega) (by omega) (kk q2.2 H locs ls wo rel2 hl)

set_option maxHeartbeats 1000000 in
set_option maxRecDepth 10000 in
theorem lc_25 (l : Launch) (cx : Cx p s m #[Value.ref b] c cL_law 8 RL G) (hr : meth.sig.returnType = some .boolean) (hlk : meth.locks = false) (hX : va_X b L xs s s.heap) (hbl : b < s.heap.size) (hbA : ¬ B < b) (hi : i + 5 ≤ L) (hL : L ≤ 320) (wo : Wo Ph G B 205 s M H locs) (rel : Rel M) (hl : lv_has ls 8 [(4, .int (nI i)), (0, .ref b), (1, .ref (B + 1)), (2, .ref (B + 169)), (3, .ref (B + 205))]) (hcl : cells + 1 ≤ 600128) (hsl : slots + 6 ≤ 7301098)
    (kk : ∀ (M1 : Mem) (H1 : Heap) (locs1 : List Loc) (ls1 : Array Slot), Wo Ph G B 205 s M1 H1 locs1 → Rel M1 → lv_has ls1 8 [(4, .int (nI i)), (0, .ref b), (1, .ref (B + 1)), (2, .ref (B + 169)), (3, .ref (B + 205))] → W p l e room_1 s m #[Value.ref b] below meth c H1 locs1 (cells + 1) (slots + 6) Q (F0 m 1495 ls1 [])) : W p l e room_1 s m #[Value.ref b] below meth c H locs cells slots Q (F0 m 927 ls []) := by
  refine lv_aload_n cx.1 cx.2.1 dL_law_927 rfl (lv_at hl 2 rfl) ?_
  refine s_ld (j := 1) cx hX hbl hbA wo hl (by omega) dL_law_928 dL_law_929 dL_law_931 (by decide) dL_law_932 dL_law_933 ?_
  obtain ⟨q1, e1, q2, e2, heq, rel2⟩ : StI (fun M => fX9_orders (xs (i + 1)) M) (fun M => fX10_orders (xs (i + 1)) M) M := st_orders rel
  have e1 : fX9_orders (xs (i + 1)) M = some q1 := e1
  have e2 : fX10_orders (xs (i + 1)) q1.2 = some q2 := e2
  refine r_Vi (rest := []) cx wo (mX9_orders l e1) cvL_135 rfl ad_1.1 ad_1.2.1 ad_1.2.2 rfl rfl hl.1 rfl (Nat.le_of_ble_eq_true rfl) (hL_ok hcl hsl (by decide)) dL_law_934 (fun H locs wo => ?_)
  refine lv_aload_n cx.1 cx.2.1 dL_law_937 rfl (lv_at hl 3 rfl) ?_
  refine s_ld (j := 1) cx hX hbl hbA wo hl (by omega) dL_law_938 dL_law_939 dL_law_941 (by decide) dL_law_942 dL_law_943 ?_
  refine r_Vi (rest := [.int q1.1]) cx wo (mX10_orders l e2) cvL_138 rfl ad_169.1 ad_169.2.1 ad_169.2.2 rfl rfl hl.1 rfl (Nat.le_of_ble_eq_true rfl) (hL_ok hcl hsl (by decide)) dL_law_944 (fun H locs wo => ?_)
  refine lv_icmp_eq (tgt := 1495) cx.1 cx.2.1 dL_law_947 (by decide) (fun _ => ?_) (fun hne => absurd heq hne)
  exact w_wide (by omega) (by omega) (kk q2.2 H locs ls wo rel2 hl)

set_option maxHeartbeats 1000000 in
set_option maxRecDepth 10000 in
theorem lc_26 (l : Launch) (cx : Cx p s m #[Value.ref b] c cL_law 8 RL G) (hr : meth.sig.returnType = some .boolean) (hlk : meth.locks = false) (hX : va_X b L xs s s.heap) (hbl : b < s.heap.size) (hbA : ¬ B < b) (hi : i + 5 ≤ L) (hL : L ≤ 320) (wo : Wo Ph G B 205 s M H locs) (rel : Rel M) (hl : lv_has ls 8 [(4, .int (nI i)), (0, .ref b), (1, .ref (B + 1)), (2, .ref (B + 169)), (3, .ref (B + 205))]) (hcl : cells + 1 ≤ 600128) (hsl : slots + 6 ≤ 7301098)
    (kk : ∀ (M1 : Mem) (H1 : Heap) (locs1 : List Loc) (ls1 : Array Slot), Wo Ph G B 205 s M1 H1 locs1 → Rel M1 → lv_has ls1 8 [(4, .int (nI i)), (0, .ref b), (1, .ref (B + 1)), (2, .ref (B + 169)), (3, .ref (B + 205))] → W p l e room_1 s m #[Value.ref b] below meth c H1 locs1 (cells + 1) (slots + 6) Q (F0 m 1495 ls1 [])) : W p l e room_1 s m #[Value.ref b] below meth c H locs cells slots Q (F0 m 952 ls []) := by
  refine lv_aload_n cx.1 cx.2.1 dL_law_952 rfl (lv_at hl 2 rfl) ?_
  refine s_ld (j := 1) cx hX hbl hbA wo hl (by omega) dL_law_953 dL_law_954 dL_law_956 (by decide) dL_law_957 dL_law_958 ?_
  refine s_ld (j := 2) cx hX hbl hbA wo hl (by omega) dL_law_959 dL_law_960 dL_law_962 (by decide) dL_law_963 dL_law_964 ?_
  obtain ⟨q1, e1, q2, e2, heq, rel2⟩ : StI (fun M => fX9_best (xs (i + 1)) (xs (i + 2)) M) (fun M => fX10_best (xs (i + 1)) (xs (i + 2)) M) M := st_best rel
  have e1 : fX9_best (xs (i + 1)) (xs (i + 2)) M = some q1 := e1
  have e2 : fX10_best (xs (i + 1)) (xs (i + 2)) q1.2 = some q2 := e2
  refine r_Vi (rest := []) cx wo (mX9_best l e1) cvL_139 rfl ad_1.1 ad_1.2.1 ad_1.2.2 rfl rfl hl.1 rfl (Nat.le_of_ble_eq_true rfl) (hL_ok hcl hsl (by decide)) dL_law_965 (fun H locs wo => ?_)
  refine lv_aload_n cx.1 cx.2.1 dL_law_968 rfl (lv_at hl 3 rfl) ?_
  refine s_ld (j := 1) cx hX hbl hbA wo hl (by omega) dL_law_969 dL_law_970 dL_law_972 (by decide) dL_law_973 dL_law_974 ?_
  refine s_ld (j := 2) cx hX hbl hbA wo hl (by omega) dL_law_975 dL_law_976 dL_law_978 (by decide) dL_law_979 dL_law_980 ?_
  refine r_Vi (rest := [.int q1.1]) cx wo (mX10_best l e2) cvL_142 rfl ad_169.1 ad_169.2.1 ad_169.2.2 rfl rfl hl.1 rfl (Nat.le_of_ble_eq_true rfl) (hL_ok hcl hsl (by decide)) dL_law_981 (fun H locs wo => ?_)
  refine lv_icmp_eq (tgt := 1495) cx.1 cx.2.1 dL_law_984 (by decide) (fun _ => ?_) (fun hne => absurd heq hne)
  exact w_wide (by omega) (by omega) (kk q2.2 H locs ls wo rel2 hl)

set_option maxHeartbeats 1000000 in
set_option maxRecDepth 10000 in
theorem lc_27 (l : Launch) (cx : Cx p s m #[Value.ref b] c cL_law 8 RL G) (hr : meth.sig.returnType = some .boolean) (hlk : meth.locks = false) (hX : va_X b L xs s s.heap) (hbl : b < s.heap.size) (hbA : ¬ B < b) (hi : i + 5 ≤ L) (hL : L ≤ 320) (wo : Wo Ph G B 205 s M H locs) (rel : Rel M) (hl : lv_has ls 8 [(4, .int (nI i)), (0, .ref b), (1, .ref (B + 1)), (2, .ref (B + 169)), (3, .ref (B + 205))]) (hcl : cells + 1 ≤ 600128) (hsl : slots + 6 ≤ 7301098)
    (kk : ∀ (M1 : Mem) (H1 : Heap) (locs1 : List Loc) (ls1 : Array Slot), Wo Ph G B 205 s M1 H1 locs1 → Rel M1 → lv_has ls1 8 [(4, .int (nI i)), (0, .ref b), (1, .ref (B + 1)), (2, .ref (B + 169)), (3, .ref (B + 205))] → W p l e room_1 s m #[Value.ref b] below meth c H1 locs1 (cells + 1) (slots + 6) Q (F0 m 1495 ls1 [])) : W p l e room_1 s m #[Value.ref b] below meth c H locs cells slots Q (F0 m 989 ls []) := by
  refine lv_aload_n cx.1 cx.2.1 dL_law_989 rfl (lv_at hl 2 rfl) ?_
  obtain ⟨q1, e1, q2, e2, heq, rel2⟩ := st_soonest rel
  have e1 : fX9_soonest  M = some q1 := e1
  have e2 : fX10_soonest  q1.2 = some q2 := e2
  refine r_Vi (rest := []) cx wo (mX9_soonest l e1) cvL_143 rfl ad_1.1 ad_1.2.1 ad_1.2.2 rfl rfl hl.1 rfl (Nat.le_of_ble_eq_true rfl) (hL_ok hcl hsl (by decide)) dL_law_990 (fun H locs wo => ?_)
  refine lv_aload_n cx.1 cx.2.1 dL_law_993 rfl (lv_at hl 3 rfl) ?_
  refine r_Vi (rest := [.int q1.1]) cx wo (mX10_soonest l e2) cvL_146 rfl ad_169.1 ad_169.2.1 ad_169.2.2 rfl rfl hl.1 rfl (Nat.le_of_ble_eq_true rfl) (hL_ok hcl hsl (by decide)) dL_law_994 (fun H locs wo => ?_)
  refine lv_icmp_eq (tgt := 1495) cx.1 cx.2.1 dL_law_997 (by decide) (fun _ => ?_) (fun hne => absurd heq hne)
  exact w_wide (by omega) (by omega) (kk q2.2 H locs ls wo rel2 hl)

set_option maxHeartbeats 1000000 in
set_option maxRecDepth 10000 in
theorem lc_28 (l : Launch) (cx : Cx p s m #[Value.ref b] c cL_law 8 RL G) (hr : meth.sig.returnType = some .boolean) (hlk : meth.locks = false) (hX : va_X b L xs s s.heap) (hbl : b < s.heap.size) (hbA : ¬ B < b) (hi : i + 5 ≤ L) (hL : L ≤ 320) (wo : Wo Ph G B 205 s M H locs) (rel : Rel M) (hl : lv_has ls 8 [(4, .int (nI i)), (0, .ref b), (1, .ref (B + 1)), (2, .ref (B + 169)), (3, .ref (B + 205))]) (hcl : cells + 1 ≤ 600128) (hsl : slots + 6 ≤ 7301098)
    (kk : ∀ (M1 : Mem) (H1 : Heap) (locs1 : List Loc) (ls1 : Array Slot), Wo Ph G B 205 s M1 H1 locs1 → Rel M1 → lv_has ls1 8 [(4, .int (nI i)), (0, .ref b), (1, .ref (B + 1)), (2, .ref (B + 169)), (3, .ref (B + 205))] → W p l e room_1 s m #[Value.ref b] below meth c H1 locs1 (cells + 1) (slots + 6) Q (F0 m 1495 ls1 [])) : W p l e room_1 s m #[Value.ref b] below meth c H locs cells slots Q (F0 m 1002 ls []) := by
  refine lv_aload_n cx.1 cx.2.1 dL_law_1002 rfl (lv_at hl 2 rfl) ?_
  obtain ⟨q1, e1, q2, e2, heq, rel2⟩ := st_crossed rel
  have e1 : fX9_crossed  M = some q1 := e1
  have e2 : fX10_crossed  q1.2 = some q2 := e2
  refine r_Vi (rest := []) cx wo (mX9_crossed l e1) cvL_147 rfl ad_1.1 ad_1.2.1 ad_1.2.2 rfl rfl hl.1 rfl (Nat.le_of_ble_eq_true rfl) (hL_ok hcl hsl (by decide)) dL_law_1003 (fun H locs wo => ?_)
  refine lv_aload_n cx.1 cx.2.1 dL_law_1006 rfl (lv_at hl 3 rfl) ?_
  refine r_Vi (rest := [.int q1.1]) cx wo (mX10_crossed l e2) cvL_150 rfl ad_169.1 ad_169.2.1 ad_169.2.2 rfl rfl hl.1 rfl (Nat.le_of_ble_eq_true rfl) (hL_ok hcl hsl (by decide)) dL_law_1007 (fun H locs wo => ?_)
  refine lv_icmp_eq (tgt := 1495) cx.1 cx.2.1 dL_law_1010 (by decide) (fun _ => ?_) (fun hne => absurd heq hne)
  exact w_wide (by omega) (by omega) (kk q2.2 H locs ls wo rel2 hl)

set_option maxHeartbeats 1000000 in
set_option maxRecDepth 10000 in
theorem lc_29 (l : Launch) (cx : Cx p s m #[Value.ref b] c cL_law 8 RL G) (hr : meth.sig.returnType = some .boolean) (hlk : meth.locks = false) (hX : va_X b L xs s s.heap) (hbl : b < s.heap.size) (hbA : ¬ B < b) (hi : i + 5 ≤ L) (hL : L ≤ 320) (wo : Wo Ph G B 205 s M H locs) (rel : Rel M) (hl : lv_has ls 8 [(4, .int (nI i)), (0, .ref b), (1, .ref (B + 1)), (2, .ref (B + 169)), (3, .ref (B + 205))]) (hcl : cells + 1 ≤ 600128) (hsl : slots + 6 ≤ 7301098)
    (kk : ∀ (M1 : Mem) (H1 : Heap) (locs1 : List Loc) (ls1 : Array Slot), Wo Ph G B 205 s M1 H1 locs1 → Rel M1 → lv_has ls1 8 [(4, .int (nI i)), (0, .ref b), (1, .ref (B + 1)), (2, .ref (B + 169)), (3, .ref (B + 205))] → W p l e room_1 s m #[Value.ref b] below meth c H1 locs1 (cells + 1) (slots + 6) Q (F0 m 1495 ls1 [])) : W p l e room_1 s m #[Value.ref b] below meth c H locs cells slots Q (F0 m 1015 ls []) := by
  refine lv_aload_n cx.1 cx.2.1 dL_law_1015 rfl (lv_at hl 2 rfl) ?_
  obtain ⟨q1, e1, q2, e2, heq, rel2⟩ := st_chart rel
  have e1 : fX9_chart  M = some q1 := e1
  have e2 : fX10_chart  q1.2 = some q2 := e2
  refine r_Vi (rest := []) cx wo (mX9_chart l e1) cvL_151 rfl ad_1.1 ad_1.2.1 ad_1.2.2 rfl rfl hl.1 rfl (Nat.le_of_ble_eq_true rfl) (hL_ok hcl hsl (by decide)) dL_law_1016 (fun H locs wo => ?_)
  refine lv_aload_n cx.1 cx.2.1 dL_law_1019 rfl (lv_at hl 3 rfl) ?_
  refine r_Vi (rest := [.int q1.1]) cx wo (mX10_chart l e2) cvL_154 rfl ad_169.1 ad_169.2.1 ad_169.2.2 rfl rfl hl.1 rfl (Nat.le_of_ble_eq_true rfl) (hL_ok hcl hsl (by decide)) dL_law_1020 (fun H locs wo => ?_)
  refine lv_icmp_eq (tgt := 1495) cx.1 cx.2.1 dL_law_1023 (by decide) (fun _ => ?_) (fun hne => absurd heq hne)
  exact w_wide (by omega) (by omega) (kk q2.2 H locs ls wo rel2 hl)

set_option maxHeartbeats 1000000 in
set_option maxRecDepth 10000 in
theorem lc_30 (l : Launch) (cx : Cx p s m #[Value.ref b] c cL_law 8 RL G) (hr : meth.sig.returnType = some .boolean) (hlk : meth.locks = false) (hX : va_X b L xs s s.heap) (hbl : b < s.heap.size) (hbA : ¬ B < b) (hi : i + 5 ≤ L) (hL : L ≤ 320) (wo : Wo Ph G B 205 s M H locs) (rel : Rel M) (hl : lv_has ls 8 [(4, .int (nI i)), (0, .ref b), (1, .ref (B + 1)), (2, .ref (B + 169)), (3, .ref (B + 205))]) (hcl : cells + 1 ≤ 600128) (hsl : slots + 6 ≤ 7301098)
    (kk : ∀ (M1 : Mem) (H1 : Heap) (locs1 : List Loc) (ls1 : Array Slot), Wo Ph G B 205 s M1 H1 locs1 → Rel M1 → lv_has ls1 8 [(4, .int (nI i)), (0, .ref b), (1, .ref (B + 1)), (2, .ref (B + 169)), (3, .ref (B + 205))] → W p l e room_1 s m #[Value.ref b] below meth c H1 locs1 (cells + 1) (slots + 6) Q (F0 m 1495 ls1 [])) : W p l e room_1 s m #[Value.ref b] below meth c H locs cells slots Q (F0 m 1028 ls []) := by
  refine lv_aload_n cx.1 cx.2.1 dL_law_1028 rfl (lv_at hl 2 rfl) ?_
  refine s_ld (j := 1) cx hX hbl hbA wo hl (by omega) dL_law_1029 dL_law_1030 dL_law_1032 (by decide) dL_law_1033 dL_law_1034 ?_
  obtain ⟨q1, e1, q2, e2, heq, rel2⟩ : StI (fun M => fX9_spurs (xs (i + 1)) M) (fun M => fX10_spurs (xs (i + 1)) M) M := st_spurs rel
  have e1 : fX9_spurs (xs (i + 1)) M = some q1 := e1
  have e2 : fX10_spurs (xs (i + 1)) q1.2 = some q2 := e2
  refine r_Vi (rest := []) cx wo (mX9_spurs l e1) cvL_155 rfl ad_1.1 ad_1.2.1 ad_1.2.2 rfl rfl hl.1 rfl (Nat.le_of_ble_eq_true rfl) (hL_ok hcl hsl (by decide)) dL_law_1035 (fun H locs wo => ?_)
  refine lv_aload_n cx.1 cx.2.1 dL_law_1038 rfl (lv_at hl 3 rfl) ?_
  refine s_ld (j := 1) cx hX hbl hbA wo hl (by omega) dL_law_1039 dL_law_1040 dL_law_1042 (by decide) dL_law_1043 dL_law_1044 ?_
  refine r_Vi (rest := [.int q1.1]) cx wo (mX10_spurs l e2) cvL_158 rfl ad_169.1 ad_169.2.1 ad_169.2.2 rfl rfl hl.1 rfl (Nat.le_of_ble_eq_true rfl) (hL_ok hcl hsl (by decide)) dL_law_1045 (fun H locs wo => ?_)
  refine lv_icmp_eq (tgt := 1495) cx.1 cx.2.1 dL_law_1048 (by decide) (fun _ => ?_) (fun hne => absurd heq hne)
  exact w_wide (by omega) (by omega) (kk q2.2 H locs ls wo rel2 hl)

set_option maxHeartbeats 1000000 in
set_option maxRecDepth 10000 in
theorem lc_31 (l : Launch) (cx : Cx p s m #[Value.ref b] c cL_law 8 RL G) (hr : meth.sig.returnType = some .boolean) (hlk : meth.locks = false) (hX : va_X b L xs s s.heap) (hbl : b < s.heap.size) (hbA : ¬ B < b) (hi : i + 5 ≤ L) (hL : L ≤ 320) (wo : Wo Ph G B 205 s M H locs) (rel : Rel M) (hl : lv_has ls 8 [(4, .int (nI i)), (0, .ref b), (1, .ref (B + 1)), (2, .ref (B + 169)), (3, .ref (B + 205))]) (hcl : cells + 1 ≤ 600128) (hsl : slots + 6 ≤ 7301098)
    (kk : ∀ (M1 : Mem) (H1 : Heap) (locs1 : List Loc) (ls1 : Array Slot), Wo Ph G B 205 s M1 H1 locs1 → Rel M1 → lv_has ls1 8 [(4, .int (nI i)), (0, .ref b), (1, .ref (B + 1)), (2, .ref (B + 169)), (3, .ref (B + 205))] → W p l e room_1 s m #[Value.ref b] below meth c H1 locs1 (cells + 1) (slots + 6) Q (F0 m 1495 ls1 [])) : W p l e room_1 s m #[Value.ref b] below meth c H locs cells slots Q (F0 m 1053 ls []) := by
  refine lv_aload_n cx.1 cx.2.1 dL_law_1053 rfl (lv_at hl 2 rfl) ?_
  obtain ⟨q1, e1, q2, e2, heq, rel2⟩ := st_calm rel
  have e1 : fX9_calm  M = some q1 := e1
  have e2 : fX10_calm  q1.2 = some q2 := e2
  refine r_Vi (rest := []) cx wo (mX9_calm l e1) cvL_159 rfl ad_1.1 ad_1.2.1 ad_1.2.2 rfl rfl hl.1 rfl (Nat.le_of_ble_eq_true rfl) (hL_ok hcl hsl (by decide)) dL_law_1054 (fun H locs wo => ?_)
  refine lv_aload_n cx.1 cx.2.1 dL_law_1057 rfl (lv_at hl 3 rfl) ?_
  refine r_Vi (rest := [.int q1.1]) cx wo (mX10_calm l e2) cvL_162 rfl ad_169.1 ad_169.2.1 ad_169.2.2 rfl rfl hl.1 rfl (Nat.le_of_ble_eq_true rfl) (hL_ok hcl hsl (by decide)) dL_law_1058 (fun H locs wo => ?_)
  refine lv_icmp_eq (tgt := 1495) cx.1 cx.2.1 dL_law_1061 (by decide) (fun _ => ?_) (fun hne => absurd heq hne)
  exact w_wide (by omega) (by omega) (kk q2.2 H locs ls wo rel2 hl)

set_option maxHeartbeats 1000000 in
set_option maxRecDepth 10000 in
theorem lc_32 (l : Launch) (cx : Cx p s m #[Value.ref b] c cL_law 8 RL G) (hr : meth.sig.returnType = some .boolean) (hlk : meth.locks = false) (hX : va_X b L xs s s.heap) (hbl : b < s.heap.size) (hbA : ¬ B < b) (hi : i + 5 ≤ L) (hL : L ≤ 320) (wo : Wo Ph G B 205 s M H locs) (rel : Rel M) (hl : lv_has ls 8 [(4, .int (nI i)), (0, .ref b), (1, .ref (B + 1)), (2, .ref (B + 169)), (3, .ref (B + 205))]) (hcl : cells + 1 ≤ 600128) (hsl : slots + 6 ≤ 7301098)
    (kk : ∀ (M1 : Mem) (H1 : Heap) (locs1 : List Loc) (ls1 : Array Slot), Wo Ph G B 205 s M1 H1 locs1 → Rel M1 → lv_has ls1 8 [(4, .int (nI i)), (0, .ref b), (1, .ref (B + 1)), (2, .ref (B + 169)), (3, .ref (B + 205))] → W p l e room_1 s m #[Value.ref b] below meth c H1 locs1 (cells + 1) (slots + 6) Q (F0 m 1495 ls1 [])) : W p l e room_1 s m #[Value.ref b] below meth c H locs cells slots Q (F0 m 1066 ls []) := by
  refine lv_aload_n cx.1 cx.2.1 dL_law_1066 rfl (lv_at hl 2 rfl) ?_
  refine s_ld (j := 1) cx hX hbl hbA wo hl (by omega) dL_law_1067 dL_law_1068 dL_law_1070 (by decide) dL_law_1071 dL_law_1072 ?_
  refine s_ld (j := 2) cx hX hbl hbA wo hl (by omega) dL_law_1073 dL_law_1074 dL_law_1076 (by decide) dL_law_1077 dL_law_1078 ?_
  obtain ⟨q1, e1, q2, e2, heq, rel2⟩ : StI (fun M => fX9_differ (xs (i + 1)) (xs (i + 2)) M) (fun M => fX10_differ (xs (i + 1)) (xs (i + 2)) M) M := st_differ rel
  have e1 : fX9_differ (xs (i + 1)) (xs (i + 2)) M = some q1 := e1
  have e2 : fX10_differ (xs (i + 1)) (xs (i + 2)) q1.2 = some q2 := e2
  refine r_Vi (rest := []) cx wo (mX9_differ l e1) cvL_163 rfl ad_1.1 ad_1.2.1 ad_1.2.2 rfl rfl hl.1 rfl (Nat.le_of_ble_eq_true rfl) (hL_ok hcl hsl (by decide)) dL_law_1079 (fun H locs wo => ?_)
  refine lv_aload_n cx.1 cx.2.1 dL_law_1082 rfl (lv_at hl 3 rfl) ?_
  refine s_ld (j := 1) cx hX hbl hbA wo hl (by omega) dL_law_1083 dL_law_1084 dL_law_1086 (by decide) dL_law_1087 dL_law_1088 ?_
  refine s_ld (j := 2) cx hX hbl hbA wo hl (by omega) dL_law_1089 dL_law_1090 dL_law_1092 (by decide) dL_law_1093 dL_law_1094 ?_
  refine r_Vi (rest := [.int q1.1]) cx wo (mX10_differ l e2) cvL_166 rfl ad_169.1 ad_169.2.1 ad_169.2.2 rfl rfl hl.1 rfl (Nat.le_of_ble_eq_true rfl) (hL_ok hcl hsl (by decide)) dL_law_1095 (fun H locs wo => ?_)
  refine lv_icmp_eq (tgt := 1495) cx.1 cx.2.1 dL_law_1098 (by decide) (fun _ => ?_) (fun hne => absurd heq hne)
  exact w_wide (by omega) (by omega) (kk q2.2 H locs ls wo rel2 hl)

set_option maxHeartbeats 1000000 in
set_option maxRecDepth 10000 in
theorem lc_33 (l : Launch) (cx : Cx p s m #[Value.ref b] c cL_law 8 RL G) (hr : meth.sig.returnType = some .boolean) (hlk : meth.locks = false) (hX : va_X b L xs s s.heap) (hbl : b < s.heap.size) (hbA : ¬ B < b) (hi : i + 5 ≤ L) (hL : L ≤ 320) (wo : Wo Ph G B 205 s M H locs) (rel : Rel M) (hl : lv_has ls 8 [(4, .int (nI i)), (0, .ref b), (1, .ref (B + 1)), (2, .ref (B + 169)), (3, .ref (B + 205))]) (hcl : cells + 1 ≤ 600128) (hsl : slots + 6 ≤ 7301098)
    (kk : ∀ (M1 : Mem) (H1 : Heap) (locs1 : List Loc) (ls1 : Array Slot), Wo Ph G B 205 s M1 H1 locs1 → Rel M1 → lv_has ls1 8 [(4, .int (nI i)), (0, .ref b), (1, .ref (B + 1)), (2, .ref (B + 169)), (3, .ref (B + 205))] → W p l e room_1 s m #[Value.ref b] below meth c H1 locs1 (cells + 1) (slots + 6) Q (F0 m 1495 ls1 [])) : W p l e room_1 s m #[Value.ref b] below meth c H locs cells slots Q (F0 m 1103 ls []) := by
  refine lv_aload_n cx.1 cx.2.1 dL_law_1103 rfl (lv_at hl 2 rfl) ?_
  refine s_ld (j := 1) cx hX hbl hbA wo hl (by omega) dL_law_1104 dL_law_1105 dL_law_1107 (by decide) dL_law_1108 dL_law_1109 ?_
  refine s_ld (j := 2) cx hX hbl hbA wo hl (by omega) dL_law_1110 dL_law_1111 dL_law_1113 (by decide) dL_law_1114 dL_law_1115 ?_
  obtain ⟨q1, e1, q2, e2, heq, rel2⟩ : StI (fun M => fX9_helps (xs (i + 1)) (xs (i + 2)) M) (fun M => fX10_helps (xs (i + 1)) (xs (i + 2)) M) M := st_helps rel
  have e1 : fX9_helps (xs (i + 1)) (xs (i + 2)) M = some q1 := e1
  have e2 : fX10_helps (xs (i + 1)) (xs (i + 2)) q1.2 = some q2 := e2
  refine r_Vi (rest := []) cx wo (mX9_helps l e1) cvL_167 rfl ad_1.1 ad_1.2.1 ad_1.2.2 rfl rfl hl.1 rfl (Nat.le_of_ble_eq_true rfl) (hL_ok hcl hsl (by decide)) dL_law_1116 (fun H locs wo => ?_)
  refine lv_aload_n cx.1 cx.2.1 dL_law_1119 rfl (lv_at hl 3 rfl) ?_
  refine s_ld (j := 1) cx hX hbl hbA wo hl (by omega) dL_law_1120 dL_law_1121 dL_law_1123 (by decide) dL_law_1124 dL_law_1125 ?_
  refine s_ld (j := 2) cx hX hbl hbA wo hl (by omega) dL_law_1126 dL_law_1127 dL_law_1129 (by decide) dL_law_1130 dL_law_1131 ?_
  refine r_Vi (rest := [.int q1.1]) cx wo (mX10_helps l e2) cvL_170 rfl ad_169.1 ad_169.2.1 ad_169.2.2 rfl rfl hl.1 rfl (Nat.le_of_ble_eq_true rfl) (hL_ok hcl hsl (by decide)) dL_law_1132 (fun H locs wo => ?_)
  refine lv_icmp_eq (tgt := 1495) cx.1 cx.2.1 dL_law_1135 (by decide) (fun _ => ?_) (fun hne => absurd heq hne)
  exact w_wide (by omega) (by omega) (kk q2.2 H locs ls wo rel2 hl)

set_option maxHeartbeats 1000000 in
set_option maxRecDepth 10000 in
theorem lc_34 (l : Launch) (cx : Cx p s m #[Value.ref b] c cL_law 8 RL G) (hr : meth.sig.returnType = some .boolean) (hlk : meth.locks = false) (hX : va_X b L xs s s.heap) (hbl : b < s.heap.size) (hbA : ¬ B < b) (hi : i + 5 ≤ L) (hL : L ≤ 320) (wo : Wo Ph G B 205 s M H locs) (rel : Rel M) (hl : lv_has ls 8 [(4, .int (nI i)), (0, .ref b), (1, .ref (B + 1)), (2, .ref (B + 169)), (3, .ref (B + 205))]) (hcl : cells + 1 ≤ 600128) (hsl : slots + 6 ≤ 7301098)
    (kk : ∀ (M1 : Mem) (H1 : Heap) (locs1 : List Loc) (ls1 : Array Slot), Wo Ph G B 205 s M1 H1 locs1 → Rel M1 → lv_has ls1 8 [(4, .int (nI i)), (0, .ref b), (1, .ref (B + 1)), (2, .ref (B + 169)), (3, .ref (B + 205))] → W p l e room_1 s m #[Value.ref b] below meth c H1 locs1 (cells + 1) (slots + 6) Q (F0 m 1495 ls1 [])) : W p l e room_1 s m #[Value.ref b] below meth c H locs cells slots Q (F0 m 1140 ls []) := by
  refine lv_aload_n cx.1 cx.2.1 dL_law_1140 rfl (lv_at hl 2 rfl) ?_
  refine s_ld (j := 1) cx hX hbl hbA wo hl (by omega) dL_law_1141 dL_law_1142 dL_law_1144 (by decide) dL_law_1145 dL_law_1146 ?_
  refine s_ld (j := 2) cx hX hbl hbA wo hl (by omega) dL_law_1147 dL_law_1148 dL_law_1150 (by decide) dL_law_1151 dL_law_1152 ?_
  obtain ⟨q1, e1, q2, e2, heq, rel2⟩ : StI (fun M => fX9_heard (xs (i + 1)) (xs (i + 2)) M) (fun M => fX10_heard (xs (i + 1)) (xs (i + 2)) M) M := st_heard rel
  have e1 : fX9_heard (xs (i + 1)) (xs (i + 2)) M = some q1 := e1
  have e2 : fX10_heard (xs (i + 1)) (xs (i + 2)) q1.2 = some q2 := e2
  refine r_Vi (rest := []) cx wo (mX9_heard l e1) cvL_171 rfl ad_1.1 ad_1.2.1 ad_1.2.2 rfl rfl hl.1 rfl (Nat.le_of_ble_eq_true rfl) (hL_ok hcl hsl (by decide)) dL_law_1153 (fun H locs wo => ?_)
  refine lv_aload_n cx.1 cx.2.1 dL_law_1156 rfl (lv_at hl 3 rfl) ?_
  refine s_ld (j := 1) cx hX hbl hbA wo hl (by omega) dL_law_1157 dL_law_1158 dL_law_1160 (by decide) dL_law_1161 dL_law_1162 ?_
  refine s_ld (j := 2) cx hX hbl hbA wo hl (by omega) dL_law_1163 dL_law_1164 dL_law_1166 (by decide) dL_law_1167 dL_law_1168 ?_
  refine r_Vi (rest := [.int q1.1]) cx wo (mX10_heard l e2) cvL_174 rfl ad_169.1 ad_169.2.1 ad_169.2.2 rfl rfl hl.1 rfl (Nat.le_of_ble_eq_true rfl) (hL_ok hcl hsl (by decide)) dL_law_1169 (fun H locs wo => ?_)
  refine lv_icmp_eq (tgt := 1495) cx.1 cx.2.1 dL_law_1172 (by decide) (fun _ => ?_) (fun hne => absurd heq hne)
  exact w_wide (by omega) (by omega) (kk q2.2 H locs ls wo rel2 hl)

set_option maxHeartbeats 1000000 in
set_option maxRecDepth 10000 in
theorem lc_35 (l : Launch) (cx : Cx p s m #[Value.ref b] c cL_law 8 RL G) (hr : meth.sig.returnType = some .boolean) (hlk : meth.locks = false) (hX : va_X b L xs s s.heap) (hbl : b < s.heap.size) (hbA : ¬ B < b) (hi : i + 5 ≤ L) (hL : L ≤ 320) (wo : Wo Ph G B 205 s M H locs) (rel : Rel M) (hl : lv_has ls 8 [(4, .int (nI i)), (0, .ref b), (1, .ref (B + 1)), (2, .ref (B + 169)), (3, .ref (B + 205))]) (hcl : cells + 1 ≤ 600128) (hsl : slots + 6 ≤ 7301098)
    (kk : ∀ (M1 : Mem) (H1 : Heap) (locs1 : List Loc) (ls1 : Array Slot), Wo Ph G B 205 s M1 H1 locs1 → Rel M1 → lv_has ls1 8 [(4, .int (nI i)), (0, .ref b), (1, .ref (B + 1)), (2, .ref (B + 169)), (3, .ref (B + 205))] → W p l e room_1 s m #[Value.ref b] below meth c H1 locs1 (cells + 1) (slots + 6) Q (F0 m 1495 ls1 [])) : W p l e room_1 s m #[Value.ref b] below meth c H locs cells slots Q (F0 m 1177 ls []) := by
  refine lv_aload_n cx.1 cx.2.1 dL_law_1177 rfl (lv_at hl 2 rfl) ?_
  obtain ⟨q1, e1, q2, e2, heq, rel2⟩ := st_forget rel
  have e1 : fX9_forget  M = some q1 := e1
  have e2 : fX10_forget  q1.2 = some q2 := e2
  refine r_Vi (rest := []) cx wo (mX9_forget l e1) cvL_175 rfl ad_1.1 ad_1.2.1 ad_1.2.2 rfl rfl hl.1 rfl (Nat.le_of_ble_eq_true rfl) (hL_ok hcl hsl (by decide)) dL_law_1178 (fun H locs wo => ?_)
  refine lv_aload_n cx.1 cx.2.1 dL_law_1181 rfl (lv_at hl 3 rfl) ?_
  refine r_Vi (rest := [.int q1.1]) cx wo (mX10_forget l e2) cvL_178 rfl ad_169.1 ad_169.2.1 ad_169.2.2 rfl rfl hl.1 rfl (Nat.le_of_ble_eq_true rfl) (hL_ok hcl hsl (by decide)) dL_law_1182 (fun H locs wo => ?_)
  refine lv_icmp_eq (tgt := 1495) cx.1 cx.2.1 dL_law_1185 (by decide) (fun _ => ?_) (fun hne => absurd heq hne)
  exact w_wide (by omega) (by omega) (kk q2.2 H locs ls wo rel2 hl)

set_option maxHeartbeats 1000000 in
set_option maxRecDepth 10000 in
theorem lc_36 (l : Launch) (cx : Cx p s m #[Value.ref b] c cL_law 8 RL G) (hr : meth.sig.returnType = some .boolean) (hlk : meth.locks = false) (hX : va_X b L xs s s.heap) (hbl : b < s.heap.size) (hbA : ¬ B < b) (hi : i + 5 ≤ L) (hL : L ≤ 320) (wo : Wo Ph G B 205 s M H locs) (rel : Rel M) (hl : lv_has ls 8 [(4, .int (nI i)), (0, .ref b), (1, .ref (B + 1)), (2, .ref (B + 169)), (3, .ref (B + 205))]) (hcl : cells + 1 ≤ 600128) (hsl : slots + 6 ≤ 7301098)
    (kk : ∀ (M1 : Mem) (H1 : Heap) (locs1 : List Loc) (ls1 : Array Slot), Wo Ph G B 205 s M1 H1 locs1 → Rel M1 → lv_has ls1 8 [(4, .int (nI i)), (0, .ref b), (1, .ref (B + 1)), (2, .ref (B + 169)), (3, .ref (B + 205))] → W p l e room_1 s m #[Value.ref b] below meth c H1 locs1 (cells + 1) (slots + 6) Q (F0 m 1495 ls1 [])) : W p l e room_1 s m #[Value.ref b] below meth c H locs cells slots Q (F0 m 1190 ls []) := by
  refine lv_aload_n cx.1 cx.2.1 dL_law_1190 rfl (lv_at hl 2 rfl) ?_
  obtain ⟨q1, e1, q2, e2, heq, rel2⟩ := st_fits rel
  have e1 : fX9_fits  M = some q1 := e1
  have e2 : fX10_fits  q1.2 = some q2 := e2
  refine r_Vi (rest := []) cx wo (mX9_fits l e1) cvL_179 rfl ad_1.1 ad_1.2.1 ad_1.2.2 rfl rfl hl.1 rfl (Nat.le_of_ble_eq_true rfl) (hL_ok hcl hsl (by decide)) dL_law_1191 (fun H locs wo => ?_)
  refine lv_aload_n cx.1 cx.2.1 dL_law_1194 rfl (lv_at hl 3 rfl) ?_
  refine r_Vi (rest := [.int q1.1]) cx wo (mX10_fits l e2) cvL_182 rfl ad_169.1 ad_169.2.1 ad_169.2.2 rfl rfl hl.1 rfl (Nat.le_of_ble_eq_true rfl) (hL_ok hcl hsl (by decide)) dL_law_1195 (fun H locs wo => ?_)
  refine lv_icmp_eq (tgt := 1495) cx.1 cx.2.1 dL_law_1198 (by decide) (fun _ => ?_) (fun hne => absurd heq hne)
  exact w_wide (by omega) (by omega) (kk q2.2 H locs ls wo rel2 hl)

set_option maxHeartbeats 1000000 in
set_option maxRecDepth 10000 in
theorem lc_37 (l : Launch) (cx : Cx p s m #[Value.ref b] c cL_law 8 RL G) (hr : meth.sig.returnType = some .boolean) (hlk : meth.locks = false) (hX : va_X b L xs s s.heap) (hbl : b < s.heap.size) (hbA : ¬ B < b) (hi : i + 5 ≤ L) (hL : L ≤ 320) (wo : Wo Ph G B 205 s M H locs) (rel : Rel M) (hl : lv_has ls 8 [(4, .int (nI i)), (0, .ref b), (1, .ref (B + 1)), (2, .ref (B + 169)), (3, .ref (B + 205))]) (hcl : cells + 1 ≤ 600128) (hsl : slots + 6 ≤ 7301098)
    (kk : ∀ (M1 : Mem) (H1 : Heap) (locs1 : List Loc) (ls1 : Array Slot), Wo Ph G B 205 s M1 H1 locs1 → Rel M1 → lv_has ls1 8 [(4, .int (nI i)), (0, .ref b), (1, .ref (B + 1)), (2, .ref (B + 169)), (3, .ref (B + 205))] → W p l e room_1 s m #[Value.ref b] below meth c H1 locs1 (cells + 1) (slots + 6) Q (F0 m 1495 ls1 [])) : W p l e room_1 s m #[Value.ref b] below meth c H locs cells slots Q (F0 m 1203 ls []) := by
  refine lv_aload_n cx.1 cx.2.1 dL_law_1203 rfl (lv_at hl 2 rfl) ?_
  obtain ⟨q1, e1, q2, e2, heq, rel2⟩ := st_asks rel
  have e1 : fX9_asks  M = some q1 := e1
  have e2 : fX10_asks  q1.2 = some q2 := e2
  refine r_Vi (rest := []) cx wo (mX9_asks l e1) cvL_183 rfl ad_1.1 ad_1.2.1 ad_1.2.2 rfl rfl hl.1 rfl (Nat.le_of_ble_eq_true rfl) (hL_ok hcl hsl (by decide)) dL_law_1204 (fun H locs wo => ?_)
  refine lv_aload_n cx.1 cx.2.1 dL_law_1207 rfl (lv_at hl 3 rfl) ?_
  refine r_Vi (rest := [.int q1.1]) cx wo (mX10_asks l e2) cvL_186 rfl ad_169.1 ad_169.2.1 ad_169.2.2 rfl rfl hl.1 rfl (Nat.le_of_ble_eq_true rfl) (hL_ok hcl hsl (by decide)) dL_law_1208 (fun H locs wo => ?_)
  refine lv_icmp_eq (tgt := 1495) cx.1 cx.2.1 dL_law_1211 (by decide) (fun _ => ?_) (fun hne => absurd heq hne)
  exact w_wide (by omega) (by omega) (kk q2.2 H locs ls wo rel2 hl)

set_option maxHeartbeats 1000000 in
set_option maxRecDepth 10000 in
theorem lc_38 (l : Launch) (cx : Cx p s m #[Value.ref b] c cL_law 8 RL G) (hr : meth.sig.returnType = some .boolean) (hlk : meth.locks = false) (hX : va_X b L xs s s.heap) (hbl : b < s.heap.size) (hbA : ¬ B < b) (hi : i + 5 ≤ L) (hL : L ≤ 320) (wo : Wo Ph G B 205 s M H locs) (rel : Rel M) (hl : lv_has ls 8 [(4, .int (nI i)), (0, .ref b), (1, .ref (B + 1)), (2, .ref (B + 169)), (3, .ref (B + 205))]) (hcl : cells + 1 ≤ 600128) (hsl : slots + 6 ≤ 7301098)
    (kk : ∀ (M1 : Mem) (H1 : Heap) (locs1 : List Loc) (ls1 : Array Slot), Wo Ph G B 205 s M1 H1 locs1 → Rel M1 → lv_has ls1 8 [(4, .int (nI i)), (0, .ref b), (1, .ref (B + 1)), (2, .ref (B + 169)), (3, .ref (B + 205))] → W p l e room_1 s m #[Value.ref b] below meth c H1 locs1 (cells + 1) (slots + 6) Q (F0 m 1495 ls1 [])) : W p l e room_1 s m #[Value.ref b] below meth c H locs cells slots Q (F0 m 1216 ls []) := by
  refine lv_aload_n cx.1 cx.2.1 dL_law_1216 rfl (lv_at hl 2 rfl) ?_
  refine s_ld (j := 1) cx hX hbl hbA wo hl (by omega) dL_law_1217 dL_law_1218 dL_law_1220 (by decide) dL_law_1221 dL_law_1222 ?_
  refine s_ld (j := 2) cx hX hbl hbA wo hl (by omega) dL_law_1223 dL_law_1224 dL_law_1226 (by decide) dL_law_1227 dL_law_1228 ?_
  obtain ⟨q1, e1, q2, e2, heq, rel2⟩ : StI (fun M => fX9_likely (xs (i + 1)) (xs (i + 2)) M) (fun M => fX10_likely (xs (i + 1)) (xs (i + 2)) M) M := st_likely rel
  have e1 : fX9_likely (xs (i + 1)) (xs (i + 2)) M = some q1 := e1
  have e2 : fX10_likely (xs (i + 1)) (xs (i + 2)) q1.2 = some q2 := e2
  refine r_Vi (rest := []) cx wo (mX9_likely l e1) cvL_187 rfl ad_1.1 ad_1.2.1 ad_1.2.2 rfl rfl hl.1 rfl (Nat.le_of_ble_eq_true rfl) (hL_ok hcl hsl (by decide)) dL_law_1229 (fun H locs wo => ?_)
  refine lv_aload_n cx.1 cx.2.1 dL_law_1232 rfl (lv_at hl 3 rfl) ?_
  refine s_ld (j := 1) cx hX hbl hbA wo hl (by omega) dL_law_1233 dL_law_1234 dL_law_1236 (by decide) dL_law_1237 dL_law_1238 ?_
  refine s_ld (j := 2) cx hX hbl hbA wo hl (by omega) dL_law_1239 dL_law_1240 dL_law_1242 (by decide) dL_law_1243 dL_law_1244 ?_
  refine r_Vi (rest := [.int q1.1]) cx wo (mX10_likely l e2) cvL_190 rfl ad_169.1 ad_169.2.1 ad_169.2.2 rfl rfl hl.1 rfl (Nat.le_of_ble_eq_true rfl) (hL_ok hcl hsl (by decide)) dL_law_1245 (fun H locs wo => ?_)
  refine lv_icmp_eq (tgt := 1495) cx.1 cx.2.1 dL_law_1248 (by decide) (fun _ => ?_) (fun hne => absurd heq hne)
  exact w_wide (by omega) (by omega) (kk q2.2 H locs ls wo rel2 hl)

set_option maxHeartbeats 1000000 in
set_option maxRecDepth 10000 in
theorem lc_39 (l : Launch) (cx : Cx p s m #[Value.ref b] c cL_law 8 RL G) (hr : meth.sig.returnType = some .boolean) (hlk : meth.locks = false) (hX : va_X b L xs s s.heap) (hbl : b < s.heap.size) (hbA : ¬ B < b) (hi : i + 5 ≤ L) (hL : L ≤ 320) (wo : Wo Ph G B 205 s M H locs) (rel : Rel M) (hl : lv_has ls 8 [(4, .int (nI i)), (0, .ref b), (1, .ref (B + 1)), (2, .ref (B + 169)), (3, .ref (B + 205))]) (hcl : cells + 1 ≤ 600128) (hsl : slots + 6 ≤ 7301098)
    (kk : ∀ (M1 : Mem) (H1 : Heap) (locs1 : List Loc) (ls1 : Array Slot), Wo Ph G B 205 s M1 H1 locs1 → Rel M1 → lv_has ls1 8 [(4, .int (nI i)), (0, .ref b), (1, .ref (B + 1)), (2, .ref (B + 169)), (3, .ref (B + 205))] → W p l e room_1 s m #[Value.ref b] below meth c H1 locs1 (cells + 1) (slots + 6) Q (F0 m 1495 ls1 [])) : W p l e room_1 s m #[Value.ref b] below meth c H locs cells slots Q (F0 m 1253 ls []) := by
  refine lv_aload_n cx.1 cx.2.1 dL_law_1253 rfl (lv_at hl 2 rfl) ?_
  refine s_ld (j := 1) cx hX hbl hbA wo hl (by omega) dL_law_1254 dL_law_1255 dL_law_1257 (by decide) dL_law_1258 dL_law_1259 ?_
  refine s_ld (j := 2) cx hX hbl hbA wo hl (by omega) dL_law_1260 dL_law_1261 dL_law_1263 (by decide) dL_law_1264 dL_law_1265 ?_
  obtain ⟨q1, e1, q2, e2, heq, rel2⟩ : StI (fun M => fX9_pulls (xs (i + 1)) (xs (i + 2)) M) (fun M => fX10_pulls (xs (i + 1)) (xs (i + 2)) M) M := st_pulls rel
  have e1 : fX9_pulls (xs (i + 1)) (xs (i + 2)) M = some q1 := e1
  have e2 : fX10_pulls (xs (i + 1)) (xs (i + 2)) q1.2 = some q2 := e2
  refine r_Vi (rest := []) cx wo (mX9_pulls l e1) cvL_191 rfl ad_1.1 ad_1.2.1 ad_1.2.2 rfl rfl hl.1 rfl (Nat.le_of_ble_eq_true rfl) (hL_ok hcl hsl (by decide)) dL_law_1266 (fun H locs wo => ?_)
  refine lv_aload_n cx.1 cx.2.1 dL_law_1269 rfl (lv_at hl 3 rfl) ?_
  refine s_ld (j := 1) cx hX hbl hbA wo hl (by omega) dL_law_1270 dL_law_1271 dL_law_1273 (by decide) dL_law_1274 dL_law_1275 ?_
  refine s_ld (j := 2) cx hX hbl hbA wo hl (by omega) dL_law_1276 dL_law_1277 dL_law_1279 (by decide) dL_law_1280 dL_law_1281 ?_
  refine r_Vi (rest := [.int q1.1]) cx wo (mX10_pulls l e2) cvL_194 rfl ad_169.1 ad_169.2.1 ad_169.2.2 rfl rfl hl.1 rfl (Nat.le_of_ble_eq_true rfl) (hL_ok hcl hsl (by decide)) dL_law_1282 (fun H locs wo => ?_)
  refine lv_icmp_eq (tgt := 1495) cx.1 cx.2.1 dL_law_1285 (by decide) (fun _ => ?_) (fun hne => absurd heq hne)
  exact w_wide (by omega) (by omega) (kk q2.2 H locs ls wo rel2 hl)

set_option maxHeartbeats 1000000 in
set_option maxRecDepth 10000 in
theorem lc_40 (l : Launch) (cx : Cx p s m #[Value.ref b] c cL_law 8 RL G) (hr : meth.sig.returnType = some .boolean) (hlk : meth.locks = false) (hX : va_X b L xs s s.heap) (hbl : b < s.heap.size) (hbA : ¬ B < b) (hi : i + 5 ≤ L) (hL : L ≤ 320) (wo : Wo Ph G B 205 s M H locs) (rel : Rel M) (hl : lv_has ls 8 [(4, .int (nI i)), (0, .ref b), (1, .ref (B + 1)), (2, .ref (B + 169)), (3, .ref (B + 205))]) (hcl : cells + 1 ≤ 600128) (hsl : slots + 6 ≤ 7301098)
    (kk : ∀ (M1 : Mem) (H1 : Heap) (locs1 : List Loc) (ls1 : Array Slot), Wo Ph G B 205 s M1 H1 locs1 → Rel M1 → lv_has ls1 8 [(4, .int (nI i)), (0, .ref b), (1, .ref (B + 1)), (2, .ref (B + 169)), (3, .ref (B + 205))] → W p l e room_1 s m #[Value.ref b] below meth c H1 locs1 (cells + 1) (slots + 6) Q (F0 m 1495 ls1 [])) : W p l e room_1 s m #[Value.ref b] below meth c H locs cells slots Q (F0 m 1290 ls []) := by
  refine lv_aload_n cx.1 cx.2.1 dL_law_1290 rfl (lv_at hl 2 rfl) ?_
  obtain ⟨q1, e1, q2, e2, heq, rel2⟩ := st_lawc rel
  have e1 : fX9_law  M = some q1 := e1
  have e2 : fX10_law  q1.2 = some q2 := e2
  refine r_Vi (rest := []) cx wo (mX9_law l e1) cvL_195 rfl ad_1.1 ad_1.2.1 ad_1.2.2 rfl rfl hl.1 rfl (Nat.le_of_ble_eq_true rfl) (hL_ok hcl hsl (by decide)) dL_law_1291 (fun H locs wo => ?_)
  refine lv_aload_n cx.1 cx.2.1 dL_law_1294 rfl (lv_at hl 3 rfl) ?_
  refine r_Vi (rest := [.int q1.1]) cx wo (mX10_law l e2) cvL_198 rfl ad_169.1 ad_169.2.1 ad_169.2.2 rfl rfl hl.1 rfl (Nat.le_of_ble_eq_true rfl) (hL_ok hcl hsl (by decide)) dL_law_1295 (fun H locs wo => ?_)
  refine lv_icmp_eq (tgt := 1495) cx.1 cx.2.1 dL_law_1298 (by decide) (fun _ => ?_) (fun hne => absurd heq hne)
  exact w_wide (by omega) (by omega) (kk q2.2 H locs ls wo rel2 hl)

set_option maxHeartbeats 1000000 in
set_option maxRecDepth 10000 in
theorem lc_41 (l : Launch) (cx : Cx p s m #[Value.ref b] c cL_law 8 RL G) (hr : meth.sig.returnType = some .boolean) (hlk : meth.locks = false) (hX : va_X b L xs s s.heap) (hbl : b < s.heap.size) (hbA : ¬ B < b) (hi : i + 5 ≤ L) (hL : L ≤ 320) (wo : Wo Ph G B 205 s M H locs) (rel : Rel M) (hl : lv_has ls 8 [(4, .int (nI i)), (0, .ref b), (1, .ref (B + 1)), (2, .ref (B + 169)), (3, .ref (B + 205))]) (hcl : cells + 1 ≤ 600128) (hsl : slots + 6 ≤ 7301098)
    (kk : ∀ (M1 : Mem) (H1 : Heap) (locs1 : List Loc) (ls1 : Array Slot), Wo Ph G B 205 s M1 H1 locs1 → Rel M1 → lv_has ls1 8 [(4, .int (nI i)), (0, .ref b), (1, .ref (B + 1)), (2, .ref (B + 169)), (3, .ref (B + 205))] → W p l e room_1 s m #[Value.ref b] below meth c H1 locs1 (cells + 1) (slots + 6) Q (F0 m 1495 ls1 [])) : W p l e room_1 s m #[Value.ref b] below meth c H locs cells slots Q (F0 m 1303 ls []) := by
  refine lv_aload_n cx.1 cx.2.1 dL_law_1303 rfl (lv_at hl 2 rfl) ?_
  refine s_ld (j := 1) cx hX hbl hbA wo hl (by omega) dL_law_1304 dL_law_1305 dL_law_1307 (by decide) dL_law_1308 dL_law_1309 ?_
  obtain ⟨q1, e1, q2, e2, heq, rel2⟩ : StI (fun M => fX9_crews (xs (i + 1)) M) (fun M => fX10_crews (xs (i + 1)) M) M := st_crews rel
  have e1 : fX9_crews (xs (i + 1)) M = some q1 := e1
  have e2 : fX10_crews (xs (i + 1)) q1.2 = some q2 := e2
  refine r_Vi (rest := []) cx wo (mX9_crews l e1) cvL_199 rfl ad_1.1 ad_1.2.1 ad_1.2.2 rfl rfl hl.1 rfl (Nat.le_of_ble_eq_true rfl) (hL_ok hcl hsl (by decide)) dL_law_1310 (fun H locs wo => ?_)
  refine lv_aload_n cx.1 cx.2.1 dL_law_1313 rfl (lv_at hl 3 rfl) ?_
  refine s_ld (j := 1) cx hX hbl hbA wo hl (by omega) dL_law_1314 dL_law_1315 dL_law_1317 (by decide) dL_law_1318 dL_law_1319 ?_
  refine r_Vi (rest := [.int q1.1]) cx wo (mX10_crews l e2) cvL_202 rfl ad_169.1 ad_169.2.1 ad_169.2.2 rfl rfl hl.1 rfl (Nat.le_of_ble_eq_true rfl) (hL_ok hcl hsl (by decide)) dL_law_1320 (fun H locs wo => ?_)
  refine lv_icmp_eq (tgt := 1495) cx.1 cx.2.1 dL_law_1323 (by decide) (fun _ => ?_) (fun hne => absurd heq hne)
  exact w_wide (by omega) (by omega) (kk q2.2 H locs ls wo rel2 hl)

set_option maxHeartbeats 1000000 in
set_option maxRecDepth 10000 in
theorem lc_42 (l : Launch) (cx : Cx p s m #[Value.ref b] c cL_law 8 RL G) (hr : meth.sig.returnType = some .boolean) (hlk : meth.locks = false) (hX : va_X b L xs s s.heap) (hbl : b < s.heap.size) (hbA : ¬ B < b) (hi : i + 5 ≤ L) (hL : L ≤ 320) (wo : Wo Ph G B 205 s M H locs) (rel : Rel M) (hl : lv_has ls 8 [(4, .int (nI i)), (0, .ref b), (1, .ref (B + 1)), (2, .ref (B + 169)), (3, .ref (B + 205))]) (hcl : cells + 1 ≤ 600128) (hsl : slots + 6 ≤ 7301098)
    (kk : ∀ (M1 : Mem) (H1 : Heap) (locs1 : List Loc) (ls1 : Array Slot), Wo Ph G B 205 s M1 H1 locs1 → Rel M1 → lv_has ls1 8 [(4, .int (nI i)), (0, .ref b), (1, .ref (B + 1)), (2, .ref (B + 169)), (3, .ref (B + 205))] → W p l e room_1 s m #[Value.ref b] below meth c H1 locs1 (cells + 1) (slots + 6) Q (F0 m 1495 ls1 [])) : W p l e room_1 s m #[Value.ref b] below meth c H locs cells slots Q (F0 m 1328 ls []) := by
  refine lv_aload_n cx.1 cx.2.1 dL_law_1328 rfl (lv_at hl 2 rfl) ?_
  refine s_ld (j := 1) cx hX hbl hbA wo hl (by omega) dL_law_1329 dL_law_1330 dL_law_1332 (by decide) dL_law_1333 dL_law_1334 ?_
  refine s_ld (j := 2) cx hX hbl hbA wo hl (by omega) dL_law_1335 dL_law_1336 dL_law_1338 (by decide) dL_law_1339 dL_law_1340 ?_
  obtain ⟨q1, e1, q2, e2, heq, rel2⟩ : StI (fun M => fX9_years (xs (i + 1)) (xs (i + 2)) M) (fun M => fX10_years (xs (i + 1)) (xs (i + 2)) M) M := st_years rel
  have e1 : fX9_years (xs (i + 1)) (xs (i + 2)) M = some q1 := e1
  have e2 : fX10_years (xs (i + 1)) (xs (i + 2)) q1.2 = some q2 := e2
  refine r_Vi (rest := []) cx wo (mX9_years l e1) cvL_203 rfl ad_1.1 ad_1.2.1 ad_1.2.2 rfl rfl hl.1 rfl (Nat.le_of_ble_eq_true rfl) (hL_ok hcl hsl (by decide)) dL_law_1341 (fun H locs wo => ?_)
  refine lv_aload_n cx.1 cx.2.1 dL_law_1344 rfl (lv_at hl 3 rfl) ?_
  refine s_ld (j := 1) cx hX hbl hbA wo hl (by omega) dL_law_1345 dL_law_1346 dL_law_1348 (by decide) dL_law_1349 dL_law_1350 ?_
  refine s_ld (j := 2) cx hX hbl hbA wo hl (by omega) dL_law_1351 dL_law_1352 dL_law_1354 (by decide) dL_law_1355 dL_law_1356 ?_
  refine r_Vi (rest := [.int q1.1]) cx wo (mX10_years l e2) cvL_206 rfl ad_169.1 ad_169.2.1 ad_169.2.2 rfl rfl hl.1 rfl (Nat.le_of_ble_eq_true rfl) (hL_ok hcl hsl (by decide)) dL_law_1357 (fun H locs wo => ?_)
  refine lv_icmp_eq (tgt := 1495) cx.1 cx.2.1 dL_law_1360 (by decide) (fun _ => ?_) (fun hne => absurd heq hne)
  exact w_wide (by omega) (by omega) (kk q2.2 H locs ls wo rel2 hl)

set_option maxHeartbeats 1000000 in
set_option maxRecDepth 10000 in
theorem lc_43 (l : Launch) (cx : Cx p s m #[Value.ref b] c cL_law 8 RL G) (hr : meth.sig.returnType = some .boolean) (hlk : meth.locks = false) (hX : va_X b L xs s s.heap) (hbl : b < s.heap.size) (hbA : ¬ B < b) (hi : i + 5 ≤ L) (hL : L ≤ 320) (wo : Wo Ph G B 205 s M H locs) (rel : Rel M) (hl : lv_has ls 8 [(4, .int (nI i)), (0, .ref b), (1, .ref (B + 1)), (2, .ref (B + 169)), (3, .ref (B + 205))]) (hcl : cells + 1 ≤ 600128) (hsl : slots + 6 ≤ 7301098)
    (kk : ∀ (M1 : Mem) (H1 : Heap) (locs1 : List Loc) (ls1 : Array Slot), Wo Ph G B 205 s M1 H1 locs1 → Rel M1 → lv_has ls1 8 [(4, .int (nI i)), (0, .ref b), (1, .ref (B + 1)), (2, .ref (B + 169)), (3, .ref (B + 205))] → W p l e room_1 s m #[Value.ref b] below meth c H1 locs1 (cells + 1) (slots + 6) Q (F0 m 1495 ls1 [])) : W p l e room_1 s m #[Value.ref b] below meth c H locs cells slots Q (F0 m 1365 ls []) := by
  refine lv_aload_n cx.1 cx.2.1 dL_law_1365 rfl (lv_at hl 2 rfl) ?_
  refine s_ld (j := 1) cx hX hbl hbA wo hl (by omega) dL_law_1366 dL_law_1367 dL_law_1369 (by decide) dL_law_1370 dL_law_1371 ?_
  obtain ⟨q1, e1, q2, e2, heq, rel2⟩ : StI (fun M => fX9_keep (xs (i + 1)) M) (fun M => fX10_keep (xs (i + 1)) M) M := st_keep rel
  have e1 : fX9_keep (xs (i + 1)) M = some q1 := e1
  have e2 : fX10_keep (xs (i + 1)) q1.2 = some q2 := e2
  refine r_Vi (rest := []) cx wo (mX9_keep l e1) cvL_207 rfl ad_1.1 ad_1.2.1 ad_1.2.2 rfl rfl hl.1 rfl (Nat.le_of_ble_eq_true rfl) (hL_ok hcl hsl (by decide)) dL_law_1372 (fun H locs wo => ?_)
  refine lv_aload_n cx.1 cx.2.1 dL_law_1375 rfl (lv_at hl 3 rfl) ?_
  refine s_ld (j := 1) cx hX hbl hbA wo hl (by omega) dL_law_1376 dL_law_1377 dL_law_1379 (by decide) dL_law_1380 dL_law_1381 ?_
  refine r_Vi (rest := [.int q1.1]) cx wo (mX10_keep l e2) cvL_210 rfl ad_169.1 ad_169.2.1 ad_169.2.2 rfl rfl hl.1 rfl (Nat.le_of_ble_eq_true rfl) (hL_ok hcl hsl (by decide)) dL_law_1382 (fun H locs wo => ?_)
  refine lv_icmp_eq (tgt := 1495) cx.1 cx.2.1 dL_law_1385 (by decide) (fun _ => ?_) (fun hne => absurd heq hne)
  exact w_wide (by omega) (by omega) (kk q2.2 H locs ls wo rel2 hl)

set_option maxHeartbeats 1000000 in
set_option maxRecDepth 10000 in
theorem lc_44 (l : Launch) (cx : Cx p s m #[Value.ref b] c cL_law 8 RL G) (hr : meth.sig.returnType = some .boolean) (hlk : meth.locks = false) (hX : va_X b L xs s s.heap) (hbl : b < s.heap.size) (hbA : ¬ B < b) (hi : i + 5 ≤ L) (hL : L ≤ 320) (wo : Wo Ph G B 205 s M H locs) (rel : Rel M) (hl : lv_has ls 8 [(4, .int (nI i)), (0, .ref b), (1, .ref (B + 1)), (2, .ref (B + 169)), (3, .ref (B + 205))]) (hcl : cells + 1 ≤ 600128) (hsl : slots + 6 ≤ 7301098)
    (kk : ∀ (M1 : Mem) (H1 : Heap) (locs1 : List Loc) (ls1 : Array Slot), Wo Ph G B 205 s M1 H1 locs1 → Rel M1 → lv_has ls1 8 [(4, .int (nI i)), (0, .ref b), (1, .ref (B + 1)), (2, .ref (B + 169)), (3, .ref (B + 205))] → W p l e room_1 s m #[Value.ref b] below meth c H1 locs1 (cells + 1) (slots + 6) Q (F0 m 1495 ls1 [])) : W p l e room_1 s m #[Value.ref b] below meth c H locs cells slots Q (F0 m 1390 ls []) := by
  refine lv_aload_n cx.1 cx.2.1 dL_law_1390 rfl (lv_at hl 2 rfl) ?_
  refine s_ld (j := 1) cx hX hbl hbA wo hl (by omega) dL_law_1391 dL_law_1392 dL_law_1394 (by decide) dL_law_1395 dL_law_1396 ?_
  obtain ⟨q1, e1, q2, e2, heq, rel2⟩ : StI (fun M => fX9_again (xs (i + 1)) M) (fun M => fX10_again (xs (i + 1)) M) M := st_again rel
  have e1 : fX9_again (xs (i + 1)) M = some q1 := e1
  have e2 : fX10_again (xs (i + 1)) q1.2 = some q2 := e2
  refine r_Vi (rest := []) cx wo (mX9_again l e1) cvL_211 rfl ad_1.1 ad_1.2.1 ad_1.2.2 rfl rfl hl.1 rfl (Nat.le_of_ble_eq_true rfl) (hL_ok hcl hsl (by decide)) dL_law_1397 (fun H locs wo => ?_)
  refine lv_aload_n cx.1 cx.2.1 dL_law_1400 rfl (lv_at hl 3 rfl) ?_
  refine s_ld (j := 1) cx hX hbl hbA wo hl (by omega) dL_law_1401 dL_law_1402 dL_law_1404 (by decide) dL_law_1405 dL_law_1406 ?_
  refine r_Vi (rest := [.int q1.1]) cx wo (mX10_again l e2) cvL_214 rfl ad_169.1 ad_169.2.1 ad_169.2.2 rfl rfl hl.1 rfl (Nat.le_of_ble_eq_true rfl) (hL_ok hcl hsl (by decide)) dL_law_1407 (fun H locs wo => ?_)
  refine lv_icmp_eq (tgt := 1495) cx.1 cx.2.1 dL_law_1410 (by decide) (fun _ => ?_) (fun hne => absurd heq hne)
  exact w_wide (by omega) (by omega) (kk q2.2 H locs ls wo rel2 hl)

set_option maxHeartbeats 1000000 in
set_option maxRecDepth 10000 in
theorem lc_45 (l : Launch) (cx : Cx p s m #[Value.ref b] c cL_law 8 RL G) (hr : meth.sig.returnType = some .boolean) (hlk : meth.locks = false) (hX : va_X b L xs s s.heap) (hbl : b < s.heap.size) (hbA : ¬ B < b) (hi : i + 5 ≤ L) (hL : L ≤ 320) (wo : Wo Ph G B 205 s M H locs) (rel : Rel M) (hl : lv_has ls 8 [(4, .int (nI i)), (0, .ref b), (1, .ref (B + 1)), (2, .ref (B + 169)), (3, .ref (B + 205))]) (hcl : cells + 1 ≤ 600128) (hsl : slots + 6 ≤ 7301098)
    (kk : ∀ (M1 : Mem) (H1 : Heap) (locs1 : List Loc) (ls1 : Array Slot), Wo Ph G B 205 s M1 H1 locs1 → Rel M1 → lv_has ls1 8 [(4, .int (nI i)), (0, .ref b), (1, .ref (B + 1)), (2, .ref (B + 169)), (3, .ref (B + 205))] → W p l e room_1 s m #[Value.ref b] below meth c H1 locs1 (cells + 1) (slots + 6) Q (F0 m 1495 ls1 [])) : W p l e room_1 s m #[Value.ref b] below meth c H locs cells slots Q (F0 m 1415 ls []) := by
  refine lv_aload_n cx.1 cx.2.1 dL_law_1415 rfl (lv_at hl 2 rfl) ?_
  refine s_ld (j := 1) cx hX hbl hbA wo hl (by omega) dL_law_1416 dL_law_1417 dL_law_1419 (by decide) dL_law_1420 dL_law_1421 ?_
  obtain ⟨q1, e1, q2, e2, heq, rel2⟩ : StI (fun M => fX9_count (xs (i + 1)) M) (fun M => fX10_count (xs (i + 1)) M) M := st_count rel
  have e1 : fX9_count (xs (i + 1)) M = some q1 := e1
  have e2 : fX10_count (xs (i + 1)) q1.2 = some q2 := e2
  refine r_Vi (rest := []) cx wo (mX9_count l e1) cvL_215 rfl ad_1.1 ad_1.2.1 ad_1.2.2 rfl rfl hl.1 rfl (Nat.le_of_ble_eq_true rfl) (hL_ok hcl hsl (by decide)) dL_law_1422 (fun H locs wo => ?_)
  refine lv_aload_n cx.1 cx.2.1 dL_law_1425 rfl (lv_at hl 3 rfl) ?_
  refine s_ld (j := 1) cx hX hbl hbA wo hl (by omega) dL_law_1426 dL_law_1427 dL_law_1429 (by decide) dL_law_1430 dL_law_1431 ?_
  refine r_Vi (rest := [.int q1.1]) cx wo (mX10_count l e2) cvL_218 rfl ad_169.1 ad_169.2.1 ad_169.2.2 rfl rfl hl.1 rfl (Nat.le_of_ble_eq_true rfl) (hL_ok hcl hsl (by decide)) dL_law_1432 (fun H locs wo => ?_)
  refine lv_icmp_eq (tgt := 1495) cx.1 cx.2.1 dL_law_1435 (by decide) (fun _ => ?_) (fun hne => absurd heq hne)
  exact w_wide (by omega) (by omega) (kk q2.2 H locs ls wo rel2 hl)
end LawLoop
