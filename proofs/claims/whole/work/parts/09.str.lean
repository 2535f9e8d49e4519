/-! texts: length, charAt -/
theorem cvJS_335 : CV RJS 335 yJS_coder cJS_coder 1 (some .byte) 0 := ⟨(mem_t6 54 (by decide +kernel)), (mem_t6 55 (by decide +kernel)), (mem_t6 56 (by decide +kernel)), (mem_t1 13 (by decide +kernel)), (mem_t6 57 (by decide +kernel)), ⟨by decide +kernel, by decide +kernel, by decide +kernel⟩, by decide⟩
theorem cvJS_492 : CV RJS 492 yJS_isLatin1 cJS_isLatin1 1 (some .boolean) 0 := ⟨(mem_t6 64 (by decide +kernel)), (mem_t6 65 (by decide +kernel)), (mem_t6 66 (by decide +kernel)), (mem_t1 13 (by decide +kernel)), (mem_t6 67 (by decide +kernel)), ⟨by decide +kernel, by decide +kernel, by decide +kernel⟩, by decide⟩
theorem csJS_495 : CS RJS 495 yJL_charAt cJL_charAt 2 (some .char) 2 := ⟨(mem_t6 68 (by decide +kernel)), (mem_t6 69 (by decide +kernel)), (mem_t1 14 (by decide +kernel)), (mem_t6 70 (by decide +kernel)), ⟨by decide +kernel, by decide +kernel, by decide +kernel⟩, by decide⟩
theorem csJL_9 : CS RJL 9 yJS_checkIndex cJS_checkIndex 2 none 2 := ⟨(mem_t6 71 (by decide +kernel)), (mem_t6 72 (by decide +kernel)), (mem_t1 13 (by decide +kernel)), (mem_t6 73 (by decide +kernel)), ⟨by decide +kernel, by decide +kernel, by decide +kernel⟩, by decide⟩
theorem csJS_1059 : CS RJS 1059 yJP_checkIndex cJP_checkIndex 3 (some .int) 3 := ⟨(mem_t6 76 (by decide +kernel)), (mem_t6 77 (by decide +kernel)), (mem_t1 15 (by decide +kernel)), (mem_t6 78 (by decide +kernel)), ⟨by decide +kernel, by decide +kernel, by decide +kernel⟩, by decide⟩
theorem cvX10_161 : CV RX10 161 yJS_length cJS_length 1 (some .int) 0 := ⟨(mem_t6 50 (by decide +kernel)), (mem_t6 51 (by decide +kernel)), (mem_t6 52 (by decide +kernel)), (mem_t1 13 (by decide +kernel)), (mem_t6 53 (by decide +kernel)), ⟨by decide +kernel, by decide +kernel, by decide +kernel⟩, by decide⟩
theorem cvX10_167 : CV RX10 167 yJS_charAt cJS_charAt 2 (some .char) 1 := ⟨(mem_t6 60 (by decide +kernel)), (mem_t6 61 (by decide +kernel)), (mem_t6 62 (by decide +kernel)), (mem_t1 13 (by decide +kernel)), (mem_t6 63 (by decide +kernel)), ⟨by decide +kernel, by decide +kernel, by decide +kernel⟩, by decide⟩
theorem kJS_38 : Cond.fieldLink RJS 38 "java/lang/String" "COMPACT_STRINGS" "Z" ∈ gtbl := (mem_t6 58 (by decide +kernel))
theorem kJS_9 : Cond.fieldLink RJS 9 "java/lang/String" "value" "[B" ∈ gtbl := (mem_t8 16 (by decide +kernel))
theorem kJS_15 : Cond.fieldLink RJS 15 "java/lang/String" "coder" "B" ∈ gtbl := (mem_t8 17 (by decide +kernel))
theorem kJS_1053 : Cond.fieldLink RJS 1053 "jdk/internal/util/Preconditions" "SIOOBE_FORMATTER" "Ljava/util/function/BiFunction;" ∈ gtbl := (mem_t6 74 (by decide +kernel))
theorem dJS_coder_0 : decode cJS_coder 0 = .ok (.getstatic 38, 3) := by decide +kernel
theorem dJS_coder_3 : decode cJS_coder 3 = .ok (.ifCond .eq 10, 3) := by decide +kernel
theorem dJS_coder_6 : decode cJS_coder 6 = .ok (.aload_n 0, 1) := by decide +kernel
theorem dJS_coder_7 : decode cJS_coder 7 = .ok (.getfield 15, 3) := by decide +kernel
theorem dJS_coder_10 : decode cJS_coder 10 = .ok (.goto 4, 3) := by decide +kernel
theorem dJS_coder_13 : decode cJS_coder 13 = .ok (.iconst 1, 1) := by decide +kernel
theorem dJS_coder_14 : decode cJS_coder 14 = .ok (.ireturn, 1) := by decide +kernel
theorem dJS_isLatin1_0 : decode cJS_isLatin1 0 = .ok (.getstatic 38, 3) := by decide +kernel
theorem dJS_isLatin1_3 : decode cJS_isLatin1 3 = .ok (.ifCond .eq 14, 3) := by decide +kernel
theorem dJS_isLatin1_6 : decode cJS_isLatin1 6 = .ok (.aload_n 0, 1) := by decide +kernel
theorem dJS_isLatin1_7 : decode cJS_isLatin1 7 = .ok (.getfield 15, 3) := by decide +kernel
theorem dJS_isLatin1_10 : decode cJS_isLatin1 10 = .ok (.ifCond .ne 7, 3) := by decide +kernel
theorem dJS_isLatin1_13 : decode cJS_isLatin1 13 = .ok (.iconst 1, 1) := by decide +kernel
theorem dJS_isLatin1_14 : decode cJS_isLatin1 14 = .ok (.goto 4, 3) := by decide +kernel
theorem dJS_isLatin1_18 : decode cJS_isLatin1 18 = .ok (.ireturn, 1) := by decide +kernel
theorem dJS_length_0 : decode cJS_length 0 = .ok (.aload_n 0, 1) := by decide +kernel
theorem dJS_length_1 : decode cJS_length 1 = .ok (.getfield 9, 3) := by decide +kernel
theorem dJS_length_4 : decode cJS_length 4 = .ok (.arraylength, 1) := by decide +kernel
theorem dJS_length_5 : decode cJS_length 5 = .ok (.aload_n 0, 1) := by decide +kernel
theorem dJS_length_6 : decode cJS_length 6 = .ok (.invokevirtual 335, 3) := by decide +kernel
theorem dJS_length_9 : decode cJS_length 9 = .ok (.ishr, 1) := by decide +kernel
theorem dJS_length_10 : decode cJS_length 10 = .ok (.ireturn, 1) := by decide +kernel
theorem dJP_checkIndex_0 : decode cJP_checkIndex 0 = .ok (.iload_n 0, 1) := by decide +kernel
theorem dJP_checkIndex_1 : decode cJP_checkIndex 1 = .ok (.ifCond .lt 8, 3) := by decide +kernel
theorem dJP_checkIndex_4 : decode cJP_checkIndex 4 = .ok (.iload_n 0, 1) := by decide +kernel
theorem dJP_checkIndex_5 : decode cJP_checkIndex 5 = .ok (.iload_n 1, 1) := by decide +kernel
theorem dJP_checkIndex_6 : decode cJP_checkIndex 6 = .ok (.if_icmp .lt 10, 3) := by decide +kernel
theorem dJP_checkIndex_16 : decode cJP_checkIndex 16 = .ok (.iload_n 0, 1) := by decide +kernel
theorem dJP_checkIndex_17 : decode cJP_checkIndex 17 = .ok (.ireturn, 1) := by decide +kernel
theorem dJS_checkIndex_0 : decode cJS_checkIndex 0 = .ok (.iload_n 0, 1) := by decide +kernel
theorem dJS_checkIndex_1 : decode cJS_checkIndex 1 = .ok (.iload_n 1, 1) := by decide +kernel
theorem dJS_checkIndex_2 : decode cJS_checkIndex 2 = .ok (.getstatic 1053, 3) := by decide +kernel
theorem dJS_checkIndex_5 : decode cJS_checkIndex 5 = .ok (.invokestatic 1059, 3) := by decide +kernel
theorem dJS_checkIndex_8 : decode cJS_checkIndex 8 = .ok (.pop, 1) := by decide +kernel
theorem dJS_checkIndex_9 : decode cJS_checkIndex 9 = .ok (.return_, 1) := by decide +kernel
theorem dJL_charAt_0 : decode cJL_charAt 0 = .ok (.iload_n 1, 1) := by decide +kernel
theorem dJL_charAt_1 : decode cJL_charAt 1 = .ok (.aload_n 0, 1) := by decide +kernel
theorem dJL_charAt_2 : decode cJL_charAt 2 = .ok (.arraylength, 1) := by decide +kernel
theorem dJL_charAt_3 : decode cJL_charAt 3 = .ok (.invokestatic 9, 3) := by decide +kernel
theorem dJL_charAt_6 : decode cJL_charAt 6 = .ok (.aload_n 0, 1) := by decide +kernel
theorem dJL_charAt_7 : decode cJL_charAt 7 = .ok (.iload_n 1, 1) := by decide +kernel
theorem dJL_charAt_8 : decode cJL_charAt 8 = .ok (.baload, 1) := by decide +kernel
theorem dJL_charAt_9 : decode cJL_charAt 9 = .ok (.sipush 255, 3) := by decide +kernel
theorem dJL_charAt_12 : decode cJL_charAt 12 = .ok (.iand, 1) := by decide +kernel
theorem dJL_charAt_13 : decode cJL_charAt 13 = .ok (.i2c, 1) := by decide +kernel
theorem dJL_charAt_14 : decode cJL_charAt 14 = .ok (.ireturn, 1) := by decide +kernel
theorem dJS_charAt_0 : decode cJS_charAt 0 = .ok (.aload_n 0, 1) := by decide +kernel
theorem dJS_charAt_1 : decode cJS_charAt 1 = .ok (.invokevirtual 492, 3) := by decide +kernel
theorem dJS_charAt_4 : decode cJS_charAt 4 = .ok (.ifCond .eq 12, 3) := by decide +kernel
theorem dJS_charAt_7 : decode cJS_charAt 7 = .ok (.aload_n 0, 1) := by decide +kernel
theorem dJS_charAt_8 : decode cJS_charAt 8 = .ok (.getfield 9, 3) := by decide +kernel
theorem dJS_charAt_11 : decode cJS_charAt 11 = .ok (.iload_n 1, 1) := by decide +kernel
theorem dJS_charAt_12 : decode cJS_charAt 12 = .ok (.invokestatic 495, 3) := by decide +kernel
theorem dJS_charAt_15 : decode cJS_charAt 15 = .ok (.ireturn, 1) := by decide +kernel
theorem shr0 : ∀ j, j < 9 → nI (slenN j) >>> ((0 : Int32) &&& 31) = slen j := by decide +kernel
theorem chr0 : ∀ j, j < 9 → ∀ k, k < slenN j → (((bytS.getD j []).getD k 0 &&& 255).toUInt32 % 65536).toInt32 = sch j k := by decide +kernel
theorem chn0 : ∀ j, j < 9 → ∀ k, k < slenN j → narrow .char (.int (sch j k)) = .int (sch j k) := by decide +kernel
theorem slen_len : ∀ j, j < 9 → slenN j < 2 ^ 31 := by decide +kernel
section Str
variable {p : Program} {l : Launch} {e : Env} {R : Room} {s : State} {m : MethodId} {args : Array Value} {below : List Frame} {meth : Method} {c : Code} {H : Heap} {locs : List Loc} {cells slots : Nat} {Q : State → Prop} {cc : ByteArray} {pc nL : Nat} {ls : Array Slot} {rest st : List Value} {own : String} {Φ : (Nat → Nat → Nat) → Prop} {G : GG} {B N : Nat} {M M' : Mem} {a ci k idx n j : Nat}
variable {y : MethodName} {bytes : ByteArray} {maxL : Nat} {ret : Option FieldType} {As : List Value}
theorem va_ldcSW (hexec : p.tables.exec = Jvm.exec) (hb : c.code = cc) {own tx : String} {index q : Nat} (hown : s.vm.findClass own = some m.cls) (hZ : vk_R own index tx q s) (hdg : decode cc pc = .ok (.ldc_w index, 3))
    (k : W p l e R s m args below meth c H locs cells slots Q (F0 m (pc + 3) ls (.ref q :: rest))) : W p l e R s m args below meth c H locs cells slots Q (F0 m pc ls rest) := by
  intro T hT X
  obtain ⟨t, a1, b1⟩ := k T hT X
  exact ⟨t, X.ldcStringW hexec hown (text := tx) (a := q) hZ.1 hZ.2 (g := F0 m pc ls rest) rfl (by rw [hb]; exact hdg) t a1, b1⟩
theorem r_nret {r : Int32} {ty : FieldType} (cx : Cx p s m args c cc nL own G) (wo : Wo Φ G B N s M H locs) (hr : meth.sig.returnType = some ty) (hlk : meth.locks = false) (hn : narrow ty (.int r) = .int r) (hdg : decode cc pc = .ok (.ireturn, 1)) : W p l e R s m args below meth c H locs cells slots (MQ below (QcI Φ G B N r M) args s cells slots (fr B)) (F0 m pc ls [.int r]) :=
  W.zret cx.1 cx.2.1 hr hn (fun t ht hW => ⟨⟨r, (), rfl, rfl, wo_BW cx wo ht hW⟩, wo.2.1.F ht⟩) wo.2.1.2.2 hdg
/-- a call on a text -/
theorem r_Ti {r : Int32} (cx : Cx p s m args c cc nL own G) (wo : Wo Φ G B N s M H locs) (hM : Met l y (wsG y bytes maxL ret) (rmN k) (PcW Φ G B N M (.ref (G.2.2 (2 + j)) :: As)) (QcI Φ G B N r M') 0 0 (fr B)) (cv : CV own idx y bytes maxL ret n) (hn : As.length = n) (hj : j < 9) (hq : y.cls = "java/lang/String") (hls : ls.size = nL) (hst : st = As.reverse ++ .ref (G.2.2 (2 + j)) :: rest) (hrest : (rest.map fun v => v.category).sum ≤ 8) (hR : k + 1 ≤ R.frames ∧ 64 * (k + 1) ≤ R.locals ∧ cells ≤ R.cells ∧ slots ≤ R.slots) (hdg : decode cc pc = .ok (.invokevirtual idx, 3))
    (kk : ∀ (H1 : Heap) (locs1 : List Loc), Wo Φ G B N s M' H1 locs1 → W p l e R s m args below meth c H1 locs1 cells slots Q (F0 m (pc + 3) ls (.int r :: rest))) : W p l e R s m args below meth c H locs cells slots Q (F0 m pc ls st) := by
  obtain ⟨hx, hb, hml, hown, hts, hK⟩ := cx
  obtain ⟨c1, c2, c3, c4, c5, c6, c7⟩ := cv
  refine va_calli (va_runV (own := own) (C := y.cls) (index := idx) (y := y) (bytes := bytes) (maxL := maxL) (ret := ret) (n := n) (As := As) (rest := rest) (b := G.2.2 (2 + j)) ⟨hx, hb, hml, hown, hts⟩ hM ?_ ⟨blind_W, ?_, fun U hU hW => ⟨rfl, ⟨by rw [hU]; exact wo.1, va_K.moved hW.alike hK, wo.2.2.2.1, ex_go wo.2.2.2.2 wo.2.1 hU hW⟩, by rw [hU]; exact Nat.lt_of_lt_of_le wo.2.2.1 wo.2.1.1⟩⟩ rfl hn hls hst (lv_room hrest) hdg ⟨hR.2.2.1, hR.2.2.2⟩) wo.2.1 (fun q _ h => h) (fun q h => h) (fun r1 u t H1 locs1 ht hvm hw hB hz hk hS => by
    subst hw
    exact kk H1 locs1 ⟨by rw [← ht]; exact hB.1, hS, wo.2.2.1, hB.2.2.1, wo.2.2.2.2⟩)
  · exact ⟨callB_of n hts (goodIn_g c5) rfl rfl rfl (hts _ c4) (hts _ c1) c6 ⟨hR.1, by have := hR.2.1; show 8 + (maxL + 11) + 64 * k ≤ R.locals; omega⟩, hts _ c2, hts _ c3⟩
  · obtain ⟨cell, g1, g2, g3⟩ := vk_recv (i := j) wo.2.2.2.2.2.2.2.1 hj wo.2.1
    exact ⟨cell, g1, g2, by rw [hq]; exact g3⟩
theorem mJS_coder (l : Launch) (hj : j < 9) : Met l yJS_coder (wsG yJS_coder cJS_coder 1 (some .byte)) (rmN 1) (PcW Φ G B N M [.ref (G.2.2 (2 + j))]) (QcI Φ G B N 0 M) 0 0 (fr B) := by
  refine mk_Met (own := RJS) rfl rfl (Nat.le_of_ble_eq_true rfl) ?_
  intro p e s m below meth c ls cx hr hlk wo hl
  have hl : lv_has ls 1 [(0, .ref (G.2.2 (2 + j)))] := hl
  refine va_gets cx.1 cx.2.1 wo.2.2.2.2.2.2.1 wo.2.1 cx.2.2.2.1 (cx.2.2.2.2.1 _ kJS_38) (fun _ h => h) dJS_coder_0 ?_
  refine lv_if_eq (tgt := 13) cx.1 cx.2.1 dJS_coder_3 (by decide) (fun c1 => ?_) (fun c1 => ?_)
  · exact absurd c1 (by decide)
  · refine lv_aload_n cx.1 cx.2.1 dJS_coder_6 rfl (lv_at hl 0 rfl) ?_
    refine vk_getf cx.1 cx.2.1 (wo.2.2.2.2.2.2.2.1.1 j hj).2.1 wo.2.1 cx.2.2.2.1 (cx.2.2.2.2.1 _ kJS_15) (fun _ h => h) dJS_coder_7 ?_
    refine lv_goto (tgt := 14) cx.1 cx.2.1 dJS_coder_10 (by decide) ?_
    exact r_nret cx wo hr hlk rfl dJS_coder_14
theorem mJS_isLatin1 (l : Launch) (hj : j < 9) : Met l yJS_isLatin1 (wsG yJS_isLatin1 cJS_isLatin1 1 (some .boolean)) (rmN 1) (PcW Φ G B N M [.ref (G.2.2 (2 + j))]) (QcI Φ G B N 1 M) 0 0 (fr B) := by
  refine mk_Met (own := RJS) rfl rfl (Nat.le_of_ble_eq_true rfl) ?_
  intro p e s m below meth c ls cx hr hlk wo hl
  have hl : lv_has ls 1 [(0, .ref (G.2.2 (2 + j)))] := hl
  refine va_gets cx.1 cx.2.1 wo.2.2.2.2.2.2.1 wo.2.1 cx.2.2.2.1 (cx.2.2.2.2.1 _ kJS_38) (fun _ h => h) dJS_isLatin1_0 ?_
  refine lv_if_eq (tgt := 17) cx.1 cx.2.1 dJS_isLatin1_3 (by decide) (fun c1 => ?_) (fun c1 => ?_)
  · exact absurd c1 (by decide)
  · refine lv_aload_n cx.1 cx.2.1 dJS_isLatin1_6 rfl (lv_at hl 0 rfl) ?_
    refine vk_getf cx.1 cx.2.1 (wo.2.2.2.2.2.2.2.1.1 j hj).2.1 wo.2.1 cx.2.2.2.1 (cx.2.2.2.2.1 _ kJS_15) (fun _ h => h) dJS_isLatin1_7 ?_
    refine lv_if_ne (tgt := 17) cx.1 cx.2.1 dJS_isLatin1_10 (by decide) (fun c1 => ?_) (fun c1 => ?_)
    · exact absurd rfl c1
    · refine lv_iconst (v := 1) cx.1 cx.2.1 dJS_isLatin1_13 (by decide) ?_
      refine lv_goto (tgt := 18) cx.1 cx.2.1 dJS_isLatin1_14 (by decide) ?_
      exact r_nret cx wo hr hlk rfl dJS_isLatin1_18
theorem mJS_length (l : Launch) (hj : j < 9) : Met l yJS_length (wsG yJS_length cJS_length 1 (some .int)) (rmN 2) (PcW Φ G B N M [.ref (G.2.2 (2 + j))]) (QcI Φ G B N (slen j) M) 0 0 (fr B) := by
  refine mk_Met (own := RJS) rfl rfl (Nat.le_of_ble_eq_true rfl) ?_
  intro p e s m below meth c ls cx hr hlk wo hl
  have hl : lv_has ls 1 [(0, .ref (G.2.2 (2 + j)))] := hl
  refine lv_aload_n cx.1 cx.2.1 dJS_length_0 rfl (lv_at hl 0 rfl) ?_
  refine vk_getf cx.1 cx.2.1 (wo.2.2.2.2.2.2.2.1.1 j hj).2.2.1 wo.2.1 cx.2.2.2.1 (cx.2.2.2.2.1 _ kJS_9) (fun _ h => h) dJS_length_1 ?_
  refine va_tlen (v := nI (slenN j)) cx.1 cx.2.1 (wo.2.2.2.2.2.2.2.1.1 j hj).2.2.2 wo.2.1 rfl dJS_length_4 ?_
  refine lv_aload_n cx.1 cx.2.1 dJS_length_5 rfl (lv_at hl 0 rfl) ?_
  refine r_Ti (rest := [.int (nI (slenN j))]) cx wo (mJS_coder l hj) cvJS_335 rfl hj rfl hl.1 rfl (Nat.le_of_ble_eq_true rfl) (hR_ok (by decide)) dJS_length_6 (fun H locs wo => ?_)
  refine lv_ishr cx.1 cx.2.1 dJS_length_9 ?_
  rw [shr0 j hj]
  exact r_iret cx wo hr hlk dJS_length_10
theorem mJP_checkIndex (l : Launch) {x0 x1 : Int32} {v : Value} (hv : v = .null ∨ ∃ t, v = .ref t) (h0 : ¬ x0 < 0) (h1 : x0 < x1) : Met l yJP_checkIndex (wsG yJP_checkIndex cJP_checkIndex 3 (some .int)) (rmN 1) (PcW Φ G B N M [.int x0, .int x1, v]) (QcI Φ G B N x0 M) 0 0 (fr B) := by
  refine mk_Met (own := RJP) rfl rfl (by rcases hv with rfl | ⟨t, rfl⟩ <;> exact Nat.le_of_ble_eq_true rfl) ?_
  intro p e s m below meth c ls cx hr hlk wo hl
  have hl : lv_has ls 3 [(0, .int x0), (1, .int x1)] := by rcases hv with rfl | ⟨t, rfl⟩ <;> exact lv_sub hl [0, 1] rfl
  refine lv_iload_n cx.1 cx.2.1 dJP_checkIndex_0 rfl (lv_at hl 0 rfl) ?_
  refine lv_if_lt (tgt := 9) cx.1 cx.2.1 dJP_checkIndex_1 (by decide) (fun c1 => absurd c1 h0) (fun c1 => ?_)
  refine lv_iload_n cx.1 cx.2.1 dJP_checkIndex_4 rfl (lv_at hl 0 rfl) ?_
  refine lv_iload_n cx.1 cx.2.1 dJP_checkIndex_5 rfl (lv_at hl 1 rfl) ?_
  refine lv_icmp_lt (tgt := 16) cx.1 cx.2.1 dJP_checkIndex_6 (by decide) (fun c1 => ?_) (fun c1 => absurd h1 c1)
  refine lv_iload_n cx.1 cx.2.1 dJP_checkIndex_16 rfl (lv_at hl 0 rfl) ?_
  exact r_iret cx wo hr hlk dJP_checkIndex_17
theorem mJS_checkIndex (l : Launch) {x0 x1 : Int32} (h0 : ¬ x0 < 0) (h1 : x0 < x1) : Met l yJS_checkIndex (wsG yJS_checkIndex cJS_checkIndex 2 none) (rmN 2) (PcW Φ G B N M [.int x0, .int x1]) (QcV Φ G B N M) 0 0 (fr B) := by
  refine mk_Met (own := RJS) rfl rfl (Nat.le_of_ble_eq_true rfl) ?_
  intro p e s m below meth c ls cx hr hlk wo hl
  have hl : lv_has ls 2 [(0, .int x0), (1, .int x1)] := hl
  refine lv_iload_n cx.1 cx.2.1 dJS_checkIndex_0 rfl (lv_at hl 0 rfl) ?_
  refine lv_iload_n cx.1 cx.2.1 dJS_checkIndex_1 rfl (lv_at hl 1 rfl) ?_
  have go : ∀ v : Value, (v = .null ∨ ∃ t, v = .ref t) → va_Z "jdk/internal/util/Preconditions" "SIOOBE_FORMATTER" "Ljava/util/function/BiFunction;" v (fun q : Nat => B < q) s s.heap → W p l e (rmN 2) s m [Value.int x0, Value.int x1].toArray below meth c s.heap [] 0 0 (MQ below (QcV Φ G B N M) [Value.int x0, Value.int x1].toArray s 0 0 (fr B)) (F0 m 2 ls [.int x1, .int x0]) := by
    intro v hv hz
    refine va_gets cx.1 cx.2.1 hz wo.2.1 cx.2.2.2.1 (cx.2.2.2.2.1 _ kJS_1053) (fun _ h => h) dJS_checkIndex_2 ?_
    refine r_Si (rest := []) cx wo (mJP_checkIndex l hv h0 h1) csJS_1059 rfl hl.1 rfl (Nat.le_of_ble_eq_true rfl) (hR_ok (by decide)) dJS_checkIndex_5 (fun H locs wo => ?_)
    refine lv_pop cx.1 cx.2.1 dJS_checkIndex_8 rfl ?_
    exact r_vret cx wo hr hlk dJS_checkIndex_9
  rcases wo.2.2.2.2.2.2.2.2.2.1 with h | ⟨t, h⟩
  · exact go .null (Or.inl rfl) h
  · exact go (.ref t) (Or.inr ⟨t, rfl⟩) h
theorem mJL_charAt (l : Launch) {i : Int32} (hj : j < 9) (hin : inb i (slenN j) = true) : Met l yJL_charAt (wsG yJL_charAt cJL_charAt 2 (some .char)) (rmN 3) (PcW Φ G B N M [.ref (G.2.2 (20 + j)), .int i]) (QcI Φ G B N (sch j (ix i)) M) 0 0 (fr B) := by
  have hv := inb_vp hin
  have hlt : ix i < slenN j := inb_lt hin
  have h0 : ¬ i < 0 := fun q => hv (Or.inl q)
  have h1 : i < nI (slenN j) := by
    rcases pk_ix i (n := slenN j) (slen_len j hj) with q | q | ⟨t, ht, rfl⟩
    · exact absurd q h0
    · have := (vp_in_iff.mp hv).2
      have q2 := Int32.le_iff_toInt_le.mp q
      rw [nI_toInt (slen_len j hj)] at q2
      have q3 : ((slenN j : Nat) : Int) ≤ i.toInt := q2
      omega
    · exact nI_lt ht (slen_len j hj)
  refine mk_Met (own := RJL) rfl rfl (Nat.le_of_ble_eq_true rfl) ?_
  intro p e s m below meth c ls cx hr hlk wo hl
  have hl : lv_has ls 2 [(0, .ref (G.2.2 (20 + j))), (1, .int i)] := hl
  refine lv_iload_n cx.1 cx.2.1 dJL_charAt_0 rfl (lv_at hl 1 rfl) ?_
  refine lv_aload_n cx.1 cx.2.1 dJL_charAt_1 rfl (lv_at hl 0 rfl) ?_
  refine va_tlen (v := nI (slenN j)) cx.1 cx.2.1 (wo.2.2.2.2.2.2.2.1.1 j hj).2.2.2 wo.2.1 rfl dJL_charAt_2 ?_
  refine r_Sv (rest := []) cx wo (mJS_checkIndex l h0 h1) csJL_9 rfl hl.1 rfl (Nat.le_of_ble_eq_true rfl) (hR_ok (by decide)) dJL_charAt_3 (fun H locs wo => ?_)
  refine lv_aload_n cx.1 cx.2.1 dJL_charAt_6 rfl (lv_at hl 0 rfl) ?_
  refine lv_iload_n cx.1 cx.2.1 dJL_charAt_7 rfl (lv_at hl 1 rfl) ?_
  refine va_tb cx.1 cx.2.1 (wo.2.2.2.2.2.2.2.1.1 j hj).2.2.2 wo.2.1 hv rfl dJL_charAt_8 ?_
  refine lv_sipush (v := 255) cx.1 cx.2.1 dJL_charAt_9 (by decide) ?_
  refine lv_iand cx.1 cx.2.1 dJL_charAt_12 ?_
  refine lv_i2c (v := sch j (ix i)) cx.1 cx.2.1 dJL_charAt_13 (chr0 j hj (ix i) hlt) ?_
  exact r_nret cx wo hr hlk (chn0 j hj (ix i) hlt) dJL_charAt_14
theorem mJS_charAt (l : Launch) {i : Int32} (hj : j < 9) (hin : inb i (slenN j) = true) : Met l yJS_charAt (wsG yJS_charAt cJS_charAt 2 (some .char)) (rmN 4) (PcW Φ G B N M [.ref (G.2.2 (2 + j)), .int i]) (QcI Φ G B N (sch j (ix i)) M) 0 0 (fr B) := by
  refine mk_Met (own := RJS) rfl rfl (Nat.le_of_ble_eq_true rfl) ?_
  intro p e s m below meth c ls cx hr hlk wo hl
  have hl : lv_has ls 2 [(0, .ref (G.2.2 (2 + j))), (1, .int i)] := hl
  refine lv_aload_n cx.1 cx.2.1 dJS_charAt_0 rfl (lv_at hl 0 rfl) ?_
  refine r_Ti (rest := []) cx wo (mJS_isLatin1 l hj) cvJS_492 rfl hj rfl hl.1 rfl (Nat.le_of_ble_eq_true rfl) (hR_ok (by decide)) dJS_charAt_1 (fun H locs wo => ?_)
  refine lv_if_eq (tgt := 16) cx.1 cx.2.1 dJS_charAt_4 (by decide) (fun c1 => ?_) (fun c1 => ?_)
  · exact absurd c1 (by decide)
  · refine lv_aload_n cx.1 cx.2.1 dJS_charAt_7 rfl (lv_at hl 0 rfl) ?_
    refine vk_getf cx.1 cx.2.1 (wo.2.2.2.2.2.2.2.1.1 j hj).2.2.1 wo.2.1 cx.2.2.2.1 (cx.2.2.2.2.1 _ kJS_9) (fun _ h => h) dJS_charAt_8 ?_
    refine lv_iload_n cx.1 cx.2.1 dJS_charAt_11 rfl (lv_at hl 1 rfl) ?_
    refine r_Si (rest := []) cx wo (mJL_charAt l hj hin) csJS_495 rfl hl.1 rfl (Nat.le_of_ble_eq_true rfl) (hR_ok (by decide)) dJS_charAt_12 (fun H locs wo => ?_)
    exact r_nret cx wo hr hlk (chn0 j hj (ix i) (inb_lt hin)) dJS_charAt_15
theorem r_slen (cx : Cx p s m args c cc nL RX10 G) (wo : Wo Φ G B N s M H locs) (hls : ls.size = nL) (hj : j < 5) (hrest : (rest.map fun v => v.category).sum ≤ 8) (hR : 6 ≤ R.frames ∧ 384 ≤ R.locals ∧ cells ≤ R.cells ∧ slots ≤ R.slots) (hdg : decode cc pc = .ok (.invokevirtual 161, 3))
    (kk : ∀ (H1 : Heap) (locs1 : List Loc), Wo Φ G B N s M H1 locs1 → W p l e R s m args below meth c H1 locs1 cells slots Q (F0 m (pc + 3) ls (.int (slen j) :: rest))) : W p l e R s m args below meth c H locs cells slots Q (F0 m pc ls (.ref (G.2.2 (2 + j)) :: rest)) :=
  r_Ti (rest := rest) cx wo (mJS_length l (by omega)) cvX10_161 rfl (by omega) rfl hls rfl hrest ⟨by omega, by omega, hR.2.2⟩ hdg kk
theorem r_schr {i : Int32} (cx : Cx p s m args c cc nL RX10 G) (wo : Wo Φ G B N s M H locs) (hls : ls.size = nL) (hj : j < 5) (hin : inb i (slenN j) = true) (hrest : (rest.map fun v => v.category).sum ≤ 8) (hR : 6 ≤ R.frames ∧ 384 ≤ R.locals ∧ cells ≤ R.cells ∧ slots ≤ R.slots) (hdg : decode cc pc = .ok (.invokevirtual 167, 3))
    (kk : ∀ (H1 : Heap) (locs1 : List Loc), Wo Φ G B N s M H1 locs1 → W p l e R s m args below meth c H1 locs1 cells slots Q (F0 m (pc + 3) ls (.int (sch j (ix i)) :: rest))) : W p l e R s m args below meth c H locs cells slots Q (F0 m pc ls (.int i :: .ref (G.2.2 (2 + j)) :: rest)) :=
  r_Ti (rest := rest) cx wo (mJS_charAt l (by omega) hin) cvX10_167 rfl (by omega) rfl hls rfl hrest ⟨by omega, by omega, hR.2.2⟩ hdg kk
end Str
