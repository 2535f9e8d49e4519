/-! walks, by program -/
theorem dX8_add_0 : decode cX8_add 0 = .ok (.aload_n 0, 1) := by decide +kernel
theorem dX8_add_1 : decode cX8_add 1 = .ok (.getfield 15, 3) := by decide +kernel
theorem dX8_add_4 : decode cX8_add 4 = .ok (.bipush 80, 2) := by decide +kernel
theorem dX8_add_6 : decode cX8_add 6 = .ok (.if_icmp .ge 23, 3) := by decide +kernel
theorem dX8_add_9 : decode cX8_add 9 = .ok (.aload_n 0, 1) := by decide +kernel
theorem dX8_add_10 : decode cX8_add 10 = .ok (.getfield 9, 3) := by decide +kernel
theorem dX8_add_13 : decode cX8_add 13 = .ok (.aload_n 0, 1) := by decide +kernel
theorem dX8_add_14 : decode cX8_add 14 = .ok (.getfield 15, 3) := by decide +kernel
theorem dX8_add_17 : decode cX8_add 17 = .ok (.iload_n 1, 1) := by decide +kernel
theorem dX8_add_18 : decode cX8_add 18 = .ok (.iastore, 1) := by decide +kernel
theorem dX8_add_19 : decode cX8_add 19 = .ok (.aload_n 0, 1) := by decide +kernel
theorem dX8_add_20 : decode cX8_add 20 = .ok (.dup, 1) := by decide +kernel
theorem dX8_add_21 : decode cX8_add 21 = .ok (.getfield 15, 3) := by decide +kernel
theorem dX8_add_24 : decode cX8_add 24 = .ok (.iconst 1, 1) := by decide +kernel
theorem dX8_add_25 : decode cX8_add 25 = .ok (.iadd, 1) := by decide +kernel
theorem dX8_add_26 : decode cX8_add 26 = .ok (.putfield 15, 3) := by decide +kernel
theorem dX8_add_29 : decode cX8_add 29 = .ok (.return_, 1) := by decide +kernel
theorem dX8_signAt_0 : decode cX8_signAt 0 = .ok (.iload_n 1, 1) := by decide +kernel
theorem dX8_signAt_1 : decode cX8_signAt 1 = .ok (.ifCond .lt 20, 3) := by decide +kernel
theorem dX8_signAt_4 : decode cX8_signAt 4 = .ok (.iload_n 1, 1) := by decide +kernel
theorem dX8_signAt_5 : decode cX8_signAt 5 = .ok (.aload_n 0, 1) := by decide +kernel
theorem dX8_signAt_6 : decode cX8_signAt 6 = .ok (.getfield 15, 3) := by decide +kernel
theorem dX8_signAt_9 : decode cX8_signAt 9 = .ok (.if_icmp .ge 12, 3) := by decide +kernel
theorem dX8_signAt_12 : decode cX8_signAt 12 = .ok (.aload_n 0, 1) := by decide +kernel
theorem dX8_signAt_13 : decode cX8_signAt 13 = .ok (.getfield 9, 3) := by decide +kernel
theorem dX8_signAt_16 : decode cX8_signAt 16 = .ok (.iload_n 1, 1) := by decide +kernel
theorem dX8_signAt_17 : decode cX8_signAt 17 = .ok (.iaload, 1) := by decide +kernel
theorem dX8_signAt_18 : decode cX8_signAt 18 = .ok (.goto 4, 3) := by decide +kernel
theorem dX8_signAt_21 : decode cX8_signAt 21 = .ok (.iconst (-1), 1) := by decide +kernel
theorem dX8_signAt_22 : decode cX8_signAt 22 = .ok (.ireturn, 1) := by decide +kernel
theorem dX8_digitAt_0 : decode cX8_digitAt 0 = .ok (.aload_n 0, 1) := by decide +kernel
theorem dX8_digitAt_1 : decode cX8_digitAt 1 = .ok (.iload_n 1, 1) := by decide +kernel
theorem dX8_digitAt_2 : decode cX8_digitAt 2 = .ok (.invokevirtual 19, 3) := by decide +kernel
theorem dX8_digitAt_5 : decode cX8_digitAt 5 = .ok (.istore_n 2, 1) := by decide +kernel
theorem dX8_digitAt_6 : decode cX8_digitAt 6 = .ok (.iload_n 2, 1) := by decide +kernel
theorem dX8_digitAt_7 : decode cX8_digitAt 7 = .ok (.bipush 48, 2) := by decide +kernel
theorem dX8_digitAt_9 : decode cX8_digitAt 9 = .ok (.if_icmp .lt 16, 3) := by decide +kernel
theorem dX8_digitAt_12 : decode cX8_digitAt 12 = .ok (.iload_n 2, 1) := by decide +kernel
theorem dX8_digitAt_13 : decode cX8_digitAt 13 = .ok (.bipush 57, 2) := by decide +kernel
theorem dX8_digitAt_15 : decode cX8_digitAt 15 = .ok (.if_icmp .gt 10, 3) := by decide +kernel
theorem dX8_digitAt_18 : decode cX8_digitAt 18 = .ok (.iload_n 2, 1) := by decide +kernel
theorem dX8_digitAt_19 : decode cX8_digitAt 19 = .ok (.bipush 48, 2) := by decide +kernel
theorem dX8_digitAt_21 : decode cX8_digitAt 21 = .ok (.isub, 1) := by decide +kernel
theorem dX8_digitAt_22 : decode cX8_digitAt 22 = .ok (.goto 4, 3) := by decide +kernel
theorem dX8_digitAt_25 : decode cX8_digitAt 25 = .ok (.iconst (-1), 1) := by decide +kernel
theorem dX8_digitAt_26 : decode cX8_digitAt 26 = .ok (.ireturn, 1) := by decide +kernel
theorem dX5_add_0 : decode cX5_add 0 = .ok (.aload_n 0, 1) := by decide +kernel
theorem dX5_add_1 : decode cX5_add 1 = .ok (.getfield 15, 3) := by decide +kernel
theorem dX5_add_4 : decode cX5_add 4 = .ok (.bipush 16, 2) := by decide +kernel
theorem dX5_add_6 : decode cX5_add 6 = .ok (.if_icmp .ge 23, 3) := by decide +kernel
theorem dX5_add_9 : decode cX5_add 9 = .ok (.aload_n 0, 1) := by decide +kernel
theorem dX5_add_10 : decode cX5_add 10 = .ok (.getfield 9, 3) := by decide +kernel
theorem dX5_add_13 : decode cX5_add 13 = .ok (.aload_n 0, 1) := by decide +kernel
theorem dX5_add_14 : decode cX5_add 14 = .ok (.getfield 15, 3) := by decide +kernel
theorem dX5_add_17 : decode cX5_add 17 = .ok (.lload_n 1, 1) := by decide +kernel
theorem dX5_add_18 : decode cX5_add 18 = .ok (.lastore, 1) := by decide +kernel
theorem dX5_add_19 : decode cX5_add 19 = .ok (.aload_n 0, 1) := by decide +kernel
theorem dX5_add_20 : decode cX5_add 20 = .ok (.dup, 1) := by decide +kernel
theorem dX5_add_21 : decode cX5_add 21 = .ok (.getfield 15, 3) := by decide +kernel
theorem dX5_add_24 : decode cX5_add 24 = .ok (.iconst 1, 1) := by decide +kernel
theorem dX5_add_25 : decode cX5_add 25 = .ok (.iadd, 1) := by decide +kernel
theorem dX5_add_26 : decode cX5_add 26 = .ok (.putfield 15, 3) := by decide +kernel
theorem dX5_add_29 : decode cX5_add 29 = .ok (.return_, 1) := by decide +kernel
theorem dX5_tell_0 : decode cX5_tell 0 = .ok (.aload_n 0, 1) := by decide +kernel
theorem dX5_tell_1 : decode cX5_tell 1 = .ok (.iconst 0, 1) := by decide +kernel
theorem dX5_tell_2 : decode cX5_tell 2 = .ok (.putfield 15, 3) := by decide +kernel
theorem dX5_tell_5 : decode cX5_tell 5 = .ok (.aload_n 0, 1) := by decide +kernel
theorem dX5_tell_6 : decode cX5_tell 6 = .ok (.lload_n 1, 1) := by decide +kernel
theorem dX5_tell_7 : decode cX5_tell 7 = .ok (.invokevirtual 19, 3) := by decide +kernel
theorem dX5_tell_10 : decode cX5_tell 10 = .ok (.return_, 1) := by decide +kernel
theorem dX5_tellBoth_0 : decode cX5_tellBoth 0 = .ok (.aload_n 0, 1) := by decide +kernel
theorem dX5_tellBoth_1 : decode cX5_tellBoth 1 = .ok (.iconst 0, 1) := by decide +kernel
theorem dX5_tellBoth_2 : decode cX5_tellBoth 2 = .ok (.putfield 15, 3) := by decide +kernel
theorem dX5_tellBoth_5 : decode cX5_tellBoth 5 = .ok (.aload_n 0, 1) := by decide +kernel
theorem dX5_tellBoth_6 : decode cX5_tellBoth 6 = .ok (.lload_n 1, 1) := by decide +kernel
theorem dX5_tellBoth_7 : decode cX5_tellBoth 7 = .ok (.invokevirtual 19, 3) := by decide +kernel
theorem dX5_tellBoth_10 : decode cX5_tellBoth 10 = .ok (.aload_n 0, 1) := by decide +kernel
theorem dX5_tellBoth_11 : decode cX5_tellBoth 11 = .ok (.lload_n 3, 1) := by decide +kernel
theorem dX5_tellBoth_12 : decode cX5_tellBoth 12 = .ok (.invokevirtual 19, 3) := by decide +kernel
theorem dX5_tellBoth_15 : decode cX5_tellBoth 15 = .ok (.return_, 1) := by decide +kernel
theorem dX7_add_0 : decode cX7_add 0 = .ok (.aload_n 0, 1) := by decide +kernel
theorem dX7_add_1 : decode cX7_add 1 = .ok (.getfield 18, 3) := by decide +kernel
theorem dX7_add_4 : decode cX7_add 4 = .ok (.bipush 12, 2) := by decide +kernel
theorem dX7_add_6 : decode cX7_add 6 = .ok (.if_icmp .ge 33, 3) := by decide +kernel
theorem dX7_add_9 : decode cX7_add 9 = .ok (.aload_n 0, 1) := by decide +kernel
theorem dX7_add_10 : decode cX7_add 10 = .ok (.getfield 9, 3) := by decide +kernel
theorem dX7_add_13 : decode cX7_add 13 = .ok (.aload_n 0, 1) := by decide +kernel
theorem dX7_add_14 : decode cX7_add 14 = .ok (.getfield 18, 3) := by decide +kernel
theorem dX7_add_17 : decode cX7_add 17 = .ok (.iload_n 1, 1) := by decide +kernel
theorem dX7_add_18 : decode cX7_add 18 = .ok (.iastore, 1) := by decide +kernel
theorem dX7_add_19 : decode cX7_add 19 = .ok (.aload_n 0, 1) := by decide +kernel
theorem dX7_add_20 : decode cX7_add 20 = .ok (.getfield 15, 3) := by decide +kernel
theorem dX7_add_23 : decode cX7_add 23 = .ok (.aload_n 0, 1) := by decide +kernel
theorem dX7_add_24 : decode cX7_add 24 = .ok (.getfield 18, 3) := by decide +kernel
theorem dX7_add_27 : decode cX7_add 27 = .ok (.iload_n 2, 1) := by decide +kernel
theorem dX7_add_28 : decode cX7_add 28 = .ok (.iastore, 1) := by decide +kernel
theorem dX7_add_29 : decode cX7_add 29 = .ok (.aload_n 0, 1) := by decide +kernel
theorem dX7_add_30 : decode cX7_add 30 = .ok (.dup, 1) := by decide +kernel
theorem dX7_add_31 : decode cX7_add 31 = .ok (.getfield 18, 3) := by decide +kernel
theorem dX7_add_34 : decode cX7_add 34 = .ok (.iconst 1, 1) := by decide +kernel
theorem dX7_add_35 : decode cX7_add 35 = .ok (.iadd, 1) := by decide +kernel
theorem dX7_add_36 : decode cX7_add 36 = .ok (.putfield 18, 3) := by decide +kernel
theorem dX7_add_39 : decode cX7_add 39 = .ok (.return_, 1) := by decide +kernel
theorem dX0_draw_0 : decode cX0_draw 0 = .ok (.iload_n 1, 1) := by decide +kernel
theorem dX0_draw_1 : decode cX0_draw 1 = .ok (.iconst 1, 1) := by decide +kernel
theorem dX0_draw_2 : decode cX0_draw 2 = .ok (.if_icmp .ge 5, 3) := by decide +kernel
theorem dX0_draw_5 : decode cX0_draw 5 = .ok (.iconst 0, 1) := by decide +kernel
theorem dX0_draw_6 : decode cX0_draw 6 = .ok (.ireturn, 1) := by decide +kernel
theorem dX0_draw_7 : decode cX0_draw 7 = .ok (.aload_n 0, 1) := by decide +kernel
theorem dX0_draw_8 : decode cX0_draw 8 = .ok (.aload_n 0, 1) := by decide +kernel
theorem dX0_draw_9 : decode cX0_draw 9 = .ok (.getfield 7, 3) := by decide +kernel
theorem dX0_draw_12 : decode cX0_draw 12 = .ok (.ldc 13, 2) := by decide +kernel
theorem dX0_draw_14 : decode cX0_draw 14 = .ok (.imul, 1) := by decide +kernel
theorem dX0_draw_15 : decode cX0_draw 15 = .ok (.sipush 12345, 3) := by decide +kernel
theorem dX0_draw_18 : decode cX0_draw 18 = .ok (.iadd, 1) := by decide +kernel
theorem dX0_draw_19 : decode cX0_draw 19 = .ok (.putfield 7, 3) := by decide +kernel
theorem dX0_draw_22 : decode cX0_draw 22 = .ok (.aload_n 0, 1) := by decide +kernel
theorem dX0_draw_23 : decode cX0_draw 23 = .ok (.getfield 7, 3) := by decide +kernel
theorem dX0_draw_26 : decode cX0_draw 26 = .ok (.bipush 16, 2) := by decide +kernel
theorem dX0_draw_28 : decode cX0_draw 28 = .ok (.iushr, 1) := by decide +kernel
theorem dX0_draw_29 : decode cX0_draw 29 = .ok (.iload_n 1, 1) := by decide +kernel
theorem dX0_draw_30 : decode cX0_draw 30 = .ok (.irem, 1) := by decide +kernel
theorem dX0_draw_31 : decode cX0_draw 31 = .ok (.ireturn, 1) := by decide +kernel
theorem dX2_dropOldest_0 : decode cX2_dropOldest 0 = .ok (.aload_n 0, 1) := by decide +kernel
theorem dX2_dropOldest_1 : decode cX2_dropOldest 1 = .ok (.getfield 11, 3) := by decide +kernel
theorem dX2_dropOldest_4 : decode cX2_dropOldest 4 = .ok (.iconst 0, 1) := by decide +kernel
theorem dX2_dropOldest_5 : decode cX2_dropOldest 5 = .ok (.aaload, 1) := by decide +kernel
theorem dX2_dropOldest_6 : decode cX2_dropOldest 6 = .ok (.astore_n 1, 1) := by decide +kernel
theorem dX2_dropOldest_7 : decode cX2_dropOldest 7 = .ok (.iconst 0, 1) := by decide +kernel
theorem dX2_dropOldest_8 : decode cX2_dropOldest 8 = .ok (.istore_n 2, 1) := by decide +kernel
theorem dX2_dropOldest_9 : decode cX2_dropOldest 9 = .ok (.iload_n 2, 1) := by decide +kernel
theorem dX2_dropOldest_10 : decode cX2_dropOldest 10 = .ok (.bipush 14, 2) := by decide +kernel
theorem dX2_dropOldest_12 : decode cX2_dropOldest 12 = .ok (.if_icmp .ge 23, 3) := by decide +kernel
theorem dX2_dropOldest_15 : decode cX2_dropOldest 15 = .ok (.aload_n 0, 1) := by decide +kernel
theorem dX2_dropOldest_16 : decode cX2_dropOldest 16 = .ok (.getfield 11, 3) := by decide +kernel
theorem dX2_dropOldest_19 : decode cX2_dropOldest 19 = .ok (.iload_n 2, 1) := by decide +kernel
theorem dX2_dropOldest_20 : decode cX2_dropOldest 20 = .ok (.aload_n 0, 1) := by decide +kernel
theorem dX2_dropOldest_21 : decode cX2_dropOldest 21 = .ok (.getfield 11, 3) := by decide +kernel
theorem dX2_dropOldest_24 : decode cX2_dropOldest 24 = .ok (.iload_n 2, 1) := by decide +kernel
theorem dX2_dropOldest_25 : decode cX2_dropOldest 25 = .ok (.iconst 1, 1) := by decide +kernel
theorem dX2_dropOldest_26 : decode cX2_dropOldest 26 = .ok (.iadd, 1) := by decide +kernel
theorem dX2_dropOldest_27 : decode cX2_dropOldest 27 = .ok (.aaload, 1) := by decide +kernel
theorem dX2_dropOldest_28 : decode cX2_dropOldest 28 = .ok (.aastore, 1) := by decide +kernel
theorem dX2_dropOldest_29 : decode cX2_dropOldest 29 = .ok (.iinc 2 1, 3) := by decide +kernel
theorem dX2_dropOldest_32 : decode cX2_dropOldest 32 = .ok (.goto (-23), 3) := by decide +kernel
theorem dX2_dropOldest_35 : decode cX2_dropOldest 35 = .ok (.aload_n 0, 1) := by decide +kernel
theorem dX2_dropOldest_36 : decode cX2_dropOldest 36 = .ok (.getfield 11, 3) := by decide +kernel
theorem dX2_dropOldest_39 : decode cX2_dropOldest 39 = .ok (.bipush 14, 2) := by decide +kernel
theorem dX2_dropOldest_41 : decode cX2_dropOldest 41 = .ok (.aload_n 1, 1) := by decide +kernel
theorem dX2_dropOldest_42 : decode cX2_dropOldest 42 = .ok (.aastore, 1) := by decide +kernel
theorem dX2_dropOldest_43 : decode cX2_dropOldest 43 = .ok (.aload_n 0, 1) := by decide +kernel
theorem dX2_dropOldest_44 : decode cX2_dropOldest 44 = .ok (.bipush 14, 2) := by decide +kernel
theorem dX2_dropOldest_46 : decode cX2_dropOldest 46 = .ok (.putfield 18, 3) := by decide +kernel
theorem dX2_dropOldest_49 : decode cX2_dropOldest 49 = .ok (.return_, 1) := by decide +kernel
theorem dX2_push_0 : decode cX2_push 0 = .ok (.aload_n 0, 1) := by decide +kernel
theorem dX2_push_1 : decode cX2_push 1 = .ok (.getfield 18, 3) := by decide +kernel
theorem dX2_push_4 : decode cX2_push 4 = .ok (.bipush 15, 2) := by decide +kernel
theorem dX2_push_6 : decode cX2_push 6 = .ok (.if_icmp .lt 7, 3) := by decide +kernel
theorem dX2_push_9 : decode cX2_push 9 = .ok (.aload_n 0, 1) := by decide +kernel
theorem dX2_push_10 : decode cX2_push 10 = .ok (.invokevirtual 22, 3) := by decide +kernel
theorem dX2_push_13 : decode cX2_push 13 = .ok (.aload_n 0, 1) := by decide +kernel
theorem dX2_push_14 : decode cX2_push 14 = .ok (.getfield 11, 3) := by decide +kernel
theorem dX2_push_17 : decode cX2_push 17 = .ok (.aload_n 0, 1) := by decide +kernel
theorem dX2_push_18 : decode cX2_push 18 = .ok (.getfield 18, 3) := by decide +kernel
theorem dX2_push_21 : decode cX2_push 21 = .ok (.aaload, 1) := by decide +kernel
theorem dX2_push_22 : decode cX2_push 22 = .ok (.aload_n 1, 1) := by decide +kernel
theorem dX2_push_23 : decode cX2_push 23 = .ok (.invokevirtual 25, 3) := by decide +kernel
theorem dX2_push_26 : decode cX2_push 26 = .ok (.aload_n 0, 1) := by decide +kernel
theorem dX2_push_27 : decode cX2_push 27 = .ok (.dup, 1) := by decide +kernel
theorem dX2_push_28 : decode cX2_push 28 = .ok (.getfield 18, 3) := by decide +kernel
theorem dX2_push_31 : decode cX2_push 31 = .ok (.iconst 1, 1) := by decide +kernel
theorem dX2_push_32 : decode cX2_push 32 = .ok (.iadd, 1) := by decide +kernel
theorem dX2_push_33 : decode cX2_push 33 = .ok (.putfield 18, 3) := by decide +kernel
theorem dX2_push_36 : decode cX2_push 36 = .ok (.return_, 1) := by decide +kernel
theorem dX2_pop_0 : decode cX2_pop 0 = .ok (.aload_n 0, 1) := by decide +kernel
theorem dX2_pop_1 : decode cX2_pop 1 = .ok (.getfield 18, 3) := by decide +kernel
theorem dX2_pop_4 : decode cX2_pop 4 = .ok (.iconst 1, 1) := by decide +kernel
theorem dX2_pop_5 : decode cX2_pop 5 = .ok (.if_icmp .ge 5, 3) := by decide +kernel
theorem dX2_pop_8 : decode cX2_pop 8 = .ok (.iconst 0, 1) := by decide +kernel
theorem dX2_pop_9 : decode cX2_pop 9 = .ok (.ireturn, 1) := by decide +kernel
theorem dX2_pop_10 : decode cX2_pop 10 = .ok (.aload_n 0, 1) := by decide +kernel
theorem dX2_pop_11 : decode cX2_pop 11 = .ok (.dup, 1) := by decide +kernel
theorem dX2_pop_12 : decode cX2_pop 12 = .ok (.getfield 18, 3) := by decide +kernel
theorem dX2_pop_15 : decode cX2_pop 15 = .ok (.iconst 1, 1) := by decide +kernel
theorem dX2_pop_16 : decode cX2_pop 16 = .ok (.isub, 1) := by decide +kernel
theorem dX2_pop_17 : decode cX2_pop 17 = .ok (.putfield 18, 3) := by decide +kernel
theorem dX2_pop_20 : decode cX2_pop 20 = .ok (.aload_n 1, 1) := by decide +kernel
theorem dX2_pop_21 : decode cX2_pop 21 = .ok (.aload_n 0, 1) := by decide +kernel
theorem dX2_pop_22 : decode cX2_pop 22 = .ok (.getfield 11, 3) := by decide +kernel
theorem dX2_pop_25 : decode cX2_pop 25 = .ok (.aload_n 0, 1) := by decide +kernel
theorem dX2_pop_26 : decode cX2_pop 26 = .ok (.getfield 18, 3) := by decide +kernel
theorem dX2_pop_29 : decode cX2_pop 29 = .ok (.aaload, 1) := by decide +kernel
theorem dX2_pop_30 : decode cX2_pop 30 = .ok (.invokevirtual 25, 3) := by decide +kernel
theorem dX2_pop_33 : decode cX2_pop 33 = .ok (.iconst 1, 1) := by decide +kernel
theorem dX2_pop_34 : decode cX2_pop 34 = .ok (.ireturn, 1) := by decide +kernel
section Walk
variable {p : Program} {l : Launch} {e : Env} {s : State} {m : MethodId} {args : Array Value} {below : List Frame} {meth : Method} {c : Code} {G : GG} {B : Nat}
set_option maxHeartbeats 1000000 in
set_option maxRecDepth 10000 in
theorem mX8_add (l : Launch) {G : GG} {B : Nat} {x1 : Int32}  {M : Mem} {q : Mem} (hf : fX8_add x1 M = some q) : Met l yX8_add (wsG yX8_add cX8_add 2 none) (rmN (2)) (PcW Ph G B 205 M [.ref (B + 2), .int x1]) (QcV Ph G B 205 q) 0 0 (fr B) := by
  refine mk_Met (own := RX8) rfl rfl (Nat.le_of_ble_eq_true rfl) ?_
  intro p e s m below meth c ls cx hr hlk wo hl
  have hl : lv_has ls 2 [(0, .ref (B + 2)), (1, .int x1)] := hl
  unfold fX8_add at hf
  refine lv_aload_n cx.1 cx.2.1 dX8_add_0 rfl (lv_at hl 0 rfl) ?_
  refine r_getI cx wo ad_2.1 ad_2.2.1 ad_2.2.2 fiX8_15 dX8_add_1 ?_
  refine lv_bipush (v := 80) cx.1 cx.2.1 dX8_add_4 (by decide) ?_
  refine lv_icmp_ge (tgt := 29) cx.1 cx.2.1 dX8_add_6 (by decide) (fun c1 => ?_) (fun c1 => ?_)
  · rw [if_pos c1] at hf
    have hq := Option.some.inj hf
    subst hq
    exact r_vret cx wo hr hlk dX8_add_29
  · rw [if_neg c1] at hf
    refine lv_aload_n cx.1 cx.2.1 dX8_add_9 rfl (lv_at hl 0 rfl) ?_
    refine r_getR cx wo ad_2.1 ad_2.2.1 ad_2.2.2 fiX8_9 (fn_2_0 wo.2.2.2.1) (by decide) dX8_add_10 ?_
    refine lv_aload_n cx.1 cx.2.1 dX8_add_13 rfl (lv_at hl 0 rfl) ?_
    refine r_getI cx wo ad_2.1 ad_2.2.1 ad_2.2.2 fiX8_15 dX8_add_14 ?_
    refine lv_iload_n cx.1 cx.2.1 dX8_add_17 rfl (lv_at hl 1 rfl) ?_
    obtain ⟨g2, hf⟩ := gd_elim hf
    obtain ⟨M3, e4, hf⟩ := lt_elim hf
    refine r_iast cx wo ad_3.1 ad_3.2.1 ad_3.2.2 (by rw [ln_3]; exact g2) dX8_add_18 (fun H locs wo => ?_)
    rw [← e4] at wo
    refine lv_aload_n cx.1 cx.2.1 dX8_add_19 rfl (lv_at hl 0 rfl) ?_
    refine lv_dup cx.1 cx.2.1 dX8_add_20 rfl ?_
    refine r_getI cx wo ad_2.1 ad_2.2.1 ad_2.2.2 fiX8_15 dX8_add_21 ?_
    refine lv_iconst (v := 1) cx.1 cx.2.1 dX8_add_24 (by decide) ?_
    refine lv_iadd cx.1 cx.2.1 dX8_add_25 ?_
    obtain ⟨M5, e6, hf⟩ := lt_elim hf
    refine r_putI cx wo ad_2.1 ad_2.2.1 ad_2.2.2 fpX8_15 dX8_add_26 (fun H locs wo => ?_)
    rw [← e6] at wo
    have hq := Option.some.inj hf
    subst hq
    exact r_vret cx wo hr hlk dX8_add_29
set_option maxHeartbeats 1000000 in
set_option maxRecDepth 10000 in
theorem mX8_signAt (l : Launch) {G : GG} {B : Nat} {x1 : Int32}  {M : Mem} {q : Int32 × Mem} (hf : fX8_signAt x1 M = some q) : Met l yX8_signAt (wsG yX8_signAt cX8_signAt 2 (some .int)) (rmN (2)) (PcW Ph G B 205 M [.ref (B + 2), .int x1]) (QcI Ph G B 205 q.1 q.2) 0 0 (fr B) := by
  refine mk_Met (own := RX8) rfl rfl (Nat.le_of_ble_eq_true rfl) ?_
  intro p e s m below meth c ls cx hr hlk wo hl
  have hl : lv_has ls 2 [(0, .ref (B + 2)), (1, .int x1)] := hl
  unfold fX8_signAt at hf
  refine lv_iload_n cx.1 cx.2.1 dX8_signAt_0 rfl (lv_at hl 1 rfl) ?_
  refine lv_if_lt (tgt := 21) cx.1 cx.2.1 dX8_signAt_1 (by decide) (fun c1 => ?_) (fun c1 => ?_)
  · rw [if_pos c1] at hf
    refine lv_iconst (v := (-1)) cx.1 cx.2.1 dX8_signAt_21 (by decide) ?_
    have hq := Option.some.inj hf
    subst hq
    exact r_iret cx wo hr hlk dX8_signAt_22
  · rw [if_neg c1] at hf
    refine lv_iload_n cx.1 cx.2.1 dX8_signAt_4 rfl (lv_at hl 1 rfl) ?_
    refine lv_aload_n cx.1 cx.2.1 dX8_signAt_5 rfl (lv_at hl 0 rfl) ?_
    refine r_getI cx wo ad_2.1 ad_2.2.1 ad_2.2.2 fiX8_15 dX8_signAt_6 ?_
    refine lv_icmp_ge (tgt := 21) cx.1 cx.2.1 dX8_signAt_9 (by decide) (fun c2 => ?_) (fun c2 => ?_)
    · rw [if_pos c2] at hf
      refine lv_iconst (v := (-1)) cx.1 cx.2.1 dX8_signAt_21 (by decide) ?_
      have hq := Option.some.inj hf
      subst hq
      exact r_iret cx wo hr hlk dX8_signAt_22
    · rw [if_neg c2] at hf
      refine lv_aload_n cx.1 cx.2.1 dX8_signAt_12 rfl (lv_at hl 0 rfl) ?_
      refine r_getR cx wo ad_2.1 ad_2.2.1 ad_2.2.2 fiX8_9 (fn_2_0 wo.2.2.2.1) (by decide) dX8_signAt_13 ?_
      refine lv_iload_n cx.1 cx.2.1 dX8_signAt_16 rfl (lv_at hl 1 rfl) ?_
      obtain ⟨g3, hf⟩ := gd_elim hf
      refine r_iald cx wo ad_3.1 ad_3.2.1 ad_3.2.2 (by rw [ln_3]; exact g3) dX8_signAt_17 ?_
      refine lv_goto (tgt := 22) cx.1 cx.2.1 dX8_signAt_18 (by decide) ?_
      have hq := Option.some.inj hf
      subst hq
      exact r_iret cx wo hr hlk dX8_signAt_22
set_option maxHeartbeats 1000000 in
set_option maxRecDepth 10000 in
theorem mX8_digitAt (l : Launch) {G : GG} {B : Nat} {x1 : Int32}  {M : Mem} {q : Int32 × Mem} (hf : fX8_digitAt x1 M = some q) : Met l yX8_digitAt (wsG yX8_digitAt cX8_digitAt 3 (some .int)) (rmN (3)) (PcW Ph G B 205 M [.ref (B + 2), .int x1]) (QcI Ph G B 205 q.1 q.2) 0 0 (fr B) := by
  refine mk_Met (own := RX8) rfl rfl (Nat.le_of_ble_eq_true rfl) ?_
  intro p e s m below meth c ls cx hr hlk wo hl
  have hl : lv_has ls 3 [(0, .ref (B + 2)), (1, .int x1)] := hl
  unfold fX8_digitAt at hf
  refine lv_aload_n cx.1 cx.2.1 dX8_digitAt_0 rfl (lv_at hl 0 rfl) ?_
  refine lv_iload_n cx.1 cx.2.1 dX8_digitAt_1 rfl (lv_at hl 1 rfl) ?_
  obtain ⟨q1, e2, hf⟩ := bd_elim hf
  refine r_Vi (rest := []) cx wo (mX8_signAt l e2) cvX8_19 rfl ad_2.1 ad_2.2.1 ad_2.2.2 rfl rfl hl.1 rfl (Nat.le_of_ble_eq_true rfl) (hR_ok (by decide)) dX8_digitAt_2 (fun H locs wo => ?_)
  refine lv_istore_n (lv' := [(2, .int q1.1), (0, .ref (B + 2)), (1, .int x1)]) cx.1 cx.2.1 dX8_digitAt_5 rfl hl (by decide) rfl (fun ls hl => ?_)
  refine lv_iload_n cx.1 cx.2.1 dX8_digitAt_6 rfl (lv_at hl 0 rfl) ?_
  refine lv_bipush (v := 48) cx.1 cx.2.1 dX8_digitAt_7 (by decide) ?_
  refine lv_icmp_lt (tgt := 25) cx.1 cx.2.1 dX8_digitAt_9 (by decide) (fun c3 => ?_) (fun c3 => ?_)
  · rw [if_pos c3] at hf
    refine lv_iconst (v := (-1)) cx.1 cx.2.1 dX8_digitAt_25 (by decide) ?_
    have hq := Option.some.inj hf
    subst hq
    exact r_iret cx wo hr hlk dX8_digitAt_26
  · rw [if_neg c3] at hf
    refine lv_iload_n cx.1 cx.2.1 dX8_digitAt_12 rfl (lv_at hl 0 rfl) ?_
    refine lv_bipush (v := 57) cx.1 cx.2.1 dX8_digitAt_13 (by decide) ?_
    refine lv_icmp_gt (tgt := 25) cx.1 cx.2.1 dX8_digitAt_15 (by decide) (fun c4 => ?_) (fun c4 => ?_)
    · rw [if_pos c4] at hf
      refine lv_iconst (v := (-1)) cx.1 cx.2.1 dX8_digitAt_25 (by decide) ?_
      have hq := Option.some.inj hf
      subst hq
      exact r_iret cx wo hr hlk dX8_digitAt_26
    · rw [if_neg c4] at hf
      refine lv_iload_n cx.1 cx.2.1 dX8_digitAt_18 rfl (lv_at hl 0 rfl) ?_
      refine lv_bipush (v := 48) cx.1 cx.2.1 dX8_digitAt_19 (by decide) ?_
      refine lv_isub cx.1 cx.2.1 dX8_digitAt_21 ?_
      refine lv_goto (tgt := 26) cx.1 cx.2.1 dX8_digitAt_22 (by decide) ?_
      have hq := Option.some.inj hf
      subst hq
      exact r_iret cx wo hr hlk dX8_digitAt_26
set_option maxHeartbeats 1000000 in
set_option maxRecDepth 10000 in
theorem mX5_add (l : Launch) {G : GG} {B : Nat} {x1 : Int64}  {M : Mem} {q : Mem} (hf : fX5_add x1 M = some q) : Met l yX5_add (wsG yX5_add cX5_add 3 none) (rmN (2)) (PcW Ph G B 205 M [.ref (B + 4), .long x1]) (QcV Ph G B 205 q) 0 0 (fr B) := by
  refine mk_Met (own := RX5) rfl rfl (Nat.le_of_ble_eq_true rfl) ?_
  intro p e s m below meth c ls cx hr hlk wo hl
  have hl : lv_has ls 3 [(0, .ref (B + 4)), (1, .long x1)] := hl
  unfold fX5_add at hf
  refine lv_aload_n cx.1 cx.2.1 dX5_add_0 rfl (lv_at hl 0 rfl) ?_
  refine r_getI cx wo ad_4.1 ad_4.2.1 ad_4.2.2 fiX5_15 dX5_add_1 ?_
  refine lv_bipush (v := 16) cx.1 cx.2.1 dX5_add_4 (by decide) ?_
  refine lv_icmp_ge (tgt := 29) cx.1 cx.2.1 dX5_add_6 (by decide) (fun c1 => ?_) (fun c1 => ?_)
  · rw [if_pos c1] at hf
    have hq := Option.some.inj hf
    subst hq
    exact r_vret cx wo hr hlk dX5_add_29
  · rw [if_neg c1] at hf
    refine lv_aload_n cx.1 cx.2.1 dX5_add_9 rfl (lv_at hl 0 rfl) ?_
    refine r_getR cx wo ad_4.1 ad_4.2.1 ad_4.2.2 fiX5_9 (fn_4_0 wo.2.2.2.1) (by decide) dX5_add_10 ?_
    refine lv_aload_n cx.1 cx.2.1 dX5_add_13 rfl (lv_at hl 0 rfl) ?_
    refine r_getI cx wo ad_4.1 ad_4.2.1 ad_4.2.2 fiX5_15 dX5_add_14 ?_
    refine lv_lload_n cx.1 cx.2.1 dX5_add_17 rfl (lv_at hl 1 rfl) ?_
    obtain ⟨g2, hf⟩ := gd_elim hf
    obtain ⟨M3, e4, hf⟩ := lt_elim hf
    refine r_last cx wo ad_5.1 ad_5.2.1 ad_5.2.2 (by rw [ln_5]; exact g2) dX5_add_18 (fun H locs wo => ?_)
    rw [← e4] at wo
    refine lv_aload_n cx.1 cx.2.1 dX5_add_19 rfl (lv_at hl 0 rfl) ?_
    refine lv_dup cx.1 cx.2.1 dX5_add_20 rfl ?_
    refine r_getI cx wo ad_4.1 ad_4.2.1 ad_4.2.2 fiX5_15 dX5_add_21 ?_
    refine lv_iconst (v := 1) cx.1 cx.2.1 dX5_add_24 (by decide) ?_
    refine lv_iadd cx.1 cx.2.1 dX5_add_25 ?_
    obtain ⟨M5, e6, hf⟩ := lt_elim hf
    refine r_putI cx wo ad_4.1 ad_4.2.1 ad_4.2.2 fpX5_15 dX5_add_26 (fun H locs wo => ?_)
    rw [← e6] at wo
    have hq := Option.some.inj hf
    subst hq
    exact r_vret cx wo hr hlk dX5_add_29
set_option maxHeartbeats 1000000 in
set_option maxRecDepth 10000 in
theorem mX5_tell (l : Launch) {G : GG} {B : Nat} {x1 : Int64}  {M : Mem} {q : Mem} (hf : fX5_tell x1 M = some q) : Met l yX5_tell (wsG yX5_tell cX5_tell 3 none) (rmN (3)) (PcW Ph G B 205 M [.ref (B + 4), .long x1]) (QcV Ph G B 205 q) 0 0 (fr B) := by
  refine mk_Met (own := RX5) rfl rfl (Nat.le_of_ble_eq_true rfl) ?_
  intro p e s m below meth c ls cx hr hlk wo hl
  have hl : lv_has ls 3 [(0, .ref (B + 4)), (1, .long x1)] := hl
  unfold fX5_tell at hf
  refine lv_aload_n cx.1 cx.2.1 dX5_tell_0 rfl (lv_at hl 0 rfl) ?_
  refine lv_iconst (v := 0) cx.1 cx.2.1 dX5_tell_1 (by decide) ?_
  obtain ⟨M1, e2, hf⟩ := lt_elim hf
  refine r_putI cx wo ad_4.1 ad_4.2.1 ad_4.2.2 fpX5_15 dX5_tell_2 (fun H locs wo => ?_)
  rw [← e2] at wo
  refine lv_aload_n cx.1 cx.2.1 dX5_tell_5 rfl (lv_at hl 0 rfl) ?_
  refine lv_lload_n cx.1 cx.2.1 dX5_tell_6 rfl (lv_at hl 1 rfl) ?_
  obtain ⟨q3, e4, hf⟩ := bd_elim hf
  refine r_Vv (rest := []) cx wo (mX5_add l e4) cvX5_19 rfl ad_4.1 ad_4.2.1 ad_4.2.2 rfl rfl hl.1 rfl (Nat.le_of_ble_eq_true rfl) (hR_ok (by decide)) dX5_tell_7 (fun H locs wo => ?_)
  have hq := Option.some.inj hf
  subst hq
  exact r_vret cx wo hr hlk dX5_tell_10
set_option maxHeartbeats 1000000 in
set_option maxRecDepth 10000 in
theorem mX5_tellBoth (l : Launch) {G : GG} {B : Nat} {x1 : Int64} {x3 : Int64}  {M : Mem} {q : Mem} (hf : fX5_tellBoth x1 x3 M = some q) : Met l yX5_tellBoth (wsG yX5_tellBoth cX5_tellBoth 5 none) (rmN (3)) (PcW Ph G B 205 M [.ref (B + 4), .long x1, .long x3]) (QcV Ph G B 205 q) 0 0 (fr B) := by
  refine mk_Met (own := RX5) rfl rfl (Nat.le_of_ble_eq_true rfl) ?_
  intro p e s m below meth c ls cx hr hlk wo hl
  have hl : lv_has ls 5 [(0, .ref (B + 4)), (1, .long x1), (3, .long x3)] := hl
  unfold fX5_tellBoth at hf
  refine lv_aload_n cx.1 cx.2.1 dX5_tellBoth_0 rfl (lv_at hl 0 rfl) ?_
  refine lv_iconst (v := 0) cx.1 cx.2.1 dX5_tellBoth_1 (by decide) ?_
  obtain ⟨M1, e2, hf⟩ := lt_elim hf
  refine r_putI cx wo ad_4.1 ad_4.2.1 ad_4.2.2 fpX5_15 dX5_tellBoth_2 (fun H locs wo => ?_)
  rw [← e2] at wo
  refine lv_aload_n cx.1 cx.2.1 dX5_tellBoth_5 rfl (lv_at hl 0 rfl) ?_
  refine lv_lload_n cx.1 cx.2.1 dX5_tellBoth_6 rfl (lv_at hl 1 rfl) ?_
  obtain ⟨q3, e4, hf⟩ := bd_elim hf
  refine r_Vv (rest := []) cx wo (mX5_add l e4) cvX5_19 rfl ad_4.1 ad_4.2.1 ad_4.2.2 rfl rfl hl.1 rfl (Nat.le_of_ble_eq_true rfl) (hR_ok (by decide)) dX5_tellBoth_7 (fun H locs wo => ?_)
  refine lv_aload_n cx.1 cx.2.1 dX5_tellBoth_10 rfl (lv_at hl 0 rfl) ?_
  refine lv_lload_n cx.1 cx.2.1 dX5_tellBoth_11 rfl (lv_at hl 2 rfl) ?_
  obtain ⟨q5, e6, hf⟩ := bd_elim hf
  refine r_Vv (rest := []) cx wo (mX5_add l e6) cvX5_19 rfl ad_4.1 ad_4.2.1 ad_4.2.2 rfl rfl hl.1 rfl (Nat.le_of_ble_eq_true rfl) (hR_ok (by decide)) dX5_tellBoth_12 (fun H locs wo => ?_)
  have hq := Option.some.inj hf
  subst hq
  exact r_vret cx wo hr hlk dX5_tellBoth_15
set_option maxHeartbeats 1000000 in
set_option maxRecDepth 10000 in
theorem mX7_add (l : Launch) {G : GG} {B : Nat} {x1 : Int32} {x2 : Int32}  {M : Mem} {q : Mem} (hf : fX7_add x1 x2 M = some q) : Met l yX7_add (wsG yX7_add cX7_add 3 none) (rmN (2)) (PcW Ph G B 205 M [.ref (B + 105), .int x1, .int x2]) (QcV Ph G B 205 q) 0 0 (fr B) := by
  refine mk_Met (own := RX7) rfl rfl (Nat.le_of_ble_eq_true rfl) ?_
  intro p e s m below meth c ls cx hr hlk wo hl
  have hl : lv_has ls 3 [(0, .ref (B + 105)), (1, .int x1), (2, .int x2)] := hl
  unfold fX7_add at hf
  refine lv_aload_n cx.1 cx.2.1 dX7_add_0 rfl (lv_at hl 0 rfl) ?_
  refine r_getI cx wo ad_105.1 ad_105.2.1 ad_105.2.2 fiX7_18 dX7_add_1 ?_
  refine lv_bipush (v := 12) cx.1 cx.2.1 dX7_add_4 (by decide) ?_
  refine lv_icmp_ge (tgt := 39) cx.1 cx.2.1 dX7_add_6 (by decide) (fun c1 => ?_) (fun c1 => ?_)
  · rw [if_pos c1] at hf
    have hq := Option.some.inj hf
    subst hq
    exact r_vret cx wo hr hlk dX7_add_39
  · rw [if_neg c1] at hf
    refine lv_aload_n cx.1 cx.2.1 dX7_add_9 rfl (lv_at hl 0 rfl) ?_
    refine r_getR cx wo ad_105.1 ad_105.2.1 ad_105.2.2 fiX7_9 (fn_105_0 wo.2.2.2.1) (by decide) dX7_add_10 ?_
    refine lv_aload_n cx.1 cx.2.1 dX7_add_13 rfl (lv_at hl 0 rfl) ?_
    refine r_getI cx wo ad_105.1 ad_105.2.1 ad_105.2.2 fiX7_18 dX7_add_14 ?_
    refine lv_iload_n cx.1 cx.2.1 dX7_add_17 rfl (lv_at hl 1 rfl) ?_
    obtain ⟨g2, hf⟩ := gd_elim hf
    obtain ⟨M3, e4, hf⟩ := lt_elim hf
    refine r_iast cx wo ad_106.1 ad_106.2.1 ad_106.2.2 (by rw [ln_106]; exact g2) dX7_add_18 (fun H locs wo => ?_)
    rw [← e4] at wo
    refine lv_aload_n cx.1 cx.2.1 dX7_add_19 rfl (lv_at hl 0 rfl) ?_
    refine r_getR cx wo ad_105.1 ad_105.2.1 ad_105.2.2 fiX7_15 (fn_105_1 wo.2.2.2.1) (by decide) dX7_add_20 ?_
    refine lv_aload_n cx.1 cx.2.1 dX7_add_23 rfl (lv_at hl 0 rfl) ?_
    refine r_getI cx wo ad_105.1 ad_105.2.1 ad_105.2.2 fiX7_18 dX7_add_24 ?_
    refine lv_iload_n cx.1 cx.2.1 dX7_add_27 rfl (lv_at hl 2 rfl) ?_
    obtain ⟨g5, hf⟩ := gd_elim hf
    obtain ⟨M6, e7, hf⟩ := lt_elim hf
    refine r_iast cx wo ad_107.1 ad_107.2.1 ad_107.2.2 (by rw [ln_107]; exact g5) dX7_add_28 (fun H locs wo => ?_)
    rw [← e7] at wo
    refine lv_aload_n cx.1 cx.2.1 dX7_add_29 rfl (lv_at hl 0 rfl) ?_
    refine lv_dup cx.1 cx.2.1 dX7_add_30 rfl ?_
    refine r_getI cx wo ad_105.1 ad_105.2.1 ad_105.2.2 fiX7_18 dX7_add_31 ?_
    refine lv_iconst (v := 1) cx.1 cx.2.1 dX7_add_34 (by decide) ?_
    refine lv_iadd cx.1 cx.2.1 dX7_add_35 ?_
    obtain ⟨M8, e9, hf⟩ := lt_elim hf
    refine r_putI cx wo ad_105.1 ad_105.2.1 ad_105.2.2 fpX7_18 dX7_add_36 (fun H locs wo => ?_)
    rw [← e9] at wo
    have hq := Option.some.inj hf
    subst hq
    exact r_vret cx wo hr hlk dX7_add_39
set_option maxHeartbeats 1000000 in
set_option maxRecDepth 10000 in
theorem mX0_draw (l : Launch) {G : GG} {B : Nat} {x1 : Int32}  {M : Mem} {q : Int32 × Mem} (hf : fX0_draw x1 M = some q) : Met l yX0_draw (wsG yX0_draw cX0_draw 2 (some .int)) (rmN (2)) (PcW Ph G B 205 M [.ref (B + 141), .int x1]) (QcI Ph G B 205 q.1 q.2) 0 0 (fr B) := by
  refine mk_Met (own := RX0) rfl rfl (Nat.le_of_ble_eq_true rfl) ?_
  intro p e s m below meth c ls cx hr hlk wo hl
  have hl : lv_has ls 2 [(0, .ref (B + 141)), (1, .int x1)] := hl
  unfold fX0_draw at hf
  refine lv_iload_n cx.1 cx.2.1 dX0_draw_0 rfl (lv_at hl 1 rfl) ?_
  refine lv_iconst (v := 1) cx.1 cx.2.1 dX0_draw_1 (by decide) ?_
  refine lv_icmp_ge (tgt := 7) cx.1 cx.2.1 dX0_draw_2 (by decide) (fun c1 => ?_) (fun c1 => ?_)
  · rw [if_pos c1] at hf
    refine lv_aload_n cx.1 cx.2.1 dX0_draw_7 rfl (lv_at hl 0 rfl) ?_
    refine lv_aload_n cx.1 cx.2.1 dX0_draw_8 rfl (lv_at hl 0 rfl) ?_
    refine r_getI cx wo ad_141.1 ad_141.2.1 ad_141.2.2 fiX0_7 dX0_draw_9 ?_
    refine lv_ldc (v := 1103515245) cx.1 cx.2.1 cx.2.2.2.1 (cx.2.2.2.2.1 _ kcX0_13) dX0_draw_12 ?_
    refine lv_imul cx.1 cx.2.1 dX0_draw_14 ?_
    refine lv_sipush (v := 12345) cx.1 cx.2.1 dX0_draw_15 (by decide) ?_
    refine lv_iadd cx.1 cx.2.1 dX0_draw_18 ?_
    obtain ⟨M2, e3, hf⟩ := lt_elim hf
    refine r_putI cx wo ad_141.1 ad_141.2.1 ad_141.2.2 fpX0_7 dX0_draw_19 (fun H locs wo => ?_)
    rw [← e3] at wo
    refine lv_aload_n cx.1 cx.2.1 dX0_draw_22 rfl (lv_at hl 0 rfl) ?_
    refine r_getI cx wo ad_141.1 ad_141.2.1 ad_141.2.2 fiX0_7 dX0_draw_23 ?_
    refine lv_bipush (v := 16) cx.1 cx.2.1 dX0_draw_26 (by decide) ?_
    refine lv_iushr (v := ((M2.1 141 0).toUInt32 >>> (Int32.toUInt32 16 &&& Int32.toUInt32 31)).toInt32) cx.1 cx.2.1 dX0_draw_28 rfl ?_
    refine lv_iload_n cx.1 cx.2.1 dX0_draw_29 rfl (lv_at hl 1 rfl) ?_
    obtain ⟨g4, hf⟩ := gd_elim hf
    refine lv_irem cx.1 cx.2.1 dX0_draw_30 g4 ?_
    have hq := Option.some.inj hf
    subst hq
    exact r_iret cx wo hr hlk dX0_draw_31
  · rw [if_neg c1] at hf
    refine lv_iconst (v := 0) cx.1 cx.2.1 dX0_draw_5 (by decide) ?_
    have hq := Option.some.inj hf
    subst hq
    exact r_iret cx wo hr hlk dX0_draw_6
set_option maxHeartbeats 1000000 in
set_option maxRecDepth 10000 in
theorem wX2_dropOldest_9 (cx : Cx p s m args c cX2_dropOldest 3 RX2 G) (hr : meth.sig.returnType = none) (hlk : meth.locks = false) : ∀ (n : Nat) (a1 : Nat) (x2 : Int32) (h1 : a1 ∈ rivers) (M : Mem) (q : Mem), fX2_dropOldest_9 n a1 x2 M = some q → ∀ (H : Heap) (locs : List Loc) (ls : Array Slot), Wo Ph G B 205 s M H locs → lv_has ls 3 [(0, .ref (B + 26)), (1, .ref (B + a1)), (2, .int x2)] → W p l e (rmN (2)) s m args below meth c H locs 0 0 (MQ below (QcV Ph G B 205 q) args s 0 0 (fr B)) (F0 m 9 ls []) := by
  intro n
  induction n with
  | zero =>
    intro a1 x2 h1 M q hf H locs ls wo hl
    have hf : none = some q := hf
    cases hf
  | succ n ih =>
    intro a1 x2 h1 M q hf H locs ls wo hl
    rw [fX2_dropOldest_9] at hf
    refine lv_iload_n cx.1 cx.2.1 dX2_dropOldest_9 rfl (lv_at hl 2 rfl) ?_
    refine lv_bipush (v := 14) cx.1 cx.2.1 dX2_dropOldest_10 (by decide) ?_
    refine lv_icmp_ge (tgt := 35) cx.1 cx.2.1 dX2_dropOldest_12 (by decide) (fun c3 => ?_) (fun c3 => ?_)
    · rw [if_pos c3] at hf
      refine lv_aload_n cx.1 cx.2.1 dX2_dropOldest_35 rfl (lv_at hl 0 rfl) ?_
      refine r_getR cx wo ad_26.1 ad_26.2.1 ad_26.2.2 fiX2_11 (fn_26_0 wo.2.2.2.1) (by decide) dX2_dropOldest_36 ?_
      refine lv_bipush (v := 14) cx.1 cx.2.1 dX2_dropOldest_39 (by decide) ?_
      refine lv_aload_n cx.1 cx.2.1 dX2_dropOldest_41 rfl (lv_at hl 1 rfl) ?_
      obtain ⟨g4, hf⟩ := gd_elim hf
      obtain ⟨M5, e6, hf⟩ := lt_elim hf
      refine r_aast cx wo ad_27.1 ad_27.2.1 ad_27.2.2 (by rw [ln_27]; exact g4) (riv_ok _ h1).1.1 (riv_ok _ h1).1.2.1 (riv_ok _ h1).1.2.2 (ph_27 wo.2.2.2.1 h1) dX2_dropOldest_42 (fun H locs wo => ?_)
      rw [← e6] at wo
      refine lv_aload_n cx.1 cx.2.1 dX2_dropOldest_43 rfl (lv_at hl 0 rfl) ?_
      refine lv_bipush (v := 14) cx.1 cx.2.1 dX2_dropOldest_44 (by decide) ?_
      obtain ⟨M7, e8, hf⟩ := lt_elim hf
      refine r_putI cx wo ad_26.1 ad_26.2.1 ad_26.2.2 fpX2_18 dX2_dropOldest_46 (fun H locs wo => ?_)
      rw [← e8] at wo
      have hq := Option.some.inj hf
      subst hq
      exact r_vret cx wo hr hlk dX2_dropOldest_49
    · rw [if_neg c3] at hf
      refine lv_aload_n cx.1 cx.2.1 dX2_dropOldest_15 rfl (lv_at hl 0 rfl) ?_
      refine r_getR cx wo ad_26.1 ad_26.2.1 ad_26.2.2 fiX2_11 (fn_26_0 wo.2.2.2.1) (by decide) dX2_dropOldest_16 ?_
      refine lv_iload_n cx.1 cx.2.1 dX2_dropOldest_19 rfl (lv_at hl 2 rfl) ?_
      refine lv_aload_n cx.1 cx.2.1 dX2_dropOldest_20 rfl (lv_at hl 0 rfl) ?_
      refine r_getR cx wo ad_26.1 ad_26.2.1 ad_26.2.2 fiX2_11 (fn_26_0 wo.2.2.2.1) (by decide) dX2_dropOldest_21 ?_
      refine lv_iload_n cx.1 cx.2.1 dX2_dropOldest_24 rfl (lv_at hl 2 rfl) ?_
      refine lv_iconst (v := 1) cx.1 cx.2.1 dX2_dropOldest_25 (by decide) ?_
      refine lv_iadd cx.1 cx.2.1 dX2_dropOldest_26 ?_
      obtain ⟨g9, hf⟩ := gd_elim hf
      have hm10 : M.2.2 27 (ix (x2 + 1)) ∈ rivers := wo.2.2.2.1.2.1 _ (inb_lt g9)
      refine r_aald cx wo ad_27.1 ad_27.2.1 ad_27.2.2 (by rw [ln_27]; exact g9) rfl (riv_ok _ hm10).1.1 dX2_dropOldest_27 ?_
      obtain ⟨g11, hf⟩ := gd_elim hf
      obtain ⟨M12, e13, hf⟩ := lt_elim hf
      refine r_aast cx wo ad_27.1 ad_27.2.1 ad_27.2.2 (by rw [ln_27]; exact g11) (riv_ok _ hm10).1.1 (riv_ok _ hm10).1.2.1 (riv_ok _ hm10).1.2.2 (ph_27 wo.2.2.2.1 hm10) dX2_dropOldest_28 (fun H locs wo => ?_)
      rw [← e13] at wo
      obtain ⟨y14, e15, hf⟩ := lt_elim hf
      refine lv_iinc (v := y14) (lv' := [(2, .int y14), (0, .ref (B + 26)), (1, .ref (B + a1))]) cx.1 cx.2.1 dX2_dropOldest_29 hl (k := 2) rfl (by rw [e15]; rfl) (by decide) rfl (fun ls hl => ?_)
      refine lv_goto (tgt := 9) cx.1 cx.2.1 dX2_dropOldest_32 (by decide) ?_
      exact ih _ _ h1 _ _ hf _ _ _ wo (lv_sub hl [1, 2, 0] rfl)
set_option maxHeartbeats 1000000 in
set_option maxRecDepth 10000 in
theorem mX2_dropOldest (l : Launch) {G : GG} {B : Nat}   {M : Mem} {q : Mem} (hf : fX2_dropOldest  M = some q) : Met l yX2_dropOldest (wsG yX2_dropOldest cX2_dropOldest 3 none) (rmN (2)) (PcW Ph G B 205 M [.ref (B + 26)]) (QcV Ph G B 205 q) 0 0 (fr B) := by
  refine mk_Met (own := RX2) rfl rfl (Nat.le_of_ble_eq_true rfl) ?_
  intro p e s m below meth c ls cx hr hlk wo hl
  have hl : lv_has ls 3 [(0, .ref (B + 26))] := hl
  unfold fX2_dropOldest at hf
  refine lv_aload_n cx.1 cx.2.1 dX2_dropOldest_0 rfl (lv_at hl 0 rfl) ?_
  refine r_getR cx wo ad_26.1 ad_26.2.1 ad_26.2.2 fiX2_11 (fn_26_0 wo.2.2.2.1) (by decide) dX2_dropOldest_1 ?_
  refine lv_iconst (v := 0) cx.1 cx.2.1 dX2_dropOldest_4 (by decide) ?_
  obtain ⟨g1, hf⟩ := gd_elim hf
  have hm2 : M.2.2 27 (ix 0) ∈ rivers := wo.2.2.2.1.2.1 _ (inb_lt g1)
  refine r_aald cx wo ad_27.1 ad_27.2.1 ad_27.2.2 (by rw [ln_27]; exact g1) rfl (riv_ok _ hm2).1.1 dX2_dropOldest_5 ?_
  refine lv_astore_n (lv' := [(1, .ref (B + (M.2.2 27 (ix 0)))), (0, .ref (B + 26))]) cx.1 cx.2.1 dX2_dropOldest_6 rfl hl (by decide) rfl (fun ls hl => ?_)
  refine lv_iconst (v := 0) cx.1 cx.2.1 dX2_dropOldest_7 (by decide) ?_
  refine lv_istore_n (lv' := [(2, .int 0), (1, .ref (B + (M.2.2 27 (ix 0)))), (0, .ref (B + 26))]) cx.1 cx.2.1 dX2_dropOldest_8 rfl hl (by decide) rfl (fun ls hl => ?_)
  exact wX2_dropOldest_9 cx hr hlk _ _ _ hm2 _ _ hf _ _ _ wo (lv_sub hl [2, 1, 0] rfl)
set_option maxHeartbeats 1000000 in
set_option maxRecDepth 10000 in
theorem wX2_push_13 (cx : Cx p s m args c cX2_push 2 RX2 G) (hr : meth.sig.returnType = none) (hlk : meth.locks = false) : ∀ (a1 : Nat) (h1 : a1 ∈ rivers) (M : Mem) (q : Mem), fX2_push_13 a1 M = some q → ∀ (H : Heap) (locs : List Loc) (ls : Array Slot), Wo Ph G B 205 s M H locs → lv_has ls 2 [(0, .ref (B + 26)), (1, .ref (B + a1))] → W p l e (rmN (3)) s m args below meth c H locs 0 0 (MQ below (QcV Ph G B 205 q) args s 0 0 (fr B)) (F0 m 13 ls []) := by
  intro a1 h1 M q hf H locs ls wo hl
  unfold fX2_push_13 at hf
  refine lv_aload_n cx.1 cx.2.1 dX2_push_13 rfl (lv_at hl 0 rfl) ?_
  refine r_getR cx wo ad_26.1 ad_26.2.1 ad_26.2.2 fiX2_11 (fn_26_0 wo.2.2.2.1) (by decide) dX2_push_14 ?_
  refine lv_aload_n cx.1 cx.2.1 dX2_push_17 rfl (lv_at hl 0 rfl) ?_
  refine r_getI cx wo ad_26.1 ad_26.2.1 ad_26.2.2 fiX2_18 dX2_push_18 ?_
  obtain ⟨g4, hf⟩ := gd_elim hf
  have hm5 : M.2.2 27 (ix (M.1 26 1)) ∈ rivers := wo.2.2.2.1.2.1 _ (inb_lt g4)
  refine r_aald cx wo ad_27.1 ad_27.2.1 ad_27.2.2 (by rw [ln_27]; exact g4) rfl (riv_ok _ hm5).1.1 dX2_push_21 ?_
  refine lv_aload_n cx.1 cx.2.1 dX2_push_22 rfl (lv_at hl 1 rfl) ?_
  obtain ⟨q6, e7, hf⟩ := bd_elim hf
  refine r_Vv (rest := []) cx wo (mX4_copyFrom l hm5 h1 e7) cvX2_25 rfl (riv_ok _ hm5).1.1 (riv_ok _ hm5).1.2.1 (riv_ok _ hm5).1.2.2 rfl rfl hl.1 rfl (Nat.le_of_ble_eq_true rfl) (hR_ok (by decide)) dX2_push_23 (fun H locs wo => ?_)
  refine lv_aload_n cx.1 cx.2.1 dX2_push_26 rfl (lv_at hl 0 rfl) ?_
  refine lv_dup cx.1 cx.2.1 dX2_push_27 rfl ?_
  refine r_getI cx wo ad_26.1 ad_26.2.1 ad_26.2.2 fiX2_18 dX2_push_28 ?_
  refine lv_iconst (v := 1) cx.1 cx.2.1 dX2_push_31 (by decide) ?_
  refine lv_iadd cx.1 cx.2.1 dX2_push_32 ?_
  obtain ⟨M8, e9, hf⟩ := lt_elim hf
  refine r_putI cx wo ad_26.1 ad_26.2.1 ad_26.2.2 fpX2_18 dX2_push_33 (fun H locs wo => ?_)
  rw [← e9] at wo
  have hq := Option.some.inj hf
  subst hq
  exact r_vret cx wo hr hlk dX2_push_36
set_option maxHeartbeats 1000000 in
set_option maxRecDepth 10000 in
theorem mX2_push (l : Launch) {G : GG} {B : Nat} {a1 : Nat} (h1 : a1 ∈ rivers) {M : Mem} {q : Mem} (hf : fX2_push a1 M = some q) : Met l yX2_push (wsG yX2_push cX2_push 2 none) (rmN (3)) (PcW Ph G B 205 M [.ref (B + 26), .ref (B + a1)]) (QcV Ph G B 205 q) 0 0 (fr B) := by
  refine mk_Met (own := RX2) rfl rfl (Nat.le_of_ble_eq_true rfl) ?_
  intro p e s m below meth c ls cx hr hlk wo hl
  have hl : lv_has ls 2 [(0, .ref (B + 26)), (1, .ref (B + a1))] := hl
  unfold fX2_push at hf
  refine lv_aload_n cx.1 cx.2.1 dX2_push_0 rfl (lv_at hl 0 rfl) ?_
  refine r_getI cx wo ad_26.1 ad_26.2.1 ad_26.2.2 fiX2_18 dX2_push_1 ?_
  refine lv_bipush (v := 15) cx.1 cx.2.1 dX2_push_4 (by decide) ?_
  refine lv_icmp_lt (tgt := 13) cx.1 cx.2.1 dX2_push_6 (by decide) (fun c1 => ?_) (fun c1 => ?_)
  · rw [if_pos c1] at hf
    exact wX2_push_13 cx hr hlk _ h1 _ _ hf _ _ _ wo (lv_sub hl [0, 1] rfl)
  · rw [if_neg c1] at hf
    refine lv_aload_n cx.1 cx.2.1 dX2_push_9 rfl (lv_at hl 0 rfl) ?_
    obtain ⟨q2, e3, hf⟩ := bd_elim hf
    refine r_Vv (rest := []) cx wo (mX2_dropOldest l e3) cvX2_22 rfl ad_26.1 ad_26.2.1 ad_26.2.2 rfl rfl hl.1 rfl (Nat.le_of_ble_eq_true rfl) (hR_ok (by decide)) dX2_push_10 (fun H locs wo => ?_)
    exact wX2_push_13 cx hr hlk _ h1 _ _ hf _ _ _ wo (lv_sub hl [0, 1] rfl)
set_option maxHeartbeats 1000000 in
set_option maxRecDepth 10000 in
theorem mX2_pop (l : Launch) {G : GG} {B : Nat} {a1 : Nat} (h1 : a1 ∈ rivers) {M : Mem} {q : Int32 × Mem} (hf : fX2_pop a1 M = some q) : Met l yX2_pop (wsG yX2_pop cX2_pop 2 (some .boolean)) (rmN (3)) (PcW Ph G B 205 M [.ref (B + 26), .ref (B + a1)]) (QcI Ph G B 205 q.1 q.2) 0 0 (fr B) := by
  refine mk_Met (own := RX2) rfl rfl (Nat.le_of_ble_eq_true rfl) ?_
  intro p e s m below meth c ls cx hr hlk wo hl
  have hl : lv_has ls 2 [(0, .ref (B + 26)), (1, .ref (B + a1))] := hl
  unfold fX2_pop at hf
  refine lv_aload_n cx.1 cx.2.1 dX2_pop_0 rfl (lv_at hl 0 rfl) ?_
  refine r_getI cx wo ad_26.1 ad_26.2.1 ad_26.2.2 fiX2_18 dX2_pop_1 ?_
  refine lv_iconst (v := 1) cx.1 cx.2.1 dX2_pop_4 (by decide) ?_
  refine lv_icmp_ge (tgt := 10) cx.1 cx.2.1 dX2_pop_5 (by decide) (fun c1 => ?_) (fun c1 => ?_)
  · rw [if_pos c1] at hf
    refine lv_aload_n cx.1 cx.2.1 dX2_pop_10 rfl (lv_at hl 0 rfl) ?_
    refine lv_dup cx.1 cx.2.1 dX2_pop_11 rfl ?_
    refine r_getI cx wo ad_26.1 ad_26.2.1 ad_26.2.2 fiX2_18 dX2_pop_12 ?_
    refine lv_iconst (v := 1) cx.1 cx.2.1 dX2_pop_15 (by decide) ?_
    refine lv_isub cx.1 cx.2.1 dX2_pop_16 ?_
    obtain ⟨M2, e3, hf⟩ := lt_elim hf
    refine r_putI cx wo ad_26.1 ad_26.2.1 ad_26.2.2 fpX2_18 dX2_pop_17 (fun H locs wo => ?_)
    rw [← e3] at wo
    refine lv_aload_n cx.1 cx.2.1 dX2_pop_20 rfl (lv_at hl 1 rfl) ?_
    refine lv_aload_n cx.1 cx.2.1 dX2_pop_21 rfl (lv_at hl 0 rfl) ?_
    refine r_getR cx wo ad_26.1 ad_26.2.1 ad_26.2.2 fiX2_11 (fn_26_0 wo.2.2.2.1) (by decide) dX2_pop_22 ?_
    refine lv_aload_n cx.1 cx.2.1 dX2_pop_25 rfl (lv_at hl 0 rfl) ?_
    refine r_getI cx wo ad_26.1 ad_26.2.1 ad_26.2.2 fiX2_18 dX2_pop_26 ?_
    obtain ⟨g4, hf⟩ := gd_elim hf
    have hm5 : M2.2.2 27 (ix (M2.1 26 1)) ∈ rivers := wo.2.2.2.1.2.1 _ (inb_lt g4)
    refine r_aald cx wo ad_27.1 ad_27.2.1 ad_27.2.2 (by rw [ln_27]; exact g4) rfl (riv_ok _ hm5).1.1 dX2_pop_29 ?_
    obtain ⟨q6, e7, hf⟩ := bd_elim hf
    refine r_Vv (rest := []) cx wo (mX4_copyFrom l h1 hm5 e7) cvX2_25 rfl (riv_ok _ h1).1.1 (riv_ok _ h1).1.2.1 (riv_ok _ h1).1.2.2 rfl rfl hl.1 rfl (Nat.le_of_ble_eq_true rfl) (hR_ok (by decide)) dX2_pop_30 (fun H locs wo => ?_)
    refine lv_iconst (v := 1) cx.1 cx.2.1 dX2_pop_33 (by decide) ?_
    have hq := Option.some.inj hf
    subst hq
    exact r_zret cx wo hr hlk (Or.inr rfl) dX2_pop_34
  · rw [if_neg c1] at hf
    refine lv_iconst (v := 0) cx.1 cx.2.1 dX2_pop_8 (by decide) ?_
    have hq := Option.some.inj hf
    subst hq
    exact r_zret cx wo hr hlk (Or.inl rfl) dX2_pop_9
end Walk
