/-! the two constructors, by program -/
def zX9_init (M : Mem) : Mem := lt (zX8_init M) fun M1 => lt (sR M1 1 0 2) fun M3 => lt (zX5_init M3) fun M6 => lt (sR M6 1 1 4) fun M9 => lt (zX4_init 6 M9) fun M12 => lt (sR M12 1 2 6) fun M15 => lt (zX4_init 11 M15) fun M18 => lt (sR M18 1 3 11) fun M21 => lt (zX4_init 16 M21) fun M24 => lt (sR M24 1 4 16) fun M27 => lt (zX4_init 21 M27) fun M30 => lt (sR M30 1 5 21) fun M33 => lt (zX2_init M33) fun M36 => lt (sR M36 1 6 26) fun M39 => lt (sR M39 1 7 103) fun M42 => lt (sR M42 1 8 104) fun M46 => lt (zX7_init M46) fun M50 => lt (sR M50 1 9 105) fun M54 => lt (zX3_init M54) fun M58 => lt (sR M58 1 10 108) fun M62 => lt (zX1_init M62) fun M66 => lt (sR M66 1 11 115) fun M70 => lt (zX0_init M70) fun M74 => lt (sR M74 1 12 141) fun M78 => lt (sR M78 1 13 142) fun M82 => lt (sR M82 1 14 143) fun M86 => lt (sR M86 1 15 144) fun M90 => lt (sR M90 1 16 145) fun M94 => lt (zX6_init 146 M94) fun M98 => lt (sR M98 1 17 146) fun M102 => lt (zX6_init 150 M102) fun M106 => lt (sR M106 1 18 150) fun M110 => lt (zX4_init 154 M110) fun M114 => lt (sR M114 103 (ix 0) 154) fun M118 => lt (zX4_init 159 M118) fun M122 => lt (sR M122 103 (ix 1) 159) fun M126 => lt (zX4_init 164 M126) fun M130 => lt (sR M130 103 (ix 2) 164) fun M134 => M134

set_option maxHeartbeats 4000000 in
set_option maxRecDepth 20000 in
theorem zmX9_init (l : Launch) {G : GG} {B : Nat} {M q : Mem} (hf : zX9_init M = q) : Met l yX9_init (wsG yX9_init cX9_init 2 none) (rmZ 5 167 2123) (PcZ G B 1 M [.ref (B + 1)]) (QcZ G B 168 q) 167 2123 (fr B) := by
  refine mk_MetZ (own := RX9) rfl rfl (Nat.le_of_ble_eq_true rfl) ?_
  intro p e s m below meth c ls cx hr hlk hnm wz hl
  have hl : lv_has ls 2 [(0, .ref (B + 1))] := hl
  unfold zX9_init at hf
  refine lv_aload_n cx.1 cx.2.1 dX9_init_0 rfl (lv_at hl 0 rfl) ?_
  refine z_objInit cx hl.1 olX9_1 oi_obj oc_obj (Nat.le_of_ble_eq_true rfl) (by decide) dX9_init_1 ?_
  refine lv_aload_n cx.1 cx.2.1 dX9_init_4 rfl (lv_at hl 0 rfl) ?_
  refine z_new cx wz niX9_7 ad_2.2.2 (by decide) (by decide) dX9_init_5 (fun H wz => ?_)
  have wz : Wz G B 2 s M H _ := wz
  refine lv_dup cx.1 cx.2.1 dX9_init_8 rfl ?_
  obtain ⟨M1, e2, hf⟩ := lt_elim hf
  refine z_init (rest := [.ref (B + 2), .ref (B + 1)]) cx wz (zmX8_init l e2.symm) ciX9_9 rfl hl.1 rfl (Nat.le_of_ble_eq_true rfl) ⟨by decide, by decide, by decide, by decide⟩ dX9_init_9 (fun H locs wz => ?_)
  have wz : Wz G B 3 s M1 H _ := wz
  obtain ⟨M3, e4, hf⟩ := lt_elim hf
  refine z_putF (v := 2) cx wz ad_1.1 (by decide) ad_1.2.2 fpX9_10 hnm (fun _ _ _ h => by cases h; rfl) (by omega) (fun _ => rfl) (fun _ => rfl) dX9_init_12 (fun H locs wz => ?_)
  rw [← e4] at wz
  have f5 : M3.2.2 1 0 = 2 := by rw [e4]; exact sR_at
  refine lv_aload_n cx.1 cx.2.1 dX9_init_15 rfl (lv_at hl 0 rfl) ?_
  refine z_new cx wz niX9_16 ad_4.2.2 (by decide) (by decide) dX9_init_16 (fun H wz => ?_)
  have wz : Wz G B 4 s M3 H _ := wz
  refine lv_dup cx.1 cx.2.1 dX9_init_19 rfl ?_
  obtain ⟨M6, e7, hf⟩ := lt_elim hf
  refine z_init (rest := [.ref (B + 4), .ref (B + 1)]) cx wz (zmX5_init l e7.symm) ciX9_18 rfl hl.1 rfl (Nat.le_of_ble_eq_true rfl) ⟨by decide, by decide, by decide, by decide⟩ dX9_init_20 (fun H locs wz => ?_)
  have wz : Wz G B 5 s M6 H _ := wz
  have f8 : M6.2.2 1 0 = 2 := by rw [e7, zX5_init_row (b := 1) (by decide)]; exact f5
  obtain ⟨M9, e10, hf⟩ := lt_elim hf
  refine z_putF (v := 4) cx wz ad_1.1 (by decide) ad_1.2.2 fpX9_19 hnm (fun _ _ _ h => by cases h; rfl) (by omega) (fun _ => rfl) (fun _ => rfl) dX9_init_23 (fun H locs wz => ?_)
  rw [← e10] at wz
  have f11 : M9.2.2 1 0 = 2 := by rw [e10, sR_nb (by decide)]; exact f8
  refine lv_aload_n cx.1 cx.2.1 dX9_init_26 rfl (lv_at hl 0 rfl) ?_
  refine z_new cx wz niX9_23 ad_6.2.2 (by decide) (by decide) dX9_init_27 (fun H wz => ?_)
  have wz : Wz G B 6 s M9 H _ := wz
  refine lv_dup cx.1 cx.2.1 dX9_init_30 rfl ?_
  obtain ⟨M12, e13, hf⟩ := lt_elim hf
  refine z_init (rest := [.ref (B + 6), .ref (B + 1)]) cx wz (zmX4_init l (by decide +kernel) e13.symm) ciX9_25 rfl hl.1 rfl (Nat.le_of_ble_eq_true rfl) ⟨by decide, by decide, by decide, by decide⟩ dX9_init_31 (fun H locs wz => ?_)
  have wz : Wz G B 10 s M12 H _ := wz
  have f14 : M12.2.2 1 0 = 2 := by rw [e13, zX4_init_row (b := 1) (by decide)]; exact f11
  obtain ⟨M15, e16, hf⟩ := lt_elim hf
  refine z_putF (v := 6) cx wz ad_1.1 (by decide) ad_1.2.2 fpX9_26 hnm (fun _ _ _ h => by cases h; rfl) (by omega) (fun _ => rfl) (fun _ => rfl) dX9_init_34 (fun H locs wz => ?_)
  rw [← e16] at wz
  have f17 : M15.2.2 1 0 = 2 := by rw [e16, sR_nb (by decide)]; exact f14
  refine lv_aload_n cx.1 cx.2.1 dX9_init_37 rfl (lv_at hl 0 rfl) ?_
  refine z_new cx wz niX9_23 ad_11.2.2 (by decide) (by decide) dX9_init_38 (fun H wz => ?_)
  have wz : Wz G B 11 s M15 H _ := wz
  refine lv_dup cx.1 cx.2.1 dX9_init_41 rfl ?_
  obtain ⟨M18, e19, hf⟩ := lt_elim hf
  refine z_init (rest := [.ref (B + 11), .ref (B + 1)]) cx wz (zmX4_init l (by decide +kernel) e19.symm) ciX9_25 rfl hl.1 rfl (Nat.le_of_ble_eq_true rfl) ⟨by decide, by decide, by decide, by decide⟩ dX9_init_42 (fun H locs wz => ?_)
  have wz : Wz G B 15 s M18 H _ := wz
  have f20 : M18.2.2 1 0 = 2 := by rw [e19, zX4_init_row (b := 1) (by decide)]; exact f17
  obtain ⟨M21, e22, hf⟩ := lt_elim hf
  refine z_putF (v := 11) cx wz ad_1.1 (by decide) ad_1.2.2 fpX9_30 hnm (fun _ _ _ h => by cases h; rfl) (by omega) (fun _ => rfl) (fun _ => rfl) dX9_init_45 (fun H locs wz => ?_)
  rw [← e22] at wz
  have f23 : M21.2.2 1 0 = 2 := by rw [e22, sR_nb (by decide)]; exact f20
  refine lv_aload_n cx.1 cx.2.1 dX9_init_48 rfl (lv_at hl 0 rfl) ?_
  refine z_new cx wz niX9_23 ad_16.2.2 (by decide) (by decide) dX9_init_49 (fun H wz => ?_)
  have wz : Wz G B 16 s M21 H _ := wz
  refine lv_dup cx.1 cx.2.1 dX9_init_52 rfl ?_
  obtain ⟨M24, e25, hf⟩ := lt_elim hf
  refine z_init (rest := [.ref (B + 16), .ref (B + 1)]) cx wz (zmX4_init l (by decide +kernel) e25.symm) ciX9_25 rfl hl.1 rfl (Nat.le_of_ble_eq_true rfl) ⟨by decide, by decide, by decide, by decide⟩ dX9_init_53 (fun H locs wz => ?_)
  have wz : Wz G B 20 s M24 H _ := wz
  have f26 : M24.2.2 1 0 = 2 := by rw [e25, zX4_init_row (b := 1) (by decide)]; exact f23
  obtain ⟨M27, e28, hf⟩ := lt_elim hf
  refine z_putF (v := 16) cx wz ad_1.1 (by decide) ad_1.2.2 fpX9_33 hnm (fun _ _ _ h => by cases h; rfl) (by omega) (fun _ => rfl) (fun _ => rfl) dX9_init_56 (fun H locs wz => ?_)
  rw [← e28] at wz
  have f29 : M27.2.2 1 0 = 2 := by rw [e28, sR_nb (by decide)]; exact f26
  refine lv_aload_n cx.1 cx.2.1 dX9_init_59 rfl (lv_at hl 0 rfl) ?_
  refine z_new cx wz niX9_23 ad_21.2.2 (by decide) (by decide) dX9_init_60 (fun H wz => ?_)
  have wz : Wz G B 21 s M27 H _ := wz
  refine lv_dup cx.1 cx.2.1 dX9_init_63 rfl ?_
  obtain ⟨M30, e31, hf⟩ := lt_elim hf
  refine z_init (rest := [.ref (B + 21), .ref (B + 1)]) cx wz (zmX4_init l (by decide +kernel) e31.symm) ciX9_25 rfl hl.1 rfl (Nat.le_of_ble_eq_true rfl) ⟨by decide, by decide, by decide, by decide⟩ dX9_init_64 (fun H locs wz => ?_)
  have wz : Wz G B 25 s M30 H _ := wz
  have f32 : M30.2.2 1 0 = 2 := by rw [e31, zX4_init_row (b := 1) (by decide)]; exact f29
  obtain ⟨M33, e34, hf⟩ := lt_elim hf
  refine z_putF (v := 21) cx wz ad_1.1 (by decide) ad_1.2.2 fpX9_36 hnm (fun _ _ _ h => by cases h; rfl) (by omega) (fun _ => rfl) (fun _ => rfl) dX9_init_67 (fun H locs wz => ?_)
  rw [← e34] at wz
  have f35 : M33.2.2 1 0 = 2 := by rw [e34, sR_nb (by decide)]; exact f32
  refine lv_aload_n cx.1 cx.2.1 dX9_init_70 rfl (lv_at hl 0 rfl) ?_
  refine z_new cx wz niX9_39 ad_26.2.2 (by decide) (by decide) dX9_init_71 (fun H wz => ?_)
  have wz : Wz G B 26 s M33 H _ := wz
  refine lv_dup cx.1 cx.2.1 dX9_init_74 rfl ?_
  obtain ⟨M36, e37, hf⟩ := lt_elim hf
  refine z_init (rest := [.ref (B + 26), .ref (B + 1)]) cx wz (zmX2_init l e37.symm) ciX9_41 rfl hl.1 rfl (Nat.le_of_ble_eq_true rfl) ⟨by decide, by decide, by decide, by decide⟩ dX9_init_75 (fun H locs wz => ?_)
  have wz : Wz G B 102 s M36 H _ := wz
  have f38 : M36.2.2 1 0 = 2 := by rw [e37, zX2_init_row (b := 1) (by decide)]; exact f35
  obtain ⟨M39, e40, hf⟩ := lt_elim hf
  refine z_putF (v := 26) cx wz ad_1.1 (by decide) ad_1.2.2 fpX9_42 hnm (fun _ _ _ h => by cases h; rfl) (by omega) (fun _ => rfl) (fun _ => rfl) dX9_init_78 (fun H locs wz => ?_)
  rw [← e40] at wz
  have f41 : M39.2.2 1 0 = 2 := by rw [e40, sR_nb (by decide)]; exact f38
  refine lv_aload_n cx.1 cx.2.1 dX9_init_81 rfl (lv_at hl 0 rfl) ?_
  refine lv_iconst (v := 3) cx.1 cx.2.1 dX9_init_82 (by decide) ?_
  refine z_newR cx wz rlX9_23 (len := 3) (by decide) (by decide) (by decide +kernel) (by decide) (by decide) (by decide) dX9_init_83 (fun H wz => ?_)
  have wz : Wz G B 103 s M39 H _ := wz
  obtain ⟨M42, e43, hf⟩ := lt_elim hf
  refine z_putF (v := 103) cx wz ad_1.1 (by decide) ad_1.2.2 fpX9_46 hnm (fun _ _ _ h => by cases h; rfl) (by omega) (fun _ => rfl) (fun _ => rfl) dX9_init_86 (fun H locs wz => ?_)
  rw [← e43] at wz
  have f44 : M42.2.2 1 0 = 2 := by rw [e43, sR_nb (by decide)]; exact f41
  have f45 : M42.2.2 1 7 = 103 := by rw [e43]; exact sR_at
  refine lv_aload_n cx.1 cx.2.1 dX9_init_89 rfl (lv_at hl 0 rfl) ?_
  refine lv_iconst (v := 3) cx.1 cx.2.1 dX9_init_90 (by decide) ?_
  refine z_newZ cx wz ac_Z (len := 3) (by decide) (by decide) (by decide +kernel) (by decide) (by decide) (by decide) dX9_init_91 (fun H wz => ?_)
  have wz : Wz G B 104 s M42 H _ := wz
  obtain ⟨M46, e47, hf⟩ := lt_elim hf
  refine z_putF (v := 104) cx wz ad_1.1 (by decide) ad_1.2.2 fpX9_50 hnm (fun _ _ _ h => by cases h; rfl) (by omega) (fun _ => rfl) (fun _ => rfl) dX9_init_93 (fun H locs wz => ?_)
  rw [← e47] at wz
  have f48 : M46.2.2 1 0 = 2 := by rw [e47, sR_nb (by decide)]; exact f44
  have f49 : M46.2.2 1 7 = 103 := by rw [e47, sR_nb (by decide)]; exact f45
  refine lv_aload_n cx.1 cx.2.1 dX9_init_96 rfl (lv_at hl 0 rfl) ?_
  refine z_new cx wz niX9_54 ad_105.2.2 (by decide) (by decide) dX9_init_97 (fun H wz => ?_)
  have wz : Wz G B 105 s M46 H _ := wz
  refine lv_dup cx.1 cx.2.1 dX9_init_100 rfl ?_
  obtain ⟨M50, e51, hf⟩ := lt_elim hf
  refine z_init (rest := [.ref (B + 105), .ref (B + 1)]) cx wz (zmX7_init l e51.symm) ciX9_56 rfl hl.1 rfl (Nat.le_of_ble_eq_true rfl) ⟨by decide, by decide, by decide, by decide⟩ dX9_init_101 (fun H locs wz => ?_)
  have wz : Wz G B 107 s M50 H _ := wz
  have f52 : M50.2.2 1 0 = 2 := by rw [e51, zX7_init_row (b := 1) (by decide)]; exact f48
  have f53 : M50.2.2 1 7 = 103 := by rw [e51, zX7_init_row (b := 1) (by decide)]; exact f49
  obtain ⟨M54, e55, hf⟩ := lt_elim hf
  refine z_putF (v := 105) cx wz ad_1.1 (by decide) ad_1.2.2 fpX9_57 hnm (fun _ _ _ h => by cases h; rfl) (by omega) (fun _ => rfl) (fun _ => rfl) dX9_init_104 (fun H locs wz => ?_)
  rw [← e55] at wz
  have f56 : M54.2.2 1 0 = 2 := by rw [e55, sR_nb (by decide)]; exact f52
  have f57 : M54.2.2 1 7 = 103 := by rw [e55, sR_nb (by decide)]; exact f53
  refine lv_aload_n cx.1 cx.2.1 dX9_init_107 rfl (lv_at hl 0 rfl) ?_
  refine z_new cx wz niX9_61 ad_108.2.2 (by decide) (by decide) dX9_init_108 (fun H wz => ?_)
  have wz : Wz G B 108 s M54 H _ := wz
  refine lv_dup cx.1 cx.2.1 dX9_init_111 rfl ?_
  obtain ⟨M58, e59, hf⟩ := lt_elim hf
  refine z_init (rest := [.ref (B + 108), .ref (B + 1)]) cx wz (zmX3_init l e59.symm) ciX9_63 rfl hl.1 rfl (Nat.le_of_ble_eq_true rfl) ⟨by decide, by decide, by decide, by decide⟩ dX9_init_112 (fun H locs wz => ?_)
  have wz : Wz G B 114 s M58 H _ := wz
  have f60 : M58.2.2 1 0 = 2 := by rw [e59, zX3_init_row (b := 1) (by decide)]; exact f56
  have f61 : M58.2.2 1 7 = 103 := by rw [e59, zX3_init_row (b := 1) (by decide)]; exact f57
  obtain ⟨M62, e63, hf⟩ := lt_elim hf
  refine z_putF (v := 108) cx wz ad_1.1 (by decide) ad_1.2.2 fpX9_64 hnm (fun _ _ _ h => by cases h; rfl) (by omega) (fun _ => rfl) (fun _ => rfl) dX9_init_115 (fun H locs wz => ?_)
  rw [← e63] at wz
  have f64 : M62.2.2 1 0 = 2 := by rw [e63, sR_nb (by decide)]; exact f60
  have f65 : M62.2.2 1 7 = 103 := by rw [e63, sR_nb (by decide)]; exact f61
  refine lv_aload_n cx.1 cx.2.1 dX9_init_118 rfl (lv_at hl 0 rfl) ?_
  refine z_new cx wz niX9_68 ad_115.2.2 (by decide) (by decide) dX9_init_119 (fun H wz => ?_)
  have wz : Wz G B 115 s M62 H _ := wz
  refine lv_dup cx.1 cx.2.1 dX9_init_122 rfl ?_
  obtain ⟨M66, e67, hf⟩ := lt_elim hf
  refine z_init (rest := [.ref (B + 115), .ref (B + 1)]) cx wz (zmX1_init l e67.symm) ciX9_70 rfl hl.1 rfl (Nat.le_of_ble_eq_true rfl) ⟨by decide, by decide, by decide, by decide⟩ dX9_init_123 (fun H locs wz => ?_)
  have wz : Wz G B 140 s M66 H _ := wz
  have f68 : M66.2.2 1 0 = 2 := by rw [e67, zX1_init_row (b := 1) (by decide)]; exact f64
  have f69 : M66.2.2 1 7 = 103 := by rw [e67, zX1_init_row (b := 1) (by decide)]; exact f65
  obtain ⟨M70, e71, hf⟩ := lt_elim hf
  refine z_putF (v := 115) cx wz ad_1.1 (by decide) ad_1.2.2 fpX9_71 hnm (fun _ _ _ h => by cases h; rfl) (by omega) (fun _ => rfl) (fun _ => rfl) dX9_init_126 (fun H locs wz => ?_)
  rw [← e71] at wz
  have f72 : M70.2.2 1 0 = 2 := by rw [e71, sR_nb (by decide)]; exact f68
  have f73 : M70.2.2 1 7 = 103 := by rw [e71, sR_nb (by decide)]; exact f69
  refine lv_aload_n cx.1 cx.2.1 dX9_init_129 rfl (lv_at hl 0 rfl) ?_
  refine z_new cx wz niX9_75 ad_141.2.2 (by decide) (by decide) dX9_init_130 (fun H wz => ?_)
  have wz : Wz G B 141 s M70 H _ := wz
  refine lv_dup cx.1 cx.2.1 dX9_init_133 rfl ?_
  obtain ⟨M74, e75, hf⟩ := lt_elim hf
  refine z_init (rest := [.ref (B + 141), .ref (B + 1)]) cx wz (zmX0_init l e75.symm) ciX9_77 rfl hl.1 rfl (Nat.le_of_ble_eq_true rfl) ⟨by decide, by decide, by decide, by decide⟩ dX9_init_134 (fun H locs wz => ?_)
  have wz : Wz G B 141 s M74 H _ := wz
  have f76 : M74.2.2 1 0 = 2 := by rw [e75, zX0_init_row (b := 1) (by decide)]; exact f72
  have f77 : M74.2.2 1 7 = 103 := by rw [e75, zX0_init_row (b := 1) (by decide)]; exact f73
  obtain ⟨M78, e79, hf⟩ := lt_elim hf
  refine z_putF (v := 141) cx wz ad_1.1 (by decide) ad_1.2.2 fpX9_78 hnm (fun _ _ _ h => by cases h; rfl) (by omega) (fun _ => rfl) (fun _ => rfl) dX9_init_137 (fun H locs wz => ?_)
  rw [← e79] at wz
  have f80 : M78.2.2 1 0 = 2 := by rw [e79, sR_nb (by decide)]; exact f76
  have f81 : M78.2.2 1 7 = 103 := by rw [e79, sR_nb (by decide)]; exact f77
  refine lv_aload_n cx.1 cx.2.1 dX9_init_140 rfl (lv_at hl 0 rfl) ?_
  refine lv_bipush (v := 6) cx.1 cx.2.1 dX9_init_141 (by decide) ?_
  refine z_newI cx wz ac_I (len := 6) (by decide) (by decide) (by decide +kernel) (by decide) (by decide) (by decide) dX9_init_143 (fun H wz => ?_)
  have wz : Wz G B 142 s M78 H _ := wz
  obtain ⟨M82, e83, hf⟩ := lt_elim hf
  refine z_putF (v := 142) cx wz ad_1.1 (by decide) ad_1.2.2 fpX9_82 hnm (fun _ _ _ h => by cases h; rfl) (by omega) (fun _ => rfl) (fun _ => rfl) dX9_init_145 (fun H locs wz => ?_)
  rw [← e83] at wz
  have f84 : M82.2.2 1 0 = 2 := by rw [e83, sR_nb (by decide)]; exact f80
  have f85 : M82.2.2 1 7 = 103 := by rw [e83, sR_nb (by decide)]; exact f81
  refine lv_aload_n cx.1 cx.2.1 dX9_init_148 rfl (lv_at hl 0 rfl) ?_
  refine lv_bipush (v := 6) cx.1 cx.2.1 dX9_init_149 (by decide) ?_
  refine z_newI cx wz ac_I (len := 6) (by decide) (by decide) (by decide +kernel) (by decide) (by decide) (by decide) dX9_init_151 (fun H wz => ?_)
  have wz : Wz G B 143 s M82 H _ := wz
  obtain ⟨M86, e87, hf⟩ := lt_elim hf
  refine z_putF (v := 143) cx wz ad_1.1 (by decide) ad_1.2.2 fpX9_86 hnm (fun _ _ _ h => by cases h; rfl) (by omega) (fun _ => rfl) (fun _ => rfl) dX9_init_153 (fun H locs wz => ?_)
  rw [← e87] at wz
  have f88 : M86.2.2 1 0 = 2 := by rw [e87, sR_nb (by decide)]; exact f84
  have f89 : M86.2.2 1 7 = 103 := by rw [e87, sR_nb (by decide)]; exact f85
  refine lv_aload_n cx.1 cx.2.1 dX9_init_156 rfl (lv_at hl 0 rfl) ?_
  refine lv_bipush (v := 61) cx.1 cx.2.1 dX9_init_157 (by decide) ?_
  refine z_newI cx wz ac_I (len := 61) (by decide) (by decide) (by decide +kernel) (by decide) (by decide) (by decide) dX9_init_159 (fun H wz => ?_)
  have wz : Wz G B 144 s M86 H _ := wz
  obtain ⟨M90, e91, hf⟩ := lt_elim hf
  refine z_putF (v := 144) cx wz ad_1.1 (by decide) ad_1.2.2 fpX9_89 hnm (fun _ _ _ h => by cases h; rfl) (by omega) (fun _ => rfl) (fun _ => rfl) dX9_init_161 (fun H locs wz => ?_)
  rw [← e91] at wz
  have f92 : M90.2.2 1 0 = 2 := by rw [e91, sR_nb (by decide)]; exact f88
  have f93 : M90.2.2 1 7 = 103 := by rw [e91, sR_nb (by decide)]; exact f89
  refine lv_aload_n cx.1 cx.2.1 dX9_init_164 rfl (lv_at hl 0 rfl) ?_
  refine lv_bipush (v := 61) cx.1 cx.2.1 dX9_init_165 (by decide) ?_
  refine z_newZ cx wz ac_Z (len := 61) (by decide) (by decide) (by decide +kernel) (by decide) (by decide) (by decide) dX9_init_167 (fun H wz => ?_)
  have wz : Wz G B 145 s M90 H _ := wz
  obtain ⟨M94, e95, hf⟩ := lt_elim hf
  refine z_putF (v := 145) cx wz ad_1.1 (by decide) ad_1.2.2 fpX9_92 hnm (fun _ _ _ h => by cases h; rfl) (by omega) (fun _ => rfl) (fun _ => rfl) dX9_init_169 (fun H locs wz => ?_)
  rw [← e95] at wz
  have f96 : M94.2.2 1 0 = 2 := by rw [e95, sR_nb (by decide)]; exact f92
  have f97 : M94.2.2 1 7 = 103 := by rw [e95, sR_nb (by decide)]; exact f93
  refine lv_aload_n cx.1 cx.2.1 dX9_init_172 rfl (lv_at hl 0 rfl) ?_
  refine z_new cx wz niX9_95 ad_146.2.2 (by decide) (by decide) dX9_init_173 (fun H wz => ?_)
  have wz : Wz G B 146 s M94 H _ := wz
  refine lv_dup cx.1 cx.2.1 dX9_init_176 rfl ?_
  refine lv_aload_n cx.1 cx.2.1 dX9_init_177 rfl (lv_at hl 0 rfl) ?_
  refine r_getR cx wz.1 ad_1.1 (by decide) ad_1.2.2 fiX9_10 f96 (by decide) dX9_init_178 ?_
  obtain ⟨M98, e99, hf⟩ := lt_elim hf
  refine z_init (rest := [.ref (B + 146), .ref (B + 1)]) cx wz (zmX6_init l (by decide +kernel) e99.symm) ciX9_97 rfl hl.1 rfl (Nat.le_of_ble_eq_true rfl) ⟨by decide, by decide, by decide, by decide⟩ dX9_init_181 (fun H locs wz => ?_)
  have wz : Wz G B 149 s M98 H _ := wz
  have f100 : M98.2.2 1 0 = 2 := by rw [e99, zX6_init_row (b := 1) (by decide)]; exact f96
  have f101 : M98.2.2 1 7 = 103 := by rw [e99, zX6_init_row (b := 1) (by decide)]; exact f97
  obtain ⟨M102, e103, hf⟩ := lt_elim hf
  refine z_putR (v := 146) cx wz ad_1.1 (by decide) ad_1.2.2 fpX9_100 (by omega) (fun _ => rfl) (fun _ => rfl) dX9_init_184 (fun H locs wz => ?_)
  rw [← e103] at wz
  have f104 : M102.2.2 1 0 = 2 := by rw [e103, sR_nb (by decide)]; exact f100
  have f105 : M102.2.2 1 7 = 103 := by rw [e103, sR_nb (by decide)]; exact f101
  refine lv_aload_n cx.1 cx.2.1 dX9_init_187 rfl (lv_at hl 0 rfl) ?_
  refine z_new cx wz niX9_95 ad_150.2.2 (by decide) (by decide) dX9_init_188 (fun H wz => ?_)
  have wz : Wz G B 150 s M102 H _ := wz
  refine lv_dup cx.1 cx.2.1 dX9_init_191 rfl ?_
  refine lv_aload_n cx.1 cx.2.1 dX9_init_192 rfl (lv_at hl 0 rfl) ?_
  refine r_getR cx wz.1 ad_1.1 (by decide) ad_1.2.2 fiX9_10 f104 (by decide) dX9_init_193 ?_
  obtain ⟨M106, e107, hf⟩ := lt_elim hf
  refine z_init (rest := [.ref (B + 150), .ref (B + 1)]) cx wz (zmX6_init l (by decide +kernel) e107.symm) ciX9_97 rfl hl.1 rfl (Nat.le_of_ble_eq_true rfl) ⟨by decide, by decide, by decide, by decide⟩ dX9_init_196 (fun H locs wz => ?_)
  have wz : Wz G B 153 s M106 H _ := wz
  have f108 : M106.2.2 1 0 = 2 := by rw [e107, zX6_init_row (b := 1) (by decide)]; exact f104
  have f109 : M106.2.2 1 7 = 103 := by rw [e107, zX6_init_row (b := 1) (by decide)]; exact f105
  obtain ⟨M110, e111, hf⟩ := lt_elim hf
  refine z_putR (v := 150) cx wz ad_1.1 (by decide) ad_1.2.2 fpX9_104 (by omega) (fun _ => rfl) (fun _ => rfl) dX9_init_199 (fun H locs wz => ?_)
  rw [← e111] at wz
  have f112 : M110.2.2 1 0 = 2 := by rw [e111, sR_nb (by decide)]; exact f108
  have f113 : M110.2.2 1 7 = 103 := by rw [e111, sR_nb (by decide)]; exact f109
  refine lv_iconst (v := 0) cx.1 cx.2.1 dX9_init_202 (by decide) ?_
  refine lv_istore_n (lv' := [(1, .int 0), (0, .ref (B + 1))]) cx.1 cx.2.1 dX9_init_203 rfl hl (by decide) rfl (fun ls hl => ?_)
  refine lv_iload_n cx.1 cx.2.1 dX9_init_204 rfl (lv_at hl 0 rfl) ?_
  refine lv_iconst (v := 3) cx.1 cx.2.1 dX9_init_205 (by decide) ?_
  refine lv_icmp_ge (tgt := 228) cx.1 cx.2.1 dX9_init_206 (by decide) (fun c0 => absurd c0 (by decide)) (fun c0 => ?_)
  refine lv_aload_n cx.1 cx.2.1 dX9_init_209 rfl (lv_at hl 1 rfl) ?_
  refine r_getR cx wz.1 ad_1.1 (by decide) ad_1.2.2 fiX9_46 f113 (by decide) dX9_init_210 ?_
  refine lv_iload_n cx.1 cx.2.1 dX9_init_213 rfl (lv_at hl 0 rfl) ?_
  refine z_new cx wz niX9_23 ad_154.2.2 (by decide) (by decide) dX9_init_214 (fun H wz => ?_)
  have wz : Wz G B 154 s M110 H _ := wz
  refine lv_dup cx.1 cx.2.1 dX9_init_217 rfl ?_
  obtain ⟨M114, e115, hf⟩ := lt_elim hf
  refine z_init (rest := [.ref (B + 154), .int 0, .ref (B + 103)]) cx wz (zmX4_init l (by decide +kernel) e115.symm) ciX9_25 rfl hl.1 rfl (Nat.le_of_ble_eq_true rfl) ⟨by decide, by decide, by decide, by decide⟩ dX9_init_218 (fun H locs wz => ?_)
  have wz : Wz G B 158 s M114 H _ := wz
  have f116 : M114.2.2 1 0 = 2 := by rw [e115, zX4_init_row (b := 1) (by decide)]; exact f112
  have f117 : M114.2.2 1 7 = 103 := by rw [e115, zX4_init_row (b := 1) (by decide)]; exact f113
  obtain ⟨M118, e119, hf⟩ := lt_elim hf
  refine z_aast cx wz ad_103.1 (by decide) ad_103.2.2 (by rw [ln_103]; decide) ad_154.1 (by decide) ad_154.2.2 dX9_init_221 (fun H locs wz => ?_)
  rw [← e119] at wz
  have f120 : M118.2.2 1 0 = 2 := by rw [e119, sR_nb (by decide)]; exact f116
  have f121 : M118.2.2 1 7 = 103 := by rw [e119, sR_nb (by decide)]; exact f117
  refine lv_iinc (v := 1) (lv' := [(1, .int 1), (0, .ref (B + 1))]) cx.1 cx.2.1 dX9_init_222 hl (k := 0) rfl (by decide) (by decide) rfl (fun ls hl => ?_)
  refine lv_goto (tgt := 204) cx.1 cx.2.1 dX9_init_225 (by decide) ?_
  refine lv_iload_n cx.1 cx.2.1 dX9_init_204 rfl (lv_at hl 0 rfl) ?_
  refine lv_iconst (v := 3) cx.1 cx.2.1 dX9_init_205 (by decide) ?_
  refine lv_icmp_ge (tgt := 228) cx.1 cx.2.1 dX9_init_206 (by decide) (fun c0 => absurd c0 (by decide)) (fun c0 => ?_)
  refine lv_aload_n cx.1 cx.2.1 dX9_init_209 rfl (lv_at hl 1 rfl) ?_
  refine r_getR cx wz.1 ad_1.1 (by decide) ad_1.2.2 fiX9_46 f121 (by decide) dX9_init_210 ?_
  refine lv_iload_n cx.1 cx.2.1 dX9_init_213 rfl (lv_at hl 0 rfl) ?_
  refine z_new cx wz niX9_23 ad_159.2.2 (by decide) (by decide) dX9_init_214 (fun H wz => ?_)
  have wz : Wz G B 159 s M118 H _ := wz
  refine lv_dup cx.1 cx.2.1 dX9_init_217 rfl ?_
  obtain ⟨M122, e123, hf⟩ := lt_elim hf
  refine z_init (rest := [.ref (B + 159), .int 1, .ref (B + 103)]) cx wz (zmX4_init l (by decide +kernel) e123.symm) ciX9_25 rfl hl.1 rfl (Nat.le_of_ble_eq_true rfl) ⟨by decide, by decide, by decide, by decide⟩ dX9_init_218 (fun H locs wz => ?_)
  have wz : Wz G B 163 s M122 H _ := wz
  have f124 : M122.2.2 1 0 = 2 := by rw [e123, zX4_init_row (b := 1) (by decide)]; exact f120
  have f125 : M122.2.2 1 7 = 103 := by rw [e123, zX4_init_row (b := 1) (by decide)]; exact f121
  obtain ⟨M126, e127, hf⟩ := lt_elim hf
  refine z_aast cx wz ad_103.1 (by decide) ad_103.2.2 (by rw [ln_103]; decide) ad_159.1 (by decide) ad_159.2.2 dX9_init_221 (fun H locs wz => ?_)
  rw [← e127] at wz
  have f128 : M126.2.2 1 0 = 2 := by rw [e127, sR_nb (by decide)]; exact f124
  have f129 : M126.2.2 1 7 = 103 := by rw [e127, sR_nb (by decide)]; exact f125
  refine lv_iinc (v := 2) (lv' := [(1, .int 2), (0, .ref (B + 1))]) cx.1 cx.2.1 dX9_init_222 hl (k := 0) rfl (by decide) (by decide) rfl (fun ls hl => ?_)
  refine lv_goto (tgt := 204) cx.1 cx.2.1 dX9_init_225 (by decide) ?_
  refine lv_iload_n cx.1 cx.2.1 dX9_init_204 rfl (lv_at hl 0 rfl) ?_
  refine lv_iconst (v := 3) cx.1 cx.2.1 dX9_init_205 (by decide) ?_
  refine lv_icmp_ge (tgt := 228) cx.1 cx.2.1 dX9_init_206 (by decide) (fun c0 => absurd c0 (by decide)) (fun c0 => ?_)
  refine lv_aload_n cx.1 cx.2.1 dX9_init_209 rfl (lv_at hl 1 rfl) ?_
  refine r_getR cx wz.1 ad_1.1 (by decide) ad_1.2.2 fiX9_46 f129 (by decide) dX9_init_210 ?_
  refine lv_iload_n cx.1 cx.2.1 dX9_init_213 rfl (lv_at hl 0 rfl) ?_
  refine z_new cx wz niX9_23 ad_164.2.2 (by decide) (by decide) dX9_init_214 (fun H wz => ?_)
  have wz : Wz G B 164 s M126 H _ := wz
  refine lv_dup cx.1 cx.2.1 dX9_init_217 rfl ?_
  obtain ⟨M130, e131, hf⟩ := lt_elim hf
  refine z_init (rest := [.ref (B + 164), .int 2, .ref (B + 103)]) cx wz (zmX4_init l (by decide +kernel) e131.symm) ciX9_25 rfl hl.1 rfl (Nat.le_of_ble_eq_true rfl) ⟨by decide, by decide, by decide, by decide⟩ dX9_init_218 (fun H locs wz => ?_)
  have wz : Wz G B 168 s M130 H _ := wz
  have f132 : M130.2.2 1 0 = 2 := by rw [e131, zX4_init_row (b := 1) (by decide)]; exact f128
  have f133 : M130.2.2 1 7 = 103 := by rw [e131, zX4_init_row (b := 1) (by decide)]; exact f129
  obtain ⟨M134, e135, hf⟩ := lt_elim hf
  refine z_aast cx wz ad_103.1 (by decide) ad_103.2.2 (by rw [ln_103]; decide) ad_164.1 (by decide) ad_164.2.2 dX9_init_221 (fun H locs wz => ?_)
  rw [← e135] at wz
  have f136 : M134.2.2 1 0 = 2 := by rw [e135, sR_nb (by decide)]; exact f132
  have f137 : M134.2.2 1 7 = 103 := by rw [e135, sR_nb (by decide)]; exact f133
  refine lv_iinc (v := 3) (lv' := [(1, .int 3), (0, .ref (B + 1))]) cx.1 cx.2.1 dX9_init_222 hl (k := 0) rfl (by decide) (by decide) rfl (fun ls hl => ?_)
  refine lv_goto (tgt := 204) cx.1 cx.2.1 dX9_init_225 (by decide) ?_
  refine lv_iload_n cx.1 cx.2.1 dX9_init_204 rfl (lv_at hl 0 rfl) ?_
  refine lv_iconst (v := 3) cx.1 cx.2.1 dX9_init_205 (by decide) ?_
  refine lv_icmp_ge (tgt := 228) cx.1 cx.2.1 dX9_init_206 (by decide) (fun c0 => ?_) (fun c0 => absurd (by decide) c0)
  subst hf
  exact z_vret cx wz hr hlk dX9_init_228
def zX10_init (M : Mem) : Mem := lt (sR M 169 2 170) fun M1 => lt (sR M1 169 5 171) fun M3 => lt (sR M3 169 6 172) fun M6 => lt (sR M6 169 7 173) fun M9 => lt (sR M9 169 12 174) fun M12 => lt (sR M12 169 14 175) fun M15 => lt (sR M15 169 15 176) fun M18 => lt (sR M18 169 18 177) fun M21 => lt (sR M21 169 19 178) fun M24 => lt (sR M24 169 20 179) fun M27 => lt (sR M27 169 21 180) fun M30 => lt (sR M30 169 22 181) fun M33 => lt (sR M33 169 24 182) fun M36 => lt (sR M36 169 25 183) fun M39 => lt (sR M39 169 26 184) fun M42 => lt (sR M42 169 29 185) fun M45 => lt (sR M45 169 31 186) fun M48 => lt (sR M48 169 32 187) fun M51 => lt (sR M51 169 33 188) fun M54 => lt (sR M54 169 35 189) fun M57 => lt (sR M57 169 36 190) fun M60 => lt (sR M60 169 37 191) fun M63 => lt (sR M63 169 38 192) fun M66 => lt (sR M66 169 39 193) fun M69 => lt (sR M69 169 41 194) fun M72 => lt (sR M72 169 42 195) fun M75 => lt (sR M75 169 43 196) fun M78 => lt (sR M78 169 44 197) fun M81 => lt (sR M81 169 46 198) fun M84 => lt (sR M84 169 47 199) fun M87 => lt (sR M87 169 48 200) fun M90 => lt (sR M90 169 49 201) fun M93 => lt (sR M93 169 51 202) fun M96 => lt (sR M96 169 52 203) fun M99 => lt (sR M99 169 53 204) fun M102 => lt (sI M102 171 (ix 18) 9) fun M105 => lt (sI M105 171 (ix 19) 20) fun M108 => M108

set_option maxHeartbeats 4000000 in
set_option maxRecDepth 20000 in
theorem zmX10_init (l : Launch) {G : GG} {B : Nat} {M q : Mem} (hf : zX10_init M = q) : Met l yX10_init (wsG yX10_init cX10_init 1 none) (rmZ 2 35 4012) (PcZ G B 169 M [.ref (B + 169)]) (QcZ G B 204 q) 35 4012 (fr B) := by
  refine mk_MetZ (own := RX10) rfl rfl (Nat.le_of_ble_eq_true rfl) ?_
  intro p e s m below meth c ls cx hr hlk hnm wz hl
  have hl : lv_has ls 1 [(0, .ref (B + 169))] := hl
  unfold zX10_init at hf
  refine lv_aload_n cx.1 cx.2.1 dX10_init_0 rfl (lv_at hl 0 rfl) ?_
  refine z_objInit cx hl.1 olX10_18 oi_obj oc_obj (Nat.le_of_ble_eq_true rfl) (by decide) dX10_init_1 ?_
  refine lv_aload_n cx.1 cx.2.1 dX10_init_4 rfl (lv_at hl 0 rfl) ?_
  refine lv_bipush (v := 24) cx.1 cx.2.1 dX10_init_5 (by decide) ?_
  refine z_newJ cx wz ac_J (len := 24) (by decide) (by decide) (by decide +kernel) (by decide) (by decide) (by decide) dX10_init_7 (fun H wz => ?_)
  have wz : Wz G B 170 s M H _ := wz
  obtain ⟨M1, e2, hf⟩ := lt_elim hf
  refine z_putF (v := 170) cx wz ad_169.1 (by decide) ad_169.2.2 fpX10_11 hnm (fun _ _ _ h => by cases h; rfl) (by omega) (fun _ => rfl) (fun _ => rfl) dX10_init_9 (fun H locs wz => ?_)
  rw [← e2] at wz
  refine lv_aload_n cx.1 cx.2.1 dX10_init_12 rfl (lv_at hl 0 rfl) ?_
  refine lv_bipush (v := 22) cx.1 cx.2.1 dX10_init_13 (by decide) ?_
  refine z_newI cx wz ac_I (len := 22) (by decide) (by decide) (by decide +kernel) (by decide) (by decide) (by decide) dX10_init_15 (fun H wz => ?_)
  have wz : Wz G B 171 s M1 H _ := wz
  obtain ⟨M3, e4, hf⟩ := lt_elim hf
  refine z_putF (v := 171) cx wz ad_169.1 (by decide) ad_169.2.2 fpX10_24 hnm (fun _ _ _ h => by cases h; rfl) (by omega) (fun _ => rfl) (fun _ => rfl) dX10_init_17 (fun H locs wz => ?_)
  rw [← e4] at wz
  have f5 : M3.2.2 169 5 = 171 := by rw [e4]; exact sR_at
  refine lv_aload_n cx.1 cx.2.1 dX10_init_20 rfl (lv_at hl 0 rfl) ?_
  refine lv_bipush (v := 22) cx.1 cx.2.1 dX10_init_21 (by decide) ?_
  refine z_newI cx wz ac_I (len := 22) (by decide) (by decide) (by decide +kernel) (by decide) (by decide) (by decide) dX10_init_23 (fun H wz => ?_)
  have wz : Wz G B 172 s M3 H _ := wz
  obtain ⟨M6, e7, hf⟩ := lt_elim hf
  refine z_putF (v := 172) cx wz ad_169.1 (by decide) ad_169.2.2 fpX10_28 hnm (fun _ _ _ h => by cases h; rfl) (by omega) (fun _ => rfl) (fun _ => rfl) dX10_init_25 (fun H locs wz => ?_)
  rw [← e7] at wz
  have f8 : M6.2.2 169 5 = 171 := by rw [e7, sR_nb (by decide)]; exact f5
  refine lv_aload_n cx.1 cx.2.1 dX10_init_28 rfl (lv_at hl 0 rfl) ?_
  refine lv_bipush (v := 80) cx.1 cx.2.1 dX10_init_29 (by decide) ?_
  refine z_newI cx wz ac_I (len := 80) (by decide) (by decide) (by decide +kernel) (by decide) (by decide) (by decide) dX10_init_31 (fun H wz => ?_)
  have wz : Wz G B 173 s M6 H _ := wz
  obtain ⟨M9, e10, hf⟩ := lt_elim hf
  refine z_putF (v := 173) cx wz ad_169.1 (by decide) ad_169.2.2 fpX10_31 hnm (fun _ _ _ h => by cases h; rfl) (by omega) (fun _ => rfl) (fun _ => rfl) dX10_init_33 (fun H locs wz => ?_)
  rw [← e10] at wz
  have f11 : M9.2.2 169 5 = 171 := by rw [e10, sR_nb (by decide)]; exact f8
  refine lv_aload_n cx.1 cx.2.1 dX10_init_36 rfl (lv_at hl 0 rfl) ?_
  refine lv_bipush (v := 12) cx.1 cx.2.1 dX10_init_37 (by decide) ?_
  refine z_newI cx wz ac_I (len := 12) (by decide) (by decide) (by decide +kernel) (by decide) (by decide) (by decide) dX10_init_39 (fun H wz => ?_)
  have wz : Wz G B 174 s M9 H _ := wz
  obtain ⟨M12, e13, hf⟩ := lt_elim hf
  refine z_putF (v := 174) cx wz ad_169.1 (by decide) ad_169.2.2 fpX10_34 hnm (fun _ _ _ h => by cases h; rfl) (by omega) (fun _ => rfl) (fun _ => rfl) dX10_init_41 (fun H locs wz => ?_)
  rw [← e13] at wz
  have f14 : M12.2.2 169 5 = 171 := by rw [e13, sR_nb (by decide)]; exact f11
  refine lv_aload_n cx.1 cx.2.1 dX10_init_44 rfl (lv_at hl 0 rfl) ?_
  refine lv_bipush (v := 80) cx.1 cx.2.1 dX10_init_45 (by decide) ?_
  refine z_newI cx wz ac_I (len := 80) (by decide) (by decide) (by decide +kernel) (by decide) (by decide) (by decide) dX10_init_47 (fun H wz => ?_)
  have wz : Wz G B 175 s M12 H _ := wz
  obtain ⟨M15, e16, hf⟩ := lt_elim hf
  refine z_putF (v := 175) cx wz ad_169.1 (by decide) ad_169.2.2 fpX10_37 hnm (fun _ _ _ h => by cases h; rfl) (by omega) (fun _ => rfl) (fun _ => rfl) dX10_init_49 (fun H locs wz => ?_)
  rw [← e16] at wz
  have f17 : M15.2.2 169 5 = 171 := by rw [e16, sR_nb (by decide)]; exact f14
  refine lv_aload_n cx.1 cx.2.1 dX10_init_52 rfl (lv_at hl 0 rfl) ?_
  refine lv_bipush (v := 80) cx.1 cx.2.1 dX10_init_53 (by decide) ?_
  refine z_newI cx wz ac_I (len := 80) (by decide) (by decide) (by decide +kernel) (by decide) (by decide) (by decide) dX10_init_55 (fun H wz => ?_)
  have wz : Wz G B 176 s M15 H _ := wz
  obtain ⟨M18, e19, hf⟩ := lt_elim hf
  refine z_putF (v := 176) cx wz ad_169.1 (by decide) ad_169.2.2 fpX10_40 hnm (fun _ _ _ h => by cases h; rfl) (by omega) (fun _ => rfl) (fun _ => rfl) dX10_init_57 (fun H locs wz => ?_)
  rw [← e19] at wz
  have f20 : M18.2.2 169 5 = 171 := by rw [e19, sR_nb (by decide)]; exact f17
  refine lv_aload_n cx.1 cx.2.1 dX10_init_60 rfl (lv_at hl 0 rfl) ?_
  refine lv_bipush (v := 80) cx.1 cx.2.1 dX10_init_61 (by decide) ?_
  refine z_newI cx wz ac_I (len := 80) (by decide) (by decide) (by decide +kernel) (by decide) (by decide) (by decide) dX10_init_63 (fun H wz => ?_)
  have wz : Wz G B 177 s M18 H _ := wz
  obtain ⟨M21, e22, hf⟩ := lt_elim hf
  refine z_putF (v := 177) cx wz ad_169.1 (by decide) ad_169.2.2 fpX10_43 hnm (fun _ _ _ h => by cases h; rfl) (by omega) (fun _ => rfl) (fun _ => rfl) dX10_init_65 (fun H locs wz => ?_)
  rw [← e22] at wz
  have f23 : M21.2.2 169 5 = 171 := by rw [e22, sR_nb (by decide)]; exact f20
  refine lv_aload_n cx.1 cx.2.1 dX10_init_68 rfl (lv_at hl 0 rfl) ?_
  refine lv_bipush (v := 7) cx.1 cx.2.1 dX10_init_69 (by decide) ?_
  refine z_newI cx wz ac_I (len := 7) (by decide) (by decide) (by decide +kernel) (by decide) (by decide) (by decide) dX10_init_71 (fun H wz => ?_)
  have wz : Wz G B 178 s M21 H _ := wz
  obtain ⟨M24, e25, hf⟩ := lt_elim hf
  refine z_putF (v := 178) cx wz ad_169.1 (by decide) ad_169.2.2 fpX10_46 hnm (fun _ _ _ h => by cases h; rfl) (by omega) (fun _ => rfl) (fun _ => rfl) dX10_init_73 (fun H locs wz => ?_)
  rw [← e25] at wz
  have f26 : M24.2.2 169 5 = 171 := by rw [e25, sR_nb (by decide)]; exact f23
  refine lv_aload_n cx.1 cx.2.1 dX10_init_76 rfl (lv_at hl 0 rfl) ?_
  refine lv_bipush (v := 6) cx.1 cx.2.1 dX10_init_77 (by decide) ?_
  refine z_newI cx wz ac_I (len := 6) (by decide) (by decide) (by decide +kernel) (by decide) (by decide) (by decide) dX10_init_79 (fun H wz => ?_)
  have wz : Wz G B 179 s M24 H _ := wz
  obtain ⟨M27, e28, hf⟩ := lt_elim hf
  refine z_putF (v := 179) cx wz ad_169.1 (by decide) ad_169.2.2 fpX10_49 hnm (fun _ _ _ h => by cases h; rfl) (by omega) (fun _ => rfl) (fun _ => rfl) dX10_init_81 (fun H locs wz => ?_)
  rw [← e28] at wz
  have f29 : M27.2.2 169 5 = 171 := by rw [e28, sR_nb (by decide)]; exact f26
  refine lv_aload_n cx.1 cx.2.1 dX10_init_84 rfl (lv_at hl 0 rfl) ?_
  refine lv_bipush (v := 6) cx.1 cx.2.1 dX10_init_85 (by decide) ?_
  refine z_newI cx wz ac_I (len := 6) (by decide) (by decide) (by decide +kernel) (by decide) (by decide) (by decide) dX10_init_87 (fun H wz => ?_)
  have wz : Wz G B 180 s M27 H _ := wz
  obtain ⟨M30, e31, hf⟩ := lt_elim hf
  refine z_putF (v := 180) cx wz ad_169.1 (by decide) ad_169.2.2 fpX10_52 hnm (fun _ _ _ h => by cases h; rfl) (by omega) (fun _ => rfl) (fun _ => rfl) dX10_init_89 (fun H locs wz => ?_)
  rw [← e31] at wz
  have f32 : M30.2.2 169 5 = 171 := by rw [e31, sR_nb (by decide)]; exact f29
  refine lv_aload_n cx.1 cx.2.1 dX10_init_92 rfl (lv_at hl 0 rfl) ?_
  refine lv_bipush (v := 6) cx.1 cx.2.1 dX10_init_93 (by decide) ?_
  refine z_newI cx wz ac_I (len := 6) (by decide) (by decide) (by decide +kernel) (by decide) (by decide) (by decide) dX10_init_95 (fun H wz => ?_)
  have wz : Wz G B 181 s M30 H _ := wz
  obtain ⟨M33, e34, hf⟩ := lt_elim hf
  refine z_putF (v := 181) cx wz ad_169.1 (by decide) ad_169.2.2 fpX10_55 hnm (fun _ _ _ h => by cases h; rfl) (by omega) (fun _ => rfl) (fun _ => rfl) dX10_init_97 (fun H locs wz => ?_)
  rw [← e34] at wz
  have f35 : M33.2.2 169 5 = 171 := by rw [e34, sR_nb (by decide)]; exact f32
  refine lv_aload_n cx.1 cx.2.1 dX10_init_100 rfl (lv_at hl 0 rfl) ?_
  refine lv_bipush (v := 6) cx.1 cx.2.1 dX10_init_101 (by decide) ?_
  refine z_newI cx wz ac_I (len := 6) (by decide) (by decide) (by decide +kernel) (by decide) (by decide) (by decide) dX10_init_103 (fun H wz => ?_)
  have wz : Wz G B 182 s M33 H _ := wz
  obtain ⟨M36, e37, hf⟩ := lt_elim hf
  refine z_putF (v := 182) cx wz ad_169.1 (by decide) ad_169.2.2 fpX10_58 hnm (fun _ _ _ h => by cases h; rfl) (by omega) (fun _ => rfl) (fun _ => rfl) dX10_init_105 (fun H locs wz => ?_)
  rw [← e37] at wz
  have f38 : M36.2.2 169 5 = 171 := by rw [e37, sR_nb (by decide)]; exact f35
  refine lv_aload_n cx.1 cx.2.1 dX10_init_108 rfl (lv_at hl 0 rfl) ?_
  refine lv_bipush (v := 6) cx.1 cx.2.1 dX10_init_109 (by decide) ?_
  refine z_newI cx wz ac_I (len := 6) (by decide) (by decide) (by decide +kernel) (by decide) (by decide) (by decide) dX10_init_111 (fun H wz => ?_)
  have wz : Wz G B 183 s M36 H _ := wz
  obtain ⟨M39, e40, hf⟩ := lt_elim hf
  refine z_putF (v := 183) cx wz ad_169.1 (by decide) ad_169.2.2 fpX10_61 hnm (fun _ _ _ h => by cases h; rfl) (by omega) (fun _ => rfl) (fun _ => rfl) dX10_init_113 (fun H locs wz => ?_)
  rw [← e40] at wz
  have f41 : M39.2.2 169 5 = 171 := by rw [e40, sR_nb (by decide)]; exact f38
  refine lv_aload_n cx.1 cx.2.1 dX10_init_116 rfl (lv_at hl 0 rfl) ?_
  refine lv_bipush (v := 6) cx.1 cx.2.1 dX10_init_117 (by decide) ?_
  refine z_newI cx wz ac_I (len := 6) (by decide) (by decide) (by decide +kernel) (by decide) (by decide) (by decide) dX10_init_119 (fun H wz => ?_)
  have wz : Wz G B 184 s M39 H _ := wz
  obtain ⟨M42, e43, hf⟩ := lt_elim hf
  refine z_putF (v := 184) cx wz ad_169.1 (by decide) ad_169.2.2 fpX10_64 hnm (fun _ _ _ h => by cases h; rfl) (by omega) (fun _ => rfl) (fun _ => rfl) dX10_init_121 (fun H locs wz => ?_)
  rw [← e43] at wz
  have f44 : M42.2.2 169 5 = 171 := by rw [e43, sR_nb (by decide)]; exact f41
  refine lv_aload_n cx.1 cx.2.1 dX10_init_124 rfl (lv_at hl 0 rfl) ?_
  refine lv_sipush (v := 352) cx.1 cx.2.1 dX10_init_125 (by decide) ?_
  refine z_newI cx wz ac_I (len := 352) (by decide) (by decide) (by decide +kernel) (by decide) (by decide) (by decide) dX10_init_128 (fun H wz => ?_)
  have wz : Wz G B 185 s M42 H _ := wz
  obtain ⟨M45, e46, hf⟩ := lt_elim hf
  refine z_putF (v := 185) cx wz ad_169.1 (by decide) ad_169.2.2 fpX10_67 hnm (fun _ _ _ h => by cases h; rfl) (by omega) (fun _ => rfl) (fun _ => rfl) dX10_init_130 (fun H locs wz => ?_)
  rw [← e46] at wz
  have f47 : M45.2.2 169 5 = 171 := by rw [e46, sR_nb (by decide)]; exact f44
  refine lv_aload_n cx.1 cx.2.1 dX10_init_133 rfl (lv_at hl 0 rfl) ?_
  refine lv_bipush (v := 60) cx.1 cx.2.1 dX10_init_134 (by decide) ?_
  refine z_newI cx wz ac_I (len := 60) (by decide) (by decide) (by decide +kernel) (by decide) (by decide) (by decide) dX10_init_136 (fun H wz => ?_)
  have wz : Wz G B 186 s M45 H _ := wz
  obtain ⟨M48, e49, hf⟩ := lt_elim hf
  refine z_putF (v := 186) cx wz ad_169.1 (by decide) ad_169.2.2 fpX10_70 hnm (fun _ _ _ h => by cases h; rfl) (by omega) (fun _ => rfl) (fun _ => rfl) dX10_init_138 (fun H locs wz => ?_)
  rw [← e49] at wz
  have f50 : M48.2.2 169 5 = 171 := by rw [e49, sR_nb (by decide)]; exact f47
  refine lv_aload_n cx.1 cx.2.1 dX10_init_141 rfl (lv_at hl 0 rfl) ?_
  refine lv_bipush (v := 60) cx.1 cx.2.1 dX10_init_142 (by decide) ?_
  refine z_newI cx wz ac_I (len := 60) (by decide) (by decide) (by decide +kernel) (by decide) (by decide) (by decide) dX10_init_144 (fun H wz => ?_)
  have wz : Wz G B 187 s M48 H _ := wz
  obtain ⟨M51, e52, hf⟩ := lt_elim hf
  refine z_putF (v := 187) cx wz ad_169.1 (by decide) ad_169.2.2 fpX10_73 hnm (fun _ _ _ h => by cases h; rfl) (by omega) (fun _ => rfl) (fun _ => rfl) dX10_init_146 (fun H locs wz => ?_)
  rw [← e52] at wz
  have f53 : M51.2.2 169 5 = 171 := by rw [e52, sR_nb (by decide)]; exact f50
  refine lv_aload_n cx.1 cx.2.1 dX10_init_149 rfl (lv_at hl 0 rfl) ?_
  refine lv_bipush (v := 60) cx.1 cx.2.1 dX10_init_150 (by decide) ?_
  refine z_newI cx wz ac_I (len := 60) (by decide) (by decide) (by decide +kernel) (by decide) (by decide) (by decide) dX10_init_152 (fun H wz => ?_)
  have wz : Wz G B 188 s M51 H _ := wz
  obtain ⟨M54, e55, hf⟩ := lt_elim hf
  refine z_putF (v := 188) cx wz ad_169.1 (by decide) ad_169.2.2 fpX10_76 hnm (fun _ _ _ h => by cases h; rfl) (by omega) (fun _ => rfl) (fun _ => rfl) dX10_init_154 (fun H locs wz => ?_)
  rw [← e55] at wz
  have f56 : M54.2.2 169 5 = 171 := by rw [e55, sR_nb (by decide)]; exact f53
  refine lv_aload_n cx.1 cx.2.1 dX10_init_157 rfl (lv_at hl 0 rfl) ?_
  refine lv_bipush (v := 6) cx.1 cx.2.1 dX10_init_158 (by decide) ?_
  refine z_newI cx wz ac_I (len := 6) (by decide) (by decide) (by decide +kernel) (by decide) (by decide) (by decide) dX10_init_160 (fun H wz => ?_)
  have wz : Wz G B 189 s M54 H _ := wz
  obtain ⟨M57, e58, hf⟩ := lt_elim hf
  refine z_putF (v := 189) cx wz ad_169.1 (by decide) ad_169.2.2 fpX10_79 hnm (fun _ _ _ h => by cases h; rfl) (by omega) (fun _ => rfl) (fun _ => rfl) dX10_init_162 (fun H locs wz => ?_)
  rw [← e58] at wz
  have f59 : M57.2.2 169 5 = 171 := by rw [e58, sR_nb (by decide)]; exact f56
  refine lv_aload_n cx.1 cx.2.1 dX10_init_165 rfl (lv_at hl 0 rfl) ?_
  refine lv_bipush (v := 6) cx.1 cx.2.1 dX10_init_166 (by decide) ?_
  refine z_newI cx wz ac_I (len := 6) (by decide) (by decide) (by decide +kernel) (by decide) (by decide) (by decide) dX10_init_168 (fun H wz => ?_)
  have wz : Wz G B 190 s M57 H _ := wz
  obtain ⟨M60, e61, hf⟩ := lt_elim hf
  refine z_putF (v := 190) cx wz ad_169.1 (by decide) ad_169.2.2 fpX10_82 hnm (fun _ _ _ h => by cases h; rfl) (by omega) (fun _ => rfl) (fun _ => rfl) dX10_init_170 (fun H locs wz => ?_)
  rw [← e61] at wz
  have f62 : M60.2.2 169 5 = 171 := by rw [e61, sR_nb (by decide)]; exact f59
  refine lv_aload_n cx.1 cx.2.1 dX10_init_173 rfl (lv_at hl 0 rfl) ?_
  refine lv_sipush (v := 720) cx.1 cx.2.1 dX10_init_174 (by decide) ?_
  refine z_newZ cx wz ac_Z (len := 720) (by decide) (by decide) (by decide +kernel) (by decide) (by decide) (by decide) dX10_init_177 (fun H wz => ?_)
  have wz : Wz G B 191 s M60 H _ := wz
  obtain ⟨M63, e64, hf⟩ := lt_elim hf
  refine z_putF (v := 191) cx wz ad_169.1 (by decide) ad_169.2.2 fpX10_85 hnm (fun _ _ _ h => by cases h; rfl) (by omega) (fun _ => rfl) (fun _ => rfl) dX10_init_179 (fun H locs wz => ?_)
  rw [← e64] at wz
  have f65 : M63.2.2 169 5 = 171 := by rw [e64, sR_nb (by decide)]; exact f62
  refine lv_aload_n cx.1 cx.2.1 dX10_init_182 rfl (lv_at hl 0 rfl) ?_
  refine lv_bipush (v := 120) cx.1 cx.2.1 dX10_init_183 (by decide) ?_
  refine z_newI cx wz ac_I (len := 120) (by decide) (by decide) (by decide +kernel) (by decide) (by decide) (by decide) dX10_init_185 (fun H wz => ?_)
  have wz : Wz G B 192 s M63 H _ := wz
  obtain ⟨M66, e67, hf⟩ := lt_elim hf
  refine z_putF (v := 192) cx wz ad_169.1 (by decide) ad_169.2.2 fpX10_89 hnm (fun _ _ _ h => by cases h; rfl) (by omega) (fun _ => rfl) (fun _ => rfl) dX10_init_187 (fun H locs wz => ?_)
  rw [← e67] at wz
  have f68 : M66.2.2 169 5 = 171 := by rw [e67, sR_nb (by decide)]; exact f65
  refine lv_aload_n cx.1 cx.2.1 dX10_init_190 rfl (lv_at hl 0 rfl) ?_
  refine lv_bipush (v := 6) cx.1 cx.2.1 dX10_init_191 (by decide) ?_
  refine z_newI cx wz ac_I (len := 6) (by decide) (by decide) (by decide +kernel) (by decide) (by decide) (by decide) dX10_init_193 (fun H wz => ?_)
  have wz : Wz G B 193 s M66 H _ := wz
  obtain ⟨M69, e70, hf⟩ := lt_elim hf
  refine z_putF (v := 193) cx wz ad_169.1 (by decide) ad_169.2.2 fpX10_92 hnm (fun _ _ _ h => by cases h; rfl) (by omega) (fun _ => rfl) (fun _ => rfl) dX10_init_195 (fun H locs wz => ?_)
  rw [← e70] at wz
  have f71 : M69.2.2 169 5 = 171 := by rw [e70, sR_nb (by decide)]; exact f68
  refine lv_aload_n cx.1 cx.2.1 dX10_init_198 rfl (lv_at hl 0 rfl) ?_
  refine lv_sipush (v := 720) cx.1 cx.2.1 dX10_init_199 (by decide) ?_
  refine z_newI cx wz ac_I (len := 720) (by decide) (by decide) (by decide +kernel) (by decide) (by decide) (by decide) dX10_init_202 (fun H wz => ?_)
  have wz : Wz G B 194 s M69 H _ := wz
  obtain ⟨M72, e73, hf⟩ := lt_elim hf
  refine z_putF (v := 194) cx wz ad_169.1 (by decide) ad_169.2.2 fpX10_95 hnm (fun _ _ _ h => by cases h; rfl) (by omega) (fun _ => rfl) (fun _ => rfl) dX10_init_204 (fun H locs wz => ?_)
  rw [← e73] at wz
  have f74 : M72.2.2 169 5 = 171 := by rw [e73, sR_nb (by decide)]; exact f71
  refine lv_aload_n cx.1 cx.2.1 dX10_init_207 rfl (lv_at hl 0 rfl) ?_
  refine lv_sipush (v := 720) cx.1 cx.2.1 dX10_init_208 (by decide) ?_
  refine z_newI cx wz ac_I (len := 720) (by decide) (by decide) (by decide +kernel) (by decide) (by decide) (by decide) dX10_init_211 (fun H wz => ?_)
  have wz : Wz G B 195 s M72 H _ := wz
  obtain ⟨M75, e76, hf⟩ := lt_elim hf
  refine z_putF (v := 195) cx wz ad_169.1 (by decide) ad_169.2.2 fpX10_98 hnm (fun _ _ _ h => by cases h; rfl) (by omega) (fun _ => rfl) (fun _ => rfl) dX10_init_213 (fun H locs wz => ?_)
  rw [← e76] at wz
  have f77 : M75.2.2 169 5 = 171 := by rw [e76, sR_nb (by decide)]; exact f74
  refine lv_aload_n cx.1 cx.2.1 dX10_init_216 rfl (lv_at hl 0 rfl) ?_
  refine lv_sipush (v := 480) cx.1 cx.2.1 dX10_init_217 (by decide) ?_
  refine z_newI cx wz ac_I (len := 480) (by decide) (by decide) (by decide +kernel) (by decide) (by decide) (by decide) dX10_init_220 (fun H wz => ?_)
  have wz : Wz G B 196 s M75 H _ := wz
  obtain ⟨M78, e79, hf⟩ := lt_elim hf
  refine z_putF (v := 196) cx wz ad_169.1 (by decide) ad_169.2.2 fpX10_101 hnm (fun _ _ _ h => by cases h; rfl) (by omega) (fun _ => rfl) (fun _ => rfl) dX10_init_222 (fun H locs wz => ?_)
  rw [← e79] at wz
  have f80 : M78.2.2 169 5 = 171 := by rw [e79, sR_nb (by decide)]; exact f77
  refine lv_aload_n cx.1 cx.2.1 dX10_init_225 rfl (lv_at hl 0 rfl) ?_
  refine lv_bipush (v := 22) cx.1 cx.2.1 dX10_init_226 (by decide) ?_
  refine z_newI cx wz ac_I (len := 22) (by decide) (by decide) (by decide +kernel) (by decide) (by decide) (by decide) dX10_init_228 (fun H wz => ?_)
  have wz : Wz G B 197 s M78 H _ := wz
  obtain ⟨M81, e82, hf⟩ := lt_elim hf
  refine z_putF (v := 197) cx wz ad_169.1 (by decide) ad_169.2.2 fpX10_104 hnm (fun _ _ _ h => by cases h; rfl) (by omega) (fun _ => rfl) (fun _ => rfl) dX10_init_230 (fun H locs wz => ?_)
  rw [← e82] at wz
  have f83 : M81.2.2 169 5 = 171 := by rw [e82, sR_nb (by decide)]; exact f80
  refine lv_aload_n cx.1 cx.2.1 dX10_init_233 rfl (lv_at hl 0 rfl) ?_
  refine lv_bipush (v := 12) cx.1 cx.2.1 dX10_init_234 (by decide) ?_
  refine z_newI cx wz ac_I (len := 12) (by decide) (by decide) (by decide +kernel) (by decide) (by decide) (by decide) dX10_init_236 (fun H wz => ?_)
  have wz : Wz G B 198 s M81 H _ := wz
  obtain ⟨M84, e85, hf⟩ := lt_elim hf
  refine z_putF (v := 198) cx wz ad_169.1 (by decide) ad_169.2.2 fpX10_107 hnm (fun _ _ _ h => by cases h; rfl) (by omega) (fun _ => rfl) (fun _ => rfl) dX10_init_238 (fun H locs wz => ?_)
  rw [← e85] at wz
  have f86 : M84.2.2 169 5 = 171 := by rw [e85, sR_nb (by decide)]; exact f83
  refine lv_aload_n cx.1 cx.2.1 dX10_init_241 rfl (lv_at hl 0 rfl) ?_
  refine lv_bipush (v := 12) cx.1 cx.2.1 dX10_init_242 (by decide) ?_
  refine z_newI cx wz ac_I (len := 12) (by decide) (by decide) (by decide +kernel) (by decide) (by decide) (by decide) dX10_init_244 (fun H wz => ?_)
  have wz : Wz G B 199 s M84 H _ := wz
  obtain ⟨M87, e88, hf⟩ := lt_elim hf
  refine z_putF (v := 199) cx wz ad_169.1 (by decide) ad_169.2.2 fpX10_110 hnm (fun _ _ _ h => by cases h; rfl) (by omega) (fun _ => rfl) (fun _ => rfl) dX10_init_246 (fun H locs wz => ?_)
  rw [← e88] at wz
  have f89 : M87.2.2 169 5 = 171 := by rw [e88, sR_nb (by decide)]; exact f86
  refine lv_aload_n cx.1 cx.2.1 dX10_init_249 rfl (lv_at hl 0 rfl) ?_
  refine lv_bipush (v := 61) cx.1 cx.2.1 dX10_init_250 (by decide) ?_
  refine z_newI cx wz ac_I (len := 61) (by decide) (by decide) (by decide +kernel) (by decide) (by decide) (by decide) dX10_init_252 (fun H wz => ?_)
  have wz : Wz G B 200 s M87 H _ := wz
  obtain ⟨M90, e91, hf⟩ := lt_elim hf
  refine z_putF (v := 200) cx wz ad_169.1 (by decide) ad_169.2.2 fpX10_113 hnm (fun _ _ _ h => by cases h; rfl) (by omega) (fun _ => rfl) (fun _ => rfl) dX10_init_254 (fun H locs wz => ?_)
  rw [← e91] at wz
  have f92 : M90.2.2 169 5 = 171 := by rw [e91, sR_nb (by decide)]; exact f89
  refine lv_aload_n cx.1 cx.2.1 dX10_init_257 rfl (lv_at hl 0 rfl) ?_
  refine lv_bipush (v := 80) cx.1 cx.2.1 dX10_init_258 (by decide) ?_
  refine z_newI cx wz ac_I (len := 80) (by decide) (by decide) (by decide +kernel) (by decide) (by decide) (by decide) dX10_init_260 (fun H wz => ?_)
  have wz : Wz G B 201 s M90 H _ := wz
  obtain ⟨M93, e94, hf⟩ := lt_elim hf
  refine z_putF (v := 201) cx wz ad_169.1 (by decide) ad_169.2.2 fpX10_116 hnm (fun _ _ _ h => by cases h; rfl) (by omega) (fun _ => rfl) (fun _ => rfl) dX10_init_262 (fun H locs wz => ?_)
  rw [← e94] at wz
  have f95 : M93.2.2 169 5 = 171 := by rw [e94, sR_nb (by decide)]; exact f92
  refine lv_aload_n cx.1 cx.2.1 dX10_init_265 rfl (lv_at hl 0 rfl) ?_
  refine lv_iconst (v := 3) cx.1 cx.2.1 dX10_init_266 (by decide) ?_
  refine z_newZ cx wz ac_Z (len := 3) (by decide) (by decide) (by decide +kernel) (by decide) (by decide) (by decide) dX10_init_267 (fun H wz => ?_)
  have wz : Wz G B 202 s M93 H _ := wz
  obtain ⟨M96, e97, hf⟩ := lt_elim hf
  refine z_putF (v := 202) cx wz ad_169.1 (by decide) ad_169.2.2 fpX10_119 hnm (fun _ _ _ h => by cases h; rfl) (by omega) (fun _ => rfl) (fun _ => rfl) dX10_init_269 (fun H locs wz => ?_)
  rw [← e97] at wz
  have f98 : M96.2.2 169 5 = 171 := by rw [e97, sR_nb (by decide)]; exact f95
  refine lv_aload_n cx.1 cx.2.1 dX10_init_272 rfl (lv_at hl 0 rfl) ?_
  refine lv_iconst (v := 3) cx.1 cx.2.1 dX10_init_273 (by decide) ?_
  refine z_newI cx wz ac_I (len := 3) (by decide) (by decide) (by decide +kernel) (by decide) (by decide) (by decide) dX10_init_274 (fun H wz => ?_)
  have wz : Wz G B 203 s M96 H _ := wz
  obtain ⟨M99, e100, hf⟩ := lt_elim hf
  refine z_putF (v := 203) cx wz ad_169.1 (by decide) ad_169.2.2 fpX10_122 hnm (fun _ _ _ h => by cases h; rfl) (by omega) (fun _ => rfl) (fun _ => rfl) dX10_init_276 (fun H locs wz => ?_)
  rw [← e100] at wz
  have f101 : M99.2.2 169 5 = 171 := by rw [e100, sR_nb (by decide)]; exact f98
  refine lv_aload_n cx.1 cx.2.1 dX10_init_279 rfl (lv_at hl 0 rfl) ?_
  refine lv_bipush (v := 66) cx.1 cx.2.1 dX10_init_280 (by decide) ?_
  refine z_newI cx wz ac_I (len := 66) (by decide) (by decide) (by decide +kernel) (by decide) (by decide) (by decide) dX10_init_282 (fun H wz => ?_)
  have wz : Wz G B 204 s M99 H _ := wz
  obtain ⟨M102, e103, hf⟩ := lt_elim hf
  refine z_putF (v := 204) cx wz ad_169.1 (by decide) ad_169.2.2 fpX10_125 hnm (fun _ _ _ h => by cases h; rfl) (by omega) (fun _ => rfl) (fun _ => rfl) dX10_init_284 (fun H locs wz => ?_)
  rw [← e103] at wz
  have f104 : M102.2.2 169 5 = 171 := by rw [e103, sR_nb (by decide)]; exact f101
  refine lv_aload_n cx.1 cx.2.1 dX10_init_287 rfl (lv_at hl 0 rfl) ?_
  refine r_getR cx wz.1 ad_169.1 (by decide) ad_169.2.2 fiX10_24 f104 (by decide) dX10_init_288 ?_
  refine lv_bipush (v := 18) cx.1 cx.2.1 dX10_init_291 (by decide) ?_
  refine lv_bipush (v := 9) cx.1 cx.2.1 dX10_init_293 (by decide) ?_
  obtain ⟨M105, e106, hf⟩ := lt_elim hf
  refine z_iast cx wz ad_171.1 (by decide) ad_171.2.2 (by rw [ln_171]; decide) dX10_init_295 (fun H locs wz => ?_)
  rw [← e106] at wz
  have f107 : M105.2.2 169 5 = 171 := by rw [e106]; exact f104
  refine lv_aload_n cx.1 cx.2.1 dX10_init_296 rfl (lv_at hl 0 rfl) ?_
  refine r_getR cx wz.1 ad_169.1 (by decide) ad_169.2.2 fiX10_24 f107 (by decide) dX10_init_297 ?_
  refine lv_bipush (v := 19) cx.1 cx.2.1 dX10_init_300 (by decide) ?_
  refine lv_bipush (v := 20) cx.1 cx.2.1 dX10_init_302 (by decide) ?_
  obtain ⟨M108, e109, hf⟩ := lt_elim hf
  refine z_iast cx wz ad_171.1 (by decide) ad_171.2.2 (by rw [ln_171]; decide) dX10_init_304 (fun H locs wz => ?_)
  rw [← e109] at wz
  have f110 : M108.2.2 169 5 = 171 := by rw [e109]; exact f107
  subst hf
  exact z_vret cx wz hr hlk dX10_init_305
