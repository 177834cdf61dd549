def f_Jxf58ca_isNaN_12338 (x : UInt32) : Int32 :=
  if (Op.cmpValue (FP.fcmp x x) .l) = 0 then
    0
  else
    1
theorem fe_Jxf58ca_isNaN_12338 (x : UInt32) : f_Jxf58ca_isNaN_12338 x = (
    if (Op.cmpValue (FP.fcmp x x) .l) = 0 then
      0
    else
      1
    ) := rfl
abbrev rm_Jxf58ca_isNaN_12338 : Room := { frames := 0, cells := 0, slots := 0, locals := 0 }
set_option maxHeartbeats 1000000 in
set_option maxRecDepth 100000 in
theorem c_Jxf58ca_isNaN_12338 (l : Launch) (T : zT) (x : UInt32) : Ci l yJxf58ca_isNaN_12338 wsJxf58ca_isNaN_12338 rm_Jxf58ca_isNaN_12338 T .boolean [.float x] [] (S := Int32) (f_Jxf58ca_isNaN_12338 x) (fun u => u) (fun u => []) := by
  refine z_metI (own := RJxf58ca) (maxL := 1) rfl (by decide) rfl (Nat.le_of_ble_eq_true rfl) ?_
  intro P0 E0 S0 M0 G0 B0 T0 K0 A9 Q9 C E
  have hx := C.1.1
  have hb := C.1.2.1
  have hown := C.1.2.2.2.1
  have hts := C.1.2.2.2.2
  have hn := C.2.1.2
  change Z P0 l E0 rm_Jxf58ca_isNaN_12338 S0 M0 G0 B0 T0 K0 1 T A9 Q9 0 0 [] 0 [(0, .float x)] []
  have zh0 := fe_Jxf58ca_isNaN_12338 x
  refine Z.of (pc' := 1) (fun _ _ _ hl => lv_fload_n hx hb dJxf58ca_isNaN_12338_0 rfl (lv_at hl 0 rfl)) ?_
  refine Z.of (pc' := 2) (fun _ _ _ hl => lv_fload_n hx hb dJxf58ca_isNaN_12338_1 rfl (lv_at hl 0 rfl)) ?_
  refine Z.of (pc' := 3) (fun _ _ _ _ => lv_fcmp hx hb dJxf58ca_isNaN_12338_2) ?_
  refine Z.two (pt := 10) (pf := 6) (fun _ _ _ _ => lv_if_eq hx hb dJxf58ca_isNaN_12338_3 (by decide)) (fun c1 => ?_) (fun c1 => ?_)
  · have zh2 := zh0.trans (if_pos c1)
    refine Z.of (pc' := 11) (fun _ _ _ _ => lv_iconst (v := 0) hx hb dJxf58ca_isNaN_12338_10 (by decide)) ?_
    exact E 0 _ _ _ _ dJxf58ca_isNaN_12338_11 rfl rfl rfl zh2
  · have zh3 := zh0.trans (if_neg c1)
    refine Z.of (pc' := 7) (fun _ _ _ _ => lv_iconst (v := 1) hx hb dJxf58ca_isNaN_12338_6 (by decide)) ?_
    refine Z.of (pc' := 11) (fun _ _ _ _ => lv_goto hx hb dJxf58ca_isNaN_12338_7 (by decide)) ?_
    exact E 1 _ _ _ _ dJxf58ca_isNaN_12338_11 rfl rfl rfl zh3
def f_Jxf58ca_floatToIntBits_5c35a (x : UInt32) : Int32 :=
  zl (f_Jxf58ca_isNaN_12338 x) fun u1 =>
  if u1 = 0 then
    x.toInt32
  else
    2143289344
theorem fe_Jxf58ca_floatToIntBits_5c35a (x : UInt32) : f_Jxf58ca_floatToIntBits_5c35a x = (
    zl (f_Jxf58ca_isNaN_12338 x) fun u1 =>
    if u1 = 0 then
      x.toInt32
    else
      2143289344
    ) := rfl
abbrev rm_Jxf58ca_floatToIntBits_5c35a : Room := { frames := 1, cells := 0, slots := 0, locals := 24 }
set_option maxHeartbeats 1000000 in
set_option maxRecDepth 100000 in
theorem c_Jxf58ca_floatToIntBits_5c35a (l : Launch) (T : zT) (x : UInt32) : Ci l yJxf58ca_floatToIntBits_5c35a wsJxf58ca_floatToIntBits_5c35a rm_Jxf58ca_floatToIntBits_5c35a T .int [.float x] [] (S := Int32) (f_Jxf58ca_floatToIntBits_5c35a x) (fun u => u) (fun u => []) := by
  refine z_metI (own := RJxf58ca) (maxL := 1) rfl (by decide) rfl (Nat.le_of_ble_eq_true rfl) ?_
  intro P0 E0 S0 M0 G0 B0 T0 K0 A9 Q9 C E
  have hx := C.1.1
  have hb := C.1.2.1
  have hown := C.1.2.2.2.1
  have hts := C.1.2.2.2.2
  have hn := C.2.1.2
  change Z P0 l E0 rm_Jxf58ca_floatToIntBits_5c35a S0 M0 G0 B0 T0 K0 1 T A9 Q9 0 0 [] 0 [(0, .float x)] []
  have zh0 := fe_Jxf58ca_floatToIntBits_5c35a x
  refine Z.of (pc' := 1) (fun _ _ _ hl => lv_fload_n hx hb dJxf58ca_floatToIntBits_5c35a_0 rfl (lv_at hl 0 rfl)) ?_
  refine z_callSi C (c_Jxf58ca_isNaN_12338 l T x) ⟨callB_of 1 hts ggJxf58ca_floatToIntBits_5c35a_Jxf58ca_isNaN_12338 rfl rfl rfl (hts (.initialized RJxf58ca) (by decide +kernel)) (hts (.methodLink RJxf58ca 59 yJxf58ca_isNaN_12338) (by decide +kernel)) (by decide +kernel) ⟨Nat.le_of_ble_eq_true rfl, Nat.le_of_ble_eq_true rfl⟩, hts (.static yJxf58ca_isNaN_12338) (by decide +kernel)⟩ (As := [.float x]) (rest := []) rfl rfl (Nat.le_of_ble_eq_true rfl) dJxf58ca_floatToIntBits_5c35a_1 rfl ⟨Nat.zero_le _, Nat.zero_le _⟩ (fun u1 eu1 bu1 => ?_)
  have zh2 := zl_e zh0 eu1
  refine Z.two' (pt := 12) (pf := 7) (fun _ _ _ _ => lv_if_ne hx hb dJxf58ca_floatToIntBits_5c35a_4 (by decide)) (fun c3 => ?_) (fun c3 => ?_)
  · have zh4 := zh2.trans (if_neg c3)
    refine Z.of (pc' := 14) (fun _ _ _ _ => lv_ldc hx hb hown (hts (.constant RJxf58ca 77 (2143289344)) (by decide +kernel)) dJxf58ca_floatToIntBits_5c35a_12) ?_
    exact E 2143289344 _ _ _ _ dJxf58ca_floatToIntBits_5c35a_14 rfl rfl rfl zh4
  · have zh5 := zh2.trans (if_pos c3)
    refine Z.of (pc' := 8) (fun _ _ _ hl => lv_fload_n hx hb dJxf58ca_floatToIntBits_5c35a_7 rfl (lv_at hl 0 rfl)) ?_
    refine Z.of (pc' := 11) (fun _ _ _ hl => vn_f2i hx hb (C.1.2.2.1.trans hl.1.symm) hown (hts (.methodLink RJxf58ca 74 ⟨"java/lang/Float", "floatToRawIntBits", "(F)I"⟩) (by decide +kernel)) (hts (.native ⟨"java/lang/Float", "floatToRawIntBits", "(F)I"⟩) (by decide +kernel)) (hts (.static ⟨"java/lang/Float", "floatToRawIntBits", "(F)I"⟩) (by decide +kernel)) (hts (.initialized "java/lang/Float") (by decide +kernel)) (Nat.le_of_ble_eq_true rfl) (Nat.le_of_ble_eq_true rfl) dJxf58ca_floatToIntBits_5c35a_8) ?_
    exact E x.toInt32 _ _ _ _ dJxf58ca_floatToIntBits_5c35a_11 rfl rfl rfl zh5
def f_J13_bitCount_95d88 (i : Int64) : Int32 :=
  zl ((i.toUInt64 >>> ((1 : Int32).toInt64.toUInt64 &&& Int64.toUInt64 63)).toInt64 : Int64) fun y1 =>
  zl (((i - (y1 &&& 6148914691236517205)).toUInt64 >>> ((2 : Int32).toInt64.toUInt64 &&& Int64.toUInt64 63)).toInt64 : Int64) fun y3 =>
  zl (((i - (y1 &&& 6148914691236517205)) &&& 3689348814741910323) + (y3 &&& 3689348814741910323) : Int64) fun y5 =>
  zl ((y5.toUInt64 >>> ((4 : Int32).toInt64.toUInt64 &&& Int64.toUInt64 63)).toInt64 : Int64) fun y7 =>
  zl ((((y5 + y7) &&& 1085102592571150095).toUInt64 >>> ((8 : Int32).toInt64.toUInt64 &&& Int64.toUInt64 63)).toInt64 : Int64) fun y9 =>
  zl (((((y5 + y7) &&& 1085102592571150095) + y9).toUInt64 >>> ((16 : Int32).toInt64.toUInt64 &&& Int64.toUInt64 63)).toInt64 : Int64) fun y11 =>
  zl ((((((y5 + y7) &&& 1085102592571150095) + y9) + y11).toUInt64 >>> ((32 : Int32).toInt64.toUInt64 &&& Int64.toUInt64 63)).toInt64 : Int64) fun y13 =>
  zl (((((((y5 + y7) &&& 1085102592571150095) + y9) + y11) + y13).toInt32) &&& 127 : Int32) fun y15 =>
  y15
theorem fe_J13_bitCount_95d88 (i : Int64) : f_J13_bitCount_95d88 i = (
    zl ((i.toUInt64 >>> ((1 : Int32).toInt64.toUInt64 &&& Int64.toUInt64 63)).toInt64 : Int64) fun y1 =>
    zl (((i - (y1 &&& 6148914691236517205)).toUInt64 >>> ((2 : Int32).toInt64.toUInt64 &&& Int64.toUInt64 63)).toInt64 : Int64) fun y3 =>
    zl (((i - (y1 &&& 6148914691236517205)) &&& 3689348814741910323) + (y3 &&& 3689348814741910323) : Int64) fun y5 =>
    zl ((y5.toUInt64 >>> ((4 : Int32).toInt64.toUInt64 &&& Int64.toUInt64 63)).toInt64 : Int64) fun y7 =>
    zl ((((y5 + y7) &&& 1085102592571150095).toUInt64 >>> ((8 : Int32).toInt64.toUInt64 &&& Int64.toUInt64 63)).toInt64 : Int64) fun y9 =>
    zl (((((y5 + y7) &&& 1085102592571150095) + y9).toUInt64 >>> ((16 : Int32).toInt64.toUInt64 &&& Int64.toUInt64 63)).toInt64 : Int64) fun y11 =>
    zl ((((((y5 + y7) &&& 1085102592571150095) + y9) + y11).toUInt64 >>> ((32 : Int32).toInt64.toUInt64 &&& Int64.toUInt64 63)).toInt64 : Int64) fun y13 =>
    zl (((((((y5 + y7) &&& 1085102592571150095) + y9) + y11) + y13).toInt32) &&& 127 : Int32) fun y15 =>
    y15
    ) := rfl
abbrev rm_J13_bitCount_95d88 : Room := { frames := 0, cells := 0, slots := 0, locals := 0 }
set_option maxHeartbeats 1000000 in
set_option maxRecDepth 100000 in
theorem c_J13_bitCount_95d88 (l : Launch) (T : zT) (i : Int64) : Ci l yJ13_bitCount_95d88 wsJ13_bitCount_95d88 rm_J13_bitCount_95d88 T .int [.long i] [] (S := Int32) (f_J13_bitCount_95d88 i) (fun u => u) (fun u => []) := by
  refine z_metI (own := RJ13) (maxL := 2) rfl (by decide) rfl (Nat.le_of_ble_eq_true rfl) ?_
  intro P0 E0 S0 M0 G0 B0 T0 K0 A9 Q9 C E
  have hx := C.1.1
  have hb := C.1.2.1
  have hown := C.1.2.2.2.1
  have hts := C.1.2.2.2.2
  have hn := C.2.1.2
  change Z P0 l E0 rm_J13_bitCount_95d88 S0 M0 G0 B0 T0 K0 2 T A9 Q9 0 0 [] 0 [(0, .long i)] []
  have zh0 := fe_J13_bitCount_95d88 i
  refine Z.of (pc' := 1) (fun _ _ _ hl => lv_lload_n hx hb dJ13_bitCount_95d88_0 rfl (lv_at hl 0 rfl)) ?_
  refine Z.of (pc' := 2) (fun _ _ _ hl => lv_lload_n hx hb dJ13_bitCount_95d88_1 rfl (lv_at hl 0 rfl)) ?_
  refine Z.of (pc' := 3) (fun _ _ _ _ => lv_iconst (v := 1) hx hb dJ13_bitCount_95d88_2 (by decide)) ?_
  refine Z.of (pc' := 4) (fun _ _ _ hl => lv_lushr hx hb dJ13_bitCount_95d88_3 rfl) ?_
  refine Z.topl (fun y1 ey1 => ?_)
  have zh2 := zl_e zh0 ey1
  refine Z.of (pc' := 7) (fun _ _ _ _ => lv_ldc2 hx hb hown (hts (.constantLong RJ13 314 (6148914691236517205)) (by decide +kernel)) dJ13_bitCount_95d88_4) ?_
  refine Z.of (pc' := 8) (fun _ _ _ hl => lv_land hx hb dJ13_bitCount_95d88_7) ?_
  refine Z.of (pc' := 9) (fun _ _ _ hl => lv_lsub hx hb dJ13_bitCount_95d88_8) ?_
  refine Z.sto (pc' := 10) (lv' := [(0, .long (i - (y1 &&& 6148914691236517205)))]) (fun _ _ _ hl => lv_lstore_n (lv' := [(0, .long (i - (y1 &&& 6148914691236517205)))]) hx hb dJ13_bitCount_95d88_9 rfl hl (by decide) rfl) ?_
  refine Z.of (pc' := 11) (fun _ _ _ hl => lv_lload_n hx hb dJ13_bitCount_95d88_10 rfl (lv_at hl 0 rfl)) ?_
  refine Z.of (pc' := 14) (fun _ _ _ _ => lv_ldc2 hx hb hown (hts (.constantLong RJ13 316 (3689348814741910323)) (by decide +kernel)) dJ13_bitCount_95d88_11) ?_
  refine Z.of (pc' := 15) (fun _ _ _ hl => lv_land hx hb dJ13_bitCount_95d88_14) ?_
  refine Z.of (pc' := 16) (fun _ _ _ hl => lv_lload_n hx hb dJ13_bitCount_95d88_15 rfl (lv_at hl 0 rfl)) ?_
  refine Z.of (pc' := 17) (fun _ _ _ _ => lv_iconst (v := 2) hx hb dJ13_bitCount_95d88_16 (by decide)) ?_
  refine Z.of (pc' := 18) (fun _ _ _ hl => lv_lushr hx hb dJ13_bitCount_95d88_17 rfl) ?_
  refine Z.topl (fun y3 ey3 => ?_)
  have zh4 := zl_e zh2 ey3
  refine Z.of (pc' := 21) (fun _ _ _ _ => lv_ldc2 hx hb hown (hts (.constantLong RJ13 316 (3689348814741910323)) (by decide +kernel)) dJ13_bitCount_95d88_18) ?_
  refine Z.of (pc' := 22) (fun _ _ _ hl => lv_land hx hb dJ13_bitCount_95d88_21) ?_
  refine Z.of (pc' := 23) (fun _ _ _ hl => lv_ladd hx hb dJ13_bitCount_95d88_22) ?_
  refine Z.topl (fun y5 ey5 => ?_)
  have zh6 := zl_e zh4 ey5
  refine Z.sto (pc' := 24) (lv' := [(0, .long y5)]) (fun _ _ _ hl => lv_lstore_n (lv' := [(0, .long y5)]) hx hb dJ13_bitCount_95d88_23 rfl hl (by decide) rfl) ?_
  refine Z.of (pc' := 25) (fun _ _ _ hl => lv_lload_n hx hb dJ13_bitCount_95d88_24 rfl (lv_at hl 0 rfl)) ?_
  refine Z.of (pc' := 26) (fun _ _ _ hl => lv_lload_n hx hb dJ13_bitCount_95d88_25 rfl (lv_at hl 0 rfl)) ?_
  refine Z.of (pc' := 27) (fun _ _ _ _ => lv_iconst (v := 4) hx hb dJ13_bitCount_95d88_26 (by decide)) ?_
  refine Z.of (pc' := 28) (fun _ _ _ hl => lv_lushr hx hb dJ13_bitCount_95d88_27 rfl) ?_
  refine Z.topl (fun y7 ey7 => ?_)
  have zh8 := zl_e zh6 ey7
  refine Z.of (pc' := 29) (fun _ _ _ hl => lv_ladd hx hb dJ13_bitCount_95d88_28) ?_
  refine Z.of (pc' := 32) (fun _ _ _ _ => lv_ldc2 hx hb hown (hts (.constantLong RJ13 318 (1085102592571150095)) (by decide +kernel)) dJ13_bitCount_95d88_29) ?_
  refine Z.of (pc' := 33) (fun _ _ _ hl => lv_land hx hb dJ13_bitCount_95d88_32) ?_
  refine Z.sto (pc' := 34) (lv' := [(0, .long ((y5 + y7) &&& 1085102592571150095))]) (fun _ _ _ hl => lv_lstore_n (lv' := [(0, .long ((y5 + y7) &&& 1085102592571150095))]) hx hb dJ13_bitCount_95d88_33 rfl hl (by decide) rfl) ?_
  refine Z.of (pc' := 35) (fun _ _ _ hl => lv_lload_n hx hb dJ13_bitCount_95d88_34 rfl (lv_at hl 0 rfl)) ?_
  refine Z.of (pc' := 36) (fun _ _ _ hl => lv_lload_n hx hb dJ13_bitCount_95d88_35 rfl (lv_at hl 0 rfl)) ?_
  refine Z.of (pc' := 38) (fun _ _ _ _ => lv_bipush (v := 8) hx hb dJ13_bitCount_95d88_36 (by decide)) ?_
  refine Z.of (pc' := 39) (fun _ _ _ hl => lv_lushr hx hb dJ13_bitCount_95d88_38 rfl) ?_
  refine Z.topl (fun y9 ey9 => ?_)
  have zh10 := zl_e zh8 ey9
  refine Z.of (pc' := 40) (fun _ _ _ hl => lv_ladd hx hb dJ13_bitCount_95d88_39) ?_
  refine Z.sto (pc' := 41) (lv' := [(0, .long (((y5 + y7) &&& 1085102592571150095) + y9))]) (fun _ _ _ hl => lv_lstore_n (lv' := [(0, .long (((y5 + y7) &&& 1085102592571150095) + y9))]) hx hb dJ13_bitCount_95d88_40 rfl hl (by decide) rfl) ?_
  refine Z.of (pc' := 42) (fun _ _ _ hl => lv_lload_n hx hb dJ13_bitCount_95d88_41 rfl (lv_at hl 0 rfl)) ?_
  refine Z.of (pc' := 43) (fun _ _ _ hl => lv_lload_n hx hb dJ13_bitCount_95d88_42 rfl (lv_at hl 0 rfl)) ?_
  refine Z.of (pc' := 45) (fun _ _ _ _ => lv_bipush (v := 16) hx hb dJ13_bitCount_95d88_43 (by decide)) ?_
  refine Z.of (pc' := 46) (fun _ _ _ hl => lv_lushr hx hb dJ13_bitCount_95d88_45 rfl) ?_
  refine Z.topl (fun y11 ey11 => ?_)
  have zh12 := zl_e zh10 ey11
  refine Z.of (pc' := 47) (fun _ _ _ hl => lv_ladd hx hb dJ13_bitCount_95d88_46) ?_
  refine Z.sto (pc' := 48) (lv' := [(0, .long ((((y5 + y7) &&& 1085102592571150095) + y9) + y11))]) (fun _ _ _ hl => lv_lstore_n (lv' := [(0, .long ((((y5 + y7) &&& 1085102592571150095) + y9) + y11))]) hx hb dJ13_bitCount_95d88_47 rfl hl (by decide) rfl) ?_
  refine Z.of (pc' := 49) (fun _ _ _ hl => lv_lload_n hx hb dJ13_bitCount_95d88_48 rfl (lv_at hl 0 rfl)) ?_
  refine Z.of (pc' := 50) (fun _ _ _ hl => lv_lload_n hx hb dJ13_bitCount_95d88_49 rfl (lv_at hl 0 rfl)) ?_
  refine Z.of (pc' := 52) (fun _ _ _ _ => lv_bipush (v := 32) hx hb dJ13_bitCount_95d88_50 (by decide)) ?_
  refine Z.of (pc' := 53) (fun _ _ _ hl => lv_lushr hx hb dJ13_bitCount_95d88_52 rfl) ?_
  refine Z.topl (fun y13 ey13 => ?_)
  have zh14 := zl_e zh12 ey13
  refine Z.of (pc' := 54) (fun _ _ _ hl => lv_ladd hx hb dJ13_bitCount_95d88_53) ?_
  refine Z.sto (pc' := 55) (lv' := [(0, .long (((((y5 + y7) &&& 1085102592571150095) + y9) + y11) + y13))]) (fun _ _ _ hl => lv_lstore_n (lv' := [(0, .long (((((y5 + y7) &&& 1085102592571150095) + y9) + y11) + y13))]) hx hb dJ13_bitCount_95d88_54 rfl hl (by decide) rfl) ?_
  refine Z.of (pc' := 56) (fun _ _ _ hl => lv_lload_n hx hb dJ13_bitCount_95d88_55 rfl (lv_at hl 0 rfl)) ?_
  refine Z.of (pc' := 57) (fun _ _ _ hl => lv_l2i hx hb dJ13_bitCount_95d88_56 rfl) ?_
  refine Z.of (pc' := 59) (fun _ _ _ _ => lv_bipush (v := 127) hx hb dJ13_bitCount_95d88_57 (by decide)) ?_
  refine Z.of (pc' := 60) (fun _ _ _ hl => lv_iand hx hb dJ13_bitCount_95d88_59) ?_
  refine Z.topi (fun y15 ey15 => ?_)
  have zh16 := zl_e zh14 ey15
  exact E y15 _ _ _ _ dJ13_bitCount_95d88_60 rfl rfl rfl zh16
def f_X0_ones (b : Int64) (n : Int32) : Int32 :=
  zl (f_J13_bitCount_95d88 b) fun u1 =>
  u1
theorem fe_X0_ones (b : Int64) (n : Int32) : f_X0_ones b n = (
    zl (f_J13_bitCount_95d88 b) fun u1 =>
    u1
    ) := rfl
abbrev rm_X0_ones : Room := { frames := 1, cells := 0, slots := 0, locals := 21 }
set_option maxHeartbeats 1000000 in
set_option maxRecDepth 100000 in
theorem c_X0_ones (l : Launch) (T : zT) (a : Nat) (b : Int64) (n : Int32) : Ci l yX0_ones wsX0_ones rm_X0_ones T .int [.ref a] [(a, .inr (0, [.long b, .int n]))] (S := Int32) (f_X0_ones b n) (fun u => u) (fun u => [(a, .inr (0, [.long b, .int n]))]) := by
  refine z_metI (own := RX0) (maxL := 1) rfl (by decide) rfl (Nat.le_of_ble_eq_true rfl) ?_
  intro P0 E0 S0 M0 G0 B0 T0 K0 A9 Q9 C E
  have hx := C.1.1
  have hb := C.1.2.1
  have hown := C.1.2.2.2.1
  have hts := C.1.2.2.2.2
  have hn := C.2.1.2
  have iX0 : ∀ w ∈ u_ws RX0 TX0 2, w ∈ wsX0_ones := by decide +kernel
  have k7 := hts (.fieldLink RX0 7 "JudgedBits$BitRow" "bits" "J") (by decide +kernel)
  change Z P0 l E0 rm_X0_ones S0 M0 G0 B0 T0 K0 1 T A9 Q9 0 0 [(a, .inr (0, [.long b, .int n]))] 0 [(0, .ref a)] []
  have zh0 := fe_X0_ones b n
  refine Z.of (pc' := 1) (fun _ _ _ hl => lv_aload_n hx hb dX0_ones_0 rfl (lv_at hl 0 rfl)) ?_
  refine z_get C iX0 0 0 k7 rfl rfl (by decide) rfl rfl dX0_ones_1 rfl ?_
  refine z_callSi C (c_J13_bitCount_95d88 l T b) ⟨callB_of 1 hts ggX0_ones_J13_bitCount_95d88 rfl rfl rfl (hts (.initialized RJ13) (by decide +kernel)) (hts (.methodLink RX0 21 yJ13_bitCount_95d88) (by decide +kernel)) (by decide +kernel) ⟨Nat.le_of_ble_eq_true rfl, Nat.le_of_ble_eq_true rfl⟩, hts (.static yJ13_bitCount_95d88) (by decide +kernel)⟩ (As := [.long b]) (rest := []) rfl rfl (Nat.le_of_ble_eq_true rfl) dX0_ones_4 rfl ⟨Nat.zero_le _, Nat.zero_le _⟩ (fun u1 eu1 bu1 => ?_)
  have zh2 := zl_e zh0 eu1
  exact E u1 _ _ _ _ dX0_ones_7 rfl rfl rfl zh2
def okS : Nat → UInt32 → Bool
  | 0, _ => false
  | n + 1, s => if 0 ≤ Op.cmpValue (FP.fcmp s FP.fconst1) .g then decide (FP.fsub s FP.fconst1 &&& 0x7fffffff ≤ 0x7f800000) && decide (FP.fmul (FP.fsub s FP.fconst1) 1258291200 &&& 0x7fffffff ≤ 0x7f800000) else decide (FP.fmul s FP.fconst2 &&& 0x7fffffff ≤ 0x7f800000) && okS n (FP.fmul s FP.fconst2)
theorem okS_hi {n : Nat} {s : UInt32} (h : okS n s = true) (c : 0 ≤ Op.cmpValue (FP.fcmp s FP.fconst1) .g) : vf_n32 (FP.fsub s FP.fconst1) ∧ vf_n32 (FP.fmul (FP.fsub s FP.fconst1) 1258291200) := by
  cases n with
  | zero => cases h
  | succ n =>
    unfold okS at h
    rw [if_pos c, Bool.and_eq_true] at h
    exact ⟨of_decide_eq_true h.1, of_decide_eq_true h.2⟩
theorem okS_lo {n : Nat} {s : UInt32} (h : okS n s = true) (c : ¬ 0 ≤ Op.cmpValue (FP.fcmp s FP.fconst1) .g) : vf_n32 (FP.fmul s FP.fconst2) ∧ 1 ≤ n ∧ okS (n - 1) (FP.fmul s FP.fconst2) = true := by
  cases n with
  | zero => cases h
  | succ n =>
    unfold okS at h
    rw [if_neg c, Bool.and_eq_true] at h
    exact ⟨of_decide_eq_true h.1, Nat.succ_le_succ (Nat.zero_le _), h.2⟩
theorem okS_step {k q : Nat} {s : UInt32} (h : k ≤ 20 ∧ k + (q + 1) = 130 ∧ okS (20 - k) s = true) (c : ¬ 0 ≤ Op.cmpValue (FP.fcmp s FP.fconst1) .g) : k + 1 ≤ 20 ∧ k + 1 + q = 130 ∧ okS (20 - (k + 1)) (FP.fmul s FP.fconst2) = true := by
  obtain ⟨h1, h2, h3⟩ := h
  obtain ⟨-, h4, h5⟩ := okS_lo h3 c
  exact ⟨by omega, by omega, by rw [show 20 - (k + 1) = 20 - k - 1 by omega]; exact h5⟩
def lp15_X9_bitsOfShare (x : UInt32) : Nat → Nat → UInt32 → Int32 → Int32
  | 0, _, _, _ => 0
  | q15 + 1, k, sc, ex =>
    if 126 ≤ (nI k) then
      zl ((ex <<< (23 &&& 31)) + (FP.f2i (FP.fmul (FP.fsub sc FP.fconst1) 1258291200)) : Int32) fun y7 =>
      y7
    else
      if 0 ≤ (Op.cmpValue (FP.fcmp sc FP.fconst1) .g) then
        zl ((ex <<< (23 &&& 31)) + (FP.f2i (FP.fmul (FP.fsub sc FP.fconst1) 1258291200)) : Int32) fun y12 =>
        y12
      else
        lp15_X9_bitsOfShare x q15 (k + 1) (FP.fmul sc FP.fconst2) (ex + (-1))
theorem lp15_X9_bitsOfShare_s (x : UInt32) (q15 : Nat) (k : Nat) (sc : UInt32) (ex : Int32) : lp15_X9_bitsOfShare x (q15 + 1) k sc ex = (
    if 126 ≤ (nI k) then
      zl ((ex <<< (23 &&& 31)) + (FP.f2i (FP.fmul (FP.fsub sc FP.fconst1) 1258291200)) : Int32) fun y7 =>
      y7
    else
      if 0 ≤ (Op.cmpValue (FP.fcmp sc FP.fconst1) .g) then
        zl ((ex <<< (23 &&& 31)) + (FP.f2i (FP.fmul (FP.fsub sc FP.fconst1) 1258291200)) : Int32) fun y12 =>
        y12
      else
        lp15_X9_bitsOfShare x q15 (k + 1) (FP.fmul sc FP.fconst2) (ex + (-1))
    ) := rfl
def f_X9_bitsOfShare (x : UInt32) : Int32 :=
  if 0 < (Op.cmpValue (FP.fcmp x FP.fconst0) .g) then
    lp15_X9_bitsOfShare x 130 0 x 127
  else
    0
theorem fe_X9_bitsOfShare (x : UInt32) : f_X9_bitsOfShare x = (
    if 0 < (Op.cmpValue (FP.fcmp x FP.fconst0) .g) then
      lp15_X9_bitsOfShare x 130 0 x 127
    else
      0
    ) := rfl
abbrev rm_X9_bitsOfShare : Room := { frames := 0, cells := 0, slots := 0, locals := 0 }
set_option maxHeartbeats 1000000 in
set_option maxRecDepth 100000 in
theorem c_X9_bitsOfShare (l : Launch) (T : zT) (x : UInt32) (hsh : okS 20 x = true) : Ci l yX9_bitsOfShare wsX9_bitsOfShare rm_X9_bitsOfShare T .int [.float x] [] (S := Int32) (f_X9_bitsOfShare x) (fun u => u) (fun u => []) := by
  refine z_metI (own := RX9) (maxL := 4) rfl (by decide) rfl (Nat.le_of_ble_eq_true rfl) ?_
  intro P0 E0 S0 M0 G0 B0 T0 K0 A9 Q9 C E
  have hx := C.1.1
  have hb := C.1.2.1
  have hown := C.1.2.2.2.1
  have hts := C.1.2.2.2.2
  have hn := C.2.1.2
  change Z P0 l E0 rm_X9_bitsOfShare S0 M0 G0 B0 T0 K0 4 T A9 Q9 0 0 [] 0 [(0, .float x)] []
  have zh0 := fe_X9_bitsOfShare x
  refine Z.of (pc' := 1) (fun _ _ _ hl => lv_fload_n hx hb dX9_bitsOfShare_0 rfl (lv_at hl 0 rfl)) ?_
  refine Z.of (pc' := 2) (fun _ _ _ _ => lv_fconst0 hx hb dX9_bitsOfShare_1) ?_
  refine Z.of (pc' := 3) (fun _ _ _ _ => lv_fcmp hx hb dX9_bitsOfShare_2) ?_
  refine Z.two (pt := 8) (pf := 6) (fun _ _ _ _ => lv_if_gt hx hb dX9_bitsOfShare_3 (by decide)) (fun c1 => ?_) (fun c1 => ?_)
  · have zh2 := zh0.trans (if_pos c1)
    refine Z.of (pc' := 9) (fun _ _ _ hl => lv_fload_n hx hb dX9_bitsOfShare_8 rfl (lv_at hl 0 rfl)) ?_
    refine Z.sto (pc' := 10) (lv' := [(1, .float x), (0, .float x)]) (fun _ _ _ hl => lv_fstore_n (lv' := [(1, .float x), (0, .float x)]) hx hb dX9_bitsOfShare_9 rfl hl (by decide) rfl) ?_
    refine Z.of (pc' := 12) (fun _ _ _ _ => lv_bipush (v := 127) hx hb dX9_bitsOfShare_10 (by decide)) ?_
    refine Z.sto (pc' := 13) (lv' := [(2, .int 127), (1, .float x), (0, .float x)]) (fun _ _ _ hl => lv_istore_n (lv' := [(2, .int 127), (1, .float x), (0, .float x)]) hx hb dX9_bitsOfShare_12 rfl hl (by decide) rfl) ?_
    refine Z.of (pc' := 14) (fun _ _ _ _ => lv_iconst (v := 0) hx hb dX9_bitsOfShare_13 (by decide)) ?_
    refine Z.sto (pc' := 15) (lv' := [(3, .int 0), (2, .int 127), (1, .float x), (0, .float x)]) (fun _ _ _ hl => lv_istore_n (lv' := [(3, .int 0), (2, .int 127), (1, .float x), (0, .float x)]) hx hb dX9_bitsOfShare_14 rfl hl (by decide) rfl) ?_
    have L15 : ∀ (q15 : Nat) (k : Nat) (sc : UInt32) (ex : Int32), (k ≤ 20 ∧ k + q15 = 130 ∧ okS (20 - k) sc = true) → f_X9_bitsOfShare x = lp15_X9_bitsOfShare x q15 k sc ex → Z P0 l E0 rm_X9_bitsOfShare S0 M0 G0 B0 T0 K0 4 T A9 Q9 0 0 [] 15 [(1, .float sc), (2, .int ex), (3, .int (nI k))] [] := by
      intro q15
      induction q15 with
      | zero =>
        intro k sc ex hi15 zhl15
        omega
      | succ q15 ih =>
        intro k sc ex hi15 zhl15
        have zhb15 := zhl15.trans (lp15_X9_bitsOfShare_s x q15 k sc ex)
        refine Z.of (pc' := 16) (fun _ _ _ hl => lv_iload_n hx hb dX9_bitsOfShare_15 rfl (lv_at hl 2 rfl)) ?_
        refine Z.of (pc' := 18) (fun _ _ _ _ => lv_bipush (v := 126) hx hb dX9_bitsOfShare_16 (by decide)) ?_
        refine Z.two (pt := 40) (pf := 21) (fun _ _ _ _ => lv_icmp_ge hx hb dX9_bitsOfShare_18 (by decide)) (fun c4 => ?_) (fun c4 => ?_)
        · have nc4 : 126 ≤ k := zf_le (a := 126) (b := k) (rfl : (126 : Int32) = nI 126) (rfl : nI k = nI k) c4 (by omega) (by omega)
          have zh5 := zhb15.trans (if_pos c4)
          refine Z.of (pc' := 41) (fun _ _ _ hl => lv_iload_n hx hb dX9_bitsOfShare_40 rfl (lv_at hl 1 rfl)) ?_
          refine Z.of (pc' := 43) (fun _ _ _ _ => lv_bipush (v := 23) hx hb dX9_bitsOfShare_41 (by decide)) ?_
          refine Z.of (pc' := 44) (fun _ _ _ hl => lv_ishl hx hb dX9_bitsOfShare_43) ?_
          refine Z.of (pc' := 45) (fun _ _ _ hl => lv_fload_n hx hb dX9_bitsOfShare_44 rfl (lv_at hl 0 rfl)) ?_
          refine Z.of (pc' := 46) (fun _ _ _ _ => lv_fconst1 hx hb dX9_bitsOfShare_45) ?_
          refine Z.of (pc' := 47) (fun _ _ _ _ => lv_fsub hx hb dX9_bitsOfShare_46 (absurd nc4 (by omega))) ?_
          refine Z.of (pc' := 49) (fun _ _ _ _ => lv_ldcf hx hb hown (hts (.constantFloat RX9 182 (1258291200)) (by decide +kernel)) dX9_bitsOfShare_47) ?_
          refine Z.of (pc' := 50) (fun _ _ _ _ => lv_fmul hx hb dX9_bitsOfShare_49 (absurd nc4 (by omega))) ?_
          refine Z.of (pc' := 51) (fun _ _ _ _ => lv_f2i hx hb dX9_bitsOfShare_50) ?_
          refine Z.of (pc' := 52) (fun _ _ _ hl => lv_iadd hx hb dX9_bitsOfShare_51) ?_
          refine Z.topi (fun y7 ey7 => ?_)
          have zh8 := zl_e zh5 ey7
          exact E y7 _ _ _ _ dX9_bitsOfShare_52 rfl rfl rfl zh8
        · have nc4 : ¬ (126 ≤ k) := zf_nle (a := 126) (b := k) (rfl : (126 : Int32) = nI 126) (rfl : nI k = nI k) c4 (by omega) (by omega)
          have zh6 := zhb15.trans (if_neg c4)
          refine Z.of (pc' := 22) (fun _ _ _ hl => lv_fload_n hx hb dX9_bitsOfShare_21 rfl (lv_at hl 0 rfl)) ?_
          refine Z.of (pc' := 23) (fun _ _ _ _ => lv_fconst1 hx hb dX9_bitsOfShare_22) ?_
          refine Z.of (pc' := 24) (fun _ _ _ _ => lv_fcmp hx hb dX9_bitsOfShare_23) ?_
          refine Z.two (pt := 40) (pf := 27) (fun _ _ _ _ => lv_if_ge hx hb dX9_bitsOfShare_24 (by decide)) (fun c9 => ?_) (fun c9 => ?_)
          · have zh10 := zh6.trans (if_pos c9)
            refine Z.of (pc' := 41) (fun _ _ _ hl => lv_iload_n hx hb dX9_bitsOfShare_40 rfl (lv_at hl 1 rfl)) ?_
            refine Z.of (pc' := 43) (fun _ _ _ _ => lv_bipush (v := 23) hx hb dX9_bitsOfShare_41 (by decide)) ?_
            refine Z.of (pc' := 44) (fun _ _ _ hl => lv_ishl hx hb dX9_bitsOfShare_43) ?_
            refine Z.of (pc' := 45) (fun _ _ _ hl => lv_fload_n hx hb dX9_bitsOfShare_44 rfl (lv_at hl 0 rfl)) ?_
            refine Z.of (pc' := 46) (fun _ _ _ _ => lv_fconst1 hx hb dX9_bitsOfShare_45) ?_
            refine Z.of (pc' := 47) (fun _ _ _ _ => lv_fsub hx hb dX9_bitsOfShare_46 (okS_hi hi15.2.2 c9).1) ?_
            refine Z.of (pc' := 49) (fun _ _ _ _ => lv_ldcf hx hb hown (hts (.constantFloat RX9 182 (1258291200)) (by decide +kernel)) dX9_bitsOfShare_47) ?_
            refine Z.of (pc' := 50) (fun _ _ _ _ => lv_fmul hx hb dX9_bitsOfShare_49 (okS_hi hi15.2.2 c9).2) ?_
            refine Z.of (pc' := 51) (fun _ _ _ _ => lv_f2i hx hb dX9_bitsOfShare_50) ?_
            refine Z.of (pc' := 52) (fun _ _ _ hl => lv_iadd hx hb dX9_bitsOfShare_51) ?_
            refine Z.topi (fun y12 ey12 => ?_)
            have zh13 := zl_e zh10 ey12
            exact E y12 _ _ _ _ dX9_bitsOfShare_52 rfl rfl rfl zh13
          · have zh11 := zh6.trans (if_neg c9)
            refine Z.of (pc' := 28) (fun _ _ _ hl => lv_fload_n hx hb dX9_bitsOfShare_27 rfl (lv_at hl 0 rfl)) ?_
            refine Z.of (pc' := 29) (fun _ _ _ _ => lv_fconst2 hx hb dX9_bitsOfShare_28) ?_
            refine Z.of (pc' := 30) (fun _ _ _ _ => lv_fmul hx hb dX9_bitsOfShare_29 (okS_lo hi15.2.2 c9).1) ?_
            refine Z.sto (pc' := 31) (lv' := [(1, .float (FP.fmul sc FP.fconst2)), (2, .int ex), (3, .int (nI k))]) (fun _ _ _ hl => lv_fstore_n (lv' := [(1, .float (FP.fmul sc FP.fconst2)), (2, .int ex), (3, .int (nI k))]) hx hb dX9_bitsOfShare_30 rfl hl (by decide) rfl) ?_
            refine Z.sto (pc' := 34) (lv' := [(2, .int (ex + (-1))), (1, .float (FP.fmul sc FP.fconst2)), (3, .int (nI k))]) (fun _ _ _ hl => lv_iinc (lv' := [(2, .int (ex + (-1))), (1, .float (FP.fmul sc FP.fconst2)), (3, .int (nI k))]) hx hb dX9_bitsOfShare_31 hl (k := 1) rfl rfl (by decide) rfl) ?_
            refine Z.sto (pc' := 37) (lv' := [(3, .int (nI (k + 1))), (2, .int (ex + (-1))), (1, .float (FP.fmul sc FP.fconst2))]) (fun _ _ _ hl => lv_iinc (lv' := [(3, .int (nI (k + 1))), (2, .int (ex + (-1))), (1, .float (FP.fmul sc FP.fconst2))]) hx hb dX9_bitsOfShare_34 hl (k := 2) rfl ((zi_add (a := k) (b := 1) (rfl : nI k = nI k) (by decide : Int32.ofInt 1 = nI 1)).trans (congrArg nI (by omega))) (by decide) rfl) ?_
            refine Z.of (pc' := 15) (fun _ _ _ _ => lv_goto hx hb dX9_bitsOfShare_37 (by decide)) ?_
            exact Z.sub (ks := [2, 1, 0]) (lv' := [(1, .float (FP.fmul sc FP.fconst2)), (2, .int (ex + (-1))), (3, .int (nI (k + 1)))]) rfl (ih (k + 1) (FP.fmul sc FP.fconst2) (ex + (-1)) (okS_step hi15 c9) zh11)
    exact Z.sub (ks := [2, 1, 0]) (lv' := [(1, .float x), (2, .int 127), (3, .int 0)]) rfl (L15 130 0 x 127 ⟨by omega, by omega, hsh⟩ zh2)
  · have zh3 := zh0.trans (if_neg c1)
    refine Z.of (pc' := 7) (fun _ _ _ _ => lv_iconst (v := 0) hx hb dX9_bitsOfShare_6 (by decide)) ?_
    exact E 0 _ _ _ _ dX9_bitsOfShare_7 rfl rfl rfl zh3
def f_X9_share (fn : Nat → Int32) (rn : Int64) (sn : Int64) : Int32 :=
  if 0 < (fn 28) then
    zl (f_X0_ones rn (fn 28)) fun u4 =>
    zl (f_X9_bitsOfShare (FP.fdiv (FP.i2f u4) (FP.i2f (fn 28)))) fun u6 =>
    u6
  else
    (-1000004)
theorem fe_X9_share (fn : Nat → Int32) (rn : Int64) (sn : Int64) : f_X9_share fn rn sn = (
    if 0 < (fn 28) then
      zl (f_X0_ones rn (fn 28)) fun u4 =>
      zl (f_X9_bitsOfShare (FP.fdiv (FP.i2f u4) (FP.i2f (fn 28)))) fun u6 =>
      u6
    else
      (-1000004)
    ) := rfl
abbrev rm_X9_share : Room := { frames := 2, cells := 0, slots := 0, locals := 41 }
set_option maxHeartbeats 1000000 in
set_option maxRecDepth 100000 in
theorem c_X9_share (l : Launch) (T : zT) (a : Nat) (An : Nat → Nat) (At : Nat → Nat) (ah : Nat) (O : Nat → Nat) (fn : Nat → Int32) (rn : Int64) (sn : Int64) (hsh : 0 < (fn 28) → vf_n32 (FP.fdiv (FP.i2f (f_X0_ones rn (fn 28))) (FP.i2f (fn 28))) ∧ okS 20 (FP.fdiv (FP.i2f (f_X0_ones rn (fn 28))) (FP.i2f (fn 28))) = true) : Ci l yX9_share wsX9_share rm_X9_share T .int [.ref a] [(a, .inr (9, [.ref (An 0), .ref (At 0), .ref ah, .ref (O 0)])), (An 0, .inr (6, [.ref (An 1), .ref (An 2), .ref (An 3), .ref (An 4), .ref (An 5), .ref (An 6), .ref (An 7), .int (fn 0), .int (fn 19)])), (An 1, .inr (4, [.int (fn 1), .int (fn 3), .int (fn 5)])), (An 2, .inr (4, [.int (fn 2), .int (fn 4), .int (fn 6)])), (An 3, .inr (5, [.int (fn 7), .int (fn 8), .int (fn 9), .int (fn 10)])), (An 4, .inr (1, [.int (fn 11), .int (fn 12), .int (fn 13), .int (fn 14), .int (fn 15), .int (fn 16), .int (fn 17)])), (An 5, .inr (0, [.long rn, .int (fn 28)])), (An 6, .inr (0, [.long sn, .int (fn 18)])), (An 7, .inr (7, [.int (fn 20), .int (fn 21), .int (fn 22), .int (fn 23), .int (fn 24), .int (fn 25), .int (fn 26), .int (fn 27)]))] (S := Int32) (f_X9_share fn rn sn) (fun u => u) (fun u => [(a, .inr (9, [.ref (An 0), .ref (At 0), .ref ah, .ref (O 0)])), (An 0, .inr (6, [.ref (An 1), .ref (An 2), .ref (An 3), .ref (An 4), .ref (An 5), .ref (An 6), .ref (An 7), .int (fn 0), .int (fn 19)])), (An 1, .inr (4, [.int (fn 1), .int (fn 3), .int (fn 5)])), (An 2, .inr (4, [.int (fn 2), .int (fn 4), .int (fn 6)])), (An 3, .inr (5, [.int (fn 7), .int (fn 8), .int (fn 9), .int (fn 10)])), (An 4, .inr (1, [.int (fn 11), .int (fn 12), .int (fn 13), .int (fn 14), .int (fn 15), .int (fn 16), .int (fn 17)])), (An 5, .inr (0, [.long rn, .int (fn 28)])), (An 6, .inr (0, [.long sn, .int (fn 18)])), (An 7, .inr (7, [.int (fn 20), .int (fn 21), .int (fn 22), .int (fn 23), .int (fn 24), .int (fn 25), .int (fn 26), .int (fn 27)]))]) := by
  refine z_metI (own := RX9) (maxL := 2) rfl (by decide) rfl (Nat.le_of_ble_eq_true rfl) ?_
  intro P0 E0 S0 M0 G0 B0 T0 K0 A9 Q9 C E
  have hx := C.1.1
  have hb := C.1.2.1
  have hown := C.1.2.2.2.1
  have hts := C.1.2.2.2.2
  have hn := C.2.1.2
  have iX0 : ∀ w ∈ u_ws RX0 TX0 2, w ∈ wsX9_share := by decide +kernel
  have iX6 : ∀ w ∈ u_ws RX6 TX6 9, w ∈ wsX9_share := by decide +kernel
  have iX9 : ∀ w ∈ u_ws RX9 TX9 4, w ∈ wsX9_share := by decide +kernel
  have k10 := hts (.fieldLink RX9 10 "JudgedBits" "now" "LJudgedBits$Source;") (by decide +kernel)
  have k85 := hts (.fieldLink RX9 85 "JudgedBits$Source" "rawBits" "LJudgedBits$BitRow;") (by decide +kernel)
  have k89 := hts (.fieldLink RX9 89 "JudgedBits$BitRow" "size" "I") (by decide +kernel)
  change Z P0 l E0 rm_X9_share S0 M0 G0 B0 T0 K0 2 T A9 Q9 0 0 [(a, .inr (9, [.ref (An 0), .ref (At 0), .ref ah, .ref (O 0)])), (An 0, .inr (6, [.ref (An 1), .ref (An 2), .ref (An 3), .ref (An 4), .ref (An 5), .ref (An 6), .ref (An 7), .int (fn 0), .int (fn 19)])), (An 1, .inr (4, [.int (fn 1), .int (fn 3), .int (fn 5)])), (An 2, .inr (4, [.int (fn 2), .int (fn 4), .int (fn 6)])), (An 3, .inr (5, [.int (fn 7), .int (fn 8), .int (fn 9), .int (fn 10)])), (An 4, .inr (1, [.int (fn 11), .int (fn 12), .int (fn 13), .int (fn 14), .int (fn 15), .int (fn 16), .int (fn 17)])), (An 5, .inr (0, [.long rn, .int (fn 28)])), (An 6, .inr (0, [.long sn, .int (fn 18)])), (An 7, .inr (7, [.int (fn 20), .int (fn 21), .int (fn 22), .int (fn 23), .int (fn 24), .int (fn 25), .int (fn 26), .int (fn 27)]))] 0 [(0, .ref a)] []
  have zh0 := fe_X9_share fn rn sn
  refine Z.of (pc' := 1) (fun _ _ _ hl => lv_aload_n hx hb dX9_share_0 rfl (lv_at hl 0 rfl)) ?_
  refine z_get C iX9 0 0 k10 rfl rfl (by decide) rfl rfl dX9_share_1 rfl ?_
  refine z_get C iX6 1 4 k85 rfl rfl (by decide) rfl rfl dX9_share_4 rfl ?_
  refine z_get C iX0 6 1 k89 rfl rfl (by decide) rfl rfl dX9_share_7 rfl ?_
  refine Z.sto (pc' := 11) (lv' := [(1, .int (fn 28)), (0, .ref a)]) (fun _ _ _ hl => lv_istore_n (lv' := [(1, .int (fn 28)), (0, .ref a)]) hx hb dX9_share_10 rfl hl (by decide) rfl) ?_
  refine Z.of (pc' := 12) (fun _ _ _ hl => lv_iload_n hx hb dX9_share_11 rfl (lv_at hl 0 rfl)) ?_
  refine Z.two (pt := 18) (pf := 15) (fun _ _ _ _ => lv_if_gt hx hb dX9_share_12 (by decide)) (fun c1 => ?_) (fun c1 => ?_)
  · have zh2 := zh0.trans (if_pos c1)
    refine Z.of (pc' := 19) (fun _ _ _ hl => lv_aload_n hx hb dX9_share_18 rfl (lv_at hl 1 rfl)) ?_
    refine z_get C iX9 0 0 k10 rfl rfl (by decide) rfl rfl dX9_share_19 rfl ?_
    refine z_get C iX6 1 4 k85 rfl rfl (by decide) rfl rfl dX9_share_22 rfl ?_
    refine z_callVi C (c_X0_ones l T (An 5) rn (fn 28)) [6] [0, 1, 2, 3, 4, 5, 7, 8] rfl (by decide +kernel) (fun u4 => [(a, .inr (9, [.ref (An 0), .ref (At 0), .ref ah, .ref (O 0)])), (An 0, .inr (6, [.ref (An 1), .ref (An 2), .ref (An 3), .ref (An 4), .ref (An 5), .ref (An 6), .ref (An 7), .int (fn 0), .int (fn 19)])), (An 1, .inr (4, [.int (fn 1), .int (fn 3), .int (fn 5)])), (An 2, .inr (4, [.int (fn 2), .int (fn 4), .int (fn 6)])), (An 3, .inr (5, [.int (fn 7), .int (fn 8), .int (fn 9), .int (fn 10)])), (An 4, .inr (1, [.int (fn 11), .int (fn 12), .int (fn 13), .int (fn 14), .int (fn 15), .int (fn 16), .int (fn 17)])), (An 5, .inr (0, [.long rn, .int (fn 28)])), (An 6, .inr (0, [.long sn, .int (fn 18)])), (An 7, .inr (7, [.int (fn 20), .int (fn 21), .int (fn 22), .int (fn 23), .int (fn 24), .int (fn 25), .int (fn 26), .int (fn 27)]))]) (fun _ => rfl) [(a, .inr (9, [.ref (An 0), .ref (At 0), .ref ah, .ref (O 0)])), (An 0, .inr (6, [.ref (An 1), .ref (An 2), .ref (An 3), .ref (An 4), .ref (An 5), .ref (An 6), .ref (An 7), .int (fn 0), .int (fn 19)])), (An 1, .inr (4, [.int (fn 1), .int (fn 3), .int (fn 5)])), (An 2, .inr (4, [.int (fn 2), .int (fn 4), .int (fn 6)])), (An 3, .inr (5, [.int (fn 7), .int (fn 8), .int (fn 9), .int (fn 10)])), (An 4, .inr (1, [.int (fn 11), .int (fn 12), .int (fn 13), .int (fn 14), .int (fn 15), .int (fn 16), .int (fn 17)])), (An 6, .inr (0, [.long sn, .int (fn 18)])), (An 7, .inr (7, [.int (fn 20), .int (fn 21), .int (fn 22), .int (fn 23), .int (fn 24), .int (fn 25), .int (fn 26), .int (fn 27)]))] rfl (fun _ => rfl) [a, An 0, An 1, An 2, An 3, An 4, An 5, An 6, An 7] rfl (fun _ => rfl) 9 (fun _ => rfl) (by decide +kernel) (cwV 0 hts gX9_share_X0_ones rfl rfl rfl (by decide +kernel) ⟨Nat.le_of_ble_eq_true rfl, Nat.le_of_ble_eq_true rfl⟩) 6 rfl rfl rfl (As := []) (rest := []) rfl rfl (Nat.le_of_ble_eq_true rfl) dX9_share_25 rfl ⟨Nat.zero_le _, Nat.zero_le _⟩ (fun u4 eu4 bu4 => ?_)
    have zh5 := zl_e zh2 eu4
    refine Z.of (pc' := 29) (fun _ _ _ hl => lv_i2f hx hb dX9_share_28) ?_
    refine Z.of (pc' := 30) (fun _ _ _ hl => lv_iload_n hx hb dX9_share_29 rfl (lv_at hl 0 rfl)) ?_
    refine Z.of (pc' := 31) (fun _ _ _ hl => lv_i2f hx hb dX9_share_30) ?_
    refine Z.of (pc' := 32) (fun _ _ _ _ => lv_fdiv hx hb dX9_share_31 (by rw [eu4]; exact (hsh c1).1)) ?_
    refine z_callSi C (c_X9_bitsOfShare l T (FP.fdiv (FP.i2f u4) (FP.i2f (fn 28))) (by rw [eu4]; exact (hsh c1).2)) (cwS 1 hts gX9_share_X9_bitsOfShare rfl rfl rfl (by decide +kernel) ⟨Nat.le_of_ble_eq_true rfl, Nat.le_of_ble_eq_true rfl⟩) (As := [.float (FP.fdiv (FP.i2f u4) (FP.i2f (fn 28)))]) (rest := []) rfl rfl (Nat.le_of_ble_eq_true rfl) dX9_share_32 rfl ⟨Nat.zero_le _, Nat.zero_le _⟩ (fun u6 eu6 bu6 => ?_)
    have zh7 := zl_e zh5 eu6
    exact E u6 _ _ _ _ dX9_share_35 rfl rfl rfl zh7
  · have zh3 := zh0.trans (if_neg c1)
    refine Z.of (pc' := 17) (fun _ _ _ _ => lv_ldc hx hb hown (hts (.constant RX9 96 (-1000004)) (by decide +kernel)) dX9_share_15) ?_
    exact E (-1000004) _ _ _ _ dX9_share_17 rfl rfl rfl zh3
