def f_X9_isWithin (v : Int32) (lo : Int32) (hi : Int32) : Int32 :=
  if v < lo then
    0
  else
    if hi < v then
      0
    else
      1
theorem fe_X9_isWithin (v : Int32) (lo : Int32) (hi : Int32) : f_X9_isWithin v lo hi = (
    if v < lo then
      0
    else
      if hi < v then
        0
      else
        1
    ) := rfl
abbrev rm_X9_isWithin : Room := { frames := 0, cells := 0, slots := 0, locals := 0 }
set_option maxHeartbeats 1000000 in
set_option maxRecDepth 100000 in
theorem c_X9_isWithin (l : Launch) (T : zT) (v : Int32) (lo : Int32) (hi : Int32) : Ci l yX9_isWithin wsX9_isWithin rm_X9_isWithin T .boolean [.int v, .int lo, .int hi] [] (S := Int32) (f_X9_isWithin v lo hi) (fun u => u) (fun u => []) := by
  refine z_metI (own := RX9) (maxL := 3) rfl (by decide) rfl (Nat.le_of_ble_eq_true rfl) ?_
  intro P0 E0 S0 M0 G0 B0 T0 K0 A9 Q9 C E
  have hx := C.1.1
  have hb := C.1.2.1
  have hown := C.1.2.2.2.1
  have hts := C.1.2.2.2.2
  have hn := C.2.1.2
  change Z P0 l E0 rm_X9_isWithin S0 M0 G0 B0 T0 K0 3 T A9 Q9 0 0 [] 0 [(0, .int v), (1, .int lo), (2, .int hi)] []
  have zh0 := fe_X9_isWithin v lo hi
  refine Z.of (pc' := 1) (fun _ _ _ hl => lv_iload_n hx hb dX9_isWithin_0 rfl (lv_at hl 0 rfl)) ?_
  refine Z.of (pc' := 2) (fun _ _ _ hl => lv_iload_n hx hb dX9_isWithin_1 rfl (lv_at hl 1 rfl)) ?_
  refine Z.two (pt := 14) (pf := 5) (fun _ _ _ _ => lv_icmp_lt hx hb dX9_isWithin_2 (by decide)) (fun c1 => ?_) (fun c1 => ?_)
  · have zh2 := zh0.trans (if_pos c1)
    refine Z.of (pc' := 15) (fun _ _ _ _ => lv_iconst (v := 0) hx hb dX9_isWithin_14 (by decide)) ?_
    exact E 0 _ _ _ _ dX9_isWithin_15 rfl rfl rfl zh2
  · have zh3 := zh0.trans (if_neg c1)
    refine Z.of (pc' := 6) (fun _ _ _ hl => lv_iload_n hx hb dX9_isWithin_5 rfl (lv_at hl 0 rfl)) ?_
    refine Z.of (pc' := 7) (fun _ _ _ hl => lv_iload_n hx hb dX9_isWithin_6 rfl (lv_at hl 2 rfl)) ?_
    refine Z.two (pt := 14) (pf := 10) (fun _ _ _ _ => lv_icmp_gt hx hb dX9_isWithin_7 (by decide)) (fun c4 => ?_) (fun c4 => ?_)
    · have zh5 := zh3.trans (if_pos c4)
      refine Z.of (pc' := 15) (fun _ _ _ _ => lv_iconst (v := 0) hx hb dX9_isWithin_14 (by decide)) ?_
      exact E 0 _ _ _ _ dX9_isWithin_15 rfl rfl rfl zh5
    · have zh6 := zh3.trans (if_neg c4)
      refine Z.of (pc' := 11) (fun _ _ _ _ => lv_iconst (v := 1) hx hb dX9_isWithin_10 (by decide)) ?_
      refine Z.of (pc' := 15) (fun _ _ _ _ => lv_goto hx hb dX9_isWithin_11 (by decide)) ?_
      exact E 1 _ _ _ _ dX9_isWithin_15 rfl rfl rfl zh6
def f_X9_remainder (v : Int32) (d : Int32) : Int32 :=
  if d ≤ 0 then
    0
  else
    (v - v / d * d)
theorem fe_X9_remainder (v : Int32) (d : Int32) : f_X9_remainder v d = (
    if d ≤ 0 then
      0
    else
      (v - v / d * d)
    ) := rfl
abbrev rm_X9_remainder : Room := { frames := 0, cells := 0, slots := 0, locals := 0 }
set_option maxHeartbeats 1000000 in
set_option maxRecDepth 100000 in
theorem c_X9_remainder (l : Launch) (T : zT) (v : Int32) (d : Int32) : Ci l yX9_remainder wsX9_remainder rm_X9_remainder T .int [.int v, .int d] [] (S := Int32) (f_X9_remainder v d) (fun u => u) (fun u => []) := by
  refine z_metI (own := RX9) (maxL := 2) rfl (by decide) rfl (Nat.le_of_ble_eq_true rfl) ?_
  intro P0 E0 S0 M0 G0 B0 T0 K0 A9 Q9 C E
  have hx := C.1.1
  have hb := C.1.2.1
  have hown := C.1.2.2.2.1
  have hts := C.1.2.2.2.2
  have hn := C.2.1.2
  change Z P0 l E0 rm_X9_remainder S0 M0 G0 B0 T0 K0 2 T A9 Q9 0 0 [] 0 [(0, .int v), (1, .int d)] []
  have zh0 := fe_X9_remainder v d
  refine Z.of (pc' := 1) (fun _ _ _ hl => lv_iload_n hx hb dX9_remainder_0 rfl (lv_at hl 1 rfl)) ?_
  refine Z.two (pt := 10) (pf := 4) (fun _ _ _ _ => lv_if_le hx hb dX9_remainder_1 (by decide)) (fun c1 => ?_) (fun c1 => ?_)
  · have zh2 := zh0.trans (if_pos c1)
    refine Z.of (pc' := 11) (fun _ _ _ _ => lv_iconst (v := 0) hx hb dX9_remainder_10 (by decide)) ?_
    exact E 0 _ _ _ _ dX9_remainder_11 rfl rfl rfl zh2
  · have zh3 := zh0.trans (if_neg c1)
    refine Z.of (pc' := 5) (fun _ _ _ hl => lv_iload_n hx hb dX9_remainder_4 rfl (lv_at hl 0 rfl)) ?_
    refine Z.of (pc' := 6) (fun _ _ _ hl => lv_iload_n hx hb dX9_remainder_5 rfl (lv_at hl 1 rfl)) ?_
    refine Z.of (pc' := 7) (fun _ _ _ hl => lv_irem hx hb dX9_remainder_6 (fun h9 => c1 (by rw [h9]; decide))) ?_
    refine Z.of (pc' := 11) (fun _ _ _ _ => lv_goto hx hb dX9_remainder_7 (by decide)) ?_
    exact E (v - v / d * d) _ _ _ _ dX9_remainder_11 rfl rfl rfl zh3
abbrev rm_X0_copyFrom : Room := { frames := 0, cells := 0, slots := 0, locals := 0 }
set_option maxHeartbeats 1000000 in
set_option maxRecDepth 100000 in
theorem c_X0_copyFrom (l : Launch) (T : zT) (a : Nat) (o : Nat) (b : Int64) (n : Int32) (b2 : Int64) (n2 : Int32) : Cv l yX0_copyFrom wsX0_copyFrom rm_X0_copyFrom T [.ref a, .ref o] [(a, .inr (0, [.long b, .int n])), (o, .inr (0, [.long b2, .int n2]))] (S := Unit) () (fun u => [(a, .inr (0, [.long b2, .int n2])), (o, .inr (0, [.long b2, .int n2]))]) := by
  refine z_metV (own := RX0) (maxL := 2) rfl (by decide) rfl (Nat.le_of_ble_eq_true rfl) ?_
  intro P0 E0 S0 M0 G0 B0 T0 K0 A9 Q9 C E
  have hx := C.1.1
  have hb := C.1.2.1
  have hown := C.1.2.2.2.1
  have hts := C.1.2.2.2.2
  have hn := C.2.1.2
  have iX0 : ∀ w ∈ u_ws RX0 TX0 2, w ∈ wsX0_copyFrom := by decide +kernel
  have k7 := hts (.fieldLink RX0 7 "JudgedBits$BitRow" "bits" "J") (by decide +kernel)
  have k13 := hts (.fieldLink RX0 13 "JudgedBits$BitRow" "size" "I") (by decide +kernel)
  change Z P0 l E0 rm_X0_copyFrom S0 M0 G0 B0 T0 K0 2 T A9 Q9 0 0 [(a, .inr (0, [.long b, .int n])), (o, .inr (0, [.long b2, .int n2]))] 0 [(0, .ref a), (1, .ref o)] []
  refine Z.of (pc' := 1) (fun _ _ _ hl => lv_aload_n hx hb dX0_copyFrom_0 rfl (lv_at hl 0 rfl)) ?_
  refine Z.of (pc' := 2) (fun _ _ _ hl => lv_aload_n hx hb dX0_copyFrom_1 rfl (lv_at hl 1 rfl)) ?_
  refine z_get C iX0 1 0 k7 rfl rfl (by decide) rfl rfl dX0_copyFrom_2 rfl ?_
  refine z_put C iX0 tyX0_ok nmX0 0 0 k7 rfl rfl (by decide) rfl rfl rfl rfl (Nat.le_of_ble_eq_true rfl) dX0_copyFrom_5 rfl [(a, .inr (0, [.long b2, .int n])), (o, .inr (0, [.long b2, .int n2]))] rfl ?_
  refine Z.of (pc' := 9) (fun _ _ _ hl => lv_aload_n hx hb dX0_copyFrom_8 rfl (lv_at hl 0 rfl)) ?_
  refine Z.of (pc' := 10) (fun _ _ _ hl => lv_aload_n hx hb dX0_copyFrom_9 rfl (lv_at hl 1 rfl)) ?_
  refine z_get C iX0 1 1 k13 rfl rfl (by decide) rfl rfl dX0_copyFrom_10 rfl ?_
  refine z_put C iX0 tyX0_ok nmX0 0 1 k13 rfl rfl (by decide) rfl rfl rfl rfl (Nat.le_of_ble_eq_true rfl) dX0_copyFrom_13 rfl [(a, .inr (0, [.long b2, .int n2])), (o, .inr (0, [.long b2, .int n2]))] rfl ?_
  exact E () _ _ _ dX0_copyFrom_16  rfl rfl
abbrev rm_X0_clear : Room := { frames := 0, cells := 0, slots := 0, locals := 0 }
set_option maxHeartbeats 1000000 in
set_option maxRecDepth 100000 in
theorem c_X0_clear (l : Launch) (T : zT) (a : Nat) (b : Int64) (n : Int32) : Cv l yX0_clear wsX0_clear rm_X0_clear T [.ref a] [(a, .inr (0, [.long b, .int n]))] (S := Unit) () (fun u => [(a, .inr (0, [.long 0, .int 0]))]) := by
  refine z_metV (own := RX0) (maxL := 1) rfl (by decide) rfl (Nat.le_of_ble_eq_true rfl) ?_
  intro P0 E0 S0 M0 G0 B0 T0 K0 A9 Q9 C E
  have hx := C.1.1
  have hb := C.1.2.1
  have hown := C.1.2.2.2.1
  have hts := C.1.2.2.2.2
  have hn := C.2.1.2
  have iX0 : ∀ w ∈ u_ws RX0 TX0 2, w ∈ wsX0_clear := by decide +kernel
  have k7 := hts (.fieldLink RX0 7 "JudgedBits$BitRow" "bits" "J") (by decide +kernel)
  have k13 := hts (.fieldLink RX0 13 "JudgedBits$BitRow" "size" "I") (by decide +kernel)
  change Z P0 l E0 rm_X0_clear S0 M0 G0 B0 T0 K0 1 T A9 Q9 0 0 [(a, .inr (0, [.long b, .int n]))] 0 [(0, .ref a)] []
  refine Z.of (pc' := 1) (fun _ _ _ hl => lv_aload_n hx hb dX0_clear_0 rfl (lv_at hl 0 rfl)) ?_
  refine Z.of (pc' := 2) (fun _ _ _ _ => lv_lconst (v := 0) hx hb dX0_clear_1 rfl) ?_
  refine z_put C iX0 tyX0_ok nmX0 0 0 k7 rfl rfl (by decide) rfl rfl rfl rfl (Nat.le_of_ble_eq_true rfl) dX0_clear_2 rfl [(a, .inr (0, [.long 0, .int n]))] rfl ?_
  refine Z.of (pc' := 6) (fun _ _ _ hl => lv_aload_n hx hb dX0_clear_5 rfl (lv_at hl 0 rfl)) ?_
  refine Z.of (pc' := 7) (fun _ _ _ _ => lv_iconst (v := 0) hx hb dX0_clear_6 (by decide)) ?_
  refine z_put C iX0 tyX0_ok nmX0 0 1 k13 rfl rfl (by decide) rfl rfl rfl rfl (Nat.le_of_ble_eq_true rfl) dX0_clear_7 rfl [(a, .inr (0, [.long 0, .int 0]))] rfl ?_
  exact E () _ _ _ dX0_clear_10  rfl rfl
def f_X0_isFull (b : Int64) (n : Int32) : Int32 :=
  if n < 64 then
    0
  else
    1
theorem fe_X0_isFull (b : Int64) (n : Int32) : f_X0_isFull b n = (
    if n < 64 then
      0
    else
      1
    ) := rfl
abbrev rm_X0_isFull : Room := { frames := 0, cells := 0, slots := 0, locals := 0 }
set_option maxHeartbeats 1000000 in
set_option maxRecDepth 100000 in
theorem c_X0_isFull (l : Launch) (T : zT) (a : Nat) (b : Int64) (n : Int32) : Ci l yX0_isFull wsX0_isFull rm_X0_isFull T .boolean [.ref a] [(a, .inr (0, [.long b, .int n]))] (S := Int32) (f_X0_isFull b n) (fun u => u) (fun u => [(a, .inr (0, [.long b, .int n]))]) := by
  refine z_metI (own := RX0) (maxL := 1) rfl (by decide) rfl (Nat.le_of_ble_eq_true rfl) ?_
  intro P0 E0 S0 M0 G0 B0 T0 K0 A9 Q9 C E
  have hx := C.1.1
  have hb := C.1.2.1
  have hown := C.1.2.2.2.1
  have hts := C.1.2.2.2.2
  have hn := C.2.1.2
  have iX0 : ∀ w ∈ u_ws RX0 TX0 2, w ∈ wsX0_isFull := by decide +kernel
  have k13 := hts (.fieldLink RX0 13 "JudgedBits$BitRow" "size" "I") (by decide +kernel)
  change Z P0 l E0 rm_X0_isFull S0 M0 G0 B0 T0 K0 1 T A9 Q9 0 0 [(a, .inr (0, [.long b, .int n]))] 0 [(0, .ref a)] []
  have zh0 := fe_X0_isFull b n
  refine Z.of (pc' := 1) (fun _ _ _ hl => lv_aload_n hx hb dX0_isFull_0 rfl (lv_at hl 0 rfl)) ?_
  refine z_get C iX0 0 1 k13 rfl rfl (by decide) rfl rfl dX0_isFull_1 rfl ?_
  refine Z.of (pc' := 6) (fun _ _ _ _ => lv_bipush (v := 64) hx hb dX0_isFull_4 (by decide)) ?_
  refine Z.two (pt := 13) (pf := 9) (fun _ _ _ _ => lv_icmp_lt hx hb dX0_isFull_6 (by decide)) (fun c1 => ?_) (fun c1 => ?_)
  · have zh2 := zh0.trans (if_pos c1)
    refine Z.of (pc' := 14) (fun _ _ _ _ => lv_iconst (v := 0) hx hb dX0_isFull_13 (by decide)) ?_
    exact E 0 _ _ _ _ dX0_isFull_14 rfl rfl rfl zh2
  · have zh3 := zh0.trans (if_neg c1)
    refine Z.of (pc' := 10) (fun _ _ _ _ => lv_iconst (v := 1) hx hb dX0_isFull_9 (by decide)) ?_
    refine Z.of (pc' := 14) (fun _ _ _ _ => lv_goto hx hb dX0_isFull_10 (by decide)) ?_
    exact E 1 _ _ _ _ dX0_isFull_14 rfl rfl rfl zh3
def f_X0_append (b : Int64) (n : Int32) (bit : Int32) : Int64 × Int32 :=
  if 64 ≤ n then
    ((b <<< ((1 : Int32).toInt64 &&& 63)) ||| bit.toInt64, n)
  else
    ((b <<< ((1 : Int32).toInt64 &&& 63)) ||| bit.toInt64, n + 1)
theorem fe_X0_append (b : Int64) (n : Int32) (bit : Int32) : f_X0_append b n bit = (
    if 64 ≤ n then
      ((b <<< ((1 : Int32).toInt64 &&& 63)) ||| bit.toInt64, n)
    else
      ((b <<< ((1 : Int32).toInt64 &&& 63)) ||| bit.toInt64, n + 1)
    ) := rfl
abbrev rm_X0_append : Room := { frames := 0, cells := 0, slots := 0, locals := 0 }
set_option maxHeartbeats 1000000 in
set_option maxRecDepth 100000 in
theorem c_X0_append (l : Launch) (T : zT) (a : Nat) (b : Int64) (n : Int32) (bit : Int32) : Cv l yX0_append wsX0_append rm_X0_append T [.ref a, .int bit] [(a, .inr (0, [.long b, .int n]))] (S := Int64 × Int32) (f_X0_append b n bit) (fun u => [(a, .inr (0, [.long u.1, .int u.2]))]) := by
  refine z_metV (own := RX0) (maxL := 2) rfl (by decide) rfl (Nat.le_of_ble_eq_true rfl) ?_
  intro P0 E0 S0 M0 G0 B0 T0 K0 A9 Q9 C E
  have hx := C.1.1
  have hb := C.1.2.1
  have hown := C.1.2.2.2.1
  have hts := C.1.2.2.2.2
  have hn := C.2.1.2
  have iX0 : ∀ w ∈ u_ws RX0 TX0 2, w ∈ wsX0_append := by decide +kernel
  have k7 := hts (.fieldLink RX0 7 "JudgedBits$BitRow" "bits" "J") (by decide +kernel)
  have k13 := hts (.fieldLink RX0 13 "JudgedBits$BitRow" "size" "I") (by decide +kernel)
  change Z P0 l E0 rm_X0_append S0 M0 G0 B0 T0 K0 2 T A9 Q9 0 0 [(a, .inr (0, [.long b, .int n]))] 0 [(0, .ref a), (1, .int bit)] []
  have zh0 := fe_X0_append b n bit
  refine Z.of (pc' := 1) (fun _ _ _ hl => lv_aload_n hx hb dX0_append_0 rfl (lv_at hl 0 rfl)) ?_
  refine Z.of (pc' := 2) (fun _ _ _ hl => lv_aload_n hx hb dX0_append_1 rfl (lv_at hl 0 rfl)) ?_
  refine z_get C iX0 0 0 k7 rfl rfl (by decide) rfl rfl dX0_append_2 rfl ?_
  refine Z.of (pc' := 6) (fun _ _ _ _ => lv_iconst (v := 1) hx hb dX0_append_5 (by decide)) ?_
  refine Z.of (pc' := 7) (fun _ _ _ hl => lv_lshl hx hb dX0_append_6 rfl) ?_
  refine Z.of (pc' := 8) (fun _ _ _ hl => lv_iload_n hx hb dX0_append_7 rfl (lv_at hl 1 rfl)) ?_
  refine Z.of (pc' := 9) (fun _ _ _ hl => lv_i2l hx hb dX0_append_8 rfl) ?_
  refine Z.of (pc' := 10) (fun _ _ _ hl => lv_lor hx hb dX0_append_9) ?_
  refine z_put C iX0 tyX0_ok nmX0 0 0 k7 rfl rfl (by decide) rfl rfl rfl rfl (Nat.le_of_ble_eq_true rfl) dX0_append_10 rfl [(a, .inr (0, [.long ((b <<< ((1 : Int32).toInt64 &&& 63)) ||| bit.toInt64), .int n]))] rfl ?_
  refine Z.of (pc' := 14) (fun _ _ _ hl => lv_aload_n hx hb dX0_append_13 rfl (lv_at hl 0 rfl)) ?_
  refine z_get C iX0 0 1 k13 rfl rfl (by decide) rfl rfl dX0_append_14 rfl ?_
  refine Z.of (pc' := 19) (fun _ _ _ _ => lv_bipush (v := 64) hx hb dX0_append_17 (by decide)) ?_
  refine Z.two (pt := 32) (pf := 22) (fun _ _ _ _ => lv_icmp_ge hx hb dX0_append_19 (by decide)) (fun c1 => ?_) (fun c1 => ?_)
  · have zh2 := zh0.trans (if_pos c1)
    exact E ((b <<< ((1 : Int32).toInt64 &&& 63)) ||| bit.toInt64, n) _ _ _ dX0_append_32  rfl zh2
  · have zh3 := zh0.trans (if_neg c1)
    refine Z.of (pc' := 23) (fun _ _ _ hl => lv_aload_n hx hb dX0_append_22 rfl (lv_at hl 0 rfl)) ?_
    refine Z.of (pc' := 24) (fun _ _ _ hl => lv_dup hx hb dX0_append_23 rfl) ?_
    refine z_get C iX0 0 1 k13 rfl rfl (by decide) rfl rfl dX0_append_24 rfl ?_
    refine Z.of (pc' := 28) (fun _ _ _ _ => lv_iconst (v := 1) hx hb dX0_append_27 (by decide)) ?_
    refine Z.of (pc' := 29) (fun _ _ _ hl => lv_iadd hx hb dX0_append_28) ?_
    refine z_put C iX0 tyX0_ok nmX0 0 1 k13 rfl rfl (by decide) rfl rfl rfl rfl (Nat.le_of_ble_eq_true rfl) dX0_append_29 rfl [(a, .inr (0, [.long ((b <<< ((1 : Int32).toInt64 &&& 63)) ||| bit.toInt64), .int (n + 1)]))] rfl ?_
    exact E ((b <<< ((1 : Int32).toInt64 &&& 63)) ||| bit.toInt64, n + 1) _ _ _ dX0_append_32  rfl zh3
def f_X0_fromLatest (b : Int64) (n : Int32) (i : Int32) : Int32 :=
  zl (((b.toUInt64 >>> (i.toInt64.toUInt64 &&& Int64.toUInt64 63)).toInt64) &&& 1 : Int64) fun y1 =>
  y1.toInt32
theorem fe_X0_fromLatest (b : Int64) (n : Int32) (i : Int32) : f_X0_fromLatest b n i = (
    zl (((b.toUInt64 >>> (i.toInt64.toUInt64 &&& Int64.toUInt64 63)).toInt64) &&& 1 : Int64) fun y1 =>
    y1.toInt32
    ) := rfl
abbrev rm_X0_fromLatest : Room := { frames := 0, cells := 0, slots := 0, locals := 0 }
set_option maxHeartbeats 1000000 in
set_option maxRecDepth 100000 in
theorem c_X0_fromLatest (l : Launch) (T : zT) (a : Nat) (b : Int64) (n : Int32) (i : Int32) : Ci l yX0_fromLatest wsX0_fromLatest rm_X0_fromLatest T .int [.ref a, .int i] [(a, .inr (0, [.long b, .int n]))] (S := Int32) (f_X0_fromLatest b n i) (fun u => u) (fun u => [(a, .inr (0, [.long b, .int n]))]) := by
  refine z_metI (own := RX0) (maxL := 2) rfl (by decide) rfl (Nat.le_of_ble_eq_true rfl) ?_
  intro P0 E0 S0 M0 G0 B0 T0 K0 A9 Q9 C E
  have hx := C.1.1
  have hb := C.1.2.1
  have hown := C.1.2.2.2.1
  have hts := C.1.2.2.2.2
  have hn := C.2.1.2
  have iX0 : ∀ w ∈ u_ws RX0 TX0 2, w ∈ wsX0_fromLatest := by decide +kernel
  have k7 := hts (.fieldLink RX0 7 "JudgedBits$BitRow" "bits" "J") (by decide +kernel)
  change Z P0 l E0 rm_X0_fromLatest S0 M0 G0 B0 T0 K0 2 T A9 Q9 0 0 [(a, .inr (0, [.long b, .int n]))] 0 [(0, .ref a), (1, .int i)] []
  have zh0 := fe_X0_fromLatest b n i
  refine Z.of (pc' := 1) (fun _ _ _ hl => lv_aload_n hx hb dX0_fromLatest_0 rfl (lv_at hl 0 rfl)) ?_
  refine z_get C iX0 0 0 k7 rfl rfl (by decide) rfl rfl dX0_fromLatest_1 rfl ?_
  refine Z.of (pc' := 5) (fun _ _ _ hl => lv_iload_n hx hb dX0_fromLatest_4 rfl (lv_at hl 1 rfl)) ?_
  refine Z.of (pc' := 6) (fun _ _ _ hl => lv_lushr hx hb dX0_fromLatest_5 rfl) ?_
  refine Z.of (pc' := 7) (fun _ _ _ _ => lv_lconst (v := 1) hx hb dX0_fromLatest_6 rfl) ?_
  refine Z.of (pc' := 8) (fun _ _ _ hl => lv_land hx hb dX0_fromLatest_7) ?_
  refine Z.topl (fun y1 ey1 => ?_)
  have zh2 := zl_e zh0 ey1
  refine Z.of (pc' := 9) (fun _ _ _ hl => lv_l2i hx hb dX0_fromLatest_8 rfl) ?_
  exact E y1.toInt32 _ _ _ _ dX0_fromLatest_9 rfl rfl rfl zh2
def f_X0_fromEarliest (b : Int64) (n : Int32) (i : Int32) : Int32 :=
  zl (f_X0_fromLatest b n ((n - 1) - i)) fun u1 =>
  u1
theorem fe_X0_fromEarliest (b : Int64) (n : Int32) (i : Int32) : f_X0_fromEarliest b n i = (
    zl (f_X0_fromLatest b n ((n - 1) - i)) fun u1 =>
    u1
    ) := rfl
abbrev rm_X0_fromEarliest : Room := { frames := 1, cells := 0, slots := 0, locals := 21 }
set_option maxHeartbeats 1000000 in
set_option maxRecDepth 100000 in
theorem c_X0_fromEarliest (l : Launch) (T : zT) (a : Nat) (b : Int64) (n : Int32) (i : Int32) : Ci l yX0_fromEarliest wsX0_fromEarliest rm_X0_fromEarliest T .int [.ref a, .int i] [(a, .inr (0, [.long b, .int n]))] (S := Int32) (f_X0_fromEarliest b n i) (fun u => u) (fun u => [(a, .inr (0, [.long b, .int n]))]) := by
  refine z_metI (own := RX0) (maxL := 2) rfl (by decide) rfl (Nat.le_of_ble_eq_true rfl) ?_
  intro P0 E0 S0 M0 G0 B0 T0 K0 A9 Q9 C E
  have hx := C.1.1
  have hb := C.1.2.1
  have hown := C.1.2.2.2.1
  have hts := C.1.2.2.2.2
  have hn := C.2.1.2
  have iX0 : ∀ w ∈ u_ws RX0 TX0 2, w ∈ wsX0_fromEarliest := by decide +kernel
  have k13 := hts (.fieldLink RX0 13 "JudgedBits$BitRow" "size" "I") (by decide +kernel)
  change Z P0 l E0 rm_X0_fromEarliest S0 M0 G0 B0 T0 K0 2 T A9 Q9 0 0 [(a, .inr (0, [.long b, .int n]))] 0 [(0, .ref a), (1, .int i)] []
  have zh0 := fe_X0_fromEarliest b n i
  refine Z.of (pc' := 1) (fun _ _ _ hl => lv_aload_n hx hb dX0_fromEarliest_0 rfl (lv_at hl 0 rfl)) ?_
  refine Z.of (pc' := 2) (fun _ _ _ hl => lv_aload_n hx hb dX0_fromEarliest_1 rfl (lv_at hl 0 rfl)) ?_
  refine z_get C iX0 0 1 k13 rfl rfl (by decide) rfl rfl dX0_fromEarliest_2 rfl ?_
  refine Z.of (pc' := 6) (fun _ _ _ _ => lv_iconst (v := 1) hx hb dX0_fromEarliest_5 (by decide)) ?_
  refine Z.of (pc' := 7) (fun _ _ _ hl => lv_isub hx hb dX0_fromEarliest_6) ?_
  refine Z.of (pc' := 8) (fun _ _ _ hl => lv_iload_n hx hb dX0_fromEarliest_7 rfl (lv_at hl 1 rfl)) ?_
  refine Z.of (pc' := 9) (fun _ _ _ hl => lv_isub hx hb dX0_fromEarliest_8) ?_
  refine z_callVi C (c_X0_fromLatest l T a b n ((n - 1) - i)) [0] [] rfl (by decide +kernel) (fun u1 => [(a, .inr (0, [.long b, .int n]))]) (fun _ => rfl) [] rfl (fun _ => rfl) [a] rfl (fun _ => rfl) 1 (fun _ => rfl) (by decide +kernel) (cwV 1 hts gX0_fromEarliest_X0_fromLatest rfl rfl rfl (by decide +kernel) ⟨Nat.le_of_ble_eq_true rfl, Nat.le_of_ble_eq_true rfl⟩) 0 rfl rfl rfl (As := [.int ((n - 1) - i)]) (rest := []) rfl rfl (Nat.le_of_ble_eq_true rfl) dX0_fromEarliest_9 rfl ⟨Nat.zero_le _, Nat.zero_le _⟩ (fun u1 eu1 bu1 => ?_)
  have zh2 := zl_e zh0 eu1
  exact E u1 _ _ _ _ dX0_fromEarliest_12 rfl rfl rfl zh2
def f_X0_takeEarliest (b : Int64) (n : Int32) (many : Int32) : Int32 × Int64 :=
  zl ((b.toUInt64 >>> ((n - many).toInt64.toUInt64 &&& Int64.toUInt64 63)).toInt64 : Int64) fun y1 =>
  (y1.toInt32, b &&& ((1 <<< ((n - many).toInt64 &&& 63)) - 1))
theorem fe_X0_takeEarliest (b : Int64) (n : Int32) (many : Int32) : f_X0_takeEarliest b n many = (
    zl ((b.toUInt64 >>> ((n - many).toInt64.toUInt64 &&& Int64.toUInt64 63)).toInt64 : Int64) fun y1 =>
    (y1.toInt32, b &&& ((1 <<< ((n - many).toInt64 &&& 63)) - 1))
    ) := rfl
abbrev rm_X0_takeEarliest : Room := { frames := 0, cells := 0, slots := 0, locals := 0 }
set_option maxHeartbeats 1000000 in
set_option maxRecDepth 100000 in
theorem c_X0_takeEarliest (l : Launch) (T : zT) (a : Nat) (b : Int64) (n : Int32) (many : Int32) : Ci l yX0_takeEarliest wsX0_takeEarliest rm_X0_takeEarliest T .int [.ref a, .int many] [(a, .inr (0, [.long b, .int n]))] (S := Int32 × Int64) (f_X0_takeEarliest b n many) (fun u => u.1) (fun u => [(a, .inr (0, [.long u.2, .int (n - many)]))]) := by
  refine z_metI (own := RX0) (maxL := 4) rfl (by decide) rfl (Nat.le_of_ble_eq_true rfl) ?_
  intro P0 E0 S0 M0 G0 B0 T0 K0 A9 Q9 C E
  have hx := C.1.1
  have hb := C.1.2.1
  have hown := C.1.2.2.2.1
  have hts := C.1.2.2.2.2
  have hn := C.2.1.2
  have iX0 : ∀ w ∈ u_ws RX0 TX0 2, w ∈ wsX0_takeEarliest := by decide +kernel
  have k7 := hts (.fieldLink RX0 7 "JudgedBits$BitRow" "bits" "J") (by decide +kernel)
  have k13 := hts (.fieldLink RX0 13 "JudgedBits$BitRow" "size" "I") (by decide +kernel)
  change Z P0 l E0 rm_X0_takeEarliest S0 M0 G0 B0 T0 K0 4 T A9 Q9 0 0 [(a, .inr (0, [.long b, .int n]))] 0 [(0, .ref a), (1, .int many)] []
  have zh0 := fe_X0_takeEarliest b n many
  refine Z.of (pc' := 1) (fun _ _ _ hl => lv_aload_n hx hb dX0_takeEarliest_0 rfl (lv_at hl 0 rfl)) ?_
  refine z_get C iX0 0 1 k13 rfl rfl (by decide) rfl rfl dX0_takeEarliest_1 rfl ?_
  refine Z.of (pc' := 5) (fun _ _ _ hl => lv_iload_n hx hb dX0_takeEarliest_4 rfl (lv_at hl 1 rfl)) ?_
  refine Z.of (pc' := 6) (fun _ _ _ hl => lv_isub hx hb dX0_takeEarliest_5) ?_
  refine Z.sto (pc' := 7) (lv' := [(2, .int (n - many)), (0, .ref a), (1, .int many)]) (fun _ _ _ hl => lv_istore_n (lv' := [(2, .int (n - many)), (0, .ref a), (1, .int many)]) hx hb dX0_takeEarliest_6 rfl hl (by decide) rfl) ?_
  refine Z.of (pc' := 8) (fun _ _ _ hl => lv_aload_n hx hb dX0_takeEarliest_7 rfl (lv_at hl 1 rfl)) ?_
  refine z_get C iX0 0 0 k7 rfl rfl (by decide) rfl rfl dX0_takeEarliest_8 rfl ?_
  refine Z.of (pc' := 12) (fun _ _ _ hl => lv_iload_n hx hb dX0_takeEarliest_11 rfl (lv_at hl 0 rfl)) ?_
  refine Z.of (pc' := 13) (fun _ _ _ hl => lv_lushr hx hb dX0_takeEarliest_12 rfl) ?_
  refine Z.topl (fun y1 ey1 => ?_)
  have zh2 := zl_e zh0 ey1
  refine Z.of (pc' := 14) (fun _ _ _ hl => lv_l2i hx hb dX0_takeEarliest_13 rfl) ?_
  refine Z.sto (pc' := 15) (lv' := [(3, .int y1.toInt32), (2, .int (n - many)), (0, .ref a), (1, .int many)]) (fun _ _ _ hl => lv_istore_n (lv' := [(3, .int y1.toInt32), (2, .int (n - many)), (0, .ref a), (1, .int many)]) hx hb dX0_takeEarliest_14 rfl hl (by decide) rfl) ?_
  refine Z.of (pc' := 16) (fun _ _ _ hl => lv_aload_n hx hb dX0_takeEarliest_15 rfl (lv_at hl 2 rfl)) ?_
  refine Z.of (pc' := 17) (fun _ _ _ hl => lv_aload_n hx hb dX0_takeEarliest_16 rfl (lv_at hl 2 rfl)) ?_
  refine z_get C iX0 0 0 k7 rfl rfl (by decide) rfl rfl dX0_takeEarliest_17 rfl ?_
  refine Z.of (pc' := 21) (fun _ _ _ _ => lv_lconst (v := 1) hx hb dX0_takeEarliest_20 rfl) ?_
  refine Z.of (pc' := 22) (fun _ _ _ hl => lv_iload_n hx hb dX0_takeEarliest_21 rfl (lv_at hl 1 rfl)) ?_
  refine Z.of (pc' := 23) (fun _ _ _ hl => lv_lshl hx hb dX0_takeEarliest_22 rfl) ?_
  refine Z.of (pc' := 24) (fun _ _ _ _ => lv_lconst (v := 1) hx hb dX0_takeEarliest_23 rfl) ?_
  refine Z.of (pc' := 25) (fun _ _ _ hl => lv_lsub hx hb dX0_takeEarliest_24) ?_
  refine Z.of (pc' := 26) (fun _ _ _ hl => lv_land hx hb dX0_takeEarliest_25) ?_
  refine z_put C iX0 tyX0_ok nmX0 0 0 k7 rfl rfl (by decide) rfl rfl rfl rfl (Nat.le_of_ble_eq_true rfl) dX0_takeEarliest_26 rfl [(a, .inr (0, [.long (b &&& ((1 <<< ((n - many).toInt64 &&& 63)) - 1)), .int n]))] rfl ?_
  refine Z.of (pc' := 30) (fun _ _ _ hl => lv_aload_n hx hb dX0_takeEarliest_29 rfl (lv_at hl 2 rfl)) ?_
  refine Z.of (pc' := 31) (fun _ _ _ hl => lv_iload_n hx hb dX0_takeEarliest_30 rfl (lv_at hl 1 rfl)) ?_
  refine z_put C iX0 tyX0_ok nmX0 0 1 k13 rfl rfl (by decide) rfl rfl rfl rfl (Nat.le_of_ble_eq_true rfl) dX0_takeEarliest_31 rfl [(a, .inr (0, [.long (b &&& ((1 <<< ((n - many).toInt64 &&& 63)) - 1)), .int (n - many)]))] rfl ?_
  refine Z.of (pc' := 35) (fun _ _ _ hl => lv_iload_n hx hb dX0_takeEarliest_34 rfl (lv_at hl 0 rfl)) ?_
  exact E (y1.toInt32, b &&& ((1 <<< ((n - many).toInt64 &&& 63)) - 1)) _ _ _ _ dX0_takeEarliest_35 rfl rfl rfl zh2
abbrev rm_X4_copyFrom : Room := { frames := 0, cells := 0, slots := 0, locals := 0 }
set_option maxHeartbeats 1000000 in
set_option maxRecDepth 100000 in
theorem c_X4_copyFrom (l : Launch) (T : zT) (a : Nat) (o : Nat) (p : Int32) (j : Int32) (h : Int32) (p2 : Int32) (j2 : Int32) (h2 : Int32) : Cv l yX4_copyFrom wsX4_copyFrom rm_X4_copyFrom T [.ref a, .ref o] [(a, .inr (4, [.int p, .int j, .int h])), (o, .inr (4, [.int p2, .int j2, .int h2]))] (S := Unit) () (fun u => [(a, .inr (4, [.int p2, .int j2, .int h2])), (o, .inr (4, [.int p2, .int j2, .int h2]))]) := by
  refine z_metV (own := RX4) (maxL := 2) rfl (by decide) rfl (Nat.le_of_ble_eq_true rfl) ?_
  intro P0 E0 S0 M0 G0 B0 T0 K0 A9 Q9 C E
  have hx := C.1.1
  have hb := C.1.2.1
  have hown := C.1.2.2.2.1
  have hts := C.1.2.2.2.2
  have hn := C.2.1.2
  have iX4 : ∀ w ∈ u_ws RX4 TX4 3, w ∈ wsX4_copyFrom := by decide +kernel
  have k9 := hts (.fieldLink RX4 9 "JudgedBits$Ring" "jitter" "I") (by decide +kernel)
  have k15 := hts (.fieldLink RX4 15 "JudgedBits$Ring" "phase" "I") (by decide +kernel)
  have k18 := hts (.fieldLink RX4 18 "JudgedBits$Ring" "period" "I") (by decide +kernel)
  change Z P0 l E0 rm_X4_copyFrom S0 M0 G0 B0 T0 K0 2 T A9 Q9 0 0 [(a, .inr (4, [.int p, .int j, .int h])), (o, .inr (4, [.int p2, .int j2, .int h2]))] 0 [(0, .ref a), (1, .ref o)] []
  refine Z.of (pc' := 1) (fun _ _ _ hl => lv_aload_n hx hb dX4_copyFrom_0 rfl (lv_at hl 0 rfl)) ?_
  refine Z.of (pc' := 2) (fun _ _ _ hl => lv_aload_n hx hb dX4_copyFrom_1 rfl (lv_at hl 1 rfl)) ?_
  refine z_get C iX4 1 0 k18 rfl rfl (by decide) rfl rfl dX4_copyFrom_2 rfl ?_
  refine z_put C iX4 tyX4_ok nmX4 0 0 k18 rfl rfl (by decide) rfl rfl rfl rfl (Nat.le_of_ble_eq_true rfl) dX4_copyFrom_5 rfl [(a, .inr (4, [.int p2, .int j, .int h])), (o, .inr (4, [.int p2, .int j2, .int h2]))] rfl ?_
  refine Z.of (pc' := 9) (fun _ _ _ hl => lv_aload_n hx hb dX4_copyFrom_8 rfl (lv_at hl 0 rfl)) ?_
  refine Z.of (pc' := 10) (fun _ _ _ hl => lv_aload_n hx hb dX4_copyFrom_9 rfl (lv_at hl 1 rfl)) ?_
  refine z_get C iX4 1 1 k9 rfl rfl (by decide) rfl rfl dX4_copyFrom_10 rfl ?_
  refine z_put C iX4 tyX4_ok nmX4 0 1 k9 rfl rfl (by decide) rfl rfl rfl rfl (Nat.le_of_ble_eq_true rfl) dX4_copyFrom_13 rfl [(a, .inr (4, [.int p2, .int j2, .int h])), (o, .inr (4, [.int p2, .int j2, .int h2]))] rfl ?_
  refine Z.of (pc' := 17) (fun _ _ _ hl => lv_aload_n hx hb dX4_copyFrom_16 rfl (lv_at hl 0 rfl)) ?_
  refine Z.of (pc' := 18) (fun _ _ _ hl => lv_aload_n hx hb dX4_copyFrom_17 rfl (lv_at hl 1 rfl)) ?_
  refine z_get C iX4 1 2 k15 rfl rfl (by decide) rfl rfl dX4_copyFrom_18 rfl ?_
  refine z_put C iX4 tyX4_ok nmX4 0 2 k15 rfl rfl (by decide) rfl rfl rfl rfl (Nat.le_of_ble_eq_true rfl) dX4_copyFrom_21 rfl [(a, .inr (4, [.int p2, .int j2, .int h2])), (o, .inr (4, [.int p2, .int j2, .int h2]))] rfl ?_
  exact E () _ _ _ dX4_copyFrom_24  rfl rfl
def f_X4_isHigh (p : Int32) (j : Int32) (h : Int32) : Int32 :=
  if (p / 2) ≤ h then
    0
  else
    1
theorem fe_X4_isHigh (p : Int32) (j : Int32) (h : Int32) : f_X4_isHigh p j h = (
    if (p / 2) ≤ h then
      0
    else
      1
    ) := rfl
abbrev rm_X4_isHigh : Room := { frames := 0, cells := 0, slots := 0, locals := 0 }
set_option maxHeartbeats 1000000 in
set_option maxRecDepth 100000 in
theorem c_X4_isHigh (l : Launch) (T : zT) (a : Nat) (p : Int32) (j : Int32) (h : Int32) : Ci l yX4_isHigh wsX4_isHigh rm_X4_isHigh T .boolean [.ref a] [(a, .inr (4, [.int p, .int j, .int h]))] (S := Int32) (f_X4_isHigh p j h) (fun u => u) (fun u => [(a, .inr (4, [.int p, .int j, .int h]))]) := by
  refine z_metI (own := RX4) (maxL := 1) rfl (by decide) rfl (Nat.le_of_ble_eq_true rfl) ?_
  intro P0 E0 S0 M0 G0 B0 T0 K0 A9 Q9 C E
  have hx := C.1.1
  have hb := C.1.2.1
  have hown := C.1.2.2.2.1
  have hts := C.1.2.2.2.2
  have hn := C.2.1.2
  have iX4 : ∀ w ∈ u_ws RX4 TX4 3, w ∈ wsX4_isHigh := by decide +kernel
  have k15 := hts (.fieldLink RX4 15 "JudgedBits$Ring" "phase" "I") (by decide +kernel)
  have k18 := hts (.fieldLink RX4 18 "JudgedBits$Ring" "period" "I") (by decide +kernel)
  change Z P0 l E0 rm_X4_isHigh S0 M0 G0 B0 T0 K0 1 T A9 Q9 0 0 [(a, .inr (4, [.int p, .int j, .int h]))] 0 [(0, .ref a)] []
  have zh0 := fe_X4_isHigh p j h
  refine Z.of (pc' := 1) (fun _ _ _ hl => lv_aload_n hx hb dX4_isHigh_0 rfl (lv_at hl 0 rfl)) ?_
  refine z_get C iX4 0 2 k15 rfl rfl (by decide) rfl rfl dX4_isHigh_1 rfl ?_
  refine Z.of (pc' := 5) (fun _ _ _ hl => lv_aload_n hx hb dX4_isHigh_4 rfl (lv_at hl 0 rfl)) ?_
  refine z_get C iX4 0 0 k18 rfl rfl (by decide) rfl rfl dX4_isHigh_5 rfl ?_
  refine Z.of (pc' := 9) (fun _ _ _ _ => lv_iconst (v := 2) hx hb dX4_isHigh_8 (by decide)) ?_
  refine Z.of (pc' := 10) (fun _ _ _ hl => lv_idiv hx hb dX4_isHigh_9 (by decide)) ?_
  refine Z.two (pt := 17) (pf := 13) (fun _ _ _ _ => lv_icmp_ge hx hb dX4_isHigh_10 (by decide)) (fun c1 => ?_) (fun c1 => ?_)
  · have zh2 := zh0.trans (if_pos c1)
    refine Z.of (pc' := 18) (fun _ _ _ _ => lv_iconst (v := 0) hx hb dX4_isHigh_17 (by decide)) ?_
    exact E 0 _ _ _ _ dX4_isHigh_18 rfl rfl rfl zh2
  · have zh3 := zh0.trans (if_neg c1)
    refine Z.of (pc' := 14) (fun _ _ _ _ => lv_iconst (v := 1) hx hb dX4_isHigh_13 (by decide)) ?_
    refine Z.of (pc' := 18) (fun _ _ _ _ => lv_goto hx hb dX4_isHigh_14 (by decide)) ?_
    exact E 1 _ _ _ _ dX4_isHigh_18 rfl rfl rfl zh3
def f_X4_advance (p : Int32) (j : Int32) (h : Int32) (step : Int32) (n : Int32) : Int32 :=
  zl (f_X9_remainder n (j + 1)) fun u1 =>
  zl (f_X9_remainder ((h + step) + u1) p) fun u3 =>
  u3
theorem fe_X4_advance (p : Int32) (j : Int32) (h : Int32) (step : Int32) (n : Int32) : f_X4_advance p j h step n = (
    zl (f_X9_remainder n (j + 1)) fun u1 =>
    zl (f_X9_remainder ((h + step) + u1) p) fun u3 =>
    u3
    ) := rfl
abbrev rm_X4_advance : Room := { frames := 1, cells := 0, slots := 0, locals := 21 }
set_option maxHeartbeats 1000000 in
set_option maxRecDepth 100000 in
theorem c_X4_advance (l : Launch) (T : zT) (a : Nat) (p : Int32) (j : Int32) (h : Int32) (step : Int32) (n : Int32) : Cv l yX4_advance wsX4_advance rm_X4_advance T [.ref a, .int step, .int n] [(a, .inr (4, [.int p, .int j, .int h]))] (S := Int32) (f_X4_advance p j h step n) (fun u => [(a, .inr (4, [.int p, .int j, .int u]))]) := by
  refine z_metV (own := RX4) (maxL := 3) rfl (by decide) rfl (Nat.le_of_ble_eq_true rfl) ?_
  intro P0 E0 S0 M0 G0 B0 T0 K0 A9 Q9 C E
  have hx := C.1.1
  have hb := C.1.2.1
  have hown := C.1.2.2.2.1
  have hts := C.1.2.2.2.2
  have hn := C.2.1.2
  have iX4 : ∀ w ∈ u_ws RX4 TX4 3, w ∈ wsX4_advance := by decide +kernel
  have k9 := hts (.fieldLink RX4 9 "JudgedBits$Ring" "jitter" "I") (by decide +kernel)
  have k15 := hts (.fieldLink RX4 15 "JudgedBits$Ring" "phase" "I") (by decide +kernel)
  have k18 := hts (.fieldLink RX4 18 "JudgedBits$Ring" "period" "I") (by decide +kernel)
  change Z P0 l E0 rm_X4_advance S0 M0 G0 B0 T0 K0 3 T A9 Q9 0 0 [(a, .inr (4, [.int p, .int j, .int h]))] 0 [(0, .ref a), (1, .int step), (2, .int n)] []
  have zh0 := fe_X4_advance p j h step n
  refine Z.of (pc' := 1) (fun _ _ _ hl => lv_aload_n hx hb dX4_advance_0 rfl (lv_at hl 0 rfl)) ?_
  refine Z.of (pc' := 2) (fun _ _ _ hl => lv_aload_n hx hb dX4_advance_1 rfl (lv_at hl 0 rfl)) ?_
  refine z_get C iX4 0 2 k15 rfl rfl (by decide) rfl rfl dX4_advance_2 rfl ?_
  refine Z.of (pc' := 6) (fun _ _ _ hl => lv_iload_n hx hb dX4_advance_5 rfl (lv_at hl 1 rfl)) ?_
  refine Z.of (pc' := 7) (fun _ _ _ hl => lv_iadd hx hb dX4_advance_6) ?_
  refine Z.of (pc' := 8) (fun _ _ _ hl => lv_iload_n hx hb dX4_advance_7 rfl (lv_at hl 2 rfl)) ?_
  refine Z.of (pc' := 9) (fun _ _ _ hl => lv_aload_n hx hb dX4_advance_8 rfl (lv_at hl 0 rfl)) ?_
  refine z_get C iX4 0 1 k9 rfl rfl (by decide) rfl rfl dX4_advance_9 rfl ?_
  refine Z.of (pc' := 13) (fun _ _ _ _ => lv_iconst (v := 1) hx hb dX4_advance_12 (by decide)) ?_
  refine Z.of (pc' := 14) (fun _ _ _ hl => lv_iadd hx hb dX4_advance_13) ?_
  refine z_callNi C (c_X9_remainder l T n (j + 1)) ⟨va_cnB 2 hts gX4_advance_X9_remainder_n21 rfl rfl rfl (hn.2.2.1) (hts (.initialized RX9) (by decide +kernel)) (by decide +kernel) ⟨Nat.le_of_ble_eq_true rfl, Nat.le_of_ble_eq_true rfl⟩, hts (.static yX9_remainder) (by decide +kernel), trivial⟩ (As := [.int n, .int (j + 1)]) (rest := [.int (h + step), .ref a]) rfl rfl (Nat.le_of_ble_eq_true rfl) dX4_advance_14 rfl ⟨Nat.zero_le _, Nat.zero_le _⟩ (fun u1 eu1 bu1 => ?_)
  have zh2 := zl_e zh0 eu1
  refine Z.of (pc' := 18) (fun _ _ _ hl => lv_iadd hx hb dX4_advance_17) ?_
  refine Z.of (pc' := 19) (fun _ _ _ hl => lv_aload_n hx hb dX4_advance_18 rfl (lv_at hl 0 rfl)) ?_
  refine z_get C iX4 0 0 k18 rfl rfl (by decide) rfl rfl dX4_advance_19 rfl ?_
  refine z_callNi C (c_X9_remainder l T ((h + step) + u1) p) ⟨va_cnB 2 hts gX4_advance_X9_remainder_n21 rfl rfl rfl (hn.2.2.1) (hts (.initialized RX9) (by decide +kernel)) (by decide +kernel) ⟨Nat.le_of_ble_eq_true rfl, Nat.le_of_ble_eq_true rfl⟩, hts (.static yX9_remainder) (by decide +kernel), trivial⟩ (As := [.int ((h + step) + u1), .int p]) (rest := [.ref a]) rfl rfl (Nat.le_of_ble_eq_true rfl) dX4_advance_22 rfl ⟨Nat.zero_le _, Nat.zero_le _⟩ (fun u3 eu3 bu3 => ?_)
  have zh4 := zl_e zh2 eu3
  refine z_put C iX4 tyX4_ok nmX4 0 2 k15 rfl rfl (by decide) rfl rfl rfl rfl (Nat.le_of_ble_eq_true rfl) dX4_advance_25 rfl [(a, .inr (4, [.int p, .int j, .int u3]))] rfl ?_
  exact E u3 _ _ _ dX4_advance_28  rfl zh4
def f_X4_lockOn (p : Int32) (j : Int32) (h : Int32) (p2 : Int32) (j2 : Int32) (h2 : Int32) : Int32 :=
  zl (f_X9_remainder h2 p) fun u1 =>
  u1
theorem fe_X4_lockOn (p : Int32) (j : Int32) (h : Int32) (p2 : Int32) (j2 : Int32) (h2 : Int32) : f_X4_lockOn p j h p2 j2 h2 = (
    zl (f_X9_remainder h2 p) fun u1 =>
    u1
    ) := rfl
abbrev rm_X4_lockOn : Room := { frames := 1, cells := 0, slots := 0, locals := 21 }
set_option maxHeartbeats 1000000 in
set_option maxRecDepth 100000 in
theorem c_X4_lockOn (l : Launch) (T : zT) (a : Nat) (o : Nat) (p : Int32) (j : Int32) (h : Int32) (p2 : Int32) (j2 : Int32) (h2 : Int32) : Cv l yX4_lockOn wsX4_lockOn rm_X4_lockOn T [.ref a, .ref o] [(a, .inr (4, [.int p, .int j, .int h])), (o, .inr (4, [.int p2, .int j2, .int h2]))] (S := Int32) (f_X4_lockOn p j h p2 j2 h2) (fun u => [(a, .inr (4, [.int p, .int j, .int u])), (o, .inr (4, [.int p2, .int j2, .int h2]))]) := by
  refine z_metV (own := RX4) (maxL := 2) rfl (by decide) rfl (Nat.le_of_ble_eq_true rfl) ?_
  intro P0 E0 S0 M0 G0 B0 T0 K0 A9 Q9 C E
  have hx := C.1.1
  have hb := C.1.2.1
  have hown := C.1.2.2.2.1
  have hts := C.1.2.2.2.2
  have hn := C.2.1.2
  have iX4 : ∀ w ∈ u_ws RX4 TX4 3, w ∈ wsX4_lockOn := by decide +kernel
  have k15 := hts (.fieldLink RX4 15 "JudgedBits$Ring" "phase" "I") (by decide +kernel)
  have k18 := hts (.fieldLink RX4 18 "JudgedBits$Ring" "period" "I") (by decide +kernel)
  change Z P0 l E0 rm_X4_lockOn S0 M0 G0 B0 T0 K0 2 T A9 Q9 0 0 [(a, .inr (4, [.int p, .int j, .int h])), (o, .inr (4, [.int p2, .int j2, .int h2]))] 0 [(0, .ref a), (1, .ref o)] []
  have zh0 := fe_X4_lockOn p j h p2 j2 h2
  refine Z.of (pc' := 1) (fun _ _ _ hl => lv_aload_n hx hb dX4_lockOn_0 rfl (lv_at hl 0 rfl)) ?_
  refine Z.of (pc' := 2) (fun _ _ _ hl => lv_aload_n hx hb dX4_lockOn_1 rfl (lv_at hl 1 rfl)) ?_
  refine z_get C iX4 1 2 k15 rfl rfl (by decide) rfl rfl dX4_lockOn_2 rfl ?_
  refine Z.of (pc' := 6) (fun _ _ _ hl => lv_aload_n hx hb dX4_lockOn_5 rfl (lv_at hl 0 rfl)) ?_
  refine z_get C iX4 0 0 k18 rfl rfl (by decide) rfl rfl dX4_lockOn_6 rfl ?_
  refine z_callNi C (c_X9_remainder l T h2 p) ⟨va_cnB 2 hts gX4_lockOn_X9_remainder_n21 rfl rfl rfl (hn.2.2.1) (hts (.initialized RX9) (by decide +kernel)) (by decide +kernel) ⟨Nat.le_of_ble_eq_true rfl, Nat.le_of_ble_eq_true rfl⟩, hts (.static yX9_remainder) (by decide +kernel), trivial⟩ (As := [.int h2, .int p]) (rest := [.ref a]) rfl rfl (Nat.le_of_ble_eq_true rfl) dX4_lockOn_9 rfl ⟨Nat.zero_le _, Nat.zero_le _⟩ (fun u1 eu1 bu1 => ?_)
  have zh2 := zl_e zh0 eu1
  refine z_put C iX4 tyX4_ok nmX4 0 2 k15 rfl rfl (by decide) rfl rfl rfl rfl (Nat.le_of_ble_eq_true rfl) dX4_lockOn_12 rfl [(a, .inr (4, [.int p, .int j, .int u1])), (o, .inr (4, [.int p2, .int j2, .int h2]))] rfl ?_
  exact E u1 _ _ _ dX4_lockOn_15  rfl zh2
def f_X4_tell (p : Int32) (j : Int32) (h : Int32) (what : Int32) : Int32 :=
  if what = 0 then
    p
  else
    if what = 1 then
      j
    else
      if what = 2 then
        h
      else
        if what = 3 then
          zl (f_X4_isHigh p j h) fun u13 =>
          if u13 = 0 then
            0
          else
            1
        else
          (-1000001)
theorem fe_X4_tell (p : Int32) (j : Int32) (h : Int32) (what : Int32) : f_X4_tell p j h what = (
    if what = 0 then
      p
    else
      if what = 1 then
        j
      else
        if what = 2 then
          h
        else
          if what = 3 then
            zl (f_X4_isHigh p j h) fun u13 =>
            if u13 = 0 then
              0
            else
              1
          else
            (-1000001)
    ) := rfl
abbrev rm_X4_tell : Room := { frames := 1, cells := 0, slots := 0, locals := 20 }
set_option maxHeartbeats 1000000 in
set_option maxRecDepth 100000 in
theorem c_X4_tell (l : Launch) (T : zT) (a : Nat) (p : Int32) (j : Int32) (h : Int32) (what : Int32) : Ci l yX4_tell wsX4_tell rm_X4_tell T .int [.ref a, .int what] [(a, .inr (4, [.int p, .int j, .int h]))] (S := Int32) (f_X4_tell p j h what) (fun u => u) (fun u => [(a, .inr (4, [.int p, .int j, .int h]))]) := by
  refine z_metI (own := RX4) (maxL := 2) rfl (by decide) rfl (Nat.le_of_ble_eq_true rfl) ?_
  intro P0 E0 S0 M0 G0 B0 T0 K0 A9 Q9 C E
  have hx := C.1.1
  have hb := C.1.2.1
  have hown := C.1.2.2.2.1
  have hts := C.1.2.2.2.2
  have hn := C.2.1.2
  have iX4 : ∀ w ∈ u_ws RX4 TX4 3, w ∈ wsX4_tell := by decide +kernel
  have k9 := hts (.fieldLink RX4 9 "JudgedBits$Ring" "jitter" "I") (by decide +kernel)
  have k15 := hts (.fieldLink RX4 15 "JudgedBits$Ring" "phase" "I") (by decide +kernel)
  have k18 := hts (.fieldLink RX4 18 "JudgedBits$Ring" "period" "I") (by decide +kernel)
  change Z P0 l E0 rm_X4_tell S0 M0 G0 B0 T0 K0 2 T A9 Q9 0 0 [(a, .inr (4, [.int p, .int j, .int h]))] 0 [(0, .ref a), (1, .int what)] []
  have zh0 := fe_X4_tell p j h what
  refine Z.of (pc' := 1) (fun _ _ _ hl => lv_iload_n hx hb dX4_tell_0 rfl (lv_at hl 1 rfl)) ?_
  by_cases c1 : what = 0
  · have zh5 := zh0.trans (if_pos c1)
    refine Z.of (pc' := 32) (fun _ _ _ _ => lv_tableIn (off := 31) hx hb dX4_tell_1 (by rw [c1]; decide) (by rw [c1]; decide) (by rw [c1]; rfl) (by decide)) ?_
    refine Z.of (pc' := 33) (fun _ _ _ hl => lv_aload_n hx hb dX4_tell_32 rfl (lv_at hl 0 rfl)) ?_
    refine z_get C iX4 0 0 k18 rfl rfl (by decide) rfl rfl dX4_tell_33 rfl ?_
    exact E p _ _ _ _ dX4_tell_36 rfl rfl rfl zh5
  · have zh6 := zh0.trans (if_neg c1)
    by_cases c2 : what = 1
    · have zh7 := zh6.trans (if_pos c2)
      refine Z.of (pc' := 37) (fun _ _ _ _ => lv_tableIn (off := 36) hx hb dX4_tell_1 (by rw [c2]; decide) (by rw [c2]; decide) (by rw [c2]; rfl) (by decide)) ?_
      refine Z.of (pc' := 38) (fun _ _ _ hl => lv_aload_n hx hb dX4_tell_37 rfl (lv_at hl 0 rfl)) ?_
      refine z_get C iX4 0 1 k9 rfl rfl (by decide) rfl rfl dX4_tell_38 rfl ?_
      exact E j _ _ _ _ dX4_tell_41 rfl rfl rfl zh7
    · have zh8 := zh6.trans (if_neg c2)
      by_cases c3 : what = 2
      · have zh9 := zh8.trans (if_pos c3)
        refine Z.of (pc' := 42) (fun _ _ _ _ => lv_tableIn (off := 41) hx hb dX4_tell_1 (by rw [c3]; decide) (by rw [c3]; decide) (by rw [c3]; rfl) (by decide)) ?_
        refine Z.of (pc' := 43) (fun _ _ _ hl => lv_aload_n hx hb dX4_tell_42 rfl (lv_at hl 0 rfl)) ?_
        refine z_get C iX4 0 2 k15 rfl rfl (by decide) rfl rfl dX4_tell_43 rfl ?_
        exact E h _ _ _ _ dX4_tell_46 rfl rfl rfl zh9
      · have zh10 := zh8.trans (if_neg c3)
        by_cases c4 : what = 3
        · have zh11 := zh10.trans (if_pos c4)
          refine Z.of (pc' := 47) (fun _ _ _ _ => lv_tableIn (off := 46) hx hb dX4_tell_1 (by rw [c4]; decide) (by rw [c4]; decide) (by rw [c4]; rfl) (by decide)) ?_
          refine Z.of (pc' := 48) (fun _ _ _ hl => lv_aload_n hx hb dX4_tell_47 rfl (lv_at hl 0 rfl)) ?_
          refine z_callVi C (c_X4_isHigh l T a p j h) [0] [] rfl (by decide +kernel) (fun u13 => [(a, .inr (4, [.int p, .int j, .int h]))]) (fun _ => rfl) [] rfl (fun _ => rfl) [a] rfl (fun _ => rfl) 1 (fun _ => rfl) (by decide +kernel) (cwV 0 hts gX4_tell_X4_isHigh rfl rfl rfl (by decide +kernel) ⟨Nat.le_of_ble_eq_true rfl, Nat.le_of_ble_eq_true rfl⟩) 0 rfl rfl rfl (As := []) (rest := []) rfl rfl (Nat.le_of_ble_eq_true rfl) dX4_tell_48 rfl ⟨Nat.zero_le _, Nat.zero_le _⟩ (fun u13 eu13 bu13 => ?_)
          have zh14 := zl_e zh11 eu13
          refine Z.two (pt := 58) (pf := 54) (fun _ _ _ _ => lv_if_eq hx hb dX4_tell_51 (by decide)) (fun c15 => ?_) (fun c15 => ?_)
          · have zh16 := zh14.trans (if_pos c15)
            refine Z.of (pc' := 59) (fun _ _ _ _ => lv_iconst (v := 0) hx hb dX4_tell_58 (by decide)) ?_
            exact E 0 _ _ _ _ dX4_tell_59 rfl rfl rfl zh16
          · have zh17 := zh14.trans (if_neg c15)
            refine Z.of (pc' := 55) (fun _ _ _ _ => lv_iconst (v := 1) hx hb dX4_tell_54 (by decide)) ?_
            refine Z.of (pc' := 59) (fun _ _ _ _ => lv_goto hx hb dX4_tell_55 (by decide)) ?_
            exact E 1 _ _ _ _ dX4_tell_59 rfl rfl rfl zh17
        · have zh12 := zh10.trans (if_neg c4)
          refine Z.of (pc' := 60) (fun _ _ _ _ => lv_tableOut hx hb dX4_tell_1 (zsw_out (n := 3) (by decide) (fun k hk => by match k, hk with | 0, _ => exact c1 | 1, _ => exact c2 | 2, _ => exact c3 | 3, _ => exact c4 | k + 4, h => omega)) (by decide)) ?_
          refine Z.of (pc' := 62) (fun _ _ _ _ => lv_ldc hx hb hown (hts (.constant RX4 29 (-1000001)) (by decide +kernel)) dX4_tell_60) ?_
          exact E (-1000001) _ _ _ _ dX4_tell_62 rfl rfl rfl zh12
abbrev rm_X5_copyFrom : Room := { frames := 0, cells := 0, slots := 0, locals := 0 }
set_option maxHeartbeats 1000000 in
set_option maxRecDepth 100000 in
theorem c_X5_copyFrom (l : Launch) (T : zT) (a : Nat) (o : Nat) (s0 : Int32) (s1 : Int32) (s2 : Int32) (s3 : Int32) (t0 : Int32) (t1 : Int32) (t2 : Int32) (t3 : Int32) : Cv l yX5_copyFrom wsX5_copyFrom rm_X5_copyFrom T [.ref a, .ref o] [(a, .inr (5, [.int s0, .int s1, .int s2, .int s3])), (o, .inr (5, [.int t0, .int t1, .int t2, .int t3]))] (S := Unit) () (fun u => [(a, .inr (5, [.int t0, .int t1, .int t2, .int t3])), (o, .inr (5, [.int t0, .int t1, .int t2, .int t3]))]) := by
  refine z_metV (own := RX5) (maxL := 2) rfl (by decide) rfl (Nat.le_of_ble_eq_true rfl) ?_
  intro P0 E0 S0 M0 G0 B0 T0 K0 A9 Q9 C E
  have hx := C.1.1
  have hb := C.1.2.1
  have hown := C.1.2.2.2.1
  have hts := C.1.2.2.2.2
  have hn := C.2.1.2
  have iX5 : ∀ w ∈ u_ws RX5 TX5 4, w ∈ wsX5_copyFrom := by decide +kernel
  have k9 := hts (.fieldLink RX5 9 "JudgedBits$Settings" "step" "I") (by decide +kernel)
  have k15 := hts (.fieldLink RX5 15 "JudgedBits$Settings" "lock" "I") (by decide +kernel)
  have k18 := hts (.fieldLink RX5 18 "JudgedBits$Settings" "longestRun" "I") (by decide +kernel)
  have k21 := hts (.fieldLink RX5 21 "JudgedBits$Settings" "leastOnes" "I") (by decide +kernel)
  change Z P0 l E0 rm_X5_copyFrom S0 M0 G0 B0 T0 K0 2 T A9 Q9 0 0 [(a, .inr (5, [.int s0, .int s1, .int s2, .int s3])), (o, .inr (5, [.int t0, .int t1, .int t2, .int t3]))] 0 [(0, .ref a), (1, .ref o)] []
  refine Z.of (pc' := 1) (fun _ _ _ hl => lv_aload_n hx hb dX5_copyFrom_0 rfl (lv_at hl 0 rfl)) ?_
  refine Z.of (pc' := 2) (fun _ _ _ hl => lv_aload_n hx hb dX5_copyFrom_1 rfl (lv_at hl 1 rfl)) ?_
  refine z_get C iX5 1 0 k9 rfl rfl (by decide) rfl rfl dX5_copyFrom_2 rfl ?_
  refine z_put C iX5 tyX5_ok nmX5 0 0 k9 rfl rfl (by decide) rfl rfl rfl rfl (Nat.le_of_ble_eq_true rfl) dX5_copyFrom_5 rfl [(a, .inr (5, [.int t0, .int s1, .int s2, .int s3])), (o, .inr (5, [.int t0, .int t1, .int t2, .int t3]))] rfl ?_
  refine Z.of (pc' := 9) (fun _ _ _ hl => lv_aload_n hx hb dX5_copyFrom_8 rfl (lv_at hl 0 rfl)) ?_
  refine Z.of (pc' := 10) (fun _ _ _ hl => lv_aload_n hx hb dX5_copyFrom_9 rfl (lv_at hl 1 rfl)) ?_
  refine z_get C iX5 1 1 k15 rfl rfl (by decide) rfl rfl dX5_copyFrom_10 rfl ?_
  refine z_put C iX5 tyX5_ok nmX5 0 1 k15 rfl rfl (by decide) rfl rfl rfl rfl (Nat.le_of_ble_eq_true rfl) dX5_copyFrom_13 rfl [(a, .inr (5, [.int t0, .int t1, .int s2, .int s3])), (o, .inr (5, [.int t0, .int t1, .int t2, .int t3]))] rfl ?_
  refine Z.of (pc' := 17) (fun _ _ _ hl => lv_aload_n hx hb dX5_copyFrom_16 rfl (lv_at hl 0 rfl)) ?_
  refine Z.of (pc' := 18) (fun _ _ _ hl => lv_aload_n hx hb dX5_copyFrom_17 rfl (lv_at hl 1 rfl)) ?_
  refine z_get C iX5 1 2 k18 rfl rfl (by decide) rfl rfl dX5_copyFrom_18 rfl ?_
  refine z_put C iX5 tyX5_ok nmX5 0 2 k18 rfl rfl (by decide) rfl rfl rfl rfl (Nat.le_of_ble_eq_true rfl) dX5_copyFrom_21 rfl [(a, .inr (5, [.int t0, .int t1, .int t2, .int s3])), (o, .inr (5, [.int t0, .int t1, .int t2, .int t3]))] rfl ?_
  refine Z.of (pc' := 25) (fun _ _ _ hl => lv_aload_n hx hb dX5_copyFrom_24 rfl (lv_at hl 0 rfl)) ?_
  refine Z.of (pc' := 26) (fun _ _ _ hl => lv_aload_n hx hb dX5_copyFrom_25 rfl (lv_at hl 1 rfl)) ?_
  refine z_get C iX5 1 3 k21 rfl rfl (by decide) rfl rfl dX5_copyFrom_26 rfl ?_
  refine z_put C iX5 tyX5_ok nmX5 0 3 k21 rfl rfl (by decide) rfl rfl rfl rfl (Nat.le_of_ble_eq_true rfl) dX5_copyFrom_29 rfl [(a, .inr (5, [.int t0, .int t1, .int t2, .int t3])), (o, .inr (5, [.int t0, .int t1, .int t2, .int t3]))] rfl ?_
  exact E () _ _ _ dX5_copyFrom_32  rfl rfl
def f_X5_tell (s0 : Int32) (s1 : Int32) (s2 : Int32) (s3 : Int32) (what : Int32) : Int32 :=
  if what = 0 then
    s0
  else
    if what = 1 then
      s1
    else
      if what = 2 then
        s2
      else
        if what = 3 then
          s3
        else
          (-1000001)
theorem fe_X5_tell (s0 : Int32) (s1 : Int32) (s2 : Int32) (s3 : Int32) (what : Int32) : f_X5_tell s0 s1 s2 s3 what = (
    if what = 0 then
      s0
    else
      if what = 1 then
        s1
      else
        if what = 2 then
          s2
        else
          if what = 3 then
            s3
          else
            (-1000001)
    ) := rfl
abbrev rm_X5_tell : Room := { frames := 0, cells := 0, slots := 0, locals := 0 }
set_option maxHeartbeats 1000000 in
set_option maxRecDepth 100000 in
theorem c_X5_tell (l : Launch) (T : zT) (a : Nat) (s0 : Int32) (s1 : Int32) (s2 : Int32) (s3 : Int32) (what : Int32) : Ci l yX5_tell wsX5_tell rm_X5_tell T .int [.ref a, .int what] [(a, .inr (5, [.int s0, .int s1, .int s2, .int s3]))] (S := Int32) (f_X5_tell s0 s1 s2 s3 what) (fun u => u) (fun u => [(a, .inr (5, [.int s0, .int s1, .int s2, .int s3]))]) := by
  refine z_metI (own := RX5) (maxL := 2) rfl (by decide) rfl (Nat.le_of_ble_eq_true rfl) ?_
  intro P0 E0 S0 M0 G0 B0 T0 K0 A9 Q9 C E
  have hx := C.1.1
  have hb := C.1.2.1
  have hown := C.1.2.2.2.1
  have hts := C.1.2.2.2.2
  have hn := C.2.1.2
  have iX5 : ∀ w ∈ u_ws RX5 TX5 4, w ∈ wsX5_tell := by decide +kernel
  have k9 := hts (.fieldLink RX5 9 "JudgedBits$Settings" "step" "I") (by decide +kernel)
  have k15 := hts (.fieldLink RX5 15 "JudgedBits$Settings" "lock" "I") (by decide +kernel)
  have k18 := hts (.fieldLink RX5 18 "JudgedBits$Settings" "longestRun" "I") (by decide +kernel)
  have k21 := hts (.fieldLink RX5 21 "JudgedBits$Settings" "leastOnes" "I") (by decide +kernel)
  change Z P0 l E0 rm_X5_tell S0 M0 G0 B0 T0 K0 2 T A9 Q9 0 0 [(a, .inr (5, [.int s0, .int s1, .int s2, .int s3]))] 0 [(0, .ref a), (1, .int what)] []
  have zh0 := fe_X5_tell s0 s1 s2 s3 what
  refine Z.of (pc' := 1) (fun _ _ _ hl => lv_iload_n hx hb dX5_tell_0 rfl (lv_at hl 1 rfl)) ?_
  by_cases c1 : what = 0
  · have zh5 := zh0.trans (if_pos c1)
    refine Z.of (pc' := 32) (fun _ _ _ _ => lv_tableIn (off := 31) hx hb dX5_tell_1 (by rw [c1]; decide) (by rw [c1]; decide) (by rw [c1]; rfl) (by decide)) ?_
    refine Z.of (pc' := 33) (fun _ _ _ hl => lv_aload_n hx hb dX5_tell_32 rfl (lv_at hl 0 rfl)) ?_
    refine z_get C iX5 0 0 k9 rfl rfl (by decide) rfl rfl dX5_tell_33 rfl ?_
    exact E s0 _ _ _ _ dX5_tell_36 rfl rfl rfl zh5
  · have zh6 := zh0.trans (if_neg c1)
    by_cases c2 : what = 1
    · have zh7 := zh6.trans (if_pos c2)
      refine Z.of (pc' := 37) (fun _ _ _ _ => lv_tableIn (off := 36) hx hb dX5_tell_1 (by rw [c2]; decide) (by rw [c2]; decide) (by rw [c2]; rfl) (by decide)) ?_
      refine Z.of (pc' := 38) (fun _ _ _ hl => lv_aload_n hx hb dX5_tell_37 rfl (lv_at hl 0 rfl)) ?_
      refine z_get C iX5 0 1 k15 rfl rfl (by decide) rfl rfl dX5_tell_38 rfl ?_
      exact E s1 _ _ _ _ dX5_tell_41 rfl rfl rfl zh7
    · have zh8 := zh6.trans (if_neg c2)
      by_cases c3 : what = 2
      · have zh9 := zh8.trans (if_pos c3)
        refine Z.of (pc' := 42) (fun _ _ _ _ => lv_tableIn (off := 41) hx hb dX5_tell_1 (by rw [c3]; decide) (by rw [c3]; decide) (by rw [c3]; rfl) (by decide)) ?_
        refine Z.of (pc' := 43) (fun _ _ _ hl => lv_aload_n hx hb dX5_tell_42 rfl (lv_at hl 0 rfl)) ?_
        refine z_get C iX5 0 2 k18 rfl rfl (by decide) rfl rfl dX5_tell_43 rfl ?_
        exact E s2 _ _ _ _ dX5_tell_46 rfl rfl rfl zh9
      · have zh10 := zh8.trans (if_neg c3)
        by_cases c4 : what = 3
        · have zh11 := zh10.trans (if_pos c4)
          refine Z.of (pc' := 47) (fun _ _ _ _ => lv_tableIn (off := 46) hx hb dX5_tell_1 (by rw [c4]; decide) (by rw [c4]; decide) (by rw [c4]; rfl) (by decide)) ?_
          refine Z.of (pc' := 48) (fun _ _ _ hl => lv_aload_n hx hb dX5_tell_47 rfl (lv_at hl 0 rfl)) ?_
          refine z_get C iX5 0 3 k21 rfl rfl (by decide) rfl rfl dX5_tell_48 rfl ?_
          exact E s3 _ _ _ _ dX5_tell_51 rfl rfl rfl zh11
        · have zh12 := zh10.trans (if_neg c4)
          refine Z.of (pc' := 52) (fun _ _ _ _ => lv_tableOut hx hb dX5_tell_1 (zsw_out (n := 3) (by decide) (fun k hk => by match k, hk with | 0, _ => exact c1 | 1, _ => exact c2 | 2, _ => exact c3 | 3, _ => exact c4 | k + 4, h => omega)) (by decide)) ?_
          refine Z.of (pc' := 54) (fun _ _ _ _ => lv_ldc hx hb hown (hts (.constant RX5 24 (-1000001)) (by decide +kernel)) dX5_tell_52) ?_
          exact E (-1000001) _ _ _ _ dX5_tell_54 rfl rfl rfl zh12
def f_X5_isAllowed (what : Int32) (value : Int32) : Int32 :=
  if what = 0 then
    zl (f_X9_isWithin value 1 500) fun u7 =>
    u7
  else
    if what = 1 then
      zl (f_X9_isWithin value 0 50) fun u11 =>
      u11
    else
      if what = 2 then
        zl (f_X9_isWithin value 2 40) fun u15 =>
        u15
      else
        if what = 3 then
          zl (f_X9_isWithin value 0 16) fun u19 =>
          u19
        else
          0
theorem fe_X5_isAllowed (what : Int32) (value : Int32) : f_X5_isAllowed what value = (
    if what = 0 then
      zl (f_X9_isWithin value 1 500) fun u7 =>
      u7
    else
      if what = 1 then
        zl (f_X9_isWithin value 0 50) fun u11 =>
        u11
      else
        if what = 2 then
          zl (f_X9_isWithin value 2 40) fun u15 =>
          u15
        else
          if what = 3 then
            zl (f_X9_isWithin value 0 16) fun u19 =>
            u19
          else
            0
    ) := rfl
abbrev rm_X5_isAllowed : Room := { frames := 1, cells := 0, slots := 0, locals := 22 }
set_option maxHeartbeats 1000000 in
set_option maxRecDepth 100000 in
theorem c_X5_isAllowed (l : Launch) (T : zT) (what : Int32) (value : Int32) : Ci l yX5_isAllowed wsX5_isAllowed rm_X5_isAllowed T .boolean [.int what, .int value] [] (S := Int32) (f_X5_isAllowed what value) (fun u => u) (fun u => []) := by
  refine z_metI (own := RX5) (maxL := 2) rfl (by decide) rfl (Nat.le_of_ble_eq_true rfl) ?_
  intro P0 E0 S0 M0 G0 B0 T0 K0 A9 Q9 C E
  have hx := C.1.1
  have hb := C.1.2.1
  have hown := C.1.2.2.2.1
  have hts := C.1.2.2.2.2
  have hn := C.2.1.2
  change Z P0 l E0 rm_X5_isAllowed S0 M0 G0 B0 T0 K0 2 T A9 Q9 0 0 [] 0 [(0, .int what), (1, .int value)] []
  have zh0 := fe_X5_isAllowed what value
  refine Z.of (pc' := 1) (fun _ _ _ hl => lv_iload_n hx hb dX5_isAllowed_0 rfl (lv_at hl 0 rfl)) ?_
  by_cases c1 : what = 0
  · have zh5 := zh0.trans (if_pos c1)
    refine Z.of (pc' := 32) (fun _ _ _ _ => lv_tableIn (off := 31) hx hb dX5_isAllowed_1 (by rw [c1]; decide) (by rw [c1]; decide) (by rw [c1]; rfl) (by decide)) ?_
    refine Z.of (pc' := 33) (fun _ _ _ hl => lv_iload_n hx hb dX5_isAllowed_32 rfl (lv_at hl 1 rfl)) ?_
    refine Z.of (pc' := 34) (fun _ _ _ _ => lv_iconst (v := 1) hx hb dX5_isAllowed_33 (by decide)) ?_
    refine Z.of (pc' := 37) (fun _ _ _ _ => lv_sipush (v := 500) hx hb dX5_isAllowed_34 (by decide)) ?_
    refine z_callNi C (c_X9_isWithin l T value 1 500) ⟨va_cnB 3 hts gX5_isAllowed_X9_isWithin_n33 rfl rfl rfl (hn.2.2.2.1) (hts (.initialized RX9) (by decide +kernel)) (by decide +kernel) ⟨Nat.le_of_ble_eq_true rfl, Nat.le_of_ble_eq_true rfl⟩, hts (.static yX9_isWithin) (by decide +kernel), trivial⟩ (As := [.int value, .int 1, .int 500]) (rest := []) rfl rfl (Nat.le_of_ble_eq_true rfl) dX5_isAllowed_37 rfl ⟨Nat.zero_le _, Nat.zero_le _⟩ (fun u7 eu7 bu7 => ?_)
    have zh8 := zl_e zh5 eu7
    exact E u7 _ _ _ _ dX5_isAllowed_40 bu7 rfl rfl zh8
  · have zh6 := zh0.trans (if_neg c1)
    by_cases c2 : what = 1
    · have zh9 := zh6.trans (if_pos c2)
      refine Z.of (pc' := 41) (fun _ _ _ _ => lv_tableIn (off := 40) hx hb dX5_isAllowed_1 (by rw [c2]; decide) (by rw [c2]; decide) (by rw [c2]; rfl) (by decide)) ?_
      refine Z.of (pc' := 42) (fun _ _ _ hl => lv_iload_n hx hb dX5_isAllowed_41 rfl (lv_at hl 1 rfl)) ?_
      refine Z.of (pc' := 43) (fun _ _ _ _ => lv_iconst (v := 0) hx hb dX5_isAllowed_42 (by decide)) ?_
      refine Z.of (pc' := 45) (fun _ _ _ _ => lv_bipush (v := 50) hx hb dX5_isAllowed_43 (by decide)) ?_
      refine z_callNi C (c_X9_isWithin l T value 0 50) ⟨va_cnB 3 hts gX5_isAllowed_X9_isWithin_n33 rfl rfl rfl (hn.2.2.2.1) (hts (.initialized RX9) (by decide +kernel)) (by decide +kernel) ⟨Nat.le_of_ble_eq_true rfl, Nat.le_of_ble_eq_true rfl⟩, hts (.static yX9_isWithin) (by decide +kernel), trivial⟩ (As := [.int value, .int 0, .int 50]) (rest := []) rfl rfl (Nat.le_of_ble_eq_true rfl) dX5_isAllowed_45 rfl ⟨Nat.zero_le _, Nat.zero_le _⟩ (fun u11 eu11 bu11 => ?_)
      have zh12 := zl_e zh9 eu11
      exact E u11 _ _ _ _ dX5_isAllowed_48 bu11 rfl rfl zh12
    · have zh10 := zh6.trans (if_neg c2)
      by_cases c3 : what = 2
      · have zh13 := zh10.trans (if_pos c3)
        refine Z.of (pc' := 49) (fun _ _ _ _ => lv_tableIn (off := 48) hx hb dX5_isAllowed_1 (by rw [c3]; decide) (by rw [c3]; decide) (by rw [c3]; rfl) (by decide)) ?_
        refine Z.of (pc' := 50) (fun _ _ _ hl => lv_iload_n hx hb dX5_isAllowed_49 rfl (lv_at hl 1 rfl)) ?_
        refine Z.of (pc' := 51) (fun _ _ _ _ => lv_iconst (v := 2) hx hb dX5_isAllowed_50 (by decide)) ?_
        refine Z.of (pc' := 53) (fun _ _ _ _ => lv_bipush (v := 40) hx hb dX5_isAllowed_51 (by decide)) ?_
        refine z_callNi C (c_X9_isWithin l T value 2 40) ⟨va_cnB 3 hts gX5_isAllowed_X9_isWithin_n33 rfl rfl rfl (hn.2.2.2.1) (hts (.initialized RX9) (by decide +kernel)) (by decide +kernel) ⟨Nat.le_of_ble_eq_true rfl, Nat.le_of_ble_eq_true rfl⟩, hts (.static yX9_isWithin) (by decide +kernel), trivial⟩ (As := [.int value, .int 2, .int 40]) (rest := []) rfl rfl (Nat.le_of_ble_eq_true rfl) dX5_isAllowed_53 rfl ⟨Nat.zero_le _, Nat.zero_le _⟩ (fun u15 eu15 bu15 => ?_)
        have zh16 := zl_e zh13 eu15
        exact E u15 _ _ _ _ dX5_isAllowed_56 bu15 rfl rfl zh16
      · have zh14 := zh10.trans (if_neg c3)
        by_cases c4 : what = 3
        · have zh17 := zh14.trans (if_pos c4)
          refine Z.of (pc' := 57) (fun _ _ _ _ => lv_tableIn (off := 56) hx hb dX5_isAllowed_1 (by rw [c4]; decide) (by rw [c4]; decide) (by rw [c4]; rfl) (by decide)) ?_
          refine Z.of (pc' := 58) (fun _ _ _ hl => lv_iload_n hx hb dX5_isAllowed_57 rfl (lv_at hl 1 rfl)) ?_
          refine Z.of (pc' := 59) (fun _ _ _ _ => lv_iconst (v := 0) hx hb dX5_isAllowed_58 (by decide)) ?_
          refine Z.of (pc' := 61) (fun _ _ _ _ => lv_bipush (v := 16) hx hb dX5_isAllowed_59 (by decide)) ?_
          refine z_callNi C (c_X9_isWithin l T value 0 16) ⟨va_cnB 3 hts gX5_isAllowed_X9_isWithin_n33 rfl rfl rfl (hn.2.2.2.1) (hts (.initialized RX9) (by decide +kernel)) (by decide +kernel) ⟨Nat.le_of_ble_eq_true rfl, Nat.le_of_ble_eq_true rfl⟩, hts (.static yX9_isWithin) (by decide +kernel), trivial⟩ (As := [.int value, .int 0, .int 16]) (rest := []) rfl rfl (Nat.le_of_ble_eq_true rfl) dX5_isAllowed_61 rfl ⟨Nat.zero_le _, Nat.zero_le _⟩ (fun u19 eu19 bu19 => ?_)
          have zh20 := zl_e zh17 eu19
          exact E u19 _ _ _ _ dX5_isAllowed_64 bu19 rfl rfl zh20
        · have zh18 := zh14.trans (if_neg c4)
          refine Z.of (pc' := 65) (fun _ _ _ _ => lv_tableOut hx hb dX5_isAllowed_1 (zsw_out (n := 3) (by decide) (fun k hk => by match k, hk with | 0, _ => exact c1 | 1, _ => exact c2 | 2, _ => exact c3 | 3, _ => exact c4 | k + 4, h => omega)) (by decide)) ?_
          refine Z.of (pc' := 66) (fun _ _ _ _ => lv_iconst (v := 0) hx hb dX5_isAllowed_65 (by decide)) ?_
          exact E 0 _ _ _ _ dX5_isAllowed_66 rfl rfl rfl zh18
def f_X5_change (s0 : Int32) (s1 : Int32) (s2 : Int32) (s3 : Int32) (what : Int32) (value : Int32) : Int32 × Int32 × Int32 × Int32 × Int32 :=
  zl (f_X5_isAllowed what value) fun u1 =>
  if u1 = 0 then
    ((-1000001), s0, s1, s2, s3)
  else
    zl (f_X5_tell s0 s1 s2 s3 what) fun u6 =>
    zl (
      if what = 0 then
        (value, s1, s2, s3)
      else
        if what = 1 then
          (s0, value, s2, s3)
        else
          if what = 2 then
            (s0, s1, value, s3)
          else
            (s0, s1, s2, value)
      : Int32 × Int32 × Int32 × Int32) fun v11 =>
    (u6, v11.1, v11.2.1, v11.2.2.1, v11.2.2.2)
theorem fe_X5_change (s0 : Int32) (s1 : Int32) (s2 : Int32) (s3 : Int32) (what : Int32) (value : Int32) : f_X5_change s0 s1 s2 s3 what value = (
    zl (f_X5_isAllowed what value) fun u1 =>
    if u1 = 0 then
      ((-1000001), s0, s1, s2, s3)
    else
      zl (f_X5_tell s0 s1 s2 s3 what) fun u6 =>
      zl (
        if what = 0 then
          (value, s1, s2, s3)
        else
          if what = 1 then
            (s0, value, s2, s3)
          else
            if what = 2 then
              (s0, s1, value, s3)
            else
              (s0, s1, s2, value)
        : Int32 × Int32 × Int32 × Int32) fun v11 =>
      (u6, v11.1, v11.2.1, v11.2.2.1, v11.2.2.2)
    ) := rfl
abbrev rm_X5_change : Room := { frames := 2, cells := 0, slots := 0, locals := 43 }
set_option maxHeartbeats 1000000 in
set_option maxRecDepth 100000 in
theorem c_X5_change (l : Launch) (T : zT) (a : Nat) (s0 : Int32) (s1 : Int32) (s2 : Int32) (s3 : Int32) (what : Int32) (value : Int32) : Ci l yX5_change wsX5_change rm_X5_change T .int [.ref a, .int what, .int value] [(a, .inr (5, [.int s0, .int s1, .int s2, .int s3]))] (S := Int32 × Int32 × Int32 × Int32 × Int32) (f_X5_change s0 s1 s2 s3 what value) (fun u => u.1) (fun u => [(a, .inr (5, [.int u.2.1, .int u.2.2.1, .int u.2.2.2.1, .int u.2.2.2.2]))]) := by
  refine z_metI (own := RX5) (maxL := 4) rfl (by decide) rfl (Nat.le_of_ble_eq_true rfl) ?_
  intro P0 E0 S0 M0 G0 B0 T0 K0 A9 Q9 C E
  have hx := C.1.1
  have hb := C.1.2.1
  have hown := C.1.2.2.2.1
  have hts := C.1.2.2.2.2
  have hn := C.2.1.2
  have iX5 : ∀ w ∈ u_ws RX5 TX5 4, w ∈ wsX5_change := by decide +kernel
  have k9 := hts (.fieldLink RX5 9 "JudgedBits$Settings" "step" "I") (by decide +kernel)
  have k15 := hts (.fieldLink RX5 15 "JudgedBits$Settings" "lock" "I") (by decide +kernel)
  have k18 := hts (.fieldLink RX5 18 "JudgedBits$Settings" "longestRun" "I") (by decide +kernel)
  have k21 := hts (.fieldLink RX5 21 "JudgedBits$Settings" "leastOnes" "I") (by decide +kernel)
  change Z P0 l E0 rm_X5_change S0 M0 G0 B0 T0 K0 4 T A9 Q9 0 0 [(a, .inr (5, [.int s0, .int s1, .int s2, .int s3]))] 0 [(0, .ref a), (1, .int what), (2, .int value)] []
  have zh0 := fe_X5_change s0 s1 s2 s3 what value
  refine Z.of (pc' := 1) (fun _ _ _ hl => lv_iload_n hx hb dX5_change_0 rfl (lv_at hl 1 rfl)) ?_
  refine Z.of (pc' := 2) (fun _ _ _ hl => lv_iload_n hx hb dX5_change_1 rfl (lv_at hl 2 rfl)) ?_
  refine z_callSi C (c_X5_isAllowed l T what value) (cwS 2 hts gX5_change_X5_isAllowed rfl rfl rfl (by decide +kernel) ⟨Nat.le_of_ble_eq_true rfl, Nat.le_of_ble_eq_true rfl⟩) (As := [.int what, .int value]) (rest := []) rfl rfl (Nat.le_of_ble_eq_true rfl) dX5_change_2 rfl ⟨Nat.zero_le _, Nat.zero_le _⟩ (fun u1 eu1 bu1 => ?_)
  have zh2 := zl_e zh0 eu1
  refine Z.two' (pt := 11) (pf := 8) (fun _ _ _ _ => lv_if_ne hx hb dX5_change_5 (by decide)) (fun c3 => ?_) (fun c3 => ?_)
  · have zh4 := zh2.trans (if_neg c3)
    refine Z.of (pc' := 12) (fun _ _ _ hl => lv_aload_n hx hb dX5_change_11 rfl (lv_at hl 0 rfl)) ?_
    refine Z.of (pc' := 13) (fun _ _ _ hl => lv_iload_n hx hb dX5_change_12 rfl (lv_at hl 1 rfl)) ?_
    refine z_callVi C (c_X5_tell l T a s0 s1 s2 s3 what) [0] [] rfl (by decide +kernel) (fun u6 => [(a, .inr (5, [.int s0, .int s1, .int s2, .int s3]))]) (fun _ => rfl) [] rfl (fun _ => rfl) [a] rfl (fun _ => rfl) 1 (fun _ => rfl) (by decide +kernel) (cwV 1 hts gX5_change_X5_tell rfl rfl rfl (by decide +kernel) ⟨Nat.le_of_ble_eq_true rfl, Nat.le_of_ble_eq_true rfl⟩) 0 rfl rfl rfl (As := [.int what]) (rest := []) rfl rfl (Nat.le_of_ble_eq_true rfl) dX5_change_13 rfl ⟨Nat.zero_le _, Nat.zero_le _⟩ (fun u6 eu6 bu6 => ?_)
    have zh7 := zl_e zh4 eu6
    refine Z.sto (pc' := 17) (lv' := [(3, .int u6), (0, .ref a), (1, .int what), (2, .int value)]) (fun _ _ _ hl => lv_istore_n (lv' := [(3, .int u6), (0, .ref a), (1, .int what), (2, .int value)]) hx hb dX5_change_16 rfl hl (by decide) rfl) ?_
    refine Z.of (pc' := 18) (fun _ _ _ hl => lv_iload_n hx hb dX5_change_17 rfl (lv_at hl 2 rfl)) ?_
    have J11 : ∀ v11 : Int32 × Int32 × Int32 × Int32, v11 = (
        if what = 0 then
          (value, s1, s2, s3)
        else
          if what = 1 then
            (s0, value, s2, s3)
          else
            if what = 2 then
              (s0, s1, value, s3)
            else
              (s0, s1, s2, value)
        ) → Z P0 l E0 rm_X5_change S0 M0 G0 B0 T0 K0 4 T A9 Q9 0 0 [(a, .inr (5, [.int v11.1, .int v11.2.1, .int v11.2.2.1, .int v11.2.2.2]))] 73 [(3, .int u6)] [] := by
      intro v11 ev11
      have zh18 := zl_e zh7 ev11
      refine Z.of (pc' := 74) (fun _ _ _ hl => lv_iload_n hx hb dX5_change_73 rfl (lv_at hl 0 rfl)) ?_
      exact E (u6, v11.1, v11.2.1, v11.2.2.1, v11.2.2.2) _ _ _ _ dX5_change_74 rfl rfl rfl zh18
    have zr11 := @Eq.refl (Int32 × Int32 × Int32 × Int32) (
        if what = 0 then
          (value, s1, s2, s3)
        else
          if what = 1 then
            (s0, value, s2, s3)
          else
            if what = 2 then
              (s0, s1, value, s3)
            else
              (s0, s1, s2, value)
        )
    by_cases c8 : what = 0
    · have zh12 := zr11.trans (if_pos c8)
      refine Z.of (pc' := 44) (fun _ _ _ _ => lv_tableIn (off := 26) hx hb dX5_change_18 (by rw [c8]; decide) (by rw [c8]; decide) (by rw [c8]; rfl) (by decide)) ?_
      refine Z.of (pc' := 45) (fun _ _ _ hl => lv_aload_n hx hb dX5_change_44 rfl (lv_at hl 1 rfl)) ?_
      refine Z.of (pc' := 46) (fun _ _ _ hl => lv_iload_n hx hb dX5_change_45 rfl (lv_at hl 3 rfl)) ?_
      refine z_put C iX5 tyX5_ok nmX5 0 0 k9 rfl rfl (by decide) rfl rfl rfl rfl (Nat.le_of_ble_eq_true rfl) dX5_change_46 rfl [(a, .inr (5, [.int value, .int s1, .int s2, .int s3]))] rfl ?_
      refine Z.of (pc' := 73) (fun _ _ _ _ => lv_goto hx hb dX5_change_49 (by decide)) ?_
      exact Z.sub (ks := [0]) (lv' := [(3, .int u6)]) rfl (J11 (value, s1, s2, s3) zh12.symm)
    · have zh13 := zr11.trans (if_neg c8)
      by_cases c9 : what = 1
      · have zh14 := zh13.trans (if_pos c9)
        refine Z.of (pc' := 52) (fun _ _ _ _ => lv_tableIn (off := 34) hx hb dX5_change_18 (by rw [c9]; decide) (by rw [c9]; decide) (by rw [c9]; rfl) (by decide)) ?_
        refine Z.of (pc' := 53) (fun _ _ _ hl => lv_aload_n hx hb dX5_change_52 rfl (lv_at hl 1 rfl)) ?_
        refine Z.of (pc' := 54) (fun _ _ _ hl => lv_iload_n hx hb dX5_change_53 rfl (lv_at hl 3 rfl)) ?_
        refine z_put C iX5 tyX5_ok nmX5 0 1 k15 rfl rfl (by decide) rfl rfl rfl rfl (Nat.le_of_ble_eq_true rfl) dX5_change_54 rfl [(a, .inr (5, [.int s0, .int value, .int s2, .int s3]))] rfl ?_
        refine Z.of (pc' := 73) (fun _ _ _ _ => lv_goto hx hb dX5_change_57 (by decide)) ?_
        exact Z.sub (ks := [0]) (lv' := [(3, .int u6)]) rfl (J11 (s0, value, s2, s3) zh14.symm)
      · have zh15 := zh13.trans (if_neg c9)
        by_cases c10 : what = 2
        · have zh16 := zh15.trans (if_pos c10)
          refine Z.of (pc' := 60) (fun _ _ _ _ => lv_tableIn (off := 42) hx hb dX5_change_18 (by rw [c10]; decide) (by rw [c10]; decide) (by rw [c10]; rfl) (by decide)) ?_
          refine Z.of (pc' := 61) (fun _ _ _ hl => lv_aload_n hx hb dX5_change_60 rfl (lv_at hl 1 rfl)) ?_
          refine Z.of (pc' := 62) (fun _ _ _ hl => lv_iload_n hx hb dX5_change_61 rfl (lv_at hl 3 rfl)) ?_
          refine z_put C iX5 tyX5_ok nmX5 0 2 k18 rfl rfl (by decide) rfl rfl rfl rfl (Nat.le_of_ble_eq_true rfl) dX5_change_62 rfl [(a, .inr (5, [.int s0, .int s1, .int value, .int s3]))] rfl ?_
          refine Z.of (pc' := 73) (fun _ _ _ _ => lv_goto hx hb dX5_change_65 (by decide)) ?_
          exact Z.sub (ks := [0]) (lv' := [(3, .int u6)]) rfl (J11 (s0, s1, value, s3) zh16.symm)
        · have zh17 := zh15.trans (if_neg c10)
          refine Z.of (pc' := 68) (fun _ _ _ _ => lv_tableOut hx hb dX5_change_18 (zsw_out (n := 2) (by decide) (fun k hk => by match k, hk with | 0, _ => exact c8 | 1, _ => exact c9 | 2, _ => exact c10 | k + 3, h => omega)) (by decide)) ?_
          refine Z.of (pc' := 69) (fun _ _ _ hl => lv_aload_n hx hb dX5_change_68 rfl (lv_at hl 1 rfl)) ?_
          refine Z.of (pc' := 70) (fun _ _ _ hl => lv_iload_n hx hb dX5_change_69 rfl (lv_at hl 3 rfl)) ?_
          refine z_put C iX5 tyX5_ok nmX5 0 3 k21 rfl rfl (by decide) rfl rfl rfl rfl (Nat.le_of_ble_eq_true rfl) dX5_change_70 rfl [(a, .inr (5, [.int s0, .int s1, .int s2, .int value]))] rfl ?_
          exact Z.sub (ks := [0]) (lv' := [(3, .int u6)]) rfl (J11 (s0, s1, s2, value) zh17.symm)
  · have zh5 := zh2.trans (if_pos c3)
    refine Z.of (pc' := 10) (fun _ _ _ _ => lv_ldc hx hb hown (hts (.constant RX5 24 (-1000001)) (by decide +kernel)) dX5_change_8) ?_
    exact E ((-1000001), s0, s1, s2, s3) _ _ _ _ dX5_change_10 rfl rfl rfl zh5
abbrev rm_X1_copyFrom : Room := { frames := 0, cells := 0, slots := 0, locals := 0 }
set_option maxHeartbeats 1000000 in
set_option maxRecDepth 100000 in
theorem c_X1_copyFrom (l : Launch) (T : zT) (a : Nat) (o : Nat) (h0 : Int32) (h1 : Int32) (h2 : Int32) (h3 : Int32) (h4 : Int32) (h5 : Int32) (h6 : Int32) (g0 : Int32) (g1 : Int32) (g2 : Int32) (g3 : Int32) (g4 : Int32) (g5 : Int32) (g6 : Int32) : Cv l yX1_copyFrom wsX1_copyFrom rm_X1_copyFrom T [.ref a, .ref o] [(a, .inr (1, [.int h0, .int h1, .int h2, .int h3, .int h4, .int h5, .int h6])), (o, .inr (1, [.int g0, .int g1, .int g2, .int g3, .int g4, .int g5, .int g6]))] (S := Unit) () (fun u => [(a, .inr (1, [.int g0, .int g1, .int g2, .int g3, .int g4, .int g5, .int g6])), (o, .inr (1, [.int g0, .int g1, .int g2, .int g3, .int g4, .int g5, .int g6]))]) := by
  refine z_metV (own := RX1) (maxL := 2) rfl (by decide) rfl (Nat.le_of_ble_eq_true rfl) ?_
  intro P0 E0 S0 M0 G0 B0 T0 K0 A9 Q9 C E
  have hx := C.1.1
  have hb := C.1.2.1
  have hown := C.1.2.2.2.1
  have hts := C.1.2.2.2.2
  have hn := C.2.1.2
  have iX1 : ∀ w ∈ u_ws RX1 TX1 7, w ∈ wsX1_copyFrom := by decide +kernel
  have k9 := hts (.fieldLink RX1 9 "JudgedBits$Health" "mode" "I") (by decide +kernel)
  have k13 := hts (.fieldLink RX1 13 "JudgedBits$Health" "failedTest" "I") (by decide +kernel)
  have k16 := hts (.fieldLink RX1 16 "JudgedBits$Health" "startUpBits" "I") (by decide +kernel)
  have k19 := hts (.fieldLink RX1 19 "JudgedBits$Health" "run" "I") (by decide +kernel)
  have k22 := hts (.fieldLink RX1 22 "JudgedBits$Health" "runBit" "I") (by decide +kernel)
  have k25 := hts (.fieldLink RX1 25 "JudgedBits$Health" "windowBits" "I") (by decide +kernel)
  have k28 := hts (.fieldLink RX1 28 "JudgedBits$Health" "windowOnes" "I") (by decide +kernel)
  change Z P0 l E0 rm_X1_copyFrom S0 M0 G0 B0 T0 K0 2 T A9 Q9 0 0 [(a, .inr (1, [.int h0, .int h1, .int h2, .int h3, .int h4, .int h5, .int h6])), (o, .inr (1, [.int g0, .int g1, .int g2, .int g3, .int g4, .int g5, .int g6]))] 0 [(0, .ref a), (1, .ref o)] []
  refine Z.of (pc' := 1) (fun _ _ _ hl => lv_aload_n hx hb dX1_copyFrom_0 rfl (lv_at hl 0 rfl)) ?_
  refine Z.of (pc' := 2) (fun _ _ _ hl => lv_aload_n hx hb dX1_copyFrom_1 rfl (lv_at hl 1 rfl)) ?_
  refine z_get C iX1 1 0 k9 rfl rfl (by decide) rfl rfl dX1_copyFrom_2 rfl ?_
  refine z_put C iX1 tyX1_ok nmX1 0 0 k9 rfl rfl (by decide) rfl rfl rfl rfl (Nat.le_of_ble_eq_true rfl) dX1_copyFrom_5 rfl [(a, .inr (1, [.int g0, .int h1, .int h2, .int h3, .int h4, .int h5, .int h6])), (o, .inr (1, [.int g0, .int g1, .int g2, .int g3, .int g4, .int g5, .int g6]))] rfl ?_
  refine Z.of (pc' := 9) (fun _ _ _ hl => lv_aload_n hx hb dX1_copyFrom_8 rfl (lv_at hl 0 rfl)) ?_
  refine Z.of (pc' := 10) (fun _ _ _ hl => lv_aload_n hx hb dX1_copyFrom_9 rfl (lv_at hl 1 rfl)) ?_
  refine z_get C iX1 1 1 k13 rfl rfl (by decide) rfl rfl dX1_copyFrom_10 rfl ?_
  refine z_put C iX1 tyX1_ok nmX1 0 1 k13 rfl rfl (by decide) rfl rfl rfl rfl (Nat.le_of_ble_eq_true rfl) dX1_copyFrom_13 rfl [(a, .inr (1, [.int g0, .int g1, .int h2, .int h3, .int h4, .int h5, .int h6])), (o, .inr (1, [.int g0, .int g1, .int g2, .int g3, .int g4, .int g5, .int g6]))] rfl ?_
  refine Z.of (pc' := 17) (fun _ _ _ hl => lv_aload_n hx hb dX1_copyFrom_16 rfl (lv_at hl 0 rfl)) ?_
  refine Z.of (pc' := 18) (fun _ _ _ hl => lv_aload_n hx hb dX1_copyFrom_17 rfl (lv_at hl 1 rfl)) ?_
  refine z_get C iX1 1 2 k16 rfl rfl (by decide) rfl rfl dX1_copyFrom_18 rfl ?_
  refine z_put C iX1 tyX1_ok nmX1 0 2 k16 rfl rfl (by decide) rfl rfl rfl rfl (Nat.le_of_ble_eq_true rfl) dX1_copyFrom_21 rfl [(a, .inr (1, [.int g0, .int g1, .int g2, .int h3, .int h4, .int h5, .int h6])), (o, .inr (1, [.int g0, .int g1, .int g2, .int g3, .int g4, .int g5, .int g6]))] rfl ?_
  refine Z.of (pc' := 25) (fun _ _ _ hl => lv_aload_n hx hb dX1_copyFrom_24 rfl (lv_at hl 0 rfl)) ?_
  refine Z.of (pc' := 26) (fun _ _ _ hl => lv_aload_n hx hb dX1_copyFrom_25 rfl (lv_at hl 1 rfl)) ?_
  refine z_get C iX1 1 3 k19 rfl rfl (by decide) rfl rfl dX1_copyFrom_26 rfl ?_
  refine z_put C iX1 tyX1_ok nmX1 0 3 k19 rfl rfl (by decide) rfl rfl rfl rfl (Nat.le_of_ble_eq_true rfl) dX1_copyFrom_29 rfl [(a, .inr (1, [.int g0, .int g1, .int g2, .int g3, .int h4, .int h5, .int h6])), (o, .inr (1, [.int g0, .int g1, .int g2, .int g3, .int g4, .int g5, .int g6]))] rfl ?_
  refine Z.of (pc' := 33) (fun _ _ _ hl => lv_aload_n hx hb dX1_copyFrom_32 rfl (lv_at hl 0 rfl)) ?_
  refine Z.of (pc' := 34) (fun _ _ _ hl => lv_aload_n hx hb dX1_copyFrom_33 rfl (lv_at hl 1 rfl)) ?_
  refine z_get C iX1 1 4 k22 rfl rfl (by decide) rfl rfl dX1_copyFrom_34 rfl ?_
  refine z_put C iX1 tyX1_ok nmX1 0 4 k22 rfl rfl (by decide) rfl rfl rfl rfl (Nat.le_of_ble_eq_true rfl) dX1_copyFrom_37 rfl [(a, .inr (1, [.int g0, .int g1, .int g2, .int g3, .int g4, .int h5, .int h6])), (o, .inr (1, [.int g0, .int g1, .int g2, .int g3, .int g4, .int g5, .int g6]))] rfl ?_
  refine Z.of (pc' := 41) (fun _ _ _ hl => lv_aload_n hx hb dX1_copyFrom_40 rfl (lv_at hl 0 rfl)) ?_
  refine Z.of (pc' := 42) (fun _ _ _ hl => lv_aload_n hx hb dX1_copyFrom_41 rfl (lv_at hl 1 rfl)) ?_
  refine z_get C iX1 1 5 k25 rfl rfl (by decide) rfl rfl dX1_copyFrom_42 rfl ?_
  refine z_put C iX1 tyX1_ok nmX1 0 5 k25 rfl rfl (by decide) rfl rfl rfl rfl (Nat.le_of_ble_eq_true rfl) dX1_copyFrom_45 rfl [(a, .inr (1, [.int g0, .int g1, .int g2, .int g3, .int g4, .int g5, .int h6])), (o, .inr (1, [.int g0, .int g1, .int g2, .int g3, .int g4, .int g5, .int g6]))] rfl ?_
  refine Z.of (pc' := 49) (fun _ _ _ hl => lv_aload_n hx hb dX1_copyFrom_48 rfl (lv_at hl 0 rfl)) ?_
  refine Z.of (pc' := 50) (fun _ _ _ hl => lv_aload_n hx hb dX1_copyFrom_49 rfl (lv_at hl 1 rfl)) ?_
  refine z_get C iX1 1 6 k28 rfl rfl (by decide) rfl rfl dX1_copyFrom_50 rfl ?_
  refine z_put C iX1 tyX1_ok nmX1 0 6 k28 rfl rfl (by decide) rfl rfl rfl rfl (Nat.le_of_ble_eq_true rfl) dX1_copyFrom_53 rfl [(a, .inr (1, [.int g0, .int g1, .int g2, .int g3, .int g4, .int g5, .int g6])), (o, .inr (1, [.int g0, .int g1, .int g2, .int g3, .int g4, .int g5, .int g6]))] rfl ?_
  exact E () _ _ _ dX1_copyFrom_56  rfl rfl
abbrev rm_X1_startAnew : Room := { frames := 0, cells := 0, slots := 0, locals := 0 }
set_option maxHeartbeats 1000000 in
set_option maxRecDepth 100000 in
theorem c_X1_startAnew (l : Launch) (T : zT) (a : Nat) (h0 : Int32) (h1 : Int32) (h2 : Int32) (h3 : Int32) (h4 : Int32) (h5 : Int32) (h6 : Int32) : Cv l yX1_startAnew wsX1_startAnew rm_X1_startAnew T [.ref a] [(a, .inr (1, [.int h0, .int h1, .int h2, .int h3, .int h4, .int h5, .int h6]))] (S := Unit) () (fun u => [(a, .inr (1, [.int 0, .int 0, .int 0, .int 0, .int 0, .int 0, .int 0]))]) := by
  refine z_metV (own := RX1) (maxL := 1) rfl (by decide) rfl (Nat.le_of_ble_eq_true rfl) ?_
  intro P0 E0 S0 M0 G0 B0 T0 K0 A9 Q9 C E
  have hx := C.1.1
  have hb := C.1.2.1
  have hown := C.1.2.2.2.1
  have hts := C.1.2.2.2.2
  have hn := C.2.1.2
  have iX1 : ∀ w ∈ u_ws RX1 TX1 7, w ∈ wsX1_startAnew := by decide +kernel
  have k9 := hts (.fieldLink RX1 9 "JudgedBits$Health" "mode" "I") (by decide +kernel)
  have k13 := hts (.fieldLink RX1 13 "JudgedBits$Health" "failedTest" "I") (by decide +kernel)
  have k16 := hts (.fieldLink RX1 16 "JudgedBits$Health" "startUpBits" "I") (by decide +kernel)
  have k19 := hts (.fieldLink RX1 19 "JudgedBits$Health" "run" "I") (by decide +kernel)
  have k22 := hts (.fieldLink RX1 22 "JudgedBits$Health" "runBit" "I") (by decide +kernel)
  have k25 := hts (.fieldLink RX1 25 "JudgedBits$Health" "windowBits" "I") (by decide +kernel)
  have k28 := hts (.fieldLink RX1 28 "JudgedBits$Health" "windowOnes" "I") (by decide +kernel)
  change Z P0 l E0 rm_X1_startAnew S0 M0 G0 B0 T0 K0 1 T A9 Q9 0 0 [(a, .inr (1, [.int h0, .int h1, .int h2, .int h3, .int h4, .int h5, .int h6]))] 0 [(0, .ref a)] []
  refine Z.of (pc' := 1) (fun _ _ _ hl => lv_aload_n hx hb dX1_startAnew_0 rfl (lv_at hl 0 rfl)) ?_
  refine Z.of (pc' := 2) (fun _ _ _ _ => lv_iconst (v := 0) hx hb dX1_startAnew_1 (by decide)) ?_
  refine z_put C iX1 tyX1_ok nmX1 0 0 k9 rfl rfl (by decide) rfl rfl rfl rfl (Nat.le_of_ble_eq_true rfl) dX1_startAnew_2 rfl [(a, .inr (1, [.int 0, .int h1, .int h2, .int h3, .int h4, .int h5, .int h6]))] rfl ?_
  refine Z.of (pc' := 6) (fun _ _ _ hl => lv_aload_n hx hb dX1_startAnew_5 rfl (lv_at hl 0 rfl)) ?_
  refine Z.of (pc' := 7) (fun _ _ _ _ => lv_iconst (v := 0) hx hb dX1_startAnew_6 (by decide)) ?_
  refine z_put C iX1 tyX1_ok nmX1 0 1 k13 rfl rfl (by decide) rfl rfl rfl rfl (Nat.le_of_ble_eq_true rfl) dX1_startAnew_7 rfl [(a, .inr (1, [.int 0, .int 0, .int h2, .int h3, .int h4, .int h5, .int h6]))] rfl ?_
  refine Z.of (pc' := 11) (fun _ _ _ hl => lv_aload_n hx hb dX1_startAnew_10 rfl (lv_at hl 0 rfl)) ?_
  refine Z.of (pc' := 12) (fun _ _ _ _ => lv_iconst (v := 0) hx hb dX1_startAnew_11 (by decide)) ?_
  refine z_put C iX1 tyX1_ok nmX1 0 2 k16 rfl rfl (by decide) rfl rfl rfl rfl (Nat.le_of_ble_eq_true rfl) dX1_startAnew_12 rfl [(a, .inr (1, [.int 0, .int 0, .int 0, .int h3, .int h4, .int h5, .int h6]))] rfl ?_
  refine Z.of (pc' := 16) (fun _ _ _ hl => lv_aload_n hx hb dX1_startAnew_15 rfl (lv_at hl 0 rfl)) ?_
  refine Z.of (pc' := 17) (fun _ _ _ _ => lv_iconst (v := 0) hx hb dX1_startAnew_16 (by decide)) ?_
  refine z_put C iX1 tyX1_ok nmX1 0 3 k19 rfl rfl (by decide) rfl rfl rfl rfl (Nat.le_of_ble_eq_true rfl) dX1_startAnew_17 rfl [(a, .inr (1, [.int 0, .int 0, .int 0, .int 0, .int h4, .int h5, .int h6]))] rfl ?_
  refine Z.of (pc' := 21) (fun _ _ _ hl => lv_aload_n hx hb dX1_startAnew_20 rfl (lv_at hl 0 rfl)) ?_
  refine Z.of (pc' := 22) (fun _ _ _ _ => lv_iconst (v := 0) hx hb dX1_startAnew_21 (by decide)) ?_
  refine z_put C iX1 tyX1_ok nmX1 0 4 k22 rfl rfl (by decide) rfl rfl rfl rfl (Nat.le_of_ble_eq_true rfl) dX1_startAnew_22 rfl [(a, .inr (1, [.int 0, .int 0, .int 0, .int 0, .int 0, .int h5, .int h6]))] rfl ?_
  refine Z.of (pc' := 26) (fun _ _ _ hl => lv_aload_n hx hb dX1_startAnew_25 rfl (lv_at hl 0 rfl)) ?_
  refine Z.of (pc' := 27) (fun _ _ _ _ => lv_iconst (v := 0) hx hb dX1_startAnew_26 (by decide)) ?_
  refine z_put C iX1 tyX1_ok nmX1 0 5 k25 rfl rfl (by decide) rfl rfl rfl rfl (Nat.le_of_ble_eq_true rfl) dX1_startAnew_27 rfl [(a, .inr (1, [.int 0, .int 0, .int 0, .int 0, .int 0, .int 0, .int h6]))] rfl ?_
  refine Z.of (pc' := 31) (fun _ _ _ hl => lv_aload_n hx hb dX1_startAnew_30 rfl (lv_at hl 0 rfl)) ?_
  refine Z.of (pc' := 32) (fun _ _ _ _ => lv_iconst (v := 0) hx hb dX1_startAnew_31 (by decide)) ?_
  refine z_put C iX1 tyX1_ok nmX1 0 6 k28 rfl rfl (by decide) rfl rfl rfl rfl (Nat.le_of_ble_eq_true rfl) dX1_startAnew_32 rfl [(a, .inr (1, [.int 0, .int 0, .int 0, .int 0, .int 0, .int 0, .int 0]))] rfl ?_
  exact E () _ _ _ dX1_startAnew_35  rfl rfl
def f_X1_countInRun (h0 : Int32) (h1 : Int32) (h2 : Int32) (h3 : Int32) (h4 : Int32) (h5 : Int32) (h6 : Int32) (bit : Int32) : Int32 :=
  zl (
    if h3 ≤ 0 then
      1
    else
      if bit = h4 then
        (h3 + 1)
      else
        1
    : Int32) fun v2 =>
  v2
theorem fe_X1_countInRun (h0 : Int32) (h1 : Int32) (h2 : Int32) (h3 : Int32) (h4 : Int32) (h5 : Int32) (h6 : Int32) (bit : Int32) : f_X1_countInRun h0 h1 h2 h3 h4 h5 h6 bit = (
    zl (
      if h3 ≤ 0 then
        1
      else
        if bit = h4 then
          (h3 + 1)
        else
          1
      : Int32) fun v2 =>
    v2
    ) := rfl
abbrev rm_X1_countInRun : Room := { frames := 0, cells := 0, slots := 0, locals := 0 }
set_option maxHeartbeats 1000000 in
set_option maxRecDepth 100000 in
theorem c_X1_countInRun (l : Launch) (T : zT) (a : Nat) (h0 : Int32) (h1 : Int32) (h2 : Int32) (h3 : Int32) (h4 : Int32) (h5 : Int32) (h6 : Int32) (bit : Int32) : Cv l yX1_countInRun wsX1_countInRun rm_X1_countInRun T [.ref a, .int bit] [(a, .inr (1, [.int h0, .int h1, .int h2, .int h3, .int h4, .int h5, .int h6]))] (S := Int32) (f_X1_countInRun h0 h1 h2 h3 h4 h5 h6 bit) (fun u => [(a, .inr (1, [.int h0, .int h1, .int h2, .int u, .int bit, .int h5, .int h6]))]) := by
  refine z_metV (own := RX1) (maxL := 2) rfl (by decide) rfl (Nat.le_of_ble_eq_true rfl) ?_
  intro P0 E0 S0 M0 G0 B0 T0 K0 A9 Q9 C E
  have hx := C.1.1
  have hb := C.1.2.1
  have hown := C.1.2.2.2.1
  have hts := C.1.2.2.2.2
  have hn := C.2.1.2
  have iX1 : ∀ w ∈ u_ws RX1 TX1 7, w ∈ wsX1_countInRun := by decide +kernel
  have k19 := hts (.fieldLink RX1 19 "JudgedBits$Health" "run" "I") (by decide +kernel)
  have k22 := hts (.fieldLink RX1 22 "JudgedBits$Health" "runBit" "I") (by decide +kernel)
  change Z P0 l E0 rm_X1_countInRun S0 M0 G0 B0 T0 K0 2 T A9 Q9 0 0 [(a, .inr (1, [.int h0, .int h1, .int h2, .int h3, .int h4, .int h5, .int h6]))] 0 [(0, .ref a), (1, .int bit)] []
  have zh0 := fe_X1_countInRun h0 h1 h2 h3 h4 h5 h6 bit
  refine Z.of (pc' := 1) (fun _ _ _ hl => lv_aload_n hx hb dX1_countInRun_0 rfl (lv_at hl 0 rfl)) ?_
  refine Z.of (pc' := 2) (fun _ _ _ hl => lv_aload_n hx hb dX1_countInRun_1 rfl (lv_at hl 0 rfl)) ?_
  refine z_get C iX1 0 3 k19 rfl rfl (by decide) rfl rfl dX1_countInRun_2 rfl ?_
  have J2 : ∀ v2 : Int32, v2 = (
      if h3 ≤ 0 then
        1
      else
        if bit = h4 then
          (h3 + 1)
        else
          1
      ) → Z P0 l E0 rm_X1_countInRun S0 M0 G0 B0 T0 K0 2 T A9 Q9 0 0 [(a, .inr (1, [.int h0, .int h1, .int h2, .int h3, .int h4, .int h5, .int h6]))] 26 [(0, .ref a), (1, .int bit)] [.int v2, .ref a] := by
    intro v2 ev2
    have zh8 := zl_e zh0 ev2
    refine z_put C iX1 tyX1_ok nmX1 0 3 k19 rfl rfl (by decide) rfl rfl rfl rfl (Nat.le_of_ble_eq_true rfl) dX1_countInRun_26 rfl [(a, .inr (1, [.int h0, .int h1, .int h2, .int v2, .int h4, .int h5, .int h6]))] rfl ?_
    refine Z.of (pc' := 30) (fun _ _ _ hl => lv_aload_n hx hb dX1_countInRun_29 rfl (lv_at hl 0 rfl)) ?_
    refine Z.of (pc' := 31) (fun _ _ _ hl => lv_iload_n hx hb dX1_countInRun_30 rfl (lv_at hl 1 rfl)) ?_
    refine z_put C iX1 tyX1_ok nmX1 0 4 k22 rfl rfl (by decide) rfl rfl rfl rfl (Nat.le_of_ble_eq_true rfl) dX1_countInRun_31 rfl [(a, .inr (1, [.int h0, .int h1, .int h2, .int v2, .int bit, .int h5, .int h6]))] rfl ?_
    exact E v2 _ _ _ dX1_countInRun_34  rfl zh8
  have zr2 := @Eq.refl (Int32) (
      if h3 ≤ 0 then
        1
      else
        if bit = h4 then
          (h3 + 1)
        else
          1
      )
  refine Z.two (pt := 25) (pf := 8) (fun _ _ _ _ => lv_if_le hx hb dX1_countInRun_5 (by decide)) (fun c1 => ?_) (fun c1 => ?_)
  · have zh3 := zr2.trans (if_pos c1)
    refine Z.of (pc' := 26) (fun _ _ _ _ => lv_iconst (v := 1) hx hb dX1_countInRun_25 (by decide)) ?_
    exact J2 1 zh3.symm
  · have zh4 := zr2.trans (if_neg c1)
    refine Z.of (pc' := 9) (fun _ _ _ hl => lv_iload_n hx hb dX1_countInRun_8 rfl (lv_at hl 1 rfl)) ?_
    refine Z.of (pc' := 10) (fun _ _ _ hl => lv_aload_n hx hb dX1_countInRun_9 rfl (lv_at hl 0 rfl)) ?_
    refine z_get C iX1 0 4 k22 rfl rfl (by decide) rfl rfl dX1_countInRun_10 rfl ?_
    refine Z.two' (pt := 25) (pf := 16) (fun _ _ _ _ => lv_icmp_ne hx hb dX1_countInRun_13 (by decide)) (fun c5 => ?_) (fun c5 => ?_)
    · have zh6 := zh4.trans (if_neg c5)
      refine Z.of (pc' := 26) (fun _ _ _ _ => lv_iconst (v := 1) hx hb dX1_countInRun_25 (by decide)) ?_
      exact J2 1 zh6.symm
    · have zh7 := zh4.trans (if_pos c5)
      refine Z.of (pc' := 17) (fun _ _ _ hl => lv_aload_n hx hb dX1_countInRun_16 rfl (lv_at hl 0 rfl)) ?_
      refine z_get C iX1 0 3 k19 rfl rfl (by decide) rfl rfl dX1_countInRun_17 rfl ?_
      refine Z.of (pc' := 21) (fun _ _ _ _ => lv_iconst (v := 1) hx hb dX1_countInRun_20 (by decide)) ?_
      refine Z.of (pc' := 22) (fun _ _ _ hl => lv_iadd hx hb dX1_countInRun_21) ?_
      refine Z.of (pc' := 26) (fun _ _ _ _ => lv_goto hx hb dX1_countInRun_22 (by decide)) ?_
      exact J2 (h3 + 1) zh7.symm
def f_X1_failsShare (h0 : Int32) (h1 : Int32) (h2 : Int32) (h3 : Int32) (h4 : Int32) (h5 : Int32) (h6 : Int32) (bit : Int32) (least : Int32) : Int32 × Int32 × Int32 :=
  if 32 ≤ (h5 + 1) then
    if (h6 + bit) < least then
      (1, 0, 0)
    else
      if (h6 + bit) ≤ (32 - least) then
        (0, 0, 0)
      else
        (1, 0, 0)
  else
    (0, h5 + 1, h6 + bit)
theorem fe_X1_failsShare (h0 : Int32) (h1 : Int32) (h2 : Int32) (h3 : Int32) (h4 : Int32) (h5 : Int32) (h6 : Int32) (bit : Int32) (least : Int32) : f_X1_failsShare h0 h1 h2 h3 h4 h5 h6 bit least = (
    if 32 ≤ (h5 + 1) then
      if (h6 + bit) < least then
        (1, 0, 0)
      else
        if (h6 + bit) ≤ (32 - least) then
          (0, 0, 0)
        else
          (1, 0, 0)
    else
      (0, h5 + 1, h6 + bit)
    ) := rfl
abbrev rm_X1_failsShare : Room := { frames := 0, cells := 0, slots := 0, locals := 0 }
set_option maxHeartbeats 1000000 in
set_option maxRecDepth 100000 in
theorem c_X1_failsShare (l : Launch) (T : zT) (a : Nat) (h0 : Int32) (h1 : Int32) (h2 : Int32) (h3 : Int32) (h4 : Int32) (h5 : Int32) (h6 : Int32) (bit : Int32) (least : Int32) : Ci l yX1_failsShare wsX1_failsShare rm_X1_failsShare T .boolean [.ref a, .int bit, .int least] [(a, .inr (1, [.int h0, .int h1, .int h2, .int h3, .int h4, .int h5, .int h6]))] (S := Int32 × Int32 × Int32) (f_X1_failsShare h0 h1 h2 h3 h4 h5 h6 bit least) (fun u => u.1) (fun u => [(a, .inr (1, [.int h0, .int h1, .int h2, .int h3, .int h4, .int u.2.1, .int u.2.2]))]) := by
  refine z_metI (own := RX1) (maxL := 4) rfl (by decide) rfl (Nat.le_of_ble_eq_true rfl) ?_
  intro P0 E0 S0 M0 G0 B0 T0 K0 A9 Q9 C E
  have hx := C.1.1
  have hb := C.1.2.1
  have hown := C.1.2.2.2.1
  have hts := C.1.2.2.2.2
  have hn := C.2.1.2
  have iX1 : ∀ w ∈ u_ws RX1 TX1 7, w ∈ wsX1_failsShare := by decide +kernel
  have k25 := hts (.fieldLink RX1 25 "JudgedBits$Health" "windowBits" "I") (by decide +kernel)
  have k28 := hts (.fieldLink RX1 28 "JudgedBits$Health" "windowOnes" "I") (by decide +kernel)
  change Z P0 l E0 rm_X1_failsShare S0 M0 G0 B0 T0 K0 4 T A9 Q9 0 0 [(a, .inr (1, [.int h0, .int h1, .int h2, .int h3, .int h4, .int h5, .int h6]))] 0 [(0, .ref a), (1, .int bit), (2, .int least)] []
  have zh0 := fe_X1_failsShare h0 h1 h2 h3 h4 h5 h6 bit least
  refine Z.of (pc' := 1) (fun _ _ _ hl => lv_aload_n hx hb dX1_failsShare_0 rfl (lv_at hl 0 rfl)) ?_
  refine Z.of (pc' := 2) (fun _ _ _ hl => lv_dup hx hb dX1_failsShare_1 rfl) ?_
  refine z_get C iX1 0 5 k25 rfl rfl (by decide) rfl rfl dX1_failsShare_2 rfl ?_
  refine Z.of (pc' := 6) (fun _ _ _ _ => lv_iconst (v := 1) hx hb dX1_failsShare_5 (by decide)) ?_
  refine Z.of (pc' := 7) (fun _ _ _ hl => lv_iadd hx hb dX1_failsShare_6) ?_
  refine z_put C iX1 tyX1_ok nmX1 0 5 k25 rfl rfl (by decide) rfl rfl rfl rfl (Nat.le_of_ble_eq_true rfl) dX1_failsShare_7 rfl [(a, .inr (1, [.int h0, .int h1, .int h2, .int h3, .int h4, .int (h5 + 1), .int h6]))] rfl ?_
  refine Z.of (pc' := 11) (fun _ _ _ hl => lv_aload_n hx hb dX1_failsShare_10 rfl (lv_at hl 0 rfl)) ?_
  refine Z.of (pc' := 12) (fun _ _ _ hl => lv_dup hx hb dX1_failsShare_11 rfl) ?_
  refine z_get C iX1 0 6 k28 rfl rfl (by decide) rfl rfl dX1_failsShare_12 rfl ?_
  refine Z.of (pc' := 16) (fun _ _ _ hl => lv_iload_n hx hb dX1_failsShare_15 rfl (lv_at hl 1 rfl)) ?_
  refine Z.of (pc' := 17) (fun _ _ _ hl => lv_iadd hx hb dX1_failsShare_16) ?_
  refine z_put C iX1 tyX1_ok nmX1 0 6 k28 rfl rfl (by decide) rfl rfl rfl rfl (Nat.le_of_ble_eq_true rfl) dX1_failsShare_17 rfl [(a, .inr (1, [.int h0, .int h1, .int h2, .int h3, .int h4, .int (h5 + 1), .int (h6 + bit)]))] rfl ?_
  refine Z.of (pc' := 21) (fun _ _ _ hl => lv_aload_n hx hb dX1_failsShare_20 rfl (lv_at hl 0 rfl)) ?_
  refine z_get C iX1 0 5 k25 rfl rfl (by decide) rfl rfl dX1_failsShare_21 rfl ?_
  refine Z.of (pc' := 26) (fun _ _ _ _ => lv_bipush (v := 32) hx hb dX1_failsShare_24 (by decide)) ?_
  refine Z.two (pt := 31) (pf := 29) (fun _ _ _ _ => lv_icmp_ge hx hb dX1_failsShare_26 (by decide)) (fun c1 => ?_) (fun c1 => ?_)
  · have zh2 := zh0.trans (if_pos c1)
    refine Z.of (pc' := 32) (fun _ _ _ hl => lv_aload_n hx hb dX1_failsShare_31 rfl (lv_at hl 0 rfl)) ?_
    refine z_get C iX1 0 6 k28 rfl rfl (by decide) rfl rfl dX1_failsShare_32 rfl ?_
    refine Z.sto (pc' := 36) (lv' := [(3, .int (h6 + bit)), (0, .ref a), (1, .int bit), (2, .int least)]) (fun _ _ _ hl => lv_istore_n (lv' := [(3, .int (h6 + bit)), (0, .ref a), (1, .int bit), (2, .int least)]) hx hb dX1_failsShare_35 rfl hl (by decide) rfl) ?_
    refine Z.of (pc' := 37) (fun _ _ _ hl => lv_aload_n hx hb dX1_failsShare_36 rfl (lv_at hl 1 rfl)) ?_
    refine Z.of (pc' := 38) (fun _ _ _ _ => lv_iconst (v := 0) hx hb dX1_failsShare_37 (by decide)) ?_
    refine z_put C iX1 tyX1_ok nmX1 0 5 k25 rfl rfl (by decide) rfl rfl rfl rfl (Nat.le_of_ble_eq_true rfl) dX1_failsShare_38 rfl [(a, .inr (1, [.int h0, .int h1, .int h2, .int h3, .int h4, .int 0, .int (h6 + bit)]))] rfl ?_
    refine Z.of (pc' := 42) (fun _ _ _ hl => lv_aload_n hx hb dX1_failsShare_41 rfl (lv_at hl 1 rfl)) ?_
    refine Z.of (pc' := 43) (fun _ _ _ _ => lv_iconst (v := 0) hx hb dX1_failsShare_42 (by decide)) ?_
    refine z_put C iX1 tyX1_ok nmX1 0 6 k28 rfl rfl (by decide) rfl rfl rfl rfl (Nat.le_of_ble_eq_true rfl) dX1_failsShare_43 rfl [(a, .inr (1, [.int h0, .int h1, .int h2, .int h3, .int h4, .int 0, .int 0]))] rfl ?_
    refine Z.of (pc' := 47) (fun _ _ _ hl => lv_iload_n hx hb dX1_failsShare_46 rfl (lv_at hl 0 rfl)) ?_
    refine Z.of (pc' := 48) (fun _ _ _ hl => lv_iload_n hx hb dX1_failsShare_47 rfl (lv_at hl 3 rfl)) ?_
    refine Z.two (pt := 59) (pf := 51) (fun _ _ _ _ => lv_icmp_lt hx hb dX1_failsShare_48 (by decide)) (fun c4 => ?_) (fun c4 => ?_)
    · have zh5 := zh2.trans (if_pos c4)
      refine Z.of (pc' := 60) (fun _ _ _ _ => lv_iconst (v := 1) hx hb dX1_failsShare_59 (by decide)) ?_
      refine Z.of (pc' := 64) (fun _ _ _ _ => lv_goto hx hb dX1_failsShare_60 (by decide)) ?_
      exact E (1, 0, 0) _ _ _ _ dX1_failsShare_64 rfl rfl rfl zh5
    · have zh6 := zh2.trans (if_neg c4)
      refine Z.of (pc' := 52) (fun _ _ _ hl => lv_iload_n hx hb dX1_failsShare_51 rfl (lv_at hl 0 rfl)) ?_
      refine Z.of (pc' := 54) (fun _ _ _ _ => lv_bipush (v := 32) hx hb dX1_failsShare_52 (by decide)) ?_
      refine Z.of (pc' := 55) (fun _ _ _ hl => lv_iload_n hx hb dX1_failsShare_54 rfl (lv_at hl 3 rfl)) ?_
      refine Z.of (pc' := 56) (fun _ _ _ hl => lv_isub hx hb dX1_failsShare_55) ?_
      refine Z.two (pt := 63) (pf := 59) (fun _ _ _ _ => lv_icmp_le hx hb dX1_failsShare_56 (by decide)) (fun c7 => ?_) (fun c7 => ?_)
      · have zh8 := zh6.trans (if_pos c7)
        refine Z.of (pc' := 64) (fun _ _ _ _ => lv_iconst (v := 0) hx hb dX1_failsShare_63 (by decide)) ?_
        exact E (0, 0, 0) _ _ _ _ dX1_failsShare_64 rfl rfl rfl zh8
      · have zh9 := zh6.trans (if_neg c7)
        refine Z.of (pc' := 60) (fun _ _ _ _ => lv_iconst (v := 1) hx hb dX1_failsShare_59 (by decide)) ?_
        refine Z.of (pc' := 64) (fun _ _ _ _ => lv_goto hx hb dX1_failsShare_60 (by decide)) ?_
        exact E (1, 0, 0) _ _ _ _ dX1_failsShare_64 rfl rfl rfl zh9
  · have zh3 := zh0.trans (if_neg c1)
    refine Z.of (pc' := 30) (fun _ _ _ _ => lv_iconst (v := 0) hx hb dX1_failsShare_29 (by decide)) ?_
    exact E (0, h5 + 1, h6 + bit) _ _ _ _ dX1_failsShare_30 rfl rfl rfl zh3
abbrev rm_X1_bringAlarm : Room := { frames := 0, cells := 0, slots := 0, locals := 0 }
set_option maxHeartbeats 1000000 in
set_option maxRecDepth 100000 in
theorem c_X1_bringAlarm (l : Launch) (T : zT) (a : Nat) (h0 : Int32) (h1 : Int32) (h2 : Int32) (h3 : Int32) (h4 : Int32) (h5 : Int32) (h6 : Int32) (test : Int32) : Cv l yX1_bringAlarm wsX1_bringAlarm rm_X1_bringAlarm T [.ref a, .int test] [(a, .inr (1, [.int h0, .int h1, .int h2, .int h3, .int h4, .int h5, .int h6]))] (S := Unit) () (fun u => [(a, .inr (1, [.int 2, .int test, .int h2, .int h3, .int h4, .int h5, .int h6]))]) := by
  refine z_metV (own := RX1) (maxL := 2) rfl (by decide) rfl (Nat.le_of_ble_eq_true rfl) ?_
  intro P0 E0 S0 M0 G0 B0 T0 K0 A9 Q9 C E
  have hx := C.1.1
  have hb := C.1.2.1
  have hown := C.1.2.2.2.1
  have hts := C.1.2.2.2.2
  have hn := C.2.1.2
  have iX1 : ∀ w ∈ u_ws RX1 TX1 7, w ∈ wsX1_bringAlarm := by decide +kernel
  have k9 := hts (.fieldLink RX1 9 "JudgedBits$Health" "mode" "I") (by decide +kernel)
  have k13 := hts (.fieldLink RX1 13 "JudgedBits$Health" "failedTest" "I") (by decide +kernel)
  change Z P0 l E0 rm_X1_bringAlarm S0 M0 G0 B0 T0 K0 2 T A9 Q9 0 0 [(a, .inr (1, [.int h0, .int h1, .int h2, .int h3, .int h4, .int h5, .int h6]))] 0 [(0, .ref a), (1, .int test)] []
  refine Z.of (pc' := 1) (fun _ _ _ hl => lv_aload_n hx hb dX1_bringAlarm_0 rfl (lv_at hl 0 rfl)) ?_
  refine Z.of (pc' := 2) (fun _ _ _ _ => lv_iconst (v := 2) hx hb dX1_bringAlarm_1 (by decide)) ?_
  refine z_put C iX1 tyX1_ok nmX1 0 0 k9 rfl rfl (by decide) rfl rfl rfl rfl (Nat.le_of_ble_eq_true rfl) dX1_bringAlarm_2 rfl [(a, .inr (1, [.int 2, .int h1, .int h2, .int h3, .int h4, .int h5, .int h6]))] rfl ?_
  refine Z.of (pc' := 6) (fun _ _ _ hl => lv_aload_n hx hb dX1_bringAlarm_5 rfl (lv_at hl 0 rfl)) ?_
  refine Z.of (pc' := 7) (fun _ _ _ hl => lv_iload_n hx hb dX1_bringAlarm_6 rfl (lv_at hl 1 rfl)) ?_
  refine z_put C iX1 tyX1_ok nmX1 0 1 k13 rfl rfl (by decide) rfl rfl rfl rfl (Nat.le_of_ble_eq_true rfl) dX1_bringAlarm_7 rfl [(a, .inr (1, [.int 2, .int test, .int h2, .int h3, .int h4, .int h5, .int h6]))] rfl ?_
  exact E () _ _ _ dX1_bringAlarm_10  rfl rfl
def f_X1_countInStartUp (h0 : Int32) (h1 : Int32) (h2 : Int32) (h3 : Int32) (h4 : Int32) (h5 : Int32) (h6 : Int32) : Int32 :=
  if (h2 + 1) < 64 then
    h0
  else
    1
theorem fe_X1_countInStartUp (h0 : Int32) (h1 : Int32) (h2 : Int32) (h3 : Int32) (h4 : Int32) (h5 : Int32) (h6 : Int32) : f_X1_countInStartUp h0 h1 h2 h3 h4 h5 h6 = (
    if (h2 + 1) < 64 then
      h0
    else
      1
    ) := rfl
abbrev rm_X1_countInStartUp : Room := { frames := 0, cells := 0, slots := 0, locals := 0 }
set_option maxHeartbeats 1000000 in
set_option maxRecDepth 100000 in
theorem c_X1_countInStartUp (l : Launch) (T : zT) (a : Nat) (h0 : Int32) (h1 : Int32) (h2 : Int32) (h3 : Int32) (h4 : Int32) (h5 : Int32) (h6 : Int32) : Cv l yX1_countInStartUp wsX1_countInStartUp rm_X1_countInStartUp T [.ref a] [(a, .inr (1, [.int h0, .int h1, .int h2, .int h3, .int h4, .int h5, .int h6]))] (S := Int32) (f_X1_countInStartUp h0 h1 h2 h3 h4 h5 h6) (fun u => [(a, .inr (1, [.int u, .int h1, .int (h2 + 1), .int h3, .int h4, .int h5, .int h6]))]) := by
  refine z_metV (own := RX1) (maxL := 1) rfl (by decide) rfl (Nat.le_of_ble_eq_true rfl) ?_
  intro P0 E0 S0 M0 G0 B0 T0 K0 A9 Q9 C E
  have hx := C.1.1
  have hb := C.1.2.1
  have hown := C.1.2.2.2.1
  have hts := C.1.2.2.2.2
  have hn := C.2.1.2
  have iX1 : ∀ w ∈ u_ws RX1 TX1 7, w ∈ wsX1_countInStartUp := by decide +kernel
  have k9 := hts (.fieldLink RX1 9 "JudgedBits$Health" "mode" "I") (by decide +kernel)
  have k16 := hts (.fieldLink RX1 16 "JudgedBits$Health" "startUpBits" "I") (by decide +kernel)
  change Z P0 l E0 rm_X1_countInStartUp S0 M0 G0 B0 T0 K0 1 T A9 Q9 0 0 [(a, .inr (1, [.int h0, .int h1, .int h2, .int h3, .int h4, .int h5, .int h6]))] 0 [(0, .ref a)] []
  have zh0 := fe_X1_countInStartUp h0 h1 h2 h3 h4 h5 h6
  refine Z.of (pc' := 1) (fun _ _ _ hl => lv_aload_n hx hb dX1_countInStartUp_0 rfl (lv_at hl 0 rfl)) ?_
  refine Z.of (pc' := 2) (fun _ _ _ hl => lv_dup hx hb dX1_countInStartUp_1 rfl) ?_
  refine z_get C iX1 0 2 k16 rfl rfl (by decide) rfl rfl dX1_countInStartUp_2 rfl ?_
  refine Z.of (pc' := 6) (fun _ _ _ _ => lv_iconst (v := 1) hx hb dX1_countInStartUp_5 (by decide)) ?_
  refine Z.of (pc' := 7) (fun _ _ _ hl => lv_iadd hx hb dX1_countInStartUp_6) ?_
  refine z_put C iX1 tyX1_ok nmX1 0 2 k16 rfl rfl (by decide) rfl rfl rfl rfl (Nat.le_of_ble_eq_true rfl) dX1_countInStartUp_7 rfl [(a, .inr (1, [.int h0, .int h1, .int (h2 + 1), .int h3, .int h4, .int h5, .int h6]))] rfl ?_
  refine Z.of (pc' := 11) (fun _ _ _ hl => lv_aload_n hx hb dX1_countInStartUp_10 rfl (lv_at hl 0 rfl)) ?_
  refine z_get C iX1 0 2 k16 rfl rfl (by decide) rfl rfl dX1_countInStartUp_11 rfl ?_
  refine Z.of (pc' := 16) (fun _ _ _ _ => lv_bipush (v := 64) hx hb dX1_countInStartUp_14 (by decide)) ?_
  refine Z.two (pt := 24) (pf := 19) (fun _ _ _ _ => lv_icmp_lt hx hb dX1_countInStartUp_16 (by decide)) (fun c1 => ?_) (fun c1 => ?_)
  · have zh2 := zh0.trans (if_pos c1)
    exact E h0 _ _ _ dX1_countInStartUp_24  rfl zh2
  · have zh3 := zh0.trans (if_neg c1)
    refine Z.of (pc' := 20) (fun _ _ _ hl => lv_aload_n hx hb dX1_countInStartUp_19 rfl (lv_at hl 0 rfl)) ?_
    refine Z.of (pc' := 21) (fun _ _ _ _ => lv_iconst (v := 1) hx hb dX1_countInStartUp_20 (by decide)) ?_
    refine z_put C iX1 tyX1_ok nmX1 0 0 k9 rfl rfl (by decide) rfl rfl rfl rfl (Nat.le_of_ble_eq_true rfl) dX1_countInStartUp_21 rfl [(a, .inr (1, [.int 1, .int h1, .int (h2 + 1), .int h3, .int h4, .int h5, .int h6]))] rfl ?_
    exact E 1 _ _ _ dX1_countInStartUp_24  rfl zh3
def f_X1_judge (h0 : Int32) (h1 : Int32) (h2 : Int32) (h3 : Int32) (h4 : Int32) (h5 : Int32) (h6 : Int32) (s0 : Int32) (s1 : Int32) (s2 : Int32) (s3 : Int32) (bit : Int32) : Int32 × Int32 × Int32 × Int32 × Int32 × Int32 :=
  zl (f_X1_countInRun h0 h1 h2 h3 h4 h5 h6 bit) fun u1 =>
  zl (f_X1_failsShare h0 h1 h2 u1 bit h5 h6 bit s3) fun u3 =>
  if u1 ≤ s2 then
    if u3.1 = 0 then
      if h0 = 0 then
        zl (f_X1_countInStartUp h0 h1 h2 u1 bit u3.2.1 u3.2.2) fun u14 =>
        (u14, h1, h2 + 1, u1, u3.2.1, u3.2.2)
      else
        (h0, h1, h2, u1, u3.2.1, u3.2.2)
    else
      (2, 2, h2, u1, u3.2.1, u3.2.2)
  else
    (2, 1, h2, u1, u3.2.1, u3.2.2)
theorem fe_X1_judge (h0 : Int32) (h1 : Int32) (h2 : Int32) (h3 : Int32) (h4 : Int32) (h5 : Int32) (h6 : Int32) (s0 : Int32) (s1 : Int32) (s2 : Int32) (s3 : Int32) (bit : Int32) : f_X1_judge h0 h1 h2 h3 h4 h5 h6 s0 s1 s2 s3 bit = (
    zl (f_X1_countInRun h0 h1 h2 h3 h4 h5 h6 bit) fun u1 =>
    zl (f_X1_failsShare h0 h1 h2 u1 bit h5 h6 bit s3) fun u3 =>
    if u1 ≤ s2 then
      if u3.1 = 0 then
        if h0 = 0 then
          zl (f_X1_countInStartUp h0 h1 h2 u1 bit u3.2.1 u3.2.2) fun u14 =>
          (u14, h1, h2 + 1, u1, u3.2.1, u3.2.2)
        else
          (h0, h1, h2, u1, u3.2.1, u3.2.2)
      else
        (2, 2, h2, u1, u3.2.1, u3.2.2)
    else
      (2, 1, h2, u1, u3.2.1, u3.2.2)
    ) := rfl
abbrev rm_X1_judge : Room := { frames := 1, cells := 0, slots := 0, locals := 23 }
set_option maxHeartbeats 1000000 in
set_option maxRecDepth 100000 in
theorem c_X1_judge (l : Launch) (T : zT) (a : Nat) (o : Nat) (h0 : Int32) (h1 : Int32) (h2 : Int32) (h3 : Int32) (h4 : Int32) (h5 : Int32) (h6 : Int32) (s0 : Int32) (s1 : Int32) (s2 : Int32) (s3 : Int32) (bit : Int32) : Cv l yX1_judge wsX1_judge rm_X1_judge T [.ref a, .int bit, .ref o] [(a, .inr (1, [.int h0, .int h1, .int h2, .int h3, .int h4, .int h5, .int h6])), (o, .inr (5, [.int s0, .int s1, .int s2, .int s3]))] (S := Int32 × Int32 × Int32 × Int32 × Int32 × Int32) (f_X1_judge h0 h1 h2 h3 h4 h5 h6 s0 s1 s2 s3 bit) (fun u => [(a, .inr (1, [.int u.1, .int u.2.1, .int u.2.2.1, .int u.2.2.2.1, .int bit, .int u.2.2.2.2.1, .int u.2.2.2.2.2])), (o, .inr (5, [.int s0, .int s1, .int s2, .int s3]))]) := by
  refine z_metV (own := RX1) (maxL := 4) rfl (by decide) rfl (Nat.le_of_ble_eq_true rfl) ?_
  intro P0 E0 S0 M0 G0 B0 T0 K0 A9 Q9 C E
  have hx := C.1.1
  have hb := C.1.2.1
  have hown := C.1.2.2.2.1
  have hts := C.1.2.2.2.2
  have hn := C.2.1.2
  have iX1 : ∀ w ∈ u_ws RX1 TX1 7, w ∈ wsX1_judge := by decide +kernel
  have iX5 : ∀ w ∈ u_ws RX5 TX5 4, w ∈ wsX1_judge := by decide +kernel
  have k9 := hts (.fieldLink RX1 9 "JudgedBits$Health" "mode" "I") (by decide +kernel)
  have k19 := hts (.fieldLink RX1 19 "JudgedBits$Health" "run" "I") (by decide +kernel)
  have k35 := hts (.fieldLink RX1 35 "JudgedBits$Settings" "leastOnes" "I") (by decide +kernel)
  have k44 := hts (.fieldLink RX1 44 "JudgedBits$Settings" "longestRun" "I") (by decide +kernel)
  change Z P0 l E0 rm_X1_judge S0 M0 G0 B0 T0 K0 4 T A9 Q9 0 0 [(a, .inr (1, [.int h0, .int h1, .int h2, .int h3, .int h4, .int h5, .int h6])), (o, .inr (5, [.int s0, .int s1, .int s2, .int s3]))] 0 [(0, .ref a), (1, .int bit), (2, .ref o)] []
  have zh0 := fe_X1_judge h0 h1 h2 h3 h4 h5 h6 s0 s1 s2 s3 bit
  refine Z.of (pc' := 1) (fun _ _ _ hl => lv_aload_n hx hb dX1_judge_0 rfl (lv_at hl 0 rfl)) ?_
  refine Z.of (pc' := 2) (fun _ _ _ hl => lv_iload_n hx hb dX1_judge_1 rfl (lv_at hl 1 rfl)) ?_
  refine z_callVv C (c_X1_countInRun l T a h0 h1 h2 h3 h4 h5 h6 bit) [0] [1] rfl (by decide +kernel) (fun u1 => [(a, .inr (1, [.int h0, .int h1, .int h2, .int u1, .int bit, .int h5, .int h6])), (o, .inr (5, [.int s0, .int s1, .int s2, .int s3]))]) (fun _ => rfl) [(o, .inr (5, [.int s0, .int s1, .int s2, .int s3]))] rfl (fun _ => rfl) [a, o] rfl (fun _ => rfl) 2 (fun _ => rfl) (by decide +kernel) (cwV 1 hts gX1_judge_X1_countInRun rfl rfl rfl (by decide +kernel) ⟨Nat.le_of_ble_eq_true rfl, Nat.le_of_ble_eq_true rfl⟩) 0 rfl rfl rfl (As := [.int bit]) (rest := []) rfl rfl (Nat.le_of_ble_eq_true rfl) dX1_judge_2 rfl ⟨Nat.zero_le _, Nat.zero_le _⟩ (fun u1 eu1 => ?_)
  have zh2 := zl_e zh0 eu1
  refine Z.of (pc' := 6) (fun _ _ _ hl => lv_aload_n hx hb dX1_judge_5 rfl (lv_at hl 0 rfl)) ?_
  refine Z.of (pc' := 7) (fun _ _ _ hl => lv_iload_n hx hb dX1_judge_6 rfl (lv_at hl 1 rfl)) ?_
  refine Z.of (pc' := 8) (fun _ _ _ hl => lv_aload_n hx hb dX1_judge_7 rfl (lv_at hl 2 rfl)) ?_
  refine z_get C iX5 1 3 k35 rfl rfl (by decide) rfl rfl dX1_judge_8 rfl ?_
  refine z_callVi C (c_X1_failsShare l T a h0 h1 h2 u1 bit h5 h6 bit s3) [0] [1] rfl (by decide +kernel) (fun u3 => [(a, .inr (1, [.int h0, .int h1, .int h2, .int u1, .int bit, .int u3.2.1, .int u3.2.2])), (o, .inr (5, [.int s0, .int s1, .int s2, .int s3]))]) (fun _ => rfl) [(o, .inr (5, [.int s0, .int s1, .int s2, .int s3]))] rfl (fun _ => rfl) [a, o] rfl (fun _ => rfl) 2 (fun _ => rfl) (by decide +kernel) (cwV 2 hts gX1_judge_X1_failsShare rfl rfl rfl (by decide +kernel) ⟨Nat.le_of_ble_eq_true rfl, Nat.le_of_ble_eq_true rfl⟩) 0 rfl rfl rfl (As := [.int bit, .int s3]) (rest := []) rfl rfl (Nat.le_of_ble_eq_true rfl) dX1_judge_11 rfl ⟨Nat.zero_le _, Nat.zero_le _⟩ (fun u3 eu3 bu3 => ?_)
  have zh4 := zl_e zh2 eu3
  refine Z.sto (pc' := 15) (lv' := [(3, .int u3.1), (0, .ref a), (1, .int bit), (2, .ref o)]) (fun _ _ _ hl => lv_istore_n (lv' := [(3, .int u3.1), (0, .ref a), (1, .int bit), (2, .ref o)]) hx hb dX1_judge_14 rfl hl (by decide) rfl) ?_
  refine Z.of (pc' := 16) (fun _ _ _ hl => lv_aload_n hx hb dX1_judge_15 rfl (lv_at hl 1 rfl)) ?_
  refine z_get C iX1 0 3 k19 rfl rfl (by decide) rfl rfl dX1_judge_16 rfl ?_
  refine Z.of (pc' := 20) (fun _ _ _ hl => lv_aload_n hx hb dX1_judge_19 rfl (lv_at hl 3 rfl)) ?_
  refine z_get C iX5 1 2 k44 rfl rfl (by decide) rfl rfl dX1_judge_20 rfl ?_
  refine Z.two (pt := 34) (pf := 26) (fun _ _ _ _ => lv_icmp_le hx hb dX1_judge_23 (by decide)) (fun c5 => ?_) (fun c5 => ?_)
  · have zh6 := zh4.trans (if_pos c5)
    refine Z.of (pc' := 35) (fun _ _ _ hl => lv_iload_n hx hb dX1_judge_34 rfl (lv_at hl 0 rfl)) ?_
    refine Z.two (pt := 46) (pf := 38) (fun _ _ _ _ => lv_if_eq hx hb dX1_judge_35 (by decide)) (fun c8 => ?_) (fun c8 => ?_)
    · have zh9 := zh6.trans (if_pos c8)
      refine Z.of (pc' := 47) (fun _ _ _ hl => lv_aload_n hx hb dX1_judge_46 rfl (lv_at hl 1 rfl)) ?_
      refine z_get C iX1 0 0 k9 rfl rfl (by decide) rfl rfl dX1_judge_47 rfl ?_
      refine Z.two' (pt := 57) (pf := 53) (fun _ _ _ _ => lv_if_ne hx hb dX1_judge_50 (by decide)) (fun c11 => ?_) (fun c11 => ?_)
      · have zh12 := zh9.trans (if_neg c11)
        exact E (h0, h1, h2, u1, u3.2.1, u3.2.2) _ _ _ dX1_judge_57  rfl zh12
      · have zh13 := zh9.trans (if_pos c11)
        refine Z.of (pc' := 54) (fun _ _ _ hl => lv_aload_n hx hb dX1_judge_53 rfl (lv_at hl 1 rfl)) ?_
        refine z_callVv C (c_X1_countInStartUp l T a h0 h1 h2 u1 bit u3.2.1 u3.2.2) [0] [1] rfl (by decide +kernel) (fun u14 => [(a, .inr (1, [.int u14, .int h1, .int (h2 + 1), .int u1, .int bit, .int u3.2.1, .int u3.2.2])), (o, .inr (5, [.int s0, .int s1, .int s2, .int s3]))]) (fun _ => rfl) [(o, .inr (5, [.int s0, .int s1, .int s2, .int s3]))] rfl (fun _ => rfl) [a, o] rfl (fun _ => rfl) 2 (fun _ => rfl) (by decide +kernel) (cwV 0 hts gX1_judge_X1_countInStartUp rfl rfl rfl (by decide +kernel) ⟨Nat.le_of_ble_eq_true rfl, Nat.le_of_ble_eq_true rfl⟩) 0 rfl rfl rfl (As := []) (rest := []) rfl rfl (Nat.le_of_ble_eq_true rfl) dX1_judge_54 rfl ⟨Nat.zero_le _, Nat.zero_le _⟩ (fun u14 eu14 => ?_)
        have zh15 := zl_e zh13 eu14
        exact E (u14, h1, h2 + 1, u1, u3.2.1, u3.2.2) _ _ _ dX1_judge_57  rfl zh15
    · have zh10 := zh6.trans (if_neg c8)
      refine Z.of (pc' := 39) (fun _ _ _ hl => lv_aload_n hx hb dX1_judge_38 rfl (lv_at hl 1 rfl)) ?_
      refine Z.of (pc' := 40) (fun _ _ _ _ => lv_iconst (v := 2) hx hb dX1_judge_39 (by decide)) ?_
      refine z_callVv C (c_X1_bringAlarm l T a h0 h1 h2 u1 bit u3.2.1 u3.2.2 2) [0] [1] rfl (by decide +kernel) (fun u16 => [(a, .inr (1, [.int 2, .int 2, .int h2, .int u1, .int bit, .int u3.2.1, .int u3.2.2])), (o, .inr (5, [.int s0, .int s1, .int s2, .int s3]))]) (fun _ => rfl) [(o, .inr (5, [.int s0, .int s1, .int s2, .int s3]))] rfl (fun _ => rfl) [a, o] rfl (fun _ => rfl) 2 (fun _ => rfl) (by decide +kernel) (cwV 1 hts gX1_judge_X1_bringAlarm rfl rfl rfl (by decide +kernel) ⟨Nat.le_of_ble_eq_true rfl, Nat.le_of_ble_eq_true rfl⟩) 0 rfl rfl rfl (As := [.int 2]) (rest := []) rfl rfl (Nat.le_of_ble_eq_true rfl) dX1_judge_40 rfl ⟨Nat.zero_le _, Nat.zero_le _⟩ (fun u16 eu16 => ?_)
      refine Z.of (pc' := 57) (fun _ _ _ _ => lv_goto hx hb dX1_judge_43 (by decide)) ?_
      exact E (2, 2, h2, u1, u3.2.1, u3.2.2) _ _ _ dX1_judge_57  rfl zh10
  · have zh7 := zh4.trans (if_neg c5)
    refine Z.of (pc' := 27) (fun _ _ _ hl => lv_aload_n hx hb dX1_judge_26 rfl (lv_at hl 1 rfl)) ?_
    refine Z.of (pc' := 28) (fun _ _ _ _ => lv_iconst (v := 1) hx hb dX1_judge_27 (by decide)) ?_
    refine z_callVv C (c_X1_bringAlarm l T a h0 h1 h2 u1 bit u3.2.1 u3.2.2 1) [0] [1] rfl (by decide +kernel) (fun u17 => [(a, .inr (1, [.int 2, .int 1, .int h2, .int u1, .int bit, .int u3.2.1, .int u3.2.2])), (o, .inr (5, [.int s0, .int s1, .int s2, .int s3]))]) (fun _ => rfl) [(o, .inr (5, [.int s0, .int s1, .int s2, .int s3]))] rfl (fun _ => rfl) [a, o] rfl (fun _ => rfl) 2 (fun _ => rfl) (by decide +kernel) (cwV 1 hts gX1_judge_X1_bringAlarm rfl rfl rfl (by decide +kernel) ⟨Nat.le_of_ble_eq_true rfl, Nat.le_of_ble_eq_true rfl⟩) 0 rfl rfl rfl (As := [.int 1]) (rest := []) rfl rfl (Nat.le_of_ble_eq_true rfl) dX1_judge_28 rfl ⟨Nat.zero_le _, Nat.zero_le _⟩ (fun u17 eu17 => ?_)
    refine Z.of (pc' := 57) (fun _ _ _ _ => lv_goto hx hb dX1_judge_31 (by decide)) ?_
    exact E (2, 1, h2, u1, u3.2.1, u3.2.2) _ _ _ dX1_judge_57  rfl zh7
abbrev rm_X7_copyFrom : Room := { frames := 0, cells := 0, slots := 0, locals := 0 }
set_option maxHeartbeats 1000000 in
set_option maxRecDepth 100000 in
theorem c_X7_copyFrom (l : Launch) (T : zT) (a : Nat) (o : Nat) (t0 : Int32) (t1 : Int32) (t2 : Int32) (t3 : Int32) (t4 : Int32) (t5 : Int32) (t6 : Int32) (t7 : Int32) (x0 : Int32) (x1 : Int32) (x2 : Int32) (x3 : Int32) (x4 : Int32) (x5 : Int32) (x6 : Int32) (x7 : Int32) : Cv l yX7_copyFrom wsX7_copyFrom rm_X7_copyFrom T [.ref a, .ref o] [(a, .inr (7, [.int t0, .int t1, .int t2, .int t3, .int t4, .int t5, .int t6, .int t7])), (o, .inr (7, [.int x0, .int x1, .int x2, .int x3, .int x4, .int x5, .int x6, .int x7]))] (S := Unit) () (fun u => [(a, .inr (7, [.int x0, .int x1, .int x2, .int x3, .int x4, .int x5, .int x6, .int x7])), (o, .inr (7, [.int x0, .int x1, .int x2, .int x3, .int x4, .int x5, .int x6, .int x7]))]) := by
  refine z_metV (own := RX7) (maxL := 2) rfl (by decide) rfl (Nat.le_of_ble_eq_true rfl) ?_
  intro P0 E0 S0 M0 G0 B0 T0 K0 A9 Q9 C E
  have hx := C.1.1
  have hb := C.1.2.1
  have hown := C.1.2.2.2.1
  have hts := C.1.2.2.2.2
  have hn := C.2.1.2
  have iX7 : ∀ w ∈ u_ws RX7 TX7 8, w ∈ wsX7_copyFrom := by decide +kernel
  have k9 := hts (.fieldLink RX7 9 "JudgedBits$Tally" "samples" "I") (by decide +kernel)
  have k15 := hts (.fieldLink RX7 15 "JudgedBits$Tally" "ones" "I") (by decide +kernel)
  have k18 := hts (.fieldLink RX7 18 "JudgedBits$Tally" "leftOut" "I") (by decide +kernel)
  have k21 := hts (.fieldLink RX7 21 "JudgedBits$Tally" "stored" "I") (by decide +kernel)
  have k24 := hts (.fieldLink RX7 24 "JudgedBits$Tally" "lost" "I") (by decide +kernel)
  have k27 := hts (.fieldLink RX7 27 "JudgedBits$Tally" "drawn" "I") (by decide +kernel)
  have k30 := hts (.fieldLink RX7 30 "JudgedBits$Tally" "alarms" "I") (by decide +kernel)
  have k33 := hts (.fieldLink RX7 33 "JudgedBits$Tally" "longestRun" "I") (by decide +kernel)
  change Z P0 l E0 rm_X7_copyFrom S0 M0 G0 B0 T0 K0 2 T A9 Q9 0 0 [(a, .inr (7, [.int t0, .int t1, .int t2, .int t3, .int t4, .int t5, .int t6, .int t7])), (o, .inr (7, [.int x0, .int x1, .int x2, .int x3, .int x4, .int x5, .int x6, .int x7]))] 0 [(0, .ref a), (1, .ref o)] []
  refine Z.of (pc' := 1) (fun _ _ _ hl => lv_aload_n hx hb dX7_copyFrom_0 rfl (lv_at hl 0 rfl)) ?_
  refine Z.of (pc' := 2) (fun _ _ _ hl => lv_aload_n hx hb dX7_copyFrom_1 rfl (lv_at hl 1 rfl)) ?_
  refine z_get C iX7 1 0 k9 rfl rfl (by decide) rfl rfl dX7_copyFrom_2 rfl ?_
  refine z_put C iX7 tyX7_ok nmX7 0 0 k9 rfl rfl (by decide) rfl rfl rfl rfl (Nat.le_of_ble_eq_true rfl) dX7_copyFrom_5 rfl [(a, .inr (7, [.int x0, .int t1, .int t2, .int t3, .int t4, .int t5, .int t6, .int t7])), (o, .inr (7, [.int x0, .int x1, .int x2, .int x3, .int x4, .int x5, .int x6, .int x7]))] rfl ?_
  refine Z.of (pc' := 9) (fun _ _ _ hl => lv_aload_n hx hb dX7_copyFrom_8 rfl (lv_at hl 0 rfl)) ?_
  refine Z.of (pc' := 10) (fun _ _ _ hl => lv_aload_n hx hb dX7_copyFrom_9 rfl (lv_at hl 1 rfl)) ?_
  refine z_get C iX7 1 1 k15 rfl rfl (by decide) rfl rfl dX7_copyFrom_10 rfl ?_
  refine z_put C iX7 tyX7_ok nmX7 0 1 k15 rfl rfl (by decide) rfl rfl rfl rfl (Nat.le_of_ble_eq_true rfl) dX7_copyFrom_13 rfl [(a, .inr (7, [.int x0, .int x1, .int t2, .int t3, .int t4, .int t5, .int t6, .int t7])), (o, .inr (7, [.int x0, .int x1, .int x2, .int x3, .int x4, .int x5, .int x6, .int x7]))] rfl ?_
  refine Z.of (pc' := 17) (fun _ _ _ hl => lv_aload_n hx hb dX7_copyFrom_16 rfl (lv_at hl 0 rfl)) ?_
  refine Z.of (pc' := 18) (fun _ _ _ hl => lv_aload_n hx hb dX7_copyFrom_17 rfl (lv_at hl 1 rfl)) ?_
  refine z_get C iX7 1 2 k18 rfl rfl (by decide) rfl rfl dX7_copyFrom_18 rfl ?_
  refine z_put C iX7 tyX7_ok nmX7 0 2 k18 rfl rfl (by decide) rfl rfl rfl rfl (Nat.le_of_ble_eq_true rfl) dX7_copyFrom_21 rfl [(a, .inr (7, [.int x0, .int x1, .int x2, .int t3, .int t4, .int t5, .int t6, .int t7])), (o, .inr (7, [.int x0, .int x1, .int x2, .int x3, .int x4, .int x5, .int x6, .int x7]))] rfl ?_
  refine Z.of (pc' := 25) (fun _ _ _ hl => lv_aload_n hx hb dX7_copyFrom_24 rfl (lv_at hl 0 rfl)) ?_
  refine Z.of (pc' := 26) (fun _ _ _ hl => lv_aload_n hx hb dX7_copyFrom_25 rfl (lv_at hl 1 rfl)) ?_
  refine z_get C iX7 1 3 k21 rfl rfl (by decide) rfl rfl dX7_copyFrom_26 rfl ?_
  refine z_put C iX7 tyX7_ok nmX7 0 3 k21 rfl rfl (by decide) rfl rfl rfl rfl (Nat.le_of_ble_eq_true rfl) dX7_copyFrom_29 rfl [(a, .inr (7, [.int x0, .int x1, .int x2, .int x3, .int t4, .int t5, .int t6, .int t7])), (o, .inr (7, [.int x0, .int x1, .int x2, .int x3, .int x4, .int x5, .int x6, .int x7]))] rfl ?_
  refine Z.of (pc' := 33) (fun _ _ _ hl => lv_aload_n hx hb dX7_copyFrom_32 rfl (lv_at hl 0 rfl)) ?_
  refine Z.of (pc' := 34) (fun _ _ _ hl => lv_aload_n hx hb dX7_copyFrom_33 rfl (lv_at hl 1 rfl)) ?_
  refine z_get C iX7 1 4 k24 rfl rfl (by decide) rfl rfl dX7_copyFrom_34 rfl ?_
  refine z_put C iX7 tyX7_ok nmX7 0 4 k24 rfl rfl (by decide) rfl rfl rfl rfl (Nat.le_of_ble_eq_true rfl) dX7_copyFrom_37 rfl [(a, .inr (7, [.int x0, .int x1, .int x2, .int x3, .int x4, .int t5, .int t6, .int t7])), (o, .inr (7, [.int x0, .int x1, .int x2, .int x3, .int x4, .int x5, .int x6, .int x7]))] rfl ?_
  refine Z.of (pc' := 41) (fun _ _ _ hl => lv_aload_n hx hb dX7_copyFrom_40 rfl (lv_at hl 0 rfl)) ?_
  refine Z.of (pc' := 42) (fun _ _ _ hl => lv_aload_n hx hb dX7_copyFrom_41 rfl (lv_at hl 1 rfl)) ?_
  refine z_get C iX7 1 5 k27 rfl rfl (by decide) rfl rfl dX7_copyFrom_42 rfl ?_
  refine z_put C iX7 tyX7_ok nmX7 0 5 k27 rfl rfl (by decide) rfl rfl rfl rfl (Nat.le_of_ble_eq_true rfl) dX7_copyFrom_45 rfl [(a, .inr (7, [.int x0, .int x1, .int x2, .int x3, .int x4, .int x5, .int t6, .int t7])), (o, .inr (7, [.int x0, .int x1, .int x2, .int x3, .int x4, .int x5, .int x6, .int x7]))] rfl ?_
  refine Z.of (pc' := 49) (fun _ _ _ hl => lv_aload_n hx hb dX7_copyFrom_48 rfl (lv_at hl 0 rfl)) ?_
  refine Z.of (pc' := 50) (fun _ _ _ hl => lv_aload_n hx hb dX7_copyFrom_49 rfl (lv_at hl 1 rfl)) ?_
  refine z_get C iX7 1 6 k30 rfl rfl (by decide) rfl rfl dX7_copyFrom_50 rfl ?_
  refine z_put C iX7 tyX7_ok nmX7 0 6 k30 rfl rfl (by decide) rfl rfl rfl rfl (Nat.le_of_ble_eq_true rfl) dX7_copyFrom_53 rfl [(a, .inr (7, [.int x0, .int x1, .int x2, .int x3, .int x4, .int x5, .int x6, .int t7])), (o, .inr (7, [.int x0, .int x1, .int x2, .int x3, .int x4, .int x5, .int x6, .int x7]))] rfl ?_
  refine Z.of (pc' := 57) (fun _ _ _ hl => lv_aload_n hx hb dX7_copyFrom_56 rfl (lv_at hl 0 rfl)) ?_
  refine Z.of (pc' := 58) (fun _ _ _ hl => lv_aload_n hx hb dX7_copyFrom_57 rfl (lv_at hl 1 rfl)) ?_
  refine z_get C iX7 1 7 k33 rfl rfl (by decide) rfl rfl dX7_copyFrom_58 rfl ?_
  refine z_put C iX7 tyX7_ok nmX7 0 7 k33 rfl rfl (by decide) rfl rfl rfl rfl (Nat.le_of_ble_eq_true rfl) dX7_copyFrom_61 rfl [(a, .inr (7, [.int x0, .int x1, .int x2, .int x3, .int x4, .int x5, .int x6, .int x7])), (o, .inr (7, [.int x0, .int x1, .int x2, .int x3, .int x4, .int x5, .int x6, .int x7]))] rfl ?_
  exact E () _ _ _ dX7_copyFrom_64  rfl rfl
def f_X7_tell (t0 : Int32) (t1 : Int32) (t2 : Int32) (t3 : Int32) (t4 : Int32) (t5 : Int32) (t6 : Int32) (t7 : Int32) (what : Int32) : Int32 :=
  if what = 0 then
    t0
  else
    if what = 1 then
      t1
    else
      if what = 2 then
        t2
      else
        if what = 3 then
          t3
        else
          if what = 4 then
            t4
          else
            if what = 5 then
              t5
            else
              if what = 6 then
                t6
              else
                if what = 7 then
                  t7
                else
                  (-1000001)
theorem fe_X7_tell (t0 : Int32) (t1 : Int32) (t2 : Int32) (t3 : Int32) (t4 : Int32) (t5 : Int32) (t6 : Int32) (t7 : Int32) (what : Int32) : f_X7_tell t0 t1 t2 t3 t4 t5 t6 t7 what = (
    if what = 0 then
      t0
    else
      if what = 1 then
        t1
      else
        if what = 2 then
          t2
        else
          if what = 3 then
            t3
          else
            if what = 4 then
              t4
            else
              if what = 5 then
                t5
              else
                if what = 6 then
                  t6
                else
                  if what = 7 then
                    t7
                  else
                    (-1000001)
    ) := rfl
abbrev rm_X7_tell : Room := { frames := 0, cells := 0, slots := 0, locals := 0 }
set_option maxHeartbeats 1000000 in
set_option maxRecDepth 100000 in
theorem c_X7_tell (l : Launch) (T : zT) (a : Nat) (t0 : Int32) (t1 : Int32) (t2 : Int32) (t3 : Int32) (t4 : Int32) (t5 : Int32) (t6 : Int32) (t7 : Int32) (what : Int32) : Ci l yX7_tell wsX7_tell rm_X7_tell T .int [.ref a, .int what] [(a, .inr (7, [.int t0, .int t1, .int t2, .int t3, .int t4, .int t5, .int t6, .int t7]))] (S := Int32) (f_X7_tell t0 t1 t2 t3 t4 t5 t6 t7 what) (fun u => u) (fun u => [(a, .inr (7, [.int t0, .int t1, .int t2, .int t3, .int t4, .int t5, .int t6, .int t7]))]) := by
  refine z_metI (own := RX7) (maxL := 2) rfl (by decide) rfl (Nat.le_of_ble_eq_true rfl) ?_
  intro P0 E0 S0 M0 G0 B0 T0 K0 A9 Q9 C E
  have hx := C.1.1
  have hb := C.1.2.1
  have hown := C.1.2.2.2.1
  have hts := C.1.2.2.2.2
  have hn := C.2.1.2
  have iX7 : ∀ w ∈ u_ws RX7 TX7 8, w ∈ wsX7_tell := by decide +kernel
  have k9 := hts (.fieldLink RX7 9 "JudgedBits$Tally" "samples" "I") (by decide +kernel)
  have k15 := hts (.fieldLink RX7 15 "JudgedBits$Tally" "ones" "I") (by decide +kernel)
  have k18 := hts (.fieldLink RX7 18 "JudgedBits$Tally" "leftOut" "I") (by decide +kernel)
  have k21 := hts (.fieldLink RX7 21 "JudgedBits$Tally" "stored" "I") (by decide +kernel)
  have k24 := hts (.fieldLink RX7 24 "JudgedBits$Tally" "lost" "I") (by decide +kernel)
  have k27 := hts (.fieldLink RX7 27 "JudgedBits$Tally" "drawn" "I") (by decide +kernel)
  have k30 := hts (.fieldLink RX7 30 "JudgedBits$Tally" "alarms" "I") (by decide +kernel)
  have k33 := hts (.fieldLink RX7 33 "JudgedBits$Tally" "longestRun" "I") (by decide +kernel)
  change Z P0 l E0 rm_X7_tell S0 M0 G0 B0 T0 K0 2 T A9 Q9 0 0 [(a, .inr (7, [.int t0, .int t1, .int t2, .int t3, .int t4, .int t5, .int t6, .int t7]))] 0 [(0, .ref a), (1, .int what)] []
  have zh0 := fe_X7_tell t0 t1 t2 t3 t4 t5 t6 t7 what
  refine Z.of (pc' := 1) (fun _ _ _ hl => lv_iload_n hx hb dX7_tell_0 rfl (lv_at hl 1 rfl)) ?_
  by_cases c1 : what = 0
  · have zh9 := zh0.trans (if_pos c1)
    refine Z.of (pc' := 48) (fun _ _ _ _ => lv_tableIn (off := 47) hx hb dX7_tell_1 (by rw [c1]; decide) (by rw [c1]; decide) (by rw [c1]; rfl) (by decide)) ?_
    refine Z.of (pc' := 49) (fun _ _ _ hl => lv_aload_n hx hb dX7_tell_48 rfl (lv_at hl 0 rfl)) ?_
    refine z_get C iX7 0 0 k9 rfl rfl (by decide) rfl rfl dX7_tell_49 rfl ?_
    exact E t0 _ _ _ _ dX7_tell_52 rfl rfl rfl zh9
  · have zh10 := zh0.trans (if_neg c1)
    by_cases c2 : what = 1
    · have zh11 := zh10.trans (if_pos c2)
      refine Z.of (pc' := 53) (fun _ _ _ _ => lv_tableIn (off := 52) hx hb dX7_tell_1 (by rw [c2]; decide) (by rw [c2]; decide) (by rw [c2]; rfl) (by decide)) ?_
      refine Z.of (pc' := 54) (fun _ _ _ hl => lv_aload_n hx hb dX7_tell_53 rfl (lv_at hl 0 rfl)) ?_
      refine z_get C iX7 0 1 k15 rfl rfl (by decide) rfl rfl dX7_tell_54 rfl ?_
      exact E t1 _ _ _ _ dX7_tell_57 rfl rfl rfl zh11
    · have zh12 := zh10.trans (if_neg c2)
      by_cases c3 : what = 2
      · have zh13 := zh12.trans (if_pos c3)
        refine Z.of (pc' := 58) (fun _ _ _ _ => lv_tableIn (off := 57) hx hb dX7_tell_1 (by rw [c3]; decide) (by rw [c3]; decide) (by rw [c3]; rfl) (by decide)) ?_
        refine Z.of (pc' := 59) (fun _ _ _ hl => lv_aload_n hx hb dX7_tell_58 rfl (lv_at hl 0 rfl)) ?_
        refine z_get C iX7 0 2 k18 rfl rfl (by decide) rfl rfl dX7_tell_59 rfl ?_
        exact E t2 _ _ _ _ dX7_tell_62 rfl rfl rfl zh13
      · have zh14 := zh12.trans (if_neg c3)
        by_cases c4 : what = 3
        · have zh15 := zh14.trans (if_pos c4)
          refine Z.of (pc' := 63) (fun _ _ _ _ => lv_tableIn (off := 62) hx hb dX7_tell_1 (by rw [c4]; decide) (by rw [c4]; decide) (by rw [c4]; rfl) (by decide)) ?_
          refine Z.of (pc' := 64) (fun _ _ _ hl => lv_aload_n hx hb dX7_tell_63 rfl (lv_at hl 0 rfl)) ?_
          refine z_get C iX7 0 3 k21 rfl rfl (by decide) rfl rfl dX7_tell_64 rfl ?_
          exact E t3 _ _ _ _ dX7_tell_67 rfl rfl rfl zh15
        · have zh16 := zh14.trans (if_neg c4)
          by_cases c5 : what = 4
          · have zh17 := zh16.trans (if_pos c5)
            refine Z.of (pc' := 68) (fun _ _ _ _ => lv_tableIn (off := 67) hx hb dX7_tell_1 (by rw [c5]; decide) (by rw [c5]; decide) (by rw [c5]; rfl) (by decide)) ?_
            refine Z.of (pc' := 69) (fun _ _ _ hl => lv_aload_n hx hb dX7_tell_68 rfl (lv_at hl 0 rfl)) ?_
            refine z_get C iX7 0 4 k24 rfl rfl (by decide) rfl rfl dX7_tell_69 rfl ?_
            exact E t4 _ _ _ _ dX7_tell_72 rfl rfl rfl zh17
          · have zh18 := zh16.trans (if_neg c5)
            by_cases c6 : what = 5
            · have zh19 := zh18.trans (if_pos c6)
              refine Z.of (pc' := 73) (fun _ _ _ _ => lv_tableIn (off := 72) hx hb dX7_tell_1 (by rw [c6]; decide) (by rw [c6]; decide) (by rw [c6]; rfl) (by decide)) ?_
              refine Z.of (pc' := 74) (fun _ _ _ hl => lv_aload_n hx hb dX7_tell_73 rfl (lv_at hl 0 rfl)) ?_
              refine z_get C iX7 0 5 k27 rfl rfl (by decide) rfl rfl dX7_tell_74 rfl ?_
              exact E t5 _ _ _ _ dX7_tell_77 rfl rfl rfl zh19
            · have zh20 := zh18.trans (if_neg c6)
              by_cases c7 : what = 6
              · have zh21 := zh20.trans (if_pos c7)
                refine Z.of (pc' := 78) (fun _ _ _ _ => lv_tableIn (off := 77) hx hb dX7_tell_1 (by rw [c7]; decide) (by rw [c7]; decide) (by rw [c7]; rfl) (by decide)) ?_
                refine Z.of (pc' := 79) (fun _ _ _ hl => lv_aload_n hx hb dX7_tell_78 rfl (lv_at hl 0 rfl)) ?_
                refine z_get C iX7 0 6 k30 rfl rfl (by decide) rfl rfl dX7_tell_79 rfl ?_
                exact E t6 _ _ _ _ dX7_tell_82 rfl rfl rfl zh21
              · have zh22 := zh20.trans (if_neg c7)
                by_cases c8 : what = 7
                · have zh23 := zh22.trans (if_pos c8)
                  refine Z.of (pc' := 83) (fun _ _ _ _ => lv_tableIn (off := 82) hx hb dX7_tell_1 (by rw [c8]; decide) (by rw [c8]; decide) (by rw [c8]; rfl) (by decide)) ?_
                  refine Z.of (pc' := 84) (fun _ _ _ hl => lv_aload_n hx hb dX7_tell_83 rfl (lv_at hl 0 rfl)) ?_
                  refine z_get C iX7 0 7 k33 rfl rfl (by decide) rfl rfl dX7_tell_84 rfl ?_
                  exact E t7 _ _ _ _ dX7_tell_87 rfl rfl rfl zh23
                · have zh24 := zh22.trans (if_neg c8)
                  refine Z.of (pc' := 88) (fun _ _ _ _ => lv_tableOut hx hb dX7_tell_1 (zsw_out (n := 7) (by decide) (fun k hk => by match k, hk with | 0, _ => exact c1 | 1, _ => exact c2 | 2, _ => exact c3 | 3, _ => exact c4 | 4, _ => exact c5 | 5, _ => exact c6 | 6, _ => exact c7 | 7, _ => exact c8 | k + 8, h => omega)) (by decide)) ?_
                  refine Z.of (pc' := 90) (fun _ _ _ _ => lv_ldc hx hb hown (hts (.constant RX7 36 (-1000001)) (by decide +kernel)) dX7_tell_88) ?_
                  exact E (-1000001) _ _ _ _ dX7_tell_90 rfl rfl rfl zh24
