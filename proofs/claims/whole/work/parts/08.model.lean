def f_X10_in (v : Int32) (lo : Int32) (hi : Int32) : Int32 :=
  if v < lo then
    0
  else
    if hi < v then
      0
    else
      1
theorem fe_X10_in (v : Int32) (lo : Int32) (hi : Int32) : f_X10_in v lo hi = (
    if v < lo then
      0
    else
      if hi < v then
        0
      else
        1
    ) := rfl
abbrev rm_X10_in : Room := { frames := 0, cells := 0, slots := 0, locals := 0 }
set_option maxHeartbeats 1000000 in
set_option maxRecDepth 100000 in
theorem c_X10_in (l : Launch) (T : zT) (v : Int32) (lo : Int32) (hi : Int32) : Ci l yX10_in wsX10_in rm_X10_in T .boolean [.int v, .int lo, .int hi] [] (S := Int32) (f_X10_in v lo hi) (fun u => u) (fun u => []) := by
  refine z_metI (own := RX10) (maxL := 3) rfl (by decide) rfl (Nat.le_of_ble_eq_true rfl) ?_
  intro P0 E0 S0 M0 G0 B0 T0 K0 A9 Q9 C E
  have hx := C.1.1
  have hb := C.1.2.1
  have hown := C.1.2.2.2.1
  have hts := C.1.2.2.2.2
  have hn := C.2.1.2
  change Z P0 l E0 rm_X10_in S0 M0 G0 B0 T0 K0 3 T A9 Q9 0 0 [] 0 [(0, .int v), (1, .int lo), (2, .int hi)] []
  have zh0 := fe_X10_in v lo hi
  refine Z.of (pc' := 1) (fun _ _ _ hl => lv_iload_n hx hb dX10_in_0 rfl (lv_at hl 0 rfl)) ?_
  refine Z.of (pc' := 2) (fun _ _ _ hl => lv_iload_n hx hb dX10_in_1 rfl (lv_at hl 1 rfl)) ?_
  refine Z.two (pt := 14) (pf := 5) (fun _ _ _ _ => lv_icmp_lt hx hb dX10_in_2 (by decide)) (fun c1 => ?_) (fun c1 => ?_)
  · have zh2 := zh0.trans (if_pos c1)
    refine Z.of (pc' := 15) (fun _ _ _ _ => lv_iconst (v := 0) hx hb dX10_in_14 (by decide)) ?_
    exact E 0 _ _ _ _ dX10_in_15 rfl rfl rfl zh2
  · have zh3 := zh0.trans (if_neg c1)
    refine Z.of (pc' := 6) (fun _ _ _ hl => lv_iload_n hx hb dX10_in_5 rfl (lv_at hl 0 rfl)) ?_
    refine Z.of (pc' := 7) (fun _ _ _ hl => lv_iload_n hx hb dX10_in_6 rfl (lv_at hl 2 rfl)) ?_
    refine Z.two (pt := 14) (pf := 10) (fun _ _ _ _ => lv_icmp_gt hx hb dX10_in_7 (by decide)) (fun c4 => ?_) (fun c4 => ?_)
    · have zh5 := zh3.trans (if_pos c4)
      refine Z.of (pc' := 15) (fun _ _ _ _ => lv_iconst (v := 0) hx hb dX10_in_14 (by decide)) ?_
      exact E 0 _ _ _ _ dX10_in_15 rfl rfl rfl zh5
    · have zh6 := zh3.trans (if_neg c4)
      refine Z.of (pc' := 11) (fun _ _ _ _ => lv_iconst (v := 1) hx hb dX10_in_10 (by decide)) ?_
      refine Z.of (pc' := 15) (fun _ _ _ _ => lv_goto hx hb dX10_in_11 (by decide)) ?_
      exact E 1 _ _ _ _ dX10_in_15 rfl rfl rfl zh6
def lp2_X10_copies (g : Nat → Int32) (m : Nat → Int32) (t : Nat → Int32) (fr : Nat) (tw : Nat) : Nat → Nat → (Nat → Int32) → (Nat → Int32)
  | 0, _, _ => m
  | q2 + 1, k, mx =>
    if 157 ≤ (nI k) then
      mx
    else
      zl (upd mx (157 * tw + k) (mx (157 * fr + k))) fun m4 =>
      lp2_X10_copies g m t fr tw q2 (k + 1) m4
theorem lp2_X10_copies_s (g : Nat → Int32) (m : Nat → Int32) (t : Nat → Int32) (fr : Nat) (tw : Nat) (q2 : Nat) (k : Nat) (mx : (Nat → Int32)) : lp2_X10_copies g m t fr tw (q2 + 1) k mx = (
    if 157 ≤ (nI k) then
      mx
    else
      zl (upd mx (157 * tw + k) (mx (157 * fr + k))) fun m4 =>
      lp2_X10_copies g m t fr tw q2 (k + 1) m4
    ) := rfl
def f_X10_copies (g : Nat → Int32) (m : Nat → Int32) (t : Nat → Int32) (fr : Nat) (tw : Nat) : (Nat → Int32) :=
  lp2_X10_copies g m t fr tw 158 0 m
theorem fe_X10_copies (g : Nat → Int32) (m : Nat → Int32) (t : Nat → Int32) (fr : Nat) (tw : Nat) : f_X10_copies g m t fr tw = (
    lp2_X10_copies g m t fr tw 158 0 m
    ) := rfl
abbrev rm_X10_copies : Room := { frames := 0, cells := 0, slots := 0, locals := 0 }
set_option maxHeartbeats 1000000 in
set_option maxRecDepth 100000 in
theorem c_X10_copies (l : Launch) (T : zT) (M : Nat → Nat) (g : Nat → Int32) (m : Nat → Int32) (t : Nat → Int32) (fr : Nat) (tw : Nat) (hf9 : fr ≤ 6) (ht9 : tw ≤ 6) : Cv l yX10_copies wsX10_copies rm_X10_copies T [.ref (M 0), .int (nI fr), .int (nI tw)] [(M 0, .inr (10, [.ref (M 1), .int (g 0), .ref (M 2), .int (g 1), .int (g 2), .int (g 3), .int (g 4), .int (g 5), .int (g 6)])), (M 1, .inl (T.2.2.1, 1099, .inl m)), (M 2, .inl (T.2.2.2, 60, .inl t))] (S := (Nat → Int32)) (f_X10_copies g m t fr tw) (fun u => [(M 0, .inr (10, [.ref (M 1), .int (g 0), .ref (M 2), .int (g 1), .int (g 2), .int (g 3), .int (g 4), .int (g 5), .int (g 6)])), (M 1, .inl (T.2.2.1, 1099, .inl u)), (M 2, .inl (T.2.2.2, 60, .inl t))]) := by
  refine z_metV (own := RX10) (maxL := 4) rfl (by decide) rfl (Nat.le_of_ble_eq_true rfl) ?_
  intro P0 E0 S0 M0 G0 B0 T0 K0 A9 Q9 C E
  have hx := C.1.1
  have hb := C.1.2.1
  have hown := C.1.2.2.2.1
  have hts := C.1.2.2.2.2
  have hn := C.2.1.2
  have iX10 : ∀ w ∈ u_ws RX10 TX10 9, w ∈ wsX10_copies := by decide +kernel
  have k7 := hts (.fieldLink RX10 7 "JudgedBitsModel" "s" "[I") (by decide +kernel)
  change Z P0 l E0 rm_X10_copies S0 M0 G0 B0 T0 K0 4 T A9 Q9 0 0 [(M 0, .inr (10, [.ref (M 1), .int (g 0), .ref (M 2), .int (g 1), .int (g 2), .int (g 3), .int (g 4), .int (g 5), .int (g 6)])), (M 1, .inl (T.2.2.1, 1099, .inl m)), (M 2, .inl (T.2.2.2, 60, .inl t))] 0 [(0, .ref (M 0)), (1, .int (nI fr)), (2, .int (nI tw))] []
  have zh0 := fe_X10_copies g m t fr tw
  refine Z.of (pc' := 1) (fun _ _ _ _ => lv_iconst (v := 0) hx hb dX10_copies_0 (by decide)) ?_
  refine Z.sto (pc' := 2) (lv' := [(3, .int 0), (0, .ref (M 0)), (1, .int (nI fr)), (2, .int (nI tw))]) (fun _ _ _ hl => lv_istore_n (lv' := [(3, .int 0), (0, .ref (M 0)), (1, .int (nI fr)), (2, .int (nI tw))]) hx hb dX10_copies_1 rfl hl (by decide) rfl) ?_
  have L2 : ∀ (q2 : Nat) (k : Nat) (mx : (Nat → Int32)), (k ≤ 157 ∧ k + q2 = 158) → f_X10_copies g m t fr tw = lp2_X10_copies g m t fr tw q2 k mx → Z P0 l E0 rm_X10_copies S0 M0 G0 B0 T0 K0 4 T A9 Q9 0 0 [(M 0, .inr (10, [.ref (M 1), .int (g 0), .ref (M 2), .int (g 1), .int (g 2), .int (g 3), .int (g 4), .int (g 5), .int (g 6)])), (M 1, .inl (T.2.2.1, 1099, .inl mx)), (M 2, .inl (T.2.2.2, 60, .inl t))] 2 [(0, .ref (M 0)), (1, .int (nI fr)), (2, .int (nI tw)), (3, .int (nI k))] [] := by
    intro q2
    induction q2 with
    | zero =>
      intro k mx hi2 zhl2
      omega
    | succ q2 ih =>
      intro k mx hi2 zhl2
      have zhb2 := zhl2.trans (lp2_X10_copies_s g m t fr tw q2 k mx)
      refine Z.of (pc' := 3) (fun _ _ _ hl => lv_iload_n hx hb dX10_copies_2 rfl (lv_at hl 3 rfl)) ?_
      refine Z.of (pc' := 6) (fun _ _ _ _ => lv_sipush (v := 157) hx hb dX10_copies_3 (by decide)) ?_
      refine Z.two (pt := 39) (pf := 9) (fun _ _ _ _ => lv_icmp_ge hx hb dX10_copies_6 (by decide)) (fun c1 => ?_) (fun c1 => ?_)
      · have nc1 : 157 ≤ k := zf_le (a := 157) (b := k) (rfl : (157 : Int32) = nI 157) (rfl : nI k = nI k) c1 (by omega) (by omega)
        have zh2 := zhb2.trans (if_pos c1)
        exact E mx _ _ _ dX10_copies_39  rfl zh2
      · have nc1 : ¬ (157 ≤ k) := zf_nle (a := 157) (b := k) (rfl : (157 : Int32) = nI 157) (rfl : nI k = nI k) c1 (by omega) (by omega)
        have zh3 := zhb2.trans (if_neg c1)
        refine Z.of (pc' := 10) (fun _ _ _ hl => lv_aload_n hx hb dX10_copies_9 rfl (lv_at hl 0 rfl)) ?_
        refine z_get C iX10 0 0 k7 rfl rfl (by decide) rfl rfl dX10_copies_10 rfl ?_
        refine Z.of (pc' := 16) (fun _ _ _ _ => lv_sipush (v := 157) hx hb dX10_copies_13 (by decide)) ?_
        refine Z.of (pc' := 17) (fun _ _ _ hl => lv_iload_n hx hb dX10_copies_16 rfl (lv_at hl 2 rfl)) ?_
        refine Z.of (pc' := 18) (fun _ _ _ hl => lv_imul hx hb dX10_copies_17) ?_
        refine Z.topn (y := nI (157 * tw)) (zi_c (zi_mul (a := 157) (b := tw) (rfl : (157 : Int32) = nI 157) (rfl : nI tw = nI tw)) (by omega)) ?_
        refine Z.of (pc' := 19) (fun _ _ _ hl => lv_iload_n hx hb dX10_copies_18 rfl (lv_at hl 3 rfl)) ?_
        refine Z.of (pc' := 20) (fun _ _ _ hl => lv_iadd hx hb dX10_copies_19) ?_
        refine Z.topn (y := nI (157 * tw + k)) (zi_c (zi_add (a := 157 * tw) (b := k) (rfl : nI (157 * tw) = nI (157 * tw)) (rfl : nI k = nI k)) (by omega)) ?_
        refine Z.of (pc' := 21) (fun _ _ _ hl => lv_aload_n hx hb dX10_copies_20 rfl (lv_at hl 0 rfl)) ?_
        refine z_get C iX10 0 0 k7 rfl rfl (by decide) rfl rfl dX10_copies_21 rfl ?_
        refine Z.of (pc' := 27) (fun _ _ _ _ => lv_sipush (v := 157) hx hb dX10_copies_24 (by decide)) ?_
        refine Z.of (pc' := 28) (fun _ _ _ hl => lv_iload_n hx hb dX10_copies_27 rfl (lv_at hl 1 rfl)) ?_
        refine Z.of (pc' := 29) (fun _ _ _ hl => lv_imul hx hb dX10_copies_28) ?_
        refine Z.topn (y := nI (157 * fr)) (zi_c (zi_mul (a := 157) (b := fr) (rfl : (157 : Int32) = nI 157) (rfl : nI fr = nI fr)) (by omega)) ?_
        refine Z.of (pc' := 30) (fun _ _ _ hl => lv_iload_n hx hb dX10_copies_29 rfl (lv_at hl 3 rfl)) ?_
        refine Z.of (pc' := 31) (fun _ _ _ hl => lv_iadd hx hb dX10_copies_30) ?_
        refine Z.topn (y := nI (157 * fr + k)) (zi_c (zi_add (a := 157 * fr) (b := k) (rfl : nI (157 * fr) = nI (157 * fr)) (rfl : nI k = nI k)) (by omega)) ?_
        refine z_iald C 1 1 rfl rfl (j := 157 * fr + k) (rfl : nI (157 * fr + k) = nI (157 * fr + k)) (by omega) (by decide) dX10_copies_31 rfl ?_
        refine z_iast C 1 1 rfl rfl (j := 157 * tw + k) (rfl : nI (157 * tw + k) = nI (157 * tw + k)) (by omega) (by decide) dX10_copies_32 rfl (fun m4 => [(M 0, .inr (10, [.ref (M 1), .int (g 0), .ref (M 2), .int (g 1), .int (g 2), .int (g 3), .int (g 4), .int (g 5), .int (g 6)])), (M 1, .inl (T.2.2.1, 1099, .inl m4)), (M 2, .inl (T.2.2.2, 60, .inl t))]) (fun _ => rfl) (fun m4 em4 => ?_)
        have zh5 := zl_e zh3 em4
        refine Z.sto (pc' := 36) (lv' := [(3, .int (nI (k + 1))), (0, .ref (M 0)), (1, .int (nI fr)), (2, .int (nI tw))]) (fun _ _ _ hl => lv_iinc (lv' := [(3, .int (nI (k + 1))), (0, .ref (M 0)), (1, .int (nI fr)), (2, .int (nI tw))]) hx hb dX10_copies_33 hl (k := 3) rfl ((zi_add (a := k) (b := 1) (rfl : nI k = nI k) (by decide : Int32.ofInt 1 = nI 1)).trans (congrArg nI (by omega))) (by decide) rfl) ?_
        refine Z.of (pc' := 2) (fun _ _ _ _ => lv_goto hx hb dX10_copies_36 (by decide)) ?_
        exact Z.sub (ks := [1, 2, 3, 0]) (lv' := [(0, .ref (M 0)), (1, .int (nI fr)), (2, .int (nI tw)), (3, .int (nI (k + 1)))]) rfl (ih (k + 1) m4 (by omega) zh5)
  exact Z.sub (ks := [1, 2, 3, 0]) (lv' := [(0, .ref (M 0)), (1, .int (nI fr)), (2, .int (nI tw)), (3, .int 0)]) rfl (L2 158 0 m (by omega) zh0)
def f_X10_asks (g : Nat → Int32) (m : Nat → Int32) (t : Nat → Int32) (b : Nat) : Int32 × (Nat → Int32) :=
  zl (upd m b (((m b) * 75) - ((m b) * 75) / 65537 * 65537)) fun m1 =>
  (m1 b, m1)
theorem fe_X10_asks (g : Nat → Int32) (m : Nat → Int32) (t : Nat → Int32) (b : Nat) : f_X10_asks g m t b = (
    zl (upd m b (((m b) * 75) - ((m b) * 75) / 65537 * 65537)) fun m1 =>
    (m1 b, m1)
    ) := rfl
abbrev rm_X10_asks : Room := { frames := 0, cells := 0, slots := 0, locals := 0 }
set_option maxHeartbeats 1000000 in
set_option maxRecDepth 100000 in
theorem c_X10_asks (l : Launch) (T : zT) (M : Nat → Nat) (g : Nat → Int32) (m : Nat → Int32) (t : Nat → Int32) (b : Nat) (hb9 : b ≤ 942) : Ci l yX10_asks wsX10_asks rm_X10_asks T .int [.ref (M 0), .int (nI b)] [(M 0, .inr (10, [.ref (M 1), .int (g 0), .ref (M 2), .int (g 1), .int (g 2), .int (g 3), .int (g 4), .int (g 5), .int (g 6)])), (M 1, .inl (T.2.2.1, 1099, .inl m)), (M 2, .inl (T.2.2.2, 60, .inl t))] (S := Int32 × (Nat → Int32)) (f_X10_asks g m t b) (fun u => u.1) (fun u => [(M 0, .inr (10, [.ref (M 1), .int (g 0), .ref (M 2), .int (g 1), .int (g 2), .int (g 3), .int (g 4), .int (g 5), .int (g 6)])), (M 1, .inl (T.2.2.1, 1099, .inl u.2)), (M 2, .inl (T.2.2.2, 60, .inl t))]) := by
  refine z_metI (own := RX10) (maxL := 2) rfl (by decide) rfl (Nat.le_of_ble_eq_true rfl) ?_
  intro P0 E0 S0 M0 G0 B0 T0 K0 A9 Q9 C E
  have hx := C.1.1
  have hb := C.1.2.1
  have hown := C.1.2.2.2.1
  have hts := C.1.2.2.2.2
  have hn := C.2.1.2
  have iX10 : ∀ w ∈ u_ws RX10 TX10 9, w ∈ wsX10_asks := by decide +kernel
  have k7 := hts (.fieldLink RX10 7 "JudgedBitsModel" "s" "[I") (by decide +kernel)
  change Z P0 l E0 rm_X10_asks S0 M0 G0 B0 T0 K0 2 T A9 Q9 0 0 [(M 0, .inr (10, [.ref (M 1), .int (g 0), .ref (M 2), .int (g 1), .int (g 2), .int (g 3), .int (g 4), .int (g 5), .int (g 6)])), (M 1, .inl (T.2.2.1, 1099, .inl m)), (M 2, .inl (T.2.2.2, 60, .inl t))] 0 [(0, .ref (M 0)), (1, .int (nI b))] []
  have zh0 := fe_X10_asks g m t b
  refine Z.of (pc' := 1) (fun _ _ _ hl => lv_aload_n hx hb dX10_asks_0 rfl (lv_at hl 0 rfl)) ?_
  refine z_get C iX10 0 0 k7 rfl rfl (by decide) rfl rfl dX10_asks_1 rfl ?_
  refine Z.of (pc' := 5) (fun _ _ _ hl => lv_iload_n hx hb dX10_asks_4 rfl (lv_at hl 1 rfl)) ?_
  refine Z.of (pc' := 6) (fun _ _ _ hl => lv_aload_n hx hb dX10_asks_5 rfl (lv_at hl 0 rfl)) ?_
  refine z_get C iX10 0 0 k7 rfl rfl (by decide) rfl rfl dX10_asks_6 rfl ?_
  refine Z.of (pc' := 10) (fun _ _ _ hl => lv_iload_n hx hb dX10_asks_9 rfl (lv_at hl 1 rfl)) ?_
  refine z_iald C 1 1 rfl rfl (j := b) (rfl : nI b = nI b) (by omega) (by decide) dX10_asks_10 rfl ?_
  refine Z.of (pc' := 13) (fun _ _ _ _ => lv_bipush (v := 75) hx hb dX10_asks_11 (by decide)) ?_
  refine Z.of (pc' := 14) (fun _ _ _ hl => lv_imul hx hb dX10_asks_13) ?_
  refine Z.of (pc' := 16) (fun _ _ _ _ => lv_ldc hx hb hown (hts (.constant RX10 25 (65537)) (by decide +kernel)) dX10_asks_14) ?_
  refine Z.of (pc' := 17) (fun _ _ _ hl => lv_irem hx hb dX10_asks_16 (by decide)) ?_
  refine z_iast C 1 1 rfl rfl (j := b) (rfl : nI b = nI b) (by omega) (by decide) dX10_asks_17 rfl (fun m1 => [(M 0, .inr (10, [.ref (M 1), .int (g 0), .ref (M 2), .int (g 1), .int (g 2), .int (g 3), .int (g 4), .int (g 5), .int (g 6)])), (M 1, .inl (T.2.2.1, 1099, .inl m1)), (M 2, .inl (T.2.2.2, 60, .inl t))]) (fun _ => rfl) (fun m1 em1 => ?_)
  have zh2 := zl_e zh0 em1
  refine Z.of (pc' := 19) (fun _ _ _ hl => lv_aload_n hx hb dX10_asks_18 rfl (lv_at hl 0 rfl)) ?_
  refine z_get C iX10 0 0 k7 rfl rfl (by decide) rfl rfl dX10_asks_19 rfl ?_
  refine Z.of (pc' := 23) (fun _ _ _ hl => lv_iload_n hx hb dX10_asks_22 rfl (lv_at hl 1 rfl)) ?_
  refine z_iald C 1 1 rfl rfl (j := b) (rfl : nI b = nI b) (by omega) (by decide) dX10_asks_23 rfl ?_
  exact E (m1 b, m1) _ _ _ _ dX10_asks_24 rfl rfl rfl zh2
def f_X10_locks (g : Nat → Int32) (m : Nat → Int32) (t : Nat → Int32) (b : Nat) : Int32 :=
  zl (
    if 0 ≤ ((m (b + 1)) - (m (b + 2))) then
      ((m (b + 1)) - (m (b + 2)))
    else
      (-((m (b + 1)) - (m (b + 2))))
    : Int32) fun v2 =>
  if (m (b + 8)) < v2 then
    0
  else
    1
theorem fe_X10_locks (g : Nat → Int32) (m : Nat → Int32) (t : Nat → Int32) (b : Nat) : f_X10_locks g m t b = (
    zl (
      if 0 ≤ ((m (b + 1)) - (m (b + 2))) then
        ((m (b + 1)) - (m (b + 2)))
      else
        (-((m (b + 1)) - (m (b + 2))))
      : Int32) fun v2 =>
    if (m (b + 8)) < v2 then
      0
    else
      1
    ) := rfl
abbrev rm_X10_locks : Room := { frames := 0, cells := 0, slots := 0, locals := 0 }
set_option maxHeartbeats 1000000 in
set_option maxRecDepth 100000 in
theorem c_X10_locks (l : Launch) (T : zT) (M : Nat → Nat) (g : Nat → Int32) (m : Nat → Int32) (t : Nat → Int32) (b : Nat) (hb9 : b ≤ 942) : Ci l yX10_locks wsX10_locks rm_X10_locks T .boolean [.ref (M 0), .int (nI b)] [(M 0, .inr (10, [.ref (M 1), .int (g 0), .ref (M 2), .int (g 1), .int (g 2), .int (g 3), .int (g 4), .int (g 5), .int (g 6)])), (M 1, .inl (T.2.2.1, 1099, .inl m)), (M 2, .inl (T.2.2.2, 60, .inl t))] (S := Int32) (f_X10_locks g m t b) (fun u => u) (fun u => [(M 0, .inr (10, [.ref (M 1), .int (g 0), .ref (M 2), .int (g 1), .int (g 2), .int (g 3), .int (g 4), .int (g 5), .int (g 6)])), (M 1, .inl (T.2.2.1, 1099, .inl m)), (M 2, .inl (T.2.2.2, 60, .inl t))]) := by
  refine z_metI (own := RX10) (maxL := 3) rfl (by decide) rfl (Nat.le_of_ble_eq_true rfl) ?_
  intro P0 E0 S0 M0 G0 B0 T0 K0 A9 Q9 C E
  have hx := C.1.1
  have hb := C.1.2.1
  have hown := C.1.2.2.2.1
  have hts := C.1.2.2.2.2
  have hn := C.2.1.2
  have iX10 : ∀ w ∈ u_ws RX10 TX10 9, w ∈ wsX10_locks := by decide +kernel
  have k7 := hts (.fieldLink RX10 7 "JudgedBitsModel" "s" "[I") (by decide +kernel)
  change Z P0 l E0 rm_X10_locks S0 M0 G0 B0 T0 K0 3 T A9 Q9 0 0 [(M 0, .inr (10, [.ref (M 1), .int (g 0), .ref (M 2), .int (g 1), .int (g 2), .int (g 3), .int (g 4), .int (g 5), .int (g 6)])), (M 1, .inl (T.2.2.1, 1099, .inl m)), (M 2, .inl (T.2.2.2, 60, .inl t))] 0 [(0, .ref (M 0)), (1, .int (nI b))] []
  have zh0 := fe_X10_locks g m t b
  refine Z.of (pc' := 1) (fun _ _ _ hl => lv_aload_n hx hb dX10_locks_0 rfl (lv_at hl 0 rfl)) ?_
  refine z_get C iX10 0 0 k7 rfl rfl (by decide) rfl rfl dX10_locks_1 rfl ?_
  refine Z.of (pc' := 5) (fun _ _ _ hl => lv_iload_n hx hb dX10_locks_4 rfl (lv_at hl 1 rfl)) ?_
  refine Z.of (pc' := 6) (fun _ _ _ _ => lv_iconst (v := 1) hx hb dX10_locks_5 (by decide)) ?_
  refine Z.of (pc' := 7) (fun _ _ _ hl => lv_iadd hx hb dX10_locks_6) ?_
  refine Z.topn (y := nI (b + 1)) (zi_c (zi_add (a := b) (b := 1) (rfl : nI b = nI b) (rfl : (1 : Int32) = nI 1)) (by omega)) ?_
  refine z_iald C 1 1 rfl rfl (j := b + 1) (rfl : nI (b + 1) = nI (b + 1)) (by omega) (by decide) dX10_locks_7 rfl ?_
  refine Z.of (pc' := 9) (fun _ _ _ hl => lv_aload_n hx hb dX10_locks_8 rfl (lv_at hl 0 rfl)) ?_
  refine z_get C iX10 0 0 k7 rfl rfl (by decide) rfl rfl dX10_locks_9 rfl ?_
  refine Z.of (pc' := 13) (fun _ _ _ hl => lv_iload_n hx hb dX10_locks_12 rfl (lv_at hl 1 rfl)) ?_
  refine Z.of (pc' := 14) (fun _ _ _ _ => lv_iconst (v := 1) hx hb dX10_locks_13 (by decide)) ?_
  refine Z.of (pc' := 15) (fun _ _ _ hl => lv_iadd hx hb dX10_locks_14) ?_
  refine Z.topn (y := nI (b + 1)) (zi_c (zi_add (a := b) (b := 1) (rfl : nI b = nI b) (rfl : (1 : Int32) = nI 1)) (by omega)) ?_
  refine Z.of (pc' := 16) (fun _ _ _ _ => lv_iconst (v := 1) hx hb dX10_locks_15 (by decide)) ?_
  refine Z.of (pc' := 17) (fun _ _ _ hl => lv_iadd hx hb dX10_locks_16) ?_
  refine Z.topn (y := nI (b + 2)) (zi_c (zi_add (a := b + 1) (b := 1) (rfl : nI (b + 1) = nI (b + 1)) (rfl : (1 : Int32) = nI 1)) (by omega)) ?_
  refine z_iald C 1 1 rfl rfl (j := b + 2) (rfl : nI (b + 2) = nI (b + 2)) (by omega) (by decide) dX10_locks_17 rfl ?_
  refine Z.of (pc' := 19) (fun _ _ _ hl => lv_isub hx hb dX10_locks_18) ?_
  refine Z.sto (pc' := 20) (lv' := [(2, .int ((m (b + 1)) - (m (b + 2)))), (0, .ref (M 0)), (1, .int (nI b))]) (fun _ _ _ hl => lv_istore_n (lv' := [(2, .int ((m (b + 1)) - (m (b + 2)))), (0, .ref (M 0)), (1, .int (nI b))]) hx hb dX10_locks_19 rfl hl (by decide) rfl) ?_
  refine Z.of (pc' := 21) (fun _ _ _ hl => lv_iload_n hx hb dX10_locks_20 rfl (lv_at hl 0 rfl)) ?_
  have J2 : ∀ v2 : Int32, v2 = (
      if 0 ≤ ((m (b + 1)) - (m (b + 2))) then
        ((m (b + 1)) - (m (b + 2)))
      else
        (-((m (b + 1)) - (m (b + 2))))
      ) → Z P0 l E0 rm_X10_locks S0 M0 G0 B0 T0 K0 3 T A9 Q9 0 0 [(M 0, .inr (10, [.ref (M 1), .int (g 0), .ref (M 2), .int (g 1), .int (g 2), .int (g 3), .int (g 4), .int (g 5), .int (g 6)])), (M 1, .inl (T.2.2.1, 1099, .inl m)), (M 2, .inl (T.2.2.2, 60, .inl t))] 30 [(0, .ref (M 0)), (1, .int (nI b))] [.int v2] := by
    intro v2 ev2
    have zh5 := zl_e zh0 ev2
    refine Z.of (pc' := 31) (fun _ _ _ hl => lv_aload_n hx hb dX10_locks_30 rfl (lv_at hl 0 rfl)) ?_
    refine z_get C iX10 0 0 k7 rfl rfl (by decide) rfl rfl dX10_locks_31 rfl ?_
    refine Z.of (pc' := 35) (fun _ _ _ hl => lv_iload_n hx hb dX10_locks_34 rfl (lv_at hl 1 rfl)) ?_
    refine Z.of (pc' := 37) (fun _ _ _ _ => lv_bipush (v := 7) hx hb dX10_locks_35 (by decide)) ?_
    refine Z.of (pc' := 38) (fun _ _ _ hl => lv_iadd hx hb dX10_locks_37) ?_
    refine Z.topn (y := nI (b + 7)) (zi_c (zi_add (a := b) (b := 7) (rfl : nI b = nI b) (rfl : (7 : Int32) = nI 7)) (by omega)) ?_
    refine Z.of (pc' := 39) (fun _ _ _ _ => lv_iconst (v := 1) hx hb dX10_locks_38 (by decide)) ?_
    refine Z.of (pc' := 40) (fun _ _ _ hl => lv_iadd hx hb dX10_locks_39) ?_
    refine Z.topn (y := nI (b + 8)) (zi_c (zi_add (a := b + 7) (b := 1) (rfl : nI (b + 7) = nI (b + 7)) (rfl : (1 : Int32) = nI 1)) (by omega)) ?_
    refine z_iald C 1 1 rfl rfl (j := b + 8) (rfl : nI (b + 8) = nI (b + 8)) (by omega) (by decide) dX10_locks_40 rfl ?_
    refine Z.two (pt := 48) (pf := 44) (fun _ _ _ _ => lv_icmp_gt hx hb dX10_locks_41 (by decide)) (fun c6 => ?_) (fun c6 => ?_)
    · have zh7 := zh5.trans (if_pos c6)
      refine Z.of (pc' := 49) (fun _ _ _ _ => lv_iconst (v := 0) hx hb dX10_locks_48 (by decide)) ?_
      exact E 0 _ _ _ _ dX10_locks_49 rfl rfl rfl zh7
    · have zh8 := zh5.trans (if_neg c6)
      refine Z.of (pc' := 45) (fun _ _ _ _ => lv_iconst (v := 1) hx hb dX10_locks_44 (by decide)) ?_
      refine Z.of (pc' := 49) (fun _ _ _ _ => lv_goto hx hb dX10_locks_45 (by decide)) ?_
      exact E 1 _ _ _ _ dX10_locks_49 rfl rfl rfl zh8
  have zr2 := @Eq.refl (Int32) (
      if 0 ≤ ((m (b + 1)) - (m (b + 2))) then
        ((m (b + 1)) - (m (b + 2)))
      else
        (-((m (b + 1)) - (m (b + 2))))
      )
  refine Z.two (pt := 29) (pf := 24) (fun _ _ _ _ => lv_if_ge hx hb dX10_locks_21 (by decide)) (fun c1 => ?_) (fun c1 => ?_)
  · have zh3 := zr2.trans (if_pos c1)
    refine Z.of (pc' := 30) (fun _ _ _ hl => lv_iload_n hx hb dX10_locks_29 rfl (lv_at hl 0 rfl)) ?_
    exact Z.sub (ks := [1, 2]) (lv' := [(0, .ref (M 0)), (1, .int (nI b))]) rfl (J2 ((m (b + 1)) - (m (b + 2))) zh3.symm)
  · have zh4 := zr2.trans (if_neg c1)
    refine Z.of (pc' := 25) (fun _ _ _ hl => lv_iload_n hx hb dX10_locks_24 rfl (lv_at hl 0 rfl)) ?_
    refine Z.of (pc' := 26) (fun _ _ _ hl => lv_ineg hx hb dX10_locks_25) ?_
    refine Z.of (pc' := 30) (fun _ _ _ _ => lv_goto hx hb dX10_locks_26 (by decide)) ?_
    exact Z.sub (ks := [1, 2]) (lv' := [(0, .ref (M 0)), (1, .int (nI b))]) rfl (J2 (-((m (b + 1)) - (m (b + 2)))) zh4.symm)
def IN (x : Int32) (N : Nat) : Prop := x = nI x.toNatClampNeg ∧ x.toNatClampNeg ≤ N
theorem IN_of {x : Int32} {k N : Nat} (e : x = nI k) (h : k ≤ N) (hN : N < 2 ^ 31) : IN x N := by
  subst e
  unfold IN
  rw [nI_clamp (by omega)]
  exact ⟨rfl, h⟩
theorem asks_fr (g m t : Nat → Int32) (b j : Nat) (h : j ≠ b) : (f_X10_asks g m t b).2 j = m j := by
  unfold f_X10_asks
  simp only [zl]
  exact pk_un h
theorem zk63 {m2 mx : Nat → Int32} {b kp : Nat} {y : Int32} (e : m2 = upd mx (b + 28) (mx (b + 28) - 1)) (h : mx (b + 28) = y) (hk : y = nI kp) (n : kp = 64) : m2 (b + 28) = nI 63 := by
  rw [e, pk_us, h, hk, n]
  decide
def f_X10_runs (g : Nat → Int32) (m : Nat → Int32) (t : Nat → Int32) (b : Nat) (ring : Nat) : (Nat → Int32) :=
  zl (f_X10_asks g m t b) fun u1 =>
  zl (u1.1 - u1.1 / ((u1.2 (b + ring + 3)) + 1) * ((u1.2 (b + ring + 3)) + 1) : Int32) fun y3 =>
  zl (((u1.2 (b + ring + 5)) + ((m (b + 7)) + y3)) - ((u1.2 (b + ring + 5)) + ((m (b + 7)) + y3)) / (u1.2 (b + ring + 1)) * (u1.2 (b + ring + 1)) : Int32) fun y5 =>
  zl (upd u1.2 (b + ring + 5) y5) fun m7 =>
  m7
theorem fe_X10_runs (g : Nat → Int32) (m : Nat → Int32) (t : Nat → Int32) (b : Nat) (ring : Nat) : f_X10_runs g m t b ring = (
    zl (f_X10_asks g m t b) fun u1 =>
    zl (u1.1 - u1.1 / ((u1.2 (b + ring + 3)) + 1) * ((u1.2 (b + ring + 3)) + 1) : Int32) fun y3 =>
    zl (((u1.2 (b + ring + 5)) + ((m (b + 7)) + y3)) - ((u1.2 (b + ring + 5)) + ((m (b + 7)) + y3)) / (u1.2 (b + ring + 1)) * (u1.2 (b + ring + 1)) : Int32) fun y5 =>
    zl (upd u1.2 (b + ring + 5) y5) fun m7 =>
    m7
    ) := rfl
abbrev rm_X10_runs : Room := { frames := 1, cells := 0, slots := 0, locals := 21 }
set_option maxHeartbeats 1000000 in
set_option maxRecDepth 100000 in
theorem c_X10_runs (l : Launch) (T : zT) (M : Nat → Nat) (g : Nat → Int32) (m : Nat → Int32) (t : Nat → Int32) (b : Nat) (ring : Nat) (hb9 : b ≤ 942) (hr9 : ring ≤ 1) (hj9 : ¬ m (b + ring + 3) + 1 = 0) (hp9 : ¬ m (b + ring + 1) = 0) : Cv l yX10_runs wsX10_runs rm_X10_runs T [.ref (M 0), .int (nI b), .int (nI ring)] [(M 0, .inr (10, [.ref (M 1), .int (g 0), .ref (M 2), .int (g 1), .int (g 2), .int (g 3), .int (g 4), .int (g 5), .int (g 6)])), (M 1, .inl (T.2.2.1, 1099, .inl m)), (M 2, .inl (T.2.2.2, 60, .inl t))] (S := (Nat → Int32)) (f_X10_runs g m t b ring) (fun u => [(M 0, .inr (10, [.ref (M 1), .int (g 0), .ref (M 2), .int (g 1), .int (g 2), .int (g 3), .int (g 4), .int (g 5), .int (g 6)])), (M 1, .inl (T.2.2.1, 1099, .inl u)), (M 2, .inl (T.2.2.2, 60, .inl t))]) := by
  refine z_metV (own := RX10) (maxL := 4) rfl (by decide) rfl (Nat.le_of_ble_eq_true rfl) ?_
  intro P0 E0 S0 M0 G0 B0 T0 K0 A9 Q9 C E
  have hx := C.1.1
  have hb := C.1.2.1
  have hown := C.1.2.2.2.1
  have hts := C.1.2.2.2.2
  have hn := C.2.1.2
  have iX10 : ∀ w ∈ u_ws RX10 TX10 9, w ∈ wsX10_runs := by decide +kernel
  have k7 := hts (.fieldLink RX10 7 "JudgedBitsModel" "s" "[I") (by decide +kernel)
  change Z P0 l E0 rm_X10_runs S0 M0 G0 B0 T0 K0 4 T A9 Q9 0 0 [(M 0, .inr (10, [.ref (M 1), .int (g 0), .ref (M 2), .int (g 1), .int (g 2), .int (g 3), .int (g 4), .int (g 5), .int (g 6)])), (M 1, .inl (T.2.2.1, 1099, .inl m)), (M 2, .inl (T.2.2.2, 60, .inl t))] 0 [(0, .ref (M 0)), (1, .int (nI b)), (2, .int (nI ring))] []
  have zh0 := fe_X10_runs g m t b ring
  refine Z.of (pc' := 1) (fun _ _ _ hl => lv_aload_n hx hb dX10_runs_0 rfl (lv_at hl 0 rfl)) ?_
  refine z_get C iX10 0 0 k7 rfl rfl (by decide) rfl rfl dX10_runs_1 rfl ?_
  refine Z.of (pc' := 5) (fun _ _ _ hl => lv_iload_n hx hb dX10_runs_4 rfl (lv_at hl 1 rfl)) ?_
  refine Z.of (pc' := 7) (fun _ _ _ _ => lv_bipush (v := 7) hx hb dX10_runs_5 (by decide)) ?_
  refine Z.of (pc' := 8) (fun _ _ _ hl => lv_iadd hx hb dX10_runs_7) ?_
  refine Z.topn (y := nI (b + 7)) (zi_c (zi_add (a := b) (b := 7) (rfl : nI b = nI b) (rfl : (7 : Int32) = nI 7)) (by omega)) ?_
  refine z_iald C 1 1 rfl rfl (j := b + 7) (rfl : nI (b + 7) = nI (b + 7)) (by omega) (by decide) dX10_runs_8 rfl ?_
  refine Z.of (pc' := 10) (fun _ _ _ hl => lv_aload_n hx hb dX10_runs_9 rfl (lv_at hl 0 rfl)) ?_
  refine Z.of (pc' := 11) (fun _ _ _ hl => lv_iload_n hx hb dX10_runs_10 rfl (lv_at hl 1 rfl)) ?_
  refine z_callVi C (c_X10_asks l T M g m t b hb9) [0, 1, 2] [] rfl (by decide +kernel) (fun u1 => [(M 0, .inr (10, [.ref (M 1), .int (g 0), .ref (M 2), .int (g 1), .int (g 2), .int (g 3), .int (g 4), .int (g 5), .int (g 6)])), (M 1, .inl (T.2.2.1, 1099, .inl u1.2)), (M 2, .inl (T.2.2.2, 60, .inl t))]) (fun _ => rfl) [] rfl (fun _ => rfl) [M 0, M 1, M 2] rfl (fun _ => rfl) 3 (fun _ => rfl) (by decide +kernel) (cwV 1 hts gX10_runs_X10_asks rfl rfl rfl (by decide +kernel) ⟨Nat.le_of_ble_eq_true rfl, Nat.le_of_ble_eq_true rfl⟩) 0 rfl rfl rfl (As := [.int (nI b)]) (rest := [.int (m (b + 7))]) rfl rfl (Nat.le_of_ble_eq_true rfl) dX10_runs_11 rfl ⟨Nat.zero_le _, Nat.zero_le _⟩ (fun u1 eu1 bu1 => ?_)
  have zh2 := zl_e zh0 eu1
  refine Z.of (pc' := 15) (fun _ _ _ hl => lv_aload_n hx hb dX10_runs_14 rfl (lv_at hl 0 rfl)) ?_
  refine z_get C iX10 0 0 k7 rfl rfl (by decide) rfl rfl dX10_runs_15 rfl ?_
  refine Z.of (pc' := 19) (fun _ _ _ hl => lv_iload_n hx hb dX10_runs_18 rfl (lv_at hl 1 rfl)) ?_
  refine Z.of (pc' := 20) (fun _ _ _ _ => lv_iconst (v := 3) hx hb dX10_runs_19 (by decide)) ?_
  refine Z.of (pc' := 21) (fun _ _ _ hl => lv_iadd hx hb dX10_runs_20) ?_
  refine Z.topn (y := nI (b + 3)) (zi_c (zi_add (a := b) (b := 3) (rfl : nI b = nI b) (rfl : (3 : Int32) = nI 3)) (by omega)) ?_
  refine Z.of (pc' := 22) (fun _ _ _ hl => lv_iload_n hx hb dX10_runs_21 rfl (lv_at hl 2 rfl)) ?_
  refine Z.of (pc' := 23) (fun _ _ _ hl => lv_iadd hx hb dX10_runs_22) ?_
  refine Z.topn (y := nI (b + ring + 3)) (zi_c (zi_add (a := b + 3) (b := ring) (rfl : nI (b + 3) = nI (b + 3)) (rfl : nI ring = nI ring)) (by omega)) ?_
  refine z_iald C 1 1 rfl rfl (j := b + ring + 3) (rfl : nI (b + ring + 3) = nI (b + ring + 3)) (by omega) (by decide) dX10_runs_23 rfl ?_
  refine Z.of (pc' := 25) (fun _ _ _ _ => lv_iconst (v := 1) hx hb dX10_runs_24 (by decide)) ?_
  refine Z.of (pc' := 26) (fun _ _ _ hl => lv_iadd hx hb dX10_runs_25) ?_
  refine Z.of (pc' := 27) (fun _ _ _ hl => lv_irem hx hb dX10_runs_26 (by rw [eu1, asks_fr _ _ _ _ _ (by omega)]; exact hj9)) ?_
  refine Z.topi (fun y3 ey3 => ?_)
  have zh4 := zl_e zh2 ey3
  refine Z.of (pc' := 28) (fun _ _ _ hl => lv_iadd hx hb dX10_runs_27) ?_
  refine Z.sto (pc' := 29) (lv' := [(3, .int ((m (b + 7)) + y3)), (0, .ref (M 0)), (1, .int (nI b)), (2, .int (nI ring))]) (fun _ _ _ hl => lv_istore_n (lv' := [(3, .int ((m (b + 7)) + y3)), (0, .ref (M 0)), (1, .int (nI b)), (2, .int (nI ring))]) hx hb dX10_runs_28 rfl hl (by decide) rfl) ?_
  refine Z.of (pc' := 30) (fun _ _ _ hl => lv_aload_n hx hb dX10_runs_29 rfl (lv_at hl 1 rfl)) ?_
  refine z_get C iX10 0 0 k7 rfl rfl (by decide) rfl rfl dX10_runs_30 rfl ?_
  refine Z.of (pc' := 34) (fun _ _ _ hl => lv_iload_n hx hb dX10_runs_33 rfl (lv_at hl 2 rfl)) ?_
  refine Z.of (pc' := 35) (fun _ _ _ _ => lv_iconst (v := 5) hx hb dX10_runs_34 (by decide)) ?_
  refine Z.of (pc' := 36) (fun _ _ _ hl => lv_iadd hx hb dX10_runs_35) ?_
  refine Z.topn (y := nI (b + 5)) (zi_c (zi_add (a := b) (b := 5) (rfl : nI b = nI b) (rfl : (5 : Int32) = nI 5)) (by omega)) ?_
  refine Z.of (pc' := 37) (fun _ _ _ hl => lv_iload_n hx hb dX10_runs_36 rfl (lv_at hl 3 rfl)) ?_
  refine Z.of (pc' := 38) (fun _ _ _ hl => lv_iadd hx hb dX10_runs_37) ?_
  refine Z.topn (y := nI (b + ring + 5)) (zi_c (zi_add (a := b + 5) (b := ring) (rfl : nI (b + 5) = nI (b + 5)) (rfl : nI ring = nI ring)) (by omega)) ?_
  refine Z.of (pc' := 39) (fun _ _ _ hl => lv_aload_n hx hb dX10_runs_38 rfl (lv_at hl 1 rfl)) ?_
  refine z_get C iX10 0 0 k7 rfl rfl (by decide) rfl rfl dX10_runs_39 rfl ?_
  refine Z.of (pc' := 43) (fun _ _ _ hl => lv_iload_n hx hb dX10_runs_42 rfl (lv_at hl 2 rfl)) ?_
  refine Z.of (pc' := 44) (fun _ _ _ _ => lv_iconst (v := 5) hx hb dX10_runs_43 (by decide)) ?_
  refine Z.of (pc' := 45) (fun _ _ _ hl => lv_iadd hx hb dX10_runs_44) ?_
  refine Z.topn (y := nI (b + 5)) (zi_c (zi_add (a := b) (b := 5) (rfl : nI b = nI b) (rfl : (5 : Int32) = nI 5)) (by omega)) ?_
  refine Z.of (pc' := 46) (fun _ _ _ hl => lv_iload_n hx hb dX10_runs_45 rfl (lv_at hl 3 rfl)) ?_
  refine Z.of (pc' := 47) (fun _ _ _ hl => lv_iadd hx hb dX10_runs_46) ?_
  refine Z.topn (y := nI (b + ring + 5)) (zi_c (zi_add (a := b + 5) (b := ring) (rfl : nI (b + 5) = nI (b + 5)) (rfl : nI ring = nI ring)) (by omega)) ?_
  refine z_iald C 1 1 rfl rfl (j := b + ring + 5) (rfl : nI (b + ring + 5) = nI (b + ring + 5)) (by omega) (by decide) dX10_runs_47 rfl ?_
  refine Z.of (pc' := 49) (fun _ _ _ hl => lv_iload_n hx hb dX10_runs_48 rfl (lv_at hl 0 rfl)) ?_
  refine Z.of (pc' := 50) (fun _ _ _ hl => lv_iadd hx hb dX10_runs_49) ?_
  refine Z.of (pc' := 51) (fun _ _ _ hl => lv_aload_n hx hb dX10_runs_50 rfl (lv_at hl 1 rfl)) ?_
  refine z_get C iX10 0 0 k7 rfl rfl (by decide) rfl rfl dX10_runs_51 rfl ?_
  refine Z.of (pc' := 55) (fun _ _ _ hl => lv_iload_n hx hb dX10_runs_54 rfl (lv_at hl 2 rfl)) ?_
  refine Z.of (pc' := 56) (fun _ _ _ _ => lv_iconst (v := 1) hx hb dX10_runs_55 (by decide)) ?_
  refine Z.of (pc' := 57) (fun _ _ _ hl => lv_iadd hx hb dX10_runs_56) ?_
  refine Z.topn (y := nI (b + 1)) (zi_c (zi_add (a := b) (b := 1) (rfl : nI b = nI b) (rfl : (1 : Int32) = nI 1)) (by omega)) ?_
  refine Z.of (pc' := 58) (fun _ _ _ hl => lv_iload_n hx hb dX10_runs_57 rfl (lv_at hl 3 rfl)) ?_
  refine Z.of (pc' := 59) (fun _ _ _ hl => lv_iadd hx hb dX10_runs_58) ?_
  refine Z.topn (y := nI (b + ring + 1)) (zi_c (zi_add (a := b + 1) (b := ring) (rfl : nI (b + 1) = nI (b + 1)) (rfl : nI ring = nI ring)) (by omega)) ?_
  refine z_iald C 1 1 rfl rfl (j := b + ring + 1) (rfl : nI (b + ring + 1) = nI (b + ring + 1)) (by omega) (by decide) dX10_runs_59 rfl ?_
  refine Z.of (pc' := 61) (fun _ _ _ hl => lv_irem hx hb dX10_runs_60 (by rw [eu1, asks_fr _ _ _ _ _ (by omega)]; exact hp9)) ?_
  refine Z.topi (fun y5 ey5 => ?_)
  have zh6 := zl_e zh4 ey5
  refine z_iast C 1 1 rfl rfl (j := b + ring + 5) (rfl : nI (b + ring + 5) = nI (b + ring + 5)) (by omega) (by decide) dX10_runs_61 rfl (fun m7 => [(M 0, .inr (10, [.ref (M 1), .int (g 0), .ref (M 2), .int (g 1), .int (g 2), .int (g 3), .int (g 4), .int (g 5), .int (g 6)])), (M 1, .inl (T.2.2.1, 1099, .inl m7)), (M 2, .inl (T.2.2.2, 60, .inl t))]) (fun _ => rfl) (fun m7 em7 => ?_)
  have zh8 := zl_e zh6 em7
  exact E m7 _ _ _ dX10_runs_62  rfl zh8
def f_X10_isHigh (g : Nat → Int32) (m : Nat → Int32) (t : Nat → Int32) (b : Nat) (ring : Nat) : Int32 :=
  if ((m (b + ring + 1)) / 2) ≤ (m (b + ring + 5)) then
    0
  else
    1
theorem fe_X10_isHigh (g : Nat → Int32) (m : Nat → Int32) (t : Nat → Int32) (b : Nat) (ring : Nat) : f_X10_isHigh g m t b ring = (
    if ((m (b + ring + 1)) / 2) ≤ (m (b + ring + 5)) then
      0
    else
      1
    ) := rfl
abbrev rm_X10_isHigh : Room := { frames := 0, cells := 0, slots := 0, locals := 0 }
set_option maxHeartbeats 1000000 in
set_option maxRecDepth 100000 in
theorem c_X10_isHigh (l : Launch) (T : zT) (M : Nat → Nat) (g : Nat → Int32) (m : Nat → Int32) (t : Nat → Int32) (b : Nat) (ring : Nat) (hb9 : b ≤ 942) (hr9 : ring ≤ 1) : Ci l yX10_isHigh wsX10_isHigh rm_X10_isHigh T .boolean [.ref (M 0), .int (nI b), .int (nI ring)] [(M 0, .inr (10, [.ref (M 1), .int (g 0), .ref (M 2), .int (g 1), .int (g 2), .int (g 3), .int (g 4), .int (g 5), .int (g 6)])), (M 1, .inl (T.2.2.1, 1099, .inl m)), (M 2, .inl (T.2.2.2, 60, .inl t))] (S := Int32) (f_X10_isHigh g m t b ring) (fun u => u) (fun u => [(M 0, .inr (10, [.ref (M 1), .int (g 0), .ref (M 2), .int (g 1), .int (g 2), .int (g 3), .int (g 4), .int (g 5), .int (g 6)])), (M 1, .inl (T.2.2.1, 1099, .inl m)), (M 2, .inl (T.2.2.2, 60, .inl t))]) := by
  refine z_metI (own := RX10) (maxL := 3) rfl (by decide) rfl (Nat.le_of_ble_eq_true rfl) ?_
  intro P0 E0 S0 M0 G0 B0 T0 K0 A9 Q9 C E
  have hx := C.1.1
  have hb := C.1.2.1
  have hown := C.1.2.2.2.1
  have hts := C.1.2.2.2.2
  have hn := C.2.1.2
  have iX10 : ∀ w ∈ u_ws RX10 TX10 9, w ∈ wsX10_isHigh := by decide +kernel
  have k7 := hts (.fieldLink RX10 7 "JudgedBitsModel" "s" "[I") (by decide +kernel)
  change Z P0 l E0 rm_X10_isHigh S0 M0 G0 B0 T0 K0 3 T A9 Q9 0 0 [(M 0, .inr (10, [.ref (M 1), .int (g 0), .ref (M 2), .int (g 1), .int (g 2), .int (g 3), .int (g 4), .int (g 5), .int (g 6)])), (M 1, .inl (T.2.2.1, 1099, .inl m)), (M 2, .inl (T.2.2.2, 60, .inl t))] 0 [(0, .ref (M 0)), (1, .int (nI b)), (2, .int (nI ring))] []
  have zh0 := fe_X10_isHigh g m t b ring
  refine Z.of (pc' := 1) (fun _ _ _ hl => lv_aload_n hx hb dX10_isHigh_0 rfl (lv_at hl 0 rfl)) ?_
  refine z_get C iX10 0 0 k7 rfl rfl (by decide) rfl rfl dX10_isHigh_1 rfl ?_
  refine Z.of (pc' := 5) (fun _ _ _ hl => lv_iload_n hx hb dX10_isHigh_4 rfl (lv_at hl 1 rfl)) ?_
  refine Z.of (pc' := 6) (fun _ _ _ _ => lv_iconst (v := 5) hx hb dX10_isHigh_5 (by decide)) ?_
  refine Z.of (pc' := 7) (fun _ _ _ hl => lv_iadd hx hb dX10_isHigh_6) ?_
  refine Z.topn (y := nI (b + 5)) (zi_c (zi_add (a := b) (b := 5) (rfl : nI b = nI b) (rfl : (5 : Int32) = nI 5)) (by omega)) ?_
  refine Z.of (pc' := 8) (fun _ _ _ hl => lv_iload_n hx hb dX10_isHigh_7 rfl (lv_at hl 2 rfl)) ?_
  refine Z.of (pc' := 9) (fun _ _ _ hl => lv_iadd hx hb dX10_isHigh_8) ?_
  refine Z.topn (y := nI (b + ring + 5)) (zi_c (zi_add (a := b + 5) (b := ring) (rfl : nI (b + 5) = nI (b + 5)) (rfl : nI ring = nI ring)) (by omega)) ?_
  refine z_iald C 1 1 rfl rfl (j := b + ring + 5) (rfl : nI (b + ring + 5) = nI (b + ring + 5)) (by omega) (by decide) dX10_isHigh_9 rfl ?_
  refine Z.of (pc' := 11) (fun _ _ _ hl => lv_aload_n hx hb dX10_isHigh_10 rfl (lv_at hl 0 rfl)) ?_
  refine z_get C iX10 0 0 k7 rfl rfl (by decide) rfl rfl dX10_isHigh_11 rfl ?_
  refine Z.of (pc' := 15) (fun _ _ _ hl => lv_iload_n hx hb dX10_isHigh_14 rfl (lv_at hl 1 rfl)) ?_
  refine Z.of (pc' := 16) (fun _ _ _ _ => lv_iconst (v := 1) hx hb dX10_isHigh_15 (by decide)) ?_
  refine Z.of (pc' := 17) (fun _ _ _ hl => lv_iadd hx hb dX10_isHigh_16) ?_
  refine Z.topn (y := nI (b + 1)) (zi_c (zi_add (a := b) (b := 1) (rfl : nI b = nI b) (rfl : (1 : Int32) = nI 1)) (by omega)) ?_
  refine Z.of (pc' := 18) (fun _ _ _ hl => lv_iload_n hx hb dX10_isHigh_17 rfl (lv_at hl 2 rfl)) ?_
  refine Z.of (pc' := 19) (fun _ _ _ hl => lv_iadd hx hb dX10_isHigh_18) ?_
  refine Z.topn (y := nI (b + ring + 1)) (zi_c (zi_add (a := b + 1) (b := ring) (rfl : nI (b + 1) = nI (b + 1)) (rfl : nI ring = nI ring)) (by omega)) ?_
  refine z_iald C 1 1 rfl rfl (j := b + ring + 1) (rfl : nI (b + ring + 1) = nI (b + ring + 1)) (by omega) (by decide) dX10_isHigh_19 rfl ?_
  refine Z.of (pc' := 21) (fun _ _ _ _ => lv_iconst (v := 2) hx hb dX10_isHigh_20 (by decide)) ?_
  refine Z.of (pc' := 22) (fun _ _ _ hl => lv_idiv hx hb dX10_isHigh_21 (by decide)) ?_
  refine Z.two (pt := 29) (pf := 25) (fun _ _ _ _ => lv_icmp_ge hx hb dX10_isHigh_22 (by decide)) (fun c1 => ?_) (fun c1 => ?_)
  · have zh2 := zh0.trans (if_pos c1)
    refine Z.of (pc' := 30) (fun _ _ _ _ => lv_iconst (v := 0) hx hb dX10_isHigh_29 (by decide)) ?_
    exact E 0 _ _ _ _ dX10_isHigh_30 rfl rfl rfl zh2
  · have zh3 := zh0.trans (if_neg c1)
    refine Z.of (pc' := 26) (fun _ _ _ _ => lv_iconst (v := 1) hx hb dX10_isHigh_25 (by decide)) ?_
    refine Z.of (pc' := 30) (fun _ _ _ _ => lv_goto hx hb dX10_isHigh_26 (by decide)) ?_
    exact E 1 _ _ _ _ dX10_isHigh_30 rfl rfl rfl zh3
def lp16_X10_keeps (g : Nat → Int32) (m : Nat → Int32) (t : Nat → Int32) (b : Nat) (bit : Int32) : Nat → Nat → (Nat → Int32) → (Nat → Int32)
  | 0, _, _ => m
  | q16 + 1, k, mx =>
    if 63 ≤ (nI k) then
      zl (upd mx (b + 28) ((mx (b + 28)) - 1)) fun m11 =>
      zl (upd m11 (b + 92) bit) fun m13 =>
      zl (upd m13 (b + 28) ((m13 (b + 28)) + 1)) fun m15 =>
      m15
    else
      zl (upd mx (b + k + 29) (mx (b + k + 30))) fun m17 =>
      lp16_X10_keeps g m t b bit q16 (k + 1) m17
theorem lp16_X10_keeps_s (g : Nat → Int32) (m : Nat → Int32) (t : Nat → Int32) (b : Nat) (bit : Int32) (q16 : Nat) (k : Nat) (mx : (Nat → Int32)) : lp16_X10_keeps g m t b bit (q16 + 1) k mx = (
    if 63 ≤ (nI k) then
      zl (upd mx (b + 28) ((mx (b + 28)) - 1)) fun m11 =>
      zl (upd m11 (b + 92) bit) fun m13 =>
      zl (upd m13 (b + 28) ((m13 (b + 28)) + 1)) fun m15 =>
      m15
    else
      zl (upd mx (b + k + 29) (mx (b + k + 30))) fun m17 =>
      lp16_X10_keeps g m t b bit q16 (k + 1) m17
    ) := rfl
def f_X10_keeps (g : Nat → Int32) (m : Nat → Int32) (t : Nat → Int32) (b : Nat) (bit : Int32) : (Nat → Int32) :=
  if (m (b + 28)) = 64 then
    lp16_X10_keeps g m t b bit 65 0 m
  else
    zl (upd m (b + (m (b + 28)).toNatClampNeg + 29) bit) fun m4 =>
    zl (upd m4 (b + 28) ((m4 (b + 28)) + 1)) fun m6 =>
    m6
theorem fe_X10_keeps (g : Nat → Int32) (m : Nat → Int32) (t : Nat → Int32) (b : Nat) (bit : Int32) : f_X10_keeps g m t b bit = (
    if (m (b + 28)) = 64 then
      lp16_X10_keeps g m t b bit 65 0 m
    else
      zl (upd m (b + (m (b + 28)).toNatClampNeg + 29) bit) fun m4 =>
      zl (upd m4 (b + 28) ((m4 (b + 28)) + 1)) fun m6 =>
      m6
    ) := rfl
abbrev rm_X10_keeps : Room := { frames := 0, cells := 0, slots := 0, locals := 0 }
set_option maxHeartbeats 1000000 in
set_option maxRecDepth 100000 in
theorem c_X10_keeps (l : Launch) (T : zT) (M : Nat → Nat) (g : Nat → Int32) (m : Nat → Int32) (t : Nat → Int32) (b : Nat) (bit : Int32) (hb9 : b ≤ 942) (hk0 : IN (m (b + 28)) 64) : Cv l yX10_keeps wsX10_keeps rm_X10_keeps T [.ref (M 0), .int (nI b), .int bit] [(M 0, .inr (10, [.ref (M 1), .int (g 0), .ref (M 2), .int (g 1), .int (g 2), .int (g 3), .int (g 4), .int (g 5), .int (g 6)])), (M 1, .inl (T.2.2.1, 1099, .inl m)), (M 2, .inl (T.2.2.2, 60, .inl t))] (S := (Nat → Int32)) (f_X10_keeps g m t b bit) (fun u => [(M 0, .inr (10, [.ref (M 1), .int (g 0), .ref (M 2), .int (g 1), .int (g 2), .int (g 3), .int (g 4), .int (g 5), .int (g 6)])), (M 1, .inl (T.2.2.1, 1099, .inl u)), (M 2, .inl (T.2.2.2, 60, .inl t))]) := by
  refine z_metV (own := RX10) (maxL := 4) rfl (by decide) rfl (Nat.le_of_ble_eq_true rfl) ?_
  intro P0 E0 S0 M0 G0 B0 T0 K0 A9 Q9 C E
  have hx := C.1.1
  have hb := C.1.2.1
  have hown := C.1.2.2.2.1
  have hts := C.1.2.2.2.2
  have hn := C.2.1.2
  have iX10 : ∀ w ∈ u_ws RX10 TX10 9, w ∈ wsX10_keeps := by decide +kernel
  have k7 := hts (.fieldLink RX10 7 "JudgedBitsModel" "s" "[I") (by decide +kernel)
  have hk9 := hk0.1
  have hkp := hk0.2
  change Z P0 l E0 rm_X10_keeps S0 M0 G0 B0 T0 K0 4 T A9 Q9 0 0 [(M 0, .inr (10, [.ref (M 1), .int (g 0), .ref (M 2), .int (g 1), .int (g 2), .int (g 3), .int (g 4), .int (g 5), .int (g 6)])), (M 1, .inl (T.2.2.1, 1099, .inl m)), (M 2, .inl (T.2.2.2, 60, .inl t))] 0 [(0, .ref (M 0)), (1, .int (nI b)), (2, .int bit)] []
  have zh0 := fe_X10_keeps g m t b bit
  refine Z.of (pc' := 1) (fun _ _ _ hl => lv_aload_n hx hb dX10_keeps_0 rfl (lv_at hl 0 rfl)) ?_
  refine z_get C iX10 0 0 k7 rfl rfl (by decide) rfl rfl dX10_keeps_1 rfl ?_
  refine Z.of (pc' := 5) (fun _ _ _ hl => lv_iload_n hx hb dX10_keeps_4 rfl (lv_at hl 1 rfl)) ?_
  refine Z.of (pc' := 7) (fun _ _ _ _ => lv_bipush (v := 28) hx hb dX10_keeps_5 (by decide)) ?_
  refine Z.of (pc' := 8) (fun _ _ _ hl => lv_iadd hx hb dX10_keeps_7) ?_
  refine Z.topn (y := nI (b + 28)) (zi_c (zi_add (a := b) (b := 28) (rfl : nI b = nI b) (rfl : (28 : Int32) = nI 28)) (by omega)) ?_
  refine z_iald C 1 1 rfl rfl (j := b + 28) (rfl : nI (b + 28) = nI (b + 28)) (by omega) (by decide) dX10_keeps_8 rfl ?_
  refine Z.of (pc' := 11) (fun _ _ _ _ => lv_bipush (v := 64) hx hb dX10_keeps_9 (by decide)) ?_
  refine Z.two' (pt := 65) (pf := 14) (fun _ _ _ _ => lv_icmp_ne hx hb dX10_keeps_11 (by decide)) (fun c1 => ?_) (fun c1 => ?_)
  · have nc1 : ¬ (((m (b + 28)).toNatClampNeg) = 64) := zf_neq (a := ((m (b + 28)).toNatClampNeg)) (b := 64) hk9 (rfl : (64 : Int32) = nI 64) c1 (by omega) (by omega)
    have zh2 := zh0.trans (if_neg c1)
    refine Z.of (pc' := 66) (fun _ _ _ hl => lv_aload_n hx hb dX10_keeps_65 rfl (lv_at hl 0 rfl)) ?_
    refine z_get C iX10 0 0 k7 rfl rfl (by decide) rfl rfl dX10_keeps_66 rfl ?_
    refine Z.of (pc' := 70) (fun _ _ _ hl => lv_iload_n hx hb dX10_keeps_69 rfl (lv_at hl 1 rfl)) ?_
    refine Z.of (pc' := 72) (fun _ _ _ _ => lv_bipush (v := 29) hx hb dX10_keeps_70 (by decide)) ?_
    refine Z.of (pc' := 73) (fun _ _ _ hl => lv_iadd hx hb dX10_keeps_72) ?_
    refine Z.topn (y := nI (b + 29)) (zi_c (zi_add (a := b) (b := 29) (rfl : nI b = nI b) (rfl : (29 : Int32) = nI 29)) (by omega)) ?_
    refine Z.of (pc' := 74) (fun _ _ _ hl => lv_aload_n hx hb dX10_keeps_73 rfl (lv_at hl 0 rfl)) ?_
    refine z_get C iX10 0 0 k7 rfl rfl (by decide) rfl rfl dX10_keeps_74 rfl ?_
    refine Z.of (pc' := 78) (fun _ _ _ hl => lv_iload_n hx hb dX10_keeps_77 rfl (lv_at hl 1 rfl)) ?_
    refine Z.of (pc' := 80) (fun _ _ _ _ => lv_bipush (v := 28) hx hb dX10_keeps_78 (by decide)) ?_
    refine Z.of (pc' := 81) (fun _ _ _ hl => lv_iadd hx hb dX10_keeps_80) ?_
    refine Z.topn (y := nI (b + 28)) (zi_c (zi_add (a := b) (b := 28) (rfl : nI b = nI b) (rfl : (28 : Int32) = nI 28)) (by omega)) ?_
    refine z_iald C 1 1 rfl rfl (j := b + 28) (rfl : nI (b + 28) = nI (b + 28)) (by omega) (by decide) dX10_keeps_81 rfl ?_
    refine Z.of (pc' := 83) (fun _ _ _ hl => lv_iadd hx hb dX10_keeps_82) ?_
    refine Z.topn (y := nI (b + (m (b + 28)).toNatClampNeg + 29)) (zi_c (zi_add (a := b + 29) (b := (m (b + 28)).toNatClampNeg) (rfl : nI (b + 29) = nI (b + 29)) hk9) (by omega)) ?_
    refine Z.of (pc' := 84) (fun _ _ _ hl => lv_iload_n hx hb dX10_keeps_83 rfl (lv_at hl 2 rfl)) ?_
    refine z_iast C 1 1 rfl rfl (j := b + (m (b + 28)).toNatClampNeg + 29) (rfl : nI (b + (m (b + 28)).toNatClampNeg + 29) = nI (b + (m (b + 28)).toNatClampNeg + 29)) (by omega) (by decide) dX10_keeps_84 rfl (fun m4 => [(M 0, .inr (10, [.ref (M 1), .int (g 0), .ref (M 2), .int (g 1), .int (g 2), .int (g 3), .int (g 4), .int (g 5), .int (g 6)])), (M 1, .inl (T.2.2.1, 1099, .inl m4)), (M 2, .inl (T.2.2.2, 60, .inl t))]) (fun _ => rfl) (fun m4 em4 => ?_)
    have zh5 := zl_e zh2 em4
    refine Z.of (pc' := 86) (fun _ _ _ hl => lv_aload_n hx hb dX10_keeps_85 rfl (lv_at hl 0 rfl)) ?_
    refine z_get C iX10 0 0 k7 rfl rfl (by decide) rfl rfl dX10_keeps_86 rfl ?_
    refine Z.of (pc' := 90) (fun _ _ _ hl => lv_iload_n hx hb dX10_keeps_89 rfl (lv_at hl 1 rfl)) ?_
    refine Z.of (pc' := 92) (fun _ _ _ _ => lv_bipush (v := 28) hx hb dX10_keeps_90 (by decide)) ?_
    refine Z.of (pc' := 93) (fun _ _ _ hl => lv_iadd hx hb dX10_keeps_92) ?_
    refine Z.topn (y := nI (b + 28)) (zi_c (zi_add (a := b) (b := 28) (rfl : nI b = nI b) (rfl : (28 : Int32) = nI 28)) (by omega)) ?_
    refine Z.of (pc' := 94) (fun _ _ _ hl => lv_dup2_11 hx hb dX10_keeps_93 rfl rfl) ?_
    refine z_iald C 1 1 rfl rfl (j := b + 28) (rfl : nI (b + 28) = nI (b + 28)) (by omega) (by decide) dX10_keeps_94 rfl ?_
    refine Z.of (pc' := 96) (fun _ _ _ _ => lv_iconst (v := 1) hx hb dX10_keeps_95 (by decide)) ?_
    refine Z.of (pc' := 97) (fun _ _ _ hl => lv_iadd hx hb dX10_keeps_96) ?_
    refine z_iast C 1 1 rfl rfl (j := b + 28) (rfl : nI (b + 28) = nI (b + 28)) (by omega) (by decide) dX10_keeps_97 rfl (fun m6 => [(M 0, .inr (10, [.ref (M 1), .int (g 0), .ref (M 2), .int (g 1), .int (g 2), .int (g 3), .int (g 4), .int (g 5), .int (g 6)])), (M 1, .inl (T.2.2.1, 1099, .inl m6)), (M 2, .inl (T.2.2.2, 60, .inl t))]) (fun _ => rfl) (fun m6 em6 => ?_)
    have zh7 := zl_e zh5 em6
    exact E m6 _ _ _ dX10_keeps_98  rfl zh7
  · have nc1 : ((m (b + 28)).toNatClampNeg) = 64 := zf_eq (a := ((m (b + 28)).toNatClampNeg)) (b := 64) hk9 (rfl : (64 : Int32) = nI 64) c1 (by omega) (by omega)
    have zh3 := zh0.trans (if_pos c1)
    refine Z.of (pc' := 15) (fun _ _ _ _ => lv_iconst (v := 0) hx hb dX10_keeps_14 (by decide)) ?_
    refine Z.sto (pc' := 16) (lv' := [(3, .int 0), (0, .ref (M 0)), (1, .int (nI b)), (2, .int bit)]) (fun _ _ _ hl => lv_istore_n (lv' := [(3, .int 0), (0, .ref (M 0)), (1, .int (nI b)), (2, .int bit)]) hx hb dX10_keeps_15 rfl hl (by decide) rfl) ?_
    have L16 : ∀ (q16 : Nat) (k : Nat) (mx : (Nat → Int32)), (k ≤ 63 ∧ k + q16 = 65 ∧ mx (b + 28) = m (b + 28)) → f_X10_keeps g m t b bit = lp16_X10_keeps g m t b bit q16 k mx → Z P0 l E0 rm_X10_keeps S0 M0 G0 B0 T0 K0 4 T A9 Q9 0 0 [(M 0, .inr (10, [.ref (M 1), .int (g 0), .ref (M 2), .int (g 1), .int (g 2), .int (g 3), .int (g 4), .int (g 5), .int (g 6)])), (M 1, .inl (T.2.2.1, 1099, .inl mx)), (M 2, .inl (T.2.2.2, 60, .inl t))] 16 [(0, .ref (M 0)), (1, .int (nI b)), (2, .int bit), (3, .int (nI k))] [] := by
      intro q16
      induction q16 with
      | zero =>
        intro k mx hi16 zhl16
        omega
      | succ q16 ih =>
        intro k mx hi16 zhl16
        have zhb16 := zhl16.trans (lp16_X10_keeps_s g m t b bit q16 k mx)
        refine Z.of (pc' := 17) (fun _ _ _ hl => lv_iload_n hx hb dX10_keeps_16 rfl (lv_at hl 3 rfl)) ?_
        refine Z.of (pc' := 19) (fun _ _ _ _ => lv_bipush (v := 63) hx hb dX10_keeps_17 (by decide)) ?_
        refine Z.two (pt := 52) (pf := 22) (fun _ _ _ _ => lv_icmp_ge hx hb dX10_keeps_19 (by decide)) (fun c8 => ?_) (fun c8 => ?_)
        · have nc8 : 63 ≤ k := zf_le (a := 63) (b := k) (rfl : (63 : Int32) = nI 63) (rfl : nI k = nI k) c8 (by omega) (by omega)
          have zh9 := zhb16.trans (if_pos c8)
          refine Z.of (pc' := 53) (fun _ _ _ hl => lv_aload_n hx hb dX10_keeps_52 rfl (lv_at hl 0 rfl)) ?_
          refine z_get C iX10 0 0 k7 rfl rfl (by decide) rfl rfl dX10_keeps_53 rfl ?_
          refine Z.of (pc' := 57) (fun _ _ _ hl => lv_iload_n hx hb dX10_keeps_56 rfl (lv_at hl 1 rfl)) ?_
          refine Z.of (pc' := 59) (fun _ _ _ _ => lv_bipush (v := 28) hx hb dX10_keeps_57 (by decide)) ?_
          refine Z.of (pc' := 60) (fun _ _ _ hl => lv_iadd hx hb dX10_keeps_59) ?_
          refine Z.topn (y := nI (b + 28)) (zi_c (zi_add (a := b) (b := 28) (rfl : nI b = nI b) (rfl : (28 : Int32) = nI 28)) (by omega)) ?_
          refine Z.of (pc' := 61) (fun _ _ _ hl => lv_dup2_11 hx hb dX10_keeps_60 rfl rfl) ?_
          refine z_iald C 1 1 rfl rfl (j := b + 28) (rfl : nI (b + 28) = nI (b + 28)) (by omega) (by decide) dX10_keeps_61 rfl ?_
          refine Z.of (pc' := 63) (fun _ _ _ _ => lv_iconst (v := 1) hx hb dX10_keeps_62 (by decide)) ?_
          refine Z.of (pc' := 64) (fun _ _ _ hl => lv_isub hx hb dX10_keeps_63) ?_
          refine z_iast C 1 1 rfl rfl (j := b + 28) (rfl : nI (b + 28) = nI (b + 28)) (by omega) (by decide) dX10_keeps_64 rfl (fun m11 => [(M 0, .inr (10, [.ref (M 1), .int (g 0), .ref (M 2), .int (g 1), .int (g 2), .int (g 3), .int (g 4), .int (g 5), .int (g 6)])), (M 1, .inl (T.2.2.1, 1099, .inl m11)), (M 2, .inl (T.2.2.2, 60, .inl t))]) (fun _ => rfl) (fun m11 em11 => ?_)
          have zh12 := zl_e zh9 em11
          refine Z.of (pc' := 66) (fun _ _ _ hl => lv_aload_n hx hb dX10_keeps_65 rfl (lv_at hl 0 rfl)) ?_
          refine z_get C iX10 0 0 k7 rfl rfl (by decide) rfl rfl dX10_keeps_66 rfl ?_
          refine Z.of (pc' := 70) (fun _ _ _ hl => lv_iload_n hx hb dX10_keeps_69 rfl (lv_at hl 1 rfl)) ?_
          refine Z.of (pc' := 72) (fun _ _ _ _ => lv_bipush (v := 29) hx hb dX10_keeps_70 (by decide)) ?_
          refine Z.of (pc' := 73) (fun _ _ _ hl => lv_iadd hx hb dX10_keeps_72) ?_
          refine Z.topn (y := nI (b + 29)) (zi_c (zi_add (a := b) (b := 29) (rfl : nI b = nI b) (rfl : (29 : Int32) = nI 29)) (by omega)) ?_
          refine Z.of (pc' := 74) (fun _ _ _ hl => lv_aload_n hx hb dX10_keeps_73 rfl (lv_at hl 0 rfl)) ?_
          refine z_get C iX10 0 0 k7 rfl rfl (by decide) rfl rfl dX10_keeps_74 rfl ?_
          refine Z.of (pc' := 78) (fun _ _ _ hl => lv_iload_n hx hb dX10_keeps_77 rfl (lv_at hl 1 rfl)) ?_
          refine Z.of (pc' := 80) (fun _ _ _ _ => lv_bipush (v := 28) hx hb dX10_keeps_78 (by decide)) ?_
          refine Z.of (pc' := 81) (fun _ _ _ hl => lv_iadd hx hb dX10_keeps_80) ?_
          refine Z.topn (y := nI (b + 28)) (zi_c (zi_add (a := b) (b := 28) (rfl : nI b = nI b) (rfl : (28 : Int32) = nI 28)) (by omega)) ?_
          refine z_iald C 1 1 rfl rfl (j := b + 28) (rfl : nI (b + 28) = nI (b + 28)) (by omega) (by decide) dX10_keeps_81 rfl ?_
          refine Z.of (pc' := 83) (fun _ _ _ hl => lv_iadd hx hb dX10_keeps_82) ?_
          refine Z.topn (y := nI (b + 92)) (zi_c (zi_add (a := b + 29) (b := 63) (rfl : nI (b + 29) = nI (b + 29)) (zk63 em11 hi16.2.2 hk9 nc1)) (by omega)) ?_
          refine Z.of (pc' := 84) (fun _ _ _ hl => lv_iload_n hx hb dX10_keeps_83 rfl (lv_at hl 2 rfl)) ?_
          refine z_iast C 1 1 rfl rfl (j := b + 92) (rfl : nI (b + 92) = nI (b + 92)) (by omega) (by decide) dX10_keeps_84 rfl (fun m13 => [(M 0, .inr (10, [.ref (M 1), .int (g 0), .ref (M 2), .int (g 1), .int (g 2), .int (g 3), .int (g 4), .int (g 5), .int (g 6)])), (M 1, .inl (T.2.2.1, 1099, .inl m13)), (M 2, .inl (T.2.2.2, 60, .inl t))]) (fun _ => rfl) (fun m13 em13 => ?_)
          have zh14 := zl_e zh12 em13
          refine Z.of (pc' := 86) (fun _ _ _ hl => lv_aload_n hx hb dX10_keeps_85 rfl (lv_at hl 0 rfl)) ?_
          refine z_get C iX10 0 0 k7 rfl rfl (by decide) rfl rfl dX10_keeps_86 rfl ?_
          refine Z.of (pc' := 90) (fun _ _ _ hl => lv_iload_n hx hb dX10_keeps_89 rfl (lv_at hl 1 rfl)) ?_
          refine Z.of (pc' := 92) (fun _ _ _ _ => lv_bipush (v := 28) hx hb dX10_keeps_90 (by decide)) ?_
          refine Z.of (pc' := 93) (fun _ _ _ hl => lv_iadd hx hb dX10_keeps_92) ?_
          refine Z.topn (y := nI (b + 28)) (zi_c (zi_add (a := b) (b := 28) (rfl : nI b = nI b) (rfl : (28 : Int32) = nI 28)) (by omega)) ?_
          refine Z.of (pc' := 94) (fun _ _ _ hl => lv_dup2_11 hx hb dX10_keeps_93 rfl rfl) ?_
          refine z_iald C 1 1 rfl rfl (j := b + 28) (rfl : nI (b + 28) = nI (b + 28)) (by omega) (by decide) dX10_keeps_94 rfl ?_
          refine Z.of (pc' := 96) (fun _ _ _ _ => lv_iconst (v := 1) hx hb dX10_keeps_95 (by decide)) ?_
          refine Z.of (pc' := 97) (fun _ _ _ hl => lv_iadd hx hb dX10_keeps_96) ?_
          refine z_iast C 1 1 rfl rfl (j := b + 28) (rfl : nI (b + 28) = nI (b + 28)) (by omega) (by decide) dX10_keeps_97 rfl (fun m15 => [(M 0, .inr (10, [.ref (M 1), .int (g 0), .ref (M 2), .int (g 1), .int (g 2), .int (g 3), .int (g 4), .int (g 5), .int (g 6)])), (M 1, .inl (T.2.2.1, 1099, .inl m15)), (M 2, .inl (T.2.2.2, 60, .inl t))]) (fun _ => rfl) (fun m15 em15 => ?_)
          have zh16 := zl_e zh14 em15
          exact E m15 _ _ _ dX10_keeps_98  rfl zh16
        · have nc8 : ¬ (63 ≤ k) := zf_nle (a := 63) (b := k) (rfl : (63 : Int32) = nI 63) (rfl : nI k = nI k) c8 (by omega) (by omega)
          have zh10 := zhb16.trans (if_neg c8)
          refine Z.of (pc' := 23) (fun _ _ _ hl => lv_aload_n hx hb dX10_keeps_22 rfl (lv_at hl 0 rfl)) ?_
          refine z_get C iX10 0 0 k7 rfl rfl (by decide) rfl rfl dX10_keeps_23 rfl ?_
          refine Z.of (pc' := 27) (fun _ _ _ hl => lv_iload_n hx hb dX10_keeps_26 rfl (lv_at hl 1 rfl)) ?_
          refine Z.of (pc' := 29) (fun _ _ _ _ => lv_bipush (v := 29) hx hb dX10_keeps_27 (by decide)) ?_
          refine Z.of (pc' := 30) (fun _ _ _ hl => lv_iadd hx hb dX10_keeps_29) ?_
          refine Z.topn (y := nI (b + 29)) (zi_c (zi_add (a := b) (b := 29) (rfl : nI b = nI b) (rfl : (29 : Int32) = nI 29)) (by omega)) ?_
          refine Z.of (pc' := 31) (fun _ _ _ hl => lv_iload_n hx hb dX10_keeps_30 rfl (lv_at hl 3 rfl)) ?_
          refine Z.of (pc' := 32) (fun _ _ _ hl => lv_iadd hx hb dX10_keeps_31) ?_
          refine Z.topn (y := nI (b + k + 29)) (zi_c (zi_add (a := b + 29) (b := k) (rfl : nI (b + 29) = nI (b + 29)) (rfl : nI k = nI k)) (by omega)) ?_
          refine Z.of (pc' := 33) (fun _ _ _ hl => lv_aload_n hx hb dX10_keeps_32 rfl (lv_at hl 0 rfl)) ?_
          refine z_get C iX10 0 0 k7 rfl rfl (by decide) rfl rfl dX10_keeps_33 rfl ?_
          refine Z.of (pc' := 37) (fun _ _ _ hl => lv_iload_n hx hb dX10_keeps_36 rfl (lv_at hl 1 rfl)) ?_
          refine Z.of (pc' := 39) (fun _ _ _ _ => lv_bipush (v := 29) hx hb dX10_keeps_37 (by decide)) ?_
          refine Z.of (pc' := 40) (fun _ _ _ hl => lv_iadd hx hb dX10_keeps_39) ?_
          refine Z.topn (y := nI (b + 29)) (zi_c (zi_add (a := b) (b := 29) (rfl : nI b = nI b) (rfl : (29 : Int32) = nI 29)) (by omega)) ?_
          refine Z.of (pc' := 41) (fun _ _ _ hl => lv_iload_n hx hb dX10_keeps_40 rfl (lv_at hl 3 rfl)) ?_
          refine Z.of (pc' := 42) (fun _ _ _ hl => lv_iadd hx hb dX10_keeps_41) ?_
          refine Z.topn (y := nI (b + k + 29)) (zi_c (zi_add (a := b + 29) (b := k) (rfl : nI (b + 29) = nI (b + 29)) (rfl : nI k = nI k)) (by omega)) ?_
          refine Z.of (pc' := 43) (fun _ _ _ _ => lv_iconst (v := 1) hx hb dX10_keeps_42 (by decide)) ?_
          refine Z.of (pc' := 44) (fun _ _ _ hl => lv_iadd hx hb dX10_keeps_43) ?_
          refine Z.topn (y := nI (b + k + 30)) (zi_c (zi_add (a := b + k + 29) (b := 1) (rfl : nI (b + k + 29) = nI (b + k + 29)) (rfl : (1 : Int32) = nI 1)) (by omega)) ?_
          refine z_iald C 1 1 rfl rfl (j := b + k + 30) (rfl : nI (b + k + 30) = nI (b + k + 30)) (by omega) (by decide) dX10_keeps_44 rfl ?_
          refine z_iast C 1 1 rfl rfl (j := b + k + 29) (rfl : nI (b + k + 29) = nI (b + k + 29)) (by omega) (by decide) dX10_keeps_45 rfl (fun m17 => [(M 0, .inr (10, [.ref (M 1), .int (g 0), .ref (M 2), .int (g 1), .int (g 2), .int (g 3), .int (g 4), .int (g 5), .int (g 6)])), (M 1, .inl (T.2.2.1, 1099, .inl m17)), (M 2, .inl (T.2.2.2, 60, .inl t))]) (fun _ => rfl) (fun m17 em17 => ?_)
          have zh18 := zl_e zh10 em17
          refine Z.sto (pc' := 49) (lv' := [(3, .int (nI (k + 1))), (0, .ref (M 0)), (1, .int (nI b)), (2, .int bit)]) (fun _ _ _ hl => lv_iinc (lv' := [(3, .int (nI (k + 1))), (0, .ref (M 0)), (1, .int (nI b)), (2, .int bit)]) hx hb dX10_keeps_46 hl (k := 3) rfl ((zi_add (a := k) (b := 1) (rfl : nI k = nI k) (by decide : Int32.ofInt 1 = nI 1)).trans (congrArg nI (by omega))) (by decide) rfl) ?_
          refine Z.of (pc' := 16) (fun _ _ _ _ => lv_goto hx hb dX10_keeps_49 (by decide)) ?_
          exact Z.sub (ks := [1, 2, 3, 0]) (lv' := [(0, .ref (M 0)), (1, .int (nI b)), (2, .int bit), (3, .int (nI (k + 1)))]) rfl (ih (k + 1) m17 ⟨by omega, by omega, (by rw [em17, pk_un (by omega)]; exact hi16.2.2)⟩ zh18)
    exact Z.sub (ks := [1, 2, 3, 0]) (lv' := [(0, .ref (M 0)), (1, .int (nI b)), (2, .int bit), (3, .int 0)]) rfl (L16 65 0 m ⟨by omega, by omega, rfl⟩ zh3)
def f_X10_tests (g : Nat → Int32) (m : Nat → Int32) (t : Nat → Int32) (b : Nat) (bit : Int32) : Int32 × (Nat → Int32) :=
  zl (
    if (m (b + 14)) ≤ 0 then
      1
    else
      if (m (b + 15)) = bit then
        ((m (b + 14)) + 1)
      else
        1
    : Int32) fun v2 =>
  zl (upd m (b + 14) v2) fun m9 =>
  zl (upd m9 (b + 15) bit) fun m11 =>
  zl (
    if (m11 (b + 14)) ≤ (m11 (b + 27)) then
      (m11 (b + 27))
    else
      (m11 (b + 14))
    : Int32) fun v14 =>
  zl (upd m11 (b + 27) v14) fun m18 =>
  zl (upd m18 (b + 16) ((m18 (b + 16)) + 1)) fun m20 =>
  zl (upd m20 (b + 17) ((m20 (b + 17)) + bit)) fun m22 =>
  zl (
    if (m22 (b + 16)) = 32 then
      1
    else
      0
    : Int32) fun v25 =>
  zl (
    if v25 = 0 then
      0
    else
      zl (f_X10_in (m22 (b + 17)) (m22 (b + 10)) (32 - (m22 (b + 10)))) fun u33 =>
      if u33 = 0 then
        1
      else
        0
    : Int32) fun v30 =>
  zl (
    if v25 = 0 then
      m22
    else
      zl (upd m22 (b + 16) 0) fun m43 =>
      zl (upd m43 (b + 17) 0) fun m45 =>
      m45
    : (Nat → Int32)) fun v40 =>
  if (v40 (b + 14)) ≤ (v40 (b + 9)) then
    if v30 = 0 then
      (0, v40)
    else
      (2, v40)
  else
    (1, v40)
theorem fe_X10_tests (g : Nat → Int32) (m : Nat → Int32) (t : Nat → Int32) (b : Nat) (bit : Int32) : f_X10_tests g m t b bit = (
    zl (
      if (m (b + 14)) ≤ 0 then
        1
      else
        if (m (b + 15)) = bit then
          ((m (b + 14)) + 1)
        else
          1
      : Int32) fun v2 =>
    zl (upd m (b + 14) v2) fun m9 =>
    zl (upd m9 (b + 15) bit) fun m11 =>
    zl (
      if (m11 (b + 14)) ≤ (m11 (b + 27)) then
        (m11 (b + 27))
      else
        (m11 (b + 14))
      : Int32) fun v14 =>
    zl (upd m11 (b + 27) v14) fun m18 =>
    zl (upd m18 (b + 16) ((m18 (b + 16)) + 1)) fun m20 =>
    zl (upd m20 (b + 17) ((m20 (b + 17)) + bit)) fun m22 =>
    zl (
      if (m22 (b + 16)) = 32 then
        1
      else
        0
      : Int32) fun v25 =>
    zl (
      if v25 = 0 then
        0
      else
        zl (f_X10_in (m22 (b + 17)) (m22 (b + 10)) (32 - (m22 (b + 10)))) fun u33 =>
        if u33 = 0 then
          1
        else
          0
      : Int32) fun v30 =>
    zl (
      if v25 = 0 then
        m22
      else
        zl (upd m22 (b + 16) 0) fun m43 =>
        zl (upd m43 (b + 17) 0) fun m45 =>
        m45
      : (Nat → Int32)) fun v40 =>
    if (v40 (b + 14)) ≤ (v40 (b + 9)) then
      if v30 = 0 then
        (0, v40)
      else
        (2, v40)
    else
      (1, v40)
    ) := rfl
abbrev rm_X10_tests : Room := { frames := 1, cells := 0, slots := 0, locals := 22 }
set_option maxHeartbeats 1000000 in
set_option maxRecDepth 100000 in
theorem c_X10_tests (l : Launch) (T : zT) (M : Nat → Nat) (g : Nat → Int32) (m : Nat → Int32) (t : Nat → Int32) (b : Nat) (bit : Int32) (hb9 : b ≤ 942) : Ci l yX10_tests wsX10_tests rm_X10_tests T .int [.ref (M 0), .int (nI b), .int bit] [(M 0, .inr (10, [.ref (M 1), .int (g 0), .ref (M 2), .int (g 1), .int (g 2), .int (g 3), .int (g 4), .int (g 5), .int (g 6)])), (M 1, .inl (T.2.2.1, 1099, .inl m)), (M 2, .inl (T.2.2.2, 60, .inl t))] (S := Int32 × (Nat → Int32)) (f_X10_tests g m t b bit) (fun u => u.1) (fun u => [(M 0, .inr (10, [.ref (M 1), .int (g 0), .ref (M 2), .int (g 1), .int (g 2), .int (g 3), .int (g 4), .int (g 5), .int (g 6)])), (M 1, .inl (T.2.2.1, 1099, .inl u.2)), (M 2, .inl (T.2.2.2, 60, .inl t))]) := by
  refine z_metI (own := RX10) (maxL := 5) rfl (by decide) rfl (Nat.le_of_ble_eq_true rfl) ?_
  intro P0 E0 S0 M0 G0 B0 T0 K0 A9 Q9 C E
  have hx := C.1.1
  have hb := C.1.2.1
  have hown := C.1.2.2.2.1
  have hts := C.1.2.2.2.2
  have hn := C.2.1.2
  have iX10 : ∀ w ∈ u_ws RX10 TX10 9, w ∈ wsX10_tests := by decide +kernel
  have k7 := hts (.fieldLink RX10 7 "JudgedBitsModel" "s" "[I") (by decide +kernel)
  change Z P0 l E0 rm_X10_tests S0 M0 G0 B0 T0 K0 5 T A9 Q9 0 0 [(M 0, .inr (10, [.ref (M 1), .int (g 0), .ref (M 2), .int (g 1), .int (g 2), .int (g 3), .int (g 4), .int (g 5), .int (g 6)])), (M 1, .inl (T.2.2.1, 1099, .inl m)), (M 2, .inl (T.2.2.2, 60, .inl t))] 0 [(0, .ref (M 0)), (1, .int (nI b)), (2, .int bit)] []
  have zh0 := fe_X10_tests g m t b bit
  refine Z.of (pc' := 1) (fun _ _ _ hl => lv_aload_n hx hb dX10_tests_0 rfl (lv_at hl 0 rfl)) ?_
  refine z_get C iX10 0 0 k7 rfl rfl (by decide) rfl rfl dX10_tests_1 rfl ?_
  refine Z.of (pc' := 5) (fun _ _ _ hl => lv_iload_n hx hb dX10_tests_4 rfl (lv_at hl 1 rfl)) ?_
  refine Z.of (pc' := 7) (fun _ _ _ _ => lv_bipush (v := 14) hx hb dX10_tests_5 (by decide)) ?_
  refine Z.of (pc' := 8) (fun _ _ _ hl => lv_iadd hx hb dX10_tests_7) ?_
  refine Z.topn (y := nI (b + 14)) (zi_c (zi_add (a := b) (b := 14) (rfl : nI b = nI b) (rfl : (14 : Int32) = nI 14)) (by omega)) ?_
  refine Z.of (pc' := 9) (fun _ _ _ hl => lv_aload_n hx hb dX10_tests_8 rfl (lv_at hl 0 rfl)) ?_
  refine z_get C iX10 0 0 k7 rfl rfl (by decide) rfl rfl dX10_tests_9 rfl ?_
  refine Z.of (pc' := 13) (fun _ _ _ hl => lv_iload_n hx hb dX10_tests_12 rfl (lv_at hl 1 rfl)) ?_
  refine Z.of (pc' := 15) (fun _ _ _ _ => lv_bipush (v := 14) hx hb dX10_tests_13 (by decide)) ?_
  refine Z.of (pc' := 16) (fun _ _ _ hl => lv_iadd hx hb dX10_tests_15) ?_
  refine Z.topn (y := nI (b + 14)) (zi_c (zi_add (a := b) (b := 14) (rfl : nI b = nI b) (rfl : (14 : Int32) = nI 14)) (by omega)) ?_
  refine z_iald C 1 1 rfl rfl (j := b + 14) (rfl : nI (b + 14) = nI (b + 14)) (by omega) (by decide) dX10_tests_16 rfl ?_
  have J2 : ∀ v2 : Int32, v2 = (
      if (m (b + 14)) ≤ 0 then
        1
      else
        if (m (b + 15)) = bit then
          ((m (b + 14)) + 1)
        else
          1
      ) → Z P0 l E0 rm_X10_tests S0 M0 G0 B0 T0 K0 5 T A9 Q9 0 0 [(M 0, .inr (10, [.ref (M 1), .int (g 0), .ref (M 2), .int (g 1), .int (g 2), .int (g 3), .int (g 4), .int (g 5), .int (g 6)])), (M 1, .inl (T.2.2.1, 1099, .inl m)), (M 2, .inl (T.2.2.2, 60, .inl t))] 48 [(0, .ref (M 0)), (1, .int (nI b)), (2, .int bit)] [.int v2, .int (nI (b + 14)), .ref (M 1)] := by
    intro v2 ev2
    have zh8 := zl_e zh0 ev2
    refine z_iast C 1 1 rfl rfl (j := b + 14) (rfl : nI (b + 14) = nI (b + 14)) (by omega) (by decide) dX10_tests_48 rfl (fun m9 => [(M 0, .inr (10, [.ref (M 1), .int (g 0), .ref (M 2), .int (g 1), .int (g 2), .int (g 3), .int (g 4), .int (g 5), .int (g 6)])), (M 1, .inl (T.2.2.1, 1099, .inl m9)), (M 2, .inl (T.2.2.2, 60, .inl t))]) (fun _ => rfl) (fun m9 em9 => ?_)
    have zh10 := zl_e zh8 em9
    refine Z.of (pc' := 50) (fun _ _ _ hl => lv_aload_n hx hb dX10_tests_49 rfl (lv_at hl 0 rfl)) ?_
    refine z_get C iX10 0 0 k7 rfl rfl (by decide) rfl rfl dX10_tests_50 rfl ?_
    refine Z.of (pc' := 54) (fun _ _ _ hl => lv_iload_n hx hb dX10_tests_53 rfl (lv_at hl 1 rfl)) ?_
    refine Z.of (pc' := 56) (fun _ _ _ _ => lv_bipush (v := 15) hx hb dX10_tests_54 (by decide)) ?_
    refine Z.of (pc' := 57) (fun _ _ _ hl => lv_iadd hx hb dX10_tests_56) ?_
    refine Z.topn (y := nI (b + 15)) (zi_c (zi_add (a := b) (b := 15) (rfl : nI b = nI b) (rfl : (15 : Int32) = nI 15)) (by omega)) ?_
    refine Z.of (pc' := 58) (fun _ _ _ hl => lv_iload_n hx hb dX10_tests_57 rfl (lv_at hl 2 rfl)) ?_
    refine z_iast C 1 1 rfl rfl (j := b + 15) (rfl : nI (b + 15) = nI (b + 15)) (by omega) (by decide) dX10_tests_58 rfl (fun m11 => [(M 0, .inr (10, [.ref (M 1), .int (g 0), .ref (M 2), .int (g 1), .int (g 2), .int (g 3), .int (g 4), .int (g 5), .int (g 6)])), (M 1, .inl (T.2.2.1, 1099, .inl m11)), (M 2, .inl (T.2.2.2, 60, .inl t))]) (fun _ => rfl) (fun m11 em11 => ?_)
    have zh12 := zl_e zh10 em11
    refine Z.of (pc' := 60) (fun _ _ _ hl => lv_aload_n hx hb dX10_tests_59 rfl (lv_at hl 0 rfl)) ?_
    refine z_get C iX10 0 0 k7 rfl rfl (by decide) rfl rfl dX10_tests_60 rfl ?_
    refine Z.of (pc' := 64) (fun _ _ _ hl => lv_iload_n hx hb dX10_tests_63 rfl (lv_at hl 1 rfl)) ?_
    refine Z.of (pc' := 66) (fun _ _ _ _ => lv_bipush (v := 27) hx hb dX10_tests_64 (by decide)) ?_
    refine Z.of (pc' := 67) (fun _ _ _ hl => lv_iadd hx hb dX10_tests_66) ?_
    refine Z.topn (y := nI (b + 27)) (zi_c (zi_add (a := b) (b := 27) (rfl : nI b = nI b) (rfl : (27 : Int32) = nI 27)) (by omega)) ?_
    refine Z.of (pc' := 68) (fun _ _ _ hl => lv_aload_n hx hb dX10_tests_67 rfl (lv_at hl 0 rfl)) ?_
    refine z_get C iX10 0 0 k7 rfl rfl (by decide) rfl rfl dX10_tests_68 rfl ?_
    refine Z.of (pc' := 72) (fun _ _ _ hl => lv_iload_n hx hb dX10_tests_71 rfl (lv_at hl 1 rfl)) ?_
    refine Z.of (pc' := 74) (fun _ _ _ _ => lv_bipush (v := 14) hx hb dX10_tests_72 (by decide)) ?_
    refine Z.of (pc' := 75) (fun _ _ _ hl => lv_iadd hx hb dX10_tests_74) ?_
    refine Z.topn (y := nI (b + 14)) (zi_c (zi_add (a := b) (b := 14) (rfl : nI b = nI b) (rfl : (14 : Int32) = nI 14)) (by omega)) ?_
    refine z_iald C 1 1 rfl rfl (j := b + 14) (rfl : nI (b + 14) = nI (b + 14)) (by omega) (by decide) dX10_tests_75 rfl ?_
    refine Z.of (pc' := 77) (fun _ _ _ hl => lv_aload_n hx hb dX10_tests_76 rfl (lv_at hl 0 rfl)) ?_
    refine z_get C iX10 0 0 k7 rfl rfl (by decide) rfl rfl dX10_tests_77 rfl ?_
    refine Z.of (pc' := 81) (fun _ _ _ hl => lv_iload_n hx hb dX10_tests_80 rfl (lv_at hl 1 rfl)) ?_
    refine Z.of (pc' := 83) (fun _ _ _ _ => lv_bipush (v := 27) hx hb dX10_tests_81 (by decide)) ?_
    refine Z.of (pc' := 84) (fun _ _ _ hl => lv_iadd hx hb dX10_tests_83) ?_
    refine Z.topn (y := nI (b + 27)) (zi_c (zi_add (a := b) (b := 27) (rfl : nI b = nI b) (rfl : (27 : Int32) = nI 27)) (by omega)) ?_
    refine z_iald C 1 1 rfl rfl (j := b + 27) (rfl : nI (b + 27) = nI (b + 27)) (by omega) (by decide) dX10_tests_84 rfl ?_
    have J14 : ∀ v14 : Int32, v14 = (
        if (m11 (b + 14)) ≤ (m11 (b + 27)) then
          (m11 (b + 27))
        else
          (m11 (b + 14))
        ) → Z P0 l E0 rm_X10_tests S0 M0 G0 B0 T0 K0 5 T A9 Q9 0 0 [(M 0, .inr (10, [.ref (M 1), .int (g 0), .ref (M 2), .int (g 1), .int (g 2), .int (g 3), .int (g 4), .int (g 5), .int (g 6)])), (M 1, .inl (T.2.2.1, 1099, .inl m11)), (M 2, .inl (T.2.2.2, 60, .inl t))] 109 [(0, .ref (M 0)), (1, .int (nI b)), (2, .int bit)] [.int v14, .int (nI (b + 27)), .ref (M 1)] := by
      intro v14 ev14
      have zh17 := zl_e zh12 ev14
      refine z_iast C 1 1 rfl rfl (j := b + 27) (rfl : nI (b + 27) = nI (b + 27)) (by omega) (by decide) dX10_tests_109 rfl (fun m18 => [(M 0, .inr (10, [.ref (M 1), .int (g 0), .ref (M 2), .int (g 1), .int (g 2), .int (g 3), .int (g 4), .int (g 5), .int (g 6)])), (M 1, .inl (T.2.2.1, 1099, .inl m18)), (M 2, .inl (T.2.2.2, 60, .inl t))]) (fun _ => rfl) (fun m18 em18 => ?_)
      have zh19 := zl_e zh17 em18
      refine Z.of (pc' := 111) (fun _ _ _ hl => lv_aload_n hx hb dX10_tests_110 rfl (lv_at hl 0 rfl)) ?_
      refine z_get C iX10 0 0 k7 rfl rfl (by decide) rfl rfl dX10_tests_111 rfl ?_
      refine Z.of (pc' := 115) (fun _ _ _ hl => lv_iload_n hx hb dX10_tests_114 rfl (lv_at hl 1 rfl)) ?_
      refine Z.of (pc' := 117) (fun _ _ _ _ => lv_bipush (v := 16) hx hb dX10_tests_115 (by decide)) ?_
      refine Z.of (pc' := 118) (fun _ _ _ hl => lv_iadd hx hb dX10_tests_117) ?_
      refine Z.topn (y := nI (b + 16)) (zi_c (zi_add (a := b) (b := 16) (rfl : nI b = nI b) (rfl : (16 : Int32) = nI 16)) (by omega)) ?_
      refine Z.of (pc' := 119) (fun _ _ _ hl => lv_dup2_11 hx hb dX10_tests_118 rfl rfl) ?_
      refine z_iald C 1 1 rfl rfl (j := b + 16) (rfl : nI (b + 16) = nI (b + 16)) (by omega) (by decide) dX10_tests_119 rfl ?_
      refine Z.of (pc' := 121) (fun _ _ _ _ => lv_iconst (v := 1) hx hb dX10_tests_120 (by decide)) ?_
      refine Z.of (pc' := 122) (fun _ _ _ hl => lv_iadd hx hb dX10_tests_121) ?_
      refine z_iast C 1 1 rfl rfl (j := b + 16) (rfl : nI (b + 16) = nI (b + 16)) (by omega) (by decide) dX10_tests_122 rfl (fun m20 => [(M 0, .inr (10, [.ref (M 1), .int (g 0), .ref (M 2), .int (g 1), .int (g 2), .int (g 3), .int (g 4), .int (g 5), .int (g 6)])), (M 1, .inl (T.2.2.1, 1099, .inl m20)), (M 2, .inl (T.2.2.2, 60, .inl t))]) (fun _ => rfl) (fun m20 em20 => ?_)
      have zh21 := zl_e zh19 em20
      refine Z.of (pc' := 124) (fun _ _ _ hl => lv_aload_n hx hb dX10_tests_123 rfl (lv_at hl 0 rfl)) ?_
      refine z_get C iX10 0 0 k7 rfl rfl (by decide) rfl rfl dX10_tests_124 rfl ?_
      refine Z.of (pc' := 128) (fun _ _ _ hl => lv_iload_n hx hb dX10_tests_127 rfl (lv_at hl 1 rfl)) ?_
      refine Z.of (pc' := 130) (fun _ _ _ _ => lv_bipush (v := 17) hx hb dX10_tests_128 (by decide)) ?_
      refine Z.of (pc' := 131) (fun _ _ _ hl => lv_iadd hx hb dX10_tests_130) ?_
      refine Z.topn (y := nI (b + 17)) (zi_c (zi_add (a := b) (b := 17) (rfl : nI b = nI b) (rfl : (17 : Int32) = nI 17)) (by omega)) ?_
      refine Z.of (pc' := 132) (fun _ _ _ hl => lv_dup2_11 hx hb dX10_tests_131 rfl rfl) ?_
      refine z_iald C 1 1 rfl rfl (j := b + 17) (rfl : nI (b + 17) = nI (b + 17)) (by omega) (by decide) dX10_tests_132 rfl ?_
      refine Z.of (pc' := 134) (fun _ _ _ hl => lv_iload_n hx hb dX10_tests_133 rfl (lv_at hl 2 rfl)) ?_
      refine Z.of (pc' := 135) (fun _ _ _ hl => lv_iadd hx hb dX10_tests_134) ?_
      refine z_iast C 1 1 rfl rfl (j := b + 17) (rfl : nI (b + 17) = nI (b + 17)) (by omega) (by decide) dX10_tests_135 rfl (fun m22 => [(M 0, .inr (10, [.ref (M 1), .int (g 0), .ref (M 2), .int (g 1), .int (g 2), .int (g 3), .int (g 4), .int (g 5), .int (g 6)])), (M 1, .inl (T.2.2.1, 1099, .inl m22)), (M 2, .inl (T.2.2.2, 60, .inl t))]) (fun _ => rfl) (fun m22 em22 => ?_)
      have zh23 := zl_e zh21 em22
      refine Z.of (pc' := 137) (fun _ _ _ hl => lv_aload_n hx hb dX10_tests_136 rfl (lv_at hl 0 rfl)) ?_
      refine z_get C iX10 0 0 k7 rfl rfl (by decide) rfl rfl dX10_tests_137 rfl ?_
      refine Z.of (pc' := 141) (fun _ _ _ hl => lv_iload_n hx hb dX10_tests_140 rfl (lv_at hl 1 rfl)) ?_
      refine Z.of (pc' := 143) (fun _ _ _ _ => lv_bipush (v := 16) hx hb dX10_tests_141 (by decide)) ?_
      refine Z.of (pc' := 144) (fun _ _ _ hl => lv_iadd hx hb dX10_tests_143) ?_
      refine Z.topn (y := nI (b + 16)) (zi_c (zi_add (a := b) (b := 16) (rfl : nI b = nI b) (rfl : (16 : Int32) = nI 16)) (by omega)) ?_
      refine z_iald C 1 1 rfl rfl (j := b + 16) (rfl : nI (b + 16) = nI (b + 16)) (by omega) (by decide) dX10_tests_144 rfl ?_
      refine Z.of (pc' := 147) (fun _ _ _ _ => lv_bipush (v := 32) hx hb dX10_tests_145 (by decide)) ?_
      have J25 : ∀ v25 : Int32, v25 = (
          if (m22 (b + 16)) = 32 then
            1
          else
            0
          ) → Z P0 l E0 rm_X10_tests S0 M0 G0 B0 T0 K0 5 T A9 Q9 0 0 [(M 0, .inr (10, [.ref (M 1), .int (g 0), .ref (M 2), .int (g 1), .int (g 2), .int (g 3), .int (g 4), .int (g 5), .int (g 6)])), (M 1, .inl (T.2.2.1, 1099, .inl m22)), (M 2, .inl (T.2.2.2, 60, .inl t))] 155 [(0, .ref (M 0)), (1, .int (nI b))] [.int v25] := by
        intro v25 ev25
        have zh28 := zl_e zh23 ev25
        refine Z.sto (pc' := 156) (lv' := [(3, .int v25), (0, .ref (M 0)), (1, .int (nI b))]) (fun _ _ _ hl => lv_istore_n (lv' := [(3, .int v25), (0, .ref (M 0)), (1, .int (nI b))]) hx hb dX10_tests_155 rfl hl (by decide) rfl) ?_
        refine Z.of (pc' := 157) (fun _ _ _ hl => lv_iload_n hx hb dX10_tests_156 rfl (lv_at hl 0 rfl)) ?_
        have J30 : ∀ v30 : Int32, v30 = (
            if v25 = 0 then
              0
            else
              zl (f_X10_in (m22 (b + 17)) (m22 (b + 10)) (32 - (m22 (b + 10)))) fun u33 =>
              if u33 = 0 then
                1
              else
                0
            ) → Z P0 l E0 rm_X10_tests S0 M0 G0 B0 T0 K0 5 T A9 Q9 0 0 [(M 0, .inr (10, [.ref (M 1), .int (g 0), .ref (M 2), .int (g 1), .int (g 2), .int (g 3), .int (g 4), .int (g 5), .int (g 6)])), (M 1, .inl (T.2.2.1, 1099, .inl m22)), (M 2, .inl (T.2.2.2, 60, .inl t))] 205 [(0, .ref (M 0)), (1, .int (nI b)), (3, .int v25)] [.int v30] := by
          intro v30 ev30
          have zh38 := zl_e zh28 ev30
          refine Z.sto (pc' := 207) (lv' := [(4, .int v30), (0, .ref (M 0)), (1, .int (nI b)), (3, .int v25)]) (fun _ _ _ hl => lv_istore (lv' := [(4, .int v30), (0, .ref (M 0)), (1, .int (nI b)), (3, .int v25)]) hx hb dX10_tests_205 hl (by decide) rfl) ?_
          refine Z.of (pc' := 208) (fun _ _ _ hl => lv_iload_n hx hb dX10_tests_207 rfl (lv_at hl 3 rfl)) ?_
          have J40 : ∀ v40 : (Nat → Int32), v40 = (
              if v25 = 0 then
                m22
              else
                zl (upd m22 (b + 16) 0) fun m43 =>
                zl (upd m43 (b + 17) 0) fun m45 =>
                m45
              ) → Z P0 l E0 rm_X10_tests S0 M0 G0 B0 T0 K0 5 T A9 Q9 0 0 [(M 0, .inr (10, [.ref (M 1), .int (g 0), .ref (M 2), .int (g 1), .int (g 2), .int (g 3), .int (g 4), .int (g 5), .int (g 6)])), (M 1, .inl (T.2.2.1, 1099, .inl v40)), (M 2, .inl (T.2.2.2, 60, .inl t))] 231 [(0, .ref (M 0)), (1, .int (nI b)), (4, .int v30)] [] := by
            intro v40 ev40
            have zh47 := zl_e zh38 ev40
            refine Z.of (pc' := 232) (fun _ _ _ hl => lv_aload_n hx hb dX10_tests_231 rfl (lv_at hl 0 rfl)) ?_
            refine z_get C iX10 0 0 k7 rfl rfl (by decide) rfl rfl dX10_tests_232 rfl ?_
            refine Z.of (pc' := 236) (fun _ _ _ hl => lv_iload_n hx hb dX10_tests_235 rfl (lv_at hl 1 rfl)) ?_
            refine Z.of (pc' := 238) (fun _ _ _ _ => lv_bipush (v := 14) hx hb dX10_tests_236 (by decide)) ?_
            refine Z.of (pc' := 239) (fun _ _ _ hl => lv_iadd hx hb dX10_tests_238) ?_
            refine Z.topn (y := nI (b + 14)) (zi_c (zi_add (a := b) (b := 14) (rfl : nI b = nI b) (rfl : (14 : Int32) = nI 14)) (by omega)) ?_
            refine z_iald C 1 1 rfl rfl (j := b + 14) (rfl : nI (b + 14) = nI (b + 14)) (by omega) (by decide) dX10_tests_239 rfl ?_
            refine Z.of (pc' := 241) (fun _ _ _ hl => lv_aload_n hx hb dX10_tests_240 rfl (lv_at hl 0 rfl)) ?_
            refine z_get C iX10 0 0 k7 rfl rfl (by decide) rfl rfl dX10_tests_241 rfl ?_
            refine Z.of (pc' := 245) (fun _ _ _ hl => lv_iload_n hx hb dX10_tests_244 rfl (lv_at hl 1 rfl)) ?_
            refine Z.of (pc' := 247) (fun _ _ _ _ => lv_bipush (v := 7) hx hb dX10_tests_245 (by decide)) ?_
            refine Z.of (pc' := 248) (fun _ _ _ hl => lv_iadd hx hb dX10_tests_247) ?_
            refine Z.topn (y := nI (b + 7)) (zi_c (zi_add (a := b) (b := 7) (rfl : nI b = nI b) (rfl : (7 : Int32) = nI 7)) (by omega)) ?_
            refine Z.of (pc' := 249) (fun _ _ _ _ => lv_iconst (v := 2) hx hb dX10_tests_248 (by decide)) ?_
            refine Z.of (pc' := 250) (fun _ _ _ hl => lv_iadd hx hb dX10_tests_249) ?_
            refine Z.topn (y := nI (b + 9)) (zi_c (zi_add (a := b + 7) (b := 2) (rfl : nI (b + 7) = nI (b + 7)) (rfl : (2 : Int32) = nI 2)) (by omega)) ?_
            refine z_iald C 1 1 rfl rfl (j := b + 9) (rfl : nI (b + 9) = nI (b + 9)) (by omega) (by decide) dX10_tests_250 rfl ?_
            refine Z.two (pt := 258) (pf := 254) (fun _ _ _ _ => lv_icmp_le hx hb dX10_tests_251 (by decide)) (fun c48 => ?_) (fun c48 => ?_)
            · have zh49 := zh47.trans (if_pos c48)
              refine Z.of (pc' := 260) (fun _ _ _ hl => lv_iload hx hb dX10_tests_258 (lv_at hl 2 rfl)) ?_
              refine Z.two (pt := 267) (pf := 263) (fun _ _ _ _ => lv_if_eq hx hb dX10_tests_260 (by decide)) (fun c51 => ?_) (fun c51 => ?_)
              · have zh52 := zh49.trans (if_pos c51)
                refine Z.of (pc' := 268) (fun _ _ _ _ => lv_iconst (v := 0) hx hb dX10_tests_267 (by decide)) ?_
                exact E (0, v40) _ _ _ _ dX10_tests_268 rfl rfl rfl zh52
              · have zh53 := zh49.trans (if_neg c51)
                refine Z.of (pc' := 264) (fun _ _ _ _ => lv_iconst (v := 2) hx hb dX10_tests_263 (by decide)) ?_
                refine Z.of (pc' := 268) (fun _ _ _ _ => lv_goto hx hb dX10_tests_264 (by decide)) ?_
                exact E (2, v40) _ _ _ _ dX10_tests_268 rfl rfl rfl zh53
            · have zh50 := zh47.trans (if_neg c48)
              refine Z.of (pc' := 255) (fun _ _ _ _ => lv_iconst (v := 1) hx hb dX10_tests_254 (by decide)) ?_
              refine Z.of (pc' := 268) (fun _ _ _ _ => lv_goto hx hb dX10_tests_255 (by decide)) ?_
              exact E (1, v40) _ _ _ _ dX10_tests_268 rfl rfl rfl zh50
          have zr40 := @Eq.refl ((Nat → Int32)) (
              if v25 = 0 then
                m22
              else
                zl (upd m22 (b + 16) 0) fun m43 =>
                zl (upd m43 (b + 17) 0) fun m45 =>
                m45
              )
          refine Z.two (pt := 231) (pf := 211) (fun _ _ _ _ => lv_if_eq hx hb dX10_tests_208 (by decide)) (fun c39 => ?_) (fun c39 => ?_)
          · have zh41 := zr40.trans (if_pos c39)
            exact Z.sub (ks := [1, 2, 0]) (lv' := [(0, .ref (M 0)), (1, .int (nI b)), (4, .int v30)]) rfl (J40 m22 zh41.symm)
          · have zh42 := zr40.trans (if_neg c39)
            refine Z.of (pc' := 212) (fun _ _ _ hl => lv_aload_n hx hb dX10_tests_211 rfl (lv_at hl 1 rfl)) ?_
            refine z_get C iX10 0 0 k7 rfl rfl (by decide) rfl rfl dX10_tests_212 rfl ?_
            refine Z.of (pc' := 216) (fun _ _ _ hl => lv_iload_n hx hb dX10_tests_215 rfl (lv_at hl 2 rfl)) ?_
            refine Z.of (pc' := 218) (fun _ _ _ _ => lv_bipush (v := 16) hx hb dX10_tests_216 (by decide)) ?_
            refine Z.of (pc' := 219) (fun _ _ _ hl => lv_iadd hx hb dX10_tests_218) ?_
            refine Z.topn (y := nI (b + 16)) (zi_c (zi_add (a := b) (b := 16) (rfl : nI b = nI b) (rfl : (16 : Int32) = nI 16)) (by omega)) ?_
            refine Z.of (pc' := 220) (fun _ _ _ _ => lv_iconst (v := 0) hx hb dX10_tests_219 (by decide)) ?_
            refine z_iast C 1 1 rfl rfl (j := b + 16) (rfl : nI (b + 16) = nI (b + 16)) (by omega) (by decide) dX10_tests_220 rfl (fun m43 => [(M 0, .inr (10, [.ref (M 1), .int (g 0), .ref (M 2), .int (g 1), .int (g 2), .int (g 3), .int (g 4), .int (g 5), .int (g 6)])), (M 1, .inl (T.2.2.1, 1099, .inl m43)), (M 2, .inl (T.2.2.2, 60, .inl t))]) (fun _ => rfl) (fun m43 em43 => ?_)
            have zh44 := zl_e zh42 em43
            refine Z.of (pc' := 222) (fun _ _ _ hl => lv_aload_n hx hb dX10_tests_221 rfl (lv_at hl 1 rfl)) ?_
            refine z_get C iX10 0 0 k7 rfl rfl (by decide) rfl rfl dX10_tests_222 rfl ?_
            refine Z.of (pc' := 226) (fun _ _ _ hl => lv_iload_n hx hb dX10_tests_225 rfl (lv_at hl 2 rfl)) ?_
            refine Z.of (pc' := 228) (fun _ _ _ _ => lv_bipush (v := 17) hx hb dX10_tests_226 (by decide)) ?_
            refine Z.of (pc' := 229) (fun _ _ _ hl => lv_iadd hx hb dX10_tests_228) ?_
            refine Z.topn (y := nI (b + 17)) (zi_c (zi_add (a := b) (b := 17) (rfl : nI b = nI b) (rfl : (17 : Int32) = nI 17)) (by omega)) ?_
            refine Z.of (pc' := 230) (fun _ _ _ _ => lv_iconst (v := 0) hx hb dX10_tests_229 (by decide)) ?_
            refine z_iast C 1 1 rfl rfl (j := b + 17) (rfl : nI (b + 17) = nI (b + 17)) (by omega) (by decide) dX10_tests_230 rfl (fun m45 => [(M 0, .inr (10, [.ref (M 1), .int (g 0), .ref (M 2), .int (g 1), .int (g 2), .int (g 3), .int (g 4), .int (g 5), .int (g 6)])), (M 1, .inl (T.2.2.1, 1099, .inl m45)), (M 2, .inl (T.2.2.2, 60, .inl t))]) (fun _ => rfl) (fun m45 em45 => ?_)
            have zh46 := zl_e zh44 em45
            exact Z.sub (ks := [1, 2, 0]) (lv' := [(0, .ref (M 0)), (1, .int (nI b)), (4, .int v30)]) rfl (J40 m45 zh46.symm)
        have zr30 := @Eq.refl (Int32) (
            if v25 = 0 then
              0
            else
              zl (f_X10_in (m22 (b + 17)) (m22 (b + 10)) (32 - (m22 (b + 10)))) fun u33 =>
              if u33 = 0 then
                1
              else
                0
            )
        refine Z.two (pt := 204) (pf := 160) (fun _ _ _ _ => lv_if_eq hx hb dX10_tests_157 (by decide)) (fun c29 => ?_) (fun c29 => ?_)
        · have zh31 := zr30.trans (if_pos c29)
          refine Z.of (pc' := 205) (fun _ _ _ _ => lv_iconst (v := 0) hx hb dX10_tests_204 (by decide)) ?_
          exact Z.sub (ks := [1, 2, 0]) (lv' := [(0, .ref (M 0)), (1, .int (nI b)), (3, .int v25)]) rfl (J30 0 zh31.symm)
        · have zh32 := zr30.trans (if_neg c29)
          refine Z.of (pc' := 161) (fun _ _ _ hl => lv_aload_n hx hb dX10_tests_160 rfl (lv_at hl 1 rfl)) ?_
          refine z_get C iX10 0 0 k7 rfl rfl (by decide) rfl rfl dX10_tests_161 rfl ?_
          refine Z.of (pc' := 165) (fun _ _ _ hl => lv_iload_n hx hb dX10_tests_164 rfl (lv_at hl 2 rfl)) ?_
          refine Z.of (pc' := 167) (fun _ _ _ _ => lv_bipush (v := 17) hx hb dX10_tests_165 (by decide)) ?_
          refine Z.of (pc' := 168) (fun _ _ _ hl => lv_iadd hx hb dX10_tests_167) ?_
          refine Z.topn (y := nI (b + 17)) (zi_c (zi_add (a := b) (b := 17) (rfl : nI b = nI b) (rfl : (17 : Int32) = nI 17)) (by omega)) ?_
          refine z_iald C 1 1 rfl rfl (j := b + 17) (rfl : nI (b + 17) = nI (b + 17)) (by omega) (by decide) dX10_tests_168 rfl ?_
          refine Z.of (pc' := 170) (fun _ _ _ hl => lv_aload_n hx hb dX10_tests_169 rfl (lv_at hl 1 rfl)) ?_
          refine z_get C iX10 0 0 k7 rfl rfl (by decide) rfl rfl dX10_tests_170 rfl ?_
          refine Z.of (pc' := 174) (fun _ _ _ hl => lv_iload_n hx hb dX10_tests_173 rfl (lv_at hl 2 rfl)) ?_
          refine Z.of (pc' := 176) (fun _ _ _ _ => lv_bipush (v := 7) hx hb dX10_tests_174 (by decide)) ?_
          refine Z.of (pc' := 177) (fun _ _ _ hl => lv_iadd hx hb dX10_tests_176) ?_
          refine Z.topn (y := nI (b + 7)) (zi_c (zi_add (a := b) (b := 7) (rfl : nI b = nI b) (rfl : (7 : Int32) = nI 7)) (by omega)) ?_
          refine Z.of (pc' := 178) (fun _ _ _ _ => lv_iconst (v := 3) hx hb dX10_tests_177 (by decide)) ?_
          refine Z.of (pc' := 179) (fun _ _ _ hl => lv_iadd hx hb dX10_tests_178) ?_
          refine Z.topn (y := nI (b + 10)) (zi_c (zi_add (a := b + 7) (b := 3) (rfl : nI (b + 7) = nI (b + 7)) (rfl : (3 : Int32) = nI 3)) (by omega)) ?_
          refine z_iald C 1 1 rfl rfl (j := b + 10) (rfl : nI (b + 10) = nI (b + 10)) (by omega) (by decide) dX10_tests_179 rfl ?_
          refine Z.of (pc' := 182) (fun _ _ _ _ => lv_bipush (v := 32) hx hb dX10_tests_180 (by decide)) ?_
          refine Z.of (pc' := 183) (fun _ _ _ hl => lv_aload_n hx hb dX10_tests_182 rfl (lv_at hl 1 rfl)) ?_
          refine z_get C iX10 0 0 k7 rfl rfl (by decide) rfl rfl dX10_tests_183 rfl ?_
          refine Z.of (pc' := 187) (fun _ _ _ hl => lv_iload_n hx hb dX10_tests_186 rfl (lv_at hl 2 rfl)) ?_
          refine Z.of (pc' := 189) (fun _ _ _ _ => lv_bipush (v := 7) hx hb dX10_tests_187 (by decide)) ?_
          refine Z.of (pc' := 190) (fun _ _ _ hl => lv_iadd hx hb dX10_tests_189) ?_
          refine Z.topn (y := nI (b + 7)) (zi_c (zi_add (a := b) (b := 7) (rfl : nI b = nI b) (rfl : (7 : Int32) = nI 7)) (by omega)) ?_
          refine Z.of (pc' := 191) (fun _ _ _ _ => lv_iconst (v := 3) hx hb dX10_tests_190 (by decide)) ?_
          refine Z.of (pc' := 192) (fun _ _ _ hl => lv_iadd hx hb dX10_tests_191) ?_
          refine Z.topn (y := nI (b + 10)) (zi_c (zi_add (a := b + 7) (b := 3) (rfl : nI (b + 7) = nI (b + 7)) (rfl : (3 : Int32) = nI 3)) (by omega)) ?_
          refine z_iald C 1 1 rfl rfl (j := b + 10) (rfl : nI (b + 10) = nI (b + 10)) (by omega) (by decide) dX10_tests_192 rfl ?_
          refine Z.of (pc' := 194) (fun _ _ _ hl => lv_isub hx hb dX10_tests_193) ?_
          refine z_callSi C (c_X10_in l T (m22 (b + 17)) (m22 (b + 10)) (32 - (m22 (b + 10)))) (cwS 3 hts gX10_tests_X10_in rfl rfl rfl (by decide +kernel) ⟨Nat.le_of_ble_eq_true rfl, Nat.le_of_ble_eq_true rfl⟩) (As := [.int (m22 (b + 17)), .int (m22 (b + 10)), .int (32 - (m22 (b + 10)))]) (rest := []) rfl rfl (Nat.le_of_ble_eq_true rfl) dX10_tests_194 rfl ⟨Nat.zero_le _, Nat.zero_le _⟩ (fun u33 eu33 bu33 => ?_)
          have zh34 := zl_e zh32 eu33
          refine Z.two' (pt := 204) (pf := 200) (fun _ _ _ _ => lv_if_ne hx hb dX10_tests_197 (by decide)) (fun c35 => ?_) (fun c35 => ?_)
          · have zh36 := zh34.trans (if_neg c35)
            refine Z.of (pc' := 205) (fun _ _ _ _ => lv_iconst (v := 0) hx hb dX10_tests_204 (by decide)) ?_
            exact Z.sub (ks := [1, 2, 0]) (lv' := [(0, .ref (M 0)), (1, .int (nI b)), (3, .int v25)]) rfl (J30 0 zh36.symm)
          · have zh37 := zh34.trans (if_pos c35)
            refine Z.of (pc' := 201) (fun _ _ _ _ => lv_iconst (v := 1) hx hb dX10_tests_200 (by decide)) ?_
            refine Z.of (pc' := 205) (fun _ _ _ _ => lv_goto hx hb dX10_tests_201 (by decide)) ?_
            exact Z.sub (ks := [1, 2, 0]) (lv' := [(0, .ref (M 0)), (1, .int (nI b)), (3, .int v25)]) rfl (J30 1 zh37.symm)
      have zr25 := @Eq.refl (Int32) (
          if (m22 (b + 16)) = 32 then
            1
          else
            0
          )
      refine Z.two' (pt := 154) (pf := 150) (fun _ _ _ _ => lv_icmp_ne hx hb dX10_tests_147 (by decide)) (fun c24 => ?_) (fun c24 => ?_)
      · have zh26 := zr25.trans (if_neg c24)
        refine Z.of (pc' := 155) (fun _ _ _ _ => lv_iconst (v := 0) hx hb dX10_tests_154 (by decide)) ?_
        exact Z.sub (ks := [0, 1]) (lv' := [(0, .ref (M 0)), (1, .int (nI b))]) rfl (J25 0 zh26.symm)
      · have zh27 := zr25.trans (if_pos c24)
        refine Z.of (pc' := 151) (fun _ _ _ _ => lv_iconst (v := 1) hx hb dX10_tests_150 (by decide)) ?_
        refine Z.of (pc' := 155) (fun _ _ _ _ => lv_goto hx hb dX10_tests_151 (by decide)) ?_
        exact Z.sub (ks := [0, 1]) (lv' := [(0, .ref (M 0)), (1, .int (nI b))]) rfl (J25 1 zh27.symm)
    have zr14 := @Eq.refl (Int32) (
        if (m11 (b + 14)) ≤ (m11 (b + 27)) then
          (m11 (b + 27))
        else
          (m11 (b + 14))
        )
    refine Z.two (pt := 100) (pf := 88) (fun _ _ _ _ => lv_icmp_le hx hb dX10_tests_85 (by decide)) (fun c13 => ?_) (fun c13 => ?_)
    · have zh15 := zr14.trans (if_pos c13)
      refine Z.of (pc' := 101) (fun _ _ _ hl => lv_aload_n hx hb dX10_tests_100 rfl (lv_at hl 0 rfl)) ?_
      refine z_get C iX10 0 0 k7 rfl rfl (by decide) rfl rfl dX10_tests_101 rfl ?_
      refine Z.of (pc' := 105) (fun _ _ _ hl => lv_iload_n hx hb dX10_tests_104 rfl (lv_at hl 1 rfl)) ?_
      refine Z.of (pc' := 107) (fun _ _ _ _ => lv_bipush (v := 27) hx hb dX10_tests_105 (by decide)) ?_
      refine Z.of (pc' := 108) (fun _ _ _ hl => lv_iadd hx hb dX10_tests_107) ?_
      refine Z.topn (y := nI (b + 27)) (zi_c (zi_add (a := b) (b := 27) (rfl : nI b = nI b) (rfl : (27 : Int32) = nI 27)) (by omega)) ?_
      refine z_iald C 1 1 rfl rfl (j := b + 27) (rfl : nI (b + 27) = nI (b + 27)) (by omega) (by decide) dX10_tests_108 rfl ?_
      exact J14 (m11 (b + 27)) zh15.symm
    · have zh16 := zr14.trans (if_neg c13)
      refine Z.of (pc' := 89) (fun _ _ _ hl => lv_aload_n hx hb dX10_tests_88 rfl (lv_at hl 0 rfl)) ?_
      refine z_get C iX10 0 0 k7 rfl rfl (by decide) rfl rfl dX10_tests_89 rfl ?_
      refine Z.of (pc' := 93) (fun _ _ _ hl => lv_iload_n hx hb dX10_tests_92 rfl (lv_at hl 1 rfl)) ?_
      refine Z.of (pc' := 95) (fun _ _ _ _ => lv_bipush (v := 14) hx hb dX10_tests_93 (by decide)) ?_
      refine Z.of (pc' := 96) (fun _ _ _ hl => lv_iadd hx hb dX10_tests_95) ?_
      refine Z.topn (y := nI (b + 14)) (zi_c (zi_add (a := b) (b := 14) (rfl : nI b = nI b) (rfl : (14 : Int32) = nI 14)) (by omega)) ?_
      refine z_iald C 1 1 rfl rfl (j := b + 14) (rfl : nI (b + 14) = nI (b + 14)) (by omega) (by decide) dX10_tests_96 rfl ?_
      refine Z.of (pc' := 109) (fun _ _ _ _ => lv_goto hx hb dX10_tests_97 (by decide)) ?_
      exact J14 (m11 (b + 14)) zh16.symm
  have zr2 := @Eq.refl (Int32) (
      if (m (b + 14)) ≤ 0 then
        1
      else
        if (m (b + 15)) = bit then
          ((m (b + 14)) + 1)
        else
          1
      )
  refine Z.two (pt := 47) (pf := 20) (fun _ _ _ _ => lv_if_le hx hb dX10_tests_17 (by decide)) (fun c1 => ?_) (fun c1 => ?_)
  · have zh3 := zr2.trans (if_pos c1)
    refine Z.of (pc' := 48) (fun _ _ _ _ => lv_iconst (v := 1) hx hb dX10_tests_47 (by decide)) ?_
    exact J2 1 zh3.symm
  · have zh4 := zr2.trans (if_neg c1)
    refine Z.of (pc' := 21) (fun _ _ _ hl => lv_aload_n hx hb dX10_tests_20 rfl (lv_at hl 0 rfl)) ?_
    refine z_get C iX10 0 0 k7 rfl rfl (by decide) rfl rfl dX10_tests_21 rfl ?_
    refine Z.of (pc' := 25) (fun _ _ _ hl => lv_iload_n hx hb dX10_tests_24 rfl (lv_at hl 1 rfl)) ?_
    refine Z.of (pc' := 27) (fun _ _ _ _ => lv_bipush (v := 15) hx hb dX10_tests_25 (by decide)) ?_
    refine Z.of (pc' := 28) (fun _ _ _ hl => lv_iadd hx hb dX10_tests_27) ?_
    refine Z.topn (y := nI (b + 15)) (zi_c (zi_add (a := b) (b := 15) (rfl : nI b = nI b) (rfl : (15 : Int32) = nI 15)) (by omega)) ?_
    refine z_iald C 1 1 rfl rfl (j := b + 15) (rfl : nI (b + 15) = nI (b + 15)) (by omega) (by decide) dX10_tests_28 rfl ?_
    refine Z.of (pc' := 30) (fun _ _ _ hl => lv_iload_n hx hb dX10_tests_29 rfl (lv_at hl 2 rfl)) ?_
    refine Z.two' (pt := 47) (pf := 33) (fun _ _ _ _ => lv_icmp_ne hx hb dX10_tests_30 (by decide)) (fun c5 => ?_) (fun c5 => ?_)
    · have zh6 := zh4.trans (if_neg c5)
      refine Z.of (pc' := 48) (fun _ _ _ _ => lv_iconst (v := 1) hx hb dX10_tests_47 (by decide)) ?_
      exact J2 1 zh6.symm
    · have zh7 := zh4.trans (if_pos c5)
      refine Z.of (pc' := 34) (fun _ _ _ hl => lv_aload_n hx hb dX10_tests_33 rfl (lv_at hl 0 rfl)) ?_
      refine z_get C iX10 0 0 k7 rfl rfl (by decide) rfl rfl dX10_tests_34 rfl ?_
      refine Z.of (pc' := 38) (fun _ _ _ hl => lv_iload_n hx hb dX10_tests_37 rfl (lv_at hl 1 rfl)) ?_
      refine Z.of (pc' := 40) (fun _ _ _ _ => lv_bipush (v := 14) hx hb dX10_tests_38 (by decide)) ?_
      refine Z.of (pc' := 41) (fun _ _ _ hl => lv_iadd hx hb dX10_tests_40) ?_
      refine Z.topn (y := nI (b + 14)) (zi_c (zi_add (a := b) (b := 14) (rfl : nI b = nI b) (rfl : (14 : Int32) = nI 14)) (by omega)) ?_
      refine z_iald C 1 1 rfl rfl (j := b + 14) (rfl : nI (b + 14) = nI (b + 14)) (by omega) (by decide) dX10_tests_41 rfl ?_
      refine Z.of (pc' := 43) (fun _ _ _ _ => lv_iconst (v := 1) hx hb dX10_tests_42 (by decide)) ?_
      refine Z.of (pc' := 44) (fun _ _ _ hl => lv_iadd hx hb dX10_tests_43) ?_
      refine Z.of (pc' := 48) (fun _ _ _ _ => lv_goto hx hb dX10_tests_44 (by decide)) ?_
      exact J2 ((m (b + 14)) + 1) zh7.symm
def f_X10_takesOne (g : Nat → Int32) (m : Nat → Int32) (t : Nat → Int32) (b : Nat) (bit : Int32) : (Nat → Int32) :=
  if 0 ≤ (m (b + 19)) then
    zl (
      if (m (b + 19)) = bit then
        zl (upd m (b + 22) ((m (b + 22)) + 1)) fun m19 =>
        m19
      else
        if (m (b + 18)) = 64 then
          zl (upd m (b + 24) ((m (b + 24)) + 1)) fun m17 =>
          m17
        else
          zl (upd m (b + (m (b + 18)).toNatClampNeg + 93) (m (b + 19))) fun m11 =>
          zl (upd m11 (b + 18) ((m11 (b + 18)) + 1)) fun m13 =>
          zl (upd m13 (b + 23) ((m13 (b + 23)) + 1)) fun m15 =>
          m15
      : (Nat → Int32)) fun v5 =>
    zl (upd v5 (b + 19) (-1)) fun m22 =>
    m22
  else
    zl (upd m (b + 19) bit) fun m24 =>
    m24
theorem fe_X10_takesOne (g : Nat → Int32) (m : Nat → Int32) (t : Nat → Int32) (b : Nat) (bit : Int32) : f_X10_takesOne g m t b bit = (
    if 0 ≤ (m (b + 19)) then
      zl (
        if (m (b + 19)) = bit then
          zl (upd m (b + 22) ((m (b + 22)) + 1)) fun m19 =>
          m19
        else
          if (m (b + 18)) = 64 then
            zl (upd m (b + 24) ((m (b + 24)) + 1)) fun m17 =>
            m17
          else
            zl (upd m (b + (m (b + 18)).toNatClampNeg + 93) (m (b + 19))) fun m11 =>
            zl (upd m11 (b + 18) ((m11 (b + 18)) + 1)) fun m13 =>
            zl (upd m13 (b + 23) ((m13 (b + 23)) + 1)) fun m15 =>
            m15
        : (Nat → Int32)) fun v5 =>
      zl (upd v5 (b + 19) (-1)) fun m22 =>
      m22
    else
      zl (upd m (b + 19) bit) fun m24 =>
      m24
    ) := rfl
abbrev rm_X10_takesOne : Room := { frames := 0, cells := 0, slots := 0, locals := 0 }
set_option maxHeartbeats 1000000 in
set_option maxRecDepth 100000 in
theorem c_X10_takesOne (l : Launch) (T : zT) (M : Nat → Nat) (g : Nat → Int32) (m : Nat → Int32) (t : Nat → Int32) (b : Nat) (bit : Int32) (hb9 : b ≤ 942) (hs0 : IN (m (b + 18)) 64) : Cv l yX10_takesOne wsX10_takesOne rm_X10_takesOne T [.ref (M 0), .int (nI b), .int bit] [(M 0, .inr (10, [.ref (M 1), .int (g 0), .ref (M 2), .int (g 1), .int (g 2), .int (g 3), .int (g 4), .int (g 5), .int (g 6)])), (M 1, .inl (T.2.2.1, 1099, .inl m)), (M 2, .inl (T.2.2.2, 60, .inl t))] (S := (Nat → Int32)) (f_X10_takesOne g m t b bit) (fun u => [(M 0, .inr (10, [.ref (M 1), .int (g 0), .ref (M 2), .int (g 1), .int (g 2), .int (g 3), .int (g 4), .int (g 5), .int (g 6)])), (M 1, .inl (T.2.2.1, 1099, .inl u)), (M 2, .inl (T.2.2.2, 60, .inl t))]) := by
  refine z_metV (own := RX10) (maxL := 3) rfl (by decide) rfl (Nat.le_of_ble_eq_true rfl) ?_
  intro P0 E0 S0 M0 G0 B0 T0 K0 A9 Q9 C E
  have hx := C.1.1
  have hb := C.1.2.1
  have hown := C.1.2.2.2.1
  have hts := C.1.2.2.2.2
  have hn := C.2.1.2
  have iX10 : ∀ w ∈ u_ws RX10 TX10 9, w ∈ wsX10_takesOne := by decide +kernel
  have k7 := hts (.fieldLink RX10 7 "JudgedBitsModel" "s" "[I") (by decide +kernel)
  have hs9 := hs0.1
  have hst := hs0.2
  change Z P0 l E0 rm_X10_takesOne S0 M0 G0 B0 T0 K0 3 T A9 Q9 0 0 [(M 0, .inr (10, [.ref (M 1), .int (g 0), .ref (M 2), .int (g 1), .int (g 2), .int (g 3), .int (g 4), .int (g 5), .int (g 6)])), (M 1, .inl (T.2.2.1, 1099, .inl m)), (M 2, .inl (T.2.2.2, 60, .inl t))] 0 [(0, .ref (M 0)), (1, .int (nI b)), (2, .int bit)] []
  have zh0 := fe_X10_takesOne g m t b bit
  refine Z.of (pc' := 1) (fun _ _ _ hl => lv_aload_n hx hb dX10_takesOne_0 rfl (lv_at hl 0 rfl)) ?_
  refine z_get C iX10 0 0 k7 rfl rfl (by decide) rfl rfl dX10_takesOne_1 rfl ?_
  refine Z.of (pc' := 5) (fun _ _ _ hl => lv_iload_n hx hb dX10_takesOne_4 rfl (lv_at hl 1 rfl)) ?_
  refine Z.of (pc' := 7) (fun _ _ _ _ => lv_bipush (v := 19) hx hb dX10_takesOne_5 (by decide)) ?_
  refine Z.of (pc' := 8) (fun _ _ _ hl => lv_iadd hx hb dX10_takesOne_7) ?_
  refine Z.topn (y := nI (b + 19)) (zi_c (zi_add (a := b) (b := 19) (rfl : nI b = nI b) (rfl : (19 : Int32) = nI 19)) (by omega)) ?_
  refine z_iald C 1 1 rfl rfl (j := b + 19) (rfl : nI (b + 19) = nI (b + 19)) (by omega) (by decide) dX10_takesOne_8 rfl ?_
  refine Z.two (pt := 23) (pf := 12) (fun _ _ _ _ => lv_if_ge hx hb dX10_takesOne_9 (by decide)) (fun c1 => ?_) (fun c1 => ?_)
  · have zh2 := zh0.trans (if_pos c1)
    refine Z.of (pc' := 24) (fun _ _ _ hl => lv_aload_n hx hb dX10_takesOne_23 rfl (lv_at hl 0 rfl)) ?_
    refine z_get C iX10 0 0 k7 rfl rfl (by decide) rfl rfl dX10_takesOne_24 rfl ?_
    refine Z.of (pc' := 28) (fun _ _ _ hl => lv_iload_n hx hb dX10_takesOne_27 rfl (lv_at hl 1 rfl)) ?_
    refine Z.of (pc' := 30) (fun _ _ _ _ => lv_bipush (v := 19) hx hb dX10_takesOne_28 (by decide)) ?_
    refine Z.of (pc' := 31) (fun _ _ _ hl => lv_iadd hx hb dX10_takesOne_30) ?_
    refine Z.topn (y := nI (b + 19)) (zi_c (zi_add (a := b) (b := 19) (rfl : nI b = nI b) (rfl : (19 : Int32) = nI 19)) (by omega)) ?_
    refine z_iald C 1 1 rfl rfl (j := b + 19) (rfl : nI (b + 19) = nI (b + 19)) (by omega) (by decide) dX10_takesOne_31 rfl ?_
    refine Z.of (pc' := 33) (fun _ _ _ hl => lv_iload_n hx hb dX10_takesOne_32 rfl (lv_at hl 2 rfl)) ?_
    have J5 : ∀ v5 : (Nat → Int32), v5 = (
        if (m (b + 19)) = bit then
          zl (upd m (b + 22) ((m (b + 22)) + 1)) fun m19 =>
          m19
        else
          if (m (b + 18)) = 64 then
            zl (upd m (b + 24) ((m (b + 24)) + 1)) fun m17 =>
            m17
          else
            zl (upd m (b + (m (b + 18)).toNatClampNeg + 93) (m (b + 19))) fun m11 =>
            zl (upd m11 (b + 18) ((m11 (b + 18)) + 1)) fun m13 =>
            zl (upd m13 (b + 23) ((m13 (b + 23)) + 1)) fun m15 =>
            m15
        ) → Z P0 l E0 rm_X10_takesOne S0 M0 G0 B0 T0 K0 3 T A9 Q9 0 0 [(M 0, .inr (10, [.ref (M 1), .int (g 0), .ref (M 2), .int (g 1), .int (g 2), .int (g 3), .int (g 4), .int (g 5), .int (g 6)])), (M 1, .inl (T.2.2.1, 1099, .inl v5)), (M 2, .inl (T.2.2.2, 60, .inl t))] 136 [(0, .ref (M 0)), (1, .int (nI b))] [] := by
      intro v5 ev5
      have zh21 := zl_e zh2 ev5
      refine Z.of (pc' := 137) (fun _ _ _ hl => lv_aload_n hx hb dX10_takesOne_136 rfl (lv_at hl 0 rfl)) ?_
      refine z_get C iX10 0 0 k7 rfl rfl (by decide) rfl rfl dX10_takesOne_137 rfl ?_
      refine Z.of (pc' := 141) (fun _ _ _ hl => lv_iload_n hx hb dX10_takesOne_140 rfl (lv_at hl 1 rfl)) ?_
      refine Z.of (pc' := 143) (fun _ _ _ _ => lv_bipush (v := 19) hx hb dX10_takesOne_141 (by decide)) ?_
      refine Z.of (pc' := 144) (fun _ _ _ hl => lv_iadd hx hb dX10_takesOne_143) ?_
      refine Z.topn (y := nI (b + 19)) (zi_c (zi_add (a := b) (b := 19) (rfl : nI b = nI b) (rfl : (19 : Int32) = nI 19)) (by omega)) ?_
      refine Z.of (pc' := 145) (fun _ _ _ _ => lv_iconst (v := -1) hx hb dX10_takesOne_144 (by decide)) ?_
      refine z_iast C 1 1 rfl rfl (j := b + 19) (rfl : nI (b + 19) = nI (b + 19)) (by omega) (by decide) dX10_takesOne_145 rfl (fun m22 => [(M 0, .inr (10, [.ref (M 1), .int (g 0), .ref (M 2), .int (g 1), .int (g 2), .int (g 3), .int (g 4), .int (g 5), .int (g 6)])), (M 1, .inl (T.2.2.1, 1099, .inl m22)), (M 2, .inl (T.2.2.2, 60, .inl t))]) (fun _ => rfl) (fun m22 em22 => ?_)
      have zh23 := zl_e zh21 em22
      exact E m22 _ _ _ dX10_takesOne_146  rfl zh23
    have zr5 := @Eq.refl ((Nat → Int32)) (
        if (m (b + 19)) = bit then
          zl (upd m (b + 22) ((m (b + 22)) + 1)) fun m19 =>
          m19
        else
          if (m (b + 18)) = 64 then
            zl (upd m (b + 24) ((m (b + 24)) + 1)) fun m17 =>
            m17
          else
            zl (upd m (b + (m (b + 18)).toNatClampNeg + 93) (m (b + 19))) fun m11 =>
            zl (upd m11 (b + 18) ((m11 (b + 18)) + 1)) fun m13 =>
            zl (upd m13 (b + 23) ((m13 (b + 23)) + 1)) fun m15 =>
            m15
        )
    refine Z.two' (pt := 52) (pf := 36) (fun _ _ _ _ => lv_icmp_ne hx hb dX10_takesOne_33 (by decide)) (fun c4 => ?_) (fun c4 => ?_)
    · have zh6 := zr5.trans (if_neg c4)
      refine Z.of (pc' := 53) (fun _ _ _ hl => lv_aload_n hx hb dX10_takesOne_52 rfl (lv_at hl 0 rfl)) ?_
      refine z_get C iX10 0 0 k7 rfl rfl (by decide) rfl rfl dX10_takesOne_53 rfl ?_
      refine Z.of (pc' := 57) (fun _ _ _ hl => lv_iload_n hx hb dX10_takesOne_56 rfl (lv_at hl 1 rfl)) ?_
      refine Z.of (pc' := 59) (fun _ _ _ _ => lv_bipush (v := 18) hx hb dX10_takesOne_57 (by decide)) ?_
      refine Z.of (pc' := 60) (fun _ _ _ hl => lv_iadd hx hb dX10_takesOne_59) ?_
      refine Z.topn (y := nI (b + 18)) (zi_c (zi_add (a := b) (b := 18) (rfl : nI b = nI b) (rfl : (18 : Int32) = nI 18)) (by omega)) ?_
      refine z_iald C 1 1 rfl rfl (j := b + 18) (rfl : nI (b + 18) = nI (b + 18)) (by omega) (by decide) dX10_takesOne_60 rfl ?_
      refine Z.of (pc' := 63) (fun _ _ _ _ => lv_bipush (v := 64) hx hb dX10_takesOne_61 (by decide)) ?_
      refine Z.two' (pt := 82) (pf := 66) (fun _ _ _ _ => lv_icmp_ne hx hb dX10_takesOne_63 (by decide)) (fun c8 => ?_) (fun c8 => ?_)
      · have nc8 : ¬ (((m (b + 18)).toNatClampNeg) = 64) := zf_neq (a := ((m (b + 18)).toNatClampNeg)) (b := 64) hs9 (rfl : (64 : Int32) = nI 64) c8 (by omega) (by omega)
        have zh9 := zh6.trans (if_neg c8)
        refine Z.of (pc' := 83) (fun _ _ _ hl => lv_aload_n hx hb dX10_takesOne_82 rfl (lv_at hl 0 rfl)) ?_
        refine z_get C iX10 0 0 k7 rfl rfl (by decide) rfl rfl dX10_takesOne_83 rfl ?_
        refine Z.of (pc' := 87) (fun _ _ _ hl => lv_iload_n hx hb dX10_takesOne_86 rfl (lv_at hl 1 rfl)) ?_
        refine Z.of (pc' := 89) (fun _ _ _ _ => lv_bipush (v := 93) hx hb dX10_takesOne_87 (by decide)) ?_
        refine Z.of (pc' := 90) (fun _ _ _ hl => lv_iadd hx hb dX10_takesOne_89) ?_
        refine Z.topn (y := nI (b + 93)) (zi_c (zi_add (a := b) (b := 93) (rfl : nI b = nI b) (rfl : (93 : Int32) = nI 93)) (by omega)) ?_
        refine Z.of (pc' := 91) (fun _ _ _ hl => lv_aload_n hx hb dX10_takesOne_90 rfl (lv_at hl 0 rfl)) ?_
        refine z_get C iX10 0 0 k7 rfl rfl (by decide) rfl rfl dX10_takesOne_91 rfl ?_
        refine Z.of (pc' := 95) (fun _ _ _ hl => lv_iload_n hx hb dX10_takesOne_94 rfl (lv_at hl 1 rfl)) ?_
        refine Z.of (pc' := 97) (fun _ _ _ _ => lv_bipush (v := 18) hx hb dX10_takesOne_95 (by decide)) ?_
        refine Z.of (pc' := 98) (fun _ _ _ hl => lv_iadd hx hb dX10_takesOne_97) ?_
        refine Z.topn (y := nI (b + 18)) (zi_c (zi_add (a := b) (b := 18) (rfl : nI b = nI b) (rfl : (18 : Int32) = nI 18)) (by omega)) ?_
        refine z_iald C 1 1 rfl rfl (j := b + 18) (rfl : nI (b + 18) = nI (b + 18)) (by omega) (by decide) dX10_takesOne_98 rfl ?_
        refine Z.of (pc' := 100) (fun _ _ _ hl => lv_iadd hx hb dX10_takesOne_99) ?_
        refine Z.topn (y := nI (b + (m (b + 18)).toNatClampNeg + 93)) (zi_c (zi_add (a := b + 93) (b := (m (b + 18)).toNatClampNeg) (rfl : nI (b + 93) = nI (b + 93)) hs9) (by omega)) ?_
        refine Z.of (pc' := 101) (fun _ _ _ hl => lv_aload_n hx hb dX10_takesOne_100 rfl (lv_at hl 0 rfl)) ?_
        refine z_get C iX10 0 0 k7 rfl rfl (by decide) rfl rfl dX10_takesOne_101 rfl ?_
        refine Z.of (pc' := 105) (fun _ _ _ hl => lv_iload_n hx hb dX10_takesOne_104 rfl (lv_at hl 1 rfl)) ?_
        refine Z.of (pc' := 107) (fun _ _ _ _ => lv_bipush (v := 19) hx hb dX10_takesOne_105 (by decide)) ?_
        refine Z.of (pc' := 108) (fun _ _ _ hl => lv_iadd hx hb dX10_takesOne_107) ?_
        refine Z.topn (y := nI (b + 19)) (zi_c (zi_add (a := b) (b := 19) (rfl : nI b = nI b) (rfl : (19 : Int32) = nI 19)) (by omega)) ?_
        refine z_iald C 1 1 rfl rfl (j := b + 19) (rfl : nI (b + 19) = nI (b + 19)) (by omega) (by decide) dX10_takesOne_108 rfl ?_
        refine z_iast C 1 1 rfl rfl (j := b + (m (b + 18)).toNatClampNeg + 93) (rfl : nI (b + (m (b + 18)).toNatClampNeg + 93) = nI (b + (m (b + 18)).toNatClampNeg + 93)) (by omega) (by decide) dX10_takesOne_109 rfl (fun m11 => [(M 0, .inr (10, [.ref (M 1), .int (g 0), .ref (M 2), .int (g 1), .int (g 2), .int (g 3), .int (g 4), .int (g 5), .int (g 6)])), (M 1, .inl (T.2.2.1, 1099, .inl m11)), (M 2, .inl (T.2.2.2, 60, .inl t))]) (fun _ => rfl) (fun m11 em11 => ?_)
        have zh12 := zl_e zh9 em11
        refine Z.of (pc' := 111) (fun _ _ _ hl => lv_aload_n hx hb dX10_takesOne_110 rfl (lv_at hl 0 rfl)) ?_
        refine z_get C iX10 0 0 k7 rfl rfl (by decide) rfl rfl dX10_takesOne_111 rfl ?_
        refine Z.of (pc' := 115) (fun _ _ _ hl => lv_iload_n hx hb dX10_takesOne_114 rfl (lv_at hl 1 rfl)) ?_
        refine Z.of (pc' := 117) (fun _ _ _ _ => lv_bipush (v := 18) hx hb dX10_takesOne_115 (by decide)) ?_
        refine Z.of (pc' := 118) (fun _ _ _ hl => lv_iadd hx hb dX10_takesOne_117) ?_
        refine Z.topn (y := nI (b + 18)) (zi_c (zi_add (a := b) (b := 18) (rfl : nI b = nI b) (rfl : (18 : Int32) = nI 18)) (by omega)) ?_
        refine Z.of (pc' := 119) (fun _ _ _ hl => lv_dup2_11 hx hb dX10_takesOne_118 rfl rfl) ?_
        refine z_iald C 1 1 rfl rfl (j := b + 18) (rfl : nI (b + 18) = nI (b + 18)) (by omega) (by decide) dX10_takesOne_119 rfl ?_
        refine Z.of (pc' := 121) (fun _ _ _ _ => lv_iconst (v := 1) hx hb dX10_takesOne_120 (by decide)) ?_
        refine Z.of (pc' := 122) (fun _ _ _ hl => lv_iadd hx hb dX10_takesOne_121) ?_
        refine z_iast C 1 1 rfl rfl (j := b + 18) (rfl : nI (b + 18) = nI (b + 18)) (by omega) (by decide) dX10_takesOne_122 rfl (fun m13 => [(M 0, .inr (10, [.ref (M 1), .int (g 0), .ref (M 2), .int (g 1), .int (g 2), .int (g 3), .int (g 4), .int (g 5), .int (g 6)])), (M 1, .inl (T.2.2.1, 1099, .inl m13)), (M 2, .inl (T.2.2.2, 60, .inl t))]) (fun _ => rfl) (fun m13 em13 => ?_)
        have zh14 := zl_e zh12 em13
        refine Z.of (pc' := 124) (fun _ _ _ hl => lv_aload_n hx hb dX10_takesOne_123 rfl (lv_at hl 0 rfl)) ?_
        refine z_get C iX10 0 0 k7 rfl rfl (by decide) rfl rfl dX10_takesOne_124 rfl ?_
        refine Z.of (pc' := 128) (fun _ _ _ hl => lv_iload_n hx hb dX10_takesOne_127 rfl (lv_at hl 1 rfl)) ?_
        refine Z.of (pc' := 130) (fun _ _ _ _ => lv_bipush (v := 23) hx hb dX10_takesOne_128 (by decide)) ?_
        refine Z.of (pc' := 131) (fun _ _ _ hl => lv_iadd hx hb dX10_takesOne_130) ?_
        refine Z.topn (y := nI (b + 23)) (zi_c (zi_add (a := b) (b := 23) (rfl : nI b = nI b) (rfl : (23 : Int32) = nI 23)) (by omega)) ?_
        refine Z.of (pc' := 132) (fun _ _ _ hl => lv_dup2_11 hx hb dX10_takesOne_131 rfl rfl) ?_
        refine z_iald C 1 1 rfl rfl (j := b + 23) (rfl : nI (b + 23) = nI (b + 23)) (by omega) (by decide) dX10_takesOne_132 rfl ?_
        refine Z.of (pc' := 134) (fun _ _ _ _ => lv_iconst (v := 1) hx hb dX10_takesOne_133 (by decide)) ?_
        refine Z.of (pc' := 135) (fun _ _ _ hl => lv_iadd hx hb dX10_takesOne_134) ?_
        refine z_iast C 1 1 rfl rfl (j := b + 23) (rfl : nI (b + 23) = nI (b + 23)) (by omega) (by decide) dX10_takesOne_135 rfl (fun m15 => [(M 0, .inr (10, [.ref (M 1), .int (g 0), .ref (M 2), .int (g 1), .int (g 2), .int (g 3), .int (g 4), .int (g 5), .int (g 6)])), (M 1, .inl (T.2.2.1, 1099, .inl m15)), (M 2, .inl (T.2.2.2, 60, .inl t))]) (fun _ => rfl) (fun m15 em15 => ?_)
        have zh16 := zl_e zh14 em15
        exact Z.sub (ks := [0, 1]) (lv' := [(0, .ref (M 0)), (1, .int (nI b))]) rfl (J5 m15 zh16.symm)
      · have nc8 : ((m (b + 18)).toNatClampNeg) = 64 := zf_eq (a := ((m (b + 18)).toNatClampNeg)) (b := 64) hs9 (rfl : (64 : Int32) = nI 64) c8 (by omega) (by omega)
        have zh10 := zh6.trans (if_pos c8)
        refine Z.of (pc' := 67) (fun _ _ _ hl => lv_aload_n hx hb dX10_takesOne_66 rfl (lv_at hl 0 rfl)) ?_
        refine z_get C iX10 0 0 k7 rfl rfl (by decide) rfl rfl dX10_takesOne_67 rfl ?_
        refine Z.of (pc' := 71) (fun _ _ _ hl => lv_iload_n hx hb dX10_takesOne_70 rfl (lv_at hl 1 rfl)) ?_
        refine Z.of (pc' := 73) (fun _ _ _ _ => lv_bipush (v := 24) hx hb dX10_takesOne_71 (by decide)) ?_
        refine Z.of (pc' := 74) (fun _ _ _ hl => lv_iadd hx hb dX10_takesOne_73) ?_
        refine Z.topn (y := nI (b + 24)) (zi_c (zi_add (a := b) (b := 24) (rfl : nI b = nI b) (rfl : (24 : Int32) = nI 24)) (by omega)) ?_
        refine Z.of (pc' := 75) (fun _ _ _ hl => lv_dup2_11 hx hb dX10_takesOne_74 rfl rfl) ?_
        refine z_iald C 1 1 rfl rfl (j := b + 24) (rfl : nI (b + 24) = nI (b + 24)) (by omega) (by decide) dX10_takesOne_75 rfl ?_
        refine Z.of (pc' := 77) (fun _ _ _ _ => lv_iconst (v := 1) hx hb dX10_takesOne_76 (by decide)) ?_
        refine Z.of (pc' := 78) (fun _ _ _ hl => lv_iadd hx hb dX10_takesOne_77) ?_
        refine z_iast C 1 1 rfl rfl (j := b + 24) (rfl : nI (b + 24) = nI (b + 24)) (by omega) (by decide) dX10_takesOne_78 rfl (fun m17 => [(M 0, .inr (10, [.ref (M 1), .int (g 0), .ref (M 2), .int (g 1), .int (g 2), .int (g 3), .int (g 4), .int (g 5), .int (g 6)])), (M 1, .inl (T.2.2.1, 1099, .inl m17)), (M 2, .inl (T.2.2.2, 60, .inl t))]) (fun _ => rfl) (fun m17 em17 => ?_)
        have zh18 := zl_e zh10 em17
        refine Z.of (pc' := 136) (fun _ _ _ _ => lv_goto hx hb dX10_takesOne_79 (by decide)) ?_
        exact Z.sub (ks := [0, 1]) (lv' := [(0, .ref (M 0)), (1, .int (nI b))]) rfl (J5 m17 zh18.symm)
    · have zh7 := zr5.trans (if_pos c4)
      refine Z.of (pc' := 37) (fun _ _ _ hl => lv_aload_n hx hb dX10_takesOne_36 rfl (lv_at hl 0 rfl)) ?_
      refine z_get C iX10 0 0 k7 rfl rfl (by decide) rfl rfl dX10_takesOne_37 rfl ?_
      refine Z.of (pc' := 41) (fun _ _ _ hl => lv_iload_n hx hb dX10_takesOne_40 rfl (lv_at hl 1 rfl)) ?_
      refine Z.of (pc' := 43) (fun _ _ _ _ => lv_bipush (v := 22) hx hb dX10_takesOne_41 (by decide)) ?_
      refine Z.of (pc' := 44) (fun _ _ _ hl => lv_iadd hx hb dX10_takesOne_43) ?_
      refine Z.topn (y := nI (b + 22)) (zi_c (zi_add (a := b) (b := 22) (rfl : nI b = nI b) (rfl : (22 : Int32) = nI 22)) (by omega)) ?_
      refine Z.of (pc' := 45) (fun _ _ _ hl => lv_dup2_11 hx hb dX10_takesOne_44 rfl rfl) ?_
      refine z_iald C 1 1 rfl rfl (j := b + 22) (rfl : nI (b + 22) = nI (b + 22)) (by omega) (by decide) dX10_takesOne_45 rfl ?_
      refine Z.of (pc' := 47) (fun _ _ _ _ => lv_iconst (v := 1) hx hb dX10_takesOne_46 (by decide)) ?_
      refine Z.of (pc' := 48) (fun _ _ _ hl => lv_iadd hx hb dX10_takesOne_47) ?_
      refine z_iast C 1 1 rfl rfl (j := b + 22) (rfl : nI (b + 22) = nI (b + 22)) (by omega) (by decide) dX10_takesOne_48 rfl (fun m19 => [(M 0, .inr (10, [.ref (M 1), .int (g 0), .ref (M 2), .int (g 1), .int (g 2), .int (g 3), .int (g 4), .int (g 5), .int (g 6)])), (M 1, .inl (T.2.2.1, 1099, .inl m19)), (M 2, .inl (T.2.2.2, 60, .inl t))]) (fun _ => rfl) (fun m19 em19 => ?_)
      have zh20 := zl_e zh7 em19
      refine Z.of (pc' := 136) (fun _ _ _ _ => lv_goto hx hb dX10_takesOne_49 (by decide)) ?_
      exact Z.sub (ks := [0, 1]) (lv' := [(0, .ref (M 0)), (1, .int (nI b))]) rfl (J5 m19 zh20.symm)
  · have zh3 := zh0.trans (if_neg c1)
    refine Z.of (pc' := 13) (fun _ _ _ hl => lv_aload_n hx hb dX10_takesOne_12 rfl (lv_at hl 0 rfl)) ?_
    refine z_get C iX10 0 0 k7 rfl rfl (by decide) rfl rfl dX10_takesOne_13 rfl ?_
    refine Z.of (pc' := 17) (fun _ _ _ hl => lv_iload_n hx hb dX10_takesOne_16 rfl (lv_at hl 1 rfl)) ?_
    refine Z.of (pc' := 19) (fun _ _ _ _ => lv_bipush (v := 19) hx hb dX10_takesOne_17 (by decide)) ?_
    refine Z.of (pc' := 20) (fun _ _ _ hl => lv_iadd hx hb dX10_takesOne_19) ?_
    refine Z.topn (y := nI (b + 19)) (zi_c (zi_add (a := b) (b := 19) (rfl : nI b = nI b) (rfl : (19 : Int32) = nI 19)) (by omega)) ?_
    refine Z.of (pc' := 21) (fun _ _ _ hl => lv_iload_n hx hb dX10_takesOne_20 rfl (lv_at hl 2 rfl)) ?_
    refine z_iast C 1 1 rfl rfl (j := b + 19) (rfl : nI (b + 19) = nI (b + 19)) (by omega) (by decide) dX10_takesOne_21 rfl (fun m24 => [(M 0, .inr (10, [.ref (M 1), .int (g 0), .ref (M 2), .int (g 1), .int (g 2), .int (g 3), .int (g 4), .int (g 5), .int (g 6)])), (M 1, .inl (T.2.2.1, 1099, .inl m24)), (M 2, .inl (T.2.2.2, 60, .inl t))]) (fun _ => rfl) (fun m24 em24 => ?_)
    have zh25 := zl_e zh3 em24
    exact E m24 _ _ _ dX10_takesOne_22  rfl zh25
