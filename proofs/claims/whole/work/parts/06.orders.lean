theorem znr_step {k q : Nat} {b x : Int32} (h : k ≤ 3 ∧ k + (q + 1) = 5 ∧ x = b + nI k) (c : ¬ (3 ≤ x - b)) : k + 1 ≤ 3 ∧ k + 1 + q = 5 ∧ x + 1 = b + nI (k + 1) := by
  obtain ⟨h1, h2, rfl⟩ := h
  rw [Int32.add_comm b, Int32.add_sub_cancel] at c
  have h3 : ¬ 3 ≤ k := fun h => c ((nI_leI (a := 3) (by decide) (by omega)).mpr h)
  refine ⟨by omega, by omega, ?_⟩
  rw [Int32.add_assoc, nI_1]
theorem zad_step {k q : Nat} {x y : Int32} (h : k ≤ 60 ∧ k + (q + 1) = 62 ∧ x = nI k) (c : ¬ (60 ≤ x)) (e : y = x) : k + 1 ≤ 60 ∧ k + 1 + q = 62 ∧ y + 1 = nI (k + 1) := by
  obtain ⟨h1, h2, rfl⟩ := h
  have h3 : ¬ 60 ≤ k := fun h => c ((nI_leI (a := 60) (by decide) (by omega)).mpr h)
  refine ⟨by omega, by omega, ?_⟩
  rw [e, nI_1]
def f_X8_append (n : Int32) (t : Nat → Int32) (ch : Int32) : Int32 × Int32 × (Nat → Int32) :=
  zl (f_X9_isWithin ch 32 126) fun u1 =>
  if u1 = 0 then
    ((-1000001), n, t)
  else
    zl (f_X9_isWithin n 0 59) fun u6 =>
    if u6 = 0 then
      ((-1000003), n, t)
    else
      zl (upd t n.toNatClampNeg (vp_nar .char ((ch.toUInt32 % 65536).toInt32))) fun m11 =>
      (n + 1, n + 1, m11)
theorem fe_X8_append (n : Int32) (t : Nat → Int32) (ch : Int32) : f_X8_append n t ch = (
    zl (f_X9_isWithin ch 32 126) fun u1 =>
    if u1 = 0 then
      ((-1000001), n, t)
    else
      zl (f_X9_isWithin n 0 59) fun u6 =>
      if u6 = 0 then
        ((-1000003), n, t)
      else
        zl (upd t n.toNatClampNeg (vp_nar .char ((ch.toUInt32 % 65536).toInt32))) fun m11 =>
        (n + 1, n + 1, m11)
    ) := rfl
abbrev rm_X8_append : Room := { frames := 1, cells := 0, slots := 0, locals := 22 }
set_option maxHeartbeats 1000000 in
set_option maxRecDepth 100000 in
theorem c_X8_append (l : Launch) (T : zT) (a : Nat) (ca : Nat) (n : Int32) (t : Nat → Int32) (ch : Int32) : Ci l yX8_append wsX8_append rm_X8_append T .int [.ref a, .int ch] [(a, .inr (8, [.ref ca, .int n])), (ca, .inl (T.2.1, 60, .inl t))] (S := Int32 × Int32 × (Nat → Int32)) (f_X8_append n t ch) (fun u => u.1) (fun u => [(a, .inr (8, [.ref ca, .int u.2.1])), (ca, .inl (T.2.1, 60, .inl u.2.2))]) := by
  refine z_metI (own := RX8) (maxL := 2) rfl (by decide) rfl (Nat.le_of_ble_eq_true rfl) ?_
  intro P0 E0 S0 M0 G0 B0 T0 K0 A9 Q9 C E
  have hx := C.1.1
  have hb := C.1.2.1
  have hown := C.1.2.2.2.1
  have hts := C.1.2.2.2.2
  have hn := C.2.1.2
  have iX8 : ∀ w ∈ u_ws RX8 TX8 2, w ∈ wsX8_append := by decide +kernel
  have k11 := hts (.fieldLink RX8 11 "JudgedBits$Text" "characters" "[C") (by decide +kernel)
  have k15 := hts (.fieldLink RX8 15 "JudgedBits$Text" "length" "I") (by decide +kernel)
  change Z P0 l E0 rm_X8_append S0 M0 G0 B0 T0 K0 2 T A9 Q9 0 0 [(a, .inr (8, [.ref ca, .int n])), (ca, .inl (T.2.1, 60, .inl t))] 0 [(0, .ref a), (1, .int ch)] []
  have zh0 := fe_X8_append n t ch
  refine Z.of (pc' := 1) (fun _ _ _ hl => lv_iload_n hx hb dX8_append_0 rfl (lv_at hl 1 rfl)) ?_
  refine Z.of (pc' := 3) (fun _ _ _ _ => lv_bipush (v := 32) hx hb dX8_append_1 (by decide)) ?_
  refine Z.of (pc' := 5) (fun _ _ _ _ => lv_bipush (v := 126) hx hb dX8_append_3 (by decide)) ?_
  refine z_callNi C (c_X9_isWithin l T ch 32 126) ⟨va_cnB 3 hts gX8_append_X9_isWithin_n19 rfl rfl rfl (hn.2.2.2.2.2.2.2.2.2) (hts (.initialized RX9) (by decide +kernel)) (by decide +kernel) ⟨Nat.le_of_ble_eq_true rfl, Nat.le_of_ble_eq_true rfl⟩, hts (.static yX9_isWithin) (by decide +kernel), trivial⟩ (As := [.int ch, .int 32, .int 126]) (rest := []) rfl rfl (Nat.le_of_ble_eq_true rfl) dX8_append_5 rfl ⟨Nat.zero_le _, Nat.zero_le _⟩ (fun u1 eu1 bu1 => ?_)
  have zh2 := zl_e zh0 eu1
  refine Z.two' (pt := 14) (pf := 11) (fun _ _ _ _ => lv_if_ne hx hb dX8_append_8 (by decide)) (fun c3 => ?_) (fun c3 => ?_)
  · have zh4 := zh2.trans (if_neg c3)
    refine Z.of (pc' := 15) (fun _ _ _ hl => lv_aload_n hx hb dX8_append_14 rfl (lv_at hl 0 rfl)) ?_
    refine z_get C iX8 0 1 k15 rfl rfl (by decide) rfl rfl dX8_append_15 rfl ?_
    refine Z.of (pc' := 19) (fun _ _ _ _ => lv_iconst (v := 0) hx hb dX8_append_18 (by decide)) ?_
    refine Z.of (pc' := 20) (fun _ _ _ hl => lv_aload_n hx hb dX8_append_19 rfl (lv_at hl 0 rfl)) ?_
    refine z_get C iX8 0 0 k11 rfl rfl (by decide) rfl rfl dX8_append_20 rfl ?_
    refine z_alen C 1 0 rfl rfl (v := 60) rfl dX8_append_23 rfl ?_
    refine Z.of (pc' := 25) (fun _ _ _ _ => lv_iconst (v := 1) hx hb dX8_append_24 (by decide)) ?_
    refine Z.of (pc' := 26) (fun _ _ _ hl => lv_isub hx hb dX8_append_25) ?_
    refine Z.topn (y := 59) (by decide) ?_
    refine z_callNi C (c_X9_isWithin l T n 0 59) ⟨va_cnB 3 hts gX8_append_X9_isWithin_n19 rfl rfl rfl (hn.2.2.2.2.2.2.2.2.2) (hts (.initialized RX9) (by decide +kernel)) (by decide +kernel) ⟨Nat.le_of_ble_eq_true rfl, Nat.le_of_ble_eq_true rfl⟩, hts (.static yX9_isWithin) (by decide +kernel), trivial⟩ (As := [.int n, .int 0, .int 59]) (rest := []) rfl rfl (Nat.le_of_ble_eq_true rfl) dX8_append_26 rfl ⟨Nat.zero_le _, Nat.zero_le _⟩ (fun u6 eu6 bu6 => ?_)
    have zh7 := zl_e zh4 eu6
    refine Z.two' (pt := 35) (pf := 32) (fun _ _ _ _ => lv_if_ne hx hb dX8_append_29 (by decide)) (fun c8 => ?_) (fun c8 => ?_)
    · have zh9 := zh7.trans (if_neg c8)
      refine Z.of (pc' := 36) (fun _ _ _ hl => lv_aload_n hx hb dX8_append_35 rfl (lv_at hl 0 rfl)) ?_
      refine z_get C iX8 0 0 k11 rfl rfl (by decide) rfl rfl dX8_append_36 rfl ?_
      refine Z.of (pc' := 40) (fun _ _ _ hl => lv_aload_n hx hb dX8_append_39 rfl (lv_at hl 0 rfl)) ?_
      refine z_get C iX8 0 1 k15 rfl rfl (by decide) rfl rfl dX8_append_40 rfl ?_
      refine Z.of (pc' := 44) (fun _ _ _ hl => lv_iload_n hx hb dX8_append_43 rfl (lv_at hl 1 rfl)) ?_
      refine Z.of (pc' := 45) (fun _ _ _ hl => lv_i2c hx hb dX8_append_44 rfl) ?_
      have hix := zix_of (N := 59) (zwithin_of eu6 c8) (by decide)
      refine z_cast C 1 0 rfl rfl (j := n.toNatClampNeg) hix.1 hix.2 (by decide) dX8_append_45 rfl (fun m11 => [(a, .inr (8, [.ref ca, .int n])), (ca, .inl (T.2.1, 60, .inl m11))]) (fun _ => rfl) (fun m11 em11 => ?_)
      have zh12 := zl_e zh9 em11
      refine Z.of (pc' := 47) (fun _ _ _ hl => lv_aload_n hx hb dX8_append_46 rfl (lv_at hl 0 rfl)) ?_
      refine Z.of (pc' := 48) (fun _ _ _ hl => lv_dup hx hb dX8_append_47 rfl) ?_
      refine z_get C iX8 0 1 k15 rfl rfl (by decide) rfl rfl dX8_append_48 rfl ?_
      refine Z.of (pc' := 52) (fun _ _ _ _ => lv_iconst (v := 1) hx hb dX8_append_51 (by decide)) ?_
      refine Z.of (pc' := 53) (fun _ _ _ hl => lv_iadd hx hb dX8_append_52) ?_
      refine z_put C iX8 tyX8_ok nmX8 0 1 k15 rfl rfl (by decide) rfl rfl rfl rfl (Nat.le_of_ble_eq_true rfl) dX8_append_53 rfl [(a, .inr (8, [.ref ca, .int (n + 1)])), (ca, .inl (T.2.1, 60, .inl m11))] rfl ?_
      refine Z.of (pc' := 57) (fun _ _ _ hl => lv_aload_n hx hb dX8_append_56 rfl (lv_at hl 0 rfl)) ?_
      refine z_get C iX8 0 1 k15 rfl rfl (by decide) rfl rfl dX8_append_57 rfl ?_
      exact E (n + 1, n + 1, m11) _ _ _ _ dX8_append_60 rfl rfl rfl zh12
    · have zh10 := zh7.trans (if_pos c8)
      refine Z.of (pc' := 34) (fun _ _ _ _ => lv_ldc hx hb hown (hts (.constant RX8 24 (-1000003)) (by decide +kernel)) dX8_append_32) ?_
      exact E ((-1000003), n, t) _ _ _ _ dX8_append_34 rfl rfl rfl zh10
  · have zh5 := zh2.trans (if_pos c3)
    refine Z.of (pc' := 13) (fun _ _ _ _ => lv_ldc hx hb hown (hts (.constant RX8 23 (-1000001)) (by decide +kernel)) dX8_append_11) ?_
    exact E ((-1000001), n, t) _ _ _ _ dX8_append_13 rfl rfl rfl zh5
abbrev rm_X8_clear : Room := { frames := 0, cells := 0, slots := 0, locals := 0 }
set_option maxHeartbeats 1000000 in
set_option maxRecDepth 100000 in
theorem c_X8_clear (l : Launch) (T : zT) (a : Nat) (ca : Nat) (n : Int32) (t : Nat → Int32) : Ci l yX8_clear wsX8_clear rm_X8_clear T .int [.ref a] [(a, .inr (8, [.ref ca, .int n])), (ca, .inl (T.2.1, 60, .inl t))] (S := Unit) () (fun u => n) (fun u => [(a, .inr (8, [.ref ca, .int 0])), (ca, .inl (T.2.1, 60, .inl t))]) := by
  refine z_metI (own := RX8) (maxL := 2) rfl (by decide) rfl (Nat.le_of_ble_eq_true rfl) ?_
  intro P0 E0 S0 M0 G0 B0 T0 K0 A9 Q9 C E
  have hx := C.1.1
  have hb := C.1.2.1
  have hown := C.1.2.2.2.1
  have hts := C.1.2.2.2.2
  have hn := C.2.1.2
  have iX8 : ∀ w ∈ u_ws RX8 TX8 2, w ∈ wsX8_clear := by decide +kernel
  have k15 := hts (.fieldLink RX8 15 "JudgedBits$Text" "length" "I") (by decide +kernel)
  change Z P0 l E0 rm_X8_clear S0 M0 G0 B0 T0 K0 2 T A9 Q9 0 0 [(a, .inr (8, [.ref ca, .int n])), (ca, .inl (T.2.1, 60, .inl t))] 0 [(0, .ref a)] []
  refine Z.of (pc' := 1) (fun _ _ _ hl => lv_aload_n hx hb dX8_clear_0 rfl (lv_at hl 0 rfl)) ?_
  refine z_get C iX8 0 1 k15 rfl rfl (by decide) rfl rfl dX8_clear_1 rfl ?_
  refine Z.sto (pc' := 5) (lv' := [(1, .int n), (0, .ref a)]) (fun _ _ _ hl => lv_istore_n (lv' := [(1, .int n), (0, .ref a)]) hx hb dX8_clear_4 rfl hl (by decide) rfl) ?_
  refine Z.of (pc' := 6) (fun _ _ _ hl => lv_aload_n hx hb dX8_clear_5 rfl (lv_at hl 1 rfl)) ?_
  refine Z.of (pc' := 7) (fun _ _ _ _ => lv_iconst (v := 0) hx hb dX8_clear_6 (by decide)) ?_
  refine z_put C iX8 tyX8_ok nmX8 0 1 k15 rfl rfl (by decide) rfl rfl rfl rfl (Nat.le_of_ble_eq_true rfl) dX8_clear_7 rfl [(a, .inr (8, [.ref ca, .int 0])), (ca, .inl (T.2.1, 60, .inl t))] rfl ?_
  refine Z.of (pc' := 11) (fun _ _ _ hl => lv_iload_n hx hb dX8_clear_10 rfl (lv_at hl 0 rfl)) ?_
  exact E () _ _ _ _ dX8_clear_11 rfl rfl rfl rfl
def f_X8_at (n : Int32) (t : Nat → Int32) (pos : Int32) : Int32 :=
  zl (if 60 < n then 60 else n : Int32) fun y1 =>
  zl (f_X9_isWithin pos 0 (y1 - 1)) fun u3 =>
  if u3 = 0 then
    0
  else
    (t pos.toNatClampNeg)
theorem fe_X8_at (n : Int32) (t : Nat → Int32) (pos : Int32) : f_X8_at n t pos = (
    zl (if 60 < n then 60 else n : Int32) fun y1 =>
    zl (f_X9_isWithin pos 0 (y1 - 1)) fun u3 =>
    if u3 = 0 then
      0
    else
      (t pos.toNatClampNeg)
    ) := rfl
abbrev rm_X8_at : Room := { frames := 1, cells := 0, slots := 0, locals := 24 }
set_option maxHeartbeats 1000000 in
set_option maxRecDepth 100000 in
theorem c_X8_at (l : Launch) (T : zT) (a : Nat) (ca : Nat) (n : Int32) (t : Nat → Int32) (pos : Int32) (hn0 : 0 ≤ n) (ht : ∀ j : Nat, narrow .char (.int (t j)) = .int (t j)) : Ci l yX8_at wsX8_at rm_X8_at T .char [.ref a, .int pos] [(a, .inr (8, [.ref ca, .int n])), (ca, .inl (T.2.1, 60, .inl t))] (S := Int32) (f_X8_at n t pos) (fun u => u) (fun u => [(a, .inr (8, [.ref ca, .int n])), (ca, .inl (T.2.1, 60, .inl t))]) := by
  refine z_metI (own := RX8) (maxL := 2) rfl (by decide) rfl (Nat.le_of_ble_eq_true rfl) ?_
  intro P0 E0 S0 M0 G0 B0 T0 K0 A9 Q9 C E
  have hx := C.1.1
  have hb := C.1.2.1
  have hown := C.1.2.2.2.1
  have hts := C.1.2.2.2.2
  have hn := C.2.1.2
  have iX8 : ∀ w ∈ u_ws RX8 TX8 2, w ∈ wsX8_at := by decide +kernel
  have k11 := hts (.fieldLink RX8 11 "JudgedBits$Text" "characters" "[C") (by decide +kernel)
  have k15 := hts (.fieldLink RX8 15 "JudgedBits$Text" "length" "I") (by decide +kernel)
  change Z P0 l E0 rm_X8_at S0 M0 G0 B0 T0 K0 2 T A9 Q9 0 0 [(a, .inr (8, [.ref ca, .int n])), (ca, .inl (T.2.1, 60, .inl t))] 0 [(0, .ref a), (1, .int pos)] []
  have zh0 := fe_X8_at n t pos
  refine Z.of (pc' := 1) (fun _ _ _ hl => lv_iload_n hx hb dX8_at_0 rfl (lv_at hl 1 rfl)) ?_
  refine Z.of (pc' := 2) (fun _ _ _ _ => lv_iconst (v := 0) hx hb dX8_at_1 (by decide)) ?_
  refine Z.of (pc' := 3) (fun _ _ _ hl => lv_aload_n hx hb dX8_at_2 rfl (lv_at hl 0 rfl)) ?_
  refine z_get C iX8 0 1 k15 rfl rfl (by decide) rfl rfl dX8_at_3 rfl ?_
  refine Z.of (pc' := 7) (fun _ _ _ hl => lv_aload_n hx hb dX8_at_6 rfl (lv_at hl 0 rfl)) ?_
  refine z_get C iX8 0 0 k11 rfl rfl (by decide) rfl rfl dX8_at_7 rfl ?_
  refine z_alen C 1 0 rfl rfl (v := 60) rfl dX8_at_10 rfl ?_
  refine Z.of (pc' := 14) (fun _ _ _ hl => va_mmin hx hb (C.1.2.2.1.trans hl.1.symm) hown (hts (.methodLink RX8 25 Lib.Math.min.name) (by decide +kernel)) (hts (.static Lib.Math.min.name) (by decide +kernel)) (hts (.initialized "java/lang/Math") (by decide +kernel)) (hts (.code Lib.Math.min.name Lib.Math.min.code 2 (some .int)) (by decide +kernel)) (Nat.le_of_ble_eq_true rfl) (Nat.le_of_ble_eq_true rfl) (Nat.zero_le _) (Nat.zero_le _) dX8_at_11) ?_
  refine Z.topi (fun y1 ey1 => ?_)
  have zh2 := zl_e zh0 ey1
  refine Z.of (pc' := 15) (fun _ _ _ _ => lv_iconst (v := 1) hx hb dX8_at_14 (by decide)) ?_
  refine Z.of (pc' := 16) (fun _ _ _ hl => lv_isub hx hb dX8_at_15) ?_
  refine z_callNi C (c_X9_isWithin l T pos 0 (y1 - 1)) ⟨va_cnB 3 hts gX8_at_X9_isWithin_n19 rfl rfl rfl (hn.2.2.2.2.2.2.2.2.2) (hts (.initialized RX9) (by decide +kernel)) (by decide +kernel) ⟨Nat.le_of_ble_eq_true rfl, Nat.le_of_ble_eq_true rfl⟩, hts (.static yX9_isWithin) (by decide +kernel), trivial⟩ (As := [.int pos, .int 0, .int (y1 - 1)]) (rest := []) rfl rfl (Nat.le_of_ble_eq_true rfl) dX8_at_16 rfl ⟨Nat.zero_le _, Nat.zero_le _⟩ (fun u3 eu3 bu3 => ?_)
  have zh4 := zl_e zh2 eu3
  refine Z.two (pt := 31) (pf := 22) (fun _ _ _ _ => lv_if_eq hx hb dX8_at_19 (by decide)) (fun c5 => ?_) (fun c5 => ?_)
  · have zh6 := zh4.trans (if_pos c5)
    refine Z.of (pc' := 32) (fun _ _ _ _ => lv_iconst (v := 0) hx hb dX8_at_31 (by decide)) ?_
    exact E 0 _ _ _ _ dX8_at_32 rfl rfl rfl zh6
  · have zh7 := zh4.trans (if_neg c5)
    refine Z.of (pc' := 23) (fun _ _ _ hl => lv_aload_n hx hb dX8_at_22 rfl (lv_at hl 0 rfl)) ?_
    refine z_get C iX8 0 0 k11 rfl rfl (by decide) rfl rfl dX8_at_23 rfl ?_
    refine Z.of (pc' := 27) (fun _ _ _ hl => lv_iload_n hx hb dX8_at_26 rfl (lv_at hl 1 rfl)) ?_
    have hix := zix_at hn0 ey1 (zwithin_of eu3 c5)
    refine z_cald C 1 0 rfl rfl (j := pos.toNatClampNeg) hix.1 hix.2 (by decide) dX8_at_27 rfl ?_
    refine Z.of (pc' := 32) (fun _ _ _ _ => lv_goto hx hb dX8_at_28 (by decide)) ?_
    exact E (t pos.toNatClampNeg) _ _ _ _ dX8_at_32 (ht _) rfl rfl zh7
def f_X3_isSkipped (o : Nat → Int32) (n : Int32) (t : Nat → Int32) (wanted : Int32) : Int32 × (Nat → Int32) :=
  zl (f_X8_at n t (o 1)) fun u1 =>
  if u1 = wanted then
    (1, upd o 1 ((o 1) + 1))
  else
    (0, o)
theorem fe_X3_isSkipped (o : Nat → Int32) (n : Int32) (t : Nat → Int32) (wanted : Int32) : f_X3_isSkipped o n t wanted = (
    zl (f_X8_at n t (o 1)) fun u1 =>
    if u1 = wanted then
      (1, upd o 1 ((o 1) + 1))
    else
      (0, o)
    ) := rfl
abbrev rm_X3_isSkipped : Room := { frames := 2, cells := 0, slots := 0, locals := 45 }
set_option maxHeartbeats 1000000 in
set_option maxRecDepth 100000 in
theorem c_X3_isSkipped (l : Launch) (T : zT) (O : Nat → Nat) (o : Nat → Int32) (n : Int32) (t : Nat → Int32) (wanted : Int32) (hn0 : 0 ≤ n) (ht : ∀ j : Nat, narrow .char (.int (t j)) = .int (t j)) : Ci l yX3_isSkipped wsX3_isSkipped rm_X3_isSkipped T .boolean [.ref (O 0), .int wanted] [(O 0, .inr (3, [.ref (O 1), .int (o 0), .int (o 1), .int (o 2), .int (o 3), .int (o 4), .int (o 5), .int (o 6), .int (o 7), .int (o 8)])), (O 1, .inr (8, [.ref (O 2), .int n])), (O 2, .inl (T.2.1, 60, .inl t))] (S := Int32 × (Nat → Int32)) (f_X3_isSkipped o n t wanted) (fun u => u.1) (fun u => [(O 0, .inr (3, [.ref (O 1), .int (u.2 0), .int (u.2 1), .int (u.2 2), .int (u.2 3), .int (u.2 4), .int (u.2 5), .int (u.2 6), .int (u.2 7), .int (u.2 8)])), (O 1, .inr (8, [.ref (O 2), .int n])), (O 2, .inl (T.2.1, 60, .inl t))]) := by
  refine z_metI (own := RX3) (maxL := 2) rfl (by decide) rfl (Nat.le_of_ble_eq_true rfl) ?_
  intro P0 E0 S0 M0 G0 B0 T0 K0 A9 Q9 C E
  have hx := C.1.1
  have hb := C.1.2.1
  have hown := C.1.2.2.2.1
  have hts := C.1.2.2.2.2
  have hn := C.2.1.2
  have iX3 : ∀ w ∈ u_ws RX3 TX3 10, w ∈ wsX3_isSkipped := by decide +kernel
  have k13 := hts (.fieldLink RX3 13 "JudgedBits$Orders" "place" "I") (by decide +kernel)
  have k40 := hts (.fieldLink RX3 40 "JudgedBits$Orders" "text" "LJudgedBits$Text;") (by decide +kernel)
  change Z P0 l E0 rm_X3_isSkipped S0 M0 G0 B0 T0 K0 2 T A9 Q9 0 0 [(O 0, .inr (3, [.ref (O 1), .int (o 0), .int (o 1), .int (o 2), .int (o 3), .int (o 4), .int (o 5), .int (o 6), .int (o 7), .int (o 8)])), (O 1, .inr (8, [.ref (O 2), .int n])), (O 2, .inl (T.2.1, 60, .inl t))] 0 [(0, .ref (O 0)), (1, .int wanted)] []
  have zh0 := fe_X3_isSkipped o n t wanted
  refine Z.of (pc' := 1) (fun _ _ _ hl => lv_aload_n hx hb dX3_isSkipped_0 rfl (lv_at hl 0 rfl)) ?_
  refine z_get C iX3 0 0 k40 rfl rfl (by decide) rfl rfl dX3_isSkipped_1 rfl ?_
  refine Z.of (pc' := 5) (fun _ _ _ hl => lv_aload_n hx hb dX3_isSkipped_4 rfl (lv_at hl 0 rfl)) ?_
  refine z_get C iX3 0 2 k13 rfl rfl (by decide) rfl rfl dX3_isSkipped_5 rfl ?_
  refine z_callVi C (c_X8_at l T (O 1) (O 2) n t (o 1) hn0 ht) [1, 2] [0] rfl (by decide +kernel) (fun u1 => [(O 0, .inr (3, [.ref (O 1), .int (o 0), .int (o 1), .int (o 2), .int (o 3), .int (o 4), .int (o 5), .int (o 6), .int (o 7), .int (o 8)])), (O 1, .inr (8, [.ref (O 2), .int n])), (O 2, .inl (T.2.1, 60, .inl t))]) (fun _ => rfl) [(O 0, .inr (3, [.ref (O 1), .int (o 0), .int (o 1), .int (o 2), .int (o 3), .int (o 4), .int (o 5), .int (o 6), .int (o 7), .int (o 8)]))] rfl (fun _ => rfl) [O 0, O 1, O 2] rfl (fun _ => rfl) 3 (fun _ => rfl) (by decide +kernel) (cwV 1 hts gX3_isSkipped_X8_at rfl rfl rfl (by decide +kernel) ⟨Nat.le_of_ble_eq_true rfl, Nat.le_of_ble_eq_true rfl⟩) 1 rfl rfl rfl (As := [.int (o 1)]) (rest := []) rfl rfl (Nat.le_of_ble_eq_true rfl) dX3_isSkipped_8 rfl ⟨Nat.zero_le _, Nat.zero_le _⟩ (fun u1 eu1 bu1 => ?_)
  have zh2 := zl_e zh0 eu1
  refine Z.of (pc' := 12) (fun _ _ _ hl => lv_iload_n hx hb dX3_isSkipped_11 rfl (lv_at hl 1 rfl)) ?_
  refine Z.two (pt := 17) (pf := 15) (fun _ _ _ _ => lv_icmp_eq hx hb dX3_isSkipped_12 (by decide)) (fun c3 => ?_) (fun c3 => ?_)
  · have zh4 := zh2.trans (if_pos c3)
    refine Z.of (pc' := 18) (fun _ _ _ hl => lv_aload_n hx hb dX3_isSkipped_17 rfl (lv_at hl 0 rfl)) ?_
    refine Z.of (pc' := 19) (fun _ _ _ hl => lv_dup hx hb dX3_isSkipped_18 rfl) ?_
    refine z_get C iX3 0 2 k13 rfl rfl (by decide) rfl rfl dX3_isSkipped_19 rfl ?_
    refine Z.of (pc' := 23) (fun _ _ _ _ => lv_iconst (v := 1) hx hb dX3_isSkipped_22 (by decide)) ?_
    refine Z.of (pc' := 24) (fun _ _ _ hl => lv_iadd hx hb dX3_isSkipped_23) ?_
    refine z_put C iX3 tyX3_ok nmX3 0 2 k13 rfl rfl (by decide) rfl rfl rfl rfl (Nat.le_of_ble_eq_true rfl) dX3_isSkipped_24 rfl [(O 0, .inr (3, [.ref (O 1), .int (o 0), .int ((o 1) + 1), .int (o 2), .int (o 3), .int (o 4), .int (o 5), .int (o 6), .int (o 7), .int (o 8)])), (O 1, .inr (8, [.ref (O 2), .int n])), (O 2, .inl (T.2.1, 60, .inl t))] rfl ?_
    refine Z.of (pc' := 28) (fun _ _ _ _ => lv_iconst (v := 1) hx hb dX3_isSkipped_27 (by decide)) ?_
    exact E (1, upd o 1 ((o 1) + 1)) _ _ _ _ dX3_isSkipped_28 rfl rfl rfl zh4
  · have zh5 := zh2.trans (if_neg c3)
    refine Z.of (pc' := 16) (fun _ _ _ _ => lv_iconst (v := 0) hx hb dX3_isSkipped_15 (by decide)) ?_
    exact E (0, o) _ _ _ _ dX3_isSkipped_16 rfl rfl rfl zh5
def lp10_X3_isNumberRead (o : Nat → Int32) (n : Int32) (t : Nat → Int32) : Nat → Nat → (Nat → Int32) → Int32 × (Nat → Int32)
  | 0, _, _ => (0, o)
  | q10 + 1, k, ox =>
    if 3 ≤ ((ox 1) - (o 1)) then
      if (ox 1) ≤ (o 1) then
        (0, ox)
      else
        (1, ox)
    else
      zl (f_X8_at n t (ox 1)) fun u7 =>
      zl (f_X9_isWithin u7 48 57) fun u9 =>
      if u9 = 0 then
        if (ox 1) ≤ (o 1) then
          (0, ox)
        else
          (1, ox)
      else
        zl (f_X8_at n t (ox 1)) fun u17 =>
        lp10_X3_isNumberRead o n t q10 (k + 1) (upd (upd ox 1 ((ox 1) + 1)) 6 ((((ox 6) * 10) + u17) - 48))
theorem lp10_X3_isNumberRead_s (o : Nat → Int32) (n : Int32) (t : Nat → Int32) (q10 : Nat) (k : Nat) (ox : (Nat → Int32)) : lp10_X3_isNumberRead o n t (q10 + 1) k ox = (
    if 3 ≤ ((ox 1) - (o 1)) then
      if (ox 1) ≤ (o 1) then
        (0, ox)
      else
        (1, ox)
    else
      zl (f_X8_at n t (ox 1)) fun u7 =>
      zl (f_X9_isWithin u7 48 57) fun u9 =>
      if u9 = 0 then
        if (ox 1) ≤ (o 1) then
          (0, ox)
        else
          (1, ox)
      else
        zl (f_X8_at n t (ox 1)) fun u17 =>
        lp10_X3_isNumberRead o n t q10 (k + 1) (upd (upd ox 1 ((ox 1) + 1)) 6 ((((ox 6) * 10) + u17) - 48))
    ) := rfl
def f_X3_isNumberRead (o : Nat → Int32) (n : Int32) (t : Nat → Int32) : Int32 × (Nat → Int32) :=
  lp10_X3_isNumberRead o n t 5 0 (upd o 6 0)
theorem fe_X3_isNumberRead (o : Nat → Int32) (n : Int32) (t : Nat → Int32) : f_X3_isNumberRead o n t = (
    lp10_X3_isNumberRead o n t 5 0 (upd o 6 0)
    ) := rfl
abbrev rm_X3_isNumberRead : Room := { frames := 2, cells := 0, slots := 0, locals := 45 }
set_option maxHeartbeats 1000000 in
set_option maxRecDepth 100000 in
theorem c_X3_isNumberRead (l : Launch) (T : zT) (O : Nat → Nat) (o : Nat → Int32) (n : Int32) (t : Nat → Int32) (hn0 : 0 ≤ n) (ht : ∀ j : Nat, narrow .char (.int (t j)) = .int (t j)) : Ci l yX3_isNumberRead wsX3_isNumberRead rm_X3_isNumberRead T .boolean [.ref (O 0)] [(O 0, .inr (3, [.ref (O 1), .int (o 0), .int (o 1), .int (o 2), .int (o 3), .int (o 4), .int (o 5), .int (o 6), .int (o 7), .int (o 8)])), (O 1, .inr (8, [.ref (O 2), .int n])), (O 2, .inl (T.2.1, 60, .inl t))] (S := Int32 × (Nat → Int32)) (f_X3_isNumberRead o n t) (fun u => u.1) (fun u => [(O 0, .inr (3, [.ref (O 1), .int (u.2 0), .int (u.2 1), .int (u.2 2), .int (u.2 3), .int (u.2 4), .int (u.2 5), .int (u.2 6), .int (u.2 7), .int (u.2 8)])), (O 1, .inr (8, [.ref (O 2), .int n])), (O 2, .inl (T.2.1, 60, .inl t))]) := by
  refine z_metI (own := RX3) (maxL := 2) rfl (by decide) rfl (Nat.le_of_ble_eq_true rfl) ?_
  intro P0 E0 S0 M0 G0 B0 T0 K0 A9 Q9 C E
  have hx := C.1.1
  have hb := C.1.2.1
  have hown := C.1.2.2.2.1
  have hts := C.1.2.2.2.2
  have hn := C.2.1.2
  have iX3 : ∀ w ∈ u_ws RX3 TX3 10, w ∈ wsX3_isNumberRead := by decide +kernel
  have k13 := hts (.fieldLink RX3 13 "JudgedBits$Orders" "place" "I") (by decide +kernel)
  have k30 := hts (.fieldLink RX3 30 "JudgedBits$Orders" "number" "I") (by decide +kernel)
  have k40 := hts (.fieldLink RX3 40 "JudgedBits$Orders" "text" "LJudgedBits$Text;") (by decide +kernel)
  change Z P0 l E0 rm_X3_isNumberRead S0 M0 G0 B0 T0 K0 2 T A9 Q9 0 0 [(O 0, .inr (3, [.ref (O 1), .int (o 0), .int (o 1), .int (o 2), .int (o 3), .int (o 4), .int (o 5), .int (o 6), .int (o 7), .int (o 8)])), (O 1, .inr (8, [.ref (O 2), .int n])), (O 2, .inl (T.2.1, 60, .inl t))] 0 [(0, .ref (O 0))] []
  have zh0 := fe_X3_isNumberRead o n t
  refine Z.of (pc' := 1) (fun _ _ _ hl => lv_aload_n hx hb dX3_isNumberRead_0 rfl (lv_at hl 0 rfl)) ?_
  refine Z.of (pc' := 2) (fun _ _ _ _ => lv_iconst (v := 0) hx hb dX3_isNumberRead_1 (by decide)) ?_
  refine z_put C iX3 tyX3_ok nmX3 0 7 k30 rfl rfl (by decide) rfl rfl rfl rfl (Nat.le_of_ble_eq_true rfl) dX3_isNumberRead_2 rfl [(O 0, .inr (3, [.ref (O 1), .int (o 0), .int (o 1), .int (o 2), .int (o 3), .int (o 4), .int (o 5), .int 0, .int (o 7), .int (o 8)])), (O 1, .inr (8, [.ref (O 2), .int n])), (O 2, .inl (T.2.1, 60, .inl t))] rfl ?_
  refine Z.of (pc' := 6) (fun _ _ _ hl => lv_aload_n hx hb dX3_isNumberRead_5 rfl (lv_at hl 0 rfl)) ?_
  refine z_get C iX3 0 2 k13 rfl rfl (by decide) rfl rfl dX3_isNumberRead_6 rfl ?_
  refine Z.sto (pc' := 10) (lv' := [(1, .int (o 1)), (0, .ref (O 0))]) (fun _ _ _ hl => lv_istore_n (lv' := [(1, .int (o 1)), (0, .ref (O 0))]) hx hb dX3_isNumberRead_9 rfl hl (by decide) rfl) ?_
  have L10 : ∀ (q10 : Nat) (k : Nat) (ox : (Nat → Int32)), (k ≤ 3 ∧ k + q10 = 5 ∧ ox 1 = (o 1) + nI k) → f_X3_isNumberRead o n t = lp10_X3_isNumberRead o n t q10 k ox → Z P0 l E0 rm_X3_isNumberRead S0 M0 G0 B0 T0 K0 2 T A9 Q9 0 0 [(O 0, .inr (3, [.ref (O 1), .int (ox 0), .int (ox 1), .int (ox 2), .int (ox 3), .int (ox 4), .int (ox 5), .int (ox 6), .int (ox 7), .int (ox 8)])), (O 1, .inr (8, [.ref (O 2), .int n])), (O 2, .inl (T.2.1, 60, .inl t))] 10 [(0, .ref (O 0)), (1, .int (o 1))] [] := by
    intro q10
    induction q10 with
    | zero =>
      intro k ox hi10 zhl10
      omega
    | succ q10 ih =>
      intro k ox hi10 zhl10
      have zhb10 := zhl10.trans (lp10_X3_isNumberRead_s o n t q10 k ox)
      refine Z.of (pc' := 11) (fun _ _ _ hl => lv_aload_n hx hb dX3_isNumberRead_10 rfl (lv_at hl 0 rfl)) ?_
      refine z_get C iX3 0 2 k13 rfl rfl (by decide) rfl rfl dX3_isNumberRead_11 rfl ?_
      refine Z.of (pc' := 15) (fun _ _ _ hl => lv_iload_n hx hb dX3_isNumberRead_14 rfl (lv_at hl 1 rfl)) ?_
      refine Z.of (pc' := 16) (fun _ _ _ hl => lv_isub hx hb dX3_isNumberRead_15) ?_
      refine Z.of (pc' := 17) (fun _ _ _ _ => lv_iconst (v := 3) hx hb dX3_isNumberRead_16 (by decide)) ?_
      refine Z.two (pt := 80) (pf := 20) (fun _ _ _ _ => lv_icmp_ge hx hb dX3_isNumberRead_17 (by decide)) (fun c1 => ?_) (fun c1 => ?_)
      · have zh2 := zhb10.trans (if_pos c1)
        refine Z.of (pc' := 81) (fun _ _ _ hl => lv_aload_n hx hb dX3_isNumberRead_80 rfl (lv_at hl 0 rfl)) ?_
        refine z_get C iX3 0 2 k13 rfl rfl (by decide) rfl rfl dX3_isNumberRead_81 rfl ?_
        refine Z.of (pc' := 85) (fun _ _ _ hl => lv_iload_n hx hb dX3_isNumberRead_84 rfl (lv_at hl 1 rfl)) ?_
        refine Z.two (pt := 92) (pf := 88) (fun _ _ _ _ => lv_icmp_le hx hb dX3_isNumberRead_85 (by decide)) (fun c4 => ?_) (fun c4 => ?_)
        · have zh5 := zh2.trans (if_pos c4)
          refine Z.of (pc' := 93) (fun _ _ _ _ => lv_iconst (v := 0) hx hb dX3_isNumberRead_92 (by decide)) ?_
          exact E (0, ox) _ _ _ _ dX3_isNumberRead_93 rfl rfl rfl zh5
        · have zh6 := zh2.trans (if_neg c4)
          refine Z.of (pc' := 89) (fun _ _ _ _ => lv_iconst (v := 1) hx hb dX3_isNumberRead_88 (by decide)) ?_
          refine Z.of (pc' := 93) (fun _ _ _ _ => lv_goto hx hb dX3_isNumberRead_89 (by decide)) ?_
          exact E (1, ox) _ _ _ _ dX3_isNumberRead_93 rfl rfl rfl zh6
      · have zh3 := zhb10.trans (if_neg c1)
        refine Z.of (pc' := 21) (fun _ _ _ hl => lv_aload_n hx hb dX3_isNumberRead_20 rfl (lv_at hl 0 rfl)) ?_
        refine z_get C iX3 0 0 k40 rfl rfl (by decide) rfl rfl dX3_isNumberRead_21 rfl ?_
        refine Z.of (pc' := 25) (fun _ _ _ hl => lv_aload_n hx hb dX3_isNumberRead_24 rfl (lv_at hl 0 rfl)) ?_
        refine z_get C iX3 0 2 k13 rfl rfl (by decide) rfl rfl dX3_isNumberRead_25 rfl ?_
        refine z_callVi C (c_X8_at l T (O 1) (O 2) n t (ox 1) hn0 ht) [1, 2] [0] rfl (by decide +kernel) (fun u7 => [(O 0, .inr (3, [.ref (O 1), .int (ox 0), .int (ox 1), .int (ox 2), .int (ox 3), .int (ox 4), .int (ox 5), .int (ox 6), .int (ox 7), .int (ox 8)])), (O 1, .inr (8, [.ref (O 2), .int n])), (O 2, .inl (T.2.1, 60, .inl t))]) (fun _ => rfl) [(O 0, .inr (3, [.ref (O 1), .int (ox 0), .int (ox 1), .int (ox 2), .int (ox 3), .int (ox 4), .int (ox 5), .int (ox 6), .int (ox 7), .int (ox 8)]))] rfl (fun _ => rfl) [O 0, O 1, O 2] rfl (fun _ => rfl) 3 (fun _ => rfl) (by decide +kernel) (cwV 1 hts gX3_isNumberRead_X8_at rfl rfl rfl (by decide +kernel) ⟨Nat.le_of_ble_eq_true rfl, Nat.le_of_ble_eq_true rfl⟩) 1 rfl rfl rfl (As := [.int (ox 1)]) (rest := []) rfl rfl (Nat.le_of_ble_eq_true rfl) dX3_isNumberRead_28 rfl ⟨Nat.zero_le _, Nat.zero_le _⟩ (fun u7 eu7 bu7 => ?_)
        have zh8 := zl_e zh3 eu7
        refine Z.of (pc' := 33) (fun _ _ _ _ => lv_bipush (v := 48) hx hb dX3_isNumberRead_31 (by decide)) ?_
        refine Z.of (pc' := 35) (fun _ _ _ _ => lv_bipush (v := 57) hx hb dX3_isNumberRead_33 (by decide)) ?_
        refine z_callNi C (c_X9_isWithin l T u7 48 57) ⟨va_cnB 3 hts gX3_isNumberRead_X9_isWithin_n69 rfl rfl rfl (hn.2.1) (hts (.initialized RX9) (by decide +kernel)) (by decide +kernel) ⟨Nat.le_of_ble_eq_true rfl, Nat.le_of_ble_eq_true rfl⟩, hts (.static yX9_isWithin) (by decide +kernel), trivial⟩ (As := [.int u7, .int 48, .int 57]) (rest := []) rfl rfl (Nat.le_of_ble_eq_true rfl) dX3_isNumberRead_35 rfl ⟨Nat.zero_le _, Nat.zero_le _⟩ (fun u9 eu9 bu9 => ?_)
        have zh10 := zl_e zh8 eu9
        refine Z.two (pt := 80) (pf := 41) (fun _ _ _ _ => lv_if_eq hx hb dX3_isNumberRead_38 (by decide)) (fun c11 => ?_) (fun c11 => ?_)
        · have zh12 := zh10.trans (if_pos c11)
          refine Z.of (pc' := 81) (fun _ _ _ hl => lv_aload_n hx hb dX3_isNumberRead_80 rfl (lv_at hl 0 rfl)) ?_
          refine z_get C iX3 0 2 k13 rfl rfl (by decide) rfl rfl dX3_isNumberRead_81 rfl ?_
          refine Z.of (pc' := 85) (fun _ _ _ hl => lv_iload_n hx hb dX3_isNumberRead_84 rfl (lv_at hl 1 rfl)) ?_
          refine Z.two (pt := 92) (pf := 88) (fun _ _ _ _ => lv_icmp_le hx hb dX3_isNumberRead_85 (by decide)) (fun c14 => ?_) (fun c14 => ?_)
          · have zh15 := zh12.trans (if_pos c14)
            refine Z.of (pc' := 93) (fun _ _ _ _ => lv_iconst (v := 0) hx hb dX3_isNumberRead_92 (by decide)) ?_
            exact E (0, ox) _ _ _ _ dX3_isNumberRead_93 rfl rfl rfl zh15
          · have zh16 := zh12.trans (if_neg c14)
            refine Z.of (pc' := 89) (fun _ _ _ _ => lv_iconst (v := 1) hx hb dX3_isNumberRead_88 (by decide)) ?_
            refine Z.of (pc' := 93) (fun _ _ _ _ => lv_goto hx hb dX3_isNumberRead_89 (by decide)) ?_
            exact E (1, ox) _ _ _ _ dX3_isNumberRead_93 rfl rfl rfl zh16
        · have zh13 := zh10.trans (if_neg c11)
          refine Z.of (pc' := 42) (fun _ _ _ hl => lv_aload_n hx hb dX3_isNumberRead_41 rfl (lv_at hl 0 rfl)) ?_
          refine Z.of (pc' := 43) (fun _ _ _ hl => lv_aload_n hx hb dX3_isNumberRead_42 rfl (lv_at hl 0 rfl)) ?_
          refine z_get C iX3 0 7 k30 rfl rfl (by decide) rfl rfl dX3_isNumberRead_43 rfl ?_
          refine Z.of (pc' := 48) (fun _ _ _ _ => lv_bipush (v := 10) hx hb dX3_isNumberRead_46 (by decide)) ?_
          refine Z.of (pc' := 49) (fun _ _ _ hl => lv_imul hx hb dX3_isNumberRead_48) ?_
          refine Z.of (pc' := 50) (fun _ _ _ hl => lv_aload_n hx hb dX3_isNumberRead_49 rfl (lv_at hl 0 rfl)) ?_
          refine z_get C iX3 0 0 k40 rfl rfl (by decide) rfl rfl dX3_isNumberRead_50 rfl ?_
          refine Z.of (pc' := 54) (fun _ _ _ hl => lv_aload_n hx hb dX3_isNumberRead_53 rfl (lv_at hl 0 rfl)) ?_
          refine z_get C iX3 0 2 k13 rfl rfl (by decide) rfl rfl dX3_isNumberRead_54 rfl ?_
          refine z_callVi C (c_X8_at l T (O 1) (O 2) n t (ox 1) hn0 ht) [1, 2] [0] rfl (by decide +kernel) (fun u17 => [(O 0, .inr (3, [.ref (O 1), .int (ox 0), .int (ox 1), .int (ox 2), .int (ox 3), .int (ox 4), .int (ox 5), .int (ox 6), .int (ox 7), .int (ox 8)])), (O 1, .inr (8, [.ref (O 2), .int n])), (O 2, .inl (T.2.1, 60, .inl t))]) (fun _ => rfl) [(O 0, .inr (3, [.ref (O 1), .int (ox 0), .int (ox 1), .int (ox 2), .int (ox 3), .int (ox 4), .int (ox 5), .int (ox 6), .int (ox 7), .int (ox 8)]))] rfl (fun _ => rfl) [O 0, O 1, O 2] rfl (fun _ => rfl) 3 (fun _ => rfl) (by decide +kernel) (cwV 1 hts gX3_isNumberRead_X8_at rfl rfl rfl (by decide +kernel) ⟨Nat.le_of_ble_eq_true rfl, Nat.le_of_ble_eq_true rfl⟩) 1 rfl rfl rfl (As := [.int (ox 1)]) (rest := [.int ((ox 6) * 10), .ref (O 0)]) rfl rfl (Nat.le_of_ble_eq_true rfl) dX3_isNumberRead_57 rfl ⟨Nat.zero_le _, Nat.zero_le _⟩ (fun u17 eu17 bu17 => ?_)
          have zh18 := zl_e zh13 eu17
          refine Z.of (pc' := 61) (fun _ _ _ hl => lv_iadd hx hb dX3_isNumberRead_60) ?_
          refine Z.of (pc' := 63) (fun _ _ _ _ => lv_bipush (v := 48) hx hb dX3_isNumberRead_61 (by decide)) ?_
          refine Z.of (pc' := 64) (fun _ _ _ hl => lv_isub hx hb dX3_isNumberRead_63) ?_
          refine z_put C iX3 tyX3_ok nmX3 0 7 k30 rfl rfl (by decide) rfl rfl rfl rfl (Nat.le_of_ble_eq_true rfl) dX3_isNumberRead_64 rfl [(O 0, .inr (3, [.ref (O 1), .int (ox 0), .int (ox 1), .int (ox 2), .int (ox 3), .int (ox 4), .int (ox 5), .int ((((ox 6) * 10) + u17) - 48), .int (ox 7), .int (ox 8)])), (O 1, .inr (8, [.ref (O 2), .int n])), (O 2, .inl (T.2.1, 60, .inl t))] rfl ?_
          refine Z.of (pc' := 68) (fun _ _ _ hl => lv_aload_n hx hb dX3_isNumberRead_67 rfl (lv_at hl 0 rfl)) ?_
          refine Z.of (pc' := 69) (fun _ _ _ hl => lv_dup hx hb dX3_isNumberRead_68 rfl) ?_
          refine z_get C iX3 0 2 k13 rfl rfl (by decide) rfl rfl dX3_isNumberRead_69 rfl ?_
          refine Z.of (pc' := 73) (fun _ _ _ _ => lv_iconst (v := 1) hx hb dX3_isNumberRead_72 (by decide)) ?_
          refine Z.of (pc' := 74) (fun _ _ _ hl => lv_iadd hx hb dX3_isNumberRead_73) ?_
          refine z_put C iX3 tyX3_ok nmX3 0 2 k13 rfl rfl (by decide) rfl rfl rfl rfl (Nat.le_of_ble_eq_true rfl) dX3_isNumberRead_74 rfl [(O 0, .inr (3, [.ref (O 1), .int (ox 0), .int ((ox 1) + 1), .int (ox 2), .int (ox 3), .int (ox 4), .int (ox 5), .int ((((ox 6) * 10) + u17) - 48), .int (ox 7), .int (ox 8)])), (O 1, .inr (8, [.ref (O 2), .int n])), (O 2, .inl (T.2.1, 60, .inl t))] rfl ?_
          refine Z.of (pc' := 10) (fun _ _ _ _ => lv_goto hx hb dX3_isNumberRead_77 (by decide)) ?_
          exact Z.sub (ks := [0, 1]) (lv' := [(0, .ref (O 0)), (1, .int (o 1))]) rfl (ih (k + 1) (upd (upd ox 1 ((ox 1) + 1)) 6 ((((ox 6) * 10) + u17) - 48)) (znr_step hi10 c1) zh18)
  exact Z.sub (ks := [1, 0]) (lv' := [(0, .ref (O 0)), (1, .int (o 1))]) rfl (L10 5 0 (upd o 6 0) ⟨by omega, by omega, (by rw [nI_0]; exact (Int32.add_zero _).symm)⟩ zh0)
def f_X3_areRingNumbersRead (o : Nat → Int32) (n : Int32) (t : Nat → Int32) : Int32 × (Nat → Int32) :=
  zl (f_X3_isNumberRead o n t) fun u1 =>
  if u1.1 = 0 then
    (0, u1.2)
  else
    zl (f_X3_isSkipped u1.2 n t 44) fun u6 =>
    if u6.1 = 0 then
      (0, u6.2)
    else
      zl (f_X3_isNumberRead (upd u6.2 7 (u6.2 6)) n t) fun u11 =>
      if u11.1 = 0 then
        (0, u11.2)
      else
        zl (f_X3_isSkipped u11.2 n t 44) fun u16 =>
        if u16.1 = 0 then
          (0, u16.2)
        else
          zl (f_X3_isNumberRead (upd u16.2 8 (u16.2 6)) n t) fun u21 =>
          (u21.1, u21.2)
theorem fe_X3_areRingNumbersRead (o : Nat → Int32) (n : Int32) (t : Nat → Int32) : f_X3_areRingNumbersRead o n t = (
    zl (f_X3_isNumberRead o n t) fun u1 =>
    if u1.1 = 0 then
      (0, u1.2)
    else
      zl (f_X3_isSkipped u1.2 n t 44) fun u6 =>
      if u6.1 = 0 then
        (0, u6.2)
      else
        zl (f_X3_isNumberRead (upd u6.2 7 (u6.2 6)) n t) fun u11 =>
        if u11.1 = 0 then
          (0, u11.2)
        else
          zl (f_X3_isSkipped u11.2 n t 44) fun u16 =>
          if u16.1 = 0 then
            (0, u16.2)
          else
            zl (f_X3_isNumberRead (upd u16.2 8 (u16.2 6)) n t) fun u21 =>
            (u21.1, u21.2)
    ) := rfl
abbrev rm_X3_areRingNumbersRead : Room := { frames := 3, cells := 0, slots := 0, locals := 66 }
set_option maxHeartbeats 1000000 in
set_option maxRecDepth 100000 in
theorem c_X3_areRingNumbersRead (l : Launch) (T : zT) (O : Nat → Nat) (o : Nat → Int32) (n : Int32) (t : Nat → Int32) (hn0 : 0 ≤ n) (ht : ∀ j : Nat, narrow .char (.int (t j)) = .int (t j)) : Ci l yX3_areRingNumbersRead wsX3_areRingNumbersRead rm_X3_areRingNumbersRead T .boolean [.ref (O 0)] [(O 0, .inr (3, [.ref (O 1), .int (o 0), .int (o 1), .int (o 2), .int (o 3), .int (o 4), .int (o 5), .int (o 6), .int (o 7), .int (o 8)])), (O 1, .inr (8, [.ref (O 2), .int n])), (O 2, .inl (T.2.1, 60, .inl t))] (S := Int32 × (Nat → Int32)) (f_X3_areRingNumbersRead o n t) (fun u => u.1) (fun u => [(O 0, .inr (3, [.ref (O 1), .int (u.2 0), .int (u.2 1), .int (u.2 2), .int (u.2 3), .int (u.2 4), .int (u.2 5), .int (u.2 6), .int (u.2 7), .int (u.2 8)])), (O 1, .inr (8, [.ref (O 2), .int n])), (O 2, .inl (T.2.1, 60, .inl t))]) := by
  refine z_metI (own := RX3) (maxL := 1) rfl (by decide) rfl (Nat.le_of_ble_eq_true rfl) ?_
  intro P0 E0 S0 M0 G0 B0 T0 K0 A9 Q9 C E
  have hx := C.1.1
  have hb := C.1.2.1
  have hown := C.1.2.2.2.1
  have hts := C.1.2.2.2.2
  have hn := C.2.1.2
  have iX3 : ∀ w ∈ u_ws RX3 TX3 10, w ∈ wsX3_areRingNumbersRead := by decide +kernel
  have k30 := hts (.fieldLink RX3 30 "JudgedBits$Orders" "number" "I") (by decide +kernel)
  have k33 := hts (.fieldLink RX3 33 "JudgedBits$Orders" "first" "I") (by decide +kernel)
  have k36 := hts (.fieldLink RX3 36 "JudgedBits$Orders" "second" "I") (by decide +kernel)
  change Z P0 l E0 rm_X3_areRingNumbersRead S0 M0 G0 B0 T0 K0 1 T A9 Q9 0 0 [(O 0, .inr (3, [.ref (O 1), .int (o 0), .int (o 1), .int (o 2), .int (o 3), .int (o 4), .int (o 5), .int (o 6), .int (o 7), .int (o 8)])), (O 1, .inr (8, [.ref (O 2), .int n])), (O 2, .inl (T.2.1, 60, .inl t))] 0 [(0, .ref (O 0))] []
  have zh0 := fe_X3_areRingNumbersRead o n t
  refine Z.of (pc' := 1) (fun _ _ _ hl => lv_aload_n hx hb dX3_areRingNumbersRead_0 rfl (lv_at hl 0 rfl)) ?_
  refine z_callVi C (c_X3_isNumberRead l T O o n t hn0 ht) [0, 1, 2] [] rfl (by decide +kernel) (fun u1 => [(O 0, .inr (3, [.ref (O 1), .int (u1.2 0), .int (u1.2 1), .int (u1.2 2), .int (u1.2 3), .int (u1.2 4), .int (u1.2 5), .int (u1.2 6), .int (u1.2 7), .int (u1.2 8)])), (O 1, .inr (8, [.ref (O 2), .int n])), (O 2, .inl (T.2.1, 60, .inl t))]) (fun _ => rfl) [] rfl (fun _ => rfl) [O 0, O 1, O 2] rfl (fun _ => rfl) 3 (fun _ => rfl) (by decide +kernel) (cwV 0 hts gX3_areRingNumbersRead_X3_isNumberRead rfl rfl rfl (by decide +kernel) ⟨Nat.le_of_ble_eq_true rfl, Nat.le_of_ble_eq_true rfl⟩) 0 rfl rfl rfl (As := []) (rest := []) rfl rfl (Nat.le_of_ble_eq_true rfl) dX3_areRingNumbersRead_1 rfl ⟨Nat.zero_le _, Nat.zero_le _⟩ (fun u1 eu1 bu1 => ?_)
  have zh2 := zl_e zh0 eu1
  refine Z.two (pt := 16) (pf := 7) (fun _ _ _ _ => lv_if_eq hx hb dX3_areRingNumbersRead_4 (by decide)) (fun c3 => ?_) (fun c3 => ?_)
  · have zh4 := zh2.trans (if_pos c3)
    refine Z.of (pc' := 17) (fun _ _ _ _ => lv_iconst (v := 0) hx hb dX3_areRingNumbersRead_16 (by decide)) ?_
    exact E (0, u1.2) _ _ _ _ dX3_areRingNumbersRead_17 rfl rfl rfl zh4
  · have zh5 := zh2.trans (if_neg c3)
    refine Z.of (pc' := 8) (fun _ _ _ hl => lv_aload_n hx hb dX3_areRingNumbersRead_7 rfl (lv_at hl 0 rfl)) ?_
    refine Z.of (pc' := 10) (fun _ _ _ _ => lv_bipush (v := 44) hx hb dX3_areRingNumbersRead_8 (by decide)) ?_
    refine z_callVi C (c_X3_isSkipped l T O u1.2 n t 44 hn0 ht) [0, 1, 2] [] rfl (by decide +kernel) (fun u6 => [(O 0, .inr (3, [.ref (O 1), .int (u6.2 0), .int (u6.2 1), .int (u6.2 2), .int (u6.2 3), .int (u6.2 4), .int (u6.2 5), .int (u6.2 6), .int (u6.2 7), .int (u6.2 8)])), (O 1, .inr (8, [.ref (O 2), .int n])), (O 2, .inl (T.2.1, 60, .inl t))]) (fun _ => rfl) [] rfl (fun _ => rfl) [O 0, O 1, O 2] rfl (fun _ => rfl) 3 (fun _ => rfl) (by decide +kernel) (cwV 1 hts gX3_areRingNumbersRead_X3_isSkipped rfl rfl rfl (by decide +kernel) ⟨Nat.le_of_ble_eq_true rfl, Nat.le_of_ble_eq_true rfl⟩) 0 rfl rfl rfl (As := [.int 44]) (rest := []) rfl rfl (Nat.le_of_ble_eq_true rfl) dX3_areRingNumbersRead_10 rfl ⟨Nat.zero_le _, Nat.zero_le _⟩ (fun u6 eu6 bu6 => ?_)
    have zh7 := zl_e zh5 eu6
    refine Z.two' (pt := 18) (pf := 16) (fun _ _ _ _ => lv_if_ne hx hb dX3_areRingNumbersRead_13 (by decide)) (fun c8 => ?_) (fun c8 => ?_)
    · have zh9 := zh7.trans (if_neg c8)
      refine Z.of (pc' := 19) (fun _ _ _ hl => lv_aload_n hx hb dX3_areRingNumbersRead_18 rfl (lv_at hl 0 rfl)) ?_
      refine Z.of (pc' := 20) (fun _ _ _ hl => lv_aload_n hx hb dX3_areRingNumbersRead_19 rfl (lv_at hl 0 rfl)) ?_
      refine z_get C iX3 0 7 k30 rfl rfl (by decide) rfl rfl dX3_areRingNumbersRead_20 rfl ?_
      refine z_put C iX3 tyX3_ok nmX3 0 8 k33 rfl rfl (by decide) rfl rfl rfl rfl (Nat.le_of_ble_eq_true rfl) dX3_areRingNumbersRead_23 rfl [(O 0, .inr (3, [.ref (O 1), .int (u6.2 0), .int (u6.2 1), .int (u6.2 2), .int (u6.2 3), .int (u6.2 4), .int (u6.2 5), .int (u6.2 6), .int (u6.2 6), .int (u6.2 8)])), (O 1, .inr (8, [.ref (O 2), .int n])), (O 2, .inl (T.2.1, 60, .inl t))] rfl ?_
      refine Z.of (pc' := 27) (fun _ _ _ hl => lv_aload_n hx hb dX3_areRingNumbersRead_26 rfl (lv_at hl 0 rfl)) ?_
      refine z_callVi C (c_X3_isNumberRead l T O (upd u6.2 7 (u6.2 6)) n t hn0 ht) [0, 1, 2] [] rfl (by decide +kernel) (fun u11 => [(O 0, .inr (3, [.ref (O 1), .int (u11.2 0), .int (u11.2 1), .int (u11.2 2), .int (u11.2 3), .int (u11.2 4), .int (u11.2 5), .int (u11.2 6), .int (u11.2 7), .int (u11.2 8)])), (O 1, .inr (8, [.ref (O 2), .int n])), (O 2, .inl (T.2.1, 60, .inl t))]) (fun _ => rfl) [] rfl (fun _ => rfl) [O 0, O 1, O 2] rfl (fun _ => rfl) 3 (fun _ => rfl) (by decide +kernel) (cwV 0 hts gX3_areRingNumbersRead_X3_isNumberRead rfl rfl rfl (by decide +kernel) ⟨Nat.le_of_ble_eq_true rfl, Nat.le_of_ble_eq_true rfl⟩) 0 rfl rfl rfl (As := []) (rest := []) rfl rfl (Nat.le_of_ble_eq_true rfl) dX3_areRingNumbersRead_27 rfl ⟨Nat.zero_le _, Nat.zero_le _⟩ (fun u11 eu11 bu11 => ?_)
      have zh12 := zl_e zh9 eu11
      refine Z.two (pt := 42) (pf := 33) (fun _ _ _ _ => lv_if_eq hx hb dX3_areRingNumbersRead_30 (by decide)) (fun c13 => ?_) (fun c13 => ?_)
      · have zh14 := zh12.trans (if_pos c13)
        refine Z.of (pc' := 43) (fun _ _ _ _ => lv_iconst (v := 0) hx hb dX3_areRingNumbersRead_42 (by decide)) ?_
        exact E (0, u11.2) _ _ _ _ dX3_areRingNumbersRead_43 rfl rfl rfl zh14
      · have zh15 := zh12.trans (if_neg c13)
        refine Z.of (pc' := 34) (fun _ _ _ hl => lv_aload_n hx hb dX3_areRingNumbersRead_33 rfl (lv_at hl 0 rfl)) ?_
        refine Z.of (pc' := 36) (fun _ _ _ _ => lv_bipush (v := 44) hx hb dX3_areRingNumbersRead_34 (by decide)) ?_
        refine z_callVi C (c_X3_isSkipped l T O u11.2 n t 44 hn0 ht) [0, 1, 2] [] rfl (by decide +kernel) (fun u16 => [(O 0, .inr (3, [.ref (O 1), .int (u16.2 0), .int (u16.2 1), .int (u16.2 2), .int (u16.2 3), .int (u16.2 4), .int (u16.2 5), .int (u16.2 6), .int (u16.2 7), .int (u16.2 8)])), (O 1, .inr (8, [.ref (O 2), .int n])), (O 2, .inl (T.2.1, 60, .inl t))]) (fun _ => rfl) [] rfl (fun _ => rfl) [O 0, O 1, O 2] rfl (fun _ => rfl) 3 (fun _ => rfl) (by decide +kernel) (cwV 1 hts gX3_areRingNumbersRead_X3_isSkipped rfl rfl rfl (by decide +kernel) ⟨Nat.le_of_ble_eq_true rfl, Nat.le_of_ble_eq_true rfl⟩) 0 rfl rfl rfl (As := [.int 44]) (rest := []) rfl rfl (Nat.le_of_ble_eq_true rfl) dX3_areRingNumbersRead_36 rfl ⟨Nat.zero_le _, Nat.zero_le _⟩ (fun u16 eu16 bu16 => ?_)
        have zh17 := zl_e zh15 eu16
        refine Z.two' (pt := 44) (pf := 42) (fun _ _ _ _ => lv_if_ne hx hb dX3_areRingNumbersRead_39 (by decide)) (fun c18 => ?_) (fun c18 => ?_)
        · have zh19 := zh17.trans (if_neg c18)
          refine Z.of (pc' := 45) (fun _ _ _ hl => lv_aload_n hx hb dX3_areRingNumbersRead_44 rfl (lv_at hl 0 rfl)) ?_
          refine Z.of (pc' := 46) (fun _ _ _ hl => lv_aload_n hx hb dX3_areRingNumbersRead_45 rfl (lv_at hl 0 rfl)) ?_
          refine z_get C iX3 0 7 k30 rfl rfl (by decide) rfl rfl dX3_areRingNumbersRead_46 rfl ?_
          refine z_put C iX3 tyX3_ok nmX3 0 9 k36 rfl rfl (by decide) rfl rfl rfl rfl (Nat.le_of_ble_eq_true rfl) dX3_areRingNumbersRead_49 rfl [(O 0, .inr (3, [.ref (O 1), .int (u16.2 0), .int (u16.2 1), .int (u16.2 2), .int (u16.2 3), .int (u16.2 4), .int (u16.2 5), .int (u16.2 6), .int (u16.2 7), .int (u16.2 6)])), (O 1, .inr (8, [.ref (O 2), .int n])), (O 2, .inl (T.2.1, 60, .inl t))] rfl ?_
          refine Z.of (pc' := 53) (fun _ _ _ hl => lv_aload_n hx hb dX3_areRingNumbersRead_52 rfl (lv_at hl 0 rfl)) ?_
          refine z_callVi C (c_X3_isNumberRead l T O (upd u16.2 8 (u16.2 6)) n t hn0 ht) [0, 1, 2] [] rfl (by decide +kernel) (fun u21 => [(O 0, .inr (3, [.ref (O 1), .int (u21.2 0), .int (u21.2 1), .int (u21.2 2), .int (u21.2 3), .int (u21.2 4), .int (u21.2 5), .int (u21.2 6), .int (u21.2 7), .int (u21.2 8)])), (O 1, .inr (8, [.ref (O 2), .int n])), (O 2, .inl (T.2.1, 60, .inl t))]) (fun _ => rfl) [] rfl (fun _ => rfl) [O 0, O 1, O 2] rfl (fun _ => rfl) 3 (fun _ => rfl) (by decide +kernel) (cwV 0 hts gX3_areRingNumbersRead_X3_isNumberRead rfl rfl rfl (by decide +kernel) ⟨Nat.le_of_ble_eq_true rfl, Nat.le_of_ble_eq_true rfl⟩) 0 rfl rfl rfl (As := []) (rest := []) rfl rfl (Nat.le_of_ble_eq_true rfl) dX3_areRingNumbersRead_53 rfl ⟨Nat.zero_le _, Nat.zero_le _⟩ (fun u21 eu21 bu21 => ?_)
          have zh22 := zl_e zh19 eu21
          exact E (u21.1, u21.2) _ _ _ _ dX3_areRingNumbersRead_56 bu21 rfl rfl zh22
        · have zh20 := zh17.trans (if_pos c18)
          refine Z.of (pc' := 43) (fun _ _ _ _ => lv_iconst (v := 0) hx hb dX3_areRingNumbersRead_42 (by decide)) ?_
          exact E (0, u16.2) _ _ _ _ dX3_areRingNumbersRead_43 rfl rfl rfl zh20
    · have zh10 := zh7.trans (if_pos c8)
      refine Z.of (pc' := 17) (fun _ _ _ _ => lv_iconst (v := 0) hx hb dX3_areRingNumbersRead_16 (by decide)) ?_
      exact E (0, u6.2) _ _ _ _ dX3_areRingNumbersRead_17 rfl rfl rfl zh10
def f_X3_isRead (o : Nat → Int32) (n : Int32) (t : Nat → Int32) : Int32 × (Nat → Int32) :=
  zl (f_X8_at n t (o 1)) fun u1 =>
  if u1 = 100 then
    zl (f_X3_isNumberRead (upd (upd o 1 ((o 1) + 1)) 5 u1) n t) fun u10 =>
    if u10.1 = 0 then
      (0, u10.2)
    else
      zl (f_X3_isSkipped u10.2 n t 59) fun u15 =>
      if u15.1 = 0 then
        (0, u15.2)
      else
        (1, u15.2)
  else
    if u1 = 110 then
      zl (f_X3_isSkipped (upd (upd o 1 ((o 1) + 1)) 5 u1) n t 59) fun u22 =>
      (u22.1, u22.2)
    else
      if u1 = 114 then
        zl (f_X3_areRingNumbersRead (upd (upd o 1 ((o 1) + 1)) 5 u1) n t) fun u26 =>
        if u26.1 = 0 then
          (0, u26.2)
        else
          zl (f_X3_isSkipped u26.2 n t 59) fun u31 =>
          if u31.1 = 0 then
            (0, u31.2)
          else
            (1, u31.2)
      else
        if u1 = 115 then
          zl (f_X3_isNumberRead (upd (upd o 1 ((o 1) + 1)) 5 u1) n t) fun u38 =>
          if u38.1 = 0 then
            (0, u38.2)
          else
            zl (f_X3_isSkipped u38.2 n t 59) fun u43 =>
            if u43.1 = 0 then
              (0, u43.2)
            else
              (1, u43.2)
        else
          if u1 = 120 then
            zl (f_X3_isNumberRead (upd (upd o 1 ((o 1) + 1)) 5 u1) n t) fun u50 =>
            if u50.1 = 0 then
              (0, u50.2)
            else
              zl (f_X3_isSkipped u50.2 n t 59) fun u55 =>
              if u55.1 = 0 then
                (0, u55.2)
              else
                (1, u55.2)
          else
            (0, upd o 5 u1)
theorem fe_X3_isRead (o : Nat → Int32) (n : Int32) (t : Nat → Int32) : f_X3_isRead o n t = (
    zl (f_X8_at n t (o 1)) fun u1 =>
    if u1 = 100 then
      zl (f_X3_isNumberRead (upd (upd o 1 ((o 1) + 1)) 5 u1) n t) fun u10 =>
      if u10.1 = 0 then
        (0, u10.2)
      else
        zl (f_X3_isSkipped u10.2 n t 59) fun u15 =>
        if u15.1 = 0 then
          (0, u15.2)
        else
          (1, u15.2)
    else
      if u1 = 110 then
        zl (f_X3_isSkipped (upd (upd o 1 ((o 1) + 1)) 5 u1) n t 59) fun u22 =>
        (u22.1, u22.2)
      else
        if u1 = 114 then
          zl (f_X3_areRingNumbersRead (upd (upd o 1 ((o 1) + 1)) 5 u1) n t) fun u26 =>
          if u26.1 = 0 then
            (0, u26.2)
          else
            zl (f_X3_isSkipped u26.2 n t 59) fun u31 =>
            if u31.1 = 0 then
              (0, u31.2)
            else
              (1, u31.2)
        else
          if u1 = 115 then
            zl (f_X3_isNumberRead (upd (upd o 1 ((o 1) + 1)) 5 u1) n t) fun u38 =>
            if u38.1 = 0 then
              (0, u38.2)
            else
              zl (f_X3_isSkipped u38.2 n t 59) fun u43 =>
              if u43.1 = 0 then
                (0, u43.2)
              else
                (1, u43.2)
          else
            if u1 = 120 then
              zl (f_X3_isNumberRead (upd (upd o 1 ((o 1) + 1)) 5 u1) n t) fun u50 =>
              if u50.1 = 0 then
                (0, u50.2)
              else
                zl (f_X3_isSkipped u50.2 n t 59) fun u55 =>
                if u55.1 = 0 then
                  (0, u55.2)
                else
                  (1, u55.2)
            else
              (0, upd o 5 u1)
    ) := rfl
abbrev rm_X3_isRead : Room := { frames := 4, cells := 0, slots := 0, locals := 86 }
set_option maxHeartbeats 1000000 in
set_option maxRecDepth 100000 in
theorem c_X3_isRead (l : Launch) (T : zT) (O : Nat → Nat) (o : Nat → Int32) (n : Int32) (t : Nat → Int32) (hn0 : 0 ≤ n) (ht : ∀ j : Nat, narrow .char (.int (t j)) = .int (t j)) : Ci l yX3_isRead wsX3_isRead rm_X3_isRead T .boolean [.ref (O 0)] [(O 0, .inr (3, [.ref (O 1), .int (o 0), .int (o 1), .int (o 2), .int (o 3), .int (o 4), .int (o 5), .int (o 6), .int (o 7), .int (o 8)])), (O 1, .inr (8, [.ref (O 2), .int n])), (O 2, .inl (T.2.1, 60, .inl t))] (S := Int32 × (Nat → Int32)) (f_X3_isRead o n t) (fun u => u.1) (fun u => [(O 0, .inr (3, [.ref (O 1), .int (u.2 0), .int (u.2 1), .int (u.2 2), .int (u.2 3), .int (u.2 4), .int (u.2 5), .int (u.2 6), .int (u.2 7), .int (u.2 8)])), (O 1, .inr (8, [.ref (O 2), .int n])), (O 2, .inl (T.2.1, 60, .inl t))]) := by
  refine z_metI (own := RX3) (maxL := 1) rfl (by decide) rfl (Nat.le_of_ble_eq_true rfl) ?_
  intro P0 E0 S0 M0 G0 B0 T0 K0 A9 Q9 C E
  have hx := C.1.1
  have hb := C.1.2.1
  have hown := C.1.2.2.2.1
  have hts := C.1.2.2.2.2
  have hn := C.2.1.2
  have iX3 : ∀ w ∈ u_ws RX3 TX3 10, w ∈ wsX3_isRead := by decide +kernel
  have k13 := hts (.fieldLink RX3 13 "JudgedBits$Orders" "place" "I") (by decide +kernel)
  have k27 := hts (.fieldLink RX3 27 "JudgedBits$Orders" "kind" "I") (by decide +kernel)
  have k40 := hts (.fieldLink RX3 40 "JudgedBits$Orders" "text" "LJudgedBits$Text;") (by decide +kernel)
  change Z P0 l E0 rm_X3_isRead S0 M0 G0 B0 T0 K0 1 T A9 Q9 0 0 [(O 0, .inr (3, [.ref (O 1), .int (o 0), .int (o 1), .int (o 2), .int (o 3), .int (o 4), .int (o 5), .int (o 6), .int (o 7), .int (o 8)])), (O 1, .inr (8, [.ref (O 2), .int n])), (O 2, .inl (T.2.1, 60, .inl t))] 0 [(0, .ref (O 0))] []
  have zh0 := fe_X3_isRead o n t
  refine Z.of (pc' := 1) (fun _ _ _ hl => lv_aload_n hx hb dX3_isRead_0 rfl (lv_at hl 0 rfl)) ?_
  refine Z.of (pc' := 2) (fun _ _ _ hl => lv_aload_n hx hb dX3_isRead_1 rfl (lv_at hl 0 rfl)) ?_
  refine z_get C iX3 0 0 k40 rfl rfl (by decide) rfl rfl dX3_isRead_2 rfl ?_
  refine Z.of (pc' := 6) (fun _ _ _ hl => lv_aload_n hx hb dX3_isRead_5 rfl (lv_at hl 0 rfl)) ?_
  refine z_get C iX3 0 2 k13 rfl rfl (by decide) rfl rfl dX3_isRead_6 rfl ?_
  refine z_callVi C (c_X8_at l T (O 1) (O 2) n t (o 1) hn0 ht) [1, 2] [0] rfl (by decide +kernel) (fun u1 => [(O 0, .inr (3, [.ref (O 1), .int (o 0), .int (o 1), .int (o 2), .int (o 3), .int (o 4), .int (o 5), .int (o 6), .int (o 7), .int (o 8)])), (O 1, .inr (8, [.ref (O 2), .int n])), (O 2, .inl (T.2.1, 60, .inl t))]) (fun _ => rfl) [(O 0, .inr (3, [.ref (O 1), .int (o 0), .int (o 1), .int (o 2), .int (o 3), .int (o 4), .int (o 5), .int (o 6), .int (o 7), .int (o 8)]))] rfl (fun _ => rfl) [O 0, O 1, O 2] rfl (fun _ => rfl) 3 (fun _ => rfl) (by decide +kernel) (cwV 1 hts gX3_isRead_X8_at rfl rfl rfl (by decide +kernel) ⟨Nat.le_of_ble_eq_true rfl, Nat.le_of_ble_eq_true rfl⟩) 1 rfl rfl rfl (As := [.int (o 1)]) (rest := [.ref (O 0)]) rfl rfl (Nat.le_of_ble_eq_true rfl) dX3_isRead_9 rfl ⟨Nat.zero_le _, Nat.zero_le _⟩ (fun u1 eu1 bu1 => ?_)
  have zh2 := zl_e zh0 eu1
  refine z_put C iX3 tyX3_ok nmX3 0 6 k27 rfl rfl (by decide) rfl rfl rfl rfl (Nat.le_of_ble_eq_true rfl) dX3_isRead_12 rfl [(O 0, .inr (3, [.ref (O 1), .int (o 0), .int (o 1), .int (o 2), .int (o 3), .int (o 4), .int u1, .int (o 6), .int (o 7), .int (o 8)])), (O 1, .inr (8, [.ref (O 2), .int n])), (O 2, .inl (T.2.1, 60, .inl t))] rfl ?_
  refine Z.of (pc' := 16) (fun _ _ _ hl => lv_aload_n hx hb dX3_isRead_15 rfl (lv_at hl 0 rfl)) ?_
  refine z_get C iX3 0 6 k27 rfl rfl (by decide) rfl rfl dX3_isRead_16 rfl ?_
  by_cases c3 : u1 = 100
  · have zh8 := zh2.trans (if_pos c3)
    refine Z.of (pc' := 85) (fun _ _ _ _ => lv_lookup (off := 66) hx hb dX3_isRead_19 (by decide) (by rw [c3]; rfl) (by decide)) ?_
    refine Z.of (pc' := 86) (fun _ _ _ hl => lv_aload_n hx hb dX3_isRead_85 rfl (lv_at hl 0 rfl)) ?_
    refine Z.of (pc' := 87) (fun _ _ _ hl => lv_dup hx hb dX3_isRead_86 rfl) ?_
    refine z_get C iX3 0 2 k13 rfl rfl (by decide) rfl rfl dX3_isRead_87 rfl ?_
    refine Z.of (pc' := 91) (fun _ _ _ _ => lv_iconst (v := 1) hx hb dX3_isRead_90 (by decide)) ?_
    refine Z.of (pc' := 92) (fun _ _ _ hl => lv_iadd hx hb dX3_isRead_91) ?_
    refine z_put C iX3 tyX3_ok nmX3 0 2 k13 rfl rfl (by decide) rfl rfl rfl rfl (Nat.le_of_ble_eq_true rfl) dX3_isRead_92 rfl [(O 0, .inr (3, [.ref (O 1), .int (o 0), .int ((o 1) + 1), .int (o 2), .int (o 3), .int (o 4), .int u1, .int (o 6), .int (o 7), .int (o 8)])), (O 1, .inr (8, [.ref (O 2), .int n])), (O 2, .inl (T.2.1, 60, .inl t))] rfl ?_
    refine Z.of (pc' := 96) (fun _ _ _ hl => lv_aload_n hx hb dX3_isRead_95 rfl (lv_at hl 0 rfl)) ?_
    refine z_callVi C (c_X3_isNumberRead l T O (upd (upd o 1 ((o 1) + 1)) 5 u1) n t hn0 ht) [0, 1, 2] [] rfl (by decide +kernel) (fun u10 => [(O 0, .inr (3, [.ref (O 1), .int (u10.2 0), .int (u10.2 1), .int (u10.2 2), .int (u10.2 3), .int (u10.2 4), .int (u10.2 5), .int (u10.2 6), .int (u10.2 7), .int (u10.2 8)])), (O 1, .inr (8, [.ref (O 2), .int n])), (O 2, .inl (T.2.1, 60, .inl t))]) (fun _ => rfl) [] rfl (fun _ => rfl) [O 0, O 1, O 2] rfl (fun _ => rfl) 3 (fun _ => rfl) (by decide +kernel) (cwV 0 hts gX3_isRead_X3_isNumberRead rfl rfl rfl (by decide +kernel) ⟨Nat.le_of_ble_eq_true rfl, Nat.le_of_ble_eq_true rfl⟩) 0 rfl rfl rfl (As := []) (rest := []) rfl rfl (Nat.le_of_ble_eq_true rfl) dX3_isRead_96 rfl ⟨Nat.zero_le _, Nat.zero_le _⟩ (fun u10 eu10 bu10 => ?_)
    have zh11 := zl_e zh8 eu10
    refine Z.two (pt := 115) (pf := 102) (fun _ _ _ _ => lv_if_eq hx hb dX3_isRead_99 (by decide)) (fun c12 => ?_) (fun c12 => ?_)
    · have zh13 := zh11.trans (if_pos c12)
      refine Z.of (pc' := 116) (fun _ _ _ _ => lv_iconst (v := 0) hx hb dX3_isRead_115 (by decide)) ?_
      exact E (0, u10.2) _ _ _ _ dX3_isRead_116 rfl rfl rfl zh13
    · have zh14 := zh11.trans (if_neg c12)
      refine Z.of (pc' := 103) (fun _ _ _ hl => lv_aload_n hx hb dX3_isRead_102 rfl (lv_at hl 0 rfl)) ?_
      refine Z.of (pc' := 105) (fun _ _ _ _ => lv_bipush (v := 59) hx hb dX3_isRead_103 (by decide)) ?_
      refine z_callVi C (c_X3_isSkipped l T O u10.2 n t 59 hn0 ht) [0, 1, 2] [] rfl (by decide +kernel) (fun u15 => [(O 0, .inr (3, [.ref (O 1), .int (u15.2 0), .int (u15.2 1), .int (u15.2 2), .int (u15.2 3), .int (u15.2 4), .int (u15.2 5), .int (u15.2 6), .int (u15.2 7), .int (u15.2 8)])), (O 1, .inr (8, [.ref (O 2), .int n])), (O 2, .inl (T.2.1, 60, .inl t))]) (fun _ => rfl) [] rfl (fun _ => rfl) [O 0, O 1, O 2] rfl (fun _ => rfl) 3 (fun _ => rfl) (by decide +kernel) (cwV 1 hts gX3_isRead_X3_isSkipped rfl rfl rfl (by decide +kernel) ⟨Nat.le_of_ble_eq_true rfl, Nat.le_of_ble_eq_true rfl⟩) 0 rfl rfl rfl (As := [.int 59]) (rest := []) rfl rfl (Nat.le_of_ble_eq_true rfl) dX3_isRead_105 rfl ⟨Nat.zero_le _, Nat.zero_le _⟩ (fun u15 eu15 bu15 => ?_)
      have zh16 := zl_e zh14 eu15
      refine Z.two (pt := 115) (pf := 111) (fun _ _ _ _ => lv_if_eq hx hb dX3_isRead_108 (by decide)) (fun c17 => ?_) (fun c17 => ?_)
      · have zh18 := zh16.trans (if_pos c17)
        refine Z.of (pc' := 116) (fun _ _ _ _ => lv_iconst (v := 0) hx hb dX3_isRead_115 (by decide)) ?_
        exact E (0, u15.2) _ _ _ _ dX3_isRead_116 rfl rfl rfl zh18
      · have zh19 := zh16.trans (if_neg c17)
        refine Z.of (pc' := 112) (fun _ _ _ _ => lv_iconst (v := 1) hx hb dX3_isRead_111 (by decide)) ?_
        refine Z.of (pc' := 116) (fun _ _ _ _ => lv_goto hx hb dX3_isRead_112 (by decide)) ?_
        exact E (1, u15.2) _ _ _ _ dX3_isRead_116 rfl rfl rfl zh19
  · have zh9 := zh2.trans (if_neg c3)
    by_cases c4 : u1 = 110
    · have zh20 := zh9.trans (if_pos c4)
      refine Z.of (pc' := 68) (fun _ _ _ _ => lv_lookup (off := 49) hx hb dX3_isRead_19 (by decide) (by rw [c4]; rfl) (by decide)) ?_
      refine Z.of (pc' := 69) (fun _ _ _ hl => lv_aload_n hx hb dX3_isRead_68 rfl (lv_at hl 0 rfl)) ?_
      refine Z.of (pc' := 70) (fun _ _ _ hl => lv_dup hx hb dX3_isRead_69 rfl) ?_
      refine z_get C iX3 0 2 k13 rfl rfl (by decide) rfl rfl dX3_isRead_70 rfl ?_
      refine Z.of (pc' := 74) (fun _ _ _ _ => lv_iconst (v := 1) hx hb dX3_isRead_73 (by decide)) ?_
      refine Z.of (pc' := 75) (fun _ _ _ hl => lv_iadd hx hb dX3_isRead_74) ?_
      refine z_put C iX3 tyX3_ok nmX3 0 2 k13 rfl rfl (by decide) rfl rfl rfl rfl (Nat.le_of_ble_eq_true rfl) dX3_isRead_75 rfl [(O 0, .inr (3, [.ref (O 1), .int (o 0), .int ((o 1) + 1), .int (o 2), .int (o 3), .int (o 4), .int u1, .int (o 6), .int (o 7), .int (o 8)])), (O 1, .inr (8, [.ref (O 2), .int n])), (O 2, .inl (T.2.1, 60, .inl t))] rfl ?_
      refine Z.of (pc' := 79) (fun _ _ _ hl => lv_aload_n hx hb dX3_isRead_78 rfl (lv_at hl 0 rfl)) ?_
      refine Z.of (pc' := 81) (fun _ _ _ _ => lv_bipush (v := 59) hx hb dX3_isRead_79 (by decide)) ?_
      refine z_callVi C (c_X3_isSkipped l T O (upd (upd o 1 ((o 1) + 1)) 5 u1) n t 59 hn0 ht) [0, 1, 2] [] rfl (by decide +kernel) (fun u22 => [(O 0, .inr (3, [.ref (O 1), .int (u22.2 0), .int (u22.2 1), .int (u22.2 2), .int (u22.2 3), .int (u22.2 4), .int (u22.2 5), .int (u22.2 6), .int (u22.2 7), .int (u22.2 8)])), (O 1, .inr (8, [.ref (O 2), .int n])), (O 2, .inl (T.2.1, 60, .inl t))]) (fun _ => rfl) [] rfl (fun _ => rfl) [O 0, O 1, O 2] rfl (fun _ => rfl) 3 (fun _ => rfl) (by decide +kernel) (cwV 1 hts gX3_isRead_X3_isSkipped rfl rfl rfl (by decide +kernel) ⟨Nat.le_of_ble_eq_true rfl, Nat.le_of_ble_eq_true rfl⟩) 0 rfl rfl rfl (As := [.int 59]) (rest := []) rfl rfl (Nat.le_of_ble_eq_true rfl) dX3_isRead_81 rfl ⟨Nat.zero_le _, Nat.zero_le _⟩ (fun u22 eu22 bu22 => ?_)
      have zh23 := zl_e zh20 eu22
      exact E (u22.1, u22.2) _ _ _ _ dX3_isRead_84 bu22 rfl rfl zh23
    · have zh21 := zh9.trans (if_neg c4)
      by_cases c5 : u1 = 114
      · have zh24 := zh21.trans (if_pos c5)
        refine Z.of (pc' := 117) (fun _ _ _ _ => lv_lookup (off := 98) hx hb dX3_isRead_19 (by decide) (by rw [c5]; rfl) (by decide)) ?_
        refine Z.of (pc' := 118) (fun _ _ _ hl => lv_aload_n hx hb dX3_isRead_117 rfl (lv_at hl 0 rfl)) ?_
        refine Z.of (pc' := 119) (fun _ _ _ hl => lv_dup hx hb dX3_isRead_118 rfl) ?_
        refine z_get C iX3 0 2 k13 rfl rfl (by decide) rfl rfl dX3_isRead_119 rfl ?_
        refine Z.of (pc' := 123) (fun _ _ _ _ => lv_iconst (v := 1) hx hb dX3_isRead_122 (by decide)) ?_
        refine Z.of (pc' := 124) (fun _ _ _ hl => lv_iadd hx hb dX3_isRead_123) ?_
        refine z_put C iX3 tyX3_ok nmX3 0 2 k13 rfl rfl (by decide) rfl rfl rfl rfl (Nat.le_of_ble_eq_true rfl) dX3_isRead_124 rfl [(O 0, .inr (3, [.ref (O 1), .int (o 0), .int ((o 1) + 1), .int (o 2), .int (o 3), .int (o 4), .int u1, .int (o 6), .int (o 7), .int (o 8)])), (O 1, .inr (8, [.ref (O 2), .int n])), (O 2, .inl (T.2.1, 60, .inl t))] rfl ?_
        refine Z.of (pc' := 128) (fun _ _ _ hl => lv_aload_n hx hb dX3_isRead_127 rfl (lv_at hl 0 rfl)) ?_
        refine z_callVi C (c_X3_areRingNumbersRead l T O (upd (upd o 1 ((o 1) + 1)) 5 u1) n t hn0 ht) [0, 1, 2] [] rfl (by decide +kernel) (fun u26 => [(O 0, .inr (3, [.ref (O 1), .int (u26.2 0), .int (u26.2 1), .int (u26.2 2), .int (u26.2 3), .int (u26.2 4), .int (u26.2 5), .int (u26.2 6), .int (u26.2 7), .int (u26.2 8)])), (O 1, .inr (8, [.ref (O 2), .int n])), (O 2, .inl (T.2.1, 60, .inl t))]) (fun _ => rfl) [] rfl (fun _ => rfl) [O 0, O 1, O 2] rfl (fun _ => rfl) 3 (fun _ => rfl) (by decide +kernel) (cwV 0 hts gX3_isRead_X3_areRingNumbersRead rfl rfl rfl (by decide +kernel) ⟨Nat.le_of_ble_eq_true rfl, Nat.le_of_ble_eq_true rfl⟩) 0 rfl rfl rfl (As := []) (rest := []) rfl rfl (Nat.le_of_ble_eq_true rfl) dX3_isRead_128 rfl ⟨Nat.zero_le _, Nat.zero_le _⟩ (fun u26 eu26 bu26 => ?_)
        have zh27 := zl_e zh24 eu26
        refine Z.two (pt := 147) (pf := 134) (fun _ _ _ _ => lv_if_eq hx hb dX3_isRead_131 (by decide)) (fun c28 => ?_) (fun c28 => ?_)
        · have zh29 := zh27.trans (if_pos c28)
          refine Z.of (pc' := 148) (fun _ _ _ _ => lv_iconst (v := 0) hx hb dX3_isRead_147 (by decide)) ?_
          exact E (0, u26.2) _ _ _ _ dX3_isRead_148 rfl rfl rfl zh29
        · have zh30 := zh27.trans (if_neg c28)
          refine Z.of (pc' := 135) (fun _ _ _ hl => lv_aload_n hx hb dX3_isRead_134 rfl (lv_at hl 0 rfl)) ?_
          refine Z.of (pc' := 137) (fun _ _ _ _ => lv_bipush (v := 59) hx hb dX3_isRead_135 (by decide)) ?_
          refine z_callVi C (c_X3_isSkipped l T O u26.2 n t 59 hn0 ht) [0, 1, 2] [] rfl (by decide +kernel) (fun u31 => [(O 0, .inr (3, [.ref (O 1), .int (u31.2 0), .int (u31.2 1), .int (u31.2 2), .int (u31.2 3), .int (u31.2 4), .int (u31.2 5), .int (u31.2 6), .int (u31.2 7), .int (u31.2 8)])), (O 1, .inr (8, [.ref (O 2), .int n])), (O 2, .inl (T.2.1, 60, .inl t))]) (fun _ => rfl) [] rfl (fun _ => rfl) [O 0, O 1, O 2] rfl (fun _ => rfl) 3 (fun _ => rfl) (by decide +kernel) (cwV 1 hts gX3_isRead_X3_isSkipped rfl rfl rfl (by decide +kernel) ⟨Nat.le_of_ble_eq_true rfl, Nat.le_of_ble_eq_true rfl⟩) 0 rfl rfl rfl (As := [.int 59]) (rest := []) rfl rfl (Nat.le_of_ble_eq_true rfl) dX3_isRead_137 rfl ⟨Nat.zero_le _, Nat.zero_le _⟩ (fun u31 eu31 bu31 => ?_)
          have zh32 := zl_e zh30 eu31
          refine Z.two (pt := 147) (pf := 143) (fun _ _ _ _ => lv_if_eq hx hb dX3_isRead_140 (by decide)) (fun c33 => ?_) (fun c33 => ?_)
          · have zh34 := zh32.trans (if_pos c33)
            refine Z.of (pc' := 148) (fun _ _ _ _ => lv_iconst (v := 0) hx hb dX3_isRead_147 (by decide)) ?_
            exact E (0, u31.2) _ _ _ _ dX3_isRead_148 rfl rfl rfl zh34
          · have zh35 := zh32.trans (if_neg c33)
            refine Z.of (pc' := 144) (fun _ _ _ _ => lv_iconst (v := 1) hx hb dX3_isRead_143 (by decide)) ?_
            refine Z.of (pc' := 148) (fun _ _ _ _ => lv_goto hx hb dX3_isRead_144 (by decide)) ?_
            exact E (1, u31.2) _ _ _ _ dX3_isRead_148 rfl rfl rfl zh35
      · have zh25 := zh21.trans (if_neg c5)
        by_cases c6 : u1 = 115
        · have zh36 := zh25.trans (if_pos c6)
          refine Z.of (pc' := 85) (fun _ _ _ _ => lv_lookup (off := 66) hx hb dX3_isRead_19 (by decide) (by rw [c6]; rfl) (by decide)) ?_
          refine Z.of (pc' := 86) (fun _ _ _ hl => lv_aload_n hx hb dX3_isRead_85 rfl (lv_at hl 0 rfl)) ?_
          refine Z.of (pc' := 87) (fun _ _ _ hl => lv_dup hx hb dX3_isRead_86 rfl) ?_
          refine z_get C iX3 0 2 k13 rfl rfl (by decide) rfl rfl dX3_isRead_87 rfl ?_
          refine Z.of (pc' := 91) (fun _ _ _ _ => lv_iconst (v := 1) hx hb dX3_isRead_90 (by decide)) ?_
          refine Z.of (pc' := 92) (fun _ _ _ hl => lv_iadd hx hb dX3_isRead_91) ?_
          refine z_put C iX3 tyX3_ok nmX3 0 2 k13 rfl rfl (by decide) rfl rfl rfl rfl (Nat.le_of_ble_eq_true rfl) dX3_isRead_92 rfl [(O 0, .inr (3, [.ref (O 1), .int (o 0), .int ((o 1) + 1), .int (o 2), .int (o 3), .int (o 4), .int u1, .int (o 6), .int (o 7), .int (o 8)])), (O 1, .inr (8, [.ref (O 2), .int n])), (O 2, .inl (T.2.1, 60, .inl t))] rfl ?_
          refine Z.of (pc' := 96) (fun _ _ _ hl => lv_aload_n hx hb dX3_isRead_95 rfl (lv_at hl 0 rfl)) ?_
          refine z_callVi C (c_X3_isNumberRead l T O (upd (upd o 1 ((o 1) + 1)) 5 u1) n t hn0 ht) [0, 1, 2] [] rfl (by decide +kernel) (fun u38 => [(O 0, .inr (3, [.ref (O 1), .int (u38.2 0), .int (u38.2 1), .int (u38.2 2), .int (u38.2 3), .int (u38.2 4), .int (u38.2 5), .int (u38.2 6), .int (u38.2 7), .int (u38.2 8)])), (O 1, .inr (8, [.ref (O 2), .int n])), (O 2, .inl (T.2.1, 60, .inl t))]) (fun _ => rfl) [] rfl (fun _ => rfl) [O 0, O 1, O 2] rfl (fun _ => rfl) 3 (fun _ => rfl) (by decide +kernel) (cwV 0 hts gX3_isRead_X3_isNumberRead rfl rfl rfl (by decide +kernel) ⟨Nat.le_of_ble_eq_true rfl, Nat.le_of_ble_eq_true rfl⟩) 0 rfl rfl rfl (As := []) (rest := []) rfl rfl (Nat.le_of_ble_eq_true rfl) dX3_isRead_96 rfl ⟨Nat.zero_le _, Nat.zero_le _⟩ (fun u38 eu38 bu38 => ?_)
          have zh39 := zl_e zh36 eu38
          refine Z.two (pt := 115) (pf := 102) (fun _ _ _ _ => lv_if_eq hx hb dX3_isRead_99 (by decide)) (fun c40 => ?_) (fun c40 => ?_)
          · have zh41 := zh39.trans (if_pos c40)
            refine Z.of (pc' := 116) (fun _ _ _ _ => lv_iconst (v := 0) hx hb dX3_isRead_115 (by decide)) ?_
            exact E (0, u38.2) _ _ _ _ dX3_isRead_116 rfl rfl rfl zh41
          · have zh42 := zh39.trans (if_neg c40)
            refine Z.of (pc' := 103) (fun _ _ _ hl => lv_aload_n hx hb dX3_isRead_102 rfl (lv_at hl 0 rfl)) ?_
            refine Z.of (pc' := 105) (fun _ _ _ _ => lv_bipush (v := 59) hx hb dX3_isRead_103 (by decide)) ?_
            refine z_callVi C (c_X3_isSkipped l T O u38.2 n t 59 hn0 ht) [0, 1, 2] [] rfl (by decide +kernel) (fun u43 => [(O 0, .inr (3, [.ref (O 1), .int (u43.2 0), .int (u43.2 1), .int (u43.2 2), .int (u43.2 3), .int (u43.2 4), .int (u43.2 5), .int (u43.2 6), .int (u43.2 7), .int (u43.2 8)])), (O 1, .inr (8, [.ref (O 2), .int n])), (O 2, .inl (T.2.1, 60, .inl t))]) (fun _ => rfl) [] rfl (fun _ => rfl) [O 0, O 1, O 2] rfl (fun _ => rfl) 3 (fun _ => rfl) (by decide +kernel) (cwV 1 hts gX3_isRead_X3_isSkipped rfl rfl rfl (by decide +kernel) ⟨Nat.le_of_ble_eq_true rfl, Nat.le_of_ble_eq_true rfl⟩) 0 rfl rfl rfl (As := [.int 59]) (rest := []) rfl rfl (Nat.le_of_ble_eq_true rfl) dX3_isRead_105 rfl ⟨Nat.zero_le _, Nat.zero_le _⟩ (fun u43 eu43 bu43 => ?_)
            have zh44 := zl_e zh42 eu43
            refine Z.two (pt := 115) (pf := 111) (fun _ _ _ _ => lv_if_eq hx hb dX3_isRead_108 (by decide)) (fun c45 => ?_) (fun c45 => ?_)
            · have zh46 := zh44.trans (if_pos c45)
              refine Z.of (pc' := 116) (fun _ _ _ _ => lv_iconst (v := 0) hx hb dX3_isRead_115 (by decide)) ?_
              exact E (0, u43.2) _ _ _ _ dX3_isRead_116 rfl rfl rfl zh46
            · have zh47 := zh44.trans (if_neg c45)
              refine Z.of (pc' := 112) (fun _ _ _ _ => lv_iconst (v := 1) hx hb dX3_isRead_111 (by decide)) ?_
              refine Z.of (pc' := 116) (fun _ _ _ _ => lv_goto hx hb dX3_isRead_112 (by decide)) ?_
              exact E (1, u43.2) _ _ _ _ dX3_isRead_116 rfl rfl rfl zh47
        · have zh37 := zh25.trans (if_neg c6)
          by_cases c7 : u1 = 120
          · have zh48 := zh37.trans (if_pos c7)
            refine Z.of (pc' := 85) (fun _ _ _ _ => lv_lookup (off := 66) hx hb dX3_isRead_19 (by decide) (by rw [c7]; rfl) (by decide)) ?_
            refine Z.of (pc' := 86) (fun _ _ _ hl => lv_aload_n hx hb dX3_isRead_85 rfl (lv_at hl 0 rfl)) ?_
            refine Z.of (pc' := 87) (fun _ _ _ hl => lv_dup hx hb dX3_isRead_86 rfl) ?_
            refine z_get C iX3 0 2 k13 rfl rfl (by decide) rfl rfl dX3_isRead_87 rfl ?_
            refine Z.of (pc' := 91) (fun _ _ _ _ => lv_iconst (v := 1) hx hb dX3_isRead_90 (by decide)) ?_
            refine Z.of (pc' := 92) (fun _ _ _ hl => lv_iadd hx hb dX3_isRead_91) ?_
            refine z_put C iX3 tyX3_ok nmX3 0 2 k13 rfl rfl (by decide) rfl rfl rfl rfl (Nat.le_of_ble_eq_true rfl) dX3_isRead_92 rfl [(O 0, .inr (3, [.ref (O 1), .int (o 0), .int ((o 1) + 1), .int (o 2), .int (o 3), .int (o 4), .int u1, .int (o 6), .int (o 7), .int (o 8)])), (O 1, .inr (8, [.ref (O 2), .int n])), (O 2, .inl (T.2.1, 60, .inl t))] rfl ?_
            refine Z.of (pc' := 96) (fun _ _ _ hl => lv_aload_n hx hb dX3_isRead_95 rfl (lv_at hl 0 rfl)) ?_
            refine z_callVi C (c_X3_isNumberRead l T O (upd (upd o 1 ((o 1) + 1)) 5 u1) n t hn0 ht) [0, 1, 2] [] rfl (by decide +kernel) (fun u50 => [(O 0, .inr (3, [.ref (O 1), .int (u50.2 0), .int (u50.2 1), .int (u50.2 2), .int (u50.2 3), .int (u50.2 4), .int (u50.2 5), .int (u50.2 6), .int (u50.2 7), .int (u50.2 8)])), (O 1, .inr (8, [.ref (O 2), .int n])), (O 2, .inl (T.2.1, 60, .inl t))]) (fun _ => rfl) [] rfl (fun _ => rfl) [O 0, O 1, O 2] rfl (fun _ => rfl) 3 (fun _ => rfl) (by decide +kernel) (cwV 0 hts gX3_isRead_X3_isNumberRead rfl rfl rfl (by decide +kernel) ⟨Nat.le_of_ble_eq_true rfl, Nat.le_of_ble_eq_true rfl⟩) 0 rfl rfl rfl (As := []) (rest := []) rfl rfl (Nat.le_of_ble_eq_true rfl) dX3_isRead_96 rfl ⟨Nat.zero_le _, Nat.zero_le _⟩ (fun u50 eu50 bu50 => ?_)
            have zh51 := zl_e zh48 eu50
            refine Z.two (pt := 115) (pf := 102) (fun _ _ _ _ => lv_if_eq hx hb dX3_isRead_99 (by decide)) (fun c52 => ?_) (fun c52 => ?_)
            · have zh53 := zh51.trans (if_pos c52)
              refine Z.of (pc' := 116) (fun _ _ _ _ => lv_iconst (v := 0) hx hb dX3_isRead_115 (by decide)) ?_
              exact E (0, u50.2) _ _ _ _ dX3_isRead_116 rfl rfl rfl zh53
            · have zh54 := zh51.trans (if_neg c52)
              refine Z.of (pc' := 103) (fun _ _ _ hl => lv_aload_n hx hb dX3_isRead_102 rfl (lv_at hl 0 rfl)) ?_
              refine Z.of (pc' := 105) (fun _ _ _ _ => lv_bipush (v := 59) hx hb dX3_isRead_103 (by decide)) ?_
              refine z_callVi C (c_X3_isSkipped l T O u50.2 n t 59 hn0 ht) [0, 1, 2] [] rfl (by decide +kernel) (fun u55 => [(O 0, .inr (3, [.ref (O 1), .int (u55.2 0), .int (u55.2 1), .int (u55.2 2), .int (u55.2 3), .int (u55.2 4), .int (u55.2 5), .int (u55.2 6), .int (u55.2 7), .int (u55.2 8)])), (O 1, .inr (8, [.ref (O 2), .int n])), (O 2, .inl (T.2.1, 60, .inl t))]) (fun _ => rfl) [] rfl (fun _ => rfl) [O 0, O 1, O 2] rfl (fun _ => rfl) 3 (fun _ => rfl) (by decide +kernel) (cwV 1 hts gX3_isRead_X3_isSkipped rfl rfl rfl (by decide +kernel) ⟨Nat.le_of_ble_eq_true rfl, Nat.le_of_ble_eq_true rfl⟩) 0 rfl rfl rfl (As := [.int 59]) (rest := []) rfl rfl (Nat.le_of_ble_eq_true rfl) dX3_isRead_105 rfl ⟨Nat.zero_le _, Nat.zero_le _⟩ (fun u55 eu55 bu55 => ?_)
              have zh56 := zl_e zh54 eu55
              refine Z.two (pt := 115) (pf := 111) (fun _ _ _ _ => lv_if_eq hx hb dX3_isRead_108 (by decide)) (fun c57 => ?_) (fun c57 => ?_)
              · have zh58 := zh56.trans (if_pos c57)
                refine Z.of (pc' := 116) (fun _ _ _ _ => lv_iconst (v := 0) hx hb dX3_isRead_115 (by decide)) ?_
                exact E (0, u55.2) _ _ _ _ dX3_isRead_116 rfl rfl rfl zh58
              · have zh59 := zh56.trans (if_neg c57)
                refine Z.of (pc' := 112) (fun _ _ _ _ => lv_iconst (v := 1) hx hb dX3_isRead_111 (by decide)) ?_
                refine Z.of (pc' := 116) (fun _ _ _ _ => lv_goto hx hb dX3_isRead_112 (by decide)) ?_
                exact E (1, u55.2) _ _ _ _ dX3_isRead_116 rfl rfl rfl zh59
          · have zh49 := zh37.trans (if_neg c7)
            refine Z.of (pc' := 149) (fun _ _ _ _ => lv_lookup (off := (130)) hx hb dX3_isRead_19 (by decide) ((lv_osw c3 rfl).trans ((lv_osw c4 rfl).trans ((lv_osw c5 rfl).trans ((lv_osw c6 rfl).trans ((lv_osw c7 rfl).trans rfl))))) (by decide)) ?_
            refine Z.of (pc' := 150) (fun _ _ _ _ => lv_iconst (v := 0) hx hb dX3_isRead_149 (by decide)) ?_
            exact E (0, upd o 5 u1) _ _ _ _ dX3_isRead_150 rfl rfl rfl zh49
theorem isSkipped_fr (o : Nat → Int32) (n : Int32) (t : Nat → Int32) (w : Int32) (j : Nat) (h1 : j ≠ 1) : (f_X3_isSkipped o n t w).2 j = o j := by
  unfold f_X3_isSkipped
  simp only [zl]
  split
  · simp [upd, h1]
  · rfl
theorem isNumberRead_frl (o : Nat → Int32) (n : Int32) (t : Nat → Int32) (j : Nat) (h1 : j ≠ 1) (h6 : j ≠ 6) : ∀ (q k : Nat) (ox : Nat → Int32), ox j = o j → (lp10_X3_isNumberRead o n t q k ox).2 j = o j := by
  intro q
  induction q with
  | zero => intro k ox h; rfl
  | succ q ih =>
    intro k ox h
    rw [lp10_X3_isNumberRead_s]
    simp only [zl]
    repeat' split
    all_goals first
      | exact h
      | (refine ih _ _ ?_
         simp only [upd, if_neg h1, if_neg h6]
         exact h)
theorem isNumberRead_fr (o : Nat → Int32) (n : Int32) (t : Nat → Int32) (j : Nat) (h1 : j ≠ 1) (h6 : j ≠ 6) : (f_X3_isNumberRead o n t).2 j = o j := by
  refine isNumberRead_frl o n t j h1 h6 _ _ _ ?_
  simp only [upd, if_neg h6]
theorem areRing_fr (o : Nat → Int32) (n : Int32) (t : Nat → Int32) (j : Nat) (h1 : j ≠ 1) (h6 : j ≠ 6) (h7 : j ≠ 7) (h8 : j ≠ 8) : (f_X3_areRingNumbersRead o n t).2 j = o j := by
  unfold f_X3_areRingNumbersRead
  simp only [zl]
  repeat' split
  all_goals simp only [isNumberRead_fr _ _ _ j h1 h6, isSkipped_fr _ _ _ _ j h1, upd, if_neg h7, if_neg h8]
theorem isRead_fr (o : Nat → Int32) (n : Int32) (t : Nat → Int32) (j : Nat) (h1 : j ≠ 1) (h5 : j ≠ 5) (h6 : j ≠ 6) (h7 : j ≠ 7) (h8 : j ≠ 8) : (f_X3_isRead o n t).2 j = o j := by
  unfold f_X3_isRead
  simp only [zl]
  repeat' split
  all_goals simp only [areRing_fr _ _ _ j h1 h6 h7 h8, isNumberRead_fr _ _ _ j h1 h6, isSkipped_fr _ _ _ _ j h1, upd, if_neg h1, if_neg h5]
theorem isRead_2 (o : Nat → Int32) (n : Int32) (t : Nat → Int32) : (f_X3_isRead o n t).2 2 = o 2 := isRead_fr o n t 2 (by decide) (by decide) (by decide) (by decide) (by decide)
def f_X3_doOn (o : Nat → Int32) (n : Int32) (t : Nat → Int32) (f : Nat → Int32) (rb : Int64) (sb : Int64) : Int32 × (Nat → Int32) × Int64 × Int64 :=
  if (o 5) = 100 then
    zl (f_X6_drawBits f rb sb (o 6)) fun u7 =>
    (u7.1, u7.2.1, rb, u7.2.2)
  else
    if (o 5) = 110 then
      zl (f_X6_startAnew f rb sb) fun u11 =>
      (f 18, u11, rb, 0)
    else
      if (o 5) = 114 then
        zl (f_X6_changeRing f rb sb (o 7) (o 8) (o 6)) fun u15 =>
        (u15.1, u15.2, rb, sb)
      else
        if (o 5) = 115 then
          zl (f_X6_makeSamples f rb sb (o 6)) fun u19 =>
          (u19.1, u19.2.1, u19.2.2.1, u19.2.2.2)
        else
          zl (f_X6_changeNoise f rb sb (o 6)) fun u21 =>
          (u21.1, u21.2, rb, sb)
theorem fe_X3_doOn (o : Nat → Int32) (n : Int32) (t : Nat → Int32) (f : Nat → Int32) (rb : Int64) (sb : Int64) : f_X3_doOn o n t f rb sb = (
    if (o 5) = 100 then
      zl (f_X6_drawBits f rb sb (o 6)) fun u7 =>
      (u7.1, u7.2.1, rb, u7.2.2)
    else
      if (o 5) = 110 then
        zl (f_X6_startAnew f rb sb) fun u11 =>
        (f 18, u11, rb, 0)
      else
        if (o 5) = 114 then
          zl (f_X6_changeRing f rb sb (o 7) (o 8) (o 6)) fun u15 =>
          (u15.1, u15.2, rb, sb)
        else
          if (o 5) = 115 then
            zl (f_X6_makeSamples f rb sb (o 6)) fun u19 =>
            (u19.1, u19.2.1, u19.2.2.1, u19.2.2.2)
          else
            zl (f_X6_changeNoise f rb sb (o 6)) fun u21 =>
            (u21.1, u21.2, rb, sb)
    ) := rfl
abbrev rm_X3_doOn : Room := { frames := 4, cells := 0, slots := 0, locals := 91 }
set_option maxHeartbeats 1000000 in
set_option maxRecDepth 100000 in
theorem c_X3_doOn (l : Launch) (T : zT) (O : Nat → Nat) (A : Nat → Nat) (o : Nat → Int32) (n : Int32) (t : Nat → Int32) (f : Nat → Int32) (rb : Int64) (sb : Int64) : Ci l yX3_doOn wsX3_doOn rm_X3_doOn T .int [.ref (O 0), .ref (A 0)] [(O 0, .inr (3, [.ref (O 1), .int (o 0), .int (o 1), .int (o 2), .int (o 3), .int (o 4), .int (o 5), .int (o 6), .int (o 7), .int (o 8)])), (O 1, .inr (8, [.ref (O 2), .int n])), (O 2, .inl (T.2.1, 60, .inl t)), (A 0, .inr (6, [.ref (A 1), .ref (A 2), .ref (A 3), .ref (A 4), .ref (A 5), .ref (A 6), .ref (A 7), .int (f 0), .int (f 19)])), (A 1, .inr (4, [.int (f 1), .int (f 3), .int (f 5)])), (A 2, .inr (4, [.int (f 2), .int (f 4), .int (f 6)])), (A 3, .inr (5, [.int (f 7), .int (f 8), .int (f 9), .int (f 10)])), (A 4, .inr (1, [.int (f 11), .int (f 12), .int (f 13), .int (f 14), .int (f 15), .int (f 16), .int (f 17)])), (A 5, .inr (0, [.long rb, .int (f 28)])), (A 6, .inr (0, [.long sb, .int (f 18)])), (A 7, .inr (7, [.int (f 20), .int (f 21), .int (f 22), .int (f 23), .int (f 24), .int (f 25), .int (f 26), .int (f 27)]))] (S := Int32 × (Nat → Int32) × Int64 × Int64) (f_X3_doOn o n t f rb sb) (fun u => u.1) (fun u => [(O 0, .inr (3, [.ref (O 1), .int (o 0), .int (o 1), .int (o 2), .int (o 3), .int (o 4), .int (o 5), .int (o 6), .int (o 7), .int (o 8)])), (O 1, .inr (8, [.ref (O 2), .int n])), (O 2, .inl (T.2.1, 60, .inl t)), (A 0, .inr (6, [.ref (A 1), .ref (A 2), .ref (A 3), .ref (A 4), .ref (A 5), .ref (A 6), .ref (A 7), .int (u.2.1 0), .int (u.2.1 19)])), (A 1, .inr (4, [.int (u.2.1 1), .int (u.2.1 3), .int (u.2.1 5)])), (A 2, .inr (4, [.int (u.2.1 2), .int (u.2.1 4), .int (u.2.1 6)])), (A 3, .inr (5, [.int (u.2.1 7), .int (u.2.1 8), .int (u.2.1 9), .int (u.2.1 10)])), (A 4, .inr (1, [.int (u.2.1 11), .int (u.2.1 12), .int (u.2.1 13), .int (u.2.1 14), .int (u.2.1 15), .int (u.2.1 16), .int (u.2.1 17)])), (A 5, .inr (0, [.long u.2.2.1, .int (u.2.1 28)])), (A 6, .inr (0, [.long u.2.2.2, .int (u.2.1 18)])), (A 7, .inr (7, [.int (u.2.1 20), .int (u.2.1 21), .int (u.2.1 22), .int (u.2.1 23), .int (u.2.1 24), .int (u.2.1 25), .int (u.2.1 26), .int (u.2.1 27)]))]) := by
  refine z_metI (own := RX3) (maxL := 2) rfl (by decide) rfl (Nat.le_of_ble_eq_true rfl) ?_
  intro P0 E0 S0 M0 G0 B0 T0 K0 A9 Q9 C E
  have hx := C.1.1
  have hb := C.1.2.1
  have hown := C.1.2.2.2.1
  have hts := C.1.2.2.2.2
  have hn := C.2.1.2
  have iX3 : ∀ w ∈ u_ws RX3 TX3 10, w ∈ wsX3_doOn := by decide +kernel
  have k27 := hts (.fieldLink RX3 27 "JudgedBits$Orders" "kind" "I") (by decide +kernel)
  have k30 := hts (.fieldLink RX3 30 "JudgedBits$Orders" "number" "I") (by decide +kernel)
  have k33 := hts (.fieldLink RX3 33 "JudgedBits$Orders" "first" "I") (by decide +kernel)
  have k36 := hts (.fieldLink RX3 36 "JudgedBits$Orders" "second" "I") (by decide +kernel)
  change Z P0 l E0 rm_X3_doOn S0 M0 G0 B0 T0 K0 2 T A9 Q9 0 0 [(O 0, .inr (3, [.ref (O 1), .int (o 0), .int (o 1), .int (o 2), .int (o 3), .int (o 4), .int (o 5), .int (o 6), .int (o 7), .int (o 8)])), (O 1, .inr (8, [.ref (O 2), .int n])), (O 2, .inl (T.2.1, 60, .inl t)), (A 0, .inr (6, [.ref (A 1), .ref (A 2), .ref (A 3), .ref (A 4), .ref (A 5), .ref (A 6), .ref (A 7), .int (f 0), .int (f 19)])), (A 1, .inr (4, [.int (f 1), .int (f 3), .int (f 5)])), (A 2, .inr (4, [.int (f 2), .int (f 4), .int (f 6)])), (A 3, .inr (5, [.int (f 7), .int (f 8), .int (f 9), .int (f 10)])), (A 4, .inr (1, [.int (f 11), .int (f 12), .int (f 13), .int (f 14), .int (f 15), .int (f 16), .int (f 17)])), (A 5, .inr (0, [.long rb, .int (f 28)])), (A 6, .inr (0, [.long sb, .int (f 18)])), (A 7, .inr (7, [.int (f 20), .int (f 21), .int (f 22), .int (f 23), .int (f 24), .int (f 25), .int (f 26), .int (f 27)]))] 0 [(0, .ref (O 0)), (1, .ref (A 0))] []
  have zh0 := fe_X3_doOn o n t f rb sb
  refine Z.of (pc' := 1) (fun _ _ _ hl => lv_aload_n hx hb dX3_doOn_0 rfl (lv_at hl 0 rfl)) ?_
  refine z_get C iX3 0 6 k27 rfl rfl (by decide) rfl rfl dX3_doOn_1 rfl ?_
  by_cases c1 : (o 5) = 100
  · have zh5 := zh0.trans (if_pos c1)
    refine Z.of (pc' := 74) (fun _ _ _ _ => lv_lookup (off := 70) hx hb dX3_doOn_4 (by decide) (by rw [c1]; rfl) (by decide)) ?_
    refine Z.of (pc' := 75) (fun _ _ _ hl => lv_aload_n hx hb dX3_doOn_74 rfl (lv_at hl 1 rfl)) ?_
    refine Z.of (pc' := 76) (fun _ _ _ hl => lv_aload_n hx hb dX3_doOn_75 rfl (lv_at hl 0 rfl)) ?_
    refine z_get C iX3 0 7 k30 rfl rfl (by decide) rfl rfl dX3_doOn_76 rfl ?_
    refine z_callVi C (c_X6_drawBits l T A f rb sb (o 6)) [3, 4, 5, 6, 7, 8, 9, 10] [0, 1, 2] rfl (by decide +kernel) (fun u7 => [(O 0, .inr (3, [.ref (O 1), .int (o 0), .int (o 1), .int (o 2), .int (o 3), .int (o 4), .int (o 5), .int (o 6), .int (o 7), .int (o 8)])), (O 1, .inr (8, [.ref (O 2), .int n])), (O 2, .inl (T.2.1, 60, .inl t)), (A 0, .inr (6, [.ref (A 1), .ref (A 2), .ref (A 3), .ref (A 4), .ref (A 5), .ref (A 6), .ref (A 7), .int (u7.2.1 0), .int (u7.2.1 19)])), (A 1, .inr (4, [.int (u7.2.1 1), .int (u7.2.1 3), .int (u7.2.1 5)])), (A 2, .inr (4, [.int (u7.2.1 2), .int (u7.2.1 4), .int (u7.2.1 6)])), (A 3, .inr (5, [.int (u7.2.1 7), .int (u7.2.1 8), .int (u7.2.1 9), .int (u7.2.1 10)])), (A 4, .inr (1, [.int (u7.2.1 11), .int (u7.2.1 12), .int (u7.2.1 13), .int (u7.2.1 14), .int (u7.2.1 15), .int (u7.2.1 16), .int (u7.2.1 17)])), (A 5, .inr (0, [.long rb, .int (u7.2.1 28)])), (A 6, .inr (0, [.long u7.2.2, .int (u7.2.1 18)])), (A 7, .inr (7, [.int (u7.2.1 20), .int (u7.2.1 21), .int (u7.2.1 22), .int (u7.2.1 23), .int (u7.2.1 24), .int (u7.2.1 25), .int (u7.2.1 26), .int (u7.2.1 27)]))]) (fun _ => rfl) [(O 0, .inr (3, [.ref (O 1), .int (o 0), .int (o 1), .int (o 2), .int (o 3), .int (o 4), .int (o 5), .int (o 6), .int (o 7), .int (o 8)])), (O 1, .inr (8, [.ref (O 2), .int n])), (O 2, .inl (T.2.1, 60, .inl t))] rfl (fun _ => rfl) [O 0, O 1, O 2, A 0, A 1, A 2, A 3, A 4, A 5, A 6, A 7] rfl (fun _ => rfl) 11 (fun _ => rfl) (by decide +kernel) (cwV 1 hts gX3_doOn_X6_drawBits rfl rfl rfl (by decide +kernel) ⟨Nat.le_of_ble_eq_true rfl, Nat.le_of_ble_eq_true rfl⟩) 3 rfl rfl rfl (As := [.int (o 6)]) (rest := []) rfl rfl (Nat.le_of_ble_eq_true rfl) dX3_doOn_79 rfl ⟨Nat.zero_le _, Nat.zero_le _⟩ (fun u7 eu7 bu7 => ?_)
    have zh8 := zl_e zh5 eu7
    exact E (u7.1, u7.2.1, rb, u7.2.2) _ _ _ _ dX3_doOn_82 rfl rfl rfl zh8
  · have zh6 := zh0.trans (if_neg c1)
    by_cases c2 : (o 5) = 110
    · have zh9 := zh6.trans (if_pos c2)
      refine Z.of (pc' := 83) (fun _ _ _ _ => lv_lookup (off := 79) hx hb dX3_doOn_4 (by decide) (by rw [c2]; rfl) (by decide)) ?_
      refine Z.of (pc' := 84) (fun _ _ _ hl => lv_aload_n hx hb dX3_doOn_83 rfl (lv_at hl 1 rfl)) ?_
      refine z_callVi C (c_X6_startAnew l T A f rb sb) [3, 4, 5, 6, 7, 8, 9, 10] [0, 1, 2] rfl (by decide +kernel) (fun u11 => [(O 0, .inr (3, [.ref (O 1), .int (o 0), .int (o 1), .int (o 2), .int (o 3), .int (o 4), .int (o 5), .int (o 6), .int (o 7), .int (o 8)])), (O 1, .inr (8, [.ref (O 2), .int n])), (O 2, .inl (T.2.1, 60, .inl t)), (A 0, .inr (6, [.ref (A 1), .ref (A 2), .ref (A 3), .ref (A 4), .ref (A 5), .ref (A 6), .ref (A 7), .int (u11 0), .int (u11 19)])), (A 1, .inr (4, [.int (u11 1), .int (u11 3), .int (u11 5)])), (A 2, .inr (4, [.int (u11 2), .int (u11 4), .int (u11 6)])), (A 3, .inr (5, [.int (u11 7), .int (u11 8), .int (u11 9), .int (u11 10)])), (A 4, .inr (1, [.int (u11 11), .int (u11 12), .int (u11 13), .int (u11 14), .int (u11 15), .int (u11 16), .int (u11 17)])), (A 5, .inr (0, [.long rb, .int (u11 28)])), (A 6, .inr (0, [.long 0, .int (u11 18)])), (A 7, .inr (7, [.int (u11 20), .int (u11 21), .int (u11 22), .int (u11 23), .int (u11 24), .int (u11 25), .int (u11 26), .int (u11 27)]))]) (fun _ => rfl) [(O 0, .inr (3, [.ref (O 1), .int (o 0), .int (o 1), .int (o 2), .int (o 3), .int (o 4), .int (o 5), .int (o 6), .int (o 7), .int (o 8)])), (O 1, .inr (8, [.ref (O 2), .int n])), (O 2, .inl (T.2.1, 60, .inl t))] rfl (fun _ => rfl) [O 0, O 1, O 2, A 0, A 1, A 2, A 3, A 4, A 5, A 6, A 7] rfl (fun _ => rfl) 11 (fun _ => rfl) (by decide +kernel) (cwV 0 hts gX3_doOn_X6_startAnew rfl rfl rfl (by decide +kernel) ⟨Nat.le_of_ble_eq_true rfl, Nat.le_of_ble_eq_true rfl⟩) 3 rfl rfl rfl (As := []) (rest := []) rfl rfl (Nat.le_of_ble_eq_true rfl) dX3_doOn_84 rfl ⟨Nat.zero_le _, Nat.zero_le _⟩ (fun u11 eu11 bu11 => ?_)
      have zh12 := zl_e zh9 eu11
      exact E (f 18, u11, rb, 0) _ _ _ _ dX3_doOn_87 rfl rfl rfl zh12
    · have zh10 := zh6.trans (if_neg c2)
      by_cases c3 : (o 5) = 114
      · have zh13 := zh10.trans (if_pos c3)
        refine Z.of (pc' := 48) (fun _ _ _ _ => lv_lookup (off := 44) hx hb dX3_doOn_4 (by decide) (by rw [c3]; rfl) (by decide)) ?_
        refine Z.of (pc' := 49) (fun _ _ _ hl => lv_aload_n hx hb dX3_doOn_48 rfl (lv_at hl 1 rfl)) ?_
        refine Z.of (pc' := 50) (fun _ _ _ hl => lv_aload_n hx hb dX3_doOn_49 rfl (lv_at hl 0 rfl)) ?_
        refine z_get C iX3 0 8 k33 rfl rfl (by decide) rfl rfl dX3_doOn_50 rfl ?_
        refine Z.of (pc' := 54) (fun _ _ _ hl => lv_aload_n hx hb dX3_doOn_53 rfl (lv_at hl 0 rfl)) ?_
        refine z_get C iX3 0 9 k36 rfl rfl (by decide) rfl rfl dX3_doOn_54 rfl ?_
        refine Z.of (pc' := 58) (fun _ _ _ hl => lv_aload_n hx hb dX3_doOn_57 rfl (lv_at hl 0 rfl)) ?_
        refine z_get C iX3 0 7 k30 rfl rfl (by decide) rfl rfl dX3_doOn_58 rfl ?_
        refine z_callVi C (c_X6_changeRing l T A f rb sb (o 7) (o 8) (o 6)) [3, 4, 5, 6, 7, 8, 9, 10] [0, 1, 2] rfl (by decide +kernel) (fun u15 => [(O 0, .inr (3, [.ref (O 1), .int (o 0), .int (o 1), .int (o 2), .int (o 3), .int (o 4), .int (o 5), .int (o 6), .int (o 7), .int (o 8)])), (O 1, .inr (8, [.ref (O 2), .int n])), (O 2, .inl (T.2.1, 60, .inl t)), (A 0, .inr (6, [.ref (A 1), .ref (A 2), .ref (A 3), .ref (A 4), .ref (A 5), .ref (A 6), .ref (A 7), .int (u15.2 0), .int (u15.2 19)])), (A 1, .inr (4, [.int (u15.2 1), .int (u15.2 3), .int (u15.2 5)])), (A 2, .inr (4, [.int (u15.2 2), .int (u15.2 4), .int (u15.2 6)])), (A 3, .inr (5, [.int (u15.2 7), .int (u15.2 8), .int (u15.2 9), .int (u15.2 10)])), (A 4, .inr (1, [.int (u15.2 11), .int (u15.2 12), .int (u15.2 13), .int (u15.2 14), .int (u15.2 15), .int (u15.2 16), .int (u15.2 17)])), (A 5, .inr (0, [.long rb, .int (u15.2 28)])), (A 6, .inr (0, [.long sb, .int (u15.2 18)])), (A 7, .inr (7, [.int (u15.2 20), .int (u15.2 21), .int (u15.2 22), .int (u15.2 23), .int (u15.2 24), .int (u15.2 25), .int (u15.2 26), .int (u15.2 27)]))]) (fun _ => rfl) [(O 0, .inr (3, [.ref (O 1), .int (o 0), .int (o 1), .int (o 2), .int (o 3), .int (o 4), .int (o 5), .int (o 6), .int (o 7), .int (o 8)])), (O 1, .inr (8, [.ref (O 2), .int n])), (O 2, .inl (T.2.1, 60, .inl t))] rfl (fun _ => rfl) [O 0, O 1, O 2, A 0, A 1, A 2, A 3, A 4, A 5, A 6, A 7] rfl (fun _ => rfl) 11 (fun _ => rfl) (by decide +kernel) (cwV 3 hts gX3_doOn_X6_changeRing rfl rfl rfl (by decide +kernel) ⟨Nat.le_of_ble_eq_true rfl, Nat.le_of_ble_eq_true rfl⟩) 3 rfl rfl rfl (As := [.int (o 7), .int (o 8), .int (o 6)]) (rest := []) rfl rfl (Nat.le_of_ble_eq_true rfl) dX3_doOn_61 rfl ⟨Nat.zero_le _, Nat.zero_le _⟩ (fun u15 eu15 bu15 => ?_)
        have zh16 := zl_e zh13 eu15
        exact E (u15.1, u15.2, rb, sb) _ _ _ _ dX3_doOn_64 rfl rfl rfl zh16
      · have zh14 := zh10.trans (if_neg c3)
        by_cases c4 : (o 5) = 115
        · have zh17 := zh14.trans (if_pos c4)
          refine Z.of (pc' := 65) (fun _ _ _ _ => lv_lookup (off := 61) hx hb dX3_doOn_4 (by decide) (by rw [c4]; rfl) (by decide)) ?_
          refine Z.of (pc' := 66) (fun _ _ _ hl => lv_aload_n hx hb dX3_doOn_65 rfl (lv_at hl 1 rfl)) ?_
          refine Z.of (pc' := 67) (fun _ _ _ hl => lv_aload_n hx hb dX3_doOn_66 rfl (lv_at hl 0 rfl)) ?_
          refine z_get C iX3 0 7 k30 rfl rfl (by decide) rfl rfl dX3_doOn_67 rfl ?_
          refine z_callVi C (c_X6_makeSamples l T A f rb sb (o 6)) [3, 4, 5, 6, 7, 8, 9, 10] [0, 1, 2] rfl (by decide +kernel) (fun u19 => [(O 0, .inr (3, [.ref (O 1), .int (o 0), .int (o 1), .int (o 2), .int (o 3), .int (o 4), .int (o 5), .int (o 6), .int (o 7), .int (o 8)])), (O 1, .inr (8, [.ref (O 2), .int n])), (O 2, .inl (T.2.1, 60, .inl t)), (A 0, .inr (6, [.ref (A 1), .ref (A 2), .ref (A 3), .ref (A 4), .ref (A 5), .ref (A 6), .ref (A 7), .int (u19.2.1 0), .int (u19.2.1 19)])), (A 1, .inr (4, [.int (u19.2.1 1), .int (u19.2.1 3), .int (u19.2.1 5)])), (A 2, .inr (4, [.int (u19.2.1 2), .int (u19.2.1 4), .int (u19.2.1 6)])), (A 3, .inr (5, [.int (u19.2.1 7), .int (u19.2.1 8), .int (u19.2.1 9), .int (u19.2.1 10)])), (A 4, .inr (1, [.int (u19.2.1 11), .int (u19.2.1 12), .int (u19.2.1 13), .int (u19.2.1 14), .int (u19.2.1 15), .int (u19.2.1 16), .int (u19.2.1 17)])), (A 5, .inr (0, [.long u19.2.2.1, .int (u19.2.1 28)])), (A 6, .inr (0, [.long u19.2.2.2, .int (u19.2.1 18)])), (A 7, .inr (7, [.int (u19.2.1 20), .int (u19.2.1 21), .int (u19.2.1 22), .int (u19.2.1 23), .int (u19.2.1 24), .int (u19.2.1 25), .int (u19.2.1 26), .int (u19.2.1 27)]))]) (fun _ => rfl) [(O 0, .inr (3, [.ref (O 1), .int (o 0), .int (o 1), .int (o 2), .int (o 3), .int (o 4), .int (o 5), .int (o 6), .int (o 7), .int (o 8)])), (O 1, .inr (8, [.ref (O 2), .int n])), (O 2, .inl (T.2.1, 60, .inl t))] rfl (fun _ => rfl) [O 0, O 1, O 2, A 0, A 1, A 2, A 3, A 4, A 5, A 6, A 7] rfl (fun _ => rfl) 11 (fun _ => rfl) (by decide +kernel) (cwV 1 hts gX3_doOn_X6_makeSamples rfl rfl rfl (by decide +kernel) ⟨Nat.le_of_ble_eq_true rfl, Nat.le_of_ble_eq_true rfl⟩) 3 rfl rfl rfl (As := [.int (o 6)]) (rest := []) rfl rfl (Nat.le_of_ble_eq_true rfl) dX3_doOn_70 rfl ⟨Nat.zero_le _, Nat.zero_le _⟩ (fun u19 eu19 bu19 => ?_)
          have zh20 := zl_e zh17 eu19
          exact E (u19.1, u19.2.1, u19.2.2.1, u19.2.2.2) _ _ _ _ dX3_doOn_73 rfl rfl rfl zh20
        · have zh18 := zh14.trans (if_neg c4)
          refine Z.of (pc' := 88) (fun _ _ _ _ => lv_lookup (off := (84)) hx hb dX3_doOn_4 (by decide) ((lv_osw c1 rfl).trans ((lv_osw c2 rfl).trans ((lv_osw c3 rfl).trans ((lv_osw c4 rfl).trans rfl)))) (by decide)) ?_
          refine Z.of (pc' := 89) (fun _ _ _ hl => lv_aload_n hx hb dX3_doOn_88 rfl (lv_at hl 1 rfl)) ?_
          refine Z.of (pc' := 90) (fun _ _ _ hl => lv_aload_n hx hb dX3_doOn_89 rfl (lv_at hl 0 rfl)) ?_
          refine z_get C iX3 0 7 k30 rfl rfl (by decide) rfl rfl dX3_doOn_90 rfl ?_
          refine z_callVi C (c_X6_changeNoise l T A f rb sb (o 6)) [3, 4, 5, 6, 7, 8, 9, 10] [0, 1, 2] rfl (by decide +kernel) (fun u21 => [(O 0, .inr (3, [.ref (O 1), .int (o 0), .int (o 1), .int (o 2), .int (o 3), .int (o 4), .int (o 5), .int (o 6), .int (o 7), .int (o 8)])), (O 1, .inr (8, [.ref (O 2), .int n])), (O 2, .inl (T.2.1, 60, .inl t)), (A 0, .inr (6, [.ref (A 1), .ref (A 2), .ref (A 3), .ref (A 4), .ref (A 5), .ref (A 6), .ref (A 7), .int (u21.2 0), .int (u21.2 19)])), (A 1, .inr (4, [.int (u21.2 1), .int (u21.2 3), .int (u21.2 5)])), (A 2, .inr (4, [.int (u21.2 2), .int (u21.2 4), .int (u21.2 6)])), (A 3, .inr (5, [.int (u21.2 7), .int (u21.2 8), .int (u21.2 9), .int (u21.2 10)])), (A 4, .inr (1, [.int (u21.2 11), .int (u21.2 12), .int (u21.2 13), .int (u21.2 14), .int (u21.2 15), .int (u21.2 16), .int (u21.2 17)])), (A 5, .inr (0, [.long rb, .int (u21.2 28)])), (A 6, .inr (0, [.long sb, .int (u21.2 18)])), (A 7, .inr (7, [.int (u21.2 20), .int (u21.2 21), .int (u21.2 22), .int (u21.2 23), .int (u21.2 24), .int (u21.2 25), .int (u21.2 26), .int (u21.2 27)]))]) (fun _ => rfl) [(O 0, .inr (3, [.ref (O 1), .int (o 0), .int (o 1), .int (o 2), .int (o 3), .int (o 4), .int (o 5), .int (o 6), .int (o 7), .int (o 8)])), (O 1, .inr (8, [.ref (O 2), .int n])), (O 2, .inl (T.2.1, 60, .inl t))] rfl (fun _ => rfl) [O 0, O 1, O 2, A 0, A 1, A 2, A 3, A 4, A 5, A 6, A 7] rfl (fun _ => rfl) 11 (fun _ => rfl) (by decide +kernel) (cwV 1 hts gX3_doOn_X6_changeNoise rfl rfl rfl (by decide +kernel) ⟨Nat.le_of_ble_eq_true rfl, Nat.le_of_ble_eq_true rfl⟩) 3 rfl rfl rfl (As := [.int (o 6)]) (rest := []) rfl rfl (Nat.le_of_ble_eq_true rfl) dX3_doOn_93 rfl ⟨Nat.zero_le _, Nat.zero_le _⟩ (fun u21 eu21 bu21 => ?_)
          have zh22 := zl_e zh18 eu21
          exact E (u21.1, u21.2, rb, sb) _ _ _ _ dX3_doOn_96 rfl rfl rfl zh22
def lp10_X3_areDoneOn (o : Nat → Int32) (n : Int32) (t : Nat → Int32) (f : Nat → Int32) (rb : Int64) (sb : Int64) : Nat → Nat → (Nat → Int32) → (Nat → Int32) → Int64 → Int64 → Int32 × (Nat → Int32) × (Nat → Int32) × Int64 × Int64
  | 0, _, _, _, _, _ => (0, o, f, rb, sb)
  | q10 + 1, k, ox, fx, rx, sx =>
    if 60 ≤ (ox 2) then
      (1, ox, fx, rx, sx)
    else
      if n ≤ (ox 1) then
        (1, ox, fx, rx, sx)
      else
        zl (f_X3_isRead (upd ox 0 (ox 1)) n t) fun u7 =>
        if u7.1 = 0 then
          (0, upd (upd u7.2 3 1) 4 ((u7.2 1) - (u7.2 0)), fx, rx, sx)
        else
          zl (f_X3_doOn u7.2 n t fx rx sx) fun u12 =>
          if 0 ≤ u12.1 then
            lp10_X3_areDoneOn o n t f rb sb q10 (k + 1) (upd u7.2 2 ((u7.2 2) + 1)) u12.2.1 u12.2.2.1 u12.2.2.2
          else
            (0, upd (upd u7.2 3 2) 4 u12.1, u12.2.1, u12.2.2.1, u12.2.2.2)
theorem lp10_X3_areDoneOn_s (o : Nat → Int32) (n : Int32) (t : Nat → Int32) (f : Nat → Int32) (rb : Int64) (sb : Int64) (q10 : Nat) (k : Nat) (ox : (Nat → Int32)) (fx : (Nat → Int32)) (rx : Int64) (sx : Int64) : lp10_X3_areDoneOn o n t f rb sb (q10 + 1) k ox fx rx sx = (
    if 60 ≤ (ox 2) then
      (1, ox, fx, rx, sx)
    else
      if n ≤ (ox 1) then
        (1, ox, fx, rx, sx)
      else
        zl (f_X3_isRead (upd ox 0 (ox 1)) n t) fun u7 =>
        if u7.1 = 0 then
          (0, upd (upd u7.2 3 1) 4 ((u7.2 1) - (u7.2 0)), fx, rx, sx)
        else
          zl (f_X3_doOn u7.2 n t fx rx sx) fun u12 =>
          if 0 ≤ u12.1 then
            lp10_X3_areDoneOn o n t f rb sb q10 (k + 1) (upd u7.2 2 ((u7.2 2) + 1)) u12.2.1 u12.2.2.1 u12.2.2.2
          else
            (0, upd (upd u7.2 3 2) 4 u12.1, u12.2.1, u12.2.2.1, u12.2.2.2)
    ) := rfl
def f_X3_areDoneOn (o : Nat → Int32) (n : Int32) (t : Nat → Int32) (f : Nat → Int32) (rb : Int64) (sb : Int64) : Int32 × (Nat → Int32) × (Nat → Int32) × Int64 × Int64 :=
  lp10_X3_areDoneOn o n t f rb sb 62 0 (upd (upd o 1 0) 2 0) f rb sb
theorem fe_X3_areDoneOn (o : Nat → Int32) (n : Int32) (t : Nat → Int32) (f : Nat → Int32) (rb : Int64) (sb : Int64) : f_X3_areDoneOn o n t f rb sb = (
    lp10_X3_areDoneOn o n t f rb sb 62 0 (upd (upd o 1 0) 2 0) f rb sb
    ) := rfl
abbrev rm_X3_areDoneOn : Room := { frames := 5, cells := 0, slots := 0, locals := 112 }
set_option maxHeartbeats 1000000 in
set_option maxRecDepth 100000 in
theorem c_X3_areDoneOn (l : Launch) (T : zT) (O : Nat → Nat) (A : Nat → Nat) (o : Nat → Int32) (n : Int32) (t : Nat → Int32) (f : Nat → Int32) (rb : Int64) (sb : Int64) (hn0 : 0 ≤ n) (ht : ∀ j : Nat, narrow .char (.int (t j)) = .int (t j)) : Ci l yX3_areDoneOn wsX3_areDoneOn rm_X3_areDoneOn T .boolean [.ref (O 0), .ref (A 0)] [(O 0, .inr (3, [.ref (O 1), .int (o 0), .int (o 1), .int (o 2), .int (o 3), .int (o 4), .int (o 5), .int (o 6), .int (o 7), .int (o 8)])), (O 1, .inr (8, [.ref (O 2), .int n])), (O 2, .inl (T.2.1, 60, .inl t)), (A 0, .inr (6, [.ref (A 1), .ref (A 2), .ref (A 3), .ref (A 4), .ref (A 5), .ref (A 6), .ref (A 7), .int (f 0), .int (f 19)])), (A 1, .inr (4, [.int (f 1), .int (f 3), .int (f 5)])), (A 2, .inr (4, [.int (f 2), .int (f 4), .int (f 6)])), (A 3, .inr (5, [.int (f 7), .int (f 8), .int (f 9), .int (f 10)])), (A 4, .inr (1, [.int (f 11), .int (f 12), .int (f 13), .int (f 14), .int (f 15), .int (f 16), .int (f 17)])), (A 5, .inr (0, [.long rb, .int (f 28)])), (A 6, .inr (0, [.long sb, .int (f 18)])), (A 7, .inr (7, [.int (f 20), .int (f 21), .int (f 22), .int (f 23), .int (f 24), .int (f 25), .int (f 26), .int (f 27)]))] (S := Int32 × (Nat → Int32) × (Nat → Int32) × Int64 × Int64) (f_X3_areDoneOn o n t f rb sb) (fun u => u.1) (fun u => [(O 0, .inr (3, [.ref (O 1), .int (u.2.1 0), .int (u.2.1 1), .int (u.2.1 2), .int (u.2.1 3), .int (u.2.1 4), .int (u.2.1 5), .int (u.2.1 6), .int (u.2.1 7), .int (u.2.1 8)])), (O 1, .inr (8, [.ref (O 2), .int n])), (O 2, .inl (T.2.1, 60, .inl t)), (A 0, .inr (6, [.ref (A 1), .ref (A 2), .ref (A 3), .ref (A 4), .ref (A 5), .ref (A 6), .ref (A 7), .int (u.2.2.1 0), .int (u.2.2.1 19)])), (A 1, .inr (4, [.int (u.2.2.1 1), .int (u.2.2.1 3), .int (u.2.2.1 5)])), (A 2, .inr (4, [.int (u.2.2.1 2), .int (u.2.2.1 4), .int (u.2.2.1 6)])), (A 3, .inr (5, [.int (u.2.2.1 7), .int (u.2.2.1 8), .int (u.2.2.1 9), .int (u.2.2.1 10)])), (A 4, .inr (1, [.int (u.2.2.1 11), .int (u.2.2.1 12), .int (u.2.2.1 13), .int (u.2.2.1 14), .int (u.2.2.1 15), .int (u.2.2.1 16), .int (u.2.2.1 17)])), (A 5, .inr (0, [.long u.2.2.2.1, .int (u.2.2.1 28)])), (A 6, .inr (0, [.long u.2.2.2.2, .int (u.2.2.1 18)])), (A 7, .inr (7, [.int (u.2.2.1 20), .int (u.2.2.1 21), .int (u.2.2.1 22), .int (u.2.2.1 23), .int (u.2.2.1 24), .int (u.2.2.1 25), .int (u.2.2.1 26), .int (u.2.2.1 27)]))]) := by
  refine z_metI (own := RX3) (maxL := 3) rfl (by decide) rfl (Nat.le_of_ble_eq_true rfl) ?_
  intro P0 E0 S0 M0 G0 B0 T0 K0 A9 Q9 C E
  have hx := C.1.1
  have hb := C.1.2.1
  have hown := C.1.2.2.2.1
  have hts := C.1.2.2.2.2
  have hn := C.2.1.2
  have iX3 : ∀ w ∈ u_ws RX3 TX3 10, w ∈ wsX3_areDoneOn := by decide +kernel
  have iX8 : ∀ w ∈ u_ws RX8 TX8 2, w ∈ wsX3_areDoneOn := by decide +kernel
  have k7 := hts (.fieldLink RX3 7 "JudgedBits$Orders" "start" "I") (by decide +kernel)
  have k13 := hts (.fieldLink RX3 13 "JudgedBits$Orders" "place" "I") (by decide +kernel)
  have k16 := hts (.fieldLink RX3 16 "JudgedBits$Orders" "done" "I") (by decide +kernel)
  have k19 := hts (.fieldLink RX3 19 "JudgedBits$Orders" "reason" "I") (by decide +kernel)
  have k22 := hts (.fieldLink RX3 22 "JudgedBits$Orders" "cause" "I") (by decide +kernel)
  have k40 := hts (.fieldLink RX3 40 "JudgedBits$Orders" "text" "LJudgedBits$Text;") (by decide +kernel)
  have k44 := hts (.fieldLink RX3 44 "JudgedBits$Text" "length" "I") (by decide +kernel)
  change Z P0 l E0 rm_X3_areDoneOn S0 M0 G0 B0 T0 K0 3 T A9 Q9 0 0 [(O 0, .inr (3, [.ref (O 1), .int (o 0), .int (o 1), .int (o 2), .int (o 3), .int (o 4), .int (o 5), .int (o 6), .int (o 7), .int (o 8)])), (O 1, .inr (8, [.ref (O 2), .int n])), (O 2, .inl (T.2.1, 60, .inl t)), (A 0, .inr (6, [.ref (A 1), .ref (A 2), .ref (A 3), .ref (A 4), .ref (A 5), .ref (A 6), .ref (A 7), .int (f 0), .int (f 19)])), (A 1, .inr (4, [.int (f 1), .int (f 3), .int (f 5)])), (A 2, .inr (4, [.int (f 2), .int (f 4), .int (f 6)])), (A 3, .inr (5, [.int (f 7), .int (f 8), .int (f 9), .int (f 10)])), (A 4, .inr (1, [.int (f 11), .int (f 12), .int (f 13), .int (f 14), .int (f 15), .int (f 16), .int (f 17)])), (A 5, .inr (0, [.long rb, .int (f 28)])), (A 6, .inr (0, [.long sb, .int (f 18)])), (A 7, .inr (7, [.int (f 20), .int (f 21), .int (f 22), .int (f 23), .int (f 24), .int (f 25), .int (f 26), .int (f 27)]))] 0 [(0, .ref (O 0)), (1, .ref (A 0))] []
  have zh0 := fe_X3_areDoneOn o n t f rb sb
  refine Z.of (pc' := 1) (fun _ _ _ hl => lv_aload_n hx hb dX3_areDoneOn_0 rfl (lv_at hl 0 rfl)) ?_
  refine Z.of (pc' := 2) (fun _ _ _ _ => lv_iconst (v := 0) hx hb dX3_areDoneOn_1 (by decide)) ?_
  refine z_put C iX3 tyX3_ok nmX3 0 2 k13 rfl rfl (by decide) rfl rfl rfl rfl (Nat.le_of_ble_eq_true rfl) dX3_areDoneOn_2 rfl [(O 0, .inr (3, [.ref (O 1), .int (o 0), .int 0, .int (o 2), .int (o 3), .int (o 4), .int (o 5), .int (o 6), .int (o 7), .int (o 8)])), (O 1, .inr (8, [.ref (O 2), .int n])), (O 2, .inl (T.2.1, 60, .inl t)), (A 0, .inr (6, [.ref (A 1), .ref (A 2), .ref (A 3), .ref (A 4), .ref (A 5), .ref (A 6), .ref (A 7), .int (f 0), .int (f 19)])), (A 1, .inr (4, [.int (f 1), .int (f 3), .int (f 5)])), (A 2, .inr (4, [.int (f 2), .int (f 4), .int (f 6)])), (A 3, .inr (5, [.int (f 7), .int (f 8), .int (f 9), .int (f 10)])), (A 4, .inr (1, [.int (f 11), .int (f 12), .int (f 13), .int (f 14), .int (f 15), .int (f 16), .int (f 17)])), (A 5, .inr (0, [.long rb, .int (f 28)])), (A 6, .inr (0, [.long sb, .int (f 18)])), (A 7, .inr (7, [.int (f 20), .int (f 21), .int (f 22), .int (f 23), .int (f 24), .int (f 25), .int (f 26), .int (f 27)]))] rfl ?_
  refine Z.of (pc' := 6) (fun _ _ _ hl => lv_aload_n hx hb dX3_areDoneOn_5 rfl (lv_at hl 0 rfl)) ?_
  refine Z.of (pc' := 7) (fun _ _ _ _ => lv_iconst (v := 0) hx hb dX3_areDoneOn_6 (by decide)) ?_
  refine z_put C iX3 tyX3_ok nmX3 0 3 k16 rfl rfl (by decide) rfl rfl rfl rfl (Nat.le_of_ble_eq_true rfl) dX3_areDoneOn_7 rfl [(O 0, .inr (3, [.ref (O 1), .int (o 0), .int 0, .int 0, .int (o 3), .int (o 4), .int (o 5), .int (o 6), .int (o 7), .int (o 8)])), (O 1, .inr (8, [.ref (O 2), .int n])), (O 2, .inl (T.2.1, 60, .inl t)), (A 0, .inr (6, [.ref (A 1), .ref (A 2), .ref (A 3), .ref (A 4), .ref (A 5), .ref (A 6), .ref (A 7), .int (f 0), .int (f 19)])), (A 1, .inr (4, [.int (f 1), .int (f 3), .int (f 5)])), (A 2, .inr (4, [.int (f 2), .int (f 4), .int (f 6)])), (A 3, .inr (5, [.int (f 7), .int (f 8), .int (f 9), .int (f 10)])), (A 4, .inr (1, [.int (f 11), .int (f 12), .int (f 13), .int (f 14), .int (f 15), .int (f 16), .int (f 17)])), (A 5, .inr (0, [.long rb, .int (f 28)])), (A 6, .inr (0, [.long sb, .int (f 18)])), (A 7, .inr (7, [.int (f 20), .int (f 21), .int (f 22), .int (f 23), .int (f 24), .int (f 25), .int (f 26), .int (f 27)]))] rfl ?_
  have L10 : ∀ (q10 : Nat) (k : Nat) (ox : (Nat → Int32)) (fx : (Nat → Int32)) (rx : Int64) (sx : Int64), (k ≤ 60 ∧ k + q10 = 62 ∧ ox 2 = nI k) → f_X3_areDoneOn o n t f rb sb = lp10_X3_areDoneOn o n t f rb sb q10 k ox fx rx sx → Z P0 l E0 rm_X3_areDoneOn S0 M0 G0 B0 T0 K0 3 T A9 Q9 0 0 [(O 0, .inr (3, [.ref (O 1), .int (ox 0), .int (ox 1), .int (ox 2), .int (ox 3), .int (ox 4), .int (ox 5), .int (ox 6), .int (ox 7), .int (ox 8)])), (O 1, .inr (8, [.ref (O 2), .int n])), (O 2, .inl (T.2.1, 60, .inl t)), (A 0, .inr (6, [.ref (A 1), .ref (A 2), .ref (A 3), .ref (A 4), .ref (A 5), .ref (A 6), .ref (A 7), .int (fx 0), .int (fx 19)])), (A 1, .inr (4, [.int (fx 1), .int (fx 3), .int (fx 5)])), (A 2, .inr (4, [.int (fx 2), .int (fx 4), .int (fx 6)])), (A 3, .inr (5, [.int (fx 7), .int (fx 8), .int (fx 9), .int (fx 10)])), (A 4, .inr (1, [.int (fx 11), .int (fx 12), .int (fx 13), .int (fx 14), .int (fx 15), .int (fx 16), .int (fx 17)])), (A 5, .inr (0, [.long rx, .int (fx 28)])), (A 6, .inr (0, [.long sx, .int (fx 18)])), (A 7, .inr (7, [.int (fx 20), .int (fx 21), .int (fx 22), .int (fx 23), .int (fx 24), .int (fx 25), .int (fx 26), .int (fx 27)]))] 10 [(0, .ref (O 0)), (1, .ref (A 0))] [] := by
    intro q10
    induction q10 with
    | zero =>
      intro k ox fx rx sx hi10 zhl10
      omega
    | succ q10 ih =>
      intro k ox fx rx sx hi10 zhl10
      have zhb10 := zhl10.trans (lp10_X3_areDoneOn_s o n t f rb sb q10 k ox fx rx sx)
      refine Z.of (pc' := 11) (fun _ _ _ hl => lv_aload_n hx hb dX3_areDoneOn_10 rfl (lv_at hl 0 rfl)) ?_
      refine z_get C iX3 0 3 k16 rfl rfl (by decide) rfl rfl dX3_areDoneOn_11 rfl ?_
      refine Z.of (pc' := 16) (fun _ _ _ _ => lv_bipush (v := 60) hx hb dX3_areDoneOn_14 (by decide)) ?_
      refine Z.two (pt := 103) (pf := 19) (fun _ _ _ _ => lv_icmp_ge hx hb dX3_areDoneOn_16 (by decide)) (fun c1 => ?_) (fun c1 => ?_)
      · have zh2 := zhb10.trans (if_pos c1)
        refine Z.of (pc' := 104) (fun _ _ _ _ => lv_iconst (v := 1) hx hb dX3_areDoneOn_103 (by decide)) ?_
        exact E (1, ox, fx, rx, sx) _ _ _ _ dX3_areDoneOn_104 rfl rfl rfl zh2
      · have zh3 := zhb10.trans (if_neg c1)
        refine Z.of (pc' := 20) (fun _ _ _ hl => lv_aload_n hx hb dX3_areDoneOn_19 rfl (lv_at hl 0 rfl)) ?_
        refine z_get C iX3 0 2 k13 rfl rfl (by decide) rfl rfl dX3_areDoneOn_20 rfl ?_
        refine Z.of (pc' := 24) (fun _ _ _ hl => lv_aload_n hx hb dX3_areDoneOn_23 rfl (lv_at hl 0 rfl)) ?_
        refine z_get C iX3 0 0 k40 rfl rfl (by decide) rfl rfl dX3_areDoneOn_24 rfl ?_
        refine z_get C iX8 1 1 k44 rfl rfl (by decide) rfl rfl dX3_areDoneOn_27 rfl ?_
        refine Z.two (pt := 103) (pf := 33) (fun _ _ _ _ => lv_icmp_ge hx hb dX3_areDoneOn_30 (by decide)) (fun c4 => ?_) (fun c4 => ?_)
        · have zh5 := zh3.trans (if_pos c4)
          refine Z.of (pc' := 104) (fun _ _ _ _ => lv_iconst (v := 1) hx hb dX3_areDoneOn_103 (by decide)) ?_
          exact E (1, ox, fx, rx, sx) _ _ _ _ dX3_areDoneOn_104 rfl rfl rfl zh5
        · have zh6 := zh3.trans (if_neg c4)
          refine Z.of (pc' := 34) (fun _ _ _ hl => lv_aload_n hx hb dX3_areDoneOn_33 rfl (lv_at hl 0 rfl)) ?_
          refine Z.of (pc' := 35) (fun _ _ _ hl => lv_aload_n hx hb dX3_areDoneOn_34 rfl (lv_at hl 0 rfl)) ?_
          refine z_get C iX3 0 2 k13 rfl rfl (by decide) rfl rfl dX3_areDoneOn_35 rfl ?_
          refine z_put C iX3 tyX3_ok nmX3 0 1 k7 rfl rfl (by decide) rfl rfl rfl rfl (Nat.le_of_ble_eq_true rfl) dX3_areDoneOn_38 rfl [(O 0, .inr (3, [.ref (O 1), .int (ox 1), .int (ox 1), .int (ox 2), .int (ox 3), .int (ox 4), .int (ox 5), .int (ox 6), .int (ox 7), .int (ox 8)])), (O 1, .inr (8, [.ref (O 2), .int n])), (O 2, .inl (T.2.1, 60, .inl t)), (A 0, .inr (6, [.ref (A 1), .ref (A 2), .ref (A 3), .ref (A 4), .ref (A 5), .ref (A 6), .ref (A 7), .int (fx 0), .int (fx 19)])), (A 1, .inr (4, [.int (fx 1), .int (fx 3), .int (fx 5)])), (A 2, .inr (4, [.int (fx 2), .int (fx 4), .int (fx 6)])), (A 3, .inr (5, [.int (fx 7), .int (fx 8), .int (fx 9), .int (fx 10)])), (A 4, .inr (1, [.int (fx 11), .int (fx 12), .int (fx 13), .int (fx 14), .int (fx 15), .int (fx 16), .int (fx 17)])), (A 5, .inr (0, [.long rx, .int (fx 28)])), (A 6, .inr (0, [.long sx, .int (fx 18)])), (A 7, .inr (7, [.int (fx 20), .int (fx 21), .int (fx 22), .int (fx 23), .int (fx 24), .int (fx 25), .int (fx 26), .int (fx 27)]))] rfl ?_
          refine Z.of (pc' := 42) (fun _ _ _ hl => lv_aload_n hx hb dX3_areDoneOn_41 rfl (lv_at hl 0 rfl)) ?_
          refine z_callVi C (c_X3_isRead l T O (upd ox 0 (ox 1)) n t hn0 ht) [0, 1, 2] [3, 4, 5, 6, 7, 8, 9, 10] rfl (by decide +kernel) (fun u7 => [(O 0, .inr (3, [.ref (O 1), .int (u7.2 0), .int (u7.2 1), .int (u7.2 2), .int (u7.2 3), .int (u7.2 4), .int (u7.2 5), .int (u7.2 6), .int (u7.2 7), .int (u7.2 8)])), (O 1, .inr (8, [.ref (O 2), .int n])), (O 2, .inl (T.2.1, 60, .inl t)), (A 0, .inr (6, [.ref (A 1), .ref (A 2), .ref (A 3), .ref (A 4), .ref (A 5), .ref (A 6), .ref (A 7), .int (fx 0), .int (fx 19)])), (A 1, .inr (4, [.int (fx 1), .int (fx 3), .int (fx 5)])), (A 2, .inr (4, [.int (fx 2), .int (fx 4), .int (fx 6)])), (A 3, .inr (5, [.int (fx 7), .int (fx 8), .int (fx 9), .int (fx 10)])), (A 4, .inr (1, [.int (fx 11), .int (fx 12), .int (fx 13), .int (fx 14), .int (fx 15), .int (fx 16), .int (fx 17)])), (A 5, .inr (0, [.long rx, .int (fx 28)])), (A 6, .inr (0, [.long sx, .int (fx 18)])), (A 7, .inr (7, [.int (fx 20), .int (fx 21), .int (fx 22), .int (fx 23), .int (fx 24), .int (fx 25), .int (fx 26), .int (fx 27)]))]) (fun _ => rfl) [(A 0, .inr (6, [.ref (A 1), .ref (A 2), .ref (A 3), .ref (A 4), .ref (A 5), .ref (A 6), .ref (A 7), .int (fx 0), .int (fx 19)])), (A 1, .inr (4, [.int (fx 1), .int (fx 3), .int (fx 5)])), (A 2, .inr (4, [.int (fx 2), .int (fx 4), .int (fx 6)])), (A 3, .inr (5, [.int (fx 7), .int (fx 8), .int (fx 9), .int (fx 10)])), (A 4, .inr (1, [.int (fx 11), .int (fx 12), .int (fx 13), .int (fx 14), .int (fx 15), .int (fx 16), .int (fx 17)])), (A 5, .inr (0, [.long rx, .int (fx 28)])), (A 6, .inr (0, [.long sx, .int (fx 18)])), (A 7, .inr (7, [.int (fx 20), .int (fx 21), .int (fx 22), .int (fx 23), .int (fx 24), .int (fx 25), .int (fx 26), .int (fx 27)]))] rfl (fun _ => rfl) [O 0, O 1, O 2, A 0, A 1, A 2, A 3, A 4, A 5, A 6, A 7] rfl (fun _ => rfl) 11 (fun _ => rfl) (by decide +kernel) (cwV 0 hts gX3_areDoneOn_X3_isRead rfl rfl rfl (by decide +kernel) ⟨Nat.le_of_ble_eq_true rfl, Nat.le_of_ble_eq_true rfl⟩) 0 rfl rfl rfl (As := []) (rest := []) rfl rfl (Nat.le_of_ble_eq_true rfl) dX3_areDoneOn_42 rfl ⟨Nat.zero_le _, Nat.zero_le _⟩ (fun u7 eu7 bu7 => ?_)
          have zh8 := zl_e zh6 eu7
          refine Z.two' (pt := 68) (pf := 48) (fun _ _ _ _ => lv_if_ne hx hb dX3_areDoneOn_45 (by decide)) (fun c9 => ?_) (fun c9 => ?_)
          · have zh10 := zh8.trans (if_neg c9)
            refine Z.of (pc' := 69) (fun _ _ _ hl => lv_aload_n hx hb dX3_areDoneOn_68 rfl (lv_at hl 0 rfl)) ?_
            refine Z.of (pc' := 70) (fun _ _ _ hl => lv_aload_n hx hb dX3_areDoneOn_69 rfl (lv_at hl 1 rfl)) ?_
            refine z_callVi C (c_X3_doOn l T O A u7.2 n t fx rx sx) [0, 1, 2, 3, 4, 5, 6, 7, 8, 9, 10] [] rfl (by decide +kernel) (fun u12 => [(O 0, .inr (3, [.ref (O 1), .int (u7.2 0), .int (u7.2 1), .int (u7.2 2), .int (u7.2 3), .int (u7.2 4), .int (u7.2 5), .int (u7.2 6), .int (u7.2 7), .int (u7.2 8)])), (O 1, .inr (8, [.ref (O 2), .int n])), (O 2, .inl (T.2.1, 60, .inl t)), (A 0, .inr (6, [.ref (A 1), .ref (A 2), .ref (A 3), .ref (A 4), .ref (A 5), .ref (A 6), .ref (A 7), .int (u12.2.1 0), .int (u12.2.1 19)])), (A 1, .inr (4, [.int (u12.2.1 1), .int (u12.2.1 3), .int (u12.2.1 5)])), (A 2, .inr (4, [.int (u12.2.1 2), .int (u12.2.1 4), .int (u12.2.1 6)])), (A 3, .inr (5, [.int (u12.2.1 7), .int (u12.2.1 8), .int (u12.2.1 9), .int (u12.2.1 10)])), (A 4, .inr (1, [.int (u12.2.1 11), .int (u12.2.1 12), .int (u12.2.1 13), .int (u12.2.1 14), .int (u12.2.1 15), .int (u12.2.1 16), .int (u12.2.1 17)])), (A 5, .inr (0, [.long u12.2.2.1, .int (u12.2.1 28)])), (A 6, .inr (0, [.long u12.2.2.2, .int (u12.2.1 18)])), (A 7, .inr (7, [.int (u12.2.1 20), .int (u12.2.1 21), .int (u12.2.1 22), .int (u12.2.1 23), .int (u12.2.1 24), .int (u12.2.1 25), .int (u12.2.1 26), .int (u12.2.1 27)]))]) (fun _ => rfl) [] rfl (fun _ => rfl) [O 0, O 1, O 2, A 0, A 1, A 2, A 3, A 4, A 5, A 6, A 7] rfl (fun _ => rfl) 11 (fun _ => rfl) (by decide +kernel) (cwV 1 hts gX3_areDoneOn_X3_doOn rfl rfl rfl (by decide +kernel) ⟨Nat.le_of_ble_eq_true rfl, Nat.le_of_ble_eq_true rfl⟩) 0 rfl rfl rfl (As := [.ref (A 0)]) (rest := []) rfl rfl (Nat.le_of_ble_eq_true rfl) dX3_areDoneOn_70 rfl ⟨Nat.zero_le _, Nat.zero_le _⟩ (fun u12 eu12 bu12 => ?_)
            have zh13 := zl_e zh10 eu12
            refine Z.sto (pc' := 74) (lv' := [(2, .int u12.1), (0, .ref (O 0)), (1, .ref (A 0))]) (fun _ _ _ hl => lv_istore_n (lv' := [(2, .int u12.1), (0, .ref (O 0)), (1, .ref (A 0))]) hx hb dX3_areDoneOn_73 rfl hl (by decide) rfl) ?_
            refine Z.of (pc' := 75) (fun _ _ _ hl => lv_iload_n hx hb dX3_areDoneOn_74 rfl (lv_at hl 0 rfl)) ?_
            refine Z.two (pt := 90) (pf := 78) (fun _ _ _ _ => lv_if_ge hx hb dX3_areDoneOn_75 (by decide)) (fun c14 => ?_) (fun c14 => ?_)
            · have zh15 := zh13.trans (if_pos c14)
              refine Z.of (pc' := 91) (fun _ _ _ hl => lv_aload_n hx hb dX3_areDoneOn_90 rfl (lv_at hl 1 rfl)) ?_
              refine Z.of (pc' := 92) (fun _ _ _ hl => lv_dup hx hb dX3_areDoneOn_91 rfl) ?_
              refine z_get C iX3 0 3 k16 rfl rfl (by decide) rfl rfl dX3_areDoneOn_92 rfl ?_
              refine Z.of (pc' := 96) (fun _ _ _ _ => lv_iconst (v := 1) hx hb dX3_areDoneOn_95 (by decide)) ?_
              refine Z.of (pc' := 97) (fun _ _ _ hl => lv_iadd hx hb dX3_areDoneOn_96) ?_
              refine z_put C iX3 tyX3_ok nmX3 0 3 k16 rfl rfl (by decide) rfl rfl rfl rfl (Nat.le_of_ble_eq_true rfl) dX3_areDoneOn_97 rfl [(O 0, .inr (3, [.ref (O 1), .int (u7.2 0), .int (u7.2 1), .int ((u7.2 2) + 1), .int (u7.2 3), .int (u7.2 4), .int (u7.2 5), .int (u7.2 6), .int (u7.2 7), .int (u7.2 8)])), (O 1, .inr (8, [.ref (O 2), .int n])), (O 2, .inl (T.2.1, 60, .inl t)), (A 0, .inr (6, [.ref (A 1), .ref (A 2), .ref (A 3), .ref (A 4), .ref (A 5), .ref (A 6), .ref (A 7), .int (u12.2.1 0), .int (u12.2.1 19)])), (A 1, .inr (4, [.int (u12.2.1 1), .int (u12.2.1 3), .int (u12.2.1 5)])), (A 2, .inr (4, [.int (u12.2.1 2), .int (u12.2.1 4), .int (u12.2.1 6)])), (A 3, .inr (5, [.int (u12.2.1 7), .int (u12.2.1 8), .int (u12.2.1 9), .int (u12.2.1 10)])), (A 4, .inr (1, [.int (u12.2.1 11), .int (u12.2.1 12), .int (u12.2.1 13), .int (u12.2.1 14), .int (u12.2.1 15), .int (u12.2.1 16), .int (u12.2.1 17)])), (A 5, .inr (0, [.long u12.2.2.1, .int (u12.2.1 28)])), (A 6, .inr (0, [.long u12.2.2.2, .int (u12.2.1 18)])), (A 7, .inr (7, [.int (u12.2.1 20), .int (u12.2.1 21), .int (u12.2.1 22), .int (u12.2.1 23), .int (u12.2.1 24), .int (u12.2.1 25), .int (u12.2.1 26), .int (u12.2.1 27)]))] rfl ?_
              refine Z.of (pc' := 10) (fun _ _ _ _ => lv_goto hx hb dX3_areDoneOn_100 (by decide)) ?_
              exact Z.sub (ks := [1, 2]) (lv' := [(0, .ref (O 0)), (1, .ref (A 0))]) rfl (ih (k + 1) (upd u7.2 2 ((u7.2 2) + 1)) u12.2.1 u12.2.2.1 u12.2.2.2 (zad_step hi10 c1 (by rw [eu7]; exact isRead_2 _ _ _)) zh15)
            · have zh16 := zh13.trans (if_neg c14)
              refine Z.of (pc' := 79) (fun _ _ _ hl => lv_aload_n hx hb dX3_areDoneOn_78 rfl (lv_at hl 1 rfl)) ?_
              refine Z.of (pc' := 80) (fun _ _ _ _ => lv_iconst (v := 2) hx hb dX3_areDoneOn_79 (by decide)) ?_
              refine z_put C iX3 tyX3_ok nmX3 0 4 k19 rfl rfl (by decide) rfl rfl rfl rfl (Nat.le_of_ble_eq_true rfl) dX3_areDoneOn_80 rfl [(O 0, .inr (3, [.ref (O 1), .int (u7.2 0), .int (u7.2 1), .int (u7.2 2), .int 2, .int (u7.2 4), .int (u7.2 5), .int (u7.2 6), .int (u7.2 7), .int (u7.2 8)])), (O 1, .inr (8, [.ref (O 2), .int n])), (O 2, .inl (T.2.1, 60, .inl t)), (A 0, .inr (6, [.ref (A 1), .ref (A 2), .ref (A 3), .ref (A 4), .ref (A 5), .ref (A 6), .ref (A 7), .int (u12.2.1 0), .int (u12.2.1 19)])), (A 1, .inr (4, [.int (u12.2.1 1), .int (u12.2.1 3), .int (u12.2.1 5)])), (A 2, .inr (4, [.int (u12.2.1 2), .int (u12.2.1 4), .int (u12.2.1 6)])), (A 3, .inr (5, [.int (u12.2.1 7), .int (u12.2.1 8), .int (u12.2.1 9), .int (u12.2.1 10)])), (A 4, .inr (1, [.int (u12.2.1 11), .int (u12.2.1 12), .int (u12.2.1 13), .int (u12.2.1 14), .int (u12.2.1 15), .int (u12.2.1 16), .int (u12.2.1 17)])), (A 5, .inr (0, [.long u12.2.2.1, .int (u12.2.1 28)])), (A 6, .inr (0, [.long u12.2.2.2, .int (u12.2.1 18)])), (A 7, .inr (7, [.int (u12.2.1 20), .int (u12.2.1 21), .int (u12.2.1 22), .int (u12.2.1 23), .int (u12.2.1 24), .int (u12.2.1 25), .int (u12.2.1 26), .int (u12.2.1 27)]))] rfl ?_
              refine Z.of (pc' := 84) (fun _ _ _ hl => lv_aload_n hx hb dX3_areDoneOn_83 rfl (lv_at hl 1 rfl)) ?_
              refine Z.of (pc' := 85) (fun _ _ _ hl => lv_iload_n hx hb dX3_areDoneOn_84 rfl (lv_at hl 0 rfl)) ?_
              refine z_put C iX3 tyX3_ok nmX3 0 5 k22 rfl rfl (by decide) rfl rfl rfl rfl (Nat.le_of_ble_eq_true rfl) dX3_areDoneOn_85 rfl [(O 0, .inr (3, [.ref (O 1), .int (u7.2 0), .int (u7.2 1), .int (u7.2 2), .int 2, .int u12.1, .int (u7.2 5), .int (u7.2 6), .int (u7.2 7), .int (u7.2 8)])), (O 1, .inr (8, [.ref (O 2), .int n])), (O 2, .inl (T.2.1, 60, .inl t)), (A 0, .inr (6, [.ref (A 1), .ref (A 2), .ref (A 3), .ref (A 4), .ref (A 5), .ref (A 6), .ref (A 7), .int (u12.2.1 0), .int (u12.2.1 19)])), (A 1, .inr (4, [.int (u12.2.1 1), .int (u12.2.1 3), .int (u12.2.1 5)])), (A 2, .inr (4, [.int (u12.2.1 2), .int (u12.2.1 4), .int (u12.2.1 6)])), (A 3, .inr (5, [.int (u12.2.1 7), .int (u12.2.1 8), .int (u12.2.1 9), .int (u12.2.1 10)])), (A 4, .inr (1, [.int (u12.2.1 11), .int (u12.2.1 12), .int (u12.2.1 13), .int (u12.2.1 14), .int (u12.2.1 15), .int (u12.2.1 16), .int (u12.2.1 17)])), (A 5, .inr (0, [.long u12.2.2.1, .int (u12.2.1 28)])), (A 6, .inr (0, [.long u12.2.2.2, .int (u12.2.1 18)])), (A 7, .inr (7, [.int (u12.2.1 20), .int (u12.2.1 21), .int (u12.2.1 22), .int (u12.2.1 23), .int (u12.2.1 24), .int (u12.2.1 25), .int (u12.2.1 26), .int (u12.2.1 27)]))] rfl ?_
              refine Z.of (pc' := 89) (fun _ _ _ _ => lv_iconst (v := 0) hx hb dX3_areDoneOn_88 (by decide)) ?_
              exact E (0, upd (upd u7.2 3 2) 4 u12.1, u12.2.1, u12.2.2.1, u12.2.2.2) _ _ _ _ dX3_areDoneOn_89 rfl rfl rfl zh16
          · have zh11 := zh8.trans (if_pos c9)
            refine Z.of (pc' := 49) (fun _ _ _ hl => lv_aload_n hx hb dX3_areDoneOn_48 rfl (lv_at hl 0 rfl)) ?_
            refine Z.of (pc' := 50) (fun _ _ _ _ => lv_iconst (v := 1) hx hb dX3_areDoneOn_49 (by decide)) ?_
            refine z_put C iX3 tyX3_ok nmX3 0 4 k19 rfl rfl (by decide) rfl rfl rfl rfl (Nat.le_of_ble_eq_true rfl) dX3_areDoneOn_50 rfl [(O 0, .inr (3, [.ref (O 1), .int (u7.2 0), .int (u7.2 1), .int (u7.2 2), .int 1, .int (u7.2 4), .int (u7.2 5), .int (u7.2 6), .int (u7.2 7), .int (u7.2 8)])), (O 1, .inr (8, [.ref (O 2), .int n])), (O 2, .inl (T.2.1, 60, .inl t)), (A 0, .inr (6, [.ref (A 1), .ref (A 2), .ref (A 3), .ref (A 4), .ref (A 5), .ref (A 6), .ref (A 7), .int (fx 0), .int (fx 19)])), (A 1, .inr (4, [.int (fx 1), .int (fx 3), .int (fx 5)])), (A 2, .inr (4, [.int (fx 2), .int (fx 4), .int (fx 6)])), (A 3, .inr (5, [.int (fx 7), .int (fx 8), .int (fx 9), .int (fx 10)])), (A 4, .inr (1, [.int (fx 11), .int (fx 12), .int (fx 13), .int (fx 14), .int (fx 15), .int (fx 16), .int (fx 17)])), (A 5, .inr (0, [.long rx, .int (fx 28)])), (A 6, .inr (0, [.long sx, .int (fx 18)])), (A 7, .inr (7, [.int (fx 20), .int (fx 21), .int (fx 22), .int (fx 23), .int (fx 24), .int (fx 25), .int (fx 26), .int (fx 27)]))] rfl ?_
            refine Z.of (pc' := 54) (fun _ _ _ hl => lv_aload_n hx hb dX3_areDoneOn_53 rfl (lv_at hl 0 rfl)) ?_
            refine Z.of (pc' := 55) (fun _ _ _ hl => lv_aload_n hx hb dX3_areDoneOn_54 rfl (lv_at hl 0 rfl)) ?_
            refine z_get C iX3 0 2 k13 rfl rfl (by decide) rfl rfl dX3_areDoneOn_55 rfl ?_
            refine Z.of (pc' := 59) (fun _ _ _ hl => lv_aload_n hx hb dX3_areDoneOn_58 rfl (lv_at hl 0 rfl)) ?_
            refine z_get C iX3 0 1 k7 rfl rfl (by decide) rfl rfl dX3_areDoneOn_59 rfl ?_
            refine Z.of (pc' := 63) (fun _ _ _ hl => lv_isub hx hb dX3_areDoneOn_62) ?_
            refine z_put C iX3 tyX3_ok nmX3 0 5 k22 rfl rfl (by decide) rfl rfl rfl rfl (Nat.le_of_ble_eq_true rfl) dX3_areDoneOn_63 rfl [(O 0, .inr (3, [.ref (O 1), .int (u7.2 0), .int (u7.2 1), .int (u7.2 2), .int 1, .int ((u7.2 1) - (u7.2 0)), .int (u7.2 5), .int (u7.2 6), .int (u7.2 7), .int (u7.2 8)])), (O 1, .inr (8, [.ref (O 2), .int n])), (O 2, .inl (T.2.1, 60, .inl t)), (A 0, .inr (6, [.ref (A 1), .ref (A 2), .ref (A 3), .ref (A 4), .ref (A 5), .ref (A 6), .ref (A 7), .int (fx 0), .int (fx 19)])), (A 1, .inr (4, [.int (fx 1), .int (fx 3), .int (fx 5)])), (A 2, .inr (4, [.int (fx 2), .int (fx 4), .int (fx 6)])), (A 3, .inr (5, [.int (fx 7), .int (fx 8), .int (fx 9), .int (fx 10)])), (A 4, .inr (1, [.int (fx 11), .int (fx 12), .int (fx 13), .int (fx 14), .int (fx 15), .int (fx 16), .int (fx 17)])), (A 5, .inr (0, [.long rx, .int (fx 28)])), (A 6, .inr (0, [.long sx, .int (fx 18)])), (A 7, .inr (7, [.int (fx 20), .int (fx 21), .int (fx 22), .int (fx 23), .int (fx 24), .int (fx 25), .int (fx 26), .int (fx 27)]))] rfl ?_
            refine Z.of (pc' := 67) (fun _ _ _ _ => lv_iconst (v := 0) hx hb dX3_areDoneOn_66 (by decide)) ?_
            exact E (0, upd (upd u7.2 3 1) 4 ((u7.2 1) - (u7.2 0)), fx, rx, sx) _ _ _ _ dX3_areDoneOn_67 rfl rfl rfl zh11
  exact Z.sub (ks := [0, 1]) (lv' := [(0, .ref (O 0)), (1, .ref (A 0))]) rfl (L10 62 0 (upd (upd o 1 0) 2 0) f rb sb ⟨by omega, by omega, rfl⟩ zh0)
