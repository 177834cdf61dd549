theorem zl_M2 {x : Nat → Int32} {f : (Nat → Int32) → (Nat → Int32)} {b : Nat} (h : ∀ u, u = x → MOk (f u) b) : MOk (zl x f) b := h x rfl
theorem MOk_samples {g m t u : Nat → Int32} {b : Nat} (ok0 : MOk m b) (e : u = f_X10_samples g m t b) : MOk u b := by
  rw [e]
  unfold f_X10_samples
  refine zl_M (fun u1 e1 => ?_)
  have ok3 := MOk_runs ok0 (by decide) e1
  refine zl_M (fun u3 _ => ?_)
  refine zl_M (fun v6 e6 => ?_)
  have ok52 : MOk v6 b := by
    rw [e6]
    split
    · simp only [zl]
      exact MOk_runs ok3 (by decide) rfl
    · simp only [zl]
      exact MOk_upd ok3 (by omega) rfl
  refine zl_M (fun u14 _ => ?_)
  refine zl_M (fun u16 _ => ?_)
  refine zl_M (fun v19 _ => ?_)
  refine zl_M (fun m23 e23 => ?_)
  have ok23 := MOk_upd ok52 (by omega) e23
  refine zl_M (fun m25 e25 => ?_)
  have ok25 := MOk_upd ok23 (by omega) e25
  refine zl_M (fun u27 e27 => ?_)
  have ok27 := MOk_keeps ok25 e27
  split
  · exact ok27
  refine zl_M (fun u32 e32 => ?_)
  have ok32 := MOk_tests ok27 e32
  split
  · split
    · refine zl_M (fun m42 e42 => ?_)
      have ok42 := MOk_upd ok32 (by omega) e42
      refine zl_M (fun v45 _ => ?_)
      refine zl_M (fun m49 e49 => ?_)
      exact MOk_upd ok42 (by omega) e49
    · refine zl_M (fun u40 e40 => ?_)
      exact MOk_takesOne ok32 e40
  · refine zl_M (fun m51 e51 => ?_)
    have ok51 := MOk_upd ok32 (by omega) e51
    refine zl_M (fun m53 e53 => ?_)
    have ok53 := MOk_upd ok51 (by omega) e53
    refine zl_M (fun m55 e55 => ?_)
    have ok55 := MOk_upd ok53 (by omega) e55
    refine zl_M (fun m57 e57 => ?_)
    exact MOk_upd ok55 (by omega) e57
theorem zin_of {u v lo hi : Int32} (e : u = f_X10_in v lo hi) (h : ¬ u = 0) : lo ≤ v ∧ v ≤ hi := by
  subst e
  unfold f_X10_in at h
  split at h
  · exact absurd rfl h
  · rename_i h1
    split at h
    · exact absurd rfl h
    · rename_i h2
      exact ⟨Int32.not_lt.mp h1, Int32.not_lt.mp h2⟩
theorem zle1 {x y : Int32} (h : 1 ≤ x ∧ x ≤ y) : 0 ≤ x ∧ x ≤ y := ⟨Int32.le_trans (by decide) h.1, h.2⟩
theorem zle20 {x y : Int32} (h : 20 ≤ x ∧ x ≤ y) : 0 ≤ x ∧ x ≤ y := ⟨Int32.le_trans (by decide) h.1, h.2⟩
theorem znn {x : Int32} (h : 0 ≤ x) : x = nI x.toNatClampNeg ∧ x.toNatClampNeg < 2147483648 := by
  obtain ⟨j, hj, rfl⟩ := nI_of (Int32.not_lt.mpr h)
  rw [nI_clamp hj]
  exact ⟨rfl, hj⟩
theorem zrec1 {x : Int32} {n : Nat} (h : x = nI n) (e : n = 4) : x - 1 + 1 = nI 4 := by rw [h, e]; decide
def lp20_X10_makes (g : Nat → Int32) (m : Nat → Int32) (t : Nat → Int32) (slot : Nat) (many : Int32) : Nat → Nat → (Nat → Int32) → Int32 × (Nat → Int32)
  | 0, _, _ => (0, m)
  | q20 + 1, k, mx =>
    if many ≤ (nI k) then
      ((mx (157 * slot + 23)) - (m (157 * slot + 23)), mx)
    else
      zl (f_X10_samples g mx t (157 * slot)) fun u4 =>
      lp20_X10_makes g m t slot many q20 (k + 1) u4
theorem lp20_X10_makes_s (g : Nat → Int32) (m : Nat → Int32) (t : Nat → Int32) (slot : Nat) (many : Int32) (q20 : Nat) (k : Nat) (mx : (Nat → Int32)) : lp20_X10_makes g m t slot many (q20 + 1) k mx = (
    if many ≤ (nI k) then
      ((mx (157 * slot + 23)) - (m (157 * slot + 23)), mx)
    else
      zl (f_X10_samples g mx t (157 * slot)) fun u4 =>
      lp20_X10_makes g m t slot many q20 (k + 1) u4
    ) := rfl
def f_X10_makes (g : Nat → Int32) (m : Nat → Int32) (t : Nat → Int32) (slot : Nat) (many : Int32) : Int32 × (Nat → Int32) :=
  lp20_X10_makes g m t slot many 302 0 m
theorem fe_X10_makes (g : Nat → Int32) (m : Nat → Int32) (t : Nat → Int32) (slot : Nat) (many : Int32) : f_X10_makes g m t slot many = (
    lp20_X10_makes g m t slot many 302 0 m
    ) := rfl
abbrev rm_X10_makes : Room := { frames := 3, cells := 0, slots := 0, locals := 69 }
set_option maxHeartbeats 1000000 in
set_option maxRecDepth 100000 in
theorem c_X10_makes (l : Launch) (T : zT) (M : Nat → Nat) (g : Nat → Int32) (m : Nat → Int32) (t : Nat → Int32) (slot : Nat) (many : Int32) (hs9 : slot ≤ 6) (hm9 : many ≤ 300) (ok0 : MOk m (157 * slot)) : Ci l yX10_makes wsX10_makes rm_X10_makes T .int [.ref (M 0), .int (nI slot), .int many] [(M 0, .inr (10, [.ref (M 1), .int (g 0), .ref (M 2), .int (g 1), .int (g 2), .int (g 3), .int (g 4), .int (g 5), .int (g 6)])), (M 1, .inl (T.2.2.1, 1099, .inl m)), (M 2, .inl (T.2.2.2, 60, .inl t))] (S := Int32 × (Nat → Int32)) (f_X10_makes g m t slot many) (fun u => u.1) (fun u => [(M 0, .inr (10, [.ref (M 1), .int (g 0), .ref (M 2), .int (g 1), .int (g 2), .int (g 3), .int (g 4), .int (g 5), .int (g 6)])), (M 1, .inl (T.2.2.1, 1099, .inl u.2)), (M 2, .inl (T.2.2.2, 60, .inl t))]) := by
  refine z_metI (own := RX10) (maxL := 6) rfl (by decide) rfl (Nat.le_of_ble_eq_true rfl) ?_
  intro P0 E0 S0 M0 G0 B0 T0 K0 A9 Q9 C E
  have hx := C.1.1
  have hb := C.1.2.1
  have hown := C.1.2.2.2.1
  have hts := C.1.2.2.2.2
  have hn := C.2.1.2
  have iX10 : ∀ w ∈ u_ws RX10 TX10 9, w ∈ wsX10_makes := by decide +kernel
  have k7 := hts (.fieldLink RX10 7 "JudgedBitsModel" "s" "[I") (by decide +kernel)
  change Z P0 l E0 rm_X10_makes S0 M0 G0 B0 T0 K0 6 T A9 Q9 0 0 [(M 0, .inr (10, [.ref (M 1), .int (g 0), .ref (M 2), .int (g 1), .int (g 2), .int (g 3), .int (g 4), .int (g 5), .int (g 6)])), (M 1, .inl (T.2.2.1, 1099, .inl m)), (M 2, .inl (T.2.2.2, 60, .inl t))] 0 [(0, .ref (M 0)), (1, .int (nI slot)), (2, .int many)] []
  have zh0 := fe_X10_makes g m t slot many
  refine Z.of (pc' := 3) (fun _ _ _ _ => lv_sipush (v := 157) hx hb dX10_makes_0 (by decide)) ?_
  refine Z.of (pc' := 4) (fun _ _ _ hl => lv_iload_n hx hb dX10_makes_3 rfl (lv_at hl 1 rfl)) ?_
  refine Z.of (pc' := 5) (fun _ _ _ hl => lv_imul hx hb dX10_makes_4) ?_
  refine Z.topn (y := nI (157 * slot)) (zi_c (zi_mul (a := 157) (b := slot) (rfl : (157 : Int32) = nI 157) (rfl : nI slot = nI slot)) (by omega)) ?_
  refine Z.sto (pc' := 6) (lv' := [(3, .int (nI (157 * slot))), (0, .ref (M 0)), (1, .int (nI slot)), (2, .int many)]) (fun _ _ _ hl => lv_istore_n (lv' := [(3, .int (nI (157 * slot))), (0, .ref (M 0)), (1, .int (nI slot)), (2, .int many)]) hx hb dX10_makes_5 rfl hl (by decide) rfl) ?_
  refine Z.of (pc' := 7) (fun _ _ _ hl => lv_aload_n hx hb dX10_makes_6 rfl (lv_at hl 1 rfl)) ?_
  refine z_get C iX10 0 0 k7 rfl rfl (by decide) rfl rfl dX10_makes_7 rfl ?_
  refine Z.of (pc' := 11) (fun _ _ _ hl => lv_iload_n hx hb dX10_makes_10 rfl (lv_at hl 0 rfl)) ?_
  refine Z.of (pc' := 13) (fun _ _ _ _ => lv_bipush (v := 23) hx hb dX10_makes_11 (by decide)) ?_
  refine Z.of (pc' := 14) (fun _ _ _ hl => lv_iadd hx hb dX10_makes_13) ?_
  refine Z.topn (y := nI (157 * slot + 23)) (zi_c (zi_add (a := 157 * slot) (b := 23) (rfl : nI (157 * slot) = nI (157 * slot)) (rfl : (23 : Int32) = nI 23)) (by omega)) ?_
  refine z_iald C 1 1 rfl rfl (j := 157 * slot + 23) (rfl : nI (157 * slot + 23) = nI (157 * slot + 23)) (by omega) (by decide) dX10_makes_14 rfl ?_
  refine Z.sto (pc' := 17) (lv' := [(4, .int (m (157 * slot + 23))), (3, .int (nI (157 * slot))), (0, .ref (M 0)), (1, .int (nI slot)), (2, .int many)]) (fun _ _ _ hl => lv_istore (lv' := [(4, .int (m (157 * slot + 23))), (3, .int (nI (157 * slot))), (0, .ref (M 0)), (1, .int (nI slot)), (2, .int many)]) hx hb dX10_makes_15 hl (by decide) rfl) ?_
  refine Z.of (pc' := 18) (fun _ _ _ _ => lv_iconst (v := 0) hx hb dX10_makes_17 (by decide)) ?_
  refine Z.sto (pc' := 20) (lv' := [(5, .int 0), (4, .int (m (157 * slot + 23))), (3, .int (nI (157 * slot))), (0, .ref (M 0)), (1, .int (nI slot)), (2, .int many)]) (fun _ _ _ hl => lv_istore (lv' := [(5, .int 0), (4, .int (m (157 * slot + 23))), (3, .int (nI (157 * slot))), (0, .ref (M 0)), (1, .int (nI slot)), (2, .int many)]) hx hb dX10_makes_18 hl (by decide) rfl) ?_
  have L20 : ∀ (q20 : Nat) (k : Nat) (mx : (Nat → Int32)), (k ≤ 300 ∧ k + q20 = 302 ∧ MOk mx (157 * slot)) → f_X10_makes g m t slot many = lp20_X10_makes g m t slot many q20 k mx → Z P0 l E0 rm_X10_makes S0 M0 G0 B0 T0 K0 6 T A9 Q9 0 0 [(M 0, .inr (10, [.ref (M 1), .int (g 0), .ref (M 2), .int (g 1), .int (g 2), .int (g 3), .int (g 4), .int (g 5), .int (g 6)])), (M 1, .inl (T.2.2.1, 1099, .inl mx)), (M 2, .inl (T.2.2.2, 60, .inl t))] 20 [(0, .ref (M 0)), (2, .int many), (3, .int (nI (157 * slot))), (4, .int (m (157 * slot + 23))), (5, .int (nI k))] [] := by
    intro q20
    induction q20 with
    | zero =>
      intro k mx hi20 zhl20
      omega
    | succ q20 ih =>
      intro k mx hi20 zhl20
      have zhb20 := zhl20.trans (lp20_X10_makes_s g m t slot many q20 k mx)
      refine Z.of (pc' := 22) (fun _ _ _ hl => lv_iload hx hb dX10_makes_20 (lv_at hl 4 rfl)) ?_
      refine Z.of (pc' := 23) (fun _ _ _ hl => lv_iload_n hx hb dX10_makes_22 rfl (lv_at hl 1 rfl)) ?_
      refine Z.two (pt := 37) (pf := 26) (fun _ _ _ _ => lv_icmp_ge hx hb dX10_makes_23 (by decide)) (fun c1 => ?_) (fun c1 => ?_)
      · have zh2 := zhb20.trans (if_pos c1)
        refine Z.of (pc' := 38) (fun _ _ _ hl => lv_aload_n hx hb dX10_makes_37 rfl (lv_at hl 0 rfl)) ?_
        refine z_get C iX10 0 0 k7 rfl rfl (by decide) rfl rfl dX10_makes_38 rfl ?_
        refine Z.of (pc' := 42) (fun _ _ _ hl => lv_iload_n hx hb dX10_makes_41 rfl (lv_at hl 2 rfl)) ?_
        refine Z.of (pc' := 44) (fun _ _ _ _ => lv_bipush (v := 23) hx hb dX10_makes_42 (by decide)) ?_
        refine Z.of (pc' := 45) (fun _ _ _ hl => lv_iadd hx hb dX10_makes_44) ?_
        refine Z.topn (y := nI (157 * slot + 23)) (zi_c (zi_add (a := 157 * slot) (b := 23) (rfl : nI (157 * slot) = nI (157 * slot)) (rfl : (23 : Int32) = nI 23)) (by omega)) ?_
        refine z_iald C 1 1 rfl rfl (j := 157 * slot + 23) (rfl : nI (157 * slot + 23) = nI (157 * slot + 23)) (by omega) (by decide) dX10_makes_45 rfl ?_
        refine Z.of (pc' := 48) (fun _ _ _ hl => lv_iload hx hb dX10_makes_46 (lv_at hl 3 rfl)) ?_
        refine Z.of (pc' := 49) (fun _ _ _ hl => lv_isub hx hb dX10_makes_48) ?_
        exact E ((mx (157 * slot + 23)) - (m (157 * slot + 23)), mx) _ _ _ _ dX10_makes_49 rfl rfl rfl zh2
      · have zh3 := zhb20.trans (if_neg c1)
        refine Z.of (pc' := 27) (fun _ _ _ hl => lv_aload_n hx hb dX10_makes_26 rfl (lv_at hl 0 rfl)) ?_
        refine Z.of (pc' := 28) (fun _ _ _ hl => lv_iload_n hx hb dX10_makes_27 rfl (lv_at hl 2 rfl)) ?_
        refine z_callVv C (c_X10_samples l T M g mx t (157 * slot) (by omega) hi20.2.2) [0, 1, 2] [] rfl (by decide +kernel) (fun u4 => [(M 0, .inr (10, [.ref (M 1), .int (g 0), .ref (M 2), .int (g 1), .int (g 2), .int (g 3), .int (g 4), .int (g 5), .int (g 6)])), (M 1, .inl (T.2.2.1, 1099, .inl u4)), (M 2, .inl (T.2.2.2, 60, .inl t))]) (fun _ => rfl) [] rfl (fun _ => rfl) [M 0, M 1, M 2] rfl (fun _ => rfl) 3 (fun _ => rfl) (by decide +kernel) (cwV 1 hts gX10_makes_X10_samples rfl rfl rfl (by decide +kernel) ⟨Nat.le_of_ble_eq_true rfl, Nat.le_of_ble_eq_true rfl⟩) 0 rfl rfl rfl (As := [.int (nI (157 * slot))]) (rest := []) rfl rfl (Nat.le_of_ble_eq_true rfl) dX10_makes_28 rfl ⟨Nat.zero_le _, Nat.zero_le _⟩ (fun u4 eu4 => ?_)
        have zh5 := zl_e zh3 eu4
        refine Z.sto (pc' := 34) (lv' := [(5, .int (nI (k + 1))), (0, .ref (M 0)), (2, .int many), (3, .int (nI (157 * slot))), (4, .int (m (157 * slot + 23)))]) (fun _ _ _ hl => lv_iinc (lv' := [(5, .int (nI (k + 1))), (0, .ref (M 0)), (2, .int many), (3, .int (nI (157 * slot))), (4, .int (m (157 * slot + 23)))]) hx hb dX10_makes_31 hl (k := 4) rfl ((zi_add (a := k) (b := 1) (rfl : nI k = nI k) (by decide : Int32.ofInt 1 = nI 1)).trans (congrArg nI (by omega))) (by decide) rfl) ?_
        refine Z.of (pc' := 20) (fun _ _ _ _ => lv_goto hx hb dX10_makes_34 (by decide)) ?_
        exact Z.sub (ks := [1, 2, 3, 4, 0]) (lv' := [(0, .ref (M 0)), (2, .int many), (3, .int (nI (157 * slot))), (4, .int (m (157 * slot + 23))), (5, .int (nI (k + 1)))]) rfl (ih (k + 1) u4 (by have hlt := zlt_of (N := 300) c1 hm9 (by omega) (by omega); exact ⟨by omega, by omega, MOk_samples hi20.2.2 eu4⟩) zh5)
  exact Z.sub (ks := [3, 5, 2, 1, 0]) (lv' := [(0, .ref (M 0)), (2, .int many), (3, .int (nI (157 * slot))), (4, .int (m (157 * slot + 23))), (5, .int 0)]) rfl (L20 302 0 m ⟨by omega, by omega, ok0⟩ zh0)
def f_X10_sets (g : Nat → Int32) (m : Nat → Int32) (t : Nat → Int32) (slot : Nat) (ring : Int32) (period : Int32) (jitter : Int32) : Int32 × (Nat → Int32) :=
  zl (f_X10_in ring 0 1) fun u1 =>
  if u1 = 0 then
    ((-1000001), m)
  else
    zl (f_X10_in period 10 999) fun u6 =>
    if u6 = 0 then
      ((-1000001), m)
    else
      zl (f_X10_in jitter 0 99) fun u11 =>
      if u11 = 0 then
        ((-1000001), m)
      else
        zl (upd m (157 * slot + ring.toNatClampNeg + 1) period) fun m16 =>
        zl (upd m16 (157 * slot + ring.toNatClampNeg + 3) jitter) fun m18 =>
        zl (upd m18 (157 * slot + ring.toNatClampNeg + 5) 0) fun m20 =>
        (m (157 * slot + ring.toNatClampNeg + 1), m20)
theorem fe_X10_sets (g : Nat → Int32) (m : Nat → Int32) (t : Nat → Int32) (slot : Nat) (ring : Int32) (period : Int32) (jitter : Int32) : f_X10_sets g m t slot ring period jitter = (
    zl (f_X10_in ring 0 1) fun u1 =>
    if u1 = 0 then
      ((-1000001), m)
    else
      zl (f_X10_in period 10 999) fun u6 =>
      if u6 = 0 then
        ((-1000001), m)
      else
        zl (f_X10_in jitter 0 99) fun u11 =>
        if u11 = 0 then
          ((-1000001), m)
        else
          zl (upd m (157 * slot + ring.toNatClampNeg + 1) period) fun m16 =>
          zl (upd m16 (157 * slot + ring.toNatClampNeg + 3) jitter) fun m18 =>
          zl (upd m18 (157 * slot + ring.toNatClampNeg + 5) 0) fun m20 =>
          (m (157 * slot + ring.toNatClampNeg + 1), m20)
    ) := rfl
abbrev rm_X10_sets : Room := { frames := 1, cells := 0, slots := 0, locals := 22 }
set_option maxHeartbeats 1000000 in
set_option maxRecDepth 100000 in
theorem c_X10_sets (l : Launch) (T : zT) (M : Nat → Nat) (g : Nat → Int32) (m : Nat → Int32) (t : Nat → Int32) (slot : Nat) (ring : Int32) (period : Int32) (jitter : Int32) (hs9 : slot ≤ 6) : Ci l yX10_sets wsX10_sets rm_X10_sets T .int [.ref (M 0), .int (nI slot), .int ring, .int period, .int jitter] [(M 0, .inr (10, [.ref (M 1), .int (g 0), .ref (M 2), .int (g 1), .int (g 2), .int (g 3), .int (g 4), .int (g 5), .int (g 6)])), (M 1, .inl (T.2.2.1, 1099, .inl m)), (M 2, .inl (T.2.2.2, 60, .inl t))] (S := Int32 × (Nat → Int32)) (f_X10_sets g m t slot ring period jitter) (fun u => u.1) (fun u => [(M 0, .inr (10, [.ref (M 1), .int (g 0), .ref (M 2), .int (g 1), .int (g 2), .int (g 3), .int (g 4), .int (g 5), .int (g 6)])), (M 1, .inl (T.2.2.1, 1099, .inl u.2)), (M 2, .inl (T.2.2.2, 60, .inl t))]) := by
  refine z_metI (own := RX10) (maxL := 7) rfl (by decide) rfl (Nat.le_of_ble_eq_true rfl) ?_
  intro P0 E0 S0 M0 G0 B0 T0 K0 A9 Q9 C E
  have hx := C.1.1
  have hb := C.1.2.1
  have hown := C.1.2.2.2.1
  have hts := C.1.2.2.2.2
  have hn := C.2.1.2
  have iX10 : ∀ w ∈ u_ws RX10 TX10 9, w ∈ wsX10_sets := by decide +kernel
  have k7 := hts (.fieldLink RX10 7 "JudgedBitsModel" "s" "[I") (by decide +kernel)
  change Z P0 l E0 rm_X10_sets S0 M0 G0 B0 T0 K0 7 T A9 Q9 0 0 [(M 0, .inr (10, [.ref (M 1), .int (g 0), .ref (M 2), .int (g 1), .int (g 2), .int (g 3), .int (g 4), .int (g 5), .int (g 6)])), (M 1, .inl (T.2.2.1, 1099, .inl m)), (M 2, .inl (T.2.2.2, 60, .inl t))] 0 [(0, .ref (M 0)), (1, .int (nI slot)), (2, .int ring), (3, .int period), (4, .int jitter)] []
  have zh0 := fe_X10_sets g m t slot ring period jitter
  refine Z.of (pc' := 1) (fun _ _ _ hl => lv_iload_n hx hb dX10_sets_0 rfl (lv_at hl 2 rfl)) ?_
  refine Z.of (pc' := 2) (fun _ _ _ _ => lv_iconst (v := 0) hx hb dX10_sets_1 (by decide)) ?_
  refine Z.of (pc' := 3) (fun _ _ _ _ => lv_iconst (v := 1) hx hb dX10_sets_2 (by decide)) ?_
  refine z_callSi C (c_X10_in l T ring 0 1) (cwS 3 hts gX10_sets_X10_in rfl rfl rfl (by decide +kernel) ⟨Nat.le_of_ble_eq_true rfl, Nat.le_of_ble_eq_true rfl⟩) (As := [.int ring, .int 0, .int 1]) (rest := []) rfl rfl (Nat.le_of_ble_eq_true rfl) dX10_sets_3 rfl ⟨Nat.zero_le _, Nat.zero_le _⟩ (fun u1 eu1 bu1 => ?_)
  have zh2 := zl_e zh0 eu1
  refine Z.two (pt := 32) (pf := 9) (fun _ _ _ _ => lv_if_eq hx hb dX10_sets_6 (by decide)) (fun c3 => ?_) (fun c3 => ?_)
  · have zh4 := zh2.trans (if_pos c3)
    refine Z.of (pc' := 34) (fun _ _ _ _ => lv_ldc hx hb hown (hts (.constant RX10 59 (-1000001)) (by decide +kernel)) dX10_sets_32) ?_
    exact E ((-1000001), m) _ _ _ _ dX10_sets_34 rfl rfl rfl zh4
  · have zh5 := zh2.trans (if_neg c3)
    refine Z.of (pc' := 10) (fun _ _ _ hl => lv_iload_n hx hb dX10_sets_9 rfl (lv_at hl 3 rfl)) ?_
    refine Z.of (pc' := 12) (fun _ _ _ _ => lv_bipush (v := 10) hx hb dX10_sets_10 (by decide)) ?_
    refine Z.of (pc' := 15) (fun _ _ _ _ => lv_sipush (v := 999) hx hb dX10_sets_12 (by decide)) ?_
    refine z_callSi C (c_X10_in l T period 10 999) (cwS 3 hts gX10_sets_X10_in rfl rfl rfl (by decide +kernel) ⟨Nat.le_of_ble_eq_true rfl, Nat.le_of_ble_eq_true rfl⟩) (As := [.int period, .int 10, .int 999]) (rest := []) rfl rfl (Nat.le_of_ble_eq_true rfl) dX10_sets_15 rfl ⟨Nat.zero_le _, Nat.zero_le _⟩ (fun u6 eu6 bu6 => ?_)
    have zh7 := zl_e zh5 eu6
    refine Z.two (pt := 32) (pf := 21) (fun _ _ _ _ => lv_if_eq hx hb dX10_sets_18 (by decide)) (fun c8 => ?_) (fun c8 => ?_)
    · have zh9 := zh7.trans (if_pos c8)
      refine Z.of (pc' := 34) (fun _ _ _ _ => lv_ldc hx hb hown (hts (.constant RX10 59 (-1000001)) (by decide +kernel)) dX10_sets_32) ?_
      exact E ((-1000001), m) _ _ _ _ dX10_sets_34 rfl rfl rfl zh9
    · have zh10 := zh7.trans (if_neg c8)
      refine Z.of (pc' := 23) (fun _ _ _ hl => lv_iload hx hb dX10_sets_21 (lv_at hl 4 rfl)) ?_
      refine Z.of (pc' := 24) (fun _ _ _ _ => lv_iconst (v := 0) hx hb dX10_sets_23 (by decide)) ?_
      refine Z.of (pc' := 26) (fun _ _ _ _ => lv_bipush (v := 99) hx hb dX10_sets_24 (by decide)) ?_
      refine z_callSi C (c_X10_in l T jitter 0 99) (cwS 3 hts gX10_sets_X10_in rfl rfl rfl (by decide +kernel) ⟨Nat.le_of_ble_eq_true rfl, Nat.le_of_ble_eq_true rfl⟩) (As := [.int jitter, .int 0, .int 99]) (rest := []) rfl rfl (Nat.le_of_ble_eq_true rfl) dX10_sets_26 rfl ⟨Nat.zero_le _, Nat.zero_le _⟩ (fun u11 eu11 bu11 => ?_)
      have zh12 := zl_e zh10 eu11
      refine Z.two' (pt := 35) (pf := 32) (fun _ _ _ _ => lv_if_ne hx hb dX10_sets_29 (by decide)) (fun c13 => ?_) (fun c13 => ?_)
      · have zh14 := zh12.trans (if_neg c13)
        have hri := zix_of (N := 1) (zin_of eu1 c3) (by decide)
        have hri2 := hri.2
        refine Z.of (pc' := 38) (fun _ _ _ _ => lv_sipush (v := 157) hx hb dX10_sets_35 (by decide)) ?_
        refine Z.of (pc' := 39) (fun _ _ _ hl => lv_iload_n hx hb dX10_sets_38 rfl (lv_at hl 1 rfl)) ?_
        refine Z.of (pc' := 40) (fun _ _ _ hl => lv_imul hx hb dX10_sets_39) ?_
        refine Z.topn (y := nI (157 * slot)) (zi_c (zi_mul (a := 157) (b := slot) (rfl : (157 : Int32) = nI 157) (rfl : nI slot = nI slot)) (by omega)) ?_
        refine Z.sto (pc' := 42) (lv' := [(5, .int (nI (157 * slot))), (0, .ref (M 0)), (1, .int (nI slot)), (2, .int ring), (3, .int period), (4, .int jitter)]) (fun _ _ _ hl => lv_istore (lv' := [(5, .int (nI (157 * slot))), (0, .ref (M 0)), (1, .int (nI slot)), (2, .int ring), (3, .int period), (4, .int jitter)]) hx hb dX10_sets_40 hl (by decide) rfl) ?_
        refine Z.of (pc' := 43) (fun _ _ _ hl => lv_aload_n hx hb dX10_sets_42 rfl (lv_at hl 1 rfl)) ?_
        refine z_get C iX10 0 0 k7 rfl rfl (by decide) rfl rfl dX10_sets_43 rfl ?_
        refine Z.of (pc' := 48) (fun _ _ _ hl => lv_iload hx hb dX10_sets_46 (lv_at hl 0 rfl)) ?_
        refine Z.of (pc' := 49) (fun _ _ _ _ => lv_iconst (v := 1) hx hb dX10_sets_48 (by decide)) ?_
        refine Z.of (pc' := 50) (fun _ _ _ hl => lv_iadd hx hb dX10_sets_49) ?_
        refine Z.topn (y := nI (157 * slot + 1)) (zi_c (zi_add (a := 157 * slot) (b := 1) (rfl : nI (157 * slot) = nI (157 * slot)) (rfl : (1 : Int32) = nI 1)) (by omega)) ?_
        refine Z.of (pc' := 51) (fun _ _ _ hl => lv_iload_n hx hb dX10_sets_50 rfl (lv_at hl 3 rfl)) ?_
        refine Z.topn (y := nI ring.toNatClampNeg) hri.1 ?_
        refine Z.of (pc' := 52) (fun _ _ _ hl => lv_iadd hx hb dX10_sets_51) ?_
        refine Z.topn (y := nI (157 * slot + ring.toNatClampNeg + 1)) (zi_c (zi_add (a := 157 * slot + 1) (b := ring.toNatClampNeg) (rfl : nI (157 * slot + 1) = nI (157 * slot + 1)) (rfl : nI ring.toNatClampNeg = nI ring.toNatClampNeg)) (by omega)) ?_
        refine z_iald C 1 1 rfl rfl (j := 157 * slot + ring.toNatClampNeg + 1) (rfl : nI (157 * slot + ring.toNatClampNeg + 1) = nI (157 * slot + ring.toNatClampNeg + 1)) (by omega) (by decide) dX10_sets_52 rfl ?_
        refine Z.sto (pc' := 55) (lv' := [(6, .int (m (157 * slot + ring.toNatClampNeg + 1))), (5, .int (nI (157 * slot))), (0, .ref (M 0)), (1, .int (nI slot)), (2, .int ring), (3, .int period), (4, .int jitter)]) (fun _ _ _ hl => lv_istore (lv' := [(6, .int (m (157 * slot + ring.toNatClampNeg + 1))), (5, .int (nI (157 * slot))), (0, .ref (M 0)), (1, .int (nI slot)), (2, .int ring), (3, .int period), (4, .int jitter)]) hx hb dX10_sets_53 hl (by decide) rfl) ?_
        refine Z.of (pc' := 56) (fun _ _ _ hl => lv_aload_n hx hb dX10_sets_55 rfl (lv_at hl 2 rfl)) ?_
        refine z_get C iX10 0 0 k7 rfl rfl (by decide) rfl rfl dX10_sets_56 rfl ?_
        refine Z.of (pc' := 61) (fun _ _ _ hl => lv_iload hx hb dX10_sets_59 (lv_at hl 1 rfl)) ?_
        refine Z.of (pc' := 62) (fun _ _ _ _ => lv_iconst (v := 1) hx hb dX10_sets_61 (by decide)) ?_
        refine Z.of (pc' := 63) (fun _ _ _ hl => lv_iadd hx hb dX10_sets_62) ?_
        refine Z.topn (y := nI (157 * slot + 1)) (zi_c (zi_add (a := 157 * slot) (b := 1) (rfl : nI (157 * slot) = nI (157 * slot)) (rfl : (1 : Int32) = nI 1)) (by omega)) ?_
        refine Z.of (pc' := 64) (fun _ _ _ hl => lv_iload_n hx hb dX10_sets_63 rfl (lv_at hl 4 rfl)) ?_
        refine Z.topn (y := nI ring.toNatClampNeg) hri.1 ?_
        refine Z.of (pc' := 65) (fun _ _ _ hl => lv_iadd hx hb dX10_sets_64) ?_
        refine Z.topn (y := nI (157 * slot + ring.toNatClampNeg + 1)) (zi_c (zi_add (a := 157 * slot + 1) (b := ring.toNatClampNeg) (rfl : nI (157 * slot + 1) = nI (157 * slot + 1)) (rfl : nI ring.toNatClampNeg = nI ring.toNatClampNeg)) (by omega)) ?_
        refine Z.of (pc' := 66) (fun _ _ _ hl => lv_iload_n hx hb dX10_sets_65 rfl (lv_at hl 5 rfl)) ?_
        refine z_iast C 1 1 rfl rfl (j := 157 * slot + ring.toNatClampNeg + 1) (rfl : nI (157 * slot + ring.toNatClampNeg + 1) = nI (157 * slot + ring.toNatClampNeg + 1)) (by omega) (by decide) dX10_sets_66 rfl (fun m16 => [(M 0, .inr (10, [.ref (M 1), .int (g 0), .ref (M 2), .int (g 1), .int (g 2), .int (g 3), .int (g 4), .int (g 5), .int (g 6)])), (M 1, .inl (T.2.2.1, 1099, .inl m16)), (M 2, .inl (T.2.2.2, 60, .inl t))]) (fun _ => rfl) (fun m16 em16 => ?_)
        have zh17 := zl_e zh14 em16
        refine Z.of (pc' := 68) (fun _ _ _ hl => lv_aload_n hx hb dX10_sets_67 rfl (lv_at hl 2 rfl)) ?_
        refine z_get C iX10 0 0 k7 rfl rfl (by decide) rfl rfl dX10_sets_68 rfl ?_
        refine Z.of (pc' := 73) (fun _ _ _ hl => lv_iload hx hb dX10_sets_71 (lv_at hl 1 rfl)) ?_
        refine Z.of (pc' := 74) (fun _ _ _ _ => lv_iconst (v := 3) hx hb dX10_sets_73 (by decide)) ?_
        refine Z.of (pc' := 75) (fun _ _ _ hl => lv_iadd hx hb dX10_sets_74) ?_
        refine Z.topn (y := nI (157 * slot + 3)) (zi_c (zi_add (a := 157 * slot) (b := 3) (rfl : nI (157 * slot) = nI (157 * slot)) (rfl : (3 : Int32) = nI 3)) (by omega)) ?_
        refine Z.of (pc' := 76) (fun _ _ _ hl => lv_iload_n hx hb dX10_sets_75 rfl (lv_at hl 4 rfl)) ?_
        refine Z.topn (y := nI ring.toNatClampNeg) hri.1 ?_
        refine Z.of (pc' := 77) (fun _ _ _ hl => lv_iadd hx hb dX10_sets_76) ?_
        refine Z.topn (y := nI (157 * slot + ring.toNatClampNeg + 3)) (zi_c (zi_add (a := 157 * slot + 3) (b := ring.toNatClampNeg) (rfl : nI (157 * slot + 3) = nI (157 * slot + 3)) (rfl : nI ring.toNatClampNeg = nI ring.toNatClampNeg)) (by omega)) ?_
        refine Z.of (pc' := 79) (fun _ _ _ hl => lv_iload hx hb dX10_sets_77 (lv_at hl 6 rfl)) ?_
        refine z_iast C 1 1 rfl rfl (j := 157 * slot + ring.toNatClampNeg + 3) (rfl : nI (157 * slot + ring.toNatClampNeg + 3) = nI (157 * slot + ring.toNatClampNeg + 3)) (by omega) (by decide) dX10_sets_79 rfl (fun m18 => [(M 0, .inr (10, [.ref (M 1), .int (g 0), .ref (M 2), .int (g 1), .int (g 2), .int (g 3), .int (g 4), .int (g 5), .int (g 6)])), (M 1, .inl (T.2.2.1, 1099, .inl m18)), (M 2, .inl (T.2.2.2, 60, .inl t))]) (fun _ => rfl) (fun m18 em18 => ?_)
        have zh19 := zl_e zh17 em18
        refine Z.of (pc' := 81) (fun _ _ _ hl => lv_aload_n hx hb dX10_sets_80 rfl (lv_at hl 2 rfl)) ?_
        refine z_get C iX10 0 0 k7 rfl rfl (by decide) rfl rfl dX10_sets_81 rfl ?_
        refine Z.of (pc' := 86) (fun _ _ _ hl => lv_iload hx hb dX10_sets_84 (lv_at hl 1 rfl)) ?_
        refine Z.of (pc' := 87) (fun _ _ _ _ => lv_iconst (v := 5) hx hb dX10_sets_86 (by decide)) ?_
        refine Z.of (pc' := 88) (fun _ _ _ hl => lv_iadd hx hb dX10_sets_87) ?_
        refine Z.topn (y := nI (157 * slot + 5)) (zi_c (zi_add (a := 157 * slot) (b := 5) (rfl : nI (157 * slot) = nI (157 * slot)) (rfl : (5 : Int32) = nI 5)) (by omega)) ?_
        refine Z.of (pc' := 89) (fun _ _ _ hl => lv_iload_n hx hb dX10_sets_88 rfl (lv_at hl 4 rfl)) ?_
        refine Z.topn (y := nI ring.toNatClampNeg) hri.1 ?_
        refine Z.of (pc' := 90) (fun _ _ _ hl => lv_iadd hx hb dX10_sets_89) ?_
        refine Z.topn (y := nI (157 * slot + ring.toNatClampNeg + 5)) (zi_c (zi_add (a := 157 * slot + 5) (b := ring.toNatClampNeg) (rfl : nI (157 * slot + 5) = nI (157 * slot + 5)) (rfl : nI ring.toNatClampNeg = nI ring.toNatClampNeg)) (by omega)) ?_
        refine Z.of (pc' := 91) (fun _ _ _ _ => lv_iconst (v := 0) hx hb dX10_sets_90 (by decide)) ?_
        refine z_iast C 1 1 rfl rfl (j := 157 * slot + ring.toNatClampNeg + 5) (rfl : nI (157 * slot + ring.toNatClampNeg + 5) = nI (157 * slot + ring.toNatClampNeg + 5)) (by omega) (by decide) dX10_sets_91 rfl (fun m20 => [(M 0, .inr (10, [.ref (M 1), .int (g 0), .ref (M 2), .int (g 1), .int (g 2), .int (g 3), .int (g 4), .int (g 5), .int (g 6)])), (M 1, .inl (T.2.2.1, 1099, .inl m20)), (M 2, .inl (T.2.2.2, 60, .inl t))]) (fun _ => rfl) (fun m20 em20 => ?_)
        have zh21 := zl_e zh19 em20
        refine Z.of (pc' := 94) (fun _ _ _ hl => lv_iload hx hb dX10_sets_92 (lv_at hl 0 rfl)) ?_
        exact E (m (157 * slot + ring.toNatClampNeg + 1), m20) _ _ _ _ dX10_sets_94 rfl rfl rfl zh21
      · have zh15 := zh12.trans (if_pos c13)
        refine Z.of (pc' := 34) (fun _ _ _ _ => lv_ldc hx hb hown (hts (.constant RX10 59 (-1000001)) (by decide +kernel)) dX10_sets_32) ?_
        exact E ((-1000001), m) _ _ _ _ dX10_sets_34 rfl rfl rfl zh15
def lp88_X10_draws (g : Nat → Int32) (m : Nat → Int32) (t : Nat → Int32) (slot : Nat) (many : Int32) : Nat → Nat → Int32 → (Nat → Int32) → Int32 × (Nat → Int32)
  | 0, _, _, _ => (0, m)
  | q88 + 1, k2, tol, mx =>
    if (mx (157 * slot + 18)) ≤ (nI k2) then
      zl (upd mx (157 * slot + 18) ((mx (157 * slot + 18)) - many)) fun m18 =>
      zl (upd m18 (157 * slot + 25) ((m18 (157 * slot + 25)) + many)) fun m20 =>
      (tol, m20)
    else
      zl (upd mx ((157 * slot + k2 + 93) - many.toNatClampNeg) (mx (157 * slot + k2 + 93))) fun m22 =>
      lp88_X10_draws g m t slot many q88 (k2 + 1) tol m22
theorem lp88_X10_draws_s (g : Nat → Int32) (m : Nat → Int32) (t : Nat → Int32) (slot : Nat) (many : Int32) (q88 : Nat) (k2 : Nat) (tol : Int32) (mx : (Nat → Int32)) : lp88_X10_draws g m t slot many (q88 + 1) k2 tol mx = (
    if (mx (157 * slot + 18)) ≤ (nI k2) then
      zl (upd mx (157 * slot + 18) ((mx (157 * slot + 18)) - many)) fun m18 =>
      zl (upd m18 (157 * slot + 25) ((m18 (157 * slot + 25)) + many)) fun m20 =>
      (tol, m20)
    else
      zl (upd mx ((157 * slot + k2 + 93) - many.toNatClampNeg) (mx (157 * slot + k2 + 93))) fun m22 =>
      lp88_X10_draws g m t slot many q88 (k2 + 1) tol m22
    ) := rfl
def lp54_X10_draws (g : Nat → Int32) (m : Nat → Int32) (t : Nat → Int32) (slot : Nat) (many : Int32) : Nat → Nat → Int32 → Int32 × (Nat → Int32)
  | 0, _, _ => (0, m)
  | q54 + 1, k, told =>
    if (nI many.toNatClampNeg) ≤ (nI k) then
      lp88_X10_draws g m t slot many 66 many.toNatClampNeg told m
    else
      lp54_X10_draws g m t slot many q54 (k + 1) ((2 * told) + (m (157 * slot + k + 93)))
theorem lp54_X10_draws_s (g : Nat → Int32) (m : Nat → Int32) (t : Nat → Int32) (slot : Nat) (many : Int32) (q54 : Nat) (k : Nat) (told : Int32) : lp54_X10_draws g m t slot many (q54 + 1) k told = (
    if (nI many.toNatClampNeg) ≤ (nI k) then
      lp88_X10_draws g m t slot many 66 many.toNatClampNeg told m
    else
      lp54_X10_draws g m t slot many q54 (k + 1) ((2 * told) + (m (157 * slot + k + 93)))
    ) := rfl
def f_X10_draws (g : Nat → Int32) (m : Nat → Int32) (t : Nat → Int32) (slot : Nat) (many : Int32) : Int32 × (Nat → Int32) :=
  zl (f_X10_in many 1 24) fun u1 =>
  if u1 = 0 then
    ((-1000001), m)
  else
    if (m (157 * slot + 18)) < many then
      ((-1000002), m)
    else
      if (m (157 * slot + 11)) = 2 then
        ((-1000002), m)
      else
        lp54_X10_draws g m t slot many 26 0 0
theorem fe_X10_draws (g : Nat → Int32) (m : Nat → Int32) (t : Nat → Int32) (slot : Nat) (many : Int32) : f_X10_draws g m t slot many = (
    zl (f_X10_in many 1 24) fun u1 =>
    if u1 = 0 then
      ((-1000001), m)
    else
      if (m (157 * slot + 18)) < many then
        ((-1000002), m)
      else
        if (m (157 * slot + 11)) = 2 then
          ((-1000002), m)
        else
          lp54_X10_draws g m t slot many 26 0 0
    ) := rfl
abbrev rm_X10_draws : Room := { frames := 1, cells := 0, slots := 0, locals := 22 }
set_option maxHeartbeats 1000000 in
set_option maxRecDepth 100000 in
theorem c_X10_draws (l : Launch) (T : zT) (M : Nat → Nat) (g : Nat → Int32) (m : Nat → Int32) (t : Nat → Int32) (slot : Nat) (many : Int32) (hs9 : slot ≤ 6) (hst0 : IN (m (157 * slot + 18)) 64) : Ci l yX10_draws wsX10_draws rm_X10_draws T .int [.ref (M 0), .int (nI slot), .int many] [(M 0, .inr (10, [.ref (M 1), .int (g 0), .ref (M 2), .int (g 1), .int (g 2), .int (g 3), .int (g 4), .int (g 5), .int (g 6)])), (M 1, .inl (T.2.2.1, 1099, .inl m)), (M 2, .inl (T.2.2.2, 60, .inl t))] (S := Int32 × (Nat → Int32)) (f_X10_draws g m t slot many) (fun u => u.1) (fun u => [(M 0, .inr (10, [.ref (M 1), .int (g 0), .ref (M 2), .int (g 1), .int (g 2), .int (g 3), .int (g 4), .int (g 5), .int (g 6)])), (M 1, .inl (T.2.2.1, 1099, .inl u.2)), (M 2, .inl (T.2.2.2, 60, .inl t))]) := by
  refine z_metI (own := RX10) (maxL := 6) rfl (by decide) rfl (Nat.le_of_ble_eq_true rfl) ?_
  intro P0 E0 S0 M0 G0 B0 T0 K0 A9 Q9 C E
  have hx := C.1.1
  have hb := C.1.2.1
  have hown := C.1.2.2.2.1
  have hts := C.1.2.2.2.2
  have hn := C.2.1.2
  have iX10 : ∀ w ∈ u_ws RX10 TX10 9, w ∈ wsX10_draws := by decide +kernel
  have k7 := hts (.fieldLink RX10 7 "JudgedBitsModel" "s" "[I") (by decide +kernel)
  have hs8 := hst0.1
  have hst := hst0.2
  change Z P0 l E0 rm_X10_draws S0 M0 G0 B0 T0 K0 6 T A9 Q9 0 0 [(M 0, .inr (10, [.ref (M 1), .int (g 0), .ref (M 2), .int (g 1), .int (g 2), .int (g 3), .int (g 4), .int (g 5), .int (g 6)])), (M 1, .inl (T.2.2.1, 1099, .inl m)), (M 2, .inl (T.2.2.2, 60, .inl t))] 0 [(0, .ref (M 0)), (1, .int (nI slot)), (2, .int many)] []
  have zh0 := fe_X10_draws g m t slot many
  refine Z.of (pc' := 3) (fun _ _ _ _ => lv_sipush (v := 157) hx hb dX10_draws_0 (by decide)) ?_
  refine Z.of (pc' := 4) (fun _ _ _ hl => lv_iload_n hx hb dX10_draws_3 rfl (lv_at hl 1 rfl)) ?_
  refine Z.of (pc' := 5) (fun _ _ _ hl => lv_imul hx hb dX10_draws_4) ?_
  refine Z.topn (y := nI (157 * slot)) (zi_c (zi_mul (a := 157) (b := slot) (rfl : (157 : Int32) = nI 157) (rfl : nI slot = nI slot)) (by omega)) ?_
  refine Z.sto (pc' := 6) (lv' := [(3, .int (nI (157 * slot))), (0, .ref (M 0)), (1, .int (nI slot)), (2, .int many)]) (fun _ _ _ hl => lv_istore_n (lv' := [(3, .int (nI (157 * slot))), (0, .ref (M 0)), (1, .int (nI slot)), (2, .int many)]) hx hb dX10_draws_5 rfl hl (by decide) rfl) ?_
  refine Z.of (pc' := 7) (fun _ _ _ hl => lv_iload_n hx hb dX10_draws_6 rfl (lv_at hl 3 rfl)) ?_
  refine Z.of (pc' := 8) (fun _ _ _ _ => lv_iconst (v := 1) hx hb dX10_draws_7 (by decide)) ?_
  refine Z.of (pc' := 10) (fun _ _ _ _ => lv_bipush (v := 24) hx hb dX10_draws_8 (by decide)) ?_
  refine z_callSi C (c_X10_in l T many 1 24) (cwS 3 hts gX10_draws_X10_in rfl rfl rfl (by decide +kernel) ⟨Nat.le_of_ble_eq_true rfl, Nat.le_of_ble_eq_true rfl⟩) (As := [.int many, .int 1, .int 24]) (rest := []) rfl rfl (Nat.le_of_ble_eq_true rfl) dX10_draws_10 rfl ⟨Nat.zero_le _, Nat.zero_le _⟩ (fun u1 eu1 bu1 => ?_)
  have zh2 := zl_e zh0 eu1
  refine Z.two' (pt := 19) (pf := 16) (fun _ _ _ _ => lv_if_ne hx hb dX10_draws_13 (by decide)) (fun c3 => ?_) (fun c3 => ?_)
  · have zh4 := zh2.trans (if_neg c3)
    refine Z.of (pc' := 20) (fun _ _ _ hl => lv_aload_n hx hb dX10_draws_19 rfl (lv_at hl 1 rfl)) ?_
    refine z_get C iX10 0 0 k7 rfl rfl (by decide) rfl rfl dX10_draws_20 rfl ?_
    refine Z.of (pc' := 24) (fun _ _ _ hl => lv_iload_n hx hb dX10_draws_23 rfl (lv_at hl 0 rfl)) ?_
    refine Z.of (pc' := 26) (fun _ _ _ _ => lv_bipush (v := 18) hx hb dX10_draws_24 (by decide)) ?_
    refine Z.of (pc' := 27) (fun _ _ _ hl => lv_iadd hx hb dX10_draws_26) ?_
    refine Z.topn (y := nI (157 * slot + 18)) (zi_c (zi_add (a := 157 * slot) (b := 18) (rfl : nI (157 * slot) = nI (157 * slot)) (rfl : (18 : Int32) = nI 18)) (by omega)) ?_
    refine z_iald C 1 1 rfl rfl (j := 157 * slot + 18) (rfl : nI (157 * slot + 18) = nI (157 * slot + 18)) (by omega) (by decide) dX10_draws_27 rfl ?_
    refine Z.of (pc' := 29) (fun _ _ _ hl => lv_iload_n hx hb dX10_draws_28 rfl (lv_at hl 3 rfl)) ?_
    refine Z.two (pt := 45) (pf := 32) (fun _ _ _ _ => lv_icmp_lt hx hb dX10_draws_29 (by decide)) (fun c6 => ?_) (fun c6 => ?_)
    · have zh7 := zh4.trans (if_pos c6)
      refine Z.of (pc' := 47) (fun _ _ _ _ => lv_ldc hx hb hown (hts (.constant RX10 60 (-1000002)) (by decide +kernel)) dX10_draws_45) ?_
      exact E ((-1000002), m) _ _ _ _ dX10_draws_47 rfl rfl rfl zh7
    · have zh8 := zh4.trans (if_neg c6)
      refine Z.of (pc' := 33) (fun _ _ _ hl => lv_aload_n hx hb dX10_draws_32 rfl (lv_at hl 1 rfl)) ?_
      refine z_get C iX10 0 0 k7 rfl rfl (by decide) rfl rfl dX10_draws_33 rfl ?_
      refine Z.of (pc' := 37) (fun _ _ _ hl => lv_iload_n hx hb dX10_draws_36 rfl (lv_at hl 0 rfl)) ?_
      refine Z.of (pc' := 39) (fun _ _ _ _ => lv_bipush (v := 11) hx hb dX10_draws_37 (by decide)) ?_
      refine Z.of (pc' := 40) (fun _ _ _ hl => lv_iadd hx hb dX10_draws_39) ?_
      refine Z.topn (y := nI (157 * slot + 11)) (zi_c (zi_add (a := 157 * slot) (b := 11) (rfl : nI (157 * slot) = nI (157 * slot)) (rfl : (11 : Int32) = nI 11)) (by omega)) ?_
      refine z_iald C 1 1 rfl rfl (j := 157 * slot + 11) (rfl : nI (157 * slot + 11) = nI (157 * slot + 11)) (by omega) (by decide) dX10_draws_40 rfl ?_
      refine Z.of (pc' := 42) (fun _ _ _ _ => lv_iconst (v := 2) hx hb dX10_draws_41 (by decide)) ?_
      refine Z.two' (pt := 48) (pf := 45) (fun _ _ _ _ => lv_icmp_ne hx hb dX10_draws_42 (by decide)) (fun c9 => ?_) (fun c9 => ?_)
      · have zh10 := zh8.trans (if_neg c9)
        have hmn := zix_of (N := 24) (zle1 (zin_of eu1 c3)) (by decide)
        have hmn2 := hmn.2
        have hms := zf_nlt (a := (m (157 * slot + 18)).toNatClampNeg) (b := many.toNatClampNeg) hs8 hmn.1 c6 (by omega) (by omega)
        refine Z.of (pc' := 49) (fun _ _ _ _ => lv_iconst (v := 0) hx hb dX10_draws_48 (by decide)) ?_
        refine Z.sto (pc' := 51) (lv' := [(4, .int 0), (3, .int (nI (157 * slot))), (0, .ref (M 0)), (1, .int (nI slot)), (2, .int many)]) (fun _ _ _ hl => lv_istore (lv' := [(4, .int 0), (3, .int (nI (157 * slot))), (0, .ref (M 0)), (1, .int (nI slot)), (2, .int many)]) hx hb dX10_draws_49 hl (by decide) rfl) ?_
        refine Z.of (pc' := 52) (fun _ _ _ _ => lv_iconst (v := 0) hx hb dX10_draws_51 (by decide)) ?_
        refine Z.sto (pc' := 54) (lv' := [(5, .int 0), (4, .int 0), (3, .int (nI (157 * slot))), (0, .ref (M 0)), (1, .int (nI slot)), (2, .int many)]) (fun _ _ _ hl => lv_istore (lv' := [(5, .int 0), (4, .int 0), (3, .int (nI (157 * slot))), (0, .ref (M 0)), (1, .int (nI slot)), (2, .int many)]) hx hb dX10_draws_52 hl (by decide) rfl) ?_
        have L54 : ∀ (q54 : Nat) (k : Nat) (told : Int32), (k ≤ many.toNatClampNeg ∧ k + q54 = 26) → f_X10_draws g m t slot many = lp54_X10_draws g m t slot many q54 k told → Z P0 l E0 rm_X10_draws S0 M0 G0 B0 T0 K0 6 T A9 Q9 0 0 [(M 0, .inr (10, [.ref (M 1), .int (g 0), .ref (M 2), .int (g 1), .int (g 2), .int (g 3), .int (g 4), .int (g 5), .int (g 6)])), (M 1, .inl (T.2.2.1, 1099, .inl m)), (M 2, .inl (T.2.2.2, 60, .inl t))] 54 [(0, .ref (M 0)), (2, .int many), (3, .int (nI (157 * slot))), (4, .int told), (5, .int (nI k))] [] := by
          intro q54
          induction q54 with
          | zero =>
            intro k told hi54 zhl54
            omega
          | succ q54 ih =>
            intro k told hi54 zhl54
            have zhb54 := zhl54.trans (lp54_X10_draws_s g m t slot many q54 k told)
            refine Z.of (pc' := 56) (fun _ _ _ hl => lv_iload hx hb dX10_draws_54 (lv_at hl 4 rfl)) ?_
            refine Z.of (pc' := 57) (fun _ _ _ hl => lv_iload_n hx hb dX10_draws_56 rfl (lv_at hl 1 rfl)) ?_
            refine Z.topn (y := nI many.toNatClampNeg) hmn.1 ?_
            refine Z.two (pt := 85) (pf := 60) (fun _ _ _ _ => lv_icmp_ge hx hb dX10_draws_57 (by decide)) (fun c12 => ?_) (fun c12 => ?_)
            · have nc12 : many.toNatClampNeg ≤ k := zf_le (a := many.toNatClampNeg) (b := k) (rfl : nI many.toNatClampNeg = nI many.toNatClampNeg) (rfl : nI k = nI k) c12 (by omega) (by omega)
              have zh13 := zhb54.trans (if_pos c12)
              refine Z.of (pc' := 86) (fun _ _ _ hl => lv_iload_n hx hb dX10_draws_85 rfl (lv_at hl 1 rfl)) ?_
              refine Z.topn (y := nI many.toNatClampNeg) hmn.1 ?_
              refine Z.sto (pc' := 88) (lv' := [(5, .int (nI many.toNatClampNeg)), (0, .ref (M 0)), (2, .int many), (3, .int (nI (157 * slot))), (4, .int told)]) (fun _ _ _ hl => lv_istore (lv' := [(5, .int (nI many.toNatClampNeg)), (0, .ref (M 0)), (2, .int many), (3, .int (nI (157 * slot))), (4, .int told)]) hx hb dX10_draws_86 hl (by decide) rfl) ?_
              have L88 : ∀ (q88 : Nat) (k2 : Nat) (tol : Int32) (mx : (Nat → Int32)), (many.toNatClampNeg ≤ k2 ∧ k2 ≤ (m (157 * slot + 18)).toNatClampNeg ∧ k2 + q88 = many.toNatClampNeg + 66 ∧ mx (157 * slot + 18) = m (157 * slot + 18)) → f_X10_draws g m t slot many = lp88_X10_draws g m t slot many q88 k2 tol mx → Z P0 l E0 rm_X10_draws S0 M0 G0 B0 T0 K0 6 T A9 Q9 0 0 [(M 0, .inr (10, [.ref (M 1), .int (g 0), .ref (M 2), .int (g 1), .int (g 2), .int (g 3), .int (g 4), .int (g 5), .int (g 6)])), (M 1, .inl (T.2.2.1, 1099, .inl mx)), (M 2, .inl (T.2.2.2, 60, .inl t))] 88 [(0, .ref (M 0)), (2, .int many), (3, .int (nI (157 * slot))), (4, .int tol), (5, .int (nI k2))] [] := by
                intro q88
                induction q88 with
                | zero =>
                  intro k2 tol mx hi88 zhl88
                  omega
                | succ q88 ih =>
                  intro k2 tol mx hi88 zhl88
                  have zhb88 := zhl88.trans (lp88_X10_draws_s g m t slot many q88 k2 tol mx)
                  refine Z.of (pc' := 90) (fun _ _ _ hl => lv_iload hx hb dX10_draws_88 (lv_at hl 4 rfl)) ?_
                  refine Z.of (pc' := 91) (fun _ _ _ hl => lv_aload_n hx hb dX10_draws_90 rfl (lv_at hl 0 rfl)) ?_
                  refine z_get C iX10 0 0 k7 rfl rfl (by decide) rfl rfl dX10_draws_91 rfl ?_
                  refine Z.of (pc' := 95) (fun _ _ _ hl => lv_iload_n hx hb dX10_draws_94 rfl (lv_at hl 2 rfl)) ?_
                  refine Z.of (pc' := 97) (fun _ _ _ _ => lv_bipush (v := 18) hx hb dX10_draws_95 (by decide)) ?_
                  refine Z.of (pc' := 98) (fun _ _ _ hl => lv_iadd hx hb dX10_draws_97) ?_
                  refine Z.topn (y := nI (157 * slot + 18)) (zi_c (zi_add (a := 157 * slot) (b := 18) (rfl : nI (157 * slot) = nI (157 * slot)) (rfl : (18 : Int32) = nI 18)) (by omega)) ?_
                  refine z_iald C 1 1 rfl rfl (j := 157 * slot + 18) (rfl : nI (157 * slot + 18) = nI (157 * slot + 18)) (by omega) (by decide) dX10_draws_98 rfl ?_
                  refine Z.two (pt := 134) (pf := 102) (fun _ _ _ _ => lv_icmp_ge hx hb dX10_draws_99 (by decide)) (fun c15 => ?_) (fun c15 => ?_)
                  · have nc15 : ((m (157 * slot + 18)).toNatClampNeg) ≤ k2 := zf_le (a := ((m (157 * slot + 18)).toNatClampNeg)) (b := k2) (hi88.2.2.2.trans hs8) (rfl : nI k2 = nI k2) c15 (by omega) (by omega)
                    have zh16 := zhb88.trans (if_pos c15)
                    refine Z.of (pc' := 135) (fun _ _ _ hl => lv_aload_n hx hb dX10_draws_134 rfl (lv_at hl 0 rfl)) ?_
                    refine z_get C iX10 0 0 k7 rfl rfl (by decide) rfl rfl dX10_draws_135 rfl ?_
                    refine Z.of (pc' := 139) (fun _ _ _ hl => lv_iload_n hx hb dX10_draws_138 rfl (lv_at hl 2 rfl)) ?_
                    refine Z.of (pc' := 141) (fun _ _ _ _ => lv_bipush (v := 18) hx hb dX10_draws_139 (by decide)) ?_
                    refine Z.of (pc' := 142) (fun _ _ _ hl => lv_iadd hx hb dX10_draws_141) ?_
                    refine Z.topn (y := nI (157 * slot + 18)) (zi_c (zi_add (a := 157 * slot) (b := 18) (rfl : nI (157 * slot) = nI (157 * slot)) (rfl : (18 : Int32) = nI 18)) (by omega)) ?_
                    refine Z.of (pc' := 143) (fun _ _ _ hl => lv_dup2_11 hx hb dX10_draws_142 rfl rfl) ?_
                    refine z_iald C 1 1 rfl rfl (j := 157 * slot + 18) (rfl : nI (157 * slot + 18) = nI (157 * slot + 18)) (by omega) (by decide) dX10_draws_143 rfl ?_
                    refine Z.of (pc' := 145) (fun _ _ _ hl => lv_iload_n hx hb dX10_draws_144 rfl (lv_at hl 1 rfl)) ?_
                    refine Z.of (pc' := 146) (fun _ _ _ hl => lv_isub hx hb dX10_draws_145) ?_
                    refine z_iast C 1 1 rfl rfl (j := 157 * slot + 18) (rfl : nI (157 * slot + 18) = nI (157 * slot + 18)) (by omega) (by decide) dX10_draws_146 rfl (fun m18 => [(M 0, .inr (10, [.ref (M 1), .int (g 0), .ref (M 2), .int (g 1), .int (g 2), .int (g 3), .int (g 4), .int (g 5), .int (g 6)])), (M 1, .inl (T.2.2.1, 1099, .inl m18)), (M 2, .inl (T.2.2.2, 60, .inl t))]) (fun _ => rfl) (fun m18 em18 => ?_)
                    have zh19 := zl_e zh16 em18
                    refine Z.of (pc' := 148) (fun _ _ _ hl => lv_aload_n hx hb dX10_draws_147 rfl (lv_at hl 0 rfl)) ?_
                    refine z_get C iX10 0 0 k7 rfl rfl (by decide) rfl rfl dX10_draws_148 rfl ?_
                    refine Z.of (pc' := 152) (fun _ _ _ hl => lv_iload_n hx hb dX10_draws_151 rfl (lv_at hl 2 rfl)) ?_
                    refine Z.of (pc' := 154) (fun _ _ _ _ => lv_bipush (v := 25) hx hb dX10_draws_152 (by decide)) ?_
                    refine Z.of (pc' := 155) (fun _ _ _ hl => lv_iadd hx hb dX10_draws_154) ?_
                    refine Z.topn (y := nI (157 * slot + 25)) (zi_c (zi_add (a := 157 * slot) (b := 25) (rfl : nI (157 * slot) = nI (157 * slot)) (rfl : (25 : Int32) = nI 25)) (by omega)) ?_
                    refine Z.of (pc' := 156) (fun _ _ _ hl => lv_dup2_11 hx hb dX10_draws_155 rfl rfl) ?_
                    refine z_iald C 1 1 rfl rfl (j := 157 * slot + 25) (rfl : nI (157 * slot + 25) = nI (157 * slot + 25)) (by omega) (by decide) dX10_draws_156 rfl ?_
                    refine Z.of (pc' := 158) (fun _ _ _ hl => lv_iload_n hx hb dX10_draws_157 rfl (lv_at hl 1 rfl)) ?_
                    refine Z.of (pc' := 159) (fun _ _ _ hl => lv_iadd hx hb dX10_draws_158) ?_
                    refine z_iast C 1 1 rfl rfl (j := 157 * slot + 25) (rfl : nI (157 * slot + 25) = nI (157 * slot + 25)) (by omega) (by decide) dX10_draws_159 rfl (fun m20 => [(M 0, .inr (10, [.ref (M 1), .int (g 0), .ref (M 2), .int (g 1), .int (g 2), .int (g 3), .int (g 4), .int (g 5), .int (g 6)])), (M 1, .inl (T.2.2.1, 1099, .inl m20)), (M 2, .inl (T.2.2.2, 60, .inl t))]) (fun _ => rfl) (fun m20 em20 => ?_)
                    have zh21 := zl_e zh19 em20
                    refine Z.of (pc' := 162) (fun _ _ _ hl => lv_iload hx hb dX10_draws_160 (lv_at hl 3 rfl)) ?_
                    exact E (tol, m20) _ _ _ _ dX10_draws_162 rfl rfl rfl zh21
                  · have nc15 : ¬ (((m (157 * slot + 18)).toNatClampNeg) ≤ k2) := zf_nle (a := ((m (157 * slot + 18)).toNatClampNeg)) (b := k2) (hi88.2.2.2.trans hs8) (rfl : nI k2 = nI k2) c15 (by omega) (by omega)
                    have zh17 := zhb88.trans (if_neg c15)
                    refine Z.of (pc' := 103) (fun _ _ _ hl => lv_aload_n hx hb dX10_draws_102 rfl (lv_at hl 0 rfl)) ?_
                    refine z_get C iX10 0 0 k7 rfl rfl (by decide) rfl rfl dX10_draws_103 rfl ?_
                    refine Z.of (pc' := 107) (fun _ _ _ hl => lv_iload_n hx hb dX10_draws_106 rfl (lv_at hl 2 rfl)) ?_
                    refine Z.of (pc' := 109) (fun _ _ _ _ => lv_bipush (v := 93) hx hb dX10_draws_107 (by decide)) ?_
                    refine Z.of (pc' := 110) (fun _ _ _ hl => lv_iadd hx hb dX10_draws_109) ?_
                    refine Z.topn (y := nI (157 * slot + 93)) (zi_c (zi_add (a := 157 * slot) (b := 93) (rfl : nI (157 * slot) = nI (157 * slot)) (rfl : (93 : Int32) = nI 93)) (by omega)) ?_
                    refine Z.of (pc' := 112) (fun _ _ _ hl => lv_iload hx hb dX10_draws_110 (lv_at hl 4 rfl)) ?_
                    refine Z.of (pc' := 113) (fun _ _ _ hl => lv_iadd hx hb dX10_draws_112) ?_
                    refine Z.topn (y := nI (157 * slot + k2 + 93)) (zi_c (zi_add (a := 157 * slot + 93) (b := k2) (rfl : nI (157 * slot + 93) = nI (157 * slot + 93)) (rfl : nI k2 = nI k2)) (by omega)) ?_
                    refine Z.of (pc' := 114) (fun _ _ _ hl => lv_iload_n hx hb dX10_draws_113 rfl (lv_at hl 1 rfl)) ?_
                    refine Z.topn (y := nI many.toNatClampNeg) hmn.1 ?_
                    refine Z.of (pc' := 115) (fun _ _ _ hl => lv_isub hx hb dX10_draws_114) ?_
                    refine Z.topn (y := nI ((157 * slot + k2 + 93) - many.toNatClampNeg)) (zi_c (zi_sub (a := 157 * slot + k2 + 93) (b := many.toNatClampNeg) (rfl : nI (157 * slot + k2 + 93) = nI (157 * slot + k2 + 93)) (rfl : nI many.toNatClampNeg = nI many.toNatClampNeg) (by omega)) (by omega)) ?_
                    refine Z.of (pc' := 116) (fun _ _ _ hl => lv_aload_n hx hb dX10_draws_115 rfl (lv_at hl 0 rfl)) ?_
                    refine z_get C iX10 0 0 k7 rfl rfl (by decide) rfl rfl dX10_draws_116 rfl ?_
                    refine Z.of (pc' := 120) (fun _ _ _ hl => lv_iload_n hx hb dX10_draws_119 rfl (lv_at hl 2 rfl)) ?_
                    refine Z.of (pc' := 122) (fun _ _ _ _ => lv_bipush (v := 93) hx hb dX10_draws_120 (by decide)) ?_
                    refine Z.of (pc' := 123) (fun _ _ _ hl => lv_iadd hx hb dX10_draws_122) ?_
                    refine Z.topn (y := nI (157 * slot + 93)) (zi_c (zi_add (a := 157 * slot) (b := 93) (rfl : nI (157 * slot) = nI (157 * slot)) (rfl : (93 : Int32) = nI 93)) (by omega)) ?_
                    refine Z.of (pc' := 125) (fun _ _ _ hl => lv_iload hx hb dX10_draws_123 (lv_at hl 4 rfl)) ?_
                    refine Z.of (pc' := 126) (fun _ _ _ hl => lv_iadd hx hb dX10_draws_125) ?_
                    refine Z.topn (y := nI (157 * slot + k2 + 93)) (zi_c (zi_add (a := 157 * slot + 93) (b := k2) (rfl : nI (157 * slot + 93) = nI (157 * slot + 93)) (rfl : nI k2 = nI k2)) (by omega)) ?_
                    refine z_iald C 1 1 rfl rfl (j := 157 * slot + k2 + 93) (rfl : nI (157 * slot + k2 + 93) = nI (157 * slot + k2 + 93)) (by omega) (by decide) dX10_draws_126 rfl ?_
                    refine z_iast C 1 1 rfl rfl (j := (157 * slot + k2 + 93) - many.toNatClampNeg) (rfl : nI ((157 * slot + k2 + 93) - many.toNatClampNeg) = nI ((157 * slot + k2 + 93) - many.toNatClampNeg)) (by omega) (by decide) dX10_draws_127 rfl (fun m22 => [(M 0, .inr (10, [.ref (M 1), .int (g 0), .ref (M 2), .int (g 1), .int (g 2), .int (g 3), .int (g 4), .int (g 5), .int (g 6)])), (M 1, .inl (T.2.2.1, 1099, .inl m22)), (M 2, .inl (T.2.2.2, 60, .inl t))]) (fun _ => rfl) (fun m22 em22 => ?_)
                    have zh23 := zl_e zh17 em22
                    refine Z.sto (pc' := 131) (lv' := [(5, .int (nI (k2 + 1))), (0, .ref (M 0)), (2, .int many), (3, .int (nI (157 * slot))), (4, .int tol)]) (fun _ _ _ hl => lv_iinc (lv' := [(5, .int (nI (k2 + 1))), (0, .ref (M 0)), (2, .int many), (3, .int (nI (157 * slot))), (4, .int tol)]) hx hb dX10_draws_128 hl (k := 4) rfl ((zi_add (a := k2) (b := 1) (rfl : nI k2 = nI k2) (by decide : Int32.ofInt 1 = nI 1)).trans (congrArg nI (by omega))) (by decide) rfl) ?_
                    refine Z.of (pc' := 88) (fun _ _ _ _ => lv_goto hx hb dX10_draws_131 (by decide)) ?_
                    exact Z.sub (ks := [1, 2, 3, 4, 0]) (lv' := [(0, .ref (M 0)), (2, .int many), (3, .int (nI (157 * slot))), (4, .int tol), (5, .int (nI (k2 + 1)))]) rfl (ih (k2 + 1) tol m22 ⟨by omega, by omega, by omega, (by rw [em22, pk_un (by omega)]; exact hi88.2.2.2)⟩ zh23)
              exact Z.sub (ks := [1, 2, 3, 4, 0]) (lv' := [(0, .ref (M 0)), (2, .int many), (3, .int (nI (157 * slot))), (4, .int told), (5, .int (nI many.toNatClampNeg))]) rfl (L88 66 many.toNatClampNeg told m ⟨by omega, by omega, by omega, rfl⟩ zh13)
            · have nc12 : ¬ (many.toNatClampNeg ≤ k) := zf_nle (a := many.toNatClampNeg) (b := k) (rfl : nI many.toNatClampNeg = nI many.toNatClampNeg) (rfl : nI k = nI k) c12 (by omega) (by omega)
              have zh14 := zhb54.trans (if_neg c12)
              refine Z.of (pc' := 61) (fun _ _ _ _ => lv_iconst (v := 2) hx hb dX10_draws_60 (by decide)) ?_
              refine Z.of (pc' := 63) (fun _ _ _ hl => lv_iload hx hb dX10_draws_61 (lv_at hl 3 rfl)) ?_
              refine Z.of (pc' := 64) (fun _ _ _ hl => lv_imul hx hb dX10_draws_63) ?_
              refine Z.of (pc' := 65) (fun _ _ _ hl => lv_aload_n hx hb dX10_draws_64 rfl (lv_at hl 0 rfl)) ?_
              refine z_get C iX10 0 0 k7 rfl rfl (by decide) rfl rfl dX10_draws_65 rfl ?_
              refine Z.of (pc' := 69) (fun _ _ _ hl => lv_iload_n hx hb dX10_draws_68 rfl (lv_at hl 2 rfl)) ?_
              refine Z.of (pc' := 71) (fun _ _ _ _ => lv_bipush (v := 93) hx hb dX10_draws_69 (by decide)) ?_
              refine Z.of (pc' := 72) (fun _ _ _ hl => lv_iadd hx hb dX10_draws_71) ?_
              refine Z.topn (y := nI (157 * slot + 93)) (zi_c (zi_add (a := 157 * slot) (b := 93) (rfl : nI (157 * slot) = nI (157 * slot)) (rfl : (93 : Int32) = nI 93)) (by omega)) ?_
              refine Z.of (pc' := 74) (fun _ _ _ hl => lv_iload hx hb dX10_draws_72 (lv_at hl 4 rfl)) ?_
              refine Z.of (pc' := 75) (fun _ _ _ hl => lv_iadd hx hb dX10_draws_74) ?_
              refine Z.topn (y := nI (157 * slot + k + 93)) (zi_c (zi_add (a := 157 * slot + 93) (b := k) (rfl : nI (157 * slot + 93) = nI (157 * slot + 93)) (rfl : nI k = nI k)) (by omega)) ?_
              refine z_iald C 1 1 rfl rfl (j := 157 * slot + k + 93) (rfl : nI (157 * slot + k + 93) = nI (157 * slot + k + 93)) (by omega) (by decide) dX10_draws_75 rfl ?_
              refine Z.of (pc' := 77) (fun _ _ _ hl => lv_iadd hx hb dX10_draws_76) ?_
              refine Z.sto (pc' := 79) (lv' := [(4, .int ((2 * told) + (m (157 * slot + k + 93)))), (0, .ref (M 0)), (2, .int many), (3, .int (nI (157 * slot))), (5, .int (nI k))]) (fun _ _ _ hl => lv_istore (lv' := [(4, .int ((2 * told) + (m (157 * slot + k + 93)))), (0, .ref (M 0)), (2, .int many), (3, .int (nI (157 * slot))), (5, .int (nI k))]) hx hb dX10_draws_77 hl (by decide) rfl) ?_
              refine Z.sto (pc' := 82) (lv' := [(5, .int (nI (k + 1))), (4, .int ((2 * told) + (m (157 * slot + k + 93)))), (0, .ref (M 0)), (2, .int many), (3, .int (nI (157 * slot)))]) (fun _ _ _ hl => lv_iinc (lv' := [(5, .int (nI (k + 1))), (4, .int ((2 * told) + (m (157 * slot + k + 93)))), (0, .ref (M 0)), (2, .int many), (3, .int (nI (157 * slot)))]) hx hb dX10_draws_79 hl (k := 4) rfl ((zi_add (a := k) (b := 1) (rfl : nI k = nI k) (by decide : Int32.ofInt 1 = nI 1)).trans (congrArg nI (by omega))) (by decide) rfl) ?_
              refine Z.of (pc' := 54) (fun _ _ _ _ => lv_goto hx hb dX10_draws_82 (by decide)) ?_
              exact Z.sub (ks := [2, 3, 4, 1, 0]) (lv' := [(0, .ref (M 0)), (2, .int many), (3, .int (nI (157 * slot))), (4, .int ((2 * told) + (m (157 * slot + k + 93)))), (5, .int (nI (k + 1)))]) rfl (ih (k + 1) ((2 * told) + (m (157 * slot + k + 93))) (by omega) zh14)
        exact Z.sub (ks := [3, 5, 2, 1, 0]) (lv' := [(0, .ref (M 0)), (2, .int many), (3, .int (nI (157 * slot))), (4, .int 0), (5, .int 0)]) rfl (L54 26 0 0 (by omega) zh10)
      · have zh11 := zh8.trans (if_pos c9)
        refine Z.of (pc' := 47) (fun _ _ _ _ => lv_ldc hx hb hown (hts (.constant RX10 60 (-1000002)) (by decide +kernel)) dX10_draws_45) ?_
        exact E ((-1000002), m) _ _ _ _ dX10_draws_47 rfl rfl rfl zh11
  · have zh5 := zh2.trans (if_pos c3)
    refine Z.of (pc' := 18) (fun _ _ _ _ => lv_ldc hx hb hown (hts (.constant RX10 59 (-1000001)) (by decide +kernel)) dX10_draws_16) ?_
    exact E ((-1000001), m) _ _ _ _ dX10_draws_18 rfl rfl rfl zh5
def f_X10_starts (g : Nat → Int32) (m : Nat → Int32) (t : Nat → Int32) (slot : Nat) : (Nat → Int32) :=
  zl (upd m (157 * slot + 11) 0) fun m1 =>
  zl (upd m1 (157 * slot + 13) 64) fun m3 =>
  zl (upd m3 (157 * slot + 14) 0) fun m5 =>
  zl (upd m5 (157 * slot + 16) 0) fun m7 =>
  zl (upd m7 (157 * slot + 17) 0) fun m9 =>
  zl (upd m9 (157 * slot + 18) 0) fun m11 =>
  zl (upd m11 (157 * slot + 19) (-1)) fun m13 =>
  m13
theorem fe_X10_starts (g : Nat → Int32) (m : Nat → Int32) (t : Nat → Int32) (slot : Nat) : f_X10_starts g m t slot = (
    zl (upd m (157 * slot + 11) 0) fun m1 =>
    zl (upd m1 (157 * slot + 13) 64) fun m3 =>
    zl (upd m3 (157 * slot + 14) 0) fun m5 =>
    zl (upd m5 (157 * slot + 16) 0) fun m7 =>
    zl (upd m7 (157 * slot + 17) 0) fun m9 =>
    zl (upd m9 (157 * slot + 18) 0) fun m11 =>
    zl (upd m11 (157 * slot + 19) (-1)) fun m13 =>
    m13
    ) := rfl
abbrev rm_X10_starts : Room := { frames := 0, cells := 0, slots := 0, locals := 0 }
set_option maxHeartbeats 1000000 in
set_option maxRecDepth 100000 in
theorem c_X10_starts (l : Launch) (T : zT) (M : Nat → Nat) (g : Nat → Int32) (m : Nat → Int32) (t : Nat → Int32) (slot : Nat) (hs9 : slot ≤ 6) : Ci l yX10_starts wsX10_starts rm_X10_starts T .int [.ref (M 0), .int (nI slot)] [(M 0, .inr (10, [.ref (M 1), .int (g 0), .ref (M 2), .int (g 1), .int (g 2), .int (g 3), .int (g 4), .int (g 5), .int (g 6)])), (M 1, .inl (T.2.2.1, 1099, .inl m)), (M 2, .inl (T.2.2.2, 60, .inl t))] (S := (Nat → Int32)) (f_X10_starts g m t slot) (fun u => m (157 * slot + 18)) (fun u => [(M 0, .inr (10, [.ref (M 1), .int (g 0), .ref (M 2), .int (g 1), .int (g 2), .int (g 3), .int (g 4), .int (g 5), .int (g 6)])), (M 1, .inl (T.2.2.1, 1099, .inl u)), (M 2, .inl (T.2.2.2, 60, .inl t))]) := by
  refine z_metI (own := RX10) (maxL := 4) rfl (by decide) rfl (Nat.le_of_ble_eq_true rfl) ?_
  intro P0 E0 S0 M0 G0 B0 T0 K0 A9 Q9 C E
  have hx := C.1.1
  have hb := C.1.2.1
  have hown := C.1.2.2.2.1
  have hts := C.1.2.2.2.2
  have hn := C.2.1.2
  have iX10 : ∀ w ∈ u_ws RX10 TX10 9, w ∈ wsX10_starts := by decide +kernel
  have k7 := hts (.fieldLink RX10 7 "JudgedBitsModel" "s" "[I") (by decide +kernel)
  change Z P0 l E0 rm_X10_starts S0 M0 G0 B0 T0 K0 4 T A9 Q9 0 0 [(M 0, .inr (10, [.ref (M 1), .int (g 0), .ref (M 2), .int (g 1), .int (g 2), .int (g 3), .int (g 4), .int (g 5), .int (g 6)])), (M 1, .inl (T.2.2.1, 1099, .inl m)), (M 2, .inl (T.2.2.2, 60, .inl t))] 0 [(0, .ref (M 0)), (1, .int (nI slot))] []
  have zh0 := fe_X10_starts g m t slot
  refine Z.of (pc' := 3) (fun _ _ _ _ => lv_sipush (v := 157) hx hb dX10_starts_0 (by decide)) ?_
  refine Z.of (pc' := 4) (fun _ _ _ hl => lv_iload_n hx hb dX10_starts_3 rfl (lv_at hl 1 rfl)) ?_
  refine Z.of (pc' := 5) (fun _ _ _ hl => lv_imul hx hb dX10_starts_4) ?_
  refine Z.topn (y := nI (157 * slot)) (zi_c (zi_mul (a := 157) (b := slot) (rfl : (157 : Int32) = nI 157) (rfl : nI slot = nI slot)) (by omega)) ?_
  refine Z.sto (pc' := 6) (lv' := [(2, .int (nI (157 * slot))), (0, .ref (M 0)), (1, .int (nI slot))]) (fun _ _ _ hl => lv_istore_n (lv' := [(2, .int (nI (157 * slot))), (0, .ref (M 0)), (1, .int (nI slot))]) hx hb dX10_starts_5 rfl hl (by decide) rfl) ?_
  refine Z.of (pc' := 7) (fun _ _ _ hl => lv_aload_n hx hb dX10_starts_6 rfl (lv_at hl 1 rfl)) ?_
  refine z_get C iX10 0 0 k7 rfl rfl (by decide) rfl rfl dX10_starts_7 rfl ?_
  refine Z.of (pc' := 11) (fun _ _ _ hl => lv_iload_n hx hb dX10_starts_10 rfl (lv_at hl 0 rfl)) ?_
  refine Z.of (pc' := 13) (fun _ _ _ _ => lv_bipush (v := 18) hx hb dX10_starts_11 (by decide)) ?_
  refine Z.of (pc' := 14) (fun _ _ _ hl => lv_iadd hx hb dX10_starts_13) ?_
  refine Z.topn (y := nI (157 * slot + 18)) (zi_c (zi_add (a := 157 * slot) (b := 18) (rfl : nI (157 * slot) = nI (157 * slot)) (rfl : (18 : Int32) = nI 18)) (by omega)) ?_
  refine z_iald C 1 1 rfl rfl (j := 157 * slot + 18) (rfl : nI (157 * slot + 18) = nI (157 * slot + 18)) (by omega) (by decide) dX10_starts_14 rfl ?_
  refine Z.sto (pc' := 16) (lv' := [(3, .int (m (157 * slot + 18))), (2, .int (nI (157 * slot))), (0, .ref (M 0)), (1, .int (nI slot))]) (fun _ _ _ hl => lv_istore_n (lv' := [(3, .int (m (157 * slot + 18))), (2, .int (nI (157 * slot))), (0, .ref (M 0)), (1, .int (nI slot))]) hx hb dX10_starts_15 rfl hl (by decide) rfl) ?_
  refine Z.of (pc' := 17) (fun _ _ _ hl => lv_aload_n hx hb dX10_starts_16 rfl (lv_at hl 2 rfl)) ?_
  refine z_get C iX10 0 0 k7 rfl rfl (by decide) rfl rfl dX10_starts_17 rfl ?_
  refine Z.of (pc' := 21) (fun _ _ _ hl => lv_iload_n hx hb dX10_starts_20 rfl (lv_at hl 1 rfl)) ?_
  refine Z.of (pc' := 23) (fun _ _ _ _ => lv_bipush (v := 11) hx hb dX10_starts_21 (by decide)) ?_
  refine Z.of (pc' := 24) (fun _ _ _ hl => lv_iadd hx hb dX10_starts_23) ?_
  refine Z.topn (y := nI (157 * slot + 11)) (zi_c (zi_add (a := 157 * slot) (b := 11) (rfl : nI (157 * slot) = nI (157 * slot)) (rfl : (11 : Int32) = nI 11)) (by omega)) ?_
  refine Z.of (pc' := 25) (fun _ _ _ _ => lv_iconst (v := 0) hx hb dX10_starts_24 (by decide)) ?_
  refine z_iast C 1 1 rfl rfl (j := 157 * slot + 11) (rfl : nI (157 * slot + 11) = nI (157 * slot + 11)) (by omega) (by decide) dX10_starts_25 rfl (fun m1 => [(M 0, .inr (10, [.ref (M 1), .int (g 0), .ref (M 2), .int (g 1), .int (g 2), .int (g 3), .int (g 4), .int (g 5), .int (g 6)])), (M 1, .inl (T.2.2.1, 1099, .inl m1)), (M 2, .inl (T.2.2.2, 60, .inl t))]) (fun _ => rfl) (fun m1 em1 => ?_)
  have zh2 := zl_e zh0 em1
  refine Z.of (pc' := 27) (fun _ _ _ hl => lv_aload_n hx hb dX10_starts_26 rfl (lv_at hl 2 rfl)) ?_
  refine z_get C iX10 0 0 k7 rfl rfl (by decide) rfl rfl dX10_starts_27 rfl ?_
  refine Z.of (pc' := 31) (fun _ _ _ hl => lv_iload_n hx hb dX10_starts_30 rfl (lv_at hl 1 rfl)) ?_
  refine Z.of (pc' := 33) (fun _ _ _ _ => lv_bipush (v := 13) hx hb dX10_starts_31 (by decide)) ?_
  refine Z.of (pc' := 34) (fun _ _ _ hl => lv_iadd hx hb dX10_starts_33) ?_
  refine Z.topn (y := nI (157 * slot + 13)) (zi_c (zi_add (a := 157 * slot) (b := 13) (rfl : nI (157 * slot) = nI (157 * slot)) (rfl : (13 : Int32) = nI 13)) (by omega)) ?_
  refine Z.of (pc' := 36) (fun _ _ _ _ => lv_bipush (v := 64) hx hb dX10_starts_34 (by decide)) ?_
  refine z_iast C 1 1 rfl rfl (j := 157 * slot + 13) (rfl : nI (157 * slot + 13) = nI (157 * slot + 13)) (by omega) (by decide) dX10_starts_36 rfl (fun m3 => [(M 0, .inr (10, [.ref (M 1), .int (g 0), .ref (M 2), .int (g 1), .int (g 2), .int (g 3), .int (g 4), .int (g 5), .int (g 6)])), (M 1, .inl (T.2.2.1, 1099, .inl m3)), (M 2, .inl (T.2.2.2, 60, .inl t))]) (fun _ => rfl) (fun m3 em3 => ?_)
  have zh4 := zl_e zh2 em3
  refine Z.of (pc' := 38) (fun _ _ _ hl => lv_aload_n hx hb dX10_starts_37 rfl (lv_at hl 2 rfl)) ?_
  refine z_get C iX10 0 0 k7 rfl rfl (by decide) rfl rfl dX10_starts_38 rfl ?_
  refine Z.of (pc' := 42) (fun _ _ _ hl => lv_iload_n hx hb dX10_starts_41 rfl (lv_at hl 1 rfl)) ?_
  refine Z.of (pc' := 44) (fun _ _ _ _ => lv_bipush (v := 14) hx hb dX10_starts_42 (by decide)) ?_
  refine Z.of (pc' := 45) (fun _ _ _ hl => lv_iadd hx hb dX10_starts_44) ?_
  refine Z.topn (y := nI (157 * slot + 14)) (zi_c (zi_add (a := 157 * slot) (b := 14) (rfl : nI (157 * slot) = nI (157 * slot)) (rfl : (14 : Int32) = nI 14)) (by omega)) ?_
  refine Z.of (pc' := 46) (fun _ _ _ _ => lv_iconst (v := 0) hx hb dX10_starts_45 (by decide)) ?_
  refine z_iast C 1 1 rfl rfl (j := 157 * slot + 14) (rfl : nI (157 * slot + 14) = nI (157 * slot + 14)) (by omega) (by decide) dX10_starts_46 rfl (fun m5 => [(M 0, .inr (10, [.ref (M 1), .int (g 0), .ref (M 2), .int (g 1), .int (g 2), .int (g 3), .int (g 4), .int (g 5), .int (g 6)])), (M 1, .inl (T.2.2.1, 1099, .inl m5)), (M 2, .inl (T.2.2.2, 60, .inl t))]) (fun _ => rfl) (fun m5 em5 => ?_)
  have zh6 := zl_e zh4 em5
  refine Z.of (pc' := 48) (fun _ _ _ hl => lv_aload_n hx hb dX10_starts_47 rfl (lv_at hl 2 rfl)) ?_
  refine z_get C iX10 0 0 k7 rfl rfl (by decide) rfl rfl dX10_starts_48 rfl ?_
  refine Z.of (pc' := 52) (fun _ _ _ hl => lv_iload_n hx hb dX10_starts_51 rfl (lv_at hl 1 rfl)) ?_
  refine Z.of (pc' := 54) (fun _ _ _ _ => lv_bipush (v := 16) hx hb dX10_starts_52 (by decide)) ?_
  refine Z.of (pc' := 55) (fun _ _ _ hl => lv_iadd hx hb dX10_starts_54) ?_
  refine Z.topn (y := nI (157 * slot + 16)) (zi_c (zi_add (a := 157 * slot) (b := 16) (rfl : nI (157 * slot) = nI (157 * slot)) (rfl : (16 : Int32) = nI 16)) (by omega)) ?_
  refine Z.of (pc' := 56) (fun _ _ _ _ => lv_iconst (v := 0) hx hb dX10_starts_55 (by decide)) ?_
  refine z_iast C 1 1 rfl rfl (j := 157 * slot + 16) (rfl : nI (157 * slot + 16) = nI (157 * slot + 16)) (by omega) (by decide) dX10_starts_56 rfl (fun m7 => [(M 0, .inr (10, [.ref (M 1), .int (g 0), .ref (M 2), .int (g 1), .int (g 2), .int (g 3), .int (g 4), .int (g 5), .int (g 6)])), (M 1, .inl (T.2.2.1, 1099, .inl m7)), (M 2, .inl (T.2.2.2, 60, .inl t))]) (fun _ => rfl) (fun m7 em7 => ?_)
  have zh8 := zl_e zh6 em7
  refine Z.of (pc' := 58) (fun _ _ _ hl => lv_aload_n hx hb dX10_starts_57 rfl (lv_at hl 2 rfl)) ?_
  refine z_get C iX10 0 0 k7 rfl rfl (by decide) rfl rfl dX10_starts_58 rfl ?_
  refine Z.of (pc' := 62) (fun _ _ _ hl => lv_iload_n hx hb dX10_starts_61 rfl (lv_at hl 1 rfl)) ?_
  refine Z.of (pc' := 64) (fun _ _ _ _ => lv_bipush (v := 17) hx hb dX10_starts_62 (by decide)) ?_
  refine Z.of (pc' := 65) (fun _ _ _ hl => lv_iadd hx hb dX10_starts_64) ?_
  refine Z.topn (y := nI (157 * slot + 17)) (zi_c (zi_add (a := 157 * slot) (b := 17) (rfl : nI (157 * slot) = nI (157 * slot)) (rfl : (17 : Int32) = nI 17)) (by omega)) ?_
  refine Z.of (pc' := 66) (fun _ _ _ _ => lv_iconst (v := 0) hx hb dX10_starts_65 (by decide)) ?_
  refine z_iast C 1 1 rfl rfl (j := 157 * slot + 17) (rfl : nI (157 * slot + 17) = nI (157 * slot + 17)) (by omega) (by decide) dX10_starts_66 rfl (fun m9 => [(M 0, .inr (10, [.ref (M 1), .int (g 0), .ref (M 2), .int (g 1), .int (g 2), .int (g 3), .int (g 4), .int (g 5), .int (g 6)])), (M 1, .inl (T.2.2.1, 1099, .inl m9)), (M 2, .inl (T.2.2.2, 60, .inl t))]) (fun _ => rfl) (fun m9 em9 => ?_)
  have zh10 := zl_e zh8 em9
  refine Z.of (pc' := 68) (fun _ _ _ hl => lv_aload_n hx hb dX10_starts_67 rfl (lv_at hl 2 rfl)) ?_
  refine z_get C iX10 0 0 k7 rfl rfl (by decide) rfl rfl dX10_starts_68 rfl ?_
  refine Z.of (pc' := 72) (fun _ _ _ hl => lv_iload_n hx hb dX10_starts_71 rfl (lv_at hl 1 rfl)) ?_
  refine Z.of (pc' := 74) (fun _ _ _ _ => lv_bipush (v := 18) hx hb dX10_starts_72 (by decide)) ?_
  refine Z.of (pc' := 75) (fun _ _ _ hl => lv_iadd hx hb dX10_starts_74) ?_
  refine Z.topn (y := nI (157 * slot + 18)) (zi_c (zi_add (a := 157 * slot) (b := 18) (rfl : nI (157 * slot) = nI (157 * slot)) (rfl : (18 : Int32) = nI 18)) (by omega)) ?_
  refine Z.of (pc' := 76) (fun _ _ _ _ => lv_iconst (v := 0) hx hb dX10_starts_75 (by decide)) ?_
  refine z_iast C 1 1 rfl rfl (j := 157 * slot + 18) (rfl : nI (157 * slot + 18) = nI (157 * slot + 18)) (by omega) (by decide) dX10_starts_76 rfl (fun m11 => [(M 0, .inr (10, [.ref (M 1), .int (g 0), .ref (M 2), .int (g 1), .int (g 2), .int (g 3), .int (g 4), .int (g 5), .int (g 6)])), (M 1, .inl (T.2.2.1, 1099, .inl m11)), (M 2, .inl (T.2.2.2, 60, .inl t))]) (fun _ => rfl) (fun m11 em11 => ?_)
  have zh12 := zl_e zh10 em11
  refine Z.of (pc' := 78) (fun _ _ _ hl => lv_aload_n hx hb dX10_starts_77 rfl (lv_at hl 2 rfl)) ?_
  refine z_get C iX10 0 0 k7 rfl rfl (by decide) rfl rfl dX10_starts_78 rfl ?_
  refine Z.of (pc' := 82) (fun _ _ _ hl => lv_iload_n hx hb dX10_starts_81 rfl (lv_at hl 1 rfl)) ?_
  refine Z.of (pc' := 84) (fun _ _ _ _ => lv_bipush (v := 19) hx hb dX10_starts_82 (by decide)) ?_
  refine Z.of (pc' := 85) (fun _ _ _ hl => lv_iadd hx hb dX10_starts_84) ?_
  refine Z.topn (y := nI (157 * slot + 19)) (zi_c (zi_add (a := 157 * slot) (b := 19) (rfl : nI (157 * slot) = nI (157 * slot)) (rfl : (19 : Int32) = nI 19)) (by omega)) ?_
  refine Z.of (pc' := 86) (fun _ _ _ _ => lv_iconst (v := -1) hx hb dX10_starts_85 (by decide)) ?_
  refine z_iast C 1 1 rfl rfl (j := 157 * slot + 19) (rfl : nI (157 * slot + 19) = nI (157 * slot + 19)) (by omega) (by decide) dX10_starts_86 rfl (fun m13 => [(M 0, .inr (10, [.ref (M 1), .int (g 0), .ref (M 2), .int (g 1), .int (g 2), .int (g 3), .int (g 4), .int (g 5), .int (g 6)])), (M 1, .inl (T.2.2.1, 1099, .inl m13)), (M 2, .inl (T.2.2.2, 60, .inl t))]) (fun _ => rfl) (fun m13 em13 => ?_)
  have zh14 := zl_e zh12 em13
  refine Z.of (pc' := 88) (fun _ _ _ hl => lv_iload_n hx hb dX10_starts_87 rfl (lv_at hl 0 rfl)) ?_
  exact E m13 _ _ _ _ dX10_starts_88 rfl rfl rfl zh14
def lp10_X10_records (g : Nat → Int32) (m : Nat → Int32) (t : Nat → Int32) : Nat → Nat → (Nat → Int32) → (Nat → Int32) × (Nat → Int32)
  | 0, _, _ => (g, m)
  | q10 + 1, k, mx =>
    if 4 ≤ (nI k) then
      zl (f_X10_copies (upd g 0 (((g 0) - 1) + 1)) mx t 0 4) fun u9 =>
      (upd g 0 (((g 0) - 1) + 1), u9)
    else
      zl (f_X10_copies g mx t (k + 1) k) fun u11 =>
      lp10_X10_records g m t q10 (k + 1) u11
theorem lp10_X10_records_s (g : Nat → Int32) (m : Nat → Int32) (t : Nat → Int32) (q10 : Nat) (k : Nat) (mx : (Nat → Int32)) : lp10_X10_records g m t (q10 + 1) k mx = (
    if 4 ≤ (nI k) then
      zl (f_X10_copies (upd g 0 (((g 0) - 1) + 1)) mx t 0 4) fun u9 =>
      (upd g 0 (((g 0) - 1) + 1), u9)
    else
      zl (f_X10_copies g mx t (k + 1) k) fun u11 =>
      lp10_X10_records g m t q10 (k + 1) u11
    ) := rfl
def f_X10_records (g : Nat → Int32) (m : Nat → Int32) (t : Nat → Int32) : (Nat → Int32) × (Nat → Int32) :=
  if (g 0) = 4 then
    lp10_X10_records g m t 5 1 m
  else
    zl (f_X10_copies (upd g 0 ((g 0) + 1)) m t 0 ((g 0).toNatClampNeg + 1)) fun u4 =>
    (upd g 0 ((g 0) + 1), u4)
theorem fe_X10_records (g : Nat → Int32) (m : Nat → Int32) (t : Nat → Int32) : f_X10_records g m t = (
    if (g 0) = 4 then
      lp10_X10_records g m t 5 1 m
    else
      zl (f_X10_copies (upd g 0 ((g 0) + 1)) m t 0 ((g 0).toNatClampNeg + 1)) fun u4 =>
      (upd g 0 ((g 0) + 1), u4)
    ) := rfl
abbrev rm_X10_records : Room := { frames := 1, cells := 0, slots := 0, locals := 23 }
set_option maxHeartbeats 1000000 in
set_option maxRecDepth 100000 in
theorem c_X10_records (l : Launch) (T : zT) (M : Nat → Nat) (g : Nat → Int32) (m : Nat → Int32) (t : Nat → Int32) (hns0 : IN (g 0) 4) : Cv l yX10_records wsX10_records rm_X10_records T [.ref (M 0)] [(M 0, .inr (10, [.ref (M 1), .int (g 0), .ref (M 2), .int (g 1), .int (g 2), .int (g 3), .int (g 4), .int (g 5), .int (g 6)])), (M 1, .inl (T.2.2.1, 1099, .inl m)), (M 2, .inl (T.2.2.2, 60, .inl t))] (S := (Nat → Int32) × (Nat → Int32)) (f_X10_records g m t) (fun u => [(M 0, .inr (10, [.ref (M 1), .int (u.1 0), .ref (M 2), .int (u.1 1), .int (u.1 2), .int (u.1 3), .int (u.1 4), .int (u.1 5), .int (u.1 6)])), (M 1, .inl (T.2.2.1, 1099, .inl u.2)), (M 2, .inl (T.2.2.2, 60, .inl t))]) := by
  refine z_metV (own := RX10) (maxL := 2) rfl (by decide) rfl (Nat.le_of_ble_eq_true rfl) ?_
  intro P0 E0 S0 M0 G0 B0 T0 K0 A9 Q9 C E
  have hx := C.1.1
  have hb := C.1.2.1
  have hown := C.1.2.2.2.1
  have hts := C.1.2.2.2.2
  have hn := C.2.1.2
  have iX10 : ∀ w ∈ u_ws RX10 TX10 9, w ∈ wsX10_records := by decide +kernel
  have k17 := hts (.fieldLink RX10 17 "JudgedBitsModel" "states" "I") (by decide +kernel)
  have hg0 := hns0.1
  have hns := hns0.2
  change Z P0 l E0 rm_X10_records S0 M0 G0 B0 T0 K0 2 T A9 Q9 0 0 [(M 0, .inr (10, [.ref (M 1), .int (g 0), .ref (M 2), .int (g 1), .int (g 2), .int (g 3), .int (g 4), .int (g 5), .int (g 6)])), (M 1, .inl (T.2.2.1, 1099, .inl m)), (M 2, .inl (T.2.2.2, 60, .inl t))] 0 [(0, .ref (M 0))] []
  have zh0 := fe_X10_records g m t
  refine Z.of (pc' := 1) (fun _ _ _ hl => lv_aload_n hx hb dX10_records_0 rfl (lv_at hl 0 rfl)) ?_
  refine z_get C iX10 0 1 k17 rfl rfl (by decide) rfl rfl dX10_records_1 rfl ?_
  refine Z.of (pc' := 5) (fun _ _ _ _ => lv_iconst (v := 4) hx hb dX10_records_4 (by decide)) ?_
  refine Z.two' (pt := 39) (pf := 8) (fun _ _ _ _ => lv_icmp_ne hx hb dX10_records_5 (by decide)) (fun c1 => ?_) (fun c1 => ?_)
  · have nc1 : ¬ (((g 0).toNatClampNeg) = 4) := zf_neq (a := ((g 0).toNatClampNeg)) (b := 4) hg0 (rfl : (4 : Int32) = nI 4) c1 (by omega) (by omega)
    have zh2 := zh0.trans (if_neg c1)
    refine Z.of (pc' := 40) (fun _ _ _ hl => lv_aload_n hx hb dX10_records_39 rfl (lv_at hl 0 rfl)) ?_
    refine Z.of (pc' := 41) (fun _ _ _ hl => lv_dup hx hb dX10_records_40 rfl) ?_
    refine z_get C iX10 0 1 k17 rfl rfl (by decide) rfl rfl dX10_records_41 rfl ?_
    refine Z.of (pc' := 45) (fun _ _ _ _ => lv_iconst (v := 1) hx hb dX10_records_44 (by decide)) ?_
    refine Z.of (pc' := 46) (fun _ _ _ hl => lv_iadd hx hb dX10_records_45) ?_
    refine z_put C iX10 tyX10_ok nmX10 0 1 k17 rfl rfl (by decide) rfl rfl rfl rfl (Nat.le_of_ble_eq_true rfl) dX10_records_46 rfl [(M 0, .inr (10, [.ref (M 1), .int ((g 0) + 1), .ref (M 2), .int (g 1), .int (g 2), .int (g 3), .int (g 4), .int (g 5), .int (g 6)])), (M 1, .inl (T.2.2.1, 1099, .inl m)), (M 2, .inl (T.2.2.2, 60, .inl t))] rfl ?_
    refine Z.of (pc' := 50) (fun _ _ _ hl => lv_aload_n hx hb dX10_records_49 rfl (lv_at hl 0 rfl)) ?_
    refine Z.of (pc' := 51) (fun _ _ _ _ => lv_iconst (v := 0) hx hb dX10_records_50 (by decide)) ?_
    refine Z.of (pc' := 52) (fun _ _ _ hl => lv_aload_n hx hb dX10_records_51 rfl (lv_at hl 0 rfl)) ?_
    refine z_get C iX10 0 1 k17 rfl rfl (by decide) rfl rfl dX10_records_52 rfl ?_
    refine Z.topn (y := nI ((g 0).toNatClampNeg + 1)) (zi_add (a := (g 0).toNatClampNeg) (b := 1) hg0 (rfl : (1 : Int32) = nI 1)) ?_
    refine z_callVv C (c_X10_copies l T M (upd g 0 ((g 0) + 1)) m t 0 ((g 0).toNatClampNeg + 1) (by omega) (by omega)) [0, 1, 2] [] rfl (by decide +kernel) (fun u4 => [(M 0, .inr (10, [.ref (M 1), .int ((g 0) + 1), .ref (M 2), .int (g 1), .int (g 2), .int (g 3), .int (g 4), .int (g 5), .int (g 6)])), (M 1, .inl (T.2.2.1, 1099, .inl u4)), (M 2, .inl (T.2.2.2, 60, .inl t))]) (fun _ => rfl) [] rfl (fun _ => rfl) [M 0, M 1, M 2] rfl (fun _ => rfl) 3 (fun _ => rfl) (by decide +kernel) (cwV 2 hts gX10_records_X10_copies rfl rfl rfl (by decide +kernel) ⟨Nat.le_of_ble_eq_true rfl, Nat.le_of_ble_eq_true rfl⟩) 0 rfl rfl rfl (As := [.int 0, .int (nI ((g 0).toNatClampNeg + 1))]) (rest := []) rfl rfl (Nat.le_of_ble_eq_true rfl) dX10_records_55 rfl ⟨Nat.zero_le _, Nat.zero_le _⟩ (fun u4 eu4 => ?_)
    have zh5 := zl_e zh2 eu4
    exact E (upd g 0 ((g 0) + 1), u4) _ _ _ dX10_records_58  rfl zh5
  · have nc1 : ((g 0).toNatClampNeg) = 4 := zf_eq (a := ((g 0).toNatClampNeg)) (b := 4) hg0 (rfl : (4 : Int32) = nI 4) c1 (by omega) (by omega)
    have zh3 := zh0.trans (if_pos c1)
    refine Z.of (pc' := 9) (fun _ _ _ _ => lv_iconst (v := 1) hx hb dX10_records_8 (by decide)) ?_
    refine Z.sto (pc' := 10) (lv' := [(1, .int 1), (0, .ref (M 0))]) (fun _ _ _ hl => lv_istore_n (lv' := [(1, .int 1), (0, .ref (M 0))]) hx hb dX10_records_9 rfl hl (by decide) rfl) ?_
    have L10 : ∀ (q10 : Nat) (k : Nat) (mx : (Nat → Int32)), (1 ≤ k ∧ k ≤ 4 ∧ k + q10 = 6) → f_X10_records g m t = lp10_X10_records g m t q10 k mx → Z P0 l E0 rm_X10_records S0 M0 G0 B0 T0 K0 2 T A9 Q9 0 0 [(M 0, .inr (10, [.ref (M 1), .int (g 0), .ref (M 2), .int (g 1), .int (g 2), .int (g 3), .int (g 4), .int (g 5), .int (g 6)])), (M 1, .inl (T.2.2.1, 1099, .inl mx)), (M 2, .inl (T.2.2.2, 60, .inl t))] 10 [(0, .ref (M 0)), (1, .int (nI k))] [] := by
      intro q10
      induction q10 with
      | zero =>
        intro k mx hi10 zhl10
        omega
      | succ q10 ih =>
        intro k mx hi10 zhl10
        have zhb10 := zhl10.trans (lp10_X10_records_s g m t q10 k mx)
        refine Z.of (pc' := 11) (fun _ _ _ hl => lv_iload_n hx hb dX10_records_10 rfl (lv_at hl 1 rfl)) ?_
        refine Z.of (pc' := 12) (fun _ _ _ _ => lv_iconst (v := 4) hx hb dX10_records_11 (by decide)) ?_
        refine Z.two (pt := 29) (pf := 15) (fun _ _ _ _ => lv_icmp_ge hx hb dX10_records_12 (by decide)) (fun c6 => ?_) (fun c6 => ?_)
        · have nc6 : 4 ≤ k := zf_le (a := 4) (b := k) (rfl : (4 : Int32) = nI 4) (rfl : nI k = nI k) c6 (by omega) (by omega)
          have zh7 := zhb10.trans (if_pos c6)
          refine Z.of (pc' := 30) (fun _ _ _ hl => lv_aload_n hx hb dX10_records_29 rfl (lv_at hl 0 rfl)) ?_
          refine Z.of (pc' := 31) (fun _ _ _ hl => lv_dup hx hb dX10_records_30 rfl) ?_
          refine z_get C iX10 0 1 k17 rfl rfl (by decide) rfl rfl dX10_records_31 rfl ?_
          refine Z.of (pc' := 35) (fun _ _ _ _ => lv_iconst (v := 1) hx hb dX10_records_34 (by decide)) ?_
          refine Z.of (pc' := 36) (fun _ _ _ hl => lv_isub hx hb dX10_records_35) ?_
          refine z_put C iX10 tyX10_ok nmX10 0 1 k17 rfl rfl (by decide) rfl rfl rfl rfl (Nat.le_of_ble_eq_true rfl) dX10_records_36 rfl [(M 0, .inr (10, [.ref (M 1), .int ((g 0) - 1), .ref (M 2), .int (g 1), .int (g 2), .int (g 3), .int (g 4), .int (g 5), .int (g 6)])), (M 1, .inl (T.2.2.1, 1099, .inl mx)), (M 2, .inl (T.2.2.2, 60, .inl t))] rfl ?_
          refine Z.of (pc' := 40) (fun _ _ _ hl => lv_aload_n hx hb dX10_records_39 rfl (lv_at hl 0 rfl)) ?_
          refine Z.of (pc' := 41) (fun _ _ _ hl => lv_dup hx hb dX10_records_40 rfl) ?_
          refine z_get C iX10 0 1 k17 rfl rfl (by decide) rfl rfl dX10_records_41 rfl ?_
          refine Z.of (pc' := 45) (fun _ _ _ _ => lv_iconst (v := 1) hx hb dX10_records_44 (by decide)) ?_
          refine Z.of (pc' := 46) (fun _ _ _ hl => lv_iadd hx hb dX10_records_45) ?_
          refine z_put C iX10 tyX10_ok nmX10 0 1 k17 rfl rfl (by decide) rfl rfl rfl rfl (Nat.le_of_ble_eq_true rfl) dX10_records_46 rfl [(M 0, .inr (10, [.ref (M 1), .int (((g 0) - 1) + 1), .ref (M 2), .int (g 1), .int (g 2), .int (g 3), .int (g 4), .int (g 5), .int (g 6)])), (M 1, .inl (T.2.2.1, 1099, .inl mx)), (M 2, .inl (T.2.2.2, 60, .inl t))] rfl ?_
          refine Z.of (pc' := 50) (fun _ _ _ hl => lv_aload_n hx hb dX10_records_49 rfl (lv_at hl 0 rfl)) ?_
          refine Z.of (pc' := 51) (fun _ _ _ _ => lv_iconst (v := 0) hx hb dX10_records_50 (by decide)) ?_
          refine Z.of (pc' := 52) (fun _ _ _ hl => lv_aload_n hx hb dX10_records_51 rfl (lv_at hl 0 rfl)) ?_
          refine z_get C iX10 0 1 k17 rfl rfl (by decide) rfl rfl dX10_records_52 rfl ?_
          refine Z.topn (y := nI 4) (zrec1 hg0 nc1) ?_
          refine z_callVv C (c_X10_copies l T M (upd g 0 (((g 0) - 1) + 1)) mx t 0 4 (by omega) (by omega)) [0, 1, 2] [] rfl (by decide +kernel) (fun u9 => [(M 0, .inr (10, [.ref (M 1), .int (((g 0) - 1) + 1), .ref (M 2), .int (g 1), .int (g 2), .int (g 3), .int (g 4), .int (g 5), .int (g 6)])), (M 1, .inl (T.2.2.1, 1099, .inl u9)), (M 2, .inl (T.2.2.2, 60, .inl t))]) (fun _ => rfl) [] rfl (fun _ => rfl) [M 0, M 1, M 2] rfl (fun _ => rfl) 3 (fun _ => rfl) (by decide +kernel) (cwV 2 hts gX10_records_X10_copies rfl rfl rfl (by decide +kernel) ⟨Nat.le_of_ble_eq_true rfl, Nat.le_of_ble_eq_true rfl⟩) 0 rfl rfl rfl (As := [.int 0, .int (nI 4)]) (rest := []) rfl rfl (Nat.le_of_ble_eq_true rfl) dX10_records_55 rfl ⟨Nat.zero_le _, Nat.zero_le _⟩ (fun u9 eu9 => ?_)
          have zh10 := zl_e zh7 eu9
          exact E (upd g 0 (((g 0) - 1) + 1), u9) _ _ _ dX10_records_58  rfl zh10
        · have nc6 : ¬ (4 ≤ k) := zf_nle (a := 4) (b := k) (rfl : (4 : Int32) = nI 4) (rfl : nI k = nI k) c6 (by omega) (by omega)
          have zh8 := zhb10.trans (if_neg c6)
          refine Z.of (pc' := 16) (fun _ _ _ hl => lv_aload_n hx hb dX10_records_15 rfl (lv_at hl 0 rfl)) ?_
          refine Z.of (pc' := 17) (fun _ _ _ hl => lv_iload_n hx hb dX10_records_16 rfl (lv_at hl 1 rfl)) ?_
          refine Z.of (pc' := 18) (fun _ _ _ _ => lv_iconst (v := 1) hx hb dX10_records_17 (by decide)) ?_
          refine Z.of (pc' := 19) (fun _ _ _ hl => lv_iadd hx hb dX10_records_18) ?_
          refine Z.topn (y := nI (k + 1)) (zi_c (zi_add (a := k) (b := 1) (rfl : nI k = nI k) (rfl : (1 : Int32) = nI 1)) (by omega)) ?_
          refine Z.of (pc' := 20) (fun _ _ _ hl => lv_iload_n hx hb dX10_records_19 rfl (lv_at hl 1 rfl)) ?_
          refine z_callVv C (c_X10_copies l T M g mx t (k + 1) k (by omega) (by omega)) [0, 1, 2] [] rfl (by decide +kernel) (fun u11 => [(M 0, .inr (10, [.ref (M 1), .int (g 0), .ref (M 2), .int (g 1), .int (g 2), .int (g 3), .int (g 4), .int (g 5), .int (g 6)])), (M 1, .inl (T.2.2.1, 1099, .inl u11)), (M 2, .inl (T.2.2.2, 60, .inl t))]) (fun _ => rfl) [] rfl (fun _ => rfl) [M 0, M 1, M 2] rfl (fun _ => rfl) 3 (fun _ => rfl) (by decide +kernel) (cwV 2 hts gX10_records_X10_copies rfl rfl rfl (by decide +kernel) ⟨Nat.le_of_ble_eq_true rfl, Nat.le_of_ble_eq_true rfl⟩) 0 rfl rfl rfl (As := [.int (nI (k + 1)), .int (nI k)]) (rest := []) rfl rfl (Nat.le_of_ble_eq_true rfl) dX10_records_20 rfl ⟨Nat.zero_le _, Nat.zero_le _⟩ (fun u11 eu11 => ?_)
          have zh12 := zl_e zh8 eu11
          refine Z.sto (pc' := 26) (lv' := [(1, .int (nI (k + 1))), (0, .ref (M 0))]) (fun _ _ _ hl => lv_iinc (lv' := [(1, .int (nI (k + 1))), (0, .ref (M 0))]) hx hb dX10_records_23 hl (k := 1) rfl ((zi_add (a := k) (b := 1) (rfl : nI k = nI k) (by decide : Int32.ofInt 1 = nI 1)).trans (congrArg nI (by omega))) (by decide) rfl) ?_
          refine Z.of (pc' := 10) (fun _ _ _ _ => lv_goto hx hb dX10_records_26 (by decide)) ?_
          exact Z.sub (ks := [1, 0]) (lv' := [(0, .ref (M 0)), (1, .int (nI (k + 1)))]) rfl (ih (k + 1) u11 (by omega) zh12)
    exact Z.sub (ks := [1, 0]) (lv' := [(0, .ref (M 0)), (1, .int 1)]) rfl (L10 5 1 m (by omega) zh3)
