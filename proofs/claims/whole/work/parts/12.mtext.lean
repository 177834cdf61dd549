theorem marker4 : True := trivial
def At (g : Nat → Int32) : Prop := IN (g 1) 60 ∧ IN (g 2) (g 1).toNatClampNeg
theorem At_of {g g' : Nat → Int32} {a : Nat} (h : At g) (h1 : g' 1 = g 1) (h2 : g' 2 = nI a) (ha : a ≤ (g 1).toNatClampNeg) : At g' := by
  have h60 := h.1.2
  unfold At
  rw [h1, h2]
  exact ⟨h.1, IN_of rfl ha (by omega)⟩
theorem At_0 {g g' : Nat → Int32} (h : At g) (h1 : g' 1 = g 1) (h2 : g' 2 = g 2) : At g' := by
  have h3 := h.2.2
  exact At_of h h1 (by rw [h2]; exact h.2.1) h3
theorem At_1 {g g' : Nat → Int32} (h : At g) (hlt : (g 2).toNatClampNeg < (g 1).toNatClampNeg) (h1 : g' 1 = g 1) (h2 : g' 2 = g 2 + 1) : At g' :=
  At_of (a := (g 2).toNatClampNeg + 1) h h1 (by rw [h2, ← nI_1, ← h.2.1]) (by omega)
theorem At_is {g g' : Nat → Int32} {v : Int32} (h : At g) (hlt : (g 2).toNatClampNeg < (g 1).toNatClampNeg) (hv : v = 0 ∨ v = 1) (h1 : g' 1 = g 1) (h2 : g' 2 = g 2 + v) : At g' := by
  rcases hv with rfl | rfl
  · exact At_0 h h1 (by rw [h2, Int32.add_zero])
  · exact At_1 h hlt h1 h2
theorem At_lt {g : Nat → Int32} (h : At g) (c : ¬ (g 1) ≤ (g 2)) : (g 2).toNatClampNeg < (g 1).toNatClampNeg := by
  have h1 := h.1.2
  have h2 := h.2.2
  have h3 := zf_nle h.1.1 h.2.1 c (by omega) (by omega)
  omega
theorem At_inc {g : Nat → Int32} (h : At g) (hlt : (g 2).toNatClampNeg < (g 1).toNatClampNeg) : (g 2 + 1).toNatClampNeg = (g 2).toNatClampNeg + 1 := by
  have h1 := h.1.2
  conv => lhs; rw [h.2.1, nI_1]
  exact nI_clamp (by omega)
/-- the text read on: its length as it was, its place not further back -/
def Fw (g g' : Nat → Int32) : Prop := At g' ∧ g' 1 = g 1 ∧ (g 2).toNatClampNeg ≤ (g' 2).toNatClampNeg
theorem Fw.rf {g : Nat → Int32} (h : At g) : Fw g g := ⟨h, rfl, Nat.le_refl _⟩
theorem Fw.tr {g g' g'' : Nat → Int32} (h : Fw g g') (h2 : Fw g' g'') : Fw g g'' := ⟨h2.1, h2.2.1.trans h.2.1, Nat.le_trans h.2.2 h2.2.2⟩
theorem Fw.one {g g' : Nat → Int32} (h : At g) (c : ¬ (g 1) ≤ (g 2)) (h1 : g' 1 = g 1) (h2 : g' 2 = g 2 + 1) : Fw g g' := by
  have hl := At_lt h c
  exact ⟨At_1 h hl h1 h2, h1, by rw [h2, At_inc h hl]; omega⟩
theorem number_step {g gx : Nat → Int32} {k q : Nat} (h : At gx ∧ gx 1 = g 1 ∧ (gx 2).toNatClampNeg = (g 2).toNatClampNeg + k ∧ k ≤ 3 ∧ k + (q + 1) = 5) (c1 : ¬ ((gx 1).toNatClampNeg ≤ (gx 2).toNatClampNeg)) (c2 : ¬ ((g 2).toNatClampNeg + 3 ≤ (gx 2).toNatClampNeg)) : At (upd gx 2 ((gx 2) + 1)) ∧ gx 1 = g 1 ∧ ((gx 2) + 1).toNatClampNeg = (g 2).toNatClampNeg + (k + 1) ∧ k + 1 ≤ 3 ∧ k + 1 + q = 5 := by
  obtain ⟨ha, h1, h2, h3, h4⟩ := h
  refine ⟨At_1 ha (by omega) rfl rfl, h1, ?_, by omega, by omega⟩
  rw [At_inc ha (by omega)]
  omega
def lp7_X10_number (g : Nat → Int32) (m : Nat → Int32) (t : Nat → Int32) : Nat → Nat → Int32 → (Nat → Int32) → Int32 × (Nat → Int32)
  | 0, _, _, _ => (0, g)
  | q7 + 1, k, v, gx =>
    if (gx 1) ≤ (gx 2) then
      if (gx 2) ≤ (g 2) then
        ((-1), gx)
      else
        (v, gx)
    else
      if (nI ((g 2).toNatClampNeg + 3)) ≤ (gx 2) then
        if (gx 2) ≤ (g 2) then
          ((-1), gx)
        else
          (v, gx)
      else
        zl (f_X10_in (t ((gx 2).toNatClampNeg)) 48 57) fun u13 =>
        if u13 = 0 then
          if (gx 2) ≤ (g 2) then
            ((-1), gx)
          else
            (v, gx)
        else
          lp7_X10_number g m t q7 (k + 1) (((10 * v) + (t ((gx 2).toNatClampNeg))) - 48) (upd gx 2 ((gx 2) + 1))
theorem lp7_X10_number_s (g : Nat → Int32) (m : Nat → Int32) (t : Nat → Int32) (q7 : Nat) (k : Nat) (v : Int32) (gx : (Nat → Int32)) : lp7_X10_number g m t (q7 + 1) k v gx = (
    if (gx 1) ≤ (gx 2) then
      if (gx 2) ≤ (g 2) then
        ((-1), gx)
      else
        (v, gx)
    else
      if (nI ((g 2).toNatClampNeg + 3)) ≤ (gx 2) then
        if (gx 2) ≤ (g 2) then
          ((-1), gx)
        else
          (v, gx)
      else
        zl (f_X10_in (t ((gx 2).toNatClampNeg)) 48 57) fun u13 =>
        if u13 = 0 then
          if (gx 2) ≤ (g 2) then
            ((-1), gx)
          else
            (v, gx)
        else
          lp7_X10_number g m t q7 (k + 1) (((10 * v) + (t ((gx 2).toNatClampNeg))) - 48) (upd gx 2 ((gx 2) + 1))
    ) := rfl
def f_X10_number (g : Nat → Int32) (m : Nat → Int32) (t : Nat → Int32) : Int32 × (Nat → Int32) :=
  lp7_X10_number g m t 5 0 0 g
theorem fe_X10_number (g : Nat → Int32) (m : Nat → Int32) (t : Nat → Int32) : f_X10_number g m t = (
    lp7_X10_number g m t 5 0 0 g
    ) := rfl
abbrev rm_X10_number : Room := { frames := 1, cells := 0, slots := 0, locals := 22 }
set_option maxHeartbeats 1000000 in
set_option maxRecDepth 100000 in
theorem c_X10_number (l : Launch) (T : zT) (M : Nat → Nat) (g : Nat → Int32) (m : Nat → Int32) (t : Nat → Int32) (hat0 : At g) : Ci l yX10_number wsX10_number rm_X10_number T .int [.ref (M 0)] [(M 0, .inr (10, [.ref (M 1), .int (g 0), .ref (M 2), .int (g 1), .int (g 2), .int (g 3), .int (g 4), .int (g 5), .int (g 6)])), (M 1, .inl (T.2.2.1, 1099, .inl m)), (M 2, .inl (T.2.2.2, 60, .inl t))] (S := Int32 × (Nat → Int32)) (f_X10_number g m t) (fun u => u.1) (fun u => [(M 0, .inr (10, [.ref (M 1), .int (u.2 0), .ref (M 2), .int (u.2 1), .int (u.2 2), .int (u.2 3), .int (u.2 4), .int (u.2 5), .int (u.2 6)])), (M 1, .inl (T.2.2.1, 1099, .inl m)), (M 2, .inl (T.2.2.2, 60, .inl t))]) := by
  refine z_metI (own := RX10) (maxL := 3) rfl (by decide) rfl (Nat.le_of_ble_eq_true rfl) ?_
  intro P0 E0 S0 M0 G0 B0 T0 K0 A9 Q9 C E
  have hx := C.1.1
  have hb := C.1.2.1
  have hown := C.1.2.2.2.1
  have hts := C.1.2.2.2.2
  have hn := C.2.1.2
  have iX10 : ∀ w ∈ u_ws RX10 TX10 9, w ∈ wsX10_number := by decide +kernel
  have k13 := hts (.fieldLink RX10 13 "JudgedBitsModel" "text" "[C") (by decide +kernel)
  have k85 := hts (.fieldLink RX10 85 "JudgedBitsModel" "typed" "I") (by decide +kernel)
  have k89 := hts (.fieldLink RX10 89 "JudgedBitsModel" "at" "I") (by decide +kernel)
  have ha1 := hat0.1.1
  have ha2 := hat0.1.2
  have ha3 := hat0.2.1
  have ha4 := hat0.2.2
  change Z P0 l E0 rm_X10_number S0 M0 G0 B0 T0 K0 3 T A9 Q9 0 0 [(M 0, .inr (10, [.ref (M 1), .int (g 0), .ref (M 2), .int (g 1), .int (g 2), .int (g 3), .int (g 4), .int (g 5), .int (g 6)])), (M 1, .inl (T.2.2.1, 1099, .inl m)), (M 2, .inl (T.2.2.2, 60, .inl t))] 0 [(0, .ref (M 0))] []
  have zh0 := fe_X10_number g m t
  refine Z.of (pc' := 1) (fun _ _ _ hl => lv_aload_n hx hb dX10_number_0 rfl (lv_at hl 0 rfl)) ?_
  refine z_get C iX10 0 4 k89 rfl rfl (by decide) rfl rfl dX10_number_1 rfl ?_
  refine Z.sto (pc' := 5) (lv' := [(1, .int (g 2)), (0, .ref (M 0))]) (fun _ _ _ hl => lv_istore_n (lv' := [(1, .int (g 2)), (0, .ref (M 0))]) hx hb dX10_number_4 rfl hl (by decide) rfl) ?_
  refine Z.of (pc' := 6) (fun _ _ _ _ => lv_iconst (v := 0) hx hb dX10_number_5 (by decide)) ?_
  refine Z.sto (pc' := 7) (lv' := [(2, .int 0), (1, .int (g 2)), (0, .ref (M 0))]) (fun _ _ _ hl => lv_istore_n (lv' := [(2, .int 0), (1, .int (g 2)), (0, .ref (M 0))]) hx hb dX10_number_6 rfl hl (by decide) rfl) ?_
  have L7 : ∀ (q7 : Nat) (k : Nat) (v : Int32) (gx : (Nat → Int32)), (At gx ∧ gx 1 = g 1 ∧ (gx 2).toNatClampNeg = (g 2).toNatClampNeg + k ∧ k ≤ 3 ∧ k + q7 = 5) → f_X10_number g m t = lp7_X10_number g m t q7 k v gx → Z P0 l E0 rm_X10_number S0 M0 G0 B0 T0 K0 3 T A9 Q9 0 0 [(M 0, .inr (10, [.ref (M 1), .int (gx 0), .ref (M 2), .int (gx 1), .int (gx 2), .int (gx 3), .int (gx 4), .int (gx 5), .int (gx 6)])), (M 1, .inl (T.2.2.1, 1099, .inl m)), (M 2, .inl (T.2.2.2, 60, .inl t))] 7 [(0, .ref (M 0)), (1, .int (g 2)), (2, .int v)] [] := by
    intro q7
    induction q7 with
    | zero =>
      intro k v gx hi7 zhl7
      omega
    | succ q7 ih =>
      intro k v gx hi7 zhl7
      have zhb7 := zhl7.trans (lp7_X10_number_s g m t q7 k v gx)
      have hx1 := hi7.1.1.2
      have hx2 := hi7.1.2.2
      refine Z.of (pc' := 8) (fun _ _ _ hl => lv_aload_n hx hb dX10_number_7 rfl (lv_at hl 0 rfl)) ?_
      refine z_get C iX10 0 4 k89 rfl rfl (by decide) rfl rfl dX10_number_8 rfl ?_
      refine Z.of (pc' := 12) (fun _ _ _ hl => lv_aload_n hx hb dX10_number_11 rfl (lv_at hl 0 rfl)) ?_
      refine z_get C iX10 0 3 k85 rfl rfl (by decide) rfl rfl dX10_number_12 rfl ?_
      refine Z.two (pt := 78) (pf := 18) (fun _ _ _ _ => lv_icmp_ge hx hb dX10_number_15 (by decide)) (fun c1 => ?_) (fun c1 => ?_)
      · have nc1 : ((gx 1).toNatClampNeg) ≤ ((gx 2).toNatClampNeg) := zf_le (a := ((gx 1).toNatClampNeg)) (b := ((gx 2).toNatClampNeg)) hi7.1.1.1 hi7.1.2.1 c1 (by omega) (by omega)
        have zh2 := zhb7.trans (if_pos c1)
        refine Z.of (pc' := 79) (fun _ _ _ hl => lv_aload_n hx hb dX10_number_78 rfl (lv_at hl 0 rfl)) ?_
        refine z_get C iX10 0 4 k89 rfl rfl (by decide) rfl rfl dX10_number_79 rfl ?_
        refine Z.of (pc' := 83) (fun _ _ _ hl => lv_iload_n hx hb dX10_number_82 rfl (lv_at hl 1 rfl)) ?_
        refine Z.two (pt := 90) (pf := 86) (fun _ _ _ _ => lv_icmp_le hx hb dX10_number_83 (by decide)) (fun c4 => ?_) (fun c4 => ?_)
        · have zh5 := zh2.trans (if_pos c4)
          refine Z.of (pc' := 91) (fun _ _ _ _ => lv_iconst (v := -1) hx hb dX10_number_90 (by decide)) ?_
          exact E ((-1), gx) _ _ _ _ dX10_number_91 rfl rfl rfl zh5
        · have zh6 := zh2.trans (if_neg c4)
          refine Z.of (pc' := 87) (fun _ _ _ hl => lv_iload_n hx hb dX10_number_86 rfl (lv_at hl 2 rfl)) ?_
          refine Z.of (pc' := 91) (fun _ _ _ _ => lv_goto hx hb dX10_number_87 (by decide)) ?_
          exact E (v, gx) _ _ _ _ dX10_number_91 rfl rfl rfl zh6
      · have nc1 : ¬ (((gx 1).toNatClampNeg) ≤ ((gx 2).toNatClampNeg)) := zf_nle (a := ((gx 1).toNatClampNeg)) (b := ((gx 2).toNatClampNeg)) hi7.1.1.1 hi7.1.2.1 c1 (by omega) (by omega)
        have zh3 := zhb7.trans (if_neg c1)
        refine Z.of (pc' := 19) (fun _ _ _ hl => lv_aload_n hx hb dX10_number_18 rfl (lv_at hl 0 rfl)) ?_
        refine z_get C iX10 0 4 k89 rfl rfl (by decide) rfl rfl dX10_number_19 rfl ?_
        refine Z.of (pc' := 23) (fun _ _ _ hl => lv_iload_n hx hb dX10_number_22 rfl (lv_at hl 1 rfl)) ?_
        refine Z.topn (y := nI ((g 2).toNatClampNeg)) ha3 ?_
        refine Z.of (pc' := 24) (fun _ _ _ _ => lv_iconst (v := 3) hx hb dX10_number_23 (by decide)) ?_
        refine Z.of (pc' := 25) (fun _ _ _ hl => lv_iadd hx hb dX10_number_24) ?_
        refine Z.topn (y := nI ((g 2).toNatClampNeg + 3)) (zi_c (zi_add (a := (g 2).toNatClampNeg) (b := 3) (rfl : nI ((g 2).toNatClampNeg) = nI ((g 2).toNatClampNeg)) (rfl : (3 : Int32) = nI 3)) (by omega)) ?_
        refine Z.two (pt := 78) (pf := 28) (fun _ _ _ _ => lv_icmp_ge hx hb dX10_number_25 (by decide)) (fun c7 => ?_) (fun c7 => ?_)
        · have nc7 : ((g 2).toNatClampNeg + 3) ≤ ((gx 2).toNatClampNeg) := zf_le (a := ((g 2).toNatClampNeg + 3)) (b := ((gx 2).toNatClampNeg)) (rfl : nI ((g 2).toNatClampNeg + 3) = nI ((g 2).toNatClampNeg + 3)) hi7.1.2.1 c7 (by omega) (by omega)
          have zh8 := zh3.trans (if_pos c7)
          refine Z.of (pc' := 79) (fun _ _ _ hl => lv_aload_n hx hb dX10_number_78 rfl (lv_at hl 0 rfl)) ?_
          refine z_get C iX10 0 4 k89 rfl rfl (by decide) rfl rfl dX10_number_79 rfl ?_
          refine Z.of (pc' := 83) (fun _ _ _ hl => lv_iload_n hx hb dX10_number_82 rfl (lv_at hl 1 rfl)) ?_
          refine Z.two (pt := 90) (pf := 86) (fun _ _ _ _ => lv_icmp_le hx hb dX10_number_83 (by decide)) (fun c10 => ?_) (fun c10 => ?_)
          · have zh11 := zh8.trans (if_pos c10)
            refine Z.of (pc' := 91) (fun _ _ _ _ => lv_iconst (v := -1) hx hb dX10_number_90 (by decide)) ?_
            exact E ((-1), gx) _ _ _ _ dX10_number_91 rfl rfl rfl zh11
          · have zh12 := zh8.trans (if_neg c10)
            refine Z.of (pc' := 87) (fun _ _ _ hl => lv_iload_n hx hb dX10_number_86 rfl (lv_at hl 2 rfl)) ?_
            refine Z.of (pc' := 91) (fun _ _ _ _ => lv_goto hx hb dX10_number_87 (by decide)) ?_
            exact E (v, gx) _ _ _ _ dX10_number_91 rfl rfl rfl zh12
        · have nc7 : ¬ (((g 2).toNatClampNeg + 3) ≤ ((gx 2).toNatClampNeg)) := zf_nle (a := ((g 2).toNatClampNeg + 3)) (b := ((gx 2).toNatClampNeg)) (rfl : nI ((g 2).toNatClampNeg + 3) = nI ((g 2).toNatClampNeg + 3)) hi7.1.2.1 c7 (by omega) (by omega)
          have zh9 := zh3.trans (if_neg c7)
          refine Z.of (pc' := 29) (fun _ _ _ hl => lv_aload_n hx hb dX10_number_28 rfl (lv_at hl 0 rfl)) ?_
          refine z_get C iX10 0 2 k13 rfl rfl (by decide) rfl rfl dX10_number_29 rfl ?_
          refine Z.of (pc' := 33) (fun _ _ _ hl => lv_aload_n hx hb dX10_number_32 rfl (lv_at hl 0 rfl)) ?_
          refine z_get C iX10 0 4 k89 rfl rfl (by decide) rfl rfl dX10_number_33 rfl ?_
          refine z_cald C 2 2 rfl rfl (j := (gx 2).toNatClampNeg) hi7.1.2.1 (by omega) (by decide) dX10_number_36 rfl ?_
          refine Z.of (pc' := 39) (fun _ _ _ _ => lv_bipush (v := 48) hx hb dX10_number_37 (by decide)) ?_
          refine Z.of (pc' := 41) (fun _ _ _ _ => lv_bipush (v := 57) hx hb dX10_number_39 (by decide)) ?_
          refine z_callSi C (c_X10_in l T (t ((gx 2).toNatClampNeg)) 48 57) (cwS 3 hts gX10_number_X10_in rfl rfl rfl (by decide +kernel) ⟨Nat.le_of_ble_eq_true rfl, Nat.le_of_ble_eq_true rfl⟩) (As := [.int (t ((gx 2).toNatClampNeg)), .int 48, .int 57]) (rest := []) rfl rfl (Nat.le_of_ble_eq_true rfl) dX10_number_41 rfl ⟨Nat.zero_le _, Nat.zero_le _⟩ (fun u13 eu13 bu13 => ?_)
          have zh14 := zl_e zh9 eu13
          refine Z.two (pt := 78) (pf := 47) (fun _ _ _ _ => lv_if_eq hx hb dX10_number_44 (by decide)) (fun c15 => ?_) (fun c15 => ?_)
          · have zh16 := zh14.trans (if_pos c15)
            refine Z.of (pc' := 79) (fun _ _ _ hl => lv_aload_n hx hb dX10_number_78 rfl (lv_at hl 0 rfl)) ?_
            refine z_get C iX10 0 4 k89 rfl rfl (by decide) rfl rfl dX10_number_79 rfl ?_
            refine Z.of (pc' := 83) (fun _ _ _ hl => lv_iload_n hx hb dX10_number_82 rfl (lv_at hl 1 rfl)) ?_
            refine Z.two (pt := 90) (pf := 86) (fun _ _ _ _ => lv_icmp_le hx hb dX10_number_83 (by decide)) (fun c18 => ?_) (fun c18 => ?_)
            · have zh19 := zh16.trans (if_pos c18)
              refine Z.of (pc' := 91) (fun _ _ _ _ => lv_iconst (v := -1) hx hb dX10_number_90 (by decide)) ?_
              exact E ((-1), gx) _ _ _ _ dX10_number_91 rfl rfl rfl zh19
            · have zh20 := zh16.trans (if_neg c18)
              refine Z.of (pc' := 87) (fun _ _ _ hl => lv_iload_n hx hb dX10_number_86 rfl (lv_at hl 2 rfl)) ?_
              refine Z.of (pc' := 91) (fun _ _ _ _ => lv_goto hx hb dX10_number_87 (by decide)) ?_
              exact E (v, gx) _ _ _ _ dX10_number_91 rfl rfl rfl zh20
          · have zh17 := zh14.trans (if_neg c15)
            refine Z.of (pc' := 49) (fun _ _ _ _ => lv_bipush (v := 10) hx hb dX10_number_47 (by decide)) ?_
            refine Z.of (pc' := 50) (fun _ _ _ hl => lv_iload_n hx hb dX10_number_49 rfl (lv_at hl 2 rfl)) ?_
            refine Z.of (pc' := 51) (fun _ _ _ hl => lv_imul hx hb dX10_number_50) ?_
            refine Z.of (pc' := 52) (fun _ _ _ hl => lv_aload_n hx hb dX10_number_51 rfl (lv_at hl 0 rfl)) ?_
            refine z_get C iX10 0 2 k13 rfl rfl (by decide) rfl rfl dX10_number_52 rfl ?_
            refine Z.of (pc' := 56) (fun _ _ _ hl => lv_aload_n hx hb dX10_number_55 rfl (lv_at hl 0 rfl)) ?_
            refine z_get C iX10 0 4 k89 rfl rfl (by decide) rfl rfl dX10_number_56 rfl ?_
            refine z_cald C 2 2 rfl rfl (j := (gx 2).toNatClampNeg) hi7.1.2.1 (by omega) (by decide) dX10_number_59 rfl ?_
            refine Z.of (pc' := 61) (fun _ _ _ hl => lv_iadd hx hb dX10_number_60) ?_
            refine Z.of (pc' := 63) (fun _ _ _ _ => lv_bipush (v := 48) hx hb dX10_number_61 (by decide)) ?_
            refine Z.of (pc' := 64) (fun _ _ _ hl => lv_isub hx hb dX10_number_63) ?_
            refine Z.sto (pc' := 65) (lv' := [(2, .int (((10 * v) + (t ((gx 2).toNatClampNeg))) - 48)), (0, .ref (M 0)), (1, .int (g 2))]) (fun _ _ _ hl => lv_istore_n (lv' := [(2, .int (((10 * v) + (t ((gx 2).toNatClampNeg))) - 48)), (0, .ref (M 0)), (1, .int (g 2))]) hx hb dX10_number_64 rfl hl (by decide) rfl) ?_
            refine Z.of (pc' := 66) (fun _ _ _ hl => lv_aload_n hx hb dX10_number_65 rfl (lv_at hl 1 rfl)) ?_
            refine Z.of (pc' := 67) (fun _ _ _ hl => lv_dup hx hb dX10_number_66 rfl) ?_
            refine z_get C iX10 0 4 k89 rfl rfl (by decide) rfl rfl dX10_number_67 rfl ?_
            refine Z.of (pc' := 71) (fun _ _ _ _ => lv_iconst (v := 1) hx hb dX10_number_70 (by decide)) ?_
            refine Z.of (pc' := 72) (fun _ _ _ hl => lv_iadd hx hb dX10_number_71) ?_
            refine z_put C iX10 tyX10_ok nmX10 0 4 k89 rfl rfl (by decide) rfl rfl rfl rfl (Nat.le_of_ble_eq_true rfl) dX10_number_72 rfl [(M 0, .inr (10, [.ref (M 1), .int (gx 0), .ref (M 2), .int (gx 1), .int ((gx 2) + 1), .int (gx 3), .int (gx 4), .int (gx 5), .int (gx 6)])), (M 1, .inl (T.2.2.1, 1099, .inl m)), (M 2, .inl (T.2.2.2, 60, .inl t))] rfl ?_
            refine Z.of (pc' := 7) (fun _ _ _ _ => lv_goto hx hb dX10_number_75 (by decide)) ?_
            exact Z.sub (ks := [1, 2, 0]) (lv' := [(0, .ref (M 0)), (1, .int (g 2)), (2, .int (((10 * v) + (t ((gx 2).toNatClampNeg))) - 48))]) rfl (ih (k + 1) (((10 * v) + (t ((gx 2).toNatClampNeg))) - 48) (upd gx 2 ((gx 2) + 1)) (number_step hi7 nc1 nc7) zh17)
  exact Z.sub (ks := [2, 1, 0]) (lv' := [(0, .ref (M 0)), (1, .int (g 2)), (2, .int 0)]) rfl (L7 5 0 0 g ⟨hat0, rfl, rfl, by omega, by omega⟩ zh0)
def f_X10_isNext (g : Nat → Int32) (m : Nat → Int32) (t : Nat → Int32) (ch : Int32) : Int32 × (Nat → Int32) :=
  zl (
    if (g 1) ≤ (g 2) then
      0
    else
      if (t ((g 2).toNatClampNeg)) = ch then
        1
      else
        0
    : Int32) fun v2 =>
  zl (
    if v2 = 0 then
      0
    else
      1
    : Int32) fun v10 =>
  (v2, upd g 2 ((g 2) + v10))
theorem fe_X10_isNext (g : Nat → Int32) (m : Nat → Int32) (t : Nat → Int32) (ch : Int32) : f_X10_isNext g m t ch = (
    zl (
      if (g 1) ≤ (g 2) then
        0
      else
        if (t ((g 2).toNatClampNeg)) = ch then
          1
        else
          0
      : Int32) fun v2 =>
    zl (
      if v2 = 0 then
        0
      else
        1
      : Int32) fun v10 =>
    (v2, upd g 2 ((g 2) + v10))
    ) := rfl
abbrev rm_X10_isNext : Room := { frames := 0, cells := 0, slots := 0, locals := 0 }
set_option maxHeartbeats 1000000 in
set_option maxRecDepth 100000 in
theorem c_X10_isNext (l : Launch) (T : zT) (M : Nat → Nat) (g : Nat → Int32) (m : Nat → Int32) (t : Nat → Int32) (ch : Int32) (hat0 : At g) : Ci l yX10_isNext wsX10_isNext rm_X10_isNext T .boolean [.ref (M 0), .int ch] [(M 0, .inr (10, [.ref (M 1), .int (g 0), .ref (M 2), .int (g 1), .int (g 2), .int (g 3), .int (g 4), .int (g 5), .int (g 6)])), (M 1, .inl (T.2.2.1, 1099, .inl m)), (M 2, .inl (T.2.2.2, 60, .inl t))] (S := Int32 × (Nat → Int32)) (f_X10_isNext g m t ch) (fun u => u.1) (fun u => [(M 0, .inr (10, [.ref (M 1), .int (u.2 0), .ref (M 2), .int (u.2 1), .int (u.2 2), .int (u.2 3), .int (u.2 4), .int (u.2 5), .int (u.2 6)])), (M 1, .inl (T.2.2.1, 1099, .inl m)), (M 2, .inl (T.2.2.2, 60, .inl t))]) := by
  refine z_metI (own := RX10) (maxL := 3) rfl (by decide) rfl (Nat.le_of_ble_eq_true rfl) ?_
  intro P0 E0 S0 M0 G0 B0 T0 K0 A9 Q9 C E
  have hx := C.1.1
  have hb := C.1.2.1
  have hown := C.1.2.2.2.1
  have hts := C.1.2.2.2.2
  have hn := C.2.1.2
  have iX10 : ∀ w ∈ u_ws RX10 TX10 9, w ∈ wsX10_isNext := by decide +kernel
  have k13 := hts (.fieldLink RX10 13 "JudgedBitsModel" "text" "[C") (by decide +kernel)
  have k85 := hts (.fieldLink RX10 85 "JudgedBitsModel" "typed" "I") (by decide +kernel)
  have k89 := hts (.fieldLink RX10 89 "JudgedBitsModel" "at" "I") (by decide +kernel)
  have ha1 := hat0.1.1
  have ha2 := hat0.1.2
  have ha3 := hat0.2.1
  have ha4 := hat0.2.2
  change Z P0 l E0 rm_X10_isNext S0 M0 G0 B0 T0 K0 3 T A9 Q9 0 0 [(M 0, .inr (10, [.ref (M 1), .int (g 0), .ref (M 2), .int (g 1), .int (g 2), .int (g 3), .int (g 4), .int (g 5), .int (g 6)])), (M 1, .inl (T.2.2.1, 1099, .inl m)), (M 2, .inl (T.2.2.2, 60, .inl t))] 0 [(0, .ref (M 0)), (1, .int ch)] []
  have zh0 := fe_X10_isNext g m t ch
  refine Z.of (pc' := 1) (fun _ _ _ hl => lv_aload_n hx hb dX10_isNext_0 rfl (lv_at hl 0 rfl)) ?_
  refine z_get C iX10 0 4 k89 rfl rfl (by decide) rfl rfl dX10_isNext_1 rfl ?_
  refine Z.of (pc' := 5) (fun _ _ _ hl => lv_aload_n hx hb dX10_isNext_4 rfl (lv_at hl 0 rfl)) ?_
  refine z_get C iX10 0 3 k85 rfl rfl (by decide) rfl rfl dX10_isNext_5 rfl ?_
  have J2 : ∀ v2 : Int32, v2 = (
      if (g 1) ≤ (g 2) then
        0
      else
        if (t ((g 2).toNatClampNeg)) = ch then
          1
        else
          0
      ) → Z P0 l E0 rm_X10_isNext S0 M0 G0 B0 T0 K0 3 T A9 Q9 0 0 [(M 0, .inr (10, [.ref (M 1), .int (g 0), .ref (M 2), .int (g 1), .int (g 2), .int (g 3), .int (g 4), .int (g 5), .int (g 6)])), (M 1, .inl (T.2.2.1, 1099, .inl m)), (M 2, .inl (T.2.2.2, 60, .inl t))] 29 [(0, .ref (M 0))] [.int v2] := by
    intro v2 ev2
    have zh8 := zl_e zh0 ev2
    refine Z.sto (pc' := 30) (lv' := [(2, .int v2), (0, .ref (M 0))]) (fun _ _ _ hl => lv_istore_n (lv' := [(2, .int v2), (0, .ref (M 0))]) hx hb dX10_isNext_29 rfl hl (by decide) rfl) ?_
    refine Z.of (pc' := 31) (fun _ _ _ hl => lv_aload_n hx hb dX10_isNext_30 rfl (lv_at hl 1 rfl)) ?_
    refine Z.of (pc' := 32) (fun _ _ _ hl => lv_dup hx hb dX10_isNext_31 rfl) ?_
    refine z_get C iX10 0 4 k89 rfl rfl (by decide) rfl rfl dX10_isNext_32 rfl ?_
    refine Z.of (pc' := 36) (fun _ _ _ hl => lv_iload_n hx hb dX10_isNext_35 rfl (lv_at hl 0 rfl)) ?_
    have J10 : ∀ v10 : Int32, v10 = (
        if v2 = 0 then
          0
        else
          1
        ) → Z P0 l E0 rm_X10_isNext S0 M0 G0 B0 T0 K0 3 T A9 Q9 0 0 [(M 0, .inr (10, [.ref (M 1), .int (g 0), .ref (M 2), .int (g 1), .int (g 2), .int (g 3), .int (g 4), .int (g 5), .int (g 6)])), (M 1, .inl (T.2.2.1, 1099, .inl m)), (M 2, .inl (T.2.2.2, 60, .inl t))] 44 [(2, .int v2)] [.int v10, .int (g 2), .ref (M 0)] := by
      intro v10 ev10
      have zh13 := zl_e zh8 ev10
      refine Z.of (pc' := 45) (fun _ _ _ hl => lv_iadd hx hb dX10_isNext_44) ?_
      refine z_put C iX10 tyX10_ok nmX10 0 4 k89 rfl rfl (by decide) rfl rfl rfl rfl (Nat.le_of_ble_eq_true rfl) dX10_isNext_45 rfl [(M 0, .inr (10, [.ref (M 1), .int (g 0), .ref (M 2), .int (g 1), .int ((g 2) + v10), .int (g 3), .int (g 4), .int (g 5), .int (g 6)])), (M 1, .inl (T.2.2.1, 1099, .inl m)), (M 2, .inl (T.2.2.2, 60, .inl t))] rfl ?_
      refine Z.of (pc' := 49) (fun _ _ _ hl => lv_iload_n hx hb dX10_isNext_48 rfl (lv_at hl 0 rfl)) ?_
      exact E (v2, upd g 2 ((g 2) + v10)) _ _ _ _ dX10_isNext_49 (by rw [ev2]; (repeat' split) <;> rfl) rfl rfl zh13
    have zr10 := @Eq.refl (Int32) (
        if v2 = 0 then
          0
        else
          1
        )
    refine Z.two (pt := 43) (pf := 39) (fun _ _ _ _ => lv_if_eq hx hb dX10_isNext_36 (by decide)) (fun c9 => ?_) (fun c9 => ?_)
    · have zh11 := zr10.trans (if_pos c9)
      refine Z.of (pc' := 44) (fun _ _ _ _ => lv_iconst (v := 0) hx hb dX10_isNext_43 (by decide)) ?_
      exact Z.sub (ks := [0]) (lv' := [(2, .int v2)]) rfl (J10 0 zh11.symm)
    · have zh12 := zr10.trans (if_neg c9)
      refine Z.of (pc' := 40) (fun _ _ _ _ => lv_iconst (v := 1) hx hb dX10_isNext_39 (by decide)) ?_
      refine Z.of (pc' := 44) (fun _ _ _ _ => lv_goto hx hb dX10_isNext_40 (by decide)) ?_
      exact Z.sub (ks := [0]) (lv' := [(2, .int v2)]) rfl (J10 1 zh12.symm)
  have zr2 := @Eq.refl (Int32) (
      if (g 1) ≤ (g 2) then
        0
      else
        if (t ((g 2).toNatClampNeg)) = ch then
          1
        else
          0
      )
  refine Z.two (pt := 28) (pf := 11) (fun _ _ _ _ => lv_icmp_ge hx hb dX10_isNext_8 (by decide)) (fun c1 => ?_) (fun c1 => ?_)
  · have nc1 : ((g 1).toNatClampNeg) ≤ ((g 2).toNatClampNeg) := zf_le (a := ((g 1).toNatClampNeg)) (b := ((g 2).toNatClampNeg)) ha1 ha3 c1 (by omega) (by omega)
    have zh3 := zr2.trans (if_pos c1)
    refine Z.of (pc' := 29) (fun _ _ _ _ => lv_iconst (v := 0) hx hb dX10_isNext_28 (by decide)) ?_
    exact Z.sub (ks := [0]) (lv' := [(0, .ref (M 0))]) rfl (J2 0 zh3.symm)
  · have nc1 : ¬ (((g 1).toNatClampNeg) ≤ ((g 2).toNatClampNeg)) := zf_nle (a := ((g 1).toNatClampNeg)) (b := ((g 2).toNatClampNeg)) ha1 ha3 c1 (by omega) (by omega)
    have zh4 := zr2.trans (if_neg c1)
    refine Z.of (pc' := 12) (fun _ _ _ hl => lv_aload_n hx hb dX10_isNext_11 rfl (lv_at hl 0 rfl)) ?_
    refine z_get C iX10 0 2 k13 rfl rfl (by decide) rfl rfl dX10_isNext_12 rfl ?_
    refine Z.of (pc' := 16) (fun _ _ _ hl => lv_aload_n hx hb dX10_isNext_15 rfl (lv_at hl 0 rfl)) ?_
    refine z_get C iX10 0 4 k89 rfl rfl (by decide) rfl rfl dX10_isNext_16 rfl ?_
    refine z_cald C 2 2 rfl rfl (j := (g 2).toNatClampNeg) ha3 (by omega) (by decide) dX10_isNext_19 rfl ?_
    refine Z.of (pc' := 21) (fun _ _ _ hl => lv_iload_n hx hb dX10_isNext_20 rfl (lv_at hl 1 rfl)) ?_
    refine Z.two' (pt := 28) (pf := 24) (fun _ _ _ _ => lv_icmp_ne hx hb dX10_isNext_21 (by decide)) (fun c5 => ?_) (fun c5 => ?_)
    · have zh6 := zh4.trans (if_neg c5)
      refine Z.of (pc' := 29) (fun _ _ _ _ => lv_iconst (v := 0) hx hb dX10_isNext_28 (by decide)) ?_
      exact Z.sub (ks := [0]) (lv' := [(0, .ref (M 0))]) rfl (J2 0 zh6.symm)
    · have zh7 := zh4.trans (if_pos c5)
      refine Z.of (pc' := 25) (fun _ _ _ _ => lv_iconst (v := 1) hx hb dX10_isNext_24 (by decide)) ?_
      refine Z.of (pc' := 29) (fun _ _ _ _ => lv_goto hx hb dX10_isNext_25 (by decide)) ?_
      exact Z.sub (ks := [0]) (lv' := [(0, .ref (M 0))]) rfl (J2 1 zh7.symm)
theorem number_lpF (g m t : Nat → Int32) (hg : At g) : ∀ (q k : Nat) (v : Int32) (gx : Nat → Int32), Fw g gx → Fw g (lp7_X10_number g m t q k v gx).2 := by
  intro q
  induction q with
  | zero => intro k v gx h; exact Fw.rf hg
  | succ q ih =>
    intro k v gx h
    rw [lp7_X10_number_s]
    split
    · split <;> exact h
    · rename_i c1
      split
      · split <;> exact h
      · refine zl_F (P := fun r : Int32 × (Nat → Int32) => Fw g r.2) (fun u _ => ?_)
        split
        · split <;> exact h
        · exact ih _ _ _ (h.tr (Fw.one h.1 c1 rfl rfl))
theorem number_Fw {g m t : Nat → Int32} (h : At g) : Fw g (f_X10_number g m t).2 := number_lpF g m t h _ _ _ _ (Fw.rf h)
theorem number_At {g m t : Nat → Int32} {u : Int32 × (Nat → Int32)} (h : At g) (e : u = f_X10_number g m t) : At u.2 := by rw [e]; exact (number_Fw h).1
theorem isNext_Fw {g m t : Nat → Int32} {ch : Int32} (h : At g) : Fw g (f_X10_isNext g m t ch).2 := by
  unfold f_X10_isNext
  refine zl_F (P := fun r : Int32 × (Nat → Int32) => Fw g r.2) (fun v2 e2 => ?_)
  refine zl_F (P := fun r : Int32 × (Nat → Int32) => Fw g r.2) (fun v10 e10 => ?_)
  by_cases c : v2 = 0
  · rw [if_pos c] at e10
    subst e10
    have e : ((v2, upd g 2 (g 2 + 0)) : Int32 × (Nat → Int32)).2 2 = g 2 := by show g 2 + 0 = g 2; exact Int32.add_zero _
    exact ⟨At_0 h rfl e, rfl, by rw [e]; exact Nat.le_refl _⟩
  · rw [if_neg c] at e10
    subst e10
    have c1 : ¬ (g 1) ≤ (g 2) := fun hc => c (by rw [e2, if_pos hc])
    exact Fw.one h c1 rfl rfl
theorem isNext_At {g m t : Nat → Int32} {ch : Int32} {u : Int32 × (Nat → Int32)} (h : At g) (e : u = f_X10_isNext g m t ch) : At u.2 := by rw [e]; exact (isNext_Fw h).1
def f_X10_does (g : Nat → Int32) (m : Nat → Int32) (t : Nat → Int32) : Int32 × (Nat → Int32) × (Nat → Int32) :=
  zl (
    if (t ((g 2).toNatClampNeg)) = 114 then
      1
    else
      if (t ((g 2).toNatClampNeg)) = 115 then
        1
      else
        if (t ((g 2).toNatClampNeg)) = 100 then
          1
        else
          if (t ((g 2).toNatClampNeg)) = 110 then
            1
          else
            if (t ((g 2).toNatClampNeg)) = 120 then
              1
            else
              0
    : Int32) fun v2 =>
  zl (
    if v2 = 0 then
      0
    else
      1
    : Int32) fun v19 =>
  zl (
    if v2 = 0 then
      (0, upd (upd g 2 ((g 2) + v19)) 3 (g 2))
    else
      if (t ((g 2).toNatClampNeg)) = 110 then
        (0, upd (upd g 2 ((g 2) + v19)) 3 (g 2))
      else
        zl (f_X10_number (upd (upd g 2 ((g 2) + v19)) 3 (g 2)) m t) fun u30 =>
        (u30.1, u30.2)
    : Int32 × (Nat → Int32)) fun v24 =>
  zl (
    if v2 = 0 then
      0
    else
      if v24.1 < 0 then
        0
      else
        1
    : Int32) fun v34 =>
  zl (
    if v34 = 0 then
      (v34, 0, 0, v24.2)
    else
      if (t ((g 2).toNatClampNeg)) = 114 then
        zl (f_X10_isNext v24.2 m t 44) fun u48 =>
        zl (
          if u48.1 = 0 then
            ((-1), u48.2)
          else
            zl (f_X10_number u48.2 m t) fun u54 =>
            (u54.1, u54.2)
          : Int32 × (Nat → Int32)) fun v51 =>
        zl (
          if u48.1 = 0 then
            (0, v51.2)
          else
            if v51.1 < 0 then
              (0, v51.2)
            else
              zl (f_X10_isNext v51.2 m t 44) fun u64 =>
              if u64.1 = 0 then
                (0, u64.2)
              else
                (1, u64.2)
          : Int32 × (Nat → Int32)) fun v58 =>
        zl (
          if v58.1 = 0 then
            ((-1), v58.2)
          else
            zl (f_X10_number v58.2 m t) fun u74 =>
            (u74.1, u74.2)
          : Int32 × (Nat → Int32)) fun v71 =>
        zl (
          if v58.1 = 0 then
            0
          else
            if v71.1 < 0 then
              0
            else
              1
          : Int32) fun v78 =>
        (v78, v51.1, v71.1, v71.2)
      else
        (v34, 0, 0, v24.2)
    : Int32 × Int32 × Int32 × (Nat → Int32)) fun v42 =>
  zl (
    if v42.1 = 0 then
      (0, v42.2.2.2)
    else
      zl (f_X10_isNext v42.2.2.2 m t 59) fun u90 =>
      if u90.1 = 0 then
        (0, u90.2)
      else
        (1, u90.2)
    : Int32 × (Nat → Int32)) fun v87 =>
  if v87.1 = 0 then
    (0, upd (upd v87.2 4 1) 5 ((v87.2 2) - (v87.2 3)), m)
  else
    zl (
      if (t ((g 2).toNatClampNeg)) = 114 then
        zl (f_X10_sets v87.2 m t 6 v24.1 v42.2.1 v42.2.2.1) fun u137 =>
        (u137.1, u137.2)
      else
        if (t ((g 2).toNatClampNeg)) = 115 then
          zl (f_X10_in v24.1 1 300) fun u128 =>
          zl (
            if u128 = 0 then
              ((-1000001), m)
            else
              zl (f_X10_makes v87.2 m t 6 v24.1) fun u134 =>
              (u134.1, u134.2)
            : Int32 × (Nat → Int32)) fun v131 =>
          (v131.1, v131.2)
        else
          if (t ((g 2).toNatClampNeg)) = 100 then
            zl (f_X10_draws v87.2 m t 6 v24.1) fun u126 =>
            (u126.1, u126.2)
          else
            if (t ((g 2).toNatClampNeg)) = 110 then
              zl (f_X10_starts v87.2 m t 6) fun u124 =>
              (m (157 * 6 + 18), u124)
            else
              zl (
                if v24.1 ≤ 0 then
                  (-1000001)
                else
                  0
                : Int32) fun v113 =>
              zl (
                if v24.1 ≤ 0 then
                  (m 942)
                else
                  v24.1
                : Int32) fun v118 =>
              zl (upd m 942 v118) fun m122 =>
              (v113, m122)
      : Int32 × (Nat → Int32)) fun v100 =>
    zl (
      if 0 ≤ v100.1 then
        0
      else
        2
      : Int32) fun v141 =>
    if v100.1 < 0 then
      (0, upd (upd v87.2 4 v141) 5 v100.1, v100.2)
    else
      (1, upd (upd v87.2 4 v141) 5 v100.1, v100.2)
theorem fe_X10_does (g : Nat → Int32) (m : Nat → Int32) (t : Nat → Int32) : f_X10_does g m t = (
    zl (
      if (t ((g 2).toNatClampNeg)) = 114 then
        1
      else
        if (t ((g 2).toNatClampNeg)) = 115 then
          1
        else
          if (t ((g 2).toNatClampNeg)) = 100 then
            1
          else
            if (t ((g 2).toNatClampNeg)) = 110 then
              1
            else
              if (t ((g 2).toNatClampNeg)) = 120 then
                1
              else
                0
      : Int32) fun v2 =>
    zl (
      if v2 = 0 then
        0
      else
        1
      : Int32) fun v19 =>
    zl (
      if v2 = 0 then
        (0, upd (upd g 2 ((g 2) + v19)) 3 (g 2))
      else
        if (t ((g 2).toNatClampNeg)) = 110 then
          (0, upd (upd g 2 ((g 2) + v19)) 3 (g 2))
        else
          zl (f_X10_number (upd (upd g 2 ((g 2) + v19)) 3 (g 2)) m t) fun u30 =>
          (u30.1, u30.2)
      : Int32 × (Nat → Int32)) fun v24 =>
    zl (
      if v2 = 0 then
        0
      else
        if v24.1 < 0 then
          0
        else
          1
      : Int32) fun v34 =>
    zl (
      if v34 = 0 then
        (v34, 0, 0, v24.2)
      else
        if (t ((g 2).toNatClampNeg)) = 114 then
          zl (f_X10_isNext v24.2 m t 44) fun u48 =>
          zl (
            if u48.1 = 0 then
              ((-1), u48.2)
            else
              zl (f_X10_number u48.2 m t) fun u54 =>
              (u54.1, u54.2)
            : Int32 × (Nat → Int32)) fun v51 =>
          zl (
            if u48.1 = 0 then
              (0, v51.2)
            else
              if v51.1 < 0 then
                (0, v51.2)
              else
                zl (f_X10_isNext v51.2 m t 44) fun u64 =>
                if u64.1 = 0 then
                  (0, u64.2)
                else
                  (1, u64.2)
            : Int32 × (Nat → Int32)) fun v58 =>
          zl (
            if v58.1 = 0 then
              ((-1), v58.2)
            else
              zl (f_X10_number v58.2 m t) fun u74 =>
              (u74.1, u74.2)
            : Int32 × (Nat → Int32)) fun v71 =>
          zl (
            if v58.1 = 0 then
              0
            else
              if v71.1 < 0 then
                0
              else
                1
            : Int32) fun v78 =>
          (v78, v51.1, v71.1, v71.2)
        else
          (v34, 0, 0, v24.2)
      : Int32 × Int32 × Int32 × (Nat → Int32)) fun v42 =>
    zl (
      if v42.1 = 0 then
        (0, v42.2.2.2)
      else
        zl (f_X10_isNext v42.2.2.2 m t 59) fun u90 =>
        if u90.1 = 0 then
          (0, u90.2)
        else
          (1, u90.2)
      : Int32 × (Nat → Int32)) fun v87 =>
    if v87.1 = 0 then
      (0, upd (upd v87.2 4 1) 5 ((v87.2 2) - (v87.2 3)), m)
    else
      zl (
        if (t ((g 2).toNatClampNeg)) = 114 then
          zl (f_X10_sets v87.2 m t 6 v24.1 v42.2.1 v42.2.2.1) fun u137 =>
          (u137.1, u137.2)
        else
          if (t ((g 2).toNatClampNeg)) = 115 then
            zl (f_X10_in v24.1 1 300) fun u128 =>
            zl (
              if u128 = 0 then
                ((-1000001), m)
              else
                zl (f_X10_makes v87.2 m t 6 v24.1) fun u134 =>
                (u134.1, u134.2)
              : Int32 × (Nat → Int32)) fun v131 =>
            (v131.1, v131.2)
          else
            if (t ((g 2).toNatClampNeg)) = 100 then
              zl (f_X10_draws v87.2 m t 6 v24.1) fun u126 =>
              (u126.1, u126.2)
            else
              if (t ((g 2).toNatClampNeg)) = 110 then
                zl (f_X10_starts v87.2 m t 6) fun u124 =>
                (m (157 * 6 + 18), u124)
              else
                zl (
                  if v24.1 ≤ 0 then
                    (-1000001)
                  else
                    0
                  : Int32) fun v113 =>
                zl (
                  if v24.1 ≤ 0 then
                    (m 942)
                  else
                    v24.1
                  : Int32) fun v118 =>
                zl (upd m 942 v118) fun m122 =>
                (v113, m122)
        : Int32 × (Nat → Int32)) fun v100 =>
      zl (
        if 0 ≤ v100.1 then
          0
        else
          2
        : Int32) fun v141 =>
      if v100.1 < 0 then
        (0, upd (upd v87.2 4 v141) 5 v100.1, v100.2)
      else
        (1, upd (upd v87.2 4 v141) 5 v100.1, v100.2)
    ) := rfl
abbrev rm_X10_does : Room := { frames := 4, cells := 0, slots := 0, locals := 94 }
set_option maxHeartbeats 1000000 in
set_option maxRecDepth 100000 in
theorem c_X10_does (l : Launch) (T : zT) (M : Nat → Nat) (g : Nat → Int32) (m : Nat → Int32) (t : Nat → Int32) (hat0 : At g) (hlt0 : (g 2).toNatClampNeg < (g 1).toNatClampNeg) (ok0 : MOk m 942) : Ci l yX10_does wsX10_does rm_X10_does T .boolean [.ref (M 0)] [(M 0, .inr (10, [.ref (M 1), .int (g 0), .ref (M 2), .int (g 1), .int (g 2), .int (g 3), .int (g 4), .int (g 5), .int (g 6)])), (M 1, .inl (T.2.2.1, 1099, .inl m)), (M 2, .inl (T.2.2.2, 60, .inl t))] (S := Int32 × (Nat → Int32) × (Nat → Int32)) (f_X10_does g m t) (fun u => u.1) (fun u => [(M 0, .inr (10, [.ref (M 1), .int (u.2.1 0), .ref (M 2), .int (u.2.1 1), .int (u.2.1 2), .int (u.2.1 3), .int (u.2.1 4), .int (u.2.1 5), .int (u.2.1 6)])), (M 1, .inl (T.2.2.1, 1099, .inl u.2.2)), (M 2, .inl (T.2.2.2, 60, .inl t))]) := by
  refine z_metI (own := RX10) (maxL := 7) rfl (by decide) rfl (Nat.le_of_ble_eq_true rfl) ?_
  intro P0 E0 S0 M0 G0 B0 T0 K0 A9 Q9 C E
  have hx := C.1.1
  have hb := C.1.2.1
  have hown := C.1.2.2.2.1
  have hts := C.1.2.2.2.2
  have hn := C.2.1.2
  have iX10 : ∀ w ∈ u_ws RX10 TX10 9, w ∈ wsX10_does := by decide +kernel
  have k7 := hts (.fieldLink RX10 7 "JudgedBitsModel" "s" "[I") (by decide +kernel)
  have k13 := hts (.fieldLink RX10 13 "JudgedBitsModel" "text" "[C") (by decide +kernel)
  have k89 := hts (.fieldLink RX10 89 "JudgedBitsModel" "at" "I") (by decide +kernel)
  have k92 := hts (.fieldLink RX10 92 "JudgedBitsModel" "begin" "I") (by decide +kernel)
  have k102 := hts (.fieldLink RX10 102 "JudgedBitsModel" "reason" "I") (by decide +kernel)
  have k105 := hts (.fieldLink RX10 105 "JudgedBitsModel" "cause" "I") (by decide +kernel)
  have ha1 := hat0.1.1
  have ha2 := hat0.1.2
  have ha3 := hat0.2.1
  have ha4 := hat0.2.2
  change Z P0 l E0 rm_X10_does S0 M0 G0 B0 T0 K0 7 T A9 Q9 0 0 [(M 0, .inr (10, [.ref (M 1), .int (g 0), .ref (M 2), .int (g 1), .int (g 2), .int (g 3), .int (g 4), .int (g 5), .int (g 6)])), (M 1, .inl (T.2.2.1, 1099, .inl m)), (M 2, .inl (T.2.2.2, 60, .inl t))] 0 [(0, .ref (M 0))] []
  have zh0 := fe_X10_does g m t
  refine Z.of (pc' := 1) (fun _ _ _ hl => lv_aload_n hx hb dX10_does_0 rfl (lv_at hl 0 rfl)) ?_
  refine Z.of (pc' := 2) (fun _ _ _ hl => lv_aload_n hx hb dX10_does_1 rfl (lv_at hl 0 rfl)) ?_
  refine z_get C iX10 0 4 k89 rfl rfl (by decide) rfl rfl dX10_does_2 rfl ?_
  refine z_put C iX10 tyX10_ok nmX10 0 5 k92 rfl rfl (by decide) rfl rfl rfl rfl (Nat.le_of_ble_eq_true rfl) dX10_does_5 rfl [(M 0, .inr (10, [.ref (M 1), .int (g 0), .ref (M 2), .int (g 1), .int (g 2), .int (g 2), .int (g 4), .int (g 5), .int (g 6)])), (M 1, .inl (T.2.2.1, 1099, .inl m)), (M 2, .inl (T.2.2.2, 60, .inl t))] rfl ?_
  refine Z.of (pc' := 9) (fun _ _ _ hl => lv_aload_n hx hb dX10_does_8 rfl (lv_at hl 0 rfl)) ?_
  refine z_get C iX10 0 2 k13 rfl rfl (by decide) rfl rfl dX10_does_9 rfl ?_
  refine Z.of (pc' := 13) (fun _ _ _ hl => lv_aload_n hx hb dX10_does_12 rfl (lv_at hl 0 rfl)) ?_
  refine z_get C iX10 0 4 k89 rfl rfl (by decide) rfl rfl dX10_does_13 rfl ?_
  refine z_cald C 2 2 rfl rfl (j := (g 2).toNatClampNeg) ha3 (by omega) (by decide) dX10_does_16 rfl ?_
  refine Z.sto (pc' := 18) (lv' := [(1, .int (t ((g 2).toNatClampNeg))), (0, .ref (M 0))]) (fun _ _ _ hl => lv_istore_n (lv' := [(1, .int (t ((g 2).toNatClampNeg))), (0, .ref (M 0))]) hx hb dX10_does_17 rfl hl (by decide) rfl) ?_
  refine Z.of (pc' := 19) (fun _ _ _ hl => lv_iload_n hx hb dX10_does_18 rfl (lv_at hl 0 rfl)) ?_
  refine Z.of (pc' := 21) (fun _ _ _ _ => lv_bipush (v := 114) hx hb dX10_does_19 (by decide)) ?_
  have J2 : ∀ v2 : Int32, v2 = (
      if (t ((g 2).toNatClampNeg)) = 114 then
        1
      else
        if (t ((g 2).toNatClampNeg)) = 115 then
          1
        else
          if (t ((g 2).toNatClampNeg)) = 100 then
            1
          else
            if (t ((g 2).toNatClampNeg)) = 110 then
              1
            else
              if (t ((g 2).toNatClampNeg)) = 120 then
                1
              else
                0
      ) → Z P0 l E0 rm_X10_does S0 M0 G0 B0 T0 K0 7 T A9 Q9 0 0 [(M 0, .inr (10, [.ref (M 1), .int (g 0), .ref (M 2), .int (g 1), .int (g 2), .int (g 2), .int (g 4), .int (g 5), .int (g 6)])), (M 1, .inl (T.2.2.1, 1099, .inl m)), (M 2, .inl (T.2.2.2, 60, .inl t))] 53 [(0, .ref (M 0)), (1, .int (t ((g 2).toNatClampNeg)))] [.int v2] := by
    intro v2 ev2
    have zh17 := zl_e zh0 ev2
    refine Z.sto (pc' := 54) (lv' := [(2, .int v2), (0, .ref (M 0)), (1, .int (t ((g 2).toNatClampNeg)))]) (fun _ _ _ hl => lv_istore_n (lv' := [(2, .int v2), (0, .ref (M 0)), (1, .int (t ((g 2).toNatClampNeg)))]) hx hb dX10_does_53 rfl hl (by decide) rfl) ?_
    refine Z.of (pc' := 55) (fun _ _ _ hl => lv_aload_n hx hb dX10_does_54 rfl (lv_at hl 1 rfl)) ?_
    refine Z.of (pc' := 56) (fun _ _ _ hl => lv_dup hx hb dX10_does_55 rfl) ?_
    refine z_get C iX10 0 4 k89 rfl rfl (by decide) rfl rfl dX10_does_56 rfl ?_
    refine Z.of (pc' := 60) (fun _ _ _ hl => lv_iload_n hx hb dX10_does_59 rfl (lv_at hl 0 rfl)) ?_
    have J19 : ∀ v19 : Int32, v19 = (
        if v2 = 0 then
          0
        else
          1
        ) → Z P0 l E0 rm_X10_does S0 M0 G0 B0 T0 K0 7 T A9 Q9 0 0 [(M 0, .inr (10, [.ref (M 1), .int (g 0), .ref (M 2), .int (g 1), .int (g 2), .int (g 2), .int (g 4), .int (g 5), .int (g 6)])), (M 1, .inl (T.2.2.1, 1099, .inl m)), (M 2, .inl (T.2.2.2, 60, .inl t))] 68 [(0, .ref (M 0)), (1, .int (t ((g 2).toNatClampNeg))), (2, .int v2)] [.int v19, .int (g 2), .ref (M 0)] := by
      intro v19 ev19
      have zh22 := zl_e zh17 ev19
      refine Z.of (pc' := 69) (fun _ _ _ hl => lv_iadd hx hb dX10_does_68) ?_
      refine z_put C iX10 tyX10_ok nmX10 0 4 k89 rfl rfl (by decide) rfl rfl rfl rfl (Nat.le_of_ble_eq_true rfl) dX10_does_69 rfl [(M 0, .inr (10, [.ref (M 1), .int (g 0), .ref (M 2), .int (g 1), .int ((g 2) + v19), .int (g 2), .int (g 4), .int (g 5), .int (g 6)])), (M 1, .inl (T.2.2.1, 1099, .inl m)), (M 2, .inl (T.2.2.2, 60, .inl t))] rfl ?_
      have at69 : At (upd (upd g 2 ((g 2) + v19)) 3 (g 2)) := At_is hat0 hlt0 (v := v19) (by rw [ev19]; split; exact Or.inl rfl; exact Or.inr rfl) rfl rfl
      refine Z.of (pc' := 73) (fun _ _ _ hl => lv_iload_n hx hb dX10_does_72 rfl (lv_at hl 2 rfl)) ?_
      have J24 : ∀ v24 : Int32 × (Nat → Int32), v24 = (
          if v2 = 0 then
            (0, upd (upd g 2 ((g 2) + v19)) 3 (g 2))
          else
            if (t ((g 2).toNatClampNeg)) = 110 then
              (0, upd (upd g 2 ((g 2) + v19)) 3 (g 2))
            else
              zl (f_X10_number (upd (upd g 2 ((g 2) + v19)) 3 (g 2)) m t) fun u30 =>
              (u30.1, u30.2)
          ) → Z P0 l E0 rm_X10_does S0 M0 G0 B0 T0 K0 7 T A9 Q9 0 0 [(M 0, .inr (10, [.ref (M 1), .int (v24.2 0), .ref (M 2), .int (v24.2 1), .int (v24.2 2), .int (v24.2 3), .int (v24.2 4), .int (v24.2 5), .int (v24.2 6)])), (M 1, .inl (T.2.2.1, 1099, .inl m)), (M 2, .inl (T.2.2.2, 60, .inl t))] 90 [(0, .ref (M 0)), (1, .int (t ((g 2).toNatClampNeg))), (2, .int v2)] [.int v24.1] := by
        intro v24 ev24
        have zh32 := zl_e zh22 ev24
        have atv24 : At v24.2 := by
          rw [ev24]
          simp only [zl]
          (repeat' split) <;> first | exact at69 | exact (number_Fw (m := m) at69).1 | exact (isNext_Fw (m := m) at69).1
        refine Z.sto (pc' := 91) (lv' := [(3, .int v24.1), (0, .ref (M 0)), (1, .int (t ((g 2).toNatClampNeg))), (2, .int v2)]) (fun _ _ _ hl => lv_istore_n (lv' := [(3, .int v24.1), (0, .ref (M 0)), (1, .int (t ((g 2).toNatClampNeg))), (2, .int v2)]) hx hb dX10_does_90 rfl hl (by decide) rfl) ?_
        refine Z.of (pc' := 92) (fun _ _ _ hl => lv_iload_n hx hb dX10_does_91 rfl (lv_at hl 3 rfl)) ?_
        have J34 : ∀ v34 : Int32, v34 = (
            if v2 = 0 then
              0
            else
              if v24.1 < 0 then
                0
              else
                1
            ) → Z P0 l E0 rm_X10_does S0 M0 G0 B0 T0 K0 7 T A9 Q9 0 0 [(M 0, .inr (10, [.ref (M 1), .int (v24.2 0), .ref (M 2), .int (v24.2 1), .int (v24.2 2), .int (v24.2 3), .int (v24.2 4), .int (v24.2 5), .int (v24.2 6)])), (M 1, .inl (T.2.2.1, 1099, .inl m)), (M 2, .inl (T.2.2.2, 60, .inl t))] 104 [(0, .ref (M 0)), (1, .int (t ((g 2).toNatClampNeg))), (3, .int v24.1)] [.int v34] := by
          intro v34 ev34
          have zh40 := zl_e zh32 ev34
          refine Z.sto (pc' := 105) (lv' := [(2, .int v34), (0, .ref (M 0)), (1, .int (t ((g 2).toNatClampNeg))), (3, .int v24.1)]) (fun _ _ _ hl => lv_istore_n (lv' := [(2, .int v34), (0, .ref (M 0)), (1, .int (t ((g 2).toNatClampNeg))), (3, .int v24.1)]) hx hb dX10_does_104 rfl hl (by decide) rfl) ?_
          refine Z.of (pc' := 106) (fun _ _ _ _ => lv_iconst (v := 0) hx hb dX10_does_105 (by decide)) ?_
          refine Z.sto (pc' := 108) (lv' := [(4, .int 0), (2, .int v34), (0, .ref (M 0)), (1, .int (t ((g 2).toNatClampNeg))), (3, .int v24.1)]) (fun _ _ _ hl => lv_istore (lv' := [(4, .int 0), (2, .int v34), (0, .ref (M 0)), (1, .int (t ((g 2).toNatClampNeg))), (3, .int v24.1)]) hx hb dX10_does_106 hl (by decide) rfl) ?_
          refine Z.of (pc' := 109) (fun _ _ _ _ => lv_iconst (v := 0) hx hb dX10_does_108 (by decide)) ?_
          refine Z.sto (pc' := 111) (lv' := [(5, .int 0), (4, .int 0), (2, .int v34), (0, .ref (M 0)), (1, .int (t ((g 2).toNatClampNeg))), (3, .int v24.1)]) (fun _ _ _ hl => lv_istore (lv' := [(5, .int 0), (4, .int 0), (2, .int v34), (0, .ref (M 0)), (1, .int (t ((g 2).toNatClampNeg))), (3, .int v24.1)]) hx hb dX10_does_109 hl (by decide) rfl) ?_
          refine Z.of (pc' := 112) (fun _ _ _ hl => lv_iload_n hx hb dX10_does_111 rfl (lv_at hl 2 rfl)) ?_
          have J42 : ∀ v42 : Int32 × Int32 × Int32 × (Nat → Int32), v42 = (
              if v34 = 0 then
                (v34, 0, 0, v24.2)
              else
                if (t ((g 2).toNatClampNeg)) = 114 then
                  zl (f_X10_isNext v24.2 m t 44) fun u48 =>
                  zl (
                    if u48.1 = 0 then
                      ((-1), u48.2)
                    else
                      zl (f_X10_number u48.2 m t) fun u54 =>
                      (u54.1, u54.2)
                    : Int32 × (Nat → Int32)) fun v51 =>
                  zl (
                    if u48.1 = 0 then
                      (0, v51.2)
                    else
                      if v51.1 < 0 then
                        (0, v51.2)
                      else
                        zl (f_X10_isNext v51.2 m t 44) fun u64 =>
                        if u64.1 = 0 then
                          (0, u64.2)
                        else
                          (1, u64.2)
                    : Int32 × (Nat → Int32)) fun v58 =>
                  zl (
                    if v58.1 = 0 then
                      ((-1), v58.2)
                    else
                      zl (f_X10_number v58.2 m t) fun u74 =>
                      (u74.1, u74.2)
                    : Int32 × (Nat → Int32)) fun v71 =>
                  zl (
                    if v58.1 = 0 then
                      0
                    else
                      if v71.1 < 0 then
                        0
                      else
                        1
                    : Int32) fun v78 =>
                  (v78, v51.1, v71.1, v71.2)
                else
                  (v34, 0, 0, v24.2)
              ) → Z P0 l E0 rm_X10_does S0 M0 G0 B0 T0 K0 7 T A9 Q9 0 0 [(M 0, .inr (10, [.ref (M 1), .int (v42.2.2.2 0), .ref (M 2), .int (v42.2.2.2 1), .int (v42.2.2.2 2), .int (v42.2.2.2 3), .int (v42.2.2.2 4), .int (v42.2.2.2 5), .int (v42.2.2.2 6)])), (M 1, .inl (T.2.2.1, 1099, .inl m)), (M 2, .inl (T.2.2.2, 60, .inl t))] 195 [(0, .ref (M 0)), (1, .int (t ((g 2).toNatClampNeg))), (2, .int v42.1), (3, .int v24.1), (4, .int v42.2.1), (5, .int v42.2.2.1)] [] := by
            intro v42 ev42
            have zh85 := zl_e zh40 ev42
            have atv42 : At v42.2.2.2 := by
              rw [ev42]
              split
              · exact atv24
              split
              · refine zl_F (P := fun r : Int32 × Int32 × Int32 × (Nat → Int32) => At r.2.2.2) (fun w1 f1 => ?_)
                have b1 := isNext_At atv24 f1
                refine zl_F (P := fun r : Int32 × Int32 × Int32 × (Nat → Int32) => At r.2.2.2) (fun w2 f2 => ?_)
                have b2 : At w2.2 := by
                  rw [f2]
                  split
                  · exact b1
                  · simp only [zl]
                    exact (number_Fw (m := m) b1).1
                refine zl_F (P := fun r : Int32 × Int32 × Int32 × (Nat → Int32) => At r.2.2.2) (fun w3 f3 => ?_)
                have b3 : At w3.2 := by
                  rw [f3]
                  simp only [zl]
                  (repeat' split) <;> first | exact b2 | exact (isNext_Fw (m := m) b2).1
                refine zl_F (P := fun r : Int32 × Int32 × Int32 × (Nat → Int32) => At r.2.2.2) (fun w4 f4 => ?_)
                have b4 : At w4.2 := by
                  rw [f4]
                  split
                  · exact b3
                  · simp only [zl]
                    exact (number_Fw (m := m) b3).1
                refine zl_F (P := fun r : Int32 × Int32 × Int32 × (Nat → Int32) => At r.2.2.2) (fun w5 _ => ?_)
                exact b4
              · exact atv24
            refine Z.of (pc' := 196) (fun _ _ _ hl => lv_iload_n hx hb dX10_does_195 rfl (lv_at hl 2 rfl)) ?_
            have J87 : ∀ v87 : Int32 × (Nat → Int32), v87 = (
                if v42.1 = 0 then
                  (0, v42.2.2.2)
                else
                  zl (f_X10_isNext v42.2.2.2 m t 59) fun u90 =>
                  if u90.1 = 0 then
                    (0, u90.2)
                  else
                    (1, u90.2)
                ) → Z P0 l E0 rm_X10_does S0 M0 G0 B0 T0 K0 7 T A9 Q9 0 0 [(M 0, .inr (10, [.ref (M 1), .int (v87.2 0), .ref (M 2), .int (v87.2 1), .int (v87.2 2), .int (v87.2 3), .int (v87.2 4), .int (v87.2 5), .int (v87.2 6)])), (M 1, .inl (T.2.2.1, 1099, .inl m)), (M 2, .inl (T.2.2.2, 60, .inl t))] 213 [(0, .ref (M 0)), (1, .int (t ((g 2).toNatClampNeg))), (3, .int v24.1), (4, .int v42.2.1), (5, .int v42.2.2.1)] [.int v87.1] := by
              intro v87 ev87
              have zh95 := zl_e zh85 ev87
              have atv87 : At v87.2 := by
                rw [ev87]
                simp only [zl]
                (repeat' split) <;> first | exact atv42 | exact (number_Fw (m := m) atv42).1 | exact (isNext_Fw (m := m) atv42).1
              refine Z.sto (pc' := 214) (lv' := [(2, .int v87.1), (0, .ref (M 0)), (1, .int (t ((g 2).toNatClampNeg))), (3, .int v24.1), (4, .int v42.2.1), (5, .int v42.2.2.1)]) (fun _ _ _ hl => lv_istore_n (lv' := [(2, .int v87.1), (0, .ref (M 0)), (1, .int (t ((g 2).toNatClampNeg))), (3, .int v24.1), (4, .int v42.2.1), (5, .int v42.2.2.1)]) hx hb dX10_does_213 rfl hl (by decide) rfl) ?_
              refine Z.of (pc' := 215) (fun _ _ _ hl => lv_iload_n hx hb dX10_does_214 rfl (lv_at hl 0 rfl)) ?_
              refine Z.two' (pt := 238) (pf := 218) (fun _ _ _ _ => lv_if_ne hx hb dX10_does_215 (by decide)) (fun c96 => ?_) (fun c96 => ?_)
              · have zh97 := zh95.trans (if_neg c96)
                refine Z.of (pc' := 239) (fun _ _ _ _ => lv_iconst (v := 0) hx hb dX10_does_238 (by decide)) ?_
                refine Z.sto (pc' := 241) (lv' := [(6, .int 0), (2, .int v87.1), (0, .ref (M 0)), (1, .int (t ((g 2).toNatClampNeg))), (3, .int v24.1), (4, .int v42.2.1), (5, .int v42.2.2.1)]) (fun _ _ _ hl => lv_istore (lv' := [(6, .int 0), (2, .int v87.1), (0, .ref (M 0)), (1, .int (t ((g 2).toNatClampNeg))), (3, .int v24.1), (4, .int v42.2.1), (5, .int v42.2.2.1)]) hx hb dX10_does_239 hl (by decide) rfl) ?_
                refine Z.of (pc' := 242) (fun _ _ _ hl => lv_iload_n hx hb dX10_does_241 rfl (lv_at hl 3 rfl)) ?_
                refine Z.of (pc' := 244) (fun _ _ _ _ => lv_bipush (v := 114) hx hb dX10_does_242 (by decide)) ?_
                have J100 : ∀ v100 : Int32 × (Nat → Int32), v100 = (
                    if (t ((g 2).toNatClampNeg)) = 114 then
                      zl (f_X10_sets v87.2 m t 6 v24.1 v42.2.1 v42.2.2.1) fun u137 =>
                      (u137.1, u137.2)
                    else
                      if (t ((g 2).toNatClampNeg)) = 115 then
                        zl (f_X10_in v24.1 1 300) fun u128 =>
                        zl (
                          if u128 = 0 then
                            ((-1000001), m)
                          else
                            zl (f_X10_makes v87.2 m t 6 v24.1) fun u134 =>
                            (u134.1, u134.2)
                          : Int32 × (Nat → Int32)) fun v131 =>
                        (v131.1, v131.2)
                      else
                        if (t ((g 2).toNatClampNeg)) = 100 then
                          zl (f_X10_draws v87.2 m t 6 v24.1) fun u126 =>
                          (u126.1, u126.2)
                        else
                          if (t ((g 2).toNatClampNeg)) = 110 then
                            zl (f_X10_starts v87.2 m t 6) fun u124 =>
                            (m (157 * 6 + 18), u124)
                          else
                            zl (
                              if v24.1 ≤ 0 then
                                (-1000001)
                              else
                                0
                              : Int32) fun v113 =>
                            zl (
                              if v24.1 ≤ 0 then
                                (m 942)
                              else
                                v24.1
                              : Int32) fun v118 =>
                            zl (upd m 942 v118) fun m122 =>
                            (v113, m122)
                    ) → Z P0 l E0 rm_X10_does S0 M0 G0 B0 T0 K0 7 T A9 Q9 0 0 [(M 0, .inr (10, [.ref (M 1), .int (v87.2 0), .ref (M 2), .int (v87.2 1), .int (v87.2 2), .int (v87.2 3), .int (v87.2 4), .int (v87.2 5), .int (v87.2 6)])), (M 1, .inl (T.2.2.1, 1099, .inl v100.2)), (M 2, .inl (T.2.2.2, 60, .inl t))] 368 [(0, .ref (M 0)), (6, .int v100.1)] [] := by
                  intro v100 ev100
                  have zh139 := zl_e zh97 ev100
                  refine Z.of (pc' := 369) (fun _ _ _ hl => lv_aload_n hx hb dX10_does_368 rfl (lv_at hl 0 rfl)) ?_
                  refine Z.of (pc' := 371) (fun _ _ _ hl => lv_iload hx hb dX10_does_369 (lv_at hl 1 rfl)) ?_
                  have J141 : ∀ v141 : Int32, v141 = (
                      if 0 ≤ v100.1 then
                        0
                      else
                        2
                      ) → Z P0 l E0 rm_X10_does S0 M0 G0 B0 T0 K0 7 T A9 Q9 0 0 [(M 0, .inr (10, [.ref (M 1), .int (v87.2 0), .ref (M 2), .int (v87.2 1), .int (v87.2 2), .int (v87.2 3), .int (v87.2 4), .int (v87.2 5), .int (v87.2 6)])), (M 1, .inl (T.2.2.1, 1099, .inl v100.2)), (M 2, .inl (T.2.2.2, 60, .inl t))] 379 [(0, .ref (M 0)), (6, .int v100.1)] [.int v141, .ref (M 0)] := by
                    intro v141 ev141
                    have zh144 := zl_e zh139 ev141
                    refine z_put C iX10 tyX10_ok nmX10 0 6 k102 rfl rfl (by decide) rfl rfl rfl rfl (Nat.le_of_ble_eq_true rfl) dX10_does_379 rfl [(M 0, .inr (10, [.ref (M 1), .int (v87.2 0), .ref (M 2), .int (v87.2 1), .int (v87.2 2), .int (v87.2 3), .int v141, .int (v87.2 5), .int (v87.2 6)])), (M 1, .inl (T.2.2.1, 1099, .inl v100.2)), (M 2, .inl (T.2.2.2, 60, .inl t))] rfl ?_
                    refine Z.of (pc' := 383) (fun _ _ _ hl => lv_aload_n hx hb dX10_does_382 rfl (lv_at hl 0 rfl)) ?_
                    refine Z.of (pc' := 385) (fun _ _ _ hl => lv_iload hx hb dX10_does_383 (lv_at hl 1 rfl)) ?_
                    refine z_put C iX10 tyX10_ok nmX10 0 7 k105 rfl rfl (by decide) rfl rfl rfl rfl (Nat.le_of_ble_eq_true rfl) dX10_does_385 rfl [(M 0, .inr (10, [.ref (M 1), .int (v87.2 0), .ref (M 2), .int (v87.2 1), .int (v87.2 2), .int (v87.2 3), .int v141, .int v100.1, .int (v87.2 6)])), (M 1, .inl (T.2.2.1, 1099, .inl v100.2)), (M 2, .inl (T.2.2.2, 60, .inl t))] rfl ?_
                    refine Z.of (pc' := 390) (fun _ _ _ hl => lv_iload hx hb dX10_does_388 (lv_at hl 1 rfl)) ?_
                    refine Z.two (pt := 397) (pf := 393) (fun _ _ _ _ => lv_if_lt hx hb dX10_does_390 (by decide)) (fun c145 => ?_) (fun c145 => ?_)
                    · have zh146 := zh144.trans (if_pos c145)
                      refine Z.of (pc' := 398) (fun _ _ _ _ => lv_iconst (v := 0) hx hb dX10_does_397 (by decide)) ?_
                      exact E (0, upd (upd v87.2 4 v141) 5 v100.1, v100.2) _ _ _ _ dX10_does_398 rfl rfl rfl zh146
                    · have zh147 := zh144.trans (if_neg c145)
                      refine Z.of (pc' := 394) (fun _ _ _ _ => lv_iconst (v := 1) hx hb dX10_does_393 (by decide)) ?_
                      refine Z.of (pc' := 398) (fun _ _ _ _ => lv_goto hx hb dX10_does_394 (by decide)) ?_
                      exact E (1, upd (upd v87.2 4 v141) 5 v100.1, v100.2) _ _ _ _ dX10_does_398 rfl rfl rfl zh147
                  have zr141 := @Eq.refl (Int32) (
                      if 0 ≤ v100.1 then
                        0
                      else
                        2
                      )
                  refine Z.two (pt := 378) (pf := 374) (fun _ _ _ _ => lv_if_ge hx hb dX10_does_371 (by decide)) (fun c140 => ?_) (fun c140 => ?_)
                  · have zh142 := zr141.trans (if_pos c140)
                    refine Z.of (pc' := 379) (fun _ _ _ _ => lv_iconst (v := 0) hx hb dX10_does_378 (by decide)) ?_
                    exact J141 0 zh142.symm
                  · have zh143 := zr141.trans (if_neg c140)
                    refine Z.of (pc' := 375) (fun _ _ _ _ => lv_iconst (v := 2) hx hb dX10_does_374 (by decide)) ?_
                    refine Z.of (pc' := 379) (fun _ _ _ _ => lv_goto hx hb dX10_does_375 (by decide)) ?_
                    exact J141 2 zh143.symm
                have zr100 := @Eq.refl (Int32 × (Nat → Int32)) (
                    if (t ((g 2).toNatClampNeg)) = 114 then
                      zl (f_X10_sets v87.2 m t 6 v24.1 v42.2.1 v42.2.2.1) fun u137 =>
                      (u137.1, u137.2)
                    else
                      if (t ((g 2).toNatClampNeg)) = 115 then
                        zl (f_X10_in v24.1 1 300) fun u128 =>
                        zl (
                          if u128 = 0 then
                            ((-1000001), m)
                          else
                            zl (f_X10_makes v87.2 m t 6 v24.1) fun u134 =>
                            (u134.1, u134.2)
                          : Int32 × (Nat → Int32)) fun v131 =>
                        (v131.1, v131.2)
                      else
                        if (t ((g 2).toNatClampNeg)) = 100 then
                          zl (f_X10_draws v87.2 m t 6 v24.1) fun u126 =>
                          (u126.1, u126.2)
                        else
                          if (t ((g 2).toNatClampNeg)) = 110 then
                            zl (f_X10_starts v87.2 m t 6) fun u124 =>
                            (m (157 * 6 + 18), u124)
                          else
                            zl (
                              if v24.1 ≤ 0 then
                                (-1000001)
                              else
                                0
                              : Int32) fun v113 =>
                            zl (
                              if v24.1 ≤ 0 then
                                (m 942)
                              else
                                v24.1
                              : Int32) fun v118 =>
                            zl (upd m 942 v118) fun m122 =>
                            (v113, m122)
                    )
                refine Z.two' (pt := 263) (pf := 247) (fun _ _ _ _ => lv_icmp_ne hx hb dX10_does_244 (by decide)) (fun c99 => ?_) (fun c99 => ?_)
                · have zh101 := zr100.trans (if_neg c99)
                  refine Z.of (pc' := 264) (fun _ _ _ hl => lv_iload_n hx hb dX10_does_263 rfl (lv_at hl 3 rfl)) ?_
                  refine Z.of (pc' := 266) (fun _ _ _ _ => lv_bipush (v := 115) hx hb dX10_does_264 (by decide)) ?_
                  refine Z.two' (pt := 297) (pf := 269) (fun _ _ _ _ => lv_icmp_ne hx hb dX10_does_266 (by decide)) (fun c103 => ?_) (fun c103 => ?_)
                  · have zh104 := zh101.trans (if_neg c103)
                    refine Z.of (pc' := 298) (fun _ _ _ hl => lv_iload_n hx hb dX10_does_297 rfl (lv_at hl 3 rfl)) ?_
                    refine Z.of (pc' := 300) (fun _ _ _ _ => lv_bipush (v := 100) hx hb dX10_does_298 (by decide)) ?_
                    refine Z.two' (pt := 315) (pf := 303) (fun _ _ _ _ => lv_icmp_ne hx hb dX10_does_300 (by decide)) (fun c106 => ?_) (fun c106 => ?_)
                    · have zh107 := zh104.trans (if_neg c106)
                      refine Z.of (pc' := 316) (fun _ _ _ hl => lv_iload_n hx hb dX10_does_315 rfl (lv_at hl 3 rfl)) ?_
                      refine Z.of (pc' := 318) (fun _ _ _ _ => lv_bipush (v := 110) hx hb dX10_does_316 (by decide)) ?_
                      refine Z.two' (pt := 332) (pf := 321) (fun _ _ _ _ => lv_icmp_ne hx hb dX10_does_318 (by decide)) (fun c109 => ?_) (fun c109 => ?_)
                      · have zh110 := zh107.trans (if_neg c109)
                        refine Z.of (pc' := 333) (fun _ _ _ hl => lv_iload_n hx hb dX10_does_332 rfl (lv_at hl 4 rfl)) ?_
                        have J113 : ∀ v113 : Int32, v113 = (
                            if v24.1 ≤ 0 then
                              (-1000001)
                            else
                              0
                            ) → Z P0 l E0 rm_X10_does S0 M0 G0 B0 T0 K0 7 T A9 Q9 0 0 [(M 0, .inr (10, [.ref (M 1), .int (v87.2 0), .ref (M 2), .int (v87.2 1), .int (v87.2 2), .int (v87.2 3), .int (v87.2 4), .int (v87.2 5), .int (v87.2 6)])), (M 1, .inl (T.2.2.1, 1099, .inl m)), (M 2, .inl (T.2.2.2, 60, .inl t))] 342 [(0, .ref (M 0)), (3, .int v24.1)] [.int v113] := by
                          intro v113 ev113
                          have zh116 := zl_e zh110 ev113
                          refine Z.sto (pc' := 344) (lv' := [(6, .int v113), (0, .ref (M 0)), (3, .int v24.1)]) (fun _ _ _ hl => lv_istore (lv' := [(6, .int v113), (0, .ref (M 0)), (3, .int v24.1)]) hx hb dX10_does_342 hl (by decide) rfl) ?_
                          refine Z.of (pc' := 345) (fun _ _ _ hl => lv_aload_n hx hb dX10_does_344 rfl (lv_at hl 1 rfl)) ?_
                          refine z_get C iX10 0 0 k7 rfl rfl (by decide) rfl rfl dX10_does_345 rfl ?_
                          refine Z.of (pc' := 351) (fun _ _ _ _ => lv_sipush (v := 942) hx hb dX10_does_348 (by decide)) ?_
                          refine Z.of (pc' := 352) (fun _ _ _ hl => lv_iload_n hx hb dX10_does_351 rfl (lv_at hl 2 rfl)) ?_
                          have J118 : ∀ v118 : Int32, v118 = (
                              if v24.1 ≤ 0 then
                                (m 942)
                              else
                                v24.1
                              ) → Z P0 l E0 rm_X10_does S0 M0 G0 B0 T0 K0 7 T A9 Q9 0 0 [(M 0, .inr (10, [.ref (M 1), .int (v87.2 0), .ref (M 2), .int (v87.2 1), .int (v87.2 2), .int (v87.2 3), .int (v87.2 4), .int (v87.2 5), .int (v87.2 6)])), (M 1, .inl (T.2.2.1, 1099, .inl m)), (M 2, .inl (T.2.2.2, 60, .inl t))] 367 [(0, .ref (M 0)), (6, .int v113)] [.int v118, .int 942, .ref (M 1)] := by
                            intro v118 ev118
                            have zh121 := zl_e zh116 ev118
                            refine z_iast C 1 1 rfl rfl (j := 942) (rfl : (942 : Int32) = nI 942) (by decide) (by decide) dX10_does_367 rfl (fun m122 => [(M 0, .inr (10, [.ref (M 1), .int (v87.2 0), .ref (M 2), .int (v87.2 1), .int (v87.2 2), .int (v87.2 3), .int (v87.2 4), .int (v87.2 5), .int (v87.2 6)])), (M 1, .inl (T.2.2.1, 1099, .inl m122)), (M 2, .inl (T.2.2.2, 60, .inl t))]) (fun _ => rfl) (fun m122 em122 => ?_)
                            have zh123 := zl_e zh121 em122
                            exact J100 (v113, m122) zh123.symm
                          have zr118 := @Eq.refl (Int32) (
                              if v24.1 ≤ 0 then
                                (m 942)
                              else
                                v24.1
                              )
                          refine Z.two (pt := 359) (pf := 355) (fun _ _ _ _ => lv_if_le hx hb dX10_does_352 (by decide)) (fun c117 => ?_) (fun c117 => ?_)
                          · have zh119 := zr118.trans (if_pos c117)
                            refine Z.of (pc' := 360) (fun _ _ _ hl => lv_aload_n hx hb dX10_does_359 rfl (lv_at hl 1 rfl)) ?_
                            refine z_get C iX10 0 0 k7 rfl rfl (by decide) rfl rfl dX10_does_360 rfl ?_
                            refine Z.of (pc' := 366) (fun _ _ _ _ => lv_sipush (v := 942) hx hb dX10_does_363 (by decide)) ?_
                            refine z_iald C 1 1 rfl rfl (j := 942) (rfl : (942 : Int32) = nI 942) (by decide) (by decide) dX10_does_366 rfl ?_
                            exact Z.sub (ks := [1, 0]) (lv' := [(0, .ref (M 0)), (6, .int v113)]) rfl (J118 (m 942) zh119.symm)
                          · have zh120 := zr118.trans (if_neg c117)
                            refine Z.of (pc' := 356) (fun _ _ _ hl => lv_iload_n hx hb dX10_does_355 rfl (lv_at hl 2 rfl)) ?_
                            refine Z.of (pc' := 367) (fun _ _ _ _ => lv_goto hx hb dX10_does_356 (by decide)) ?_
                            exact Z.sub (ks := [1, 0]) (lv' := [(0, .ref (M 0)), (6, .int v113)]) rfl (J118 v24.1 zh120.symm)
                        have zr113 := @Eq.refl (Int32) (
                            if v24.1 ≤ 0 then
                              (-1000001)
                            else
                              0
                            )
                        refine Z.two (pt := 340) (pf := 336) (fun _ _ _ _ => lv_if_le hx hb dX10_does_333 (by decide)) (fun c112 => ?_) (fun c112 => ?_)
                        · have zh114 := zr113.trans (if_pos c112)
                          refine Z.of (pc' := 342) (fun _ _ _ _ => lv_ldc hx hb hown (hts (.constant RX10 59 (-1000001)) (by decide +kernel)) dX10_does_340) ?_
                          exact Z.sub (ks := [2, 4]) (lv' := [(0, .ref (M 0)), (3, .int v24.1)]) rfl (J113 (-1000001) zh114.symm)
                        · have zh115 := zr113.trans (if_neg c112)
                          refine Z.of (pc' := 337) (fun _ _ _ _ => lv_iconst (v := 0) hx hb dX10_does_336 (by decide)) ?_
                          refine Z.of (pc' := 342) (fun _ _ _ _ => lv_goto hx hb dX10_does_337 (by decide)) ?_
                          exact Z.sub (ks := [2, 4]) (lv' := [(0, .ref (M 0)), (3, .int v24.1)]) rfl (J113 0 zh115.symm)
                      · have zh111 := zh107.trans (if_pos c109)
                        refine Z.of (pc' := 322) (fun _ _ _ hl => lv_aload_n hx hb dX10_does_321 rfl (lv_at hl 2 rfl)) ?_
                        refine Z.of (pc' := 324) (fun _ _ _ _ => lv_bipush (v := 6) hx hb dX10_does_322 (by decide)) ?_
                        refine z_callVi C (c_X10_starts l T M v87.2 m t 6 (by omega)) [0, 1, 2] [] rfl (by decide +kernel) (fun u124 => [(M 0, .inr (10, [.ref (M 1), .int (v87.2 0), .ref (M 2), .int (v87.2 1), .int (v87.2 2), .int (v87.2 3), .int (v87.2 4), .int (v87.2 5), .int (v87.2 6)])), (M 1, .inl (T.2.2.1, 1099, .inl u124)), (M 2, .inl (T.2.2.2, 60, .inl t))]) (fun _ => rfl) [] rfl (fun _ => rfl) [M 0, M 1, M 2] rfl (fun _ => rfl) 3 (fun _ => rfl) (by decide +kernel) (cwV 1 hts gX10_does_X10_starts rfl rfl rfl (by decide +kernel) ⟨Nat.le_of_ble_eq_true rfl, Nat.le_of_ble_eq_true rfl⟩) 0 rfl rfl rfl (As := [.int 6]) (rest := []) rfl rfl (Nat.le_of_ble_eq_true rfl) dX10_does_324 rfl ⟨Nat.zero_le _, Nat.zero_le _⟩ (fun u124 eu124 bu124 => ?_)
                        have zh125 := zl_e zh111 eu124
                        refine Z.sto (pc' := 329) (lv' := [(6, .int (m (157 * 6 + 18))), (2, .int v87.1), (0, .ref (M 0)), (1, .int (t ((g 2).toNatClampNeg))), (3, .int v24.1), (4, .int v42.2.1), (5, .int v42.2.2.1)]) (fun _ _ _ hl => lv_istore (lv' := [(6, .int (m (157 * 6 + 18))), (2, .int v87.1), (0, .ref (M 0)), (1, .int (t ((g 2).toNatClampNeg))), (3, .int v24.1), (4, .int v42.2.1), (5, .int v42.2.2.1)]) hx hb dX10_does_327 hl (by decide) rfl) ?_
                        refine Z.of (pc' := 368) (fun _ _ _ _ => lv_goto hx hb dX10_does_329 (by decide)) ?_
                        exact Z.sub (ks := [2, 0]) (lv' := [(0, .ref (M 0)), (6, .int (m (157 * 6 + 18)))]) rfl (J100 (m (157 * 6 + 18), u124) zh125.symm)
                    · have zh108 := zh104.trans (if_pos c106)
                      refine Z.of (pc' := 304) (fun _ _ _ hl => lv_aload_n hx hb dX10_does_303 rfl (lv_at hl 2 rfl)) ?_
                      refine Z.of (pc' := 306) (fun _ _ _ _ => lv_bipush (v := 6) hx hb dX10_does_304 (by decide)) ?_
                      refine Z.of (pc' := 307) (fun _ _ _ hl => lv_iload_n hx hb dX10_does_306 rfl (lv_at hl 4 rfl)) ?_
                      refine z_callVi C (c_X10_draws l T M v87.2 m t 6 v24.1 (by omega) ok0.2.2.2.2.2) [0, 1, 2] [] rfl (by decide +kernel) (fun u126 => [(M 0, .inr (10, [.ref (M 1), .int (v87.2 0), .ref (M 2), .int (v87.2 1), .int (v87.2 2), .int (v87.2 3), .int (v87.2 4), .int (v87.2 5), .int (v87.2 6)])), (M 1, .inl (T.2.2.1, 1099, .inl u126.2)), (M 2, .inl (T.2.2.2, 60, .inl t))]) (fun _ => rfl) [] rfl (fun _ => rfl) [M 0, M 1, M 2] rfl (fun _ => rfl) 3 (fun _ => rfl) (by decide +kernel) (cwV 2 hts gX10_does_X10_draws rfl rfl rfl (by decide +kernel) ⟨Nat.le_of_ble_eq_true rfl, Nat.le_of_ble_eq_true rfl⟩) 0 rfl rfl rfl (As := [.int 6, .int v24.1]) (rest := []) rfl rfl (Nat.le_of_ble_eq_true rfl) dX10_does_307 rfl ⟨Nat.zero_le _, Nat.zero_le _⟩ (fun u126 eu126 bu126 => ?_)
                      have zh127 := zl_e zh108 eu126
                      refine Z.sto (pc' := 312) (lv' := [(6, .int u126.1), (2, .int v87.1), (0, .ref (M 0)), (1, .int (t ((g 2).toNatClampNeg))), (3, .int v24.1), (4, .int v42.2.1), (5, .int v42.2.2.1)]) (fun _ _ _ hl => lv_istore (lv' := [(6, .int u126.1), (2, .int v87.1), (0, .ref (M 0)), (1, .int (t ((g 2).toNatClampNeg))), (3, .int v24.1), (4, .int v42.2.1), (5, .int v42.2.2.1)]) hx hb dX10_does_310 hl (by decide) rfl) ?_
                      refine Z.of (pc' := 368) (fun _ _ _ _ => lv_goto hx hb dX10_does_312 (by decide)) ?_
                      exact Z.sub (ks := [2, 0]) (lv' := [(0, .ref (M 0)), (6, .int u126.1)]) rfl (J100 (u126.1, u126.2) zh127.symm)
                  · have zh105 := zh101.trans (if_pos c103)
                    refine Z.of (pc' := 270) (fun _ _ _ hl => lv_iload_n hx hb dX10_does_269 rfl (lv_at hl 4 rfl)) ?_
                    refine Z.of (pc' := 271) (fun _ _ _ _ => lv_iconst (v := 1) hx hb dX10_does_270 (by decide)) ?_
                    refine Z.of (pc' := 274) (fun _ _ _ _ => lv_sipush (v := 300) hx hb dX10_does_271 (by decide)) ?_
                    refine z_callSi C (c_X10_in l T v24.1 1 300) (cwS 3 hts gX10_does_X10_in rfl rfl rfl (by decide +kernel) ⟨Nat.le_of_ble_eq_true rfl, Nat.le_of_ble_eq_true rfl⟩) (As := [.int v24.1, .int 1, .int 300]) (rest := []) rfl rfl (Nat.le_of_ble_eq_true rfl) dX10_does_274 rfl ⟨Nat.zero_le _, Nat.zero_le _⟩ (fun u128 eu128 bu128 => ?_)
                    have zh129 := zl_e zh105 eu128
                    have J131 : ∀ v131 : Int32 × (Nat → Int32), v131 = (
                        if u128 = 0 then
                          ((-1000001), m)
                        else
                          zl (f_X10_makes v87.2 m t 6 v24.1) fun u134 =>
                          (u134.1, u134.2)
                        ) → Z P0 l E0 rm_X10_does S0 M0 G0 B0 T0 K0 7 T A9 Q9 0 0 [(M 0, .inr (10, [.ref (M 1), .int (v87.2 0), .ref (M 2), .int (v87.2 1), .int (v87.2 2), .int (v87.2 3), .int (v87.2 4), .int (v87.2 5), .int (v87.2 6)])), (M 1, .inl (T.2.2.1, 1099, .inl v131.2)), (M 2, .inl (T.2.2.2, 60, .inl t))] 292 [(0, .ref (M 0))] [.int v131.1] := by
                      intro v131 ev131
                      have zh136 := zl_e zh129 ev131
                      refine Z.sto (pc' := 294) (lv' := [(6, .int v131.1), (0, .ref (M 0))]) (fun _ _ _ hl => lv_istore (lv' := [(6, .int v131.1), (0, .ref (M 0))]) hx hb dX10_does_292 hl (by decide) rfl) ?_
                      refine Z.of (pc' := 368) (fun _ _ _ _ => lv_goto hx hb dX10_does_294 (by decide)) ?_
                      exact Z.sub (ks := [1, 0]) (lv' := [(0, .ref (M 0)), (6, .int v131.1)]) rfl (J100 (v131.1, v131.2) zh136.symm)
                    have zr131 := @Eq.refl (Int32 × (Nat → Int32)) (
                        if u128 = 0 then
                          ((-1000001), m)
                        else
                          zl (f_X10_makes v87.2 m t 6 v24.1) fun u134 =>
                          (u134.1, u134.2)
                        )
                    refine Z.two (pt := 290) (pf := 280) (fun _ _ _ _ => lv_if_eq hx hb dX10_does_277 (by decide)) (fun c130 => ?_) (fun c130 => ?_)
                    · have zh132 := zr131.trans (if_pos c130)
                      refine Z.of (pc' := 292) (fun _ _ _ _ => lv_ldc hx hb hown (hts (.constant RX10 59 (-1000001)) (by decide +kernel)) dX10_does_290) ?_
                      exact Z.sub (ks := [2]) (lv' := [(0, .ref (M 0))]) rfl (J131 ((-1000001), m) zh132.symm)
                    · have zh133 := zr131.trans (if_neg c130)
                      refine Z.of (pc' := 281) (fun _ _ _ hl => lv_aload_n hx hb dX10_does_280 rfl (lv_at hl 2 rfl)) ?_
                      refine Z.of (pc' := 283) (fun _ _ _ _ => lv_bipush (v := 6) hx hb dX10_does_281 (by decide)) ?_
                      refine Z.of (pc' := 284) (fun _ _ _ hl => lv_iload_n hx hb dX10_does_283 rfl (lv_at hl 4 rfl)) ?_
                      refine z_callVi C (c_X10_makes l T M v87.2 m t 6 v24.1 (by omega) (zin_of eu128 c130).2 ok0) [0, 1, 2] [] rfl (by decide +kernel) (fun u134 => [(M 0, .inr (10, [.ref (M 1), .int (v87.2 0), .ref (M 2), .int (v87.2 1), .int (v87.2 2), .int (v87.2 3), .int (v87.2 4), .int (v87.2 5), .int (v87.2 6)])), (M 1, .inl (T.2.2.1, 1099, .inl u134.2)), (M 2, .inl (T.2.2.2, 60, .inl t))]) (fun _ => rfl) [] rfl (fun _ => rfl) [M 0, M 1, M 2] rfl (fun _ => rfl) 3 (fun _ => rfl) (by decide +kernel) (cwV 2 hts gX10_does_X10_makes rfl rfl rfl (by decide +kernel) ⟨Nat.le_of_ble_eq_true rfl, Nat.le_of_ble_eq_true rfl⟩) 0 rfl rfl rfl (As := [.int 6, .int v24.1]) (rest := []) rfl rfl (Nat.le_of_ble_eq_true rfl) dX10_does_284 rfl ⟨Nat.zero_le _, Nat.zero_le _⟩ (fun u134 eu134 bu134 => ?_)
                      have zh135 := zl_e zh133 eu134
                      refine Z.of (pc' := 292) (fun _ _ _ _ => lv_goto hx hb dX10_does_287 (by decide)) ?_
                      exact Z.sub (ks := [2]) (lv' := [(0, .ref (M 0))]) rfl (J131 (u134.1, u134.2) zh135.symm)
                · have zh102 := zr100.trans (if_pos c99)
                  refine Z.of (pc' := 248) (fun _ _ _ hl => lv_aload_n hx hb dX10_does_247 rfl (lv_at hl 2 rfl)) ?_
                  refine Z.of (pc' := 250) (fun _ _ _ _ => lv_bipush (v := 6) hx hb dX10_does_248 (by decide)) ?_
                  refine Z.of (pc' := 251) (fun _ _ _ hl => lv_iload_n hx hb dX10_does_250 rfl (lv_at hl 4 rfl)) ?_
                  refine Z.of (pc' := 253) (fun _ _ _ hl => lv_iload hx hb dX10_does_251 (lv_at hl 5 rfl)) ?_
                  refine Z.of (pc' := 255) (fun _ _ _ hl => lv_iload hx hb dX10_does_253 (lv_at hl 6 rfl)) ?_
                  refine z_callVi C (c_X10_sets l T M v87.2 m t 6 v24.1 v42.2.1 v42.2.2.1 (by omega)) [0, 1, 2] [] rfl (by decide +kernel) (fun u137 => [(M 0, .inr (10, [.ref (M 1), .int (v87.2 0), .ref (M 2), .int (v87.2 1), .int (v87.2 2), .int (v87.2 3), .int (v87.2 4), .int (v87.2 5), .int (v87.2 6)])), (M 1, .inl (T.2.2.1, 1099, .inl u137.2)), (M 2, .inl (T.2.2.2, 60, .inl t))]) (fun _ => rfl) [] rfl (fun _ => rfl) [M 0, M 1, M 2] rfl (fun _ => rfl) 3 (fun _ => rfl) (by decide +kernel) (cwV 4 hts gX10_does_X10_sets rfl rfl rfl (by decide +kernel) ⟨Nat.le_of_ble_eq_true rfl, Nat.le_of_ble_eq_true rfl⟩) 0 rfl rfl rfl (As := [.int 6, .int v24.1, .int v42.2.1, .int v42.2.2.1]) (rest := []) rfl rfl (Nat.le_of_ble_eq_true rfl) dX10_does_255 rfl ⟨Nat.zero_le _, Nat.zero_le _⟩ (fun u137 eu137 bu137 => ?_)
                  have zh138 := zl_e zh102 eu137
                  refine Z.sto (pc' := 260) (lv' := [(6, .int u137.1), (2, .int v87.1), (0, .ref (M 0)), (1, .int (t ((g 2).toNatClampNeg))), (3, .int v24.1), (4, .int v42.2.1), (5, .int v42.2.2.1)]) (fun _ _ _ hl => lv_istore (lv' := [(6, .int u137.1), (2, .int v87.1), (0, .ref (M 0)), (1, .int (t ((g 2).toNatClampNeg))), (3, .int v24.1), (4, .int v42.2.1), (5, .int v42.2.2.1)]) hx hb dX10_does_258 hl (by decide) rfl) ?_
                  refine Z.of (pc' := 368) (fun _ _ _ _ => lv_goto hx hb dX10_does_260 (by decide)) ?_
                  exact Z.sub (ks := [2, 0]) (lv' := [(0, .ref (M 0)), (6, .int u137.1)]) rfl (J100 (u137.1, u137.2) zh138.symm)
              · have zh98 := zh95.trans (if_pos c96)
                refine Z.of (pc' := 219) (fun _ _ _ hl => lv_aload_n hx hb dX10_does_218 rfl (lv_at hl 1 rfl)) ?_
                refine Z.of (pc' := 220) (fun _ _ _ _ => lv_iconst (v := 1) hx hb dX10_does_219 (by decide)) ?_
                refine z_put C iX10 tyX10_ok nmX10 0 6 k102 rfl rfl (by decide) rfl rfl rfl rfl (Nat.le_of_ble_eq_true rfl) dX10_does_220 rfl [(M 0, .inr (10, [.ref (M 1), .int (v87.2 0), .ref (M 2), .int (v87.2 1), .int (v87.2 2), .int (v87.2 3), .int 1, .int (v87.2 5), .int (v87.2 6)])), (M 1, .inl (T.2.2.1, 1099, .inl m)), (M 2, .inl (T.2.2.2, 60, .inl t))] rfl ?_
                refine Z.of (pc' := 224) (fun _ _ _ hl => lv_aload_n hx hb dX10_does_223 rfl (lv_at hl 1 rfl)) ?_
                refine Z.of (pc' := 225) (fun _ _ _ hl => lv_aload_n hx hb dX10_does_224 rfl (lv_at hl 1 rfl)) ?_
                refine z_get C iX10 0 4 k89 rfl rfl (by decide) rfl rfl dX10_does_225 rfl ?_
                refine Z.of (pc' := 229) (fun _ _ _ hl => lv_aload_n hx hb dX10_does_228 rfl (lv_at hl 1 rfl)) ?_
                refine z_get C iX10 0 5 k92 rfl rfl (by decide) rfl rfl dX10_does_229 rfl ?_
                refine Z.of (pc' := 233) (fun _ _ _ hl => lv_isub hx hb dX10_does_232) ?_
                refine z_put C iX10 tyX10_ok nmX10 0 7 k105 rfl rfl (by decide) rfl rfl rfl rfl (Nat.le_of_ble_eq_true rfl) dX10_does_233 rfl [(M 0, .inr (10, [.ref (M 1), .int (v87.2 0), .ref (M 2), .int (v87.2 1), .int (v87.2 2), .int (v87.2 3), .int 1, .int ((v87.2 2) - (v87.2 3)), .int (v87.2 6)])), (M 1, .inl (T.2.2.1, 1099, .inl m)), (M 2, .inl (T.2.2.2, 60, .inl t))] rfl ?_
                refine Z.of (pc' := 237) (fun _ _ _ _ => lv_iconst (v := 0) hx hb dX10_does_236 (by decide)) ?_
                exact E (0, upd (upd v87.2 4 1) 5 ((v87.2 2) - (v87.2 3)), m) _ _ _ _ dX10_does_237 rfl rfl rfl zh98
            have zr87 := @Eq.refl (Int32 × (Nat → Int32)) (
                if v42.1 = 0 then
                  (0, v42.2.2.2)
                else
                  zl (f_X10_isNext v42.2.2.2 m t 59) fun u90 =>
                  if u90.1 = 0 then
                    (0, u90.2)
                  else
                    (1, u90.2)
                )
            refine Z.two (pt := 212) (pf := 199) (fun _ _ _ _ => lv_if_eq hx hb dX10_does_196 (by decide)) (fun c86 => ?_) (fun c86 => ?_)
            · have zh88 := zr87.trans (if_pos c86)
              refine Z.of (pc' := 213) (fun _ _ _ _ => lv_iconst (v := 0) hx hb dX10_does_212 (by decide)) ?_
              exact Z.sub (ks := [0, 1, 3, 4, 5]) (lv' := [(0, .ref (M 0)), (1, .int (t ((g 2).toNatClampNeg))), (3, .int v24.1), (4, .int v42.2.1), (5, .int v42.2.2.1)]) rfl (J87 (0, v42.2.2.2) zh88.symm)
            · have zh89 := zr87.trans (if_neg c86)
              refine Z.of (pc' := 200) (fun _ _ _ hl => lv_aload_n hx hb dX10_does_199 rfl (lv_at hl 0 rfl)) ?_
              refine Z.of (pc' := 202) (fun _ _ _ _ => lv_bipush (v := 59) hx hb dX10_does_200 (by decide)) ?_
              refine z_callVi C (c_X10_isNext l T M v42.2.2.2 m t 59 atv42) [0, 1, 2] [] rfl (by decide +kernel) (fun u90 => [(M 0, .inr (10, [.ref (M 1), .int (u90.2 0), .ref (M 2), .int (u90.2 1), .int (u90.2 2), .int (u90.2 3), .int (u90.2 4), .int (u90.2 5), .int (u90.2 6)])), (M 1, .inl (T.2.2.1, 1099, .inl m)), (M 2, .inl (T.2.2.2, 60, .inl t))]) (fun _ => rfl) [] rfl (fun _ => rfl) [M 0, M 1, M 2] rfl (fun _ => rfl) 3 (fun _ => rfl) (by decide +kernel) (cwV 1 hts gX10_does_X10_isNext rfl rfl rfl (by decide +kernel) ⟨Nat.le_of_ble_eq_true rfl, Nat.le_of_ble_eq_true rfl⟩) 0 rfl rfl rfl (As := [.int 59]) (rest := []) rfl rfl (Nat.le_of_ble_eq_true rfl) dX10_does_202 rfl ⟨Nat.zero_le _, Nat.zero_le _⟩ (fun u90 eu90 bu90 => ?_)
              have zh91 := zl_e zh89 eu90
              have atu90 := isNext_At atv42 eu90
              refine Z.two (pt := 212) (pf := 208) (fun _ _ _ _ => lv_if_eq hx hb dX10_does_205 (by decide)) (fun c92 => ?_) (fun c92 => ?_)
              · have zh93 := zh91.trans (if_pos c92)
                refine Z.of (pc' := 213) (fun _ _ _ _ => lv_iconst (v := 0) hx hb dX10_does_212 (by decide)) ?_
                exact Z.sub (ks := [0, 1, 3, 4, 5]) (lv' := [(0, .ref (M 0)), (1, .int (t ((g 2).toNatClampNeg))), (3, .int v24.1), (4, .int v42.2.1), (5, .int v42.2.2.1)]) rfl (J87 (0, u90.2) zh93.symm)
              · have zh94 := zh91.trans (if_neg c92)
                refine Z.of (pc' := 209) (fun _ _ _ _ => lv_iconst (v := 1) hx hb dX10_does_208 (by decide)) ?_
                refine Z.of (pc' := 213) (fun _ _ _ _ => lv_goto hx hb dX10_does_209 (by decide)) ?_
                exact Z.sub (ks := [0, 1, 3, 4, 5]) (lv' := [(0, .ref (M 0)), (1, .int (t ((g 2).toNatClampNeg))), (3, .int v24.1), (4, .int v42.2.1), (5, .int v42.2.2.1)]) rfl (J87 (1, u90.2) zh94.symm)
          have zr42 := @Eq.refl (Int32 × Int32 × Int32 × (Nat → Int32)) (
              if v34 = 0 then
                (v34, 0, 0, v24.2)
              else
                if (t ((g 2).toNatClampNeg)) = 114 then
                  zl (f_X10_isNext v24.2 m t 44) fun u48 =>
                  zl (
                    if u48.1 = 0 then
                      ((-1), u48.2)
                    else
                      zl (f_X10_number u48.2 m t) fun u54 =>
                      (u54.1, u54.2)
                    : Int32 × (Nat → Int32)) fun v51 =>
                  zl (
                    if u48.1 = 0 then
                      (0, v51.2)
                    else
                      if v51.1 < 0 then
                        (0, v51.2)
                      else
                        zl (f_X10_isNext v51.2 m t 44) fun u64 =>
                        if u64.1 = 0 then
                          (0, u64.2)
                        else
                          (1, u64.2)
                    : Int32 × (Nat → Int32)) fun v58 =>
                  zl (
                    if v58.1 = 0 then
                      ((-1), v58.2)
                    else
                      zl (f_X10_number v58.2 m t) fun u74 =>
                      (u74.1, u74.2)
                    : Int32 × (Nat → Int32)) fun v71 =>
                  zl (
                    if v58.1 = 0 then
                      0
                    else
                      if v71.1 < 0 then
                        0
                      else
                        1
                    : Int32) fun v78 =>
                  (v78, v51.1, v71.1, v71.2)
                else
                  (v34, 0, 0, v24.2)
              )
          refine Z.two (pt := 195) (pf := 115) (fun _ _ _ _ => lv_if_eq hx hb dX10_does_112 (by decide)) (fun c41 => ?_) (fun c41 => ?_)
          · have zh43 := zr42.trans (if_pos c41)
            exact Z.sub (ks := [3, 4, 2, 5, 1, 0]) (lv' := [(0, .ref (M 0)), (1, .int (t ((g 2).toNatClampNeg))), (2, .int v34), (3, .int v24.1), (4, .int 0), (5, .int 0)]) rfl (J42 (v34, 0, 0, v24.2) zh43.symm)
          · have zh44 := zr42.trans (if_neg c41)
            refine Z.of (pc' := 116) (fun _ _ _ hl => lv_iload_n hx hb dX10_does_115 rfl (lv_at hl 4 rfl)) ?_
            refine Z.of (pc' := 118) (fun _ _ _ _ => lv_bipush (v := 114) hx hb dX10_does_116 (by decide)) ?_
            refine Z.two' (pt := 195) (pf := 121) (fun _ _ _ _ => lv_icmp_ne hx hb dX10_does_118 (by decide)) (fun c45 => ?_) (fun c45 => ?_)
            · have zh46 := zh44.trans (if_neg c45)
              exact Z.sub (ks := [3, 4, 2, 5, 1, 0]) (lv' := [(0, .ref (M 0)), (1, .int (t ((g 2).toNatClampNeg))), (2, .int v34), (3, .int v24.1), (4, .int 0), (5, .int 0)]) rfl (J42 (v34, 0, 0, v24.2) zh46.symm)
            · have zh47 := zh44.trans (if_pos c45)
              refine Z.of (pc' := 122) (fun _ _ _ hl => lv_aload_n hx hb dX10_does_121 rfl (lv_at hl 3 rfl)) ?_
              refine Z.of (pc' := 124) (fun _ _ _ _ => lv_bipush (v := 44) hx hb dX10_does_122 (by decide)) ?_
              refine z_callVi C (c_X10_isNext l T M v24.2 m t 44 atv24) [0, 1, 2] [] rfl (by decide +kernel) (fun u48 => [(M 0, .inr (10, [.ref (M 1), .int (u48.2 0), .ref (M 2), .int (u48.2 1), .int (u48.2 2), .int (u48.2 3), .int (u48.2 4), .int (u48.2 5), .int (u48.2 6)])), (M 1, .inl (T.2.2.1, 1099, .inl m)), (M 2, .inl (T.2.2.2, 60, .inl t))]) (fun _ => rfl) [] rfl (fun _ => rfl) [M 0, M 1, M 2] rfl (fun _ => rfl) 3 (fun _ => rfl) (by decide +kernel) (cwV 1 hts gX10_does_X10_isNext rfl rfl rfl (by decide +kernel) ⟨Nat.le_of_ble_eq_true rfl, Nat.le_of_ble_eq_true rfl⟩) 0 rfl rfl rfl (As := [.int 44]) (rest := []) rfl rfl (Nat.le_of_ble_eq_true rfl) dX10_does_124 rfl ⟨Nat.zero_le _, Nat.zero_le _⟩ (fun u48 eu48 bu48 => ?_)
              have zh49 := zl_e zh47 eu48
              have atu48 := isNext_At atv24 eu48
              refine Z.sto (pc' := 128) (lv' := [(2, .int u48.1), (5, .int 0), (4, .int 0), (0, .ref (M 0)), (1, .int (t ((g 2).toNatClampNeg))), (3, .int v24.1)]) (fun _ _ _ hl => lv_istore_n (lv' := [(2, .int u48.1), (5, .int 0), (4, .int 0), (0, .ref (M 0)), (1, .int (t ((g 2).toNatClampNeg))), (3, .int v24.1)]) hx hb dX10_does_127 rfl hl (by decide) rfl) ?_
              refine Z.of (pc' := 129) (fun _ _ _ hl => lv_iload_n hx hb dX10_does_128 rfl (lv_at hl 0 rfl)) ?_
              have J51 : ∀ v51 : Int32 × (Nat → Int32), v51 = (
                  if u48.1 = 0 then
                    ((-1), u48.2)
                  else
                    zl (f_X10_number u48.2 m t) fun u54 =>
                    (u54.1, u54.2)
                  ) → Z P0 l E0 rm_X10_does S0 M0 G0 B0 T0 K0 7 T A9 Q9 0 0 [(M 0, .inr (10, [.ref (M 1), .int (v51.2 0), .ref (M 2), .int (v51.2 1), .int (v51.2 2), .int (v51.2 3), .int (v51.2 4), .int (v51.2 5), .int (v51.2 6)])), (M 1, .inl (T.2.2.1, 1099, .inl m)), (M 2, .inl (T.2.2.2, 60, .inl t))] 140 [(0, .ref (M 0)), (1, .int (t ((g 2).toNatClampNeg))), (2, .int u48.1), (3, .int v24.1)] [.int v51.1] := by
                intro v51 ev51
                have zh56 := zl_e zh49 ev51
                have atv51 : At v51.2 := by
                  rw [ev51]
                  simp only [zl]
                  (repeat' split) <;> first | exact atu48 | exact (number_Fw (m := m) atu48).1 | exact (isNext_Fw (m := m) atu48).1
                refine Z.sto (pc' := 142) (lv' := [(4, .int v51.1), (0, .ref (M 0)), (1, .int (t ((g 2).toNatClampNeg))), (2, .int u48.1), (3, .int v24.1)]) (fun _ _ _ hl => lv_istore (lv' := [(4, .int v51.1), (0, .ref (M 0)), (1, .int (t ((g 2).toNatClampNeg))), (2, .int u48.1), (3, .int v24.1)]) hx hb dX10_does_140 hl (by decide) rfl) ?_
                refine Z.of (pc' := 143) (fun _ _ _ hl => lv_iload_n hx hb dX10_does_142 rfl (lv_at hl 3 rfl)) ?_
                have J58 : ∀ v58 : Int32 × (Nat → Int32), v58 = (
                    if u48.1 = 0 then
                      (0, v51.2)
                    else
                      if v51.1 < 0 then
                        (0, v51.2)
                      else
                        zl (f_X10_isNext v51.2 m t 44) fun u64 =>
                        if u64.1 = 0 then
                          (0, u64.2)
                        else
                          (1, u64.2)
                    ) → Z P0 l E0 rm_X10_does S0 M0 G0 B0 T0 K0 7 T A9 Q9 0 0 [(M 0, .inr (10, [.ref (M 1), .int (v58.2 0), .ref (M 2), .int (v58.2 1), .int (v58.2 2), .int (v58.2 3), .int (v58.2 4), .int (v58.2 5), .int (v58.2 6)])), (M 1, .inl (T.2.2.1, 1099, .inl m)), (M 2, .inl (T.2.2.2, 60, .inl t))] 165 [(0, .ref (M 0)), (1, .int (t ((g 2).toNatClampNeg))), (3, .int v24.1), (4, .int v51.1)] [.int v58.1] := by
                  intro v58 ev58
                  have zh69 := zl_e zh56 ev58
                  have atv58 : At v58.2 := by
                    rw [ev58]
                    simp only [zl]
                    (repeat' split) <;> first | exact atv51 | exact (number_Fw (m := m) atv51).1 | exact (isNext_Fw (m := m) atv51).1
                  refine Z.sto (pc' := 166) (lv' := [(2, .int v58.1), (0, .ref (M 0)), (1, .int (t ((g 2).toNatClampNeg))), (3, .int v24.1), (4, .int v51.1)]) (fun _ _ _ hl => lv_istore_n (lv' := [(2, .int v58.1), (0, .ref (M 0)), (1, .int (t ((g 2).toNatClampNeg))), (3, .int v24.1), (4, .int v51.1)]) hx hb dX10_does_165 rfl hl (by decide) rfl) ?_
                  refine Z.of (pc' := 167) (fun _ _ _ hl => lv_iload_n hx hb dX10_does_166 rfl (lv_at hl 0 rfl)) ?_
                  have J71 : ∀ v71 : Int32 × (Nat → Int32), v71 = (
                      if v58.1 = 0 then
                        ((-1), v58.2)
                      else
                        zl (f_X10_number v58.2 m t) fun u74 =>
                        (u74.1, u74.2)
                      ) → Z P0 l E0 rm_X10_does S0 M0 G0 B0 T0 K0 7 T A9 Q9 0 0 [(M 0, .inr (10, [.ref (M 1), .int (v71.2 0), .ref (M 2), .int (v71.2 1), .int (v71.2 2), .int (v71.2 3), .int (v71.2 4), .int (v71.2 5), .int (v71.2 6)])), (M 1, .inl (T.2.2.1, 1099, .inl m)), (M 2, .inl (T.2.2.2, 60, .inl t))] 178 [(0, .ref (M 0)), (1, .int (t ((g 2).toNatClampNeg))), (2, .int v58.1), (3, .int v24.1), (4, .int v51.1)] [.int v71.1] := by
                    intro v71 ev71
                    have zh76 := zl_e zh69 ev71
                    have atv71 : At v71.2 := by
                      rw [ev71]
                      simp only [zl]
                      (repeat' split) <;> first | exact atv58 | exact (number_Fw (m := m) atv58).1 | exact (isNext_Fw (m := m) atv58).1
                    refine Z.sto (pc' := 180) (lv' := [(5, .int v71.1), (0, .ref (M 0)), (1, .int (t ((g 2).toNatClampNeg))), (2, .int v58.1), (3, .int v24.1), (4, .int v51.1)]) (fun _ _ _ hl => lv_istore (lv' := [(5, .int v71.1), (0, .ref (M 0)), (1, .int (t ((g 2).toNatClampNeg))), (2, .int v58.1), (3, .int v24.1), (4, .int v51.1)]) hx hb dX10_does_178 hl (by decide) rfl) ?_
                    refine Z.of (pc' := 181) (fun _ _ _ hl => lv_iload_n hx hb dX10_does_180 rfl (lv_at hl 3 rfl)) ?_
                    have J78 : ∀ v78 : Int32, v78 = (
                        if v58.1 = 0 then
                          0
                        else
                          if v71.1 < 0 then
                            0
                          else
                            1
                        ) → Z P0 l E0 rm_X10_does S0 M0 G0 B0 T0 K0 7 T A9 Q9 0 0 [(M 0, .inr (10, [.ref (M 1), .int (v71.2 0), .ref (M 2), .int (v71.2 1), .int (v71.2 2), .int (v71.2 3), .int (v71.2 4), .int (v71.2 5), .int (v71.2 6)])), (M 1, .inl (T.2.2.1, 1099, .inl m)), (M 2, .inl (T.2.2.2, 60, .inl t))] 194 [(0, .ref (M 0)), (1, .int (t ((g 2).toNatClampNeg))), (3, .int v24.1), (4, .int v51.1), (5, .int v71.1)] [.int v78] := by
                      intro v78 ev78
                      have zh84 := zl_e zh76 ev78
                      refine Z.sto (pc' := 195) (lv' := [(2, .int v78), (0, .ref (M 0)), (1, .int (t ((g 2).toNatClampNeg))), (3, .int v24.1), (4, .int v51.1), (5, .int v71.1)]) (fun _ _ _ hl => lv_istore_n (lv' := [(2, .int v78), (0, .ref (M 0)), (1, .int (t ((g 2).toNatClampNeg))), (3, .int v24.1), (4, .int v51.1), (5, .int v71.1)]) hx hb dX10_does_194 rfl hl (by decide) rfl) ?_
                      exact Z.sub (ks := [1, 2, 0, 3, 4, 5]) (lv' := [(0, .ref (M 0)), (1, .int (t ((g 2).toNatClampNeg))), (2, .int v78), (3, .int v24.1), (4, .int v51.1), (5, .int v71.1)]) rfl (J42 (v78, v51.1, v71.1, v71.2) zh84.symm)
                    have zr78 := @Eq.refl (Int32) (
                        if v58.1 = 0 then
                          0
                        else
                          if v71.1 < 0 then
                            0
                          else
                            1
                        )
                    refine Z.two (pt := 193) (pf := 184) (fun _ _ _ _ => lv_if_eq hx hb dX10_does_181 (by decide)) (fun c77 => ?_) (fun c77 => ?_)
                    · have zh79 := zr78.trans (if_pos c77)
                      refine Z.of (pc' := 194) (fun _ _ _ _ => lv_iconst (v := 0) hx hb dX10_does_193 (by decide)) ?_
                      exact Z.sub (ks := [1, 2, 4, 5, 0]) (lv' := [(0, .ref (M 0)), (1, .int (t ((g 2).toNatClampNeg))), (3, .int v24.1), (4, .int v51.1), (5, .int v71.1)]) rfl (J78 0 zh79.symm)
                    · have zh80 := zr78.trans (if_neg c77)
                      refine Z.of (pc' := 186) (fun _ _ _ hl => lv_iload hx hb dX10_does_184 (lv_at hl 0 rfl)) ?_
                      refine Z.two (pt := 193) (pf := 189) (fun _ _ _ _ => lv_if_lt hx hb dX10_does_186 (by decide)) (fun c81 => ?_) (fun c81 => ?_)
                      · have zh82 := zh80.trans (if_pos c81)
                        refine Z.of (pc' := 194) (fun _ _ _ _ => lv_iconst (v := 0) hx hb dX10_does_193 (by decide)) ?_
                        exact Z.sub (ks := [1, 2, 4, 5, 0]) (lv' := [(0, .ref (M 0)), (1, .int (t ((g 2).toNatClampNeg))), (3, .int v24.1), (4, .int v51.1), (5, .int v71.1)]) rfl (J78 0 zh82.symm)
                      · have zh83 := zh80.trans (if_neg c81)
                        refine Z.of (pc' := 190) (fun _ _ _ _ => lv_iconst (v := 1) hx hb dX10_does_189 (by decide)) ?_
                        refine Z.of (pc' := 194) (fun _ _ _ _ => lv_goto hx hb dX10_does_190 (by decide)) ?_
                        exact Z.sub (ks := [1, 2, 4, 5, 0]) (lv' := [(0, .ref (M 0)), (1, .int (t ((g 2).toNatClampNeg))), (3, .int v24.1), (4, .int v51.1), (5, .int v71.1)]) rfl (J78 1 zh83.symm)
                  have zr71 := @Eq.refl (Int32 × (Nat → Int32)) (
                      if v58.1 = 0 then
                        ((-1), v58.2)
                      else
                        zl (f_X10_number v58.2 m t) fun u74 =>
                        (u74.1, u74.2)
                      )
                  refine Z.two (pt := 177) (pf := 170) (fun _ _ _ _ => lv_if_eq hx hb dX10_does_167 (by decide)) (fun c70 => ?_) (fun c70 => ?_)
                  · have zh72 := zr71.trans (if_pos c70)
                    refine Z.of (pc' := 178) (fun _ _ _ _ => lv_iconst (v := -1) hx hb dX10_does_177 (by decide)) ?_
                    exact Z.sub (ks := [1, 2, 0, 3, 4]) (lv' := [(0, .ref (M 0)), (1, .int (t ((g 2).toNatClampNeg))), (2, .int v58.1), (3, .int v24.1), (4, .int v51.1)]) rfl (J71 ((-1), v58.2) zh72.symm)
                  · have zh73 := zr71.trans (if_neg c70)
                    refine Z.of (pc' := 171) (fun _ _ _ hl => lv_aload_n hx hb dX10_does_170 rfl (lv_at hl 1 rfl)) ?_
                    refine z_callVi C (c_X10_number l T M v58.2 m t atv58) [0, 1, 2] [] rfl (by decide +kernel) (fun u74 => [(M 0, .inr (10, [.ref (M 1), .int (u74.2 0), .ref (M 2), .int (u74.2 1), .int (u74.2 2), .int (u74.2 3), .int (u74.2 4), .int (u74.2 5), .int (u74.2 6)])), (M 1, .inl (T.2.2.1, 1099, .inl m)), (M 2, .inl (T.2.2.2, 60, .inl t))]) (fun _ => rfl) [] rfl (fun _ => rfl) [M 0, M 1, M 2] rfl (fun _ => rfl) 3 (fun _ => rfl) (by decide +kernel) (cwV 0 hts gX10_does_X10_number rfl rfl rfl (by decide +kernel) ⟨Nat.le_of_ble_eq_true rfl, Nat.le_of_ble_eq_true rfl⟩) 0 rfl rfl rfl (As := []) (rest := []) rfl rfl (Nat.le_of_ble_eq_true rfl) dX10_does_171 rfl ⟨Nat.zero_le _, Nat.zero_le _⟩ (fun u74 eu74 bu74 => ?_)
                    have zh75 := zl_e zh73 eu74
                    have atu74 := number_At atv58 eu74
                    refine Z.of (pc' := 178) (fun _ _ _ _ => lv_goto hx hb dX10_does_174 (by decide)) ?_
                    exact Z.sub (ks := [1, 2, 0, 3, 4]) (lv' := [(0, .ref (M 0)), (1, .int (t ((g 2).toNatClampNeg))), (2, .int v58.1), (3, .int v24.1), (4, .int v51.1)]) rfl (J71 (u74.1, u74.2) zh75.symm)
                have zr58 := @Eq.refl (Int32 × (Nat → Int32)) (
                    if u48.1 = 0 then
                      (0, v51.2)
                    else
                      if v51.1 < 0 then
                        (0, v51.2)
                      else
                        zl (f_X10_isNext v51.2 m t 44) fun u64 =>
                        if u64.1 = 0 then
                          (0, u64.2)
                        else
                          (1, u64.2)
                    )
                refine Z.two (pt := 164) (pf := 146) (fun _ _ _ _ => lv_if_eq hx hb dX10_does_143 (by decide)) (fun c57 => ?_) (fun c57 => ?_)
                · have zh59 := zr58.trans (if_pos c57)
                  refine Z.of (pc' := 165) (fun _ _ _ _ => lv_iconst (v := 0) hx hb dX10_does_164 (by decide)) ?_
                  exact Z.sub (ks := [1, 2, 4, 0]) (lv' := [(0, .ref (M 0)), (1, .int (t ((g 2).toNatClampNeg))), (3, .int v24.1), (4, .int v51.1)]) rfl (J58 (0, v51.2) zh59.symm)
                · have zh60 := zr58.trans (if_neg c57)
                  refine Z.of (pc' := 148) (fun _ _ _ hl => lv_iload hx hb dX10_does_146 (lv_at hl 0 rfl)) ?_
                  refine Z.two (pt := 164) (pf := 151) (fun _ _ _ _ => lv_if_lt hx hb dX10_does_148 (by decide)) (fun c61 => ?_) (fun c61 => ?_)
                  · have zh62 := zh60.trans (if_pos c61)
                    refine Z.of (pc' := 165) (fun _ _ _ _ => lv_iconst (v := 0) hx hb dX10_does_164 (by decide)) ?_
                    exact Z.sub (ks := [1, 2, 4, 0]) (lv' := [(0, .ref (M 0)), (1, .int (t ((g 2).toNatClampNeg))), (3, .int v24.1), (4, .int v51.1)]) rfl (J58 (0, v51.2) zh62.symm)
                  · have zh63 := zh60.trans (if_neg c61)
                    refine Z.of (pc' := 152) (fun _ _ _ hl => lv_aload_n hx hb dX10_does_151 rfl (lv_at hl 1 rfl)) ?_
                    refine Z.of (pc' := 154) (fun _ _ _ _ => lv_bipush (v := 44) hx hb dX10_does_152 (by decide)) ?_
                    refine z_callVi C (c_X10_isNext l T M v51.2 m t 44 atv51) [0, 1, 2] [] rfl (by decide +kernel) (fun u64 => [(M 0, .inr (10, [.ref (M 1), .int (u64.2 0), .ref (M 2), .int (u64.2 1), .int (u64.2 2), .int (u64.2 3), .int (u64.2 4), .int (u64.2 5), .int (u64.2 6)])), (M 1, .inl (T.2.2.1, 1099, .inl m)), (M 2, .inl (T.2.2.2, 60, .inl t))]) (fun _ => rfl) [] rfl (fun _ => rfl) [M 0, M 1, M 2] rfl (fun _ => rfl) 3 (fun _ => rfl) (by decide +kernel) (cwV 1 hts gX10_does_X10_isNext rfl rfl rfl (by decide +kernel) ⟨Nat.le_of_ble_eq_true rfl, Nat.le_of_ble_eq_true rfl⟩) 0 rfl rfl rfl (As := [.int 44]) (rest := []) rfl rfl (Nat.le_of_ble_eq_true rfl) dX10_does_154 rfl ⟨Nat.zero_le _, Nat.zero_le _⟩ (fun u64 eu64 bu64 => ?_)
                    have zh65 := zl_e zh63 eu64
                    have atu64 := isNext_At atv51 eu64
                    refine Z.two (pt := 164) (pf := 160) (fun _ _ _ _ => lv_if_eq hx hb dX10_does_157 (by decide)) (fun c66 => ?_) (fun c66 => ?_)
                    · have zh67 := zh65.trans (if_pos c66)
                      refine Z.of (pc' := 165) (fun _ _ _ _ => lv_iconst (v := 0) hx hb dX10_does_164 (by decide)) ?_
                      exact Z.sub (ks := [1, 2, 4, 0]) (lv' := [(0, .ref (M 0)), (1, .int (t ((g 2).toNatClampNeg))), (3, .int v24.1), (4, .int v51.1)]) rfl (J58 (0, u64.2) zh67.symm)
                    · have zh68 := zh65.trans (if_neg c66)
                      refine Z.of (pc' := 161) (fun _ _ _ _ => lv_iconst (v := 1) hx hb dX10_does_160 (by decide)) ?_
                      refine Z.of (pc' := 165) (fun _ _ _ _ => lv_goto hx hb dX10_does_161 (by decide)) ?_
                      exact Z.sub (ks := [1, 2, 4, 0]) (lv' := [(0, .ref (M 0)), (1, .int (t ((g 2).toNatClampNeg))), (3, .int v24.1), (4, .int v51.1)]) rfl (J58 (1, u64.2) zh68.symm)
              have zr51 := @Eq.refl (Int32 × (Nat → Int32)) (
                  if u48.1 = 0 then
                    ((-1), u48.2)
                  else
                    zl (f_X10_number u48.2 m t) fun u54 =>
                    (u54.1, u54.2)
                  )
              refine Z.two (pt := 139) (pf := 132) (fun _ _ _ _ => lv_if_eq hx hb dX10_does_129 (by decide)) (fun c50 => ?_) (fun c50 => ?_)
              · have zh52 := zr51.trans (if_pos c50)
                refine Z.of (pc' := 140) (fun _ _ _ _ => lv_iconst (v := -1) hx hb dX10_does_139 (by decide)) ?_
                exact Z.sub (ks := [3, 4, 0, 5]) (lv' := [(0, .ref (M 0)), (1, .int (t ((g 2).toNatClampNeg))), (2, .int u48.1), (3, .int v24.1)]) rfl (J51 ((-1), u48.2) zh52.symm)
              · have zh53 := zr51.trans (if_neg c50)
                refine Z.of (pc' := 133) (fun _ _ _ hl => lv_aload_n hx hb dX10_does_132 rfl (lv_at hl 3 rfl)) ?_
                refine z_callVi C (c_X10_number l T M u48.2 m t atu48) [0, 1, 2] [] rfl (by decide +kernel) (fun u54 => [(M 0, .inr (10, [.ref (M 1), .int (u54.2 0), .ref (M 2), .int (u54.2 1), .int (u54.2 2), .int (u54.2 3), .int (u54.2 4), .int (u54.2 5), .int (u54.2 6)])), (M 1, .inl (T.2.2.1, 1099, .inl m)), (M 2, .inl (T.2.2.2, 60, .inl t))]) (fun _ => rfl) [] rfl (fun _ => rfl) [M 0, M 1, M 2] rfl (fun _ => rfl) 3 (fun _ => rfl) (by decide +kernel) (cwV 0 hts gX10_does_X10_number rfl rfl rfl (by decide +kernel) ⟨Nat.le_of_ble_eq_true rfl, Nat.le_of_ble_eq_true rfl⟩) 0 rfl rfl rfl (As := []) (rest := []) rfl rfl (Nat.le_of_ble_eq_true rfl) dX10_does_133 rfl ⟨Nat.zero_le _, Nat.zero_le _⟩ (fun u54 eu54 bu54 => ?_)
                have zh55 := zl_e zh53 eu54
                have atu54 := number_At atu48 eu54
                refine Z.of (pc' := 140) (fun _ _ _ _ => lv_goto hx hb dX10_does_136 (by decide)) ?_
                exact Z.sub (ks := [3, 4, 0, 5]) (lv' := [(0, .ref (M 0)), (1, .int (t ((g 2).toNatClampNeg))), (2, .int u48.1), (3, .int v24.1)]) rfl (J51 (u54.1, u54.2) zh55.symm)
        have zr34 := @Eq.refl (Int32) (
            if v2 = 0 then
              0
            else
              if v24.1 < 0 then
                0
              else
                1
            )
        refine Z.two (pt := 103) (pf := 95) (fun _ _ _ _ => lv_if_eq hx hb dX10_does_92 (by decide)) (fun c33 => ?_) (fun c33 => ?_)
        · have zh35 := zr34.trans (if_pos c33)
          refine Z.of (pc' := 104) (fun _ _ _ _ => lv_iconst (v := 0) hx hb dX10_does_103 (by decide)) ?_
          exact Z.sub (ks := [1, 2, 0]) (lv' := [(0, .ref (M 0)), (1, .int (t ((g 2).toNatClampNeg))), (3, .int v24.1)]) rfl (J34 0 zh35.symm)
        · have zh36 := zr34.trans (if_neg c33)
          refine Z.of (pc' := 96) (fun _ _ _ hl => lv_iload_n hx hb dX10_does_95 rfl (lv_at hl 0 rfl)) ?_
          refine Z.two (pt := 103) (pf := 99) (fun _ _ _ _ => lv_if_lt hx hb dX10_does_96 (by decide)) (fun c37 => ?_) (fun c37 => ?_)
          · have zh38 := zh36.trans (if_pos c37)
            refine Z.of (pc' := 104) (fun _ _ _ _ => lv_iconst (v := 0) hx hb dX10_does_103 (by decide)) ?_
            exact Z.sub (ks := [1, 2, 0]) (lv' := [(0, .ref (M 0)), (1, .int (t ((g 2).toNatClampNeg))), (3, .int v24.1)]) rfl (J34 0 zh38.symm)
          · have zh39 := zh36.trans (if_neg c37)
            refine Z.of (pc' := 100) (fun _ _ _ _ => lv_iconst (v := 1) hx hb dX10_does_99 (by decide)) ?_
            refine Z.of (pc' := 104) (fun _ _ _ _ => lv_goto hx hb dX10_does_100 (by decide)) ?_
            exact Z.sub (ks := [1, 2, 0]) (lv' := [(0, .ref (M 0)), (1, .int (t ((g 2).toNatClampNeg))), (3, .int v24.1)]) rfl (J34 1 zh39.symm)
      have zr24 := @Eq.refl (Int32 × (Nat → Int32)) (
          if v2 = 0 then
            (0, upd (upd g 2 ((g 2) + v19)) 3 (g 2))
          else
            if (t ((g 2).toNatClampNeg)) = 110 then
              (0, upd (upd g 2 ((g 2) + v19)) 3 (g 2))
            else
              zl (f_X10_number (upd (upd g 2 ((g 2) + v19)) 3 (g 2)) m t) fun u30 =>
              (u30.1, u30.2)
          )
      refine Z.two (pt := 89) (pf := 76) (fun _ _ _ _ => lv_if_eq hx hb dX10_does_73 (by decide)) (fun c23 => ?_) (fun c23 => ?_)
      · have zh25 := zr24.trans (if_pos c23)
        refine Z.of (pc' := 90) (fun _ _ _ _ => lv_iconst (v := 0) hx hb dX10_does_89 (by decide)) ?_
        exact J24 (0, upd (upd g 2 ((g 2) + v19)) 3 (g 2)) zh25.symm
      · have zh26 := zr24.trans (if_neg c23)
        refine Z.of (pc' := 77) (fun _ _ _ hl => lv_iload_n hx hb dX10_does_76 rfl (lv_at hl 1 rfl)) ?_
        refine Z.of (pc' := 79) (fun _ _ _ _ => lv_bipush (v := 110) hx hb dX10_does_77 (by decide)) ?_
        refine Z.two (pt := 89) (pf := 82) (fun _ _ _ _ => lv_icmp_eq hx hb dX10_does_79 (by decide)) (fun c27 => ?_) (fun c27 => ?_)
        · have zh28 := zh26.trans (if_pos c27)
          refine Z.of (pc' := 90) (fun _ _ _ _ => lv_iconst (v := 0) hx hb dX10_does_89 (by decide)) ?_
          exact J24 (0, upd (upd g 2 ((g 2) + v19)) 3 (g 2)) zh28.symm
        · have zh29 := zh26.trans (if_neg c27)
          refine Z.of (pc' := 83) (fun _ _ _ hl => lv_aload_n hx hb dX10_does_82 rfl (lv_at hl 0 rfl)) ?_
          refine z_callVi C (c_X10_number l T M (upd (upd g 2 ((g 2) + v19)) 3 (g 2)) m t at69) [0, 1, 2] [] rfl (by decide +kernel) (fun u30 => [(M 0, .inr (10, [.ref (M 1), .int (u30.2 0), .ref (M 2), .int (u30.2 1), .int (u30.2 2), .int (u30.2 3), .int (u30.2 4), .int (u30.2 5), .int (u30.2 6)])), (M 1, .inl (T.2.2.1, 1099, .inl m)), (M 2, .inl (T.2.2.2, 60, .inl t))]) (fun _ => rfl) [] rfl (fun _ => rfl) [M 0, M 1, M 2] rfl (fun _ => rfl) 3 (fun _ => rfl) (by decide +kernel) (cwV 0 hts gX10_does_X10_number rfl rfl rfl (by decide +kernel) ⟨Nat.le_of_ble_eq_true rfl, Nat.le_of_ble_eq_true rfl⟩) 0 rfl rfl rfl (As := []) (rest := []) rfl rfl (Nat.le_of_ble_eq_true rfl) dX10_does_83 rfl ⟨Nat.zero_le _, Nat.zero_le _⟩ (fun u30 eu30 bu30 => ?_)
          have zh31 := zl_e zh29 eu30
          have atu30 := number_At at69 eu30
          refine Z.of (pc' := 90) (fun _ _ _ _ => lv_goto hx hb dX10_does_86 (by decide)) ?_
          exact J24 (u30.1, u30.2) zh31.symm
    have zr19 := @Eq.refl (Int32) (
        if v2 = 0 then
          0
        else
          1
        )
    refine Z.two (pt := 67) (pf := 63) (fun _ _ _ _ => lv_if_eq hx hb dX10_does_60 (by decide)) (fun c18 => ?_) (fun c18 => ?_)
    · have zh20 := zr19.trans (if_pos c18)
      refine Z.of (pc' := 68) (fun _ _ _ _ => lv_iconst (v := 0) hx hb dX10_does_67 (by decide)) ?_
      exact Z.sub (ks := [1, 2, 0]) (lv' := [(0, .ref (M 0)), (1, .int (t ((g 2).toNatClampNeg))), (2, .int v2)]) rfl (J19 0 zh20.symm)
    · have zh21 := zr19.trans (if_neg c18)
      refine Z.of (pc' := 64) (fun _ _ _ _ => lv_iconst (v := 1) hx hb dX10_does_63 (by decide)) ?_
      refine Z.of (pc' := 68) (fun _ _ _ _ => lv_goto hx hb dX10_does_64 (by decide)) ?_
      exact Z.sub (ks := [1, 2, 0]) (lv' := [(0, .ref (M 0)), (1, .int (t ((g 2).toNatClampNeg))), (2, .int v2)]) rfl (J19 1 zh21.symm)
  have zr2 := @Eq.refl (Int32) (
      if (t ((g 2).toNatClampNeg)) = 114 then
        1
      else
        if (t ((g 2).toNatClampNeg)) = 115 then
          1
        else
          if (t ((g 2).toNatClampNeg)) = 100 then
            1
          else
            if (t ((g 2).toNatClampNeg)) = 110 then
              1
            else
              if (t ((g 2).toNatClampNeg)) = 120 then
                1
              else
                0
      )
  refine Z.two (pt := 48) (pf := 24) (fun _ _ _ _ => lv_icmp_eq hx hb dX10_does_21 (by decide)) (fun c1 => ?_) (fun c1 => ?_)
  · have zh3 := zr2.trans (if_pos c1)
    refine Z.of (pc' := 49) (fun _ _ _ _ => lv_iconst (v := 1) hx hb dX10_does_48 (by decide)) ?_
    refine Z.of (pc' := 53) (fun _ _ _ _ => lv_goto hx hb dX10_does_49 (by decide)) ?_
    exact Z.sub (ks := [1, 0]) (lv' := [(0, .ref (M 0)), (1, .int (t ((g 2).toNatClampNeg)))]) rfl (J2 1 zh3.symm)
  · have zh4 := zr2.trans (if_neg c1)
    refine Z.of (pc' := 25) (fun _ _ _ hl => lv_iload_n hx hb dX10_does_24 rfl (lv_at hl 0 rfl)) ?_
    refine Z.of (pc' := 27) (fun _ _ _ _ => lv_bipush (v := 115) hx hb dX10_does_25 (by decide)) ?_
    refine Z.two (pt := 48) (pf := 30) (fun _ _ _ _ => lv_icmp_eq hx hb dX10_does_27 (by decide)) (fun c5 => ?_) (fun c5 => ?_)
    · have zh6 := zh4.trans (if_pos c5)
      refine Z.of (pc' := 49) (fun _ _ _ _ => lv_iconst (v := 1) hx hb dX10_does_48 (by decide)) ?_
      refine Z.of (pc' := 53) (fun _ _ _ _ => lv_goto hx hb dX10_does_49 (by decide)) ?_
      exact Z.sub (ks := [1, 0]) (lv' := [(0, .ref (M 0)), (1, .int (t ((g 2).toNatClampNeg)))]) rfl (J2 1 zh6.symm)
    · have zh7 := zh4.trans (if_neg c5)
      refine Z.of (pc' := 31) (fun _ _ _ hl => lv_iload_n hx hb dX10_does_30 rfl (lv_at hl 0 rfl)) ?_
      refine Z.of (pc' := 33) (fun _ _ _ _ => lv_bipush (v := 100) hx hb dX10_does_31 (by decide)) ?_
      refine Z.two (pt := 48) (pf := 36) (fun _ _ _ _ => lv_icmp_eq hx hb dX10_does_33 (by decide)) (fun c8 => ?_) (fun c8 => ?_)
      · have zh9 := zh7.trans (if_pos c8)
        refine Z.of (pc' := 49) (fun _ _ _ _ => lv_iconst (v := 1) hx hb dX10_does_48 (by decide)) ?_
        refine Z.of (pc' := 53) (fun _ _ _ _ => lv_goto hx hb dX10_does_49 (by decide)) ?_
        exact Z.sub (ks := [1, 0]) (lv' := [(0, .ref (M 0)), (1, .int (t ((g 2).toNatClampNeg)))]) rfl (J2 1 zh9.symm)
      · have zh10 := zh7.trans (if_neg c8)
        refine Z.of (pc' := 37) (fun _ _ _ hl => lv_iload_n hx hb dX10_does_36 rfl (lv_at hl 0 rfl)) ?_
        refine Z.of (pc' := 39) (fun _ _ _ _ => lv_bipush (v := 110) hx hb dX10_does_37 (by decide)) ?_
        refine Z.two (pt := 48) (pf := 42) (fun _ _ _ _ => lv_icmp_eq hx hb dX10_does_39 (by decide)) (fun c11 => ?_) (fun c11 => ?_)
        · have zh12 := zh10.trans (if_pos c11)
          refine Z.of (pc' := 49) (fun _ _ _ _ => lv_iconst (v := 1) hx hb dX10_does_48 (by decide)) ?_
          refine Z.of (pc' := 53) (fun _ _ _ _ => lv_goto hx hb dX10_does_49 (by decide)) ?_
          exact Z.sub (ks := [1, 0]) (lv' := [(0, .ref (M 0)), (1, .int (t ((g 2).toNatClampNeg)))]) rfl (J2 1 zh12.symm)
        · have zh13 := zh10.trans (if_neg c11)
          refine Z.of (pc' := 43) (fun _ _ _ hl => lv_iload_n hx hb dX10_does_42 rfl (lv_at hl 0 rfl)) ?_
          refine Z.of (pc' := 45) (fun _ _ _ _ => lv_bipush (v := 120) hx hb dX10_does_43 (by decide)) ?_
          refine Z.two' (pt := 52) (pf := 48) (fun _ _ _ _ => lv_icmp_ne hx hb dX10_does_45 (by decide)) (fun c14 => ?_) (fun c14 => ?_)
          · have zh15 := zh13.trans (if_neg c14)
            refine Z.of (pc' := 53) (fun _ _ _ _ => lv_iconst (v := 0) hx hb dX10_does_52 (by decide)) ?_
            exact Z.sub (ks := [1, 0]) (lv' := [(0, .ref (M 0)), (1, .int (t ((g 2).toNatClampNeg)))]) rfl (J2 0 zh15.symm)
          · have zh16 := zh13.trans (if_pos c14)
            refine Z.of (pc' := 49) (fun _ _ _ _ => lv_iconst (v := 1) hx hb dX10_does_48 (by decide)) ?_
            refine Z.of (pc' := 53) (fun _ _ _ _ => lv_goto hx hb dX10_does_49 (by decide)) ?_
            exact Z.sub (ks := [1, 0]) (lv' := [(0, .ref (M 0)), (1, .int (t ((g 2).toNatClampNeg)))]) rfl (J2 1 zh16.symm)
