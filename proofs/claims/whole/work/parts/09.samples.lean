theorem runs_fr (g m t : Nat → Int32) (b ring j : Nat) (h1 : j ≠ b) (h2 : j ≠ b + ring + 5) : f_X10_runs g m t b ring j = m j := by
  unfold f_X10_runs
  simp only [zl]
  rw [pk_un h2, asks_fr _ _ _ _ _ h1]
def MOk (m : Nat → Int32) (b : Nat) : Prop := ¬ m (b + 1) = 0 ∧ ¬ m (b + 2) = 0 ∧ ¬ m (b + 3) + 1 = 0 ∧ ¬ m (b + 4) + 1 = 0 ∧ IN (m (b + 28)) 64 ∧ IN (m (b + 18)) 64
theorem MOk_of {m m' : Nat → Int32} {b : Nat} (h : MOk m b) (e : ∀ j, (j = b + 1 ∨ j = b + 2 ∨ j = b + 3 ∨ j = b + 4 ∨ j = b + 18 ∨ j = b + 28) → m' j = m j) : MOk m' b := by
  unfold MOk at h ⊢
  rw [e (b + 1) (by omega), e (b + 2) (by omega), e (b + 3) (by omega), e (b + 4) (by omega), e (b + 18) (by omega), e (b + 28) (by omega)]
  exact h
theorem MOk_of2 {m m' : Nat → Int32} {b : Nat} (h : MOk m b) (e : ∀ j, (j = b + 1 ∨ j = b + 2 ∨ j = b + 3 ∨ j = b + 4) → m' j = m j) (h28 : IN (m' (b + 28)) 64) (h18 : IN (m' (b + 18)) 64) : MOk m' b := by
  unfold MOk at h ⊢
  rw [e (b + 1) (by omega), e (b + 2) (by omega), e (b + 3) (by omega), e (b + 4) (by omega)]
  exact ⟨h.1, h.2.1, h.2.2.1, h.2.2.2.1, h28, h18⟩
theorem MOk_upd {m m' : Nat → Int32} {b j : Nat} {x : Int32} (ok : MOk m b) (hj : j ≠ b + 1 ∧ j ≠ b + 2 ∧ j ≠ b + 3 ∧ j ≠ b + 4 ∧ j ≠ b + 18 ∧ j ≠ b + 28) (e : m' = upd m j x) : MOk m' b :=
  MOk_of ok (fun k hk => by rw [e]; exact pk_un (by omega))
theorem MOk_runs {g m t u : Nat → Int32} {b ring : Nat} (ok : MOk m b) (hr : ring ≤ 1) (e : u = f_X10_runs g m t b ring) : MOk u b :=
  MOk_of ok (fun j hj => by rw [e]; exact runs_fr _ _ _ _ _ _ (by omega) (by omega))
theorem zl_M {α : Type} {x : α} {f : α → (Nat → Int32)} {b : Nat} (h : ∀ u, u = x → MOk (f u) b) : MOk (zl x f) b := h x rfl
/-- what keeps does to every number -/
def keepsS (m : Nat → Int32) (b kp : Nat) (bit : Int32) (j : Nat) : Int32 :=
  if j = b + 28 then nI (if kp = 64 then 64 else kp + 1)
  else if b + 29 ≤ j ∧ j < b + 93 then (if kp = 64 then (if j = b + 92 then bit else m (j + 1)) else if j = b + kp + 29 then bit else m j)
  else m j
theorem keeps_lp (g m t : Nat → Int32) (b : Nat) (bit : Int32) (hk : m (b + 28) = nI 64) : ∀ (q k : Nat) (mx : Nat → Int32), k ≤ 63 → k + q = 65 → (∀ j, mx j = if b + 29 ≤ j ∧ j < b + 29 + k then m (j + 1) else m j) → ∀ j, lp16_X10_keeps g m t b bit q k mx j = keepsS m b 64 bit j := by
  intro q
  induction q with
  | zero => intro k mx h1 h2; omega
  | succ q ih =>
    intro k mx h1 h2 hm j
    rw [lp16_X10_keeps_s]
    by_cases hc : 63 ≤ k
    · rw [if_pos (show (63 : Int32) ≤ nI k from (nI_leI (a := 63) (by decide) (by omega)).mpr hc)]
      have hk63 : k = 63 := by omega
      subst hk63
      have h28 : mx (b + 28) = nI 64 := by rw [hm, if_neg (by omega), hk]
      simp only [zl, keepsS]
      by_cases j1 : j = b + 28
      · subst j1
        rw [pk_us, pk_un (by omega), pk_us, h28, if_pos rfl]
        decide
      · rw [pk_un j1, if_neg j1]
        by_cases j2 : j = b + 92
        · subst j2
          rw [pk_us, if_pos (by omega)]
          simp
        · rw [pk_un j2, pk_un j1, hm]
          by_cases j3 : b + 29 ≤ j ∧ j < b + 93
          · rw [if_pos j3, if_pos (by omega), if_pos trivial, if_neg j2]
          · rw [if_neg j3, if_neg (by omega)]
    · rw [if_neg (show ¬ (63 : Int32) ≤ nI k from fun h => hc ((nI_leI (a := 63) (by decide) (by omega)).mp h))]
      simp only [zl]
      refine ih (k + 1) _ (by omega) (by omega) (fun j => ?_) j
      by_cases j1 : j = b + k + 29
      · subst j1
        rw [pk_us, if_pos (by omega), hm, if_neg (by omega)]
      · rw [pk_un j1, hm]
        by_cases j2 : b + 29 ≤ j ∧ j < b + 29 + k
        · rw [if_pos j2, if_pos (by omega)]
        · rw [if_neg j2, if_neg (by omega)]
theorem keeps_spec (g m t : Nat → Int32) (b : Nat) (bit : Int32) (h : IN (m (b + 28)) 64) (j : Nat) : f_X10_keeps g m t b bit j = keepsS m b (m (b + 28)).toNatClampNeg bit j := by
  obtain ⟨hk, hle⟩ := h
  unfold f_X10_keeps
  by_cases h64 : (m (b + 28)).toNatClampNeg = 64
  · rw [h64] at hk ⊢
    rw [if_pos (by rw [hk]; decide)]
    exact keeps_lp g m t b bit hk _ _ _ (by decide) (by decide) (fun j => by rw [if_neg (by omega)]) j
  · generalize hkp : (m (b + 28)).toNatClampNeg = kp at *
    rw [if_neg (show ¬ m (b + 28) = 64 from fun h => h64 (zf_eq (b := 64) hk rfl h (by omega) (by decide)))]
    simp only [zl, keepsS]
    by_cases j1 : j = b + 28
    · subst j1
      rw [pk_us, pk_un (by omega), hk, if_pos rfl, if_neg h64, nI_1]
    · rw [pk_un j1, if_neg j1]
      by_cases j2 : j = b + kp + 29
      · subst j2
        rw [pk_us, if_pos (by omega), if_neg h64, if_pos rfl]
      · rw [pk_un j2]
        by_cases j3 : b + 29 ≤ j ∧ j < b + 93
        · rw [if_pos j3, if_neg h64, if_neg j2]
        · rw [if_neg j3]
theorem MOk_keeps {g m t u : Nat → Int32} {b : Nat} {bit : Int32} (ok : MOk m b) (e : u = f_X10_keeps g m t b bit) : MOk u b := by
  have h28 := ok.2.2.2.2.1
  refine MOk_of2 ok (fun j hj => ?_) ?_ ?_
  · rw [e, keeps_spec _ _ _ _ _ h28, keepsS, if_neg (by omega), if_neg (by omega)]
  · rw [e, keeps_spec _ _ _ _ _ h28, keepsS, if_pos rfl]
    have := h28.2
    split
    · exact IN_of rfl (by decide) (by decide)
    · exact IN_of rfl (by omega) (by decide)
  · rw [e, keeps_spec _ _ _ _ _ h28, keepsS, if_neg (by omega), if_neg (by omega)]
    exact ok.2.2.2.2.2
theorem zl_F {α β : Type} {x : α} {f : α → β} {P : β → Prop} (h : ∀ u, u = x → P (f u)) : P (zl x f) := h x rfl
theorem tests_fr (g m t : Nat → Int32) (b : Nat) (bit : Int32) (j : Nat) (hj : j ≠ b + 14 ∧ j ≠ b + 15 ∧ j ≠ b + 16 ∧ j ≠ b + 17 ∧ j ≠ b + 27) : (f_X10_tests g m t b bit).2 j = m j := by
  unfold f_X10_tests
  obtain ⟨h1, h2, h3, h4, h5⟩ := hj
  refine zl_F (P := fun r : Int32 × (Nat → Int32) => r.2 j = m j) (fun v2 _ => ?_)
  refine zl_F (P := fun r : Int32 × (Nat → Int32) => r.2 j = m j) (fun m9 e9 => ?_)
  have q9 : m9 j = m j := by rw [e9, pk_un h1]
  refine zl_F (P := fun r : Int32 × (Nat → Int32) => r.2 j = m j) (fun m11 e11 => ?_)
  have q11 : m11 j = m j := by rw [e11, pk_un h2, q9]
  refine zl_F (P := fun r : Int32 × (Nat → Int32) => r.2 j = m j) (fun v14 _ => ?_)
  refine zl_F (P := fun r : Int32 × (Nat → Int32) => r.2 j = m j) (fun m18 e18 => ?_)
  have q18 : m18 j = m j := by rw [e18, pk_un h5, q11]
  refine zl_F (P := fun r : Int32 × (Nat → Int32) => r.2 j = m j) (fun m20 e20 => ?_)
  have q20 : m20 j = m j := by rw [e20, pk_un h3, q18]
  refine zl_F (P := fun r : Int32 × (Nat → Int32) => r.2 j = m j) (fun m22 e22 => ?_)
  have q22 : m22 j = m j := by rw [e22, pk_un h4, q20]
  refine zl_F (P := fun r : Int32 × (Nat → Int32) => r.2 j = m j) (fun v25 _ => ?_)
  refine zl_F (P := fun r : Int32 × (Nat → Int32) => r.2 j = m j) (fun v30 _ => ?_)
  refine zl_F (P := fun r : Int32 × (Nat → Int32) => r.2 j = m j) (fun v40 e40 => ?_)
  have q40 : v40 j = m j := by
    rw [e40]
    split
    · exact q22
    · simp only [zl]
      rw [pk_un h4, pk_un h3, q22]
  split
  · split
    · exact q40
    · exact q40
  · exact q40
theorem MOk_tests {g m t : Nat → Int32} {u : Int32 × (Nat → Int32)} {b : Nat} {bit : Int32} (ok : MOk m b) (e : u = f_X10_tests g m t b bit) : MOk u.2 b :=
  MOk_of ok (fun j hj => by rw [e]; exact tests_fr _ _ _ _ _ _ (by omega))
theorem takesOne_fr (g m t : Nat → Int32) (b : Nat) (bit : Int32) (h : IN (m (b + 18)) 64) (j : Nat) (hj : j ≠ b + 18 ∧ j ≠ b + 19 ∧ j ≠ b + 22 ∧ j ≠ b + 23 ∧ j ≠ b + 24 ∧ (j < b + 93 ∨ b + 157 ≤ j)) : f_X10_takesOne g m t b bit j = m j := by
  unfold f_X10_takesOne
  simp only [zl]
  obtain ⟨h1, h2, h3, h4, h5, h6⟩ := hj
  by_cases c0 : 0 ≤ m (b + 19)
  · rw [if_pos c0, pk_un h2]
    by_cases c1 : m (b + 19) = bit
    · rw [if_pos c1, pk_un h3]
    · rw [if_neg c1]
      by_cases c2 : m (b + 18) = 64
      · rw [if_pos c2, pk_un h5]
      · rw [if_neg c2, pk_un h4, pk_un h1]
        have h7 := zf_neq (b := 64) h.1 rfl c2 (by have := h.2; omega) (by decide)
        exact pk_un (by have := h.2; omega)
  · rw [if_neg c0, pk_un h2]
theorem takesOne_18 (g m t : Nat → Int32) (b : Nat) (bit : Int32) (h : IN (m (b + 18)) 64) : IN (f_X10_takesOne g m t b bit (b + 18)) 64 := by
  unfold f_X10_takesOne
  simp only [zl]
  by_cases c0 : 0 ≤ m (b + 19)
  · rw [if_pos c0, pk_un (by omega)]
    by_cases c1 : m (b + 19) = bit
    · rw [if_pos c1, pk_un (by omega)]; exact h
    · rw [if_neg c1]
      by_cases c2 : m (b + 18) = 64
      · rw [if_pos c2, pk_un (by omega)]; exact h
      · rw [if_neg c2, pk_un (by omega), pk_us, pk_un (by omega)]
        have h7 := zf_neq (b := 64) h.1 rfl c2 (by have := h.2; omega) (by decide)
        have h8 := h.2
        rw [h.1, nI_1]
        exact IN_of rfl (by omega) (by decide)
  · rw [if_neg c0, pk_un (by omega)]; exact h
theorem MOk_takesOne {g m t u : Nat → Int32} {b : Nat} {bit : Int32} (ok : MOk m b) (e : u = f_X10_takesOne g m t b bit) : MOk u b := by
  have h18 := ok.2.2.2.2.2
  refine MOk_of2 ok (fun j hj => ?_) ?_ ?_
  · rw [e]; exact takesOne_fr _ _ _ _ _ h18 _ (by omega)
  · rw [e, takesOne_fr _ _ _ _ _ h18 _ (by omega)]; exact ok.2.2.2.2.1
  · rw [e]; exact takesOne_18 _ _ _ _ _ h18
def f_X10_samples (g : Nat → Int32) (m : Nat → Int32) (t : Nat → Int32) (b : Nat) : (Nat → Int32) :=
  zl (f_X10_runs g m t b 0) fun u1 =>
  zl (f_X10_locks g u1 t b) fun u3 =>
  zl (
    if u3 = 0 then
      zl (f_X10_runs g u1 t b 1) fun u9 =>
      u9
    else
      zl (upd u1 (b + 6) ((u1 (b + 5)) - (u1 (b + 5)) / (u1 (b + 2)) * (u1 (b + 2)))) fun m11 =>
      m11
    : (Nat → Int32)) fun v6 =>
  zl (f_X10_isHigh g v6 t b 0) fun u14 =>
  zl (f_X10_isHigh g v6 t b 1) fun u16 =>
  zl (
    if u14 = u16 then
      0
    else
      1
    : Int32) fun v19 =>
  zl (upd v6 (b + 20) ((v6 (b + 20)) + 1)) fun m23 =>
  zl (upd m23 (b + 21) ((m23 (b + 21)) + v19)) fun m25 =>
  zl (f_X10_keeps g m25 t b v19) fun u27 =>
  if (u27 (b + 11)) = 2 then
    u27
  else
    zl (f_X10_tests g u27 t b v19) fun u32 =>
    if u32.1 ≤ 0 then
      if (u32.2 (b + 11)) = 0 then
        zl (upd u32.2 (b + 13) ((u32.2 (b + 13)) - 1)) fun m42 =>
        zl (
          if (m42 (b + 13)) = 0 then
            1
          else
            0
          : Int32) fun v45 =>
        zl (upd m42 (b + 11) v45) fun m49 =>
        m49
      else
        zl (f_X10_takesOne g u32.2 t b v19) fun u40 =>
        u40
    else
      zl (upd u32.2 (b + 11) 2) fun m51 =>
      zl (upd m51 (b + 12) u32.1) fun m53 =>
      zl (upd m53 (b + 26) ((m53 (b + 26)) + 1)) fun m55 =>
      zl (upd m55 (b + 19) (-1)) fun m57 =>
      m57
theorem fe_X10_samples (g : Nat → Int32) (m : Nat → Int32) (t : Nat → Int32) (b : Nat) : f_X10_samples g m t b = (
    zl (f_X10_runs g m t b 0) fun u1 =>
    zl (f_X10_locks g u1 t b) fun u3 =>
    zl (
      if u3 = 0 then
        zl (f_X10_runs g u1 t b 1) fun u9 =>
        u9
      else
        zl (upd u1 (b + 6) ((u1 (b + 5)) - (u1 (b + 5)) / (u1 (b + 2)) * (u1 (b + 2)))) fun m11 =>
        m11
      : (Nat → Int32)) fun v6 =>
    zl (f_X10_isHigh g v6 t b 0) fun u14 =>
    zl (f_X10_isHigh g v6 t b 1) fun u16 =>
    zl (
      if u14 = u16 then
        0
      else
        1
      : Int32) fun v19 =>
    zl (upd v6 (b + 20) ((v6 (b + 20)) + 1)) fun m23 =>
    zl (upd m23 (b + 21) ((m23 (b + 21)) + v19)) fun m25 =>
    zl (f_X10_keeps g m25 t b v19) fun u27 =>
    if (u27 (b + 11)) = 2 then
      u27
    else
      zl (f_X10_tests g u27 t b v19) fun u32 =>
      if u32.1 ≤ 0 then
        if (u32.2 (b + 11)) = 0 then
          zl (upd u32.2 (b + 13) ((u32.2 (b + 13)) - 1)) fun m42 =>
          zl (
            if (m42 (b + 13)) = 0 then
              1
            else
              0
            : Int32) fun v45 =>
          zl (upd m42 (b + 11) v45) fun m49 =>
          m49
        else
          zl (f_X10_takesOne g u32.2 t b v19) fun u40 =>
          u40
      else
        zl (upd u32.2 (b + 11) 2) fun m51 =>
        zl (upd m51 (b + 12) u32.1) fun m53 =>
        zl (upd m53 (b + 26) ((m53 (b + 26)) + 1)) fun m55 =>
        zl (upd m55 (b + 19) (-1)) fun m57 =>
        m57
    ) := rfl
abbrev rm_X10_samples : Room := { frames := 2, cells := 0, slots := 0, locals := 46 }
set_option maxHeartbeats 1000000 in
set_option maxRecDepth 100000 in
theorem c_X10_samples (l : Launch) (T : zT) (M : Nat → Nat) (g : Nat → Int32) (m : Nat → Int32) (t : Nat → Int32) (b : Nat) (hb9 : b ≤ 942) (ok0 : MOk m b) : Cv l yX10_samples wsX10_samples rm_X10_samples T [.ref (M 0), .int (nI b)] [(M 0, .inr (10, [.ref (M 1), .int (g 0), .ref (M 2), .int (g 1), .int (g 2), .int (g 3), .int (g 4), .int (g 5), .int (g 6)])), (M 1, .inl (T.2.2.1, 1099, .inl m)), (M 2, .inl (T.2.2.2, 60, .inl t))] (S := (Nat → Int32)) (f_X10_samples g m t b) (fun u => [(M 0, .inr (10, [.ref (M 1), .int (g 0), .ref (M 2), .int (g 1), .int (g 2), .int (g 3), .int (g 4), .int (g 5), .int (g 6)])), (M 1, .inl (T.2.2.1, 1099, .inl u)), (M 2, .inl (T.2.2.2, 60, .inl t))]) := by
  refine z_metV (own := RX10) (maxL := 4) rfl (by decide) rfl (Nat.le_of_ble_eq_true rfl) ?_
  intro P0 E0 S0 M0 G0 B0 T0 K0 A9 Q9 C E
  have hx := C.1.1
  have hb := C.1.2.1
  have hown := C.1.2.2.2.1
  have hts := C.1.2.2.2.2
  have hn := C.2.1.2
  have iX10 : ∀ w ∈ u_ws RX10 TX10 9, w ∈ wsX10_samples := by decide +kernel
  have k7 := hts (.fieldLink RX10 7 "JudgedBitsModel" "s" "[I") (by decide +kernel)
  change Z P0 l E0 rm_X10_samples S0 M0 G0 B0 T0 K0 4 T A9 Q9 0 0 [(M 0, .inr (10, [.ref (M 1), .int (g 0), .ref (M 2), .int (g 1), .int (g 2), .int (g 3), .int (g 4), .int (g 5), .int (g 6)])), (M 1, .inl (T.2.2.1, 1099, .inl m)), (M 2, .inl (T.2.2.2, 60, .inl t))] 0 [(0, .ref (M 0)), (1, .int (nI b))] []
  have zh0 := fe_X10_samples g m t b
  refine Z.of (pc' := 1) (fun _ _ _ hl => lv_aload_n hx hb dX10_samples_0 rfl (lv_at hl 0 rfl)) ?_
  refine Z.of (pc' := 2) (fun _ _ _ hl => lv_iload_n hx hb dX10_samples_1 rfl (lv_at hl 1 rfl)) ?_
  refine Z.of (pc' := 3) (fun _ _ _ _ => lv_iconst (v := 0) hx hb dX10_samples_2 (by decide)) ?_
  refine z_callVv C (c_X10_runs l T M g m t b 0 hb9 (by decide) ok0.2.2.1 ok0.1) [0, 1, 2] [] rfl (by decide +kernel) (fun u1 => [(M 0, .inr (10, [.ref (M 1), .int (g 0), .ref (M 2), .int (g 1), .int (g 2), .int (g 3), .int (g 4), .int (g 5), .int (g 6)])), (M 1, .inl (T.2.2.1, 1099, .inl u1)), (M 2, .inl (T.2.2.2, 60, .inl t))]) (fun _ => rfl) [] rfl (fun _ => rfl) [M 0, M 1, M 2] rfl (fun _ => rfl) 3 (fun _ => rfl) (by decide +kernel) (cwV 2 hts gX10_samples_X10_runs rfl rfl rfl (by decide +kernel) ⟨Nat.le_of_ble_eq_true rfl, Nat.le_of_ble_eq_true rfl⟩) 0 rfl rfl rfl (As := [.int (nI b), .int 0]) (rest := []) rfl rfl (Nat.le_of_ble_eq_true rfl) dX10_samples_3 rfl ⟨Nat.zero_le _, Nat.zero_le _⟩ (fun u1 eu1 => ?_)
  have zh2 := zl_e zh0 eu1
  have ok3 := MOk_runs ok0 (by decide) eu1
  refine Z.of (pc' := 7) (fun _ _ _ hl => lv_aload_n hx hb dX10_samples_6 rfl (lv_at hl 0 rfl)) ?_
  refine Z.of (pc' := 8) (fun _ _ _ hl => lv_iload_n hx hb dX10_samples_7 rfl (lv_at hl 1 rfl)) ?_
  refine z_callVi C (c_X10_locks l T M g u1 t b hb9) [0, 1, 2] [] rfl (by decide +kernel) (fun u3 => [(M 0, .inr (10, [.ref (M 1), .int (g 0), .ref (M 2), .int (g 1), .int (g 2), .int (g 3), .int (g 4), .int (g 5), .int (g 6)])), (M 1, .inl (T.2.2.1, 1099, .inl u1)), (M 2, .inl (T.2.2.2, 60, .inl t))]) (fun _ => rfl) [] rfl (fun _ => rfl) [M 0, M 1, M 2] rfl (fun _ => rfl) 3 (fun _ => rfl) (by decide +kernel) (cwV 1 hts gX10_samples_X10_locks rfl rfl rfl (by decide +kernel) ⟨Nat.le_of_ble_eq_true rfl, Nat.le_of_ble_eq_true rfl⟩) 0 rfl rfl rfl (As := [.int (nI b)]) (rest := []) rfl rfl (Nat.le_of_ble_eq_true rfl) dX10_samples_8 rfl ⟨Nat.zero_le _, Nat.zero_le _⟩ (fun u3 eu3 bu3 => ?_)
  have zh4 := zl_e zh2 eu3
  have J6 : ∀ v6 : (Nat → Int32), v6 = (
      if u3 = 0 then
        zl (f_X10_runs g u1 t b 1) fun u9 =>
        u9
      else
        zl (upd u1 (b + 6) ((u1 (b + 5)) - (u1 (b + 5)) / (u1 (b + 2)) * (u1 (b + 2)))) fun m11 =>
        m11
      ) → Z P0 l E0 rm_X10_samples S0 M0 G0 B0 T0 K0 4 T A9 Q9 0 0 [(M 0, .inr (10, [.ref (M 1), .int (g 0), .ref (M 2), .int (g 1), .int (g 2), .int (g 3), .int (g 4), .int (g 5), .int (g 6)])), (M 1, .inl (T.2.2.1, 1099, .inl v6)), (M 2, .inl (T.2.2.2, 60, .inl t))] 52 [(0, .ref (M 0)), (1, .int (nI b))] [] := by
    intro v6 ev6
    have zh13 := zl_e zh4 ev6
    have ok52 : MOk v6 b := by
      rw [ev6]
      split
      · simp only [zl]
        exact MOk_runs ok3 (by decide) rfl
      · simp only [zl]
        exact MOk_upd ok3 (by omega) rfl
    refine Z.of (pc' := 53) (fun _ _ _ hl => lv_aload_n hx hb dX10_samples_52 rfl (lv_at hl 0 rfl)) ?_
    refine Z.of (pc' := 54) (fun _ _ _ hl => lv_iload_n hx hb dX10_samples_53 rfl (lv_at hl 1 rfl)) ?_
    refine Z.of (pc' := 55) (fun _ _ _ _ => lv_iconst (v := 0) hx hb dX10_samples_54 (by decide)) ?_
    refine z_callVi C (c_X10_isHigh l T M g v6 t b 0 hb9 (by decide)) [0, 1, 2] [] rfl (by decide +kernel) (fun u14 => [(M 0, .inr (10, [.ref (M 1), .int (g 0), .ref (M 2), .int (g 1), .int (g 2), .int (g 3), .int (g 4), .int (g 5), .int (g 6)])), (M 1, .inl (T.2.2.1, 1099, .inl v6)), (M 2, .inl (T.2.2.2, 60, .inl t))]) (fun _ => rfl) [] rfl (fun _ => rfl) [M 0, M 1, M 2] rfl (fun _ => rfl) 3 (fun _ => rfl) (by decide +kernel) (cwV 2 hts gX10_samples_X10_isHigh rfl rfl rfl (by decide +kernel) ⟨Nat.le_of_ble_eq_true rfl, Nat.le_of_ble_eq_true rfl⟩) 0 rfl rfl rfl (As := [.int (nI b), .int 0]) (rest := []) rfl rfl (Nat.le_of_ble_eq_true rfl) dX10_samples_55 rfl ⟨Nat.zero_le _, Nat.zero_le _⟩ (fun u14 eu14 bu14 => ?_)
    have zh15 := zl_e zh13 eu14
    refine Z.of (pc' := 59) (fun _ _ _ hl => lv_aload_n hx hb dX10_samples_58 rfl (lv_at hl 0 rfl)) ?_
    refine Z.of (pc' := 60) (fun _ _ _ hl => lv_iload_n hx hb dX10_samples_59 rfl (lv_at hl 1 rfl)) ?_
    refine Z.of (pc' := 61) (fun _ _ _ _ => lv_iconst (v := 1) hx hb dX10_samples_60 (by decide)) ?_
    refine z_callVi C (c_X10_isHigh l T M g v6 t b 1 hb9 (by decide)) [0, 1, 2] [] rfl (by decide +kernel) (fun u16 => [(M 0, .inr (10, [.ref (M 1), .int (g 0), .ref (M 2), .int (g 1), .int (g 2), .int (g 3), .int (g 4), .int (g 5), .int (g 6)])), (M 1, .inl (T.2.2.1, 1099, .inl v6)), (M 2, .inl (T.2.2.2, 60, .inl t))]) (fun _ => rfl) [] rfl (fun _ => rfl) [M 0, M 1, M 2] rfl (fun _ => rfl) 3 (fun _ => rfl) (by decide +kernel) (cwV 2 hts gX10_samples_X10_isHigh rfl rfl rfl (by decide +kernel) ⟨Nat.le_of_ble_eq_true rfl, Nat.le_of_ble_eq_true rfl⟩) 0 rfl rfl rfl (As := [.int (nI b), .int 1]) (rest := [.int u14]) rfl rfl (Nat.le_of_ble_eq_true rfl) dX10_samples_61 rfl ⟨Nat.zero_le _, Nat.zero_le _⟩ (fun u16 eu16 bu16 => ?_)
    have zh17 := zl_e zh15 eu16
    have J19 : ∀ v19 : Int32, v19 = (
        if u14 = u16 then
          0
        else
          1
        ) → Z P0 l E0 rm_X10_samples S0 M0 G0 B0 T0 K0 4 T A9 Q9 0 0 [(M 0, .inr (10, [.ref (M 1), .int (g 0), .ref (M 2), .int (g 1), .int (g 2), .int (g 3), .int (g 4), .int (g 5), .int (g 6)])), (M 1, .inl (T.2.2.1, 1099, .inl v6)), (M 2, .inl (T.2.2.2, 60, .inl t))] 72 [(0, .ref (M 0)), (1, .int (nI b))] [.int v19] := by
      intro v19 ev19
      have zh22 := zl_e zh17 ev19
      refine Z.sto (pc' := 73) (lv' := [(2, .int v19), (0, .ref (M 0)), (1, .int (nI b))]) (fun _ _ _ hl => lv_istore_n (lv' := [(2, .int v19), (0, .ref (M 0)), (1, .int (nI b))]) hx hb dX10_samples_72 rfl hl (by decide) rfl) ?_
      refine Z.of (pc' := 74) (fun _ _ _ hl => lv_aload_n hx hb dX10_samples_73 rfl (lv_at hl 1 rfl)) ?_
      refine z_get C iX10 0 0 k7 rfl rfl (by decide) rfl rfl dX10_samples_74 rfl ?_
      refine Z.of (pc' := 78) (fun _ _ _ hl => lv_iload_n hx hb dX10_samples_77 rfl (lv_at hl 2 rfl)) ?_
      refine Z.of (pc' := 80) (fun _ _ _ _ => lv_bipush (v := 20) hx hb dX10_samples_78 (by decide)) ?_
      refine Z.of (pc' := 81) (fun _ _ _ hl => lv_iadd hx hb dX10_samples_80) ?_
      refine Z.topn (y := nI (b + 20)) (zi_c (zi_add (a := b) (b := 20) (rfl : nI b = nI b) (rfl : (20 : Int32) = nI 20)) (by omega)) ?_
      refine Z.of (pc' := 82) (fun _ _ _ hl => lv_dup2_11 hx hb dX10_samples_81 rfl rfl) ?_
      refine z_iald C 1 1 rfl rfl (j := b + 20) (rfl : nI (b + 20) = nI (b + 20)) (by omega) (by decide) dX10_samples_82 rfl ?_
      refine Z.of (pc' := 84) (fun _ _ _ _ => lv_iconst (v := 1) hx hb dX10_samples_83 (by decide)) ?_
      refine Z.of (pc' := 85) (fun _ _ _ hl => lv_iadd hx hb dX10_samples_84) ?_
      refine z_iast C 1 1 rfl rfl (j := b + 20) (rfl : nI (b + 20) = nI (b + 20)) (by omega) (by decide) dX10_samples_85 rfl (fun m23 => [(M 0, .inr (10, [.ref (M 1), .int (g 0), .ref (M 2), .int (g 1), .int (g 2), .int (g 3), .int (g 4), .int (g 5), .int (g 6)])), (M 1, .inl (T.2.2.1, 1099, .inl m23)), (M 2, .inl (T.2.2.2, 60, .inl t))]) (fun _ => rfl) (fun m23 em23 => ?_)
      have zh24 := zl_e zh22 em23
      have ok85 := MOk_upd ok52 (by omega) em23
      refine Z.of (pc' := 87) (fun _ _ _ hl => lv_aload_n hx hb dX10_samples_86 rfl (lv_at hl 1 rfl)) ?_
      refine z_get C iX10 0 0 k7 rfl rfl (by decide) rfl rfl dX10_samples_87 rfl ?_
      refine Z.of (pc' := 91) (fun _ _ _ hl => lv_iload_n hx hb dX10_samples_90 rfl (lv_at hl 2 rfl)) ?_
      refine Z.of (pc' := 93) (fun _ _ _ _ => lv_bipush (v := 21) hx hb dX10_samples_91 (by decide)) ?_
      refine Z.of (pc' := 94) (fun _ _ _ hl => lv_iadd hx hb dX10_samples_93) ?_
      refine Z.topn (y := nI (b + 21)) (zi_c (zi_add (a := b) (b := 21) (rfl : nI b = nI b) (rfl : (21 : Int32) = nI 21)) (by omega)) ?_
      refine Z.of (pc' := 95) (fun _ _ _ hl => lv_dup2_11 hx hb dX10_samples_94 rfl rfl) ?_
      refine z_iald C 1 1 rfl rfl (j := b + 21) (rfl : nI (b + 21) = nI (b + 21)) (by omega) (by decide) dX10_samples_95 rfl ?_
      refine Z.of (pc' := 97) (fun _ _ _ hl => lv_iload_n hx hb dX10_samples_96 rfl (lv_at hl 0 rfl)) ?_
      refine Z.of (pc' := 98) (fun _ _ _ hl => lv_iadd hx hb dX10_samples_97) ?_
      refine z_iast C 1 1 rfl rfl (j := b + 21) (rfl : nI (b + 21) = nI (b + 21)) (by omega) (by decide) dX10_samples_98 rfl (fun m25 => [(M 0, .inr (10, [.ref (M 1), .int (g 0), .ref (M 2), .int (g 1), .int (g 2), .int (g 3), .int (g 4), .int (g 5), .int (g 6)])), (M 1, .inl (T.2.2.1, 1099, .inl m25)), (M 2, .inl (T.2.2.2, 60, .inl t))]) (fun _ => rfl) (fun m25 em25 => ?_)
      have zh26 := zl_e zh24 em25
      have ok98 := MOk_upd ok85 (by omega) em25
      refine Z.of (pc' := 100) (fun _ _ _ hl => lv_aload_n hx hb dX10_samples_99 rfl (lv_at hl 1 rfl)) ?_
      refine Z.of (pc' := 101) (fun _ _ _ hl => lv_iload_n hx hb dX10_samples_100 rfl (lv_at hl 2 rfl)) ?_
      refine Z.of (pc' := 102) (fun _ _ _ hl => lv_iload_n hx hb dX10_samples_101 rfl (lv_at hl 0 rfl)) ?_
      refine z_callVv C (c_X10_keeps l T M g m25 t b v19 hb9 ok98.2.2.2.2.1) [0, 1, 2] [] rfl (by decide +kernel) (fun u27 => [(M 0, .inr (10, [.ref (M 1), .int (g 0), .ref (M 2), .int (g 1), .int (g 2), .int (g 3), .int (g 4), .int (g 5), .int (g 6)])), (M 1, .inl (T.2.2.1, 1099, .inl u27)), (M 2, .inl (T.2.2.2, 60, .inl t))]) (fun _ => rfl) [] rfl (fun _ => rfl) [M 0, M 1, M 2] rfl (fun _ => rfl) 3 (fun _ => rfl) (by decide +kernel) (cwV 2 hts gX10_samples_X10_keeps rfl rfl rfl (by decide +kernel) ⟨Nat.le_of_ble_eq_true rfl, Nat.le_of_ble_eq_true rfl⟩) 0 rfl rfl rfl (As := [.int (nI b), .int v19]) (rest := []) rfl rfl (Nat.le_of_ble_eq_true rfl) dX10_samples_102 rfl ⟨Nat.zero_le _, Nat.zero_le _⟩ (fun u27 eu27 => ?_)
      have zh28 := zl_e zh26 eu27
      have ok102 := MOk_keeps ok98 eu27
      refine Z.of (pc' := 106) (fun _ _ _ hl => lv_aload_n hx hb dX10_samples_105 rfl (lv_at hl 1 rfl)) ?_
      refine z_get C iX10 0 0 k7 rfl rfl (by decide) rfl rfl dX10_samples_106 rfl ?_
      refine Z.of (pc' := 110) (fun _ _ _ hl => lv_iload_n hx hb dX10_samples_109 rfl (lv_at hl 2 rfl)) ?_
      refine Z.of (pc' := 112) (fun _ _ _ _ => lv_bipush (v := 11) hx hb dX10_samples_110 (by decide)) ?_
      refine Z.of (pc' := 113) (fun _ _ _ hl => lv_iadd hx hb dX10_samples_112) ?_
      refine Z.topn (y := nI (b + 11)) (zi_c (zi_add (a := b) (b := 11) (rfl : nI b = nI b) (rfl : (11 : Int32) = nI 11)) (by omega)) ?_
      refine z_iald C 1 1 rfl rfl (j := b + 11) (rfl : nI (b + 11) = nI (b + 11)) (by omega) (by decide) dX10_samples_113 rfl ?_
      refine Z.of (pc' := 115) (fun _ _ _ _ => lv_iconst (v := 2) hx hb dX10_samples_114 (by decide)) ?_
      refine Z.two' (pt := 119) (pf := 118) (fun _ _ _ _ => lv_icmp_ne hx hb dX10_samples_115 (by decide)) (fun c29 => ?_) (fun c29 => ?_)
      · have zh30 := zh28.trans (if_neg c29)
        refine Z.of (pc' := 120) (fun _ _ _ hl => lv_aload_n hx hb dX10_samples_119 rfl (lv_at hl 1 rfl)) ?_
        refine Z.of (pc' := 121) (fun _ _ _ hl => lv_iload_n hx hb dX10_samples_120 rfl (lv_at hl 2 rfl)) ?_
        refine Z.of (pc' := 122) (fun _ _ _ hl => lv_iload_n hx hb dX10_samples_121 rfl (lv_at hl 0 rfl)) ?_
        refine z_callVi C (c_X10_tests l T M g u27 t b v19 hb9) [0, 1, 2] [] rfl (by decide +kernel) (fun u32 => [(M 0, .inr (10, [.ref (M 1), .int (g 0), .ref (M 2), .int (g 1), .int (g 2), .int (g 3), .int (g 4), .int (g 5), .int (g 6)])), (M 1, .inl (T.2.2.1, 1099, .inl u32.2)), (M 2, .inl (T.2.2.2, 60, .inl t))]) (fun _ => rfl) [] rfl (fun _ => rfl) [M 0, M 1, M 2] rfl (fun _ => rfl) 3 (fun _ => rfl) (by decide +kernel) (cwV 2 hts gX10_samples_X10_tests rfl rfl rfl (by decide +kernel) ⟨Nat.le_of_ble_eq_true rfl, Nat.le_of_ble_eq_true rfl⟩) 0 rfl rfl rfl (As := [.int (nI b), .int v19]) (rest := []) rfl rfl (Nat.le_of_ble_eq_true rfl) dX10_samples_122 rfl ⟨Nat.zero_le _, Nat.zero_le _⟩ (fun u32 eu32 bu32 => ?_)
        have zh33 := zl_e zh30 eu32
        have ok122 := MOk_tests ok102 eu32
        refine Z.sto (pc' := 126) (lv' := [(3, .int u32.1), (2, .int v19), (0, .ref (M 0)), (1, .int (nI b))]) (fun _ _ _ hl => lv_istore_n (lv' := [(3, .int u32.1), (2, .int v19), (0, .ref (M 0)), (1, .int (nI b))]) hx hb dX10_samples_125 rfl hl (by decide) rfl) ?_
        refine Z.of (pc' := 127) (fun _ _ _ hl => lv_iload_n hx hb dX10_samples_126 rfl (lv_at hl 0 rfl)) ?_
        refine Z.two (pt := 176) (pf := 130) (fun _ _ _ _ => lv_if_le hx hb dX10_samples_127 (by decide)) (fun c34 => ?_) (fun c34 => ?_)
        · have zh35 := zh33.trans (if_pos c34)
          refine Z.of (pc' := 177) (fun _ _ _ hl => lv_aload_n hx hb dX10_samples_176 rfl (lv_at hl 2 rfl)) ?_
          refine z_get C iX10 0 0 k7 rfl rfl (by decide) rfl rfl dX10_samples_177 rfl ?_
          refine Z.of (pc' := 181) (fun _ _ _ hl => lv_iload_n hx hb dX10_samples_180 rfl (lv_at hl 3 rfl)) ?_
          refine Z.of (pc' := 183) (fun _ _ _ _ => lv_bipush (v := 11) hx hb dX10_samples_181 (by decide)) ?_
          refine Z.of (pc' := 184) (fun _ _ _ hl => lv_iadd hx hb dX10_samples_183) ?_
          refine Z.topn (y := nI (b + 11)) (zi_c (zi_add (a := b) (b := 11) (rfl : nI b = nI b) (rfl : (11 : Int32) = nI 11)) (by omega)) ?_
          refine z_iald C 1 1 rfl rfl (j := b + 11) (rfl : nI (b + 11) = nI (b + 11)) (by omega) (by decide) dX10_samples_184 rfl ?_
          refine Z.two' (pt := 230) (pf := 188) (fun _ _ _ _ => lv_if_ne hx hb dX10_samples_185 (by decide)) (fun c37 => ?_) (fun c37 => ?_)
          · have zh38 := zh35.trans (if_neg c37)
            refine Z.of (pc' := 231) (fun _ _ _ hl => lv_aload_n hx hb dX10_samples_230 rfl (lv_at hl 2 rfl)) ?_
            refine Z.of (pc' := 232) (fun _ _ _ hl => lv_iload_n hx hb dX10_samples_231 rfl (lv_at hl 3 rfl)) ?_
            refine Z.of (pc' := 233) (fun _ _ _ hl => lv_iload_n hx hb dX10_samples_232 rfl (lv_at hl 1 rfl)) ?_
            refine z_callVv C (c_X10_takesOne l T M g u32.2 t b v19 hb9 ok122.2.2.2.2.2) [0, 1, 2] [] rfl (by decide +kernel) (fun u40 => [(M 0, .inr (10, [.ref (M 1), .int (g 0), .ref (M 2), .int (g 1), .int (g 2), .int (g 3), .int (g 4), .int (g 5), .int (g 6)])), (M 1, .inl (T.2.2.1, 1099, .inl u40)), (M 2, .inl (T.2.2.2, 60, .inl t))]) (fun _ => rfl) [] rfl (fun _ => rfl) [M 0, M 1, M 2] rfl (fun _ => rfl) 3 (fun _ => rfl) (by decide +kernel) (cwV 2 hts gX10_samples_X10_takesOne rfl rfl rfl (by decide +kernel) ⟨Nat.le_of_ble_eq_true rfl, Nat.le_of_ble_eq_true rfl⟩) 0 rfl rfl rfl (As := [.int (nI b), .int v19]) (rest := []) rfl rfl (Nat.le_of_ble_eq_true rfl) dX10_samples_233 rfl ⟨Nat.zero_le _, Nat.zero_le _⟩ (fun u40 eu40 => ?_)
            have zh41 := zl_e zh38 eu40
            exact E u40 _ _ _ dX10_samples_236  rfl zh41
          · have zh39 := zh35.trans (if_pos c37)
            refine Z.of (pc' := 189) (fun _ _ _ hl => lv_aload_n hx hb dX10_samples_188 rfl (lv_at hl 2 rfl)) ?_
            refine z_get C iX10 0 0 k7 rfl rfl (by decide) rfl rfl dX10_samples_189 rfl ?_
            refine Z.of (pc' := 193) (fun _ _ _ hl => lv_iload_n hx hb dX10_samples_192 rfl (lv_at hl 3 rfl)) ?_
            refine Z.of (pc' := 195) (fun _ _ _ _ => lv_bipush (v := 13) hx hb dX10_samples_193 (by decide)) ?_
            refine Z.of (pc' := 196) (fun _ _ _ hl => lv_iadd hx hb dX10_samples_195) ?_
            refine Z.topn (y := nI (b + 13)) (zi_c (zi_add (a := b) (b := 13) (rfl : nI b = nI b) (rfl : (13 : Int32) = nI 13)) (by omega)) ?_
            refine Z.of (pc' := 197) (fun _ _ _ hl => lv_dup2_11 hx hb dX10_samples_196 rfl rfl) ?_
            refine z_iald C 1 1 rfl rfl (j := b + 13) (rfl : nI (b + 13) = nI (b + 13)) (by omega) (by decide) dX10_samples_197 rfl ?_
            refine Z.of (pc' := 199) (fun _ _ _ _ => lv_iconst (v := 1) hx hb dX10_samples_198 (by decide)) ?_
            refine Z.of (pc' := 200) (fun _ _ _ hl => lv_isub hx hb dX10_samples_199) ?_
            refine z_iast C 1 1 rfl rfl (j := b + 13) (rfl : nI (b + 13) = nI (b + 13)) (by omega) (by decide) dX10_samples_200 rfl (fun m42 => [(M 0, .inr (10, [.ref (M 1), .int (g 0), .ref (M 2), .int (g 1), .int (g 2), .int (g 3), .int (g 4), .int (g 5), .int (g 6)])), (M 1, .inl (T.2.2.1, 1099, .inl m42)), (M 2, .inl (T.2.2.2, 60, .inl t))]) (fun _ => rfl) (fun m42 em42 => ?_)
            have zh43 := zl_e zh39 em42
            refine Z.of (pc' := 202) (fun _ _ _ hl => lv_aload_n hx hb dX10_samples_201 rfl (lv_at hl 2 rfl)) ?_
            refine z_get C iX10 0 0 k7 rfl rfl (by decide) rfl rfl dX10_samples_202 rfl ?_
            refine Z.of (pc' := 206) (fun _ _ _ hl => lv_iload_n hx hb dX10_samples_205 rfl (lv_at hl 3 rfl)) ?_
            refine Z.of (pc' := 208) (fun _ _ _ _ => lv_bipush (v := 11) hx hb dX10_samples_206 (by decide)) ?_
            refine Z.of (pc' := 209) (fun _ _ _ hl => lv_iadd hx hb dX10_samples_208) ?_
            refine Z.topn (y := nI (b + 11)) (zi_c (zi_add (a := b) (b := 11) (rfl : nI b = nI b) (rfl : (11 : Int32) = nI 11)) (by omega)) ?_
            refine Z.of (pc' := 210) (fun _ _ _ hl => lv_aload_n hx hb dX10_samples_209 rfl (lv_at hl 2 rfl)) ?_
            refine z_get C iX10 0 0 k7 rfl rfl (by decide) rfl rfl dX10_samples_210 rfl ?_
            refine Z.of (pc' := 214) (fun _ _ _ hl => lv_iload_n hx hb dX10_samples_213 rfl (lv_at hl 3 rfl)) ?_
            refine Z.of (pc' := 216) (fun _ _ _ _ => lv_bipush (v := 13) hx hb dX10_samples_214 (by decide)) ?_
            refine Z.of (pc' := 217) (fun _ _ _ hl => lv_iadd hx hb dX10_samples_216) ?_
            refine Z.topn (y := nI (b + 13)) (zi_c (zi_add (a := b) (b := 13) (rfl : nI b = nI b) (rfl : (13 : Int32) = nI 13)) (by omega)) ?_
            refine z_iald C 1 1 rfl rfl (j := b + 13) (rfl : nI (b + 13) = nI (b + 13)) (by omega) (by decide) dX10_samples_217 rfl ?_
            have J45 : ∀ v45 : Int32, v45 = (
                if (m42 (b + 13)) = 0 then
                  1
                else
                  0
                ) → Z P0 l E0 rm_X10_samples S0 M0 G0 B0 T0 K0 4 T A9 Q9 0 0 [(M 0, .inr (10, [.ref (M 1), .int (g 0), .ref (M 2), .int (g 1), .int (g 2), .int (g 3), .int (g 4), .int (g 5), .int (g 6)])), (M 1, .inl (T.2.2.1, 1099, .inl m42)), (M 2, .inl (T.2.2.2, 60, .inl t))] 226 [] [.int v45, .int (nI (b + 11)), .ref (M 1)] := by
              intro v45 ev45
              have zh48 := zl_e zh43 ev45
              refine z_iast C 1 1 rfl rfl (j := b + 11) (rfl : nI (b + 11) = nI (b + 11)) (by omega) (by decide) dX10_samples_226 rfl (fun m49 => [(M 0, .inr (10, [.ref (M 1), .int (g 0), .ref (M 2), .int (g 1), .int (g 2), .int (g 3), .int (g 4), .int (g 5), .int (g 6)])), (M 1, .inl (T.2.2.1, 1099, .inl m49)), (M 2, .inl (T.2.2.2, 60, .inl t))]) (fun _ => rfl) (fun m49 em49 => ?_)
              have zh50 := zl_e zh48 em49
              refine Z.of (pc' := 236) (fun _ _ _ _ => lv_goto hx hb dX10_samples_227 (by decide)) ?_
              exact E m49 _ _ _ dX10_samples_236  rfl zh50
            have zr45 := @Eq.refl (Int32) (
                if (m42 (b + 13)) = 0 then
                  1
                else
                  0
                )
            refine Z.two' (pt := 225) (pf := 221) (fun _ _ _ _ => lv_if_ne hx hb dX10_samples_218 (by decide)) (fun c44 => ?_) (fun c44 => ?_)
            · have zh46 := zr45.trans (if_neg c44)
              refine Z.of (pc' := 226) (fun _ _ _ _ => lv_iconst (v := 0) hx hb dX10_samples_225 (by decide)) ?_
              exact Z.sub (ks := []) (lv' := []) rfl (J45 0 zh46.symm)
            · have zh47 := zr45.trans (if_pos c44)
              refine Z.of (pc' := 222) (fun _ _ _ _ => lv_iconst (v := 1) hx hb dX10_samples_221 (by decide)) ?_
              refine Z.of (pc' := 226) (fun _ _ _ _ => lv_goto hx hb dX10_samples_222 (by decide)) ?_
              exact Z.sub (ks := []) (lv' := []) rfl (J45 1 zh47.symm)
        · have zh36 := zh33.trans (if_neg c34)
          refine Z.of (pc' := 131) (fun _ _ _ hl => lv_aload_n hx hb dX10_samples_130 rfl (lv_at hl 2 rfl)) ?_
          refine z_get C iX10 0 0 k7 rfl rfl (by decide) rfl rfl dX10_samples_131 rfl ?_
          refine Z.of (pc' := 135) (fun _ _ _ hl => lv_iload_n hx hb dX10_samples_134 rfl (lv_at hl 3 rfl)) ?_
          refine Z.of (pc' := 137) (fun _ _ _ _ => lv_bipush (v := 11) hx hb dX10_samples_135 (by decide)) ?_
          refine Z.of (pc' := 138) (fun _ _ _ hl => lv_iadd hx hb dX10_samples_137) ?_
          refine Z.topn (y := nI (b + 11)) (zi_c (zi_add (a := b) (b := 11) (rfl : nI b = nI b) (rfl : (11 : Int32) = nI 11)) (by omega)) ?_
          refine Z.of (pc' := 139) (fun _ _ _ _ => lv_iconst (v := 2) hx hb dX10_samples_138 (by decide)) ?_
          refine z_iast C 1 1 rfl rfl (j := b + 11) (rfl : nI (b + 11) = nI (b + 11)) (by omega) (by decide) dX10_samples_139 rfl (fun m51 => [(M 0, .inr (10, [.ref (M 1), .int (g 0), .ref (M 2), .int (g 1), .int (g 2), .int (g 3), .int (g 4), .int (g 5), .int (g 6)])), (M 1, .inl (T.2.2.1, 1099, .inl m51)), (M 2, .inl (T.2.2.2, 60, .inl t))]) (fun _ => rfl) (fun m51 em51 => ?_)
          have zh52 := zl_e zh36 em51
          refine Z.of (pc' := 141) (fun _ _ _ hl => lv_aload_n hx hb dX10_samples_140 rfl (lv_at hl 2 rfl)) ?_
          refine z_get C iX10 0 0 k7 rfl rfl (by decide) rfl rfl dX10_samples_141 rfl ?_
          refine Z.of (pc' := 145) (fun _ _ _ hl => lv_iload_n hx hb dX10_samples_144 rfl (lv_at hl 3 rfl)) ?_
          refine Z.of (pc' := 147) (fun _ _ _ _ => lv_bipush (v := 12) hx hb dX10_samples_145 (by decide)) ?_
          refine Z.of (pc' := 148) (fun _ _ _ hl => lv_iadd hx hb dX10_samples_147) ?_
          refine Z.topn (y := nI (b + 12)) (zi_c (zi_add (a := b) (b := 12) (rfl : nI b = nI b) (rfl : (12 : Int32) = nI 12)) (by omega)) ?_
          refine Z.of (pc' := 149) (fun _ _ _ hl => lv_iload_n hx hb dX10_samples_148 rfl (lv_at hl 0 rfl)) ?_
          refine z_iast C 1 1 rfl rfl (j := b + 12) (rfl : nI (b + 12) = nI (b + 12)) (by omega) (by decide) dX10_samples_149 rfl (fun m53 => [(M 0, .inr (10, [.ref (M 1), .int (g 0), .ref (M 2), .int (g 1), .int (g 2), .int (g 3), .int (g 4), .int (g 5), .int (g 6)])), (M 1, .inl (T.2.2.1, 1099, .inl m53)), (M 2, .inl (T.2.2.2, 60, .inl t))]) (fun _ => rfl) (fun m53 em53 => ?_)
          have zh54 := zl_e zh52 em53
          refine Z.of (pc' := 151) (fun _ _ _ hl => lv_aload_n hx hb dX10_samples_150 rfl (lv_at hl 2 rfl)) ?_
          refine z_get C iX10 0 0 k7 rfl rfl (by decide) rfl rfl dX10_samples_151 rfl ?_
          refine Z.of (pc' := 155) (fun _ _ _ hl => lv_iload_n hx hb dX10_samples_154 rfl (lv_at hl 3 rfl)) ?_
          refine Z.of (pc' := 157) (fun _ _ _ _ => lv_bipush (v := 26) hx hb dX10_samples_155 (by decide)) ?_
          refine Z.of (pc' := 158) (fun _ _ _ hl => lv_iadd hx hb dX10_samples_157) ?_
          refine Z.topn (y := nI (b + 26)) (zi_c (zi_add (a := b) (b := 26) (rfl : nI b = nI b) (rfl : (26 : Int32) = nI 26)) (by omega)) ?_
          refine Z.of (pc' := 159) (fun _ _ _ hl => lv_dup2_11 hx hb dX10_samples_158 rfl rfl) ?_
          refine z_iald C 1 1 rfl rfl (j := b + 26) (rfl : nI (b + 26) = nI (b + 26)) (by omega) (by decide) dX10_samples_159 rfl ?_
          refine Z.of (pc' := 161) (fun _ _ _ _ => lv_iconst (v := 1) hx hb dX10_samples_160 (by decide)) ?_
          refine Z.of (pc' := 162) (fun _ _ _ hl => lv_iadd hx hb dX10_samples_161) ?_
          refine z_iast C 1 1 rfl rfl (j := b + 26) (rfl : nI (b + 26) = nI (b + 26)) (by omega) (by decide) dX10_samples_162 rfl (fun m55 => [(M 0, .inr (10, [.ref (M 1), .int (g 0), .ref (M 2), .int (g 1), .int (g 2), .int (g 3), .int (g 4), .int (g 5), .int (g 6)])), (M 1, .inl (T.2.2.1, 1099, .inl m55)), (M 2, .inl (T.2.2.2, 60, .inl t))]) (fun _ => rfl) (fun m55 em55 => ?_)
          have zh56 := zl_e zh54 em55
          refine Z.of (pc' := 164) (fun _ _ _ hl => lv_aload_n hx hb dX10_samples_163 rfl (lv_at hl 2 rfl)) ?_
          refine z_get C iX10 0 0 k7 rfl rfl (by decide) rfl rfl dX10_samples_164 rfl ?_
          refine Z.of (pc' := 168) (fun _ _ _ hl => lv_iload_n hx hb dX10_samples_167 rfl (lv_at hl 3 rfl)) ?_
          refine Z.of (pc' := 170) (fun _ _ _ _ => lv_bipush (v := 19) hx hb dX10_samples_168 (by decide)) ?_
          refine Z.of (pc' := 171) (fun _ _ _ hl => lv_iadd hx hb dX10_samples_170) ?_
          refine Z.topn (y := nI (b + 19)) (zi_c (zi_add (a := b) (b := 19) (rfl : nI b = nI b) (rfl : (19 : Int32) = nI 19)) (by omega)) ?_
          refine Z.of (pc' := 172) (fun _ _ _ _ => lv_iconst (v := -1) hx hb dX10_samples_171 (by decide)) ?_
          refine z_iast C 1 1 rfl rfl (j := b + 19) (rfl : nI (b + 19) = nI (b + 19)) (by omega) (by decide) dX10_samples_172 rfl (fun m57 => [(M 0, .inr (10, [.ref (M 1), .int (g 0), .ref (M 2), .int (g 1), .int (g 2), .int (g 3), .int (g 4), .int (g 5), .int (g 6)])), (M 1, .inl (T.2.2.1, 1099, .inl m57)), (M 2, .inl (T.2.2.2, 60, .inl t))]) (fun _ => rfl) (fun m57 em57 => ?_)
          have zh58 := zl_e zh56 em57
          refine Z.of (pc' := 236) (fun _ _ _ _ => lv_goto hx hb dX10_samples_173 (by decide)) ?_
          exact E m57 _ _ _ dX10_samples_236  rfl zh58
      · have zh31 := zh28.trans (if_pos c29)
        exact E u27 _ _ _ dX10_samples_118  rfl zh31
    have zr19 := @Eq.refl (Int32) (
        if u14 = u16 then
          0
        else
          1
        )
    refine Z.two' (pt := 71) (pf := 67) (fun _ _ _ _ => lv_icmp_ne hx hb dX10_samples_64 (by decide)) (fun c18 => ?_) (fun c18 => ?_)
    · have zh20 := zr19.trans (if_neg c18)
      refine Z.of (pc' := 72) (fun _ _ _ _ => lv_iconst (v := 1) hx hb dX10_samples_71 (by decide)) ?_
      exact J19 1 zh20.symm
    · have zh21 := zr19.trans (if_pos c18)
      refine Z.of (pc' := 68) (fun _ _ _ _ => lv_iconst (v := 0) hx hb dX10_samples_67 (by decide)) ?_
      refine Z.of (pc' := 72) (fun _ _ _ _ => lv_goto hx hb dX10_samples_68 (by decide)) ?_
      exact J19 0 zh21.symm
  have zr6 := @Eq.refl ((Nat → Int32)) (
      if u3 = 0 then
        zl (f_X10_runs g u1 t b 1) fun u9 =>
        u9
      else
        zl (upd u1 (b + 6) ((u1 (b + 5)) - (u1 (b + 5)) / (u1 (b + 2)) * (u1 (b + 2)))) fun m11 =>
        m11
      )
  refine Z.two (pt := 46) (pf := 14) (fun _ _ _ _ => lv_if_eq hx hb dX10_samples_11 (by decide)) (fun c5 => ?_) (fun c5 => ?_)
  · have zh7 := zr6.trans (if_pos c5)
    refine Z.of (pc' := 47) (fun _ _ _ hl => lv_aload_n hx hb dX10_samples_46 rfl (lv_at hl 0 rfl)) ?_
    refine Z.of (pc' := 48) (fun _ _ _ hl => lv_iload_n hx hb dX10_samples_47 rfl (lv_at hl 1 rfl)) ?_
    refine Z.of (pc' := 49) (fun _ _ _ _ => lv_iconst (v := 1) hx hb dX10_samples_48 (by decide)) ?_
    refine z_callVv C (c_X10_runs l T M g u1 t b 1 hb9 (by decide) ok3.2.2.2.1 ok3.2.1) [0, 1, 2] [] rfl (by decide +kernel) (fun u9 => [(M 0, .inr (10, [.ref (M 1), .int (g 0), .ref (M 2), .int (g 1), .int (g 2), .int (g 3), .int (g 4), .int (g 5), .int (g 6)])), (M 1, .inl (T.2.2.1, 1099, .inl u9)), (M 2, .inl (T.2.2.2, 60, .inl t))]) (fun _ => rfl) [] rfl (fun _ => rfl) [M 0, M 1, M 2] rfl (fun _ => rfl) 3 (fun _ => rfl) (by decide +kernel) (cwV 2 hts gX10_samples_X10_runs rfl rfl rfl (by decide +kernel) ⟨Nat.le_of_ble_eq_true rfl, Nat.le_of_ble_eq_true rfl⟩) 0 rfl rfl rfl (As := [.int (nI b), .int 1]) (rest := []) rfl rfl (Nat.le_of_ble_eq_true rfl) dX10_samples_49 rfl ⟨Nat.zero_le _, Nat.zero_le _⟩ (fun u9 eu9 => ?_)
    have zh10 := zl_e zh7 eu9
    exact J6 u9 zh10.symm
  · have zh8 := zr6.trans (if_neg c5)
    refine Z.of (pc' := 15) (fun _ _ _ hl => lv_aload_n hx hb dX10_samples_14 rfl (lv_at hl 0 rfl)) ?_
    refine z_get C iX10 0 0 k7 rfl rfl (by decide) rfl rfl dX10_samples_15 rfl ?_
    refine Z.of (pc' := 19) (fun _ _ _ hl => lv_iload_n hx hb dX10_samples_18 rfl (lv_at hl 1 rfl)) ?_
    refine Z.of (pc' := 20) (fun _ _ _ _ => lv_iconst (v := 5) hx hb dX10_samples_19 (by decide)) ?_
    refine Z.of (pc' := 21) (fun _ _ _ hl => lv_iadd hx hb dX10_samples_20) ?_
    refine Z.topn (y := nI (b + 5)) (zi_c (zi_add (a := b) (b := 5) (rfl : nI b = nI b) (rfl : (5 : Int32) = nI 5)) (by omega)) ?_
    refine Z.of (pc' := 22) (fun _ _ _ _ => lv_iconst (v := 1) hx hb dX10_samples_21 (by decide)) ?_
    refine Z.of (pc' := 23) (fun _ _ _ hl => lv_iadd hx hb dX10_samples_22) ?_
    refine Z.topn (y := nI (b + 6)) (zi_c (zi_add (a := b + 5) (b := 1) (rfl : nI (b + 5) = nI (b + 5)) (rfl : (1 : Int32) = nI 1)) (by omega)) ?_
    refine Z.of (pc' := 24) (fun _ _ _ hl => lv_aload_n hx hb dX10_samples_23 rfl (lv_at hl 0 rfl)) ?_
    refine z_get C iX10 0 0 k7 rfl rfl (by decide) rfl rfl dX10_samples_24 rfl ?_
    refine Z.of (pc' := 28) (fun _ _ _ hl => lv_iload_n hx hb dX10_samples_27 rfl (lv_at hl 1 rfl)) ?_
    refine Z.of (pc' := 29) (fun _ _ _ _ => lv_iconst (v := 5) hx hb dX10_samples_28 (by decide)) ?_
    refine Z.of (pc' := 30) (fun _ _ _ hl => lv_iadd hx hb dX10_samples_29) ?_
    refine Z.topn (y := nI (b + 5)) (zi_c (zi_add (a := b) (b := 5) (rfl : nI b = nI b) (rfl : (5 : Int32) = nI 5)) (by omega)) ?_
    refine z_iald C 1 1 rfl rfl (j := b + 5) (rfl : nI (b + 5) = nI (b + 5)) (by omega) (by decide) dX10_samples_30 rfl ?_
    refine Z.of (pc' := 32) (fun _ _ _ hl => lv_aload_n hx hb dX10_samples_31 rfl (lv_at hl 0 rfl)) ?_
    refine z_get C iX10 0 0 k7 rfl rfl (by decide) rfl rfl dX10_samples_32 rfl ?_
    refine Z.of (pc' := 36) (fun _ _ _ hl => lv_iload_n hx hb dX10_samples_35 rfl (lv_at hl 1 rfl)) ?_
    refine Z.of (pc' := 37) (fun _ _ _ _ => lv_iconst (v := 1) hx hb dX10_samples_36 (by decide)) ?_
    refine Z.of (pc' := 38) (fun _ _ _ hl => lv_iadd hx hb dX10_samples_37) ?_
    refine Z.topn (y := nI (b + 1)) (zi_c (zi_add (a := b) (b := 1) (rfl : nI b = nI b) (rfl : (1 : Int32) = nI 1)) (by omega)) ?_
    refine Z.of (pc' := 39) (fun _ _ _ _ => lv_iconst (v := 1) hx hb dX10_samples_38 (by decide)) ?_
    refine Z.of (pc' := 40) (fun _ _ _ hl => lv_iadd hx hb dX10_samples_39) ?_
    refine Z.topn (y := nI (b + 2)) (zi_c (zi_add (a := b + 1) (b := 1) (rfl : nI (b + 1) = nI (b + 1)) (rfl : (1 : Int32) = nI 1)) (by omega)) ?_
    refine z_iald C 1 1 rfl rfl (j := b + 2) (rfl : nI (b + 2) = nI (b + 2)) (by omega) (by decide) dX10_samples_40 rfl ?_
    refine Z.of (pc' := 42) (fun _ _ _ hl => lv_irem hx hb dX10_samples_41 ok3.2.1) ?_
    refine z_iast C 1 1 rfl rfl (j := b + 6) (rfl : nI (b + 6) = nI (b + 6)) (by omega) (by decide) dX10_samples_42 rfl (fun m11 => [(M 0, .inr (10, [.ref (M 1), .int (g 0), .ref (M 2), .int (g 1), .int (g 2), .int (g 3), .int (g 4), .int (g 5), .int (g 6)])), (M 1, .inl (T.2.2.1, 1099, .inl m11)), (M 2, .inl (T.2.2.2, 60, .inl t))]) (fun _ => rfl) (fun m11 em11 => ?_)
    have zh12 := zl_e zh8 em11
    refine Z.of (pc' := 52) (fun _ _ _ _ => lv_goto hx hb dX10_samples_43 (by decide)) ?_
    exact J6 m11 zh12.symm
