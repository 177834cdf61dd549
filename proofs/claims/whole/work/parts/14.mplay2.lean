theorem marker6 : True := trivial
theorem number_lpf (g m t : Nat → Int32) (j : Nat) (hj : j ≠ 2) : ∀ (q k : Nat) (v : Int32) (gx : Nat → Int32), gx j = g j → (lp7_X10_number g m t q k v gx).2 j = g j := by
  intro q
  induction q with
  | zero => intro k v gx h; exact rfl
  | succ q ih =>
    intro k v gx h
    rw [lp7_X10_number_s]
    split
    · split <;> exact h
    · split
      · split <;> exact h
      · refine zl_F (P := fun r : Int32 × (Nat → Int32) => r.2 j = g j) (fun u _ => ?_)
        split
        · split <;> exact h
        · exact ih _ _ _ (by rw [pk_un hj]; exact h)
theorem number_f (g m t : Nat → Int32) (j : Nat) (hj : j ≠ 2) : (f_X10_number g m t).2 j = g j := number_lpf g m t j hj _ _ _ _ rfl
theorem isNext_f (g m t : Nat → Int32) (ch : Int32) (j : Nat) (hj : j ≠ 2) : (f_X10_isNext g m t ch).2 j = g j := by
  unfold f_X10_isNext
  refine zl_F (P := fun r : Int32 × (Nat → Int32) => r.2 j = g j) (fun v2 e2 => ?_)
  refine zl_F (P := fun r : Int32 × (Nat → Int32) => r.2 j = g j) (fun v10 e10 => ?_)
  exact pk_un hj
theorem does_f (g m t : Nat → Int32) (j : Nat) (h2 : j ≠ 2) (h3 : j ≠ 3) (h4 : j ≠ 4) (h5 : j ≠ 5) : (f_X10_does g m t).2.1 j = g j := by
  unfold f_X10_does
  refine zl_F (P := fun r : Int32 × (Nat → Int32) × (Nat → Int32) => r.2.1 j = g j) (fun v2 e2 => ?_)
  refine zl_F (P := fun r : Int32 × (Nat → Int32) × (Nat → Int32) => r.2.1 j = g j) (fun v19 e19 => ?_)
  have q0 : (upd (upd g 2 (g 2 + v19)) 3 (g 2)) j = g j := by rw [pk_un h3, pk_un h2]
  generalize (upd (upd g 2 (g 2 + v19)) 3 (g 2)) = g0 at *
  refine zl_F (P := fun r : Int32 × (Nat → Int32) × (Nat → Int32) => r.2.1 j = g j) (fun v24 e24 => ?_)
  have q24 : v24.2 j = g j := by
    rw [e24]
    simp only [zl]
    (repeat' split) <;> first | exact q0 | exact (number_f _ m _ _ h2).trans q0
  refine zl_F (P := fun r : Int32 × (Nat → Int32) × (Nat → Int32) => r.2.1 j = g j) (fun v34 e34 => ?_)
  refine zl_F (P := fun r : Int32 × (Nat → Int32) × (Nat → Int32) => r.2.1 j = g j) (fun v42 e42 => ?_)
  have q42 : v42.2.2.2 j = g j := by
    rw [e42]
    split
    · exact q24
    · split
      · refine zl_F (P := fun r : Int32 × Int32 × Int32 × (Nat → Int32) => r.2.2.2 j = g j) (fun w1 f1 => ?_)
        have b1 : w1.2 j = g j := by rw [f1]; exact (isNext_f _ m _ _ _ h2).trans q24
        refine zl_F (P := fun r : Int32 × Int32 × Int32 × (Nat → Int32) => r.2.2.2 j = g j) (fun w2 f2 => ?_)
        have b2 : w2.2 j = g j := by
          rw [f2]
          split
          · exact b1
          · simp only [zl]
            exact (number_f _ m _ _ h2).trans b1
        refine zl_F (P := fun r : Int32 × Int32 × Int32 × (Nat → Int32) => r.2.2.2 j = g j) (fun w3 f3 => ?_)
        have b3 : w3.2 j = g j := by
          rw [f3]
          simp only [zl]
          (repeat' split) <;> first | exact b2 | exact (isNext_f _ m _ _ _ h2).trans b2
        refine zl_F (P := fun r : Int32 × Int32 × Int32 × (Nat → Int32) => r.2.2.2 j = g j) (fun w4 f4 => ?_)
        have b4 : w4.2 j = g j := by
          rw [f4]
          split
          · exact b3
          · simp only [zl]
            exact (number_f _ m _ _ h2).trans b3
        exact b4
      · exact q24
  refine zl_F (P := fun r : Int32 × (Nat → Int32) × (Nat → Int32) => r.2.1 j = g j) (fun v87 e87 => ?_)
  have q87 : v87.2 j = g j := by
    rw [e87]
    split
    · exact q42
    · simp only [zl]
      split
      · exact (isNext_f _ m _ _ _ h2).trans q42
      · exact (isNext_f _ m _ _ _ h2).trans q42
  split
  · show upd (upd v87.2 4 _) 5 _ j = g j
    rw [pk_un h5, pk_un h4]; exact q87
  · refine zl_F (P := fun r : Int32 × (Nat → Int32) × (Nat → Int32) => r.2.1 j = g j) (fun v100 e100 => ?_)
    refine zl_F (P := fun r : Int32 × (Nat → Int32) × (Nat → Int32) => r.2.1 j = g j) (fun v141 _ => ?_)
    split
    · show upd (upd v87.2 4 _) 5 _ j = g j
      rw [pk_un h5, pk_un h4]; exact q87
    · show upd (upd v87.2 4 _) 5 _ j = g j
      rw [pk_un h5, pk_un h4]; exact q87
/-- what plays leaves of the numbers and of the other slots -/
def PlaysS (g m : Nat → Int32) (r : Int32 × (Nat → Int32) × (Nat → Int32)) : Prop := r.2.1 0 = g 0 ∧ r.2.1 1 = g 1 ∧ (∀ j, j < 942 → r.2.2 j = m j)
theorem plays_lpS (g m t : Nat → Int32) : ∀ (q : Nat) (gn : Int32) (gx mx : Nat → Int32), At gx → MOk mx 942 → gx 0 = g 0 → gx 1 = g 1 → (∀ j, j < 942 → mx j = m j) → PlaysS g m (lp24_X10_plays g m t q gn gx mx) := by
  intro q
  induction q with
  | zero => intro gn gx mx h1 h2 h3 h4 h5; exact ⟨rfl, rfl, fun _ _ => rfl⟩
  | succ q ih =>
    intro gn gx mx ha ok h3 h4 h5
    rw [lp24_X10_plays_s]
    split
    · exact ⟨h3, h4, h5⟩
    · split
      · exact ⟨h3, h4, h5⟩
      · rename_i c1
        refine zl_F (P := fun r => PlaysS g m r) (fun u e => ?_)
        have hS := does_S (t := t) ha (At_lt ha c1) ok
        rw [← e] at hS
        have f0 : u.2.1 0 = gx 0 := by rw [e]; exact does_f _ _ _ _ (by decide) (by decide) (by decide) (by decide)
        refine zl_F (P := fun r => PlaysS g m r) (fun v _ => ?_)
        refine ih _ _ _ (At_0 hS.1 rfl rfl) hS.2.2.2.1 (f0.trans h3) (hS.2.1.trans h4) (fun j hj => (hS.2.2.2.2 j (Or.inl hj)).trans (h5 j hj))
theorem plays_S {g m t : Nat → Int32} (htn : IN (g 1) 60) (ok : MOk m 0) : PlaysS g m (f_X10_plays g m t) := by
  unfold f_X10_plays
  refine zl_F (P := fun r => PlaysS g m r) (fun u e => ?_)
  refine plays_lpS g m t _ _ _ _ (plays_At htn rfl rfl) (MOk_copies (fr := 0) (tw := 6) ok (by decide) e) rfl rfl (fun j hj => ?_)
  rw [e]
  exact copies_fr _ _ _ _ _ _ (by decide) (by omega)
theorem plays_g0 {g m t : Nat → Int32} (htn : IN (g 1) 60) (ok : MOk m 0) : (f_X10_plays g m t).2.1 0 = g 0 := (plays_S htn ok).1
def f_X10_play (g : Nat → Int32) (m : Nat → Int32) (t : Nat → Int32) : Int32 × (Nat → Int32) × (Nat → Int32) :=
  zl (f_X10_plays g m t) fun u1 =>
  if u1.1 = 0 then
    ((-1000002), u1.2.1, u1.2.2)
  else
    zl (f_X10_records u1.2.1 u1.2.2 t) fun u6 =>
    zl (f_X10_copies u6.1 u6.2 t 6 0) fun u8 =>
    (u6.1 6, u6.1, u8)
theorem fe_X10_play (g : Nat → Int32) (m : Nat → Int32) (t : Nat → Int32) : f_X10_play g m t = (
    zl (f_X10_plays g m t) fun u1 =>
    if u1.1 = 0 then
      ((-1000002), u1.2.1, u1.2.2)
    else
      zl (f_X10_records u1.2.1 u1.2.2 t) fun u6 =>
      zl (f_X10_copies u6.1 u6.2 t 6 0) fun u8 =>
      (u6.1 6, u6.1, u8)
    ) := rfl
abbrev rm_X10_play : Room := { frames := 6, cells := 0, slots := 0, locals := 141 }
set_option maxHeartbeats 1000000 in
set_option maxRecDepth 100000 in
theorem c_X10_play (l : Launch) (T : zT) (M : Nat → Nat) (g : Nat → Int32) (m : Nat → Int32) (t : Nat → Int32) (hns0 : IN (g 0) 4) (htn0 : IN (g 1) 60) (ok0 : MOk m 0) : Ci l yX10_play wsX10_play rm_X10_play T .int [.ref (M 0)] [(M 0, .inr (10, [.ref (M 1), .int (g 0), .ref (M 2), .int (g 1), .int (g 2), .int (g 3), .int (g 4), .int (g 5), .int (g 6)])), (M 1, .inl (T.2.2.1, 1099, .inl m)), (M 2, .inl (T.2.2.2, 60, .inl t))] (S := Int32 × (Nat → Int32) × (Nat → Int32)) (f_X10_play g m t) (fun u => u.1) (fun u => [(M 0, .inr (10, [.ref (M 1), .int (u.2.1 0), .ref (M 2), .int (u.2.1 1), .int (u.2.1 2), .int (u.2.1 3), .int (u.2.1 4), .int (u.2.1 5), .int (u.2.1 6)])), (M 1, .inl (T.2.2.1, 1099, .inl u.2.2)), (M 2, .inl (T.2.2.2, 60, .inl t))]) := by
  refine z_metI (own := RX10) (maxL := 1) rfl (by decide) rfl (Nat.le_of_ble_eq_true rfl) ?_
  intro P0 E0 S0 M0 G0 B0 T0 K0 A9 Q9 C E
  have hx := C.1.1
  have hb := C.1.2.1
  have hown := C.1.2.2.2.1
  have hts := C.1.2.2.2.2
  have hn := C.2.1.2
  have iX10 : ∀ w ∈ u_ws RX10 TX10 9, w ∈ wsX10_play := by decide +kernel
  have k108 := hts (.fieldLink RX10 108 "JudgedBitsModel" "orders" "I") (by decide +kernel)
  change Z P0 l E0 rm_X10_play S0 M0 G0 B0 T0 K0 1 T A9 Q9 0 0 [(M 0, .inr (10, [.ref (M 1), .int (g 0), .ref (M 2), .int (g 1), .int (g 2), .int (g 3), .int (g 4), .int (g 5), .int (g 6)])), (M 1, .inl (T.2.2.1, 1099, .inl m)), (M 2, .inl (T.2.2.2, 60, .inl t))] 0 [(0, .ref (M 0))] []
  have zh0 := fe_X10_play g m t
  refine Z.of (pc' := 1) (fun _ _ _ hl => lv_aload_n hx hb dX10_play_0 rfl (lv_at hl 0 rfl)) ?_
  refine z_callVi C (c_X10_plays l T M g m t htn0 ok0) [0, 1, 2] [] rfl (by decide +kernel) (fun u1 => [(M 0, .inr (10, [.ref (M 1), .int (u1.2.1 0), .ref (M 2), .int (u1.2.1 1), .int (u1.2.1 2), .int (u1.2.1 3), .int (u1.2.1 4), .int (u1.2.1 5), .int (u1.2.1 6)])), (M 1, .inl (T.2.2.1, 1099, .inl u1.2.2)), (M 2, .inl (T.2.2.2, 60, .inl t))]) (fun _ => rfl) [] rfl (fun _ => rfl) [M 0, M 1, M 2] rfl (fun _ => rfl) 3 (fun _ => rfl) (by decide +kernel) (cwV 0 hts gX10_play_X10_plays rfl rfl rfl (by decide +kernel) ⟨Nat.le_of_ble_eq_true rfl, Nat.le_of_ble_eq_true rfl⟩) 0 rfl rfl rfl (As := []) (rest := []) rfl rfl (Nat.le_of_ble_eq_true rfl) dX10_play_1 rfl ⟨Nat.zero_le _, Nat.zero_le _⟩ (fun u1 eu1 bu1 => ?_)
  have zh2 := zl_e zh0 eu1
  refine Z.two' (pt := 10) (pf := 7) (fun _ _ _ _ => lv_if_ne hx hb dX10_play_4 (by decide)) (fun c3 => ?_) (fun c3 => ?_)
  · have zh4 := zh2.trans (if_neg c3)
    refine Z.of (pc' := 11) (fun _ _ _ hl => lv_aload_n hx hb dX10_play_10 rfl (lv_at hl 0 rfl)) ?_
    refine z_callVv C (c_X10_records l T M u1.2.1 u1.2.2 t (by rw [eu1, plays_g0 htn0 ok0]; exact hns0)) [0, 1, 2] [] rfl (by decide +kernel) (fun u6 => [(M 0, .inr (10, [.ref (M 1), .int (u6.1 0), .ref (M 2), .int (u6.1 1), .int (u6.1 2), .int (u6.1 3), .int (u6.1 4), .int (u6.1 5), .int (u6.1 6)])), (M 1, .inl (T.2.2.1, 1099, .inl u6.2)), (M 2, .inl (T.2.2.2, 60, .inl t))]) (fun _ => rfl) [] rfl (fun _ => rfl) [M 0, M 1, M 2] rfl (fun _ => rfl) 3 (fun _ => rfl) (by decide +kernel) (cwV 0 hts gX10_play_X10_records rfl rfl rfl (by decide +kernel) ⟨Nat.le_of_ble_eq_true rfl, Nat.le_of_ble_eq_true rfl⟩) 0 rfl rfl rfl (As := []) (rest := []) rfl rfl (Nat.le_of_ble_eq_true rfl) dX10_play_11 rfl ⟨Nat.zero_le _, Nat.zero_le _⟩ (fun u6 eu6 => ?_)
    have zh7 := zl_e zh4 eu6
    refine Z.of (pc' := 15) (fun _ _ _ hl => lv_aload_n hx hb dX10_play_14 rfl (lv_at hl 0 rfl)) ?_
    refine Z.of (pc' := 17) (fun _ _ _ _ => lv_bipush (v := 6) hx hb dX10_play_15 (by decide)) ?_
    refine Z.of (pc' := 18) (fun _ _ _ _ => lv_iconst (v := 0) hx hb dX10_play_17 (by decide)) ?_
    refine z_callVv C (c_X10_copies l T M u6.1 u6.2 t 6 0 (by omega) (by omega)) [0, 1, 2] [] rfl (by decide +kernel) (fun u8 => [(M 0, .inr (10, [.ref (M 1), .int (u6.1 0), .ref (M 2), .int (u6.1 1), .int (u6.1 2), .int (u6.1 3), .int (u6.1 4), .int (u6.1 5), .int (u6.1 6)])), (M 1, .inl (T.2.2.1, 1099, .inl u8)), (M 2, .inl (T.2.2.2, 60, .inl t))]) (fun _ => rfl) [] rfl (fun _ => rfl) [M 0, M 1, M 2] rfl (fun _ => rfl) 3 (fun _ => rfl) (by decide +kernel) (cwV 2 hts gX10_play_X10_copies rfl rfl rfl (by decide +kernel) ⟨Nat.le_of_ble_eq_true rfl, Nat.le_of_ble_eq_true rfl⟩) 0 rfl rfl rfl (As := [.int 6, .int 0]) (rest := []) rfl rfl (Nat.le_of_ble_eq_true rfl) dX10_play_18 rfl ⟨Nat.zero_le _, Nat.zero_le _⟩ (fun u8 eu8 => ?_)
    have zh9 := zl_e zh7 eu8
    refine Z.of (pc' := 22) (fun _ _ _ hl => lv_aload_n hx hb dX10_play_21 rfl (lv_at hl 0 rfl)) ?_
    refine z_get C iX10 0 8 k108 rfl rfl (by decide) rfl rfl dX10_play_22 rfl ?_
    exact E (u6.1 6, u6.1, u8) _ _ _ _ dX10_play_25 rfl rfl rfl zh9
  · have zh5 := zh2.trans (if_pos c3)
    refine Z.of (pc' := 9) (fun _ _ _ _ => lv_ldc hx hb hown (hts (.constant RX10 60 (-1000002)) (by decide +kernel)) dX10_play_7) ?_
    exact E ((-1000002), u1.2.1, u1.2.2) _ _ _ _ dX10_play_9 rfl rfl rfl zh5
