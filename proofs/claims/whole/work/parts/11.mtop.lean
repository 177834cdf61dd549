theorem marker3 : True := trivial
theorem copies_lp (g m t : Nat → Int32) (fr tw : Nat) (hne : fr ≠ tw) : ∀ (q k : Nat) (mx : Nat → Int32), k ≤ 157 → k + q = 158 → (∀ j, mx j = if 157 * tw ≤ j ∧ j < 157 * tw + k then m (157 * fr + (j - 157 * tw)) else m j) → ∀ j, lp2_X10_copies g m t fr tw q k mx j = if 157 * tw ≤ j ∧ j < 157 * tw + 157 then m (157 * fr + (j - 157 * tw)) else m j := by
  intro q
  induction q with
  | zero => intro k mx h1 h2; omega
  | succ q ih =>
    intro k mx h1 h2 hm j
    rw [lp2_X10_copies_s]
    by_cases hc : 157 ≤ k
    · rw [if_pos (show (157 : Int32) ≤ nI k from (nI_leI (a := 157) (by decide) (by omega)).mpr hc)]
      have hk : k = 157 := by omega
      rw [hm, hk]
    · rw [if_neg (show ¬ (157 : Int32) ≤ nI k from fun h => hc ((nI_leI (a := 157) (by decide) (by omega)).mp h))]
      simp only [zl]
      refine ih (k + 1) _ (by omega) (by omega) (fun j => ?_) j
      by_cases j1 : j = 157 * tw + k
      · subst j1
        rw [pk_us, if_pos (by omega), hm, if_neg (by omega)]
        congr 1
        omega
      · rw [pk_un j1, hm]
        by_cases j2 : 157 * tw ≤ j ∧ j < 157 * tw + k
        · rw [if_pos j2, if_pos (by omega)]
        · rw [if_neg j2, if_neg (by omega)]
theorem copies_spec (g m t : Nat → Int32) (fr tw : Nat) (hne : fr ≠ tw) (j : Nat) : f_X10_copies g m t fr tw j = if 157 * tw ≤ j ∧ j < 157 * tw + 157 then m (157 * fr + (j - 157 * tw)) else m j :=
  copies_lp g m t fr tw hne _ _ _ (by decide) (by decide) (fun j => by rw [if_neg (by omega)]) j
theorem copies_at (g m t : Nat → Int32) (fr tw k : Nat) (hne : fr ≠ tw) (hk : k < 157) : f_X10_copies g m t fr tw (157 * tw + k) = m (157 * fr + k) := by
  rw [copies_spec _ _ _ _ _ hne, if_pos (by omega)]
  congr 1
  omega
theorem copies_fr (g m t : Nat → Int32) (fr tw j : Nat) (hne : fr ≠ tw) (hj : j < 157 * tw ∨ 157 * tw + 157 ≤ j) : f_X10_copies g m t fr tw j = m j := by
  rw [copies_spec _ _ _ _ _ hne, if_neg (by omega)]
theorem MOk_copies {g m t u : Nat → Int32} {fr tw : Nat} (ok : MOk m (157 * fr)) (hne : fr ≠ tw) (e : u = f_X10_copies g m t fr tw) : MOk u (157 * tw) := by
  unfold MOk at ok ⊢
  rw [e, copies_at _ _ _ _ _ _ hne (by decide), copies_at _ _ _ _ _ _ hne (by decide), copies_at _ _ _ _ _ _ hne (by decide), copies_at _ _ _ _ _ _ hne (by decide), copies_at _ _ _ _ _ _ hne (by decide), copies_at _ _ _ _ _ _ hne (by decide)]
  exact ok
theorem records_lp_fr (g m t : Nat → Int32) (j : Nat) (hj : j < 157) : ∀ (q k : Nat) (mx : Nat → Int32), mx j = m j → 1 ≤ k → k ≤ 4 → (lp10_X10_records g m t q k mx).2 j = m j := by
  intro q
  induction q with
  | zero => intro k mx hm h1 h2; exact rfl
  | succ q ih =>
    intro k mx hm h1 h2
    rw [lp10_X10_records_s]
    split
    · simp only [zl]
      rw [copies_fr _ _ _ _ _ _ (by decide) (by omega)]
      exact hm
    · rename_i hc
      have hc2 : ¬ 4 ≤ k := fun h => hc ((nI_leI (a := 4) (by decide) (by omega)).mpr h)
      simp only [zl]
      refine ih (k + 1) _ ?_ (by omega) (by omega)
      rw [copies_fr _ _ _ _ _ _ (by omega) (by omega)]
      exact hm
theorem records_fr (g m t : Nat → Int32) (hns : IN (g 0) 4) (j : Nat) (hj : j < 157) : (f_X10_records g m t).2 j = m j := by
  unfold f_X10_records
  split
  · exact records_lp_fr g m t j hj _ _ _ rfl (by decide) (by decide)
  · simp only [zl]
    rw [copies_fr _ _ _ _ _ _ (by omega) (by omega)]
theorem MOk_records0 {g m t : Nat → Int32} {u : (Nat → Int32) × (Nat → Int32)} (ok : MOk m 0) (hns : IN (g 0) 4) (e : u = f_X10_records g m t) : MOk u.2 0 :=
  MOk_of ok (fun j hj => by rw [e]; exact records_fr _ _ _ hns _ (by omega))
theorem sets_fr (g m t : Nat → Int32) (slot : Nat) (ring period jitter : Int32) (j : Nat) (hj : j ≤ 157 * slot ∨ 157 * slot + 6 < j) : (f_X10_sets g m t slot ring period jitter).2 j = m j := by
  unfold f_X10_sets
  refine zl_F (P := fun r : Int32 × (Nat → Int32) => r.2 j = m j) (fun u1 e1 => ?_)
  split
  · rfl
  rename_i c1
  have hr := (zix_of (N := 1) (zin_of e1 c1) (by decide)).2
  refine zl_F (P := fun r : Int32 × (Nat → Int32) => r.2 j = m j) (fun u2 _ => ?_)
  split
  · rfl
  refine zl_F (P := fun r : Int32 × (Nat → Int32) => r.2 j = m j) (fun u3 _ => ?_)
  split
  · rfl
  simp only [zl]
  rw [pk_un (by omega), pk_un (by omega), pk_un (by omega)]
theorem MOk_sets {g m t : Nat → Int32} {u : Int32 × (Nat → Int32)} {slot : Nat} {ring period jitter : Int32} (ok : MOk m (157 * slot)) (e : u = f_X10_sets g m t slot ring period jitter) : MOk u.2 (157 * slot) := by
  have h28 : u.2 (157 * slot + 28) = m (157 * slot + 28) := by rw [e]; exact sets_fr _ _ _ _ _ _ _ _ (by omega)
  have h18 : u.2 (157 * slot + 18) = m (157 * slot + 18) := by rw [e]; exact sets_fr _ _ _ _ _ _ _ _ (by omega)
  unfold MOk at ok ⊢
  rw [h28, h18]
  suffices h : ¬ u.2 (157 * slot + 1) = 0 ∧ ¬ u.2 (157 * slot + 2) = 0 ∧ ¬ u.2 (157 * slot + 3) + 1 = 0 ∧ ¬ u.2 (157 * slot + 4) + 1 = 0 from ⟨h.1, h.2.1, h.2.2.1, h.2.2.2, ok.2.2.2.2⟩
  rw [e]
  unfold f_X10_sets
  refine zl_F (P := fun r : Int32 × (Nat → Int32) => ¬ r.2 (157 * slot + 1) = 0 ∧ ¬ r.2 (157 * slot + 2) = 0 ∧ ¬ r.2 (157 * slot + 3) + 1 = 0 ∧ ¬ r.2 (157 * slot + 4) + 1 = 0) (fun u1 e1 => ?_)
  have ok4 := And.intro ok.1 (And.intro ok.2.1 (And.intro ok.2.2.1 ok.2.2.2.1))
  split
  · exact ok4
  rename_i c1
  have hr := (zix_of (N := 1) (zin_of e1 c1) (by decide)).2
  refine zl_F (P := fun r : Int32 × (Nat → Int32) => ¬ r.2 (157 * slot + 1) = 0 ∧ ¬ r.2 (157 * slot + 2) = 0 ∧ ¬ r.2 (157 * slot + 3) + 1 = 0 ∧ ¬ r.2 (157 * slot + 4) + 1 = 0) (fun u2 e2 => ?_)
  split
  · exact ok4
  rename_i c2
  have hp := zin_of e2 c2
  refine zl_F (P := fun r : Int32 × (Nat → Int32) => ¬ r.2 (157 * slot + 1) = 0 ∧ ¬ r.2 (157 * slot + 2) = 0 ∧ ¬ r.2 (157 * slot + 3) + 1 = 0 ∧ ¬ r.2 (157 * slot + 4) + 1 = 0) (fun u3 e3 => ?_)
  split
  · exact ok4
  rename_i c3
  have hj := zin_of e3 c3
  have hp0 : ¬ period = 0 := fun h => absurd (h ▸ hp.1) (by decide)
  have hj0 : ¬ jitter + 1 = 0 := by
    obtain ⟨k, hk, rfl⟩ := nI_of (Int32.not_lt.mpr hj.1)
    have hk2 := (nI_leI hk (b := 99) (by decide)).mp hj.2
    rw [nI_1]
    exact nI_ne0 (by omega) (by omega)
  simp only [zl]
  generalize ring.toNatClampNeg = r at hr ⊢
  have hr2 : r = 0 ∨ r = 1 := by omega
  rcases hr2 with rfl | rfl
  · refine ⟨?_, ?_, ?_, ?_⟩
    · rw [pk_un (by omega), pk_un (by omega), pk_us]; exact hp0
    · rw [pk_un (by omega), pk_un (by omega), pk_un (by omega)]; exact ok.2.1
    · rw [pk_un (by omega), pk_us]; exact hj0
    · rw [pk_un (by omega), pk_un (by omega), pk_un (by omega)]; exact ok.2.2.2.1
  · refine ⟨?_, ?_, ?_, ?_⟩
    · rw [pk_un (by omega), pk_un (by omega), pk_un (by omega)]; exact ok.1
    · rw [pk_un (by omega), pk_un (by omega), pk_us]; exact hp0
    · rw [pk_un (by omega), pk_un (by omega), pk_un (by omega)]; exact ok.2.2.1
    · rw [pk_un (by omega), pk_us]; exact hj0
theorem samples_fr (g m t : Nat → Int32) (b : Nat) (ok0 : MOk m b) (j : Nat) (hj : j < b ∨ b + 157 ≤ j) : f_X10_samples g m t b j = m j := by
  unfold f_X10_samples
  refine zl_F (P := fun r : Nat → Int32 => r j = m j) (fun u1 e1 => ?_)
  have ok3 := MOk_runs ok0 (by decide) e1
  have q1 : u1 j = m j := by rw [e1]; exact runs_fr _ _ _ _ _ _ (by omega) (by omega)
  refine zl_F (P := fun r : Nat → Int32 => r j = m j) (fun u3 _ => ?_)
  refine zl_F (P := fun r : Nat → Int32 => r j = m j) (fun v6 e6 => ?_)
  have ok52 : MOk v6 b ∧ v6 j = m j := by
    rw [e6]
    split
    · simp only [zl]
      exact ⟨MOk_runs ok3 (by decide) rfl, by rw [runs_fr _ _ _ _ _ _ (by omega) (by omega)]; exact q1⟩
    · simp only [zl]
      exact ⟨MOk_upd ok3 (by omega) rfl, by rw [pk_un (by omega)]; exact q1⟩
  refine zl_F (P := fun r : Nat → Int32 => r j = m j) (fun u14 _ => ?_)
  refine zl_F (P := fun r : Nat → Int32 => r j = m j) (fun u16 _ => ?_)
  refine zl_F (P := fun r : Nat → Int32 => r j = m j) (fun v19 _ => ?_)
  refine zl_F (P := fun r : Nat → Int32 => r j = m j) (fun m23 e23 => ?_)
  have ok23 := MOk_upd ok52.1 (by omega) e23
  refine zl_F (P := fun r : Nat → Int32 => r j = m j) (fun m25 e25 => ?_)
  have ok25 := MOk_upd ok23 (by omega) e25
  have q25 : m25 j = m j := by rw [e25, pk_un (by omega), e23, pk_un (by omega)]; exact ok52.2
  refine zl_F (P := fun r : Nat → Int32 => r j = m j) (fun u27 e27 => ?_)
  have ok27 := MOk_keeps ok25 e27
  have q27 : u27 j = m j := by rw [e27, keeps_spec _ _ _ _ _ ok25.2.2.2.2.1, keepsS, if_neg (by omega), if_neg (by omega)]; exact q25
  split
  · exact q27
  refine zl_F (P := fun r : Nat → Int32 => r j = m j) (fun u32 e32 => ?_)
  have ok32 := MOk_tests ok27 e32
  have q32 : u32.2 j = m j := by rw [e32, tests_fr _ _ _ _ _ _ (by omega)]; exact q27
  split
  · split
    · simp only [zl]
      rw [pk_un (by omega), pk_un (by omega)]
      exact q32
    · simp only [zl]
      rw [takesOne_fr _ _ _ _ _ ok32.2.2.2.2.2 _ (by omega)]
      exact q32
  · simp only [zl]
    rw [pk_un (by omega), pk_un (by omega), pk_un (by omega), pk_un (by omega)]
    exact q32
theorem makes_lp_fr (g m t : Nat → Int32) (slot : Nat) (many : Int32) (j : Nat) (hj : j < 157 * slot ∨ 157 * slot + 157 ≤ j) : ∀ (q k : Nat) (mx : Nat → Int32), MOk mx (157 * slot) → mx j = m j → (lp20_X10_makes g m t slot many q k mx).2 j = m j := by
  intro q
  induction q with
  | zero => intro k mx ok hm; exact rfl
  | succ q ih =>
    intro k mx ok hm
    rw [lp20_X10_makes_s]
    split
    · exact hm
    · simp only [zl]
      exact ih _ _ (MOk_samples ok rfl) (by rw [samples_fr _ _ _ _ ok _ hj]; exact hm)
theorem makes_fr (g m t : Nat → Int32) (slot : Nat) (many : Int32) (ok : MOk m (157 * slot)) (j : Nat) (hj : j < 157 * slot ∨ 157 * slot + 157 ≤ j) : (f_X10_makes g m t slot many).2 j = m j :=
  makes_lp_fr g m t slot many j hj _ _ _ ok rfl
theorem MOk_best {g m t u1 : Nat → Int32} {u2 u3 : Int32 × (Nat → Int32)} {r p q : Int32} {n : Int32} (ok : MOk m 0) (e1 : u1 = f_X10_copies g m t 0 5) (e2 : u2 = f_X10_sets g u1 t 5 r p q) (e3 : u3 = f_X10_makes g u2.2 t 5 n) : MOk u3.2 0 := by
  have ok1 : MOk u1 (157 * 5) := MOk_copies (fr := 0) (tw := 5) ok (by decide) e1
  have ok2 : MOk u2.2 (157 * 5) := MOk_sets ok1 e2
  refine MOk_of ok (fun j hj => ?_)
  rw [e3, makes_fr _ _ _ _ _ ok2 _ (by omega), e2, sets_fr _ _ _ _ _ _ _ _ (by omega), e1, copies_fr _ _ _ _ _ _ (by decide) (by omega)]
def f_X10_ring (g : Nat → Int32) (m : Nat → Int32) (t : Nat → Int32) (ring : Int32) (period : Int32) (jitter : Int32) : Int32 × (Nat → Int32) × (Nat → Int32) :=
  zl (f_X10_copies g m t 0 5) fun u1 =>
  zl (f_X10_sets g u1 t 5 ring period jitter) fun u3 =>
  zl (
    if u3.1 < 0 then
      (g, u3.2)
    else
      zl (f_X10_records g u3.2 t) fun u9 =>
      zl (f_X10_copies u9.1 u9.2 t 5 0) fun u11 =>
      (u9.1, u11)
    : (Nat → Int32) × (Nat → Int32)) fun v6 =>
  (u3.1, v6.1, v6.2)
theorem fe_X10_ring (g : Nat → Int32) (m : Nat → Int32) (t : Nat → Int32) (ring : Int32) (period : Int32) (jitter : Int32) : f_X10_ring g m t ring period jitter = (
    zl (f_X10_copies g m t 0 5) fun u1 =>
    zl (f_X10_sets g u1 t 5 ring period jitter) fun u3 =>
    zl (
      if u3.1 < 0 then
        (g, u3.2)
      else
        zl (f_X10_records g u3.2 t) fun u9 =>
        zl (f_X10_copies u9.1 u9.2 t 5 0) fun u11 =>
        (u9.1, u11)
      : (Nat → Int32) × (Nat → Int32)) fun v6 =>
    (u3.1, v6.1, v6.2)
    ) := rfl
abbrev rm_X10_ring : Room := { frames := 2, cells := 0, slots := 0, locals := 48 }
set_option maxHeartbeats 1000000 in
set_option maxRecDepth 100000 in
theorem c_X10_ring (l : Launch) (T : zT) (M : Nat → Nat) (g : Nat → Int32) (m : Nat → Int32) (t : Nat → Int32) (ring : Int32) (period : Int32) (jitter : Int32) (hns0 : IN (g 0) 4) : Ci l yX10_ring wsX10_ring rm_X10_ring T .int [.ref (M 0), .int ring, .int period, .int jitter] [(M 0, .inr (10, [.ref (M 1), .int (g 0), .ref (M 2), .int (g 1), .int (g 2), .int (g 3), .int (g 4), .int (g 5), .int (g 6)])), (M 1, .inl (T.2.2.1, 1099, .inl m)), (M 2, .inl (T.2.2.2, 60, .inl t))] (S := Int32 × (Nat → Int32) × (Nat → Int32)) (f_X10_ring g m t ring period jitter) (fun u => u.1) (fun u => [(M 0, .inr (10, [.ref (M 1), .int (u.2.1 0), .ref (M 2), .int (u.2.1 1), .int (u.2.1 2), .int (u.2.1 3), .int (u.2.1 4), .int (u.2.1 5), .int (u.2.1 6)])), (M 1, .inl (T.2.2.1, 1099, .inl u.2.2)), (M 2, .inl (T.2.2.2, 60, .inl t))]) := by
  refine z_metI (own := RX10) (maxL := 5) rfl (by decide) rfl (Nat.le_of_ble_eq_true rfl) ?_
  intro P0 E0 S0 M0 G0 B0 T0 K0 A9 Q9 C E
  have hx := C.1.1
  have hb := C.1.2.1
  have hown := C.1.2.2.2.1
  have hts := C.1.2.2.2.2
  have hn := C.2.1.2
  change Z P0 l E0 rm_X10_ring S0 M0 G0 B0 T0 K0 5 T A9 Q9 0 0 [(M 0, .inr (10, [.ref (M 1), .int (g 0), .ref (M 2), .int (g 1), .int (g 2), .int (g 3), .int (g 4), .int (g 5), .int (g 6)])), (M 1, .inl (T.2.2.1, 1099, .inl m)), (M 2, .inl (T.2.2.2, 60, .inl t))] 0 [(0, .ref (M 0)), (1, .int ring), (2, .int period), (3, .int jitter)] []
  have zh0 := fe_X10_ring g m t ring period jitter
  refine Z.of (pc' := 1) (fun _ _ _ hl => lv_aload_n hx hb dX10_ring_0 rfl (lv_at hl 0 rfl)) ?_
  refine Z.of (pc' := 2) (fun _ _ _ _ => lv_iconst (v := 0) hx hb dX10_ring_1 (by decide)) ?_
  refine Z.of (pc' := 3) (fun _ _ _ _ => lv_iconst (v := 5) hx hb dX10_ring_2 (by decide)) ?_
  refine z_callVv C (c_X10_copies l T M g m t 0 5 (by omega) (by omega)) [0, 1, 2] [] rfl (by decide +kernel) (fun u1 => [(M 0, .inr (10, [.ref (M 1), .int (g 0), .ref (M 2), .int (g 1), .int (g 2), .int (g 3), .int (g 4), .int (g 5), .int (g 6)])), (M 1, .inl (T.2.2.1, 1099, .inl u1)), (M 2, .inl (T.2.2.2, 60, .inl t))]) (fun _ => rfl) [] rfl (fun _ => rfl) [M 0, M 1, M 2] rfl (fun _ => rfl) 3 (fun _ => rfl) (by decide +kernel) (cwV 2 hts gX10_ring_X10_copies rfl rfl rfl (by decide +kernel) ⟨Nat.le_of_ble_eq_true rfl, Nat.le_of_ble_eq_true rfl⟩) 0 rfl rfl rfl (As := [.int 0, .int 5]) (rest := []) rfl rfl (Nat.le_of_ble_eq_true rfl) dX10_ring_3 rfl ⟨Nat.zero_le _, Nat.zero_le _⟩ (fun u1 eu1 => ?_)
  have zh2 := zl_e zh0 eu1
  refine Z.of (pc' := 7) (fun _ _ _ hl => lv_aload_n hx hb dX10_ring_6 rfl (lv_at hl 0 rfl)) ?_
  refine Z.of (pc' := 8) (fun _ _ _ _ => lv_iconst (v := 5) hx hb dX10_ring_7 (by decide)) ?_
  refine Z.of (pc' := 9) (fun _ _ _ hl => lv_iload_n hx hb dX10_ring_8 rfl (lv_at hl 1 rfl)) ?_
  refine Z.of (pc' := 10) (fun _ _ _ hl => lv_iload_n hx hb dX10_ring_9 rfl (lv_at hl 2 rfl)) ?_
  refine Z.of (pc' := 11) (fun _ _ _ hl => lv_iload_n hx hb dX10_ring_10 rfl (lv_at hl 3 rfl)) ?_
  refine z_callVi C (c_X10_sets l T M g u1 t 5 ring period jitter (by omega)) [0, 1, 2] [] rfl (by decide +kernel) (fun u3 => [(M 0, .inr (10, [.ref (M 1), .int (g 0), .ref (M 2), .int (g 1), .int (g 2), .int (g 3), .int (g 4), .int (g 5), .int (g 6)])), (M 1, .inl (T.2.2.1, 1099, .inl u3.2)), (M 2, .inl (T.2.2.2, 60, .inl t))]) (fun _ => rfl) [] rfl (fun _ => rfl) [M 0, M 1, M 2] rfl (fun _ => rfl) 3 (fun _ => rfl) (by decide +kernel) (cwV 4 hts gX10_ring_X10_sets rfl rfl rfl (by decide +kernel) ⟨Nat.le_of_ble_eq_true rfl, Nat.le_of_ble_eq_true rfl⟩) 0 rfl rfl rfl (As := [.int 5, .int ring, .int period, .int jitter]) (rest := []) rfl rfl (Nat.le_of_ble_eq_true rfl) dX10_ring_11 rfl ⟨Nat.zero_le _, Nat.zero_le _⟩ (fun u3 eu3 bu3 => ?_)
  have zh4 := zl_e zh2 eu3
  refine Z.sto (pc' := 16) (lv' := [(4, .int u3.1), (0, .ref (M 0)), (1, .int ring), (2, .int period), (3, .int jitter)]) (fun _ _ _ hl => lv_istore (lv' := [(4, .int u3.1), (0, .ref (M 0)), (1, .int ring), (2, .int period), (3, .int jitter)]) hx hb dX10_ring_14 hl (by decide) rfl) ?_
  refine Z.of (pc' := 18) (fun _ _ _ hl => lv_iload hx hb dX10_ring_16 (lv_at hl 0 rfl)) ?_
  have J6 : ∀ v6 : (Nat → Int32) × (Nat → Int32), v6 = (
      if u3.1 < 0 then
        (g, u3.2)
      else
        zl (f_X10_records g u3.2 t) fun u9 =>
        zl (f_X10_copies u9.1 u9.2 t 5 0) fun u11 =>
        (u9.1, u11)
      ) → Z P0 l E0 rm_X10_ring S0 M0 G0 B0 T0 K0 5 T A9 Q9 0 0 [(M 0, .inr (10, [.ref (M 1), .int (v6.1 0), .ref (M 2), .int (v6.1 1), .int (v6.1 2), .int (v6.1 3), .int (v6.1 4), .int (v6.1 5), .int (v6.1 6)])), (M 1, .inl (T.2.2.1, 1099, .inl v6.2)), (M 2, .inl (T.2.2.2, 60, .inl t))] 31 [(4, .int u3.1)] [] := by
    intro v6 ev6
    have zh13 := zl_e zh4 ev6
    refine Z.of (pc' := 33) (fun _ _ _ hl => lv_iload hx hb dX10_ring_31 (lv_at hl 0 rfl)) ?_
    exact E (u3.1, v6.1, v6.2) _ _ _ _ dX10_ring_33 rfl rfl rfl zh13
  have zr6 := @Eq.refl ((Nat → Int32) × (Nat → Int32)) (
      if u3.1 < 0 then
        (g, u3.2)
      else
        zl (f_X10_records g u3.2 t) fun u9 =>
        zl (f_X10_copies u9.1 u9.2 t 5 0) fun u11 =>
        (u9.1, u11)
      )
  refine Z.two (pt := 31) (pf := 21) (fun _ _ _ _ => lv_if_lt hx hb dX10_ring_18 (by decide)) (fun c5 => ?_) (fun c5 => ?_)
  · have zh7 := zr6.trans (if_pos c5)
    exact Z.sub (ks := [0]) (lv' := [(4, .int u3.1)]) rfl (J6 (g, u3.2) zh7.symm)
  · have zh8 := zr6.trans (if_neg c5)
    refine Z.of (pc' := 22) (fun _ _ _ hl => lv_aload_n hx hb dX10_ring_21 rfl (lv_at hl 1 rfl)) ?_
    refine z_callVv C (c_X10_records l T M g u3.2 t hns0) [0, 1, 2] [] rfl (by decide +kernel) (fun u9 => [(M 0, .inr (10, [.ref (M 1), .int (u9.1 0), .ref (M 2), .int (u9.1 1), .int (u9.1 2), .int (u9.1 3), .int (u9.1 4), .int (u9.1 5), .int (u9.1 6)])), (M 1, .inl (T.2.2.1, 1099, .inl u9.2)), (M 2, .inl (T.2.2.2, 60, .inl t))]) (fun _ => rfl) [] rfl (fun _ => rfl) [M 0, M 1, M 2] rfl (fun _ => rfl) 3 (fun _ => rfl) (by decide +kernel) (cwV 0 hts gX10_ring_X10_records rfl rfl rfl (by decide +kernel) ⟨Nat.le_of_ble_eq_true rfl, Nat.le_of_ble_eq_true rfl⟩) 0 rfl rfl rfl (As := []) (rest := []) rfl rfl (Nat.le_of_ble_eq_true rfl) dX10_ring_22 rfl ⟨Nat.zero_le _, Nat.zero_le _⟩ (fun u9 eu9 => ?_)
    have zh10 := zl_e zh8 eu9
    refine Z.of (pc' := 26) (fun _ _ _ hl => lv_aload_n hx hb dX10_ring_25 rfl (lv_at hl 1 rfl)) ?_
    refine Z.of (pc' := 27) (fun _ _ _ _ => lv_iconst (v := 5) hx hb dX10_ring_26 (by decide)) ?_
    refine Z.of (pc' := 28) (fun _ _ _ _ => lv_iconst (v := 0) hx hb dX10_ring_27 (by decide)) ?_
    refine z_callVv C (c_X10_copies l T M u9.1 u9.2 t 5 0 (by omega) (by omega)) [0, 1, 2] [] rfl (by decide +kernel) (fun u11 => [(M 0, .inr (10, [.ref (M 1), .int (u9.1 0), .ref (M 2), .int (u9.1 1), .int (u9.1 2), .int (u9.1 3), .int (u9.1 4), .int (u9.1 5), .int (u9.1 6)])), (M 1, .inl (T.2.2.1, 1099, .inl u11)), (M 2, .inl (T.2.2.2, 60, .inl t))]) (fun _ => rfl) [] rfl (fun _ => rfl) [M 0, M 1, M 2] rfl (fun _ => rfl) 3 (fun _ => rfl) (by decide +kernel) (cwV 2 hts gX10_ring_X10_copies rfl rfl rfl (by decide +kernel) ⟨Nat.le_of_ble_eq_true rfl, Nat.le_of_ble_eq_true rfl⟩) 0 rfl rfl rfl (As := [.int 5, .int 0]) (rest := []) rfl rfl (Nat.le_of_ble_eq_true rfl) dX10_ring_28 rfl ⟨Nat.zero_le _, Nat.zero_le _⟩ (fun u11 eu11 => ?_)
    have zh12 := zl_e zh10 eu11
    exact Z.sub (ks := [0]) (lv' := [(4, .int u3.1)]) rfl (J6 (u9.1, u11) zh12.symm)
def f_X10_noise (g : Nat → Int32) (m : Nat → Int32) (t : Nat → Int32) (value : Int32) : Int32 × (Nat → Int32) × (Nat → Int32) :=
  zl (f_X10_in value 1 65536) fun u1 =>
  if u1 = 0 then
    ((-1000001), g, m)
  else
    zl (f_X10_records g m t) fun u6 =>
    zl (upd u6.2 0 value) fun m8 =>
    (u6.2 0, u6.1, m8)
theorem fe_X10_noise (g : Nat → Int32) (m : Nat → Int32) (t : Nat → Int32) (value : Int32) : f_X10_noise g m t value = (
    zl (f_X10_in value 1 65536) fun u1 =>
    if u1 = 0 then
      ((-1000001), g, m)
    else
      zl (f_X10_records g m t) fun u6 =>
      zl (upd u6.2 0 value) fun m8 =>
      (u6.2 0, u6.1, m8)
    ) := rfl
abbrev rm_X10_noise : Room := { frames := 2, cells := 0, slots := 0, locals := 44 }
set_option maxHeartbeats 1000000 in
set_option maxRecDepth 100000 in
theorem c_X10_noise (l : Launch) (T : zT) (M : Nat → Nat) (g : Nat → Int32) (m : Nat → Int32) (t : Nat → Int32) (value : Int32) (hns0 : IN (g 0) 4) : Ci l yX10_noise wsX10_noise rm_X10_noise T .int [.ref (M 0), .int value] [(M 0, .inr (10, [.ref (M 1), .int (g 0), .ref (M 2), .int (g 1), .int (g 2), .int (g 3), .int (g 4), .int (g 5), .int (g 6)])), (M 1, .inl (T.2.2.1, 1099, .inl m)), (M 2, .inl (T.2.2.2, 60, .inl t))] (S := Int32 × (Nat → Int32) × (Nat → Int32)) (f_X10_noise g m t value) (fun u => u.1) (fun u => [(M 0, .inr (10, [.ref (M 1), .int (u.2.1 0), .ref (M 2), .int (u.2.1 1), .int (u.2.1 2), .int (u.2.1 3), .int (u.2.1 4), .int (u.2.1 5), .int (u.2.1 6)])), (M 1, .inl (T.2.2.1, 1099, .inl u.2.2)), (M 2, .inl (T.2.2.2, 60, .inl t))]) := by
  refine z_metI (own := RX10) (maxL := 3) rfl (by decide) rfl (Nat.le_of_ble_eq_true rfl) ?_
  intro P0 E0 S0 M0 G0 B0 T0 K0 A9 Q9 C E
  have hx := C.1.1
  have hb := C.1.2.1
  have hown := C.1.2.2.2.1
  have hts := C.1.2.2.2.2
  have hn := C.2.1.2
  have iX10 : ∀ w ∈ u_ws RX10 TX10 9, w ∈ wsX10_noise := by decide +kernel
  have k7 := hts (.fieldLink RX10 7 "JudgedBitsModel" "s" "[I") (by decide +kernel)
  change Z P0 l E0 rm_X10_noise S0 M0 G0 B0 T0 K0 3 T A9 Q9 0 0 [(M 0, .inr (10, [.ref (M 1), .int (g 0), .ref (M 2), .int (g 1), .int (g 2), .int (g 3), .int (g 4), .int (g 5), .int (g 6)])), (M 1, .inl (T.2.2.1, 1099, .inl m)), (M 2, .inl (T.2.2.2, 60, .inl t))] 0 [(0, .ref (M 0)), (1, .int value)] []
  have zh0 := fe_X10_noise g m t value
  refine Z.of (pc' := 1) (fun _ _ _ hl => lv_iload_n hx hb dX10_noise_0 rfl (lv_at hl 1 rfl)) ?_
  refine Z.of (pc' := 2) (fun _ _ _ _ => lv_iconst (v := 1) hx hb dX10_noise_1 (by decide)) ?_
  refine Z.of (pc' := 4) (fun _ _ _ _ => lv_ldc hx hb hown (hts (.constant RX10 68 (65536)) (by decide +kernel)) dX10_noise_2) ?_
  refine z_callSi C (c_X10_in l T value 1 65536) (cwS 3 hts gX10_noise_X10_in rfl rfl rfl (by decide +kernel) ⟨Nat.le_of_ble_eq_true rfl, Nat.le_of_ble_eq_true rfl⟩) (As := [.int value, .int 1, .int 65536]) (rest := []) rfl rfl (Nat.le_of_ble_eq_true rfl) dX10_noise_4 rfl ⟨Nat.zero_le _, Nat.zero_le _⟩ (fun u1 eu1 bu1 => ?_)
  have zh2 := zl_e zh0 eu1
  refine Z.two' (pt := 13) (pf := 10) (fun _ _ _ _ => lv_if_ne hx hb dX10_noise_7 (by decide)) (fun c3 => ?_) (fun c3 => ?_)
  · have zh4 := zh2.trans (if_neg c3)
    refine Z.of (pc' := 14) (fun _ _ _ hl => lv_aload_n hx hb dX10_noise_13 rfl (lv_at hl 0 rfl)) ?_
    refine z_callVv C (c_X10_records l T M g m t hns0) [0, 1, 2] [] rfl (by decide +kernel) (fun u6 => [(M 0, .inr (10, [.ref (M 1), .int (u6.1 0), .ref (M 2), .int (u6.1 1), .int (u6.1 2), .int (u6.1 3), .int (u6.1 4), .int (u6.1 5), .int (u6.1 6)])), (M 1, .inl (T.2.2.1, 1099, .inl u6.2)), (M 2, .inl (T.2.2.2, 60, .inl t))]) (fun _ => rfl) [] rfl (fun _ => rfl) [M 0, M 1, M 2] rfl (fun _ => rfl) 3 (fun _ => rfl) (by decide +kernel) (cwV 0 hts gX10_noise_X10_records rfl rfl rfl (by decide +kernel) ⟨Nat.le_of_ble_eq_true rfl, Nat.le_of_ble_eq_true rfl⟩) 0 rfl rfl rfl (As := []) (rest := []) rfl rfl (Nat.le_of_ble_eq_true rfl) dX10_noise_14 rfl ⟨Nat.zero_le _, Nat.zero_le _⟩ (fun u6 eu6 => ?_)
    have zh7 := zl_e zh4 eu6
    refine Z.of (pc' := 18) (fun _ _ _ hl => lv_aload_n hx hb dX10_noise_17 rfl (lv_at hl 0 rfl)) ?_
    refine z_get C iX10 0 0 k7 rfl rfl (by decide) rfl rfl dX10_noise_18 rfl ?_
    refine Z.of (pc' := 22) (fun _ _ _ _ => lv_iconst (v := 0) hx hb dX10_noise_21 (by decide)) ?_
    refine z_iald C 1 1 rfl rfl (j := 0) (rfl : (0 : Int32) = nI 0) (by decide) (by decide) dX10_noise_22 rfl ?_
    refine Z.sto (pc' := 24) (lv' := [(2, .int (u6.2 0)), (0, .ref (M 0)), (1, .int value)]) (fun _ _ _ hl => lv_istore_n (lv' := [(2, .int (u6.2 0)), (0, .ref (M 0)), (1, .int value)]) hx hb dX10_noise_23 rfl hl (by decide) rfl) ?_
    refine Z.of (pc' := 25) (fun _ _ _ hl => lv_aload_n hx hb dX10_noise_24 rfl (lv_at hl 1 rfl)) ?_
    refine z_get C iX10 0 0 k7 rfl rfl (by decide) rfl rfl dX10_noise_25 rfl ?_
    refine Z.of (pc' := 29) (fun _ _ _ _ => lv_iconst (v := 0) hx hb dX10_noise_28 (by decide)) ?_
    refine Z.of (pc' := 30) (fun _ _ _ hl => lv_iload_n hx hb dX10_noise_29 rfl (lv_at hl 2 rfl)) ?_
    refine z_iast C 1 1 rfl rfl (j := 0) (rfl : (0 : Int32) = nI 0) (by decide) (by decide) dX10_noise_30 rfl (fun m8 => [(M 0, .inr (10, [.ref (M 1), .int (u6.1 0), .ref (M 2), .int (u6.1 1), .int (u6.1 2), .int (u6.1 3), .int (u6.1 4), .int (u6.1 5), .int (u6.1 6)])), (M 1, .inl (T.2.2.1, 1099, .inl m8)), (M 2, .inl (T.2.2.2, 60, .inl t))]) (fun _ => rfl) (fun m8 em8 => ?_)
    have zh9 := zl_e zh7 em8
    refine Z.of (pc' := 32) (fun _ _ _ hl => lv_iload_n hx hb dX10_noise_31 rfl (lv_at hl 0 rfl)) ?_
    exact E (u6.2 0, u6.1, m8) _ _ _ _ dX10_noise_32 rfl rfl rfl zh9
  · have zh5 := zh2.trans (if_pos c3)
    refine Z.of (pc' := 12) (fun _ _ _ _ => lv_ldc hx hb hown (hts (.constant RX10 59 (-1000001)) (by decide +kernel)) dX10_noise_10) ?_
    exact E ((-1000001), g, m) _ _ _ _ dX10_noise_12 rfl rfl rfl zh5
def f_X10_sample (g : Nat → Int32) (m : Nat → Int32) (t : Nat → Int32) (many : Int32) : Int32 × (Nat → Int32) × (Nat → Int32) :=
  zl (f_X10_in many 1 300) fun u1 =>
  if u1 = 0 then
    ((-1000001), g, m)
  else
    zl (f_X10_records g m t) fun u6 =>
    zl (f_X10_makes u6.1 u6.2 t 0 many) fun u8 =>
    (u8.1, u6.1, u8.2)
theorem fe_X10_sample (g : Nat → Int32) (m : Nat → Int32) (t : Nat → Int32) (many : Int32) : f_X10_sample g m t many = (
    zl (f_X10_in many 1 300) fun u1 =>
    if u1 = 0 then
      ((-1000001), g, m)
    else
      zl (f_X10_records g m t) fun u6 =>
      zl (f_X10_makes u6.1 u6.2 t 0 many) fun u8 =>
      (u8.1, u6.1, u8.2)
    ) := rfl
abbrev rm_X10_sample : Room := { frames := 4, cells := 0, slots := 0, locals := 94 }
set_option maxHeartbeats 1000000 in
set_option maxRecDepth 100000 in
theorem c_X10_sample (l : Launch) (T : zT) (M : Nat → Nat) (g : Nat → Int32) (m : Nat → Int32) (t : Nat → Int32) (many : Int32) (hns0 : IN (g 0) 4) (ok0 : MOk m 0) : Ci l yX10_sample wsX10_sample rm_X10_sample T .int [.ref (M 0), .int many] [(M 0, .inr (10, [.ref (M 1), .int (g 0), .ref (M 2), .int (g 1), .int (g 2), .int (g 3), .int (g 4), .int (g 5), .int (g 6)])), (M 1, .inl (T.2.2.1, 1099, .inl m)), (M 2, .inl (T.2.2.2, 60, .inl t))] (S := Int32 × (Nat → Int32) × (Nat → Int32)) (f_X10_sample g m t many) (fun u => u.1) (fun u => [(M 0, .inr (10, [.ref (M 1), .int (u.2.1 0), .ref (M 2), .int (u.2.1 1), .int (u.2.1 2), .int (u.2.1 3), .int (u.2.1 4), .int (u.2.1 5), .int (u.2.1 6)])), (M 1, .inl (T.2.2.1, 1099, .inl u.2.2)), (M 2, .inl (T.2.2.2, 60, .inl t))]) := by
  refine z_metI (own := RX10) (maxL := 2) rfl (by decide) rfl (Nat.le_of_ble_eq_true rfl) ?_
  intro P0 E0 S0 M0 G0 B0 T0 K0 A9 Q9 C E
  have hx := C.1.1
  have hb := C.1.2.1
  have hown := C.1.2.2.2.1
  have hts := C.1.2.2.2.2
  have hn := C.2.1.2
  change Z P0 l E0 rm_X10_sample S0 M0 G0 B0 T0 K0 2 T A9 Q9 0 0 [(M 0, .inr (10, [.ref (M 1), .int (g 0), .ref (M 2), .int (g 1), .int (g 2), .int (g 3), .int (g 4), .int (g 5), .int (g 6)])), (M 1, .inl (T.2.2.1, 1099, .inl m)), (M 2, .inl (T.2.2.2, 60, .inl t))] 0 [(0, .ref (M 0)), (1, .int many)] []
  have zh0 := fe_X10_sample g m t many
  refine Z.of (pc' := 1) (fun _ _ _ hl => lv_iload_n hx hb dX10_sample_0 rfl (lv_at hl 1 rfl)) ?_
  refine Z.of (pc' := 2) (fun _ _ _ _ => lv_iconst (v := 1) hx hb dX10_sample_1 (by decide)) ?_
  refine Z.of (pc' := 5) (fun _ _ _ _ => lv_sipush (v := 300) hx hb dX10_sample_2 (by decide)) ?_
  refine z_callSi C (c_X10_in l T many 1 300) (cwS 3 hts gX10_sample_X10_in rfl rfl rfl (by decide +kernel) ⟨Nat.le_of_ble_eq_true rfl, Nat.le_of_ble_eq_true rfl⟩) (As := [.int many, .int 1, .int 300]) (rest := []) rfl rfl (Nat.le_of_ble_eq_true rfl) dX10_sample_5 rfl ⟨Nat.zero_le _, Nat.zero_le _⟩ (fun u1 eu1 bu1 => ?_)
  have zh2 := zl_e zh0 eu1
  refine Z.two' (pt := 14) (pf := 11) (fun _ _ _ _ => lv_if_ne hx hb dX10_sample_8 (by decide)) (fun c3 => ?_) (fun c3 => ?_)
  · have zh4 := zh2.trans (if_neg c3)
    refine Z.of (pc' := 15) (fun _ _ _ hl => lv_aload_n hx hb dX10_sample_14 rfl (lv_at hl 0 rfl)) ?_
    refine z_callVv C (c_X10_records l T M g m t hns0) [0, 1, 2] [] rfl (by decide +kernel) (fun u6 => [(M 0, .inr (10, [.ref (M 1), .int (u6.1 0), .ref (M 2), .int (u6.1 1), .int (u6.1 2), .int (u6.1 3), .int (u6.1 4), .int (u6.1 5), .int (u6.1 6)])), (M 1, .inl (T.2.2.1, 1099, .inl u6.2)), (M 2, .inl (T.2.2.2, 60, .inl t))]) (fun _ => rfl) [] rfl (fun _ => rfl) [M 0, M 1, M 2] rfl (fun _ => rfl) 3 (fun _ => rfl) (by decide +kernel) (cwV 0 hts gX10_sample_X10_records rfl rfl rfl (by decide +kernel) ⟨Nat.le_of_ble_eq_true rfl, Nat.le_of_ble_eq_true rfl⟩) 0 rfl rfl rfl (As := []) (rest := []) rfl rfl (Nat.le_of_ble_eq_true rfl) dX10_sample_15 rfl ⟨Nat.zero_le _, Nat.zero_le _⟩ (fun u6 eu6 => ?_)
    have zh7 := zl_e zh4 eu6
    refine Z.of (pc' := 19) (fun _ _ _ hl => lv_aload_n hx hb dX10_sample_18 rfl (lv_at hl 0 rfl)) ?_
    refine Z.of (pc' := 20) (fun _ _ _ _ => lv_iconst (v := 0) hx hb dX10_sample_19 (by decide)) ?_
    refine Z.of (pc' := 21) (fun _ _ _ hl => lv_iload_n hx hb dX10_sample_20 rfl (lv_at hl 1 rfl)) ?_
    refine z_callVi C (c_X10_makes l T M u6.1 u6.2 t 0 many (by omega) (zin_of eu1 c3).2 (MOk_records0 ok0 hns0 eu6)) [0, 1, 2] [] rfl (by decide +kernel) (fun u8 => [(M 0, .inr (10, [.ref (M 1), .int (u6.1 0), .ref (M 2), .int (u6.1 1), .int (u6.1 2), .int (u6.1 3), .int (u6.1 4), .int (u6.1 5), .int (u6.1 6)])), (M 1, .inl (T.2.2.1, 1099, .inl u8.2)), (M 2, .inl (T.2.2.2, 60, .inl t))]) (fun _ => rfl) [] rfl (fun _ => rfl) [M 0, M 1, M 2] rfl (fun _ => rfl) 3 (fun _ => rfl) (by decide +kernel) (cwV 2 hts gX10_sample_X10_makes rfl rfl rfl (by decide +kernel) ⟨Nat.le_of_ble_eq_true rfl, Nat.le_of_ble_eq_true rfl⟩) 0 rfl rfl rfl (As := [.int 0, .int many]) (rest := []) rfl rfl (Nat.le_of_ble_eq_true rfl) dX10_sample_21 rfl ⟨Nat.zero_le _, Nat.zero_le _⟩ (fun u8 eu8 bu8 => ?_)
    have zh9 := zl_e zh7 eu8
    exact E (u8.1, u6.1, u8.2) _ _ _ _ dX10_sample_24 rfl rfl rfl zh9
  · have zh5 := zh2.trans (if_pos c3)
    refine Z.of (pc' := 13) (fun _ _ _ _ => lv_ldc hx hb hown (hts (.constant RX10 59 (-1000001)) (by decide +kernel)) dX10_sample_11) ?_
    exact E ((-1000001), g, m) _ _ _ _ dX10_sample_13 rfl rfl rfl zh5
def f_X10_draw (g : Nat → Int32) (m : Nat → Int32) (t : Nat → Int32) (many : Int32) : Int32 × (Nat → Int32) × (Nat → Int32) :=
  zl (f_X10_copies g m t 0 5) fun u1 =>
  zl (f_X10_draws g u1 t 5 many) fun u3 =>
  zl (
    if u3.1 < 0 then
      (g, u3.2)
    else
      zl (f_X10_records g u3.2 t) fun u9 =>
      zl (f_X10_copies u9.1 u9.2 t 5 0) fun u11 =>
      (u9.1, u11)
    : (Nat → Int32) × (Nat → Int32)) fun v6 =>
  (u3.1, v6.1, v6.2)
theorem fe_X10_draw (g : Nat → Int32) (m : Nat → Int32) (t : Nat → Int32) (many : Int32) : f_X10_draw g m t many = (
    zl (f_X10_copies g m t 0 5) fun u1 =>
    zl (f_X10_draws g u1 t 5 many) fun u3 =>
    zl (
      if u3.1 < 0 then
        (g, u3.2)
      else
        zl (f_X10_records g u3.2 t) fun u9 =>
        zl (f_X10_copies u9.1 u9.2 t 5 0) fun u11 =>
        (u9.1, u11)
      : (Nat → Int32) × (Nat → Int32)) fun v6 =>
    (u3.1, v6.1, v6.2)
    ) := rfl
abbrev rm_X10_draw : Room := { frames := 2, cells := 0, slots := 0, locals := 47 }
set_option maxHeartbeats 1000000 in
set_option maxRecDepth 100000 in
theorem c_X10_draw (l : Launch) (T : zT) (M : Nat → Nat) (g : Nat → Int32) (m : Nat → Int32) (t : Nat → Int32) (many : Int32) (hns0 : IN (g 0) 4) (hst0 : IN (m 18) 64) : Ci l yX10_draw wsX10_draw rm_X10_draw T .int [.ref (M 0), .int many] [(M 0, .inr (10, [.ref (M 1), .int (g 0), .ref (M 2), .int (g 1), .int (g 2), .int (g 3), .int (g 4), .int (g 5), .int (g 6)])), (M 1, .inl (T.2.2.1, 1099, .inl m)), (M 2, .inl (T.2.2.2, 60, .inl t))] (S := Int32 × (Nat → Int32) × (Nat → Int32)) (f_X10_draw g m t many) (fun u => u.1) (fun u => [(M 0, .inr (10, [.ref (M 1), .int (u.2.1 0), .ref (M 2), .int (u.2.1 1), .int (u.2.1 2), .int (u.2.1 3), .int (u.2.1 4), .int (u.2.1 5), .int (u.2.1 6)])), (M 1, .inl (T.2.2.1, 1099, .inl u.2.2)), (M 2, .inl (T.2.2.2, 60, .inl t))]) := by
  refine z_metI (own := RX10) (maxL := 3) rfl (by decide) rfl (Nat.le_of_ble_eq_true rfl) ?_
  intro P0 E0 S0 M0 G0 B0 T0 K0 A9 Q9 C E
  have hx := C.1.1
  have hb := C.1.2.1
  have hown := C.1.2.2.2.1
  have hts := C.1.2.2.2.2
  have hn := C.2.1.2
  change Z P0 l E0 rm_X10_draw S0 M0 G0 B0 T0 K0 3 T A9 Q9 0 0 [(M 0, .inr (10, [.ref (M 1), .int (g 0), .ref (M 2), .int (g 1), .int (g 2), .int (g 3), .int (g 4), .int (g 5), .int (g 6)])), (M 1, .inl (T.2.2.1, 1099, .inl m)), (M 2, .inl (T.2.2.2, 60, .inl t))] 0 [(0, .ref (M 0)), (1, .int many)] []
  have zh0 := fe_X10_draw g m t many
  refine Z.of (pc' := 1) (fun _ _ _ hl => lv_aload_n hx hb dX10_draw_0 rfl (lv_at hl 0 rfl)) ?_
  refine Z.of (pc' := 2) (fun _ _ _ _ => lv_iconst (v := 0) hx hb dX10_draw_1 (by decide)) ?_
  refine Z.of (pc' := 3) (fun _ _ _ _ => lv_iconst (v := 5) hx hb dX10_draw_2 (by decide)) ?_
  refine z_callVv C (c_X10_copies l T M g m t 0 5 (by omega) (by omega)) [0, 1, 2] [] rfl (by decide +kernel) (fun u1 => [(M 0, .inr (10, [.ref (M 1), .int (g 0), .ref (M 2), .int (g 1), .int (g 2), .int (g 3), .int (g 4), .int (g 5), .int (g 6)])), (M 1, .inl (T.2.2.1, 1099, .inl u1)), (M 2, .inl (T.2.2.2, 60, .inl t))]) (fun _ => rfl) [] rfl (fun _ => rfl) [M 0, M 1, M 2] rfl (fun _ => rfl) 3 (fun _ => rfl) (by decide +kernel) (cwV 2 hts gX10_draw_X10_copies rfl rfl rfl (by decide +kernel) ⟨Nat.le_of_ble_eq_true rfl, Nat.le_of_ble_eq_true rfl⟩) 0 rfl rfl rfl (As := [.int 0, .int 5]) (rest := []) rfl rfl (Nat.le_of_ble_eq_true rfl) dX10_draw_3 rfl ⟨Nat.zero_le _, Nat.zero_le _⟩ (fun u1 eu1 => ?_)
  have zh2 := zl_e zh0 eu1
  refine Z.of (pc' := 7) (fun _ _ _ hl => lv_aload_n hx hb dX10_draw_6 rfl (lv_at hl 0 rfl)) ?_
  refine Z.of (pc' := 8) (fun _ _ _ _ => lv_iconst (v := 5) hx hb dX10_draw_7 (by decide)) ?_
  refine Z.of (pc' := 9) (fun _ _ _ hl => lv_iload_n hx hb dX10_draw_8 rfl (lv_at hl 1 rfl)) ?_
  refine z_callVi C (c_X10_draws l T M g u1 t 5 many (by omega) (by rw [eu1, copies_at _ _ _ _ _ _ (by decide) (by decide)]; exact hst0)) [0, 1, 2] [] rfl (by decide +kernel) (fun u3 => [(M 0, .inr (10, [.ref (M 1), .int (g 0), .ref (M 2), .int (g 1), .int (g 2), .int (g 3), .int (g 4), .int (g 5), .int (g 6)])), (M 1, .inl (T.2.2.1, 1099, .inl u3.2)), (M 2, .inl (T.2.2.2, 60, .inl t))]) (fun _ => rfl) [] rfl (fun _ => rfl) [M 0, M 1, M 2] rfl (fun _ => rfl) 3 (fun _ => rfl) (by decide +kernel) (cwV 2 hts gX10_draw_X10_draws rfl rfl rfl (by decide +kernel) ⟨Nat.le_of_ble_eq_true rfl, Nat.le_of_ble_eq_true rfl⟩) 0 rfl rfl rfl (As := [.int 5, .int many]) (rest := []) rfl rfl (Nat.le_of_ble_eq_true rfl) dX10_draw_9 rfl ⟨Nat.zero_le _, Nat.zero_le _⟩ (fun u3 eu3 bu3 => ?_)
  have zh4 := zl_e zh2 eu3
  refine Z.sto (pc' := 13) (lv' := [(2, .int u3.1), (0, .ref (M 0)), (1, .int many)]) (fun _ _ _ hl => lv_istore_n (lv' := [(2, .int u3.1), (0, .ref (M 0)), (1, .int many)]) hx hb dX10_draw_12 rfl hl (by decide) rfl) ?_
  refine Z.of (pc' := 14) (fun _ _ _ hl => lv_iload_n hx hb dX10_draw_13 rfl (lv_at hl 0 rfl)) ?_
  have J6 : ∀ v6 : (Nat → Int32) × (Nat → Int32), v6 = (
      if u3.1 < 0 then
        (g, u3.2)
      else
        zl (f_X10_records g u3.2 t) fun u9 =>
        zl (f_X10_copies u9.1 u9.2 t 5 0) fun u11 =>
        (u9.1, u11)
      ) → Z P0 l E0 rm_X10_draw S0 M0 G0 B0 T0 K0 3 T A9 Q9 0 0 [(M 0, .inr (10, [.ref (M 1), .int (v6.1 0), .ref (M 2), .int (v6.1 1), .int (v6.1 2), .int (v6.1 3), .int (v6.1 4), .int (v6.1 5), .int (v6.1 6)])), (M 1, .inl (T.2.2.1, 1099, .inl v6.2)), (M 2, .inl (T.2.2.2, 60, .inl t))] 27 [(2, .int u3.1)] [] := by
    intro v6 ev6
    have zh13 := zl_e zh4 ev6
    refine Z.of (pc' := 28) (fun _ _ _ hl => lv_iload_n hx hb dX10_draw_27 rfl (lv_at hl 0 rfl)) ?_
    exact E (u3.1, v6.1, v6.2) _ _ _ _ dX10_draw_28 rfl rfl rfl zh13
  have zr6 := @Eq.refl ((Nat → Int32) × (Nat → Int32)) (
      if u3.1 < 0 then
        (g, u3.2)
      else
        zl (f_X10_records g u3.2 t) fun u9 =>
        zl (f_X10_copies u9.1 u9.2 t 5 0) fun u11 =>
        (u9.1, u11)
      )
  refine Z.two (pt := 27) (pf := 17) (fun _ _ _ _ => lv_if_lt hx hb dX10_draw_14 (by decide)) (fun c5 => ?_) (fun c5 => ?_)
  · have zh7 := zr6.trans (if_pos c5)
    exact Z.sub (ks := [0]) (lv' := [(2, .int u3.1)]) rfl (J6 (g, u3.2) zh7.symm)
  · have zh8 := zr6.trans (if_neg c5)
    refine Z.of (pc' := 18) (fun _ _ _ hl => lv_aload_n hx hb dX10_draw_17 rfl (lv_at hl 1 rfl)) ?_
    refine z_callVv C (c_X10_records l T M g u3.2 t hns0) [0, 1, 2] [] rfl (by decide +kernel) (fun u9 => [(M 0, .inr (10, [.ref (M 1), .int (u9.1 0), .ref (M 2), .int (u9.1 1), .int (u9.1 2), .int (u9.1 3), .int (u9.1 4), .int (u9.1 5), .int (u9.1 6)])), (M 1, .inl (T.2.2.1, 1099, .inl u9.2)), (M 2, .inl (T.2.2.2, 60, .inl t))]) (fun _ => rfl) [] rfl (fun _ => rfl) [M 0, M 1, M 2] rfl (fun _ => rfl) 3 (fun _ => rfl) (by decide +kernel) (cwV 0 hts gX10_draw_X10_records rfl rfl rfl (by decide +kernel) ⟨Nat.le_of_ble_eq_true rfl, Nat.le_of_ble_eq_true rfl⟩) 0 rfl rfl rfl (As := []) (rest := []) rfl rfl (Nat.le_of_ble_eq_true rfl) dX10_draw_18 rfl ⟨Nat.zero_le _, Nat.zero_le _⟩ (fun u9 eu9 => ?_)
    have zh10 := zl_e zh8 eu9
    refine Z.of (pc' := 22) (fun _ _ _ hl => lv_aload_n hx hb dX10_draw_21 rfl (lv_at hl 1 rfl)) ?_
    refine Z.of (pc' := 23) (fun _ _ _ _ => lv_iconst (v := 5) hx hb dX10_draw_22 (by decide)) ?_
    refine Z.of (pc' := 24) (fun _ _ _ _ => lv_iconst (v := 0) hx hb dX10_draw_23 (by decide)) ?_
    refine z_callVv C (c_X10_copies l T M u9.1 u9.2 t 5 0 (by omega) (by omega)) [0, 1, 2] [] rfl (by decide +kernel) (fun u11 => [(M 0, .inr (10, [.ref (M 1), .int (u9.1 0), .ref (M 2), .int (u9.1 1), .int (u9.1 2), .int (u9.1 3), .int (u9.1 4), .int (u9.1 5), .int (u9.1 6)])), (M 1, .inl (T.2.2.1, 1099, .inl u11)), (M 2, .inl (T.2.2.2, 60, .inl t))]) (fun _ => rfl) [] rfl (fun _ => rfl) [M 0, M 1, M 2] rfl (fun _ => rfl) 3 (fun _ => rfl) (by decide +kernel) (cwV 2 hts gX10_draw_X10_copies rfl rfl rfl (by decide +kernel) ⟨Nat.le_of_ble_eq_true rfl, Nat.le_of_ble_eq_true rfl⟩) 0 rfl rfl rfl (As := [.int 5, .int 0]) (rest := []) rfl rfl (Nat.le_of_ble_eq_true rfl) dX10_draw_24 rfl ⟨Nat.zero_le _, Nat.zero_le _⟩ (fun u11 eu11 => ?_)
    have zh12 := zl_e zh10 eu11
    exact Z.sub (ks := [0]) (lv' := [(2, .int u3.1)]) rfl (J6 (u9.1, u11) zh12.symm)
def f_X10_restart (g : Nat → Int32) (m : Nat → Int32) (t : Nat → Int32) : Int32 × (Nat → Int32) × (Nat → Int32) :=
  zl (f_X10_records g m t) fun u1 =>
  zl (f_X10_starts u1.1 u1.2 t 0) fun u3 =>
  (u1.2 (157 * 0 + 18), u1.1, u3)
theorem fe_X10_restart (g : Nat → Int32) (m : Nat → Int32) (t : Nat → Int32) : f_X10_restart g m t = (
    zl (f_X10_records g m t) fun u1 =>
    zl (f_X10_starts u1.1 u1.2 t 0) fun u3 =>
    (u1.2 (157 * 0 + 18), u1.1, u3)
    ) := rfl
abbrev rm_X10_restart : Room := { frames := 2, cells := 0, slots := 0, locals := 44 }
set_option maxHeartbeats 1000000 in
set_option maxRecDepth 100000 in
theorem c_X10_restart (l : Launch) (T : zT) (M : Nat → Nat) (g : Nat → Int32) (m : Nat → Int32) (t : Nat → Int32) (hns0 : IN (g 0) 4) : Ci l yX10_restart wsX10_restart rm_X10_restart T .int [.ref (M 0)] [(M 0, .inr (10, [.ref (M 1), .int (g 0), .ref (M 2), .int (g 1), .int (g 2), .int (g 3), .int (g 4), .int (g 5), .int (g 6)])), (M 1, .inl (T.2.2.1, 1099, .inl m)), (M 2, .inl (T.2.2.2, 60, .inl t))] (S := Int32 × (Nat → Int32) × (Nat → Int32)) (f_X10_restart g m t) (fun u => u.1) (fun u => [(M 0, .inr (10, [.ref (M 1), .int (u.2.1 0), .ref (M 2), .int (u.2.1 1), .int (u.2.1 2), .int (u.2.1 3), .int (u.2.1 4), .int (u.2.1 5), .int (u.2.1 6)])), (M 1, .inl (T.2.2.1, 1099, .inl u.2.2)), (M 2, .inl (T.2.2.2, 60, .inl t))]) := by
  refine z_metI (own := RX10) (maxL := 1) rfl (by decide) rfl (Nat.le_of_ble_eq_true rfl) ?_
  intro P0 E0 S0 M0 G0 B0 T0 K0 A9 Q9 C E
  have hx := C.1.1
  have hb := C.1.2.1
  have hown := C.1.2.2.2.1
  have hts := C.1.2.2.2.2
  have hn := C.2.1.2
  change Z P0 l E0 rm_X10_restart S0 M0 G0 B0 T0 K0 1 T A9 Q9 0 0 [(M 0, .inr (10, [.ref (M 1), .int (g 0), .ref (M 2), .int (g 1), .int (g 2), .int (g 3), .int (g 4), .int (g 5), .int (g 6)])), (M 1, .inl (T.2.2.1, 1099, .inl m)), (M 2, .inl (T.2.2.2, 60, .inl t))] 0 [(0, .ref (M 0))] []
  have zh0 := fe_X10_restart g m t
  refine Z.of (pc' := 1) (fun _ _ _ hl => lv_aload_n hx hb dX10_restart_0 rfl (lv_at hl 0 rfl)) ?_
  refine z_callVv C (c_X10_records l T M g m t hns0) [0, 1, 2] [] rfl (by decide +kernel) (fun u1 => [(M 0, .inr (10, [.ref (M 1), .int (u1.1 0), .ref (M 2), .int (u1.1 1), .int (u1.1 2), .int (u1.1 3), .int (u1.1 4), .int (u1.1 5), .int (u1.1 6)])), (M 1, .inl (T.2.2.1, 1099, .inl u1.2)), (M 2, .inl (T.2.2.2, 60, .inl t))]) (fun _ => rfl) [] rfl (fun _ => rfl) [M 0, M 1, M 2] rfl (fun _ => rfl) 3 (fun _ => rfl) (by decide +kernel) (cwV 0 hts gX10_restart_X10_records rfl rfl rfl (by decide +kernel) ⟨Nat.le_of_ble_eq_true rfl, Nat.le_of_ble_eq_true rfl⟩) 0 rfl rfl rfl (As := []) (rest := []) rfl rfl (Nat.le_of_ble_eq_true rfl) dX10_restart_1 rfl ⟨Nat.zero_le _, Nat.zero_le _⟩ (fun u1 eu1 => ?_)
  have zh2 := zl_e zh0 eu1
  refine Z.of (pc' := 5) (fun _ _ _ hl => lv_aload_n hx hb dX10_restart_4 rfl (lv_at hl 0 rfl)) ?_
  refine Z.of (pc' := 6) (fun _ _ _ _ => lv_iconst (v := 0) hx hb dX10_restart_5 (by decide)) ?_
  refine z_callVi C (c_X10_starts l T M u1.1 u1.2 t 0 (by omega)) [0, 1, 2] [] rfl (by decide +kernel) (fun u3 => [(M 0, .inr (10, [.ref (M 1), .int (u1.1 0), .ref (M 2), .int (u1.1 1), .int (u1.1 2), .int (u1.1 3), .int (u1.1 4), .int (u1.1 5), .int (u1.1 6)])), (M 1, .inl (T.2.2.1, 1099, .inl u3)), (M 2, .inl (T.2.2.2, 60, .inl t))]) (fun _ => rfl) [] rfl (fun _ => rfl) [M 0, M 1, M 2] rfl (fun _ => rfl) 3 (fun _ => rfl) (by decide +kernel) (cwV 1 hts gX10_restart_X10_starts rfl rfl rfl (by decide +kernel) ⟨Nat.le_of_ble_eq_true rfl, Nat.le_of_ble_eq_true rfl⟩) 0 rfl rfl rfl (As := [.int 0]) (rest := []) rfl rfl (Nat.le_of_ble_eq_true rfl) dX10_restart_6 rfl ⟨Nat.zero_le _, Nat.zero_le _⟩ (fun u3 eu3 bu3 => ?_)
  have zh4 := zl_e zh2 eu3
  exact E (u1.2 (157 * 0 + 18), u1.1, u3) _ _ _ _ dX10_restart_9 rfl rfl rfl zh4
def f_X10_set (g : Nat → Int32) (m : Nat → Int32) (t : Nat → Int32) (what : Int32) (value : Int32) : Int32 × (Nat → Int32) × (Nat → Int32) :=
  if what = 0 then
    zl (f_X10_in value 1 500) fun u43 =>
    if u43 = 0 then
      ((-1000001), g, m)
    else
      zl (f_X10_records g m t) fun u48 =>
      zl (upd u48.2 7 value) fun m50 =>
      (u48.2 7, u48.1, m50)
  else
    if what = 1 then
      zl (f_X10_in value 0 50) fun u34 =>
      if u34 = 0 then
        ((-1000001), g, m)
      else
        zl (f_X10_records g m t) fun u39 =>
        zl (upd u39.2 8 value) fun m41 =>
        (u39.2 8, u39.1, m41)
    else
      if what = 2 then
        zl (f_X10_in value 2 40) fun u25 =>
        if u25 = 0 then
          ((-1000001), g, m)
        else
          zl (f_X10_records g m t) fun u30 =>
          zl (upd u30.2 9 value) fun m32 =>
          (u30.2 9, u30.1, m32)
      else
        if what = 3 then
          zl (f_X10_in value 0 16) fun u14 =>
          if u14 = 0 then
            ((-1000001), g, m)
          else
            zl (f_X10_records g m t) fun u21 =>
            zl (upd u21.2 10 value) fun m23 =>
            (u21.2 10, u21.1, m23)
        else
          ((-1000001), g, m)
theorem fe_X10_set (g : Nat → Int32) (m : Nat → Int32) (t : Nat → Int32) (what : Int32) (value : Int32) : f_X10_set g m t what value = (
    if what = 0 then
      zl (f_X10_in value 1 500) fun u43 =>
      if u43 = 0 then
        ((-1000001), g, m)
      else
        zl (f_X10_records g m t) fun u48 =>
        zl (upd u48.2 7 value) fun m50 =>
        (u48.2 7, u48.1, m50)
    else
      if what = 1 then
        zl (f_X10_in value 0 50) fun u34 =>
        if u34 = 0 then
          ((-1000001), g, m)
        else
          zl (f_X10_records g m t) fun u39 =>
          zl (upd u39.2 8 value) fun m41 =>
          (u39.2 8, u39.1, m41)
      else
        if what = 2 then
          zl (f_X10_in value 2 40) fun u25 =>
          if u25 = 0 then
            ((-1000001), g, m)
          else
            zl (f_X10_records g m t) fun u30 =>
            zl (upd u30.2 9 value) fun m32 =>
            (u30.2 9, u30.1, m32)
        else
          if what = 3 then
            zl (f_X10_in value 0 16) fun u14 =>
            if u14 = 0 then
              ((-1000001), g, m)
            else
              zl (f_X10_records g m t) fun u21 =>
              zl (upd u21.2 10 value) fun m23 =>
              (u21.2 10, u21.1, m23)
          else
            ((-1000001), g, m)
    ) := rfl
abbrev rm_X10_set : Room := { frames := 2, cells := 0, slots := 0, locals := 44 }
set_option maxHeartbeats 1000000 in
set_option maxRecDepth 100000 in
theorem c_X10_set (l : Launch) (T : zT) (M : Nat → Nat) (g : Nat → Int32) (m : Nat → Int32) (t : Nat → Int32) (what : Int32) (value : Int32) (hns0 : IN (g 0) 4) : Ci l yX10_set wsX10_set rm_X10_set T .int [.ref (M 0), .int what, .int value] [(M 0, .inr (10, [.ref (M 1), .int (g 0), .ref (M 2), .int (g 1), .int (g 2), .int (g 3), .int (g 4), .int (g 5), .int (g 6)])), (M 1, .inl (T.2.2.1, 1099, .inl m)), (M 2, .inl (T.2.2.2, 60, .inl t))] (S := Int32 × (Nat → Int32) × (Nat → Int32)) (f_X10_set g m t what value) (fun u => u.1) (fun u => [(M 0, .inr (10, [.ref (M 1), .int (u.2.1 0), .ref (M 2), .int (u.2.1 1), .int (u.2.1 2), .int (u.2.1 3), .int (u.2.1 4), .int (u.2.1 5), .int (u.2.1 6)])), (M 1, .inl (T.2.2.1, 1099, .inl u.2.2)), (M 2, .inl (T.2.2.2, 60, .inl t))]) := by
  refine z_metI (own := RX10) (maxL := 5) rfl (by decide) rfl (Nat.le_of_ble_eq_true rfl) ?_
  intro P0 E0 S0 M0 G0 B0 T0 K0 A9 Q9 C E
  have hx := C.1.1
  have hb := C.1.2.1
  have hown := C.1.2.2.2.1
  have hts := C.1.2.2.2.2
  have hn := C.2.1.2
  have iX10 : ∀ w ∈ u_ws RX10 TX10 9, w ∈ wsX10_set := by decide +kernel
  have k7 := hts (.fieldLink RX10 7 "JudgedBitsModel" "s" "[I") (by decide +kernel)
  change Z P0 l E0 rm_X10_set S0 M0 G0 B0 T0 K0 5 T A9 Q9 0 0 [(M 0, .inr (10, [.ref (M 1), .int (g 0), .ref (M 2), .int (g 1), .int (g 2), .int (g 3), .int (g 4), .int (g 5), .int (g 6)])), (M 1, .inl (T.2.2.1, 1099, .inl m)), (M 2, .inl (T.2.2.2, 60, .inl t))] 0 [(0, .ref (M 0)), (1, .int what), (2, .int value)] []
  have zh0 := fe_X10_set g m t what value
  refine Z.of (pc' := 1) (fun _ _ _ hl => lv_iload_n hx hb dX10_set_0 rfl (lv_at hl 1 rfl)) ?_
  refine Z.two' (pt := 15) (pf := 4) (fun _ _ _ _ => lv_if_ne hx hb dX10_set_1 (by decide)) (fun c1 => ?_) (fun c1 => ?_)
  · have zh2 := zh0.trans (if_neg c1)
    refine Z.of (pc' := 16) (fun _ _ _ hl => lv_iload_n hx hb dX10_set_15 rfl (lv_at hl 1 rfl)) ?_
    refine Z.of (pc' := 17) (fun _ _ _ _ => lv_iconst (v := 1) hx hb dX10_set_16 (by decide)) ?_
    refine Z.two' (pt := 30) (pf := 20) (fun _ _ _ _ => lv_icmp_ne hx hb dX10_set_17 (by decide)) (fun c4 => ?_) (fun c4 => ?_)
    · have zh5 := zh2.trans (if_neg c4)
      refine Z.of (pc' := 31) (fun _ _ _ hl => lv_iload_n hx hb dX10_set_30 rfl (lv_at hl 1 rfl)) ?_
      refine Z.of (pc' := 32) (fun _ _ _ _ => lv_iconst (v := 2) hx hb dX10_set_31 (by decide)) ?_
      refine Z.two' (pt := 45) (pf := 35) (fun _ _ _ _ => lv_icmp_ne hx hb dX10_set_32 (by decide)) (fun c7 => ?_) (fun c7 => ?_)
      · have zh8 := zh5.trans (if_neg c7)
        refine Z.of (pc' := 46) (fun _ _ _ hl => lv_iload_n hx hb dX10_set_45 rfl (lv_at hl 1 rfl)) ?_
        refine Z.of (pc' := 47) (fun _ _ _ _ => lv_iconst (v := 3) hx hb dX10_set_46 (by decide)) ?_
        refine Z.two' (pt := 64) (pf := 50) (fun _ _ _ _ => lv_icmp_ne hx hb dX10_set_47 (by decide)) (fun c10 => ?_) (fun c10 => ?_)
        · have zh11 := zh8.trans (if_neg c10)
          refine Z.of (pc' := 65) (fun _ _ _ _ => lv_iconst (v := 0) hx hb dX10_set_64 (by decide)) ?_
          refine Z.sto (pc' := 66) (lv' := [(3, .int 0), (0, .ref (M 0)), (1, .int what), (2, .int value)]) (fun _ _ _ hl => lv_istore_n (lv' := [(3, .int 0), (0, .ref (M 0)), (1, .int what), (2, .int value)]) hx hb dX10_set_65 rfl hl (by decide) rfl) ?_
          refine Z.of (pc' := 67) (fun _ _ _ hl => lv_iload_n hx hb dX10_set_66 rfl (lv_at hl 0 rfl)) ?_
          refine Z.two' (pt := 73) (pf := 70) (fun _ _ _ _ => lv_if_ne hx hb dX10_set_67 (by decide)) (fun c13 => ?_) (fun c13 => ?_)
          · exact absurd (by decide) c13
          · refine Z.of (pc' := 72) (fun _ _ _ _ => lv_ldc hx hb hown (hts (.constant RX10 59 (-1000001)) (by decide +kernel)) dX10_set_70) ?_
            exact E ((-1000001), g, m) _ _ _ _ dX10_set_72 rfl rfl rfl zh11
        · have zh12 := zh8.trans (if_pos c10)
          refine Z.of (pc' := 51) (fun _ _ _ hl => lv_iload_n hx hb dX10_set_50 rfl (lv_at hl 2 rfl)) ?_
          refine Z.of (pc' := 52) (fun _ _ _ _ => lv_iconst (v := 0) hx hb dX10_set_51 (by decide)) ?_
          refine Z.of (pc' := 54) (fun _ _ _ _ => lv_bipush (v := 16) hx hb dX10_set_52 (by decide)) ?_
          refine z_callSi C (c_X10_in l T value 0 16) (cwS 3 hts gX10_set_X10_in rfl rfl rfl (by decide +kernel) ⟨Nat.le_of_ble_eq_true rfl, Nat.le_of_ble_eq_true rfl⟩) (As := [.int value, .int 0, .int 16]) (rest := []) rfl rfl (Nat.le_of_ble_eq_true rfl) dX10_set_54 rfl ⟨Nat.zero_le _, Nat.zero_le _⟩ (fun u14 eu14 bu14 => ?_)
          have zh15 := zl_e zh12 eu14
          refine Z.two (pt := 64) (pf := 60) (fun _ _ _ _ => lv_if_eq hx hb dX10_set_57 (by decide)) (fun c16 => ?_) (fun c16 => ?_)
          · have zh17 := zh15.trans (if_pos c16)
            refine Z.of (pc' := 65) (fun _ _ _ _ => lv_iconst (v := 0) hx hb dX10_set_64 (by decide)) ?_
            refine Z.sto (pc' := 66) (lv' := [(3, .int 0), (0, .ref (M 0)), (1, .int what), (2, .int value)]) (fun _ _ _ hl => lv_istore_n (lv' := [(3, .int 0), (0, .ref (M 0)), (1, .int what), (2, .int value)]) hx hb dX10_set_65 rfl hl (by decide) rfl) ?_
            refine Z.of (pc' := 67) (fun _ _ _ hl => lv_iload_n hx hb dX10_set_66 rfl (lv_at hl 0 rfl)) ?_
            refine Z.two' (pt := 73) (pf := 70) (fun _ _ _ _ => lv_if_ne hx hb dX10_set_67 (by decide)) (fun c19 => ?_) (fun c19 => ?_)
            · exact absurd (by decide) c19
            · refine Z.of (pc' := 72) (fun _ _ _ _ => lv_ldc hx hb hown (hts (.constant RX10 59 (-1000001)) (by decide +kernel)) dX10_set_70) ?_
              exact E ((-1000001), g, m) _ _ _ _ dX10_set_72 rfl rfl rfl zh17
          · have zh18 := zh15.trans (if_neg c16)
            refine Z.of (pc' := 61) (fun _ _ _ _ => lv_iconst (v := 1) hx hb dX10_set_60 (by decide)) ?_
            refine Z.of (pc' := 65) (fun _ _ _ _ => lv_goto hx hb dX10_set_61 (by decide)) ?_
            refine Z.sto (pc' := 66) (lv' := [(3, .int 1), (0, .ref (M 0)), (1, .int what), (2, .int value)]) (fun _ _ _ hl => lv_istore_n (lv' := [(3, .int 1), (0, .ref (M 0)), (1, .int what), (2, .int value)]) hx hb dX10_set_65 rfl hl (by decide) rfl) ?_
            refine Z.of (pc' := 67) (fun _ _ _ hl => lv_iload_n hx hb dX10_set_66 rfl (lv_at hl 0 rfl)) ?_
            refine Z.two' (pt := 73) (pf := 70) (fun _ _ _ _ => lv_if_ne hx hb dX10_set_67 (by decide)) (fun c20 => ?_) (fun c20 => ?_)
            · refine Z.of (pc' := 74) (fun _ _ _ hl => lv_aload_n hx hb dX10_set_73 rfl (lv_at hl 1 rfl)) ?_
              refine z_callVv C (c_X10_records l T M g m t hns0) [0, 1, 2] [] rfl (by decide +kernel) (fun u21 => [(M 0, .inr (10, [.ref (M 1), .int (u21.1 0), .ref (M 2), .int (u21.1 1), .int (u21.1 2), .int (u21.1 3), .int (u21.1 4), .int (u21.1 5), .int (u21.1 6)])), (M 1, .inl (T.2.2.1, 1099, .inl u21.2)), (M 2, .inl (T.2.2.2, 60, .inl t))]) (fun _ => rfl) [] rfl (fun _ => rfl) [M 0, M 1, M 2] rfl (fun _ => rfl) 3 (fun _ => rfl) (by decide +kernel) (cwV 0 hts gX10_set_X10_records rfl rfl rfl (by decide +kernel) ⟨Nat.le_of_ble_eq_true rfl, Nat.le_of_ble_eq_true rfl⟩) 0 rfl rfl rfl (As := []) (rest := []) rfl rfl (Nat.le_of_ble_eq_true rfl) dX10_set_74 rfl ⟨Nat.zero_le _, Nat.zero_le _⟩ (fun u21 eu21 => ?_)
              have zh22 := zl_e zh18 eu21
              refine Z.of (pc' := 78) (fun _ _ _ hl => lv_aload_n hx hb dX10_set_77 rfl (lv_at hl 1 rfl)) ?_
              refine z_get C iX10 0 0 k7 rfl rfl (by decide) rfl rfl dX10_set_78 rfl ?_
              refine Z.of (pc' := 83) (fun _ _ _ _ => lv_bipush (v := 7) hx hb dX10_set_81 (by decide)) ?_
              refine Z.of (pc' := 84) (fun _ _ _ hl => lv_iload_n hx hb dX10_set_83 rfl (lv_at hl 2 rfl)) ?_
              refine Z.topn (y := nI 3) (show what = nI 3 from c10) ?_
              refine Z.of (pc' := 85) (fun _ _ _ hl => lv_iadd hx hb dX10_set_84) ?_
              refine Z.topn (y := 10) (by decide) ?_
              refine z_iald C 1 1 rfl rfl (j := 10) (rfl : (10 : Int32) = nI 10) (by decide) (by decide) dX10_set_85 rfl ?_
              refine Z.sto (pc' := 88) (lv' := [(4, .int (u21.2 10)), (3, .int 1), (0, .ref (M 0)), (1, .int what), (2, .int value)]) (fun _ _ _ hl => lv_istore (lv' := [(4, .int (u21.2 10)), (3, .int 1), (0, .ref (M 0)), (1, .int what), (2, .int value)]) hx hb dX10_set_86 hl (by decide) rfl) ?_
              refine Z.of (pc' := 89) (fun _ _ _ hl => lv_aload_n hx hb dX10_set_88 rfl (lv_at hl 2 rfl)) ?_
              refine z_get C iX10 0 0 k7 rfl rfl (by decide) rfl rfl dX10_set_89 rfl ?_
              refine Z.of (pc' := 94) (fun _ _ _ _ => lv_bipush (v := 7) hx hb dX10_set_92 (by decide)) ?_
              refine Z.of (pc' := 95) (fun _ _ _ hl => lv_iload_n hx hb dX10_set_94 rfl (lv_at hl 3 rfl)) ?_
              refine Z.topn (y := nI 3) (show what = nI 3 from c10) ?_
              refine Z.of (pc' := 96) (fun _ _ _ hl => lv_iadd hx hb dX10_set_95) ?_
              refine Z.topn (y := 10) (by decide) ?_
              refine Z.of (pc' := 97) (fun _ _ _ hl => lv_iload_n hx hb dX10_set_96 rfl (lv_at hl 4 rfl)) ?_
              refine z_iast C 1 1 rfl rfl (j := 10) (rfl : (10 : Int32) = nI 10) (by decide) (by decide) dX10_set_97 rfl (fun m23 => [(M 0, .inr (10, [.ref (M 1), .int (u21.1 0), .ref (M 2), .int (u21.1 1), .int (u21.1 2), .int (u21.1 3), .int (u21.1 4), .int (u21.1 5), .int (u21.1 6)])), (M 1, .inl (T.2.2.1, 1099, .inl m23)), (M 2, .inl (T.2.2.2, 60, .inl t))]) (fun _ => rfl) (fun m23 em23 => ?_)
              have zh24 := zl_e zh22 em23
              refine Z.of (pc' := 100) (fun _ _ _ hl => lv_iload hx hb dX10_set_98 (lv_at hl 0 rfl)) ?_
              exact E (u21.2 10, u21.1, m23) _ _ _ _ dX10_set_100 rfl rfl rfl zh24
            · exact absurd c20 (by decide)
      · have zh9 := zh5.trans (if_pos c7)
        refine Z.of (pc' := 36) (fun _ _ _ hl => lv_iload_n hx hb dX10_set_35 rfl (lv_at hl 2 rfl)) ?_
        refine Z.of (pc' := 37) (fun _ _ _ _ => lv_iconst (v := 2) hx hb dX10_set_36 (by decide)) ?_
        refine Z.of (pc' := 39) (fun _ _ _ _ => lv_bipush (v := 40) hx hb dX10_set_37 (by decide)) ?_
        refine z_callSi C (c_X10_in l T value 2 40) (cwS 3 hts gX10_set_X10_in rfl rfl rfl (by decide +kernel) ⟨Nat.le_of_ble_eq_true rfl, Nat.le_of_ble_eq_true rfl⟩) (As := [.int value, .int 2, .int 40]) (rest := []) rfl rfl (Nat.le_of_ble_eq_true rfl) dX10_set_39 rfl ⟨Nat.zero_le _, Nat.zero_le _⟩ (fun u25 eu25 bu25 => ?_)
        have zh26 := zl_e zh9 eu25
        refine Z.of (pc' := 65) (fun _ _ _ _ => lv_goto hx hb dX10_set_42 (by decide)) ?_
        refine Z.sto (pc' := 66) (lv' := [(3, .int u25), (0, .ref (M 0)), (1, .int what), (2, .int value)]) (fun _ _ _ hl => lv_istore_n (lv' := [(3, .int u25), (0, .ref (M 0)), (1, .int what), (2, .int value)]) hx hb dX10_set_65 rfl hl (by decide) rfl) ?_
        refine Z.of (pc' := 67) (fun _ _ _ hl => lv_iload_n hx hb dX10_set_66 rfl (lv_at hl 0 rfl)) ?_
        refine Z.two' (pt := 73) (pf := 70) (fun _ _ _ _ => lv_if_ne hx hb dX10_set_67 (by decide)) (fun c27 => ?_) (fun c27 => ?_)
        · have zh28 := zh26.trans (if_neg c27)
          refine Z.of (pc' := 74) (fun _ _ _ hl => lv_aload_n hx hb dX10_set_73 rfl (lv_at hl 1 rfl)) ?_
          refine z_callVv C (c_X10_records l T M g m t hns0) [0, 1, 2] [] rfl (by decide +kernel) (fun u30 => [(M 0, .inr (10, [.ref (M 1), .int (u30.1 0), .ref (M 2), .int (u30.1 1), .int (u30.1 2), .int (u30.1 3), .int (u30.1 4), .int (u30.1 5), .int (u30.1 6)])), (M 1, .inl (T.2.2.1, 1099, .inl u30.2)), (M 2, .inl (T.2.2.2, 60, .inl t))]) (fun _ => rfl) [] rfl (fun _ => rfl) [M 0, M 1, M 2] rfl (fun _ => rfl) 3 (fun _ => rfl) (by decide +kernel) (cwV 0 hts gX10_set_X10_records rfl rfl rfl (by decide +kernel) ⟨Nat.le_of_ble_eq_true rfl, Nat.le_of_ble_eq_true rfl⟩) 0 rfl rfl rfl (As := []) (rest := []) rfl rfl (Nat.le_of_ble_eq_true rfl) dX10_set_74 rfl ⟨Nat.zero_le _, Nat.zero_le _⟩ (fun u30 eu30 => ?_)
          have zh31 := zl_e zh28 eu30
          refine Z.of (pc' := 78) (fun _ _ _ hl => lv_aload_n hx hb dX10_set_77 rfl (lv_at hl 1 rfl)) ?_
          refine z_get C iX10 0 0 k7 rfl rfl (by decide) rfl rfl dX10_set_78 rfl ?_
          refine Z.of (pc' := 83) (fun _ _ _ _ => lv_bipush (v := 7) hx hb dX10_set_81 (by decide)) ?_
          refine Z.of (pc' := 84) (fun _ _ _ hl => lv_iload_n hx hb dX10_set_83 rfl (lv_at hl 2 rfl)) ?_
          refine Z.topn (y := nI 2) (show what = nI 2 from c7) ?_
          refine Z.of (pc' := 85) (fun _ _ _ hl => lv_iadd hx hb dX10_set_84) ?_
          refine Z.topn (y := 9) (by decide) ?_
          refine z_iald C 1 1 rfl rfl (j := 9) (rfl : (9 : Int32) = nI 9) (by decide) (by decide) dX10_set_85 rfl ?_
          refine Z.sto (pc' := 88) (lv' := [(4, .int (u30.2 9)), (3, .int u25), (0, .ref (M 0)), (1, .int what), (2, .int value)]) (fun _ _ _ hl => lv_istore (lv' := [(4, .int (u30.2 9)), (3, .int u25), (0, .ref (M 0)), (1, .int what), (2, .int value)]) hx hb dX10_set_86 hl (by decide) rfl) ?_
          refine Z.of (pc' := 89) (fun _ _ _ hl => lv_aload_n hx hb dX10_set_88 rfl (lv_at hl 2 rfl)) ?_
          refine z_get C iX10 0 0 k7 rfl rfl (by decide) rfl rfl dX10_set_89 rfl ?_
          refine Z.of (pc' := 94) (fun _ _ _ _ => lv_bipush (v := 7) hx hb dX10_set_92 (by decide)) ?_
          refine Z.of (pc' := 95) (fun _ _ _ hl => lv_iload_n hx hb dX10_set_94 rfl (lv_at hl 3 rfl)) ?_
          refine Z.topn (y := nI 2) (show what = nI 2 from c7) ?_
          refine Z.of (pc' := 96) (fun _ _ _ hl => lv_iadd hx hb dX10_set_95) ?_
          refine Z.topn (y := 9) (by decide) ?_
          refine Z.of (pc' := 97) (fun _ _ _ hl => lv_iload_n hx hb dX10_set_96 rfl (lv_at hl 4 rfl)) ?_
          refine z_iast C 1 1 rfl rfl (j := 9) (rfl : (9 : Int32) = nI 9) (by decide) (by decide) dX10_set_97 rfl (fun m32 => [(M 0, .inr (10, [.ref (M 1), .int (u30.1 0), .ref (M 2), .int (u30.1 1), .int (u30.1 2), .int (u30.1 3), .int (u30.1 4), .int (u30.1 5), .int (u30.1 6)])), (M 1, .inl (T.2.2.1, 1099, .inl m32)), (M 2, .inl (T.2.2.2, 60, .inl t))]) (fun _ => rfl) (fun m32 em32 => ?_)
          have zh33 := zl_e zh31 em32
          refine Z.of (pc' := 100) (fun _ _ _ hl => lv_iload hx hb dX10_set_98 (lv_at hl 0 rfl)) ?_
          exact E (u30.2 9, u30.1, m32) _ _ _ _ dX10_set_100 rfl rfl rfl zh33
        · have zh29 := zh26.trans (if_pos c27)
          refine Z.of (pc' := 72) (fun _ _ _ _ => lv_ldc hx hb hown (hts (.constant RX10 59 (-1000001)) (by decide +kernel)) dX10_set_70) ?_
          exact E ((-1000001), g, m) _ _ _ _ dX10_set_72 rfl rfl rfl zh29
    · have zh6 := zh2.trans (if_pos c4)
      refine Z.of (pc' := 21) (fun _ _ _ hl => lv_iload_n hx hb dX10_set_20 rfl (lv_at hl 2 rfl)) ?_
      refine Z.of (pc' := 22) (fun _ _ _ _ => lv_iconst (v := 0) hx hb dX10_set_21 (by decide)) ?_
      refine Z.of (pc' := 24) (fun _ _ _ _ => lv_bipush (v := 50) hx hb dX10_set_22 (by decide)) ?_
      refine z_callSi C (c_X10_in l T value 0 50) (cwS 3 hts gX10_set_X10_in rfl rfl rfl (by decide +kernel) ⟨Nat.le_of_ble_eq_true rfl, Nat.le_of_ble_eq_true rfl⟩) (As := [.int value, .int 0, .int 50]) (rest := []) rfl rfl (Nat.le_of_ble_eq_true rfl) dX10_set_24 rfl ⟨Nat.zero_le _, Nat.zero_le _⟩ (fun u34 eu34 bu34 => ?_)
      have zh35 := zl_e zh6 eu34
      refine Z.of (pc' := 65) (fun _ _ _ _ => lv_goto hx hb dX10_set_27 (by decide)) ?_
      refine Z.sto (pc' := 66) (lv' := [(3, .int u34), (0, .ref (M 0)), (1, .int what), (2, .int value)]) (fun _ _ _ hl => lv_istore_n (lv' := [(3, .int u34), (0, .ref (M 0)), (1, .int what), (2, .int value)]) hx hb dX10_set_65 rfl hl (by decide) rfl) ?_
      refine Z.of (pc' := 67) (fun _ _ _ hl => lv_iload_n hx hb dX10_set_66 rfl (lv_at hl 0 rfl)) ?_
      refine Z.two' (pt := 73) (pf := 70) (fun _ _ _ _ => lv_if_ne hx hb dX10_set_67 (by decide)) (fun c36 => ?_) (fun c36 => ?_)
      · have zh37 := zh35.trans (if_neg c36)
        refine Z.of (pc' := 74) (fun _ _ _ hl => lv_aload_n hx hb dX10_set_73 rfl (lv_at hl 1 rfl)) ?_
        refine z_callVv C (c_X10_records l T M g m t hns0) [0, 1, 2] [] rfl (by decide +kernel) (fun u39 => [(M 0, .inr (10, [.ref (M 1), .int (u39.1 0), .ref (M 2), .int (u39.1 1), .int (u39.1 2), .int (u39.1 3), .int (u39.1 4), .int (u39.1 5), .int (u39.1 6)])), (M 1, .inl (T.2.2.1, 1099, .inl u39.2)), (M 2, .inl (T.2.2.2, 60, .inl t))]) (fun _ => rfl) [] rfl (fun _ => rfl) [M 0, M 1, M 2] rfl (fun _ => rfl) 3 (fun _ => rfl) (by decide +kernel) (cwV 0 hts gX10_set_X10_records rfl rfl rfl (by decide +kernel) ⟨Nat.le_of_ble_eq_true rfl, Nat.le_of_ble_eq_true rfl⟩) 0 rfl rfl rfl (As := []) (rest := []) rfl rfl (Nat.le_of_ble_eq_true rfl) dX10_set_74 rfl ⟨Nat.zero_le _, Nat.zero_le _⟩ (fun u39 eu39 => ?_)
        have zh40 := zl_e zh37 eu39
        refine Z.of (pc' := 78) (fun _ _ _ hl => lv_aload_n hx hb dX10_set_77 rfl (lv_at hl 1 rfl)) ?_
        refine z_get C iX10 0 0 k7 rfl rfl (by decide) rfl rfl dX10_set_78 rfl ?_
        refine Z.of (pc' := 83) (fun _ _ _ _ => lv_bipush (v := 7) hx hb dX10_set_81 (by decide)) ?_
        refine Z.of (pc' := 84) (fun _ _ _ hl => lv_iload_n hx hb dX10_set_83 rfl (lv_at hl 2 rfl)) ?_
        refine Z.topn (y := nI 1) (show what = nI 1 from c4) ?_
        refine Z.of (pc' := 85) (fun _ _ _ hl => lv_iadd hx hb dX10_set_84) ?_
        refine Z.topn (y := 8) (by decide) ?_
        refine z_iald C 1 1 rfl rfl (j := 8) (rfl : (8 : Int32) = nI 8) (by decide) (by decide) dX10_set_85 rfl ?_
        refine Z.sto (pc' := 88) (lv' := [(4, .int (u39.2 8)), (3, .int u34), (0, .ref (M 0)), (1, .int what), (2, .int value)]) (fun _ _ _ hl => lv_istore (lv' := [(4, .int (u39.2 8)), (3, .int u34), (0, .ref (M 0)), (1, .int what), (2, .int value)]) hx hb dX10_set_86 hl (by decide) rfl) ?_
        refine Z.of (pc' := 89) (fun _ _ _ hl => lv_aload_n hx hb dX10_set_88 rfl (lv_at hl 2 rfl)) ?_
        refine z_get C iX10 0 0 k7 rfl rfl (by decide) rfl rfl dX10_set_89 rfl ?_
        refine Z.of (pc' := 94) (fun _ _ _ _ => lv_bipush (v := 7) hx hb dX10_set_92 (by decide)) ?_
        refine Z.of (pc' := 95) (fun _ _ _ hl => lv_iload_n hx hb dX10_set_94 rfl (lv_at hl 3 rfl)) ?_
        refine Z.topn (y := nI 1) (show what = nI 1 from c4) ?_
        refine Z.of (pc' := 96) (fun _ _ _ hl => lv_iadd hx hb dX10_set_95) ?_
        refine Z.topn (y := 8) (by decide) ?_
        refine Z.of (pc' := 97) (fun _ _ _ hl => lv_iload_n hx hb dX10_set_96 rfl (lv_at hl 4 rfl)) ?_
        refine z_iast C 1 1 rfl rfl (j := 8) (rfl : (8 : Int32) = nI 8) (by decide) (by decide) dX10_set_97 rfl (fun m41 => [(M 0, .inr (10, [.ref (M 1), .int (u39.1 0), .ref (M 2), .int (u39.1 1), .int (u39.1 2), .int (u39.1 3), .int (u39.1 4), .int (u39.1 5), .int (u39.1 6)])), (M 1, .inl (T.2.2.1, 1099, .inl m41)), (M 2, .inl (T.2.2.2, 60, .inl t))]) (fun _ => rfl) (fun m41 em41 => ?_)
        have zh42 := zl_e zh40 em41
        refine Z.of (pc' := 100) (fun _ _ _ hl => lv_iload hx hb dX10_set_98 (lv_at hl 0 rfl)) ?_
        exact E (u39.2 8, u39.1, m41) _ _ _ _ dX10_set_100 rfl rfl rfl zh42
      · have zh38 := zh35.trans (if_pos c36)
        refine Z.of (pc' := 72) (fun _ _ _ _ => lv_ldc hx hb hown (hts (.constant RX10 59 (-1000001)) (by decide +kernel)) dX10_set_70) ?_
        exact E ((-1000001), g, m) _ _ _ _ dX10_set_72 rfl rfl rfl zh38
  · have zh3 := zh0.trans (if_pos c1)
    refine Z.of (pc' := 5) (fun _ _ _ hl => lv_iload_n hx hb dX10_set_4 rfl (lv_at hl 2 rfl)) ?_
    refine Z.of (pc' := 6) (fun _ _ _ _ => lv_iconst (v := 1) hx hb dX10_set_5 (by decide)) ?_
    refine Z.of (pc' := 9) (fun _ _ _ _ => lv_sipush (v := 500) hx hb dX10_set_6 (by decide)) ?_
    refine z_callSi C (c_X10_in l T value 1 500) (cwS 3 hts gX10_set_X10_in rfl rfl rfl (by decide +kernel) ⟨Nat.le_of_ble_eq_true rfl, Nat.le_of_ble_eq_true rfl⟩) (As := [.int value, .int 1, .int 500]) (rest := []) rfl rfl (Nat.le_of_ble_eq_true rfl) dX10_set_9 rfl ⟨Nat.zero_le _, Nat.zero_le _⟩ (fun u43 eu43 bu43 => ?_)
    have zh44 := zl_e zh3 eu43
    refine Z.of (pc' := 65) (fun _ _ _ _ => lv_goto hx hb dX10_set_12 (by decide)) ?_
    refine Z.sto (pc' := 66) (lv' := [(3, .int u43), (0, .ref (M 0)), (1, .int what), (2, .int value)]) (fun _ _ _ hl => lv_istore_n (lv' := [(3, .int u43), (0, .ref (M 0)), (1, .int what), (2, .int value)]) hx hb dX10_set_65 rfl hl (by decide) rfl) ?_
    refine Z.of (pc' := 67) (fun _ _ _ hl => lv_iload_n hx hb dX10_set_66 rfl (lv_at hl 0 rfl)) ?_
    refine Z.two' (pt := 73) (pf := 70) (fun _ _ _ _ => lv_if_ne hx hb dX10_set_67 (by decide)) (fun c45 => ?_) (fun c45 => ?_)
    · have zh46 := zh44.trans (if_neg c45)
      refine Z.of (pc' := 74) (fun _ _ _ hl => lv_aload_n hx hb dX10_set_73 rfl (lv_at hl 1 rfl)) ?_
      refine z_callVv C (c_X10_records l T M g m t hns0) [0, 1, 2] [] rfl (by decide +kernel) (fun u48 => [(M 0, .inr (10, [.ref (M 1), .int (u48.1 0), .ref (M 2), .int (u48.1 1), .int (u48.1 2), .int (u48.1 3), .int (u48.1 4), .int (u48.1 5), .int (u48.1 6)])), (M 1, .inl (T.2.2.1, 1099, .inl u48.2)), (M 2, .inl (T.2.2.2, 60, .inl t))]) (fun _ => rfl) [] rfl (fun _ => rfl) [M 0, M 1, M 2] rfl (fun _ => rfl) 3 (fun _ => rfl) (by decide +kernel) (cwV 0 hts gX10_set_X10_records rfl rfl rfl (by decide +kernel) ⟨Nat.le_of_ble_eq_true rfl, Nat.le_of_ble_eq_true rfl⟩) 0 rfl rfl rfl (As := []) (rest := []) rfl rfl (Nat.le_of_ble_eq_true rfl) dX10_set_74 rfl ⟨Nat.zero_le _, Nat.zero_le _⟩ (fun u48 eu48 => ?_)
      have zh49 := zl_e zh46 eu48
      refine Z.of (pc' := 78) (fun _ _ _ hl => lv_aload_n hx hb dX10_set_77 rfl (lv_at hl 1 rfl)) ?_
      refine z_get C iX10 0 0 k7 rfl rfl (by decide) rfl rfl dX10_set_78 rfl ?_
      refine Z.of (pc' := 83) (fun _ _ _ _ => lv_bipush (v := 7) hx hb dX10_set_81 (by decide)) ?_
      refine Z.of (pc' := 84) (fun _ _ _ hl => lv_iload_n hx hb dX10_set_83 rfl (lv_at hl 2 rfl)) ?_
      refine Z.topn (y := nI 0) (show what = nI 0 from c1) ?_
      refine Z.of (pc' := 85) (fun _ _ _ hl => lv_iadd hx hb dX10_set_84) ?_
      refine Z.topn (y := 7) (by decide) ?_
      refine z_iald C 1 1 rfl rfl (j := 7) (rfl : (7 : Int32) = nI 7) (by decide) (by decide) dX10_set_85 rfl ?_
      refine Z.sto (pc' := 88) (lv' := [(4, .int (u48.2 7)), (3, .int u43), (0, .ref (M 0)), (1, .int what), (2, .int value)]) (fun _ _ _ hl => lv_istore (lv' := [(4, .int (u48.2 7)), (3, .int u43), (0, .ref (M 0)), (1, .int what), (2, .int value)]) hx hb dX10_set_86 hl (by decide) rfl) ?_
      refine Z.of (pc' := 89) (fun _ _ _ hl => lv_aload_n hx hb dX10_set_88 rfl (lv_at hl 2 rfl)) ?_
      refine z_get C iX10 0 0 k7 rfl rfl (by decide) rfl rfl dX10_set_89 rfl ?_
      refine Z.of (pc' := 94) (fun _ _ _ _ => lv_bipush (v := 7) hx hb dX10_set_92 (by decide)) ?_
      refine Z.of (pc' := 95) (fun _ _ _ hl => lv_iload_n hx hb dX10_set_94 rfl (lv_at hl 3 rfl)) ?_
      refine Z.topn (y := nI 0) (show what = nI 0 from c1) ?_
      refine Z.of (pc' := 96) (fun _ _ _ hl => lv_iadd hx hb dX10_set_95) ?_
      refine Z.topn (y := 7) (by decide) ?_
      refine Z.of (pc' := 97) (fun _ _ _ hl => lv_iload_n hx hb dX10_set_96 rfl (lv_at hl 4 rfl)) ?_
      refine z_iast C 1 1 rfl rfl (j := 7) (rfl : (7 : Int32) = nI 7) (by decide) (by decide) dX10_set_97 rfl (fun m50 => [(M 0, .inr (10, [.ref (M 1), .int (u48.1 0), .ref (M 2), .int (u48.1 1), .int (u48.1 2), .int (u48.1 3), .int (u48.1 4), .int (u48.1 5), .int (u48.1 6)])), (M 1, .inl (T.2.2.1, 1099, .inl m50)), (M 2, .inl (T.2.2.2, 60, .inl t))]) (fun _ => rfl) (fun m50 em50 => ?_)
      have zh51 := zl_e zh49 em50
      refine Z.of (pc' := 100) (fun _ _ _ hl => lv_iload hx hb dX10_set_98 (lv_at hl 0 rfl)) ?_
      exact E (u48.2 7, u48.1, m50) _ _ _ _ dX10_set_100 rfl rfl rfl zh51
    · have zh47 := zh44.trans (if_pos c45)
      refine Z.of (pc' := 72) (fun _ _ _ _ => lv_ldc hx hb hown (hts (.constant RX10 59 (-1000001)) (by decide +kernel)) dX10_set_70) ?_
      exact E ((-1000001), g, m) _ _ _ _ dX10_set_72 rfl rfl rfl zh47
def f_X10_ringOf (g : Nat → Int32) (m : Nat → Int32) (t : Nat → Int32) (ring : Int32) (what : Int32) : Int32 :=
  zl (f_X10_in ring 0 1) fun u1 =>
  if u1 = 0 then
    (-1000001)
  else
    zl (f_X10_in what 0 3) fun u6 =>
    if u6 = 0 then
      (-1000001)
    else
      if what = 3 then
        zl (f_X10_isHigh g m t 0 ring.toNatClampNeg) fun u14 =>
        if u14 = 0 then
          0
        else
          1
      else
        (m (2 * what.toNatClampNeg + ring.toNatClampNeg + 1))
theorem fe_X10_ringOf (g : Nat → Int32) (m : Nat → Int32) (t : Nat → Int32) (ring : Int32) (what : Int32) : f_X10_ringOf g m t ring what = (
    zl (f_X10_in ring 0 1) fun u1 =>
    if u1 = 0 then
      (-1000001)
    else
      zl (f_X10_in what 0 3) fun u6 =>
      if u6 = 0 then
        (-1000001)
      else
        if what = 3 then
          zl (f_X10_isHigh g m t 0 ring.toNatClampNeg) fun u14 =>
          if u14 = 0 then
            0
          else
            1
        else
          (m (2 * what.toNatClampNeg + ring.toNatClampNeg + 1))
    ) := rfl
abbrev rm_X10_ringOf : Room := { frames := 1, cells := 0, slots := 0, locals := 22 }
set_option maxHeartbeats 1000000 in
set_option maxRecDepth 100000 in
theorem c_X10_ringOf (l : Launch) (T : zT) (M : Nat → Nat) (g : Nat → Int32) (m : Nat → Int32) (t : Nat → Int32) (ring : Int32) (what : Int32) : Ci l yX10_ringOf wsX10_ringOf rm_X10_ringOf T .int [.ref (M 0), .int ring, .int what] [(M 0, .inr (10, [.ref (M 1), .int (g 0), .ref (M 2), .int (g 1), .int (g 2), .int (g 3), .int (g 4), .int (g 5), .int (g 6)])), (M 1, .inl (T.2.2.1, 1099, .inl m)), (M 2, .inl (T.2.2.2, 60, .inl t))] (S := Int32) (f_X10_ringOf g m t ring what) (fun u => u) (fun u => [(M 0, .inr (10, [.ref (M 1), .int (g 0), .ref (M 2), .int (g 1), .int (g 2), .int (g 3), .int (g 4), .int (g 5), .int (g 6)])), (M 1, .inl (T.2.2.1, 1099, .inl m)), (M 2, .inl (T.2.2.2, 60, .inl t))]) := by
  refine z_metI (own := RX10) (maxL := 3) rfl (by decide) rfl (Nat.le_of_ble_eq_true rfl) ?_
  intro P0 E0 S0 M0 G0 B0 T0 K0 A9 Q9 C E
  have hx := C.1.1
  have hb := C.1.2.1
  have hown := C.1.2.2.2.1
  have hts := C.1.2.2.2.2
  have hn := C.2.1.2
  have iX10 : ∀ w ∈ u_ws RX10 TX10 9, w ∈ wsX10_ringOf := by decide +kernel
  have k7 := hts (.fieldLink RX10 7 "JudgedBitsModel" "s" "[I") (by decide +kernel)
  change Z P0 l E0 rm_X10_ringOf S0 M0 G0 B0 T0 K0 3 T A9 Q9 0 0 [(M 0, .inr (10, [.ref (M 1), .int (g 0), .ref (M 2), .int (g 1), .int (g 2), .int (g 3), .int (g 4), .int (g 5), .int (g 6)])), (M 1, .inl (T.2.2.1, 1099, .inl m)), (M 2, .inl (T.2.2.2, 60, .inl t))] 0 [(0, .ref (M 0)), (1, .int ring), (2, .int what)] []
  have zh0 := fe_X10_ringOf g m t ring what
  refine Z.of (pc' := 1) (fun _ _ _ hl => lv_iload_n hx hb dX10_ringOf_0 rfl (lv_at hl 1 rfl)) ?_
  refine Z.of (pc' := 2) (fun _ _ _ _ => lv_iconst (v := 0) hx hb dX10_ringOf_1 (by decide)) ?_
  refine Z.of (pc' := 3) (fun _ _ _ _ => lv_iconst (v := 1) hx hb dX10_ringOf_2 (by decide)) ?_
  refine z_callSi C (c_X10_in l T ring 0 1) (cwS 3 hts gX10_ringOf_X10_in rfl rfl rfl (by decide +kernel) ⟨Nat.le_of_ble_eq_true rfl, Nat.le_of_ble_eq_true rfl⟩) (As := [.int ring, .int 0, .int 1]) (rest := []) rfl rfl (Nat.le_of_ble_eq_true rfl) dX10_ringOf_3 rfl ⟨Nat.zero_le _, Nat.zero_le _⟩ (fun u1 eu1 bu1 => ?_)
  have zh2 := zl_e zh0 eu1
  refine Z.two (pt := 18) (pf := 9) (fun _ _ _ _ => lv_if_eq hx hb dX10_ringOf_6 (by decide)) (fun c3 => ?_) (fun c3 => ?_)
  · have zh4 := zh2.trans (if_pos c3)
    refine Z.of (pc' := 20) (fun _ _ _ _ => lv_ldc hx hb hown (hts (.constant RX10 59 (-1000001)) (by decide +kernel)) dX10_ringOf_18) ?_
    exact E (-1000001) _ _ _ _ dX10_ringOf_20 rfl rfl rfl zh4
  · have zh5 := zh2.trans (if_neg c3)
    refine Z.of (pc' := 10) (fun _ _ _ hl => lv_iload_n hx hb dX10_ringOf_9 rfl (lv_at hl 2 rfl)) ?_
    refine Z.of (pc' := 11) (fun _ _ _ _ => lv_iconst (v := 0) hx hb dX10_ringOf_10 (by decide)) ?_
    refine Z.of (pc' := 12) (fun _ _ _ _ => lv_iconst (v := 3) hx hb dX10_ringOf_11 (by decide)) ?_
    refine z_callSi C (c_X10_in l T what 0 3) (cwS 3 hts gX10_ringOf_X10_in rfl rfl rfl (by decide +kernel) ⟨Nat.le_of_ble_eq_true rfl, Nat.le_of_ble_eq_true rfl⟩) (As := [.int what, .int 0, .int 3]) (rest := []) rfl rfl (Nat.le_of_ble_eq_true rfl) dX10_ringOf_12 rfl ⟨Nat.zero_le _, Nat.zero_le _⟩ (fun u6 eu6 bu6 => ?_)
    have zh7 := zl_e zh5 eu6
    refine Z.two' (pt := 21) (pf := 18) (fun _ _ _ _ => lv_if_ne hx hb dX10_ringOf_15 (by decide)) (fun c8 => ?_) (fun c8 => ?_)
    · have zh9 := zh7.trans (if_neg c8)
      have hri := zix_of (N := 1) (zin_of eu1 c3) (by decide)
      have hri2 := hri.2
      have hwi := zix_of (N := 3) (zin_of eu6 c8) (by decide)
      have hwi2 := hwi.2
      refine Z.of (pc' := 22) (fun _ _ _ hl => lv_iload_n hx hb dX10_ringOf_21 rfl (lv_at hl 2 rfl)) ?_
      refine Z.of (pc' := 23) (fun _ _ _ _ => lv_iconst (v := 3) hx hb dX10_ringOf_22 (by decide)) ?_
      refine Z.two' (pt := 43) (pf := 26) (fun _ _ _ _ => lv_icmp_ne hx hb dX10_ringOf_23 (by decide)) (fun c11 => ?_) (fun c11 => ?_)
      · have zh12 := zh9.trans (if_neg c11)
        refine Z.of (pc' := 44) (fun _ _ _ hl => lv_aload_n hx hb dX10_ringOf_43 rfl (lv_at hl 0 rfl)) ?_
        refine z_get C iX10 0 0 k7 rfl rfl (by decide) rfl rfl dX10_ringOf_44 rfl ?_
        refine Z.of (pc' := 48) (fun _ _ _ _ => lv_iconst (v := 1) hx hb dX10_ringOf_47 (by decide)) ?_
        refine Z.of (pc' := 49) (fun _ _ _ _ => lv_iconst (v := 2) hx hb dX10_ringOf_48 (by decide)) ?_
        refine Z.of (pc' := 50) (fun _ _ _ hl => lv_iload_n hx hb dX10_ringOf_49 rfl (lv_at hl 2 rfl)) ?_
        refine Z.topn (y := nI what.toNatClampNeg) hwi.1 ?_
        refine Z.of (pc' := 51) (fun _ _ _ hl => lv_imul hx hb dX10_ringOf_50) ?_
        refine Z.topn (y := nI (2 * what.toNatClampNeg)) (zi_c (zi_mul (a := 2) (b := what.toNatClampNeg) (rfl : (2 : Int32) = nI 2) (rfl : nI what.toNatClampNeg = nI what.toNatClampNeg)) (by omega)) ?_
        refine Z.of (pc' := 52) (fun _ _ _ hl => lv_iadd hx hb dX10_ringOf_51) ?_
        refine Z.topn (y := nI (2 * what.toNatClampNeg + 1)) (zi_c (zi_add (a := 1) (b := 2 * what.toNatClampNeg) (rfl : (1 : Int32) = nI 1) (rfl : nI (2 * what.toNatClampNeg) = nI (2 * what.toNatClampNeg))) (by omega)) ?_
        refine Z.of (pc' := 53) (fun _ _ _ hl => lv_iload_n hx hb dX10_ringOf_52 rfl (lv_at hl 1 rfl)) ?_
        refine Z.topn (y := nI ring.toNatClampNeg) hri.1 ?_
        refine Z.of (pc' := 54) (fun _ _ _ hl => lv_iadd hx hb dX10_ringOf_53) ?_
        refine Z.topn (y := nI (2 * what.toNatClampNeg + ring.toNatClampNeg + 1)) (zi_c (zi_add (a := 2 * what.toNatClampNeg + 1) (b := ring.toNatClampNeg) (rfl : nI (2 * what.toNatClampNeg + 1) = nI (2 * what.toNatClampNeg + 1)) (rfl : nI ring.toNatClampNeg = nI ring.toNatClampNeg)) (by omega)) ?_
        refine z_iald C 1 1 rfl rfl (j := 2 * what.toNatClampNeg + ring.toNatClampNeg + 1) (rfl : nI (2 * what.toNatClampNeg + ring.toNatClampNeg + 1) = nI (2 * what.toNatClampNeg + ring.toNatClampNeg + 1)) (by omega) (by decide) dX10_ringOf_54 rfl ?_
        exact E (m (2 * what.toNatClampNeg + ring.toNatClampNeg + 1)) _ _ _ _ dX10_ringOf_55 rfl rfl rfl zh12
      · have zh13 := zh9.trans (if_pos c11)
        refine Z.of (pc' := 27) (fun _ _ _ hl => lv_aload_n hx hb dX10_ringOf_26 rfl (lv_at hl 0 rfl)) ?_
        refine Z.of (pc' := 28) (fun _ _ _ _ => lv_iconst (v := 0) hx hb dX10_ringOf_27 (by decide)) ?_
        refine Z.of (pc' := 29) (fun _ _ _ hl => lv_iload_n hx hb dX10_ringOf_28 rfl (lv_at hl 1 rfl)) ?_
        refine Z.topn (y := nI ring.toNatClampNeg) hri.1 ?_
        refine z_callVi C (c_X10_isHigh l T M g m t 0 ring.toNatClampNeg (by omega) (by omega)) [0, 1, 2] [] rfl (by decide +kernel) (fun u14 => [(M 0, .inr (10, [.ref (M 1), .int (g 0), .ref (M 2), .int (g 1), .int (g 2), .int (g 3), .int (g 4), .int (g 5), .int (g 6)])), (M 1, .inl (T.2.2.1, 1099, .inl m)), (M 2, .inl (T.2.2.2, 60, .inl t))]) (fun _ => rfl) [] rfl (fun _ => rfl) [M 0, M 1, M 2] rfl (fun _ => rfl) 3 (fun _ => rfl) (by decide +kernel) (cwV 2 hts gX10_ringOf_X10_isHigh rfl rfl rfl (by decide +kernel) ⟨Nat.le_of_ble_eq_true rfl, Nat.le_of_ble_eq_true rfl⟩) 0 rfl rfl rfl (As := [.int 0, .int (nI ring.toNatClampNeg)]) (rest := []) rfl rfl (Nat.le_of_ble_eq_true rfl) dX10_ringOf_29 rfl ⟨Nat.zero_le _, Nat.zero_le _⟩ (fun u14 eu14 bu14 => ?_)
        have zh15 := zl_e zh13 eu14
        refine Z.two (pt := 39) (pf := 35) (fun _ _ _ _ => lv_if_eq hx hb dX10_ringOf_32 (by decide)) (fun c16 => ?_) (fun c16 => ?_)
        · have zh17 := zh15.trans (if_pos c16)
          refine Z.of (pc' := 40) (fun _ _ _ _ => lv_iconst (v := 0) hx hb dX10_ringOf_39 (by decide)) ?_
          refine Z.of (pc' := 55) (fun _ _ _ _ => lv_goto hx hb dX10_ringOf_40 (by decide)) ?_
          exact E 0 _ _ _ _ dX10_ringOf_55 rfl rfl rfl zh17
        · have zh18 := zh15.trans (if_neg c16)
          refine Z.of (pc' := 36) (fun _ _ _ _ => lv_iconst (v := 1) hx hb dX10_ringOf_35 (by decide)) ?_
          refine Z.of (pc' := 55) (fun _ _ _ _ => lv_goto hx hb dX10_ringOf_36 (by decide)) ?_
          exact E 1 _ _ _ _ dX10_ringOf_55 rfl rfl rfl zh18
    · have zh10 := zh7.trans (if_pos c8)
      refine Z.of (pc' := 20) (fun _ _ _ _ => lv_ldc hx hb hown (hts (.constant RX10 59 (-1000001)) (by decide +kernel)) dX10_ringOf_18) ?_
      exact E (-1000001) _ _ _ _ dX10_ringOf_20 rfl rfl rfl zh10
def f_X10_source (g : Nat → Int32) (m : Nat → Int32) (t : Nat → Int32) (what : Int32) : Int32 :=
  if what = 0 then
    (m 11)
  else
    if what = 1 then
      if (m 11) = 2 then
        (m 12)
      else
        (-1000004)
    else
      if what = 2 then
        if (m 11) = 0 then
          (m 13)
        else
          (-1000004)
      else
        if what = 3 then
          (m 14)
        else
          if what = 4 then
            (m 16)
          else
            if what = 5 then
              (m 17)
            else
              if what = 6 then
                (m 18)
              else
                if what = 7 then
                  if 0 ≤ (m 19) then
                    (m 19)
                  else
                    (-1000004)
                else
                  if what = 8 then
                    zl (f_X10_locks g m t 0) fun u38 =>
                    if u38 = 0 then
                      0
                    else
                      1
                  else
                    if what = 9 then
                      (m 0)
                    else
                      (-1000001)
theorem fe_X10_source (g : Nat → Int32) (m : Nat → Int32) (t : Nat → Int32) (what : Int32) : f_X10_source g m t what = (
    if what = 0 then
      (m 11)
    else
      if what = 1 then
        if (m 11) = 2 then
          (m 12)
        else
          (-1000004)
      else
        if what = 2 then
          if (m 11) = 0 then
            (m 13)
          else
            (-1000004)
        else
          if what = 3 then
            (m 14)
          else
            if what = 4 then
              (m 16)
            else
              if what = 5 then
                (m 17)
              else
                if what = 6 then
                  (m 18)
                else
                  if what = 7 then
                    if 0 ≤ (m 19) then
                      (m 19)
                    else
                      (-1000004)
                  else
                    if what = 8 then
                      zl (f_X10_locks g m t 0) fun u38 =>
                      if u38 = 0 then
                        0
                      else
                        1
                    else
                      if what = 9 then
                        (m 0)
                      else
                        (-1000001)
    ) := rfl
abbrev rm_X10_source : Room := { frames := 1, cells := 0, slots := 0, locals := 22 }
set_option maxHeartbeats 1000000 in
set_option maxRecDepth 100000 in
theorem c_X10_source (l : Launch) (T : zT) (M : Nat → Nat) (g : Nat → Int32) (m : Nat → Int32) (t : Nat → Int32) (what : Int32) : Ci l yX10_source wsX10_source rm_X10_source T .int [.ref (M 0), .int what] [(M 0, .inr (10, [.ref (M 1), .int (g 0), .ref (M 2), .int (g 1), .int (g 2), .int (g 3), .int (g 4), .int (g 5), .int (g 6)])), (M 1, .inl (T.2.2.1, 1099, .inl m)), (M 2, .inl (T.2.2.2, 60, .inl t))] (S := Int32) (f_X10_source g m t what) (fun u => u) (fun u => [(M 0, .inr (10, [.ref (M 1), .int (g 0), .ref (M 2), .int (g 1), .int (g 2), .int (g 3), .int (g 4), .int (g 5), .int (g 6)])), (M 1, .inl (T.2.2.1, 1099, .inl m)), (M 2, .inl (T.2.2.2, 60, .inl t))]) := by
  refine z_metI (own := RX10) (maxL := 2) rfl (by decide) rfl (Nat.le_of_ble_eq_true rfl) ?_
  intro P0 E0 S0 M0 G0 B0 T0 K0 A9 Q9 C E
  have hx := C.1.1
  have hb := C.1.2.1
  have hown := C.1.2.2.2.1
  have hts := C.1.2.2.2.2
  have hn := C.2.1.2
  have iX10 : ∀ w ∈ u_ws RX10 TX10 9, w ∈ wsX10_source := by decide +kernel
  have k7 := hts (.fieldLink RX10 7 "JudgedBitsModel" "s" "[I") (by decide +kernel)
  change Z P0 l E0 rm_X10_source S0 M0 G0 B0 T0 K0 2 T A9 Q9 0 0 [(M 0, .inr (10, [.ref (M 1), .int (g 0), .ref (M 2), .int (g 1), .int (g 2), .int (g 3), .int (g 4), .int (g 5), .int (g 6)])), (M 1, .inl (T.2.2.1, 1099, .inl m)), (M 2, .inl (T.2.2.2, 60, .inl t))] 0 [(0, .ref (M 0)), (1, .int what)] []
  have zh0 := fe_X10_source g m t what
  refine Z.of (pc' := 1) (fun _ _ _ hl => lv_iload_n hx hb dX10_source_0 rfl (lv_at hl 1 rfl)) ?_
  by_cases c1 : what = 0
  · have zh11 := zh0.trans (if_pos c1)
    refine Z.of (pc' := 56) (fun _ _ _ _ => lv_tableIn (off := 55) hx hb dX10_source_1 (by rw [c1]; decide) (by rw [c1]; decide) (by rw [c1]; rfl) (by decide)) ?_
    refine Z.of (pc' := 57) (fun _ _ _ hl => lv_aload_n hx hb dX10_source_56 rfl (lv_at hl 0 rfl)) ?_
    refine z_get C iX10 0 0 k7 rfl rfl (by decide) rfl rfl dX10_source_57 rfl ?_
    refine Z.of (pc' := 62) (fun _ _ _ _ => lv_bipush (v := 11) hx hb dX10_source_60 (by decide)) ?_
    refine z_iald C 1 1 rfl rfl (j := 11) (rfl : (11 : Int32) = nI 11) (by decide) (by decide) dX10_source_62 rfl ?_
    exact E (m 11) _ _ _ _ dX10_source_63 rfl rfl rfl zh11
  · have zh12 := zh0.trans (if_neg c1)
    by_cases c2 : what = 1
    · have zh13 := zh12.trans (if_pos c2)
      refine Z.of (pc' := 64) (fun _ _ _ _ => lv_tableIn (off := 63) hx hb dX10_source_1 (by rw [c2]; decide) (by rw [c2]; decide) (by rw [c2]; rfl) (by decide)) ?_
      refine Z.of (pc' := 65) (fun _ _ _ hl => lv_aload_n hx hb dX10_source_64 rfl (lv_at hl 0 rfl)) ?_
      refine z_get C iX10 0 0 k7 rfl rfl (by decide) rfl rfl dX10_source_65 rfl ?_
      refine Z.of (pc' := 70) (fun _ _ _ _ => lv_bipush (v := 11) hx hb dX10_source_68 (by decide)) ?_
      refine z_iald C 1 1 rfl rfl (j := 11) (rfl : (11 : Int32) = nI 11) (by decide) (by decide) dX10_source_70 rfl ?_
      refine Z.of (pc' := 72) (fun _ _ _ _ => lv_iconst (v := 2) hx hb dX10_source_71 (by decide)) ?_
      refine Z.two' (pt := 85) (pf := 75) (fun _ _ _ _ => lv_icmp_ne hx hb dX10_source_72 (by decide)) (fun c15 => ?_) (fun c15 => ?_)
      · have zh16 := zh13.trans (if_neg c15)
        refine Z.of (pc' := 87) (fun _ _ _ _ => lv_ldc hx hb hown (hts (.constant RX10 78 (-1000004)) (by decide +kernel)) dX10_source_85) ?_
        exact E (-1000004) _ _ _ _ dX10_source_87 rfl rfl rfl zh16
      · have zh17 := zh13.trans (if_pos c15)
        refine Z.of (pc' := 76) (fun _ _ _ hl => lv_aload_n hx hb dX10_source_75 rfl (lv_at hl 0 rfl)) ?_
        refine z_get C iX10 0 0 k7 rfl rfl (by decide) rfl rfl dX10_source_76 rfl ?_
        refine Z.of (pc' := 81) (fun _ _ _ _ => lv_bipush (v := 12) hx hb dX10_source_79 (by decide)) ?_
        refine z_iald C 1 1 rfl rfl (j := 12) (rfl : (12 : Int32) = nI 12) (by decide) (by decide) dX10_source_81 rfl ?_
        refine Z.of (pc' := 87) (fun _ _ _ _ => lv_goto hx hb dX10_source_82 (by decide)) ?_
        exact E (m 12) _ _ _ _ dX10_source_87 rfl rfl rfl zh17
    · have zh14 := zh12.trans (if_neg c2)
      by_cases c3 : what = 2
      · have zh18 := zh14.trans (if_pos c3)
        refine Z.of (pc' := 88) (fun _ _ _ _ => lv_tableIn (off := 87) hx hb dX10_source_1 (by rw [c3]; decide) (by rw [c3]; decide) (by rw [c3]; rfl) (by decide)) ?_
        refine Z.of (pc' := 89) (fun _ _ _ hl => lv_aload_n hx hb dX10_source_88 rfl (lv_at hl 0 rfl)) ?_
        refine z_get C iX10 0 0 k7 rfl rfl (by decide) rfl rfl dX10_source_89 rfl ?_
        refine Z.of (pc' := 94) (fun _ _ _ _ => lv_bipush (v := 11) hx hb dX10_source_92 (by decide)) ?_
        refine z_iald C 1 1 rfl rfl (j := 11) (rfl : (11 : Int32) = nI 11) (by decide) (by decide) dX10_source_94 rfl ?_
        refine Z.two' (pt := 108) (pf := 98) (fun _ _ _ _ => lv_if_ne hx hb dX10_source_95 (by decide)) (fun c20 => ?_) (fun c20 => ?_)
        · have zh21 := zh18.trans (if_neg c20)
          refine Z.of (pc' := 110) (fun _ _ _ _ => lv_ldc hx hb hown (hts (.constant RX10 78 (-1000004)) (by decide +kernel)) dX10_source_108) ?_
          exact E (-1000004) _ _ _ _ dX10_source_110 rfl rfl rfl zh21
        · have zh22 := zh18.trans (if_pos c20)
          refine Z.of (pc' := 99) (fun _ _ _ hl => lv_aload_n hx hb dX10_source_98 rfl (lv_at hl 0 rfl)) ?_
          refine z_get C iX10 0 0 k7 rfl rfl (by decide) rfl rfl dX10_source_99 rfl ?_
          refine Z.of (pc' := 104) (fun _ _ _ _ => lv_bipush (v := 13) hx hb dX10_source_102 (by decide)) ?_
          refine z_iald C 1 1 rfl rfl (j := 13) (rfl : (13 : Int32) = nI 13) (by decide) (by decide) dX10_source_104 rfl ?_
          refine Z.of (pc' := 110) (fun _ _ _ _ => lv_goto hx hb dX10_source_105 (by decide)) ?_
          exact E (m 13) _ _ _ _ dX10_source_110 rfl rfl rfl zh22
      · have zh19 := zh14.trans (if_neg c3)
        by_cases c4 : what = 3
        · have zh23 := zh19.trans (if_pos c4)
          refine Z.of (pc' := 111) (fun _ _ _ _ => lv_tableIn (off := 110) hx hb dX10_source_1 (by rw [c4]; decide) (by rw [c4]; decide) (by rw [c4]; rfl) (by decide)) ?_
          refine Z.of (pc' := 112) (fun _ _ _ hl => lv_aload_n hx hb dX10_source_111 rfl (lv_at hl 0 rfl)) ?_
          refine z_get C iX10 0 0 k7 rfl rfl (by decide) rfl rfl dX10_source_112 rfl ?_
          refine Z.of (pc' := 117) (fun _ _ _ _ => lv_bipush (v := 14) hx hb dX10_source_115 (by decide)) ?_
          refine z_iald C 1 1 rfl rfl (j := 14) (rfl : (14 : Int32) = nI 14) (by decide) (by decide) dX10_source_117 rfl ?_
          exact E (m 14) _ _ _ _ dX10_source_118 rfl rfl rfl zh23
        · have zh24 := zh19.trans (if_neg c4)
          by_cases c5 : what = 4
          · have zh25 := zh24.trans (if_pos c5)
            refine Z.of (pc' := 119) (fun _ _ _ _ => lv_tableIn (off := 118) hx hb dX10_source_1 (by rw [c5]; decide) (by rw [c5]; decide) (by rw [c5]; rfl) (by decide)) ?_
            refine Z.of (pc' := 120) (fun _ _ _ hl => lv_aload_n hx hb dX10_source_119 rfl (lv_at hl 0 rfl)) ?_
            refine z_get C iX10 0 0 k7 rfl rfl (by decide) rfl rfl dX10_source_120 rfl ?_
            refine Z.of (pc' := 125) (fun _ _ _ _ => lv_bipush (v := 16) hx hb dX10_source_123 (by decide)) ?_
            refine z_iald C 1 1 rfl rfl (j := 16) (rfl : (16 : Int32) = nI 16) (by decide) (by decide) dX10_source_125 rfl ?_
            exact E (m 16) _ _ _ _ dX10_source_126 rfl rfl rfl zh25
          · have zh26 := zh24.trans (if_neg c5)
            by_cases c6 : what = 5
            · have zh27 := zh26.trans (if_pos c6)
              refine Z.of (pc' := 127) (fun _ _ _ _ => lv_tableIn (off := 126) hx hb dX10_source_1 (by rw [c6]; decide) (by rw [c6]; decide) (by rw [c6]; rfl) (by decide)) ?_
              refine Z.of (pc' := 128) (fun _ _ _ hl => lv_aload_n hx hb dX10_source_127 rfl (lv_at hl 0 rfl)) ?_
              refine z_get C iX10 0 0 k7 rfl rfl (by decide) rfl rfl dX10_source_128 rfl ?_
              refine Z.of (pc' := 133) (fun _ _ _ _ => lv_bipush (v := 17) hx hb dX10_source_131 (by decide)) ?_
              refine z_iald C 1 1 rfl rfl (j := 17) (rfl : (17 : Int32) = nI 17) (by decide) (by decide) dX10_source_133 rfl ?_
              exact E (m 17) _ _ _ _ dX10_source_134 rfl rfl rfl zh27
            · have zh28 := zh26.trans (if_neg c6)
              by_cases c7 : what = 6
              · have zh29 := zh28.trans (if_pos c7)
                refine Z.of (pc' := 135) (fun _ _ _ _ => lv_tableIn (off := 134) hx hb dX10_source_1 (by rw [c7]; decide) (by rw [c7]; decide) (by rw [c7]; rfl) (by decide)) ?_
                refine Z.of (pc' := 136) (fun _ _ _ hl => lv_aload_n hx hb dX10_source_135 rfl (lv_at hl 0 rfl)) ?_
                refine z_get C iX10 0 0 k7 rfl rfl (by decide) rfl rfl dX10_source_136 rfl ?_
                refine Z.of (pc' := 141) (fun _ _ _ _ => lv_bipush (v := 18) hx hb dX10_source_139 (by decide)) ?_
                refine z_iald C 1 1 rfl rfl (j := 18) (rfl : (18 : Int32) = nI 18) (by decide) (by decide) dX10_source_141 rfl ?_
                exact E (m 18) _ _ _ _ dX10_source_142 rfl rfl rfl zh29
              · have zh30 := zh28.trans (if_neg c7)
                by_cases c8 : what = 7
                · have zh31 := zh30.trans (if_pos c8)
                  refine Z.of (pc' := 143) (fun _ _ _ _ => lv_tableIn (off := 142) hx hb dX10_source_1 (by rw [c8]; decide) (by rw [c8]; decide) (by rw [c8]; rfl) (by decide)) ?_
                  refine Z.of (pc' := 144) (fun _ _ _ hl => lv_aload_n hx hb dX10_source_143 rfl (lv_at hl 0 rfl)) ?_
                  refine z_get C iX10 0 0 k7 rfl rfl (by decide) rfl rfl dX10_source_144 rfl ?_
                  refine Z.of (pc' := 149) (fun _ _ _ _ => lv_bipush (v := 19) hx hb dX10_source_147 (by decide)) ?_
                  refine z_iald C 1 1 rfl rfl (j := 19) (rfl : (19 : Int32) = nI 19) (by decide) (by decide) dX10_source_149 rfl ?_
                  refine Z.two (pt := 158) (pf := 153) (fun _ _ _ _ => lv_if_ge hx hb dX10_source_150 (by decide)) (fun c33 => ?_) (fun c33 => ?_)
                  · have zh34 := zh31.trans (if_pos c33)
                    refine Z.of (pc' := 159) (fun _ _ _ hl => lv_aload_n hx hb dX10_source_158 rfl (lv_at hl 0 rfl)) ?_
                    refine z_get C iX10 0 0 k7 rfl rfl (by decide) rfl rfl dX10_source_159 rfl ?_
                    refine Z.of (pc' := 164) (fun _ _ _ _ => lv_bipush (v := 19) hx hb dX10_source_162 (by decide)) ?_
                    refine z_iald C 1 1 rfl rfl (j := 19) (rfl : (19 : Int32) = nI 19) (by decide) (by decide) dX10_source_164 rfl ?_
                    exact E (m 19) _ _ _ _ dX10_source_165 rfl rfl rfl zh34
                  · have zh35 := zh31.trans (if_neg c33)
                    refine Z.of (pc' := 155) (fun _ _ _ _ => lv_ldc hx hb hown (hts (.constant RX10 78 (-1000004)) (by decide +kernel)) dX10_source_153) ?_
                    refine Z.of (pc' := 165) (fun _ _ _ _ => lv_goto hx hb dX10_source_155 (by decide)) ?_
                    exact E (-1000004) _ _ _ _ dX10_source_165 rfl rfl rfl zh35
                · have zh32 := zh30.trans (if_neg c8)
                  by_cases c9 : what = 8
                  · have zh36 := zh32.trans (if_pos c9)
                    refine Z.of (pc' := 166) (fun _ _ _ _ => lv_tableIn (off := 165) hx hb dX10_source_1 (by rw [c9]; decide) (by rw [c9]; decide) (by rw [c9]; rfl) (by decide)) ?_
                    refine Z.of (pc' := 167) (fun _ _ _ hl => lv_aload_n hx hb dX10_source_166 rfl (lv_at hl 0 rfl)) ?_
                    refine Z.of (pc' := 168) (fun _ _ _ _ => lv_iconst (v := 0) hx hb dX10_source_167 (by decide)) ?_
                    refine z_callVi C (c_X10_locks l T M g m t 0 (by omega)) [0, 1, 2] [] rfl (by decide +kernel) (fun u38 => [(M 0, .inr (10, [.ref (M 1), .int (g 0), .ref (M 2), .int (g 1), .int (g 2), .int (g 3), .int (g 4), .int (g 5), .int (g 6)])), (M 1, .inl (T.2.2.1, 1099, .inl m)), (M 2, .inl (T.2.2.2, 60, .inl t))]) (fun _ => rfl) [] rfl (fun _ => rfl) [M 0, M 1, M 2] rfl (fun _ => rfl) 3 (fun _ => rfl) (by decide +kernel) (cwV 1 hts gX10_source_X10_locks rfl rfl rfl (by decide +kernel) ⟨Nat.le_of_ble_eq_true rfl, Nat.le_of_ble_eq_true rfl⟩) 0 rfl rfl rfl (As := [.int 0]) (rest := []) rfl rfl (Nat.le_of_ble_eq_true rfl) dX10_source_168 rfl ⟨Nat.zero_le _, Nat.zero_le _⟩ (fun u38 eu38 bu38 => ?_)
                    have zh39 := zl_e zh36 eu38
                    refine Z.two (pt := 178) (pf := 174) (fun _ _ _ _ => lv_if_eq hx hb dX10_source_171 (by decide)) (fun c40 => ?_) (fun c40 => ?_)
                    · have zh41 := zh39.trans (if_pos c40)
                      refine Z.of (pc' := 179) (fun _ _ _ _ => lv_iconst (v := 0) hx hb dX10_source_178 (by decide)) ?_
                      exact E 0 _ _ _ _ dX10_source_179 rfl rfl rfl zh41
                    · have zh42 := zh39.trans (if_neg c40)
                      refine Z.of (pc' := 175) (fun _ _ _ _ => lv_iconst (v := 1) hx hb dX10_source_174 (by decide)) ?_
                      refine Z.of (pc' := 179) (fun _ _ _ _ => lv_goto hx hb dX10_source_175 (by decide)) ?_
                      exact E 1 _ _ _ _ dX10_source_179 rfl rfl rfl zh42
                  · have zh37 := zh32.trans (if_neg c9)
                    by_cases c10 : what = 9
                    · have zh43 := zh37.trans (if_pos c10)
                      refine Z.of (pc' := 180) (fun _ _ _ _ => lv_tableIn (off := 179) hx hb dX10_source_1 (by rw [c10]; decide) (by rw [c10]; decide) (by rw [c10]; rfl) (by decide)) ?_
                      refine Z.of (pc' := 181) (fun _ _ _ hl => lv_aload_n hx hb dX10_source_180 rfl (lv_at hl 0 rfl)) ?_
                      refine z_get C iX10 0 0 k7 rfl rfl (by decide) rfl rfl dX10_source_181 rfl ?_
                      refine Z.of (pc' := 185) (fun _ _ _ _ => lv_iconst (v := 0) hx hb dX10_source_184 (by decide)) ?_
                      refine z_iald C 1 1 rfl rfl (j := 0) (rfl : (0 : Int32) = nI 0) (by decide) (by decide) dX10_source_185 rfl ?_
                      exact E (m 0) _ _ _ _ dX10_source_186 rfl rfl rfl zh43
                    · have zh44 := zh37.trans (if_neg c10)
                      refine Z.of (pc' := 187) (fun _ _ _ _ => lv_tableOut hx hb dX10_source_1 (zsw_out (n := 9) (by decide) (fun k hk => by match k, hk with | 0, _ => exact c1 | 1, _ => exact c2 | 2, _ => exact c3 | 3, _ => exact c4 | 4, _ => exact c5 | 5, _ => exact c6 | 6, _ => exact c7 | 7, _ => exact c8 | 8, _ => exact c9 | 9, _ => exact c10 | k + 10, h => omega)) (by decide)) ?_
                      refine Z.of (pc' := 189) (fun _ _ _ _ => lv_ldc hx hb hown (hts (.constant RX10 59 (-1000001)) (by decide +kernel)) dX10_source_187) ?_
                      exact E (-1000001) _ _ _ _ dX10_source_189 rfl rfl rfl zh44
def f_X10_raw (g : Nat → Int32) (m : Nat → Int32) (t : Nat → Int32) (index : Int32) : Int32 :=
  zl (f_X10_in index 0 63) fun u1 =>
  if u1 = 0 then
    (-1000001)
  else
    if (m 28) ≤ (nI index.toNatClampNeg) then
      (-1000004)
    else
      (m ((((m 28).toNatClampNeg + 29) - 1) - index.toNatClampNeg))
theorem fe_X10_raw (g : Nat → Int32) (m : Nat → Int32) (t : Nat → Int32) (index : Int32) : f_X10_raw g m t index = (
    zl (f_X10_in index 0 63) fun u1 =>
    if u1 = 0 then
      (-1000001)
    else
      if (m 28) ≤ (nI index.toNatClampNeg) then
        (-1000004)
      else
        (m ((((m 28).toNatClampNeg + 29) - 1) - index.toNatClampNeg))
    ) := rfl
abbrev rm_X10_raw : Room := { frames := 1, cells := 0, slots := 0, locals := 22 }
set_option maxHeartbeats 1000000 in
set_option maxRecDepth 100000 in
theorem c_X10_raw (l : Launch) (T : zT) (M : Nat → Nat) (g : Nat → Int32) (m : Nat → Int32) (t : Nat → Int32) (index : Int32) (hk0 : IN (m 28) 64) : Ci l yX10_raw wsX10_raw rm_X10_raw T .int [.ref (M 0), .int index] [(M 0, .inr (10, [.ref (M 1), .int (g 0), .ref (M 2), .int (g 1), .int (g 2), .int (g 3), .int (g 4), .int (g 5), .int (g 6)])), (M 1, .inl (T.2.2.1, 1099, .inl m)), (M 2, .inl (T.2.2.2, 60, .inl t))] (S := Int32) (f_X10_raw g m t index) (fun u => u) (fun u => [(M 0, .inr (10, [.ref (M 1), .int (g 0), .ref (M 2), .int (g 1), .int (g 2), .int (g 3), .int (g 4), .int (g 5), .int (g 6)])), (M 1, .inl (T.2.2.1, 1099, .inl m)), (M 2, .inl (T.2.2.2, 60, .inl t))]) := by
  refine z_metI (own := RX10) (maxL := 2) rfl (by decide) rfl (Nat.le_of_ble_eq_true rfl) ?_
  intro P0 E0 S0 M0 G0 B0 T0 K0 A9 Q9 C E
  have hx := C.1.1
  have hb := C.1.2.1
  have hown := C.1.2.2.2.1
  have hts := C.1.2.2.2.2
  have hn := C.2.1.2
  have iX10 : ∀ w ∈ u_ws RX10 TX10 9, w ∈ wsX10_raw := by decide +kernel
  have k7 := hts (.fieldLink RX10 7 "JudgedBitsModel" "s" "[I") (by decide +kernel)
  have hk9 := hk0.1
  have hkp := hk0.2
  change Z P0 l E0 rm_X10_raw S0 M0 G0 B0 T0 K0 2 T A9 Q9 0 0 [(M 0, .inr (10, [.ref (M 1), .int (g 0), .ref (M 2), .int (g 1), .int (g 2), .int (g 3), .int (g 4), .int (g 5), .int (g 6)])), (M 1, .inl (T.2.2.1, 1099, .inl m)), (M 2, .inl (T.2.2.2, 60, .inl t))] 0 [(0, .ref (M 0)), (1, .int index)] []
  have zh0 := fe_X10_raw g m t index
  refine Z.of (pc' := 1) (fun _ _ _ hl => lv_iload_n hx hb dX10_raw_0 rfl (lv_at hl 1 rfl)) ?_
  refine Z.of (pc' := 2) (fun _ _ _ _ => lv_iconst (v := 0) hx hb dX10_raw_1 (by decide)) ?_
  refine Z.of (pc' := 4) (fun _ _ _ _ => lv_bipush (v := 63) hx hb dX10_raw_2 (by decide)) ?_
  refine z_callSi C (c_X10_in l T index 0 63) (cwS 3 hts gX10_raw_X10_in rfl rfl rfl (by decide +kernel) ⟨Nat.le_of_ble_eq_true rfl, Nat.le_of_ble_eq_true rfl⟩) (As := [.int index, .int 0, .int 63]) (rest := []) rfl rfl (Nat.le_of_ble_eq_true rfl) dX10_raw_4 rfl ⟨Nat.zero_le _, Nat.zero_le _⟩ (fun u1 eu1 bu1 => ?_)
  have zh2 := zl_e zh0 eu1
  refine Z.two' (pt := 13) (pf := 10) (fun _ _ _ _ => lv_if_ne hx hb dX10_raw_7 (by decide)) (fun c3 => ?_) (fun c3 => ?_)
  · have zh4 := zh2.trans (if_neg c3)
    have hix := zix_of (N := 63) (zin_of eu1 c3) (by decide)
    have hix2 := hix.2
    refine Z.of (pc' := 14) (fun _ _ _ hl => lv_iload_n hx hb dX10_raw_13 rfl (lv_at hl 1 rfl)) ?_
    refine Z.topn (y := nI index.toNatClampNeg) hix.1 ?_
    refine Z.of (pc' := 15) (fun _ _ _ hl => lv_aload_n hx hb dX10_raw_14 rfl (lv_at hl 0 rfl)) ?_
    refine z_get C iX10 0 0 k7 rfl rfl (by decide) rfl rfl dX10_raw_15 rfl ?_
    refine Z.of (pc' := 20) (fun _ _ _ _ => lv_bipush (v := 28) hx hb dX10_raw_18 (by decide)) ?_
    refine z_iald C 1 1 rfl rfl (j := 28) (rfl : (28 : Int32) = nI 28) (by decide) (by decide) dX10_raw_20 rfl ?_
    refine Z.two (pt := 46) (pf := 24) (fun _ _ _ _ => lv_icmp_ge hx hb dX10_raw_21 (by decide)) (fun c6 => ?_) (fun c6 => ?_)
    · have nc6 : ((m 28).toNatClampNeg) ≤ index.toNatClampNeg := zf_le (a := ((m 28).toNatClampNeg)) (b := index.toNatClampNeg) hk9 (rfl : nI index.toNatClampNeg = nI index.toNatClampNeg) c6 (by omega) (by omega)
      have zh7 := zh4.trans (if_pos c6)
      refine Z.of (pc' := 48) (fun _ _ _ _ => lv_ldc hx hb hown (hts (.constant RX10 78 (-1000004)) (by decide +kernel)) dX10_raw_46) ?_
      exact E (-1000004) _ _ _ _ dX10_raw_48 rfl rfl rfl zh7
    · have nc6 : ¬ (((m 28).toNatClampNeg) ≤ index.toNatClampNeg) := zf_nle (a := ((m 28).toNatClampNeg)) (b := index.toNatClampNeg) hk9 (rfl : nI index.toNatClampNeg = nI index.toNatClampNeg) c6 (by omega) (by omega)
      have zh8 := zh4.trans (if_neg c6)
      refine Z.of (pc' := 25) (fun _ _ _ hl => lv_aload_n hx hb dX10_raw_24 rfl (lv_at hl 0 rfl)) ?_
      refine z_get C iX10 0 0 k7 rfl rfl (by decide) rfl rfl dX10_raw_25 rfl ?_
      refine Z.of (pc' := 30) (fun _ _ _ _ => lv_bipush (v := 29) hx hb dX10_raw_28 (by decide)) ?_
      refine Z.of (pc' := 31) (fun _ _ _ hl => lv_aload_n hx hb dX10_raw_30 rfl (lv_at hl 0 rfl)) ?_
      refine z_get C iX10 0 0 k7 rfl rfl (by decide) rfl rfl dX10_raw_31 rfl ?_
      refine Z.of (pc' := 36) (fun _ _ _ _ => lv_bipush (v := 28) hx hb dX10_raw_34 (by decide)) ?_
      refine z_iald C 1 1 rfl rfl (j := 28) (rfl : (28 : Int32) = nI 28) (by decide) (by decide) dX10_raw_36 rfl ?_
      refine Z.of (pc' := 38) (fun _ _ _ hl => lv_iadd hx hb dX10_raw_37) ?_
      refine Z.topn (y := nI ((m 28).toNatClampNeg + 29)) (zi_c (zi_add (a := 29) (b := (m 28).toNatClampNeg) (rfl : (29 : Int32) = nI 29) hk9) (by omega)) ?_
      refine Z.of (pc' := 39) (fun _ _ _ _ => lv_iconst (v := 1) hx hb dX10_raw_38 (by decide)) ?_
      refine Z.of (pc' := 40) (fun _ _ _ hl => lv_isub hx hb dX10_raw_39) ?_
      refine Z.topn (y := nI (((m 28).toNatClampNeg + 29) - 1)) (zi_c (zi_sub (a := (m 28).toNatClampNeg + 29) (b := 1) (rfl : nI ((m 28).toNatClampNeg + 29) = nI ((m 28).toNatClampNeg + 29)) (rfl : (1 : Int32) = nI 1) (by omega)) (by omega)) ?_
      refine Z.of (pc' := 41) (fun _ _ _ hl => lv_iload_n hx hb dX10_raw_40 rfl (lv_at hl 1 rfl)) ?_
      refine Z.topn (y := nI index.toNatClampNeg) hix.1 ?_
      refine Z.of (pc' := 42) (fun _ _ _ hl => lv_isub hx hb dX10_raw_41) ?_
      refine Z.topn (y := nI ((((m 28).toNatClampNeg + 29) - 1) - index.toNatClampNeg)) (zi_c (zi_sub (a := ((m 28).toNatClampNeg + 29) - 1) (b := index.toNatClampNeg) (rfl : nI (((m 28).toNatClampNeg + 29) - 1) = nI (((m 28).toNatClampNeg + 29) - 1)) (rfl : nI index.toNatClampNeg = nI index.toNatClampNeg) (by omega)) (by omega)) ?_
      refine z_iald C 1 1 rfl rfl (j := (((m 28).toNatClampNeg + 29) - 1) - index.toNatClampNeg) (rfl : nI ((((m 28).toNatClampNeg + 29) - 1) - index.toNatClampNeg) = nI ((((m 28).toNatClampNeg + 29) - 1) - index.toNatClampNeg)) (by omega) (by decide) dX10_raw_42 rfl ?_
      refine Z.of (pc' := 48) (fun _ _ _ _ => lv_goto hx hb dX10_raw_43 (by decide)) ?_
      exact E (m ((((m 28).toNatClampNeg + 29) - 1) - index.toNatClampNeg)) _ _ _ _ dX10_raw_48 rfl rfl rfl zh8
  · have zh5 := zh2.trans (if_pos c3)
    refine Z.of (pc' := 12) (fun _ _ _ _ => lv_ldc hx hb hown (hts (.constant RX10 59 (-1000001)) (by decide +kernel)) dX10_raw_10) ?_
    exact E (-1000001) _ _ _ _ dX10_raw_12 rfl rfl rfl zh5
def f_X10_stored (g : Nat → Int32) (m : Nat → Int32) (t : Nat → Int32) (index : Int32) : Int32 :=
  if 0 ≤ index then
    if (m 18) ≤ (nI index.toNatClampNeg) then
      (-1000004)
    else
      (m (index.toNatClampNeg + 93))
  else
    (-1000001)
theorem fe_X10_stored (g : Nat → Int32) (m : Nat → Int32) (t : Nat → Int32) (index : Int32) : f_X10_stored g m t index = (
    if 0 ≤ index then
      if (m 18) ≤ (nI index.toNatClampNeg) then
        (-1000004)
      else
        (m (index.toNatClampNeg + 93))
    else
      (-1000001)
    ) := rfl
abbrev rm_X10_stored : Room := { frames := 0, cells := 0, slots := 0, locals := 0 }
set_option maxHeartbeats 1000000 in
set_option maxRecDepth 100000 in
theorem c_X10_stored (l : Launch) (T : zT) (M : Nat → Nat) (g : Nat → Int32) (m : Nat → Int32) (t : Nat → Int32) (index : Int32) (hst0 : IN (m 18) 64) : Ci l yX10_stored wsX10_stored rm_X10_stored T .int [.ref (M 0), .int index] [(M 0, .inr (10, [.ref (M 1), .int (g 0), .ref (M 2), .int (g 1), .int (g 2), .int (g 3), .int (g 4), .int (g 5), .int (g 6)])), (M 1, .inl (T.2.2.1, 1099, .inl m)), (M 2, .inl (T.2.2.2, 60, .inl t))] (S := Int32) (f_X10_stored g m t index) (fun u => u) (fun u => [(M 0, .inr (10, [.ref (M 1), .int (g 0), .ref (M 2), .int (g 1), .int (g 2), .int (g 3), .int (g 4), .int (g 5), .int (g 6)])), (M 1, .inl (T.2.2.1, 1099, .inl m)), (M 2, .inl (T.2.2.2, 60, .inl t))]) := by
  refine z_metI (own := RX10) (maxL := 2) rfl (by decide) rfl (Nat.le_of_ble_eq_true rfl) ?_
  intro P0 E0 S0 M0 G0 B0 T0 K0 A9 Q9 C E
  have hx := C.1.1
  have hb := C.1.2.1
  have hown := C.1.2.2.2.1
  have hts := C.1.2.2.2.2
  have hn := C.2.1.2
  have iX10 : ∀ w ∈ u_ws RX10 TX10 9, w ∈ wsX10_stored := by decide +kernel
  have k7 := hts (.fieldLink RX10 7 "JudgedBitsModel" "s" "[I") (by decide +kernel)
  have hs8 := hst0.1
  have hst := hst0.2
  change Z P0 l E0 rm_X10_stored S0 M0 G0 B0 T0 K0 2 T A9 Q9 0 0 [(M 0, .inr (10, [.ref (M 1), .int (g 0), .ref (M 2), .int (g 1), .int (g 2), .int (g 3), .int (g 4), .int (g 5), .int (g 6)])), (M 1, .inl (T.2.2.1, 1099, .inl m)), (M 2, .inl (T.2.2.2, 60, .inl t))] 0 [(0, .ref (M 0)), (1, .int index)] []
  have zh0 := fe_X10_stored g m t index
  refine Z.of (pc' := 1) (fun _ _ _ hl => lv_iload_n hx hb dX10_stored_0 rfl (lv_at hl 1 rfl)) ?_
  refine Z.two (pt := 7) (pf := 4) (fun _ _ _ _ => lv_if_ge hx hb dX10_stored_1 (by decide)) (fun c1 => ?_) (fun c1 => ?_)
  · have zh2 := zh0.trans (if_pos c1)
    have hix := znn c1
    have hix2 := hix.2
    refine Z.of (pc' := 8) (fun _ _ _ hl => lv_iload_n hx hb dX10_stored_7 rfl (lv_at hl 1 rfl)) ?_
    refine Z.topn (y := nI index.toNatClampNeg) hix.1 ?_
    refine Z.of (pc' := 9) (fun _ _ _ hl => lv_aload_n hx hb dX10_stored_8 rfl (lv_at hl 0 rfl)) ?_
    refine z_get C iX10 0 0 k7 rfl rfl (by decide) rfl rfl dX10_stored_9 rfl ?_
    refine Z.of (pc' := 14) (fun _ _ _ _ => lv_bipush (v := 18) hx hb dX10_stored_12 (by decide)) ?_
    refine z_iald C 1 1 rfl rfl (j := 18) (rfl : (18 : Int32) = nI 18) (by decide) (by decide) dX10_stored_14 rfl ?_
    refine Z.two (pt := 30) (pf := 18) (fun _ _ _ _ => lv_icmp_ge hx hb dX10_stored_15 (by decide)) (fun c4 => ?_) (fun c4 => ?_)
    · have nc4 : ((m 18).toNatClampNeg) ≤ index.toNatClampNeg := zf_le (a := ((m 18).toNatClampNeg)) (b := index.toNatClampNeg) hs8 (rfl : nI index.toNatClampNeg = nI index.toNatClampNeg) c4 (by omega) (by omega)
      have zh5 := zh2.trans (if_pos c4)
      refine Z.of (pc' := 32) (fun _ _ _ _ => lv_ldc hx hb hown (hts (.constant RX10 78 (-1000004)) (by decide +kernel)) dX10_stored_30) ?_
      exact E (-1000004) _ _ _ _ dX10_stored_32 rfl rfl rfl zh5
    · have nc4 : ¬ (((m 18).toNatClampNeg) ≤ index.toNatClampNeg) := zf_nle (a := ((m 18).toNatClampNeg)) (b := index.toNatClampNeg) hs8 (rfl : nI index.toNatClampNeg = nI index.toNatClampNeg) c4 (by omega) (by omega)
      have zh6 := zh2.trans (if_neg c4)
      refine Z.of (pc' := 19) (fun _ _ _ hl => lv_aload_n hx hb dX10_stored_18 rfl (lv_at hl 0 rfl)) ?_
      refine z_get C iX10 0 0 k7 rfl rfl (by decide) rfl rfl dX10_stored_19 rfl ?_
      refine Z.of (pc' := 24) (fun _ _ _ _ => lv_bipush (v := 93) hx hb dX10_stored_22 (by decide)) ?_
      refine Z.of (pc' := 25) (fun _ _ _ hl => lv_iload_n hx hb dX10_stored_24 rfl (lv_at hl 1 rfl)) ?_
      refine Z.topn (y := nI index.toNatClampNeg) hix.1 ?_
      refine Z.of (pc' := 26) (fun _ _ _ hl => lv_iadd hx hb dX10_stored_25) ?_
      refine Z.topn (y := nI (index.toNatClampNeg + 93)) (zi_c (zi_add (a := 93) (b := index.toNatClampNeg) (rfl : (93 : Int32) = nI 93) (rfl : nI index.toNatClampNeg = nI index.toNatClampNeg)) (by omega)) ?_
      refine z_iald C 1 1 rfl rfl (j := index.toNatClampNeg + 93) (rfl : nI (index.toNatClampNeg + 93) = nI (index.toNatClampNeg + 93)) (by omega) (by decide) dX10_stored_26 rfl ?_
      refine Z.of (pc' := 32) (fun _ _ _ _ => lv_goto hx hb dX10_stored_27 (by decide)) ?_
      exact E (m (index.toNatClampNeg + 93)) _ _ _ _ dX10_stored_32 rfl rfl rfl zh6
  · have zh3 := zh0.trans (if_neg c1)
    refine Z.of (pc' := 6) (fun _ _ _ _ => lv_ldc hx hb hown (hts (.constant RX10 59 (-1000001)) (by decide +kernel)) dX10_stored_4) ?_
    exact E (-1000001) _ _ _ _ dX10_stored_6 rfl rfl rfl zh3
def f_X10_would (g : Nat → Int32) (m : Nat → Int32) (t : Nat → Int32) (many : Int32) (what : Int32) : Int32 × (Nat → Int32) :=
  zl (f_X10_in many 0 300) fun u1 =>
  if u1 = 0 then
    ((-1000001), m)
  else
    zl (f_X10_in what 0 2) fun u6 =>
    if u6 = 0 then
      ((-1000001), m)
    else
      zl (f_X10_copies g m t 0 5) fun u11 =>
      zl (f_X10_makes g u11 t 5 many) fun u13 =>
      if what = 0 then
        (u13.2 803, u13.2)
      else
        if what = 1 then
          (u13.2 796, u13.2)
        else
          ((u13.2 809) - (u13.2 24), u13.2)
theorem fe_X10_would (g : Nat → Int32) (m : Nat → Int32) (t : Nat → Int32) (many : Int32) (what : Int32) : f_X10_would g m t many what = (
    zl (f_X10_in many 0 300) fun u1 =>
    if u1 = 0 then
      ((-1000001), m)
    else
      zl (f_X10_in what 0 2) fun u6 =>
      if u6 = 0 then
        ((-1000001), m)
      else
        zl (f_X10_copies g m t 0 5) fun u11 =>
        zl (f_X10_makes g u11 t 5 many) fun u13 =>
        if what = 0 then
          (u13.2 803, u13.2)
        else
          if what = 1 then
            (u13.2 796, u13.2)
          else
            ((u13.2 809) - (u13.2 24), u13.2)
    ) := rfl
abbrev rm_X10_would : Room := { frames := 4, cells := 0, slots := 0, locals := 94 }
set_option maxHeartbeats 1000000 in
set_option maxRecDepth 100000 in
theorem c_X10_would (l : Launch) (T : zT) (M : Nat → Nat) (g : Nat → Int32) (m : Nat → Int32) (t : Nat → Int32) (many : Int32) (what : Int32) (ok0 : MOk m 0) : Ci l yX10_would wsX10_would rm_X10_would T .int [.ref (M 0), .int many, .int what] [(M 0, .inr (10, [.ref (M 1), .int (g 0), .ref (M 2), .int (g 1), .int (g 2), .int (g 3), .int (g 4), .int (g 5), .int (g 6)])), (M 1, .inl (T.2.2.1, 1099, .inl m)), (M 2, .inl (T.2.2.2, 60, .inl t))] (S := Int32 × (Nat → Int32)) (f_X10_would g m t many what) (fun u => u.1) (fun u => [(M 0, .inr (10, [.ref (M 1), .int (g 0), .ref (M 2), .int (g 1), .int (g 2), .int (g 3), .int (g 4), .int (g 5), .int (g 6)])), (M 1, .inl (T.2.2.1, 1099, .inl u.2)), (M 2, .inl (T.2.2.2, 60, .inl t))]) := by
  refine z_metI (own := RX10) (maxL := 4) rfl (by decide) rfl (Nat.le_of_ble_eq_true rfl) ?_
  intro P0 E0 S0 M0 G0 B0 T0 K0 A9 Q9 C E
  have hx := C.1.1
  have hb := C.1.2.1
  have hown := C.1.2.2.2.1
  have hts := C.1.2.2.2.2
  have hn := C.2.1.2
  have iX10 : ∀ w ∈ u_ws RX10 TX10 9, w ∈ wsX10_would := by decide +kernel
  have k7 := hts (.fieldLink RX10 7 "JudgedBitsModel" "s" "[I") (by decide +kernel)
  change Z P0 l E0 rm_X10_would S0 M0 G0 B0 T0 K0 4 T A9 Q9 0 0 [(M 0, .inr (10, [.ref (M 1), .int (g 0), .ref (M 2), .int (g 1), .int (g 2), .int (g 3), .int (g 4), .int (g 5), .int (g 6)])), (M 1, .inl (T.2.2.1, 1099, .inl m)), (M 2, .inl (T.2.2.2, 60, .inl t))] 0 [(0, .ref (M 0)), (1, .int many), (2, .int what)] []
  have zh0 := fe_X10_would g m t many what
  refine Z.of (pc' := 1) (fun _ _ _ hl => lv_iload_n hx hb dX10_would_0 rfl (lv_at hl 1 rfl)) ?_
  refine Z.of (pc' := 2) (fun _ _ _ _ => lv_iconst (v := 0) hx hb dX10_would_1 (by decide)) ?_
  refine Z.of (pc' := 5) (fun _ _ _ _ => lv_sipush (v := 300) hx hb dX10_would_2 (by decide)) ?_
  refine z_callSi C (c_X10_in l T many 0 300) (cwS 3 hts gX10_would_X10_in rfl rfl rfl (by decide +kernel) ⟨Nat.le_of_ble_eq_true rfl, Nat.le_of_ble_eq_true rfl⟩) (As := [.int many, .int 0, .int 300]) (rest := []) rfl rfl (Nat.le_of_ble_eq_true rfl) dX10_would_5 rfl ⟨Nat.zero_le _, Nat.zero_le _⟩ (fun u1 eu1 bu1 => ?_)
  have zh2 := zl_e zh0 eu1
  refine Z.two (pt := 20) (pf := 11) (fun _ _ _ _ => lv_if_eq hx hb dX10_would_8 (by decide)) (fun c3 => ?_) (fun c3 => ?_)
  · have zh4 := zh2.trans (if_pos c3)
    refine Z.of (pc' := 22) (fun _ _ _ _ => lv_ldc hx hb hown (hts (.constant RX10 59 (-1000001)) (by decide +kernel)) dX10_would_20) ?_
    exact E ((-1000001), m) _ _ _ _ dX10_would_22 rfl rfl rfl zh4
  · have zh5 := zh2.trans (if_neg c3)
    refine Z.of (pc' := 12) (fun _ _ _ hl => lv_iload_n hx hb dX10_would_11 rfl (lv_at hl 2 rfl)) ?_
    refine Z.of (pc' := 13) (fun _ _ _ _ => lv_iconst (v := 0) hx hb dX10_would_12 (by decide)) ?_
    refine Z.of (pc' := 14) (fun _ _ _ _ => lv_iconst (v := 2) hx hb dX10_would_13 (by decide)) ?_
    refine z_callSi C (c_X10_in l T what 0 2) (cwS 3 hts gX10_would_X10_in rfl rfl rfl (by decide +kernel) ⟨Nat.le_of_ble_eq_true rfl, Nat.le_of_ble_eq_true rfl⟩) (As := [.int what, .int 0, .int 2]) (rest := []) rfl rfl (Nat.le_of_ble_eq_true rfl) dX10_would_14 rfl ⟨Nat.zero_le _, Nat.zero_le _⟩ (fun u6 eu6 bu6 => ?_)
    have zh7 := zl_e zh5 eu6
    refine Z.two' (pt := 23) (pf := 20) (fun _ _ _ _ => lv_if_ne hx hb dX10_would_17 (by decide)) (fun c8 => ?_) (fun c8 => ?_)
    · have zh9 := zh7.trans (if_neg c8)
      refine Z.of (pc' := 24) (fun _ _ _ hl => lv_aload_n hx hb dX10_would_23 rfl (lv_at hl 0 rfl)) ?_
      refine Z.of (pc' := 25) (fun _ _ _ _ => lv_iconst (v := 0) hx hb dX10_would_24 (by decide)) ?_
      refine Z.of (pc' := 26) (fun _ _ _ _ => lv_iconst (v := 5) hx hb dX10_would_25 (by decide)) ?_
      refine z_callVv C (c_X10_copies l T M g m t 0 5 (by omega) (by omega)) [0, 1, 2] [] rfl (by decide +kernel) (fun u11 => [(M 0, .inr (10, [.ref (M 1), .int (g 0), .ref (M 2), .int (g 1), .int (g 2), .int (g 3), .int (g 4), .int (g 5), .int (g 6)])), (M 1, .inl (T.2.2.1, 1099, .inl u11)), (M 2, .inl (T.2.2.2, 60, .inl t))]) (fun _ => rfl) [] rfl (fun _ => rfl) [M 0, M 1, M 2] rfl (fun _ => rfl) 3 (fun _ => rfl) (by decide +kernel) (cwV 2 hts gX10_would_X10_copies rfl rfl rfl (by decide +kernel) ⟨Nat.le_of_ble_eq_true rfl, Nat.le_of_ble_eq_true rfl⟩) 0 rfl rfl rfl (As := [.int 0, .int 5]) (rest := []) rfl rfl (Nat.le_of_ble_eq_true rfl) dX10_would_26 rfl ⟨Nat.zero_le _, Nat.zero_le _⟩ (fun u11 eu11 => ?_)
      have zh12 := zl_e zh9 eu11
      refine Z.of (pc' := 30) (fun _ _ _ hl => lv_aload_n hx hb dX10_would_29 rfl (lv_at hl 0 rfl)) ?_
      refine Z.of (pc' := 31) (fun _ _ _ _ => lv_iconst (v := 5) hx hb dX10_would_30 (by decide)) ?_
      refine Z.of (pc' := 32) (fun _ _ _ hl => lv_iload_n hx hb dX10_would_31 rfl (lv_at hl 1 rfl)) ?_
      refine z_callVi C (c_X10_makes l T M g u11 t 5 many (by omega) (zin_of eu1 c3).2 (MOk_copies (fr := 0) (tw := 5) ok0 (by decide) eu11)) [0, 1, 2] [] rfl (by decide +kernel) (fun u13 => [(M 0, .inr (10, [.ref (M 1), .int (g 0), .ref (M 2), .int (g 1), .int (g 2), .int (g 3), .int (g 4), .int (g 5), .int (g 6)])), (M 1, .inl (T.2.2.1, 1099, .inl u13.2)), (M 2, .inl (T.2.2.2, 60, .inl t))]) (fun _ => rfl) [] rfl (fun _ => rfl) [M 0, M 1, M 2] rfl (fun _ => rfl) 3 (fun _ => rfl) (by decide +kernel) (cwV 2 hts gX10_would_X10_makes rfl rfl rfl (by decide +kernel) ⟨Nat.le_of_ble_eq_true rfl, Nat.le_of_ble_eq_true rfl⟩) 0 rfl rfl rfl (As := [.int 5, .int many]) (rest := []) rfl rfl (Nat.le_of_ble_eq_true rfl) dX10_would_32 rfl ⟨Nat.zero_le _, Nat.zero_le _⟩ (fun u13 eu13 bu13 => ?_)
      have zh14 := zl_e zh12 eu13
      refine Z.of (pc' := 36) (fun _ _ _ hl => lv_pop hx hb dX10_would_35 rfl) ?_
      refine Z.of (pc' := 39) (fun _ _ _ _ => lv_sipush (v := 785) hx hb dX10_would_36 (by decide)) ?_
      refine Z.sto (pc' := 40) (lv' := [(3, .int 785), (0, .ref (M 0)), (1, .int many), (2, .int what)]) (fun _ _ _ hl => lv_istore_n (lv' := [(3, .int 785), (0, .ref (M 0)), (1, .int many), (2, .int what)]) hx hb dX10_would_39 rfl hl (by decide) rfl) ?_
      refine Z.of (pc' := 41) (fun _ _ _ hl => lv_iload_n hx hb dX10_would_40 rfl (lv_at hl 3 rfl)) ?_
      refine Z.two' (pt := 56) (pf := 44) (fun _ _ _ _ => lv_if_ne hx hb dX10_would_41 (by decide)) (fun c15 => ?_) (fun c15 => ?_)
      · have zh16 := zh14.trans (if_neg c15)
        refine Z.of (pc' := 57) (fun _ _ _ hl => lv_iload_n hx hb dX10_would_56 rfl (lv_at hl 3 rfl)) ?_
        refine Z.of (pc' := 58) (fun _ _ _ _ => lv_iconst (v := 1) hx hb dX10_would_57 (by decide)) ?_
        refine Z.two' (pt := 73) (pf := 61) (fun _ _ _ _ => lv_icmp_ne hx hb dX10_would_58 (by decide)) (fun c18 => ?_) (fun c18 => ?_)
        · have zh19 := zh16.trans (if_neg c18)
          refine Z.of (pc' := 74) (fun _ _ _ hl => lv_aload_n hx hb dX10_would_73 rfl (lv_at hl 1 rfl)) ?_
          refine z_get C iX10 0 0 k7 rfl rfl (by decide) rfl rfl dX10_would_74 rfl ?_
          refine Z.of (pc' := 78) (fun _ _ _ hl => lv_iload_n hx hb dX10_would_77 rfl (lv_at hl 0 rfl)) ?_
          refine Z.of (pc' := 80) (fun _ _ _ _ => lv_bipush (v := 24) hx hb dX10_would_78 (by decide)) ?_
          refine Z.of (pc' := 81) (fun _ _ _ hl => lv_iadd hx hb dX10_would_80) ?_
          refine Z.topn (y := 809) (by decide) ?_
          refine z_iald C 1 1 rfl rfl (j := 809) (rfl : (809 : Int32) = nI 809) (by decide) (by decide) dX10_would_81 rfl ?_
          refine Z.of (pc' := 83) (fun _ _ _ hl => lv_aload_n hx hb dX10_would_82 rfl (lv_at hl 1 rfl)) ?_
          refine z_get C iX10 0 0 k7 rfl rfl (by decide) rfl rfl dX10_would_83 rfl ?_
          refine Z.of (pc' := 88) (fun _ _ _ _ => lv_bipush (v := 24) hx hb dX10_would_86 (by decide)) ?_
          refine z_iald C 1 1 rfl rfl (j := 24) (rfl : (24 : Int32) = nI 24) (by decide) (by decide) dX10_would_88 rfl ?_
          refine Z.of (pc' := 90) (fun _ _ _ hl => lv_isub hx hb dX10_would_89) ?_
          exact E ((u13.2 809) - (u13.2 24), u13.2) _ _ _ _ dX10_would_90 rfl rfl rfl zh19
        · have zh20 := zh16.trans (if_pos c18)
          refine Z.of (pc' := 62) (fun _ _ _ hl => lv_aload_n hx hb dX10_would_61 rfl (lv_at hl 1 rfl)) ?_
          refine z_get C iX10 0 0 k7 rfl rfl (by decide) rfl rfl dX10_would_62 rfl ?_
          refine Z.of (pc' := 66) (fun _ _ _ hl => lv_iload_n hx hb dX10_would_65 rfl (lv_at hl 0 rfl)) ?_
          refine Z.of (pc' := 68) (fun _ _ _ _ => lv_bipush (v := 11) hx hb dX10_would_66 (by decide)) ?_
          refine Z.of (pc' := 69) (fun _ _ _ hl => lv_iadd hx hb dX10_would_68) ?_
          refine Z.topn (y := 796) (by decide) ?_
          refine z_iald C 1 1 rfl rfl (j := 796) (rfl : (796 : Int32) = nI 796) (by decide) (by decide) dX10_would_69 rfl ?_
          refine Z.of (pc' := 90) (fun _ _ _ _ => lv_goto hx hb dX10_would_70 (by decide)) ?_
          exact E (u13.2 796, u13.2) _ _ _ _ dX10_would_90 rfl rfl rfl zh20
      · have zh17 := zh14.trans (if_pos c15)
        refine Z.of (pc' := 45) (fun _ _ _ hl => lv_aload_n hx hb dX10_would_44 rfl (lv_at hl 1 rfl)) ?_
        refine z_get C iX10 0 0 k7 rfl rfl (by decide) rfl rfl dX10_would_45 rfl ?_
        refine Z.of (pc' := 49) (fun _ _ _ hl => lv_iload_n hx hb dX10_would_48 rfl (lv_at hl 0 rfl)) ?_
        refine Z.of (pc' := 51) (fun _ _ _ _ => lv_bipush (v := 18) hx hb dX10_would_49 (by decide)) ?_
        refine Z.of (pc' := 52) (fun _ _ _ hl => lv_iadd hx hb dX10_would_51) ?_
        refine Z.topn (y := 803) (by decide) ?_
        refine z_iald C 1 1 rfl rfl (j := 803) (rfl : (803 : Int32) = nI 803) (by decide) (by decide) dX10_would_52 rfl ?_
        refine Z.of (pc' := 90) (fun _ _ _ _ => lv_goto hx hb dX10_would_53 (by decide)) ?_
        exact E (u13.2 803, u13.2) _ _ _ _ dX10_would_90 rfl rfl rfl zh17
    · have zh10 := zh7.trans (if_pos c8)
      refine Z.of (pc' := 22) (fun _ _ _ _ => lv_ldc hx hb hown (hts (.constant RX10 59 (-1000001)) (by decide +kernel)) dX10_would_20) ?_
      exact E ((-1000001), m) _ _ _ _ dX10_would_22 rfl rfl rfl zh10
def lp25_X10_takes (g : Nat → Int32) (m : Nat → Int32) (t : Nat → Int32) (bits : Int32) : Nat → Nat → (Nat → Int32) → Int32 × (Nat → Int32)
  | 0, _, _ => (0, m)
  | q25 + 1, k, mx =>
    if bits ≤ (mx 803) then
      if (mx 803) < bits then
        ((-1000004), mx)
      else
        (nI k, mx)
    else
      if 2000 ≤ (nI k) then
        if (mx 803) < bits then
          ((-1000004), mx)
        else
          (nI k, mx)
      else
        zl (f_X10_samples g mx t 785) fun u20 =>
        lp25_X10_takes g m t bits q25 (k + 1) u20
theorem lp25_X10_takes_s (g : Nat → Int32) (m : Nat → Int32) (t : Nat → Int32) (bits : Int32) (q25 : Nat) (k : Nat) (mx : (Nat → Int32)) : lp25_X10_takes g m t bits (q25 + 1) k mx = (
    if bits ≤ (mx 803) then
      if (mx 803) < bits then
        ((-1000004), mx)
      else
        (nI k, mx)
    else
      if 2000 ≤ (nI k) then
        if (mx 803) < bits then
          ((-1000004), mx)
        else
          (nI k, mx)
      else
        zl (f_X10_samples g mx t 785) fun u20 =>
        lp25_X10_takes g m t bits q25 (k + 1) u20
    ) := rfl
def f_X10_takes (g : Nat → Int32) (m : Nat → Int32) (t : Nat → Int32) (bits : Int32) : Int32 × (Nat → Int32) :=
  zl (f_X10_in bits 1 64) fun u1 =>
  if u1 = 0 then
    ((-1000001), m)
  else
    zl (f_X10_copies g m t 0 5) fun u6 =>
    lp25_X10_takes g m t bits 2002 0 u6
theorem fe_X10_takes (g : Nat → Int32) (m : Nat → Int32) (t : Nat → Int32) (bits : Int32) : f_X10_takes g m t bits = (
    zl (f_X10_in bits 1 64) fun u1 =>
    if u1 = 0 then
      ((-1000001), m)
    else
      zl (f_X10_copies g m t 0 5) fun u6 =>
      lp25_X10_takes g m t bits 2002 0 u6
    ) := rfl
abbrev rm_X10_takes : Room := { frames := 3, cells := 0, slots := 0, locals := 69 }
set_option maxHeartbeats 1000000 in
set_option maxRecDepth 100000 in
theorem c_X10_takes (l : Launch) (T : zT) (M : Nat → Nat) (g : Nat → Int32) (m : Nat → Int32) (t : Nat → Int32) (bits : Int32) (ok0 : MOk m 0) : Ci l yX10_takes wsX10_takes rm_X10_takes T .int [.ref (M 0), .int bits] [(M 0, .inr (10, [.ref (M 1), .int (g 0), .ref (M 2), .int (g 1), .int (g 2), .int (g 3), .int (g 4), .int (g 5), .int (g 6)])), (M 1, .inl (T.2.2.1, 1099, .inl m)), (M 2, .inl (T.2.2.2, 60, .inl t))] (S := Int32 × (Nat → Int32)) (f_X10_takes g m t bits) (fun u => u.1) (fun u => [(M 0, .inr (10, [.ref (M 1), .int (g 0), .ref (M 2), .int (g 1), .int (g 2), .int (g 3), .int (g 4), .int (g 5), .int (g 6)])), (M 1, .inl (T.2.2.1, 1099, .inl u.2)), (M 2, .inl (T.2.2.2, 60, .inl t))]) := by
  refine z_metI (own := RX10) (maxL := 4) rfl (by decide) rfl (Nat.le_of_ble_eq_true rfl) ?_
  intro P0 E0 S0 M0 G0 B0 T0 K0 A9 Q9 C E
  have hx := C.1.1
  have hb := C.1.2.1
  have hown := C.1.2.2.2.1
  have hts := C.1.2.2.2.2
  have hn := C.2.1.2
  have iX10 : ∀ w ∈ u_ws RX10 TX10 9, w ∈ wsX10_takes := by decide +kernel
  have k7 := hts (.fieldLink RX10 7 "JudgedBitsModel" "s" "[I") (by decide +kernel)
  change Z P0 l E0 rm_X10_takes S0 M0 G0 B0 T0 K0 4 T A9 Q9 0 0 [(M 0, .inr (10, [.ref (M 1), .int (g 0), .ref (M 2), .int (g 1), .int (g 2), .int (g 3), .int (g 4), .int (g 5), .int (g 6)])), (M 1, .inl (T.2.2.1, 1099, .inl m)), (M 2, .inl (T.2.2.2, 60, .inl t))] 0 [(0, .ref (M 0)), (1, .int bits)] []
  have zh0 := fe_X10_takes g m t bits
  refine Z.of (pc' := 1) (fun _ _ _ hl => lv_iload_n hx hb dX10_takes_0 rfl (lv_at hl 1 rfl)) ?_
  refine Z.of (pc' := 2) (fun _ _ _ _ => lv_iconst (v := 1) hx hb dX10_takes_1 (by decide)) ?_
  refine Z.of (pc' := 4) (fun _ _ _ _ => lv_bipush (v := 64) hx hb dX10_takes_2 (by decide)) ?_
  refine z_callSi C (c_X10_in l T bits 1 64) (cwS 3 hts gX10_takes_X10_in rfl rfl rfl (by decide +kernel) ⟨Nat.le_of_ble_eq_true rfl, Nat.le_of_ble_eq_true rfl⟩) (As := [.int bits, .int 1, .int 64]) (rest := []) rfl rfl (Nat.le_of_ble_eq_true rfl) dX10_takes_4 rfl ⟨Nat.zero_le _, Nat.zero_le _⟩ (fun u1 eu1 bu1 => ?_)
  have zh2 := zl_e zh0 eu1
  refine Z.two' (pt := 13) (pf := 10) (fun _ _ _ _ => lv_if_ne hx hb dX10_takes_7 (by decide)) (fun c3 => ?_) (fun c3 => ?_)
  · have zh4 := zh2.trans (if_neg c3)
    refine Z.of (pc' := 14) (fun _ _ _ hl => lv_aload_n hx hb dX10_takes_13 rfl (lv_at hl 0 rfl)) ?_
    refine Z.of (pc' := 15) (fun _ _ _ _ => lv_iconst (v := 0) hx hb dX10_takes_14 (by decide)) ?_
    refine Z.of (pc' := 16) (fun _ _ _ _ => lv_iconst (v := 5) hx hb dX10_takes_15 (by decide)) ?_
    refine z_callVv C (c_X10_copies l T M g m t 0 5 (by omega) (by omega)) [0, 1, 2] [] rfl (by decide +kernel) (fun u6 => [(M 0, .inr (10, [.ref (M 1), .int (g 0), .ref (M 2), .int (g 1), .int (g 2), .int (g 3), .int (g 4), .int (g 5), .int (g 6)])), (M 1, .inl (T.2.2.1, 1099, .inl u6)), (M 2, .inl (T.2.2.2, 60, .inl t))]) (fun _ => rfl) [] rfl (fun _ => rfl) [M 0, M 1, M 2] rfl (fun _ => rfl) 3 (fun _ => rfl) (by decide +kernel) (cwV 2 hts gX10_takes_X10_copies rfl rfl rfl (by decide +kernel) ⟨Nat.le_of_ble_eq_true rfl, Nat.le_of_ble_eq_true rfl⟩) 0 rfl rfl rfl (As := [.int 0, .int 5]) (rest := []) rfl rfl (Nat.le_of_ble_eq_true rfl) dX10_takes_16 rfl ⟨Nat.zero_le _, Nat.zero_le _⟩ (fun u6 eu6 => ?_)
    have zh7 := zl_e zh4 eu6
    refine Z.of (pc' := 22) (fun _ _ _ _ => lv_sipush (v := 785) hx hb dX10_takes_19 (by decide)) ?_
    refine Z.sto (pc' := 23) (lv' := [(2, .int 785), (0, .ref (M 0)), (1, .int bits)]) (fun _ _ _ hl => lv_istore_n (lv' := [(2, .int 785), (0, .ref (M 0)), (1, .int bits)]) hx hb dX10_takes_22 rfl hl (by decide) rfl) ?_
    refine Z.of (pc' := 24) (fun _ _ _ _ => lv_iconst (v := 0) hx hb dX10_takes_23 (by decide)) ?_
    refine Z.sto (pc' := 25) (lv' := [(3, .int 0), (2, .int 785), (0, .ref (M 0)), (1, .int bits)]) (fun _ _ _ hl => lv_istore_n (lv' := [(3, .int 0), (2, .int 785), (0, .ref (M 0)), (1, .int bits)]) hx hb dX10_takes_24 rfl hl (by decide) rfl) ?_
    have L25 : ∀ (q25 : Nat) (k : Nat) (mx : (Nat → Int32)), (k ≤ 2000 ∧ k + q25 = 2002 ∧ MOk mx 785) → f_X10_takes g m t bits = lp25_X10_takes g m t bits q25 k mx → Z P0 l E0 rm_X10_takes S0 M0 G0 B0 T0 K0 4 T A9 Q9 0 0 [(M 0, .inr (10, [.ref (M 1), .int (g 0), .ref (M 2), .int (g 1), .int (g 2), .int (g 3), .int (g 4), .int (g 5), .int (g 6)])), (M 1, .inl (T.2.2.1, 1099, .inl mx)), (M 2, .inl (T.2.2.2, 60, .inl t))] 25 [(0, .ref (M 0)), (1, .int bits), (2, .int 785), (3, .int (nI k))] [] := by
      intro q25
      induction q25 with
      | zero =>
        intro k mx hi25 zhl25
        omega
      | succ q25 ih =>
        intro k mx hi25 zhl25
        have zhb25 := zhl25.trans (lp25_X10_takes_s g m t bits q25 k mx)
        refine Z.of (pc' := 26) (fun _ _ _ hl => lv_aload_n hx hb dX10_takes_25 rfl (lv_at hl 0 rfl)) ?_
        refine z_get C iX10 0 0 k7 rfl rfl (by decide) rfl rfl dX10_takes_26 rfl ?_
        refine Z.of (pc' := 30) (fun _ _ _ hl => lv_iload_n hx hb dX10_takes_29 rfl (lv_at hl 2 rfl)) ?_
        refine Z.of (pc' := 32) (fun _ _ _ _ => lv_bipush (v := 18) hx hb dX10_takes_30 (by decide)) ?_
        refine Z.of (pc' := 33) (fun _ _ _ hl => lv_iadd hx hb dX10_takes_32) ?_
        refine Z.topn (y := 803) (by decide) ?_
        refine z_iald C 1 1 rfl rfl (j := 803) (rfl : (803 : Int32) = nI 803) (by decide) (by decide) dX10_takes_33 rfl ?_
        refine Z.of (pc' := 35) (fun _ _ _ hl => lv_iload_n hx hb dX10_takes_34 rfl (lv_at hl 1 rfl)) ?_
        refine Z.two (pt := 56) (pf := 38) (fun _ _ _ _ => lv_icmp_ge hx hb dX10_takes_35 (by decide)) (fun c8 => ?_) (fun c8 => ?_)
        · have zh9 := zhb25.trans (if_pos c8)
          refine Z.of (pc' := 57) (fun _ _ _ hl => lv_aload_n hx hb dX10_takes_56 rfl (lv_at hl 0 rfl)) ?_
          refine z_get C iX10 0 0 k7 rfl rfl (by decide) rfl rfl dX10_takes_57 rfl ?_
          refine Z.of (pc' := 61) (fun _ _ _ hl => lv_iload_n hx hb dX10_takes_60 rfl (lv_at hl 2 rfl)) ?_
          refine Z.of (pc' := 63) (fun _ _ _ _ => lv_bipush (v := 18) hx hb dX10_takes_61 (by decide)) ?_
          refine Z.of (pc' := 64) (fun _ _ _ hl => lv_iadd hx hb dX10_takes_63) ?_
          refine Z.topn (y := 803) (by decide) ?_
          refine z_iald C 1 1 rfl rfl (j := 803) (rfl : (803 : Int32) = nI 803) (by decide) (by decide) dX10_takes_64 rfl ?_
          refine Z.of (pc' := 66) (fun _ _ _ hl => lv_iload_n hx hb dX10_takes_65 rfl (lv_at hl 1 rfl)) ?_
          refine Z.two (pt := 73) (pf := 69) (fun _ _ _ _ => lv_icmp_lt hx hb dX10_takes_66 (by decide)) (fun c11 => ?_) (fun c11 => ?_)
          · have zh12 := zh9.trans (if_pos c11)
            refine Z.of (pc' := 75) (fun _ _ _ _ => lv_ldc hx hb hown (hts (.constant RX10 78 (-1000004)) (by decide +kernel)) dX10_takes_73) ?_
            exact E ((-1000004), mx) _ _ _ _ dX10_takes_75 rfl rfl rfl zh12
          · have zh13 := zh9.trans (if_neg c11)
            refine Z.of (pc' := 70) (fun _ _ _ hl => lv_iload_n hx hb dX10_takes_69 rfl (lv_at hl 3 rfl)) ?_
            refine Z.of (pc' := 75) (fun _ _ _ _ => lv_goto hx hb dX10_takes_70 (by decide)) ?_
            exact E (nI k, mx) _ _ _ _ dX10_takes_75 rfl rfl rfl zh13
        · have zh10 := zhb25.trans (if_neg c8)
          refine Z.of (pc' := 39) (fun _ _ _ hl => lv_iload_n hx hb dX10_takes_38 rfl (lv_at hl 3 rfl)) ?_
          refine Z.of (pc' := 42) (fun _ _ _ _ => lv_sipush (v := 2000) hx hb dX10_takes_39 (by decide)) ?_
          refine Z.two (pt := 56) (pf := 45) (fun _ _ _ _ => lv_icmp_ge hx hb dX10_takes_42 (by decide)) (fun c14 => ?_) (fun c14 => ?_)
          · have nc14 : 2000 ≤ k := zf_le (a := 2000) (b := k) (rfl : (2000 : Int32) = nI 2000) (rfl : nI k = nI k) c14 (by omega) (by omega)
            have zh15 := zh10.trans (if_pos c14)
            refine Z.of (pc' := 57) (fun _ _ _ hl => lv_aload_n hx hb dX10_takes_56 rfl (lv_at hl 0 rfl)) ?_
            refine z_get C iX10 0 0 k7 rfl rfl (by decide) rfl rfl dX10_takes_57 rfl ?_
            refine Z.of (pc' := 61) (fun _ _ _ hl => lv_iload_n hx hb dX10_takes_60 rfl (lv_at hl 2 rfl)) ?_
            refine Z.of (pc' := 63) (fun _ _ _ _ => lv_bipush (v := 18) hx hb dX10_takes_61 (by decide)) ?_
            refine Z.of (pc' := 64) (fun _ _ _ hl => lv_iadd hx hb dX10_takes_63) ?_
            refine Z.topn (y := 803) (by decide) ?_
            refine z_iald C 1 1 rfl rfl (j := 803) (rfl : (803 : Int32) = nI 803) (by decide) (by decide) dX10_takes_64 rfl ?_
            refine Z.of (pc' := 66) (fun _ _ _ hl => lv_iload_n hx hb dX10_takes_65 rfl (lv_at hl 1 rfl)) ?_
            refine Z.two (pt := 73) (pf := 69) (fun _ _ _ _ => lv_icmp_lt hx hb dX10_takes_66 (by decide)) (fun c17 => ?_) (fun c17 => ?_)
            · have zh18 := zh15.trans (if_pos c17)
              refine Z.of (pc' := 75) (fun _ _ _ _ => lv_ldc hx hb hown (hts (.constant RX10 78 (-1000004)) (by decide +kernel)) dX10_takes_73) ?_
              exact E ((-1000004), mx) _ _ _ _ dX10_takes_75 rfl rfl rfl zh18
            · have zh19 := zh15.trans (if_neg c17)
              refine Z.of (pc' := 70) (fun _ _ _ hl => lv_iload_n hx hb dX10_takes_69 rfl (lv_at hl 3 rfl)) ?_
              refine Z.of (pc' := 75) (fun _ _ _ _ => lv_goto hx hb dX10_takes_70 (by decide)) ?_
              exact E (nI k, mx) _ _ _ _ dX10_takes_75 rfl rfl rfl zh19
          · have nc14 : ¬ (2000 ≤ k) := zf_nle (a := 2000) (b := k) (rfl : (2000 : Int32) = nI 2000) (rfl : nI k = nI k) c14 (by omega) (by omega)
            have zh16 := zh10.trans (if_neg c14)
            refine Z.of (pc' := 46) (fun _ _ _ hl => lv_aload_n hx hb dX10_takes_45 rfl (lv_at hl 0 rfl)) ?_
            refine Z.of (pc' := 47) (fun _ _ _ hl => lv_iload_n hx hb dX10_takes_46 rfl (lv_at hl 2 rfl)) ?_
            refine z_callVv C (c_X10_samples l T M g mx t 785 (by omega) hi25.2.2) [0, 1, 2] [] rfl (by decide +kernel) (fun u20 => [(M 0, .inr (10, [.ref (M 1), .int (g 0), .ref (M 2), .int (g 1), .int (g 2), .int (g 3), .int (g 4), .int (g 5), .int (g 6)])), (M 1, .inl (T.2.2.1, 1099, .inl u20)), (M 2, .inl (T.2.2.2, 60, .inl t))]) (fun _ => rfl) [] rfl (fun _ => rfl) [M 0, M 1, M 2] rfl (fun _ => rfl) 3 (fun _ => rfl) (by decide +kernel) (cwV 1 hts gX10_takes_X10_samples rfl rfl rfl (by decide +kernel) ⟨Nat.le_of_ble_eq_true rfl, Nat.le_of_ble_eq_true rfl⟩) 0 rfl rfl rfl (As := [.int 785]) (rest := []) rfl rfl (Nat.le_of_ble_eq_true rfl) dX10_takes_47 rfl ⟨Nat.zero_le _, Nat.zero_le _⟩ (fun u20 eu20 => ?_)
            have zh21 := zl_e zh16 eu20
            refine Z.sto (pc' := 53) (lv' := [(3, .int (nI (k + 1))), (0, .ref (M 0)), (1, .int bits), (2, .int 785)]) (fun _ _ _ hl => lv_iinc (lv' := [(3, .int (nI (k + 1))), (0, .ref (M 0)), (1, .int bits), (2, .int 785)]) hx hb dX10_takes_50 hl (k := 3) rfl ((zi_add (a := k) (b := 1) (rfl : nI k = nI k) (by decide : Int32.ofInt 1 = nI 1)).trans (congrArg nI (by omega))) (by decide) rfl) ?_
            refine Z.of (pc' := 25) (fun _ _ _ _ => lv_goto hx hb dX10_takes_53 (by decide)) ?_
            exact Z.sub (ks := [1, 2, 3, 0]) (lv' := [(0, .ref (M 0)), (1, .int bits), (2, .int 785), (3, .int (nI (k + 1)))]) rfl (ih (k + 1) u20 ⟨by omega, by omega, MOk_samples hi25.2.2 eu20⟩ zh21)
    exact Z.sub (ks := [2, 3, 1, 0]) (lv' := [(0, .ref (M 0)), (1, .int bits), (2, .int 785), (3, .int 0)]) rfl (L25 2002 0 u6 ⟨by omega, by omega, MOk_copies (fr := 0) (tw := 5) ok0 (by decide) eu6⟩ zh7)
  · have zh5 := zh2.trans (if_pos c3)
    refine Z.of (pc' := 12) (fun _ _ _ _ => lv_ldc hx hb hown (hts (.constant RX10 59 (-1000001)) (by decide +kernel)) dX10_takes_10) ?_
    exact E ((-1000001), m) _ _ _ _ dX10_takes_12 rfl rfl rfl zh5
def lp20_X10_bestPeriod (g : Nat → Int32) (m : Nat → Int32) (t : Nat → Int32) (what : Int32) : Nat → Int32 → Int32 → Nat → (Nat → Int32) → Int32 × (Nat → Int32)
  | 0, _, _, _, _ => (0, m)
  | q20 + 1, best, most, k, mx =>
    if 400 < (nI k) then
      if what = 0 then
        (best, mx)
      else
        (most, mx)
    else
      zl (f_X10_copies g mx t 0 5) fun u12 =>
      zl (f_X10_sets g u12 t 5 1 (nI k) (u12 4)) fun u14 =>
      zl (f_X10_makes g u14.2 t 5 200) fun u16 =>
      zl (
        if (u16.2 803) ≤ most then
          best
        else
          (nI k)
        : Int32) fun v19 =>
      zl (
        if (u16.2 803) ≤ most then
          most
        else
          (u16.2 803)
        : Int32) fun v24 =>
      lp20_X10_bestPeriod g m t what q20 v19 v24 (k + 20) u16.2
theorem lp20_X10_bestPeriod_s (g : Nat → Int32) (m : Nat → Int32) (t : Nat → Int32) (what : Int32) (q20 : Nat) (best : Int32) (most : Int32) (k : Nat) (mx : (Nat → Int32)) : lp20_X10_bestPeriod g m t what (q20 + 1) best most k mx = (
    if 400 < (nI k) then
      if what = 0 then
        (best, mx)
      else
        (most, mx)
    else
      zl (f_X10_copies g mx t 0 5) fun u12 =>
      zl (f_X10_sets g u12 t 5 1 (nI k) (u12 4)) fun u14 =>
      zl (f_X10_makes g u14.2 t 5 200) fun u16 =>
      zl (
        if (u16.2 803) ≤ most then
          best
        else
          (nI k)
        : Int32) fun v19 =>
      zl (
        if (u16.2 803) ≤ most then
          most
        else
          (u16.2 803)
        : Int32) fun v24 =>
      lp20_X10_bestPeriod g m t what q20 v19 v24 (k + 20) u16.2
    ) := rfl
def f_X10_bestPeriod (g : Nat → Int32) (m : Nat → Int32) (t : Nat → Int32) (what : Int32) : Int32 × (Nat → Int32) :=
  zl (f_X10_in what 0 1) fun u1 =>
  if u1 = 0 then
    ((-1000001), m)
  else
    lp20_X10_bestPeriod g m t what 22 0 (-1) 20 m
theorem fe_X10_bestPeriod (g : Nat → Int32) (m : Nat → Int32) (t : Nat → Int32) (what : Int32) : f_X10_bestPeriod g m t what = (
    zl (f_X10_in what 0 1) fun u1 =>
    if u1 = 0 then
      ((-1000001), m)
    else
      lp20_X10_bestPeriod g m t what 22 0 (-1) 20 m
    ) := rfl
abbrev rm_X10_bestPeriod : Room := { frames := 4, cells := 0, slots := 0, locals := 94 }
set_option maxHeartbeats 1000000 in
set_option maxRecDepth 100000 in
theorem c_X10_bestPeriod (l : Launch) (T : zT) (M : Nat → Nat) (g : Nat → Int32) (m : Nat → Int32) (t : Nat → Int32) (what : Int32) (ok0 : MOk m 0) : Ci l yX10_bestPeriod wsX10_bestPeriod rm_X10_bestPeriod T .int [.ref (M 0), .int what] [(M 0, .inr (10, [.ref (M 1), .int (g 0), .ref (M 2), .int (g 1), .int (g 2), .int (g 3), .int (g 4), .int (g 5), .int (g 6)])), (M 1, .inl (T.2.2.1, 1099, .inl m)), (M 2, .inl (T.2.2.2, 60, .inl t))] (S := Int32 × (Nat → Int32)) (f_X10_bestPeriod g m t what) (fun u => u.1) (fun u => [(M 0, .inr (10, [.ref (M 1), .int (g 0), .ref (M 2), .int (g 1), .int (g 2), .int (g 3), .int (g 4), .int (g 5), .int (g 6)])), (M 1, .inl (T.2.2.1, 1099, .inl u.2)), (M 2, .inl (T.2.2.2, 60, .inl t))]) := by
  refine z_metI (own := RX10) (maxL := 6) rfl (by decide) rfl (Nat.le_of_ble_eq_true rfl) ?_
  intro P0 E0 S0 M0 G0 B0 T0 K0 A9 Q9 C E
  have hx := C.1.1
  have hb := C.1.2.1
  have hown := C.1.2.2.2.1
  have hts := C.1.2.2.2.2
  have hn := C.2.1.2
  have iX10 : ∀ w ∈ u_ws RX10 TX10 9, w ∈ wsX10_bestPeriod := by decide +kernel
  have k7 := hts (.fieldLink RX10 7 "JudgedBitsModel" "s" "[I") (by decide +kernel)
  change Z P0 l E0 rm_X10_bestPeriod S0 M0 G0 B0 T0 K0 6 T A9 Q9 0 0 [(M 0, .inr (10, [.ref (M 1), .int (g 0), .ref (M 2), .int (g 1), .int (g 2), .int (g 3), .int (g 4), .int (g 5), .int (g 6)])), (M 1, .inl (T.2.2.1, 1099, .inl m)), (M 2, .inl (T.2.2.2, 60, .inl t))] 0 [(0, .ref (M 0)), (1, .int what)] []
  have zh0 := fe_X10_bestPeriod g m t what
  refine Z.of (pc' := 1) (fun _ _ _ hl => lv_iload_n hx hb dX10_bestPeriod_0 rfl (lv_at hl 1 rfl)) ?_
  refine Z.of (pc' := 2) (fun _ _ _ _ => lv_iconst (v := 0) hx hb dX10_bestPeriod_1 (by decide)) ?_
  refine Z.of (pc' := 3) (fun _ _ _ _ => lv_iconst (v := 1) hx hb dX10_bestPeriod_2 (by decide)) ?_
  refine z_callSi C (c_X10_in l T what 0 1) (cwS 3 hts gX10_bestPeriod_X10_in rfl rfl rfl (by decide +kernel) ⟨Nat.le_of_ble_eq_true rfl, Nat.le_of_ble_eq_true rfl⟩) (As := [.int what, .int 0, .int 1]) (rest := []) rfl rfl (Nat.le_of_ble_eq_true rfl) dX10_bestPeriod_3 rfl ⟨Nat.zero_le _, Nat.zero_le _⟩ (fun u1 eu1 bu1 => ?_)
  have zh2 := zl_e zh0 eu1
  refine Z.two' (pt := 12) (pf := 9) (fun _ _ _ _ => lv_if_ne hx hb dX10_bestPeriod_6 (by decide)) (fun c3 => ?_) (fun c3 => ?_)
  · have zh4 := zh2.trans (if_neg c3)
    refine Z.of (pc' := 13) (fun _ _ _ _ => lv_iconst (v := 0) hx hb dX10_bestPeriod_12 (by decide)) ?_
    refine Z.sto (pc' := 14) (lv' := [(2, .int 0), (0, .ref (M 0)), (1, .int what)]) (fun _ _ _ hl => lv_istore_n (lv' := [(2, .int 0), (0, .ref (M 0)), (1, .int what)]) hx hb dX10_bestPeriod_13 rfl hl (by decide) rfl) ?_
    refine Z.of (pc' := 15) (fun _ _ _ _ => lv_iconst (v := -1) hx hb dX10_bestPeriod_14 (by decide)) ?_
    refine Z.sto (pc' := 16) (lv' := [(3, .int (-1)), (2, .int 0), (0, .ref (M 0)), (1, .int what)]) (fun _ _ _ hl => lv_istore_n (lv' := [(3, .int (-1)), (2, .int 0), (0, .ref (M 0)), (1, .int what)]) hx hb dX10_bestPeriod_15 rfl hl (by decide) rfl) ?_
    refine Z.of (pc' := 18) (fun _ _ _ _ => lv_bipush (v := 20) hx hb dX10_bestPeriod_16 (by decide)) ?_
    refine Z.sto (pc' := 20) (lv' := [(4, .int 20), (3, .int (-1)), (2, .int 0), (0, .ref (M 0)), (1, .int what)]) (fun _ _ _ hl => lv_istore (lv' := [(4, .int 20), (3, .int (-1)), (2, .int 0), (0, .ref (M 0)), (1, .int what)]) hx hb dX10_bestPeriod_18 hl (by decide) rfl) ?_
    have L20 : ∀ (q20 : Nat) (best : Int32) (most : Int32) (k : Nat) (mx : (Nat → Int32)), (k ≤ 420 ∧ 440 ≤ k + 20 * q20 ∧ MOk mx 0) → f_X10_bestPeriod g m t what = lp20_X10_bestPeriod g m t what q20 best most k mx → Z P0 l E0 rm_X10_bestPeriod S0 M0 G0 B0 T0 K0 6 T A9 Q9 0 0 [(M 0, .inr (10, [.ref (M 1), .int (g 0), .ref (M 2), .int (g 1), .int (g 2), .int (g 3), .int (g 4), .int (g 5), .int (g 6)])), (M 1, .inl (T.2.2.1, 1099, .inl mx)), (M 2, .inl (T.2.2.2, 60, .inl t))] 20 [(0, .ref (M 0)), (1, .int what), (2, .int best), (3, .int most), (4, .int (nI k))] [] := by
      intro q20
      induction q20 with
      | zero =>
        intro best most k mx hi20 zhl20
        omega
      | succ q20 ih =>
        intro best most k mx hi20 zhl20
        have zhb20 := zhl20.trans (lp20_X10_bestPeriod_s g m t what q20 best most k mx)
        refine Z.of (pc' := 22) (fun _ _ _ hl => lv_iload hx hb dX10_bestPeriod_20 (lv_at hl 4 rfl)) ?_
        refine Z.of (pc' := 25) (fun _ _ _ _ => lv_sipush (v := 400) hx hb dX10_bestPeriod_22 (by decide)) ?_
        refine Z.two (pt := 100) (pf := 28) (fun _ _ _ _ => lv_icmp_gt hx hb dX10_bestPeriod_25 (by decide)) (fun c6 => ?_) (fun c6 => ?_)
        · have nc6 : 400 < k := zf_lt (a := 400) (b := k) (rfl : (400 : Int32) = nI 400) (rfl : nI k = nI k) c6 (by omega) (by omega)
          have zh7 := zhb20.trans (if_pos c6)
          refine Z.of (pc' := 101) (fun _ _ _ hl => lv_iload_n hx hb dX10_bestPeriod_100 rfl (lv_at hl 1 rfl)) ?_
          refine Z.two' (pt := 108) (pf := 104) (fun _ _ _ _ => lv_if_ne hx hb dX10_bestPeriod_101 (by decide)) (fun c9 => ?_) (fun c9 => ?_)
          · have zh10 := zh7.trans (if_neg c9)
            refine Z.of (pc' := 109) (fun _ _ _ hl => lv_iload_n hx hb dX10_bestPeriod_108 rfl (lv_at hl 3 rfl)) ?_
            exact E (most, mx) _ _ _ _ dX10_bestPeriod_109 rfl rfl rfl zh10
          · have zh11 := zh7.trans (if_pos c9)
            refine Z.of (pc' := 105) (fun _ _ _ hl => lv_iload_n hx hb dX10_bestPeriod_104 rfl (lv_at hl 2 rfl)) ?_
            refine Z.of (pc' := 109) (fun _ _ _ _ => lv_goto hx hb dX10_bestPeriod_105 (by decide)) ?_
            exact E (best, mx) _ _ _ _ dX10_bestPeriod_109 rfl rfl rfl zh11
        · have nc6 : ¬ (400 < k) := zf_nlt (a := 400) (b := k) (rfl : (400 : Int32) = nI 400) (rfl : nI k = nI k) c6 (by omega) (by omega)
          have zh8 := zhb20.trans (if_neg c6)
          refine Z.of (pc' := 29) (fun _ _ _ hl => lv_aload_n hx hb dX10_bestPeriod_28 rfl (lv_at hl 0 rfl)) ?_
          refine Z.of (pc' := 30) (fun _ _ _ _ => lv_iconst (v := 0) hx hb dX10_bestPeriod_29 (by decide)) ?_
          refine Z.of (pc' := 31) (fun _ _ _ _ => lv_iconst (v := 5) hx hb dX10_bestPeriod_30 (by decide)) ?_
          refine z_callVv C (c_X10_copies l T M g mx t 0 5 (by omega) (by omega)) [0, 1, 2] [] rfl (by decide +kernel) (fun u12 => [(M 0, .inr (10, [.ref (M 1), .int (g 0), .ref (M 2), .int (g 1), .int (g 2), .int (g 3), .int (g 4), .int (g 5), .int (g 6)])), (M 1, .inl (T.2.2.1, 1099, .inl u12)), (M 2, .inl (T.2.2.2, 60, .inl t))]) (fun _ => rfl) [] rfl (fun _ => rfl) [M 0, M 1, M 2] rfl (fun _ => rfl) 3 (fun _ => rfl) (by decide +kernel) (cwV 2 hts gX10_bestPeriod_X10_copies rfl rfl rfl (by decide +kernel) ⟨Nat.le_of_ble_eq_true rfl, Nat.le_of_ble_eq_true rfl⟩) 0 rfl rfl rfl (As := [.int 0, .int 5]) (rest := []) rfl rfl (Nat.le_of_ble_eq_true rfl) dX10_bestPeriod_31 rfl ⟨Nat.zero_le _, Nat.zero_le _⟩ (fun u12 eu12 => ?_)
          have zh13 := zl_e zh8 eu12
          refine Z.of (pc' := 35) (fun _ _ _ hl => lv_aload_n hx hb dX10_bestPeriod_34 rfl (lv_at hl 0 rfl)) ?_
          refine Z.of (pc' := 36) (fun _ _ _ _ => lv_iconst (v := 5) hx hb dX10_bestPeriod_35 (by decide)) ?_
          refine Z.of (pc' := 37) (fun _ _ _ _ => lv_iconst (v := 1) hx hb dX10_bestPeriod_36 (by decide)) ?_
          refine Z.of (pc' := 39) (fun _ _ _ hl => lv_iload hx hb dX10_bestPeriod_37 (lv_at hl 4 rfl)) ?_
          refine Z.of (pc' := 40) (fun _ _ _ hl => lv_aload_n hx hb dX10_bestPeriod_39 rfl (lv_at hl 0 rfl)) ?_
          refine z_get C iX10 0 0 k7 rfl rfl (by decide) rfl rfl dX10_bestPeriod_40 rfl ?_
          refine Z.of (pc' := 44) (fun _ _ _ _ => lv_iconst (v := 4) hx hb dX10_bestPeriod_43 (by decide)) ?_
          refine z_iald C 1 1 rfl rfl (j := 4) (rfl : (4 : Int32) = nI 4) (by decide) (by decide) dX10_bestPeriod_44 rfl ?_
          refine z_callVi C (c_X10_sets l T M g u12 t 5 1 (nI k) (u12 4) (by omega)) [0, 1, 2] [] rfl (by decide +kernel) (fun u14 => [(M 0, .inr (10, [.ref (M 1), .int (g 0), .ref (M 2), .int (g 1), .int (g 2), .int (g 3), .int (g 4), .int (g 5), .int (g 6)])), (M 1, .inl (T.2.2.1, 1099, .inl u14.2)), (M 2, .inl (T.2.2.2, 60, .inl t))]) (fun _ => rfl) [] rfl (fun _ => rfl) [M 0, M 1, M 2] rfl (fun _ => rfl) 3 (fun _ => rfl) (by decide +kernel) (cwV 4 hts gX10_bestPeriod_X10_sets rfl rfl rfl (by decide +kernel) ⟨Nat.le_of_ble_eq_true rfl, Nat.le_of_ble_eq_true rfl⟩) 0 rfl rfl rfl (As := [.int 5, .int 1, .int (nI k), .int (u12 4)]) (rest := []) rfl rfl (Nat.le_of_ble_eq_true rfl) dX10_bestPeriod_45 rfl ⟨Nat.zero_le _, Nat.zero_le _⟩ (fun u14 eu14 bu14 => ?_)
          have zh15 := zl_e zh13 eu14
          refine Z.of (pc' := 49) (fun _ _ _ hl => lv_pop hx hb dX10_bestPeriod_48 rfl) ?_
          refine Z.of (pc' := 50) (fun _ _ _ hl => lv_aload_n hx hb dX10_bestPeriod_49 rfl (lv_at hl 0 rfl)) ?_
          refine Z.of (pc' := 51) (fun _ _ _ _ => lv_iconst (v := 5) hx hb dX10_bestPeriod_50 (by decide)) ?_
          refine Z.of (pc' := 54) (fun _ _ _ _ => lv_sipush (v := 200) hx hb dX10_bestPeriod_51 (by decide)) ?_
          refine z_callVi C (c_X10_makes l T M g u14.2 t 5 200 (by omega) (by decide) (MOk_sets (MOk_copies (fr := 0) (tw := 5) hi20.2.2 (by decide) eu12) eu14)) [0, 1, 2] [] rfl (by decide +kernel) (fun u16 => [(M 0, .inr (10, [.ref (M 1), .int (g 0), .ref (M 2), .int (g 1), .int (g 2), .int (g 3), .int (g 4), .int (g 5), .int (g 6)])), (M 1, .inl (T.2.2.1, 1099, .inl u16.2)), (M 2, .inl (T.2.2.2, 60, .inl t))]) (fun _ => rfl) [] rfl (fun _ => rfl) [M 0, M 1, M 2] rfl (fun _ => rfl) 3 (fun _ => rfl) (by decide +kernel) (cwV 2 hts gX10_bestPeriod_X10_makes rfl rfl rfl (by decide +kernel) ⟨Nat.le_of_ble_eq_true rfl, Nat.le_of_ble_eq_true rfl⟩) 0 rfl rfl rfl (As := [.int 5, .int 200]) (rest := []) rfl rfl (Nat.le_of_ble_eq_true rfl) dX10_bestPeriod_54 rfl ⟨Nat.zero_le _, Nat.zero_le _⟩ (fun u16 eu16 bu16 => ?_)
          have zh17 := zl_e zh15 eu16
          refine Z.of (pc' := 58) (fun _ _ _ hl => lv_pop hx hb dX10_bestPeriod_57 rfl) ?_
          refine Z.of (pc' := 59) (fun _ _ _ hl => lv_aload_n hx hb dX10_bestPeriod_58 rfl (lv_at hl 0 rfl)) ?_
          refine z_get C iX10 0 0 k7 rfl rfl (by decide) rfl rfl dX10_bestPeriod_59 rfl ?_
          refine Z.of (pc' := 65) (fun _ _ _ _ => lv_sipush (v := 803) hx hb dX10_bestPeriod_62 (by decide)) ?_
          refine z_iald C 1 1 rfl rfl (j := 803) (rfl : (803 : Int32) = nI 803) (by decide) (by decide) dX10_bestPeriod_65 rfl ?_
          refine Z.sto (pc' := 68) (lv' := [(5, .int (u16.2 803)), (0, .ref (M 0)), (1, .int what), (2, .int best), (3, .int most), (4, .int (nI k))]) (fun _ _ _ hl => lv_istore (lv' := [(5, .int (u16.2 803)), (0, .ref (M 0)), (1, .int what), (2, .int best), (3, .int most), (4, .int (nI k))]) hx hb dX10_bestPeriod_66 hl (by decide) rfl) ?_
          refine Z.of (pc' := 70) (fun _ _ _ hl => lv_iload hx hb dX10_bestPeriod_68 (lv_at hl 0 rfl)) ?_
          refine Z.of (pc' := 71) (fun _ _ _ hl => lv_iload_n hx hb dX10_bestPeriod_70 rfl (lv_at hl 4 rfl)) ?_
          have J19 : ∀ v19 : Int32, v19 = (
              if (u16.2 803) ≤ most then
                best
              else
                (nI k)
              ) → Z P0 l E0 rm_X10_bestPeriod S0 M0 G0 B0 T0 K0 6 T A9 Q9 0 0 [(M 0, .inr (10, [.ref (M 1), .int (g 0), .ref (M 2), .int (g 1), .int (g 2), .int (g 3), .int (g 4), .int (g 5), .int (g 6)])), (M 1, .inl (T.2.2.1, 1099, .inl u16.2)), (M 2, .inl (T.2.2.2, 60, .inl t))] 80 [(0, .ref (M 0)), (1, .int what), (3, .int most), (4, .int (nI k)), (5, .int (u16.2 803))] [.int v19] := by
            intro v19 ev19
            have zh22 := zl_e zh17 ev19
            refine Z.sto (pc' := 81) (lv' := [(2, .int v19), (0, .ref (M 0)), (1, .int what), (3, .int most), (4, .int (nI k)), (5, .int (u16.2 803))]) (fun _ _ _ hl => lv_istore_n (lv' := [(2, .int v19), (0, .ref (M 0)), (1, .int what), (3, .int most), (4, .int (nI k)), (5, .int (u16.2 803))]) hx hb dX10_bestPeriod_80 rfl hl (by decide) rfl) ?_
            refine Z.of (pc' := 83) (fun _ _ _ hl => lv_iload hx hb dX10_bestPeriod_81 (lv_at hl 5 rfl)) ?_
            refine Z.of (pc' := 84) (fun _ _ _ hl => lv_iload_n hx hb dX10_bestPeriod_83 rfl (lv_at hl 3 rfl)) ?_
            have J24 : ∀ v24 : Int32, v24 = (
                if (u16.2 803) ≤ most then
                  most
                else
                  (u16.2 803)
                ) → Z P0 l E0 rm_X10_bestPeriod S0 M0 G0 B0 T0 K0 6 T A9 Q9 0 0 [(M 0, .inr (10, [.ref (M 1), .int (g 0), .ref (M 2), .int (g 1), .int (g 2), .int (g 3), .int (g 4), .int (g 5), .int (g 6)])), (M 1, .inl (T.2.2.1, 1099, .inl u16.2)), (M 2, .inl (T.2.2.2, 60, .inl t))] 93 [(0, .ref (M 0)), (1, .int what), (2, .int v19), (4, .int (nI k))] [.int v24] := by
              intro v24 ev24
              have zh27 := zl_e zh22 ev24
              refine Z.sto (pc' := 94) (lv' := [(3, .int v24), (0, .ref (M 0)), (1, .int what), (2, .int v19), (4, .int (nI k))]) (fun _ _ _ hl => lv_istore_n (lv' := [(3, .int v24), (0, .ref (M 0)), (1, .int what), (2, .int v19), (4, .int (nI k))]) hx hb dX10_bestPeriod_93 rfl hl (by decide) rfl) ?_
              refine Z.sto (pc' := 97) (lv' := [(4, .int (nI (k + 20))), (3, .int v24), (0, .ref (M 0)), (1, .int what), (2, .int v19)]) (fun _ _ _ hl => lv_iinc (lv' := [(4, .int (nI (k + 20))), (3, .int v24), (0, .ref (M 0)), (1, .int what), (2, .int v19)]) hx hb dX10_bestPeriod_94 hl (k := 4) rfl ((zi_add (a := k) (b := 20) (rfl : nI k = nI k) (by decide : Int32.ofInt 20 = nI 20)).trans (congrArg nI (by omega))) (by decide) rfl) ?_
              refine Z.of (pc' := 20) (fun _ _ _ _ => lv_goto hx hb dX10_bestPeriod_97 (by decide)) ?_
              exact Z.sub (ks := [2, 3, 4, 1, 0]) (lv' := [(0, .ref (M 0)), (1, .int what), (2, .int v19), (3, .int v24), (4, .int (nI (k + 20)))]) rfl (ih v19 v24 (k + 20) u16.2 ⟨by omega, by omega, MOk_best hi20.2.2 eu12 eu14 eu16⟩ zh27)
            have zr24 := @Eq.refl (Int32) (
                if (u16.2 803) ≤ most then
                  most
                else
                  (u16.2 803)
                )
            refine Z.two (pt := 92) (pf := 87) (fun _ _ _ _ => lv_icmp_le hx hb dX10_bestPeriod_84 (by decide)) (fun c23 => ?_) (fun c23 => ?_)
            · have zh25 := zr24.trans (if_pos c23)
              refine Z.of (pc' := 93) (fun _ _ _ hl => lv_iload_n hx hb dX10_bestPeriod_92 rfl (lv_at hl 3 rfl)) ?_
              exact Z.sub (ks := [1, 2, 0, 4]) (lv' := [(0, .ref (M 0)), (1, .int what), (2, .int v19), (4, .int (nI k))]) rfl (J24 most zh25.symm)
            · have zh26 := zr24.trans (if_neg c23)
              refine Z.of (pc' := 89) (fun _ _ _ hl => lv_iload hx hb dX10_bestPeriod_87 (lv_at hl 5 rfl)) ?_
              refine Z.of (pc' := 93) (fun _ _ _ _ => lv_goto hx hb dX10_bestPeriod_89 (by decide)) ?_
              exact Z.sub (ks := [1, 2, 0, 4]) (lv' := [(0, .ref (M 0)), (1, .int what), (2, .int v19), (4, .int (nI k))]) rfl (J24 (u16.2 803) zh26.symm)
          have zr19 := @Eq.refl (Int32) (
              if (u16.2 803) ≤ most then
                best
              else
                (nI k)
              )
          refine Z.two (pt := 79) (pf := 74) (fun _ _ _ _ => lv_icmp_le hx hb dX10_bestPeriod_71 (by decide)) (fun c18 => ?_) (fun c18 => ?_)
          · have zh20 := zr19.trans (if_pos c18)
            refine Z.of (pc' := 80) (fun _ _ _ hl => lv_iload_n hx hb dX10_bestPeriod_79 rfl (lv_at hl 3 rfl)) ?_
            exact Z.sub (ks := [1, 2, 4, 5, 0]) (lv' := [(0, .ref (M 0)), (1, .int what), (3, .int most), (4, .int (nI k)), (5, .int (u16.2 803))]) rfl (J19 best zh20.symm)
          · have zh21 := zr19.trans (if_neg c18)
            refine Z.of (pc' := 76) (fun _ _ _ hl => lv_iload hx hb dX10_bestPeriod_74 (lv_at hl 5 rfl)) ?_
            refine Z.of (pc' := 80) (fun _ _ _ _ => lv_goto hx hb dX10_bestPeriod_76 (by decide)) ?_
            exact Z.sub (ks := [1, 2, 4, 5, 0]) (lv' := [(0, .ref (M 0)), (1, .int what), (3, .int most), (4, .int (nI k)), (5, .int (u16.2 803))]) rfl (J19 (nI k) zh21.symm)
    exact Z.sub (ks := [3, 4, 2, 1, 0]) (lv' := [(0, .ref (M 0)), (1, .int what), (2, .int 0), (3, .int (-1)), (4, .int 20)]) rfl (L20 22 0 (-1) 20 m ⟨by omega, by omega, ok0⟩ zh4)
  · have zh5 := zh2.trans (if_pos c3)
    refine Z.of (pc' := 11) (fun _ _ _ _ => lv_ldc hx hb hown (hts (.constant RX10 59 (-1000001)) (by decide +kernel)) dX10_bestPeriod_9) ?_
    exact E ((-1000001), m) _ _ _ _ dX10_bestPeriod_11 rfl rfl rfl zh5
def f_X10_count (g : Nat → Int32) (m : Nat → Int32) (t : Nat → Int32) (what : Int32) : Int32 :=
  zl (f_X10_in what 0 7) fun u1 =>
  if u1 = 0 then
    zl (f_X10_in what 20 23) fun u6 =>
    if u6 = 0 then
      if what = 8 then
        (g 0)
      else
        if what = 9 then
          (g 1)
        else
          (-1000001)
    else
      (m ((what.toNatClampNeg + 7) - 20))
  else
    (m (what.toNatClampNeg + 20))
theorem fe_X10_count (g : Nat → Int32) (m : Nat → Int32) (t : Nat → Int32) (what : Int32) : f_X10_count g m t what = (
    zl (f_X10_in what 0 7) fun u1 =>
    if u1 = 0 then
      zl (f_X10_in what 20 23) fun u6 =>
      if u6 = 0 then
        if what = 8 then
          (g 0)
        else
          if what = 9 then
            (g 1)
          else
            (-1000001)
      else
        (m ((what.toNatClampNeg + 7) - 20))
    else
      (m (what.toNatClampNeg + 20))
    ) := rfl
abbrev rm_X10_count : Room := { frames := 1, cells := 0, slots := 0, locals := 22 }
set_option maxHeartbeats 1000000 in
set_option maxRecDepth 100000 in
theorem c_X10_count (l : Launch) (T : zT) (M : Nat → Nat) (g : Nat → Int32) (m : Nat → Int32) (t : Nat → Int32) (what : Int32) : Ci l yX10_count wsX10_count rm_X10_count T .int [.ref (M 0), .int what] [(M 0, .inr (10, [.ref (M 1), .int (g 0), .ref (M 2), .int (g 1), .int (g 2), .int (g 3), .int (g 4), .int (g 5), .int (g 6)])), (M 1, .inl (T.2.2.1, 1099, .inl m)), (M 2, .inl (T.2.2.2, 60, .inl t))] (S := Int32) (f_X10_count g m t what) (fun u => u) (fun u => [(M 0, .inr (10, [.ref (M 1), .int (g 0), .ref (M 2), .int (g 1), .int (g 2), .int (g 3), .int (g 4), .int (g 5), .int (g 6)])), (M 1, .inl (T.2.2.1, 1099, .inl m)), (M 2, .inl (T.2.2.2, 60, .inl t))]) := by
  refine z_metI (own := RX10) (maxL := 2) rfl (by decide) rfl (Nat.le_of_ble_eq_true rfl) ?_
  intro P0 E0 S0 M0 G0 B0 T0 K0 A9 Q9 C E
  have hx := C.1.1
  have hb := C.1.2.1
  have hown := C.1.2.2.2.1
  have hts := C.1.2.2.2.2
  have hn := C.2.1.2
  have iX10 : ∀ w ∈ u_ws RX10 TX10 9, w ∈ wsX10_count := by decide +kernel
  have k7 := hts (.fieldLink RX10 7 "JudgedBitsModel" "s" "[I") (by decide +kernel)
  have k17 := hts (.fieldLink RX10 17 "JudgedBitsModel" "states" "I") (by decide +kernel)
  have k85 := hts (.fieldLink RX10 85 "JudgedBitsModel" "typed" "I") (by decide +kernel)
  change Z P0 l E0 rm_X10_count S0 M0 G0 B0 T0 K0 2 T A9 Q9 0 0 [(M 0, .inr (10, [.ref (M 1), .int (g 0), .ref (M 2), .int (g 1), .int (g 2), .int (g 3), .int (g 4), .int (g 5), .int (g 6)])), (M 1, .inl (T.2.2.1, 1099, .inl m)), (M 2, .inl (T.2.2.2, 60, .inl t))] 0 [(0, .ref (M 0)), (1, .int what)] []
  have zh0 := fe_X10_count g m t what
  refine Z.of (pc' := 1) (fun _ _ _ hl => lv_iload_n hx hb dX10_count_0 rfl (lv_at hl 1 rfl)) ?_
  refine Z.of (pc' := 2) (fun _ _ _ _ => lv_iconst (v := 0) hx hb dX10_count_1 (by decide)) ?_
  refine Z.of (pc' := 4) (fun _ _ _ _ => lv_bipush (v := 7) hx hb dX10_count_2 (by decide)) ?_
  refine z_callSi C (c_X10_in l T what 0 7) (cwS 3 hts gX10_count_X10_in rfl rfl rfl (by decide +kernel) ⟨Nat.le_of_ble_eq_true rfl, Nat.le_of_ble_eq_true rfl⟩) (As := [.int what, .int 0, .int 7]) (rest := []) rfl rfl (Nat.le_of_ble_eq_true rfl) dX10_count_4 rfl ⟨Nat.zero_le _, Nat.zero_le _⟩ (fun u1 eu1 bu1 => ?_)
  have zh2 := zl_e zh0 eu1
  refine Z.two (pt := 20) (pf := 10) (fun _ _ _ _ => lv_if_eq hx hb dX10_count_7 (by decide)) (fun c3 => ?_) (fun c3 => ?_)
  · have zh4 := zh2.trans (if_pos c3)
    refine Z.of (pc' := 21) (fun _ _ _ hl => lv_iload_n hx hb dX10_count_20 rfl (lv_at hl 1 rfl)) ?_
    refine Z.of (pc' := 23) (fun _ _ _ _ => lv_bipush (v := 20) hx hb dX10_count_21 (by decide)) ?_
    refine Z.of (pc' := 25) (fun _ _ _ _ => lv_bipush (v := 23) hx hb dX10_count_23 (by decide)) ?_
    refine z_callSi C (c_X10_in l T what 20 23) (cwS 3 hts gX10_count_X10_in rfl rfl rfl (by decide +kernel) ⟨Nat.le_of_ble_eq_true rfl, Nat.le_of_ble_eq_true rfl⟩) (As := [.int what, .int 20, .int 23]) (rest := []) rfl rfl (Nat.le_of_ble_eq_true rfl) dX10_count_25 rfl ⟨Nat.zero_le _, Nat.zero_le _⟩ (fun u6 eu6 bu6 => ?_)
    have zh7 := zl_e zh4 eu6
    refine Z.two (pt := 44) (pf := 31) (fun _ _ _ _ => lv_if_eq hx hb dX10_count_28 (by decide)) (fun c8 => ?_) (fun c8 => ?_)
    · have zh9 := zh7.trans (if_pos c8)
      refine Z.of (pc' := 45) (fun _ _ _ hl => lv_iload_n hx hb dX10_count_44 rfl (lv_at hl 1 rfl)) ?_
      refine Z.of (pc' := 47) (fun _ _ _ _ => lv_bipush (v := 8) hx hb dX10_count_45 (by decide)) ?_
      refine Z.two' (pt := 57) (pf := 50) (fun _ _ _ _ => lv_icmp_ne hx hb dX10_count_47 (by decide)) (fun c11 => ?_) (fun c11 => ?_)
      · have zh12 := zh9.trans (if_neg c11)
        refine Z.of (pc' := 58) (fun _ _ _ hl => lv_iload_n hx hb dX10_count_57 rfl (lv_at hl 1 rfl)) ?_
        refine Z.of (pc' := 60) (fun _ _ _ _ => lv_bipush (v := 9) hx hb dX10_count_58 (by decide)) ?_
        refine Z.two' (pt := 70) (pf := 63) (fun _ _ _ _ => lv_icmp_ne hx hb dX10_count_60 (by decide)) (fun c14 => ?_) (fun c14 => ?_)
        · have zh15 := zh12.trans (if_neg c14)
          refine Z.of (pc' := 72) (fun _ _ _ _ => lv_ldc hx hb hown (hts (.constant RX10 59 (-1000001)) (by decide +kernel)) dX10_count_70) ?_
          exact E (-1000001) _ _ _ _ dX10_count_72 rfl rfl rfl zh15
        · have zh16 := zh12.trans (if_pos c14)
          refine Z.of (pc' := 64) (fun _ _ _ hl => lv_aload_n hx hb dX10_count_63 rfl (lv_at hl 0 rfl)) ?_
          refine z_get C iX10 0 3 k85 rfl rfl (by decide) rfl rfl dX10_count_64 rfl ?_
          refine Z.of (pc' := 72) (fun _ _ _ _ => lv_goto hx hb dX10_count_67 (by decide)) ?_
          exact E (g 1) _ _ _ _ dX10_count_72 rfl rfl rfl zh16
      · have zh13 := zh9.trans (if_pos c11)
        refine Z.of (pc' := 51) (fun _ _ _ hl => lv_aload_n hx hb dX10_count_50 rfl (lv_at hl 0 rfl)) ?_
        refine z_get C iX10 0 1 k17 rfl rfl (by decide) rfl rfl dX10_count_51 rfl ?_
        refine Z.of (pc' := 72) (fun _ _ _ _ => lv_goto hx hb dX10_count_54 (by decide)) ?_
        exact E (g 0) _ _ _ _ dX10_count_72 rfl rfl rfl zh13
    · have zh10 := zh7.trans (if_neg c8)
      have hwi := zix_of (N := 23) (zle20 (zin_of eu6 c8)) (by decide)
      have hwi2 := hwi.2
      have hwi3 := zf_le (a := 20) (b := what.toNatClampNeg) (rfl : (20 : Int32) = nI 20) hwi.1 (zin_of eu6 c8).1 (by decide) (by omega)
      refine Z.of (pc' := 32) (fun _ _ _ hl => lv_aload_n hx hb dX10_count_31 rfl (lv_at hl 0 rfl)) ?_
      refine z_get C iX10 0 0 k7 rfl rfl (by decide) rfl rfl dX10_count_32 rfl ?_
      refine Z.of (pc' := 37) (fun _ _ _ _ => lv_bipush (v := 7) hx hb dX10_count_35 (by decide)) ?_
      refine Z.of (pc' := 38) (fun _ _ _ hl => lv_iload_n hx hb dX10_count_37 rfl (lv_at hl 1 rfl)) ?_
      refine Z.topn (y := nI what.toNatClampNeg) hwi.1 ?_
      refine Z.of (pc' := 39) (fun _ _ _ hl => lv_iadd hx hb dX10_count_38) ?_
      refine Z.topn (y := nI (what.toNatClampNeg + 7)) (zi_c (zi_add (a := 7) (b := what.toNatClampNeg) (rfl : (7 : Int32) = nI 7) (rfl : nI what.toNatClampNeg = nI what.toNatClampNeg)) (by omega)) ?_
      refine Z.of (pc' := 41) (fun _ _ _ _ => lv_bipush (v := 20) hx hb dX10_count_39 (by decide)) ?_
      refine Z.of (pc' := 42) (fun _ _ _ hl => lv_isub hx hb dX10_count_41) ?_
      refine Z.topn (y := nI ((what.toNatClampNeg + 7) - 20)) (zi_c (zi_sub (a := what.toNatClampNeg + 7) (b := 20) (rfl : nI (what.toNatClampNeg + 7) = nI (what.toNatClampNeg + 7)) (rfl : (20 : Int32) = nI 20) (by omega)) (by omega)) ?_
      refine z_iald C 1 1 rfl rfl (j := (what.toNatClampNeg + 7) - 20) (rfl : nI ((what.toNatClampNeg + 7) - 20) = nI ((what.toNatClampNeg + 7) - 20)) (by omega) (by decide) dX10_count_42 rfl ?_
      exact E (m ((what.toNatClampNeg + 7) - 20)) _ _ _ _ dX10_count_43 rfl rfl rfl zh10
  · have zh5 := zh2.trans (if_neg c3)
    have hwi := zix_of (N := 7) (zin_of eu1 c3) (by decide)
    have hwi2 := hwi.2
    refine Z.of (pc' := 11) (fun _ _ _ hl => lv_aload_n hx hb dX10_count_10 rfl (lv_at hl 0 rfl)) ?_
    refine z_get C iX10 0 0 k7 rfl rfl (by decide) rfl rfl dX10_count_11 rfl ?_
    refine Z.of (pc' := 16) (fun _ _ _ _ => lv_bipush (v := 20) hx hb dX10_count_14 (by decide)) ?_
    refine Z.of (pc' := 17) (fun _ _ _ hl => lv_iload_n hx hb dX10_count_16 rfl (lv_at hl 1 rfl)) ?_
    refine Z.topn (y := nI what.toNatClampNeg) hwi.1 ?_
    refine Z.of (pc' := 18) (fun _ _ _ hl => lv_iadd hx hb dX10_count_17) ?_
    refine Z.topn (y := nI (what.toNatClampNeg + 20)) (zi_c (zi_add (a := 20) (b := what.toNatClampNeg) (rfl : (20 : Int32) = nI 20) (rfl : nI what.toNatClampNeg = nI what.toNatClampNeg)) (by omega)) ?_
    refine z_iald C 1 1 rfl rfl (j := what.toNatClampNeg + 20) (rfl : nI (what.toNatClampNeg + 20) = nI (what.toNatClampNeg + 20)) (by omega) (by decide) dX10_count_18 rfl ?_
    exact E (m (what.toNatClampNeg + 20)) _ _ _ _ dX10_count_19 rfl rfl rfl zh5
def f_X10_undo (g : Nat → Int32) (m : Nat → Int32) (t : Nat → Int32) : Int32 × (Nat → Int32) × (Nat → Int32) :=
  if (g 0) = 0 then
    ((-1000002), g, m)
  else
    zl (f_X10_copies g m t ((g 0).toNatClampNeg) 0) fun u4 =>
    ((g 0) - 1, upd g 0 ((g 0) - 1), u4)
theorem fe_X10_undo (g : Nat → Int32) (m : Nat → Int32) (t : Nat → Int32) : f_X10_undo g m t = (
    if (g 0) = 0 then
      ((-1000002), g, m)
    else
      zl (f_X10_copies g m t ((g 0).toNatClampNeg) 0) fun u4 =>
      ((g 0) - 1, upd g 0 ((g 0) - 1), u4)
    ) := rfl
abbrev rm_X10_undo : Room := { frames := 1, cells := 0, slots := 0, locals := 23 }
set_option maxHeartbeats 1000000 in
set_option maxRecDepth 100000 in
theorem c_X10_undo (l : Launch) (T : zT) (M : Nat → Nat) (g : Nat → Int32) (m : Nat → Int32) (t : Nat → Int32) (hns0 : IN (g 0) 4) : Ci l yX10_undo wsX10_undo rm_X10_undo T .int [.ref (M 0)] [(M 0, .inr (10, [.ref (M 1), .int (g 0), .ref (M 2), .int (g 1), .int (g 2), .int (g 3), .int (g 4), .int (g 5), .int (g 6)])), (M 1, .inl (T.2.2.1, 1099, .inl m)), (M 2, .inl (T.2.2.2, 60, .inl t))] (S := Int32 × (Nat → Int32) × (Nat → Int32)) (f_X10_undo g m t) (fun u => u.1) (fun u => [(M 0, .inr (10, [.ref (M 1), .int (u.2.1 0), .ref (M 2), .int (u.2.1 1), .int (u.2.1 2), .int (u.2.1 3), .int (u.2.1 4), .int (u.2.1 5), .int (u.2.1 6)])), (M 1, .inl (T.2.2.1, 1099, .inl u.2.2)), (M 2, .inl (T.2.2.2, 60, .inl t))]) := by
  refine z_metI (own := RX10) (maxL := 1) rfl (by decide) rfl (Nat.le_of_ble_eq_true rfl) ?_
  intro P0 E0 S0 M0 G0 B0 T0 K0 A9 Q9 C E
  have hx := C.1.1
  have hb := C.1.2.1
  have hown := C.1.2.2.2.1
  have hts := C.1.2.2.2.2
  have hn := C.2.1.2
  have iX10 : ∀ w ∈ u_ws RX10 TX10 9, w ∈ wsX10_undo := by decide +kernel
  have k17 := hts (.fieldLink RX10 17 "JudgedBitsModel" "states" "I") (by decide +kernel)
  have hg0 := hns0.1
  have hns := hns0.2
  change Z P0 l E0 rm_X10_undo S0 M0 G0 B0 T0 K0 1 T A9 Q9 0 0 [(M 0, .inr (10, [.ref (M 1), .int (g 0), .ref (M 2), .int (g 1), .int (g 2), .int (g 3), .int (g 4), .int (g 5), .int (g 6)])), (M 1, .inl (T.2.2.1, 1099, .inl m)), (M 2, .inl (T.2.2.2, 60, .inl t))] 0 [(0, .ref (M 0))] []
  have zh0 := fe_X10_undo g m t
  refine Z.of (pc' := 1) (fun _ _ _ hl => lv_aload_n hx hb dX10_undo_0 rfl (lv_at hl 0 rfl)) ?_
  refine z_get C iX10 0 1 k17 rfl rfl (by decide) rfl rfl dX10_undo_1 rfl ?_
  refine Z.two' (pt := 10) (pf := 7) (fun _ _ _ _ => lv_if_ne hx hb dX10_undo_4 (by decide)) (fun c1 => ?_) (fun c1 => ?_)
  · have zh2 := zh0.trans (if_neg c1)
    refine Z.of (pc' := 11) (fun _ _ _ hl => lv_aload_n hx hb dX10_undo_10 rfl (lv_at hl 0 rfl)) ?_
    refine Z.of (pc' := 12) (fun _ _ _ hl => lv_aload_n hx hb dX10_undo_11 rfl (lv_at hl 0 rfl)) ?_
    refine z_get C iX10 0 1 k17 rfl rfl (by decide) rfl rfl dX10_undo_12 rfl ?_
    refine Z.topn (y := nI ((g 0).toNatClampNeg)) hg0 ?_
    refine Z.of (pc' := 16) (fun _ _ _ _ => lv_iconst (v := 0) hx hb dX10_undo_15 (by decide)) ?_
    refine z_callVv C (c_X10_copies l T M g m t ((g 0).toNatClampNeg) 0 (by omega) (by omega)) [0, 1, 2] [] rfl (by decide +kernel) (fun u4 => [(M 0, .inr (10, [.ref (M 1), .int (g 0), .ref (M 2), .int (g 1), .int (g 2), .int (g 3), .int (g 4), .int (g 5), .int (g 6)])), (M 1, .inl (T.2.2.1, 1099, .inl u4)), (M 2, .inl (T.2.2.2, 60, .inl t))]) (fun _ => rfl) [] rfl (fun _ => rfl) [M 0, M 1, M 2] rfl (fun _ => rfl) 3 (fun _ => rfl) (by decide +kernel) (cwV 2 hts gX10_undo_X10_copies rfl rfl rfl (by decide +kernel) ⟨Nat.le_of_ble_eq_true rfl, Nat.le_of_ble_eq_true rfl⟩) 0 rfl rfl rfl (As := [.int (nI ((g 0).toNatClampNeg)), .int 0]) (rest := []) rfl rfl (Nat.le_of_ble_eq_true rfl) dX10_undo_16 rfl ⟨Nat.zero_le _, Nat.zero_le _⟩ (fun u4 eu4 => ?_)
    have zh5 := zl_e zh2 eu4
    refine Z.of (pc' := 20) (fun _ _ _ hl => lv_aload_n hx hb dX10_undo_19 rfl (lv_at hl 0 rfl)) ?_
    refine Z.of (pc' := 21) (fun _ _ _ hl => lv_dup hx hb dX10_undo_20 rfl) ?_
    refine z_get C iX10 0 1 k17 rfl rfl (by decide) rfl rfl dX10_undo_21 rfl ?_
    refine Z.of (pc' := 25) (fun _ _ _ _ => lv_iconst (v := 1) hx hb dX10_undo_24 (by decide)) ?_
    refine Z.of (pc' := 26) (fun _ _ _ hl => lv_isub hx hb dX10_undo_25) ?_
    refine z_put C iX10 tyX10_ok nmX10 0 1 k17 rfl rfl (by decide) rfl rfl rfl rfl (Nat.le_of_ble_eq_true rfl) dX10_undo_26 rfl [(M 0, .inr (10, [.ref (M 1), .int ((g 0) - 1), .ref (M 2), .int (g 1), .int (g 2), .int (g 3), .int (g 4), .int (g 5), .int (g 6)])), (M 1, .inl (T.2.2.1, 1099, .inl u4)), (M 2, .inl (T.2.2.2, 60, .inl t))] rfl ?_
    refine Z.of (pc' := 30) (fun _ _ _ hl => lv_aload_n hx hb dX10_undo_29 rfl (lv_at hl 0 rfl)) ?_
    refine z_get C iX10 0 1 k17 rfl rfl (by decide) rfl rfl dX10_undo_30 rfl ?_
    exact E ((g 0) - 1, upd g 0 ((g 0) - 1), u4) _ _ _ _ dX10_undo_33 rfl rfl rfl zh5
  · have zh3 := zh0.trans (if_pos c1)
    refine Z.of (pc' := 9) (fun _ _ _ _ => lv_ldc hx hb hown (hts (.constant RX10 60 (-1000002)) (by decide +kernel)) dX10_undo_7) ?_
    exact E ((-1000002), g, m) _ _ _ _ dX10_undo_9 rfl rfl rfl zh3
def f_X10_type (g : Nat → Int32) (m : Nat → Int32) (t : Nat → Int32) (ch : Int32) : Int32 × (Nat → Int32) × (Nat → Int32) :=
  zl (f_X10_in ch 32 126) fun u1 =>
  if u1 = 0 then
    ((-1000001), g, t)
  else
    if (g 1) = 60 then
      ((-1000003), g, t)
    else
      zl (upd t ((g 1).toNatClampNeg) (vp_nar .char ((ch.toUInt32 % 65536).toInt32))) fun m9 =>
      ((g 1) + 1, upd g 1 ((g 1) + 1), m9)
theorem fe_X10_type (g : Nat → Int32) (m : Nat → Int32) (t : Nat → Int32) (ch : Int32) : f_X10_type g m t ch = (
    zl (f_X10_in ch 32 126) fun u1 =>
    if u1 = 0 then
      ((-1000001), g, t)
    else
      if (g 1) = 60 then
        ((-1000003), g, t)
      else
        zl (upd t ((g 1).toNatClampNeg) (vp_nar .char ((ch.toUInt32 % 65536).toInt32))) fun m9 =>
        ((g 1) + 1, upd g 1 ((g 1) + 1), m9)
    ) := rfl
abbrev rm_X10_type : Room := { frames := 1, cells := 0, slots := 0, locals := 22 }
set_option maxHeartbeats 1000000 in
set_option maxRecDepth 100000 in
theorem c_X10_type (l : Launch) (T : zT) (M : Nat → Nat) (g : Nat → Int32) (m : Nat → Int32) (t : Nat → Int32) (ch : Int32) (htn0 : IN (g 1) 60) : Ci l yX10_type wsX10_type rm_X10_type T .int [.ref (M 0), .int ch] [(M 0, .inr (10, [.ref (M 1), .int (g 0), .ref (M 2), .int (g 1), .int (g 2), .int (g 3), .int (g 4), .int (g 5), .int (g 6)])), (M 1, .inl (T.2.2.1, 1099, .inl m)), (M 2, .inl (T.2.2.2, 60, .inl t))] (S := Int32 × (Nat → Int32) × (Nat → Int32)) (f_X10_type g m t ch) (fun u => u.1) (fun u => [(M 0, .inr (10, [.ref (M 1), .int (u.2.1 0), .ref (M 2), .int (u.2.1 1), .int (u.2.1 2), .int (u.2.1 3), .int (u.2.1 4), .int (u.2.1 5), .int (u.2.1 6)])), (M 1, .inl (T.2.2.1, 1099, .inl m)), (M 2, .inl (T.2.2.2, 60, .inl u.2.2))]) := by
  refine z_metI (own := RX10) (maxL := 2) rfl (by decide) rfl (Nat.le_of_ble_eq_true rfl) ?_
  intro P0 E0 S0 M0 G0 B0 T0 K0 A9 Q9 C E
  have hx := C.1.1
  have hb := C.1.2.1
  have hown := C.1.2.2.2.1
  have hts := C.1.2.2.2.2
  have hn := C.2.1.2
  have iX10 : ∀ w ∈ u_ws RX10 TX10 9, w ∈ wsX10_type := by decide +kernel
  have k13 := hts (.fieldLink RX10 13 "JudgedBitsModel" "text" "[C") (by decide +kernel)
  have k85 := hts (.fieldLink RX10 85 "JudgedBitsModel" "typed" "I") (by decide +kernel)
  have hg1 := htn0.1
  have htn := htn0.2
  change Z P0 l E0 rm_X10_type S0 M0 G0 B0 T0 K0 2 T A9 Q9 0 0 [(M 0, .inr (10, [.ref (M 1), .int (g 0), .ref (M 2), .int (g 1), .int (g 2), .int (g 3), .int (g 4), .int (g 5), .int (g 6)])), (M 1, .inl (T.2.2.1, 1099, .inl m)), (M 2, .inl (T.2.2.2, 60, .inl t))] 0 [(0, .ref (M 0)), (1, .int ch)] []
  have zh0 := fe_X10_type g m t ch
  refine Z.of (pc' := 1) (fun _ _ _ hl => lv_iload_n hx hb dX10_type_0 rfl (lv_at hl 1 rfl)) ?_
  refine Z.of (pc' := 3) (fun _ _ _ _ => lv_bipush (v := 32) hx hb dX10_type_1 (by decide)) ?_
  refine Z.of (pc' := 5) (fun _ _ _ _ => lv_bipush (v := 126) hx hb dX10_type_3 (by decide)) ?_
  refine z_callSi C (c_X10_in l T ch 32 126) (cwS 3 hts gX10_type_X10_in rfl rfl rfl (by decide +kernel) ⟨Nat.le_of_ble_eq_true rfl, Nat.le_of_ble_eq_true rfl⟩) (As := [.int ch, .int 32, .int 126]) (rest := []) rfl rfl (Nat.le_of_ble_eq_true rfl) dX10_type_5 rfl ⟨Nat.zero_le _, Nat.zero_le _⟩ (fun u1 eu1 bu1 => ?_)
  have zh2 := zl_e zh0 eu1
  refine Z.two' (pt := 14) (pf := 11) (fun _ _ _ _ => lv_if_ne hx hb dX10_type_8 (by decide)) (fun c3 => ?_) (fun c3 => ?_)
  · have zh4 := zh2.trans (if_neg c3)
    refine Z.of (pc' := 15) (fun _ _ _ hl => lv_aload_n hx hb dX10_type_14 rfl (lv_at hl 0 rfl)) ?_
    refine z_get C iX10 0 3 k85 rfl rfl (by decide) rfl rfl dX10_type_15 rfl ?_
    refine Z.of (pc' := 20) (fun _ _ _ _ => lv_bipush (v := 60) hx hb dX10_type_18 (by decide)) ?_
    refine Z.two' (pt := 26) (pf := 23) (fun _ _ _ _ => lv_icmp_ne hx hb dX10_type_20 (by decide)) (fun c6 => ?_) (fun c6 => ?_)
    · have nc6 : ¬ (((g 1).toNatClampNeg) = 60) := zf_neq (a := ((g 1).toNatClampNeg)) (b := 60) hg1 (rfl : (60 : Int32) = nI 60) c6 (by omega) (by omega)
      have zh7 := zh4.trans (if_neg c6)
      refine Z.of (pc' := 27) (fun _ _ _ hl => lv_aload_n hx hb dX10_type_26 rfl (lv_at hl 0 rfl)) ?_
      refine z_get C iX10 0 2 k13 rfl rfl (by decide) rfl rfl dX10_type_27 rfl ?_
      refine Z.of (pc' := 31) (fun _ _ _ hl => lv_aload_n hx hb dX10_type_30 rfl (lv_at hl 0 rfl)) ?_
      refine z_get C iX10 0 3 k85 rfl rfl (by decide) rfl rfl dX10_type_31 rfl ?_
      refine Z.of (pc' := 35) (fun _ _ _ hl => lv_iload_n hx hb dX10_type_34 rfl (lv_at hl 1 rfl)) ?_
      refine Z.of (pc' := 36) (fun _ _ _ hl => lv_i2c hx hb dX10_type_35 rfl) ?_
      refine z_cast C 2 2 rfl rfl (j := (g 1).toNatClampNeg) hg1 (by omega) (by decide) dX10_type_36 rfl (fun m9 => [(M 0, .inr (10, [.ref (M 1), .int (g 0), .ref (M 2), .int (g 1), .int (g 2), .int (g 3), .int (g 4), .int (g 5), .int (g 6)])), (M 1, .inl (T.2.2.1, 1099, .inl m)), (M 2, .inl (T.2.2.2, 60, .inl m9))]) (fun _ => rfl) (fun m9 em9 => ?_)
      have zh10 := zl_e zh7 em9
      refine Z.of (pc' := 38) (fun _ _ _ hl => lv_aload_n hx hb dX10_type_37 rfl (lv_at hl 0 rfl)) ?_
      refine Z.of (pc' := 39) (fun _ _ _ hl => lv_dup hx hb dX10_type_38 rfl) ?_
      refine z_get C iX10 0 3 k85 rfl rfl (by decide) rfl rfl dX10_type_39 rfl ?_
      refine Z.of (pc' := 43) (fun _ _ _ _ => lv_iconst (v := 1) hx hb dX10_type_42 (by decide)) ?_
      refine Z.of (pc' := 44) (fun _ _ _ hl => lv_iadd hx hb dX10_type_43) ?_
      refine z_put C iX10 tyX10_ok nmX10 0 3 k85 rfl rfl (by decide) rfl rfl rfl rfl (Nat.le_of_ble_eq_true rfl) dX10_type_44 rfl [(M 0, .inr (10, [.ref (M 1), .int (g 0), .ref (M 2), .int ((g 1) + 1), .int (g 2), .int (g 3), .int (g 4), .int (g 5), .int (g 6)])), (M 1, .inl (T.2.2.1, 1099, .inl m)), (M 2, .inl (T.2.2.2, 60, .inl m9))] rfl ?_
      refine Z.of (pc' := 48) (fun _ _ _ hl => lv_aload_n hx hb dX10_type_47 rfl (lv_at hl 0 rfl)) ?_
      refine z_get C iX10 0 3 k85 rfl rfl (by decide) rfl rfl dX10_type_48 rfl ?_
      exact E ((g 1) + 1, upd g 1 ((g 1) + 1), m9) _ _ _ _ dX10_type_51 rfl rfl rfl zh10
    · have nc6 : ((g 1).toNatClampNeg) = 60 := zf_eq (a := ((g 1).toNatClampNeg)) (b := 60) hg1 (rfl : (60 : Int32) = nI 60) c6 (by omega) (by omega)
      have zh8 := zh4.trans (if_pos c6)
      refine Z.of (pc' := 25) (fun _ _ _ _ => lv_ldc hx hb hown (hts (.constant RX10 88 (-1000003)) (by decide +kernel)) dX10_type_23) ?_
      exact E ((-1000003), g, t) _ _ _ _ dX10_type_25 rfl rfl rfl zh8
  · have zh5 := zh2.trans (if_pos c3)
    refine Z.of (pc' := 13) (fun _ _ _ _ => lv_ldc hx hb hown (hts (.constant RX10 59 (-1000001)) (by decide +kernel)) dX10_type_11) ?_
    exact E ((-1000001), g, t) _ _ _ _ dX10_type_13 rfl rfl rfl zh5
def f_X10_clearText (g : Nat → Int32) (m : Nat → Int32) (t : Nat → Int32) : (Nat → Int32) :=
  (upd g 1 0)
theorem fe_X10_clearText (g : Nat → Int32) (m : Nat → Int32) (t : Nat → Int32) : f_X10_clearText g m t = (
    (upd g 1 0)
    ) := rfl
abbrev rm_X10_clearText : Room := { frames := 0, cells := 0, slots := 0, locals := 0 }
set_option maxHeartbeats 1000000 in
set_option maxRecDepth 100000 in
theorem c_X10_clearText (l : Launch) (T : zT) (M : Nat → Nat) (g : Nat → Int32) (m : Nat → Int32) (t : Nat → Int32) : Ci l yX10_clearText wsX10_clearText rm_X10_clearText T .int [.ref (M 0)] [(M 0, .inr (10, [.ref (M 1), .int (g 0), .ref (M 2), .int (g 1), .int (g 2), .int (g 3), .int (g 4), .int (g 5), .int (g 6)])), (M 1, .inl (T.2.2.1, 1099, .inl m)), (M 2, .inl (T.2.2.2, 60, .inl t))] (S := (Nat → Int32)) (f_X10_clearText g m t) (fun u => g 1) (fun u => [(M 0, .inr (10, [.ref (M 1), .int (u 0), .ref (M 2), .int (u 1), .int (u 2), .int (u 3), .int (u 4), .int (u 5), .int (u 6)])), (M 1, .inl (T.2.2.1, 1099, .inl m)), (M 2, .inl (T.2.2.2, 60, .inl t))]) := by
  refine z_metI (own := RX10) (maxL := 2) rfl (by decide) rfl (Nat.le_of_ble_eq_true rfl) ?_
  intro P0 E0 S0 M0 G0 B0 T0 K0 A9 Q9 C E
  have hx := C.1.1
  have hb := C.1.2.1
  have hown := C.1.2.2.2.1
  have hts := C.1.2.2.2.2
  have hn := C.2.1.2
  have iX10 : ∀ w ∈ u_ws RX10 TX10 9, w ∈ wsX10_clearText := by decide +kernel
  have k85 := hts (.fieldLink RX10 85 "JudgedBitsModel" "typed" "I") (by decide +kernel)
  change Z P0 l E0 rm_X10_clearText S0 M0 G0 B0 T0 K0 2 T A9 Q9 0 0 [(M 0, .inr (10, [.ref (M 1), .int (g 0), .ref (M 2), .int (g 1), .int (g 2), .int (g 3), .int (g 4), .int (g 5), .int (g 6)])), (M 1, .inl (T.2.2.1, 1099, .inl m)), (M 2, .inl (T.2.2.2, 60, .inl t))] 0 [(0, .ref (M 0))] []
  have zh0 := fe_X10_clearText g m t
  refine Z.of (pc' := 1) (fun _ _ _ hl => lv_aload_n hx hb dX10_clearText_0 rfl (lv_at hl 0 rfl)) ?_
  refine z_get C iX10 0 3 k85 rfl rfl (by decide) rfl rfl dX10_clearText_1 rfl ?_
  refine Z.sto (pc' := 5) (lv' := [(1, .int (g 1)), (0, .ref (M 0))]) (fun _ _ _ hl => lv_istore_n (lv' := [(1, .int (g 1)), (0, .ref (M 0))]) hx hb dX10_clearText_4 rfl hl (by decide) rfl) ?_
  refine Z.of (pc' := 6) (fun _ _ _ hl => lv_aload_n hx hb dX10_clearText_5 rfl (lv_at hl 1 rfl)) ?_
  refine Z.of (pc' := 7) (fun _ _ _ _ => lv_iconst (v := 0) hx hb dX10_clearText_6 (by decide)) ?_
  refine z_put C iX10 tyX10_ok nmX10 0 3 k85 rfl rfl (by decide) rfl rfl rfl rfl (Nat.le_of_ble_eq_true rfl) dX10_clearText_7 rfl [(M 0, .inr (10, [.ref (M 1), .int (g 0), .ref (M 2), .int 0, .int (g 2), .int (g 3), .int (g 4), .int (g 5), .int (g 6)])), (M 1, .inl (T.2.2.1, 1099, .inl m)), (M 2, .inl (T.2.2.2, 60, .inl t))] rfl ?_
  refine Z.of (pc' := 11) (fun _ _ _ hl => lv_iload_n hx hb dX10_clearText_10 rfl (lv_at hl 0 rfl)) ?_
  exact E (upd g 1 0) _ _ _ _ dX10_clearText_11 rfl rfl rfl zh0
