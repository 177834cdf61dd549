theorem mk_loop {f : Nat → Int32} {rb sb : Int64} {g m t : Nat → Int32} {slot : Nat} {many : Int32} (h0 : SR f rb sb (sB (157 * slot) m)) : ∀ (q k : Nat) (fx : Nat → Int32) (rx sx : Int64) (mx : Nat → Int32) (c : Nat), k + q ≤ 302 → c ≤ k → fx 23 = f 23 + nI c → SR fx rx sx (sB (157 * slot) mx) → fr (157 * slot) m mx → ∃ u v, lp24_X6_makeSamples f rb sb many q k fx rx sx = u ∧ lp20_X10_makes g m t slot many q k mx = v ∧ u.1 = v.1 ∧ 0 ≤ u.1 ∧ SR u.2.1 u.2.2.1 u.2.2.2 (sB (157 * slot) v.2) ∧ fr (157 * slot) m v.2 := by
  intro q
  induction q with
  | zero =>
    intro k fx rx sx mx c h1 h2 h3 h4 h5
    exact ⟨(0, f, rb, sb), (0, m), rfl, rfl, rfl, show (0 : Int32) ≤ 0 by decide, h0, fr_rf _ _⟩
  | succ q ih =>
    intro k fx rx sx mx c h1 h2 h3 h4 h5
    rw [lp24_X6_makeSamples_s, lp20_X10_makes_s]
    by_cases d : many ≤ nI k
    · rw [if_pos d, if_pos d]
      have e1 : mx (157 * slot + 23) = fx 23 := SR_at h4 23 (by decide) (by decide) (by decide) (by decide)
      have e2 : m (157 * slot + 23) = f 23 := SR_at h0 23 (by decide) (by decide) (by decide) (by decide)
      refine ⟨_, _, rfl, rfl, ?_, ?_, h4, h5⟩
      · show fx 23 - f 23 = mx (157 * slot + 23) - m (157 * slot + 23)
        rw [e1, e2]
      · show 0 ≤ fx 23 - f 23
        rw [h3, Int32.add_comm, Int32.add_sub_cancel]
        exact nI_pos' (by omega)
    · rw [if_neg d, if_neg d]
      obtain ⟨F, v, eF, ev, s1, F1, e23⟩ := samples_rel (g := g) (t := t) h4
      rw [zl_c eF, zl_c ev, zl_c rfl]
      rcases e23 with e23 | e23
      · exact ih (k + 1) v.1 v.2.1 v.2.2 _ c (by omega) (by omega) (e23.trans h3) s1 (fr_tr h5 F1)
      · exact ih (k + 1) v.1 v.2.1 v.2.2 _ (c + 1) (by omega) (by omega) (by rw [e23, h3, Int32.add_assoc, nI_1]) s1 (fr_tr h5 F1)
theorem makes_rel {f : Nat → Int32} {rb sb : Int64} {g m t : Nat → Int32} {slot : Nat} {many : Int32} (h : SR f rb sb (sB (157 * slot) m)) (hw : ¬ f_X9_isWithin many 1 300 = 0) : ∃ u v, f_X6_makeSamples f rb sb many = u ∧ f_X10_makes g m t slot many = v ∧ u.1 = v.1 ∧ 0 ≤ u.1 ∧ SR u.2.1 u.2.2.1 u.2.2.2 (sB (157 * slot) v.2) ∧ fr (157 * slot) m v.2 := by
  obtain ⟨u, v, e1, e2, r⟩ := mk_loop (g := g) (t := t) (many := many) h 302 0 f rb sb m 0 (by decide) (by decide) (by rw [nI_0, Int32.add_zero]) h (fr_rf _ _)
  refine ⟨u, v, ?_, ?_, r⟩
  · rw [fe_X6_makeSamples, zl_c rfl, if_neg hw]
    exact e1
  · rw [fe_X10_makes]
    exact e2
theorem makes_no {f : Nat → Int32} {rb sb : Int64} {many : Int32} (hw : f_X9_isWithin many 1 300 = 0) : f_X6_makeSamples f rb sb many = (-1000001, f, rb, sb) := by
  rw [fe_X6_makeSamples, zl_c rfl, if_pos hw]
theorem within_neg {x : Int32} {a b : Int32} (h : ¬ f_X9_isWithin x a b = 0) : a ≤ x ∧ x ≤ b := by
  unfold f_X9_isWithin at h
  by_cases c1 : x < a
  · rw [if_pos c1] at h; exact absurd rfl h
  · rw [if_neg c1] at h
    by_cases c2 : b < x
    · rw [if_pos c2] at h; exact absurd rfl h
    · exact ⟨Int32.not_lt.mp c1, Int32.not_lt.mp c2⟩
theorem sets_rel {f : Nat → Int32} {rb sb : Int64} {g m t : Nat → Int32} {slot : Nat} {which period jitter : Int32} (h : SR f rb sb (sB (157 * slot) m)) : ∃ u v, f_X6_changeRing f rb sb which period jitter = u ∧ f_X10_sets g m t slot which period jitter = v ∧ u.1 = v.1 ∧ SR u.2 rb sb (sB (157 * slot) v.2) ∧ fr (157 * slot) m v.2 ∧ (u.1 < 0 ∨ 0 ≤ u.1) := by
  rw [fe_X6_changeRing, fe_X10_sets, in_eq, in_eq, in_eq]
  rw [zl_c (rfl : f_X9_isWithin which 0 1 = _), zl_c (rfl : f_X9_isWithin which 0 1 = _)]
  by_cases c1 : f_X9_isWithin which 0 1 = 0
  · rw [if_pos c1, if_pos c1]
    exact ⟨_, _, rfl, rfl, rfl, h, fr_rf _ _, Or.inl (show (-1000001 : Int32) < 0 by decide)⟩
  · rw [if_neg c1, if_neg c1]
    rw [zl_c (rfl : f_X9_isWithin period 10 999 = _), zl_c (rfl : f_X9_isWithin period 10 999 = _)]
    by_cases c2 : f_X9_isWithin period 10 999 = 0
    · rw [if_pos c2, if_pos c2]
      exact ⟨_, _, rfl, rfl, rfl, h, fr_rf _ _, Or.inl (show (-1000001 : Int32) < 0 by decide)⟩
    · rw [if_neg c2, if_neg c2]
      rw [zl_c (rfl : f_X9_isWithin jitter 0 99 = _), zl_c (rfl : f_X9_isWithin jitter 0 99 = _)]
      by_cases c3 : f_X9_isWithin jitter 0 99 = 0
      · rw [if_pos c3, if_pos c3]
        exact ⟨_, _, rfl, rfl, rfl, h, fr_rf _ _, Or.inl (show (-1000001 : Int32) < 0 by decide)⟩
      · rw [if_neg c3, if_neg c3, zl_c rfl, zl_c rfl, zl_c rfl, zl_c rfl]
        obtain ⟨i, -, hi, rfl⟩ := wi (a := 0) (b := 1) (by decide) (by decide) c1
        have hp : 0 < period := Int32.lt_of_lt_of_le (by decide) (within_neg c2).1
        have hj : 0 < jitter + 1 := by
          obtain ⟨j, -, hj, rfl⟩ := wi (a := 0) (b := 99) (by decide) (by decide) c3
          rw [nI_1]
          exact nI_lt (a := 0) (by omega) (by omega)
        have hi' : i = 0 ∨ i = 1 := by omega
        have ci : (nI i).toNatClampNeg = i := nI_clamp (by omega)
        rw [ci]
        rcases hi' with rfl | rfl
        · rw [if_pos (show nI 0 = 0 from rfl)]
          refine ⟨_, _, rfl, rfl, (SR_at h 1 (by decide) (by decide) (by decide) (by decide)).symm, ?_, fr_upd (fr_upd (fr_upd (fr_rf _ _) (k := 1) (by decide)) (k := 3) (by decide)) (k := 5) (by decide), Or.inr (Int32.le_of_lt h.2.2.2.2.2.2.1.1)⟩
          show SR _ rb sb (sB (157 * slot) (upd (upd (upd m (157 * slot + 1) period) (157 * slot + 3) jitter) (157 * slot + 5) 0))
          rw [sB_upd, sB_upd, sB_upd]
          exact SR_u (SR_u (SR_u h (by decide) (by omega) (fun _ => hp) (by omega) (by omega)) (by decide) (by omega) (by omega) (fun _ => hj) (by omega)) (by decide) (by omega) (by omega) (by omega) (by omega)
        · rw [if_neg (show ¬ nI 1 = 0 by decide)]
          refine ⟨_, _, rfl, rfl, (SR_at h 2 (by decide) (by decide) (by decide) (by decide)).symm, ?_, fr_upd (fr_upd (fr_upd (fr_rf _ _) (k := 2) (by decide)) (k := 4) (by decide)) (k := 6) (by decide), Or.inr (Int32.le_of_lt h.2.2.2.2.2.2.1.2.1)⟩
          show SR _ rb sb (sB (157 * slot) (upd (upd (upd m (157 * slot + 2) period) (157 * slot + 4) jitter) (157 * slot + 6) 0))
          rw [sB_upd, sB_upd, sB_upd]
          exact SR_u (SR_u (SR_u h (by decide) (by omega) (fun _ => hp) (by omega) (by omega)) (by decide) (by omega) (by omega) (fun _ => hj) (by omega)) (by decide) (by omega) (by omega) (by omega) (by omega)
theorem starts_rel {f : Nat → Int32} {rb sb : Int64} {g m t : Nat → Int32} {slot : Nat} (h : SR f rb sb (sB (157 * slot) m)) : SR (f_X6_startAnew f rb sb) rb 0 (sB (157 * slot) (f_X10_starts g m t slot)) ∧ fr (157 * slot) m (f_X10_starts g m t slot) := by
  have e : f_X10_starts g m t slot = upd (upd (upd (upd (upd (upd (upd m (157 * slot + 11) 0) (157 * slot + 13) 64) (157 * slot + 14) 0) (157 * slot + 16) 0) (157 * slot + 17) 0) (157 * slot + 18) 0) (157 * slot + 19) (-1) := by
    rw [fe_X10_starts, zl_c rfl, zl_c rfl, zl_c rfl, zl_c rfl, zl_c rfl, zl_c rfl, zl_c rfl]
  rw [e]
  refine ⟨?_, fr_upd (fr_upd (fr_upd (fr_upd (fr_upd (fr_upd (fr_upd (fr_rf _ _) (by decide)) (by decide)) (by decide)) (by decide)) (by decide)) (by decide)) (by decide)⟩
  rw [sB_upd, sB_upd, sB_upd, sB_upd, sB_upd, sB_upd, sB_upd]
  unfold f_X6_startAnew
  obtain ⟨h1, h2, h3, h4, h5, h6, h7, h8, h9, h10, h11⟩ := h
  have hi : ∀ j, 28 ≤ j → upd (upd (upd (upd (upd (upd (upd (sB (157 * slot) m) 11 0) 13 64) 14 0) 16 0) 17 0) 18 0) 19 (-1) j = sB (157 * slot) m j := fun j hj => by
    rw [upd_ne (by omega), upd_ne (by omega), upd_ne (by omega), upd_ne (by omega), upd_ne (by omega), upd_ne (by omega), upd_ne (by omega)]
  refine ⟨fun k a b c d => ?_, fun q => absurd q (show ¬ (0 : Int32) = 2 by decide), fun _ => ⟨show (64 : Int32) = 64 - 0 by decide, show IN 0 63 from ⟨rfl, by decide⟩⟩, fun q => absurd rfl q, rowR_congr (fun k hk => hi _ (by omega)) h5, rowR_0 _ _ (fun k hk => ?_), h7, Or.inl rfl, Or.inl rfl, show IN 0 31 from ⟨rfl, by decide⟩, h11⟩
  · have q := h1 k a b c d
    rcases k29 a with rfl | rfl | rfl | rfl | rfl | rfl | rfl | rfl | rfl | rfl | rfl | rfl | rfl | rfl | rfl | rfl | rfl | rfl | rfl | rfl | rfl | rfl | rfl | rfl | rfl | rfl | rfl | rfl | rfl <;> first | exact q | exact absurd rfl b | exact absurd rfl c | exact absurd rfl d | rfl
  · rw [hi _ (by omega)]
    exact h6.2.2.2 k hk
