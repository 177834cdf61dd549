theorem pl_loop {N : Nat} {o g m0 m t tm f : Nat → Int32} {rb sb : Int64} {g0 : Int32} (hN : N ≤ 60) (htm : ∀ j, j < N → tm j = t j) : ∀ (q k d p : Nat) (ox gx mx fx : Nat → Int32) (rx sx : Int64), d + q = 62 → d ≤ p → p ≤ N → ox 1 = nI p → ox 2 = nI d → gx 2 = nI p → gx 1 = nI N → gx 6 = nI d → gx 0 = g0 → SR fx rx sx (sB (157 * 6) mx) → fr (157 * 6) m mx → ∃ a b, lp10_X3_areDoneOn o (nI N) t f rb sb q k ox fx rx sx = a ∧ lp24_X10_plays g m0 tm q 1 gx mx = b ∧ a.1 = b.1 ∧ fr (157 * 6) m b.2.2 ∧ b.2.1 0 = g0 ∧ b.2.1 1 = nI N ∧ ((a.1 = 0 ∧ a.2.1 0 = b.2.1 3 ∧ a.2.1 3 = b.2.1 4 ∧ a.2.1 4 = b.2.1 5) ∨ (a.1 = 1 ∧ (∃ e, e ≤ 60 ∧ a.2.1 2 = nI e ∧ b.2.1 6 = nI e) ∧ SR a.2.2.1 a.2.2.2.1 a.2.2.2.2 (sB (157 * 6) b.2.2))) := by
  intro q
  induction q with
  | zero => intro k d p ox gx mx fx rx sx h1 h2 h3; omega
  | succ q ih =>
    intro k d p ox gx mx fx rx sx h1 h2 h3 h4 h5 h6 h7 h8 h9 h10 h11
    rw [lp10_X3_areDoneOn_s, lp24_X10_plays_s, h4, h5, h6, h7, if_neg (show ¬ (1 : Int32) = 0 by decide)]
    by_cases c : N ≤ p
    · rw [if_pos (show nI N ≤ nI p from nI_le c (by omega)), if_pos (show nI N ≤ nI p from nI_le c (by omega))]
      refine ⟨(1, ox, fx, rx, sx), (1, gx, mx), by split <;> rfl, rfl, rfl, h11, h9, h7, Or.inr ⟨rfl, ⟨d, by omega, h5, h8⟩, h10⟩⟩
    · have c' : ¬ nI N ≤ nI p := nI_ge (by omega) (by omega)
      rw [if_neg (show ¬ (60 : Int32) ≤ nI d from fun hc => by have := (nI_leI (a := 60) (b := d) (by decide) (by omega)).mp hc; omega), if_neg c', if_neg c']
      obtain ⟨a, b, ea, eb, a0, a2, b0, b1, b6, b3, r⟩ := order_rel (o := upd ox 0 (nI p)) (g := gx) (mx := mx) (t := t) (tm := tm) hN (show p < N by omega) (by rw [upd_ne (by decide)]; exact h4) h6 h7 htm h10
      rw [upd_eq] at a0
      rw [upd_ne (show 2 ≠ 0 by decide), h5] at a2
      rw [zl_c ea, zl_c eb]
      obtain ⟨q', hq'⟩ : ∃ q', q = q' + 1 := ⟨q - 1, by omega⟩
      rcases r with ⟨r1, r2, r3, r4, r5⟩ | ⟨r1, C, eC, F, s⟩
      · rw [if_pos r1, zl_c (if_pos r2), r2, hq', lp24_X10_plays_s, if_pos rfl]
        refine ⟨_, _, rfl, rfl, rfl, by rw [r5]; exact h11, ?_, ?_, Or.inl ⟨rfl, ?_, ?_, ?_⟩⟩
        · exact b0.trans h9
        · exact b1.trans h7
        · exact a0.trans b3.symm
        · exact r3.symm
        · show a.2 1 - a.2 0 = b.2.1 5
          rw [r4, a0]
      · rw [if_neg r1, zl_c eC]
        rcases s with ⟨s1, s2, s3, s4⟩ | ⟨s1, s2, s3, p', t1, t2, t3, t4⟩
        · rw [if_neg (Int32.not_le.mpr s1), zl_c (if_pos s2), s2, hq', lp24_X10_plays_s, if_pos rfl]
          refine ⟨_, _, rfl, rfl, rfl, fr_tr h11 F, ?_, ?_, Or.inl ⟨rfl, ?_, ?_, ?_⟩⟩
          · exact b0.trans h9
          · exact b1.trans h7
          · exact a0.trans b3.symm
          · exact s3.symm
          · exact s4.symm
        · rw [if_pos s1, zl_c (if_neg (show ¬ b.1 = 0 by rw [s2]; decide)), s2]
          refine ih (k + 1) (d + 1) p' _ _ _ _ _ _ (by omega) (by omega) t2 ?_ ?_ ?_ ?_ ?_ ?_ s3 (fr_tr h11 F)
          · rw [upd_ne (by decide)]; exact t3
          · rw [upd_eq, a2, nI_1]
          · rw [upd_ne (by decide)]; exact t4
          · rw [upd_ne (by decide)]; exact b1.trans h7
          · rw [upd_eq, b6, h8, nI_1]
          · rw [upd_ne (by decide)]; exact b0.trans h9
theorem plays_rel {fn : Nat → Int32} {rn sn : Int64} {hm : Int32} {f1 : Nat → Int32} {r1 s1 : Int64} {f2 : Nat → Int32} {r2 s2 : Int64} {f3 : Nat → Int32} {r3 s3 : Int64} {f4 : Nat → Int32} {r4 s4 : Int64} {n : Int32} {t g m tm o : Nat → Int32} (h : LWd fn rn sn hm f1 r1 s1 f2 r2 s2 f3 r3 s3 f4 r4 s4 n t g m tm) : ∃ a b, f_X3_areDoneOn o n t fn rn sn = a ∧ f_X10_plays g m tm = b ∧ a.1 = b.1 ∧ (∀ k, k < 2 → b.2.1 k = g k) ∧ (∀ j, j < 785 → b.2.2 j = m j) ∧ ((a.1 = 0 ∧ a.2.1 0 = b.2.1 3 ∧ a.2.1 3 = b.2.1 4 ∧ a.2.1 4 = b.2.1 5) ∨ (a.1 = 1 ∧ (∃ e, e ≤ 60 ∧ a.2.1 2 = nI e ∧ b.2.1 6 = nI e) ∧ SR a.2.2.1 a.2.2.2.1 a.2.2.2.2 (sB (157 * 6) b.2.2))) := by
  obtain ⟨h1, h2, h8, h9, h10, h11⟩ := h
  obtain ⟨N, hN, eN, cN⟩ := IN_get h8
  rw [cN] at h11
  rw [eN] at h9
  obtain ⟨m6, hm6⟩ : ∃ m6, m6 = f_X10_copies g m tm 0 6 := ⟨_, rfl⟩
  have s6 : SR fn rn sn (sB (157 * 6) m6) := by rw [hm6]; exact SR_cp 6 (by decide) h1
  have F6 : fr (157 * 6) m m6 := fun j hj => by rw [hm6]; exact cp_out _ _ _ _ _ (by decide) _ hj
  obtain ⟨a, b, ea, eb, e1, F, b0, b1, r⟩ := pl_loop (o := o) (g := g) (m0 := m) (m := m) (t := t) (tm := tm) (f := fn) (rb := rn) (sb := sn) (g0 := g 0) hN h11 62 0 0 0 (upd (upd o 1 0) 2 0) (upd (upd (upd g 2 0) 4 0) 6 0) m6 fn rn sn (by decide) (by decide) (by omega) rfl rfl rfl h9 rfl rfl s6 F6
  refine ⟨a, b, ?_, ?_, e1, fun k hk => ?_, fun j hj => F j (Or.inl (by omega)), r⟩
  · rw [fe_X3_areDoneOn, eN]
    exact ea
  · rw [fe_X10_plays]
    exact (zl_c hm6.symm).trans eb
  · have hk' : k = 0 ∨ k = 1 := by omega
    rcases hk' with rfl | rfl
    · exact b0
    · exact b1.trans h9.symm
theorem le_fault : LE_fault LWd := by
  intro fn rn sn ft rt st hm f1 r1 s1 f2 r2 s2 f3 r3 s3 f4 r4 s4 o n t g m tm x1 h u hu v hv
  rw [fe_X9_fault, zl_c (rfl : f_X9_isWithin x1 0 2 = _)] at hu
  rw [fe_X10_fault, in_eq, zl_c (rfl : f_X9_isWithin x1 0 2 = _)] at hv
  by_cases c1 : f_X9_isWithin x1 0 2 = 0
  · rw [if_pos c1] at hu hv
    subst hu hv
    exact ⟨rfl, h⟩
  · rw [if_neg c1] at hu hv
    obtain ⟨a, b, ea, eb, e1, eg, em, r⟩ := plays_rel (o := o) h
    have fin := LWd_frame h eg em
    rw [zl_c ea] at hu
    rw [zl_c eb] at hv
    rcases r with ⟨q0, q1, q2, q3⟩ | ⟨q0, -, -⟩
    · rw [if_pos q0] at hu
      rw [if_pos (e1.symm.trans q0)] at hv
      by_cases d1 : x1 = 0
      · rw [if_pos d1] at hu hv
        subst hu hv
        exact ⟨q1, fin⟩
      · rw [if_neg d1] at hu hv
        by_cases d2 : x1 = 1
        · rw [if_pos d2] at hu hv
          subst hu hv
          exact ⟨q2, fin⟩
        · rw [if_neg d2] at hu hv
          subst hu hv
          exact ⟨q3, fin⟩
    · rw [if_neg (show ¬ a.1 = 0 by rw [q0]; decide)] at hu
      rw [if_neg (show ¬ b.1 = 0 by rw [← e1, q0]; decide)] at hv
      subst hu hv
      exact ⟨rfl, fin⟩
theorem le_play : LE_play LWd := by
  intro fn rn sn ft rt st hm f1 r1 s1 f2 r2 s2 f3 r3 s3 f4 r4 s4 o n t g m tm h u hu v hv
  obtain ⟨a, b, ea, eb, e1, eg, em, r⟩ := plays_rel (o := o) h
  have fin := LWd_frame h eg em
  rw [fe_X9_play, zl_c ea] at hu
  rw [fe_X10_play, zl_c eb] at hv
  rcases r with ⟨q0, q1, q2, q3⟩ | ⟨q0, ⟨e, he, q1, q2⟩, q3⟩
  · rw [zl_c (if_pos q0), zl_c (settle_neg (show (-1000002 : Int32) < 0 by decide))] at hu
    rw [if_pos (e1.symm.trans q0)] at hv
    subst hu hv
    exact ⟨rfl, fin⟩
  · have hp : 0 ≤ a.2.1 2 := by rw [q1]; exact nI_pos' (by omega)
    rw [zl_c (if_neg (show ¬ a.1 = 0 by rw [q0]; decide)), zl_c (settle_pos hp)] at hu
    rw [if_neg (show ¬ b.1 = 0 by rw [← e1, q0]; decide), zl_c (rfl : f_X10_records b.2.1 b.2.2 tm = _), zl_c (rfl : f_X10_copies _ _ tm 6 0 = _)] at hv
    have q := settle_slot (g1 := b.2.1) (m1 := b.2.2) (ft := a.2.2.1) (rt := a.2.2.2.1) (st := a.2.2.2.2) (slot := 6) h (by decide) eg em q3
    obtain ⟨-, -, -, -, a5⟩ := recs (t := tm) fin.1 fin.2.1
    subst hu hv
    dsimp only
    exact ⟨by rw [a5 6 (by decide), q1, q2], q⟩
theorem lawr : LAWR := ⟨LWd, LWd_LH ones_ok, LWd0, le_ring, le_noise, le_sample, le_draw, le_restart, le_set, le_ringOf, le_source, le_raw, le_stored, le_would, le_takes, le_bestPeriod, le_share, le_count, le_undo, le_type, le_clearText, le_fault, le_play⟩
