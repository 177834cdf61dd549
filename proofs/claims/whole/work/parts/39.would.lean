theorem LWd_frame {fn : Nat → Int32} {rn sn : Int64} {hm : Int32} {f1 : Nat → Int32} {r1 s1 : Int64} {f2 : Nat → Int32} {r2 s2 : Int64} {f3 : Nat → Int32} {r3 s3 : Int64} {f4 : Nat → Int32} {r4 s4 : Int64} {n : Int32} {t g m tm g' m' : Nat → Int32} (h : LWd fn rn sn hm f1 r1 s1 f2 r2 s2 f3 r3 s3 f4 r4 s4 n t g m tm) (hg : ∀ k, k < 2 → g' k = g k) (hm' : ∀ j, j < 785 → m' j = m j) : LWd fn rn sn hm f1 r1 s1 f2 r2 s2 f3 r3 s3 f4 r4 s4 n t g' m' tm := by
  obtain ⟨h1, h2, h8, h9, h10, h11⟩ := h
  exact ⟨SR_congr (fun k hk => hm' k (by omega)) h1, HI_congr (hg 0 (by decide)) (fun j _ hj => hm' j hj) h2, h8, (hg 1 (by decide)).trans h9, h10, h11⟩
theorem SR_cp {f : Nat → Int32} {rb sb : Int64} {g m t : Nat → Int32} (tw : Nat) (htw : 0 ≠ tw) (h : SR f rb sb m) : SR f rb sb (sB (157 * tw) (f_X10_copies g m t 0 tw)) := SR_slot0 h (fun k hk => (cp_in g m t 0 tw htw k hk).trans (by congr 1; omega))
theorem le_would : LE_would LWd := by
  intro fn rn sn ft rt st hm f1 r1 s1 f2 r2 s2 f3 r3 s3 f4 r4 s4 o n t g m tm x1 x2 h u hu v hv
  rw [fe_X9_would, zl_c (rfl : f_X9_isWithin x1 0 300 = _)] at hu
  rw [fe_X10_would, in_eq, in_eq, zl_c (rfl : f_X9_isWithin x1 0 300 = _)] at hv
  by_cases c1 : f_X9_isWithin x1 0 300 = 0
  · rw [if_pos c1] at hu hv
    subst hu hv
    exact ⟨rfl, h⟩
  · rw [if_neg c1] at hu hv
    rw [zl_c (rfl : f_X9_isWithin x2 0 2 = _)] at hu hv
    by_cases c2 : f_X9_isWithin x2 0 2 = 0
    · rw [if_pos c2] at hu hv
      subst hu hv
      exact ⟨rfl, h⟩
    · rw [if_neg c2] at hu hv
      obtain ⟨m5, hm5⟩ : ∃ m5, m5 = f_X10_copies g m tm 0 5 := ⟨_, rfl⟩
      rw [zl_c hm5.symm] at hv
      have s5 : SR fn rn sn (sB (157 * 5) m5) := by rw [hm5]; exact SR_cp 5 (by decide) h.1
      have F5 : ∀ j, j < 785 → m5 j = m j := fun j hj => by rw [hm5]; exact cp_out _ _ _ _ _ (by decide) _ (by omega)
      obtain ⟨j, -, hj, rfl⟩ := wi (a := 0) (b := 300) (by decide) (by decide) c1
      have key : ∃ (F : Nat → Int32) (R S : Int64) (V : Int32 × (Nat → Int32)), (if nI j ≤ 0 then (fn, rn, sn) else zl (f_X6_makeSamples fn rn sn (nI j)) fun u16 => (u16.2.1, u16.2.2.1, u16.2.2.2)) = (F, R, S) ∧ f_X10_makes g m5 tm 5 (nI j) = V ∧ SR F R S (sB (157 * 5) V.2) ∧ fr (157 * 5) m5 V.2 := by
        by_cases c3 : j = 0
        · subst c3
          refine ⟨fn, rn, sn, _, if_pos (by decide), rfl, ?_⟩
          have e : f_X10_makes g m5 tm 5 (nI 0) = (m5 (157 * 5 + 23) - m5 (157 * 5 + 23), m5) := by
            rw [fe_X10_makes, lp20_X10_makes_s, if_pos (by decide)]
          rw [e]
          exact ⟨s5, fr_rf _ _⟩
        · obtain ⟨U, V, eU, eV, -, -, s6, F6⟩ := makes_rel (g := g) (t := tm) (many := nI j) s5 (fun hc => (wi_iff (a := 1) (b := 300) (by decide) (by decide) (by omega)).mp hc ⟨by omega, hj⟩)
          refine ⟨U.2.1, U.2.2.1, U.2.2.2, V, ?_, eV, s6, F6⟩
          rw [if_neg (show ¬ nI j ≤ 0 from nI_nle (by omega) (by omega)), zl_c eU]
      obtain ⟨F, R, S, V, eF, eV, s6, F6⟩ := key
      rw [zl_c eF] at hu
      rw [zl_c eV] at hv
      have fin : LWd fn rn sn hm f1 r1 s1 f2 r2 s2 f3 r3 s3 f4 r4 s4 n t g V.2 tm := LWd_frame h (fun _ _ => rfl) (fun j hj => (F6 j (Or.inl hj)).trans (F5 j hj))
      have e18 : V.2 803 = F 18 := SR_at s6 18 (by decide) (by decide) (by decide) (by decide)
      have e11 : V.2 796 = F 11 := SR_at s6 11 (by decide) (by decide) (by decide) (by decide)
      have e24 : V.2 809 = F 24 := SR_at s6 24 (by decide) (by decide) (by decide) (by decide)
      have e24' : V.2 24 = fn 24 := fin.1.1 24 (by decide) (by decide) (by decide) (by decide)
      rw [e18, e11, e24, e24'] at hv
      dsimp only at hu hv
      by_cases d1 : x2 = 0
      · rw [if_pos d1] at hu hv
        subst hu hv
        exact ⟨rfl, fin⟩
      · rw [if_neg d1] at hu hv
        by_cases d2 : x2 = 1
        · rw [if_pos d2] at hu hv
          subst hu hv
          exact ⟨rfl, fin⟩
        · rw [if_neg d2] at hu hv
          subst hu hv
          exact ⟨rfl, fin⟩
theorem make1 {f : Nat → Int32} {rb sb : Int64} {F : Int32 × (Nat → Int32)} {v : (Nat → Int32) × Int64 × Int64} (h1 : f_X6_nextRawBit f rb sb = F) (h2 : f_X6_takeRawBit F.2 rb sb F.1 = v) : ∃ a, f_X6_makeSamples f rb sb 1 = (a, v.1, v.2.1, v.2.2) := by
  rw [fe_X6_makeSamples, zl_c rfl, if_neg (show ¬ f_X9_isWithin 1 1 300 = 0 by decide), lp24_X6_makeSamples_s, if_neg (show ¬ (1 : Int32) ≤ nI 0 by decide), zl_c h1, zl_c h2, lp24_X6_makeSamples_s, if_pos (show (1 : Int32) ≤ nI (0 + 1) by decide)]
  exact ⟨_, rfl⟩
theorem tk_loop {fn : Nat → Int32} {rn sn : Int64} {ft : Nat → Int32} {rt st : Int64} {g m t : Nat → Int32} {bits : Int32} : ∀ (q k : Nat) (fx : Nat → Int32) (rx sx : Int64) (mx : Nat → Int32), k + q = 2002 → k ≤ 2000 → SR fx rx sx (sB (157 * 5) mx) → fr (157 * 5) m mx → ∃ u v, lp26_X9_takes fn rn sn ft rt st bits (q + 1) k fx rx sx = u ∧ lp25_X10_takes g m t bits q k mx = v ∧ u.1 = v.1 ∧ fr (157 * 5) m v.2 := by
  intro q
  induction q with
  | zero => intro k fx rx sx mx h1 h2; omega
  | succ q ih =>
    intro k fx rx sx mx h1 h2 h3 h4
    rw [lp26_X9_takes_s, lp25_X10_takes_s]
    have e18 : mx 803 = fx 18 := SR_at h3 18 (by decide) (by decide) (by decide) (by decide)
    have n2 : ¬ (2000 : Int32) < nI k := fun hc => by
      have := (nI_ltI (a := 2000) (b := k) (by decide) (by omega)).mp hc
      omega
    rw [if_neg n2, e18]
    by_cases c1 : fx 18 < bits
    · rw [if_pos c1, if_neg (Int32.not_le.mpr c1)]
      obtain ⟨F, v, eF, ev, s1, F1, -⟩ := samples_rel (g := g) (t := t) h3
      obtain ⟨a, ea⟩ := make1 eF ev
      rw [zl_c ea]
      by_cases c2 : k = 2000
      · subst c2
        rw [if_pos (show (2000 : Int32) ≤ nI 2000 by decide)]
        rw [lp26_X9_takes_s, if_pos (show (2000 : Int32) < nI (2000 + 1) by decide), if_pos c1]
        exact ⟨_, _, rfl, rfl, rfl, h4⟩
      · rw [if_neg (show ¬ (2000 : Int32) ≤ nI k from fun hc => c2 (by have := (nI_leI (a := 2000) (b := k) (by decide) (by omega)).mp hc; omega))]
        rw [zl_c rfl]
        exact ih (k + 1) v.1 v.2.1 v.2.2 _ (by omega) (by omega) s1 (fr_tr h4 F1)
    · rw [if_neg c1, if_pos (Int32.not_lt.mp c1), if_neg c1]
      exact ⟨_, _, rfl, rfl, rfl, h4⟩
theorem le_takes : LE_takes LWd := by
  intro fn rn sn ft rt st hm f1 r1 s1 f2 r2 s2 f3 r3 s3 f4 r4 s4 o n t g m tm x1 h u hu v hv
  rw [fe_X9_takes, zl_c (rfl : f_X9_isWithin x1 1 64 = _)] at hu
  rw [fe_X10_takes, in_eq, zl_c (rfl : f_X9_isWithin x1 1 64 = _)] at hv
  by_cases c1 : f_X9_isWithin x1 1 64 = 0
  · rw [if_pos c1] at hu hv
    subst hu hv
    exact ⟨rfl, h⟩
  · rw [if_neg c1] at hu hv
    obtain ⟨m5, hm5⟩ : ∃ m5, m5 = f_X10_copies g m tm 0 5 := ⟨_, rfl⟩
    rw [zl_c hm5.symm] at hv
    have s5 : SR fn rn sn (sB (157 * 5) m5) := by rw [hm5]; exact SR_cp 5 (by decide) h.1
    have F5 : fr (157 * 5) m m5 := fun j hj => by rw [hm5]; exact cp_out _ _ _ _ _ (by decide) _ hj
    obtain ⟨U, V, eU, eV, e, F6⟩ := tk_loop (fn := fn) (rn := rn) (sn := sn) (ft := ft) (rt := rt) (st := st) (g := g) (m := m) (t := tm) (bits := x1) 2002 0 fn rn sn m5 (by decide) (by decide) s5 F5
    rw [eU] at hu
    rw [eV] at hv
    rw [hu, hv]
    exact ⟨e, LWd_frame h (fun _ _ => rfl) (fun j hj => F6 j (Or.inl hj))⟩
theorem bp_loop {fn : Nat → Int32} {rn sn : Int64} {ft : Nat → Int32} {rt st : Int64} {g m t : Nat → Int32} {what : Int32} (h0 : SR fn rn sn m) : ∀ (q : Nat) (best most : Int32) (k : Nat) (fx : Nat → Int32) (rx sx : Int64) (mx : Nat → Int32), fr (157 * 5) m mx → ∃ u v, lp20_X9_bestPeriod fn rn sn ft rt st what q best most k fx rx sx = u ∧ lp20_X10_bestPeriod g m t what q best most k mx = v ∧ u.1 = v.1 ∧ fr (157 * 5) m v.2 := by
  intro q
  induction q with
  | zero =>
    intro best most k fx rx sx mx h
    exact ⟨(0, ft, rt, st), (0, m), rfl, rfl, rfl, fr_rf _ _⟩
  | succ q ih =>
    intro best most k fx rx sx mx h
    rw [lp20_X9_bestPeriod_s, lp20_X10_bestPeriod_s]
    by_cases c : (400 : Int32) < nI k
    · rw [if_pos c, if_pos c]
      by_cases c2 : what = 0
      · rw [if_pos c2, if_pos c2]
        exact ⟨_, _, rfl, rfl, rfl, h⟩
      · rw [if_neg c2, if_neg c2]
        exact ⟨_, _, rfl, rfl, rfl, h⟩
    · rw [if_neg c, if_neg c]
      obtain ⟨m5, hm5⟩ : ∃ m5, m5 = f_X10_copies g mx t 0 5 := ⟨_, rfl⟩
      have F0 : ∀ j, j < 785 → mx j = m j := fun j hj => h j (Or.inl hj)
      have s5 : SR fn rn sn (sB (157 * 5) m5) := by
        rw [hm5]
        exact SR_cp 5 (by decide) (SR_congr (fun k hk => F0 k (by omega)) h0)
      have F5 : fr (157 * 5) mx m5 := fun j hj => by rw [hm5]; exact cp_out _ _ _ _ _ (by decide) _ hj
      have e4 : m5 4 = fn 4 := by rw [F5 4 (Or.inl (by decide)), F0 4 (by decide)]; exact h0.1 4 (by decide) (by decide) (by decide) (by decide)
      obtain ⟨U, V, eU, eV, -, s6, F6, -⟩ := sets_rel (g := g) (t := t) (which := 1) (period := nI k) (jitter := fn 4) s5
      obtain ⟨U2, V2, eU2, eV2, -, -, s7, F7⟩ := makes_rel (g := g) (t := t) (many := 200) s6 (by decide)
      have e18 : V2.2 803 = U2.2.1 18 := SR_at s7 18 (by decide) (by decide) (by decide) (by decide)
      have eb : f_X9_bitsWithPeriod fn rn sn fx rx sx (nI k) = (U2.2.1 18, U2.2.1, U2.2.2.1, U2.2.2.2) := by
        rw [fe_X9_bitsWithPeriod, zl_c eU, zl_c eU2]
      rw [zl_c eb, zl_c hm5.symm, e4, zl_c eV, zl_c eV2, e18]
      dsimp only
      by_cases d : U2.2.1 18 ≤ most
      · rw [zl_c (if_pos d), zl_c (if_pos d), zl_c (if_pos d)]
        exact ih best most (k + 20) _ _ _ _ (fr_tr h (fr_tr F5 (fr_tr F6 F7)))
      · rw [zl_c (if_neg d), zl_c (if_neg d), zl_c (if_neg d)]
        exact ih (nI k) (U2.2.1 18) (k + 20) _ _ _ _ (fr_tr h (fr_tr F5 (fr_tr F6 F7)))
theorem le_bestPeriod : LE_bestPeriod LWd := by
  intro fn rn sn ft rt st hm f1 r1 s1 f2 r2 s2 f3 r3 s3 f4 r4 s4 o n t g m tm x1 h u hu v hv
  rw [fe_X9_bestPeriod, zl_c (rfl : f_X9_isWithin x1 0 1 = _)] at hu
  rw [fe_X10_bestPeriod, in_eq, zl_c (rfl : f_X9_isWithin x1 0 1 = _)] at hv
  by_cases c1 : f_X9_isWithin x1 0 1 = 0
  · rw [if_pos c1] at hu hv
    subst hu hv
    exact ⟨rfl, h⟩
  · rw [if_neg c1] at hu hv
    obtain ⟨U, V, eU, eV, e, F6⟩ := bp_loop (ft := ft) (rt := rt) (st := st) (g := g) (t := tm) (what := x1) h.1 22 0 (-1) 20 ft rt st m (fr_rf _ _)
    rw [eU] at hu
    rw [eV] at hv
    rw [hu, hv]
    exact ⟨e, LWd_frame h (fun _ _ => rfl) (fun j hj => F6 j (Or.inl hj))⟩
