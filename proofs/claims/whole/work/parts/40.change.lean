theorem settle_neg {fn : Nat → Int32} {rn sn : Int64} {ft : Nat → Int32} {rt st : Int64} {hm : Int32} {f1 : Nat → Int32} {r1 s1 : Int64} {f2 : Nat → Int32} {r2 s2 : Int64} {f3 : Nat → Int32} {r3 s3 : Int64} {f4 : Nat → Int32} {r4 s4 : Int64} {ans : Int32} (h : ans < 0) : f_X9_settle fn rn sn ft rt st hm f1 r1 s1 f2 r2 s2 f3 r3 s3 f4 r4 s4 ans = (fn, rn, sn, f1, r1, s1, f2, r2, s2, f3, r3, s3, f4, r4, s4, hm) := by
  rw [fe_X9_settle]
  exact (zl_c (if_pos h)).trans rfl
theorem settle_pos {fn : Nat → Int32} {rn sn : Int64} {ft : Nat → Int32} {rt st : Int64} {hm : Int32} {f1 : Nat → Int32} {r1 s1 : Int64} {f2 : Nat → Int32} {r2 s2 : Int64} {f3 : Nat → Int32} {r3 s3 : Int64} {f4 : Nat → Int32} {r4 s4 : Int64} {ans : Int32} (h : 0 ≤ ans) : f_X9_settle fn rn sn ft rt st hm f1 r1 s1 f2 r2 s2 f3 r3 s3 f4 r4 s4 ans = (ft, rt, st, fn, rn, sn, f1, r1, s1, f2, r2, s2, f3, r3, s3, f_X2_keep hm f1 r1 s1 f2 r2 s2 f3 r3 s3 f4 r4 s4 fn rn sn) := by
  rw [fe_X9_settle]
  exact (zl_c ((if_neg (Int32.not_lt.mpr h)).trans (zl_c rfl))).trans rfl
/-- a change that was tried in the slot 5 or 6 is taken over -/
theorem settle_slot {fn : Nat → Int32} {rn sn : Int64} {hm : Int32} {f1 : Nat → Int32} {r1 s1 : Int64} {f2 : Nat → Int32} {r2 s2 : Int64} {f3 : Nat → Int32} {r3 s3 : Int64} {f4 : Nat → Int32} {r4 s4 : Int64} {n : Int32} {t g m tm : Nat → Int32} (h : LWd fn rn sn hm f1 r1 s1 f2 r2 s2 f3 r3 s3 f4 r4 s4 n t g m tm) {g1 m1 ft : Nat → Int32} {rt st : Int64} {slot : Nat} (hsl : 5 ≤ slot) (hg : ∀ k, k < 2 → g1 k = g k) (hm1 : ∀ j, j < 785 → m1 j = m j) (hs : SR ft rt st (sB (157 * slot) m1)) : LWd ft rt st (f_X2_keep hm f1 r1 s1 f2 r2 s2 f3 r3 s3 f4 r4 s4 fn rn sn) fn rn sn f1 r1 s1 f2 r2 s2 f3 r3 s3 n t (f_X10_records g1 m1 tm).1 (f_X10_copies (f_X10_records g1 m1 tm).1 (f_X10_records g1 m1 tm).2 tm slot 0) tm := by
  obtain ⟨k1, k2, -⟩ := LWd_frame h hg hm1
  obtain ⟨a1, a2, a3, a4, a5⟩ := recs (t := tm) k1 k2
  refine settle_ok h hg hm1 (SR_congr (fun k hk => ?_) hs) (fun j hj hj2 => cp_out _ _ _ _ _ (by omega) _ (by omega)) (fun _ _ => rfl)
  have := cp_in (f_X10_records g1 m1 tm).1 (f_X10_records g1 m1 tm).2 tm slot 0 (by omega) k hk
  rw [Nat.mul_zero, Nat.zero_add] at this
  rw [this, a4 _ (by omega)]
  rfl
/-- a change in the slot 0 itself, behind the record -/
theorem settle_0 {fn : Nat → Int32} {rn sn : Int64} {hm : Int32} {f1 : Nat → Int32} {r1 s1 : Int64} {f2 : Nat → Int32} {r2 s2 : Int64} {f3 : Nat → Int32} {r3 s3 : Int64} {f4 : Nat → Int32} {r4 s4 : Int64} {n : Int32} {t g m tm : Nat → Int32} (h : LWd fn rn sn hm f1 r1 s1 f2 r2 s2 f3 r3 s3 f4 r4 s4 n t g m tm) {m3 ft : Nat → Int32} {rt st : Int64} (hs : SR ft rt st m3) (hf : ∀ j, 157 ≤ j → m3 j = (f_X10_records g m tm).2 j) : LWd ft rt st (f_X2_keep hm f1 r1 s1 f2 r2 s2 f3 r3 s3 f4 r4 s4 fn rn sn) fn rn sn f1 r1 s1 f2 r2 s2 f3 r3 s3 n t (f_X10_records g m tm).1 m3 tm :=
  settle_ok h (fun _ _ => rfl) (fun _ _ => rfl) hs (fun j hj _ => hf j hj) (fun _ _ => rfl)
theorem le_ring : LE_ring LWd := by
  intro fn rn sn ft rt st hm f1 r1 s1 f2 r2 s2 f3 r3 s3 f4 r4 s4 o n t g m tm x1 x2 x3 h u hu v hv
  obtain ⟨m5, hm5⟩ : ∃ m5, m5 = f_X10_copies g m tm 0 5 := ⟨_, rfl⟩
  have s5 : SR fn rn sn (sB (157 * 5) m5) := by rw [hm5]; exact SR_cp 5 (by decide) h.1
  have F5 : fr (157 * 5) m m5 := fun j hj => by rw [hm5]; exact cp_out _ _ _ _ _ (by decide) _ hj
  obtain ⟨U, V, eU, eV, e1, s6, F6, sg⟩ := sets_rel (g := g) (t := tm) (which := x1) (period := x2) (jitter := x3) s5
  have fr5 : ∀ j, j < 785 → V.2 j = m j := fun j hj => fr_tr F5 F6 j (Or.inl hj)
  rw [fe_X9_ring, zl_c eU] at hu
  rw [fe_X10_ring, zl_c hm5.symm, zl_c eV] at hv
  rcases sg with c | c
  · rw [zl_c (settle_neg c)] at hu
    rw [zl_c (if_pos (show V.1 < 0 from e1 ▸ c))] at hv
    subst hu hv
    exact ⟨e1, LWd_frame h (fun _ _ => rfl) fr5⟩
  · rw [zl_c (settle_pos c)] at hu
    rw [if_neg (show ¬ V.1 < 0 from e1 ▸ Int32.not_lt.mpr c), zl_c (rfl : f_X10_records g V.2 tm = _), zl_c (rfl : f_X10_copies _ _ tm 5 0 = _), zl_c rfl] at hv
    subst hu hv
    have q := settle_slot (g1 := g) (m1 := V.2) (ft := U.2) (rt := rn) (st := sn) (slot := 5) h (by decide) (fun _ _ => rfl) fr5 s6
    dsimp only
    exact ⟨e1, q⟩
theorem le_draw : LE_draw LWd := by
  intro fn rn sn ft rt st hm f1 r1 s1 f2 r2 s2 f3 r3 s3 f4 r4 s4 o n t g m tm x1 h u hu v hv
  obtain ⟨m5, hm5⟩ : ∃ m5, m5 = f_X10_copies g m tm 0 5 := ⟨_, rfl⟩
  have s5 : SR fn rn sn (sB (157 * 5) m5) := by rw [hm5]; exact SR_cp 5 (by decide) h.1
  have F5 : fr (157 * 5) m m5 := fun j hj => by rw [hm5]; exact cp_out _ _ _ _ _ (by decide) _ hj
  obtain ⟨U, V, eU, eV, e1, s6, F6, sg⟩ := draws_rel (g := g) (t := tm) (many := x1) s5
  have fr5 : ∀ j, j < 785 → V.2 j = m j := fun j hj => fr_tr F5 F6 j (Or.inl hj)
  rw [fe_X9_draw, zl_c eU] at hu
  rw [fe_X10_draw, zl_c hm5.symm, zl_c eV] at hv
  rcases sg with c | c
  · rw [zl_c (settle_neg c)] at hu
    rw [zl_c (if_pos (show V.1 < 0 from e1 ▸ c))] at hv
    subst hu hv
    exact ⟨e1, LWd_frame h (fun _ _ => rfl) fr5⟩
  · rw [zl_c (settle_pos c)] at hu
    rw [if_neg (show ¬ V.1 < 0 from e1 ▸ Int32.not_lt.mpr c), zl_c (rfl : f_X10_records g V.2 tm = _), zl_c (rfl : f_X10_copies _ _ tm 5 0 = _), zl_c rfl] at hv
    subst hu hv
    have q := settle_slot (g1 := g) (m1 := V.2) (ft := U.2.1) (rt := rn) (st := U.2.2) (slot := 5) h (by decide) (fun _ _ => rfl) fr5 s6
    dsimp only
    exact ⟨e1, q⟩
theorem le_noise : LE_noise LWd := by
  intro fn rn sn ft rt st hm f1 r1 s1 f2 r2 s2 f3 r3 s3 f4 r4 s4 o n t g m tm x1 h u hu v hv
  obtain ⟨a1, a2, a3, a4, a5⟩ := recs (t := tm) h.1 h.2.1
  have e0 : (f_X10_records g m tm).2 0 = fn 0 := (a3 0 (by decide)).trans (h.1.1 0 (by decide) (by decide) (by decide) (by decide))
  rw [fe_X10_noise, in_eq, zl_c (rfl : f_X9_isWithin x1 1 65536 = _)] at hv
  by_cases c1 : f_X9_isWithin x1 1 65536 = 0
  · have eU : f_X6_changeNoise fn rn sn x1 = (-1000001, fn) := by rw [fe_X6_changeNoise, zl_c rfl, if_pos c1]
    rw [fe_X9_noise, zl_c eU, zl_c (settle_neg (show (-1000001 : Int32) < 0 by decide))] at hu
    rw [if_pos c1] at hv
    subst hu hv
    exact ⟨rfl, h⟩
  · have eU : f_X6_changeNoise fn rn sn x1 = (fn 0, upd fn 0 x1) := by rw [fe_X6_changeNoise, zl_c rfl, if_neg c1]
    have hp : 0 ≤ fn 0 := by
      obtain ⟨j, hj, ej, -⟩ := IN_get h.1.2.2.2.2.2.2.2.2.2.2.1
      rw [ej]
      exact nI_pos' (by omega)
    rw [fe_X9_noise, zl_c eU, zl_c (settle_pos hp)] at hu
    rw [if_neg c1, zl_c rfl, zl_c rfl] at hv
    subst hu hv
    refine ⟨e0.symm, settle_0 h ?_ (fun j hj => upd_ne (by omega))⟩
    refine SR_u a2 (by decide) (fun _ => ?_) (by omega) (by omega) (by omega)
    obtain ⟨j, -, hj, rfl⟩ := wi (a := 1) (b := 65536) (by decide) (by decide) c1
    exact IN_nI hj (by decide)
theorem sB_z (m : Nat → Int32) : sB (157 * 0) m = m := sB_0 m
theorem le_sample : LE_sample LWd := by
  intro fn rn sn ft rt st hm f1 r1 s1 f2 r2 s2 f3 r3 s3 f4 r4 s4 o n t g m tm x1 h u hu v hv
  obtain ⟨a1, a2, a3, a4, a5⟩ := recs (t := tm) h.1 h.2.1
  rw [fe_X10_sample, in_eq, zl_c (rfl : f_X9_isWithin x1 1 300 = _)] at hv
  by_cases c1 : f_X9_isWithin x1 1 300 = 0
  · rw [fe_X9_sample, zl_c (makes_no c1), zl_c (settle_neg (show (-1000001 : Int32) < 0 by decide))] at hu
    rw [if_pos c1] at hv
    subst hu hv
    exact ⟨rfl, h⟩
  · obtain ⟨U, V, eU, eV, e1, hp, s6, F6⟩ := makes_rel (g := (f_X10_records g m tm).1) (m := (f_X10_records g m tm).2) (t := tm) (slot := 0) (many := x1) (f := fn) (rb := rn) (sb := sn) (by rw [sB_z]; exact a2) c1
    rw [fe_X9_sample, zl_c eU, zl_c (settle_pos hp)] at hu
    rw [if_neg c1, zl_c rfl, zl_c eV] at hv
    subst hu hv
    rw [sB_z] at s6
    exact ⟨e1, settle_0 h s6 (fun j hj => F6 j (Or.inr (by omega)))⟩
theorem le_restart : LE_restart LWd := by
  intro fn rn sn ft rt st hm f1 r1 s1 f2 r2 s2 f3 r3 s3 f4 r4 s4 o n t g m tm h u hu v hv
  obtain ⟨a1, a2, a3, a4, a5⟩ := recs (t := tm) h.1 h.2.1
  have e18 : (f_X10_records g m tm).2 18 = fn 18 := a2.1 18 (by decide) (by decide) (by decide) (by decide)
  obtain ⟨s6, F6⟩ := starts_rel (g := (f_X10_records g m tm).1) (m := (f_X10_records g m tm).2) (t := tm) (slot := 0) (f := fn) (rb := rn) (sb := sn) (by rw [sB_z]; exact a2)
  have hp : 0 ≤ fn 18 := by
    obtain ⟨j, hj, ej, -⟩ := IN_get h.1.2.2.2.2.2.1.1
    rw [ej]
    exact nI_pos' (by omega)
  rw [fe_X9_restart, zl_c rfl, zl_c (settle_pos hp)] at hu
  rw [fe_X10_restart, zl_c rfl, zl_c rfl] at hv
  subst hu hv
  rw [sB_z] at s6
  exact ⟨e18.symm, settle_0 h s6 (fun j hj => F6 j (Or.inr (by omega)))⟩
