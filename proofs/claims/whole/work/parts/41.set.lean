theorem nall {v x1 : Int32} (h0 : ¬ x1 = 0) (h1 : ¬ x1 = 1) (h2 : ¬ x1 = 2) (h3 : ¬ x1 = 3) : f_X5_isAllowed x1 v = 0 := by
  unfold f_X5_isAllowed
  rw [if_neg h0, if_neg h1, if_neg h2, if_neg h3]
theorem ch_0 (s0 s1 s2 s3 v : Int32) : f_X5_change s0 s1 s2 s3 0 v = if f_X9_isWithin v 1 500 = 0 then (-1000001, s0, s1, s2, s3) else (s0, v, s1, s2, s3) := by
  have e1 : f_X5_isAllowed 0 v = f_X9_isWithin v 1 500 := by
    unfold f_X5_isAllowed
    rw [if_pos (rfl : (0 : Int32) = 0), zl_id]
  have e2 : f_X5_tell s0 s1 s2 s3 0 = s0 := by
    unfold f_X5_tell
    rw [if_pos (rfl : (0 : Int32) = 0)]
  rw [fe_X5_change, zl_c e1]
  by_cases c : f_X9_isWithin v 1 500 = 0
  · rw [if_pos c, if_pos c]
  · rw [if_neg c, if_neg c, zl_c e2]
    exact (zl_c (y := (v, s1, s2, s3)) (by rw [if_pos (rfl : (0 : Int32) = 0)])).trans rfl
theorem ch_1 (s0 s1 s2 s3 v : Int32) : f_X5_change s0 s1 s2 s3 1 v = if f_X9_isWithin v 0 50 = 0 then (-1000001, s0, s1, s2, s3) else (s1, s0, v, s2, s3) := by
  have e1 : f_X5_isAllowed 1 v = f_X9_isWithin v 0 50 := by
    unfold f_X5_isAllowed
    rw [if_neg (show ¬ (1 : Int32) = 0 by decide), if_pos (rfl : (1 : Int32) = 1), zl_id]
  have e2 : f_X5_tell s0 s1 s2 s3 1 = s1 := by
    unfold f_X5_tell
    rw [if_neg (show ¬ (1 : Int32) = 0 by decide), if_pos (rfl : (1 : Int32) = 1)]
  rw [fe_X5_change, zl_c e1]
  by_cases c : f_X9_isWithin v 0 50 = 0
  · rw [if_pos c, if_pos c]
  · rw [if_neg c, if_neg c, zl_c e2]
    exact (zl_c (y := (s0, v, s2, s3)) (by rw [if_neg (show ¬ (1 : Int32) = 0 by decide), if_pos (rfl : (1 : Int32) = 1)])).trans rfl
theorem ch_2 (s0 s1 s2 s3 v : Int32) : f_X5_change s0 s1 s2 s3 2 v = if f_X9_isWithin v 2 40 = 0 then (-1000001, s0, s1, s2, s3) else (s2, s0, s1, v, s3) := by
  have e1 : f_X5_isAllowed 2 v = f_X9_isWithin v 2 40 := by
    unfold f_X5_isAllowed
    rw [if_neg (show ¬ (2 : Int32) = 0 by decide), if_neg (show ¬ (2 : Int32) = 1 by decide), if_pos (rfl : (2 : Int32) = 2), zl_id]
  have e2 : f_X5_tell s0 s1 s2 s3 2 = s2 := by
    unfold f_X5_tell
    rw [if_neg (show ¬ (2 : Int32) = 0 by decide), if_neg (show ¬ (2 : Int32) = 1 by decide), if_pos (rfl : (2 : Int32) = 2)]
  rw [fe_X5_change, zl_c e1]
  by_cases c : f_X9_isWithin v 2 40 = 0
  · rw [if_pos c, if_pos c]
  · rw [if_neg c, if_neg c, zl_c e2]
    exact (zl_c (y := (s0, s1, v, s3)) (by rw [if_neg (show ¬ (2 : Int32) = 0 by decide), if_neg (show ¬ (2 : Int32) = 1 by decide), if_pos (rfl : (2 : Int32) = 2)])).trans rfl
theorem ch_3 (s0 s1 s2 s3 v : Int32) : f_X5_change s0 s1 s2 s3 3 v = if f_X9_isWithin v 0 16 = 0 then (-1000001, s0, s1, s2, s3) else (s3, s0, s1, s2, v) := by
  have e1 : f_X5_isAllowed 3 v = f_X9_isWithin v 0 16 := by
    unfold f_X5_isAllowed
    rw [if_neg (show ¬ (3 : Int32) = 0 by decide), if_neg (show ¬ (3 : Int32) = 1 by decide), if_neg (show ¬ (3 : Int32) = 2 by decide), if_pos (rfl : (3 : Int32) = 3), zl_id]
  have e2 : f_X5_tell s0 s1 s2 s3 3 = s3 := by
    unfold f_X5_tell
    rw [if_neg (show ¬ (3 : Int32) = 0 by decide), if_neg (show ¬ (3 : Int32) = 1 by decide), if_neg (show ¬ (3 : Int32) = 2 by decide), if_pos (rfl : (3 : Int32) = 3)]
  rw [fe_X5_change, zl_c e1]
  by_cases c : f_X9_isWithin v 0 16 = 0
  · rw [if_pos c, if_pos c]
  · rw [if_neg c, if_neg c, zl_c e2]
    exact (zl_c (y := (s0, s1, s2, v)) (by rw [if_neg (show ¬ (3 : Int32) = 0 by decide), if_neg (show ¬ (3 : Int32) = 1 by decide), if_neg (show ¬ (3 : Int32) = 2 by decide)])).trans rfl
theorem ch_no (s0 s1 s2 s3 v : Int32) {x1 : Int32} (h0 : ¬ x1 = 0) (h1 : ¬ x1 = 1) (h2 : ¬ x1 = 2) (h3 : ¬ x1 = 3) : f_X5_change s0 s1 s2 s3 x1 v = (-1000001, s0, s1, s2, s3) := by
  rw [fe_X5_change, zl_c (nall h0 h1 h2 h3), if_pos rfl]
theorem le_set : LE_set LWd := by
  intro fn rn sn ft rt st hm f1 r1 s1 f2 r2 s2 f3 r3 s3 f4 r4 s4 o n t g m tm x1 x2 h u hu v hv
  obtain ⟨a1, a2, a3, a4, a5⟩ := recs (t := tm) h.1 h.2.1
  have nn := h.1.2.2.2.2.2.2.2.2.2.2.2
  have same : ∀ k, k < 29 → upd (upd (upd (upd fn 7 (fn 7)) 8 (fn 8)) 9 (fn 9)) 10 (fn 10) k = fn k := fun k hk => by
    rcases k29 hk with rfl | rfl | rfl | rfl | rfl | rfl | rfl | rfl | rfl | rfl | rfl | rfl | rfl | rfl | rfl | rfl | rfl | rfl | rfl | rfl | rfl | rfl | rfl | rfl | rfl | rfl | rfl | rfl | rfl <;> rfl
  rw [fe_X10_set, in_eq, in_eq, in_eq, in_eq] at hv
  rw [fe_X9_set] at hu
  by_cases d0 : x1 = 0
  · rw [if_pos d0, zl_c (rfl : f_X9_isWithin x2 1 500 = _)] at hv
    rw [d0, zl_c (ch_0 _ _ _ _ _)] at hu
    by_cases c : f_X9_isWithin x2 1 500 = 0
    · rw [if_pos c] at hu hv
      rw [zl_c (settle_neg (show (-1000001 : Int32) < 0 by decide))] at hu
      subst hu hv
      exact ⟨rfl, h⟩
    · rw [if_neg c] at hu hv
      rw [zl_c (settle_pos (show 0 ≤ fn 7 from nn.1))] at hu
      rw [zl_c rfl, zl_c rfl] at hv
      subst hu hv
      refine ⟨(a2.1 7 (by decide) (by decide) (by decide) (by decide)).symm, settle_0 h ?_ (fun j hj => upd_ne (by omega))⟩
      refine SR_fcongr (f := upd fn 7 x2) (fun k hk => ?_) (SR_u a2 (by decide) (by omega) (by omega) (by omega) (fun _ _ => Int32.le_trans (by decide) (within_neg c).1))
      rcases k29 hk with rfl | rfl | rfl | rfl | rfl | rfl | rfl | rfl | rfl | rfl | rfl | rfl | rfl | rfl | rfl | rfl | rfl | rfl | rfl | rfl | rfl | rfl | rfl | rfl | rfl | rfl | rfl | rfl | rfl <;> rfl
  rw [if_neg d0] at hv
  by_cases d1 : x1 = 1
  · rw [if_pos d1, zl_c (rfl : f_X9_isWithin x2 0 50 = _)] at hv
    rw [d1, zl_c (ch_1 _ _ _ _ _)] at hu
    by_cases c : f_X9_isWithin x2 0 50 = 0
    · rw [if_pos c] at hu hv
      rw [zl_c (settle_neg (show (-1000001 : Int32) < 0 by decide))] at hu
      subst hu hv
      exact ⟨rfl, h⟩
    · rw [if_neg c] at hu hv
      rw [zl_c (settle_pos (show 0 ≤ fn 8 from nn.2.1))] at hu
      rw [zl_c rfl, zl_c rfl] at hv
      subst hu hv
      refine ⟨(a2.1 8 (by decide) (by decide) (by decide) (by decide)).symm, settle_0 h ?_ (fun j hj => upd_ne (by omega))⟩
      refine SR_fcongr (f := upd fn 8 x2) (fun k hk => ?_) (SR_u a2 (by decide) (by omega) (by omega) (by omega) (fun _ _ => Int32.le_trans (by decide) (within_neg c).1))
      rcases k29 hk with rfl | rfl | rfl | rfl | rfl | rfl | rfl | rfl | rfl | rfl | rfl | rfl | rfl | rfl | rfl | rfl | rfl | rfl | rfl | rfl | rfl | rfl | rfl | rfl | rfl | rfl | rfl | rfl | rfl <;> rfl
  rw [if_neg d1] at hv
  by_cases d2 : x1 = 2
  · rw [if_pos d2, zl_c (rfl : f_X9_isWithin x2 2 40 = _)] at hv
    rw [d2, zl_c (ch_2 _ _ _ _ _)] at hu
    by_cases c : f_X9_isWithin x2 2 40 = 0
    · rw [if_pos c] at hu hv
      rw [zl_c (settle_neg (show (-1000001 : Int32) < 0 by decide))] at hu
      subst hu hv
      exact ⟨rfl, h⟩
    · rw [if_neg c] at hu hv
      rw [zl_c (settle_pos (show 0 ≤ fn 9 from nn.2.2.1))] at hu
      rw [zl_c rfl, zl_c rfl] at hv
      subst hu hv
      refine ⟨(a2.1 9 (by decide) (by decide) (by decide) (by decide)).symm, settle_0 h ?_ (fun j hj => upd_ne (by omega))⟩
      refine SR_fcongr (f := upd fn 9 x2) (fun k hk => ?_) (SR_u a2 (by decide) (by omega) (by omega) (by omega) (fun _ _ => Int32.le_trans (by decide) (within_neg c).1))
      rcases k29 hk with rfl | rfl | rfl | rfl | rfl | rfl | rfl | rfl | rfl | rfl | rfl | rfl | rfl | rfl | rfl | rfl | rfl | rfl | rfl | rfl | rfl | rfl | rfl | rfl | rfl | rfl | rfl | rfl | rfl <;> rfl
  rw [if_neg d2] at hv
  by_cases d3 : x1 = 3
  · rw [if_pos d3, zl_c (rfl : f_X9_isWithin x2 0 16 = _)] at hv
    rw [d3, zl_c (ch_3 _ _ _ _ _)] at hu
    by_cases c : f_X9_isWithin x2 0 16 = 0
    · rw [if_pos c] at hu hv
      rw [zl_c (settle_neg (show (-1000001 : Int32) < 0 by decide))] at hu
      subst hu hv
      exact ⟨rfl, h⟩
    · rw [if_neg c] at hu hv
      rw [zl_c (settle_pos (show 0 ≤ fn 10 from nn.2.2.2))] at hu
      rw [zl_c rfl, zl_c rfl] at hv
      subst hu hv
      refine ⟨(a2.1 10 (by decide) (by decide) (by decide) (by decide)).symm, settle_0 h ?_ (fun j hj => upd_ne (by omega))⟩
      refine SR_fcongr (f := upd fn 10 x2) (fun k hk => ?_) (SR_u a2 (by decide) (by omega) (by omega) (by omega) (fun _ _ => Int32.le_trans (by decide) (within_neg c).1))
      rcases k29 hk with rfl | rfl | rfl | rfl | rfl | rfl | rfl | rfl | rfl | rfl | rfl | rfl | rfl | rfl | rfl | rfl | rfl | rfl | rfl | rfl | rfl | rfl | rfl | rfl | rfl | rfl | rfl | rfl | rfl <;> rfl
  rw [if_neg d3] at hv
  rw [zl_c (ch_no _ _ _ _ _ d0 d1 d2 d3), zl_c (settle_neg (show (-1000001 : Int32) < 0 by decide))] at hu
  subst hu hv
  exact ⟨rfl, h⟩
