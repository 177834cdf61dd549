theorem locks_eq {f : Nat → Int32} {rb sb : Int64} {g m tm : Nat → Int32} {b : Nat} (h : SR f rb sb (sB b m)) : f_X10_locks g m tm b = f_X6_locksOn f rb sb := by
  have e := h.1
  have e1 : m (b + 1) = f 1 := e 1 (by decide) (by decide) (by decide) (by decide)
  have e2 : m (b + 2) = f 2 := e 2 (by decide) (by decide) (by decide) (by decide)
  have e8 : m (b + 8) = f 8 := e 8 (by decide) (by decide) (by decide) (by decide)
  unfold f_X10_locks f_X6_locksOn
  simp only [zl, e1, e2, e8, Int32.zero_sub]
theorem le_source : LE_source LWd := by
  intro fn rn sn ft rt st hm f1 r1 s1 f2 r2 s2 f3 r3 s3 f4 r4 s4 o n t g m tm x1 h u hu v hv
  have e := h.1.1
  refine ⟨?_, h⟩
  unfold f_X9_source f_X6_tell at hu
  unfold f_X10_source at hv
  simp only [zl] at hu hv
  simp only [e 11 (by decide) (by decide) (by decide) (by decide), e 14 (by decide) (by decide) (by decide) (by decide), e 16 (by decide) (by decide) (by decide) (by decide), e 17 (by decide) (by decide) (by decide) (by decide), e 18 (by decide) (by decide) (by decide) (by decide), e 19 (by decide) (by decide) (by decide) (by decide), e 0 (by decide) (by decide) (by decide) (by decide), e 28 (by decide) (by decide) (by decide) (by decide)] at hv
  rw [locks_eq (b := 0) (f := fn) (rb := rn) (sb := sn) (by rw [sB_0]; exact h.1)] at hv
  rw [hu, hv]
  have hw : (if 0 ≤ fn 19 then fn 19 else -1000004) = if fn 19 = -1 then -1000004 else fn 19 := by
    rcases h.1.2.2.2.2.2.2.2.1 with q | q | q <;> rw [q] <;> decide
  simp only [hw]
  have h2 : (if fn 11 = 2 then m 12 else -1000004) = if fn 11 = 2 then fn 12 else -1000004 := by
    by_cases c : fn 11 = 2
    · rw [if_pos c, if_pos c]; exact h.1.2.1 c
    · rw [if_neg c, if_neg c]
  rw [h2]
  by_cases c : fn 11 = 0
  · simp only [(h.1.2.2.1 c).1]
  · simp only [if_neg c]
