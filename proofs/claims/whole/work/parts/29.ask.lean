theorem le_ringOf : LE_ringOf LWd := by
  intro fn rn sn ft rt st hm f1 r1 s1 f2 r2 s2 f3 r3 s3 f4 r4 s4 o n t g m tm x1 x2 h u hu v hv
  refine ⟨?_, h⟩
  have e := h.1.1
  unfold f_X9_ringOf at hu
  unfold f_X10_ringOf at hv
  simp only [zl, in_eq] at hu hv
  by_cases c1 : f_X9_isWithin x1 0 1 = 0
  · rw [if_pos c1] at hu hv; rw [hu, hv]
  · rw [if_neg c1] at hu hv
    obtain ⟨j, -, hj, rfl⟩ := wi (a := 0) (b := 1) (by decide) (by decide) c1
    by_cases c2 : f_X9_isWithin x2 0 3 = 0
    · rw [if_pos c2] at hv
      rw [hv, hu]
      have n0 : ∀ k, k ≤ 3 → ¬ x2 = nI k := fun k hk hx => by
        rw [hx] at c2
        exact (wi_iff (a := 0) (b := 3) (j := k) (by decide) (by decide) (by omega)).mp c2 ⟨by omega, hk⟩
      unfold f_X4_tell
      rw [if_neg (show ¬ x2 = 0 from n0 0 (by decide)), if_neg (show ¬ x2 = 1 from n0 1 (by decide)), if_neg (show ¬ x2 = 2 from n0 2 (by decide)), if_neg (show ¬ x2 = 3 from n0 3 (by decide)), if_neg (show ¬ x2 = 0 from n0 0 (by decide)), if_neg (show ¬ x2 = 1 from n0 1 (by decide)), if_neg (show ¬ x2 = 2 from n0 2 (by decide)), if_neg (show ¬ x2 = 3 from n0 3 (by decide))]
      split <;> rfl
    · rw [if_neg c2] at hv
      obtain ⟨i, -, hi, rfl⟩ := wi (a := 0) (b := 3) (by decide) (by decide) c2
      rw [hu, hv]
      unfold f_X4_tell f_X10_isHigh f_X4_isHigh
      simp only [zl]
      have hj' : j = 0 ∨ j = 1 := by omega
      have hi' : i = 0 ∨ i = 1 ∨ i = 2 ∨ i = 3 := by omega
      have q1 := e 1 (by decide) (by decide) (by decide) (by decide)
      have q2 := e 2 (by decide) (by decide) (by decide) (by decide)
      have q3 := e 3 (by decide) (by decide) (by decide) (by decide)
      have q4 := e 4 (by decide) (by decide) (by decide) (by decide)
      have q5 := e 5 (by decide) (by decide) (by decide) (by decide)
      have q6 := e 6 (by decide) (by decide) (by decide) (by decide)
      rcases hj' with rfl | rfl <;> rcases hi' with rfl | rfl | rfl | rfl
      · exact q1.symm
      · exact q3.symm
      · exact q5.symm
      · show (if (if fn 1 / 2 ≤ fn 5 then (0 : Int32) else 1) = 0 then (0 : Int32) else 1) = (if (if m 1 / 2 ≤ m 5 then (0 : Int32) else 1) = 0 then (0 : Int32) else 1)
        rw [q1, q5]
      · exact q2.symm
      · exact q4.symm
      · exact q6.symm
      · show (if (if fn 2 / 2 ≤ fn 6 then (0 : Int32) else 1) = 0 then (0 : Int32) else 1) = (if (if m 2 / 2 ≤ m 6 then (0 : Int32) else 1) = 0 then (0 : Int32) else 1)
        rw [q2, q6]
theorem le_count : LE_count LWd := by
  intro fn rn sn ft rt st hm f1 r1 s1 f2 r2 s2 f3 r3 s3 f4 r4 s4 o n t g m tm x1 h u hu v hv
  refine ⟨?_, h⟩
  have e := h.1.1
  have g0 : g 0 = hm := h.2.1.2.1
  have g1 : g 1 = n := h.2.2.2.1
  unfold f_X9_count f_X7_tell f_X5_tell at hu
  unfold f_X10_count at hv
  simp only [zl, in_eq] at hu hv
  rw [hu, hv]
  have wz : ∀ {a b j : Nat}, a ≤ j → j ≤ b → b < 2 ^ 31 → ¬ f_X9_isWithin (nI j) (nI a) (nI b) = 0 := fun h1 h2 h3 hc => (wi_iff (by omega) h3 (by omega)).mp hc ⟨h1, h2⟩
  have wn : ∀ {a b j : Nat}, j < a → b < 2 ^ 31 → a < 2 ^ 31 → f_X9_isWithin (nI j) (nI a) (nI b) = 0 := fun h1 h2 h3 => (wi_iff h3 h2 (by omega)).mpr (by omega)
  by_cases c1 : f_X9_isWithin x1 0 7 = 0
  · rw [if_pos c1]
    have n0 : ∀ k, k ≤ 7 → ¬ x1 = nI k := fun k hk hx => by
      rw [hx] at c1
      exact (wi_iff (a := 0) (b := 7) (j := k) (by decide) (by decide) (by omega)).mp c1 ⟨by omega, hk⟩
    by_cases c2 : f_X9_isWithin x1 20 23 = 0
    · rw [if_pos c2, if_pos c2]
      rw [g0, g1]
      rw [if_neg (show ¬ x1 = 0 from n0 0 (by decide)), if_neg (show ¬ x1 = 1 from n0 1 (by decide)), if_neg (show ¬ x1 = 2 from n0 2 (by decide)), if_neg (show ¬ x1 = 3 from n0 3 (by decide)), if_neg (show ¬ x1 = 4 from n0 4 (by decide)), if_neg (show ¬ x1 = 5 from n0 5 (by decide)), if_neg (show ¬ x1 = 6 from n0 6 (by decide)), if_neg (show ¬ x1 = 7 from n0 7 (by decide))]
    · rw [if_neg c2, if_neg c2]
      obtain ⟨i, hi0, hi, rfl⟩ := wi (a := 20) (b := 23) (by decide) (by decide) c2
      have hi' : i = 20 ∨ i = 21 ∨ i = 22 ∨ i = 23 := by omega
      rcases hi' with rfl | rfl | rfl | rfl
      · exact (e 7 (by decide) (by decide) (by decide) (by decide)).symm
      · exact (e 8 (by decide) (by decide) (by decide) (by decide)).symm
      · exact (e 9 (by decide) (by decide) (by decide) (by decide)).symm
      · exact (e 10 (by decide) (by decide) (by decide) (by decide)).symm
  · rw [if_neg c1]
    obtain ⟨i, -, hi, rfl⟩ := wi (a := 0) (b := 7) (by decide) (by decide) c1
    rw [if_pos (show f_X9_isWithin (nI i) 20 23 = 0 from wn (a := 20) (b := 23) (by omega) (by decide) (by decide))]
    have hi' : i = 0 ∨ i = 1 ∨ i = 2 ∨ i = 3 ∨ i = 4 ∨ i = 5 ∨ i = 6 ∨ i = 7 := by omega
    rcases hi' with rfl | rfl | rfl | rfl | rfl | rfl | rfl | rfl
    · exact (e 20 (by decide) (by decide) (by decide) (by decide)).symm
    · exact (e 21 (by decide) (by decide) (by decide) (by decide)).symm
    · exact (e 22 (by decide) (by decide) (by decide) (by decide)).symm
    · exact (e 23 (by decide) (by decide) (by decide) (by decide)).symm
    · exact (e 24 (by decide) (by decide) (by decide) (by decide)).symm
    · exact (e 25 (by decide) (by decide) (by decide) (by decide)).symm
    · exact (e 26 (by decide) (by decide) (by decide) (by decide)).symm
    · exact (e 27 (by decide) (by decide) (by decide) (by decide)).symm
