theorem ring_rel {N p : Nat} {o g m t tm : Nat → Int32} (hN : N ≤ 60) (hp : p ≤ N) (ho : o 1 = nI p) (hg : g 2 = nI p) (hg1 : g 1 = nI N) (htm : ∀ j, j < N → tm j = t j) : ∃ a b v34 V, f_X3_areRingNumbersRead o (nI N) t = a ∧ f_X10_number g m tm = b ∧ (if b.1 < 0 then (0 : Int32) else 1) = v34 ∧ (if v34 = 0 then (v34, 0, 0, b.2) else dRing m tm b.2) = V ∧ (∀ j, j ≠ 1 → j ≠ 6 → j ≠ 7 → j ≠ 8 → a.2 j = o j) ∧ (∀ j, j ≠ 2 → V.2.2.2 j = g j) ∧ ((a.1 = 0 ∧ V.1 = 0 ∧ ∃ p', a.2 1 = nI p' ∧ V.2.2.2 2 = nI p') ∨ (a.1 = 1 ∧ V.1 = 1 ∧ ∃ p', p < p' ∧ p' ≤ N ∧ a.2 1 = nI p' ∧ V.2.2.2 2 = nI p' ∧ a.2 7 = b.1 ∧ a.2 8 = V.2.1 ∧ a.2 6 = V.2.2.1)) := by
  rw [fe_X3_areRingNumbersRead]
  obtain ⟨p1, a1, b1, ea1, eb1, h1, h2, h3, h4, fa1, fb1, r⟩ := num_rel (m := m) hN hp ho hg hg1 htm
  rw [zl_c ea1]
  rcases r with ⟨r1, r2⟩ | ⟨r1, r2, v, r3, r4, r5⟩
  · rw [if_pos r1]
    exact ⟨_, b1, 0, (0, 0, 0, b1.2), rfl, eb1, by rw [r2]; decide, if_pos rfl, fun j j1 j6 _ _ => fa1 j j1 j6, fb1, Or.inl ⟨rfl, rfl, p1, h3, h4⟩⟩
  · rw [if_neg (show ¬ a1.1 = 0 by rw [r1]; decide)]
    have n34 : (if b1.1 < 0 then (0 : Int32) else 1) = 1 := if_neg (show ¬ b1.1 < 0 by rw [r5]; exact nI_pos (by omega))
    have g11 : b1.2 1 = nI N := (fb1 1 (by decide)).trans hg1
    obtain ⟨a2, b2, ea2, eb2, fa2, fb2, q⟩ := skip_rel (m := m) (w := 44) (by decide) hN h2 h3 h4 g11 htm
    rw [zl_c ea2]
    have f12 : ∀ j, j ≠ 2 → b2.2 j = g j := fun j hj => (fb2 j hj).trans (fb1 j hj)
    have e12 : ∀ j, j ≠ 1 → j ≠ 6 → a2.2 j = o j := fun j j1 j6 => (fa2 j j1).trans (fa1 j j1 j6)
    rcases q with ⟨q1, q2, q3, q4, q5⟩ | ⟨q1, q2, q3, q4⟩
    · rw [if_neg (show ¬ a2.1 = 0 by rw [q1]; decide)]
      have nb2 : ¬ b2.1 = 0 := by rw [q2]; decide
      obtain ⟨o3, ho3⟩ : ∃ o3, o3 = upd a2.2 7 (a2.2 6) := ⟨_, rfl⟩
      have o31 : o3 1 = nI (p1 + 1) := by rw [ho3, upd_ne (by decide)]; exact q4
      have o37 : o3 7 = b1.1 := by rw [ho3, upd_eq, fa2 6 (by decide), r4, r5]
      obtain ⟨p3, a3, b3, ea3, eb3, k1, k2, k3, k4, fa3, fb3, s⟩ := num_rel (m := m) hN (show p1 + 1 ≤ N by omega) o31 q5 ((f12 1 (by decide)).trans hg1) htm
      rw [← ho3, zl_c ea3]
      have f13 : ∀ j, j ≠ 2 → b3.2 j = g j := fun j hj => (fb3 j hj).trans (f12 j hj)
      have e13 : ∀ j, j ≠ 1 → j ≠ 6 → j ≠ 7 → a3.2 j = o j := fun j j1 j6 j7 => by rw [fa3 j j1 j6, ho3, upd_ne j7]; exact e12 j j1 j6
      rcases s with ⟨s1, s2⟩ | ⟨s1, s2, v2, s3, s4, s5⟩
      · rw [if_pos s1]
        refine ⟨_, b1, 1, (0, b3.1, -1, b3.2), rfl, eb1, n34, (if_neg (by decide)).trans ?_, fun j j1 j6 j7 _ => e13 j j1 j6 j7, f13, Or.inl ⟨rfl, rfl, p3, k3, k4⟩⟩
        unfold dRing
        refine (zl_c eb2).trans ?_
        refine (zl_c (y := (b3.1, b3.2)) ((if_neg nb2).trans ((zl_c eb3).trans rfl))).trans ?_
        refine (zl_c (y := ((0 : Int32), b3.2)) ((if_neg nb2).trans (if_pos (show b3.1 < 0 by rw [s2]; decide)))).trans ?_
        refine (zl_c (y := ((-1 : Int32), b3.2)) (if_pos rfl)).trans ?_
        exact (zl_c (y := (0 : Int32)) (if_pos rfl)).trans rfl
      · rw [if_neg (show ¬ a3.1 = 0 by rw [s1]; decide)]
        have nb3 : ¬ b3.1 < 0 := by rw [s5]; exact nI_pos (by omega)
        obtain ⟨a4, b4, ea4, eb4, fa4, fb4, w⟩ := skip_rel (m := m) (w := 44) (by decide) hN k2 k3 k4 ((f13 1 (by decide)).trans hg1) htm
        rw [zl_c ea4]
        have f14 : ∀ j, j ≠ 2 → b4.2 j = g j := fun j hj => (fb4 j hj).trans (f13 j hj)
        have e14 : ∀ j, j ≠ 1 → j ≠ 6 → j ≠ 7 → a4.2 j = o j := fun j j1 j6 j7 => (fa4 j j1).trans (e13 j j1 j6 j7)
        rcases w with ⟨w1, w2, w3, w4, w5⟩ | ⟨w1, w2, w3, w4⟩
        · rw [if_neg (show ¬ a4.1 = 0 by rw [w1]; decide)]
          have nb4 : ¬ b4.1 = 0 := by rw [w2]; decide
          obtain ⟨o5, ho5⟩ : ∃ o5, o5 = upd a4.2 8 (a4.2 6) := ⟨_, rfl⟩
          have o51 : o5 1 = nI (p3 + 1) := by rw [ho5, upd_ne (by decide)]; exact w4
          have o58 : o5 8 = b3.1 := by rw [ho5, upd_eq, fa4 6 (by decide), s4, s5]
          have o57 : o5 7 = b1.1 := by rw [ho5, upd_ne (by decide), fa4 7 (by decide), fa3 7 (by decide) (by decide), o37]
          obtain ⟨p5, a5, b5, ea5, eb5, l1, l2, l3, l4, fa5, fb5, z⟩ := num_rel (m := m) hN (show p3 + 1 ≤ N by omega) o51 w5 ((f14 1 (by decide)).trans hg1) htm
          rw [← ho5, zl_c ea5]
          have f15 : ∀ j, j ≠ 2 → b5.2 j = g j := fun j hj => (fb5 j hj).trans (f14 j hj)
          have e15 : ∀ j, j ≠ 1 → j ≠ 6 → j ≠ 7 → j ≠ 8 → a5.2 j = o j := fun j j1 j6 j7 j8 => by rw [fa5 j j1 j6, ho5, upd_ne j8]; exact e14 j j1 j6 j7
          have eR : dRing m tm b1.2 = ((if b5.1 < 0 then (0 : Int32) else 1), b3.1, b5.1, b5.2) := by
            unfold dRing
            refine (zl_c eb2).trans ?_
            refine (zl_c (y := (b3.1, b3.2)) ((if_neg nb2).trans ((zl_c eb3).trans rfl))).trans ?_
            refine (zl_c (y := ((1 : Int32), b4.2)) ((if_neg nb2).trans ((if_neg nb3).trans ((zl_c eb4).trans (if_neg nb4))))).trans ?_
            refine (zl_c (y := (b5.1, b5.2)) ((if_neg (show ¬ (1 : Int32) = 0 by decide)).trans ((zl_c eb5).trans rfl))).trans ?_
            exact (zl_c (y := (if b5.1 < 0 then (0 : Int32) else 1)) (if_neg (show ¬ (1 : Int32) = 0 by decide))).trans rfl
          rcases z with ⟨z1, z2⟩ | ⟨z1, z2, v3, z3, z4, z5⟩
          · refine ⟨_, b1, 1, (0, b3.1, b5.1, b5.2), rfl, eb1, n34, (if_neg (by decide)).trans (eR.trans ?_), e15, f15, Or.inl ⟨z1, rfl, p5, l3, l4⟩⟩
            rw [if_pos (show b5.1 < 0 by rw [z2]; decide)]
          · refine ⟨_, b1, 1, (1, b3.1, b5.1, b5.2), rfl, eb1, n34, (if_neg (by decide)).trans (eR.trans ?_), e15, f15, Or.inr ⟨z1, rfl, p5, by omega, l2, l3, l4, ?_, ?_, z4.trans z5.symm⟩⟩
            · rw [if_neg (show ¬ b5.1 < 0 by rw [z5]; exact nI_pos (by omega))]
            · exact (fa5 7 (by decide) (by decide)).trans o57
            · exact (fa5 8 (by decide) (by decide)).trans o58
        · rw [if_pos w1]
          refine ⟨_, b1, 1, (0, b3.1, -1, b4.2), rfl, eb1, n34, (if_neg (by decide)).trans ?_, fun j j1 j6 j7 _ => e14 j j1 j6 j7, f14, Or.inl ⟨rfl, rfl, p3, w3, w4⟩⟩
          unfold dRing
          refine (zl_c eb2).trans ?_
          refine (zl_c (y := (b3.1, b3.2)) ((if_neg nb2).trans ((zl_c eb3).trans rfl))).trans ?_
          refine (zl_c (y := ((0 : Int32), b4.2)) (by rw [if_neg nb2, if_neg (show ¬ (b3.1, b3.2).1 < 0 from nb3), zl_c eb4]; exact if_pos w2)).trans ?_
          refine (zl_c (y := ((-1 : Int32), b4.2)) (if_pos rfl)).trans ?_
          exact (zl_c (y := (0 : Int32)) (if_pos rfl)).trans rfl
    · rw [if_pos q1]
      refine ⟨_, b1, 1, (0, -1, -1, b2.2), rfl, eb1, n34, (if_neg (by decide)).trans ?_, fun j j1 j6 _ _ => e12 j j1 j6, f12, Or.inl ⟨rfl, rfl, p1, q3, q4⟩⟩
      unfold dRing
      refine (zl_c eb2).trans ?_
      refine (zl_c (y := ((-1 : Int32), b2.2)) (if_pos q2)).trans ?_
      refine (zl_c (y := ((0 : Int32), b2.2)) (if_pos q2)).trans ?_
      refine (zl_c (y := ((-1 : Int32), b2.2)) (if_pos rfl)).trans ?_
      exact (zl_c (y := (0 : Int32)) (if_pos rfl)).trans rfl
