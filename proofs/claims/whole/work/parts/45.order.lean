theorem told_rel {o h m t tt fx : Nat → Int32} {rx sx : Int64} {N : Nat} {c one two three : Int32} (hs : SR fx rx sx (sB (157 * 6) m)) (h5 : o 5 = c) (hc : (c = 100 ∧ o 6 = one) ∨ c = 110 ∨ (c = 114 ∧ o 7 = one ∧ o 8 = two ∧ o 6 = three) ∨ (c = 115 ∧ o 6 = one) ∨ (c = 120 ∧ o 6 = one ∧ ∃ v, v ≤ 999 ∧ one = nI v)) : ∃ C, f_X3_doOn o (nI N) tt fx rx sx = C ∧ fr (157 * 6) m (dTold m t c one two three h).2 ∧ ((C.1 < 0 ∧ (dTold m t c one two three h).1 = C.1) ∨ (0 ≤ C.1 ∧ 0 ≤ (dTold m t c one two three h).1 ∧ SR C.2.1 C.2.2.1 C.2.2.2 (sB (157 * 6) (dTold m t c one two three h).2))) := by
  have sg : ∀ {x y : Int32} {P : Prop}, x = y → (x < 0 ∨ 0 ≤ x) → P → (x < 0 ∧ y = x) ∨ (0 ≤ x ∧ 0 ≤ y ∧ P) := fun {x y P} e d hP => by
    rcases d with d | d
    · exact Or.inl ⟨d, e.symm⟩
    · exact Or.inr ⟨d, e ▸ d, hP⟩
  rw [fe_X3_doOn, h5]
  rcases hc with ⟨rfl, h6⟩ | rfl | ⟨rfl, h7, h8, h6⟩ | ⟨rfl, h6⟩ | ⟨rfl, h6, v, hv, ev⟩
  · obtain ⟨U, V, eU, eV, e1, s6, F6, d⟩ := draws_rel (g := h) (t := t) (many := one) hs
    have eT : dTold m t 100 one two three h = (V.1, V.2) := by
      unfold dTold
      rw [if_neg (by decide), if_neg (by decide), if_pos rfl]
      exact (zl_c eV).trans rfl
    rw [if_pos rfl, h6, eT, zl_c eU]
    exact ⟨_, rfl, F6, sg e1 d s6⟩
  · obtain ⟨s6, F6⟩ := starts_rel (g := h) (t := t) hs
    have e18 : m (157 * 6 + 18) = fx 18 := SR_at hs 18 (by decide) (by decide) (by decide) (by decide)
    have eT : dTold m t 110 one two three h = (fx 18, f_X10_starts h m t 6) := by
      unfold dTold
      rw [if_neg (by decide), if_neg (by decide), if_neg (by decide), if_pos rfl]
      exact (zl_c rfl).trans (by rw [e18])
    have hp : 0 ≤ fx 18 := by
      obtain ⟨j, hj, ej, -⟩ := IN_get hs.2.2.2.2.2.1.1
      rw [ej]
      exact nI_pos' (by omega)
    rw [if_neg (by decide), if_pos rfl, eT, zl_c rfl]
    exact ⟨_, rfl, F6, Or.inr ⟨hp, hp, s6⟩⟩
  · obtain ⟨U, V, eU, eV, e1, s6, F6, d⟩ := sets_rel (g := h) (t := t) (which := one) (period := two) (jitter := three) hs
    have eT : dTold m t 114 one two three h = (V.1, V.2) := by
      unfold dTold
      rw [if_pos rfl]
      exact (zl_c eV).trans rfl
    rw [if_neg (by decide), if_neg (by decide), if_pos rfl, h7, h8, h6, eT, zl_c eU]
    exact ⟨_, rfl, F6, sg e1 d s6⟩
  · rw [if_neg (by decide), if_neg (by decide), if_neg (by decide), if_pos rfl, h6]
    by_cases c1 : f_X9_isWithin one 1 300 = 0
    · have eT : dTold m t 115 one two three h = (-1000001, m) := by
        unfold dTold
        rw [if_neg (by decide), if_pos rfl, in_eq]
        refine (zl_c rfl).trans ?_
        exact (zl_c (y := ((-1000001 : Int32), m)) (if_pos c1)).trans rfl
      rw [eT, zl_c (makes_no c1)]
      exact ⟨_, rfl, fr_rf _ _, Or.inl ⟨show (-1000001 : Int32) < 0 by decide, rfl⟩⟩
    · obtain ⟨U, V, eU, eV, e1, d, s6, F6⟩ := makes_rel (g := h) (t := t) hs c1
      have eT : dTold m t 115 one two three h = (V.1, V.2) := by
        unfold dTold
        rw [if_neg (by decide), if_pos rfl, in_eq]
        refine (zl_c rfl).trans ?_
        refine (zl_c (y := (V.1, V.2)) ?_).trans rfl
        rw [if_neg c1]
        exact (zl_c eV).trans rfl
      rw [eT, zl_c eU]
      exact ⟨_, rfl, F6, sg e1 (Or.inr d) s6⟩
  · rw [if_neg (by decide), if_neg (by decide), if_neg (by decide), if_neg (by decide), h6]
    have e0 : m 942 = fx 0 := SR_at hs 0 (by decide) (by decide) (by decide) (by decide)
    by_cases c1 : one ≤ 0
    · have v0 : v = 0 := by
        rw [ev] at c1
        have := (nI_leI (a := v) (b := 0) (by omega) (by decide)).mp c1
        omega
      have eT : dTold m t 120 one two three h = (-1000001, upd m 942 (m 942)) := by
        unfold dTold
        rw [if_neg (by decide), if_neg (by decide), if_neg (by decide), if_neg (by decide)]
        refine (zl_c (y := (-1000001 : Int32)) (if_pos c1)).trans ?_
        refine (zl_c (y := m 942) (if_pos c1)).trans ?_
        exact (zl_c rfl).trans rfl
      have eU : f_X6_changeNoise fx rx sx one = (-1000001, fx) := by
        rw [fe_X6_changeNoise, zl_c rfl, if_pos (by rw [ev, v0]; decide)]
      rw [eT, zl_c eU]
      exact ⟨_, rfl, fr_upd (k := 0) (fr_rf _ _) (by decide), Or.inl ⟨show (-1000001 : Int32) < 0 by decide, rfl⟩⟩
    · have v0 : ¬ v = 0 := fun e => c1 (by rw [ev, e]; decide)
      have eT : dTold m t 120 one two three h = (0, upd m 942 one) := by
        unfold dTold
        rw [if_neg (by decide), if_neg (by decide), if_neg (by decide), if_neg (by decide)]
        refine (zl_c (y := (0 : Int32)) (if_neg c1)).trans ?_
        refine (zl_c (y := one) (if_neg c1)).trans ?_
        exact (zl_c rfl).trans rfl
      have eU : f_X6_changeNoise fx rx sx one = (fx 0, upd fx 0 one) := by
        rw [fe_X6_changeNoise, zl_c rfl, if_neg (by rw [ev]; exact fun hc => (wi_iff (a := 1) (b := 65536) (by decide) (by decide) (by omega)).mp hc ⟨by omega, by omega⟩)]
      have hp : 0 ≤ fx 0 := by
        obtain ⟨j, hj, ej, -⟩ := IN_get hs.2.2.2.2.2.2.2.2.2.2.1
        rw [ej]
        exact nI_pos' (by omega)
      rw [eT, zl_c eU]
      refine ⟨_, rfl, fr_upd (k := 0) (fr_rf _ _) (by decide), Or.inr ⟨hp, show (0 : Int32) ≤ 0 by decide, ?_⟩⟩
      show SR (upd fx 0 one) rx sx (sB (157 * 6) (upd m (157 * 6 + 0) one))
      rw [sB_upd]
      exact SR_u hs (by decide) (fun _ => by rw [ev]; exact IN_nI (by omega) (by decide)) (by omega) (by omega) (by omega)
/-- one order on both sides: read, and done if it is of its form -/
def DR (N p : Nat) (o g mx t tm fx : Nat → Int32) (rx sx : Int64) : Prop := ∃ a b, f_X3_isRead o (nI N) t = a ∧ f_X10_does g mx tm = b ∧ a.2 0 = o 0 ∧ a.2 2 = o 2 ∧ b.2.1 0 = g 0 ∧ b.2.1 1 = g 1 ∧ b.2.1 6 = g 6 ∧ b.2.1 3 = nI p ∧
  ((a.1 = 0 ∧ b.1 = 0 ∧ b.2.1 4 = 1 ∧ b.2.1 5 = a.2 1 - nI p ∧ b.2.2 = mx) ∨
   (¬ a.1 = 0 ∧ ∃ C, f_X3_doOn a.2 (nI N) t fx rx sx = C ∧ fr (157 * 6) mx b.2.2 ∧
     ((C.1 < 0 ∧ b.1 = 0 ∧ b.2.1 4 = 2 ∧ b.2.1 5 = C.1) ∨
      (0 ≤ C.1 ∧ b.1 = 1 ∧ SR C.2.1 C.2.2.1 C.2.2.2 (sB (157 * 6) b.2.2) ∧ ∃ p', p < p' ∧ p' ≤ N ∧ a.2 1 = nI p' ∧ b.2.1 2 = nI p'))))
theorem DR_fin {N p : Nat} {o g mx t tm fx : Nat → Int32} {rx sx : Int64} {a V : Int32 × (Nat → Int32)} {W : Int32 × (Nat → Int32)} (ea : f_X3_isRead o (nI N) t = a) (eb : f_X10_does g mx tm = if V.1 = 0 then (0, upd (upd V.2 4 1) 5 ((V.2 2) - (V.2 3)), mx) else dOut V.2 W) (a0 : a.2 0 = o 0) (a2 : a.2 2 = o 2) (v0 : V.2 0 = g 0) (v1 : V.2 1 = g 1) (v6 : V.2 6 = g 6) (v3 : V.2 3 = nI p) (r : (a.1 = 0 ∧ V.1 = 0 ∧ ∃ p', a.2 1 = nI p' ∧ V.2 2 = nI p') ∨ (a.1 = 1 ∧ V.1 = 1 ∧ (∃ p', p < p' ∧ p' ≤ N ∧ a.2 1 = nI p' ∧ V.2 2 = nI p') ∧ ∃ C, f_X3_doOn a.2 (nI N) t fx rx sx = C ∧ fr (157 * 6) mx W.2 ∧ ((C.1 < 0 ∧ W.1 = C.1) ∨ (0 ≤ C.1 ∧ 0 ≤ W.1 ∧ SR C.2.1 C.2.2.1 C.2.2.2 (sB (157 * 6) W.2))))) : DR N p o g mx t tm fx rx sx := by
  refine ⟨a, _, ea, rfl, a0, a2, ?_⟩
  rw [eb]
  rcases r with ⟨r1, r2, p', r3, r4⟩ | ⟨r1, r2, ⟨p', q1, q2, q3, q4⟩, C, eC, F, s⟩
  · rw [if_pos r2]
    refine ⟨v0, v1, v6, v3, Or.inl ⟨r1, rfl, rfl, ?_, rfl⟩⟩
    show V.2 2 - V.2 3 = a.2 1 - nI p
    rw [r3, r4, v3]
  · rw [if_neg (show ¬ V.1 = 0 by rw [r2]; decide)]
    unfold dOut
    rcases s with ⟨s1, s2⟩ | ⟨s1, s2, s3⟩
    · rw [if_pos (show W.1 < 0 from s2 ▸ s1)]
      refine ⟨v0, v1, v6, v3, Or.inr ⟨by rw [r1]; decide, C, eC, F, Or.inl ⟨s1, rfl, ?_, s2⟩⟩⟩
      show (if 0 ≤ W.1 then (0 : Int32) else 2) = 2
      rw [if_neg (Int32.not_le.mpr (s2 ▸ s1))]
    · rw [if_neg (show ¬ W.1 < 0 from Int32.not_lt.mpr s2)]
      exact ⟨v0, v1, v6, v3, Or.inr ⟨by rw [r1]; decide, C, eC, F, Or.inr ⟨s1, rfl, s3, p', q1, q2, q3, q4⟩⟩⟩
theorem order_rel {N p : Nat} {o g mx t tm fx : Nat → Int32} {rx sx : Int64} (hN : N ≤ 60) (hp : p < N) (ho : o 1 = nI p) (hg : g 2 = nI p) (hg1 : g 1 = nI N) (htm : ∀ j, j < N → tm j = t j) (hs : SR fx rx sx (sB (157 * 6) mx)) : DR N p o g mx t tm fx rx sx := by
  have hcl : tm ((g 2).toNatClampNeg) = t p := by rw [hg, nI_clamp (by omega), htm p hp]
  have hat : f_X8_at (nI N) t (o 1) = t p := by rw [ho, at_eq hN (by omega), if_pos hp]
  obtain ⟨c, hc⟩ : ∃ c, c = t p := ⟨_, rfl⟩
  rw [← hc] at hcl hat
  obtain ⟨O1, hO1⟩ : ∃ O1, O1 = upd (upd o 1 (o 1 + 1)) 5 c := ⟨_, rfl⟩
  obtain ⟨G1, hG1⟩ : ∃ G1, G1 = upd (upd g 2 ((g 2) + 1)) 3 (g 2) := ⟨_, rfl⟩
  have o11 : O1 1 = nI (p + 1) := by rw [hO1, upd_ne (by decide), upd_eq, ho, nI_1]
  have o15 : O1 5 = c := by rw [hO1, upd_eq]
  have o10 : O1 0 = o 0 := by rw [hO1, upd_ne (by decide), upd_ne (by decide)]
  have o12 : O1 2 = o 2 := by rw [hO1, upd_ne (by decide), upd_ne (by decide)]
  have g12 : G1 2 = nI (p + 1) := by rw [hG1, upd_ne (by decide), upd_eq, hg, nI_1]
  have g13 : G1 3 = nI p := by rw [hG1, upd_eq, hg]
  have g10 : G1 0 = g 0 := by rw [hG1, upd_ne (by decide), upd_ne (by decide)]
  have g11 : G1 1 = g 1 := by rw [hG1, upd_ne (by decide), upd_ne (by decide)]
  have g16 : G1 6 = g 6 := by rw [hG1, upd_ne (by decide), upd_ne (by decide)]
  have hread := fe_X3_isRead o (nI N) t
  rw [zl_c hat, ← hO1] at hread
  -- an order of one number
  have one : c = 100 ∨ c = 115 ∨ c = 120 → f_X3_isRead o (nI N) t = (zl (f_X3_isNumberRead O1 (nI N) t) fun u10 => if u10.1 = 0 then ((0 : Int32), u10.2) else zl (f_X3_isSkipped u10.2 (nI N) t 59) fun w => if w.1 = 0 then ((0 : Int32), w.2) else (1, w.2)) → DR N p o g mx t tm fx rx sx := fun hcc hr => by
    obtain ⟨a, b, v34, V, ea, eb, e34, eV, fa, fV, r⟩ := one_rel (m := mx) hN (show p + 1 ≤ N by omega) o11 g12 (g11.trans hg1) htm
    have ne110 : ¬ c = 110 := by rcases hcc with e | e | e <;> rw [e] <;> decide
    have ne114 : ¬ c = 114 := by rcases hcc with e | e | e <;> rw [e] <;> decide
    have el : dLet c = 1 := by rcases hcc with e | e | e <;> rw [e] <;> decide
    have e3 : (if c = 110 then ((0 : Int32), upd (upd g 2 ((g 2) + 1)) 3 (g 2)) else zl (f_X10_number (upd (upd g 2 ((g 2) + 1)) 3 (g 2)) mx tm) fun u30 => (u30.1, u30.2)) = b := by
      rw [if_neg ne110, ← hG1]
      exact (zl_c eb).trans rfl
    have e5 : (if v34 = 0 then (v34, (0 : Int32), (0 : Int32), b.2) else if c = 114 then dRing mx tm b.2 else (v34, 0, 0, b.2)) = (v34, 0, 0, b.2) := by
      rw [if_neg ne114]
      split <;> rfl
    have hD := does_at (m := mx) hcl el e3 e34 e5 eV
    refine DR_fin (hr.trans ea) hD ((fa 0 (by decide) (by decide)).trans o10) ((fa 2 (by decide) (by decide)).trans o12) ((fV 0 (by decide)).trans g10) ((fV 1 (by decide)).trans g11) ((fV 6 (by decide)).trans g16) ((fV 3 (by decide)).trans g13) ?_
    rcases r with r | ⟨r1, r2, p', v, q1, q2, q3, q4, q5, q6, q7⟩
    · exact Or.inl r
    · refine Or.inr ⟨r1, r2, ⟨p', by omega, q2, q3, q4⟩, ?_⟩
      refine told_rel (o := a.2) (N := N) (tt := t) hs ((fa 5 (by decide) (by decide)).trans o15) ?_
      rcases hcc with e | e | e
      · exact Or.inl ⟨e, q6.trans q7.symm⟩
      · exact Or.inr (Or.inr (Or.inr (Or.inl ⟨e, q6.trans q7.symm⟩)))
      · exact Or.inr (Or.inr (Or.inr (Or.inr ⟨e, q6.trans q7.symm, v, q5, q7⟩)))
  by_cases c100 : c = 100
  · rw [if_pos c100] at hread
    exact one (Or.inl c100) hread
  · rw [if_neg c100] at hread
    by_cases c110 : c = 110
    · rw [if_pos c110] at hread
      obtain ⟨a, b, ea, eb, fa, fb, r⟩ := skip_rel (m := mx) (w := 59) (by decide) hN (show p + 1 ≤ N by omega) o11 g12 (g11.trans hg1) htm
      rw [zl_c ea] at hread
      have el : dLet c = 1 := by rw [c110]; decide
      have e3 : (if c = 110 then ((0 : Int32), upd (upd g 2 ((g 2) + 1)) 3 (g 2)) else zl (f_X10_number (upd (upd g 2 ((g 2) + 1)) 3 (g 2)) mx tm) fun u30 => (u30.1, u30.2)) = (0, G1) := by
        rw [if_pos c110, ← hG1]
      have hD := does_at (m := mx) (v34 := 1) (V42 := (1, 0, 0, G1)) (V87 := if b.1 = 0 then (0, b.2) else (1, b.2)) hcl el e3 rfl (by rw [if_neg (by decide), if_neg (by rw [c110]; decide)]) ((if_neg (show ¬ (1 : Int32) = 0 by decide)).trans (zl_c eb))
      rcases r with ⟨r1, r2, r3, r4, r5⟩ | ⟨r1, r2, r3, r4⟩
      · rw [if_neg (show ¬ b.1 = 0 by rw [r2]; decide)] at hD
        refine DR_fin hread hD ((fa 0 (by decide)).trans o10) ((fa 2 (by decide)).trans o12) ((fb 0 (by decide)).trans g10) ((fb 1 (by decide)).trans g11) ((fb 6 (by decide)).trans g16) ((fb 3 (by decide)).trans g13) (Or.inr ⟨r1, rfl, ⟨p + 1 + 1, by omega, by omega, r4, r5⟩, ?_⟩)
        exact told_rel (o := a.2) (N := N) (tt := t) hs ((fa 5 (by decide)).trans o15) (Or.inr (Or.inl c110))
      · rw [if_pos r2] at hD
        exact DR_fin hread hD ((fa 0 (by decide)).trans o10) ((fa 2 (by decide)).trans o12) ((fb 0 (by decide)).trans g10) ((fb 1 (by decide)).trans g11) ((fb 6 (by decide)).trans g16) ((fb 3 (by decide)).trans g13) (Or.inl ⟨r1, rfl, p + 1, r3, r4⟩)
    · rw [if_neg c110] at hread
      by_cases c114 : c = 114
      · rw [if_pos c114] at hread
        obtain ⟨a, b, v34, V, ea, eb, e34, eV, fa, fV, r⟩ := ring_rel (m := mx) hN (show p + 1 ≤ N by omega) o11 g12 (g11.trans hg1) htm
        rw [zl_c ea] at hread
        have el : dLet c = 1 := by rw [c114]; decide
        have e3 : (if c = 110 then ((0 : Int32), upd (upd g 2 ((g 2) + 1)) 3 (g 2)) else zl (f_X10_number (upd (upd g 2 ((g 2) + 1)) 3 (g 2)) mx tm) fun u30 => (u30.1, u30.2)) = b := by
          rw [if_neg c110, ← hG1]
          exact (zl_c eb).trans rfl
        have e5 : (if v34 = 0 then (v34, (0 : Int32), (0 : Int32), b.2) else if c = 114 then dRing mx tm b.2 else (v34, 0, 0, b.2)) = V := by
          rw [if_pos c114]
          exact eV
        rcases r with ⟨r1, r2, p', r3, r4⟩ | ⟨r1, r2, p', q1, q2, q3, q4, q5, q6, q7⟩
        · rw [if_pos r1] at hread
          have hD := does_at (m := mx) (V87 := (0, V.2.2.2)) hcl el e3 e34 e5 (if_pos r2)
          exact DR_fin hread hD ((fa 0 (by decide) (by decide) (by decide) (by decide)).trans o10) ((fa 2 (by decide) (by decide) (by decide) (by decide)).trans o12) ((fV 0 (by decide)).trans g10) ((fV 1 (by decide)).trans g11) ((fV 6 (by decide)).trans g16) ((fV 3 (by decide)).trans g13) (Or.inl ⟨rfl, rfl, p', r3, r4⟩)
        · rw [if_neg (show ¬ a.1 = 0 by rw [r1]; decide)] at hread
          obtain ⟨a2, V2, ea2, eV2, fa2, fV2, z⟩ := end_rel (m := mx) hN q2 q3 q4 ((fV 1 (by decide)).trans (g11.trans hg1)) htm
          have hD := does_at (m := mx) (V87 := V2) hcl el e3 e34 e5 ((if_neg (show ¬ V.1 = 0 by rw [r2]; decide)).trans eV2)
          refine DR_fin (hread.trans ea2) hD ((fa2 0 (by decide)).trans ((fa 0 (by decide) (by decide) (by decide) (by decide)).trans o10)) ((fa2 2 (by decide)).trans ((fa 2 (by decide) (by decide) (by decide) (by decide)).trans o12)) ((fV2 0 (by decide)).trans ((fV 0 (by decide)).trans g10)) ((fV2 1 (by decide)).trans ((fV 1 (by decide)).trans g11)) ((fV2 6 (by decide)).trans ((fV 6 (by decide)).trans g16)) ((fV2 3 (by decide)).trans ((fV 3 (by decide)).trans g13)) ?_
          rcases z with z | ⟨z1, z2, z3, z4, z5⟩
          · exact Or.inl z
          · refine Or.inr ⟨z1, z2, ⟨p' + 1, by omega, by omega, z4, z5⟩, ?_⟩
            exact told_rel (o := a2.2) (N := N) (tt := t) hs ((fa2 5 (by decide)).trans ((fa 5 (by decide) (by decide) (by decide) (by decide)).trans o15)) (Or.inr (Or.inr (Or.inl ⟨c114, (fa2 7 (by decide)).trans q5, (fa2 8 (by decide)).trans q6, (fa2 6 (by decide)).trans q7⟩)))
      · rw [if_neg c114] at hread
        by_cases c115 : c = 115
        · rw [if_pos c115] at hread
          exact one (Or.inr (Or.inl c115)) hread
        · rw [if_neg c115] at hread
          by_cases c120 : c = 120
          · rw [if_pos c120] at hread
            exact one (Or.inr (Or.inr c120)) hread
          · rw [if_neg c120] at hread
            have el : dLet c = 0 := by
              unfold dLet
              rw [if_neg c114, if_neg c115, if_neg c100, if_neg c110, if_neg c120]
            have hD := does_bad (m := mx) hcl el
            refine ⟨_, _, hread, hD, ?_, ?_, ?_, ?_, ?_, ?_, Or.inl ⟨rfl, rfl, rfl, ?_, rfl⟩⟩
            · rfl
            · rfl
            · rfl
            · rfl
            · rfl
            · exact hg
            · show upd (upd g 2 (g 2 + 0)) 3 (g 2) 2 - upd (upd g 2 (g 2 + 0)) 3 (g 2) 3 = upd o 5 c 1 - nI p
              rw [upd_eq, upd_ne (by decide), upd_eq, upd_ne (by decide), Int32.add_zero, hg, ho]
