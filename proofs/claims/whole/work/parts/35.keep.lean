theorem kp_loop (g m t : Nat → Int32) (b : Nat) (bit : Int32) : ∀ (q k : Nat) (mx : Nat → Int32), k + q = 65 → k ≤ 63 → (∀ j, mx j = if b + 29 ≤ j ∧ j < b + 29 + k then m (j + 1) else m j) → ∀ j, lp16_X10_keeps g m t b bit q k mx j = if j = b + 28 then m (b + 28) - 1 + 1 else if j = b + 92 then bit else if b + 29 ≤ j ∧ j < b + 92 then m (j + 1) else m j := by
  intro q
  induction q with
  | zero => intro k mx h1 h2 _ j; omega
  | succ q ih =>
    intro k mx h1 h2 h3 j
    rw [lp16_X10_keeps_s]
    by_cases c : (63 : Int32) ≤ nI k
    · rw [if_pos c]
      have c' : 63 ≤ k := (nI_leI (a := 63) (b := k) (by decide) (by omega)).mp c
      have : k = 63 := by omega
      subst this
      simp only [zl]
      have e28 : mx (b + 28) = m (b + 28) := by rw [h3, if_neg (by omega)]
      rw [upd_ne (show b + 28 ≠ b + 92 by omega), upd_eq, e28]
      by_cases c1 : j = b + 28
      · subst c1; rw [upd_eq, if_pos rfl]
      · rw [upd_ne c1, if_neg c1]
        by_cases c2 : j = b + 92
        · subst c2; rw [upd_eq, if_pos rfl]
        · rw [upd_ne c2, upd_ne c1, if_neg c2, h3 j]
    · rw [if_neg c]
      have c' : ¬ 63 ≤ k := fun h => c ((nI_leI (a := 63) (b := k) (by decide) (by omega)).mpr h)
      simp only [zl]
      refine ih (k + 1) _ (by omega) (by omega) (fun i => ?_) j
      unfold upd
      by_cases e : i = b + k + 29
      · rw [if_pos e, if_pos (by omega), h3, if_neg (by omega)]
        congr 1; omega
      · rw [if_neg e, h3 i]
        by_cases e2 : b + 29 ≤ i ∧ i < b + 29 + k
        · rw [if_pos e2, if_pos (by omega)]
        · rw [if_neg e2, if_neg (by omega)]
theorem keeps_rel {f : Nat → Int32} {rb sb : Int64} {g m t : Nat → Int32} {b β : Nat} (hβ : β ≤ 1) (h : SR f rb sb (sB b m)) : SR (upd f 28 (f_X0_append rb (f 28) (nI β)).2) (f_X0_append rb (f 28) (nI β)).1 sb (sB b (f_X10_keeps g m t b (nI β))) ∧ fr b m (f_X10_keeps g m t b (nI β)) := by
  have q28 : m (b + 28) = f 28 := SR_at h 28 (by decide) (by decide) (by decide) (by decide)
  have hr := h.2.2.2.2.1
  obtain ⟨X, hX, rfl⟩ := wb_of rb
  obtain ⟨N, hN, eN, cN⟩ := IN_get hr.1
  rw [ap_fst hβ]
  rw [eN] at hr
  by_cases c : N = 64
  · subst c
    have e2 : (f_X0_append (lN X) (f 28) (nI β)).2 = nI 64 := by
      unfold f_X0_append
      rw [eN, if_pos (by decide)]
    have ek : f_X10_keeps g m t b (nI β) = lp16_X10_keeps g m t b (nI β) 65 0 m := by
      unfold f_X10_keeps
      rw [if_pos (by rw [q28, eN]; rfl)]
    have el := kp_loop g m t b (nI β) 65 0 m (by decide) (by decide) (fun j => by rw [if_neg (by omega)])
    rw [e2, ek]
    refine ⟨SR_keep h (rowR_push hX hr hβ (fun k hk => ?_) ?_) (fun k hk => ?_) ?_, fun j hj => ?_⟩
    · show lp16_X10_keeps g m t b (nI β) 65 0 m (b + (29 + k)) = m (b + (29 + (k + 1)))
      rw [el, if_neg (by omega), if_neg (by omega), if_pos (by omega)]
      congr 1
    · show lp16_X10_keeps g m t b (nI β) 65 0 m (b + (29 + 63)) = nI β
      rw [el, if_neg (by omega), if_pos (by omega)]
    · show lp16_X10_keeps g m t b (nI β) 65 0 m (b + k) = m (b + k)
      rw [el, if_neg (by omega), if_neg (by omega), if_neg (by omega)]
    · show lp16_X10_keeps g m t b (nI β) 65 0 m (b + 28) = nI 64
      rw [el, if_pos rfl, q28, eN]
      rfl
    · rw [el, if_neg (by omega), if_neg (by omega), if_neg (by omega)]
  · have e2 : (f_X0_append (lN X) (f 28) (nI β)).2 = nI (N + 1) := by
      unfold f_X0_append
      rw [eN, if_neg (fun hc => c (by have := (nI_leI (a := 64) (b := N) (by decide) (by omega)).mp hc; omega)), nI_1]
    have ek : f_X10_keeps g m t b (nI β) = upd (upd m (b + (29 + N)) (nI β)) (b + 28) (nI (N + 1)) := by
      unfold f_X10_keeps
      rw [if_neg (by rw [q28, eN]; exact fun hc => c ((nI_eq (a := N) (b := 64) (by omega) (by decide)).mp hc))]
      simp only [zl]
      rw [q28, cN, upd_ne (show b + 28 ≠ b + N + 29 by omega), q28, eN, nI_1, show b + N + 29 = b + (29 + N) by omega]
    rw [e2, ek, sB_upd, sB_upd]
    refine ⟨SR_keep h (rowR_app hX hr (by omega) hβ (fun k hk hk2 => ?_) ?_) (fun k hk => ?_) ?_, fr_upd (fr_upd (fr_rf b m) (by omega)) (by decide)⟩
    · rw [upd_ne (by omega), upd_ne (by omega)]
    · rw [upd_ne (by omega), upd_eq]
    · rw [upd_ne (by omega), upd_ne (by omega)]
    · rw [upd_eq]
theorem tests_rel {f : Nat → Int32} {rb sb : Int64} {g m t : Nat → Int32} {b : Nat} {bit : Int32} (hb : bit = 0 ∨ bit = 1) (h : SR f rb sb (sB b m)) : ∃ R S1 S2 S3, R = f_X1_countInRun (f 11) (f 12) (f 13) (f 14) (f 15) (f 16) (f 17) bit ∧ (S1, S2, S3) = f_X1_failsShare (f 11) (f 12) (f 13) R bit (f 16) (f 17) bit (f 10) ∧ (f_X10_tests g m t b bit).1 = (if R ≤ f 9 then (if S1 = 0 then 0 else 2) else 1) ∧ (S1 = 0 ∨ S1 = 1) ∧ SR (upd (upd (upd (upd (upd f 14 R) 15 bit) 27 (if f 27 < R then R else f 27)) 16 S2) 17 S3) rb sb (sB b (f_X10_tests g m t b bit).2) ∧ fr b m (f_X10_tests g m t b bit).2 := by
  have q9 : m (b + 9) = f 9 := SR_at h 9 (by decide) (by decide) (by decide) (by decide)
  have q10 : m (b + 10) = f 10 := SR_at h 10 (by decide) (by decide) (by decide) (by decide)
  have q14 : m (b + 14) = f 14 := SR_at h 14 (by decide) (by decide) (by decide) (by decide)
  have q16 : m (b + 16) = f 16 := SR_at h 16 (by decide) (by decide) (by decide) (by decide)
  have q17 : m (b + 17) = f 17 := SR_at h 17 (by decide) (by decide) (by decide) (by decide)
  have q27 : m (b + 27) = f 27 := SR_at h 27 (by decide) (by decide) (by decide) (by decide)
  obtain ⟨R, hR⟩ : ∃ R, R = f_X1_countInRun (f 11) (f 12) (f 13) (f 14) (f 15) (f 16) (f 17) bit := ⟨_, rfl⟩
  obtain ⟨S, hS⟩ : ∃ S, S = f_X1_failsShare (f 11) (f 12) (f 13) R bit (f 16) (f 17) bit (f 10) := ⟨_, rfl⟩
  have e2 : (if m (b + 14) ≤ 0 then 1 else if m (b + 15) = bit then m (b + 14) + 1 else 1) = R := by
    rw [hR]
    unfold f_X1_countInRun
    simp only [zl]
    rw [q14]
    by_cases c : f 14 ≤ 0
    · rw [if_pos c, if_pos c]
    · rw [if_neg c, if_neg c]
      have q15 : m (b + 15) = f 15 := h.2.2.2.1 (fun e => c (by rw [e]; decide))
      rw [q15]
      by_cases c2 : bit = f 15
      · rw [if_pos c2, if_pos c2.symm]
      · rw [if_neg c2, if_neg (fun e => c2 e.symm)]
  have e27 : (if R ≤ f 27 then f 27 else R) = (if f 27 < R then R else f 27) := by
    by_cases c : R ≤ f 27
    · rw [if_pos c, if_neg (Int32.not_lt.mpr c)]
    · rw [if_neg c, if_pos (Int32.not_le.mp c)]
  obtain ⟨L, hL⟩ : ∃ L, L = (if f 27 < R then R else f 27) := ⟨_, rfl⟩
  obtain ⟨w, hw, ew, -⟩ := IN_get h.2.2.2.2.2.2.2.2.2.1
  have e16 : f 16 + 1 = nI (w + 1) := by rw [ew, nI_1]
  -- the row behind the run, before the window is looked at
  obtain ⟨M, hM⟩ : ∃ M, M = upd (upd (upd (upd (upd m (b + 14) R) (b + 15) bit) (b + 27) L) (b + 16) (f 16 + 1)) (b + 17) (f 17 + bit) := ⟨_, rfl⟩
  have hT : f_X10_tests g m t b bit = (
      if R ≤ f 9 then (if (if f 16 + 1 = 32 then (if f_X9_isWithin (f 17 + bit) (f 10) (32 - f 10) = 0 then (1 : Int32) else 0) else 0) = 0 then (0, if f 16 + 1 = 32 then upd (upd M (b + 16) 0) (b + 17) 0 else M) else (2, if f 16 + 1 = 32 then upd (upd M (b + 16) 0) (b + 17) 0 else M)) else (1, if f 16 + 1 = 32 then upd (upd M (b + 16) 0) (b + 17) 0 else M)) := by
    obtain ⟨N9, hN9⟩ : ∃ x, x = upd m (b + 14) R := ⟨_, rfl⟩
    obtain ⟨N11, hN11⟩ : ∃ x, x = upd N9 (b + 15) bit := ⟨_, rfl⟩
    obtain ⟨N18, hN18⟩ : ∃ x, x = upd N11 (b + 27) L := ⟨_, rfl⟩
    obtain ⟨N20, hN20⟩ : ∃ x, x = upd N18 (b + 16) (f 16 + 1) := ⟨_, rfl⟩
    have hM2 : M = upd N20 (b + 17) (f 17 + bit) := by rw [hM, hN20, hN18, hN11, hN9]
    have a1 : N11 (b + 14) = R := by rw [hN11, hN9, upd_ne (by omega), upd_eq]
    have a2 : N11 (b + 27) = f 27 := by rw [hN11, hN9, upd_ne (by omega), upd_ne (by omega), q27]
    have a3 : N18 (b + 16) = f 16 := by rw [hN18, hN11, hN9, upd_ne (by omega), upd_ne (by omega), upd_ne (by omega), q16]
    have a4 : N20 (b + 17) = f 17 := by rw [hN20, hN18, hN11, hN9, upd_ne (by omega), upd_ne (by omega), upd_ne (by omega), upd_ne (by omega), q17]
    have a5 : M (b + 16) = f 16 + 1 := by rw [hM, upd_ne (by omega), upd_eq]
    have a6 : M (b + 17) = f 17 + bit := by rw [hM, upd_eq]
    have a7 : M (b + 10) = f 10 := by rw [hM, upd_ne (by omega), upd_ne (by omega), upd_ne (by omega), upd_ne (by omega), upd_ne (by omega), q10]
    have a8 : M (b + 14) = R := by rw [hM, upd_ne (by omega), upd_ne (by omega), upd_ne (by omega), upd_ne (by omega), upd_eq]
    have a9 : M (b + 9) = f 9 := by rw [hM, upd_ne (by omega), upd_ne (by omega), upd_ne (by omega), upd_ne (by omega), upd_ne (by omega), q9]
    rw [fe_X10_tests]
    refine (zl_c e2).trans ?_
    refine (zl_c hN9.symm).trans ?_
    refine (zl_c hN11.symm).trans ?_
    refine (zl_c (y := L) (by rw [a1, a2, e27, hL])).trans ?_
    refine (zl_c hN18.symm).trans ?_
    refine (zl_c (y := N20) (by rw [a3, hN20])).trans ?_
    refine (zl_c (y := M) (by rw [a4, hM2])).trans ?_
    refine (zl_c (y := if f 16 + 1 = 32 then (1 : Int32) else 0) (by rw [a5])).trans ?_
    by_cases c : f 16 + 1 = 32
    · refine (zl_c (y := if f_X9_isWithin (f 17 + bit) (f 10) (32 - f 10) = 0 then (1 : Int32) else 0) ?_).trans ?_
      · rw [if_pos c, if_neg (show ¬ (1 : Int32) = 0 by decide)]
        exact zl_c (by rw [in_eq, a6, a7])
      refine (zl_c (y := upd (upd M (b + 16) 0) (b + 17) 0) ?_).trans ?_
      · rw [if_pos c, if_neg (show ¬ (1 : Int32) = 0 by decide)]
        exact (zl_c rfl).trans (zl_c rfl)
      rw [upd_ne (show b + 14 ≠ b + 17 by omega), upd_ne (show b + 14 ≠ b + 16 by omega), upd_ne (show b + 9 ≠ b + 17 by omega), upd_ne (show b + 9 ≠ b + 16 by omega), a8, a9]
      rw [if_pos c, if_pos c]
    · refine (zl_c (y := (0 : Int32)) ?_).trans ?_
      · rw [if_neg c, if_pos rfl]
      refine (zl_c (y := M) ?_).trans ?_
      · rw [if_neg c, if_pos rfl]
      rw [a8, a9]
      rw [if_neg c, if_neg c]
  have sM : sB b M = upd (upd (upd (upd (upd (sB b m) 14 R) 15 bit) 27 L) 16 (f 16 + 1)) 17 (f 17 + bit) := by
    rw [hM, sB_upd, sB_upd, sB_upd, sB_upd, sB_upd]
  have frM : fr b m M := by
    rw [hM]
    exact fr_upd (fr_upd (fr_upd (fr_upd (fr_upd (fr_rf b m) (by decide)) (by decide)) (by decide)) (by decide)) (by decide)
  have base : SR (upd (upd (upd f 14 R) 15 bit) 27 L) rb sb (upd (upd (upd (sB b m) 14 R) 15 bit) 27 L) := SR_u (SR_run h) (by decide) (by omega) (by omega) (by omega) (by omega)
  unfold f_X1_failsShare at hS
  by_cases c : w = 31
  · subst c
    have c1 : f 16 + 1 = 32 := e16
    rw [if_pos c1, if_pos c1] at hT
    rw [c1, if_pos (show (32 : Int32) ≤ 32 by decide)] at hS
    have hS2 : S = ((if f_X9_isWithin (f 17 + bit) (f 10) (32 - f 10) = 0 then 1 else 0), 0, 0) := by
      rw [hS]
      unfold f_X9_isWithin
      by_cases d1 : f 17 + bit < f 10
      · rw [if_pos d1, if_pos d1]; rfl
      · rw [if_neg d1, if_neg d1]
        by_cases d2 : f 17 + bit ≤ 32 - f 10
        · rw [if_pos d2, if_neg (Int32.not_lt.mpr d2)]; rfl
        · rw [if_neg d2, if_pos (Int32.not_le.mp d2)]; rfl
    obtain ⟨V, hV⟩ : ∃ V, V = (if f_X9_isWithin (f 17 + bit) (f 10) (32 - f 10) = 0 then (1 : Int32) else 0) := ⟨_, rfl⟩
    rw [← hV] at hT hS2
    have hV01 : V = 0 ∨ V = 1 := by rw [hV]; split <;> simp
    have hT2 : f_X10_tests g m t b bit = ((if R ≤ f 9 then (if V = 0 then 0 else 2) else 1), upd (upd M (b + 16) 0) (b + 17) 0) := by
      rw [hT]
      split
      · split <;> rfl
      · rfl
    refine ⟨R, V, 0, 0, hR, ?_, by rw [hT2], hV01, ?_, ?_⟩
    · rw [← hS2, hS]
      unfold f_X1_failsShare
      rw [c1, if_pos (show (32 : Int32) ≤ 32 by decide)]
    · rw [hT2]
      show SR _ rb sb (sB b (upd (upd M (b + 16) 0) (b + 17) 0))
      rw [sB_upd, sB_upd, sM, ← hL]
      have s2 : SR (upd (upd (upd (upd (upd f 14 R) 15 bit) 27 L) 16 0) 17 0) rb sb (upd (upd (upd (upd (upd (sB b m) 14 R) 15 bit) 27 L) 16 0) 17 0) := SR_u (SR_win ⟨rfl, by decide⟩ base) (by decide) (by omega) (by omega) (by omega) (by omega)
      refine SR_congr (fun k hk => ?_) s2
      unfold upd
      by_cases d1 : k = 17
      · rw [if_pos d1, if_pos d1]
      · rw [if_neg d1, if_neg d1]
        by_cases d2 : k = 16
        · rw [if_pos d2, if_pos d2, if_neg d1]
        · rw [if_neg d2, if_neg d2, if_neg d1, if_neg d2]
    · rw [hT2]
      exact fr_upd (fr_upd frM (by decide)) (by decide)
  · have c1 : ¬ f 16 + 1 = 32 := fun e => c (by have := (nI_eq (a := w + 1) (b := 32) (by omega) (by decide)).mp (e16.symm.trans e); omega)
    have c2 : ¬ (32 : Int32) ≤ f 16 + 1 := fun e => c (by rw [e16] at e; have := (nI_leI (a := 32) (b := w + 1) (by decide) (by omega)).mp e; omega)
    rw [if_neg c1, if_neg c1] at hT
    rw [if_neg c2] at hS
    have hT2 : f_X10_tests g m t b bit = ((if R ≤ f 9 then (if (0 : Int32) = 0 then 0 else 2) else 1), M) := by
      rw [hT]
      split
      · rfl
      · rfl
    refine ⟨R, 0, f 16 + 1, f 17 + bit, hR, ?_, by rw [hT2], Or.inl rfl, ?_, ?_⟩
    · unfold f_X1_failsShare
      rw [if_neg c2]
    · rw [hT2, ← hL]
      show SR _ rb sb (sB b M)
      rw [sM]
      exact SR_u (SR_win (by rw [e16]; exact IN_nI (by omega) (by decide)) base) (by decide) (by omega) (by omega) (by omega) (by omega)
    · rw [hT2]
      exact frM
