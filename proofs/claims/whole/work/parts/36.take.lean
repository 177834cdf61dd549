theorem pair_rel {f : Nat → Int32} {rb sb : Int64} {g m t : Nat → Int32} {b : Nat} {bit : Int32} (hb : bit = 0 ∨ bit = 1) (h : SR f rb sb (sB b m)) : SR (f_X6_pairUp f rb sb bit).1 rb (f_X6_pairUp f rb sb bit).2 (sB b (f_X10_takesOne g m t b bit)) ∧ fr b m (f_X10_takesOne g m t b bit) ∧ ((f_X6_pairUp f rb sb bit).1 23 = f 23 ∨ (f_X6_pairUp f rb sb bit).1 23 = f 23 + 1) := by
  have q18 : m (b + 18) = f 18 := SR_at h 18 (by decide) (by decide) (by decide) (by decide)
  have q19 : m (b + 19) = f 19 := SR_at h 19 (by decide) (by decide) (by decide) (by decide)
  have q22 : m (b + 22) = f 22 := SR_at h 22 (by decide) (by decide) (by decide) (by decide)
  have q23 : m (b + 23) = f 23 := SR_at h 23 (by decide) (by decide) (by decide) (by decide)
  have q24 : m (b + 24) = f 24 := SR_at h 24 (by decide) (by decide) (by decide) (by decide)
  have hw := h.2.2.2.2.2.2.2.1
  have bm : (-1 : Int32) = -1 ∨ (-1 : Int32) = 0 ∨ (-1 : Int32) = 1 := Or.inl rfl
  unfold f_X6_pairUp f_X10_takesOne
  simp only [zl]
  by_cases c : f 19 = -1
  · rw [if_pos c, if_neg (show ¬ 0 ≤ m (b + 19) by rw [q19, c]; decide), sB_upd]
    exact ⟨SR_wait (Or.inr hb) h, fr_upd (fr_rf b m) (by decide), Or.inl rfl⟩
  · have hw2 : f 19 = 0 ∨ f 19 = 1 := hw.resolve_left c
    rw [if_neg c, if_pos (show 0 ≤ m (b + 19) by rw [q19]; rcases hw2 with e | e <;> rw [e] <;> decide), q19]
    by_cases c2 : f 19 = bit
    · rw [if_pos c2, if_pos c2, q22, sB_upd, sB_upd]
      refine ⟨SR_fcongr (f := upd (upd f 22 (f 22 + 1)) 19 (-1)) (fun k hk => ?_) (SR_wait bm (SR_u h (by decide) (by omega) (by omega) (by omega) (by omega))), fr_upd (fr_upd (fr_rf b m) (by decide)) (by decide), Or.inl rfl⟩
      rcases k29 hk with rfl | rfl | rfl | rfl | rfl | rfl | rfl | rfl | rfl | rfl | rfl | rfl | rfl | rfl | rfl | rfl | rfl | rfl | rfl | rfl | rfl | rfl | rfl | rfl | rfl | rfl | rfl | rfl | rfl <;> rfl
    · rw [if_neg c2, if_neg c2, q18]
      have hr := h.2.2.2.2.2.1
      obtain ⟨X, hX, rfl⟩ := wb_of sb
      obtain ⟨N, hN, eN, cN⟩ := IN_get hr.1
      unfold f_X0_isFull
      by_cases c3 : N = 64
      · subst c3
        rw [if_neg (show ¬ f 18 < 64 by rw [eN]; decide), if_neg (show ¬ (1 : Int32) = 0 by decide), if_pos (show f 18 = 64 by rw [eN]; rfl), q24, sB_upd, sB_upd]
        refine ⟨SR_fcongr (f := upd (upd f 24 (f 24 + 1)) 19 (-1)) (fun k hk => ?_) (SR_wait bm (SR_u h (by decide) (by omega) (by omega) (by omega) (by omega))), fr_upd (fr_upd (fr_rf b m) (by decide)) (by decide), Or.inl rfl⟩
        rcases k29 hk with rfl | rfl | rfl | rfl | rfl | rfl | rfl | rfl | rfl | rfl | rfl | rfl | rfl | rfl | rfl | rfl | rfl | rfl | rfl | rfl | rfl | rfl | rfl | rfl | rfl | rfl | rfl | rfl | rfl <;> rfl
      · have hlt : f 18 < 64 := by rw [eN]; exact (nI_ltI (a := N) (b := 64) (by omega) (by decide)).mpr (by omega)
        rw [if_pos hlt, if_pos rfl, if_neg (show ¬ f 18 = 64 by rw [eN]; exact fun e => c3 ((nI_eq (a := N) (b := 64) (by omega) (by decide)).mp e))]
        obtain ⟨β, hβ, eβ⟩ : ∃ β, β ≤ 1 ∧ f 19 = nI β := by rcases hw2 with e | e; exact ⟨0, by decide, e⟩; exact ⟨1, by decide, e⟩
        have ea2 : (f_X0_append (lN X) (f 18) (f 19)).2 = nI (N + 1) := by
          unfold f_X0_append
          rw [if_neg (Int32.not_le.mpr hlt), eN, nI_1]
        rw [ea2]
        have ea1 : (f_X0_append (lN X) (f 18) (f 19)).1 = lN (apN X β) := by rw [eβ]; exact ap_fst hβ
        rw [ea1, cN, upd_ne (show b + 18 ≠ b + N + 93 by omega), q18, eN, nI_1, upd_ne (show b + 23 ≠ b + 18 by omega), upd_ne (show b + 23 ≠ b + N + 93 by omega), q23, show b + N + 93 = b + (93 + N) by omega, sB_upd, sB_upd, sB_upd, sB_upd]
        rw [eN] at hr
        have s1 : SR (upd f 18 (nI (N + 1))) rb (lN (apN X β)) (upd (upd (sB b m) (93 + N) (f 19)) 18 (nI (N + 1))) := by
          refine SR_store h (rowR_app hX hr (by omega) hβ (fun k hk hk2 => ?_) ?_) (fun k hk hk2 => ?_) upd_eq
          · rw [upd_ne (by omega), upd_ne (by omega)]
          · rw [upd_ne (by omega), upd_eq, eβ]
          · rw [upd_ne hk2, upd_ne (by omega)]
        refine ⟨SR_fcongr (f := upd (upd (upd f 18 (nI (N + 1))) 23 (f 23 + 1)) 19 (-1)) (fun k hk => ?_) (SR_wait bm (SR_u s1 (by decide) (by omega) (by omega) (by omega) (by omega))), fr_upd (fr_upd (fr_upd (fr_upd (fr_rf b m) (by omega)) (by decide)) (by decide)) (by decide), Or.inr rfl⟩
        rcases k29 hk with rfl | rfl | rfl | rfl | rfl | rfl | rfl | rfl | rfl | rfl | rfl | rfl | rfl | rfl | rfl | rfl | rfl | rfl | rfl | rfl | rfl | rfl | rfl | rfl | rfl | rfl | rfl | rfl | rfl <;> rfl
theorem take_rel {f : Nat → Int32} {rb sb : Int64} {g m t : Nat → Int32} {b β : Nat} (hβ : β ≤ 1) (h : SR f rb sb (sB b m)) : SR (f_X6_takeRawBit f rb sb (nI β)).1 (f_X6_takeRawBit f rb sb (nI β)).2.1 (f_X6_takeRawBit f rb sb (nI β)).2.2 (sB b (mTk g m t b (nI β))) ∧ fr b m (mTk g m t b (nI β)) ∧ ((f_X6_takeRawBit f rb sb (nI β)).1 23 = f 23 ∨ (f_X6_takeRawBit f rb sb (nI β)).1 23 = f 23 + 1) := by
  have q20 : m (b + 20) = f 20 := SR_at h 20 (by decide) (by decide) (by decide) (by decide)
  have q21 : m (b + 21) = f 21 := SR_at h 21 (by decide) (by decide) (by decide) (by decide)
  obtain ⟨bit, hbit⟩ : ∃ bit, bit = nI β := ⟨_, rfl⟩
  have hb : bit = 0 ∨ bit = 1 := by
    rw [hbit]
    have hβ' : β = 0 ∨ β = 1 := by omega
    rcases hβ' with rfl | rfl
    · exact Or.inl rfl
    · exact Or.inr rfl
  obtain ⟨m2, hm2⟩ : ∃ m2, m2 = upd (upd m (b + 20) (f 20 + 1)) (b + 21) (f 21 + bit) := ⟨_, rfl⟩
  obtain ⟨f2, hf2⟩ : ∃ f2, f2 = upd (upd f 20 (f 20 + 1)) 21 (f 21 + bit) := ⟨_, rfl⟩
  have s2 : SR f2 rb sb (sB b m2) := by
    rw [hf2, hm2, sB_upd, sB_upd]
    exact SR_u (SR_u h (by decide) (by omega) (by omega) (by omega) (by omega)) (by decide) (by omega) (by omega) (by omega) (by omega)
  have F2 : fr b m m2 := by rw [hm2]; exact fr_upd (fr_upd (fr_rf b m) (by decide)) (by decide)
  have f28 : f2 28 = f 28 := by rw [hf2]; rfl
  obtain ⟨s3, F3⟩ := keeps_rel (g := g) (t := t) hβ s2
  rw [← hbit, f28] at s3
  rw [← hbit] at F3
  obtain ⟨A, hA⟩ : ∃ A, A = f_X0_append rb (f 28) bit := ⟨_, rfl⟩
  rw [← hA] at s3
  obtain ⟨m3, hm3⟩ : ∃ m3, m3 = f_X10_keeps g m2 t b bit := ⟨_, rfl⟩
  rw [← hm3] at s3 F3
  obtain ⟨f3, hf3⟩ : ∃ f3, f3 = upd f2 28 A.2 := ⟨_, rfl⟩
  rw [← hf3] at s3
  have eM : mTk g m t b bit = (
    if (m3 (b + 11)) = 2 then m3 else
    zl (f_X10_tests g m3 t b bit) fun u32 =>
    if u32.1 ≤ 0 then
      if (u32.2 (b + 11)) = 0 then
        zl (upd u32.2 (b + 13) ((u32.2 (b + 13)) - 1)) fun m42 =>
        zl (
          if (m42 (b + 13)) = 0 then
            1
          else
            0
          : Int32) fun v45 =>
        zl (upd m42 (b + 11) v45) fun m49 =>
        m49
      else
        zl (f_X10_takesOne g u32.2 t b bit) fun u40 =>
        u40
    else
      zl (upd u32.2 (b + 11) 2) fun m51 =>
      zl (upd m51 (b + 12) u32.1) fun m53 =>
      zl (upd m53 (b + 26) ((m53 (b + 26)) + 1)) fun m55 =>
      zl (upd m55 (b + 19) (-1)) fun m57 =>
      m57) := by
    unfold mTk
    refine (zl_c (y := upd m (b + 20) (f 20 + 1)) (by rw [q20])).trans ?_
    refine (zl_c (y := m2) (by rw [upd_ne (show b + 21 ≠ b + 20 by omega), q21, hm2])).trans ?_
    exact zl_c hm3.symm
  have q11 : m3 (b + 11) = f 11 := by rw [SR_at s3 11 (by decide) (by decide) (by decide) (by decide), hf3, hf2]; rfl
  rw [← hbit, eM, q11, fe_X6_takeRawBit]
  rw [zl_c (show f_X0_append rb (f 28) bit = A from hA.symm)]
  by_cases c : f 11 = 2
  · rw [if_pos c, if_pos c]
    refine ⟨SR_fcongr (fun k hk => ?_) s3, fr_tr F2 F3, Or.inl rfl⟩
    rw [hf3, hf2]
  · rw [if_neg c, if_neg c]
    obtain ⟨R, S1, S2, S3, hR, hS, hcode, hS1, s4, F4⟩ := tests_rel (g := g) (t := t) hb s3
    have g11 : f3 11 = f 11 := by rw [hf3, hf2]; rfl
    have g12 : f3 12 = f 12 := by rw [hf3, hf2]; rfl
    have g13 : f3 13 = f 13 := by rw [hf3, hf2]; rfl
    have g14 : f3 14 = f 14 := by rw [hf3, hf2]; rfl
    have g15 : f3 15 = f 15 := by rw [hf3, hf2]; rfl
    have g16 : f3 16 = f 16 := by rw [hf3, hf2]; rfl
    have g17 : f3 17 = f 17 := by rw [hf3, hf2]; rfl
    have g9 : f3 9 = f 9 := by rw [hf3, hf2]; rfl
    have g10 : f3 10 = f 10 := by rw [hf3, hf2]; rfl
    have g26 : f3 26 = f 26 := by rw [hf3, hf2]; rfl
    have g27 : f3 27 = f 27 := by rw [hf3, hf2]; rfl
    have g23 : f3 23 = f 23 := by rw [hf3, hf2]; rfl
    rw [g11, g12, g13, g14, g15, g16, g17] at hR
    rw [g11, g12, g13, g16, g17, g10] at hS
    rw [g9] at hcode
    rw [g27] at s4
    obtain ⟨L, hL⟩ : ∃ L, L = (if f 27 < R then R else f 27) := ⟨_, rfl⟩
    rw [← hL] at s4
    obtain ⟨code, hcd⟩ : ∃ code, code = (f_X10_tests g m3 t b bit).1 := ⟨_, rfl⟩
    obtain ⟨m4, hm4⟩ : ∃ m4, m4 = (f_X10_tests g m3 t b bit).2 := ⟨_, rfl⟩
    rw [← hm4] at s4 F4
    rw [← hcd] at hcode
    have hT : f_X10_tests g m3 t b bit = (code, m4) := by rw [hcd, hm4]
    obtain ⟨f4, hf4⟩ : ∃ f4, f4 = upd (upd (upd (upd (upd f3 14 R) 15 bit) 27 L) 16 S2) 17 S3 := ⟨_, rfl⟩
    rw [← hf4] at s4
    rw [zl_c hT]
    dsimp only
    have r11 : m4 (b + 11) = f 11 := by rw [SR_at s4 11 (by decide) (by decide) (by decide) (by decide), hf4]; exact g11
    have r26 : m4 (b + 26) = f 26 := by rw [SR_at s4 26 (by decide) (by decide) (by decide) (by decide), hf4]; exact g26
    have F : fr b m m4 := fr_tr (fr_tr F2 F3) F4
    have al : ∀ code : Int32, SR (upd (upd (upd (upd f4 11 2) 12 code) 26 (f 26 + 1)) 19 (-1)) A.1 sb (sB b (upd (upd (upd (upd m4 (b + 11) 2) (b + 12) code) (b + 26) (f 26 + 1)) (b + 19) (-1))) := fun code => by
      rw [sB_upd, sB_upd, sB_upd, sB_upd]
      exact SR_wait (Or.inl rfl) (SR_u (SR_alarm s4) (by decide) (by omega) (by omega) (by omega) (by omega))
    have alF : ∀ code : Int32, fr b m (upd (upd (upd (upd m4 (b + 11) 2) (b + 12) code) (b + 26) (f 26 + 1)) (b + 19) (-1)) := fun code => fr_upd (fr_upd (fr_upd (fr_upd F (by decide)) (by decide)) (by decide)) (by decide)
    have alE : ∀ code : Int32, (zl (upd m4 (b + 11) 2) fun m51 => zl (upd m51 (b + 12) code) fun m53 => zl (upd m53 (b + 26) ((m53 (b + 26)) + 1)) fun m55 => zl (upd m55 (b + 19) (-1)) fun m57 => m57) = upd (upd (upd (upd m4 (b + 11) 2) (b + 12) code) (b + 26) (f 26 + 1)) (b + 19) (-1) := fun code => by
      refine (zl_c rfl).trans ?_
      refine (zl_c rfl).trans ?_
      refine (zl_c (y := upd (upd (upd m4 (b + 11) 2) (b + 12) code) (b + 26) (f 26 + 1)) ?_).trans ?_
      · rw [upd_ne (show b + 26 ≠ b + 12 by omega), upd_ne (show b + 26 ≠ b + 11 by omega), r26]
      exact zl_c rfl
    obtain ⟨V7, hV7⟩ : ∃ V7, V7 = (if f 11 = 1 then (1 : Int32) else 0) := ⟨_, rfl⟩
    rw [zl_c hV7.symm]
    have fin : ∀ {J0 J1 J2 J3 J4 J5 : Int32} {F5 : Nat → Int32} {sb' : Int64}, f_X1_judge (f 11) (f 12) (f 13) (f 14) (f 15) (f 16) (f 17) (f 7) (f 8) (f 9) (f 10) bit = (J0, J1, J2, J3, J4, J5) → J3 = R → J4 = S2 → J5 = S3 → (if J0 = 2 then (upd (upd (upd (upd (upd (upd (upd (upd (upd (upd (upd (upd (upd f 11 J0) 12 J1) 13 J2) 14 R) 15 bit) 16 S2) 17 S3) 19 (-1)) 20 ((f 20) + 1)) 21 ((f 21) + bit)) 26 ((f 26) + 1)) 27 L) 28 A.2, A.1, sb) else if V7 = 0 then (upd (upd (upd (upd (upd (upd (upd (upd (upd (upd (upd f 11 J0) 12 J1) 13 J2) 14 R) 15 bit) 16 S2) 17 S3) 20 ((f 20) + 1)) 21 ((f 21) + bit)) 27 L) 28 A.2, A.1, sb) else zl (f_X6_pairUp (upd (upd (upd (upd (upd (upd (upd (upd (upd (upd (upd f 11 J0) 12 J1) 13 J2) 14 R) 15 bit) 16 S2) 17 S3) 20 ((f 20) + 1)) 21 ((f 21) + bit)) 27 L) 28 A.2) A.1 sb bit) fun u21 => (u21.1, A.1, u21.2)) = (F5, A.1, sb') → (zl (f_X1_judge (f 11) (f 12) (f 13) (f 14) (f 15) (f 16) (f 17) (f 7) (f 8) (f 9) (f 10) bit) fun u11 =>
        zl (if (f 27) < u11.2.2.2.1 then u11.2.2.2.1 else (f 27) : Int32) fun y13 =>
        if u11.1 = 2 then
          (upd (upd (upd (upd (upd (upd (upd (upd (upd (upd (upd (upd (upd f 11 u11.1) 12 u11.2.1) 13 u11.2.2.1) 14 u11.2.2.2.1) 15 bit) 16 u11.2.2.2.2.1) 17 u11.2.2.2.2.2) 19 (-1)) 20 ((f 20) + 1)) 21 ((f 21) + bit)) 26 ((f 26) + 1)) 27 y13) 28 A.2, A.1, sb)
        else
          if V7 = 0 then
            (upd (upd (upd (upd (upd (upd (upd (upd (upd (upd (upd f 11 u11.1) 12 u11.2.1) 13 u11.2.2.1) 14 u11.2.2.2.1) 15 bit) 16 u11.2.2.2.2.1) 17 u11.2.2.2.2.2) 20 ((f 20) + 1)) 21 ((f 21) + bit)) 27 y13) 28 A.2, A.1, sb)
          else
            zl (f_X6_pairUp (upd (upd (upd (upd (upd (upd (upd (upd (upd (upd (upd f 11 u11.1) 12 u11.2.1) 13 u11.2.2.1) 14 u11.2.2.2.1) 15 bit) 16 u11.2.2.2.2.1) 17 u11.2.2.2.2.2) 20 ((f 20) + 1)) 21 ((f 21) + bit)) 27 y13) 28 A.2) A.1 sb bit) fun u21 =>
            (u21.1, A.1, u21.2)) = (F5, A.1, sb') := by
      intro J0 J1 J2 J3 J4 J5 F5 sb' hj h3 h4 h5 hh
      subst h3 h4 h5
      refine (zl_c hj).trans ?_
      refine (zl_c (y := L) hL.symm).trans ?_
      exact hh
    have hJ : f_X1_judge (f 11) (f 12) (f 13) (f 14) (f 15) (f 16) (f 17) (f 7) (f 8) (f 9) (f 10) bit = (
        if R ≤ f 9 then
          if S1 = 0 then
            if f 11 = 0 then ((if f 13 + 1 < 64 then f 11 else 1), f 12, f 13 + 1, R, S2, S3)
            else (f 11, f 12, f 13, R, S2, S3)
          else (2, 2, f 13, R, S2, S3)
        else (2, 1, f 13, R, S2, S3)) := by
      rw [fe_X1_judge]
      refine (zl_c hR.symm).trans ?_
      refine (zl_c hS.symm).trans ?_
      dsimp only
      unfold f_X1_countInStartUp
      rfl
    by_cases c1 : R ≤ f 9
    · rw [if_pos c1] at hJ hcode
      by_cases c2 : S1 = 0
      · rw [if_pos c2] at hJ hcode
        rw [if_pos (show code ≤ 0 by rw [hcode]; decide)]
        by_cases c3 : f 11 = 0
        · rw [if_pos c3] at hJ
          rw [if_pos (show m4 (b + 11) = 0 from r11.trans c3)]
          have s5 := SR_start (by rw [hf4]; exact g11.trans c3) s4
          have e13 : f4 13 = f 13 := by rw [hf4]; exact g13
          have e11 : f4 11 = f 11 := by rw [hf4]; exact g11
          rw [e13, e11] at s5
          have hne : ¬ (if f 13 + 1 < 64 then f 11 else (1 : Int32)) = 2 := by
            rw [c3]; split <;> decide
          rw [fin hJ rfl rfl rfl ((if_neg hne).trans (if_pos (by rw [hV7, if_neg (show ¬ f 11 = 1 by rw [c3]; decide)])))]
          have ez : (zl (upd m4 (b + 13) ((m4 (b + 13)) - 1)) fun m42 => zl (if (m42 (b + 13)) = 0 then 1 else 0 : Int32) fun v45 => zl (upd m42 (b + 11) v45) fun m49 => m49) = upd (upd m4 (b + 13) (m4 (b + 13) - 1)) (b + 11) (if m4 (b + 13) - 1 = 0 then 1 else 0) := by
            refine (zl_c rfl).trans ?_
            refine (zl_c (by rw [upd_eq])).trans ?_
            exact zl_c rfl
          rw [ez]
          refine ⟨?_, fr_upd (fr_upd F (by decide)) (by decide), Or.inl rfl⟩
          rw [sB_upd, sB_upd]
          refine SR_fcongr (fun k hk => ?_) s5
          rw [hf4, hf3, hf2]
          rcases k29 hk with rfl | rfl | rfl | rfl | rfl | rfl | rfl | rfl | rfl | rfl | rfl | rfl | rfl | rfl | rfl | rfl | rfl | rfl | rfl | rfl | rfl | rfl | rfl | rfl | rfl | rfl | rfl | rfl | rfl <;> rfl
        · have c4 : f 11 = 1 := by
            rcases h.2.2.2.2.2.2.2.2.1 with e | e | e
            · exact absurd e c3
            · exact e
            · exact absurd e c
          rw [if_neg c3] at hJ
          rw [if_neg (show ¬ m4 (b + 11) = 0 from fun e => c3 (r11.symm.trans e))]
          obtain ⟨fc, hfc⟩ : ∃ fc, fc = (upd (upd (upd (upd (upd (upd (upd (upd (upd (upd (upd f 11 (f 11)) 12 (f 12)) 13 (f 13)) 14 R) 15 bit) 16 S2) 17 S3) 20 (f 20 + 1)) 21 (f 21 + bit)) 27 L) 28 A.2) := ⟨_, rfl⟩
          have s5 : SR fc A.1 sb (sB b m4) := by
            refine SR_fcongr (fun k hk => ?_) s4
            rw [hfc, hf4, hf3, hf2]
            rcases k29 hk with rfl | rfl | rfl | rfl | rfl | rfl | rfl | rfl | rfl | rfl | rfl | rfl | rfl | rfl | rfl | rfl | rfl | rfl | rfl | rfl | rfl | rfl | rfl | rfl | rfl | rfl | rfl | rfl | rfl <;> rfl
          obtain ⟨p1, p2, p3⟩ := pair_rel (g := g) (t := t) hb s5
          have e23 : fc 23 = f 23 := by rw [hfc]; rfl
          rw [e23] at p3
          rw [fin (F5 := (f_X6_pairUp fc A.1 sb bit).1) (sb' := (f_X6_pairUp fc A.1 sb bit).2) hJ rfl rfl rfl ((if_neg c).trans ((if_neg (by rw [hV7, if_pos c4]; decide)).trans (by rw [← hfc]; exact zl_c rfl)))]
          rw [zl_id]
          exact ⟨p1, fr_tr F p2, p3⟩
      · have c2' : S1 = 1 := hS1.resolve_left c2
        rw [if_neg c2] at hJ hcode
        rw [if_neg (show ¬ code ≤ 0 by rw [hcode]; decide), alE, hcode]
        rw [fin hJ rfl rfl rfl (if_pos rfl)]
        refine ⟨SR_fcongr (fun k hk => ?_) (al 2), alF 2, Or.inl rfl⟩
        rw [hf4, hf3, hf2]
        rcases k29 hk with rfl | rfl | rfl | rfl | rfl | rfl | rfl | rfl | rfl | rfl | rfl | rfl | rfl | rfl | rfl | rfl | rfl | rfl | rfl | rfl | rfl | rfl | rfl | rfl | rfl | rfl | rfl | rfl | rfl <;> rfl
    · rw [if_neg c1] at hJ hcode
      rw [if_neg (show ¬ code ≤ 0 by rw [hcode]; decide), alE, hcode]
      rw [fin hJ rfl rfl rfl (if_pos rfl)]
      refine ⟨SR_fcongr (fun k hk => ?_) (al 1), alF 1, Or.inl rfl⟩
      rw [hf4, hf3, hf2]
      rcases k29 hk with rfl | rfl | rfl | rfl | rfl | rfl | rfl | rfl | rfl | rfl | rfl | rfl | rfl | rfl | rfl | rfl | rfl | rfl | rfl | rfl | rfl | rfl | rfl | rfl | rfl | rfl | rfl | rfl | rfl <;> rfl
theorem samples_rel {f : Nat → Int32} {rb sb : Int64} {g m t : Nat → Int32} {b : Nat} (h : SR f rb sb (sB b m)) : ∃ F v, f_X6_nextRawBit f rb sb = F ∧ f_X6_takeRawBit F.2 rb sb F.1 = v ∧ SR v.1 v.2.1 v.2.2 (sB b (f_X10_samples g m t b)) ∧ fr b m (f_X10_samples g m t b) ∧ (v.1 23 = f 23 ∨ v.1 23 = f 23 + 1) := by
  obtain ⟨F, M6, e1, e2, s1, F1, e23⟩ := next_rel (g := g) (t := t) h
  obtain ⟨β, hβ, eβ⟩ : ∃ β, β ≤ 1 ∧ clBit F = nI β := by
    unfold clBit
    split
    · exact ⟨0, by decide, rfl⟩
    · exact ⟨1, by decide, rfl⟩
  rw [eβ] at e1 e2
  obtain ⟨s2, F2, e3⟩ := take_rel (g := g) (t := t) hβ s1
  refine ⟨(nI β, F), f_X6_takeRawBit F rb sb (nI β), e1, rfl, ?_⟩
  rw [e2]
  rw [e23] at e3
  exact ⟨s2, fr_tr F1 F2, e3⟩
