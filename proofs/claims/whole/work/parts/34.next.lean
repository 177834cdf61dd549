theorem rem_eq {v d : Int32} (h : 0 < d) : f_X9_remainder v d = v - v / d * d := by
  unfold f_X9_remainder
  rw [if_neg (Int32.not_le.mpr h)]
def nzI (x : Int32) : Int32 := x * 75 - x * 75 / 65537 * 65537
theorem nzI_IN {x : Int32} (h : IN x 65536) : IN (nzI x) 65536 := by
  obtain ⟨a, ha, rfl, -⟩ := IN_get h
  have e : nzI (nI a) = nI (a * 75 % 65537) := by
    show nI a * nI 75 - nI a * nI 75 / nI 65537 * nI 65537 = _
    rw [pk_mul, pk_rem (by omega) (by decide) (by decide)]
  rw [e]
  exact IN_nI (by have := Nat.mod_lt (a * 75) (show 0 < 65537 by decide); omega) (by decide)
theorem runs_rel {f : Nat → Int32} {rb sb : Int64} {g m t : Nat → Int32} {b : Nat} (h : SR f rb sb (sB b m)) (r : Nat) (hr : r = 0 ∨ r = 1) : SR (upd (upd f 0 (nzI (f 0))) (5 + r) (f_X4_advance (f (1 + r)) (f (3 + r)) (f (5 + r)) (f 7) (nzI (f 0)))) rb sb (sB b (f_X10_runs g m t b r)) ∧ fr b m (f_X10_runs g m t b r) := by
  have q0 : m b = f 0 := SR_at h 0 (by decide) (by decide) (by decide) (by decide)
  have q7 : m (b + 7) = f 7 := SR_at h 7 (by decide) (by decide) (by decide) (by decide)
  have qp : m (b + r + 1) = f (1 + r) := by
    rw [show b + r + 1 = b + (1 + r) by omega]
    exact SR_at h _ (by omega) (by omega) (by omega) (by omega)
  have qj : m (b + r + 3) = f (3 + r) := by
    rw [show b + r + 3 = b + (3 + r) by omega]
    exact SR_at h _ (by omega) (by omega) (by omega) (by omega)
  have qh : m (b + r + 5) = f (5 + r) := by
    rw [show b + r + 5 = b + (5 + r) by omega]
    exact SR_at h _ (by omega) (by omega) (by omega) (by omega)
  have hp : 0 < f (1 + r) := by rcases hr with rfl | rfl; exact h.2.2.2.2.2.2.1.1; exact h.2.2.2.2.2.2.1.2.1
  have hj : 0 < f (3 + r) + 1 := by rcases hr with rfl | rfl; exact h.2.2.2.2.2.2.1.2.2.1; exact h.2.2.2.2.2.2.1.2.2.2
  have e : f_X10_runs g m t b r = upd (upd m (b + 0) (nzI (f 0))) (b + (5 + r)) (f_X4_advance (f (1 + r)) (f (3 + r)) (f (5 + r)) (f 7) (nzI (f 0))) := by
    unfold f_X10_runs f_X10_asks f_X4_advance
    simp only [zl]
    have en : m b * 75 - m b * 75 / 65537 * 65537 = nzI (f 0) := by rw [q0]; rfl
    rw [en, upd_eq, upd_ne (show b + r + 3 ≠ b by omega), upd_ne (show b + r + 5 ≠ b by omega), upd_ne (show b + r + 1 ≠ b by omega), qp, qj, qh, q7, rem_eq hj, rem_eq hp, Int32.add_assoc, show b + r + 5 = b + (5 + r) by omega]
    rfl
  rw [e]
  refine ⟨?_, fr_upd (fr_upd (fr_rf b m) (by decide)) (by omega)⟩
  rw [sB_upd, sB_upd]
  have s1 : SR (upd f 0 (nzI (f 0))) rb sb (upd (sB b m) 0 (nzI (f 0))) := SR_u h (by decide) (fun _ => nzI_IN h.2.2.2.2.2.2.2.2.2.2.1) (by omega) (by omega) (by omega)
  rcases hr with rfl | rfl
  · exact SR_u s1 (by decide) (by omega) (by omega) (by omega) (by omega)
  · exact SR_u s1 (by decide) (by omega) (by omega) (by omega) (by omega)
theorem high_eq {f : Nat → Int32} {rb sb : Int64} {g m t : Nat → Int32} {b : Nat} (h : SR f rb sb (sB b m)) : f_X10_isHigh g m t b 0 = f_X4_isHigh (f 1) (f 3) (f 5) ∧ f_X10_isHigh g m t b 1 = f_X4_isHigh (f 2) (f 4) (f 6) := by
  have q1 : m (b + 1) = f 1 := SR_at h 1 (by decide) (by decide) (by decide) (by decide)
  have q2 : m (b + 2) = f 2 := SR_at h 2 (by decide) (by decide) (by decide) (by decide)
  have q5 : m (b + 5) = f 5 := SR_at h 5 (by decide) (by decide) (by decide) (by decide)
  have q6 : m (b + 6) = f 6 := SR_at h 6 (by decide) (by decide) (by decide) (by decide)
  unfold f_X10_isHigh f_X4_isHigh
  rw [← q1, ← q2, ← q5, ← q6]
  exact ⟨rfl, rfl⟩
/-- the model's sample: what is done with the raw bit -/
def mTk (g m t : Nat → Int32) (b : Nat) (v19 : Int32) : Nat → Int32 :=
  zl (upd m (b + 20) ((m (b + 20)) + 1)) fun m23 =>
  zl (upd m23 (b + 21) ((m23 (b + 21)) + v19)) fun m25 =>
  zl (f_X10_keeps g m25 t b v19) fun u27 =>
  if (u27 (b + 11)) = 2 then
    u27
  else
    zl (f_X10_tests g u27 t b v19) fun u32 =>
    if u32.1 ≤ 0 then
      if (u32.2 (b + 11)) = 0 then
        zl (upd u32.2 (b + 13) ((u32.2 (b + 13)) - 1)) fun m42 =>
        zl (
          if (m42 (b + 13)) = 0 then
            1
          else
            0
          : Int32) fun v45 =>
        zl (upd m42 (b + 11) v45) fun m49 =>
        m49
      else
        zl (f_X10_takesOne g u32.2 t b v19) fun u40 =>
        u40
    else
      zl (upd u32.2 (b + 11) 2) fun m51 =>
      zl (upd m51 (b + 12) u32.1) fun m53 =>
      zl (upd m53 (b + 26) ((m53 (b + 26)) + 1)) fun m55 =>
      zl (upd m55 (b + 19) (-1)) fun m57 =>
      m57
theorem zl_c {α β : Type} {x y : α} {B : α → β} (h : x = y) : zl x B = B y := by subst h; rfl
theorem samples_at {g m t M1 M6 : Nat → Int32} {b : Nat} {l h0 h1 bit : Int32} (e1 : f_X10_runs g m t b 0 = M1) (e2 : f_X10_locks g M1 t b = l) (e3 : (if l = 0 then zl (f_X10_runs g M1 t b 1) (fun u9 => u9) else zl (upd M1 (b + 6) ((M1 (b + 5)) - (M1 (b + 5)) / (M1 (b + 2)) * (M1 (b + 2)))) (fun m11 => m11)) = M6) (e4 : f_X10_isHigh g M6 t b 0 = h0) (e5 : f_X10_isHigh g M6 t b 1 = h1) (e6 : (if h0 = h1 then (0 : Int32) else 1) = bit) : f_X10_samples g m t b = mTk g M6 t b bit := by
  rw [fe_X10_samples]
  refine (zl_c e1).trans ?_
  refine (zl_c e2).trans ?_
  refine (zl_c e3).trans ?_
  refine (zl_c e4).trans ?_
  refine (zl_c e5).trans ?_
  refine (zl_c e6).trans ?_
  rfl
def clBit (f : Nat → Int32) : Int32 := if f_X4_isHigh (f 1) (f 3) (f 5) = f_X4_isHigh (f 2) (f 4) (f 6) then 0 else 1
theorem next_at {f f1 F : Nat → Int32} {rb sb : Int64} {l : Int32} (h1 : f1 = upd (upd f 0 (nzI (f 0))) 5 (f_X4_advance (f 1) (f 3) (f 5) (f 7) (nzI (f 0)))) (h2 : f_X6_locksOn f1 rb sb = l) (h3 : F = if l = 0 then upd (upd f1 0 (nzI (f1 0))) 6 (f_X4_advance (f1 2) (f1 4) (f1 6) (f1 7) (nzI (f1 0))) else upd f1 6 (f_X4_lockOn (f1 2) (f1 4) (f1 6) (f1 1) (f1 3) (f1 5))) : f_X6_nextRawBit f rb sb = (clBit F, F) := by
  rw [fe_X6_nextRawBit]
  refine (zl_c (y := (nzI (f 0), upd f 0 (nzI (f 0)))) rfl).trans ?_
  refine (zl_c (y := f_X4_advance (f 1) (f 3) (f 5) (f 7) (nzI (f 0))) rfl).trans ?_
  dsimp only
  rw [← h1]
  refine (zl_c h2).trans ?_
  have h4 : (if l = 0 then
      zl (f_X6_nextNoise f1 rb sb) fun u11 =>
      zl (f_X4_advance (u11.2 2) (u11.2 4) (u11.2 6) ((upd f 0 (nzI (f 0))) 7) u11.1) fun u13 =>
      (upd u11.2 6 u13)
    else
      zl (f_X4_lockOn ((upd f 0 (nzI (f 0))) 2) ((upd f 0 (nzI (f 0))) 4) ((upd f 0 (nzI (f 0))) 6) ((upd f 0 (nzI (f 0))) 1) ((upd f 0 (nzI (f 0))) 3) (f_X4_advance (f 1) (f 3) (f 5) (f 7) (nzI (f 0)))) fun u15 =>
      (upd f1 6 u15)) = F := by
    rw [h3]
    by_cases c : l = 0
    · rw [if_pos c, if_pos c]
      refine (zl_c (y := (nzI (f1 0), upd f1 0 (nzI (f1 0)))) rfl).trans ?_
      refine (zl_c (y := f_X4_advance (f1 2) (f1 4) (f1 6) (f1 7) (nzI (f1 0))) ?_).trans rfl
      rw [h1]
      rfl
    · rw [if_neg c, if_neg c]
      refine (zl_c (y := f_X4_lockOn (f1 2) (f1 4) (f1 6) (f1 1) (f1 3) (f1 5)) ?_).trans rfl
      rw [h1]
      rfl
  refine (zl_c h4).trans ?_
  refine (zl_c (y := f_X4_isHigh (F 1) (F 3) (F 5)) rfl).trans ?_
  refine (zl_c (y := f_X4_isHigh (F 2) (F 4) (F 6)) rfl).trans ?_
  unfold clBit
  split <;> rfl
theorem next_rel {f : Nat → Int32} {rb sb : Int64} {g m t : Nat → Int32} {b : Nat} (h : SR f rb sb (sB b m)) : ∃ F M6, f_X6_nextRawBit f rb sb = (clBit F, F) ∧ f_X10_samples g m t b = mTk g M6 t b (clBit F) ∧ SR F rb sb (sB b M6) ∧ fr b m M6 ∧ F 23 = f 23 := by
  obtain ⟨A, FA⟩ := runs_rel (g := g) (t := t) h 0 (Or.inl rfl)
  obtain ⟨f1, hf1⟩ : ∃ f1, f1 = upd (upd f 0 (nzI (f 0))) 5 (f_X4_advance (f 1) (f 3) (f 5) (f 7) (nzI (f 0))) := ⟨_, rfl⟩
  obtain ⟨M1, hM1⟩ : ∃ M1, M1 = f_X10_runs g m t b 0 := ⟨_, rfl⟩
  have A' : SR f1 rb sb (sB b M1) := by rw [hf1, hM1]; exact A
  rw [← hM1] at FA
  have hl := locks_eq (g := g) (tm := t) A'
  have mb : ∀ {F M : Nat → Int32}, SR F rb sb (sB b M) → (if f_X10_isHigh g M t b 0 = f_X10_isHigh g M t b 1 then (0 : Int32) else 1) = clBit F := fun {F M} hF => by
    unfold clBit
    rw [(high_eq (g := g) (t := t) hF).1, (high_eq (g := g) (t := t) hF).2]
  by_cases c : f_X6_locksOn f1 rb sb = 0
  · obtain ⟨B, FB⟩ := runs_rel (g := g) (t := t) A' 1 (Or.inr rfl)
    obtain ⟨f2, hf2⟩ : ∃ f2, f2 = upd (upd f1 0 (nzI (f1 0))) 6 (f_X4_advance (f1 2) (f1 4) (f1 6) (f1 7) (nzI (f1 0))) := ⟨_, rfl⟩
    obtain ⟨M6, hM6⟩ : ∃ M6, M6 = f_X10_runs g M1 t b 1 := ⟨_, rfl⟩
    have B' : SR f2 rb sb (sB b M6) := by rw [hf2, hM6]; exact B
    rw [← hM6] at FB
    refine ⟨f2, M6, next_at hf1 c (by rw [if_pos rfl]; exact hf2), samples_at hM1.symm (hl.trans c) (by rw [if_pos rfl, hM6]; exact zl_c rfl) rfl rfl (mb B'), B', fr_tr FA FB, by rw [hf2, hf1]; rfl⟩
  · obtain ⟨ph, hph⟩ : ∃ ph, ph = f_X4_lockOn (f1 2) (f1 4) (f1 6) (f1 1) (f1 3) (f1 5) := ⟨_, rfl⟩
    have q2 : M1 (b + 2) = f1 2 := SR_at A' 2 (by decide) (by decide) (by decide) (by decide)
    have q5 : M1 (b + 5) = f1 5 := SR_at A' 5 (by decide) (by decide) (by decide) (by decide)
    have ep : f1 5 - f1 5 / f1 2 * f1 2 = ph := by
      rw [hph, fe_X4_lockOn]
      exact ((zl_id _).trans (rem_eq A'.2.2.2.2.2.2.1.2.1)).symm
    have B' : SR (upd f1 6 ph) rb sb (sB b (upd M1 (b + 6) ph)) := by
      rw [sB_upd]
      exact SR_u A' (by decide) (by omega) (by omega) (by omega) (by omega)
    exact ⟨upd f1 6 ph, upd M1 (b + 6) ph, next_at hf1 rfl (by rw [if_neg c, hph]), samples_at hM1.symm hl (by rw [if_neg c, q2, q5, ep]; exact zl_c rfl) rfl rfl (mb B'), B', fr_upd FA (by decide), by rw [hf1]; rfl⟩
