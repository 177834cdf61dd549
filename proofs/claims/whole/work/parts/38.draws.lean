theorem dw_told (g m t : Nat → Int32) (slot X N M : Nat) (hM : M ≤ N) (hN : N ≤ 64) (hM2 : M ≤ 24) (hX : X < 2 ^ N) (hb : ∀ k, k < N → m (157 * slot + (93 + k)) = nI (X / 2 ^ (N - 1 - k) % 2)) : ∀ (q k : Nat), k + q = 26 → k ≤ M → lp54_X10_draws g m t slot (nI M) q k (nI (X / 2 ^ (N - k))) = lp88_X10_draws g m t slot (nI M) 66 M (nI (X / 2 ^ (N - M))) m := by
  intro q
  induction q with
  | zero => intro k h1 h2; omega
  | succ q ih =>
    intro k h1 h2
    rw [lp54_X10_draws_s, nI_clamp (by omega)]
    by_cases c : M ≤ k
    · have : k = M := by omega
      subst this
      rw [if_pos (nI_le c (by omega))]
    · rw [if_neg (nI_ge (by omega) (by omega)), show 157 * slot + k + 93 = 157 * slot + (93 + k) by omega, hb k (by omega)]
      have e : (2 : Int32) * nI (X / 2 ^ (N - k)) + nI (X / 2 ^ (N - 1 - k) % 2) = nI (X / 2 ^ (N - (k + 1))) := by
        have e0 : (2 : Int32) * nI (X / 2 ^ (N - k)) = nI (2 * (X / 2 ^ (N - k))) := pk_mul 2 _
        rw [e0, nI_add, bit_step X (N - (k + 1)), show N - (k + 1) + 1 = N - k by omega, show N - 1 - k = N - (k + 1) by omega]
      rw [e]
      exact ih (k + 1) (by omega) (by omega)
theorem dw_move (g m t : Nat → Int32) (slot N M : Nat) (tol : Int32) (h1M : 1 ≤ M) (hM : M ≤ N) (hN : N ≤ 64) (h18 : m (157 * slot + 18) = nI N) : ∀ (q k : Nat) (mx : Nat → Int32), k + q ≥ 66 → M ≤ k → k ≤ N → (∀ j, mx j = if 157 * slot + 93 ≤ j ∧ j < 157 * slot + 93 + (k - M) then m (j + M) else m j) → ∃ m', lp88_X10_draws g m t slot (nI M) q k tol mx = (tol, upd (upd m' (157 * slot + 18) (nI (N - M))) (157 * slot + 25) (m (157 * slot + 25) + nI M)) ∧ ∀ j, m' j = if 157 * slot + 93 ≤ j ∧ j < 157 * slot + 93 + (N - M) then m (j + M) else m j := by
  intro q
  induction q with
  | zero => intro k mx h1 h2 h3; omega
  | succ q ih =>
    intro k mx h1 h2 h3 h4
    rw [lp88_X10_draws_s]
    have e18 : mx (157 * slot + 18) = nI N := by rw [h4, if_neg (by omega), h18]
    have e25 : mx (157 * slot + 25) = m (157 * slot + 25) := by rw [h4, if_neg (by omega)]
    rw [e18]
    by_cases c : N ≤ k
    · have : k = N := by omega
      subst this
      rw [if_pos (nI_le c (by omega))]
      refine ⟨mx, ?_, h4⟩
      refine (zl_c (y := upd mx (157 * slot + 18) (nI (k - M))) (by rw [pk_sub hM])).trans ?_
      refine (zl_c (y := upd (upd mx (157 * slot + 18) (nI (k - M))) (157 * slot + 25) (m (157 * slot + 25) + nI M)) (by rw [upd_ne (by omega), e25])).trans rfl
    · rw [if_neg (nI_ge (by omega) (by omega)), zl_c rfl]
      refine ih (k + 1) _ (by omega) (by omega) (by omega) (fun j => ?_)
      rw [nI_clamp (by omega)]
      by_cases e : j = 157 * slot + k + 93 - M
      · rw [e, upd_eq, if_pos (by omega), h4, if_neg (by omega)]
        congr 1; omega
      · rw [upd_ne e, h4 j]
        by_cases e2 : 157 * slot + 93 ≤ j ∧ j < 157 * slot + 93 + (k - M)
        · rw [if_pos e2, if_pos (by omega)]
        · rw [if_neg e2, if_neg (by omega)]
theorem draws_rel {f : Nat → Int32} {rb sb : Int64} {g m t : Nat → Int32} {slot : Nat} {many : Int32} (h : SR f rb sb (sB (157 * slot) m)) : ∃ u v, f_X6_drawBits f rb sb many = u ∧ f_X10_draws g m t slot many = v ∧ u.1 = v.1 ∧ SR u.2.1 rb u.2.2 (sB (157 * slot) v.2) ∧ fr (157 * slot) m v.2 ∧ (u.1 < 0 ∨ 0 ≤ u.1) := by
  have q18 : m (157 * slot + 18) = f 18 := SR_at h 18 (by decide) (by decide) (by decide) (by decide)
  have q11 : m (157 * slot + 11) = f 11 := SR_at h 11 (by decide) (by decide) (by decide) (by decide)
  have q25 : m (157 * slot + 25) = f 25 := SR_at h 25 (by decide) (by decide) (by decide) (by decide)
  rw [fe_X6_drawBits, fe_X10_draws, in_eq, q18, q11]
  rw [zl_c (rfl : f_X9_isWithin many 1 24 = _), zl_c (rfl : f_X9_isWithin many 1 24 = _)]
  by_cases c1 : f_X9_isWithin many 1 24 = 0
  · rw [if_pos c1, if_pos c1]
    exact ⟨_, _, rfl, rfl, rfl, h, fr_rf _ _, Or.inl (show (-1000001 : Int32) < 0 by decide)⟩
  · rw [if_neg c1, if_neg c1]
    by_cases c2 : f 18 < many
    · rw [if_pos c2, if_pos c2]
      exact ⟨_, _, rfl, rfl, rfl, h, fr_rf _ _, Or.inl (show (-1000002 : Int32) < 0 by decide)⟩
    · rw [if_neg c2, if_neg c2]
      by_cases c3 : f 11 = 2
      · rw [if_pos c3, if_pos c3]
        exact ⟨_, _, rfl, rfl, rfl, h, fr_rf _ _, Or.inl (show (-1000002 : Int32) < 0 by decide)⟩
      · rw [if_neg c3, if_neg c3]
        obtain ⟨M, h1M, hM24, rfl⟩ := wi (a := 1) (b := 24) (by decide) (by decide) c1
        have hr := h.2.2.2.2.2.1
        obtain ⟨X, hX, rfl⟩ := wb_of sb
        obtain ⟨N, hN, eN, cN⟩ := IN_get hr.1
        have hMN : M ≤ N := by
          rw [eN] at c2
          exact (nI_leI (by omega) (by omega)).mp (Int32.not_lt.mp c2)
        have hXN : X < 2 ^ N := rowR_lt hX hN (by rw [← eN]; exact hr)
        have hb : ∀ k, k < N → m (157 * slot + (93 + k)) = nI (X / 2 ^ (N - 1 - k) % 2) := fun k hk => by
          have := hr.2.1 k (by rw [cN]; exact hk)
          rw [cN, bitN hX] at this
          exact this
        have e0 : nI (X / 2 ^ (N - 0)) = 0 := by rw [Nat.sub_zero, Nat.div_eq_of_lt hXN]; rfl
        have eT := dw_told g m t slot X N M hMN hN (by omega) hXN hb 26 0 (by decide) (by omega)
        rw [e0] at eT
        rw [eT]
        obtain ⟨m', em, hm'⟩ := dw_move g m t slot N M (nI (X / 2 ^ (N - M))) h1M hMN hN (q18.trans eN) 66 M m (by omega) (Nat.le_refl _) hMN (fun j => by rw [Nat.sub_self, if_neg (by omega)])
        rw [em, eN, zl_c (tk_eq hX h1M hMN hN)]
        have hsm : X / 2 ^ (N - M) < 2 ^ M := by
          rw [Nat.div_lt_iff_lt_mul (Nat.pow_pos (by decide)), ← Nat.pow_add, show M + (N - M) = N by omega]
          exact hXN
        have hsm2 : 2 ^ M ≤ 2 ^ 24 := Nat.pow_le_pow_right (by decide) hM24
        refine ⟨_, _, rfl, rfl, rfl, ?_, ?_, Or.inr (nI_pos' (by omega))⟩
        · dsimp only
          rw [pk_sub hMN, sB_upd, sB_upd, q25]
          rw [eN] at hr
          refine SR_u (SR_store h (rowR_take hX hr hMN hN h1M (fun k hk => ?_) (fun k hk1 hk2 => ?_)) (fun k hk hk2 => ?_) upd_eq) (by decide) (by omega) (by omega) (by omega) (by omega)
          · rw [upd_ne (by omega)]
            show m' (157 * slot + (93 + k)) = m (157 * slot + (93 + (k + M)))
            rw [hm', if_pos (by omega)]
            congr 1; omega
          · rw [upd_ne (by omega)]
            show m' (157 * slot + (93 + k)) = m (157 * slot + (93 + k))
            rw [hm', if_neg (by omega)]
          · rw [upd_ne hk2]
            show m' (157 * slot + k) = m (157 * slot + k)
            rw [hm', if_neg (by omega)]
        · refine fr_upd (fr_upd (fun j hj => ?_) (by decide)) (by decide)
          rw [hm', if_neg (by omega)]
