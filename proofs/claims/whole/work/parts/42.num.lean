theorem at_eq {N p : Nat} {t : Nat → Int32} (hN : N ≤ 60) (hp : p ≤ N) : f_X8_at (nI N) t (nI p) = if p < N then t p else 0 := by
  unfold f_X8_at
  have n1 : ¬ (60 : Int32) < nI N := fun hc => by
    have := (nI_ltI (a := 60) (b := N) (by decide) (by omega)).mp hc
    omega
  rw [zl_c (if_neg n1)]
  by_cases c0 : N = 0
  · subst c0
    have : p = 0 := by omega
    subst this
    rw [zl_c rfl, if_pos (show f_X9_isWithin (nI 0) 0 (nI 0 - 1) = 0 by decide), if_neg (by decide)]
  · have e : nI N - 1 = nI (N - 1) := zi_sub rfl (rfl : (1 : Int32) = nI 1) (by omega)
    rw [e, zl_c rfl, nI_clamp (by omega)]
    by_cases c : p < N
    · rw [if_pos c, if_neg (show ¬ f_X9_isWithin (nI p) 0 (nI (N - 1)) = 0 from fun hc => (wi_iff (a := 0) (b := N - 1) (j := p) (by decide) (by omega) (by omega)).mp hc ⟨by omega, by omega⟩)]
    · rw [if_neg c, if_pos (show f_X9_isWithin (nI p) 0 (nI (N - 1)) = 0 from (wi_iff (a := 0) (b := N - 1) (j := p) (by decide) (by omega) (by omega)).mpr (by omega))]
theorem skip_rel {N p : Nat} {o g m t tm : Nat → Int32} {w : Int32} (hw : ¬ w = 0) (hN : N ≤ 60) (hp : p ≤ N) (ho : o 1 = nI p) (hg : g 2 = nI p) (hg1 : g 1 = nI N) (htm : ∀ j, j < N → tm j = t j) : ∃ a b, f_X3_isSkipped o (nI N) t w = a ∧ f_X10_isNext g m tm w = b ∧ (∀ j, j ≠ 1 → a.2 j = o j) ∧ (∀ j, j ≠ 2 → b.2 j = g j) ∧ ((a.1 = 1 ∧ b.1 = 1 ∧ p < N ∧ a.2 1 = nI (p + 1) ∧ b.2 2 = nI (p + 1)) ∨ (a.1 = 0 ∧ b.1 = 0 ∧ a.2 1 = nI p ∧ b.2 2 = nI p)) := by
  rw [fe_X3_isSkipped, fe_X10_isNext, ho, hg1, hg, zl_c (at_eq hN hp), nI_clamp (by omega)]
  by_cases c : p < N
  · rw [if_pos c, if_neg (nI_ge c (by omega)), htm p c]
    by_cases d : t p = w
    · rw [if_pos d]
      refine ⟨_, _, rfl, (zl_c (if_pos d)).trans ((zl_c (if_neg (by decide))).trans rfl), fun j hj => upd_ne hj, fun j hj => upd_ne hj, Or.inl ⟨rfl, rfl, c, ?_, ?_⟩⟩
      · show upd o 1 (nI p + 1) 1 = _
        rw [upd_eq, nI_1]
      · show upd g 2 (nI p + 1) 2 = _
        rw [upd_eq, nI_1]
    · rw [if_neg d]
      refine ⟨_, _, rfl, (zl_c (if_neg d)).trans ((zl_c (if_pos rfl)).trans rfl), fun j hj => rfl, fun j hj => upd_ne hj, Or.inr ⟨rfl, rfl, ho, ?_⟩⟩
      show upd g 2 (nI p + 0) 2 = _
      rw [upd_eq, Int32.add_zero]
  · rw [if_neg c, if_pos (nI_le (by omega) (by omega)), if_neg (fun e => hw e.symm)]
    refine ⟨_, _, rfl, (zl_c rfl).trans ((zl_c (if_pos rfl)).trans rfl), fun j hj => rfl, fun j hj => upd_ne hj, Or.inr ⟨rfl, rfl, ho, ?_⟩⟩
    show upd g 2 (nI p + 0) 2 = _
    rw [upd_eq, Int32.add_zero]
theorem num_end {N p0 p : Nat} {o ox g gx : Nat → Int32} {v : Nat} (hN : N ≤ 60) (hp0 : p0 ≤ p) (hp : p ≤ N) (hv : v + 1 ≤ 10 ^ (p - p0)) (h3 : p ≤ p0 + 3) (ho : ox 1 = nI p) (hg : gx 2 = nI p) (h6 : ox 6 = nI v) (fo : ∀ j, j ≠ 1 → j ≠ 6 → ox j = o j) (fg : ∀ j, j ≠ 2 → gx j = g j) : ∃ p' a b, (if nI p ≤ nI p0 then ((0 : Int32), ox) else (1, ox)) = a ∧ (if nI p ≤ nI p0 then ((-1 : Int32), gx) else (nI v, gx)) = b ∧ p0 ≤ p' ∧ p' ≤ N ∧ a.2 1 = nI p' ∧ b.2 2 = nI p' ∧ (∀ j, j ≠ 1 → j ≠ 6 → a.2 j = o j) ∧ (∀ j, j ≠ 2 → b.2 j = g j) ∧ ((a.1 = 0 ∧ b.1 = -1) ∨ (a.1 = 1 ∧ p0 < p' ∧ ∃ v', v' ≤ 999 ∧ a.2 6 = nI v' ∧ b.1 = nI v')) := by
  by_cases c : p ≤ p0
  · rw [if_pos (nI_le c (by omega)), if_pos (nI_le c (by omega))]
    exact ⟨p, _, _, rfl, rfl, hp0, hp, ho, hg, fo, fg, Or.inl ⟨rfl, rfl⟩⟩
  · rw [if_neg (nI_ge (by omega) (by omega)), if_neg (nI_ge (by omega) (by omega))]
    refine ⟨p, _, _, rfl, rfl, hp0, hp, ho, hg, fo, fg, Or.inr ⟨rfl, by omega, v, ?_, h6, rfl⟩⟩
    have : 10 ^ (p - p0) ≤ 10 ^ 3 := Nat.pow_le_pow_right (by decide) (by omega)
    omega
theorem num_loop {N p0 : Nat} {o g m t tm : Nat → Int32} (hN : N ≤ 60) (ho : o 1 = nI p0) (hg : g 2 = nI p0) (htm : ∀ j, j < N → tm j = t j) : ∀ (q k : Nat) (ox gx : Nat → Int32) (v p : Nat), p0 ≤ p → p ≤ N → p ≤ p0 + 3 → (p - p0) + q = 5 → ox 1 = nI p → gx 2 = nI p → gx 1 = nI N → ox 6 = nI v → v + 1 ≤ 10 ^ (p - p0) → (∀ j, j ≠ 1 → j ≠ 6 → ox j = o j) → (∀ j, j ≠ 2 → gx j = g j) → ∃ p' a b, lp10_X3_isNumberRead o (nI N) t q k ox = a ∧ lp7_X10_number g m tm q k (nI v) gx = b ∧ p0 ≤ p' ∧ p' ≤ N ∧ a.2 1 = nI p' ∧ b.2 2 = nI p' ∧ (∀ j, j ≠ 1 → j ≠ 6 → a.2 j = o j) ∧ (∀ j, j ≠ 2 → b.2 j = g j) ∧ ((a.1 = 0 ∧ b.1 = -1) ∨ (a.1 = 1 ∧ p0 < p' ∧ ∃ v', v' ≤ 999 ∧ a.2 6 = nI v' ∧ b.1 = nI v')) := by
  intro q
  induction q with
  | zero => intro k ox gx v p h1 h2 h3 h4; omega
  | succ q ih =>
    intro k ox gx v p h1 h2 h3 h4 h5 h6 h7 h8 h9 h10 h11
    have en := num_end (o := o) (g := g) hN h1 h2 h9 h3 h5 h6 h8 h10 h11
    rw [lp10_X3_isNumberRead_s, lp7_X10_number_s, h5, h6, h7, h8, ho, hg, pk_sub h1, nI_clamp (show p0 < 2 ^ 31 by omega), nI_clamp (show p < 2 ^ 31 by omega)]
    by_cases c3 : p = p0 + 3
    · rw [if_pos (show (3 : Int32) ≤ nI (p - p0) from (nI_leI (a := 3) (by decide) (by omega)).mpr (by omega))]
      by_cases cN : N ≤ p
      · rw [if_pos (nI_le cN (by omega))]
        exact en
      · rw [if_neg (show ¬ nI N ≤ nI p from nI_ge (by omega) (by omega)), if_pos (show nI (p0 + 3) ≤ nI p from nI_le (by omega) (by omega))]
        exact en
    · rw [if_neg (show ¬ (3 : Int32) ≤ nI (p - p0) from fun hc => by have := (nI_leI (a := 3) (b := p - p0) (by decide) (by omega)).mp hc; omega)]
      rw [zl_c (at_eq hN h2)]
      by_cases cN : N ≤ p
      · rw [if_neg (show ¬ p < N by omega), zl_c rfl, if_pos (show f_X9_isWithin 0 48 57 = 0 by decide), if_pos (nI_le cN (by omega))]
        exact en
      · rw [if_pos (show p < N by omega), if_neg (show ¬ nI N ≤ nI p from nI_ge (by omega) (by omega)), if_neg (show ¬ nI (p0 + 3) ≤ nI p from nI_ge (by omega) (by omega)), htm p (by omega), in_eq, zl_c (rfl : f_X9_isWithin (t p) 48 57 = _), zl_c (rfl : f_X9_isWithin (t p) 48 57 = _)]
        by_cases cd : f_X9_isWithin (t p) 48 57 = 0
        · rw [if_pos cd, if_pos cd]
          exact en
        · rw [if_neg cd, if_neg cd]
          obtain ⟨ch, hc1, hc2, ech⟩ := wi (a := 48) (b := 57) (by decide) (by decide) cd
          rw [zl_c ((at_eq hN h2).trans ((if_pos (show p < N by omega)).trans ech)), ech]
          have e1 : nI v * 10 + nI ch - 48 = nI (v * 10 + (ch - 48)) := by
            have : nI v * 10 = nI (v * 10) := pk_mul v 10
            rw [this, nI_add]
            exact (zi_sub (b := 48) rfl rfl (by omega)).trans (by congr 1; omega)
          have e2 : (10 : Int32) * nI v + nI ch - 48 = nI (v * 10 + (ch - 48)) := by
            have : (10 : Int32) * nI v = nI (10 * v) := pk_mul 10 v
            rw [this, nI_add]
            exact (zi_sub (b := 48) rfl rfl (by omega)).trans (by congr 1; omega)
          rw [e1, e2, nI_1]
          refine ih (k + 1) _ _ (v * 10 + (ch - 48)) (p + 1) (by omega) (by omega) (by omega) (by omega) ?_ ?_ ?_ ?_ ?_ (fun j hj hj2 => ?_) (fun j hj => ?_)
          · rw [upd_ne (by decide), upd_eq]
          · rw [upd_eq]
          · rw [upd_ne (by decide), h7]
          · rw [upd_eq]
          · rw [show p + 1 - p0 = (p - p0) + 1 by omega, Nat.pow_succ]
            omega
          · rw [upd_ne hj2, upd_ne hj]; exact h10 j hj hj2
          · rw [upd_ne hj]; exact h11 j hj
theorem num_rel {N p : Nat} {o g m t tm : Nat → Int32} (hN : N ≤ 60) (hp : p ≤ N) (ho : o 1 = nI p) (hg : g 2 = nI p) (hg1 : g 1 = nI N) (htm : ∀ j, j < N → tm j = t j) : ∃ p' a b, f_X3_isNumberRead o (nI N) t = a ∧ f_X10_number g m tm = b ∧ p ≤ p' ∧ p' ≤ N ∧ a.2 1 = nI p' ∧ b.2 2 = nI p' ∧ (∀ j, j ≠ 1 → j ≠ 6 → a.2 j = o j) ∧ (∀ j, j ≠ 2 → b.2 j = g j) ∧ ((a.1 = 0 ∧ b.1 = -1) ∨ (a.1 = 1 ∧ p < p' ∧ ∃ v', v' ≤ 999 ∧ a.2 6 = nI v' ∧ b.1 = nI v')) := by
  obtain ⟨p', a, b, e1, e2, r⟩ := num_loop (m := m) hN ho hg htm 5 0 (upd o 6 0) g 0 p (Nat.le_refl _) hp (by omega) (by omega) (by rw [upd_ne (by decide)]; exact ho) hg hg1 upd_eq (by rw [Nat.sub_self]; decide) (fun j _ hj => upd_ne hj) (fun _ _ => rfl)
  refine ⟨p', a, b, ?_, ?_, r⟩
  · rw [fe_X3_isNumberRead]
    exact e1
  · rw [fe_X10_number]
    exact e2
