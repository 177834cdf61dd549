theorem tbN {X : Nat} (hX : X < 2 ^ 64) (i : Nat) : (lN X).toBitVec.getLsbD i = X.testBit i := by
  rw [← BitVec.testBit_toNat, wb_tn hX]
theorem bitN {X : Nat} (hX : X < 2 ^ 64) (i : Nat) : bitI (lN X) i = nI (X / 2 ^ i % 2) := by
  unfold bitI
  rw [tbN hX, Nat.testBit_eq_decide_div_mod_eq]
  rcases Nat.mod_two_eq_zero_or_one (X / 2 ^ i) with h | h
  · rw [h]; rfl
  · rw [h]; rfl
theorem bitN_t {X Y i j : Nat} (hX : X < 2 ^ 64) (hY : Y < 2 ^ 64) (h : X.testBit i = Y.testBit j) : bitI (lN X) i = bitI (lN Y) j := by
  unfold bitI
  rw [tbN hX, tbN hY, h]
/-- the row's number with a bit appended -/
def apN (X b : Nat) : Nat := X % 2 ^ 63 * 2 + b
theorem apN_lt (X b : Nat) (hb : b ≤ 1) : apN X b < 2 ^ 64 := by unfold apN; omega
theorem apN_0 {X b : Nat} (hb : b ≤ 1) : bitI (lN (apN X b)) 0 = nI b := by
  rw [bitN (apN_lt X b hb)]
  unfold apN
  congr 1
  rw [Nat.pow_zero, Nat.div_one]
  omega
theorem apN_tb {X b : Nat} (hb : b ≤ 1) (i : Nat) : (apN X b).testBit (i + 1) = (decide (i < 63) && X.testBit i) := by
  rw [Nat.testBit_succ, show apN X b / 2 = X % 2 ^ 63 by unfold apN; omega, Nat.testBit_mod_two_pow]
theorem ap_fst {X b : Nat} {n : Int32} (hb : b ≤ 1) : (f_X0_append (lN X) n (nI b)).1 = lN (apN X b) := by
  have e : (lN X <<< ((1 : Int32).toInt64 &&& 63)) ||| (nI b).toInt64 = lN (apN X b) := by
    have h1 : lN X <<< ((1 : Int32).toInt64 &&& 63) = lN (X * 2 ^ 1) := wb_shl X (k := 1) (by decide)
    rw [h1, wb_mod, show X * 2 ^ 1 % 2 ^ 64 = X % 2 ^ 63 * 2 by omega, nI_l (by omega)]
    have h2 : (X % 2 ^ 63 * 2) ||| b = X % 2 ^ 63 * 2 + b := by
      have := Nat.shiftLeft_add_eq_or_of_lt (i := 1) (show b < 2 ^ 1 by omega) (X % 2 ^ 63)
      rw [Nat.shiftLeft_eq] at this
      exact this.symm
    rw [wb_or (by omega) (by omega), h2]
    rfl
  unfold f_X0_append
  split <;> exact e
theorem rowR_app {X n b : Nat} {w w' : Nat → Int32} {a : Nat} (hX : X < 2 ^ 64) (h : rowR (lN X) (nI n) w a) (hn : n < 64) (hb : b ≤ 1) (hw : ∀ k, k < 64 → k ≠ n → w' (a + k) = w (a + k)) (hw' : w' (a + n) = nI b) : rowR (lN (apN X b)) (nI (n + 1)) w' a := by
  obtain ⟨h1, h2, h3, h4⟩ := h
  rw [nI_clamp (by omega)] at h2 h3
  refine ⟨IN_nI (by omega) (by decide), ?_, ?_, ?_⟩ <;> (try rw [nI_clamp (by omega)])
  · intro k hk
    by_cases c : k = n
    · subst c
      rw [hw', show k + 1 - 1 - k = 0 by omega, apN_0 hb]
    · rw [hw k (by omega) c, h2 k (by omega), show n + 1 - 1 - k = (n - 1 - k) + 1 by omega]
      refine bitN_t hX (apN_lt X b hb) ?_
      rw [apN_tb hb, decide_eq_true (by omega), Bool.true_and]
  · intro k hk
    rw [tbN (apN_lt X b hb), show k = (k - 1) + 1 by omega, apN_tb hb]
    have := h3 (k - 1) (by omega)
    rw [tbN hX] at this
    rw [this, Bool.and_false]
  · intro k hk
    by_cases c : k = n
    · subst c
      rw [hw']
      have hb' : b = 0 ∨ b = 1 := by omega
      rcases hb' with rfl | rfl
      · exact Or.inl rfl
      · exact Or.inr rfl
    · rw [hw k hk c]; exact h4 k hk
theorem rowR_push {X b : Nat} {w w' : Nat → Int32} {a : Nat} (hX : X < 2 ^ 64) (h : rowR (lN X) (nI 64) w a) (hb : b ≤ 1) (hw : ∀ k, k < 63 → w' (a + k) = w (a + (k + 1))) (hw' : w' (a + 63) = nI b) : rowR (lN (apN X b)) (nI 64) w' a := by
  obtain ⟨h1, h2, h3, h4⟩ := h
  rw [nI_clamp (by omega)] at h2 h3
  refine ⟨h1, ?_, ?_, ?_⟩ <;> (try rw [nI_clamp (by omega)])
  · intro k hk
    by_cases c : k = 63
    · subst c
      rw [hw']
      exact (apN_0 hb).symm
    · rw [hw k (by omega), h2 (k + 1) (by omega), show 64 - 1 - k = (64 - 1 - (k + 1)) + 1 by omega]
      refine bitN_t hX (apN_lt X b hb) ?_
      rw [apN_tb hb, decide_eq_true (by omega), Bool.true_and]
  · intro k hk
    exact BitVec.getLsbD_of_ge _ _ hk
  · intro k hk
    by_cases c : k = 63
    · subst c
      rw [hw']
      have hb' : b = 0 ∨ b = 1 := by omega
      rcases hb' with rfl | rfl
      · exact Or.inl rfl
      · exact Or.inr rfl
    · rw [hw k (by omega)]; exact h4 (k + 1) (by omega)
theorem rowR_lt {X n : Nat} {w : Nat → Int32} {a : Nat} (hX : X < 2 ^ 64) (hn : n ≤ 64) (h : rowR (lN X) (nI n) w a) : X < 2 ^ n := by
  obtain ⟨h1, h2, h3, h4⟩ := h
  rw [nI_clamp (by omega)] at h3
  refine Nat.lt_pow_two_of_testBit _ (fun i hi => ?_)
  rw [← tbN hX]
  exact h3 i hi
theorem tk_eq {X N M : Nat} (hX : X < 2 ^ 64) (h1 : 1 ≤ M) (hM : M ≤ N) (hN : N ≤ 64) : f_X0_takeEarliest (lN X) (nI N) (nI M) = (nI (X / 2 ^ (N - M)), lN (X % 2 ^ (N - M))) := by
  unfold f_X0_takeEarliest
  simp only [zl]
  rw [pk_sub hM, wb_shr hX (by omega), lN_i]
  have e1 : (1 : Int64) <<< ((nI (N - M)).toInt64 &&& 63) = lN (1 * 2 ^ (N - M)) := wb_shl 1 (k := N - M) (by omega)
  have hp : 0 < 2 ^ (N - M) := Nat.pow_pos (by decide)
  have e2 : lN (1 * 2 ^ (N - M)) - 1 = lN (2 ^ (N - M) - 1) := by
    rw [Nat.one_mul]
    exact lN_sub (b := 1) (by omega)
  rw [e1, e2, wb_mask hX (by omega)]
theorem fl_eq {X j : Nat} {n : Int32} (hX : X < 2 ^ 64) (hj : j < 64) : f_X0_fromLatest (lN X) n (nI j) = bitI (lN X) j := by
  unfold f_X0_fromLatest
  simp only [zl]
  rw [wb_bit hX hj, lN_i, bitN hX]
theorem bit_step (X j : Nat) : X / 2 ^ j = 2 * (X / 2 ^ (j + 1)) + X / 2 ^ j % 2 := by
  rw [Nat.pow_succ, ← Nat.div_div_eq_div_mul]
  omega
theorem rowR_take {X N M : Nat} {w w' : Nat → Int32} {a : Nat} (hX : X < 2 ^ 64) (h : rowR (lN X) (nI N) w a) (hM : M ≤ N) (hN : N ≤ 64) (h1 : 1 ≤ M) (hw : ∀ k, k < N - M → w' (a + k) = w (a + (k + M))) (hw' : ∀ k, N - M ≤ k → k < 64 → w' (a + k) = w (a + k)) : rowR (lN (X % 2 ^ (N - M))) (nI (N - M)) w' a := by
  obtain ⟨a1, h2, h3, h4⟩ := h
  rw [nI_clamp (by omega)] at h2 h3
  have hL : X % 2 ^ (N - M) < 2 ^ 64 := Nat.lt_of_le_of_lt (Nat.mod_le _ _) hX
  refine ⟨IN_nI (by omega) (by decide), ?_, ?_, ?_⟩ <;> (try rw [nI_clamp (by omega)])
  · intro k hk
    rw [hw k hk, h2 (k + M) (by omega)]
    refine bitN_t hX hL ?_
    rw [Nat.testBit_mod_two_pow, decide_eq_true (by omega), Bool.true_and]
    congr 1
    omega
  · intro k hk
    rw [tbN hL, Nat.testBit_mod_two_pow, decide_eq_false (by omega), Bool.false_and]
  · intro k hk
    by_cases c : k < N - M
    · rw [hw k c]; exact h4 _ (by omega)
    · rw [hw' k (by omega) hk]; exact h4 k hk
theorem le_raw : LE_raw LWd := by
  intro fn rn sn ft rt st hm f1 r1 s1 f2 r2 s2 f3 r3 s3 f4 r4 s4 o n t g m tm x1 h u hu v hv
  refine ⟨?_, h⟩
  have e28 : m 28 = fn 28 := h.1.1 28 (by decide) (by decide) (by decide) (by decide)
  have hr := h.1.2.2.2.2.1
  obtain ⟨X, hX, rfl⟩ := wb_of rn
  obtain ⟨N, hN, eN, cN⟩ := IN_get hr.1
  unfold f_X9_raw at hu
  unfold f_X10_raw at hv
  simp only [zl, in_eq] at hu hv
  rw [hu, hv, e28]
  by_cases c1 : f_X9_isWithin x1 0 63 = 0
  · rw [if_pos c1, if_pos c1]
  · rw [if_neg c1, if_neg c1]
    obtain ⟨j, -, hj, rfl⟩ := wi (a := 0) (b := 63) (by decide) (by decide) c1
    rw [cN, nI_clamp (by omega), eN]
    by_cases c2 : nI N ≤ nI j
    · rw [if_pos c2, if_pos c2]
    · rw [if_neg c2, if_neg c2, fl_eq hX (by omega)]
      have c2' : j < N := by
        rcases Nat.lt_or_ge j N with q | q
        · exact q
        · exact absurd (nI_le q (by omega)) c2
      have := hr.2.1 (N - 1 - j) (by rw [cN]; omega)
      rw [cN, show N - 1 - (N - 1 - j) = j by omega, show 29 + (N - 1 - j) = N + 29 - 1 - j by omega] at this
      exact this.symm
theorem le_stored : LE_stored LWd := by
  intro fn rn sn ft rt st hm f1 r1 s1 f2 r2 s2 f3 r3 s3 f4 r4 s4 o n t g m tm x1 h u hu v hv
  refine ⟨?_, h⟩
  have e18 : m 18 = fn 18 := h.1.1 18 (by decide) (by decide) (by decide) (by decide)
  have hr := h.1.2.2.2.2.2.1
  obtain ⟨X, hX, rfl⟩ := wb_of sn
  obtain ⟨N, hN, eN, cN⟩ := IN_get hr.1
  unfold f_X9_stored f_X0_fromEarliest at hu
  unfold f_X10_stored at hv
  simp only [zl] at hu hv
  rw [hu, hv, e18]
  by_cases c1 : (0 : Int32) ≤ x1
  · rw [if_pos c1, if_pos c1]
    obtain ⟨j, hj, rfl⟩ := nI_of (Int32.not_lt.mpr c1)
    rw [nI_clamp hj, eN]
    by_cases c2 : nI N ≤ nI j
    · rw [if_pos c2, if_pos c2]
    · rw [if_neg c2, if_neg c2]
      have c2' : j < N := by
        rcases Nat.lt_or_ge j N with q | q
        · exact q
        · exact absurd (nI_le q (by omega)) c2
      have e1 : nI N - 1 - nI j = nI (N - 1 - j) := by
        rw [show nI N - 1 = nI (N - 1) from zi_sub rfl (rfl : (1 : Int32) = nI 1) (by omega), pk_sub (by omega)]
      rw [e1, fl_eq hX (by omega)]
      have := hr.2.1 j (by rw [cN]; omega)
      rw [cN, Nat.add_comm] at this
      exact this.symm
  · rw [if_neg c1, if_neg c1]
