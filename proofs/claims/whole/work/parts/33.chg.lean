/-! SR under the changes that a sample brings -/
theorem SR_fcongr {f f' : Nat → Int32} {rb sb : Int64} {w : Nat → Int32} (e : ∀ k, k < 29 → f' k = f k) (h : SR f rb sb w) : SR f' rb sb w := by
  unfold SR at h ⊢
  rw [e 0 (by decide), e 1 (by decide), e 2 (by decide), e 3 (by decide), e 4 (by decide), e 7 (by decide), e 8 (by decide), e 9 (by decide), e 10 (by decide), e 11 (by decide), e 12 (by decide), e 13 (by decide), e 14 (by decide), e 15 (by decide), e 16 (by decide), e 18 (by decide), e 19 (by decide), e 28 (by decide)]
  exact ⟨fun k a b c d => (h.1 k a b c d).trans (e k a).symm, h.2⟩
theorem rowR_hi {x : Int64} {n : Int32} {w : Nat → Int32} {a k : Nat} {y : Int32} (hk : k < 29) (ha : 29 ≤ a) (h : rowR x n w a) : rowR x n (upd w k y) a := rowR_congr (fun i _ => upd_ne (by omega)) h
theorem eq_u {f w : Nat → Int32} {j : Nat} {x : Int32} {k : Nat} (h : w k = f k) : upd w j x k = upd f j x k := by
  unfold upd
  by_cases c : k = j
  · rw [if_pos c, if_pos c]
  · rw [if_neg c, if_neg c]; exact h
theorem SR_wait {f : Nat → Int32} {rb sb : Int64} {w : Nat → Int32} {x : Int32} (hx : x = -1 ∨ x = 0 ∨ x = 1) (h : SR f rb sb w) : SR (upd f 19 x) rb sb (upd w 19 x) := by
  obtain ⟨h1, h2, h3, h4, h5, h6, h7, h8, h9⟩ := h
  exact ⟨fun k a b c d => eq_u (h1 k a b c d), h2, h3, h4, rowR_hi (by decide) (by decide) h5, rowR_hi (by decide) (by decide) h6, h7, hx, h9⟩
theorem SR_win {f : Nat → Int32} {rb sb : Int64} {w : Nat → Int32} {x : Int32} (hx : IN x 31) (h : SR f rb sb w) : SR (upd f 16 x) rb sb (upd w 16 x) := by
  obtain ⟨h1, h2, h3, h4, h5, h6, h7, h8, h9, h10, h11⟩ := h
  exact ⟨fun k a b c d => eq_u (h1 k a b c d), h2, h3, h4, rowR_hi (by decide) (by decide) h5, rowR_hi (by decide) (by decide) h6, h7, h8, h9, hx, h11⟩
theorem SR_run {f : Nat → Int32} {rb sb : Int64} {w : Nat → Int32} {x y : Int32} (h : SR f rb sb w) : SR (upd (upd f 14 x) 15 y) rb sb (upd (upd w 14 x) 15 y) := by
  obtain ⟨h1, h2, h3, h4, h5, h6, h7, h8, h9, h10, h11⟩ := h
  exact ⟨fun k a b c d => eq_u (eq_u (h1 k a b c d)), h2, h3, fun _ => rfl, rowR_hi (by decide) (by decide) (rowR_hi (by decide) (by decide) h5), rowR_hi (by decide) (by decide) (rowR_hi (by decide) (by decide) h6), h7, h8, h9, h10, h11⟩
theorem SR_alarm {f : Nat → Int32} {rb sb : Int64} {w : Nat → Int32} {y : Int32} (h : SR f rb sb w) : SR (upd (upd f 11 2) 12 y) rb sb (upd (upd w 11 2) 12 y) := by
  obtain ⟨h1, h2, h3, h4, h5, h6, h7, h8, h9, h10, h11⟩ := h
  exact ⟨fun k a b c d => eq_u (eq_u (h1 k a b c d)), fun _ => rfl, fun q => absurd q (show ¬ (2 : Int32) = 0 by decide), h4, rowR_hi (by decide) (by decide) (rowR_hi (by decide) (by decide) h5), rowR_hi (by decide) (by decide) (rowR_hi (by decide) (by decide) h6), h7, h8, Or.inr (Or.inr rfl), h10, h11⟩
theorem SR_start {f : Nat → Int32} {rb sb : Int64} {w : Nat → Int32} (h0 : f 11 = 0) (h : SR f rb sb w) : SR (upd (upd f 13 (f 13 + 1)) 11 (if f 13 + 1 < 64 then f 11 else 1)) rb sb (upd (upd w 13 (w 13 - 1)) 11 (if w 13 - 1 = 0 then 1 else 0)) := by
  obtain ⟨h1, h2, h3, h4, h5, h6, h7, h8, h9, h10, h11⟩ := h
  obtain ⟨e13, i13⟩ := h3 h0
  obtain ⟨d, hd, ed, -⟩ := IN_get i13
  have e1 : f 13 + 1 = nI (d + 1) := by rw [ed, nI_1]
  have e2 : w 13 - 1 = nI (63 - d) := by
    rw [e13, ed, show (64 : Int32) - nI d = nI (64 - d) from zi_sub (rfl : (64 : Int32) = nI 64) rfl (by omega), show nI (64 - d) - 1 = nI (64 - d - 1) from zi_sub rfl (rfl : (1 : Int32) = nI 1) (by omega)]
    congr 1; omega
  have hv : (if f 13 + 1 < 64 then f 11 else 1) = (if w 13 - 1 = 0 then (1 : Int32) else 0) ∧ ((if f 13 + 1 < 64 then f 11 else 1) = 0 → d + 1 ≤ 63) ∧ ((if f 13 + 1 < 64 then f 11 else 1) = 0 ∨ (if f 13 + 1 < 64 then f 11 else (1 : Int32)) = 1) := by
    rw [e1, e2, h0]
    by_cases c : d + 1 < 64
    · rw [if_pos (show nI (d + 1) < 64 from (nI_ltI (a := d + 1) (b := 64) (by omega) (by decide)).mpr c), if_neg (nI_ne0 (by omega) (by omega))]
      exact ⟨rfl, fun _ => by omega, Or.inl rfl⟩
    · rw [if_neg (show ¬ nI (d + 1) < 64 from fun hc => c ((nI_ltI (a := d + 1) (b := 64) (by omega) (by decide)).mp hc)), if_pos (by rw [show 63 - d = 0 by omega]; rfl)]
      exact ⟨rfl, fun hc => absurd hc (by decide), Or.inr rfl⟩
  obtain ⟨v1, v2, v3⟩ := hv
  rw [← v1]
  generalize (if f 13 + 1 < 64 then f 11 else 1) = V at v1 v2 v3 ⊢
  refine ⟨fun k a b c d => ?_, fun q => ?_, fun q => ⟨?_, ?_⟩, h4, rowR_hi (by decide) (by decide) (rowR_hi (by decide) (by decide) h5), rowR_hi (by decide) (by decide) (rowR_hi (by decide) (by decide) h6), h7, h8, ?_, h10, h11⟩
  · refine eq_u ?_
    rw [upd_ne c, upd_ne c]
    exact h1 k a b c d
  · have q' : V = 2 := q
    rcases v3 with z | z <;> rw [z] at q' <;> exact absurd q' (by decide)
  · show w 13 - 1 = 64 - (f 13 + 1)
    rw [e2, e1, show (64 : Int32) - nI (d + 1) = nI (64 - (d + 1)) from zi_sub (rfl : (64 : Int32) = nI 64) rfl (by omega)]
    congr 1; omega
  · show IN (f 13 + 1) 63
    rw [e1]
    exact IN_nI (v2 q) (by decide)
  · show V = 0 ∨ V = 1 ∨ V = 2
    rcases v3 with z | z
    · exact Or.inl z
    · exact Or.inr (Or.inl z)
theorem SR_store {f : Nat → Int32} {rb sb sb' : Int64} {w w' : Nat → Int32} {n' : Int32} (h : SR f rb sb w) (hr : rowR sb' n' w' 93) (hw : ∀ k, k < 93 → k ≠ 18 → w' k = w k) (h18 : w' 18 = n') : SR (upd f 18 n') rb sb' w' := by
  obtain ⟨h1, h2, h3, h4, h5, h6, h7, h8, h9, h10, h11⟩ := h
  refine ⟨fun k a b c d => ?_, fun q => ?_, fun q => ?_, fun q => ?_, ?_, hr, h7, h8, h9, h10, h11⟩
  · by_cases e : k = 18
    · subst e; rw [upd_eq]; exact h18
    · rw [upd_ne e, hw k (by omega) e]; exact h1 k a b c d
  · rw [hw 12 (by decide) (by decide)]; exact h2 q
  · rw [hw 13 (by decide) (by decide)]; exact h3 q
  · rw [hw 15 (by decide) (by decide)]; exact h4 q
  · exact rowR_congr (fun k hk => hw _ (by omega) (by omega)) h5
theorem SR_keep {f : Nat → Int32} {rb rb' sb : Int64} {w w' : Nat → Int32} {n' : Int32} (h : SR f rb sb w) (hr : rowR rb' n' w' 29) (hw : ∀ k, k < 28 ∨ 93 ≤ k → w' k = w k) (h28 : w' 28 = n') : SR (upd f 28 n') rb' sb w' := by
  obtain ⟨h1, h2, h3, h4, h5, h6, h7, h8, h9, h10, h11⟩ := h
  refine ⟨fun k a b c d => ?_, fun q => ?_, fun q => ?_, fun q => ?_, hr, ?_, h7, h8, h9, h10, h11⟩
  · by_cases e : k = 28
    · subst e; rw [upd_eq]; exact h28
    · rw [upd_ne e, hw k (by omega)]; exact h1 k a b c d
  · rw [hw 12 (by decide)]; exact h2 q
  · rw [hw 13 (by decide)]; exact h3 q
  · rw [hw 15 (by decide)]; exact h4 q
  · exact rowR_congr (fun k hk => hw _ (by omega)) h6
