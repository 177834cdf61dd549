/-! the relation between a Source of the class (f, rb, sb) and one slot w of the model -/
def bitI (x : Int64) (i : Nat) : Int32 := if x.toBitVec.getLsbD i then 1 else 0
theorem bitI_01 (x : Int64) (i : Nat) : bitI x i = 0 ∨ bitI x i = 1 := by unfold bitI; split <;> simp
def rowR (x : Int64) (n : Int32) (w : Nat → Int32) (a : Nat) : Prop := IN n 64 ∧ (∀ k, k < n.toNatClampNeg → w (a + k) = bitI x (n.toNatClampNeg - 1 - k)) ∧ (∀ k, n.toNatClampNeg ≤ k → x.toBitVec.getLsbD k = false) ∧ ∀ k, k < 64 → w (a + k) = 0 ∨ w (a + k) = 1
def SR (f : Nat → Int32) (rb sb : Int64) (w : Nat → Int32) : Prop :=
  (∀ k, k < 29 → k ≠ 12 → k ≠ 13 → k ≠ 15 → w k = f k) ∧ (f 11 = 2 → w 12 = f 12) ∧ (f 11 = 0 → w 13 = 64 - f 13 ∧ IN (f 13) 63) ∧ (¬ f 14 = 0 → w 15 = f 15) ∧ rowR rb (f 28) w 29 ∧ rowR sb (f 18) w 93 ∧ (0 < f 1 ∧ 0 < f 2 ∧ 0 < f 3 + 1 ∧ 0 < f 4 + 1) ∧ (f 19 = -1 ∨ f 19 = 0 ∨ f 19 = 1) ∧ (f 11 = 0 ∨ f 11 = 1 ∨ f 11 = 2) ∧ IN (f 16) 31 ∧ IN (f 0) 65536 ∧ (0 ≤ f 7 ∧ 0 ≤ f 8 ∧ 0 ≤ f 9 ∧ 0 ≤ f 10)
theorem rowR_0 (w : Nat → Int32) (a : Nat) (h : ∀ k, k < 64 → w (a + k) = 0 ∨ w (a + k) = 1) : rowR 0 0 w a := by
  refine ⟨⟨rfl, by decide⟩, fun k hk => absurd hk (by show ¬ k < (0 : Int32).toNatClampNeg; rw [show (0 : Int32).toNatClampNeg = 0 by rfl]; omega), fun k _ => ?_, h⟩
  show (0#64).getLsbD k = false
  simp
theorem lM0_hi (k : Nat) (hk : 20 ≤ k) : lM0 k = 0 := by
  unfold lM0 upd
  repeat rw [if_neg (by omega)]
theorem SR0 : SR lF0 0 0 lM0 := by
  refine ⟨by decide +kernel, fun h => absurd h (by decide +kernel), fun _ => ⟨by decide +kernel, ⟨rfl, by decide⟩⟩, fun h => absurd (by decide +kernel) h, ?_, ?_, by decide +kernel, Or.inl rfl, Or.inl rfl, ⟨rfl, by decide⟩, ⟨by decide +kernel, by decide +kernel⟩, by decide +kernel⟩
  · exact rowR_0 _ _ (fun k hk => Or.inl (lM0_hi _ (by omega)))
  · exact rowR_0 _ _ (fun k hk => Or.inl (lM0_hi _ (by omega)))
def slotW (m : Nat → Int32) (j : Nat) : Nat → Int32 := fun k => m (157 * j + k)
/-- slot b of the model's row -/
def sB (b : Nat) (m : Nat → Int32) : Nat → Int32 := fun k => m (b + k)
theorem sB_0 (m : Nat → Int32) : sB 0 m = m := by funext k; unfold sB; rw [Nat.zero_add]
theorem sB_upd (b k : Nat) (m : Nat → Int32) (x : Int32) : sB b (upd m (b + k) x) = upd (sB b m) k x := by
  funext j
  unfold sB upd
  by_cases c : j = k
  · rw [if_pos (by omega), if_pos c]
  · rw [if_neg (by omega), if_neg c]
theorem rowR_congr {x : Int64} {n : Int32} {w w' : Nat → Int32} {a : Nat} (h : ∀ k, k < 64 → w' (a + k) = w (a + k)) (hr : rowR x n w a) : rowR x n w' a := by
  obtain ⟨h1, h2, h3, h4⟩ := hr
  refine ⟨h1, fun k hk => ?_, h3, fun k hk => ?_⟩
  · rw [h k (by have := h1.2; omega)]; exact h2 k hk
  · rw [h k hk]; exact h4 k hk
theorem SR_congr {f : Nat → Int32} {rb sb : Int64} {w w' : Nat → Int32} (h : ∀ k, k < 157 → w' k = w k) (hr : SR f rb sb w) : SR f rb sb w' := by
  obtain ⟨h1, h2, h3, h4, h5, h6, h7⟩ := hr
  refine ⟨fun k a b c d => ?_, fun a => ?_, fun a => ?_, fun a => ?_, rowR_congr (fun k hk => h _ (by omega)) h5, rowR_congr (fun k hk => h _ (by omega)) h6, h7⟩
  · rw [h k (by omega)]; exact h1 k a b c d
  · rw [h 12 (by decide)]; exact h2 a
  · rw [h 13 (by decide)]; exact h3 a
  · rw [h 15 (by decide)]; exact h4 a
/-- what lies outside of the slot at b is as it was -/
def fr (b : Nat) (m m' : Nat → Int32) : Prop := ∀ j, j < b ∨ b + 157 ≤ j → m' j = m j
theorem fr_rf (b : Nat) (m : Nat → Int32) : fr b m m := fun _ _ => rfl
theorem fr_tr {b : Nat} {m m1 m2 : Nat → Int32} (h1 : fr b m m1) (h2 : fr b m1 m2) : fr b m m2 := fun j h => (h2 j h).trans (h1 j h)
theorem fr_upd {b k : Nat} {m m1 : Nat → Int32} {x : Int32} (h : fr b m m1) (hk : k < 157) : fr b m (upd m1 (b + k) x) := fun j hj => by
  unfold upd
  rw [if_neg (by omega)]
  exact h j hj
theorem k29 {k : Nat} (h : k < 29) : k = 0 ∨ k = 1 ∨ k = 2 ∨ k = 3 ∨ k = 4 ∨ k = 5 ∨ k = 6 ∨ k = 7 ∨ k = 8 ∨ k = 9 ∨ k = 10 ∨ k = 11 ∨ k = 12 ∨ k = 13 ∨ k = 14 ∨ k = 15 ∨ k = 16 ∨ k = 17 ∨ k = 18 ∨ k = 19 ∨ k = 20 ∨ k = 21 ∨ k = 22 ∨ k = 23 ∨ k = 24 ∨ k = 25 ∨ k = 26 ∨ k = 27 ∨ k = 28 := by omega
