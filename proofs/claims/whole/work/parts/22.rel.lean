/-! the relation between a Source of the class (f, rb, sb) and one slot w of the model -/
def bitI (x : Int64) (i : Nat) : Int32 := if x.toBitVec.getLsbD i then 1 else 0
theorem bitI_01 (x : Int64) (i : Nat) : bitI x i = 0 ∨ bitI x i = 1 := by unfold bitI; split <;> simp
def rowR (x : Int64) (n : Int32) (w : Nat → Int32) (a : Nat) : Prop := IN n 64 ∧ (∀ k, k < n.toNatClampNeg → w (a + k) = bitI x (n.toNatClampNeg - 1 - k)) ∧ (∀ k, n.toNatClampNeg ≤ k → x.toBitVec.getLsbD k = false) ∧ ∀ k, k < 64 → w (a + k) = 0 ∨ w (a + k) = 1
def SR (f : Nat → Int32) (rb sb : Int64) (w : Nat → Int32) : Prop :=
  (∀ k, k < 29 → k ≠ 13 → k ≠ 15 → w k = f k) ∧ (f 11 = 0 → w 13 = 64 - f 13) ∧ (¬ f 14 = 0 → w 15 = f 15) ∧ rowR rb (f 28) w 29 ∧ rowR sb (f 18) w 93 ∧ (¬ f 1 = 0 ∧ ¬ f 2 = 0 ∧ ¬ f 3 + 1 = 0 ∧ ¬ f 4 + 1 = 0) ∧ (f 19 = -1 ∨ f 19 = 0 ∨ f 19 = 1)
theorem rowR_0 (w : Nat → Int32) (a : Nat) (h : ∀ k, k < 64 → w (a + k) = 0) : rowR 0 0 w a := by
  refine ⟨⟨rfl, by decide⟩, fun k hk => absurd hk (by show ¬ k < (0 : Int32).toNatClampNeg; rw [show (0 : Int32).toNatClampNeg = 0 by rfl]; omega), fun k _ => ?_, fun k hk => Or.inl (h k hk)⟩
  show (0#64).getLsbD k = false
  simp
theorem lM0_hi (k : Nat) (hk : 20 ≤ k) : lM0 k = 0 := by
  unfold lM0 upd
  repeat rw [if_neg (by omega)]
theorem SR0 : SR lF0 0 0 lM0 := by
  refine ⟨by decide +kernel, fun _ => by decide +kernel, fun h => absurd (by decide +kernel) h, ?_, ?_, by decide +kernel, Or.inl rfl⟩
  · exact rowR_0 _ _ (fun k hk => lM0_hi _ (by omega))
  · exact rowR_0 _ _ (fun k hk => lM0_hi _ (by omega))
