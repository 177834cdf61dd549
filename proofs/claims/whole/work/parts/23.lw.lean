/-- the history: the newest state at slot hm -/
def HI (hm : Int32) (f1 : Nat → Int32) (r1 s1 : Int64) (f2 : Nat → Int32) (r2 s2 : Int64) (f3 : Nat → Int32) (r3 s3 : Int64) (f4 : Nat → Int32) (r4 s4 : Int64) (g m : Nat → Int32) : Prop :=
  IN hm 4 ∧ g 0 = hm ∧ (1 ≤ hm.toNatClampNeg → SR f1 r1 s1 (slotW m hm.toNatClampNeg)) ∧ (2 ≤ hm.toNatClampNeg → SR f2 r2 s2 (slotW m (hm.toNatClampNeg - 1))) ∧ (3 ≤ hm.toNatClampNeg → SR f3 r3 s3 (slotW m (hm.toNatClampNeg - 2))) ∧ (4 ≤ hm.toNatClampNeg → SR f4 r4 s4 (slotW m (hm.toNatClampNeg - 3)))
/-- the relation of the law's walk: the source now, the history (newest at slot hm), the text -/
def LWd (fn : Nat → Int32) (rn sn : Int64) (hm : Int32) (f1 : Nat → Int32) (r1 s1 : Int64) (f2 : Nat → Int32) (r2 s2 : Int64) (f3 : Nat → Int32) (r3 s3 : Int64) (f4 : Nat → Int32) (r4 s4 : Int64) (n : Int32) (t : Nat → Int32) (g m tm : Nat → Int32) : Prop :=
  SR fn rn sn m ∧ HI hm f1 r1 s1 f2 r2 s2 f3 r3 s3 f4 r4 s4 g m ∧
  IN n 60 ∧ g 1 = n ∧ (∀ j : Nat, narrow .char (.int (t j)) = .int (t j)) ∧ (∀ j, j < n.toNatClampNeg → tm j = t j)
theorem HI_congr {hm : Int32} {f1 : Nat → Int32} {r1 s1 : Int64} {f2 : Nat → Int32} {r2 s2 : Int64} {f3 : Nat → Int32} {r3 s3 : Int64} {f4 : Nat → Int32} {r4 s4 : Int64} {g m g' m' : Nat → Int32} (hg : g' 0 = g 0) (hm' : ∀ j, 157 ≤ j → j < 785 → m' j = m j) (h : HI hm f1 r1 s1 f2 r2 s2 f3 r3 s3 f4 r4 s4 g m) : HI hm f1 r1 s1 f2 r2 s2 f3 r3 s3 f4 r4 s4 g' m' := by
  obtain ⟨h1, h2, h3, h4, h5, h6⟩ := h
  have hl := h1.2
  have sl : ∀ i, 1 ≤ i → i ≤ 4 → ∀ k, k < 157 → slotW m' i k = slotW m i k := fun i a b k c => hm' _ (by omega) (by omega)
  exact ⟨h1, hg.trans h2, fun q => SR_congr (sl _ (by omega) (by omega)) (h3 q), fun q => SR_congr (sl _ (by omega) (by omega)) (h4 q), fun q => SR_congr (sl _ (by omega) (by omega)) (h5 q), fun q => SR_congr (sl _ (by omega) (by omega)) (h6 q)⟩
theorem LWd0 : LWd lF0 0 0 0 lF0 0 0 lF0 0 0 lF0 0 0 lF0 0 0 0 (fun _ => 0) (fun _ => 0) lM0 (fun _ => 0) := by
  have h0 : (0 : Int32).toNatClampNeg = 0 := rfl
  refine ⟨SR0, ⟨⟨rfl, by decide⟩, rfl, fun h => ?_, fun h => ?_, fun h => ?_, fun h => ?_⟩, ⟨rfl, by decide⟩, rfl, fun _ => rfl, fun _ _ => rfl⟩ <;> (rw [h0] at h; omega)
theorem ne0_of_pos {x : Int32} (h : 0 < x) : ¬ x = 0 := fun e => by rw [e] at h; exact absurd h (by decide)
theorem SR_MOk {f : Nat → Int32} {rb sb : Int64} {m : Nat → Int32} (h : SR f rb sb m) : MOk m 0 := by
  obtain ⟨h1, -, -, -, h4, h5, ⟨h6, h7, h8, h9⟩, -⟩ := h
  have e : ∀ k, k < 29 → k ≠ 12 → k ≠ 13 → k ≠ 15 → m (0 + k) = f k := fun k a b c d => by rw [Nat.zero_add]; exact h1 k a b c d
  refine ⟨?_, ?_, ?_, ?_, ?_, ?_⟩
  · rw [e 1 (by decide) (by decide) (by decide) (by decide)]; exact ne0_of_pos h6
  · rw [e 2 (by decide) (by decide) (by decide) (by decide)]; exact ne0_of_pos h7
  · rw [e 3 (by decide) (by decide) (by decide) (by decide)]; exact ne0_of_pos h8
  · rw [e 4 (by decide) (by decide) (by decide) (by decide)]; exact ne0_of_pos h9
  · rw [e 28 (by decide) (by decide) (by decide) (by decide)]; exact h4.1
  · rw [e 18 (by decide) (by decide) (by decide) (by decide)]; exact h5.1
def OnesOK : Prop := ∀ (x : Int64) (n : Int32), IN n 64 → (∀ k, n.toNatClampNeg ≤ k → x.toBitVec.getLsbD k = false) → IN (f_X0_ones x n) n.toNatClampNeg
theorem LWd_LH (ho : OnesOK) : LH LWd := by
  intro fn rn sn hm f1 r1 s1 f2 r2 s2 f3 r3 s3 f4 r4 s4 n t g m tm h
  obtain ⟨h1, ⟨h2, h3, -⟩, h8, h9, h10, -⟩ := h
  have ok := SR_MOk h1
  have e28 : m 28 = fn 28 := h1.1 28 (by decide) (by decide) (by decide) (by decide)
  have e18 : m 18 = fn 18 := h1.1 18 (by decide) (by decide) (by decide) (by decide)
  have hr := h1.2.2.2.2.1
  refine ⟨?_, h10, by rw [h3]; exact h2, by rw [h9]; exact h8, ok, by rw [e28]; exact hr.1, by rw [e18]; exact h1.2.2.2.2.2.1.1, fun hp => ?_, fun j hj => by rw [Nat.add_comm]; exact hr.2.2.2 j hj⟩
  · rw [h8.1]
    have := h8.2
    exact (nI_leI (a := 0) (b := n.toNatClampNeg) (by decide) (by omega)).mpr (Nat.zero_le _)
  · refine (zshare hr.1 (ho rn (fn 28) hr.1 hr.2.2.1) (Nat.le_refl _) (fun h0 => ?_)).1
    rw [h0] at hp
    exact absurd hp (by decide)
