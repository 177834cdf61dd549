theorem cp_loop (g m t : Nat → Int32) (fr tw : Nat) (hne : fr ≠ tw) : ∀ (q k : Nat) (mx : Nat → Int32), k + q = 158 → k ≤ 157 → (∀ j, mx j = if 157 * tw ≤ j ∧ j < 157 * tw + k then m (157 * fr + (j - 157 * tw)) else m j) → ∀ j, lp2_X10_copies g m t fr tw q k mx j = if 157 * tw ≤ j ∧ j < 157 * tw + 157 then m (157 * fr + (j - 157 * tw)) else m j := by
  intro q
  induction q with
  | zero => intro k mx h1 h2 _ j; omega
  | succ q ih =>
    intro k mx h1 h2 h3 j
    rw [lp2_X10_copies_s]
    by_cases c : (157 : Int32) ≤ nI k
    · rw [if_pos c]
      have c' : 157 ≤ k := (nI_leI (a := 157) (b := k) (by decide) (by omega)).mp c
      have : k = 157 := by omega
      subst this
      exact h3 j
    · rw [if_neg c]
      have c' : ¬ 157 ≤ k := fun h => c ((nI_leI (a := 157) (b := k) (by decide) (by omega)).mpr h)
      simp only [zl]
      refine ih (k + 1) _ (by omega) (by omega) (fun i => ?_) j
      unfold upd
      by_cases e : i = 157 * tw + k
      · rw [if_pos e, if_pos (by omega), h3, if_neg (by omega)]
        congr 1; omega
      · rw [if_neg e, h3 i]
        by_cases e2 : 157 * tw ≤ i ∧ i < 157 * tw + k
        · rw [if_pos e2, if_pos (by omega)]
        · rw [if_neg e2, if_neg (by omega)]
theorem cp (g m t : Nat → Int32) (fr tw : Nat) (hne : fr ≠ tw) (j : Nat) : f_X10_copies g m t fr tw j = if 157 * tw ≤ j ∧ j < 157 * tw + 157 then m (157 * fr + (j - 157 * tw)) else m j := by
  unfold f_X10_copies
  exact cp_loop g m t fr tw hne 158 0 m (by decide) (by decide) (fun j => by rw [if_neg (by omega)]) j
theorem cp_in (g m t : Nat → Int32) (fr tw : Nat) (hne : fr ≠ tw) (k : Nat) (hk : k < 157) : f_X10_copies g m t fr tw (157 * tw + k) = m (157 * fr + k) := by
  rw [cp g m t fr tw hne, if_pos (by omega)]
  congr 1; omega
theorem cp_out (g m t : Nat → Int32) (fr tw : Nat) (hne : fr ≠ tw) (j : Nat) (hj : j < 157 * tw ∨ 157 * tw + 157 ≤ j) : f_X10_copies g m t fr tw j = m j := by
  rw [cp g m t fr tw hne, if_neg (by omega)]
theorem IN_nI {j N : Nat} (h : j ≤ N) (hN : N < 2 ^ 31) : IN (nI j) N := IN_of rfl h hN
/-- the row after a record: newest slot is the source as it was -/
theorem recs_row (g m t : Nat → Int32) (h : Nat) (hh : h ≤ 4) (hg : g 0 = nI h) : (f_X10_records g m t).1 = upd g 0 (nI (if h = 4 then 4 else h + 1)) ∧ (∀ k, k < 157 → (f_X10_records g m t).2 k = m k) ∧ (∀ k, 785 ≤ k → (f_X10_records g m t).2 k = m k) ∧ (∀ k, k < 157 → (f_X10_records g m t).2 (157 * (if h = 4 then 4 else h + 1) + k) = m k) ∧ (∀ i, 1 ≤ i → i ≤ h → h < 4 → ∀ k, k < 157 → (f_X10_records g m t).2 (157 * i + k) = m (157 * i + k)) ∧ (∀ i, 1 ≤ i → i ≤ 3 → h = 4 → ∀ k, k < 157 → (f_X10_records g m t).2 (157 * i + k) = m (157 * (i + 1) + k)) := by
  unfold f_X10_records
  by_cases c : h = 4
  · subst c
    rw [if_pos (show g 0 = 4 from hg)]
    rw [lp10_X10_records_s, if_neg (by decide), zl, lp10_X10_records_s, if_neg (by decide), zl, lp10_X10_records_s, if_neg (by decide), zl, lp10_X10_records_s, if_pos (by decide), zl]
    have eg : upd g 0 (g 0 - 1 + 1) = upd g 0 (nI 4) := by rw [hg]; rfl
    dsimp only
    refine ⟨eg, fun k hk => ?_, fun k hk => ?_, fun k hk => ?_, fun i _ _ h => absurd h (by omega), fun i h1 h3 _ k hk => ?_⟩
    · rw [cp_out _ _ _ _ _ (by decide) _ (by omega), cp_out _ _ _ _ _ (by decide) _ (by omega), cp_out _ _ _ _ _ (by decide) _ (by omega), cp_out _ _ _ _ _ (by decide) _ (by omega)]
    · rw [cp_out _ _ _ _ _ (by decide) _ (by omega), cp_out _ _ _ _ _ (by decide) _ (by omega), cp_out _ _ _ _ _ (by decide) _ (by omega), cp_out _ _ _ _ _ (by decide) _ (by omega)]
    · rw [if_pos rfl, cp_in _ _ _ _ _ (by decide) _ hk, cp_out _ _ _ _ _ (by decide) _ (by omega), cp_out _ _ _ _ _ (by decide) _ (by omega), cp_out _ _ _ _ _ (by decide) _ (by omega)]
      congr 1; omega
    · have hi : i = 1 ∨ i = 2 ∨ i = 3 := by omega
      rcases hi with rfl | rfl | rfl
      · rw [cp_out _ _ _ _ _ (by decide) _ (by omega), cp_out _ _ _ _ _ (by decide) _ (by omega), cp_out _ _ _ _ _ (by decide) _ (by omega)]
        exact cp_in _ _ _ 2 1 (by decide) _ hk
      · rw [cp_out _ _ _ _ _ (by decide) _ (by omega), cp_out _ _ _ _ _ (by decide) _ (by omega)]
        refine (cp_in _ _ _ 3 2 (by decide) _ hk).trans ?_
        exact cp_out _ _ _ _ _ (by decide) _ (by omega)
      · rw [cp_out _ _ _ _ _ (by decide) _ (by omega)]
        refine (cp_in _ _ _ 4 3 (by decide) _ hk).trans ?_
        rw [cp_out _ _ _ _ _ (by decide) _ (by omega), cp_out _ _ _ _ _ (by decide) _ (by omega)]
  · have hne : ¬ g 0 = 4 := fun e => c ((nI_eq (a := h) (b := 4) (by omega) (by decide)).mp (hg.symm.trans e))
    rw [if_neg hne, zl, if_neg c]
    have eg : upd g 0 (g 0 + 1) = upd g 0 (nI (h + 1)) := by rw [hg, nI_1]
    have eh : (g 0).toNatClampNeg = h := by rw [hg, nI_clamp (by omega)]
    rw [eh]
    dsimp only
    refine ⟨eg, fun k hk => ?_, fun k hk => ?_, fun k hk => ?_, fun i h1 h2 h3 k hk => ?_, fun i _ _ h => absurd h c⟩
    · exact cp_out _ _ _ _ _ (by omega) _ (by omega)
    · exact cp_out _ _ _ _ _ (by omega) _ (by omega)
    · refine (cp_in _ _ _ _ _ (by omega) _ hk).trans ?_
      congr 1; omega
    · exact cp_out _ _ _ _ _ (by omega) _ (by omega)
theorem recs {fn : Nat → Int32} {rn sn : Int64} {hm : Int32} {f1 : Nat → Int32} {r1 s1 : Int64} {f2 : Nat → Int32} {r2 s2 : Int64} {f3 : Nat → Int32} {r3 s3 : Int64} {f4 : Nat → Int32} {r4 s4 : Int64} {g m t : Nat → Int32} (hs : SR fn rn sn m) (h : HI hm f1 r1 s1 f2 r2 s2 f3 r3 s3 f4 r4 s4 g m) : HI (f_X2_keep hm f1 r1 s1 f2 r2 s2 f3 r3 s3 f4 r4 s4 fn rn sn) fn rn sn f1 r1 s1 f2 r2 s2 f3 r3 s3 (f_X10_records g m t).1 (f_X10_records g m t).2 ∧ SR fn rn sn (f_X10_records g m t).2 ∧ (∀ k, k < 157 → (f_X10_records g m t).2 k = m k) ∧ (∀ k, 785 ≤ k → (f_X10_records g m t).2 k = m k) ∧ (∀ k, k ≠ 0 → (f_X10_records g m t).1 k = g k) := by
  obtain ⟨h1, h2, h3, h4, h5, h6⟩ := h
  obtain ⟨j, hj⟩ : ∃ j, j = hm.toNatClampNeg := ⟨_, rfl⟩
  have hj4 : j ≤ 4 := by rw [hj]; exact h1.2
  have hmj : hm = nI j := by rw [hj]; exact h1.1
  rw [← hj] at h3 h4 h5 h6
  obtain ⟨a1, a2, a3, a4, a5, a6⟩ := recs_row g m t j hj4 (h2.trans hmj)
  have hk : f_X2_keep hm f1 r1 s1 f2 r2 s2 f3 r3 s3 f4 r4 s4 fn rn sn = nI (if j = 4 then 4 else j + 1) := by
    unfold f_X2_keep
    rw [hmj]
    by_cases c : j = 4
    · subst c; rfl
    · rw [if_neg c, if_neg (fun hc => c (by have := (nI_leI (a := 4) (b := j) (by decide) (by omega)).mp hc; omega)), nI_1]
  refine ⟨?_, SR_congr a2 hs, a2, a3, fun k hk0 => by rw [a1]; unfold upd; rw [if_neg hk0]⟩
  rw [hk]
  have hcl : (nI (if j = 4 then 4 else j + 1)).toNatClampNeg = if j = 4 then 4 else j + 1 := nI_clamp (by split <;> omega)
  refine ⟨IN_nI (by split <;> omega) (by decide), by rw [a1]; rfl, fun _ => ?_, fun q => ?_, fun q => ?_, fun q => ?_⟩
  · rw [hcl]
    exact SR_congr (fun k hk => a4 k hk) hs
  · rw [hcl] at q ⊢
    by_cases c : j = 4
    · subst c
      exact SR_congr (fun k hk => a6 3 (by omega) (by omega) rfl k hk) (h3 (by omega))
    · rw [if_neg c] at q ⊢
      exact SR_congr (fun k hk => a5 (j + 1 - 1) (by omega) (by omega) (by omega) k hk) (h3 (by omega))
  · rw [hcl] at q ⊢
    by_cases c : j = 4
    · subst c
      exact SR_congr (fun k hk => a6 2 (by omega) (by omega) rfl k hk) (h4 (by omega))
    · rw [if_neg c] at q ⊢
      exact SR_congr (fun k hk => a5 (j + 1 - 2) (by omega) (by omega) (by omega) k hk) (by have := h4 (by omega); rwa [show j - 1 = j + 1 - 2 by omega] at this)
  · rw [hcl] at q ⊢
    by_cases c : j = 4
    · subst c
      exact SR_congr (fun k hk => a6 1 (by omega) (by omega) rfl k hk) (h5 (by omega))
    · rw [if_neg c] at q ⊢
      exact SR_congr (fun k hk => a5 (j + 1 - 3) (by omega) (by omega) (by omega) k hk) (by have := h5 (by omega); rwa [show j - 2 = j + 1 - 3 by omega] at this)
theorem le_undo : LE_undo LWd := by
  intro fn rn sn ft rt st hm f1 r1 s1 f2 r2 s2 f3 r3 s3 f4 r4 s4 o n t g m tm h u hu v hv
  obtain ⟨h1, h2, hT⟩ := h
  have hI := h2
  obtain ⟨a1, a2, a3, a4, a5, a6⟩ := h2
  obtain ⟨j, hj⟩ : ∃ j, j = hm.toNatClampNeg := ⟨_, rfl⟩
  have hj4 : j ≤ 4 := by rw [hj]; exact a1.2
  have hmj : hm = nI j := by rw [hj]; exact a1.1
  unfold f_X9_undo f_X2_bringBack at hu
  unfold f_X10_undo at hv
  simp only [zl] at hu hv
  rw [a2] at hv
  by_cases c : j = 0
  · subst c
    rw [if_neg (by rw [hmj]; decide)] at hu
    rw [if_pos (by rw [hmj]; rfl)] at hv
    subst hu hv
    refine ⟨rfl, h1, ?_, hT⟩
    refine ⟨a1, a2, a3, a4, a5, fun q => ?_⟩
    rw [← hj] at q
    omega
  · rw [if_pos (by rw [hmj]; exact (nI_ltI (a := 0) (b := j) (by decide) (by omega)).mpr (by omega))] at hu
    rw [if_neg (by rw [hmj]; exact nI_ne0 (by omega) (by omega))] at hv
    subst hu hv
    rw [← hj] at a3 a4 a5 a6
    have e1 : hm - 1 = nI (j - 1) := by rw [hmj]; exact zi_sub rfl (rfl : (1 : Int32) = nI 1) (by omega)
    have ec : (hm - 1).toNatClampNeg = j - 1 := by rw [e1, nI_clamp (by omega)]
    have eh : hm.toNatClampNeg = j := hj.symm
    dsimp only
    rw [eh]
    refine ⟨rfl, ?_, ?_, ?_⟩
    · refine SR_congr (fun k hk => ?_) (a3 (by omega))
      refine Eq.trans ?_ (cp_in g m tm j 0 (by omega) k hk)
      congr 1; omega
    · have sl : ∀ i, 1 ≤ i → ∀ k, k < 157 → slotW (f_X10_copies g m tm j 0) i k = slotW m i k := fun i hi k hk => cp_out _ _ _ _ _ (by omega) _ (by omega)
      refine ⟨by rw [e1]; exact IN_nI (by omega) (by decide), rfl, fun q => ?_, fun q => ?_, fun q => ?_, fun q => ?_⟩ <;> rw [ec] at q ⊢
      · exact SR_congr (sl _ (by omega)) (a4 (by omega))
      · exact SR_congr (sl _ (by omega)) (by have := a5 (by omega); rwa [show j - 2 = j - 1 - 1 by omega] at this)
      · exact SR_congr (sl _ (by omega)) (by have := a6 (by omega); rwa [show j - 3 = j - 1 - 2 by omega] at this)
      · omega
    · exact ⟨hT.1, hT.2.1, hT.2.2⟩
