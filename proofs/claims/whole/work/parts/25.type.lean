theorem within_60 {n : Int32} (h : IN n 60) : f_X9_isWithin n 0 59 = 0 ↔ n = 60 := by
  obtain ⟨h1, h2⟩ := h
  unfold f_X9_isWithin
  rw [h1]
  have hneg : ¬ nI n.toNatClampNeg < 0 := fun hc => by
    have := (nI_ltI (a := n.toNatClampNeg) (b := 0) (by omega) (by decide)).mp hc
    omega
  rw [if_neg hneg]
  by_cases h3 : n.toNatClampNeg = 60
  · rw [h3]; decide
  · have h4 : ¬ (59 : Int32) < nI n.toNatClampNeg := fun hc => by
      have := (nI_ltI (a := 59) (b := n.toNatClampNeg) (by decide) (by omega)).mp hc
      omega
    rw [if_neg h4]
    refine ⟨fun h => absurd h (by decide), fun h => ?_⟩
    exact absurd ((nI_eq (a := n.toNatClampNeg) (b := 60) (by omega) (by decide)).mp h) h3
theorem nar_char2 (x : Int32) : narrow .char (.int (vp_nar .char x)) = .int (vp_nar .char x) := by
  rw [vp_nar_char]
  show Value.int _ = Value.int _
  simp
  congr 1
  apply UInt32.toNat_inj.mp
  simp [UInt32.toNat_mod]
theorem le_type : LE_type LWd := by
  intro fn rn sn ft rt st hm f1 r1 s1 f2 r2 s2 f3 r3 s3 f4 r4 s4 o n t g m tm x1 h u hu v hv
  obtain ⟨h1, h2, h8, h9, h10, h11⟩ := h
  unfold f_X9_type f_X8_append at hu
  unfold f_X10_type at hv
  simp only [zl] at hu hv
  rw [in_eq] at hv
  by_cases c1 : f_X9_isWithin x1 32 126 = 0
  · rw [if_pos c1] at hu hv
    subst hu hv
    exact ⟨rfl, h1, h2, h8, h9, h10, h11⟩
  · rw [if_neg c1] at hu hv
    by_cases c2 : n = 60
    · rw [if_pos ((within_60 h8).mpr c2)] at hu
      rw [if_pos (h9.trans c2)] at hv
      subst hu hv
      exact ⟨rfl, h1, h2, h8, h9, h10, h11⟩
    · rw [if_neg (fun hc => c2 ((within_60 h8).mp hc))] at hu
      rw [if_neg (fun hc => c2 (h9.symm.trans hc))] at hv
      rw [h9] at hv
      subst hu hv
      have hk := h8.2
      have e1 : n + 1 = nI (n.toNatClampNeg + 1) := by
        have := h8.1
        rw [← nI_add, ← this]; rfl
      have hlt : n.toNatClampNeg + 1 ≤ 60 := by
        rcases Nat.lt_or_ge n.toNatClampNeg 60 with q | q
        · exact q
        · exact absurd (by rw [h8.1, show n.toNatClampNeg = 60 by omega]; rfl) c2
      have e2 : (n + 1).toNatClampNeg = n.toNatClampNeg + 1 := by rw [e1, nI_clamp (by omega)]
      refine ⟨rfl, h1, HI_congr rfl (fun _ _ _ => rfl) h2, IN_of e1 hlt (by decide), rfl, fun j => ?_, fun j hj => ?_⟩
      · show narrow .char (.int (upd t n.toNatClampNeg _ j)) = .int (upd t n.toNatClampNeg _ j)
        unfold upd
        split
        · exact nar_char2 _
        · exact h10 j
      · show upd tm n.toNatClampNeg _ j = upd t n.toNatClampNeg _ j
        have hj : j < (n + 1).toNatClampNeg := hj
        rw [e2] at hj
        unfold upd
        split
        · rfl
        · exact h11 j (by omega)
