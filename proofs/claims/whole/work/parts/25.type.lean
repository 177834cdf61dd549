theorem within_60 {n : Int32} (h : IN n 60) : f_X9_isWithin n 0 59 = 0 ↔ n = 60 := by
  obtain ⟨h1, h2⟩ := h
  unfold f_X9_isWithin
  rw [h1]
  have hneg : ¬ nI n.toNatClampNeg < 0 := fun hc => by
    have := (nI_ltI (a := n.toNatClampNeg) (b := 0) (by omega) (by decide)).mp hc
    omega
  rw [if_neg hneg]
  by_cases h3 : n.toNatClampNeg = 60
  · rw [h3]; decide
  · have h4 : ¬ (59 : Int32) < nI n.toNatClampNeg := fun hc => by
      have := (nI_ltI (a := 59) (b := n.toNatClampNeg) (by decide) (by omega)).mp hc
      omega
    rw [if_neg h4]
    refine ⟨fun h => absurd h (by decide), fun h => ?_⟩
    exact absurd ((nI_eq (a := n.toNatClampNeg) (b := 60) (by omega) (by decide)).mp h) h3
