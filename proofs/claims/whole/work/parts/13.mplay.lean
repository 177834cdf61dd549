theorem marker5 : True := trivial
theorem MOk_makes_lp {g m t : Nat → Int32} {slot : Nat} {many : Int32} : ∀ (q k : Nat) (mx : Nat → Int32), MOk m (157 * slot) → MOk mx (157 * slot) → MOk (lp20_X10_makes g m t slot many q k mx).2 (157 * slot) := by
  intro q
  induction q with
  | zero => intro k mx ok0 ok; exact ok0
  | succ q ih =>
    intro k mx ok0 ok
    rw [lp20_X10_makes_s]
    split
    · exact ok
    · simp only [zl]
      exact ih _ _ ok0 (MOk_samples ok rfl)
theorem MOk_makes {g m t : Nat → Int32} {slot : Nat} {many : Int32} {u : Int32 × (Nat → Int32)} (ok : MOk m (157 * slot)) (e : u = f_X10_makes g m t slot many) : MOk u.2 (157 * slot) := by
  rw [e]
  exact MOk_makes_lp _ _ _ ok ok
def toldF (m : Nat → Int32) (b : Nat) : Nat → Int32
  | 0 => 0
  | k + 1 => 2 * toldF m b k + m (b + k + 93)
def drawnS (m : Nat → Int32) (b st mn : Nat) (many : Int32) (j : Nat) : Int32 :=
  if j = b + 18 then m j - many else if j = b + 25 then m j + many else if b + 93 ≤ j ∧ j < b + 93 + (st - mn) then m (j + mn) else m j
theorem draws_lp88 (g m t : Nat → Int32) (slot : Nat) (many : Int32) (mn st : Nat) (hmn : many.toNatClampNeg = mn) (hst : m (157 * slot + 18) = nI st) (h64 : st ≤ 64) (hms : mn ≤ st) : ∀ (q k : Nat) (tol : Int32) (mx : Nat → Int32), mn ≤ k → k ≤ st → k + q = mn + 66 → (∀ j, mx j = if 157 * slot + 93 ≤ j ∧ j < 157 * slot + 93 + (k - mn) then m (j + mn) else m j) → (lp88_X10_draws g m t slot many q k tol mx).1 = tol ∧ ∀ j, (lp88_X10_draws g m t slot many q k tol mx).2 j = drawnS m (157 * slot) st mn many j := by
  intro q
  induction q with
  | zero => intro k tol mx h1 h2 h3; omega
  | succ q ih =>
    intro k tol mx h1 h2 h3 hm
    rw [lp88_X10_draws_s, hmn]
    have h18 : mx (157 * slot + 18) = nI st := by rw [hm, if_neg (by omega), hst]
    by_cases hc : st ≤ k
    · have hk : k = st := by omega
      subst hk
      rw [if_pos (by rw [h18]; exact (nI_leI (by omega) (by omega)).mpr hc)]
      simp only [zl]
      refine ⟨trivial, fun j => ?_⟩
      unfold drawnS
      by_cases j1 : j = 157 * slot + 18
      · subst j1
        rw [pk_un (by omega), pk_us, if_pos rfl, h18, hst]
      · rw [if_neg j1]
        by_cases j2 : j = 157 * slot + 25
        · subst j2
          rw [pk_us, pk_un (by omega), if_pos rfl, hm, if_neg (by omega)]
        · rw [pk_un j2, pk_un j1, if_neg j2, hm]
    · rw [if_neg (by rw [h18]; exact fun h => hc ((nI_leI (by omega) (by omega)).mp h))]
      simp only [zl]
      refine ih (k + 1) tol _ (by omega) (by omega) (by omega) (fun j => ?_)
      by_cases j1 : j = (157 * slot + k + 93) - mn
      · subst j1
        rw [pk_us, if_pos (by omega), hm, if_neg (by omega)]
        congr 1
        omega
      · rw [pk_un j1, hm]
        by_cases j2 : 157 * slot + 93 ≤ j ∧ j < 157 * slot + 93 + (k - mn)
        · rw [if_pos j2, if_pos (by omega)]
        · rw [if_neg j2, if_neg (by omega)]
theorem draws_lp54 (g m t : Nat → Int32) (slot : Nat) (many : Int32) (mn st : Nat) (hmn : many.toNatClampNeg = mn) (h24 : mn ≤ 24) (hst : m (157 * slot + 18) = nI st) (h64 : st ≤ 64) (hms : mn ≤ st) : ∀ (q k : Nat) (told : Int32), k ≤ mn → k + q = 26 → told = toldF m (157 * slot) k → (lp54_X10_draws g m t slot many q k told).1 = toldF m (157 * slot) mn ∧ ∀ j, (lp54_X10_draws g m t slot many q k told).2 j = drawnS m (157 * slot) st mn many j := by
  intro q
  induction q with
  | zero => intro k told h1 h2; omega
  | succ q ih =>
    intro k told h1 h2 ht
    rw [lp54_X10_draws_s, hmn]
    by_cases hc : mn ≤ k
    · rw [if_pos ((nI_leI (by omega) (by omega)).mpr hc)]
      have hk : k = mn := by omega
      have h := draws_lp88 g m t slot many mn st hmn hst h64 hms 66 mn told m (Nat.le_refl _) hms (by omega) (fun j => by rw [if_neg (by omega)])
      rw [ht, hk] at h
      rw [ht, hk]
      exact h
    · rw [if_neg (fun h => hc ((nI_leI (by omega) (by omega)).mp h))]
      exact ih (k + 1) _ (by omega) (by omega) (by rw [ht]; rfl)
/-- draws: the three ways -/
theorem draws_spec (g m t : Nat → Int32) (slot : Nat) (many : Int32) (hst : IN (m (157 * slot + 18)) 64) :
    (¬ (1 ≤ many ∧ many ≤ 24) ∧ f_X10_draws g m t slot many = (-1000001, m)) ∨
    ((1 ≤ many ∧ many ≤ 24) ∧ (m (157 * slot + 18) < many ∨ m (157 * slot + 11) = 2) ∧ f_X10_draws g m t slot many = (-1000002, m)) ∨
    ((1 ≤ many ∧ many ≤ 24) ∧ ¬ (m (157 * slot + 18) < many) ∧ ¬ m (157 * slot + 11) = 2 ∧ many = nI many.toNatClampNeg ∧ 1 ≤ many.toNatClampNeg ∧ many.toNatClampNeg ≤ 24 ∧ many.toNatClampNeg ≤ (m (157 * slot + 18)).toNatClampNeg ∧ (f_X10_draws g m t slot many).1 = toldF m (157 * slot) many.toNatClampNeg ∧ ∀ j, (f_X10_draws g m t slot many).2 j = drawnS m (157 * slot) (m (157 * slot + 18)).toNatClampNeg many.toNatClampNeg many j) := by
  have hf := fe_X10_draws g m t slot many
  have hi := zl_e hf rfl
  by_cases c1 : f_X10_in many 1 24 = 0
  · refine Or.inl ⟨fun h => ?_, hi.trans (if_pos c1)⟩
    unfold f_X10_in at c1
    rw [if_neg (Int32.not_lt.mpr h.1), if_neg (Int32.not_lt.mpr h.2)] at c1
    exact absurd c1 (by decide)
  · have hr := zin_of rfl c1
    have h2 := hi.trans (if_neg c1)
    refine Or.inr ?_
    by_cases c2 : m (157 * slot + 18) < many
    · exact Or.inl ⟨hr, Or.inl c2, h2.trans (if_pos c2)⟩
    · have h3 := h2.trans (if_neg c2)
      by_cases c3 : m (157 * slot + 11) = 2
      · exact Or.inl ⟨hr, Or.inr c3, h3.trans (if_pos c3)⟩
      · have h4 := h3.trans (if_neg c3)
        have hmn := zix_of (N := 24) (zle1 hr) (by decide)
        have h5 := zf_nlt hst.1 hmn.1 c2 (by have := hst.2; omega) (by omega)
        have h6 : 1 ≤ many.toNatClampNeg := zf_le (a := 1) rfl hmn.1 hr.1 (by decide) (by omega)
        have h7 := draws_lp54 g m t slot many many.toNatClampNeg (m (157 * slot + 18)).toNatClampNeg rfl (by omega) hst.1 hst.2 (by omega) 26 0 0 (by omega) (by omega) rfl
        rw [← h4] at h7
        exact Or.inr ⟨hr, c2, c3, hmn.1, h6, by omega, by omega, h7.1, h7.2⟩
theorem MOk_draws {g m t : Nat → Int32} {slot : Nat} {many : Int32} {u : Int32 × (Nat → Int32)} (ok : MOk m (157 * slot)) (e : u = f_X10_draws g m t slot many) : MOk u.2 (157 * slot) := by
  have hst := ok.2.2.2.2.2
  rcases draws_spec g m t slot many hst with ⟨-, h⟩ | ⟨-, -, h⟩ | ⟨-, -, -, hm, h1, h24, hms, -, h⟩
  · rw [e, h]; exact ok
  · rw [e, h]; exact ok
  · rw [e]
    refine MOk_of2 ok (fun j hj => ?_) ?_ ?_
    · rw [h, drawnS, if_neg (by omega), if_neg (by omega), if_neg (by omega)]
    · rw [h, drawnS, if_neg (by omega), if_neg (by omega), if_neg (by omega)]
      exact ok.2.2.2.2.1
    · rw [h, drawnS, if_pos rfl, hst.1]
      conv => arg 1; rw [hm]
      rw [pk_sub hms]
      exact IN_of rfl (by have := hst.2; omega) (by decide)
theorem draws_fr (g m t : Nat → Int32) (slot : Nat) (many : Int32) (hst : IN (m (157 * slot + 18)) 64) (j : Nat) (hj : j < 157 * slot ∨ 157 * slot + 157 ≤ j) : (f_X10_draws g m t slot many).2 j = m j := by
  rcases draws_spec g m t slot many hst with ⟨-, h⟩ | ⟨-, -, h⟩ | ⟨-, -, -, hm, h1, h24, hms, -, h⟩
  · rw [h]
  · rw [h]
  · have h64 := hst.2
    rw [h, drawnS, if_neg (by omega), if_neg (by omega), if_neg (by omega)]
theorem starts_fr (g m t : Nat → Int32) (slot : Nat) (j : Nat) (hj : j ≠ 157 * slot + 11 ∧ j ≠ 157 * slot + 13 ∧ j ≠ 157 * slot + 14 ∧ j ≠ 157 * slot + 16 ∧ j ≠ 157 * slot + 17 ∧ j ≠ 157 * slot + 18 ∧ j ≠ 157 * slot + 19) : f_X10_starts g m t slot j = m j := by
  unfold f_X10_starts
  obtain ⟨h1, h2, h3, h4, h5, h6, h7⟩ := hj
  simp only [zl]
  rw [pk_un h7, pk_un h6, pk_un h5, pk_un h4, pk_un h3, pk_un h2, pk_un h1]
theorem MOk_starts {g m t u : Nat → Int32} {slot : Nat} (ok : MOk m (157 * slot)) (e : u = f_X10_starts g m t slot) : MOk u (157 * slot) := by
  rw [e]
  refine MOk_of2 ok (fun j hj => ?_) ?_ ?_
  · exact starts_fr _ _ _ _ _ (by omega)
  · rw [starts_fr _ _ _ _ _ (by omega)]; exact ok.2.2.2.2.1
  · unfold f_X10_starts
    simp only [zl]
    rw [pk_un (by omega), pk_us]
    exact IN_of (k := 0) rfl (by decide) (by decide)
/-- what does leaves of the reading's numbers and of the slot -/
def DoesS (g m : Nat → Int32) (r : Int32 × (Nat → Int32) × (Nat → Int32)) : Prop := At r.2.1 ∧ r.2.1 1 = g 1 ∧ (¬ r.1 = 0 → (g 2).toNatClampNeg + 1 ≤ (r.2.1 2).toNatClampNeg) ∧ MOk r.2.2 942 ∧ (∀ j, (j < 942 ∨ 1099 ≤ j) → r.2.2 j = m j)
theorem does_S {g m t : Nat → Int32} (hat : At g) (hlt : (g 2).toNatClampNeg < (g 1).toNatClampNeg) (ok : MOk m 942) : DoesS g m (f_X10_does g m t) := by
  unfold f_X10_does
  refine zl_F (P := fun r => DoesS g m r) (fun v2 e2 => ?_)
  refine zl_F (P := fun r => DoesS g m r) (fun v19 e19 => ?_)
  have h19 : v19 = 0 ∨ v19 = 1 := by rw [e19]; split; exact Or.inl rfl; exact Or.inr rfl
  have a0 : At (upd (upd g 2 (g 2 + v19)) 3 (g 2)) := At_is hat hlt h19 rfl rfl
  have f0 : Fw g (upd (upd g 2 (g 2 + v19)) 3 (g 2)) := by
    refine ⟨a0, rfl, ?_⟩
    show (g 2).toNatClampNeg ≤ (g 2 + v19).toNatClampNeg
    rcases h19 with h | h
    · rw [h, Int32.add_zero]; exact Nat.le_refl _
    · rw [h, At_inc hat hlt]; omega
  have s0 : ¬ v2 = 0 → (g 2).toNatClampNeg + 1 ≤ ((upd (upd g 2 (g 2 + v19)) 3 (g 2)) 2).toNatClampNeg := by
    intro h
    show (g 2).toNatClampNeg + 1 ≤ (g 2 + v19).toNatClampNeg
    rw [e19, if_neg h, At_inc hat hlt]
    exact Nat.le_refl _
  generalize (upd (upd g 2 (g 2 + v19)) 3 (g 2)) = g0 at *
  refine zl_F (P := fun r => DoesS g m r) (fun v24 e24 => ?_)
  have f24 : Fw g0 v24.2 := by
    rw [e24]
    split
    · exact Fw.rf a0
    · split
      · exact Fw.rf a0
      · simp only [zl]
        exact number_Fw (m := m) a0
  refine zl_F (P := fun r => DoesS g m r) (fun v34 e34 => ?_)
  have n34 : ¬ v34 = 0 → ¬ v2 = 0 := fun h h2 => h (by rw [e34, if_pos h2])
  refine zl_F (P := fun r => DoesS g m r) (fun v42 e42 => ?_)
  have f42 : Fw g0 v42.2.2.2 ∧ (¬ v42.1 = 0 → ¬ v2 = 0) := by
    rw [e42]
    split
    · exact ⟨f24, fun h => n34 h⟩
    · rename_i c34
      have n2 := n34 c34
      split
      · refine zl_F (P := fun r : Int32 × Int32 × Int32 × (Nat → Int32) => Fw g0 r.2.2.2 ∧ (¬ r.1 = 0 → ¬ v2 = 0)) (fun w1 f1 => ?_)
        have b1 : Fw g0 w1.2 := by rw [f1]; exact f24.tr (isNext_Fw (m := m) f24.1)
        refine zl_F (P := fun r : Int32 × Int32 × Int32 × (Nat → Int32) => Fw g0 r.2.2.2 ∧ (¬ r.1 = 0 → ¬ v2 = 0)) (fun w2 f2 => ?_)
        have b2 : Fw g0 w2.2 := by
          rw [f2]
          split
          · exact b1
          · simp only [zl]
            exact b1.tr (number_Fw (m := m) b1.1)
        refine zl_F (P := fun r : Int32 × Int32 × Int32 × (Nat → Int32) => Fw g0 r.2.2.2 ∧ (¬ r.1 = 0 → ¬ v2 = 0)) (fun w3 f3 => ?_)
        have b3 : Fw g0 w3.2 := by
          rw [f3]
          simp only [zl]
          (repeat' split) <;> first | exact b2 | exact b2.tr (isNext_Fw (m := m) b2.1)
        refine zl_F (P := fun r : Int32 × Int32 × Int32 × (Nat → Int32) => Fw g0 r.2.2.2 ∧ (¬ r.1 = 0 → ¬ v2 = 0)) (fun w4 f4 => ?_)
        have b4 : Fw g0 w4.2 := by
          rw [f4]
          split
          · exact b3
          · simp only [zl]
            exact b3.tr (number_Fw (m := m) b3.1)
        refine zl_F (P := fun r : Int32 × Int32 × Int32 × (Nat → Int32) => Fw g0 r.2.2.2 ∧ (¬ r.1 = 0 → ¬ v2 = 0)) (fun w5 _ => ?_)
        exact ⟨b4, fun _ => n2⟩
      · exact ⟨f24, fun _ => n2⟩
  refine zl_F (P := fun r => DoesS g m r) (fun v87 e87 => ?_)
  have f87 : Fw g0 v87.2 ∧ (¬ v87.1 = 0 → ¬ v2 = 0) := by
    rw [e87]
    split
    · exact ⟨f42.1, fun h => absurd rfl h⟩
    · rename_i c42
      have n2 := f42.2 c42
      simp only [zl]
      split
      · exact ⟨f42.1.tr (isNext_Fw (m := m) f42.1.1), fun _ => n2⟩
      · exact ⟨f42.1.tr (isNext_Fw (m := m) f42.1.1), fun _ => n2⟩
  split
  · refine ⟨At_0 f87.1.1 rfl rfl, (f87.1.2.1.trans f0.2.1), fun h => absurd rfl h, ok, fun j _ => rfl⟩
  · rename_i c87
    have n2 := f87.2 c87
    have s87 : (g 2).toNatClampNeg + 1 ≤ (v87.2 2).toNatClampNeg := Nat.le_trans (s0 n2) f87.1.2.2
    refine zl_F (P := fun r => DoesS g m r) (fun v100 e100 => ?_)
    have m100 : MOk v100.2 942 ∧ ∀ j, (j < 942 ∨ 1099 ≤ j) → v100.2 j = m j := by
      rw [e100]
      split
      · simp only [zl]
        exact ⟨MOk_sets (slot := 6) ok rfl, fun j hj => sets_fr _ _ _ 6 _ _ _ _ (by omega)⟩
      · split
        · refine zl_F (P := fun r : Int32 × (Nat → Int32) => MOk r.2 942 ∧ ∀ j, (j < 942 ∨ 1099 ≤ j) → r.2 j = m j) (fun u128 _ => ?_)
          refine zl_F (P := fun r : Int32 × (Nat → Int32) => MOk r.2 942 ∧ ∀ j, (j < 942 ∨ 1099 ≤ j) → r.2 j = m j) (fun v131 e131 => ?_)
          rw [e131]
          split
          · exact ⟨ok, fun _ _ => rfl⟩
          · simp only [zl]
            exact ⟨MOk_makes (slot := 6) ok rfl, fun j hj => makes_fr _ _ _ 6 _ ok _ (by omega)⟩
        · split
          · simp only [zl]
            exact ⟨MOk_draws (slot := 6) ok rfl, fun j hj => draws_fr _ _ _ 6 _ ok.2.2.2.2.2 _ (by omega)⟩
          · split
            · simp only [zl]
              exact ⟨MOk_starts (slot := 6) ok rfl, fun j hj => starts_fr _ _ _ 6 _ (by omega)⟩
            · refine zl_F (P := fun r : Int32 × (Nat → Int32) => MOk r.2 942 ∧ ∀ j, (j < 942 ∨ 1099 ≤ j) → r.2 j = m j) (fun v113 _ => ?_)
              refine zl_F (P := fun r : Int32 × (Nat → Int32) => MOk r.2 942 ∧ ∀ j, (j < 942 ∨ 1099 ≤ j) → r.2 j = m j) (fun v118 _ => ?_)
              simp only [zl]
              exact ⟨MOk_upd ok (by omega) rfl, fun j hj => pk_un (by omega)⟩
    refine zl_F (P := fun r => DoesS g m r) (fun v141 _ => ?_)
    split
    · exact ⟨At_0 f87.1.1 rfl rfl, f87.1.2.1.trans f0.2.1, fun h => absurd rfl h, m100.1, m100.2⟩
    · exact ⟨At_0 f87.1.1 rfl rfl, f87.1.2.1.trans f0.2.1, fun _ => s87, m100.1, m100.2⟩
theorem plays_step {g m g' m' t : Nat → Int32} {q : Nat} {u : Int32 × (Nat → Int32) × (Nat → Int32)} {gn : Int32} (h : At g ∧ MOk m 942 ∧ (62 ≤ (q + 1) + (g 2).toNatClampNeg ∨ (gn = 0 ∧ 1 ≤ q + 1))) (c0 : ¬ gn = 0) (hlt : ¬ ((g 1).toNatClampNeg ≤ (g 2).toNatClampNeg)) (e : u = f_X10_does g m t) (h1 : g' 1 = u.2.1 1) (h2 : g' 2 = u.2.1 2) (hm : m' = u.2.2) : At g' ∧ MOk m' 942 ∧ (62 ≤ q + (g' 2).toNatClampNeg ∨ (u.1 = 0 ∧ 1 ≤ q)) := by
  obtain ⟨ha, ok, hq⟩ := h
  have h60 := ha.1.2
  have hS := does_S (t := t) ha (by omega) ok
  rw [← e] at hS
  obtain ⟨s1, s2, s3, s4, -⟩ := hS
  have hq2 : 62 ≤ (q + 1) + (g 2).toNatClampNeg := by
    rcases hq with h | h
    · exact h
    · exact absurd h.1 c0
  refine ⟨At_0 s1 h1 h2, by rw [hm]; exact s4, ?_⟩
  rw [h2]
  by_cases c : u.1 = 0
  · exact Or.inr ⟨c, by omega⟩
  · have := s3 c
    exact Or.inl (by omega)
theorem plays_At {g g' : Nat → Int32} (h : IN (g 1) 60) (h1 : g' 1 = g 1) (h2 : g' 2 = 0) : At g' := by
  unfold At
  rw [h1, h2]
  exact ⟨h, IN_of (k := 0) rfl (Nat.zero_le _) (by have := h.2; omega)⟩
theorem and4 {a b c d : Prop} (h : a ∧ b ∧ c) (x : d) : a ∧ b ∧ c ∧ d := ⟨h.1, h.2.1, h.2.2, x⟩
def lp24_X10_plays (g : Nat → Int32) (m : Nat → Int32) (t : Nat → Int32) : Nat → Int32 → (Nat → Int32) → (Nat → Int32) → Int32 × (Nat → Int32) × (Nat → Int32)
  | 0, _, _, _ => (0, g, m)
  | q24 + 1, gn, gx, mx =>
    if gn = 0 then
      (gn, gx, mx)
    else
      if (gx 1) ≤ (gx 2) then
        (gn, gx, mx)
      else
        zl (f_X10_does gx mx t) fun u9 =>
        zl (
          if u9.1 = 0 then
            0
          else
            1
          : Int32) fun v12 =>
        lp24_X10_plays g m t q24 u9.1 (upd u9.2.1 6 ((u9.2.1 6) + v12)) u9.2.2
theorem lp24_X10_plays_s (g : Nat → Int32) (m : Nat → Int32) (t : Nat → Int32) (q24 : Nat) (gn : Int32) (gx : (Nat → Int32)) (mx : (Nat → Int32)) : lp24_X10_plays g m t (q24 + 1) gn gx mx = (
    if gn = 0 then
      (gn, gx, mx)
    else
      if (gx 1) ≤ (gx 2) then
        (gn, gx, mx)
      else
        zl (f_X10_does gx mx t) fun u9 =>
        zl (
          if u9.1 = 0 then
            0
          else
            1
          : Int32) fun v12 =>
        lp24_X10_plays g m t q24 u9.1 (upd u9.2.1 6 ((u9.2.1 6) + v12)) u9.2.2
    ) := rfl
def f_X10_plays (g : Nat → Int32) (m : Nat → Int32) (t : Nat → Int32) : Int32 × (Nat → Int32) × (Nat → Int32) :=
  zl (f_X10_copies g m t 0 6) fun u1 =>
  lp24_X10_plays g m t 62 1 (upd (upd (upd g 2 0) 4 0) 6 0) u1
theorem fe_X10_plays (g : Nat → Int32) (m : Nat → Int32) (t : Nat → Int32) : f_X10_plays g m t = (
    zl (f_X10_copies g m t 0 6) fun u1 =>
    lp24_X10_plays g m t 62 1 (upd (upd (upd g 2 0) 4 0) 6 0) u1
    ) := rfl
abbrev rm_X10_plays : Room := { frames := 5, cells := 0, slots := 0, locals := 120 }
set_option maxHeartbeats 1000000 in
set_option maxRecDepth 100000 in
theorem c_X10_plays (l : Launch) (T : zT) (M : Nat → Nat) (g : Nat → Int32) (m : Nat → Int32) (t : Nat → Int32) (htn0 : IN (g 1) 60) (ok0 : MOk m 0) : Ci l yX10_plays wsX10_plays rm_X10_plays T .boolean [.ref (M 0)] [(M 0, .inr (10, [.ref (M 1), .int (g 0), .ref (M 2), .int (g 1), .int (g 2), .int (g 3), .int (g 4), .int (g 5), .int (g 6)])), (M 1, .inl (T.2.2.1, 1099, .inl m)), (M 2, .inl (T.2.2.2, 60, .inl t))] (S := Int32 × (Nat → Int32) × (Nat → Int32)) (f_X10_plays g m t) (fun u => u.1) (fun u => [(M 0, .inr (10, [.ref (M 1), .int (u.2.1 0), .ref (M 2), .int (u.2.1 1), .int (u.2.1 2), .int (u.2.1 3), .int (u.2.1 4), .int (u.2.1 5), .int (u.2.1 6)])), (M 1, .inl (T.2.2.1, 1099, .inl u.2.2)), (M 2, .inl (T.2.2.2, 60, .inl t))]) := by
  refine z_metI (own := RX10) (maxL := 2) rfl (by decide) rfl (Nat.le_of_ble_eq_true rfl) ?_
  intro P0 E0 S0 M0 G0 B0 T0 K0 A9 Q9 C E
  have hx := C.1.1
  have hb := C.1.2.1
  have hown := C.1.2.2.2.1
  have hts := C.1.2.2.2.2
  have hn := C.2.1.2
  have iX10 : ∀ w ∈ u_ws RX10 TX10 9, w ∈ wsX10_plays := by decide +kernel
  have k85 := hts (.fieldLink RX10 85 "JudgedBitsModel" "typed" "I") (by decide +kernel)
  have k89 := hts (.fieldLink RX10 89 "JudgedBitsModel" "at" "I") (by decide +kernel)
  have k102 := hts (.fieldLink RX10 102 "JudgedBitsModel" "reason" "I") (by decide +kernel)
  have k108 := hts (.fieldLink RX10 108 "JudgedBitsModel" "orders" "I") (by decide +kernel)
  change Z P0 l E0 rm_X10_plays S0 M0 G0 B0 T0 K0 2 T A9 Q9 0 0 [(M 0, .inr (10, [.ref (M 1), .int (g 0), .ref (M 2), .int (g 1), .int (g 2), .int (g 3), .int (g 4), .int (g 5), .int (g 6)])), (M 1, .inl (T.2.2.1, 1099, .inl m)), (M 2, .inl (T.2.2.2, 60, .inl t))] 0 [(0, .ref (M 0))] []
  have zh0 := fe_X10_plays g m t
  refine Z.of (pc' := 1) (fun _ _ _ hl => lv_aload_n hx hb dX10_plays_0 rfl (lv_at hl 0 rfl)) ?_
  refine Z.of (pc' := 2) (fun _ _ _ _ => lv_iconst (v := 0) hx hb dX10_plays_1 (by decide)) ?_
  refine Z.of (pc' := 4) (fun _ _ _ _ => lv_bipush (v := 6) hx hb dX10_plays_2 (by decide)) ?_
  refine z_callVv C (c_X10_copies l T M g m t 0 6 (by omega) (by omega)) [0, 1, 2] [] rfl (by decide +kernel) (fun u1 => [(M 0, .inr (10, [.ref (M 1), .int (g 0), .ref (M 2), .int (g 1), .int (g 2), .int (g 3), .int (g 4), .int (g 5), .int (g 6)])), (M 1, .inl (T.2.2.1, 1099, .inl u1)), (M 2, .inl (T.2.2.2, 60, .inl t))]) (fun _ => rfl) [] rfl (fun _ => rfl) [M 0, M 1, M 2] rfl (fun _ => rfl) 3 (fun _ => rfl) (by decide +kernel) (cwV 2 hts gX10_plays_X10_copies rfl rfl rfl (by decide +kernel) ⟨Nat.le_of_ble_eq_true rfl, Nat.le_of_ble_eq_true rfl⟩) 0 rfl rfl rfl (As := [.int 0, .int 6]) (rest := []) rfl rfl (Nat.le_of_ble_eq_true rfl) dX10_plays_4 rfl ⟨Nat.zero_le _, Nat.zero_le _⟩ (fun u1 eu1 => ?_)
  have zh2 := zl_e zh0 eu1
  refine Z.of (pc' := 8) (fun _ _ _ hl => lv_aload_n hx hb dX10_plays_7 rfl (lv_at hl 0 rfl)) ?_
  refine Z.of (pc' := 9) (fun _ _ _ _ => lv_iconst (v := 0) hx hb dX10_plays_8 (by decide)) ?_
  refine z_put C iX10 tyX10_ok nmX10 0 4 k89 rfl rfl (by decide) rfl rfl rfl rfl (Nat.le_of_ble_eq_true rfl) dX10_plays_9 rfl [(M 0, .inr (10, [.ref (M 1), .int (g 0), .ref (M 2), .int (g 1), .int 0, .int (g 3), .int (g 4), .int (g 5), .int (g 6)])), (M 1, .inl (T.2.2.1, 1099, .inl u1)), (M 2, .inl (T.2.2.2, 60, .inl t))] rfl ?_
  refine Z.of (pc' := 13) (fun _ _ _ hl => lv_aload_n hx hb dX10_plays_12 rfl (lv_at hl 0 rfl)) ?_
  refine Z.of (pc' := 14) (fun _ _ _ _ => lv_iconst (v := 0) hx hb dX10_plays_13 (by decide)) ?_
  refine z_put C iX10 tyX10_ok nmX10 0 8 k108 rfl rfl (by decide) rfl rfl rfl rfl (Nat.le_of_ble_eq_true rfl) dX10_plays_14 rfl [(M 0, .inr (10, [.ref (M 1), .int (g 0), .ref (M 2), .int (g 1), .int 0, .int (g 3), .int (g 4), .int (g 5), .int 0])), (M 1, .inl (T.2.2.1, 1099, .inl u1)), (M 2, .inl (T.2.2.2, 60, .inl t))] rfl ?_
  refine Z.of (pc' := 18) (fun _ _ _ hl => lv_aload_n hx hb dX10_plays_17 rfl (lv_at hl 0 rfl)) ?_
  refine Z.of (pc' := 19) (fun _ _ _ _ => lv_iconst (v := 0) hx hb dX10_plays_18 (by decide)) ?_
  refine z_put C iX10 tyX10_ok nmX10 0 6 k102 rfl rfl (by decide) rfl rfl rfl rfl (Nat.le_of_ble_eq_true rfl) dX10_plays_19 rfl [(M 0, .inr (10, [.ref (M 1), .int (g 0), .ref (M 2), .int (g 1), .int 0, .int (g 3), .int 0, .int (g 5), .int 0])), (M 1, .inl (T.2.2.1, 1099, .inl u1)), (M 2, .inl (T.2.2.2, 60, .inl t))] rfl ?_
  refine Z.of (pc' := 23) (fun _ _ _ _ => lv_iconst (v := 1) hx hb dX10_plays_22 (by decide)) ?_
  refine Z.sto (pc' := 24) (lv' := [(1, .int 1), (0, .ref (M 0))]) (fun _ _ _ hl => lv_istore_n (lv' := [(1, .int 1), (0, .ref (M 0))]) hx hb dX10_plays_23 rfl hl (by decide) rfl) ?_
  have L24 : ∀ (q24 : Nat) (gn : Int32) (gx : (Nat → Int32)) (mx : (Nat → Int32)), (At gx ∧ MOk mx 942 ∧ (62 ≤ q24 + (gx 2).toNatClampNeg ∨ (gn = 0 ∧ 1 ≤ q24)) ∧ narrow .boolean (.int gn) = .int gn) → f_X10_plays g m t = lp24_X10_plays g m t q24 gn gx mx → Z P0 l E0 rm_X10_plays S0 M0 G0 B0 T0 K0 2 T A9 Q9 0 0 [(M 0, .inr (10, [.ref (M 1), .int (gx 0), .ref (M 2), .int (gx 1), .int (gx 2), .int (gx 3), .int (gx 4), .int (gx 5), .int (gx 6)])), (M 1, .inl (T.2.2.1, 1099, .inl mx)), (M 2, .inl (T.2.2.2, 60, .inl t))] 24 [(0, .ref (M 0)), (1, .int gn)] [] := by
    intro q24
    induction q24 with
    | zero =>
      intro gn gx mx hi24 zhl24
      exact absurd hi24 (fun h => by obtain ⟨h1, h2, h3, -⟩ := h; have := h1.1.2; have := h1.2.2; omega)
    | succ q24 ih =>
      intro gn gx mx hi24 zhl24
      have zhb24 := zhl24.trans (lp24_X10_plays_s g m t q24 gn gx mx)
      have hx1 := hi24.1.1.2
      have hx2 := hi24.1.2.2
      refine Z.of (pc' := 25) (fun _ _ _ hl => lv_iload_n hx hb dX10_plays_24 rfl (lv_at hl 1 rfl)) ?_
      refine Z.two (pt := 65) (pf := 28) (fun _ _ _ _ => lv_if_eq hx hb dX10_plays_25 (by decide)) (fun c3 => ?_) (fun c3 => ?_)
      · have zh4 := zhb24.trans (if_pos c3)
        refine Z.of (pc' := 66) (fun _ _ _ hl => lv_iload_n hx hb dX10_plays_65 rfl (lv_at hl 1 rfl)) ?_
        exact E (gn, gx, mx) _ _ _ _ dX10_plays_66 hi24.2.2.2 rfl rfl zh4
      · have zh5 := zhb24.trans (if_neg c3)
        refine Z.of (pc' := 29) (fun _ _ _ hl => lv_aload_n hx hb dX10_plays_28 rfl (lv_at hl 0 rfl)) ?_
        refine z_get C iX10 0 4 k89 rfl rfl (by decide) rfl rfl dX10_plays_29 rfl ?_
        refine Z.of (pc' := 33) (fun _ _ _ hl => lv_aload_n hx hb dX10_plays_32 rfl (lv_at hl 0 rfl)) ?_
        refine z_get C iX10 0 3 k85 rfl rfl (by decide) rfl rfl dX10_plays_33 rfl ?_
        refine Z.two (pt := 65) (pf := 39) (fun _ _ _ _ => lv_icmp_ge hx hb dX10_plays_36 (by decide)) (fun c6 => ?_) (fun c6 => ?_)
        · have nc6 : ((gx 1).toNatClampNeg) ≤ ((gx 2).toNatClampNeg) := zf_le (a := ((gx 1).toNatClampNeg)) (b := ((gx 2).toNatClampNeg)) hi24.1.1.1 hi24.1.2.1 c6 (by omega) (by omega)
          have zh7 := zh5.trans (if_pos c6)
          refine Z.of (pc' := 66) (fun _ _ _ hl => lv_iload_n hx hb dX10_plays_65 rfl (lv_at hl 1 rfl)) ?_
          exact E (gn, gx, mx) _ _ _ _ dX10_plays_66 hi24.2.2.2 rfl rfl zh7
        · have nc6 : ¬ (((gx 1).toNatClampNeg) ≤ ((gx 2).toNatClampNeg)) := zf_nle (a := ((gx 1).toNatClampNeg)) (b := ((gx 2).toNatClampNeg)) hi24.1.1.1 hi24.1.2.1 c6 (by omega) (by omega)
          have zh8 := zh5.trans (if_neg c6)
          refine Z.of (pc' := 40) (fun _ _ _ hl => lv_aload_n hx hb dX10_plays_39 rfl (lv_at hl 0 rfl)) ?_
          refine z_callVi C (c_X10_does l T M gx mx t hi24.1 (by have h1 := nc6; omega) hi24.2.1) [0, 1, 2] [] rfl (by decide +kernel) (fun u9 => [(M 0, .inr (10, [.ref (M 1), .int (u9.2.1 0), .ref (M 2), .int (u9.2.1 1), .int (u9.2.1 2), .int (u9.2.1 3), .int (u9.2.1 4), .int (u9.2.1 5), .int (u9.2.1 6)])), (M 1, .inl (T.2.2.1, 1099, .inl u9.2.2)), (M 2, .inl (T.2.2.2, 60, .inl t))]) (fun _ => rfl) [] rfl (fun _ => rfl) [M 0, M 1, M 2] rfl (fun _ => rfl) 3 (fun _ => rfl) (by decide +kernel) (cwV 0 hts gX10_plays_X10_does rfl rfl rfl (by decide +kernel) ⟨Nat.le_of_ble_eq_true rfl, Nat.le_of_ble_eq_true rfl⟩) 0 rfl rfl rfl (As := []) (rest := []) rfl rfl (Nat.le_of_ble_eq_true rfl) dX10_plays_40 rfl ⟨Nat.zero_le _, Nat.zero_le _⟩ (fun u9 eu9 bu9 => ?_)
          have zh10 := zl_e zh8 eu9
          refine Z.sto (pc' := 44) (lv' := [(1, .int u9.1), (0, .ref (M 0))]) (fun _ _ _ hl => lv_istore_n (lv' := [(1, .int u9.1), (0, .ref (M 0))]) hx hb dX10_plays_43 rfl hl (by decide) rfl) ?_
          refine Z.of (pc' := 45) (fun _ _ _ hl => lv_aload_n hx hb dX10_plays_44 rfl (lv_at hl 1 rfl)) ?_
          refine Z.of (pc' := 46) (fun _ _ _ hl => lv_dup hx hb dX10_plays_45 rfl) ?_
          refine z_get C iX10 0 8 k108 rfl rfl (by decide) rfl rfl dX10_plays_46 rfl ?_
          refine Z.of (pc' := 50) (fun _ _ _ hl => lv_iload_n hx hb dX10_plays_49 rfl (lv_at hl 0 rfl)) ?_
          have J12 : ∀ v12 : Int32, v12 = (
              if u9.1 = 0 then
                0
              else
                1
              ) → Z P0 l E0 rm_X10_plays S0 M0 G0 B0 T0 K0 2 T A9 Q9 0 0 [(M 0, .inr (10, [.ref (M 1), .int (u9.2.1 0), .ref (M 2), .int (u9.2.1 1), .int (u9.2.1 2), .int (u9.2.1 3), .int (u9.2.1 4), .int (u9.2.1 5), .int (u9.2.1 6)])), (M 1, .inl (T.2.2.1, 1099, .inl u9.2.2)), (M 2, .inl (T.2.2.2, 60, .inl t))] 58 [(0, .ref (M 0)), (1, .int u9.1)] [.int v12, .int (u9.2.1 6), .ref (M 0)] := by
            intro v12 ev12
            have zh15 := zl_e zh10 ev12
            refine Z.of (pc' := 59) (fun _ _ _ hl => lv_iadd hx hb dX10_plays_58) ?_
            refine z_put C iX10 tyX10_ok nmX10 0 8 k108 rfl rfl (by decide) rfl rfl rfl rfl (Nat.le_of_ble_eq_true rfl) dX10_plays_59 rfl [(M 0, .inr (10, [.ref (M 1), .int (u9.2.1 0), .ref (M 2), .int (u9.2.1 1), .int (u9.2.1 2), .int (u9.2.1 3), .int (u9.2.1 4), .int (u9.2.1 5), .int ((u9.2.1 6) + v12)])), (M 1, .inl (T.2.2.1, 1099, .inl u9.2.2)), (M 2, .inl (T.2.2.2, 60, .inl t))] rfl ?_
            refine Z.of (pc' := 24) (fun _ _ _ _ => lv_goto hx hb dX10_plays_62 (by decide)) ?_
            exact Z.sub (ks := [0, 1]) (lv' := [(0, .ref (M 0)), (1, .int u9.1)]) rfl (ih u9.1 (upd u9.2.1 6 ((u9.2.1 6) + v12)) u9.2.2 (and4 (plays_step ⟨hi24.1, hi24.2.1, hi24.2.2.1⟩ c3 nc6 eu9 rfl rfl rfl) bu9) zh15)
          have zr12 := @Eq.refl (Int32) (
              if u9.1 = 0 then
                0
              else
                1
              )
          refine Z.two (pt := 57) (pf := 53) (fun _ _ _ _ => lv_if_eq hx hb dX10_plays_50 (by decide)) (fun c11 => ?_) (fun c11 => ?_)
          · have zh13 := zr12.trans (if_pos c11)
            refine Z.of (pc' := 58) (fun _ _ _ _ => lv_iconst (v := 0) hx hb dX10_plays_57 (by decide)) ?_
            exact Z.sub (ks := [1, 0]) (lv' := [(0, .ref (M 0)), (1, .int u9.1)]) rfl (J12 0 zh13.symm)
          · have zh14 := zr12.trans (if_neg c11)
            refine Z.of (pc' := 54) (fun _ _ _ _ => lv_iconst (v := 1) hx hb dX10_plays_53 (by decide)) ?_
            refine Z.of (pc' := 58) (fun _ _ _ _ => lv_goto hx hb dX10_plays_54 (by decide)) ?_
            exact Z.sub (ks := [1, 0]) (lv' := [(0, .ref (M 0)), (1, .int u9.1)]) rfl (J12 1 zh14.symm)
  exact Z.sub (ks := [1, 0]) (lv' := [(0, .ref (M 0)), (1, .int 1)]) rfl (L24 62 1 (upd (upd (upd g 2 0) 4 0) 6 0) u1 ⟨plays_At htn0 rfl rfl, MOk_copies (fr := 0) (tw := 6) ok0 (by decide) eu1, Or.inl (by omega), rfl⟩ zh2)
def f_X10_fault (g : Nat → Int32) (m : Nat → Int32) (t : Nat → Int32) (what : Int32) : Int32 × (Nat → Int32) × (Nat → Int32) :=
  zl (f_X10_in what 0 2) fun u1 =>
  if u1 = 0 then
    ((-1000001), g, m)
  else
    zl (f_X10_plays g m t) fun u6 =>
    if u6.1 = 0 then
      if what = 0 then
        (u6.2.1 3, u6.2.1, u6.2.2)
      else
        if what = 1 then
          (u6.2.1 4, u6.2.1, u6.2.2)
        else
          (u6.2.1 5, u6.2.1, u6.2.2)
    else
      ((-1000004), u6.2.1, u6.2.2)
theorem fe_X10_fault (g : Nat → Int32) (m : Nat → Int32) (t : Nat → Int32) (what : Int32) : f_X10_fault g m t what = (
    zl (f_X10_in what 0 2) fun u1 =>
    if u1 = 0 then
      ((-1000001), g, m)
    else
      zl (f_X10_plays g m t) fun u6 =>
      if u6.1 = 0 then
        if what = 0 then
          (u6.2.1 3, u6.2.1, u6.2.2)
        else
          if what = 1 then
            (u6.2.1 4, u6.2.1, u6.2.2)
          else
            (u6.2.1 5, u6.2.1, u6.2.2)
      else
        ((-1000004), u6.2.1, u6.2.2)
    ) := rfl
abbrev rm_X10_fault : Room := { frames := 6, cells := 0, slots := 0, locals := 141 }
set_option maxHeartbeats 1000000 in
set_option maxRecDepth 100000 in
theorem c_X10_fault (l : Launch) (T : zT) (M : Nat → Nat) (g : Nat → Int32) (m : Nat → Int32) (t : Nat → Int32) (what : Int32) (htn0 : IN (g 1) 60) (ok0 : MOk m 0) : Ci l yX10_fault wsX10_fault rm_X10_fault T .int [.ref (M 0), .int what] [(M 0, .inr (10, [.ref (M 1), .int (g 0), .ref (M 2), .int (g 1), .int (g 2), .int (g 3), .int (g 4), .int (g 5), .int (g 6)])), (M 1, .inl (T.2.2.1, 1099, .inl m)), (M 2, .inl (T.2.2.2, 60, .inl t))] (S := Int32 × (Nat → Int32) × (Nat → Int32)) (f_X10_fault g m t what) (fun u => u.1) (fun u => [(M 0, .inr (10, [.ref (M 1), .int (u.2.1 0), .ref (M 2), .int (u.2.1 1), .int (u.2.1 2), .int (u.2.1 3), .int (u.2.1 4), .int (u.2.1 5), .int (u.2.1 6)])), (M 1, .inl (T.2.2.1, 1099, .inl u.2.2)), (M 2, .inl (T.2.2.2, 60, .inl t))]) := by
  refine z_metI (own := RX10) (maxL := 2) rfl (by decide) rfl (Nat.le_of_ble_eq_true rfl) ?_
  intro P0 E0 S0 M0 G0 B0 T0 K0 A9 Q9 C E
  have hx := C.1.1
  have hb := C.1.2.1
  have hown := C.1.2.2.2.1
  have hts := C.1.2.2.2.2
  have hn := C.2.1.2
  have iX10 : ∀ w ∈ u_ws RX10 TX10 9, w ∈ wsX10_fault := by decide +kernel
  have k92 := hts (.fieldLink RX10 92 "JudgedBitsModel" "begin" "I") (by decide +kernel)
  have k102 := hts (.fieldLink RX10 102 "JudgedBitsModel" "reason" "I") (by decide +kernel)
  have k105 := hts (.fieldLink RX10 105 "JudgedBitsModel" "cause" "I") (by decide +kernel)
  change Z P0 l E0 rm_X10_fault S0 M0 G0 B0 T0 K0 2 T A9 Q9 0 0 [(M 0, .inr (10, [.ref (M 1), .int (g 0), .ref (M 2), .int (g 1), .int (g 2), .int (g 3), .int (g 4), .int (g 5), .int (g 6)])), (M 1, .inl (T.2.2.1, 1099, .inl m)), (M 2, .inl (T.2.2.2, 60, .inl t))] 0 [(0, .ref (M 0)), (1, .int what)] []
  have zh0 := fe_X10_fault g m t what
  refine Z.of (pc' := 1) (fun _ _ _ hl => lv_iload_n hx hb dX10_fault_0 rfl (lv_at hl 1 rfl)) ?_
  refine Z.of (pc' := 2) (fun _ _ _ _ => lv_iconst (v := 0) hx hb dX10_fault_1 (by decide)) ?_
  refine Z.of (pc' := 3) (fun _ _ _ _ => lv_iconst (v := 2) hx hb dX10_fault_2 (by decide)) ?_
  refine z_callSi C (c_X10_in l T what 0 2) (cwS 3 hts gX10_fault_X10_in rfl rfl rfl (by decide +kernel) ⟨Nat.le_of_ble_eq_true rfl, Nat.le_of_ble_eq_true rfl⟩) (As := [.int what, .int 0, .int 2]) (rest := []) rfl rfl (Nat.le_of_ble_eq_true rfl) dX10_fault_3 rfl ⟨Nat.zero_le _, Nat.zero_le _⟩ (fun u1 eu1 bu1 => ?_)
  have zh2 := zl_e zh0 eu1
  refine Z.two' (pt := 12) (pf := 9) (fun _ _ _ _ => lv_if_ne hx hb dX10_fault_6 (by decide)) (fun c3 => ?_) (fun c3 => ?_)
  · have zh4 := zh2.trans (if_neg c3)
    refine Z.of (pc' := 13) (fun _ _ _ hl => lv_aload_n hx hb dX10_fault_12 rfl (lv_at hl 0 rfl)) ?_
    refine z_callVi C (c_X10_plays l T M g m t htn0 ok0) [0, 1, 2] [] rfl (by decide +kernel) (fun u6 => [(M 0, .inr (10, [.ref (M 1), .int (u6.2.1 0), .ref (M 2), .int (u6.2.1 1), .int (u6.2.1 2), .int (u6.2.1 3), .int (u6.2.1 4), .int (u6.2.1 5), .int (u6.2.1 6)])), (M 1, .inl (T.2.2.1, 1099, .inl u6.2.2)), (M 2, .inl (T.2.2.2, 60, .inl t))]) (fun _ => rfl) [] rfl (fun _ => rfl) [M 0, M 1, M 2] rfl (fun _ => rfl) 3 (fun _ => rfl) (by decide +kernel) (cwV 0 hts gX10_fault_X10_plays rfl rfl rfl (by decide +kernel) ⟨Nat.le_of_ble_eq_true rfl, Nat.le_of_ble_eq_true rfl⟩) 0 rfl rfl rfl (As := []) (rest := []) rfl rfl (Nat.le_of_ble_eq_true rfl) dX10_fault_13 rfl ⟨Nat.zero_le _, Nat.zero_le _⟩ (fun u6 eu6 bu6 => ?_)
    have zh7 := zl_e zh4 eu6
    refine Z.two (pt := 22) (pf := 19) (fun _ _ _ _ => lv_if_eq hx hb dX10_fault_16 (by decide)) (fun c8 => ?_) (fun c8 => ?_)
    · have zh9 := zh7.trans (if_pos c8)
      refine Z.of (pc' := 23) (fun _ _ _ hl => lv_iload_n hx hb dX10_fault_22 rfl (lv_at hl 1 rfl)) ?_
      refine Z.two' (pt := 33) (pf := 26) (fun _ _ _ _ => lv_if_ne hx hb dX10_fault_23 (by decide)) (fun c11 => ?_) (fun c11 => ?_)
      · have zh12 := zh9.trans (if_neg c11)
        refine Z.of (pc' := 34) (fun _ _ _ hl => lv_iload_n hx hb dX10_fault_33 rfl (lv_at hl 1 rfl)) ?_
        refine Z.of (pc' := 35) (fun _ _ _ _ => lv_iconst (v := 1) hx hb dX10_fault_34 (by decide)) ?_
        refine Z.two' (pt := 45) (pf := 38) (fun _ _ _ _ => lv_icmp_ne hx hb dX10_fault_35 (by decide)) (fun c14 => ?_) (fun c14 => ?_)
        · have zh15 := zh12.trans (if_neg c14)
          refine Z.of (pc' := 46) (fun _ _ _ hl => lv_aload_n hx hb dX10_fault_45 rfl (lv_at hl 0 rfl)) ?_
          refine z_get C iX10 0 7 k105 rfl rfl (by decide) rfl rfl dX10_fault_46 rfl ?_
          exact E (u6.2.1 5, u6.2.1, u6.2.2) _ _ _ _ dX10_fault_49 rfl rfl rfl zh15
        · have zh16 := zh12.trans (if_pos c14)
          refine Z.of (pc' := 39) (fun _ _ _ hl => lv_aload_n hx hb dX10_fault_38 rfl (lv_at hl 0 rfl)) ?_
          refine z_get C iX10 0 6 k102 rfl rfl (by decide) rfl rfl dX10_fault_39 rfl ?_
          refine Z.of (pc' := 49) (fun _ _ _ _ => lv_goto hx hb dX10_fault_42 (by decide)) ?_
          exact E (u6.2.1 4, u6.2.1, u6.2.2) _ _ _ _ dX10_fault_49 rfl rfl rfl zh16
      · have zh13 := zh9.trans (if_pos c11)
        refine Z.of (pc' := 27) (fun _ _ _ hl => lv_aload_n hx hb dX10_fault_26 rfl (lv_at hl 0 rfl)) ?_
        refine z_get C iX10 0 5 k92 rfl rfl (by decide) rfl rfl dX10_fault_27 rfl ?_
        refine Z.of (pc' := 49) (fun _ _ _ _ => lv_goto hx hb dX10_fault_30 (by decide)) ?_
        exact E (u6.2.1 3, u6.2.1, u6.2.2) _ _ _ _ dX10_fault_49 rfl rfl rfl zh13
    · have zh10 := zh7.trans (if_neg c8)
      refine Z.of (pc' := 21) (fun _ _ _ _ => lv_ldc hx hb hown (hts (.constant RX10 78 (-1000004)) (by decide +kernel)) dX10_fault_19) ?_
      exact E ((-1000004), u6.2.1, u6.2.2) _ _ _ _ dX10_fault_21 rfl rfl rfl zh10
  · have zh5 := zh2.trans (if_pos c3)
    refine Z.of (pc' := 11) (fun _ _ _ _ => lv_ldc hx hb hown (hts (.constant RX10 59 (-1000001)) (by decide +kernel)) dX10_fault_9) ?_
    exact E ((-1000001), g, m) _ _ _ _ dX10_fault_11 rfl rfl rfl zh5
