/-! the model's order, cut at its joints -/
def dLet (c : Int32) : Int32 :=
    if c = 114 then
      1
    else
      if c = 115 then
        1
      else
        if c = 100 then
          1
        else
          if c = 110 then
            1
          else
            if c = 120 then
              1
            else
              0
def dRing (m t h : Nat → Int32) : Int32 × Int32 × Int32 × (Nat → Int32) :=
        zl (f_X10_isNext h m t 44) fun u48 =>
        zl (
          if u48.1 = 0 then
            ((-1), u48.2)
          else
            zl (f_X10_number u48.2 m t) fun u54 =>
            (u54.1, u54.2)
          : Int32 × (Nat → Int32)) fun v51 =>
        zl (
          if u48.1 = 0 then
            (0, v51.2)
          else
            if v51.1 < 0 then
              (0, v51.2)
            else
              zl (f_X10_isNext v51.2 m t 44) fun u64 =>
              if u64.1 = 0 then
                (0, u64.2)
              else
                (1, u64.2)
          : Int32 × (Nat → Int32)) fun v58 =>
        zl (
          if v58.1 = 0 then
            ((-1), v58.2)
          else
            zl (f_X10_number v58.2 m t) fun u74 =>
            (u74.1, u74.2)
          : Int32 × (Nat → Int32)) fun v71 =>
        zl (
          if v58.1 = 0 then
            0
          else
            if v71.1 < 0 then
              0
            else
              1
          : Int32) fun v78 =>
        (v78, v51.1, v71.1, v71.2)

def dTold (m t : Nat → Int32) (c one two three : Int32) (h : Nat → Int32) : Int32 × (Nat → Int32) :=
      if c = 114 then
        zl (f_X10_sets h m t 6 one two three) fun u137 =>
        (u137.1, u137.2)
      else
        if c = 115 then
          zl (f_X10_in one 1 300) fun u128 =>
          zl (
            if u128 = 0 then
              ((-1000001), m)
            else
              zl (f_X10_makes h m t 6 one) fun u134 =>
              (u134.1, u134.2)
            : Int32 × (Nat → Int32)) fun v131 =>
          (v131.1, v131.2)
        else
          if c = 100 then
            zl (f_X10_draws h m t 6 one) fun u126 =>
            (u126.1, u126.2)
          else
            if c = 110 then
              zl (f_X10_starts h m t 6) fun u124 =>
              (m (157 * 6 + 18), u124)
            else
              zl (
                if one ≤ 0 then
                  (-1000001)
                else
                  0
                : Int32) fun v113 =>
              zl (
                if one ≤ 0 then
                  (m 942)
                else
                  one
                : Int32) fun v118 =>
              zl (upd m 942 v118) fun m122 =>
              (v113, m122)
def dOut (h : Nat → Int32) (v100 : Int32 × (Nat → Int32)) : Int32 × (Nat → Int32) × (Nat → Int32) :=
    if v100.1 < 0 then
      (0, upd (upd h 4 (if 0 ≤ v100.1 then 0 else 2)) 5 v100.1, v100.2)
    else
      (1, upd (upd h 4 (if 0 ≤ v100.1 then 0 else 2)) 5 v100.1, v100.2)
theorem does_at {g m t : Nat → Int32} {c : Int32} {V24 V87 : Int32 × (Nat → Int32)} {v34 : Int32} {V42 : Int32 × Int32 × Int32 × (Nat → Int32)} (hc : t ((g 2).toNatClampNeg) = c) (e1 : dLet c = 1) (e3 : (if c = 110 then (0, upd (upd g 2 ((g 2) + 1)) 3 (g 2)) else zl (f_X10_number (upd (upd g 2 ((g 2) + 1)) 3 (g 2)) m t) fun u30 => (u30.1, u30.2)) = V24) (e4 : (if V24.1 < 0 then (0 : Int32) else 1) = v34) (e5 : (if v34 = 0 then (v34, 0, 0, V24.2) else if c = 114 then dRing m t V24.2 else (v34, 0, 0, V24.2)) = V42) (e6 : (if V42.1 = 0 then (0, V42.2.2.2) else zl (f_X10_isNext V42.2.2.2 m t 59) fun u90 => if u90.1 = 0 then (0, u90.2) else (1, u90.2)) = V87) : f_X10_does g m t = if V87.1 = 0 then (0, upd (upd V87.2 4 1) 5 ((V87.2 2) - (V87.2 3)), m) else dOut V87.2 (dTold m t c V24.1 V42.2.1 V42.2.2.1 V87.2) := by
  rw [fe_X10_does, hc]
  refine (zl_c (y := (1 : Int32)) e1).trans ?_
  refine (zl_c (y := (1 : Int32)) (if_neg (by decide))).trans ?_
  refine (zl_c (y := V24) ((if_neg (by decide)).trans e3)).trans ?_
  refine (zl_c (y := v34) ((if_neg (by decide)).trans e4)).trans ?_
  refine (zl_c (y := V42) e5).trans ?_
  refine (zl_c (y := V87) e6).trans ?_
  by_cases d : V87.1 = 0
  · rw [if_pos d, if_pos d]
  · rw [if_neg d, if_neg d]
    refine (zl_c (y := dTold m t c V24.1 V42.2.1 V42.2.2.1 V87.2) rfl).trans ?_
    exact (zl_c rfl).trans rfl
theorem does_bad {g m t : Nat → Int32} {c : Int32} (hc : t ((g 2).toNatClampNeg) = c) (e1 : dLet c = 0) : f_X10_does g m t = (0, upd (upd (upd (upd g 2 (g 2 + 0)) 3 (g 2)) 4 1) 5 ((upd (upd g 2 (g 2 + 0)) 3 (g 2)) 2 - (upd (upd g 2 (g 2 + 0)) 3 (g 2)) 3), m) := by
  rw [fe_X10_does, hc]
  refine (zl_c (y := (0 : Int32)) e1).trans ?_
  refine (zl_c (y := (0 : Int32)) (if_pos rfl)).trans ?_
  refine (zl_c (y := ((0 : Int32), upd (upd g 2 (g 2 + 0)) 3 (g 2))) (if_pos rfl)).trans ?_
  refine (zl_c (y := (0 : Int32)) (if_pos rfl)).trans ?_
  refine (zl_c (y := ((0 : Int32), (0 : Int32), (0 : Int32), upd (upd g 2 (g 2 + 0)) 3 (g 2))) (if_pos rfl)).trans ?_
  refine (zl_c (y := ((0 : Int32), upd (upd g 2 (g 2 + 0)) 3 (g 2))) (if_pos rfl)).trans ?_
  exact if_pos rfl
/-- the end of an order: its ';' -/
theorem end_rel {N p : Nat} {o g m t tm : Nat → Int32} (hN : N ≤ 60) (hp : p ≤ N) (ho : o 1 = nI p) (hg : g 2 = nI p) (hg1 : g 1 = nI N) (htm : ∀ j, j < N → tm j = t j) : ∃ a V, (zl (f_X3_isSkipped o (nI N) t 59) fun w => if w.1 = 0 then ((0 : Int32), w.2) else (1, w.2)) = a ∧ (zl (f_X10_isNext g m tm 59) fun u90 => if u90.1 = 0 then ((0 : Int32), u90.2) else (1, u90.2)) = V ∧ (∀ j, j ≠ 1 → a.2 j = o j) ∧ (∀ j, j ≠ 2 → V.2 j = g j) ∧ ((a.1 = 0 ∧ V.1 = 0 ∧ ∃ p', a.2 1 = nI p' ∧ V.2 2 = nI p') ∨ (a.1 = 1 ∧ V.1 = 1 ∧ p < N ∧ a.2 1 = nI (p + 1) ∧ V.2 2 = nI (p + 1))) := by
  obtain ⟨a, b, ea, eb, fa, fb, r⟩ := skip_rel (m := m) (w := 59) (by decide) hN hp ho hg hg1 htm
  rw [zl_c ea, zl_c eb]
  rcases r with ⟨r1, r2, r3, r4, r5⟩ | ⟨r1, r2, r3, r4⟩
  · rw [if_neg (show ¬ a.1 = 0 by rw [r1]; decide), if_neg (show ¬ b.1 = 0 by rw [r2]; decide)]
    exact ⟨_, _, rfl, rfl, fa, fb, Or.inr ⟨rfl, rfl, r3, r4, r5⟩⟩
  · rw [if_pos r1, if_pos r2]
    exact ⟨_, _, rfl, rfl, fa, fb, Or.inl ⟨rfl, rfl, p, r3, r4⟩⟩
/-- an order of one number -/
theorem one_rel {N p : Nat} {o g m t tm : Nat → Int32} (hN : N ≤ 60) (hp : p ≤ N) (ho : o 1 = nI p) (hg : g 2 = nI p) (hg1 : g 1 = nI N) (htm : ∀ j, j < N → tm j = t j) : ∃ a b v34 V, (zl (f_X3_isNumberRead o (nI N) t) fun u10 => if u10.1 = 0 then ((0 : Int32), u10.2) else zl (f_X3_isSkipped u10.2 (nI N) t 59) fun w => if w.1 = 0 then ((0 : Int32), w.2) else (1, w.2)) = a ∧ f_X10_number g m tm = b ∧ (if b.1 < 0 then (0 : Int32) else 1) = v34 ∧ (if v34 = 0 then ((0 : Int32), b.2) else zl (f_X10_isNext b.2 m tm 59) fun u90 => if u90.1 = 0 then ((0 : Int32), u90.2) else (1, u90.2)) = V ∧ (∀ j, j ≠ 1 → j ≠ 6 → a.2 j = o j) ∧ (∀ j, j ≠ 2 → V.2 j = g j) ∧ ((a.1 = 0 ∧ V.1 = 0 ∧ ∃ p', a.2 1 = nI p' ∧ V.2 2 = nI p') ∨ (a.1 = 1 ∧ V.1 = 1 ∧ ∃ p' v, p < p' ∧ p' ≤ N ∧ a.2 1 = nI p' ∧ V.2 2 = nI p' ∧ v ≤ 999 ∧ a.2 6 = nI v ∧ b.1 = nI v)) := by
  obtain ⟨p1, a, b, ea, eb, h1, h2, h3, h4, fa, fb, r⟩ := num_rel (m := m) hN hp ho hg hg1 htm
  rw [zl_c ea]
  rcases r with ⟨r1, r2⟩ | ⟨r1, r2, v, r3, r4, r5⟩
  · rw [if_pos r1]
    refine ⟨_, b, 0, (0, b.2), rfl, eb, by rw [r2]; decide, if_pos rfl, fa, fb, Or.inl ⟨rfl, rfl, p1, h3, h4⟩⟩
  · rw [if_neg (show ¬ a.1 = 0 by rw [r1]; decide)]
    obtain ⟨a2, V, ea2, eV, fa2, fV, q⟩ := end_rel (m := m) hN h2 h3 h4 ((fb 1 (by decide)).trans hg1) htm
    refine ⟨a2, b, 1, V, ea2, eb, if_neg (show ¬ b.1 < 0 by rw [r5]; exact nI_pos (by omega)), (if_neg (by decide)).trans eV, fun j h1 h6 => (fa2 j h1).trans (fa j h1 h6), fun j h2 => (fV j h2).trans (fb j h2), ?_⟩
    rcases q with ⟨q1, q2, q3⟩ | ⟨q1, q2, q3, q4, q5⟩
    · exact Or.inl ⟨q1, q2, q3⟩
    · exact Or.inr ⟨q1, q2, p1 + 1, v, by omega, by omega, q4, q5, r3, (fa2 6 (by decide)).trans r4, r5⟩
