theorem le_clearText : LE_clearText LWd := by
  intro fn rn sn ft rt st hm f1 r1 s1 f2 r2 s2 f3 r3 s3 f4 r4 s4 o n t g m tm h u _ v hv
  obtain ⟨h1, h2, h8, h9, h10, h11⟩ := h
  subst hv
  refine ⟨h9.symm, h1, HI_congr rfl (fun _ _ _ => rfl) h2, ⟨rfl, by decide⟩, rfl, h10, fun j hj => absurd hj (by rw [show (0 : Int32).toNatClampNeg = 0 from rfl]; omega)⟩
theorem in_eq (x a b : Int32) : f_X10_in x a b = f_X9_isWithin x a b := by
  unfold f_X10_in f_X9_isWithin
  rfl
