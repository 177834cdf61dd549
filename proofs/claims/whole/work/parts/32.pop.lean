/-! Long.bitCount's body counts the bits: by bytes -/
def vB : List Nat → Nat
  | [] => 0
  | b :: l => b + 256 * vB l
def s1B (b : Nat) : Nat := b - ((b / 2) &&& 85)
def s2B (b : Nat) : Nat := (b &&& 51) + ((b / 4) &&& 51)
def s3B (b : Nat) : Nat := (b + b / 16) % 16
theorem and_split (a b c d : Nat) (hb : b < 256) (hd : d < 256) : (b + 256 * a) &&& (d + 256 * c) = (b &&& d) + 256 * (a &&& c) := by
  have h1 : ((b + 256 * a) &&& (d + 256 * c)) % 2 ^ 8 = b &&& d := by
    rw [Nat.and_mod_two_pow, show (b + 256 * a) % 2 ^ 8 = b by omega, show (d + 256 * c) % 2 ^ 8 = d by omega]
  have h2 : ((b + 256 * a) &&& (d + 256 * c)) / 2 ^ 8 = a &&& c := by
    rw [Nat.and_div_two_pow, show (b + 256 * a) / 2 ^ 8 = a by omega, show (d + 256 * c) / 2 ^ 8 = c by omega]
  omega
theorem s1_lo : ∀ b : Fin 256, ∀ r : Fin 2, ((b.val / 2 + 128 * r.val) &&& 85) = ((b.val / 2) &&& 85) := by decide +kernel
theorem s1_le : ∀ b : Fin 256, ((b.val / 2) &&& 85) ≤ b.val := by decide +kernel
theorem s2_lo : ∀ b : Fin 256, ∀ r : Fin 4, ((b.val / 4 + 64 * r.val) &&& 51) = ((b.val / 4) &&& 51) := by decide +kernel
theorem s1B_lt : ∀ b : Fin 256, s1B b.val < 256 := by decide +kernel
theorem s2B_lt : ∀ b : Fin 256, s2B b.val ≤ 102 ∧ s2B b.val % 16 ≤ 6 := by decide +kernel
theorem step1 : ∀ l : List Nat, (∀ b ∈ l, b < 256) → vB l - ((vB l / 2) &&& vB (l.map fun _ => 85)) = vB (l.map s1B) ∧ ((vB l / 2) &&& vB (l.map fun _ => 85)) ≤ vB l := by
  intro l
  induction l with
  | nil => intro _; exact ⟨rfl, Nat.le_refl _⟩
  | cons b l ih =>
    intro h
    obtain ⟨h1, h2⟩ := ih (fun c hc => h c (List.mem_cons_of_mem _ hc))
    have hb : b < 256 := h b List.mem_cons_self
    simp only [vB, List.map_cons]
    generalize vB l = v at *
    generalize vB (l.map fun _ => 85) = M at *
    generalize vB (l.map s1B) = s at *
    have e1 : (b + 256 * v) / 2 = (b / 2 + 128 * (v % 2)) + 256 * (v / 2) := by omega
    have hr : v % 2 < 2 := Nat.mod_lt _ (by decide)
    rw [e1, and_split _ _ _ _ (by omega) (by decide), s1_lo ⟨b, hb⟩ ⟨v % 2, hr⟩]
    have hle := s1_le ⟨b, hb⟩
    unfold s1B
    simp only at hle ⊢
    generalize (b / 2) &&& 85 = p at *
    generalize (v / 2) &&& M = q at *
    omega
theorem step2 : ∀ l : List Nat, (∀ b ∈ l, b < 256) → (vB l &&& vB (l.map fun _ => 51)) + ((vB l / 4) &&& vB (l.map fun _ => 51)) = vB (l.map s2B) := by
  intro l
  induction l with
  | nil => intro _; rfl
  | cons b l ih =>
    intro h
    have h1 := ih (fun c hc => h c (List.mem_cons_of_mem _ hc))
    have hb : b < 256 := h b List.mem_cons_self
    simp only [vB, List.map_cons]
    generalize vB l = v at *
    generalize vB (l.map fun _ => 51) = M at *
    generalize vB (l.map s2B) = s at *
    have e1 : (b + 256 * v) / 4 = (b / 4 + 64 * (v % 4)) + 256 * (v / 4) := by omega
    have hr : v % 4 < 4 := Nat.mod_lt _ (by decide)
    rw [e1, and_split v b M 51 hb (by decide), and_split (v / 4) (b / 4 + 64 * (v % 4)) M 51 (by omega) (by decide), s2_lo ⟨b, hb⟩ ⟨v % 4, hr⟩]
    unfold s2B
    simp only
    generalize (b / 4) &&& 51 = p at *
    generalize b &&& 51 = p2 at *
    generalize (v / 4) &&& M = q at *
    generalize v &&& M = q2 at *
    omega
theorem vB_lo (l : List Nat) (h : ∀ b ∈ l, b ≤ 102 ∧ b % 16 ≤ 6) : vB l % 16 ≤ 6 := by
  cases l with
  | nil => decide
  | cons b l =>
    have := (h b List.mem_cons_self).2
    simp only [vB]
    omega
theorem step3 : ∀ l : List Nat, (∀ b ∈ l, b ≤ 102 ∧ b % 16 ≤ 6) → ((vB l + vB l / 16) &&& vB (l.map fun _ => 15)) = vB (l.map s3B) := by
  intro l
  induction l with
  | nil => intro _; rfl
  | cons b l ih =>
    intro h
    have hl : ∀ c ∈ l, c ≤ 102 ∧ c % 16 ≤ 6 := fun c hc => h c (List.mem_cons_of_mem _ hc)
    have h1 := ih hl
    have hb := h b List.mem_cons_self
    have hv := vB_lo l hl
    simp only [vB, List.map_cons]
    generalize vB l = v at *
    generalize vB (l.map fun _ => 15) = M at *
    generalize vB (l.map s3B) = s at *
    have e1 : b + 256 * v + (b + 256 * v) / 16 = (b + b / 16 + 16 * (v % 16)) + 256 * (v + v / 16) := by omega
    rw [e1, and_split _ _ _ _ (by omega) (by decide), h1]
    have e2 : ((b + b / 16 + 16 * (v % 16)) &&& 15) = (b + b / 16 + 16 * (v % 16)) % 2 ^ 4 := Nat.and_two_pow_sub_one_eq_mod _ 4
    rw [e2]
    unfold s3B
    omega
def cntB (X : Nat) : Nat → Nat
  | 0 => 0
  | n + 1 => cntB X n + X / 2 ^ n % 2
theorem cnt_le (X n : Nat) : cntB X n ≤ n := by
  induction n with
  | zero => exact Nat.le_refl _
  | succ n ih =>
    have := Nat.mod_lt (X / 2 ^ n) (show 0 < 2 by decide)
    simp only [cntB]
    omega
theorem cnt_hi {X n : Nat} (h : X < 2 ^ n) (d : Nat) : cntB X (n + d) = cntB X n := by
  induction d with
  | zero => rfl
  | succ d ih =>
    show cntB X (n + d) + X / 2 ^ (n + d) % 2 = _
    have : X / 2 ^ (n + d) = 0 := Nat.div_eq_of_lt (Nat.lt_of_lt_of_le h (Nat.pow_le_pow_right (by decide) (by omega)))
    rw [ih, this]
    rfl
theorem pc8 : ∀ b : Fin 256, s3B (s2B (s1B b.val)) = cntB b.val 8 := by decide +kernel
theorem cnt_8 (X a : Nat) : cntB X (a + 8) = cntB X a + cntB (X / 2 ^ a % 256) 8 := by
  have e : ∀ i, X / 2 ^ (a + i) = X / 2 ^ a / 2 ^ i := fun i => by rw [Nat.pow_add, Nat.div_div_eq_div_mul]
  simp only [cntB, e]
  generalize X / 2 ^ a = Y
  simp only [show a + 0 = a from rfl, Nat.pow_zero, Nat.reducePow]
  omega
theorem cnt_64 (X : Nat) : cntB X 64 = cntB (X % 256) 8 + cntB (X / 256 % 256) 8 + cntB (X / 65536 % 256) 8 + cntB (X / 16777216 % 256) 8 + cntB (X / 4294967296 % 256) 8 + cntB (X / 1099511627776 % 256) 8 + cntB (X / 281474976710656 % 256) 8 + cntB (X / 72057594037927936 % 256) 8 := by
  have h0 := cnt_8 X 0
  have h1 := cnt_8 X 8
  have h2 := cnt_8 X 16
  have h3 := cnt_8 X 24
  have h4 := cnt_8 X 32
  have h5 := cnt_8 X 40
  have h6 := cnt_8 X 48
  have h7 := cnt_8 X 56
  simp only [Nat.reducePow, Nat.reduceAdd, Nat.div_one] at h0 h1 h2 h3 h4 h5 h6 h7
  rw [h7, h6, h5, h4, h3, h2, h1, h0]
  simp only [cntB, Nat.zero_add]
theorem nxB_and (a b : Nat) : nI a &&& nI b = nI (a &&& b) := by
  apply Int32.toBitVec_inj.1
  show BitVec.ofNat 32 a &&& BitVec.ofNat 32 b = BitVec.ofNat 32 (a &&& b)
  apply BitVec.eq_of_getLsbD_eq
  intro i hi
  simp [hi]
theorem pop_a {p0 p1 p2 T T1 T2 T3 : Nat} (q0 : p0 ≤ 8) (q1 : p1 ≤ 8) (q2 : p2 ≤ 8) (h0 : T = p0 + 256 * T1) (h1 : T1 = p1 + 256 * T2) (h2 : T2 = p2 + 256 * T3) : T / 256 = T1 ∧ (T + T1) / 65536 = T2 + T3 := by
  have e : T + T1 = (p0 + p1 + 256 * (p1 + p2)) + 65536 * (T2 + T3) := by omega
  refine ⟨by omega, ?_⟩
  rw [e]
  omega
theorem pop_c {p0 p1 p2 p3 T T1 T2 T3 T4 : Nat} (h0 : T = p0 + 256 * T1) (h1 : T1 = p1 + 256 * T2) (h2 : T2 = p2 + 256 * T3) (h3 : T3 = p3 + 256 * T4) : T = (p0 + 256 * p1 + 65536 * p2 + 16777216 * p3) + 4294967296 * T4 := by omega
theorem pop_d {l0 l1 l2 l3 T T1 T2 T3 T4 T5 T6 T7 : Nat} (q0 : l0 ≤ 134744072) (q1 : l1 ≤ 134744072) (q2 : l2 ≤ 134744072) (q3 : l3 ≤ 134744072) (h0 : T = l0 + 4294967296 * T4) (h1 : T1 = l1 + 4294967296 * T5) (h2 : T2 = l2 + 4294967296 * T6) (h3 : T3 = l3 + 4294967296 * T7) : (T + T1 + (T2 + T3)) / 4294967296 = T4 + T5 + T6 + T7 := by
  have e : T + T1 + (T2 + T3) = (l0 + l1 + l2 + l3) + 4294967296 * (T4 + T5 + T6 + T7) := by omega
  rw [e]
  omega
theorem pop_e {p0 p1 p2 p3 p4 p5 p6 p7 T T1 T2 T3 T4 T5 T6 T7 : Nat} (q : p0 + p1 + p2 + p3 + p4 + p5 + p6 + p7 ≤ 64) (h0 : T = p0 + 256 * T1) (h1 : T1 = p1 + 256 * T2) (h2 : T2 = p2 + 256 * T3) (h3 : T3 = p3 + 256 * T4) (h4 : T4 = p4 + 256 * T5) (h5 : T5 = p5 + 256 * T6) (h6 : T6 = p6 + 256 * T7) (h7 : T7 = p7) : (T + T1 + (T2 + T3) + (T4 + T5 + T6 + T7)) % 128 = p0 + p1 + p2 + p3 + p4 + p5 + p6 + p7 := by
  have e : T + T1 + (T2 + T3) + (T4 + T5 + T6 + T7) = (p0 + p1 + p2 + p3 + p4 + p5 + p6 + p7) + 128 * (2 * (T1 + T2 + T3 + T4 + T5 + T6 + T7)) := by
    rw [h0, h1, h2, h3, h4, h5, h6, h7]
    omega
  rw [e, Nat.add_mul_mod_self_left, Nat.mod_eq_of_lt (by omega)]
theorem pop_up {p T T1 N : Nat} (q : p ≤ 8) (h : T = p + 256 * T1) (h1 : T1 ≤ N) : T ≤ 256 * N + 8 := by omega
theorem pop_sum (p0 p1 p2 p3 p4 p5 p6 p7 T : Nat) (q0 : p0 ≤ 8) (q1 : p1 ≤ 8) (q2 : p2 ≤ 8) (q3 : p3 ≤ 8) (q4 : p4 ≤ 8) (q5 : p5 ≤ 8) (q6 : p6 ≤ 8) (q7 : p7 ≤ 8) (hT : T = p0 + 256 * (p1 + 256 * (p2 + 256 * (p3 + 256 * (p4 + 256 * (p5 + 256 * (p6 + 256 * (p7 + 256 * 0)))))))) : ∃ A B C, T + T / 256 = A ∧ A + A / 65536 = B ∧ B + B / 4294967296 = C ∧ C % 128 = p0 + p1 + p2 + p3 + p4 + p5 + p6 + p7 ∧ A < 18446744073709551616 ∧ B < 18446744073709551616 ∧ T < 18446744073709551616 := by
  obtain ⟨T7, h7⟩ : ∃ x, x = p7 := ⟨_, rfl⟩
  rw [Nat.mul_zero, Nat.add_zero, ← h7] at hT
  obtain ⟨T6, h6⟩ : ∃ x, x = p6 + 256 * T7 := ⟨_, rfl⟩
  rw [← h6] at hT
  obtain ⟨T5, h5⟩ : ∃ x, x = p5 + 256 * T6 := ⟨_, rfl⟩
  rw [← h5] at hT
  obtain ⟨T4, h4⟩ : ∃ x, x = p4 + 256 * T5 := ⟨_, rfl⟩
  rw [← h4] at hT
  obtain ⟨T3, h3⟩ : ∃ x, x = p3 + 256 * T4 := ⟨_, rfl⟩
  rw [← h3] at hT
  obtain ⟨T2, h2⟩ : ∃ x, x = p2 + 256 * T3 := ⟨_, rfl⟩
  rw [← h2] at hT
  obtain ⟨T1, h1⟩ : ∃ x, x = p1 + 256 * T2 := ⟨_, rfl⟩
  rw [← h1] at hT
  have u7 : T7 ≤ 8 := by rw [h7]; exact q7
  have u6 := pop_up q6 h6 u7
  have u5 := pop_up q5 h5 u6
  have u4 := pop_up q4 h4 u5
  have u3 := pop_up q3 h3 u4
  have u2 := pop_up q2 h2 u3
  have u1 := pop_up q1 h1 u2
  have u0 := pop_up q0 hT u1
  obtain ⟨a1, a2⟩ := pop_a q0 q1 q2 hT h1 h2
  have a3 := pop_d (l0 := p0 + 256 * p1 + 65536 * p2 + 16777216 * p3) (l1 := p1 + 256 * p2 + 65536 * p3 + 16777216 * p4) (l2 := p2 + 256 * p3 + 65536 * p4 + 16777216 * p5) (l3 := p3 + 256 * p4 + 65536 * p5 + 16777216 * p6) (by clear hT h1 h2 h3 h4 h5 h6 h7 u0 u1 u2 u3 u4 u5 u6 u7 a1 a2; omega) (by clear hT h1 h2 h3 h4 h5 h6 h7 u0 u1 u2 u3 u4 u5 u6 u7 a1 a2; omega) (by clear hT h1 h2 h3 h4 h5 h6 h7 u0 u1 u2 u3 u4 u5 u6 u7 a1 a2; omega) (by clear hT h1 h2 h3 h4 h5 h6 h7 u0 u1 u2 u3 u4 u5 u6 u7 a1 a2; omega) (pop_c hT h1 h2 h3) (pop_c h1 h2 h3 h4) (pop_c h2 h3 h4 h5) (pop_c h3 h4 h5 h6)
  have a4 := pop_e (by clear hT h1 h2 h3 h4 h5 h6 h7 u0 u1 u2 u3 u4 u5 u6 u7 a1 a2 a3; omega) hT h1 h2 h3 h4 h5 h6 h7
  refine ⟨T + T1, T + T1 + (T2 + T3), T + T1 + (T2 + T3) + (T4 + T5 + T6 + T7), by rw [a1], by rw [a2], by rw [a3], a4, ?_, ?_, ?_⟩
  · clear hT h1 h2 h3 h4 h5 h6 h7 a1 a2 a3 a4 q0 q1 q2 q3 q4 q5 q6 q7; omega
  · clear hT h1 h2 h3 h4 h5 h6 h7 a1 a2 a3 a4 q0 q1 q2 q3 q4 q5 q6 q7; omega
  · clear hT h1 h2 h3 h4 h5 h6 h7 a1 a2 a3 a4 q0 q1 q2 q3 q4 q5 q6 q7; omega
theorem bitCount_eq {X : Nat} (hX : X < 2 ^ 64) : f_J13_bitCount_95d88 (lN X) = nI (cntB X 64) := by
  obtain ⟨b0, b1, b2, b3, b4, b5, b6, b7, h0, h1, h2, h3, h4, h5, h6, h7, hV, hc⟩ : ∃ b0 b1 b2 b3 b4 b5 b6 b7 : Nat, b0 < 256 ∧ b1 < 256 ∧ b2 < 256 ∧ b3 < 256 ∧ b4 < 256 ∧ b5 < 256 ∧ b6 < 256 ∧ b7 < 256 ∧ vB [b0, b1, b2, b3, b4, b5, b6, b7] = X ∧ cntB X 64 = cntB b0 8 + cntB b1 8 + cntB b2 8 + cntB b3 8 + cntB b4 8 + cntB b5 8 + cntB b6 8 + cntB b7 8 := by
    refine ⟨_, _, _, _, _, _, _, _, ?_, ?_, ?_, ?_, ?_, ?_, ?_, ?_, ?_, cnt_64 X⟩ <;> (try exact Nat.mod_lt _ (by decide))
    simp only [vB]
    omega
  have e1 := step1 [b0, b1, b2, b3, b4, b5, b6, b7] (by
    intro b hb
    simp only [List.mem_cons, List.not_mem_nil, or_false] at hb
    omega)
  have t0 := s1B_lt ⟨b0, h0⟩
  have t1 := s1B_lt ⟨b1, h1⟩
  have t2 := s1B_lt ⟨b2, h2⟩
  have t3 := s1B_lt ⟨b3, h3⟩
  have t4 := s1B_lt ⟨b4, h4⟩
  have t5 := s1B_lt ⟨b5, h5⟩
  have t6 := s1B_lt ⟨b6, h6⟩
  have t7 := s1B_lt ⟨b7, h7⟩
  have e2 := step2 [s1B b0, s1B b1, s1B b2, s1B b3, s1B b4, s1B b5, s1B b6, s1B b7] (by
    intro b hb
    simp only [List.mem_cons, List.not_mem_nil, or_false] at hb
    rcases hb with rfl | rfl | rfl | rfl | rfl | rfl | rfl | rfl <;> assumption)
  have r0 := s2B_lt ⟨_, t0⟩
  have r1 := s2B_lt ⟨_, t1⟩
  have r2 := s2B_lt ⟨_, t2⟩
  have r3 := s2B_lt ⟨_, t3⟩
  have r4 := s2B_lt ⟨_, t4⟩
  have r5 := s2B_lt ⟨_, t5⟩
  have r6 := s2B_lt ⟨_, t6⟩
  have r7 := s2B_lt ⟨_, t7⟩
  have e3 := step3 [s2B (s1B b0), s2B (s1B b1), s2B (s1B b2), s2B (s1B b3), s2B (s1B b4), s2B (s1B b5), s2B (s1B b6), s2B (s1B b7)] (by
    intro b hb
    simp only [List.mem_cons, List.not_mem_nil, or_false] at hb
    rcases hb with rfl | rfl | rfl | rfl | rfl | rfl | rfl | rfl <;> assumption)
  have m1 : vB [85, 85, 85, 85, 85, 85, 85, 85] = 6148914691236517205 := by simp only [vB]
  have m2 : vB [51, 51, 51, 51, 51, 51, 51, 51] = 3689348814741910323 := by simp only [vB]
  have m3 : vB [15, 15, 15, 15, 15, 15, 15, 15] = 1085102592571150095 := by simp only [vB]
  simp only [List.map_cons, List.map_nil] at e1 e2 e3
  rw [m1, hV] at e1
  rw [m2] at e2
  rw [m3] at e3
  obtain ⟨e1, e1b⟩ := e1
  obtain ⟨Y, hY⟩ : ∃ Y, Y = vB [s1B b0, s1B b1, s1B b2, s1B b3, s1B b4, s1B b5, s1B b6, s1B b7] := ⟨_, rfl⟩
  obtain ⟨Z, hZ⟩ : ∃ Z, Z = vB [s2B (s1B b0), s2B (s1B b1), s2B (s1B b2), s2B (s1B b3), s2B (s1B b4), s2B (s1B b5), s2B (s1B b6), s2B (s1B b7)] := ⟨_, rfl⟩
  obtain ⟨T, hT⟩ : ∃ T, T = vB [s3B (s2B (s1B b0)), s3B (s2B (s1B b1)), s3B (s2B (s1B b2)), s3B (s2B (s1B b3)), s3B (s2B (s1B b4)), s3B (s2B (s1B b5)), s3B (s2B (s1B b6)), s3B (s2B (s1B b7))] := ⟨_, rfl⟩
  rw [← hY] at e1 e2
  rw [← hZ] at e2 e3
  rw [← hT] at e3
  have hYl : Y < 2 ^ 64 := by
    rw [hY]; simp only [vB]
    simp only at t0 t1 t2 t3 t4 t5 t6 t7
    omega
  have hZl : Z + Z / 16 < 2 ^ 64 := by
    rw [hZ]; simp only [vB]
    simp only at r0 r1 r2 r3 r4 r5 r6 r7
    omega
  have p0 := pc8 ⟨b0, h0⟩
  have p1 := pc8 ⟨b1, h1⟩
  have p2 := pc8 ⟨b2, h2⟩
  have p3 := pc8 ⟨b3, h3⟩
  have p4 := pc8 ⟨b4, h4⟩
  have p5 := pc8 ⟨b5, h5⟩
  have p6 := pc8 ⟨b6, h6⟩
  have p7 := pc8 ⟨b7, h7⟩
  simp only at p0 p1 p2 p3 p4 p5 p6 p7
  rw [p0, p1, p2, p3, p4, p5, p6, p7] at hT
  simp only [vB] at hT
  obtain ⟨A, B, C, hA, hB, hC, hS, lA, lB, lT⟩ := pop_sum _ _ _ _ _ _ _ _ T (cnt_le b0 8) (cnt_le b1 8) (cnt_le b2 8) (cnt_le b3 8) (cnt_le b4 8) (cnt_le b5 8) (cnt_le b6 8) (cnt_le b7 8) hT
  unfold f_J13_bitCount_95d88
  simp only [zl]
  have w1 : ((lN X).toUInt64 >>> ((1 : Int32).toInt64.toUInt64 &&& Int64.toUInt64 63)).toInt64 = lN (X / 2) := wb_shr hX (k := 1) (by decide)
  have w1b : lN (X / 2) &&& 6148914691236517205 = lN ((X / 2) &&& 6148914691236517205) := wb_and (by omega) (by decide)
  rw [w1, w1b, lN_sub e1b, e1]
  have w2 : ((lN Y).toUInt64 >>> ((2 : Int32).toInt64.toUInt64 &&& Int64.toUInt64 63)).toInt64 = lN (Y / 4) := wb_shr hYl (k := 2) (by decide)
  have w2b : lN (Y / 4) &&& 3689348814741910323 = lN ((Y / 4) &&& 3689348814741910323) := wb_and (by omega) (by decide)
  have w2c : lN Y &&& 3689348814741910323 = lN (Y &&& 3689348814741910323) := wb_and hYl (by decide)
  rw [w2, w2b, w2c, lN_add, e2]
  have w3 : ((lN Z).toUInt64 >>> ((4 : Int32).toInt64.toUInt64 &&& Int64.toUInt64 63)).toInt64 = lN (Z / 16) := wb_shr (by omega) (k := 4) (by decide)
  have w3b : lN (Z + Z / 16) &&& 1085102592571150095 = lN ((Z + Z / 16) &&& 1085102592571150095) := wb_and hZl (by decide)
  rw [w3, lN_add, w3b, e3]
  have w4 : ((lN T).toUInt64 >>> ((8 : Int32).toInt64.toUInt64 &&& Int64.toUInt64 63)).toInt64 = lN (T / 256) := wb_shr lT (k := 8) (by decide)
  rw [w4, lN_add, hA]
  have w5 : ((lN A).toUInt64 >>> ((16 : Int32).toInt64.toUInt64 &&& Int64.toUInt64 63)).toInt64 = lN (A / 65536) := wb_shr lA (k := 16) (by decide)
  rw [w5, lN_add, hB]
  have w6 : ((lN B).toUInt64 >>> ((32 : Int32).toInt64.toUInt64 &&& Int64.toUInt64 63)).toInt64 = lN (B / 4294967296) := wb_shr lB (k := 32) (by decide)
  rw [w6, lN_add, hC, lN_i]
  have w7 : nI C &&& 127 = nI (C &&& 127) := nxB_and C 127
  have w8 : C &&& 127 = C % 2 ^ 7 := Nat.and_two_pow_sub_one_eq_mod C 7
  rw [w7, w8, hc, show C % 2 ^ 7 = C % 128 from rfl, hS]
