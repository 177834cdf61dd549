theorem upd_ne {f : Nat → Int32} {k i : Nat} {x : Int32} (h : i ≠ k) : upd f k x i = f i := by unfold upd; rw [if_neg h]
theorem upd_eq {f : Nat → Int32} {k : Nat} {x : Int32} : upd f k x k = x := by unfold upd; rw [if_pos rfl]
theorem wi {x : Int32} {a b : Nat} (hb : b < 2 ^ 31) (ha : a ≤ b) (h : ¬ f_X9_isWithin x (nI a) (nI b) = 0) : ∃ j, a ≤ j ∧ j ≤ b ∧ x = nI j := by
  unfold f_X9_isWithin at h
  by_cases c1 : x < nI a
  · rw [if_pos c1] at h; exact absurd rfl h
  · rw [if_neg c1] at h
    by_cases c2 : nI b < x
    · rw [if_pos c2] at h; exact absurd rfl h
    · have hn : ¬ x < 0 := fun hc => c1 (Int32.lt_of_lt_of_le hc (nI_pos' (by omega)))
      obtain ⟨j, hj, rfl⟩ := nI_of hn
      refine ⟨j, ?_, ?_, rfl⟩
      · rcases Nat.lt_or_ge j a with q | q
        · exact absurd ((nI_ltI hj (by omega)).mpr q) c1
        · exact q
      · rcases Nat.lt_or_ge b j with q | q
        · exact absurd ((nI_ltI hb hj).mpr q) c2
        · exact q
theorem wi_iff {a b j : Nat} (ha : a < 2 ^ 31) (hb : b < 2 ^ 31) (hj : j < 2 ^ 31) : f_X9_isWithin (nI j) (nI a) (nI b) = 0 ↔ ¬ (a ≤ j ∧ j ≤ b) := by
  unfold f_X9_isWithin
  by_cases c1 : j < a
  · rw [if_pos ((nI_ltI hj ha).mpr c1)]
    exact ⟨fun _ h => by omega, fun _ => rfl⟩
  · rw [if_neg (fun h => c1 ((nI_ltI hj ha).mp h))]
    by_cases c2 : b < j
    · rw [if_pos ((nI_ltI hb hj).mpr c2)]
      exact ⟨fun _ h => by omega, fun _ => rfl⟩
    · rw [if_neg (fun h => c2 ((nI_ltI hb hj).mp h))]
      exact ⟨fun h => absurd h (by decide), fun h => absurd ⟨by omega, by omega⟩ h⟩
theorem IN_get {x : Int32} {N : Nat} (h : IN x N) : ∃ j, j ≤ N ∧ x = nI j ∧ x.toNatClampNeg = j := ⟨_, h.2, h.1, rfl⟩
theorem SR_u {f : Nat → Int32} {rb sb : Int64} {w : Nat → Int32} {k : Nat} {x : Int32} (h : SR f rb sb w) (hn : k ∈ [0, 1, 2, 3, 4, 5, 6, 7, 8, 9, 10, 17, 20, 21, 22, 23, 24, 25, 26, 27]) (c0 : k = 0 → IN x 65536) (c1 : k = 1 ∨ k = 2 → 0 < x) (c3 : k = 3 ∨ k = 4 → 0 < x + 1) (cs : 7 ≤ k → k ≤ 10 → 0 ≤ x) : SR (upd f k x) rb sb (upd w k x) := by
  have hk : k < 29 ∧ k ≠ 11 ∧ k ≠ 12 ∧ k ≠ 13 ∧ k ≠ 14 ∧ k ≠ 15 ∧ k ≠ 16 ∧ k ≠ 18 ∧ k ≠ 19 ∧ k ≠ 28 := by
    simp only [List.mem_cons, List.not_mem_nil, or_false] at hn
    omega
  obtain ⟨k29, k11, k12, k13, k14, k15, k16, k18, k19, k28⟩ := hk
  obtain ⟨h1, h2, h3, h4, h5, h6, ⟨h7, h7b, h7c, h7d⟩, h8, h9, h10, h11, h12, h12b, h12c, h12d⟩ := h
  have gt : ∀ {i : Nat} {P : Int32 → Prop}, (k = i → P x) → P (f i) → P (upd f k x i) := fun {i} {P} a b => by
    unfold upd
    by_cases c : i = k
    · rw [if_pos c]; exact a c.symm
    · rw [if_neg c]; exact b
  refine ⟨fun i a b c d => ?_, ?_, ?_, ?_, ?_, ?_, ⟨?_, ?_, ?_, ?_⟩, ?_, ?_, ?_, ?_, ?_, ?_, ?_, ?_⟩
  · unfold upd
    by_cases e : i = k
    · rw [if_pos e, if_pos e]
    · rw [if_neg e, if_neg e]; exact h1 i a b c d
  · rw [upd_ne (Ne.symm k11), upd_ne (Ne.symm k12), upd_ne (Ne.symm k12)]; exact h2
  · rw [upd_ne (Ne.symm k11), upd_ne (Ne.symm k13), upd_ne (Ne.symm k13)]; exact h3
  · rw [upd_ne (Ne.symm k14), upd_ne (Ne.symm k15), upd_ne (Ne.symm k15)]; exact h4
  · rw [upd_ne (Ne.symm k28)]; exact rowR_congr (fun i _ => upd_ne (by omega)) h5
  · rw [upd_ne (Ne.symm k18)]; exact rowR_congr (fun i _ => upd_ne (by omega)) h6
  · exact gt (P := fun z => 0 < z) (fun e => c1 (Or.inl e)) h7
  · exact gt (P := fun z => 0 < z) (fun e => c1 (Or.inr e)) h7b
  · exact gt (P := fun z => 0 < z + 1) (fun e => c3 (Or.inl e)) h7c
  · exact gt (P := fun z => 0 < z + 1) (fun e => c3 (Or.inr e)) h7d
  · rw [upd_ne (Ne.symm k19)]; exact h8
  · rw [upd_ne (Ne.symm k11)]; exact h9
  · rw [upd_ne (Ne.symm k16)]; exact h10
  · exact gt (P := fun z => IN z 65536) c0 h11
  · exact gt (P := fun z => 0 ≤ z) (fun e => cs (by omega) (by omega)) h12
  · exact gt (P := fun z => 0 ≤ z) (fun e => cs (by omega) (by omega)) h12b
  · exact gt (P := fun z => 0 ≤ z) (fun e => cs (by omega) (by omega)) h12c
  · exact gt (P := fun z => 0 ≤ z) (fun e => cs (by omega) (by omega)) h12d
theorem SR_at {f : Nat → Int32} {rb sb : Int64} {b : Nat} {m : Nat → Int32} (h : SR f rb sb (sB b m)) (k : Nat) (a : k < 29) (b1 : k ≠ 12) (c : k ≠ 13) (d : k ≠ 15) : m (b + k) = f k := h.1 k a b1 c d
theorem SR_slot0 {f : Nat → Int32} {rb sb : Int64} {m m' : Nat → Int32} {b : Nat} (h : SR f rb sb m) (e : ∀ k, k < 157 → m' (b + k) = m k) : SR f rb sb (sB b m') := SR_congr e h
theorem settle_ok {fn : Nat → Int32} {rn sn : Int64} {hm : Int32} {f1 : Nat → Int32} {r1 s1 : Int64} {f2 : Nat → Int32} {r2 s2 : Int64} {f3 : Nat → Int32} {r3 s3 : Int64} {f4 : Nat → Int32} {r4 s4 : Int64} {n : Int32} {t g m tm : Nat → Int32} (h : LWd fn rn sn hm f1 r1 s1 f2 r2 s2 f3 r3 s3 f4 r4 s4 n t g m tm) {g1 m1 t1 g3 m3 ft : Nat → Int32} {rt st : Int64} (hg : ∀ k, k < 2 → g1 k = g k) (hm1 : ∀ j, j < 785 → m1 j = m j) (hs : SR ft rt st m3) (h3 : ∀ j, 157 ≤ j → j < 785 → m3 j = (f_X10_records g1 m1 t1).2 j) (hg3 : ∀ k, k < 2 → g3 k = (f_X10_records g1 m1 t1).1 k) : LWd ft rt st (f_X2_keep hm f1 r1 s1 f2 r2 s2 f3 r3 s3 f4 r4 s4 fn rn sn) fn rn sn f1 r1 s1 f2 r2 s2 f3 r3 s3 n t g3 m3 tm := by
  obtain ⟨h1, h2, h8, h9, h10, h11⟩ := h
  obtain ⟨a1, a2, a3, a4, a5⟩ := recs (t := t1) (SR_congr (fun k hk => hm1 k (by omega)) h1) (HI_congr (hg 0 (by decide)) (fun j _ hj => hm1 j hj) h2)
  refine ⟨hs, HI_congr (hg3 0 (by decide)) h3 a1, h8, ?_, h10, h11⟩
  rw [hg3 1 (by decide), a5 1 (by decide), hg 1 (by decide), h9]
