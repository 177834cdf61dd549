theorem zwithin_of {u v lo hi : Int32} (e : u = f_X9_isWithin v lo hi) (h : ¬ u = 0) : lo ≤ v ∧ v ≤ hi := by
  subst e
  unfold f_X9_isWithin at h
  split at h
  · exact absurd rfl h
  · rename_i h1
    split at h
    · exact absurd rfl h
    · rename_i h2
      exact ⟨Int32.not_lt.mp h1, Int32.not_lt.mp h2⟩
theorem zlt_of {v : Int32} {k N : Nat} (h1 : ¬ v ≤ nI k) (h2 : v ≤ nI N) (hk : k < 2 ^ 31) (hN : N < 2 ^ 31) : k < N :=
  (nI_ltI hk hN).mp (Int32.lt_of_lt_of_le (Int32.not_le.mp h1) h2)
theorem zix_of {n : Int32} {N : Nat} (h : 0 ≤ n ∧ n ≤ nI N) (hN : N < 2 ^ 31) : n = nI n.toNatClampNeg ∧ n.toNatClampNeg < N + 1 := by
  obtain ⟨j, hj, rfl⟩ := nI_of (Int32.not_lt.mpr h.1)
  have h2 := (nI_leI hj hN).mp h.2
  rw [nI_clamp hj]
  exact ⟨rfl, by omega⟩
theorem zix_at {p n y : Int32} (hn : 0 ≤ n) (ey : y = if 60 < n then 60 else n) (h : 0 ≤ p ∧ p ≤ y - 1) : p = nI p.toNatClampNeg ∧ p.toNatClampNeg < 60 := by
  have hp : p ≤ nI 59 := by
    subst ey
    refine Int32.le_trans h.2 ?_
    obtain ⟨j, hj, rfl⟩ := nI_of (Int32.not_lt.mpr hn)
    split
    · decide
    · rename_i h3
      have h4 : ¬ 60 < j := fun q => h3 ((nI_ltI (a := 60) (by decide) hj).mpr q)
      rw [Int32.le_iff_toInt_le]
      cases j with
      | zero => decide
      | succ j => rw [nI_pred, nI_toInt (by omega), nI_toInt (by omega)]; omega
  exact zix_of ⟨h.1, hp⟩ (by decide)
abbrev rm_X6_copyFrom : Room := { frames := 1, cells := 0, slots := 0, locals := 21 }
set_option maxHeartbeats 1000000 in
set_option maxRecDepth 100000 in
theorem c_X6_copyFrom (l : Launch) (T : zT) (A : Nat → Nat) (B : Nat → Nat) (f : Nat → Int32) (rb : Int64) (sb : Int64) (f2 : Nat → Int32) (rb2 : Int64) (sb2 : Int64) : Cv l yX6_copyFrom wsX6_copyFrom rm_X6_copyFrom T [.ref (A 0), .ref (B 0)] [(A 0, .inr (6, [.ref (A 1), .ref (A 2), .ref (A 3), .ref (A 4), .ref (A 5), .ref (A 6), .ref (A 7), .int (f 0), .int (f 19)])), (A 1, .inr (4, [.int (f 1), .int (f 3), .int (f 5)])), (A 2, .inr (4, [.int (f 2), .int (f 4), .int (f 6)])), (A 3, .inr (5, [.int (f 7), .int (f 8), .int (f 9), .int (f 10)])), (A 4, .inr (1, [.int (f 11), .int (f 12), .int (f 13), .int (f 14), .int (f 15), .int (f 16), .int (f 17)])), (A 5, .inr (0, [.long rb, .int (f 28)])), (A 6, .inr (0, [.long sb, .int (f 18)])), (A 7, .inr (7, [.int (f 20), .int (f 21), .int (f 22), .int (f 23), .int (f 24), .int (f 25), .int (f 26), .int (f 27)])), (B 0, .inr (6, [.ref (B 1), .ref (B 2), .ref (B 3), .ref (B 4), .ref (B 5), .ref (B 6), .ref (B 7), .int (f2 0), .int (f2 19)])), (B 1, .inr (4, [.int (f2 1), .int (f2 3), .int (f2 5)])), (B 2, .inr (4, [.int (f2 2), .int (f2 4), .int (f2 6)])), (B 3, .inr (5, [.int (f2 7), .int (f2 8), .int (f2 9), .int (f2 10)])), (B 4, .inr (1, [.int (f2 11), .int (f2 12), .int (f2 13), .int (f2 14), .int (f2 15), .int (f2 16), .int (f2 17)])), (B 5, .inr (0, [.long rb2, .int (f2 28)])), (B 6, .inr (0, [.long sb2, .int (f2 18)])), (B 7, .inr (7, [.int (f2 20), .int (f2 21), .int (f2 22), .int (f2 23), .int (f2 24), .int (f2 25), .int (f2 26), .int (f2 27)]))] (S := Unit) () (fun u => [(A 0, .inr (6, [.ref (A 1), .ref (A 2), .ref (A 3), .ref (A 4), .ref (A 5), .ref (A 6), .ref (A 7), .int (f2 0), .int (f2 19)])), (A 1, .inr (4, [.int (f2 1), .int (f2 3), .int (f2 5)])), (A 2, .inr (4, [.int (f2 2), .int (f2 4), .int (f2 6)])), (A 3, .inr (5, [.int (f2 7), .int (f2 8), .int (f2 9), .int (f2 10)])), (A 4, .inr (1, [.int (f2 11), .int (f2 12), .int (f2 13), .int (f2 14), .int (f2 15), .int (f2 16), .int (f2 17)])), (A 5, .inr (0, [.long rb2, .int (f2 28)])), (A 6, .inr (0, [.long sb2, .int (f2 18)])), (A 7, .inr (7, [.int (f2 20), .int (f2 21), .int (f2 22), .int (f2 23), .int (f2 24), .int (f2 25), .int (f2 26), .int (f2 27)])), (B 0, .inr (6, [.ref (B 1), .ref (B 2), .ref (B 3), .ref (B 4), .ref (B 5), .ref (B 6), .ref (B 7), .int (f2 0), .int (f2 19)])), (B 1, .inr (4, [.int (f2 1), .int (f2 3), .int (f2 5)])), (B 2, .inr (4, [.int (f2 2), .int (f2 4), .int (f2 6)])), (B 3, .inr (5, [.int (f2 7), .int (f2 8), .int (f2 9), .int (f2 10)])), (B 4, .inr (1, [.int (f2 11), .int (f2 12), .int (f2 13), .int (f2 14), .int (f2 15), .int (f2 16), .int (f2 17)])), (B 5, .inr (0, [.long rb2, .int (f2 28)])), (B 6, .inr (0, [.long sb2, .int (f2 18)])), (B 7, .inr (7, [.int (f2 20), .int (f2 21), .int (f2 22), .int (f2 23), .int (f2 24), .int (f2 25), .int (f2 26), .int (f2 27)]))]) := by
  refine z_metV (own := RX6) (maxL := 2) rfl (by decide) rfl (Nat.le_of_ble_eq_true rfl) ?_
  intro P0 E0 S0 M0 G0 B0 T0 K0 A9 Q9 C E
  have hx := C.1.1
  have hb := C.1.2.1
  have hown := C.1.2.2.2.1
  have hts := C.1.2.2.2.2
  have hn := C.2.1.2
  have iX6 : ∀ w ∈ u_ws RX6 TX6 9, w ∈ wsX6_copyFrom := by decide +kernel
  have k9 := hts (.fieldLink RX6 9 "JudgedBits$Source" "noiseNumber" "I") (by decide +kernel)
  have k15 := hts (.fieldLink RX6 15 "JudgedBits$Source" "waiting" "I") (by decide +kernel)
  have k23 := hts (.fieldLink RX6 23 "JudgedBits$Source" "ringZero" "LJudgedBits$Ring;") (by decide +kernel)
  have k27 := hts (.fieldLink RX6 27 "JudgedBits$Source" "ringOne" "LJudgedBits$Ring;") (by decide +kernel)
  have k33 := hts (.fieldLink RX6 33 "JudgedBits$Source" "settings" "LJudgedBits$Settings;") (by decide +kernel)
  have k40 := hts (.fieldLink RX6 40 "JudgedBits$Source" "health" "LJudgedBits$Health;") (by decide +kernel)
  have k47 := hts (.fieldLink RX6 47 "JudgedBits$Source" "rawBits" "LJudgedBits$BitRow;") (by decide +kernel)
  have k51 := hts (.fieldLink RX6 51 "JudgedBits$Source" "store" "LJudgedBits$BitRow;") (by decide +kernel)
  have k57 := hts (.fieldLink RX6 57 "JudgedBits$Source" "tally" "LJudgedBits$Tally;") (by decide +kernel)
  change Z P0 l E0 rm_X6_copyFrom S0 M0 G0 B0 T0 K0 2 T A9 Q9 0 0 [(A 0, .inr (6, [.ref (A 1), .ref (A 2), .ref (A 3), .ref (A 4), .ref (A 5), .ref (A 6), .ref (A 7), .int (f 0), .int (f 19)])), (A 1, .inr (4, [.int (f 1), .int (f 3), .int (f 5)])), (A 2, .inr (4, [.int (f 2), .int (f 4), .int (f 6)])), (A 3, .inr (5, [.int (f 7), .int (f 8), .int (f 9), .int (f 10)])), (A 4, .inr (1, [.int (f 11), .int (f 12), .int (f 13), .int (f 14), .int (f 15), .int (f 16), .int (f 17)])), (A 5, .inr (0, [.long rb, .int (f 28)])), (A 6, .inr (0, [.long sb, .int (f 18)])), (A 7, .inr (7, [.int (f 20), .int (f 21), .int (f 22), .int (f 23), .int (f 24), .int (f 25), .int (f 26), .int (f 27)])), (B 0, .inr (6, [.ref (B 1), .ref (B 2), .ref (B 3), .ref (B 4), .ref (B 5), .ref (B 6), .ref (B 7), .int (f2 0), .int (f2 19)])), (B 1, .inr (4, [.int (f2 1), .int (f2 3), .int (f2 5)])), (B 2, .inr (4, [.int (f2 2), .int (f2 4), .int (f2 6)])), (B 3, .inr (5, [.int (f2 7), .int (f2 8), .int (f2 9), .int (f2 10)])), (B 4, .inr (1, [.int (f2 11), .int (f2 12), .int (f2 13), .int (f2 14), .int (f2 15), .int (f2 16), .int (f2 17)])), (B 5, .inr (0, [.long rb2, .int (f2 28)])), (B 6, .inr (0, [.long sb2, .int (f2 18)])), (B 7, .inr (7, [.int (f2 20), .int (f2 21), .int (f2 22), .int (f2 23), .int (f2 24), .int (f2 25), .int (f2 26), .int (f2 27)]))] 0 [(0, .ref (A 0)), (1, .ref (B 0))] []
  refine Z.of (pc' := 1) (fun _ _ _ hl => lv_aload_n hx hb dX6_copyFrom_0 rfl (lv_at hl 0 rfl)) ?_
  refine z_get C iX6 0 0 k23 rfl rfl (by decide) rfl rfl dX6_copyFrom_1 rfl ?_
  refine Z.of (pc' := 5) (fun _ _ _ hl => lv_aload_n hx hb dX6_copyFrom_4 rfl (lv_at hl 1 rfl)) ?_
  refine z_get C iX6 8 0 k23 rfl rfl (by decide) rfl rfl dX6_copyFrom_5 rfl ?_
  refine z_callVv C (c_X4_copyFrom l T (A 1) (B 1) (f 1) (f 3) (f 5) (f2 1) (f2 3) (f2 5)) [1, 9] [0, 2, 3, 4, 5, 6, 7, 8, 10, 11, 12, 13, 14, 15] rfl (by decide +kernel) (fun u1 => [(A 0, .inr (6, [.ref (A 1), .ref (A 2), .ref (A 3), .ref (A 4), .ref (A 5), .ref (A 6), .ref (A 7), .int (f 0), .int (f 19)])), (A 1, .inr (4, [.int (f2 1), .int (f2 3), .int (f2 5)])), (A 2, .inr (4, [.int (f 2), .int (f 4), .int (f 6)])), (A 3, .inr (5, [.int (f 7), .int (f 8), .int (f 9), .int (f 10)])), (A 4, .inr (1, [.int (f 11), .int (f 12), .int (f 13), .int (f 14), .int (f 15), .int (f 16), .int (f 17)])), (A 5, .inr (0, [.long rb, .int (f 28)])), (A 6, .inr (0, [.long sb, .int (f 18)])), (A 7, .inr (7, [.int (f 20), .int (f 21), .int (f 22), .int (f 23), .int (f 24), .int (f 25), .int (f 26), .int (f 27)])), (B 0, .inr (6, [.ref (B 1), .ref (B 2), .ref (B 3), .ref (B 4), .ref (B 5), .ref (B 6), .ref (B 7), .int (f2 0), .int (f2 19)])), (B 1, .inr (4, [.int (f2 1), .int (f2 3), .int (f2 5)])), (B 2, .inr (4, [.int (f2 2), .int (f2 4), .int (f2 6)])), (B 3, .inr (5, [.int (f2 7), .int (f2 8), .int (f2 9), .int (f2 10)])), (B 4, .inr (1, [.int (f2 11), .int (f2 12), .int (f2 13), .int (f2 14), .int (f2 15), .int (f2 16), .int (f2 17)])), (B 5, .inr (0, [.long rb2, .int (f2 28)])), (B 6, .inr (0, [.long sb2, .int (f2 18)])), (B 7, .inr (7, [.int (f2 20), .int (f2 21), .int (f2 22), .int (f2 23), .int (f2 24), .int (f2 25), .int (f2 26), .int (f2 27)]))]) (fun _ => rfl) [(A 0, .inr (6, [.ref (A 1), .ref (A 2), .ref (A 3), .ref (A 4), .ref (A 5), .ref (A 6), .ref (A 7), .int (f 0), .int (f 19)])), (A 2, .inr (4, [.int (f 2), .int (f 4), .int (f 6)])), (A 3, .inr (5, [.int (f 7), .int (f 8), .int (f 9), .int (f 10)])), (A 4, .inr (1, [.int (f 11), .int (f 12), .int (f 13), .int (f 14), .int (f 15), .int (f 16), .int (f 17)])), (A 5, .inr (0, [.long rb, .int (f 28)])), (A 6, .inr (0, [.long sb, .int (f 18)])), (A 7, .inr (7, [.int (f 20), .int (f 21), .int (f 22), .int (f 23), .int (f 24), .int (f 25), .int (f 26), .int (f 27)])), (B 0, .inr (6, [.ref (B 1), .ref (B 2), .ref (B 3), .ref (B 4), .ref (B 5), .ref (B 6), .ref (B 7), .int (f2 0), .int (f2 19)])), (B 2, .inr (4, [.int (f2 2), .int (f2 4), .int (f2 6)])), (B 3, .inr (5, [.int (f2 7), .int (f2 8), .int (f2 9), .int (f2 10)])), (B 4, .inr (1, [.int (f2 11), .int (f2 12), .int (f2 13), .int (f2 14), .int (f2 15), .int (f2 16), .int (f2 17)])), (B 5, .inr (0, [.long rb2, .int (f2 28)])), (B 6, .inr (0, [.long sb2, .int (f2 18)])), (B 7, .inr (7, [.int (f2 20), .int (f2 21), .int (f2 22), .int (f2 23), .int (f2 24), .int (f2 25), .int (f2 26), .int (f2 27)]))] rfl (fun _ => rfl) [A 0, A 1, A 2, A 3, A 4, A 5, A 6, A 7, B 0, B 1, B 2, B 3, B 4, B 5, B 6, B 7] rfl (fun _ => rfl) 16 (fun _ => rfl) (by decide +kernel) (cwV 1 hts gX6_copyFrom_X4_copyFrom rfl rfl rfl (by decide +kernel) ⟨Nat.le_of_ble_eq_true rfl, Nat.le_of_ble_eq_true rfl⟩) 1 rfl rfl rfl (As := [.ref (B 1)]) (rest := []) rfl rfl (Nat.le_of_ble_eq_true rfl) dX6_copyFrom_8 rfl ⟨Nat.zero_le _, Nat.zero_le _⟩ (fun u1 eu1 => ?_)
  refine Z.of (pc' := 12) (fun _ _ _ hl => lv_aload_n hx hb dX6_copyFrom_11 rfl (lv_at hl 0 rfl)) ?_
  refine z_get C iX6 0 1 k27 rfl rfl (by decide) rfl rfl dX6_copyFrom_12 rfl ?_
  refine Z.of (pc' := 16) (fun _ _ _ hl => lv_aload_n hx hb dX6_copyFrom_15 rfl (lv_at hl 1 rfl)) ?_
  refine z_get C iX6 8 1 k27 rfl rfl (by decide) rfl rfl dX6_copyFrom_16 rfl ?_
  refine z_callVv C (c_X4_copyFrom l T (A 2) (B 2) (f 2) (f 4) (f 6) (f2 2) (f2 4) (f2 6)) [2, 10] [0, 1, 3, 4, 5, 6, 7, 8, 9, 11, 12, 13, 14, 15] rfl (by decide +kernel) (fun u2 => [(A 0, .inr (6, [.ref (A 1), .ref (A 2), .ref (A 3), .ref (A 4), .ref (A 5), .ref (A 6), .ref (A 7), .int (f 0), .int (f 19)])), (A 1, .inr (4, [.int (f2 1), .int (f2 3), .int (f2 5)])), (A 2, .inr (4, [.int (f2 2), .int (f2 4), .int (f2 6)])), (A 3, .inr (5, [.int (f 7), .int (f 8), .int (f 9), .int (f 10)])), (A 4, .inr (1, [.int (f 11), .int (f 12), .int (f 13), .int (f 14), .int (f 15), .int (f 16), .int (f 17)])), (A 5, .inr (0, [.long rb, .int (f 28)])), (A 6, .inr (0, [.long sb, .int (f 18)])), (A 7, .inr (7, [.int (f 20), .int (f 21), .int (f 22), .int (f 23), .int (f 24), .int (f 25), .int (f 26), .int (f 27)])), (B 0, .inr (6, [.ref (B 1), .ref (B 2), .ref (B 3), .ref (B 4), .ref (B 5), .ref (B 6), .ref (B 7), .int (f2 0), .int (f2 19)])), (B 1, .inr (4, [.int (f2 1), .int (f2 3), .int (f2 5)])), (B 2, .inr (4, [.int (f2 2), .int (f2 4), .int (f2 6)])), (B 3, .inr (5, [.int (f2 7), .int (f2 8), .int (f2 9), .int (f2 10)])), (B 4, .inr (1, [.int (f2 11), .int (f2 12), .int (f2 13), .int (f2 14), .int (f2 15), .int (f2 16), .int (f2 17)])), (B 5, .inr (0, [.long rb2, .int (f2 28)])), (B 6, .inr (0, [.long sb2, .int (f2 18)])), (B 7, .inr (7, [.int (f2 20), .int (f2 21), .int (f2 22), .int (f2 23), .int (f2 24), .int (f2 25), .int (f2 26), .int (f2 27)]))]) (fun _ => rfl) [(A 0, .inr (6, [.ref (A 1), .ref (A 2), .ref (A 3), .ref (A 4), .ref (A 5), .ref (A 6), .ref (A 7), .int (f 0), .int (f 19)])), (A 1, .inr (4, [.int (f2 1), .int (f2 3), .int (f2 5)])), (A 3, .inr (5, [.int (f 7), .int (f 8), .int (f 9), .int (f 10)])), (A 4, .inr (1, [.int (f 11), .int (f 12), .int (f 13), .int (f 14), .int (f 15), .int (f 16), .int (f 17)])), (A 5, .inr (0, [.long rb, .int (f 28)])), (A 6, .inr (0, [.long sb, .int (f 18)])), (A 7, .inr (7, [.int (f 20), .int (f 21), .int (f 22), .int (f 23), .int (f 24), .int (f 25), .int (f 26), .int (f 27)])), (B 0, .inr (6, [.ref (B 1), .ref (B 2), .ref (B 3), .ref (B 4), .ref (B 5), .ref (B 6), .ref (B 7), .int (f2 0), .int (f2 19)])), (B 1, .inr (4, [.int (f2 1), .int (f2 3), .int (f2 5)])), (B 3, .inr (5, [.int (f2 7), .int (f2 8), .int (f2 9), .int (f2 10)])), (B 4, .inr (1, [.int (f2 11), .int (f2 12), .int (f2 13), .int (f2 14), .int (f2 15), .int (f2 16), .int (f2 17)])), (B 5, .inr (0, [.long rb2, .int (f2 28)])), (B 6, .inr (0, [.long sb2, .int (f2 18)])), (B 7, .inr (7, [.int (f2 20), .int (f2 21), .int (f2 22), .int (f2 23), .int (f2 24), .int (f2 25), .int (f2 26), .int (f2 27)]))] rfl (fun _ => rfl) [A 0, A 1, A 2, A 3, A 4, A 5, A 6, A 7, B 0, B 1, B 2, B 3, B 4, B 5, B 6, B 7] rfl (fun _ => rfl) 16 (fun _ => rfl) (by decide +kernel) (cwV 1 hts gX6_copyFrom_X4_copyFrom rfl rfl rfl (by decide +kernel) ⟨Nat.le_of_ble_eq_true rfl, Nat.le_of_ble_eq_true rfl⟩) 2 rfl rfl rfl (As := [.ref (B 2)]) (rest := []) rfl rfl (Nat.le_of_ble_eq_true rfl) dX6_copyFrom_19 rfl ⟨Nat.zero_le _, Nat.zero_le _⟩ (fun u2 eu2 => ?_)
  refine Z.of (pc' := 23) (fun _ _ _ hl => lv_aload_n hx hb dX6_copyFrom_22 rfl (lv_at hl 0 rfl)) ?_
  refine z_get C iX6 0 2 k33 rfl rfl (by decide) rfl rfl dX6_copyFrom_23 rfl ?_
  refine Z.of (pc' := 27) (fun _ _ _ hl => lv_aload_n hx hb dX6_copyFrom_26 rfl (lv_at hl 1 rfl)) ?_
  refine z_get C iX6 8 2 k33 rfl rfl (by decide) rfl rfl dX6_copyFrom_27 rfl ?_
  refine z_callVv C (c_X5_copyFrom l T (A 3) (B 3) (f 7) (f 8) (f 9) (f 10) (f2 7) (f2 8) (f2 9) (f2 10)) [3, 11] [0, 1, 2, 4, 5, 6, 7, 8, 9, 10, 12, 13, 14, 15] rfl (by decide +kernel) (fun u3 => [(A 0, .inr (6, [.ref (A 1), .ref (A 2), .ref (A 3), .ref (A 4), .ref (A 5), .ref (A 6), .ref (A 7), .int (f 0), .int (f 19)])), (A 1, .inr (4, [.int (f2 1), .int (f2 3), .int (f2 5)])), (A 2, .inr (4, [.int (f2 2), .int (f2 4), .int (f2 6)])), (A 3, .inr (5, [.int (f2 7), .int (f2 8), .int (f2 9), .int (f2 10)])), (A 4, .inr (1, [.int (f 11), .int (f 12), .int (f 13), .int (f 14), .int (f 15), .int (f 16), .int (f 17)])), (A 5, .inr (0, [.long rb, .int (f 28)])), (A 6, .inr (0, [.long sb, .int (f 18)])), (A 7, .inr (7, [.int (f 20), .int (f 21), .int (f 22), .int (f 23), .int (f 24), .int (f 25), .int (f 26), .int (f 27)])), (B 0, .inr (6, [.ref (B 1), .ref (B 2), .ref (B 3), .ref (B 4), .ref (B 5), .ref (B 6), .ref (B 7), .int (f2 0), .int (f2 19)])), (B 1, .inr (4, [.int (f2 1), .int (f2 3), .int (f2 5)])), (B 2, .inr (4, [.int (f2 2), .int (f2 4), .int (f2 6)])), (B 3, .inr (5, [.int (f2 7), .int (f2 8), .int (f2 9), .int (f2 10)])), (B 4, .inr (1, [.int (f2 11), .int (f2 12), .int (f2 13), .int (f2 14), .int (f2 15), .int (f2 16), .int (f2 17)])), (B 5, .inr (0, [.long rb2, .int (f2 28)])), (B 6, .inr (0, [.long sb2, .int (f2 18)])), (B 7, .inr (7, [.int (f2 20), .int (f2 21), .int (f2 22), .int (f2 23), .int (f2 24), .int (f2 25), .int (f2 26), .int (f2 27)]))]) (fun _ => rfl) [(A 0, .inr (6, [.ref (A 1), .ref (A 2), .ref (A 3), .ref (A 4), .ref (A 5), .ref (A 6), .ref (A 7), .int (f 0), .int (f 19)])), (A 1, .inr (4, [.int (f2 1), .int (f2 3), .int (f2 5)])), (A 2, .inr (4, [.int (f2 2), .int (f2 4), .int (f2 6)])), (A 4, .inr (1, [.int (f 11), .int (f 12), .int (f 13), .int (f 14), .int (f 15), .int (f 16), .int (f 17)])), (A 5, .inr (0, [.long rb, .int (f 28)])), (A 6, .inr (0, [.long sb, .int (f 18)])), (A 7, .inr (7, [.int (f 20), .int (f 21), .int (f 22), .int (f 23), .int (f 24), .int (f 25), .int (f 26), .int (f 27)])), (B 0, .inr (6, [.ref (B 1), .ref (B 2), .ref (B 3), .ref (B 4), .ref (B 5), .ref (B 6), .ref (B 7), .int (f2 0), .int (f2 19)])), (B 1, .inr (4, [.int (f2 1), .int (f2 3), .int (f2 5)])), (B 2, .inr (4, [.int (f2 2), .int (f2 4), .int (f2 6)])), (B 4, .inr (1, [.int (f2 11), .int (f2 12), .int (f2 13), .int (f2 14), .int (f2 15), .int (f2 16), .int (f2 17)])), (B 5, .inr (0, [.long rb2, .int (f2 28)])), (B 6, .inr (0, [.long sb2, .int (f2 18)])), (B 7, .inr (7, [.int (f2 20), .int (f2 21), .int (f2 22), .int (f2 23), .int (f2 24), .int (f2 25), .int (f2 26), .int (f2 27)]))] rfl (fun _ => rfl) [A 0, A 1, A 2, A 3, A 4, A 5, A 6, A 7, B 0, B 1, B 2, B 3, B 4, B 5, B 6, B 7] rfl (fun _ => rfl) 16 (fun _ => rfl) (by decide +kernel) (cwV 1 hts gX6_copyFrom_X5_copyFrom rfl rfl rfl (by decide +kernel) ⟨Nat.le_of_ble_eq_true rfl, Nat.le_of_ble_eq_true rfl⟩) 3 rfl rfl rfl (As := [.ref (B 3)]) (rest := []) rfl rfl (Nat.le_of_ble_eq_true rfl) dX6_copyFrom_30 rfl ⟨Nat.zero_le _, Nat.zero_le _⟩ (fun u3 eu3 => ?_)
  refine Z.of (pc' := 34) (fun _ _ _ hl => lv_aload_n hx hb dX6_copyFrom_33 rfl (lv_at hl 0 rfl)) ?_
  refine z_get C iX6 0 3 k40 rfl rfl (by decide) rfl rfl dX6_copyFrom_34 rfl ?_
  refine Z.of (pc' := 38) (fun _ _ _ hl => lv_aload_n hx hb dX6_copyFrom_37 rfl (lv_at hl 1 rfl)) ?_
  refine z_get C iX6 8 3 k40 rfl rfl (by decide) rfl rfl dX6_copyFrom_38 rfl ?_
  refine z_callVv C (c_X1_copyFrom l T (A 4) (B 4) (f 11) (f 12) (f 13) (f 14) (f 15) (f 16) (f 17) (f2 11) (f2 12) (f2 13) (f2 14) (f2 15) (f2 16) (f2 17)) [4, 12] [0, 1, 2, 3, 5, 6, 7, 8, 9, 10, 11, 13, 14, 15] rfl (by decide +kernel) (fun u4 => [(A 0, .inr (6, [.ref (A 1), .ref (A 2), .ref (A 3), .ref (A 4), .ref (A 5), .ref (A 6), .ref (A 7), .int (f 0), .int (f 19)])), (A 1, .inr (4, [.int (f2 1), .int (f2 3), .int (f2 5)])), (A 2, .inr (4, [.int (f2 2), .int (f2 4), .int (f2 6)])), (A 3, .inr (5, [.int (f2 7), .int (f2 8), .int (f2 9), .int (f2 10)])), (A 4, .inr (1, [.int (f2 11), .int (f2 12), .int (f2 13), .int (f2 14), .int (f2 15), .int (f2 16), .int (f2 17)])), (A 5, .inr (0, [.long rb, .int (f 28)])), (A 6, .inr (0, [.long sb, .int (f 18)])), (A 7, .inr (7, [.int (f 20), .int (f 21), .int (f 22), .int (f 23), .int (f 24), .int (f 25), .int (f 26), .int (f 27)])), (B 0, .inr (6, [.ref (B 1), .ref (B 2), .ref (B 3), .ref (B 4), .ref (B 5), .ref (B 6), .ref (B 7), .int (f2 0), .int (f2 19)])), (B 1, .inr (4, [.int (f2 1), .int (f2 3), .int (f2 5)])), (B 2, .inr (4, [.int (f2 2), .int (f2 4), .int (f2 6)])), (B 3, .inr (5, [.int (f2 7), .int (f2 8), .int (f2 9), .int (f2 10)])), (B 4, .inr (1, [.int (f2 11), .int (f2 12), .int (f2 13), .int (f2 14), .int (f2 15), .int (f2 16), .int (f2 17)])), (B 5, .inr (0, [.long rb2, .int (f2 28)])), (B 6, .inr (0, [.long sb2, .int (f2 18)])), (B 7, .inr (7, [.int (f2 20), .int (f2 21), .int (f2 22), .int (f2 23), .int (f2 24), .int (f2 25), .int (f2 26), .int (f2 27)]))]) (fun _ => rfl) [(A 0, .inr (6, [.ref (A 1), .ref (A 2), .ref (A 3), .ref (A 4), .ref (A 5), .ref (A 6), .ref (A 7), .int (f 0), .int (f 19)])), (A 1, .inr (4, [.int (f2 1), .int (f2 3), .int (f2 5)])), (A 2, .inr (4, [.int (f2 2), .int (f2 4), .int (f2 6)])), (A 3, .inr (5, [.int (f2 7), .int (f2 8), .int (f2 9), .int (f2 10)])), (A 5, .inr (0, [.long rb, .int (f 28)])), (A 6, .inr (0, [.long sb, .int (f 18)])), (A 7, .inr (7, [.int (f 20), .int (f 21), .int (f 22), .int (f 23), .int (f 24), .int (f 25), .int (f 26), .int (f 27)])), (B 0, .inr (6, [.ref (B 1), .ref (B 2), .ref (B 3), .ref (B 4), .ref (B 5), .ref (B 6), .ref (B 7), .int (f2 0), .int (f2 19)])), (B 1, .inr (4, [.int (f2 1), .int (f2 3), .int (f2 5)])), (B 2, .inr (4, [.int (f2 2), .int (f2 4), .int (f2 6)])), (B 3, .inr (5, [.int (f2 7), .int (f2 8), .int (f2 9), .int (f2 10)])), (B 5, .inr (0, [.long rb2, .int (f2 28)])), (B 6, .inr (0, [.long sb2, .int (f2 18)])), (B 7, .inr (7, [.int (f2 20), .int (f2 21), .int (f2 22), .int (f2 23), .int (f2 24), .int (f2 25), .int (f2 26), .int (f2 27)]))] rfl (fun _ => rfl) [A 0, A 1, A 2, A 3, A 4, A 5, A 6, A 7, B 0, B 1, B 2, B 3, B 4, B 5, B 6, B 7] rfl (fun _ => rfl) 16 (fun _ => rfl) (by decide +kernel) (cwV 1 hts gX6_copyFrom_X1_copyFrom rfl rfl rfl (by decide +kernel) ⟨Nat.le_of_ble_eq_true rfl, Nat.le_of_ble_eq_true rfl⟩) 4 rfl rfl rfl (As := [.ref (B 4)]) (rest := []) rfl rfl (Nat.le_of_ble_eq_true rfl) dX6_copyFrom_41 rfl ⟨Nat.zero_le _, Nat.zero_le _⟩ (fun u4 eu4 => ?_)
  refine Z.of (pc' := 45) (fun _ _ _ hl => lv_aload_n hx hb dX6_copyFrom_44 rfl (lv_at hl 0 rfl)) ?_
  refine z_get C iX6 0 4 k47 rfl rfl (by decide) rfl rfl dX6_copyFrom_45 rfl ?_
  refine Z.of (pc' := 49) (fun _ _ _ hl => lv_aload_n hx hb dX6_copyFrom_48 rfl (lv_at hl 1 rfl)) ?_
  refine z_get C iX6 8 4 k47 rfl rfl (by decide) rfl rfl dX6_copyFrom_49 rfl ?_
  refine z_callVv C (c_X0_copyFrom l T (A 5) (B 5) rb (f 28) rb2 (f2 28)) [5, 13] [0, 1, 2, 3, 4, 6, 7, 8, 9, 10, 11, 12, 14, 15] rfl (by decide +kernel) (fun u5 => [(A 0, .inr (6, [.ref (A 1), .ref (A 2), .ref (A 3), .ref (A 4), .ref (A 5), .ref (A 6), .ref (A 7), .int (f 0), .int (f 19)])), (A 1, .inr (4, [.int (f2 1), .int (f2 3), .int (f2 5)])), (A 2, .inr (4, [.int (f2 2), .int (f2 4), .int (f2 6)])), (A 3, .inr (5, [.int (f2 7), .int (f2 8), .int (f2 9), .int (f2 10)])), (A 4, .inr (1, [.int (f2 11), .int (f2 12), .int (f2 13), .int (f2 14), .int (f2 15), .int (f2 16), .int (f2 17)])), (A 5, .inr (0, [.long rb2, .int (f2 28)])), (A 6, .inr (0, [.long sb, .int (f 18)])), (A 7, .inr (7, [.int (f 20), .int (f 21), .int (f 22), .int (f 23), .int (f 24), .int (f 25), .int (f 26), .int (f 27)])), (B 0, .inr (6, [.ref (B 1), .ref (B 2), .ref (B 3), .ref (B 4), .ref (B 5), .ref (B 6), .ref (B 7), .int (f2 0), .int (f2 19)])), (B 1, .inr (4, [.int (f2 1), .int (f2 3), .int (f2 5)])), (B 2, .inr (4, [.int (f2 2), .int (f2 4), .int (f2 6)])), (B 3, .inr (5, [.int (f2 7), .int (f2 8), .int (f2 9), .int (f2 10)])), (B 4, .inr (1, [.int (f2 11), .int (f2 12), .int (f2 13), .int (f2 14), .int (f2 15), .int (f2 16), .int (f2 17)])), (B 5, .inr (0, [.long rb2, .int (f2 28)])), (B 6, .inr (0, [.long sb2, .int (f2 18)])), (B 7, .inr (7, [.int (f2 20), .int (f2 21), .int (f2 22), .int (f2 23), .int (f2 24), .int (f2 25), .int (f2 26), .int (f2 27)]))]) (fun _ => rfl) [(A 0, .inr (6, [.ref (A 1), .ref (A 2), .ref (A 3), .ref (A 4), .ref (A 5), .ref (A 6), .ref (A 7), .int (f 0), .int (f 19)])), (A 1, .inr (4, [.int (f2 1), .int (f2 3), .int (f2 5)])), (A 2, .inr (4, [.int (f2 2), .int (f2 4), .int (f2 6)])), (A 3, .inr (5, [.int (f2 7), .int (f2 8), .int (f2 9), .int (f2 10)])), (A 4, .inr (1, [.int (f2 11), .int (f2 12), .int (f2 13), .int (f2 14), .int (f2 15), .int (f2 16), .int (f2 17)])), (A 6, .inr (0, [.long sb, .int (f 18)])), (A 7, .inr (7, [.int (f 20), .int (f 21), .int (f 22), .int (f 23), .int (f 24), .int (f 25), .int (f 26), .int (f 27)])), (B 0, .inr (6, [.ref (B 1), .ref (B 2), .ref (B 3), .ref (B 4), .ref (B 5), .ref (B 6), .ref (B 7), .int (f2 0), .int (f2 19)])), (B 1, .inr (4, [.int (f2 1), .int (f2 3), .int (f2 5)])), (B 2, .inr (4, [.int (f2 2), .int (f2 4), .int (f2 6)])), (B 3, .inr (5, [.int (f2 7), .int (f2 8), .int (f2 9), .int (f2 10)])), (B 4, .inr (1, [.int (f2 11), .int (f2 12), .int (f2 13), .int (f2 14), .int (f2 15), .int (f2 16), .int (f2 17)])), (B 6, .inr (0, [.long sb2, .int (f2 18)])), (B 7, .inr (7, [.int (f2 20), .int (f2 21), .int (f2 22), .int (f2 23), .int (f2 24), .int (f2 25), .int (f2 26), .int (f2 27)]))] rfl (fun _ => rfl) [A 0, A 1, A 2, A 3, A 4, A 5, A 6, A 7, B 0, B 1, B 2, B 3, B 4, B 5, B 6, B 7] rfl (fun _ => rfl) 16 (fun _ => rfl) (by decide +kernel) (cwV 1 hts gX6_copyFrom_X0_copyFrom rfl rfl rfl (by decide +kernel) ⟨Nat.le_of_ble_eq_true rfl, Nat.le_of_ble_eq_true rfl⟩) 5 rfl rfl rfl (As := [.ref (B 5)]) (rest := []) rfl rfl (Nat.le_of_ble_eq_true rfl) dX6_copyFrom_52 rfl ⟨Nat.zero_le _, Nat.zero_le _⟩ (fun u5 eu5 => ?_)
  refine Z.of (pc' := 56) (fun _ _ _ hl => lv_aload_n hx hb dX6_copyFrom_55 rfl (lv_at hl 0 rfl)) ?_
  refine z_get C iX6 0 5 k51 rfl rfl (by decide) rfl rfl dX6_copyFrom_56 rfl ?_
  refine Z.of (pc' := 60) (fun _ _ _ hl => lv_aload_n hx hb dX6_copyFrom_59 rfl (lv_at hl 1 rfl)) ?_
  refine z_get C iX6 8 5 k51 rfl rfl (by decide) rfl rfl dX6_copyFrom_60 rfl ?_
  refine z_callVv C (c_X0_copyFrom l T (A 6) (B 6) sb (f 18) sb2 (f2 18)) [6, 14] [0, 1, 2, 3, 4, 5, 7, 8, 9, 10, 11, 12, 13, 15] rfl (by decide +kernel) (fun u6 => [(A 0, .inr (6, [.ref (A 1), .ref (A 2), .ref (A 3), .ref (A 4), .ref (A 5), .ref (A 6), .ref (A 7), .int (f 0), .int (f 19)])), (A 1, .inr (4, [.int (f2 1), .int (f2 3), .int (f2 5)])), (A 2, .inr (4, [.int (f2 2), .int (f2 4), .int (f2 6)])), (A 3, .inr (5, [.int (f2 7), .int (f2 8), .int (f2 9), .int (f2 10)])), (A 4, .inr (1, [.int (f2 11), .int (f2 12), .int (f2 13), .int (f2 14), .int (f2 15), .int (f2 16), .int (f2 17)])), (A 5, .inr (0, [.long rb2, .int (f2 28)])), (A 6, .inr (0, [.long sb2, .int (f2 18)])), (A 7, .inr (7, [.int (f 20), .int (f 21), .int (f 22), .int (f 23), .int (f 24), .int (f 25), .int (f 26), .int (f 27)])), (B 0, .inr (6, [.ref (B 1), .ref (B 2), .ref (B 3), .ref (B 4), .ref (B 5), .ref (B 6), .ref (B 7), .int (f2 0), .int (f2 19)])), (B 1, .inr (4, [.int (f2 1), .int (f2 3), .int (f2 5)])), (B 2, .inr (4, [.int (f2 2), .int (f2 4), .int (f2 6)])), (B 3, .inr (5, [.int (f2 7), .int (f2 8), .int (f2 9), .int (f2 10)])), (B 4, .inr (1, [.int (f2 11), .int (f2 12), .int (f2 13), .int (f2 14), .int (f2 15), .int (f2 16), .int (f2 17)])), (B 5, .inr (0, [.long rb2, .int (f2 28)])), (B 6, .inr (0, [.long sb2, .int (f2 18)])), (B 7, .inr (7, [.int (f2 20), .int (f2 21), .int (f2 22), .int (f2 23), .int (f2 24), .int (f2 25), .int (f2 26), .int (f2 27)]))]) (fun _ => rfl) [(A 0, .inr (6, [.ref (A 1), .ref (A 2), .ref (A 3), .ref (A 4), .ref (A 5), .ref (A 6), .ref (A 7), .int (f 0), .int (f 19)])), (A 1, .inr (4, [.int (f2 1), .int (f2 3), .int (f2 5)])), (A 2, .inr (4, [.int (f2 2), .int (f2 4), .int (f2 6)])), (A 3, .inr (5, [.int (f2 7), .int (f2 8), .int (f2 9), .int (f2 10)])), (A 4, .inr (1, [.int (f2 11), .int (f2 12), .int (f2 13), .int (f2 14), .int (f2 15), .int (f2 16), .int (f2 17)])), (A 5, .inr (0, [.long rb2, .int (f2 28)])), (A 7, .inr (7, [.int (f 20), .int (f 21), .int (f 22), .int (f 23), .int (f 24), .int (f 25), .int (f 26), .int (f 27)])), (B 0, .inr (6, [.ref (B 1), .ref (B 2), .ref (B 3), .ref (B 4), .ref (B 5), .ref (B 6), .ref (B 7), .int (f2 0), .int (f2 19)])), (B 1, .inr (4, [.int (f2 1), .int (f2 3), .int (f2 5)])), (B 2, .inr (4, [.int (f2 2), .int (f2 4), .int (f2 6)])), (B 3, .inr (5, [.int (f2 7), .int (f2 8), .int (f2 9), .int (f2 10)])), (B 4, .inr (1, [.int (f2 11), .int (f2 12), .int (f2 13), .int (f2 14), .int (f2 15), .int (f2 16), .int (f2 17)])), (B 5, .inr (0, [.long rb2, .int (f2 28)])), (B 7, .inr (7, [.int (f2 20), .int (f2 21), .int (f2 22), .int (f2 23), .int (f2 24), .int (f2 25), .int (f2 26), .int (f2 27)]))] rfl (fun _ => rfl) [A 0, A 1, A 2, A 3, A 4, A 5, A 6, A 7, B 0, B 1, B 2, B 3, B 4, B 5, B 6, B 7] rfl (fun _ => rfl) 16 (fun _ => rfl) (by decide +kernel) (cwV 1 hts gX6_copyFrom_X0_copyFrom rfl rfl rfl (by decide +kernel) ⟨Nat.le_of_ble_eq_true rfl, Nat.le_of_ble_eq_true rfl⟩) 6 rfl rfl rfl (As := [.ref (B 6)]) (rest := []) rfl rfl (Nat.le_of_ble_eq_true rfl) dX6_copyFrom_63 rfl ⟨Nat.zero_le _, Nat.zero_le _⟩ (fun u6 eu6 => ?_)
  refine Z.of (pc' := 67) (fun _ _ _ hl => lv_aload_n hx hb dX6_copyFrom_66 rfl (lv_at hl 0 rfl)) ?_
  refine z_get C iX6 0 6 k57 rfl rfl (by decide) rfl rfl dX6_copyFrom_67 rfl ?_
  refine Z.of (pc' := 71) (fun _ _ _ hl => lv_aload_n hx hb dX6_copyFrom_70 rfl (lv_at hl 1 rfl)) ?_
  refine z_get C iX6 8 6 k57 rfl rfl (by decide) rfl rfl dX6_copyFrom_71 rfl ?_
  refine z_callVv C (c_X7_copyFrom l T (A 7) (B 7) (f 20) (f 21) (f 22) (f 23) (f 24) (f 25) (f 26) (f 27) (f2 20) (f2 21) (f2 22) (f2 23) (f2 24) (f2 25) (f2 26) (f2 27)) [7, 15] [0, 1, 2, 3, 4, 5, 6, 8, 9, 10, 11, 12, 13, 14] rfl (by decide +kernel) (fun u7 => [(A 0, .inr (6, [.ref (A 1), .ref (A 2), .ref (A 3), .ref (A 4), .ref (A 5), .ref (A 6), .ref (A 7), .int (f 0), .int (f 19)])), (A 1, .inr (4, [.int (f2 1), .int (f2 3), .int (f2 5)])), (A 2, .inr (4, [.int (f2 2), .int (f2 4), .int (f2 6)])), (A 3, .inr (5, [.int (f2 7), .int (f2 8), .int (f2 9), .int (f2 10)])), (A 4, .inr (1, [.int (f2 11), .int (f2 12), .int (f2 13), .int (f2 14), .int (f2 15), .int (f2 16), .int (f2 17)])), (A 5, .inr (0, [.long rb2, .int (f2 28)])), (A 6, .inr (0, [.long sb2, .int (f2 18)])), (A 7, .inr (7, [.int (f2 20), .int (f2 21), .int (f2 22), .int (f2 23), .int (f2 24), .int (f2 25), .int (f2 26), .int (f2 27)])), (B 0, .inr (6, [.ref (B 1), .ref (B 2), .ref (B 3), .ref (B 4), .ref (B 5), .ref (B 6), .ref (B 7), .int (f2 0), .int (f2 19)])), (B 1, .inr (4, [.int (f2 1), .int (f2 3), .int (f2 5)])), (B 2, .inr (4, [.int (f2 2), .int (f2 4), .int (f2 6)])), (B 3, .inr (5, [.int (f2 7), .int (f2 8), .int (f2 9), .int (f2 10)])), (B 4, .inr (1, [.int (f2 11), .int (f2 12), .int (f2 13), .int (f2 14), .int (f2 15), .int (f2 16), .int (f2 17)])), (B 5, .inr (0, [.long rb2, .int (f2 28)])), (B 6, .inr (0, [.long sb2, .int (f2 18)])), (B 7, .inr (7, [.int (f2 20), .int (f2 21), .int (f2 22), .int (f2 23), .int (f2 24), .int (f2 25), .int (f2 26), .int (f2 27)]))]) (fun _ => rfl) [(A 0, .inr (6, [.ref (A 1), .ref (A 2), .ref (A 3), .ref (A 4), .ref (A 5), .ref (A 6), .ref (A 7), .int (f 0), .int (f 19)])), (A 1, .inr (4, [.int (f2 1), .int (f2 3), .int (f2 5)])), (A 2, .inr (4, [.int (f2 2), .int (f2 4), .int (f2 6)])), (A 3, .inr (5, [.int (f2 7), .int (f2 8), .int (f2 9), .int (f2 10)])), (A 4, .inr (1, [.int (f2 11), .int (f2 12), .int (f2 13), .int (f2 14), .int (f2 15), .int (f2 16), .int (f2 17)])), (A 5, .inr (0, [.long rb2, .int (f2 28)])), (A 6, .inr (0, [.long sb2, .int (f2 18)])), (B 0, .inr (6, [.ref (B 1), .ref (B 2), .ref (B 3), .ref (B 4), .ref (B 5), .ref (B 6), .ref (B 7), .int (f2 0), .int (f2 19)])), (B 1, .inr (4, [.int (f2 1), .int (f2 3), .int (f2 5)])), (B 2, .inr (4, [.int (f2 2), .int (f2 4), .int (f2 6)])), (B 3, .inr (5, [.int (f2 7), .int (f2 8), .int (f2 9), .int (f2 10)])), (B 4, .inr (1, [.int (f2 11), .int (f2 12), .int (f2 13), .int (f2 14), .int (f2 15), .int (f2 16), .int (f2 17)])), (B 5, .inr (0, [.long rb2, .int (f2 28)])), (B 6, .inr (0, [.long sb2, .int (f2 18)]))] rfl (fun _ => rfl) [A 0, A 1, A 2, A 3, A 4, A 5, A 6, A 7, B 0, B 1, B 2, B 3, B 4, B 5, B 6, B 7] rfl (fun _ => rfl) 16 (fun _ => rfl) (by decide +kernel) (cwV 1 hts gX6_copyFrom_X7_copyFrom rfl rfl rfl (by decide +kernel) ⟨Nat.le_of_ble_eq_true rfl, Nat.le_of_ble_eq_true rfl⟩) 7 rfl rfl rfl (As := [.ref (B 7)]) (rest := []) rfl rfl (Nat.le_of_ble_eq_true rfl) dX6_copyFrom_74 rfl ⟨Nat.zero_le _, Nat.zero_le _⟩ (fun u7 eu7 => ?_)
  refine Z.of (pc' := 78) (fun _ _ _ hl => lv_aload_n hx hb dX6_copyFrom_77 rfl (lv_at hl 0 rfl)) ?_
  refine Z.of (pc' := 79) (fun _ _ _ hl => lv_aload_n hx hb dX6_copyFrom_78 rfl (lv_at hl 1 rfl)) ?_
  refine z_get C iX6 8 7 k9 rfl rfl (by decide) rfl rfl dX6_copyFrom_79 rfl ?_
  refine z_put C iX6 tyX6_ok nmX6 0 7 k9 rfl rfl (by decide) rfl rfl rfl rfl (Nat.le_of_ble_eq_true rfl) dX6_copyFrom_82 rfl [(A 0, .inr (6, [.ref (A 1), .ref (A 2), .ref (A 3), .ref (A 4), .ref (A 5), .ref (A 6), .ref (A 7), .int (f2 0), .int (f 19)])), (A 1, .inr (4, [.int (f2 1), .int (f2 3), .int (f2 5)])), (A 2, .inr (4, [.int (f2 2), .int (f2 4), .int (f2 6)])), (A 3, .inr (5, [.int (f2 7), .int (f2 8), .int (f2 9), .int (f2 10)])), (A 4, .inr (1, [.int (f2 11), .int (f2 12), .int (f2 13), .int (f2 14), .int (f2 15), .int (f2 16), .int (f2 17)])), (A 5, .inr (0, [.long rb2, .int (f2 28)])), (A 6, .inr (0, [.long sb2, .int (f2 18)])), (A 7, .inr (7, [.int (f2 20), .int (f2 21), .int (f2 22), .int (f2 23), .int (f2 24), .int (f2 25), .int (f2 26), .int (f2 27)])), (B 0, .inr (6, [.ref (B 1), .ref (B 2), .ref (B 3), .ref (B 4), .ref (B 5), .ref (B 6), .ref (B 7), .int (f2 0), .int (f2 19)])), (B 1, .inr (4, [.int (f2 1), .int (f2 3), .int (f2 5)])), (B 2, .inr (4, [.int (f2 2), .int (f2 4), .int (f2 6)])), (B 3, .inr (5, [.int (f2 7), .int (f2 8), .int (f2 9), .int (f2 10)])), (B 4, .inr (1, [.int (f2 11), .int (f2 12), .int (f2 13), .int (f2 14), .int (f2 15), .int (f2 16), .int (f2 17)])), (B 5, .inr (0, [.long rb2, .int (f2 28)])), (B 6, .inr (0, [.long sb2, .int (f2 18)])), (B 7, .inr (7, [.int (f2 20), .int (f2 21), .int (f2 22), .int (f2 23), .int (f2 24), .int (f2 25), .int (f2 26), .int (f2 27)]))] rfl ?_
  refine Z.of (pc' := 86) (fun _ _ _ hl => lv_aload_n hx hb dX6_copyFrom_85 rfl (lv_at hl 0 rfl)) ?_
  refine Z.of (pc' := 87) (fun _ _ _ hl => lv_aload_n hx hb dX6_copyFrom_86 rfl (lv_at hl 1 rfl)) ?_
  refine z_get C iX6 8 8 k15 rfl rfl (by decide) rfl rfl dX6_copyFrom_87 rfl ?_
  refine z_put C iX6 tyX6_ok nmX6 0 8 k15 rfl rfl (by decide) rfl rfl rfl rfl (Nat.le_of_ble_eq_true rfl) dX6_copyFrom_90 rfl [(A 0, .inr (6, [.ref (A 1), .ref (A 2), .ref (A 3), .ref (A 4), .ref (A 5), .ref (A 6), .ref (A 7), .int (f2 0), .int (f2 19)])), (A 1, .inr (4, [.int (f2 1), .int (f2 3), .int (f2 5)])), (A 2, .inr (4, [.int (f2 2), .int (f2 4), .int (f2 6)])), (A 3, .inr (5, [.int (f2 7), .int (f2 8), .int (f2 9), .int (f2 10)])), (A 4, .inr (1, [.int (f2 11), .int (f2 12), .int (f2 13), .int (f2 14), .int (f2 15), .int (f2 16), .int (f2 17)])), (A 5, .inr (0, [.long rb2, .int (f2 28)])), (A 6, .inr (0, [.long sb2, .int (f2 18)])), (A 7, .inr (7, [.int (f2 20), .int (f2 21), .int (f2 22), .int (f2 23), .int (f2 24), .int (f2 25), .int (f2 26), .int (f2 27)])), (B 0, .inr (6, [.ref (B 1), .ref (B 2), .ref (B 3), .ref (B 4), .ref (B 5), .ref (B 6), .ref (B 7), .int (f2 0), .int (f2 19)])), (B 1, .inr (4, [.int (f2 1), .int (f2 3), .int (f2 5)])), (B 2, .inr (4, [.int (f2 2), .int (f2 4), .int (f2 6)])), (B 3, .inr (5, [.int (f2 7), .int (f2 8), .int (f2 9), .int (f2 10)])), (B 4, .inr (1, [.int (f2 11), .int (f2 12), .int (f2 13), .int (f2 14), .int (f2 15), .int (f2 16), .int (f2 17)])), (B 5, .inr (0, [.long rb2, .int (f2 28)])), (B 6, .inr (0, [.long sb2, .int (f2 18)])), (B 7, .inr (7, [.int (f2 20), .int (f2 21), .int (f2 22), .int (f2 23), .int (f2 24), .int (f2 25), .int (f2 26), .int (f2 27)]))] rfl ?_
  exact E () _ _ _ dX6_copyFrom_93  rfl rfl
def f_X6_ringAt (f : Nat → Int32) (rb : Int64) (sb : Int64) (which : Int32) : Nat :=
  if which = 0 then
    1
  else
    2
theorem fe_X6_ringAt (f : Nat → Int32) (rb : Int64) (sb : Int64) (which : Int32) : f_X6_ringAt f rb sb which = (
    if which = 0 then
      1
    else
      2
    ) := rfl
abbrev rm_X6_ringAt : Room := { frames := 0, cells := 0, slots := 0, locals := 0 }
set_option maxHeartbeats 1000000 in
set_option maxRecDepth 100000 in
theorem c_X6_ringAt (l : Launch) (T : zT) (A : Nat → Nat) (f : Nat → Int32) (rb : Int64) (sb : Int64) (which : Int32) : Cr l yX6_ringAt wsX6_ringAt rm_X6_ringAt T [.ref (A 0), .int which] [(A 0, .inr (6, [.ref (A 1), .ref (A 2), .ref (A 3), .ref (A 4), .ref (A 5), .ref (A 6), .ref (A 7), .int (f 0), .int (f 19)])), (A 1, .inr (4, [.int (f 1), .int (f 3), .int (f 5)])), (A 2, .inr (4, [.int (f 2), .int (f 4), .int (f 6)])), (A 3, .inr (5, [.int (f 7), .int (f 8), .int (f 9), .int (f 10)])), (A 4, .inr (1, [.int (f 11), .int (f 12), .int (f 13), .int (f 14), .int (f 15), .int (f 16), .int (f 17)])), (A 5, .inr (0, [.long rb, .int (f 28)])), (A 6, .inr (0, [.long sb, .int (f 18)])), (A 7, .inr (7, [.int (f 20), .int (f 21), .int (f 22), .int (f 23), .int (f 24), .int (f 25), .int (f 26), .int (f 27)]))] (S := Nat) (f_X6_ringAt f rb sb which) (fun u => A u) (fun u => [(A 0, .inr (6, [.ref (A 1), .ref (A 2), .ref (A 3), .ref (A 4), .ref (A 5), .ref (A 6), .ref (A 7), .int (f 0), .int (f 19)])), (A 1, .inr (4, [.int (f 1), .int (f 3), .int (f 5)])), (A 2, .inr (4, [.int (f 2), .int (f 4), .int (f 6)])), (A 3, .inr (5, [.int (f 7), .int (f 8), .int (f 9), .int (f 10)])), (A 4, .inr (1, [.int (f 11), .int (f 12), .int (f 13), .int (f 14), .int (f 15), .int (f 16), .int (f 17)])), (A 5, .inr (0, [.long rb, .int (f 28)])), (A 6, .inr (0, [.long sb, .int (f 18)])), (A 7, .inr (7, [.int (f 20), .int (f 21), .int (f 22), .int (f 23), .int (f 24), .int (f 25), .int (f 26), .int (f 27)]))]) := by
  refine z_metR (own := RX6) (maxL := 2) rfl (by decide) rfl (Nat.le_of_ble_eq_true rfl) ?_
  intro P0 E0 S0 M0 G0 B0 T0 K0 A9 Q9 C E
  have hx := C.1.1
  have hb := C.1.2.1
  have hown := C.1.2.2.2.1
  have hts := C.1.2.2.2.2
  have hn := C.2.1.2
  have iX6 : ∀ w ∈ u_ws RX6 TX6 9, w ∈ wsX6_ringAt := by decide +kernel
  have k23 := hts (.fieldLink RX6 23 "JudgedBits$Source" "ringZero" "LJudgedBits$Ring;") (by decide +kernel)
  have k27 := hts (.fieldLink RX6 27 "JudgedBits$Source" "ringOne" "LJudgedBits$Ring;") (by decide +kernel)
  change Z P0 l E0 rm_X6_ringAt S0 M0 G0 B0 T0 K0 2 T A9 Q9 0 0 [(A 0, .inr (6, [.ref (A 1), .ref (A 2), .ref (A 3), .ref (A 4), .ref (A 5), .ref (A 6), .ref (A 7), .int (f 0), .int (f 19)])), (A 1, .inr (4, [.int (f 1), .int (f 3), .int (f 5)])), (A 2, .inr (4, [.int (f 2), .int (f 4), .int (f 6)])), (A 3, .inr (5, [.int (f 7), .int (f 8), .int (f 9), .int (f 10)])), (A 4, .inr (1, [.int (f 11), .int (f 12), .int (f 13), .int (f 14), .int (f 15), .int (f 16), .int (f 17)])), (A 5, .inr (0, [.long rb, .int (f 28)])), (A 6, .inr (0, [.long sb, .int (f 18)])), (A 7, .inr (7, [.int (f 20), .int (f 21), .int (f 22), .int (f 23), .int (f 24), .int (f 25), .int (f 26), .int (f 27)]))] 0 [(0, .ref (A 0)), (1, .int which)] []
  have zh0 := fe_X6_ringAt f rb sb which
  refine Z.of (pc' := 1) (fun _ _ _ hl => lv_iload_n hx hb dX6_ringAt_0 rfl (lv_at hl 1 rfl)) ?_
  refine Z.two' (pt := 11) (pf := 4) (fun _ _ _ _ => lv_if_ne hx hb dX6_ringAt_1 (by decide)) (fun c1 => ?_) (fun c1 => ?_)
  · have zh2 := zh0.trans (if_neg c1)
    refine Z.of (pc' := 12) (fun _ _ _ hl => lv_aload_n hx hb dX6_ringAt_11 rfl (lv_at hl 0 rfl)) ?_
    refine z_get C iX6 0 1 k27 rfl rfl (by decide) rfl rfl dX6_ringAt_12 rfl ?_
    exact E 2 _ _ _ _ dX6_ringAt_15 rfl rfl zh2
  · have zh3 := zh0.trans (if_pos c1)
    refine Z.of (pc' := 5) (fun _ _ _ hl => lv_aload_n hx hb dX6_ringAt_4 rfl (lv_at hl 0 rfl)) ?_
    refine z_get C iX6 0 0 k23 rfl rfl (by decide) rfl rfl dX6_ringAt_5 rfl ?_
    refine Z.of (pc' := 15) (fun _ _ _ _ => lv_goto hx hb dX6_ringAt_8 (by decide)) ?_
    exact E 1 _ _ _ _ dX6_ringAt_15 rfl rfl zh3
theorem ringAt_0 {f : Nat → Int32} {rb sb : Int64} {w : Int32} (h : w = 0) : f_X6_ringAt f rb sb w = 1 := if_pos h
theorem ringAt_1 {f : Nat → Int32} {rb sb : Int64} {w : Int32} (h : ¬ w = 0) : f_X6_ringAt f rb sb w = 2 := if_neg h
def f_X6_changeRing (f : Nat → Int32) (rb : Int64) (sb : Int64) (which : Int32) (period : Int32) (jitter : Int32) : Int32 × (Nat → Int32) :=
  zl (f_X9_isWithin which 0 1) fun u1 =>
  if u1 = 0 then
    ((-1000001), f)
  else
    zl (f_X9_isWithin period 10 999) fun u6 =>
    if u6 = 0 then
      ((-1000001), f)
    else
      zl (f_X9_isWithin jitter 0 99) fun u11 =>
      if u11 = 0 then
        ((-1000001), f)
      else
        zl (f_X6_ringAt f rb sb which) fun u16 =>
        if which = 0 then
          (f 1, upd (upd (upd f 1 period) 3 jitter) 5 0)
        else
          (f 2, upd (upd (upd f 2 period) 4 jitter) 6 0)
theorem fe_X6_changeRing (f : Nat → Int32) (rb : Int64) (sb : Int64) (which : Int32) (period : Int32) (jitter : Int32) : f_X6_changeRing f rb sb which period jitter = (
    zl (f_X9_isWithin which 0 1) fun u1 =>
    if u1 = 0 then
      ((-1000001), f)
    else
      zl (f_X9_isWithin period 10 999) fun u6 =>
      if u6 = 0 then
        ((-1000001), f)
      else
        zl (f_X9_isWithin jitter 0 99) fun u11 =>
        if u11 = 0 then
          ((-1000001), f)
        else
          zl (f_X6_ringAt f rb sb which) fun u16 =>
          if which = 0 then
            (f 1, upd (upd (upd f 1 period) 3 jitter) 5 0)
          else
            (f 2, upd (upd (upd f 2 period) 4 jitter) 6 0)
    ) := rfl
abbrev rm_X6_changeRing : Room := { frames := 1, cells := 0, slots := 0, locals := 22 }
set_option maxHeartbeats 1000000 in
set_option maxRecDepth 100000 in
theorem c_X6_changeRing (l : Launch) (T : zT) (A : Nat → Nat) (f : Nat → Int32) (rb : Int64) (sb : Int64) (which : Int32) (period : Int32) (jitter : Int32) : Ci l yX6_changeRing wsX6_changeRing rm_X6_changeRing T .int [.ref (A 0), .int which, .int period, .int jitter] [(A 0, .inr (6, [.ref (A 1), .ref (A 2), .ref (A 3), .ref (A 4), .ref (A 5), .ref (A 6), .ref (A 7), .int (f 0), .int (f 19)])), (A 1, .inr (4, [.int (f 1), .int (f 3), .int (f 5)])), (A 2, .inr (4, [.int (f 2), .int (f 4), .int (f 6)])), (A 3, .inr (5, [.int (f 7), .int (f 8), .int (f 9), .int (f 10)])), (A 4, .inr (1, [.int (f 11), .int (f 12), .int (f 13), .int (f 14), .int (f 15), .int (f 16), .int (f 17)])), (A 5, .inr (0, [.long rb, .int (f 28)])), (A 6, .inr (0, [.long sb, .int (f 18)])), (A 7, .inr (7, [.int (f 20), .int (f 21), .int (f 22), .int (f 23), .int (f 24), .int (f 25), .int (f 26), .int (f 27)]))] (S := Int32 × (Nat → Int32)) (f_X6_changeRing f rb sb which period jitter) (fun u => u.1) (fun u => [(A 0, .inr (6, [.ref (A 1), .ref (A 2), .ref (A 3), .ref (A 4), .ref (A 5), .ref (A 6), .ref (A 7), .int (u.2 0), .int (u.2 19)])), (A 1, .inr (4, [.int (u.2 1), .int (u.2 3), .int (u.2 5)])), (A 2, .inr (4, [.int (u.2 2), .int (u.2 4), .int (u.2 6)])), (A 3, .inr (5, [.int (u.2 7), .int (u.2 8), .int (u.2 9), .int (u.2 10)])), (A 4, .inr (1, [.int (u.2 11), .int (u.2 12), .int (u.2 13), .int (u.2 14), .int (u.2 15), .int (u.2 16), .int (u.2 17)])), (A 5, .inr (0, [.long rb, .int (u.2 28)])), (A 6, .inr (0, [.long sb, .int (u.2 18)])), (A 7, .inr (7, [.int (u.2 20), .int (u.2 21), .int (u.2 22), .int (u.2 23), .int (u.2 24), .int (u.2 25), .int (u.2 26), .int (u.2 27)]))]) := by
  refine z_metI (own := RX6) (maxL := 6) rfl (by decide) rfl (Nat.le_of_ble_eq_true rfl) ?_
  intro P0 E0 S0 M0 G0 B0 T0 K0 A9 Q9 C E
  have hx := C.1.1
  have hb := C.1.2.1
  have hown := C.1.2.2.2.1
  have hts := C.1.2.2.2.2
  have hn := C.2.1.2
  have iX4 : ∀ w ∈ u_ws RX4 TX4 3, w ∈ wsX6_changeRing := by decide +kernel
  have k86 := hts (.fieldLink RX6 86 "JudgedBits$Ring" "period" "I") (by decide +kernel)
  have k89 := hts (.fieldLink RX6 89 "JudgedBits$Ring" "jitter" "I") (by decide +kernel)
  have k92 := hts (.fieldLink RX6 92 "JudgedBits$Ring" "phase" "I") (by decide +kernel)
  change Z P0 l E0 rm_X6_changeRing S0 M0 G0 B0 T0 K0 6 T A9 Q9 0 0 [(A 0, .inr (6, [.ref (A 1), .ref (A 2), .ref (A 3), .ref (A 4), .ref (A 5), .ref (A 6), .ref (A 7), .int (f 0), .int (f 19)])), (A 1, .inr (4, [.int (f 1), .int (f 3), .int (f 5)])), (A 2, .inr (4, [.int (f 2), .int (f 4), .int (f 6)])), (A 3, .inr (5, [.int (f 7), .int (f 8), .int (f 9), .int (f 10)])), (A 4, .inr (1, [.int (f 11), .int (f 12), .int (f 13), .int (f 14), .int (f 15), .int (f 16), .int (f 17)])), (A 5, .inr (0, [.long rb, .int (f 28)])), (A 6, .inr (0, [.long sb, .int (f 18)])), (A 7, .inr (7, [.int (f 20), .int (f 21), .int (f 22), .int (f 23), .int (f 24), .int (f 25), .int (f 26), .int (f 27)]))] 0 [(0, .ref (A 0)), (1, .int which), (2, .int period), (3, .int jitter)] []
  have zh0 := fe_X6_changeRing f rb sb which period jitter
  refine Z.of (pc' := 1) (fun _ _ _ hl => lv_iload_n hx hb dX6_changeRing_0 rfl (lv_at hl 1 rfl)) ?_
  refine Z.of (pc' := 2) (fun _ _ _ _ => lv_iconst (v := 0) hx hb dX6_changeRing_1 (by decide)) ?_
  refine Z.of (pc' := 3) (fun _ _ _ _ => lv_iconst (v := 1) hx hb dX6_changeRing_2 (by decide)) ?_
  refine z_callNi C (c_X9_isWithin l T which 0 1) ⟨va_cnB 3 hts gX6_changeRing_X9_isWithin_n77 rfl rfl rfl (hn.2.2.2.2.2.2.2.2.1) (hts (.initialized RX9) (by decide +kernel)) (by decide +kernel) ⟨Nat.le_of_ble_eq_true rfl, Nat.le_of_ble_eq_true rfl⟩, hts (.static yX9_isWithin) (by decide +kernel), trivial⟩ (As := [.int which, .int 0, .int 1]) (rest := []) rfl rfl (Nat.le_of_ble_eq_true rfl) dX6_changeRing_3 rfl ⟨Nat.zero_le _, Nat.zero_le _⟩ (fun u1 eu1 bu1 => ?_)
  have zh2 := zl_e zh0 eu1
  refine Z.two (pt := 31) (pf := 9) (fun _ _ _ _ => lv_if_eq hx hb dX6_changeRing_6 (by decide)) (fun c3 => ?_) (fun c3 => ?_)
  · have zh4 := zh2.trans (if_pos c3)
    refine Z.of (pc' := 33) (fun _ _ _ _ => lv_ldc hx hb hown (hts (.constant RX6 81 (-1000001)) (by decide +kernel)) dX6_changeRing_31) ?_
    exact E ((-1000001), f) _ _ _ _ dX6_changeRing_33 rfl rfl rfl zh4
  · have zh5 := zh2.trans (if_neg c3)
    refine Z.of (pc' := 10) (fun _ _ _ hl => lv_iload_n hx hb dX6_changeRing_9 rfl (lv_at hl 2 rfl)) ?_
    refine Z.of (pc' := 12) (fun _ _ _ _ => lv_bipush (v := 10) hx hb dX6_changeRing_10 (by decide)) ?_
    refine Z.of (pc' := 15) (fun _ _ _ _ => lv_sipush (v := 999) hx hb dX6_changeRing_12 (by decide)) ?_
    refine z_callNi C (c_X9_isWithin l T period 10 999) ⟨va_cnB 3 hts gX6_changeRing_X9_isWithin_n77 rfl rfl rfl (hn.2.2.2.2.2.2.2.2.1) (hts (.initialized RX9) (by decide +kernel)) (by decide +kernel) ⟨Nat.le_of_ble_eq_true rfl, Nat.le_of_ble_eq_true rfl⟩, hts (.static yX9_isWithin) (by decide +kernel), trivial⟩ (As := [.int period, .int 10, .int 999]) (rest := []) rfl rfl (Nat.le_of_ble_eq_true rfl) dX6_changeRing_15 rfl ⟨Nat.zero_le _, Nat.zero_le _⟩ (fun u6 eu6 bu6 => ?_)
    have zh7 := zl_e zh5 eu6
    refine Z.two (pt := 31) (pf := 21) (fun _ _ _ _ => lv_if_eq hx hb dX6_changeRing_18 (by decide)) (fun c8 => ?_) (fun c8 => ?_)
    · have zh9 := zh7.trans (if_pos c8)
      refine Z.of (pc' := 33) (fun _ _ _ _ => lv_ldc hx hb hown (hts (.constant RX6 81 (-1000001)) (by decide +kernel)) dX6_changeRing_31) ?_
      exact E ((-1000001), f) _ _ _ _ dX6_changeRing_33 rfl rfl rfl zh9
    · have zh10 := zh7.trans (if_neg c8)
      refine Z.of (pc' := 22) (fun _ _ _ hl => lv_iload_n hx hb dX6_changeRing_21 rfl (lv_at hl 3 rfl)) ?_
      refine Z.of (pc' := 23) (fun _ _ _ _ => lv_iconst (v := 0) hx hb dX6_changeRing_22 (by decide)) ?_
      refine Z.of (pc' := 25) (fun _ _ _ _ => lv_bipush (v := 99) hx hb dX6_changeRing_23 (by decide)) ?_
      refine z_callNi C (c_X9_isWithin l T jitter 0 99) ⟨va_cnB 3 hts gX6_changeRing_X9_isWithin_n77 rfl rfl rfl (hn.2.2.2.2.2.2.2.2.1) (hts (.initialized RX9) (by decide +kernel)) (by decide +kernel) ⟨Nat.le_of_ble_eq_true rfl, Nat.le_of_ble_eq_true rfl⟩, hts (.static yX9_isWithin) (by decide +kernel), trivial⟩ (As := [.int jitter, .int 0, .int 99]) (rest := []) rfl rfl (Nat.le_of_ble_eq_true rfl) dX6_changeRing_25 rfl ⟨Nat.zero_le _, Nat.zero_le _⟩ (fun u11 eu11 bu11 => ?_)
      have zh12 := zl_e zh10 eu11
      refine Z.two' (pt := 34) (pf := 31) (fun _ _ _ _ => lv_if_ne hx hb dX6_changeRing_28 (by decide)) (fun c13 => ?_) (fun c13 => ?_)
      · have zh14 := zh12.trans (if_neg c13)
        refine Z.of (pc' := 35) (fun _ _ _ hl => lv_aload_n hx hb dX6_changeRing_34 rfl (lv_at hl 0 rfl)) ?_
        refine Z.of (pc' := 36) (fun _ _ _ hl => lv_iload_n hx hb dX6_changeRing_35 rfl (lv_at hl 1 rfl)) ?_
        refine z_callVr C (c_X6_ringAt l T A f rb sb which) [0, 1, 2, 3, 4, 5, 6, 7] [] rfl (by decide +kernel) (fun u16 => [(A 0, .inr (6, [.ref (A 1), .ref (A 2), .ref (A 3), .ref (A 4), .ref (A 5), .ref (A 6), .ref (A 7), .int (f 0), .int (f 19)])), (A 1, .inr (4, [.int (f 1), .int (f 3), .int (f 5)])), (A 2, .inr (4, [.int (f 2), .int (f 4), .int (f 6)])), (A 3, .inr (5, [.int (f 7), .int (f 8), .int (f 9), .int (f 10)])), (A 4, .inr (1, [.int (f 11), .int (f 12), .int (f 13), .int (f 14), .int (f 15), .int (f 16), .int (f 17)])), (A 5, .inr (0, [.long rb, .int (f 28)])), (A 6, .inr (0, [.long sb, .int (f 18)])), (A 7, .inr (7, [.int (f 20), .int (f 21), .int (f 22), .int (f 23), .int (f 24), .int (f 25), .int (f 26), .int (f 27)]))]) (fun _ => rfl) [] rfl (fun _ => rfl) [A 0, A 1, A 2, A 3, A 4, A 5, A 6, A 7] rfl (fun _ => rfl) 8 (fun _ => rfl) (by decide +kernel) (cwV 1 hts gX6_changeRing_X6_ringAt rfl rfl rfl (by decide +kernel) ⟨Nat.le_of_ble_eq_true rfl, Nat.le_of_ble_eq_true rfl⟩) 0 rfl rfl rfl (As := [.int which]) (rest := []) rfl rfl (Nat.le_of_ble_eq_true rfl) dX6_changeRing_36 rfl ⟨Nat.zero_le _, Nat.zero_le _⟩ (fun u16 eu16 => ?_)
        have zh17 := zl_e zh14 eu16
        by_cases c18 : which = 0
        · have huc18 : u16 = 1 := eu16.trans (ringAt_0 c18)
          rw [huc18]
          have zh19 := zh17.trans (if_pos c18)
          refine Z.sto (pc' := 41) (lv' := [(4, .ref (A 1)), (0, .ref (A 0)), (1, .int which), (2, .int period), (3, .int jitter)]) (fun _ _ _ hl => lv_astore (lv' := [(4, .ref (A 1)), (0, .ref (A 0)), (1, .int which), (2, .int period), (3, .int jitter)]) hx hb dX6_changeRing_39 hl (by decide) rfl) ?_
          refine Z.of (pc' := 43) (fun _ _ _ hl => lv_aload hx hb dX6_changeRing_41 (lv_at hl 0 rfl)) ?_
          refine z_get C iX4 1 0 k86 rfl rfl (by decide) rfl rfl dX6_changeRing_43 rfl ?_
          refine Z.sto (pc' := 48) (lv' := [(5, .int (f 1)), (4, .ref (A 1)), (0, .ref (A 0)), (1, .int which), (2, .int period), (3, .int jitter)]) (fun _ _ _ hl => lv_istore (lv' := [(5, .int (f 1)), (4, .ref (A 1)), (0, .ref (A 0)), (1, .int which), (2, .int period), (3, .int jitter)]) hx hb dX6_changeRing_46 hl (by decide) rfl) ?_
          refine Z.of (pc' := 50) (fun _ _ _ hl => lv_aload hx hb dX6_changeRing_48 (lv_at hl 1 rfl)) ?_
          refine Z.of (pc' := 51) (fun _ _ _ hl => lv_iload_n hx hb dX6_changeRing_50 rfl (lv_at hl 4 rfl)) ?_
          refine z_put C iX4 tyX4_ok nmX4 1 0 k86 rfl rfl (by decide) rfl rfl rfl rfl (Nat.le_of_ble_eq_true rfl) dX6_changeRing_51 rfl [(A 0, .inr (6, [.ref (A 1), .ref (A 2), .ref (A 3), .ref (A 4), .ref (A 5), .ref (A 6), .ref (A 7), .int (f 0), .int (f 19)])), (A 1, .inr (4, [.int period, .int (f 3), .int (f 5)])), (A 2, .inr (4, [.int (f 2), .int (f 4), .int (f 6)])), (A 3, .inr (5, [.int (f 7), .int (f 8), .int (f 9), .int (f 10)])), (A 4, .inr (1, [.int (f 11), .int (f 12), .int (f 13), .int (f 14), .int (f 15), .int (f 16), .int (f 17)])), (A 5, .inr (0, [.long rb, .int (f 28)])), (A 6, .inr (0, [.long sb, .int (f 18)])), (A 7, .inr (7, [.int (f 20), .int (f 21), .int (f 22), .int (f 23), .int (f 24), .int (f 25), .int (f 26), .int (f 27)]))] rfl ?_
          refine Z.of (pc' := 56) (fun _ _ _ hl => lv_aload hx hb dX6_changeRing_54 (lv_at hl 1 rfl)) ?_
          refine Z.of (pc' := 57) (fun _ _ _ hl => lv_iload_n hx hb dX6_changeRing_56 rfl (lv_at hl 5 rfl)) ?_
          refine z_put C iX4 tyX4_ok nmX4 1 1 k89 rfl rfl (by decide) rfl rfl rfl rfl (Nat.le_of_ble_eq_true rfl) dX6_changeRing_57 rfl [(A 0, .inr (6, [.ref (A 1), .ref (A 2), .ref (A 3), .ref (A 4), .ref (A 5), .ref (A 6), .ref (A 7), .int (f 0), .int (f 19)])), (A 1, .inr (4, [.int period, .int jitter, .int (f 5)])), (A 2, .inr (4, [.int (f 2), .int (f 4), .int (f 6)])), (A 3, .inr (5, [.int (f 7), .int (f 8), .int (f 9), .int (f 10)])), (A 4, .inr (1, [.int (f 11), .int (f 12), .int (f 13), .int (f 14), .int (f 15), .int (f 16), .int (f 17)])), (A 5, .inr (0, [.long rb, .int (f 28)])), (A 6, .inr (0, [.long sb, .int (f 18)])), (A 7, .inr (7, [.int (f 20), .int (f 21), .int (f 22), .int (f 23), .int (f 24), .int (f 25), .int (f 26), .int (f 27)]))] rfl ?_
          refine Z.of (pc' := 62) (fun _ _ _ hl => lv_aload hx hb dX6_changeRing_60 (lv_at hl 1 rfl)) ?_
          refine Z.of (pc' := 63) (fun _ _ _ _ => lv_iconst (v := 0) hx hb dX6_changeRing_62 (by decide)) ?_
          refine z_put C iX4 tyX4_ok nmX4 1 2 k92 rfl rfl (by decide) rfl rfl rfl rfl (Nat.le_of_ble_eq_true rfl) dX6_changeRing_63 rfl [(A 0, .inr (6, [.ref (A 1), .ref (A 2), .ref (A 3), .ref (A 4), .ref (A 5), .ref (A 6), .ref (A 7), .int (f 0), .int (f 19)])), (A 1, .inr (4, [.int period, .int jitter, .int 0])), (A 2, .inr (4, [.int (f 2), .int (f 4), .int (f 6)])), (A 3, .inr (5, [.int (f 7), .int (f 8), .int (f 9), .int (f 10)])), (A 4, .inr (1, [.int (f 11), .int (f 12), .int (f 13), .int (f 14), .int (f 15), .int (f 16), .int (f 17)])), (A 5, .inr (0, [.long rb, .int (f 28)])), (A 6, .inr (0, [.long sb, .int (f 18)])), (A 7, .inr (7, [.int (f 20), .int (f 21), .int (f 22), .int (f 23), .int (f 24), .int (f 25), .int (f 26), .int (f 27)]))] rfl ?_
          refine Z.of (pc' := 68) (fun _ _ _ hl => lv_iload hx hb dX6_changeRing_66 (lv_at hl 0 rfl)) ?_
          exact E (f 1, upd (upd (upd f 1 period) 3 jitter) 5 0) _ _ _ _ dX6_changeRing_68 rfl rfl rfl zh19
        · have huc18 : u16 = 2 := eu16.trans (ringAt_1 c18)
          rw [huc18]
          have zh20 := zh17.trans (if_neg c18)
          refine Z.sto (pc' := 41) (lv' := [(4, .ref (A 2)), (0, .ref (A 0)), (1, .int which), (2, .int period), (3, .int jitter)]) (fun _ _ _ hl => lv_astore (lv' := [(4, .ref (A 2)), (0, .ref (A 0)), (1, .int which), (2, .int period), (3, .int jitter)]) hx hb dX6_changeRing_39 hl (by decide) rfl) ?_
          refine Z.of (pc' := 43) (fun _ _ _ hl => lv_aload hx hb dX6_changeRing_41 (lv_at hl 0 rfl)) ?_
          refine z_get C iX4 2 0 k86 rfl rfl (by decide) rfl rfl dX6_changeRing_43 rfl ?_
          refine Z.sto (pc' := 48) (lv' := [(5, .int (f 2)), (4, .ref (A 2)), (0, .ref (A 0)), (1, .int which), (2, .int period), (3, .int jitter)]) (fun _ _ _ hl => lv_istore (lv' := [(5, .int (f 2)), (4, .ref (A 2)), (0, .ref (A 0)), (1, .int which), (2, .int period), (3, .int jitter)]) hx hb dX6_changeRing_46 hl (by decide) rfl) ?_
          refine Z.of (pc' := 50) (fun _ _ _ hl => lv_aload hx hb dX6_changeRing_48 (lv_at hl 1 rfl)) ?_
          refine Z.of (pc' := 51) (fun _ _ _ hl => lv_iload_n hx hb dX6_changeRing_50 rfl (lv_at hl 4 rfl)) ?_
          refine z_put C iX4 tyX4_ok nmX4 2 0 k86 rfl rfl (by decide) rfl rfl rfl rfl (Nat.le_of_ble_eq_true rfl) dX6_changeRing_51 rfl [(A 0, .inr (6, [.ref (A 1), .ref (A 2), .ref (A 3), .ref (A 4), .ref (A 5), .ref (A 6), .ref (A 7), .int (f 0), .int (f 19)])), (A 1, .inr (4, [.int (f 1), .int (f 3), .int (f 5)])), (A 2, .inr (4, [.int period, .int (f 4), .int (f 6)])), (A 3, .inr (5, [.int (f 7), .int (f 8), .int (f 9), .int (f 10)])), (A 4, .inr (1, [.int (f 11), .int (f 12), .int (f 13), .int (f 14), .int (f 15), .int (f 16), .int (f 17)])), (A 5, .inr (0, [.long rb, .int (f 28)])), (A 6, .inr (0, [.long sb, .int (f 18)])), (A 7, .inr (7, [.int (f 20), .int (f 21), .int (f 22), .int (f 23), .int (f 24), .int (f 25), .int (f 26), .int (f 27)]))] rfl ?_
          refine Z.of (pc' := 56) (fun _ _ _ hl => lv_aload hx hb dX6_changeRing_54 (lv_at hl 1 rfl)) ?_
          refine Z.of (pc' := 57) (fun _ _ _ hl => lv_iload_n hx hb dX6_changeRing_56 rfl (lv_at hl 5 rfl)) ?_
          refine z_put C iX4 tyX4_ok nmX4 2 1 k89 rfl rfl (by decide) rfl rfl rfl rfl (Nat.le_of_ble_eq_true rfl) dX6_changeRing_57 rfl [(A 0, .inr (6, [.ref (A 1), .ref (A 2), .ref (A 3), .ref (A 4), .ref (A 5), .ref (A 6), .ref (A 7), .int (f 0), .int (f 19)])), (A 1, .inr (4, [.int (f 1), .int (f 3), .int (f 5)])), (A 2, .inr (4, [.int period, .int jitter, .int (f 6)])), (A 3, .inr (5, [.int (f 7), .int (f 8), .int (f 9), .int (f 10)])), (A 4, .inr (1, [.int (f 11), .int (f 12), .int (f 13), .int (f 14), .int (f 15), .int (f 16), .int (f 17)])), (A 5, .inr (0, [.long rb, .int (f 28)])), (A 6, .inr (0, [.long sb, .int (f 18)])), (A 7, .inr (7, [.int (f 20), .int (f 21), .int (f 22), .int (f 23), .int (f 24), .int (f 25), .int (f 26), .int (f 27)]))] rfl ?_
          refine Z.of (pc' := 62) (fun _ _ _ hl => lv_aload hx hb dX6_changeRing_60 (lv_at hl 1 rfl)) ?_
          refine Z.of (pc' := 63) (fun _ _ _ _ => lv_iconst (v := 0) hx hb dX6_changeRing_62 (by decide)) ?_
          refine z_put C iX4 tyX4_ok nmX4 2 2 k92 rfl rfl (by decide) rfl rfl rfl rfl (Nat.le_of_ble_eq_true rfl) dX6_changeRing_63 rfl [(A 0, .inr (6, [.ref (A 1), .ref (A 2), .ref (A 3), .ref (A 4), .ref (A 5), .ref (A 6), .ref (A 7), .int (f 0), .int (f 19)])), (A 1, .inr (4, [.int (f 1), .int (f 3), .int (f 5)])), (A 2, .inr (4, [.int period, .int jitter, .int 0])), (A 3, .inr (5, [.int (f 7), .int (f 8), .int (f 9), .int (f 10)])), (A 4, .inr (1, [.int (f 11), .int (f 12), .int (f 13), .int (f 14), .int (f 15), .int (f 16), .int (f 17)])), (A 5, .inr (0, [.long rb, .int (f 28)])), (A 6, .inr (0, [.long sb, .int (f 18)])), (A 7, .inr (7, [.int (f 20), .int (f 21), .int (f 22), .int (f 23), .int (f 24), .int (f 25), .int (f 26), .int (f 27)]))] rfl ?_
          refine Z.of (pc' := 68) (fun _ _ _ hl => lv_iload hx hb dX6_changeRing_66 (lv_at hl 0 rfl)) ?_
          exact E (f 2, upd (upd (upd f 2 period) 4 jitter) 6 0) _ _ _ _ dX6_changeRing_68 rfl rfl rfl zh20
      · have zh15 := zh12.trans (if_pos c13)
        refine Z.of (pc' := 33) (fun _ _ _ _ => lv_ldc hx hb hown (hts (.constant RX6 81 (-1000001)) (by decide +kernel)) dX6_changeRing_31) ?_
        exact E ((-1000001), f) _ _ _ _ dX6_changeRing_33 rfl rfl rfl zh15
def f_X6_changeNoise (f : Nat → Int32) (rb : Int64) (sb : Int64) (value : Int32) : Int32 × (Nat → Int32) :=
  zl (f_X9_isWithin value 1 65536) fun u1 =>
  if u1 = 0 then
    ((-1000001), f)
  else
    (f 0, upd f 0 value)
theorem fe_X6_changeNoise (f : Nat → Int32) (rb : Int64) (sb : Int64) (value : Int32) : f_X6_changeNoise f rb sb value = (
    zl (f_X9_isWithin value 1 65536) fun u1 =>
    if u1 = 0 then
      ((-1000001), f)
    else
      (f 0, upd f 0 value)
    ) := rfl
abbrev rm_X6_changeNoise : Room := { frames := 1, cells := 0, slots := 0, locals := 22 }
set_option maxHeartbeats 1000000 in
set_option maxRecDepth 100000 in
theorem c_X6_changeNoise (l : Launch) (T : zT) (A : Nat → Nat) (f : Nat → Int32) (rb : Int64) (sb : Int64) (value : Int32) : Ci l yX6_changeNoise wsX6_changeNoise rm_X6_changeNoise T .int [.ref (A 0), .int value] [(A 0, .inr (6, [.ref (A 1), .ref (A 2), .ref (A 3), .ref (A 4), .ref (A 5), .ref (A 6), .ref (A 7), .int (f 0), .int (f 19)])), (A 1, .inr (4, [.int (f 1), .int (f 3), .int (f 5)])), (A 2, .inr (4, [.int (f 2), .int (f 4), .int (f 6)])), (A 3, .inr (5, [.int (f 7), .int (f 8), .int (f 9), .int (f 10)])), (A 4, .inr (1, [.int (f 11), .int (f 12), .int (f 13), .int (f 14), .int (f 15), .int (f 16), .int (f 17)])), (A 5, .inr (0, [.long rb, .int (f 28)])), (A 6, .inr (0, [.long sb, .int (f 18)])), (A 7, .inr (7, [.int (f 20), .int (f 21), .int (f 22), .int (f 23), .int (f 24), .int (f 25), .int (f 26), .int (f 27)]))] (S := Int32 × (Nat → Int32)) (f_X6_changeNoise f rb sb value) (fun u => u.1) (fun u => [(A 0, .inr (6, [.ref (A 1), .ref (A 2), .ref (A 3), .ref (A 4), .ref (A 5), .ref (A 6), .ref (A 7), .int (u.2 0), .int (u.2 19)])), (A 1, .inr (4, [.int (u.2 1), .int (u.2 3), .int (u.2 5)])), (A 2, .inr (4, [.int (u.2 2), .int (u.2 4), .int (u.2 6)])), (A 3, .inr (5, [.int (u.2 7), .int (u.2 8), .int (u.2 9), .int (u.2 10)])), (A 4, .inr (1, [.int (u.2 11), .int (u.2 12), .int (u.2 13), .int (u.2 14), .int (u.2 15), .int (u.2 16), .int (u.2 17)])), (A 5, .inr (0, [.long rb, .int (u.2 28)])), (A 6, .inr (0, [.long sb, .int (u.2 18)])), (A 7, .inr (7, [.int (u.2 20), .int (u.2 21), .int (u.2 22), .int (u.2 23), .int (u.2 24), .int (u.2 25), .int (u.2 26), .int (u.2 27)]))]) := by
  refine z_metI (own := RX6) (maxL := 3) rfl (by decide) rfl (Nat.le_of_ble_eq_true rfl) ?_
  intro P0 E0 S0 M0 G0 B0 T0 K0 A9 Q9 C E
  have hx := C.1.1
  have hb := C.1.2.1
  have hown := C.1.2.2.2.1
  have hts := C.1.2.2.2.2
  have hn := C.2.1.2
  have iX6 : ∀ w ∈ u_ws RX6 TX6 9, w ∈ wsX6_changeNoise := by decide +kernel
  have k9 := hts (.fieldLink RX6 9 "JudgedBits$Source" "noiseNumber" "I") (by decide +kernel)
  change Z P0 l E0 rm_X6_changeNoise S0 M0 G0 B0 T0 K0 3 T A9 Q9 0 0 [(A 0, .inr (6, [.ref (A 1), .ref (A 2), .ref (A 3), .ref (A 4), .ref (A 5), .ref (A 6), .ref (A 7), .int (f 0), .int (f 19)])), (A 1, .inr (4, [.int (f 1), .int (f 3), .int (f 5)])), (A 2, .inr (4, [.int (f 2), .int (f 4), .int (f 6)])), (A 3, .inr (5, [.int (f 7), .int (f 8), .int (f 9), .int (f 10)])), (A 4, .inr (1, [.int (f 11), .int (f 12), .int (f 13), .int (f 14), .int (f 15), .int (f 16), .int (f 17)])), (A 5, .inr (0, [.long rb, .int (f 28)])), (A 6, .inr (0, [.long sb, .int (f 18)])), (A 7, .inr (7, [.int (f 20), .int (f 21), .int (f 22), .int (f 23), .int (f 24), .int (f 25), .int (f 26), .int (f 27)]))] 0 [(0, .ref (A 0)), (1, .int value)] []
  have zh0 := fe_X6_changeNoise f rb sb value
  refine Z.of (pc' := 1) (fun _ _ _ hl => lv_iload_n hx hb dX6_changeNoise_0 rfl (lv_at hl 1 rfl)) ?_
  refine Z.of (pc' := 2) (fun _ _ _ _ => lv_iconst (v := 1) hx hb dX6_changeNoise_1 (by decide)) ?_
  refine Z.of (pc' := 4) (fun _ _ _ _ => lv_ldc hx hb hown (hts (.constant RX6 95 (65536)) (by decide +kernel)) dX6_changeNoise_2) ?_
  refine z_callNi C (c_X9_isWithin l T value 1 65536) ⟨va_cnB 3 hts gX6_changeNoise_X9_isWithin_n77 rfl rfl rfl (hn.2.2.2.2.2.2.2.2.1) (hts (.initialized RX9) (by decide +kernel)) (by decide +kernel) ⟨Nat.le_of_ble_eq_true rfl, Nat.le_of_ble_eq_true rfl⟩, hts (.static yX9_isWithin) (by decide +kernel), trivial⟩ (As := [.int value, .int 1, .int 65536]) (rest := []) rfl rfl (Nat.le_of_ble_eq_true rfl) dX6_changeNoise_4 rfl ⟨Nat.zero_le _, Nat.zero_le _⟩ (fun u1 eu1 bu1 => ?_)
  have zh2 := zl_e zh0 eu1
  refine Z.two' (pt := 13) (pf := 10) (fun _ _ _ _ => lv_if_ne hx hb dX6_changeNoise_7 (by decide)) (fun c3 => ?_) (fun c3 => ?_)
  · have zh4 := zh2.trans (if_neg c3)
    refine Z.of (pc' := 14) (fun _ _ _ hl => lv_aload_n hx hb dX6_changeNoise_13 rfl (lv_at hl 0 rfl)) ?_
    refine z_get C iX6 0 7 k9 rfl rfl (by decide) rfl rfl dX6_changeNoise_14 rfl ?_
    refine Z.sto (pc' := 18) (lv' := [(2, .int (f 0)), (0, .ref (A 0)), (1, .int value)]) (fun _ _ _ hl => lv_istore_n (lv' := [(2, .int (f 0)), (0, .ref (A 0)), (1, .int value)]) hx hb dX6_changeNoise_17 rfl hl (by decide) rfl) ?_
    refine Z.of (pc' := 19) (fun _ _ _ hl => lv_aload_n hx hb dX6_changeNoise_18 rfl (lv_at hl 1 rfl)) ?_
    refine Z.of (pc' := 20) (fun _ _ _ hl => lv_iload_n hx hb dX6_changeNoise_19 rfl (lv_at hl 2 rfl)) ?_
    refine z_put C iX6 tyX6_ok nmX6 0 7 k9 rfl rfl (by decide) rfl rfl rfl rfl (Nat.le_of_ble_eq_true rfl) dX6_changeNoise_20 rfl [(A 0, .inr (6, [.ref (A 1), .ref (A 2), .ref (A 3), .ref (A 4), .ref (A 5), .ref (A 6), .ref (A 7), .int value, .int (f 19)])), (A 1, .inr (4, [.int (f 1), .int (f 3), .int (f 5)])), (A 2, .inr (4, [.int (f 2), .int (f 4), .int (f 6)])), (A 3, .inr (5, [.int (f 7), .int (f 8), .int (f 9), .int (f 10)])), (A 4, .inr (1, [.int (f 11), .int (f 12), .int (f 13), .int (f 14), .int (f 15), .int (f 16), .int (f 17)])), (A 5, .inr (0, [.long rb, .int (f 28)])), (A 6, .inr (0, [.long sb, .int (f 18)])), (A 7, .inr (7, [.int (f 20), .int (f 21), .int (f 22), .int (f 23), .int (f 24), .int (f 25), .int (f 26), .int (f 27)]))] rfl ?_
    refine Z.of (pc' := 24) (fun _ _ _ hl => lv_iload_n hx hb dX6_changeNoise_23 rfl (lv_at hl 0 rfl)) ?_
    exact E (f 0, upd f 0 value) _ _ _ _ dX6_changeNoise_24 rfl rfl rfl zh4
  · have zh5 := zh2.trans (if_pos c3)
    refine Z.of (pc' := 12) (fun _ _ _ _ => lv_ldc hx hb hown (hts (.constant RX6 81 (-1000001)) (by decide +kernel)) dX6_changeNoise_10) ?_
    exact E ((-1000001), f) _ _ _ _ dX6_changeNoise_12 rfl rfl rfl zh5
def f_X6_nextNoise (f : Nat → Int32) (rb : Int64) (sb : Int64) : Int32 × (Nat → Int32) :=
  (((f 0) * 75) - ((f 0) * 75) / 65537 * 65537, upd f 0 (((f 0) * 75) - ((f 0) * 75) / 65537 * 65537))
theorem fe_X6_nextNoise (f : Nat → Int32) (rb : Int64) (sb : Int64) : f_X6_nextNoise f rb sb = (
    (((f 0) * 75) - ((f 0) * 75) / 65537 * 65537, upd f 0 (((f 0) * 75) - ((f 0) * 75) / 65537 * 65537))
    ) := rfl
abbrev rm_X6_nextNoise : Room := { frames := 0, cells := 0, slots := 0, locals := 0 }
set_option maxHeartbeats 1000000 in
set_option maxRecDepth 100000 in
theorem c_X6_nextNoise (l : Launch) (T : zT) (A : Nat → Nat) (f : Nat → Int32) (rb : Int64) (sb : Int64) : Ci l yX6_nextNoise wsX6_nextNoise rm_X6_nextNoise T .int [.ref (A 0)] [(A 0, .inr (6, [.ref (A 1), .ref (A 2), .ref (A 3), .ref (A 4), .ref (A 5), .ref (A 6), .ref (A 7), .int (f 0), .int (f 19)])), (A 1, .inr (4, [.int (f 1), .int (f 3), .int (f 5)])), (A 2, .inr (4, [.int (f 2), .int (f 4), .int (f 6)])), (A 3, .inr (5, [.int (f 7), .int (f 8), .int (f 9), .int (f 10)])), (A 4, .inr (1, [.int (f 11), .int (f 12), .int (f 13), .int (f 14), .int (f 15), .int (f 16), .int (f 17)])), (A 5, .inr (0, [.long rb, .int (f 28)])), (A 6, .inr (0, [.long sb, .int (f 18)])), (A 7, .inr (7, [.int (f 20), .int (f 21), .int (f 22), .int (f 23), .int (f 24), .int (f 25), .int (f 26), .int (f 27)]))] (S := Int32 × (Nat → Int32)) (f_X6_nextNoise f rb sb) (fun u => u.1) (fun u => [(A 0, .inr (6, [.ref (A 1), .ref (A 2), .ref (A 3), .ref (A 4), .ref (A 5), .ref (A 6), .ref (A 7), .int (u.2 0), .int (u.2 19)])), (A 1, .inr (4, [.int (u.2 1), .int (u.2 3), .int (u.2 5)])), (A 2, .inr (4, [.int (u.2 2), .int (u.2 4), .int (u.2 6)])), (A 3, .inr (5, [.int (u.2 7), .int (u.2 8), .int (u.2 9), .int (u.2 10)])), (A 4, .inr (1, [.int (u.2 11), .int (u.2 12), .int (u.2 13), .int (u.2 14), .int (u.2 15), .int (u.2 16), .int (u.2 17)])), (A 5, .inr (0, [.long rb, .int (u.2 28)])), (A 6, .inr (0, [.long sb, .int (u.2 18)])), (A 7, .inr (7, [.int (u.2 20), .int (u.2 21), .int (u.2 22), .int (u.2 23), .int (u.2 24), .int (u.2 25), .int (u.2 26), .int (u.2 27)]))]) := by
  refine z_metI (own := RX6) (maxL := 1) rfl (by decide) rfl (Nat.le_of_ble_eq_true rfl) ?_
  intro P0 E0 S0 M0 G0 B0 T0 K0 A9 Q9 C E
  have hx := C.1.1
  have hb := C.1.2.1
  have hown := C.1.2.2.2.1
  have hts := C.1.2.2.2.2
  have hn := C.2.1.2
  have iX6 : ∀ w ∈ u_ws RX6 TX6 9, w ∈ wsX6_nextNoise := by decide +kernel
  have k9 := hts (.fieldLink RX6 9 "JudgedBits$Source" "noiseNumber" "I") (by decide +kernel)
  change Z P0 l E0 rm_X6_nextNoise S0 M0 G0 B0 T0 K0 1 T A9 Q9 0 0 [(A 0, .inr (6, [.ref (A 1), .ref (A 2), .ref (A 3), .ref (A 4), .ref (A 5), .ref (A 6), .ref (A 7), .int (f 0), .int (f 19)])), (A 1, .inr (4, [.int (f 1), .int (f 3), .int (f 5)])), (A 2, .inr (4, [.int (f 2), .int (f 4), .int (f 6)])), (A 3, .inr (5, [.int (f 7), .int (f 8), .int (f 9), .int (f 10)])), (A 4, .inr (1, [.int (f 11), .int (f 12), .int (f 13), .int (f 14), .int (f 15), .int (f 16), .int (f 17)])), (A 5, .inr (0, [.long rb, .int (f 28)])), (A 6, .inr (0, [.long sb, .int (f 18)])), (A 7, .inr (7, [.int (f 20), .int (f 21), .int (f 22), .int (f 23), .int (f 24), .int (f 25), .int (f 26), .int (f 27)]))] 0 [(0, .ref (A 0))] []
  have zh0 := fe_X6_nextNoise f rb sb
  refine Z.of (pc' := 1) (fun _ _ _ hl => lv_aload_n hx hb dX6_nextNoise_0 rfl (lv_at hl 0 rfl)) ?_
  refine Z.of (pc' := 2) (fun _ _ _ hl => lv_aload_n hx hb dX6_nextNoise_1 rfl (lv_at hl 0 rfl)) ?_
  refine z_get C iX6 0 7 k9 rfl rfl (by decide) rfl rfl dX6_nextNoise_2 rfl ?_
  refine Z.of (pc' := 7) (fun _ _ _ _ => lv_bipush (v := 75) hx hb dX6_nextNoise_5 (by decide)) ?_
  refine Z.of (pc' := 8) (fun _ _ _ hl => lv_imul hx hb dX6_nextNoise_7) ?_
  refine Z.of (pc' := 10) (fun _ _ _ _ => lv_ldc hx hb hown (hts (.constant RX6 154 (65537)) (by decide +kernel)) dX6_nextNoise_8) ?_
  refine Z.of (pc' := 11) (fun _ _ _ hl => lv_irem hx hb dX6_nextNoise_10 (by decide)) ?_
  refine z_put C iX6 tyX6_ok nmX6 0 7 k9 rfl rfl (by decide) rfl rfl rfl rfl (Nat.le_of_ble_eq_true rfl) dX6_nextNoise_11 rfl [(A 0, .inr (6, [.ref (A 1), .ref (A 2), .ref (A 3), .ref (A 4), .ref (A 5), .ref (A 6), .ref (A 7), .int (((f 0) * 75) - ((f 0) * 75) / 65537 * 65537), .int (f 19)])), (A 1, .inr (4, [.int (f 1), .int (f 3), .int (f 5)])), (A 2, .inr (4, [.int (f 2), .int (f 4), .int (f 6)])), (A 3, .inr (5, [.int (f 7), .int (f 8), .int (f 9), .int (f 10)])), (A 4, .inr (1, [.int (f 11), .int (f 12), .int (f 13), .int (f 14), .int (f 15), .int (f 16), .int (f 17)])), (A 5, .inr (0, [.long rb, .int (f 28)])), (A 6, .inr (0, [.long sb, .int (f 18)])), (A 7, .inr (7, [.int (f 20), .int (f 21), .int (f 22), .int (f 23), .int (f 24), .int (f 25), .int (f 26), .int (f 27)]))] rfl ?_
  refine Z.of (pc' := 15) (fun _ _ _ hl => lv_aload_n hx hb dX6_nextNoise_14 rfl (lv_at hl 0 rfl)) ?_
  refine z_get C iX6 0 7 k9 rfl rfl (by decide) rfl rfl dX6_nextNoise_15 rfl ?_
  exact E (((f 0) * 75) - ((f 0) * 75) / 65537 * 65537, upd f 0 (((f 0) * 75) - ((f 0) * 75) / 65537 * 65537)) _ _ _ _ dX6_nextNoise_18 rfl rfl rfl zh0
def f_X6_locksOn (f : Nat → Int32) (rb : Int64) (sb : Int64) : Int32 :=
  zl (if 0 ≤ ((f 1) - (f 2)) then ((f 1) - (f 2)) else 0 - ((f 1) - (f 2)) : Int32) fun y1 =>
  if (f 8) < y1 then
    0
  else
    1
theorem fe_X6_locksOn (f : Nat → Int32) (rb : Int64) (sb : Int64) : f_X6_locksOn f rb sb = (
    zl (if 0 ≤ ((f 1) - (f 2)) then ((f 1) - (f 2)) else 0 - ((f 1) - (f 2)) : Int32) fun y1 =>
    if (f 8) < y1 then
      0
    else
      1
    ) := rfl
abbrev rm_X6_locksOn : Room := { frames := 1, cells := 0, slots := 0, locals := 24 }
set_option maxHeartbeats 1000000 in
set_option maxRecDepth 100000 in
theorem c_X6_locksOn (l : Launch) (T : zT) (A : Nat → Nat) (f : Nat → Int32) (rb : Int64) (sb : Int64) : Ci l yX6_locksOn wsX6_locksOn rm_X6_locksOn T .boolean [.ref (A 0)] [(A 0, .inr (6, [.ref (A 1), .ref (A 2), .ref (A 3), .ref (A 4), .ref (A 5), .ref (A 6), .ref (A 7), .int (f 0), .int (f 19)])), (A 1, .inr (4, [.int (f 1), .int (f 3), .int (f 5)])), (A 2, .inr (4, [.int (f 2), .int (f 4), .int (f 6)])), (A 3, .inr (5, [.int (f 7), .int (f 8), .int (f 9), .int (f 10)])), (A 4, .inr (1, [.int (f 11), .int (f 12), .int (f 13), .int (f 14), .int (f 15), .int (f 16), .int (f 17)])), (A 5, .inr (0, [.long rb, .int (f 28)])), (A 6, .inr (0, [.long sb, .int (f 18)])), (A 7, .inr (7, [.int (f 20), .int (f 21), .int (f 22), .int (f 23), .int (f 24), .int (f 25), .int (f 26), .int (f 27)]))] (S := Int32) (f_X6_locksOn f rb sb) (fun u => u) (fun u => [(A 0, .inr (6, [.ref (A 1), .ref (A 2), .ref (A 3), .ref (A 4), .ref (A 5), .ref (A 6), .ref (A 7), .int (f 0), .int (f 19)])), (A 1, .inr (4, [.int (f 1), .int (f 3), .int (f 5)])), (A 2, .inr (4, [.int (f 2), .int (f 4), .int (f 6)])), (A 3, .inr (5, [.int (f 7), .int (f 8), .int (f 9), .int (f 10)])), (A 4, .inr (1, [.int (f 11), .int (f 12), .int (f 13), .int (f 14), .int (f 15), .int (f 16), .int (f 17)])), (A 5, .inr (0, [.long rb, .int (f 28)])), (A 6, .inr (0, [.long sb, .int (f 18)])), (A 7, .inr (7, [.int (f 20), .int (f 21), .int (f 22), .int (f 23), .int (f 24), .int (f 25), .int (f 26), .int (f 27)]))]) := by
  refine z_metI (own := RX6) (maxL := 1) rfl (by decide) rfl (Nat.le_of_ble_eq_true rfl) ?_
  intro P0 E0 S0 M0 G0 B0 T0 K0 A9 Q9 C E
  have hx := C.1.1
  have hb := C.1.2.1
  have hown := C.1.2.2.2.1
  have hts := C.1.2.2.2.2
  have hn := C.2.1.2
  have iX4 : ∀ w ∈ u_ws RX4 TX4 3, w ∈ wsX6_locksOn := by decide +kernel
  have iX5 : ∀ w ∈ u_ws RX5 TX5 4, w ∈ wsX6_locksOn := by decide +kernel
  have iX6 : ∀ w ∈ u_ws RX6 TX6 9, w ∈ wsX6_locksOn := by decide +kernel
  have k23 := hts (.fieldLink RX6 23 "JudgedBits$Source" "ringZero" "LJudgedBits$Ring;") (by decide +kernel)
  have k27 := hts (.fieldLink RX6 27 "JudgedBits$Source" "ringOne" "LJudgedBits$Ring;") (by decide +kernel)
  have k33 := hts (.fieldLink RX6 33 "JudgedBits$Source" "settings" "LJudgedBits$Settings;") (by decide +kernel)
  have k86 := hts (.fieldLink RX6 86 "JudgedBits$Ring" "period" "I") (by decide +kernel)
  have k151 := hts (.fieldLink RX6 151 "JudgedBits$Settings" "lock" "I") (by decide +kernel)
  change Z P0 l E0 rm_X6_locksOn S0 M0 G0 B0 T0 K0 1 T A9 Q9 0 0 [(A 0, .inr (6, [.ref (A 1), .ref (A 2), .ref (A 3), .ref (A 4), .ref (A 5), .ref (A 6), .ref (A 7), .int (f 0), .int (f 19)])), (A 1, .inr (4, [.int (f 1), .int (f 3), .int (f 5)])), (A 2, .inr (4, [.int (f 2), .int (f 4), .int (f 6)])), (A 3, .inr (5, [.int (f 7), .int (f 8), .int (f 9), .int (f 10)])), (A 4, .inr (1, [.int (f 11), .int (f 12), .int (f 13), .int (f 14), .int (f 15), .int (f 16), .int (f 17)])), (A 5, .inr (0, [.long rb, .int (f 28)])), (A 6, .inr (0, [.long sb, .int (f 18)])), (A 7, .inr (7, [.int (f 20), .int (f 21), .int (f 22), .int (f 23), .int (f 24), .int (f 25), .int (f 26), .int (f 27)]))] 0 [(0, .ref (A 0))] []
  have zh0 := fe_X6_locksOn f rb sb
  refine Z.of (pc' := 1) (fun _ _ _ hl => lv_aload_n hx hb dX6_locksOn_0 rfl (lv_at hl 0 rfl)) ?_
  refine z_get C iX6 0 0 k23 rfl rfl (by decide) rfl rfl dX6_locksOn_1 rfl ?_
  refine z_get C iX4 1 0 k86 rfl rfl (by decide) rfl rfl dX6_locksOn_4 rfl ?_
  refine Z.of (pc' := 8) (fun _ _ _ hl => lv_aload_n hx hb dX6_locksOn_7 rfl (lv_at hl 0 rfl)) ?_
  refine z_get C iX6 0 1 k27 rfl rfl (by decide) rfl rfl dX6_locksOn_8 rfl ?_
  refine z_get C iX4 2 0 k86 rfl rfl (by decide) rfl rfl dX6_locksOn_11 rfl ?_
  refine Z.of (pc' := 15) (fun _ _ _ hl => lv_isub hx hb dX6_locksOn_14) ?_
  refine Z.of (pc' := 18) (fun _ _ _ hl => va_mabs hx hb (C.1.2.2.1.trans hl.1.symm) hown (hts (.methodLink RX6 146 Lib.Math.abs.name) (by decide +kernel)) (hts (.static Lib.Math.abs.name) (by decide +kernel)) (hts (.initialized "java/lang/Math") (by decide +kernel)) (hts (.code Lib.Math.abs.name Lib.Math.abs.code 1 (some .int)) (by decide +kernel)) (Nat.le_of_ble_eq_true rfl) (Nat.le_of_ble_eq_true rfl) (Nat.zero_le _) (Nat.zero_le _) dX6_locksOn_15) ?_
  refine Z.topi (fun y1 ey1 => ?_)
  have zh2 := zl_e zh0 ey1
  refine Z.of (pc' := 19) (fun _ _ _ hl => lv_aload_n hx hb dX6_locksOn_18 rfl (lv_at hl 0 rfl)) ?_
  refine z_get C iX6 0 2 k33 rfl rfl (by decide) rfl rfl dX6_locksOn_19 rfl ?_
  refine z_get C iX5 3 1 k151 rfl rfl (by decide) rfl rfl dX6_locksOn_22 rfl ?_
  refine Z.two (pt := 32) (pf := 28) (fun _ _ _ _ => lv_icmp_gt hx hb dX6_locksOn_25 (by decide)) (fun c3 => ?_) (fun c3 => ?_)
  · have zh4 := zh2.trans (if_pos c3)
    refine Z.of (pc' := 33) (fun _ _ _ _ => lv_iconst (v := 0) hx hb dX6_locksOn_32 (by decide)) ?_
    exact E 0 _ _ _ _ dX6_locksOn_33 rfl rfl rfl zh4
  · have zh5 := zh2.trans (if_neg c3)
    refine Z.of (pc' := 29) (fun _ _ _ _ => lv_iconst (v := 1) hx hb dX6_locksOn_28 (by decide)) ?_
    refine Z.of (pc' := 33) (fun _ _ _ _ => lv_goto hx hb dX6_locksOn_29 (by decide)) ?_
    exact E 1 _ _ _ _ dX6_locksOn_33 rfl rfl rfl zh5
def f_X6_nextRawBit (f : Nat → Int32) (rb : Int64) (sb : Int64) : Int32 × (Nat → Int32) :=
  zl (f_X6_nextNoise f rb sb) fun u1 =>
  zl (f_X4_advance (u1.2 1) (u1.2 3) (u1.2 5) (f 7) u1.1) fun u3 =>
  zl (f_X6_locksOn (upd u1.2 5 u3) rb sb) fun u5 =>
  zl (
    if u5 = 0 then
      zl (f_X6_nextNoise (upd u1.2 5 u3) rb sb) fun u11 =>
      zl (f_X4_advance (u11.2 2) (u11.2 4) (u11.2 6) (u1.2 7) u11.1) fun u13 =>
      (upd u11.2 6 u13)
    else
      zl (f_X4_lockOn (u1.2 2) (u1.2 4) (u1.2 6) (u1.2 1) (u1.2 3) u3) fun u15 =>
      (upd (upd u1.2 5 u3) 6 u15)
    : (Nat → Int32)) fun v8 =>
  zl (f_X4_isHigh (v8 1) (v8 3) (v8 5)) fun u18 =>
  zl (f_X4_isHigh (v8 2) (v8 4) (v8 6)) fun u20 =>
  if u18 = u20 then
    (0, v8)
  else
    (1, v8)
theorem fe_X6_nextRawBit (f : Nat → Int32) (rb : Int64) (sb : Int64) : f_X6_nextRawBit f rb sb = (
    zl (f_X6_nextNoise f rb sb) fun u1 =>
    zl (f_X4_advance (u1.2 1) (u1.2 3) (u1.2 5) (f 7) u1.1) fun u3 =>
    zl (f_X6_locksOn (upd u1.2 5 u3) rb sb) fun u5 =>
    zl (
      if u5 = 0 then
        zl (f_X6_nextNoise (upd u1.2 5 u3) rb sb) fun u11 =>
        zl (f_X4_advance (u11.2 2) (u11.2 4) (u11.2 6) (u1.2 7) u11.1) fun u13 =>
        (upd u11.2 6 u13)
      else
        zl (f_X4_lockOn (u1.2 2) (u1.2 4) (u1.2 6) (u1.2 1) (u1.2 3) u3) fun u15 =>
        (upd (upd u1.2 5 u3) 6 u15)
      : (Nat → Int32)) fun v8 =>
    zl (f_X4_isHigh (v8 1) (v8 3) (v8 5)) fun u18 =>
    zl (f_X4_isHigh (v8 2) (v8 4) (v8 6)) fun u20 =>
    if u18 = u20 then
      (0, v8)
    else
      (1, v8)
    ) := rfl
abbrev rm_X6_nextRawBit : Room := { frames := 2, cells := 0, slots := 0, locals := 44 }
set_option maxHeartbeats 1000000 in
set_option maxRecDepth 100000 in
theorem c_X6_nextRawBit (l : Launch) (T : zT) (A : Nat → Nat) (f : Nat → Int32) (rb : Int64) (sb : Int64) : Ci l yX6_nextRawBit wsX6_nextRawBit rm_X6_nextRawBit T .int [.ref (A 0)] [(A 0, .inr (6, [.ref (A 1), .ref (A 2), .ref (A 3), .ref (A 4), .ref (A 5), .ref (A 6), .ref (A 7), .int (f 0), .int (f 19)])), (A 1, .inr (4, [.int (f 1), .int (f 3), .int (f 5)])), (A 2, .inr (4, [.int (f 2), .int (f 4), .int (f 6)])), (A 3, .inr (5, [.int (f 7), .int (f 8), .int (f 9), .int (f 10)])), (A 4, .inr (1, [.int (f 11), .int (f 12), .int (f 13), .int (f 14), .int (f 15), .int (f 16), .int (f 17)])), (A 5, .inr (0, [.long rb, .int (f 28)])), (A 6, .inr (0, [.long sb, .int (f 18)])), (A 7, .inr (7, [.int (f 20), .int (f 21), .int (f 22), .int (f 23), .int (f 24), .int (f 25), .int (f 26), .int (f 27)]))] (S := Int32 × (Nat → Int32)) (f_X6_nextRawBit f rb sb) (fun u => u.1) (fun u => [(A 0, .inr (6, [.ref (A 1), .ref (A 2), .ref (A 3), .ref (A 4), .ref (A 5), .ref (A 6), .ref (A 7), .int (u.2 0), .int (u.2 19)])), (A 1, .inr (4, [.int (u.2 1), .int (u.2 3), .int (u.2 5)])), (A 2, .inr (4, [.int (u.2 2), .int (u.2 4), .int (u.2 6)])), (A 3, .inr (5, [.int (u.2 7), .int (u.2 8), .int (u.2 9), .int (u.2 10)])), (A 4, .inr (1, [.int (u.2 11), .int (u.2 12), .int (u.2 13), .int (u.2 14), .int (u.2 15), .int (u.2 16), .int (u.2 17)])), (A 5, .inr (0, [.long rb, .int (u.2 28)])), (A 6, .inr (0, [.long sb, .int (u.2 18)])), (A 7, .inr (7, [.int (u.2 20), .int (u.2 21), .int (u.2 22), .int (u.2 23), .int (u.2 24), .int (u.2 25), .int (u.2 26), .int (u.2 27)]))]) := by
  refine z_metI (own := RX6) (maxL := 1) rfl (by decide) rfl (Nat.le_of_ble_eq_true rfl) ?_
  intro P0 E0 S0 M0 G0 B0 T0 K0 A9 Q9 C E
  have hx := C.1.1
  have hb := C.1.2.1
  have hown := C.1.2.2.2.1
  have hts := C.1.2.2.2.2
  have hn := C.2.1.2
  have iX5 : ∀ w ∈ u_ws RX5 TX5 4, w ∈ wsX6_nextRawBit := by decide +kernel
  have iX6 : ∀ w ∈ u_ws RX6 TX6 9, w ∈ wsX6_nextRawBit := by decide +kernel
  have k23 := hts (.fieldLink RX6 23 "JudgedBits$Source" "ringZero" "LJudgedBits$Ring;") (by decide +kernel)
  have k27 := hts (.fieldLink RX6 27 "JudgedBits$Source" "ringOne" "LJudgedBits$Ring;") (by decide +kernel)
  have k33 := hts (.fieldLink RX6 33 "JudgedBits$Source" "settings" "LJudgedBits$Settings;") (by decide +kernel)
  have k126 := hts (.fieldLink RX6 126 "JudgedBits$Settings" "step" "I") (by decide +kernel)
  change Z P0 l E0 rm_X6_nextRawBit S0 M0 G0 B0 T0 K0 1 T A9 Q9 0 0 [(A 0, .inr (6, [.ref (A 1), .ref (A 2), .ref (A 3), .ref (A 4), .ref (A 5), .ref (A 6), .ref (A 7), .int (f 0), .int (f 19)])), (A 1, .inr (4, [.int (f 1), .int (f 3), .int (f 5)])), (A 2, .inr (4, [.int (f 2), .int (f 4), .int (f 6)])), (A 3, .inr (5, [.int (f 7), .int (f 8), .int (f 9), .int (f 10)])), (A 4, .inr (1, [.int (f 11), .int (f 12), .int (f 13), .int (f 14), .int (f 15), .int (f 16), .int (f 17)])), (A 5, .inr (0, [.long rb, .int (f 28)])), (A 6, .inr (0, [.long sb, .int (f 18)])), (A 7, .inr (7, [.int (f 20), .int (f 21), .int (f 22), .int (f 23), .int (f 24), .int (f 25), .int (f 26), .int (f 27)]))] 0 [(0, .ref (A 0))] []
  have zh0 := fe_X6_nextRawBit f rb sb
  refine Z.of (pc' := 1) (fun _ _ _ hl => lv_aload_n hx hb dX6_nextRawBit_0 rfl (lv_at hl 0 rfl)) ?_
  refine z_get C iX6 0 0 k23 rfl rfl (by decide) rfl rfl dX6_nextRawBit_1 rfl ?_
  refine Z.of (pc' := 5) (fun _ _ _ hl => lv_aload_n hx hb dX6_nextRawBit_4 rfl (lv_at hl 0 rfl)) ?_
  refine z_get C iX6 0 2 k33 rfl rfl (by decide) rfl rfl dX6_nextRawBit_5 rfl ?_
  refine z_get C iX5 3 0 k126 rfl rfl (by decide) rfl rfl dX6_nextRawBit_8 rfl ?_
  refine Z.of (pc' := 12) (fun _ _ _ hl => lv_aload_n hx hb dX6_nextRawBit_11 rfl (lv_at hl 0 rfl)) ?_
  refine z_callVi C (c_X6_nextNoise l T A f rb sb) [0, 1, 2, 3, 4, 5, 6, 7] [] rfl (by decide +kernel) (fun u1 => [(A 0, .inr (6, [.ref (A 1), .ref (A 2), .ref (A 3), .ref (A 4), .ref (A 5), .ref (A 6), .ref (A 7), .int (u1.2 0), .int (u1.2 19)])), (A 1, .inr (4, [.int (u1.2 1), .int (u1.2 3), .int (u1.2 5)])), (A 2, .inr (4, [.int (u1.2 2), .int (u1.2 4), .int (u1.2 6)])), (A 3, .inr (5, [.int (u1.2 7), .int (u1.2 8), .int (u1.2 9), .int (u1.2 10)])), (A 4, .inr (1, [.int (u1.2 11), .int (u1.2 12), .int (u1.2 13), .int (u1.2 14), .int (u1.2 15), .int (u1.2 16), .int (u1.2 17)])), (A 5, .inr (0, [.long rb, .int (u1.2 28)])), (A 6, .inr (0, [.long sb, .int (u1.2 18)])), (A 7, .inr (7, [.int (u1.2 20), .int (u1.2 21), .int (u1.2 22), .int (u1.2 23), .int (u1.2 24), .int (u1.2 25), .int (u1.2 26), .int (u1.2 27)]))]) (fun _ => rfl) [] rfl (fun _ => rfl) [A 0, A 1, A 2, A 3, A 4, A 5, A 6, A 7] rfl (fun _ => rfl) 8 (fun _ => rfl) (by decide +kernel) (cwV 0 hts gX6_nextRawBit_X6_nextNoise rfl rfl rfl (by decide +kernel) ⟨Nat.le_of_ble_eq_true rfl, Nat.le_of_ble_eq_true rfl⟩) 0 rfl rfl rfl (As := []) (rest := [.int (f 7), .ref (A 1)]) rfl rfl (Nat.le_of_ble_eq_true rfl) dX6_nextRawBit_12 rfl ⟨Nat.zero_le _, Nat.zero_le _⟩ (fun u1 eu1 bu1 => ?_)
  have zh2 := zl_e zh0 eu1
  refine z_callVv C (c_X4_advance l T (A 1) (u1.2 1) (u1.2 3) (u1.2 5) (f 7) u1.1) [1] [0, 2, 3, 4, 5, 6, 7] rfl (by decide +kernel) (fun u3 => [(A 0, .inr (6, [.ref (A 1), .ref (A 2), .ref (A 3), .ref (A 4), .ref (A 5), .ref (A 6), .ref (A 7), .int (u1.2 0), .int (u1.2 19)])), (A 1, .inr (4, [.int (u1.2 1), .int (u1.2 3), .int u3])), (A 2, .inr (4, [.int (u1.2 2), .int (u1.2 4), .int (u1.2 6)])), (A 3, .inr (5, [.int (u1.2 7), .int (u1.2 8), .int (u1.2 9), .int (u1.2 10)])), (A 4, .inr (1, [.int (u1.2 11), .int (u1.2 12), .int (u1.2 13), .int (u1.2 14), .int (u1.2 15), .int (u1.2 16), .int (u1.2 17)])), (A 5, .inr (0, [.long rb, .int (u1.2 28)])), (A 6, .inr (0, [.long sb, .int (u1.2 18)])), (A 7, .inr (7, [.int (u1.2 20), .int (u1.2 21), .int (u1.2 22), .int (u1.2 23), .int (u1.2 24), .int (u1.2 25), .int (u1.2 26), .int (u1.2 27)]))]) (fun _ => rfl) [(A 0, .inr (6, [.ref (A 1), .ref (A 2), .ref (A 3), .ref (A 4), .ref (A 5), .ref (A 6), .ref (A 7), .int (u1.2 0), .int (u1.2 19)])), (A 2, .inr (4, [.int (u1.2 2), .int (u1.2 4), .int (u1.2 6)])), (A 3, .inr (5, [.int (u1.2 7), .int (u1.2 8), .int (u1.2 9), .int (u1.2 10)])), (A 4, .inr (1, [.int (u1.2 11), .int (u1.2 12), .int (u1.2 13), .int (u1.2 14), .int (u1.2 15), .int (u1.2 16), .int (u1.2 17)])), (A 5, .inr (0, [.long rb, .int (u1.2 28)])), (A 6, .inr (0, [.long sb, .int (u1.2 18)])), (A 7, .inr (7, [.int (u1.2 20), .int (u1.2 21), .int (u1.2 22), .int (u1.2 23), .int (u1.2 24), .int (u1.2 25), .int (u1.2 26), .int (u1.2 27)]))] rfl (fun _ => rfl) [A 0, A 1, A 2, A 3, A 4, A 5, A 6, A 7] rfl (fun _ => rfl) 8 (fun _ => rfl) (by decide +kernel) (cwV 2 hts gX6_nextRawBit_X4_advance rfl rfl rfl (by decide +kernel) ⟨Nat.le_of_ble_eq_true rfl, Nat.le_of_ble_eq_true rfl⟩) 1 rfl rfl rfl (As := [.int (f 7), .int u1.1]) (rest := []) rfl rfl (Nat.le_of_ble_eq_true rfl) dX6_nextRawBit_15 rfl ⟨Nat.zero_le _, Nat.zero_le _⟩ (fun u3 eu3 => ?_)
  have zh4 := zl_e zh2 eu3
  refine Z.of (pc' := 19) (fun _ _ _ hl => lv_aload_n hx hb dX6_nextRawBit_18 rfl (lv_at hl 0 rfl)) ?_
  refine z_callVi C (c_X6_locksOn l T A (upd u1.2 5 u3) rb sb) [0, 1, 2, 3, 4, 5, 6, 7] [] rfl (by decide +kernel) (fun u5 => [(A 0, .inr (6, [.ref (A 1), .ref (A 2), .ref (A 3), .ref (A 4), .ref (A 5), .ref (A 6), .ref (A 7), .int (u1.2 0), .int (u1.2 19)])), (A 1, .inr (4, [.int (u1.2 1), .int (u1.2 3), .int u3])), (A 2, .inr (4, [.int (u1.2 2), .int (u1.2 4), .int (u1.2 6)])), (A 3, .inr (5, [.int (u1.2 7), .int (u1.2 8), .int (u1.2 9), .int (u1.2 10)])), (A 4, .inr (1, [.int (u1.2 11), .int (u1.2 12), .int (u1.2 13), .int (u1.2 14), .int (u1.2 15), .int (u1.2 16), .int (u1.2 17)])), (A 5, .inr (0, [.long rb, .int (u1.2 28)])), (A 6, .inr (0, [.long sb, .int (u1.2 18)])), (A 7, .inr (7, [.int (u1.2 20), .int (u1.2 21), .int (u1.2 22), .int (u1.2 23), .int (u1.2 24), .int (u1.2 25), .int (u1.2 26), .int (u1.2 27)]))]) (fun _ => rfl) [] rfl (fun _ => rfl) [A 0, A 1, A 2, A 3, A 4, A 5, A 6, A 7] rfl (fun _ => rfl) 8 (fun _ => rfl) (by decide +kernel) (cwV 0 hts gX6_nextRawBit_X6_locksOn rfl rfl rfl (by decide +kernel) ⟨Nat.le_of_ble_eq_true rfl, Nat.le_of_ble_eq_true rfl⟩) 0 rfl rfl rfl (As := []) (rest := []) rfl rfl (Nat.le_of_ble_eq_true rfl) dX6_nextRawBit_19 rfl ⟨Nat.zero_le _, Nat.zero_le _⟩ (fun u5 eu5 bu5 => ?_)
  have zh6 := zl_e zh4 eu5
  have J8 : ∀ v8 : (Nat → Int32), v8 = (
      if u5 = 0 then
        zl (f_X6_nextNoise (upd u1.2 5 u3) rb sb) fun u11 =>
        zl (f_X4_advance (u11.2 2) (u11.2 4) (u11.2 6) (u1.2 7) u11.1) fun u13 =>
        (upd u11.2 6 u13)
      else
        zl (f_X4_lockOn (u1.2 2) (u1.2 4) (u1.2 6) (u1.2 1) (u1.2 3) u3) fun u15 =>
        (upd (upd u1.2 5 u3) 6 u15)
      ) → Z P0 l E0 rm_X6_nextRawBit S0 M0 G0 B0 T0 K0 1 T A9 Q9 0 0 [(A 0, .inr (6, [.ref (A 1), .ref (A 2), .ref (A 3), .ref (A 4), .ref (A 5), .ref (A 6), .ref (A 7), .int (v8 0), .int (v8 19)])), (A 1, .inr (4, [.int (v8 1), .int (v8 3), .int (v8 5)])), (A 2, .inr (4, [.int (v8 2), .int (v8 4), .int (v8 6)])), (A 3, .inr (5, [.int (v8 7), .int (v8 8), .int (v8 9), .int (v8 10)])), (A 4, .inr (1, [.int (v8 11), .int (v8 12), .int (v8 13), .int (v8 14), .int (v8 15), .int (v8 16), .int (v8 17)])), (A 5, .inr (0, [.long rb, .int (v8 28)])), (A 6, .inr (0, [.long sb, .int (v8 18)])), (A 7, .inr (7, [.int (v8 20), .int (v8 21), .int (v8 22), .int (v8 23), .int (v8 24), .int (v8 25), .int (v8 26), .int (v8 27)]))] 57 [(0, .ref (A 0))] [] := by
    intro v8 ev8
    have zh17 := zl_e zh6 ev8
    refine Z.of (pc' := 58) (fun _ _ _ hl => lv_aload_n hx hb dX6_nextRawBit_57 rfl (lv_at hl 0 rfl)) ?_
    refine z_get C iX6 0 0 k23 rfl rfl (by decide) rfl rfl dX6_nextRawBit_58 rfl ?_
    refine z_callVi C (c_X4_isHigh l T (A 1) (v8 1) (v8 3) (v8 5)) [1] [0, 2, 3, 4, 5, 6, 7] rfl (by decide +kernel) (fun u18 => [(A 0, .inr (6, [.ref (A 1), .ref (A 2), .ref (A 3), .ref (A 4), .ref (A 5), .ref (A 6), .ref (A 7), .int (v8 0), .int (v8 19)])), (A 1, .inr (4, [.int (v8 1), .int (v8 3), .int (v8 5)])), (A 2, .inr (4, [.int (v8 2), .int (v8 4), .int (v8 6)])), (A 3, .inr (5, [.int (v8 7), .int (v8 8), .int (v8 9), .int (v8 10)])), (A 4, .inr (1, [.int (v8 11), .int (v8 12), .int (v8 13), .int (v8 14), .int (v8 15), .int (v8 16), .int (v8 17)])), (A 5, .inr (0, [.long rb, .int (v8 28)])), (A 6, .inr (0, [.long sb, .int (v8 18)])), (A 7, .inr (7, [.int (v8 20), .int (v8 21), .int (v8 22), .int (v8 23), .int (v8 24), .int (v8 25), .int (v8 26), .int (v8 27)]))]) (fun _ => rfl) [(A 0, .inr (6, [.ref (A 1), .ref (A 2), .ref (A 3), .ref (A 4), .ref (A 5), .ref (A 6), .ref (A 7), .int (v8 0), .int (v8 19)])), (A 2, .inr (4, [.int (v8 2), .int (v8 4), .int (v8 6)])), (A 3, .inr (5, [.int (v8 7), .int (v8 8), .int (v8 9), .int (v8 10)])), (A 4, .inr (1, [.int (v8 11), .int (v8 12), .int (v8 13), .int (v8 14), .int (v8 15), .int (v8 16), .int (v8 17)])), (A 5, .inr (0, [.long rb, .int (v8 28)])), (A 6, .inr (0, [.long sb, .int (v8 18)])), (A 7, .inr (7, [.int (v8 20), .int (v8 21), .int (v8 22), .int (v8 23), .int (v8 24), .int (v8 25), .int (v8 26), .int (v8 27)]))] rfl (fun _ => rfl) [A 0, A 1, A 2, A 3, A 4, A 5, A 6, A 7] rfl (fun _ => rfl) 8 (fun _ => rfl) (by decide +kernel) (cwV 0 hts gX6_nextRawBit_X4_isHigh rfl rfl rfl (by decide +kernel) ⟨Nat.le_of_ble_eq_true rfl, Nat.le_of_ble_eq_true rfl⟩) 1 rfl rfl rfl (As := []) (rest := []) rfl rfl (Nat.le_of_ble_eq_true rfl) dX6_nextRawBit_61 rfl ⟨Nat.zero_le _, Nat.zero_le _⟩ (fun u18 eu18 bu18 => ?_)
    have zh19 := zl_e zh17 eu18
    refine Z.of (pc' := 65) (fun _ _ _ hl => lv_aload_n hx hb dX6_nextRawBit_64 rfl (lv_at hl 0 rfl)) ?_
    refine z_get C iX6 0 1 k27 rfl rfl (by decide) rfl rfl dX6_nextRawBit_65 rfl ?_
    refine z_callVi C (c_X4_isHigh l T (A 2) (v8 2) (v8 4) (v8 6)) [2] [0, 1, 3, 4, 5, 6, 7] rfl (by decide +kernel) (fun u20 => [(A 0, .inr (6, [.ref (A 1), .ref (A 2), .ref (A 3), .ref (A 4), .ref (A 5), .ref (A 6), .ref (A 7), .int (v8 0), .int (v8 19)])), (A 1, .inr (4, [.int (v8 1), .int (v8 3), .int (v8 5)])), (A 2, .inr (4, [.int (v8 2), .int (v8 4), .int (v8 6)])), (A 3, .inr (5, [.int (v8 7), .int (v8 8), .int (v8 9), .int (v8 10)])), (A 4, .inr (1, [.int (v8 11), .int (v8 12), .int (v8 13), .int (v8 14), .int (v8 15), .int (v8 16), .int (v8 17)])), (A 5, .inr (0, [.long rb, .int (v8 28)])), (A 6, .inr (0, [.long sb, .int (v8 18)])), (A 7, .inr (7, [.int (v8 20), .int (v8 21), .int (v8 22), .int (v8 23), .int (v8 24), .int (v8 25), .int (v8 26), .int (v8 27)]))]) (fun _ => rfl) [(A 0, .inr (6, [.ref (A 1), .ref (A 2), .ref (A 3), .ref (A 4), .ref (A 5), .ref (A 6), .ref (A 7), .int (v8 0), .int (v8 19)])), (A 1, .inr (4, [.int (v8 1), .int (v8 3), .int (v8 5)])), (A 3, .inr (5, [.int (v8 7), .int (v8 8), .int (v8 9), .int (v8 10)])), (A 4, .inr (1, [.int (v8 11), .int (v8 12), .int (v8 13), .int (v8 14), .int (v8 15), .int (v8 16), .int (v8 17)])), (A 5, .inr (0, [.long rb, .int (v8 28)])), (A 6, .inr (0, [.long sb, .int (v8 18)])), (A 7, .inr (7, [.int (v8 20), .int (v8 21), .int (v8 22), .int (v8 23), .int (v8 24), .int (v8 25), .int (v8 26), .int (v8 27)]))] rfl (fun _ => rfl) [A 0, A 1, A 2, A 3, A 4, A 5, A 6, A 7] rfl (fun _ => rfl) 8 (fun _ => rfl) (by decide +kernel) (cwV 0 hts gX6_nextRawBit_X4_isHigh rfl rfl rfl (by decide +kernel) ⟨Nat.le_of_ble_eq_true rfl, Nat.le_of_ble_eq_true rfl⟩) 2 rfl rfl rfl (As := []) (rest := [.int u18]) rfl rfl (Nat.le_of_ble_eq_true rfl) dX6_nextRawBit_68 rfl ⟨Nat.zero_le _, Nat.zero_le _⟩ (fun u20 eu20 bu20 => ?_)
    have zh21 := zl_e zh19 eu20
    refine Z.two (pt := 78) (pf := 74) (fun _ _ _ _ => lv_icmp_eq hx hb dX6_nextRawBit_71 (by decide)) (fun c22 => ?_) (fun c22 => ?_)
    · have zh23 := zh21.trans (if_pos c22)
      refine Z.of (pc' := 79) (fun _ _ _ _ => lv_iconst (v := 0) hx hb dX6_nextRawBit_78 (by decide)) ?_
      exact E (0, v8) _ _ _ _ dX6_nextRawBit_79 rfl rfl rfl zh23
    · have zh24 := zh21.trans (if_neg c22)
      refine Z.of (pc' := 75) (fun _ _ _ _ => lv_iconst (v := 1) hx hb dX6_nextRawBit_74 (by decide)) ?_
      refine Z.of (pc' := 79) (fun _ _ _ _ => lv_goto hx hb dX6_nextRawBit_75 (by decide)) ?_
      exact E (1, v8) _ _ _ _ dX6_nextRawBit_79 rfl rfl rfl zh24
  have zr8 := @Eq.refl ((Nat → Int32)) (
      if u5 = 0 then
        zl (f_X6_nextNoise (upd u1.2 5 u3) rb sb) fun u11 =>
        zl (f_X4_advance (u11.2 2) (u11.2 4) (u11.2 6) (u1.2 7) u11.1) fun u13 =>
        (upd u11.2 6 u13)
      else
        zl (f_X4_lockOn (u1.2 2) (u1.2 4) (u1.2 6) (u1.2 1) (u1.2 3) u3) fun u15 =>
        (upd (upd u1.2 5 u3) 6 u15)
      )
  refine Z.two (pt := 39) (pf := 25) (fun _ _ _ _ => lv_if_eq hx hb dX6_nextRawBit_22 (by decide)) (fun c7 => ?_) (fun c7 => ?_)
  · have zh9 := zr8.trans (if_pos c7)
    refine Z.of (pc' := 40) (fun _ _ _ hl => lv_aload_n hx hb dX6_nextRawBit_39 rfl (lv_at hl 0 rfl)) ?_
    refine z_get C iX6 0 1 k27 rfl rfl (by decide) rfl rfl dX6_nextRawBit_40 rfl ?_
    refine Z.of (pc' := 44) (fun _ _ _ hl => lv_aload_n hx hb dX6_nextRawBit_43 rfl (lv_at hl 0 rfl)) ?_
    refine z_get C iX6 0 2 k33 rfl rfl (by decide) rfl rfl dX6_nextRawBit_44 rfl ?_
    refine z_get C iX5 3 0 k126 rfl rfl (by decide) rfl rfl dX6_nextRawBit_47 rfl ?_
    refine Z.of (pc' := 51) (fun _ _ _ hl => lv_aload_n hx hb dX6_nextRawBit_50 rfl (lv_at hl 0 rfl)) ?_
    refine z_callVi C (c_X6_nextNoise l T A (upd u1.2 5 u3) rb sb) [0, 1, 2, 3, 4, 5, 6, 7] [] rfl (by decide +kernel) (fun u11 => [(A 0, .inr (6, [.ref (A 1), .ref (A 2), .ref (A 3), .ref (A 4), .ref (A 5), .ref (A 6), .ref (A 7), .int (u11.2 0), .int (u11.2 19)])), (A 1, .inr (4, [.int (u11.2 1), .int (u11.2 3), .int (u11.2 5)])), (A 2, .inr (4, [.int (u11.2 2), .int (u11.2 4), .int (u11.2 6)])), (A 3, .inr (5, [.int (u11.2 7), .int (u11.2 8), .int (u11.2 9), .int (u11.2 10)])), (A 4, .inr (1, [.int (u11.2 11), .int (u11.2 12), .int (u11.2 13), .int (u11.2 14), .int (u11.2 15), .int (u11.2 16), .int (u11.2 17)])), (A 5, .inr (0, [.long rb, .int (u11.2 28)])), (A 6, .inr (0, [.long sb, .int (u11.2 18)])), (A 7, .inr (7, [.int (u11.2 20), .int (u11.2 21), .int (u11.2 22), .int (u11.2 23), .int (u11.2 24), .int (u11.2 25), .int (u11.2 26), .int (u11.2 27)]))]) (fun _ => rfl) [] rfl (fun _ => rfl) [A 0, A 1, A 2, A 3, A 4, A 5, A 6, A 7] rfl (fun _ => rfl) 8 (fun _ => rfl) (by decide +kernel) (cwV 0 hts gX6_nextRawBit_X6_nextNoise rfl rfl rfl (by decide +kernel) ⟨Nat.le_of_ble_eq_true rfl, Nat.le_of_ble_eq_true rfl⟩) 0 rfl rfl rfl (As := []) (rest := [.int (u1.2 7), .ref (A 2)]) rfl rfl (Nat.le_of_ble_eq_true rfl) dX6_nextRawBit_51 rfl ⟨Nat.zero_le _, Nat.zero_le _⟩ (fun u11 eu11 bu11 => ?_)
    have zh12 := zl_e zh9 eu11
    refine z_callVv C (c_X4_advance l T (A 2) (u11.2 2) (u11.2 4) (u11.2 6) (u1.2 7) u11.1) [2] [0, 1, 3, 4, 5, 6, 7] rfl (by decide +kernel) (fun u13 => [(A 0, .inr (6, [.ref (A 1), .ref (A 2), .ref (A 3), .ref (A 4), .ref (A 5), .ref (A 6), .ref (A 7), .int (u11.2 0), .int (u11.2 19)])), (A 1, .inr (4, [.int (u11.2 1), .int (u11.2 3), .int (u11.2 5)])), (A 2, .inr (4, [.int (u11.2 2), .int (u11.2 4), .int u13])), (A 3, .inr (5, [.int (u11.2 7), .int (u11.2 8), .int (u11.2 9), .int (u11.2 10)])), (A 4, .inr (1, [.int (u11.2 11), .int (u11.2 12), .int (u11.2 13), .int (u11.2 14), .int (u11.2 15), .int (u11.2 16), .int (u11.2 17)])), (A 5, .inr (0, [.long rb, .int (u11.2 28)])), (A 6, .inr (0, [.long sb, .int (u11.2 18)])), (A 7, .inr (7, [.int (u11.2 20), .int (u11.2 21), .int (u11.2 22), .int (u11.2 23), .int (u11.2 24), .int (u11.2 25), .int (u11.2 26), .int (u11.2 27)]))]) (fun _ => rfl) [(A 0, .inr (6, [.ref (A 1), .ref (A 2), .ref (A 3), .ref (A 4), .ref (A 5), .ref (A 6), .ref (A 7), .int (u11.2 0), .int (u11.2 19)])), (A 1, .inr (4, [.int (u11.2 1), .int (u11.2 3), .int (u11.2 5)])), (A 3, .inr (5, [.int (u11.2 7), .int (u11.2 8), .int (u11.2 9), .int (u11.2 10)])), (A 4, .inr (1, [.int (u11.2 11), .int (u11.2 12), .int (u11.2 13), .int (u11.2 14), .int (u11.2 15), .int (u11.2 16), .int (u11.2 17)])), (A 5, .inr (0, [.long rb, .int (u11.2 28)])), (A 6, .inr (0, [.long sb, .int (u11.2 18)])), (A 7, .inr (7, [.int (u11.2 20), .int (u11.2 21), .int (u11.2 22), .int (u11.2 23), .int (u11.2 24), .int (u11.2 25), .int (u11.2 26), .int (u11.2 27)]))] rfl (fun _ => rfl) [A 0, A 1, A 2, A 3, A 4, A 5, A 6, A 7] rfl (fun _ => rfl) 8 (fun _ => rfl) (by decide +kernel) (cwV 2 hts gX6_nextRawBit_X4_advance rfl rfl rfl (by decide +kernel) ⟨Nat.le_of_ble_eq_true rfl, Nat.le_of_ble_eq_true rfl⟩) 2 rfl rfl rfl (As := [.int (u1.2 7), .int u11.1]) (rest := []) rfl rfl (Nat.le_of_ble_eq_true rfl) dX6_nextRawBit_54 rfl ⟨Nat.zero_le _, Nat.zero_le _⟩ (fun u13 eu13 => ?_)
    have zh14 := zl_e zh12 eu13
    exact J8 (upd u11.2 6 u13) zh14.symm
  · have zh10 := zr8.trans (if_neg c7)
    refine Z.of (pc' := 26) (fun _ _ _ hl => lv_aload_n hx hb dX6_nextRawBit_25 rfl (lv_at hl 0 rfl)) ?_
    refine z_get C iX6 0 1 k27 rfl rfl (by decide) rfl rfl dX6_nextRawBit_26 rfl ?_
    refine Z.of (pc' := 30) (fun _ _ _ hl => lv_aload_n hx hb dX6_nextRawBit_29 rfl (lv_at hl 0 rfl)) ?_
    refine z_get C iX6 0 0 k23 rfl rfl (by decide) rfl rfl dX6_nextRawBit_30 rfl ?_
    refine z_callVv C (c_X4_lockOn l T (A 2) (A 1) (u1.2 2) (u1.2 4) (u1.2 6) (u1.2 1) (u1.2 3) u3) [2, 1] [0, 3, 4, 5, 6, 7] rfl (by decide +kernel) (fun u15 => [(A 0, .inr (6, [.ref (A 1), .ref (A 2), .ref (A 3), .ref (A 4), .ref (A 5), .ref (A 6), .ref (A 7), .int (u1.2 0), .int (u1.2 19)])), (A 1, .inr (4, [.int (u1.2 1), .int (u1.2 3), .int u3])), (A 2, .inr (4, [.int (u1.2 2), .int (u1.2 4), .int u15])), (A 3, .inr (5, [.int (u1.2 7), .int (u1.2 8), .int (u1.2 9), .int (u1.2 10)])), (A 4, .inr (1, [.int (u1.2 11), .int (u1.2 12), .int (u1.2 13), .int (u1.2 14), .int (u1.2 15), .int (u1.2 16), .int (u1.2 17)])), (A 5, .inr (0, [.long rb, .int (u1.2 28)])), (A 6, .inr (0, [.long sb, .int (u1.2 18)])), (A 7, .inr (7, [.int (u1.2 20), .int (u1.2 21), .int (u1.2 22), .int (u1.2 23), .int (u1.2 24), .int (u1.2 25), .int (u1.2 26), .int (u1.2 27)]))]) (fun _ => rfl) [(A 0, .inr (6, [.ref (A 1), .ref (A 2), .ref (A 3), .ref (A 4), .ref (A 5), .ref (A 6), .ref (A 7), .int (u1.2 0), .int (u1.2 19)])), (A 3, .inr (5, [.int (u1.2 7), .int (u1.2 8), .int (u1.2 9), .int (u1.2 10)])), (A 4, .inr (1, [.int (u1.2 11), .int (u1.2 12), .int (u1.2 13), .int (u1.2 14), .int (u1.2 15), .int (u1.2 16), .int (u1.2 17)])), (A 5, .inr (0, [.long rb, .int (u1.2 28)])), (A 6, .inr (0, [.long sb, .int (u1.2 18)])), (A 7, .inr (7, [.int (u1.2 20), .int (u1.2 21), .int (u1.2 22), .int (u1.2 23), .int (u1.2 24), .int (u1.2 25), .int (u1.2 26), .int (u1.2 27)]))] rfl (fun _ => rfl) [A 0, A 1, A 2, A 3, A 4, A 5, A 6, A 7] rfl (fun _ => rfl) 8 (fun _ => rfl) (by decide +kernel) (cwV 1 hts gX6_nextRawBit_X4_lockOn rfl rfl rfl (by decide +kernel) ⟨Nat.le_of_ble_eq_true rfl, Nat.le_of_ble_eq_true rfl⟩) 2 rfl rfl rfl (As := [.ref (A 1)]) (rest := []) rfl rfl (Nat.le_of_ble_eq_true rfl) dX6_nextRawBit_33 rfl ⟨Nat.zero_le _, Nat.zero_le _⟩ (fun u15 eu15 => ?_)
    have zh16 := zl_e zh10 eu15
    refine Z.of (pc' := 57) (fun _ _ _ _ => lv_goto hx hb dX6_nextRawBit_36 (by decide)) ?_
    exact J8 (upd (upd u1.2 5 u3) 6 u15) zh16.symm
def f_X6_pairUp (f : Nat → Int32) (rb : Int64) (sb : Int64) (bit : Int32) : (Nat → Int32) × Int64 :=
  if (f 19) = (-1) then
    (upd f 19 bit, sb)
  else
    if (f 19) = bit then
      (upd (upd f 19 (-1)) 22 ((f 22) + 1), sb)
    else
      zl (f_X0_isFull sb (f 18)) fun u7 =>
      if u7 = 0 then
        zl (f_X0_append sb (f 18) (f 19)) fun u12 =>
        (upd (upd (upd f 18 u12.2) 19 (-1)) 23 ((f 23) + 1), u12.1)
      else
        (upd (upd f 19 (-1)) 24 ((f 24) + 1), sb)
theorem fe_X6_pairUp (f : Nat → Int32) (rb : Int64) (sb : Int64) (bit : Int32) : f_X6_pairUp f rb sb bit = (
    if (f 19) = (-1) then
      (upd f 19 bit, sb)
    else
      if (f 19) = bit then
        (upd (upd f 19 (-1)) 22 ((f 22) + 1), sb)
      else
        zl (f_X0_isFull sb (f 18)) fun u7 =>
        if u7 = 0 then
          zl (f_X0_append sb (f 18) (f 19)) fun u12 =>
          (upd (upd (upd f 18 u12.2) 19 (-1)) 23 ((f 23) + 1), u12.1)
        else
          (upd (upd f 19 (-1)) 24 ((f 24) + 1), sb)
    ) := rfl
abbrev rm_X6_pairUp : Room := { frames := 1, cells := 0, slots := 0, locals := 21 }
set_option maxHeartbeats 1000000 in
set_option maxRecDepth 100000 in
theorem c_X6_pairUp (l : Launch) (T : zT) (A : Nat → Nat) (f : Nat → Int32) (rb : Int64) (sb : Int64) (bit : Int32) : Cv l yX6_pairUp wsX6_pairUp rm_X6_pairUp T [.ref (A 0), .int bit] [(A 0, .inr (6, [.ref (A 1), .ref (A 2), .ref (A 3), .ref (A 4), .ref (A 5), .ref (A 6), .ref (A 7), .int (f 0), .int (f 19)])), (A 1, .inr (4, [.int (f 1), .int (f 3), .int (f 5)])), (A 2, .inr (4, [.int (f 2), .int (f 4), .int (f 6)])), (A 3, .inr (5, [.int (f 7), .int (f 8), .int (f 9), .int (f 10)])), (A 4, .inr (1, [.int (f 11), .int (f 12), .int (f 13), .int (f 14), .int (f 15), .int (f 16), .int (f 17)])), (A 5, .inr (0, [.long rb, .int (f 28)])), (A 6, .inr (0, [.long sb, .int (f 18)])), (A 7, .inr (7, [.int (f 20), .int (f 21), .int (f 22), .int (f 23), .int (f 24), .int (f 25), .int (f 26), .int (f 27)]))] (S := (Nat → Int32) × Int64) (f_X6_pairUp f rb sb bit) (fun u => [(A 0, .inr (6, [.ref (A 1), .ref (A 2), .ref (A 3), .ref (A 4), .ref (A 5), .ref (A 6), .ref (A 7), .int (u.1 0), .int (u.1 19)])), (A 1, .inr (4, [.int (u.1 1), .int (u.1 3), .int (u.1 5)])), (A 2, .inr (4, [.int (u.1 2), .int (u.1 4), .int (u.1 6)])), (A 3, .inr (5, [.int (u.1 7), .int (u.1 8), .int (u.1 9), .int (u.1 10)])), (A 4, .inr (1, [.int (u.1 11), .int (u.1 12), .int (u.1 13), .int (u.1 14), .int (u.1 15), .int (u.1 16), .int (u.1 17)])), (A 5, .inr (0, [.long rb, .int (u.1 28)])), (A 6, .inr (0, [.long u.2, .int (u.1 18)])), (A 7, .inr (7, [.int (u.1 20), .int (u.1 21), .int (u.1 22), .int (u.1 23), .int (u.1 24), .int (u.1 25), .int (u.1 26), .int (u.1 27)]))]) := by
  refine z_metV (own := RX6) (maxL := 3) rfl (by decide) rfl (Nat.le_of_ble_eq_true rfl) ?_
  intro P0 E0 S0 M0 G0 B0 T0 K0 A9 Q9 C E
  have hx := C.1.1
  have hb := C.1.2.1
  have hown := C.1.2.2.2.1
  have hts := C.1.2.2.2.2
  have hn := C.2.1.2
  have iX6 : ∀ w ∈ u_ws RX6 TX6 9, w ∈ wsX6_pairUp := by decide +kernel
  have iX7 : ∀ w ∈ u_ws RX7 TX7 8, w ∈ wsX6_pairUp := by decide +kernel
  have k15 := hts (.fieldLink RX6 15 "JudgedBits$Source" "waiting" "I") (by decide +kernel)
  have k51 := hts (.fieldLink RX6 51 "JudgedBits$Source" "store" "LJudgedBits$BitRow;") (by decide +kernel)
  have k57 := hts (.fieldLink RX6 57 "JudgedBits$Source" "tally" "LJudgedBits$Tally;") (by decide +kernel)
  have k96 := hts (.fieldLink RX6 96 "JudgedBits$Tally" "stored" "I") (by decide +kernel)
  have k184 := hts (.fieldLink RX6 184 "JudgedBits$Tally" "leftOut" "I") (by decide +kernel)
  have k190 := hts (.fieldLink RX6 190 "JudgedBits$Tally" "lost" "I") (by decide +kernel)
  change Z P0 l E0 rm_X6_pairUp S0 M0 G0 B0 T0 K0 3 T A9 Q9 0 0 [(A 0, .inr (6, [.ref (A 1), .ref (A 2), .ref (A 3), .ref (A 4), .ref (A 5), .ref (A 6), .ref (A 7), .int (f 0), .int (f 19)])), (A 1, .inr (4, [.int (f 1), .int (f 3), .int (f 5)])), (A 2, .inr (4, [.int (f 2), .int (f 4), .int (f 6)])), (A 3, .inr (5, [.int (f 7), .int (f 8), .int (f 9), .int (f 10)])), (A 4, .inr (1, [.int (f 11), .int (f 12), .int (f 13), .int (f 14), .int (f 15), .int (f 16), .int (f 17)])), (A 5, .inr (0, [.long rb, .int (f 28)])), (A 6, .inr (0, [.long sb, .int (f 18)])), (A 7, .inr (7, [.int (f 20), .int (f 21), .int (f 22), .int (f 23), .int (f 24), .int (f 25), .int (f 26), .int (f 27)]))] 0 [(0, .ref (A 0)), (1, .int bit)] []
  have zh0 := fe_X6_pairUp f rb sb bit
  refine Z.of (pc' := 1) (fun _ _ _ hl => lv_aload_n hx hb dX6_pairUp_0 rfl (lv_at hl 0 rfl)) ?_
  refine z_get C iX6 0 8 k15 rfl rfl (by decide) rfl rfl dX6_pairUp_1 rfl ?_
  refine Z.of (pc' := 5) (fun _ _ _ _ => lv_iconst (v := -1) hx hb dX6_pairUp_4 (by decide)) ?_
  refine Z.two' (pt := 14) (pf := 8) (fun _ _ _ _ => lv_icmp_ne hx hb dX6_pairUp_5 (by decide)) (fun c1 => ?_) (fun c1 => ?_)
  · have zh2 := zh0.trans (if_neg c1)
    refine Z.of (pc' := 15) (fun _ _ _ hl => lv_aload_n hx hb dX6_pairUp_14 rfl (lv_at hl 0 rfl)) ?_
    refine z_get C iX6 0 8 k15 rfl rfl (by decide) rfl rfl dX6_pairUp_15 rfl ?_
    refine Z.sto (pc' := 19) (lv' := [(2, .int (f 19)), (0, .ref (A 0)), (1, .int bit)]) (fun _ _ _ hl => lv_istore_n (lv' := [(2, .int (f 19)), (0, .ref (A 0)), (1, .int bit)]) hx hb dX6_pairUp_18 rfl hl (by decide) rfl) ?_
    refine Z.of (pc' := 20) (fun _ _ _ hl => lv_aload_n hx hb dX6_pairUp_19 rfl (lv_at hl 1 rfl)) ?_
    refine Z.of (pc' := 21) (fun _ _ _ _ => lv_iconst (v := -1) hx hb dX6_pairUp_20 (by decide)) ?_
    refine z_put C iX6 tyX6_ok nmX6 0 8 k15 rfl rfl (by decide) rfl rfl rfl rfl (Nat.le_of_ble_eq_true rfl) dX6_pairUp_21 rfl [(A 0, .inr (6, [.ref (A 1), .ref (A 2), .ref (A 3), .ref (A 4), .ref (A 5), .ref (A 6), .ref (A 7), .int (f 0), .int (-1)])), (A 1, .inr (4, [.int (f 1), .int (f 3), .int (f 5)])), (A 2, .inr (4, [.int (f 2), .int (f 4), .int (f 6)])), (A 3, .inr (5, [.int (f 7), .int (f 8), .int (f 9), .int (f 10)])), (A 4, .inr (1, [.int (f 11), .int (f 12), .int (f 13), .int (f 14), .int (f 15), .int (f 16), .int (f 17)])), (A 5, .inr (0, [.long rb, .int (f 28)])), (A 6, .inr (0, [.long sb, .int (f 18)])), (A 7, .inr (7, [.int (f 20), .int (f 21), .int (f 22), .int (f 23), .int (f 24), .int (f 25), .int (f 26), .int (f 27)]))] rfl ?_
    refine Z.of (pc' := 25) (fun _ _ _ hl => lv_iload_n hx hb dX6_pairUp_24 rfl (lv_at hl 0 rfl)) ?_
    refine Z.of (pc' := 26) (fun _ _ _ hl => lv_iload_n hx hb dX6_pairUp_25 rfl (lv_at hl 2 rfl)) ?_
    refine Z.two' (pt := 45) (pf := 29) (fun _ _ _ _ => lv_icmp_ne hx hb dX6_pairUp_26 (by decide)) (fun c4 => ?_) (fun c4 => ?_)
    · have zh5 := zh2.trans (if_neg c4)
      refine Z.of (pc' := 46) (fun _ _ _ hl => lv_aload_n hx hb dX6_pairUp_45 rfl (lv_at hl 1 rfl)) ?_
      refine z_get C iX6 0 5 k51 rfl rfl (by decide) rfl rfl dX6_pairUp_46 rfl ?_
      refine z_callVi C (c_X0_isFull l T (A 6) sb (f 18)) [6] [0, 1, 2, 3, 4, 5, 7] rfl (by decide +kernel) (fun u7 => [(A 0, .inr (6, [.ref (A 1), .ref (A 2), .ref (A 3), .ref (A 4), .ref (A 5), .ref (A 6), .ref (A 7), .int (f 0), .int (-1)])), (A 1, .inr (4, [.int (f 1), .int (f 3), .int (f 5)])), (A 2, .inr (4, [.int (f 2), .int (f 4), .int (f 6)])), (A 3, .inr (5, [.int (f 7), .int (f 8), .int (f 9), .int (f 10)])), (A 4, .inr (1, [.int (f 11), .int (f 12), .int (f 13), .int (f 14), .int (f 15), .int (f 16), .int (f 17)])), (A 5, .inr (0, [.long rb, .int (f 28)])), (A 6, .inr (0, [.long sb, .int (f 18)])), (A 7, .inr (7, [.int (f 20), .int (f 21), .int (f 22), .int (f 23), .int (f 24), .int (f 25), .int (f 26), .int (f 27)]))]) (fun _ => rfl) [(A 0, .inr (6, [.ref (A 1), .ref (A 2), .ref (A 3), .ref (A 4), .ref (A 5), .ref (A 6), .ref (A 7), .int (f 0), .int (-1)])), (A 1, .inr (4, [.int (f 1), .int (f 3), .int (f 5)])), (A 2, .inr (4, [.int (f 2), .int (f 4), .int (f 6)])), (A 3, .inr (5, [.int (f 7), .int (f 8), .int (f 9), .int (f 10)])), (A 4, .inr (1, [.int (f 11), .int (f 12), .int (f 13), .int (f 14), .int (f 15), .int (f 16), .int (f 17)])), (A 5, .inr (0, [.long rb, .int (f 28)])), (A 7, .inr (7, [.int (f 20), .int (f 21), .int (f 22), .int (f 23), .int (f 24), .int (f 25), .int (f 26), .int (f 27)]))] rfl (fun _ => rfl) [A 0, A 1, A 2, A 3, A 4, A 5, A 6, A 7] rfl (fun _ => rfl) 8 (fun _ => rfl) (by decide +kernel) (cwV 0 hts gX6_pairUp_X0_isFull rfl rfl rfl (by decide +kernel) ⟨Nat.le_of_ble_eq_true rfl, Nat.le_of_ble_eq_true rfl⟩) 6 rfl rfl rfl (As := []) (rest := []) rfl rfl (Nat.le_of_ble_eq_true rfl) dX6_pairUp_49 rfl ⟨Nat.zero_le _, Nat.zero_le _⟩ (fun u7 eu7 bu7 => ?_)
      have zh8 := zl_e zh5 eu7
      refine Z.two (pt := 71) (pf := 55) (fun _ _ _ _ => lv_if_eq hx hb dX6_pairUp_52 (by decide)) (fun c9 => ?_) (fun c9 => ?_)
      · have zh10 := zh8.trans (if_pos c9)
        refine Z.of (pc' := 72) (fun _ _ _ hl => lv_aload_n hx hb dX6_pairUp_71 rfl (lv_at hl 1 rfl)) ?_
        refine z_get C iX6 0 5 k51 rfl rfl (by decide) rfl rfl dX6_pairUp_72 rfl ?_
        refine Z.of (pc' := 76) (fun _ _ _ hl => lv_iload_n hx hb dX6_pairUp_75 rfl (lv_at hl 0 rfl)) ?_
        refine z_callVv C (c_X0_append l T (A 6) sb (f 18) (f 19)) [6] [0, 1, 2, 3, 4, 5, 7] rfl (by decide +kernel) (fun u12 => [(A 0, .inr (6, [.ref (A 1), .ref (A 2), .ref (A 3), .ref (A 4), .ref (A 5), .ref (A 6), .ref (A 7), .int (f 0), .int (-1)])), (A 1, .inr (4, [.int (f 1), .int (f 3), .int (f 5)])), (A 2, .inr (4, [.int (f 2), .int (f 4), .int (f 6)])), (A 3, .inr (5, [.int (f 7), .int (f 8), .int (f 9), .int (f 10)])), (A 4, .inr (1, [.int (f 11), .int (f 12), .int (f 13), .int (f 14), .int (f 15), .int (f 16), .int (f 17)])), (A 5, .inr (0, [.long rb, .int (f 28)])), (A 6, .inr (0, [.long u12.1, .int u12.2])), (A 7, .inr (7, [.int (f 20), .int (f 21), .int (f 22), .int (f 23), .int (f 24), .int (f 25), .int (f 26), .int (f 27)]))]) (fun _ => rfl) [(A 0, .inr (6, [.ref (A 1), .ref (A 2), .ref (A 3), .ref (A 4), .ref (A 5), .ref (A 6), .ref (A 7), .int (f 0), .int (-1)])), (A 1, .inr (4, [.int (f 1), .int (f 3), .int (f 5)])), (A 2, .inr (4, [.int (f 2), .int (f 4), .int (f 6)])), (A 3, .inr (5, [.int (f 7), .int (f 8), .int (f 9), .int (f 10)])), (A 4, .inr (1, [.int (f 11), .int (f 12), .int (f 13), .int (f 14), .int (f 15), .int (f 16), .int (f 17)])), (A 5, .inr (0, [.long rb, .int (f 28)])), (A 7, .inr (7, [.int (f 20), .int (f 21), .int (f 22), .int (f 23), .int (f 24), .int (f 25), .int (f 26), .int (f 27)]))] rfl (fun _ => rfl) [A 0, A 1, A 2, A 3, A 4, A 5, A 6, A 7] rfl (fun _ => rfl) 8 (fun _ => rfl) (by decide +kernel) (cwV 1 hts gX6_pairUp_X0_append rfl rfl rfl (by decide +kernel) ⟨Nat.le_of_ble_eq_true rfl, Nat.le_of_ble_eq_true rfl⟩) 6 rfl rfl rfl (As := [.int (f 19)]) (rest := []) rfl rfl (Nat.le_of_ble_eq_true rfl) dX6_pairUp_76 rfl ⟨Nat.zero_le _, Nat.zero_le _⟩ (fun u12 eu12 => ?_)
        have zh13 := zl_e zh10 eu12
        refine Z.of (pc' := 80) (fun _ _ _ hl => lv_aload_n hx hb dX6_pairUp_79 rfl (lv_at hl 1 rfl)) ?_
        refine z_get C iX6 0 6 k57 rfl rfl (by decide) rfl rfl dX6_pairUp_80 rfl ?_
        refine Z.of (pc' := 84) (fun _ _ _ hl => lv_dup hx hb dX6_pairUp_83 rfl) ?_
        refine z_get C iX7 7 3 k96 rfl rfl (by decide) rfl rfl dX6_pairUp_84 rfl ?_
        refine Z.of (pc' := 88) (fun _ _ _ _ => lv_iconst (v := 1) hx hb dX6_pairUp_87 (by decide)) ?_
        refine Z.of (pc' := 89) (fun _ _ _ hl => lv_iadd hx hb dX6_pairUp_88) ?_
        refine z_put C iX7 tyX7_ok nmX7 7 3 k96 rfl rfl (by decide) rfl rfl rfl rfl (Nat.le_of_ble_eq_true rfl) dX6_pairUp_89 rfl [(A 0, .inr (6, [.ref (A 1), .ref (A 2), .ref (A 3), .ref (A 4), .ref (A 5), .ref (A 6), .ref (A 7), .int (f 0), .int (-1)])), (A 1, .inr (4, [.int (f 1), .int (f 3), .int (f 5)])), (A 2, .inr (4, [.int (f 2), .int (f 4), .int (f 6)])), (A 3, .inr (5, [.int (f 7), .int (f 8), .int (f 9), .int (f 10)])), (A 4, .inr (1, [.int (f 11), .int (f 12), .int (f 13), .int (f 14), .int (f 15), .int (f 16), .int (f 17)])), (A 5, .inr (0, [.long rb, .int (f 28)])), (A 6, .inr (0, [.long u12.1, .int u12.2])), (A 7, .inr (7, [.int (f 20), .int (f 21), .int (f 22), .int ((f 23) + 1), .int (f 24), .int (f 25), .int (f 26), .int (f 27)]))] rfl ?_
        exact E (upd (upd (upd f 18 u12.2) 19 (-1)) 23 ((f 23) + 1), u12.1) _ _ _ dX6_pairUp_92  rfl zh13
      · have zh11 := zh8.trans (if_neg c9)
        refine Z.of (pc' := 56) (fun _ _ _ hl => lv_aload_n hx hb dX6_pairUp_55 rfl (lv_at hl 1 rfl)) ?_
        refine z_get C iX6 0 6 k57 rfl rfl (by decide) rfl rfl dX6_pairUp_56 rfl ?_
        refine Z.of (pc' := 60) (fun _ _ _ hl => lv_dup hx hb dX6_pairUp_59 rfl) ?_
        refine z_get C iX7 7 4 k190 rfl rfl (by decide) rfl rfl dX6_pairUp_60 rfl ?_
        refine Z.of (pc' := 64) (fun _ _ _ _ => lv_iconst (v := 1) hx hb dX6_pairUp_63 (by decide)) ?_
        refine Z.of (pc' := 65) (fun _ _ _ hl => lv_iadd hx hb dX6_pairUp_64) ?_
        refine z_put C iX7 tyX7_ok nmX7 7 4 k190 rfl rfl (by decide) rfl rfl rfl rfl (Nat.le_of_ble_eq_true rfl) dX6_pairUp_65 rfl [(A 0, .inr (6, [.ref (A 1), .ref (A 2), .ref (A 3), .ref (A 4), .ref (A 5), .ref (A 6), .ref (A 7), .int (f 0), .int (-1)])), (A 1, .inr (4, [.int (f 1), .int (f 3), .int (f 5)])), (A 2, .inr (4, [.int (f 2), .int (f 4), .int (f 6)])), (A 3, .inr (5, [.int (f 7), .int (f 8), .int (f 9), .int (f 10)])), (A 4, .inr (1, [.int (f 11), .int (f 12), .int (f 13), .int (f 14), .int (f 15), .int (f 16), .int (f 17)])), (A 5, .inr (0, [.long rb, .int (f 28)])), (A 6, .inr (0, [.long sb, .int (f 18)])), (A 7, .inr (7, [.int (f 20), .int (f 21), .int (f 22), .int (f 23), .int ((f 24) + 1), .int (f 25), .int (f 26), .int (f 27)]))] rfl ?_
        refine Z.of (pc' := 92) (fun _ _ _ _ => lv_goto hx hb dX6_pairUp_68 (by decide)) ?_
        exact E (upd (upd f 19 (-1)) 24 ((f 24) + 1), sb) _ _ _ dX6_pairUp_92  rfl zh11
    · have zh6 := zh2.trans (if_pos c4)
      refine Z.of (pc' := 30) (fun _ _ _ hl => lv_aload_n hx hb dX6_pairUp_29 rfl (lv_at hl 1 rfl)) ?_
      refine z_get C iX6 0 6 k57 rfl rfl (by decide) rfl rfl dX6_pairUp_30 rfl ?_
      refine Z.of (pc' := 34) (fun _ _ _ hl => lv_dup hx hb dX6_pairUp_33 rfl) ?_
      refine z_get C iX7 7 2 k184 rfl rfl (by decide) rfl rfl dX6_pairUp_34 rfl ?_
      refine Z.of (pc' := 38) (fun _ _ _ _ => lv_iconst (v := 1) hx hb dX6_pairUp_37 (by decide)) ?_
      refine Z.of (pc' := 39) (fun _ _ _ hl => lv_iadd hx hb dX6_pairUp_38) ?_
      refine z_put C iX7 tyX7_ok nmX7 7 2 k184 rfl rfl (by decide) rfl rfl rfl rfl (Nat.le_of_ble_eq_true rfl) dX6_pairUp_39 rfl [(A 0, .inr (6, [.ref (A 1), .ref (A 2), .ref (A 3), .ref (A 4), .ref (A 5), .ref (A 6), .ref (A 7), .int (f 0), .int (-1)])), (A 1, .inr (4, [.int (f 1), .int (f 3), .int (f 5)])), (A 2, .inr (4, [.int (f 2), .int (f 4), .int (f 6)])), (A 3, .inr (5, [.int (f 7), .int (f 8), .int (f 9), .int (f 10)])), (A 4, .inr (1, [.int (f 11), .int (f 12), .int (f 13), .int (f 14), .int (f 15), .int (f 16), .int (f 17)])), (A 5, .inr (0, [.long rb, .int (f 28)])), (A 6, .inr (0, [.long sb, .int (f 18)])), (A 7, .inr (7, [.int (f 20), .int (f 21), .int ((f 22) + 1), .int (f 23), .int (f 24), .int (f 25), .int (f 26), .int (f 27)]))] rfl ?_
      refine Z.of (pc' := 92) (fun _ _ _ _ => lv_goto hx hb dX6_pairUp_42 (by decide)) ?_
      exact E (upd (upd f 19 (-1)) 22 ((f 22) + 1), sb) _ _ _ dX6_pairUp_92  rfl zh6
  · have zh3 := zh0.trans (if_pos c1)
    refine Z.of (pc' := 9) (fun _ _ _ hl => lv_aload_n hx hb dX6_pairUp_8 rfl (lv_at hl 0 rfl)) ?_
    refine Z.of (pc' := 10) (fun _ _ _ hl => lv_iload_n hx hb dX6_pairUp_9 rfl (lv_at hl 1 rfl)) ?_
    refine z_put C iX6 tyX6_ok nmX6 0 8 k15 rfl rfl (by decide) rfl rfl rfl rfl (Nat.le_of_ble_eq_true rfl) dX6_pairUp_10 rfl [(A 0, .inr (6, [.ref (A 1), .ref (A 2), .ref (A 3), .ref (A 4), .ref (A 5), .ref (A 6), .ref (A 7), .int (f 0), .int bit])), (A 1, .inr (4, [.int (f 1), .int (f 3), .int (f 5)])), (A 2, .inr (4, [.int (f 2), .int (f 4), .int (f 6)])), (A 3, .inr (5, [.int (f 7), .int (f 8), .int (f 9), .int (f 10)])), (A 4, .inr (1, [.int (f 11), .int (f 12), .int (f 13), .int (f 14), .int (f 15), .int (f 16), .int (f 17)])), (A 5, .inr (0, [.long rb, .int (f 28)])), (A 6, .inr (0, [.long sb, .int (f 18)])), (A 7, .inr (7, [.int (f 20), .int (f 21), .int (f 22), .int (f 23), .int (f 24), .int (f 25), .int (f 26), .int (f 27)]))] rfl ?_
    exact E (upd f 19 bit, sb) _ _ _ dX6_pairUp_13  rfl zh3
def f_X6_takeRawBit (f : Nat → Int32) (rb : Int64) (sb : Int64) (bit : Int32) : (Nat → Int32) × Int64 × Int64 :=
  zl (f_X0_append rb (f 28) bit) fun u1 =>
  if (f 11) = 2 then
    (upd (upd (upd f 20 ((f 20) + 1)) 21 ((f 21) + bit)) 28 u1.2, u1.1, sb)
  else
    zl (
      if (f 11) = 1 then
        1
      else
        0
      : Int32) fun v7 =>
    zl (f_X1_judge (f 11) (f 12) (f 13) (f 14) (f 15) (f 16) (f 17) (f 7) (f 8) (f 9) (f 10) bit) fun u11 =>
    zl (if (f 27) < u11.2.2.2.1 then u11.2.2.2.1 else (f 27) : Int32) fun y13 =>
    if u11.1 = 2 then
      (upd (upd (upd (upd (upd (upd (upd (upd (upd (upd (upd (upd (upd f 11 u11.1) 12 u11.2.1) 13 u11.2.2.1) 14 u11.2.2.2.1) 15 bit) 16 u11.2.2.2.2.1) 17 u11.2.2.2.2.2) 19 (-1)) 20 ((f 20) + 1)) 21 ((f 21) + bit)) 26 ((f 26) + 1)) 27 y13) 28 u1.2, u1.1, sb)
    else
      if v7 = 0 then
        (upd (upd (upd (upd (upd (upd (upd (upd (upd (upd (upd f 11 u11.1) 12 u11.2.1) 13 u11.2.2.1) 14 u11.2.2.2.1) 15 bit) 16 u11.2.2.2.2.1) 17 u11.2.2.2.2.2) 20 ((f 20) + 1)) 21 ((f 21) + bit)) 27 y13) 28 u1.2, u1.1, sb)
      else
        zl (f_X6_pairUp (upd (upd (upd (upd (upd (upd (upd (upd (upd (upd (upd f 11 u11.1) 12 u11.2.1) 13 u11.2.2.1) 14 u11.2.2.2.1) 15 bit) 16 u11.2.2.2.2.1) 17 u11.2.2.2.2.2) 20 ((f 20) + 1)) 21 ((f 21) + bit)) 27 y13) 28 u1.2) u1.1 sb bit) fun u21 =>
        (u21.1, u1.1, u21.2)
theorem fe_X6_takeRawBit (f : Nat → Int32) (rb : Int64) (sb : Int64) (bit : Int32) : f_X6_takeRawBit f rb sb bit = (
    zl (f_X0_append rb (f 28) bit) fun u1 =>
    if (f 11) = 2 then
      (upd (upd (upd f 20 ((f 20) + 1)) 21 ((f 21) + bit)) 28 u1.2, u1.1, sb)
    else
      zl (
        if (f 11) = 1 then
          1
        else
          0
        : Int32) fun v7 =>
      zl (f_X1_judge (f 11) (f 12) (f 13) (f 14) (f 15) (f 16) (f 17) (f 7) (f 8) (f 9) (f 10) bit) fun u11 =>
      zl (if (f 27) < u11.2.2.2.1 then u11.2.2.2.1 else (f 27) : Int32) fun y13 =>
      if u11.1 = 2 then
        (upd (upd (upd (upd (upd (upd (upd (upd (upd (upd (upd (upd (upd f 11 u11.1) 12 u11.2.1) 13 u11.2.2.1) 14 u11.2.2.2.1) 15 bit) 16 u11.2.2.2.2.1) 17 u11.2.2.2.2.2) 19 (-1)) 20 ((f 20) + 1)) 21 ((f 21) + bit)) 26 ((f 26) + 1)) 27 y13) 28 u1.2, u1.1, sb)
      else
        if v7 = 0 then
          (upd (upd (upd (upd (upd (upd (upd (upd (upd (upd (upd f 11 u11.1) 12 u11.2.1) 13 u11.2.2.1) 14 u11.2.2.2.1) 15 bit) 16 u11.2.2.2.2.1) 17 u11.2.2.2.2.2) 20 ((f 20) + 1)) 21 ((f 21) + bit)) 27 y13) 28 u1.2, u1.1, sb)
        else
          zl (f_X6_pairUp (upd (upd (upd (upd (upd (upd (upd (upd (upd (upd (upd f 11 u11.1) 12 u11.2.1) 13 u11.2.2.1) 14 u11.2.2.2.1) 15 bit) 16 u11.2.2.2.2.1) 17 u11.2.2.2.2.2) 20 ((f 20) + 1)) 21 ((f 21) + bit)) 27 y13) 28 u1.2) u1.1 sb bit) fun u21 =>
          (u21.1, u1.1, u21.2)
    ) := rfl
abbrev rm_X6_takeRawBit : Room := { frames := 2, cells := 0, slots := 0, locals := 46 }
set_option maxHeartbeats 1000000 in
set_option maxRecDepth 100000 in
theorem c_X6_takeRawBit (l : Launch) (T : zT) (A : Nat → Nat) (f : Nat → Int32) (rb : Int64) (sb : Int64) (bit : Int32) : Cv l yX6_takeRawBit wsX6_takeRawBit rm_X6_takeRawBit T [.ref (A 0), .int bit] [(A 0, .inr (6, [.ref (A 1), .ref (A 2), .ref (A 3), .ref (A 4), .ref (A 5), .ref (A 6), .ref (A 7), .int (f 0), .int (f 19)])), (A 1, .inr (4, [.int (f 1), .int (f 3), .int (f 5)])), (A 2, .inr (4, [.int (f 2), .int (f 4), .int (f 6)])), (A 3, .inr (5, [.int (f 7), .int (f 8), .int (f 9), .int (f 10)])), (A 4, .inr (1, [.int (f 11), .int (f 12), .int (f 13), .int (f 14), .int (f 15), .int (f 16), .int (f 17)])), (A 5, .inr (0, [.long rb, .int (f 28)])), (A 6, .inr (0, [.long sb, .int (f 18)])), (A 7, .inr (7, [.int (f 20), .int (f 21), .int (f 22), .int (f 23), .int (f 24), .int (f 25), .int (f 26), .int (f 27)]))] (S := (Nat → Int32) × Int64 × Int64) (f_X6_takeRawBit f rb sb bit) (fun u => [(A 0, .inr (6, [.ref (A 1), .ref (A 2), .ref (A 3), .ref (A 4), .ref (A 5), .ref (A 6), .ref (A 7), .int (u.1 0), .int (u.1 19)])), (A 1, .inr (4, [.int (u.1 1), .int (u.1 3), .int (u.1 5)])), (A 2, .inr (4, [.int (u.1 2), .int (u.1 4), .int (u.1 6)])), (A 3, .inr (5, [.int (u.1 7), .int (u.1 8), .int (u.1 9), .int (u.1 10)])), (A 4, .inr (1, [.int (u.1 11), .int (u.1 12), .int (u.1 13), .int (u.1 14), .int (u.1 15), .int (u.1 16), .int (u.1 17)])), (A 5, .inr (0, [.long u.2.1, .int (u.1 28)])), (A 6, .inr (0, [.long u.2.2, .int (u.1 18)])), (A 7, .inr (7, [.int (u.1 20), .int (u.1 21), .int (u.1 22), .int (u.1 23), .int (u.1 24), .int (u.1 25), .int (u.1 26), .int (u.1 27)]))]) := by
  refine z_metV (own := RX6) (maxL := 3) rfl (by decide) rfl (Nat.le_of_ble_eq_true rfl) ?_
  intro P0 E0 S0 M0 G0 B0 T0 K0 A9 Q9 C E
  have hx := C.1.1
  have hb := C.1.2.1
  have hown := C.1.2.2.2.1
  have hts := C.1.2.2.2.2
  have hn := C.2.1.2
  have iX1 : ∀ w ∈ u_ws RX1 TX1 7, w ∈ wsX6_takeRawBit := by decide +kernel
  have iX6 : ∀ w ∈ u_ws RX6 TX6 9, w ∈ wsX6_takeRawBit := by decide +kernel
  have iX7 : ∀ w ∈ u_ws RX7 TX7 8, w ∈ wsX6_takeRawBit := by decide +kernel
  have k15 := hts (.fieldLink RX6 15 "JudgedBits$Source" "waiting" "I") (by decide +kernel)
  have k33 := hts (.fieldLink RX6 33 "JudgedBits$Source" "settings" "LJudgedBits$Settings;") (by decide +kernel)
  have k40 := hts (.fieldLink RX6 40 "JudgedBits$Source" "health" "LJudgedBits$Health;") (by decide +kernel)
  have k47 := hts (.fieldLink RX6 47 "JudgedBits$Source" "rawBits" "LJudgedBits$BitRow;") (by decide +kernel)
  have k57 := hts (.fieldLink RX6 57 "JudgedBits$Source" "tally" "LJudgedBits$Tally;") (by decide +kernel)
  have k109 := hts (.fieldLink RX6 109 "JudgedBits$Health" "mode" "I") (by decide +kernel)
  have k158 := hts (.fieldLink RX6 158 "JudgedBits$Tally" "samples" "I") (by decide +kernel)
  have k161 := hts (.fieldLink RX6 161 "JudgedBits$Tally" "ones" "I") (by decide +kernel)
  have k168 := hts (.fieldLink RX6 168 "JudgedBits$Tally" "longestRun" "I") (by decide +kernel)
  have k171 := hts (.fieldLink RX6 171 "JudgedBits$Health" "run" "I") (by decide +kernel)
  have k178 := hts (.fieldLink RX6 178 "JudgedBits$Tally" "alarms" "I") (by decide +kernel)
  change Z P0 l E0 rm_X6_takeRawBit S0 M0 G0 B0 T0 K0 3 T A9 Q9 0 0 [(A 0, .inr (6, [.ref (A 1), .ref (A 2), .ref (A 3), .ref (A 4), .ref (A 5), .ref (A 6), .ref (A 7), .int (f 0), .int (f 19)])), (A 1, .inr (4, [.int (f 1), .int (f 3), .int (f 5)])), (A 2, .inr (4, [.int (f 2), .int (f 4), .int (f 6)])), (A 3, .inr (5, [.int (f 7), .int (f 8), .int (f 9), .int (f 10)])), (A 4, .inr (1, [.int (f 11), .int (f 12), .int (f 13), .int (f 14), .int (f 15), .int (f 16), .int (f 17)])), (A 5, .inr (0, [.long rb, .int (f 28)])), (A 6, .inr (0, [.long sb, .int (f 18)])), (A 7, .inr (7, [.int (f 20), .int (f 21), .int (f 22), .int (f 23), .int (f 24), .int (f 25), .int (f 26), .int (f 27)]))] 0 [(0, .ref (A 0)), (1, .int bit)] []
  have zh0 := fe_X6_takeRawBit f rb sb bit
  refine Z.of (pc' := 1) (fun _ _ _ hl => lv_aload_n hx hb dX6_takeRawBit_0 rfl (lv_at hl 0 rfl)) ?_
  refine z_get C iX6 0 4 k47 rfl rfl (by decide) rfl rfl dX6_takeRawBit_1 rfl ?_
  refine Z.of (pc' := 5) (fun _ _ _ hl => lv_iload_n hx hb dX6_takeRawBit_4 rfl (lv_at hl 1 rfl)) ?_
  refine z_callVv C (c_X0_append l T (A 5) rb (f 28) bit) [5] [0, 1, 2, 3, 4, 6, 7] rfl (by decide +kernel) (fun u1 => [(A 0, .inr (6, [.ref (A 1), .ref (A 2), .ref (A 3), .ref (A 4), .ref (A 5), .ref (A 6), .ref (A 7), .int (f 0), .int (f 19)])), (A 1, .inr (4, [.int (f 1), .int (f 3), .int (f 5)])), (A 2, .inr (4, [.int (f 2), .int (f 4), .int (f 6)])), (A 3, .inr (5, [.int (f 7), .int (f 8), .int (f 9), .int (f 10)])), (A 4, .inr (1, [.int (f 11), .int (f 12), .int (f 13), .int (f 14), .int (f 15), .int (f 16), .int (f 17)])), (A 5, .inr (0, [.long u1.1, .int u1.2])), (A 6, .inr (0, [.long sb, .int (f 18)])), (A 7, .inr (7, [.int (f 20), .int (f 21), .int (f 22), .int (f 23), .int (f 24), .int (f 25), .int (f 26), .int (f 27)]))]) (fun _ => rfl) [(A 0, .inr (6, [.ref (A 1), .ref (A 2), .ref (A 3), .ref (A 4), .ref (A 5), .ref (A 6), .ref (A 7), .int (f 0), .int (f 19)])), (A 1, .inr (4, [.int (f 1), .int (f 3), .int (f 5)])), (A 2, .inr (4, [.int (f 2), .int (f 4), .int (f 6)])), (A 3, .inr (5, [.int (f 7), .int (f 8), .int (f 9), .int (f 10)])), (A 4, .inr (1, [.int (f 11), .int (f 12), .int (f 13), .int (f 14), .int (f 15), .int (f 16), .int (f 17)])), (A 6, .inr (0, [.long sb, .int (f 18)])), (A 7, .inr (7, [.int (f 20), .int (f 21), .int (f 22), .int (f 23), .int (f 24), .int (f 25), .int (f 26), .int (f 27)]))] rfl (fun _ => rfl) [A 0, A 1, A 2, A 3, A 4, A 5, A 6, A 7] rfl (fun _ => rfl) 8 (fun _ => rfl) (by decide +kernel) (cwV 1 hts gX6_takeRawBit_X0_append rfl rfl rfl (by decide +kernel) ⟨Nat.le_of_ble_eq_true rfl, Nat.le_of_ble_eq_true rfl⟩) 5 rfl rfl rfl (As := [.int bit]) (rest := []) rfl rfl (Nat.le_of_ble_eq_true rfl) dX6_takeRawBit_5 rfl ⟨Nat.zero_le _, Nat.zero_le _⟩ (fun u1 eu1 => ?_)
  have zh2 := zl_e zh0 eu1
  refine Z.of (pc' := 9) (fun _ _ _ hl => lv_aload_n hx hb dX6_takeRawBit_8 rfl (lv_at hl 0 rfl)) ?_
  refine z_get C iX6 0 6 k57 rfl rfl (by decide) rfl rfl dX6_takeRawBit_9 rfl ?_
  refine Z.of (pc' := 13) (fun _ _ _ hl => lv_dup hx hb dX6_takeRawBit_12 rfl) ?_
  refine z_get C iX7 7 0 k158 rfl rfl (by decide) rfl rfl dX6_takeRawBit_13 rfl ?_
  refine Z.of (pc' := 17) (fun _ _ _ _ => lv_iconst (v := 1) hx hb dX6_takeRawBit_16 (by decide)) ?_
  refine Z.of (pc' := 18) (fun _ _ _ hl => lv_iadd hx hb dX6_takeRawBit_17) ?_
  refine z_put C iX7 tyX7_ok nmX7 7 0 k158 rfl rfl (by decide) rfl rfl rfl rfl (Nat.le_of_ble_eq_true rfl) dX6_takeRawBit_18 rfl [(A 0, .inr (6, [.ref (A 1), .ref (A 2), .ref (A 3), .ref (A 4), .ref (A 5), .ref (A 6), .ref (A 7), .int (f 0), .int (f 19)])), (A 1, .inr (4, [.int (f 1), .int (f 3), .int (f 5)])), (A 2, .inr (4, [.int (f 2), .int (f 4), .int (f 6)])), (A 3, .inr (5, [.int (f 7), .int (f 8), .int (f 9), .int (f 10)])), (A 4, .inr (1, [.int (f 11), .int (f 12), .int (f 13), .int (f 14), .int (f 15), .int (f 16), .int (f 17)])), (A 5, .inr (0, [.long u1.1, .int u1.2])), (A 6, .inr (0, [.long sb, .int (f 18)])), (A 7, .inr (7, [.int ((f 20) + 1), .int (f 21), .int (f 22), .int (f 23), .int (f 24), .int (f 25), .int (f 26), .int (f 27)]))] rfl ?_
  refine Z.of (pc' := 22) (fun _ _ _ hl => lv_aload_n hx hb dX6_takeRawBit_21 rfl (lv_at hl 0 rfl)) ?_
  refine z_get C iX6 0 6 k57 rfl rfl (by decide) rfl rfl dX6_takeRawBit_22 rfl ?_
  refine Z.of (pc' := 26) (fun _ _ _ hl => lv_dup hx hb dX6_takeRawBit_25 rfl) ?_
  refine z_get C iX7 7 1 k161 rfl rfl (by decide) rfl rfl dX6_takeRawBit_26 rfl ?_
  refine Z.of (pc' := 30) (fun _ _ _ hl => lv_iload_n hx hb dX6_takeRawBit_29 rfl (lv_at hl 1 rfl)) ?_
  refine Z.of (pc' := 31) (fun _ _ _ hl => lv_iadd hx hb dX6_takeRawBit_30) ?_
  refine z_put C iX7 tyX7_ok nmX7 7 1 k161 rfl rfl (by decide) rfl rfl rfl rfl (Nat.le_of_ble_eq_true rfl) dX6_takeRawBit_31 rfl [(A 0, .inr (6, [.ref (A 1), .ref (A 2), .ref (A 3), .ref (A 4), .ref (A 5), .ref (A 6), .ref (A 7), .int (f 0), .int (f 19)])), (A 1, .inr (4, [.int (f 1), .int (f 3), .int (f 5)])), (A 2, .inr (4, [.int (f 2), .int (f 4), .int (f 6)])), (A 3, .inr (5, [.int (f 7), .int (f 8), .int (f 9), .int (f 10)])), (A 4, .inr (1, [.int (f 11), .int (f 12), .int (f 13), .int (f 14), .int (f 15), .int (f 16), .int (f 17)])), (A 5, .inr (0, [.long u1.1, .int u1.2])), (A 6, .inr (0, [.long sb, .int (f 18)])), (A 7, .inr (7, [.int ((f 20) + 1), .int ((f 21) + bit), .int (f 22), .int (f 23), .int (f 24), .int (f 25), .int (f 26), .int (f 27)]))] rfl ?_
  refine Z.of (pc' := 35) (fun _ _ _ hl => lv_aload_n hx hb dX6_takeRawBit_34 rfl (lv_at hl 0 rfl)) ?_
  refine z_get C iX6 0 3 k40 rfl rfl (by decide) rfl rfl dX6_takeRawBit_35 rfl ?_
  refine z_get C iX1 4 0 k109 rfl rfl (by decide) rfl rfl dX6_takeRawBit_38 rfl ?_
  refine Z.of (pc' := 42) (fun _ _ _ _ => lv_iconst (v := 2) hx hb dX6_takeRawBit_41 (by decide)) ?_
  refine Z.two' (pt := 46) (pf := 45) (fun _ _ _ _ => lv_icmp_ne hx hb dX6_takeRawBit_42 (by decide)) (fun c3 => ?_) (fun c3 => ?_)
  · have zh4 := zh2.trans (if_neg c3)
    refine Z.of (pc' := 47) (fun _ _ _ hl => lv_aload_n hx hb dX6_takeRawBit_46 rfl (lv_at hl 0 rfl)) ?_
    refine z_get C iX6 0 3 k40 rfl rfl (by decide) rfl rfl dX6_takeRawBit_47 rfl ?_
    refine z_get C iX1 4 0 k109 rfl rfl (by decide) rfl rfl dX6_takeRawBit_50 rfl ?_
    refine Z.of (pc' := 54) (fun _ _ _ _ => lv_iconst (v := 1) hx hb dX6_takeRawBit_53 (by decide)) ?_
    have J7 : ∀ v7 : Int32, v7 = (
        if (f 11) = 1 then
          1
        else
          0
        ) → Z P0 l E0 rm_X6_takeRawBit S0 M0 G0 B0 T0 K0 3 T A9 Q9 0 0 [(A 0, .inr (6, [.ref (A 1), .ref (A 2), .ref (A 3), .ref (A 4), .ref (A 5), .ref (A 6), .ref (A 7), .int (f 0), .int (f 19)])), (A 1, .inr (4, [.int (f 1), .int (f 3), .int (f 5)])), (A 2, .inr (4, [.int (f 2), .int (f 4), .int (f 6)])), (A 3, .inr (5, [.int (f 7), .int (f 8), .int (f 9), .int (f 10)])), (A 4, .inr (1, [.int (f 11), .int (f 12), .int (f 13), .int (f 14), .int (f 15), .int (f 16), .int (f 17)])), (A 5, .inr (0, [.long u1.1, .int u1.2])), (A 6, .inr (0, [.long sb, .int (f 18)])), (A 7, .inr (7, [.int ((f 20) + 1), .int ((f 21) + bit), .int (f 22), .int (f 23), .int (f 24), .int (f 25), .int (f 26), .int (f 27)]))] 62 [(0, .ref (A 0)), (1, .int bit)] [.int v7] := by
      intro v7 ev7
      have zh10 := zl_e zh4 ev7
      refine Z.sto (pc' := 63) (lv' := [(2, .int v7), (0, .ref (A 0)), (1, .int bit)]) (fun _ _ _ hl => lv_istore_n (lv' := [(2, .int v7), (0, .ref (A 0)), (1, .int bit)]) hx hb dX6_takeRawBit_62 rfl hl (by decide) rfl) ?_
      refine Z.of (pc' := 64) (fun _ _ _ hl => lv_aload_n hx hb dX6_takeRawBit_63 rfl (lv_at hl 1 rfl)) ?_
      refine z_get C iX6 0 3 k40 rfl rfl (by decide) rfl rfl dX6_takeRawBit_64 rfl ?_
      refine Z.of (pc' := 68) (fun _ _ _ hl => lv_iload_n hx hb dX6_takeRawBit_67 rfl (lv_at hl 2 rfl)) ?_
      refine Z.of (pc' := 69) (fun _ _ _ hl => lv_aload_n hx hb dX6_takeRawBit_68 rfl (lv_at hl 1 rfl)) ?_
      refine z_get C iX6 0 2 k33 rfl rfl (by decide) rfl rfl dX6_takeRawBit_69 rfl ?_
      refine z_callVv C (c_X1_judge l T (A 4) (A 3) (f 11) (f 12) (f 13) (f 14) (f 15) (f 16) (f 17) (f 7) (f 8) (f 9) (f 10) bit) [4, 3] [0, 1, 2, 5, 6, 7] rfl (by decide +kernel) (fun u11 => [(A 0, .inr (6, [.ref (A 1), .ref (A 2), .ref (A 3), .ref (A 4), .ref (A 5), .ref (A 6), .ref (A 7), .int (f 0), .int (f 19)])), (A 1, .inr (4, [.int (f 1), .int (f 3), .int (f 5)])), (A 2, .inr (4, [.int (f 2), .int (f 4), .int (f 6)])), (A 3, .inr (5, [.int (f 7), .int (f 8), .int (f 9), .int (f 10)])), (A 4, .inr (1, [.int u11.1, .int u11.2.1, .int u11.2.2.1, .int u11.2.2.2.1, .int bit, .int u11.2.2.2.2.1, .int u11.2.2.2.2.2])), (A 5, .inr (0, [.long u1.1, .int u1.2])), (A 6, .inr (0, [.long sb, .int (f 18)])), (A 7, .inr (7, [.int ((f 20) + 1), .int ((f 21) + bit), .int (f 22), .int (f 23), .int (f 24), .int (f 25), .int (f 26), .int (f 27)]))]) (fun _ => rfl) [(A 0, .inr (6, [.ref (A 1), .ref (A 2), .ref (A 3), .ref (A 4), .ref (A 5), .ref (A 6), .ref (A 7), .int (f 0), .int (f 19)])), (A 1, .inr (4, [.int (f 1), .int (f 3), .int (f 5)])), (A 2, .inr (4, [.int (f 2), .int (f 4), .int (f 6)])), (A 5, .inr (0, [.long u1.1, .int u1.2])), (A 6, .inr (0, [.long sb, .int (f 18)])), (A 7, .inr (7, [.int ((f 20) + 1), .int ((f 21) + bit), .int (f 22), .int (f 23), .int (f 24), .int (f 25), .int (f 26), .int (f 27)]))] rfl (fun _ => rfl) [A 0, A 1, A 2, A 3, A 4, A 5, A 6, A 7] rfl (fun _ => rfl) 8 (fun _ => rfl) (by decide +kernel) (cwV 2 hts gX6_takeRawBit_X1_judge rfl rfl rfl (by decide +kernel) ⟨Nat.le_of_ble_eq_true rfl, Nat.le_of_ble_eq_true rfl⟩) 4 rfl rfl rfl (As := [.int bit, .ref (A 3)]) (rest := []) rfl rfl (Nat.le_of_ble_eq_true rfl) dX6_takeRawBit_72 rfl ⟨Nat.zero_le _, Nat.zero_le _⟩ (fun u11 eu11 => ?_)
      have zh12 := zl_e zh10 eu11
      refine Z.of (pc' := 76) (fun _ _ _ hl => lv_aload_n hx hb dX6_takeRawBit_75 rfl (lv_at hl 1 rfl)) ?_
      refine z_get C iX6 0 6 k57 rfl rfl (by decide) rfl rfl dX6_takeRawBit_76 rfl ?_
      refine Z.of (pc' := 80) (fun _ _ _ hl => lv_aload_n hx hb dX6_takeRawBit_79 rfl (lv_at hl 1 rfl)) ?_
      refine z_get C iX6 0 6 k57 rfl rfl (by decide) rfl rfl dX6_takeRawBit_80 rfl ?_
      refine z_get C iX7 7 7 k168 rfl rfl (by decide) rfl rfl dX6_takeRawBit_83 rfl ?_
      refine Z.of (pc' := 87) (fun _ _ _ hl => lv_aload_n hx hb dX6_takeRawBit_86 rfl (lv_at hl 1 rfl)) ?_
      refine z_get C iX6 0 3 k40 rfl rfl (by decide) rfl rfl dX6_takeRawBit_87 rfl ?_
      refine z_get C iX1 4 3 k171 rfl rfl (by decide) rfl rfl dX6_takeRawBit_90 rfl ?_
      refine Z.of (pc' := 96) (fun _ _ _ hl => va_mmax hx hb (C.1.2.2.1.trans hl.1.symm) hown (hts (.methodLink RX6 174 Lib.Math.max.name) (by decide +kernel)) (hts (.static Lib.Math.max.name) (by decide +kernel)) (hts (.initialized "java/lang/Math") (by decide +kernel)) (hts (.code Lib.Math.max.name Lib.Math.max.code 2 (some .int)) (by decide +kernel)) (Nat.le_of_ble_eq_true rfl) (Nat.le_of_ble_eq_true rfl) (Nat.zero_le _) (Nat.zero_le _) dX6_takeRawBit_93) ?_
      refine Z.topi (fun y13 ey13 => ?_)
      have zh14 := zl_e zh12 ey13
      refine z_put C iX7 tyX7_ok nmX7 7 7 k168 rfl rfl (by decide) rfl rfl rfl rfl (Nat.le_of_ble_eq_true rfl) dX6_takeRawBit_96 rfl [(A 0, .inr (6, [.ref (A 1), .ref (A 2), .ref (A 3), .ref (A 4), .ref (A 5), .ref (A 6), .ref (A 7), .int (f 0), .int (f 19)])), (A 1, .inr (4, [.int (f 1), .int (f 3), .int (f 5)])), (A 2, .inr (4, [.int (f 2), .int (f 4), .int (f 6)])), (A 3, .inr (5, [.int (f 7), .int (f 8), .int (f 9), .int (f 10)])), (A 4, .inr (1, [.int u11.1, .int u11.2.1, .int u11.2.2.1, .int u11.2.2.2.1, .int bit, .int u11.2.2.2.2.1, .int u11.2.2.2.2.2])), (A 5, .inr (0, [.long u1.1, .int u1.2])), (A 6, .inr (0, [.long sb, .int (f 18)])), (A 7, .inr (7, [.int ((f 20) + 1), .int ((f 21) + bit), .int (f 22), .int (f 23), .int (f 24), .int (f 25), .int (f 26), .int y13]))] rfl ?_
      refine Z.of (pc' := 100) (fun _ _ _ hl => lv_aload_n hx hb dX6_takeRawBit_99 rfl (lv_at hl 1 rfl)) ?_
      refine z_get C iX6 0 3 k40 rfl rfl (by decide) rfl rfl dX6_takeRawBit_100 rfl ?_
      refine z_get C iX1 4 0 k109 rfl rfl (by decide) rfl rfl dX6_takeRawBit_103 rfl ?_
      refine Z.of (pc' := 107) (fun _ _ _ _ => lv_iconst (v := 2) hx hb dX6_takeRawBit_106 (by decide)) ?_
      refine Z.two' (pt := 131) (pf := 110) (fun _ _ _ _ => lv_icmp_ne hx hb dX6_takeRawBit_107 (by decide)) (fun c15 => ?_) (fun c15 => ?_)
      · have zh16 := zh14.trans (if_neg c15)
        refine Z.of (pc' := 132) (fun _ _ _ hl => lv_iload_n hx hb dX6_takeRawBit_131 rfl (lv_at hl 0 rfl)) ?_
        refine Z.two (pt := 140) (pf := 135) (fun _ _ _ _ => lv_if_eq hx hb dX6_takeRawBit_132 (by decide)) (fun c18 => ?_) (fun c18 => ?_)
        · have zh19 := zh16.trans (if_pos c18)
          exact E (upd (upd (upd (upd (upd (upd (upd (upd (upd (upd (upd f 11 u11.1) 12 u11.2.1) 13 u11.2.2.1) 14 u11.2.2.2.1) 15 bit) 16 u11.2.2.2.2.1) 17 u11.2.2.2.2.2) 20 ((f 20) + 1)) 21 ((f 21) + bit)) 27 y13) 28 u1.2, u1.1, sb) _ _ _ dX6_takeRawBit_140  rfl zh19
        · have zh20 := zh16.trans (if_neg c18)
          refine Z.of (pc' := 136) (fun _ _ _ hl => lv_aload_n hx hb dX6_takeRawBit_135 rfl (lv_at hl 1 rfl)) ?_
          refine Z.of (pc' := 137) (fun _ _ _ hl => lv_iload_n hx hb dX6_takeRawBit_136 rfl (lv_at hl 2 rfl)) ?_
          refine z_callVv C (c_X6_pairUp l T A (upd (upd (upd (upd (upd (upd (upd (upd (upd (upd (upd f 11 u11.1) 12 u11.2.1) 13 u11.2.2.1) 14 u11.2.2.2.1) 15 bit) 16 u11.2.2.2.2.1) 17 u11.2.2.2.2.2) 20 ((f 20) + 1)) 21 ((f 21) + bit)) 27 y13) 28 u1.2) u1.1 sb bit) [0, 1, 2, 3, 4, 5, 6, 7] [] rfl (by decide +kernel) (fun u21 => [(A 0, .inr (6, [.ref (A 1), .ref (A 2), .ref (A 3), .ref (A 4), .ref (A 5), .ref (A 6), .ref (A 7), .int (u21.1 0), .int (u21.1 19)])), (A 1, .inr (4, [.int (u21.1 1), .int (u21.1 3), .int (u21.1 5)])), (A 2, .inr (4, [.int (u21.1 2), .int (u21.1 4), .int (u21.1 6)])), (A 3, .inr (5, [.int (u21.1 7), .int (u21.1 8), .int (u21.1 9), .int (u21.1 10)])), (A 4, .inr (1, [.int (u21.1 11), .int (u21.1 12), .int (u21.1 13), .int (u21.1 14), .int (u21.1 15), .int (u21.1 16), .int (u21.1 17)])), (A 5, .inr (0, [.long u1.1, .int (u21.1 28)])), (A 6, .inr (0, [.long u21.2, .int (u21.1 18)])), (A 7, .inr (7, [.int (u21.1 20), .int (u21.1 21), .int (u21.1 22), .int (u21.1 23), .int (u21.1 24), .int (u21.1 25), .int (u21.1 26), .int (u21.1 27)]))]) (fun _ => rfl) [] rfl (fun _ => rfl) [A 0, A 1, A 2, A 3, A 4, A 5, A 6, A 7] rfl (fun _ => rfl) 8 (fun _ => rfl) (by decide +kernel) (cwV 1 hts gX6_takeRawBit_X6_pairUp rfl rfl rfl (by decide +kernel) ⟨Nat.le_of_ble_eq_true rfl, Nat.le_of_ble_eq_true rfl⟩) 0 rfl rfl rfl (As := [.int bit]) (rest := []) rfl rfl (Nat.le_of_ble_eq_true rfl) dX6_takeRawBit_137 rfl ⟨Nat.zero_le _, Nat.zero_le _⟩ (fun u21 eu21 => ?_)
          have zh22 := zl_e zh20 eu21
          exact E (u21.1, u1.1, u21.2) _ _ _ dX6_takeRawBit_140  rfl zh22
      · have zh17 := zh14.trans (if_pos c15)
        refine Z.of (pc' := 111) (fun _ _ _ hl => lv_aload_n hx hb dX6_takeRawBit_110 rfl (lv_at hl 1 rfl)) ?_
        refine z_get C iX6 0 6 k57 rfl rfl (by decide) rfl rfl dX6_takeRawBit_111 rfl ?_
        refine Z.of (pc' := 115) (fun _ _ _ hl => lv_dup hx hb dX6_takeRawBit_114 rfl) ?_
        refine z_get C iX7 7 6 k178 rfl rfl (by decide) rfl rfl dX6_takeRawBit_115 rfl ?_
        refine Z.of (pc' := 119) (fun _ _ _ _ => lv_iconst (v := 1) hx hb dX6_takeRawBit_118 (by decide)) ?_
        refine Z.of (pc' := 120) (fun _ _ _ hl => lv_iadd hx hb dX6_takeRawBit_119) ?_
        refine z_put C iX7 tyX7_ok nmX7 7 6 k178 rfl rfl (by decide) rfl rfl rfl rfl (Nat.le_of_ble_eq_true rfl) dX6_takeRawBit_120 rfl [(A 0, .inr (6, [.ref (A 1), .ref (A 2), .ref (A 3), .ref (A 4), .ref (A 5), .ref (A 6), .ref (A 7), .int (f 0), .int (f 19)])), (A 1, .inr (4, [.int (f 1), .int (f 3), .int (f 5)])), (A 2, .inr (4, [.int (f 2), .int (f 4), .int (f 6)])), (A 3, .inr (5, [.int (f 7), .int (f 8), .int (f 9), .int (f 10)])), (A 4, .inr (1, [.int u11.1, .int u11.2.1, .int u11.2.2.1, .int u11.2.2.2.1, .int bit, .int u11.2.2.2.2.1, .int u11.2.2.2.2.2])), (A 5, .inr (0, [.long u1.1, .int u1.2])), (A 6, .inr (0, [.long sb, .int (f 18)])), (A 7, .inr (7, [.int ((f 20) + 1), .int ((f 21) + bit), .int (f 22), .int (f 23), .int (f 24), .int (f 25), .int ((f 26) + 1), .int y13]))] rfl ?_
        refine Z.of (pc' := 124) (fun _ _ _ hl => lv_aload_n hx hb dX6_takeRawBit_123 rfl (lv_at hl 1 rfl)) ?_
        refine Z.of (pc' := 125) (fun _ _ _ _ => lv_iconst (v := -1) hx hb dX6_takeRawBit_124 (by decide)) ?_
        refine z_put C iX6 tyX6_ok nmX6 0 8 k15 rfl rfl (by decide) rfl rfl rfl rfl (Nat.le_of_ble_eq_true rfl) dX6_takeRawBit_125 rfl [(A 0, .inr (6, [.ref (A 1), .ref (A 2), .ref (A 3), .ref (A 4), .ref (A 5), .ref (A 6), .ref (A 7), .int (f 0), .int (-1)])), (A 1, .inr (4, [.int (f 1), .int (f 3), .int (f 5)])), (A 2, .inr (4, [.int (f 2), .int (f 4), .int (f 6)])), (A 3, .inr (5, [.int (f 7), .int (f 8), .int (f 9), .int (f 10)])), (A 4, .inr (1, [.int u11.1, .int u11.2.1, .int u11.2.2.1, .int u11.2.2.2.1, .int bit, .int u11.2.2.2.2.1, .int u11.2.2.2.2.2])), (A 5, .inr (0, [.long u1.1, .int u1.2])), (A 6, .inr (0, [.long sb, .int (f 18)])), (A 7, .inr (7, [.int ((f 20) + 1), .int ((f 21) + bit), .int (f 22), .int (f 23), .int (f 24), .int (f 25), .int ((f 26) + 1), .int y13]))] rfl ?_
        refine Z.of (pc' := 140) (fun _ _ _ _ => lv_goto hx hb dX6_takeRawBit_128 (by decide)) ?_
        exact E (upd (upd (upd (upd (upd (upd (upd (upd (upd (upd (upd (upd (upd f 11 u11.1) 12 u11.2.1) 13 u11.2.2.1) 14 u11.2.2.2.1) 15 bit) 16 u11.2.2.2.2.1) 17 u11.2.2.2.2.2) 19 (-1)) 20 ((f 20) + 1)) 21 ((f 21) + bit)) 26 ((f 26) + 1)) 27 y13) 28 u1.2, u1.1, sb) _ _ _ dX6_takeRawBit_140  rfl zh17
    have zr7 := @Eq.refl (Int32) (
        if (f 11) = 1 then
          1
        else
          0
        )
    refine Z.two' (pt := 61) (pf := 57) (fun _ _ _ _ => lv_icmp_ne hx hb dX6_takeRawBit_54 (by decide)) (fun c6 => ?_) (fun c6 => ?_)
    · have zh8 := zr7.trans (if_neg c6)
      refine Z.of (pc' := 62) (fun _ _ _ _ => lv_iconst (v := 0) hx hb dX6_takeRawBit_61 (by decide)) ?_
      exact J7 0 zh8.symm
    · have zh9 := zr7.trans (if_pos c6)
      refine Z.of (pc' := 58) (fun _ _ _ _ => lv_iconst (v := 1) hx hb dX6_takeRawBit_57 (by decide)) ?_
      refine Z.of (pc' := 62) (fun _ _ _ _ => lv_goto hx hb dX6_takeRawBit_58 (by decide)) ?_
      exact J7 1 zh9.symm
  · have zh5 := zh2.trans (if_pos c3)
    exact E (upd (upd (upd f 20 ((f 20) + 1)) 21 ((f 21) + bit)) 28 u1.2, u1.1, sb) _ _ _ dX6_takeRawBit_45  rfl zh5
def f_X6_drawBits (f : Nat → Int32) (rb : Int64) (sb : Int64) (many : Int32) : Int32 × (Nat → Int32) × Int64 :=
  zl (f_X9_isWithin many 1 24) fun u1 =>
  if u1 = 0 then
    ((-1000001), f, sb)
  else
    if (f 18) < many then
      ((-1000002), f, sb)
    else
      if (f 11) = 2 then
        ((-1000002), f, sb)
      else
        zl (f_X0_takeEarliest sb (f 18) many) fun u12 =>
        (u12.1, upd (upd f 18 ((f 18) - many)) 25 ((f 25) + many), u12.2)
theorem fe_X6_drawBits (f : Nat → Int32) (rb : Int64) (sb : Int64) (many : Int32) : f_X6_drawBits f rb sb many = (
    zl (f_X9_isWithin many 1 24) fun u1 =>
    if u1 = 0 then
      ((-1000001), f, sb)
    else
      if (f 18) < many then
        ((-1000002), f, sb)
      else
        if (f 11) = 2 then
          ((-1000002), f, sb)
        else
          zl (f_X0_takeEarliest sb (f 18) many) fun u12 =>
          (u12.1, upd (upd f 18 ((f 18) - many)) 25 ((f 25) + many), u12.2)
    ) := rfl
abbrev rm_X6_drawBits : Room := { frames := 1, cells := 0, slots := 0, locals := 23 }
set_option maxHeartbeats 1000000 in
set_option maxRecDepth 100000 in
theorem c_X6_drawBits (l : Launch) (T : zT) (A : Nat → Nat) (f : Nat → Int32) (rb : Int64) (sb : Int64) (many : Int32) : Ci l yX6_drawBits wsX6_drawBits rm_X6_drawBits T .int [.ref (A 0), .int many] [(A 0, .inr (6, [.ref (A 1), .ref (A 2), .ref (A 3), .ref (A 4), .ref (A 5), .ref (A 6), .ref (A 7), .int (f 0), .int (f 19)])), (A 1, .inr (4, [.int (f 1), .int (f 3), .int (f 5)])), (A 2, .inr (4, [.int (f 2), .int (f 4), .int (f 6)])), (A 3, .inr (5, [.int (f 7), .int (f 8), .int (f 9), .int (f 10)])), (A 4, .inr (1, [.int (f 11), .int (f 12), .int (f 13), .int (f 14), .int (f 15), .int (f 16), .int (f 17)])), (A 5, .inr (0, [.long rb, .int (f 28)])), (A 6, .inr (0, [.long sb, .int (f 18)])), (A 7, .inr (7, [.int (f 20), .int (f 21), .int (f 22), .int (f 23), .int (f 24), .int (f 25), .int (f 26), .int (f 27)]))] (S := Int32 × (Nat → Int32) × Int64) (f_X6_drawBits f rb sb many) (fun u => u.1) (fun u => [(A 0, .inr (6, [.ref (A 1), .ref (A 2), .ref (A 3), .ref (A 4), .ref (A 5), .ref (A 6), .ref (A 7), .int (u.2.1 0), .int (u.2.1 19)])), (A 1, .inr (4, [.int (u.2.1 1), .int (u.2.1 3), .int (u.2.1 5)])), (A 2, .inr (4, [.int (u.2.1 2), .int (u.2.1 4), .int (u.2.1 6)])), (A 3, .inr (5, [.int (u.2.1 7), .int (u.2.1 8), .int (u.2.1 9), .int (u.2.1 10)])), (A 4, .inr (1, [.int (u.2.1 11), .int (u.2.1 12), .int (u.2.1 13), .int (u.2.1 14), .int (u.2.1 15), .int (u.2.1 16), .int (u.2.1 17)])), (A 5, .inr (0, [.long rb, .int (u.2.1 28)])), (A 6, .inr (0, [.long u.2.2, .int (u.2.1 18)])), (A 7, .inr (7, [.int (u.2.1 20), .int (u.2.1 21), .int (u.2.1 22), .int (u.2.1 23), .int (u.2.1 24), .int (u.2.1 25), .int (u.2.1 26), .int (u.2.1 27)]))]) := by
  refine z_metI (own := RX6) (maxL := 2) rfl (by decide) rfl (Nat.le_of_ble_eq_true rfl) ?_
  intro P0 E0 S0 M0 G0 B0 T0 K0 A9 Q9 C E
  have hx := C.1.1
  have hb := C.1.2.1
  have hown := C.1.2.2.2.1
  have hts := C.1.2.2.2.2
  have hn := C.2.1.2
  have iX0 : ∀ w ∈ u_ws RX0 TX0 2, w ∈ wsX6_drawBits := by decide +kernel
  have iX1 : ∀ w ∈ u_ws RX1 TX1 7, w ∈ wsX6_drawBits := by decide +kernel
  have iX6 : ∀ w ∈ u_ws RX6 TX6 9, w ∈ wsX6_drawBits := by decide +kernel
  have iX7 : ∀ w ∈ u_ws RX7 TX7 8, w ∈ wsX6_drawBits := by decide +kernel
  have k40 := hts (.fieldLink RX6 40 "JudgedBits$Source" "health" "LJudgedBits$Health;") (by decide +kernel)
  have k51 := hts (.fieldLink RX6 51 "JudgedBits$Source" "store" "LJudgedBits$BitRow;") (by decide +kernel)
  have k57 := hts (.fieldLink RX6 57 "JudgedBits$Source" "tally" "LJudgedBits$Tally;") (by decide +kernel)
  have k106 := hts (.fieldLink RX6 106 "JudgedBits$BitRow" "size" "I") (by decide +kernel)
  have k109 := hts (.fieldLink RX6 109 "JudgedBits$Health" "mode" "I") (by decide +kernel)
  have k113 := hts (.fieldLink RX6 113 "JudgedBits$Tally" "drawn" "I") (by decide +kernel)
  change Z P0 l E0 rm_X6_drawBits S0 M0 G0 B0 T0 K0 2 T A9 Q9 0 0 [(A 0, .inr (6, [.ref (A 1), .ref (A 2), .ref (A 3), .ref (A 4), .ref (A 5), .ref (A 6), .ref (A 7), .int (f 0), .int (f 19)])), (A 1, .inr (4, [.int (f 1), .int (f 3), .int (f 5)])), (A 2, .inr (4, [.int (f 2), .int (f 4), .int (f 6)])), (A 3, .inr (5, [.int (f 7), .int (f 8), .int (f 9), .int (f 10)])), (A 4, .inr (1, [.int (f 11), .int (f 12), .int (f 13), .int (f 14), .int (f 15), .int (f 16), .int (f 17)])), (A 5, .inr (0, [.long rb, .int (f 28)])), (A 6, .inr (0, [.long sb, .int (f 18)])), (A 7, .inr (7, [.int (f 20), .int (f 21), .int (f 22), .int (f 23), .int (f 24), .int (f 25), .int (f 26), .int (f 27)]))] 0 [(0, .ref (A 0)), (1, .int many)] []
  have zh0 := fe_X6_drawBits f rb sb many
  refine Z.of (pc' := 1) (fun _ _ _ hl => lv_iload_n hx hb dX6_drawBits_0 rfl (lv_at hl 1 rfl)) ?_
  refine Z.of (pc' := 2) (fun _ _ _ _ => lv_iconst (v := 1) hx hb dX6_drawBits_1 (by decide)) ?_
  refine Z.of (pc' := 4) (fun _ _ _ _ => lv_bipush (v := 24) hx hb dX6_drawBits_2 (by decide)) ?_
  refine z_callNi C (c_X9_isWithin l T many 1 24) ⟨va_cnB 3 hts gX6_drawBits_X9_isWithin_n77 rfl rfl rfl (hn.2.2.2.2.2.2.2.2.1) (hts (.initialized RX9) (by decide +kernel)) (by decide +kernel) ⟨Nat.le_of_ble_eq_true rfl, Nat.le_of_ble_eq_true rfl⟩, hts (.static yX9_isWithin) (by decide +kernel), trivial⟩ (As := [.int many, .int 1, .int 24]) (rest := []) rfl rfl (Nat.le_of_ble_eq_true rfl) dX6_drawBits_4 rfl ⟨Nat.zero_le _, Nat.zero_le _⟩ (fun u1 eu1 bu1 => ?_)
  have zh2 := zl_e zh0 eu1
  refine Z.two' (pt := 13) (pf := 10) (fun _ _ _ _ => lv_if_ne hx hb dX6_drawBits_7 (by decide)) (fun c3 => ?_) (fun c3 => ?_)
  · have zh4 := zh2.trans (if_neg c3)
    refine Z.of (pc' := 14) (fun _ _ _ hl => lv_aload_n hx hb dX6_drawBits_13 rfl (lv_at hl 0 rfl)) ?_
    refine z_get C iX6 0 5 k51 rfl rfl (by decide) rfl rfl dX6_drawBits_14 rfl ?_
    refine z_get C iX0 6 1 k106 rfl rfl (by decide) rfl rfl dX6_drawBits_17 rfl ?_
    refine Z.of (pc' := 21) (fun _ _ _ hl => lv_iload_n hx hb dX6_drawBits_20 rfl (lv_at hl 1 rfl)) ?_
    refine Z.two (pt := 35) (pf := 24) (fun _ _ _ _ => lv_icmp_lt hx hb dX6_drawBits_21 (by decide)) (fun c6 => ?_) (fun c6 => ?_)
    · have zh7 := zh4.trans (if_pos c6)
      refine Z.of (pc' := 37) (fun _ _ _ _ => lv_ldc hx hb hown (hts (.constant RX6 112 (-1000002)) (by decide +kernel)) dX6_drawBits_35) ?_
      exact E ((-1000002), f, sb) _ _ _ _ dX6_drawBits_37 rfl rfl rfl zh7
    · have zh8 := zh4.trans (if_neg c6)
      refine Z.of (pc' := 25) (fun _ _ _ hl => lv_aload_n hx hb dX6_drawBits_24 rfl (lv_at hl 0 rfl)) ?_
      refine z_get C iX6 0 3 k40 rfl rfl (by decide) rfl rfl dX6_drawBits_25 rfl ?_
      refine z_get C iX1 4 0 k109 rfl rfl (by decide) rfl rfl dX6_drawBits_28 rfl ?_
      refine Z.of (pc' := 32) (fun _ _ _ _ => lv_iconst (v := 2) hx hb dX6_drawBits_31 (by decide)) ?_
      refine Z.two' (pt := 38) (pf := 35) (fun _ _ _ _ => lv_icmp_ne hx hb dX6_drawBits_32 (by decide)) (fun c9 => ?_) (fun c9 => ?_)
      · have zh10 := zh8.trans (if_neg c9)
        refine Z.of (pc' := 39) (fun _ _ _ hl => lv_aload_n hx hb dX6_drawBits_38 rfl (lv_at hl 0 rfl)) ?_
        refine z_get C iX6 0 6 k57 rfl rfl (by decide) rfl rfl dX6_drawBits_39 rfl ?_
        refine Z.of (pc' := 43) (fun _ _ _ hl => lv_dup hx hb dX6_drawBits_42 rfl) ?_
        refine z_get C iX7 7 5 k113 rfl rfl (by decide) rfl rfl dX6_drawBits_43 rfl ?_
        refine Z.of (pc' := 47) (fun _ _ _ hl => lv_iload_n hx hb dX6_drawBits_46 rfl (lv_at hl 1 rfl)) ?_
        refine Z.of (pc' := 48) (fun _ _ _ hl => lv_iadd hx hb dX6_drawBits_47) ?_
        refine z_put C iX7 tyX7_ok nmX7 7 5 k113 rfl rfl (by decide) rfl rfl rfl rfl (Nat.le_of_ble_eq_true rfl) dX6_drawBits_48 rfl [(A 0, .inr (6, [.ref (A 1), .ref (A 2), .ref (A 3), .ref (A 4), .ref (A 5), .ref (A 6), .ref (A 7), .int (f 0), .int (f 19)])), (A 1, .inr (4, [.int (f 1), .int (f 3), .int (f 5)])), (A 2, .inr (4, [.int (f 2), .int (f 4), .int (f 6)])), (A 3, .inr (5, [.int (f 7), .int (f 8), .int (f 9), .int (f 10)])), (A 4, .inr (1, [.int (f 11), .int (f 12), .int (f 13), .int (f 14), .int (f 15), .int (f 16), .int (f 17)])), (A 5, .inr (0, [.long rb, .int (f 28)])), (A 6, .inr (0, [.long sb, .int (f 18)])), (A 7, .inr (7, [.int (f 20), .int (f 21), .int (f 22), .int (f 23), .int (f 24), .int ((f 25) + many), .int (f 26), .int (f 27)]))] rfl ?_
        refine Z.of (pc' := 52) (fun _ _ _ hl => lv_aload_n hx hb dX6_drawBits_51 rfl (lv_at hl 0 rfl)) ?_
        refine z_get C iX6 0 5 k51 rfl rfl (by decide) rfl rfl dX6_drawBits_52 rfl ?_
        refine Z.of (pc' := 56) (fun _ _ _ hl => lv_iload_n hx hb dX6_drawBits_55 rfl (lv_at hl 1 rfl)) ?_
        refine z_callVi C (c_X0_takeEarliest l T (A 6) sb (f 18) many) [6] [0, 1, 2, 3, 4, 5, 7] rfl (by decide +kernel) (fun u12 => [(A 0, .inr (6, [.ref (A 1), .ref (A 2), .ref (A 3), .ref (A 4), .ref (A 5), .ref (A 6), .ref (A 7), .int (f 0), .int (f 19)])), (A 1, .inr (4, [.int (f 1), .int (f 3), .int (f 5)])), (A 2, .inr (4, [.int (f 2), .int (f 4), .int (f 6)])), (A 3, .inr (5, [.int (f 7), .int (f 8), .int (f 9), .int (f 10)])), (A 4, .inr (1, [.int (f 11), .int (f 12), .int (f 13), .int (f 14), .int (f 15), .int (f 16), .int (f 17)])), (A 5, .inr (0, [.long rb, .int (f 28)])), (A 6, .inr (0, [.long u12.2, .int ((f 18) - many)])), (A 7, .inr (7, [.int (f 20), .int (f 21), .int (f 22), .int (f 23), .int (f 24), .int ((f 25) + many), .int (f 26), .int (f 27)]))]) (fun _ => rfl) [(A 0, .inr (6, [.ref (A 1), .ref (A 2), .ref (A 3), .ref (A 4), .ref (A 5), .ref (A 6), .ref (A 7), .int (f 0), .int (f 19)])), (A 1, .inr (4, [.int (f 1), .int (f 3), .int (f 5)])), (A 2, .inr (4, [.int (f 2), .int (f 4), .int (f 6)])), (A 3, .inr (5, [.int (f 7), .int (f 8), .int (f 9), .int (f 10)])), (A 4, .inr (1, [.int (f 11), .int (f 12), .int (f 13), .int (f 14), .int (f 15), .int (f 16), .int (f 17)])), (A 5, .inr (0, [.long rb, .int (f 28)])), (A 7, .inr (7, [.int (f 20), .int (f 21), .int (f 22), .int (f 23), .int (f 24), .int ((f 25) + many), .int (f 26), .int (f 27)]))] rfl (fun _ => rfl) [A 0, A 1, A 2, A 3, A 4, A 5, A 6, A 7] rfl (fun _ => rfl) 8 (fun _ => rfl) (by decide +kernel) (cwV 1 hts gX6_drawBits_X0_takeEarliest rfl rfl rfl (by decide +kernel) ⟨Nat.le_of_ble_eq_true rfl, Nat.le_of_ble_eq_true rfl⟩) 6 rfl rfl rfl (As := [.int many]) (rest := []) rfl rfl (Nat.le_of_ble_eq_true rfl) dX6_drawBits_56 rfl ⟨Nat.zero_le _, Nat.zero_le _⟩ (fun u12 eu12 bu12 => ?_)
        have zh13 := zl_e zh10 eu12
        exact E (u12.1, upd (upd f 18 ((f 18) - many)) 25 ((f 25) + many), u12.2) _ _ _ _ dX6_drawBits_59 rfl rfl rfl zh13
      · have zh11 := zh8.trans (if_pos c9)
        refine Z.of (pc' := 37) (fun _ _ _ _ => lv_ldc hx hb hown (hts (.constant RX6 112 (-1000002)) (by decide +kernel)) dX6_drawBits_35) ?_
        exact E ((-1000002), f, sb) _ _ _ _ dX6_drawBits_37 rfl rfl rfl zh11
  · have zh5 := zh2.trans (if_pos c3)
    refine Z.of (pc' := 12) (fun _ _ _ _ => lv_ldc hx hb hown (hts (.constant RX6 81 (-1000001)) (by decide +kernel)) dX6_drawBits_10) ?_
    exact E ((-1000001), f, sb) _ _ _ _ dX6_drawBits_12 rfl rfl rfl zh5
def f_X6_startAnew (f : Nat → Int32) (rb : Int64) (sb : Int64) : (Nat → Int32) :=
  (upd (upd (upd (upd (upd (upd (upd (upd (upd f 11 0) 12 0) 13 0) 14 0) 15 0) 16 0) 17 0) 18 0) 19 (-1))
theorem fe_X6_startAnew (f : Nat → Int32) (rb : Int64) (sb : Int64) : f_X6_startAnew f rb sb = (
    (upd (upd (upd (upd (upd (upd (upd (upd (upd f 11 0) 12 0) 13 0) 14 0) 15 0) 16 0) 17 0) 18 0) 19 (-1))
    ) := rfl
abbrev rm_X6_startAnew : Room := { frames := 1, cells := 0, slots := 0, locals := 20 }
set_option maxHeartbeats 1000000 in
set_option maxRecDepth 100000 in
theorem c_X6_startAnew (l : Launch) (T : zT) (A : Nat → Nat) (f : Nat → Int32) (rb : Int64) (sb : Int64) : Ci l yX6_startAnew wsX6_startAnew rm_X6_startAnew T .int [.ref (A 0)] [(A 0, .inr (6, [.ref (A 1), .ref (A 2), .ref (A 3), .ref (A 4), .ref (A 5), .ref (A 6), .ref (A 7), .int (f 0), .int (f 19)])), (A 1, .inr (4, [.int (f 1), .int (f 3), .int (f 5)])), (A 2, .inr (4, [.int (f 2), .int (f 4), .int (f 6)])), (A 3, .inr (5, [.int (f 7), .int (f 8), .int (f 9), .int (f 10)])), (A 4, .inr (1, [.int (f 11), .int (f 12), .int (f 13), .int (f 14), .int (f 15), .int (f 16), .int (f 17)])), (A 5, .inr (0, [.long rb, .int (f 28)])), (A 6, .inr (0, [.long sb, .int (f 18)])), (A 7, .inr (7, [.int (f 20), .int (f 21), .int (f 22), .int (f 23), .int (f 24), .int (f 25), .int (f 26), .int (f 27)]))] (S := (Nat → Int32)) (f_X6_startAnew f rb sb) (fun u => f 18) (fun u => [(A 0, .inr (6, [.ref (A 1), .ref (A 2), .ref (A 3), .ref (A 4), .ref (A 5), .ref (A 6), .ref (A 7), .int (u 0), .int (u 19)])), (A 1, .inr (4, [.int (u 1), .int (u 3), .int (u 5)])), (A 2, .inr (4, [.int (u 2), .int (u 4), .int (u 6)])), (A 3, .inr (5, [.int (u 7), .int (u 8), .int (u 9), .int (u 10)])), (A 4, .inr (1, [.int (u 11), .int (u 12), .int (u 13), .int (u 14), .int (u 15), .int (u 16), .int (u 17)])), (A 5, .inr (0, [.long rb, .int (u 28)])), (A 6, .inr (0, [.long 0, .int (u 18)])), (A 7, .inr (7, [.int (u 20), .int (u 21), .int (u 22), .int (u 23), .int (u 24), .int (u 25), .int (u 26), .int (u 27)]))]) := by
  refine z_metI (own := RX6) (maxL := 2) rfl (by decide) rfl (Nat.le_of_ble_eq_true rfl) ?_
  intro P0 E0 S0 M0 G0 B0 T0 K0 A9 Q9 C E
  have hx := C.1.1
  have hb := C.1.2.1
  have hown := C.1.2.2.2.1
  have hts := C.1.2.2.2.2
  have hn := C.2.1.2
  have iX0 : ∀ w ∈ u_ws RX0 TX0 2, w ∈ wsX6_startAnew := by decide +kernel
  have iX6 : ∀ w ∈ u_ws RX6 TX6 9, w ∈ wsX6_startAnew := by decide +kernel
  have k15 := hts (.fieldLink RX6 15 "JudgedBits$Source" "waiting" "I") (by decide +kernel)
  have k40 := hts (.fieldLink RX6 40 "JudgedBits$Source" "health" "LJudgedBits$Health;") (by decide +kernel)
  have k51 := hts (.fieldLink RX6 51 "JudgedBits$Source" "store" "LJudgedBits$BitRow;") (by decide +kernel)
  have k106 := hts (.fieldLink RX6 106 "JudgedBits$BitRow" "size" "I") (by decide +kernel)
  change Z P0 l E0 rm_X6_startAnew S0 M0 G0 B0 T0 K0 2 T A9 Q9 0 0 [(A 0, .inr (6, [.ref (A 1), .ref (A 2), .ref (A 3), .ref (A 4), .ref (A 5), .ref (A 6), .ref (A 7), .int (f 0), .int (f 19)])), (A 1, .inr (4, [.int (f 1), .int (f 3), .int (f 5)])), (A 2, .inr (4, [.int (f 2), .int (f 4), .int (f 6)])), (A 3, .inr (5, [.int (f 7), .int (f 8), .int (f 9), .int (f 10)])), (A 4, .inr (1, [.int (f 11), .int (f 12), .int (f 13), .int (f 14), .int (f 15), .int (f 16), .int (f 17)])), (A 5, .inr (0, [.long rb, .int (f 28)])), (A 6, .inr (0, [.long sb, .int (f 18)])), (A 7, .inr (7, [.int (f 20), .int (f 21), .int (f 22), .int (f 23), .int (f 24), .int (f 25), .int (f 26), .int (f 27)]))] 0 [(0, .ref (A 0))] []
  have zh0 := fe_X6_startAnew f rb sb
  refine Z.of (pc' := 1) (fun _ _ _ hl => lv_aload_n hx hb dX6_startAnew_0 rfl (lv_at hl 0 rfl)) ?_
  refine z_get C iX6 0 5 k51 rfl rfl (by decide) rfl rfl dX6_startAnew_1 rfl ?_
  refine z_get C iX0 6 1 k106 rfl rfl (by decide) rfl rfl dX6_startAnew_4 rfl ?_
  refine Z.sto (pc' := 8) (lv' := [(1, .int (f 18)), (0, .ref (A 0))]) (fun _ _ _ hl => lv_istore_n (lv' := [(1, .int (f 18)), (0, .ref (A 0))]) hx hb dX6_startAnew_7 rfl hl (by decide) rfl) ?_
  refine Z.of (pc' := 9) (fun _ _ _ hl => lv_aload_n hx hb dX6_startAnew_8 rfl (lv_at hl 1 rfl)) ?_
  refine z_get C iX6 0 5 k51 rfl rfl (by decide) rfl rfl dX6_startAnew_9 rfl ?_
  refine z_callVv C (c_X0_clear l T (A 6) sb (f 18)) [6] [0, 1, 2, 3, 4, 5, 7] rfl (by decide +kernel) (fun u1 => [(A 0, .inr (6, [.ref (A 1), .ref (A 2), .ref (A 3), .ref (A 4), .ref (A 5), .ref (A 6), .ref (A 7), .int (f 0), .int (f 19)])), (A 1, .inr (4, [.int (f 1), .int (f 3), .int (f 5)])), (A 2, .inr (4, [.int (f 2), .int (f 4), .int (f 6)])), (A 3, .inr (5, [.int (f 7), .int (f 8), .int (f 9), .int (f 10)])), (A 4, .inr (1, [.int (f 11), .int (f 12), .int (f 13), .int (f 14), .int (f 15), .int (f 16), .int (f 17)])), (A 5, .inr (0, [.long rb, .int (f 28)])), (A 6, .inr (0, [.long 0, .int 0])), (A 7, .inr (7, [.int (f 20), .int (f 21), .int (f 22), .int (f 23), .int (f 24), .int (f 25), .int (f 26), .int (f 27)]))]) (fun _ => rfl) [(A 0, .inr (6, [.ref (A 1), .ref (A 2), .ref (A 3), .ref (A 4), .ref (A 5), .ref (A 6), .ref (A 7), .int (f 0), .int (f 19)])), (A 1, .inr (4, [.int (f 1), .int (f 3), .int (f 5)])), (A 2, .inr (4, [.int (f 2), .int (f 4), .int (f 6)])), (A 3, .inr (5, [.int (f 7), .int (f 8), .int (f 9), .int (f 10)])), (A 4, .inr (1, [.int (f 11), .int (f 12), .int (f 13), .int (f 14), .int (f 15), .int (f 16), .int (f 17)])), (A 5, .inr (0, [.long rb, .int (f 28)])), (A 7, .inr (7, [.int (f 20), .int (f 21), .int (f 22), .int (f 23), .int (f 24), .int (f 25), .int (f 26), .int (f 27)]))] rfl (fun _ => rfl) [A 0, A 1, A 2, A 3, A 4, A 5, A 6, A 7] rfl (fun _ => rfl) 8 (fun _ => rfl) (by decide +kernel) (cwV 0 hts gX6_startAnew_X0_clear rfl rfl rfl (by decide +kernel) ⟨Nat.le_of_ble_eq_true rfl, Nat.le_of_ble_eq_true rfl⟩) 6 rfl rfl rfl (As := []) (rest := []) rfl rfl (Nat.le_of_ble_eq_true rfl) dX6_startAnew_12 rfl ⟨Nat.zero_le _, Nat.zero_le _⟩ (fun u1 eu1 => ?_)
  refine Z.of (pc' := 16) (fun _ _ _ hl => lv_aload_n hx hb dX6_startAnew_15 rfl (lv_at hl 1 rfl)) ?_
  refine z_get C iX6 0 3 k40 rfl rfl (by decide) rfl rfl dX6_startAnew_16 rfl ?_
  refine z_callVv C (c_X1_startAnew l T (A 4) (f 11) (f 12) (f 13) (f 14) (f 15) (f 16) (f 17)) [4] [0, 1, 2, 3, 5, 6, 7] rfl (by decide +kernel) (fun u2 => [(A 0, .inr (6, [.ref (A 1), .ref (A 2), .ref (A 3), .ref (A 4), .ref (A 5), .ref (A 6), .ref (A 7), .int (f 0), .int (f 19)])), (A 1, .inr (4, [.int (f 1), .int (f 3), .int (f 5)])), (A 2, .inr (4, [.int (f 2), .int (f 4), .int (f 6)])), (A 3, .inr (5, [.int (f 7), .int (f 8), .int (f 9), .int (f 10)])), (A 4, .inr (1, [.int 0, .int 0, .int 0, .int 0, .int 0, .int 0, .int 0])), (A 5, .inr (0, [.long rb, .int (f 28)])), (A 6, .inr (0, [.long 0, .int 0])), (A 7, .inr (7, [.int (f 20), .int (f 21), .int (f 22), .int (f 23), .int (f 24), .int (f 25), .int (f 26), .int (f 27)]))]) (fun _ => rfl) [(A 0, .inr (6, [.ref (A 1), .ref (A 2), .ref (A 3), .ref (A 4), .ref (A 5), .ref (A 6), .ref (A 7), .int (f 0), .int (f 19)])), (A 1, .inr (4, [.int (f 1), .int (f 3), .int (f 5)])), (A 2, .inr (4, [.int (f 2), .int (f 4), .int (f 6)])), (A 3, .inr (5, [.int (f 7), .int (f 8), .int (f 9), .int (f 10)])), (A 5, .inr (0, [.long rb, .int (f 28)])), (A 6, .inr (0, [.long 0, .int 0])), (A 7, .inr (7, [.int (f 20), .int (f 21), .int (f 22), .int (f 23), .int (f 24), .int (f 25), .int (f 26), .int (f 27)]))] rfl (fun _ => rfl) [A 0, A 1, A 2, A 3, A 4, A 5, A 6, A 7] rfl (fun _ => rfl) 8 (fun _ => rfl) (by decide +kernel) (cwV 0 hts gX6_startAnew_X1_startAnew rfl rfl rfl (by decide +kernel) ⟨Nat.le_of_ble_eq_true rfl, Nat.le_of_ble_eq_true rfl⟩) 4 rfl rfl rfl (As := []) (rest := []) rfl rfl (Nat.le_of_ble_eq_true rfl) dX6_startAnew_19 rfl ⟨Nat.zero_le _, Nat.zero_le _⟩ (fun u2 eu2 => ?_)
  refine Z.of (pc' := 23) (fun _ _ _ hl => lv_aload_n hx hb dX6_startAnew_22 rfl (lv_at hl 1 rfl)) ?_
  refine Z.of (pc' := 24) (fun _ _ _ _ => lv_iconst (v := -1) hx hb dX6_startAnew_23 (by decide)) ?_
  refine z_put C iX6 tyX6_ok nmX6 0 8 k15 rfl rfl (by decide) rfl rfl rfl rfl (Nat.le_of_ble_eq_true rfl) dX6_startAnew_24 rfl [(A 0, .inr (6, [.ref (A 1), .ref (A 2), .ref (A 3), .ref (A 4), .ref (A 5), .ref (A 6), .ref (A 7), .int (f 0), .int (-1)])), (A 1, .inr (4, [.int (f 1), .int (f 3), .int (f 5)])), (A 2, .inr (4, [.int (f 2), .int (f 4), .int (f 6)])), (A 3, .inr (5, [.int (f 7), .int (f 8), .int (f 9), .int (f 10)])), (A 4, .inr (1, [.int 0, .int 0, .int 0, .int 0, .int 0, .int 0, .int 0])), (A 5, .inr (0, [.long rb, .int (f 28)])), (A 6, .inr (0, [.long 0, .int 0])), (A 7, .inr (7, [.int (f 20), .int (f 21), .int (f 22), .int (f 23), .int (f 24), .int (f 25), .int (f 26), .int (f 27)]))] rfl ?_
  refine Z.of (pc' := 28) (fun _ _ _ hl => lv_iload_n hx hb dX6_startAnew_27 rfl (lv_at hl 0 rfl)) ?_
  exact E (upd (upd (upd (upd (upd (upd (upd (upd (upd f 11 0) 12 0) 13 0) 14 0) 15 0) 16 0) 17 0) 18 0) 19 (-1)) _ _ _ _ dX6_startAnew_28 rfl rfl rfl zh0
def f_X6_tell (f : Nat → Int32) (rb : Int64) (sb : Int64) (what : Int32) : Int32 :=
  if what = 0 then
    (f 11)
  else
    if what = 1 then
      if (f 11) = 2 then
        (f 12)
      else
        (-1000004)
    else
      if what = 2 then
        if (f 11) = 0 then
          (64 - (f 13))
        else
          (-1000004)
      else
        if what = 3 then
          (f 14)
        else
          if what = 4 then
            (f 16)
          else
            if what = 5 then
              (f 17)
            else
              if what = 6 then
                (f 18)
              else
                if what = 7 then
                  if (f 19) = (-1) then
                    (-1000004)
                  else
                    (f 19)
                else
                  if what = 8 then
                    zl (f_X6_locksOn f rb sb) fun u38 =>
                    if u38 = 0 then
                      0
                    else
                      1
                  else
                    if what = 9 then
                      (f 0)
                    else
                      (-1000001)
theorem fe_X6_tell (f : Nat → Int32) (rb : Int64) (sb : Int64) (what : Int32) : f_X6_tell f rb sb what = (
    if what = 0 then
      (f 11)
    else
      if what = 1 then
        if (f 11) = 2 then
          (f 12)
        else
          (-1000004)
      else
        if what = 2 then
          if (f 11) = 0 then
            (64 - (f 13))
          else
            (-1000004)
        else
          if what = 3 then
            (f 14)
          else
            if what = 4 then
              (f 16)
            else
              if what = 5 then
                (f 17)
              else
                if what = 6 then
                  (f 18)
                else
                  if what = 7 then
                    if (f 19) = (-1) then
                      (-1000004)
                    else
                      (f 19)
                  else
                    if what = 8 then
                      zl (f_X6_locksOn f rb sb) fun u38 =>
                      if u38 = 0 then
                        0
                      else
                        1
                    else
                      if what = 9 then
                        (f 0)
                      else
                        (-1000001)
    ) := rfl
abbrev rm_X6_tell : Room := { frames := 2, cells := 0, slots := 0, locals := 44 }
set_option maxHeartbeats 1000000 in
set_option maxRecDepth 100000 in
theorem c_X6_tell (l : Launch) (T : zT) (A : Nat → Nat) (f : Nat → Int32) (rb : Int64) (sb : Int64) (what : Int32) : Ci l yX6_tell wsX6_tell rm_X6_tell T .int [.ref (A 0), .int what] [(A 0, .inr (6, [.ref (A 1), .ref (A 2), .ref (A 3), .ref (A 4), .ref (A 5), .ref (A 6), .ref (A 7), .int (f 0), .int (f 19)])), (A 1, .inr (4, [.int (f 1), .int (f 3), .int (f 5)])), (A 2, .inr (4, [.int (f 2), .int (f 4), .int (f 6)])), (A 3, .inr (5, [.int (f 7), .int (f 8), .int (f 9), .int (f 10)])), (A 4, .inr (1, [.int (f 11), .int (f 12), .int (f 13), .int (f 14), .int (f 15), .int (f 16), .int (f 17)])), (A 5, .inr (0, [.long rb, .int (f 28)])), (A 6, .inr (0, [.long sb, .int (f 18)])), (A 7, .inr (7, [.int (f 20), .int (f 21), .int (f 22), .int (f 23), .int (f 24), .int (f 25), .int (f 26), .int (f 27)]))] (S := Int32) (f_X6_tell f rb sb what) (fun u => u) (fun u => [(A 0, .inr (6, [.ref (A 1), .ref (A 2), .ref (A 3), .ref (A 4), .ref (A 5), .ref (A 6), .ref (A 7), .int (f 0), .int (f 19)])), (A 1, .inr (4, [.int (f 1), .int (f 3), .int (f 5)])), (A 2, .inr (4, [.int (f 2), .int (f 4), .int (f 6)])), (A 3, .inr (5, [.int (f 7), .int (f 8), .int (f 9), .int (f 10)])), (A 4, .inr (1, [.int (f 11), .int (f 12), .int (f 13), .int (f 14), .int (f 15), .int (f 16), .int (f 17)])), (A 5, .inr (0, [.long rb, .int (f 28)])), (A 6, .inr (0, [.long sb, .int (f 18)])), (A 7, .inr (7, [.int (f 20), .int (f 21), .int (f 22), .int (f 23), .int (f 24), .int (f 25), .int (f 26), .int (f 27)]))]) := by
  refine z_metI (own := RX6) (maxL := 2) rfl (by decide) rfl (Nat.le_of_ble_eq_true rfl) ?_
  intro P0 E0 S0 M0 G0 B0 T0 K0 A9 Q9 C E
  have hx := C.1.1
  have hb := C.1.2.1
  have hown := C.1.2.2.2.1
  have hts := C.1.2.2.2.2
  have hn := C.2.1.2
  have iX0 : ∀ w ∈ u_ws RX0 TX0 2, w ∈ wsX6_tell := by decide +kernel
  have iX1 : ∀ w ∈ u_ws RX1 TX1 7, w ∈ wsX6_tell := by decide +kernel
  have iX6 : ∀ w ∈ u_ws RX6 TX6 9, w ∈ wsX6_tell := by decide +kernel
  have k9 := hts (.fieldLink RX6 9 "JudgedBits$Source" "noiseNumber" "I") (by decide +kernel)
  have k15 := hts (.fieldLink RX6 15 "JudgedBits$Source" "waiting" "I") (by decide +kernel)
  have k40 := hts (.fieldLink RX6 40 "JudgedBits$Source" "health" "LJudgedBits$Health;") (by decide +kernel)
  have k51 := hts (.fieldLink RX6 51 "JudgedBits$Source" "store" "LJudgedBits$BitRow;") (by decide +kernel)
  have k106 := hts (.fieldLink RX6 106 "JudgedBits$BitRow" "size" "I") (by decide +kernel)
  have k109 := hts (.fieldLink RX6 109 "JudgedBits$Health" "mode" "I") (by decide +kernel)
  have k171 := hts (.fieldLink RX6 171 "JudgedBits$Health" "run" "I") (by decide +kernel)
  have k193 := hts (.fieldLink RX6 193 "JudgedBits$Health" "failedTest" "I") (by decide +kernel)
  have k197 := hts (.fieldLink RX6 197 "JudgedBits$Health" "startUpBits" "I") (by decide +kernel)
  have k200 := hts (.fieldLink RX6 200 "JudgedBits$Health" "windowBits" "I") (by decide +kernel)
  have k203 := hts (.fieldLink RX6 203 "JudgedBits$Health" "windowOnes" "I") (by decide +kernel)
  change Z P0 l E0 rm_X6_tell S0 M0 G0 B0 T0 K0 2 T A9 Q9 0 0 [(A 0, .inr (6, [.ref (A 1), .ref (A 2), .ref (A 3), .ref (A 4), .ref (A 5), .ref (A 6), .ref (A 7), .int (f 0), .int (f 19)])), (A 1, .inr (4, [.int (f 1), .int (f 3), .int (f 5)])), (A 2, .inr (4, [.int (f 2), .int (f 4), .int (f 6)])), (A 3, .inr (5, [.int (f 7), .int (f 8), .int (f 9), .int (f 10)])), (A 4, .inr (1, [.int (f 11), .int (f 12), .int (f 13), .int (f 14), .int (f 15), .int (f 16), .int (f 17)])), (A 5, .inr (0, [.long rb, .int (f 28)])), (A 6, .inr (0, [.long sb, .int (f 18)])), (A 7, .inr (7, [.int (f 20), .int (f 21), .int (f 22), .int (f 23), .int (f 24), .int (f 25), .int (f 26), .int (f 27)]))] 0 [(0, .ref (A 0)), (1, .int what)] []
  have zh0 := fe_X6_tell f rb sb what
  refine Z.of (pc' := 1) (fun _ _ _ hl => lv_iload_n hx hb dX6_tell_0 rfl (lv_at hl 1 rfl)) ?_
  by_cases c1 : what = 0
  · have zh11 := zh0.trans (if_pos c1)
    refine Z.of (pc' := 56) (fun _ _ _ _ => lv_tableIn (off := 55) hx hb dX6_tell_1 (by rw [c1]; decide) (by rw [c1]; decide) (by rw [c1]; rfl) (by decide)) ?_
    refine Z.of (pc' := 57) (fun _ _ _ hl => lv_aload_n hx hb dX6_tell_56 rfl (lv_at hl 0 rfl)) ?_
    refine z_get C iX6 0 3 k40 rfl rfl (by decide) rfl rfl dX6_tell_57 rfl ?_
    refine z_get C iX1 4 0 k109 rfl rfl (by decide) rfl rfl dX6_tell_60 rfl ?_
    exact E (f 11) _ _ _ _ dX6_tell_63 rfl rfl rfl zh11
  · have zh12 := zh0.trans (if_neg c1)
    by_cases c2 : what = 1
    · have zh13 := zh12.trans (if_pos c2)
      refine Z.of (pc' := 64) (fun _ _ _ _ => lv_tableIn (off := 63) hx hb dX6_tell_1 (by rw [c2]; decide) (by rw [c2]; decide) (by rw [c2]; rfl) (by decide)) ?_
      refine Z.of (pc' := 65) (fun _ _ _ hl => lv_aload_n hx hb dX6_tell_64 rfl (lv_at hl 0 rfl)) ?_
      refine z_get C iX6 0 3 k40 rfl rfl (by decide) rfl rfl dX6_tell_65 rfl ?_
      refine z_get C iX1 4 0 k109 rfl rfl (by decide) rfl rfl dX6_tell_68 rfl ?_
      refine Z.of (pc' := 72) (fun _ _ _ _ => lv_iconst (v := 2) hx hb dX6_tell_71 (by decide)) ?_
      refine Z.two' (pt := 85) (pf := 75) (fun _ _ _ _ => lv_icmp_ne hx hb dX6_tell_72 (by decide)) (fun c15 => ?_) (fun c15 => ?_)
      · have zh16 := zh13.trans (if_neg c15)
        refine Z.of (pc' := 87) (fun _ _ _ _ => lv_ldc hx hb hown (hts (.constant RX6 196 (-1000004)) (by decide +kernel)) dX6_tell_85) ?_
        exact E (-1000004) _ _ _ _ dX6_tell_87 rfl rfl rfl zh16
      · have zh17 := zh13.trans (if_pos c15)
        refine Z.of (pc' := 76) (fun _ _ _ hl => lv_aload_n hx hb dX6_tell_75 rfl (lv_at hl 0 rfl)) ?_
        refine z_get C iX6 0 3 k40 rfl rfl (by decide) rfl rfl dX6_tell_76 rfl ?_
        refine z_get C iX1 4 1 k193 rfl rfl (by decide) rfl rfl dX6_tell_79 rfl ?_
        refine Z.of (pc' := 87) (fun _ _ _ _ => lv_goto hx hb dX6_tell_82 (by decide)) ?_
        exact E (f 12) _ _ _ _ dX6_tell_87 rfl rfl rfl zh17
    · have zh14 := zh12.trans (if_neg c2)
      by_cases c3 : what = 2
      · have zh18 := zh14.trans (if_pos c3)
        refine Z.of (pc' := 88) (fun _ _ _ _ => lv_tableIn (off := 87) hx hb dX6_tell_1 (by rw [c3]; decide) (by rw [c3]; decide) (by rw [c3]; rfl) (by decide)) ?_
        refine Z.of (pc' := 89) (fun _ _ _ hl => lv_aload_n hx hb dX6_tell_88 rfl (lv_at hl 0 rfl)) ?_
        refine z_get C iX6 0 3 k40 rfl rfl (by decide) rfl rfl dX6_tell_89 rfl ?_
        refine z_get C iX1 4 0 k109 rfl rfl (by decide) rfl rfl dX6_tell_92 rfl ?_
        refine Z.two' (pt := 111) (pf := 98) (fun _ _ _ _ => lv_if_ne hx hb dX6_tell_95 (by decide)) (fun c20 => ?_) (fun c20 => ?_)
        · have zh21 := zh18.trans (if_neg c20)
          refine Z.of (pc' := 113) (fun _ _ _ _ => lv_ldc hx hb hown (hts (.constant RX6 196 (-1000004)) (by decide +kernel)) dX6_tell_111) ?_
          exact E (-1000004) _ _ _ _ dX6_tell_113 rfl rfl rfl zh21
        · have zh22 := zh18.trans (if_pos c20)
          refine Z.of (pc' := 100) (fun _ _ _ _ => lv_bipush (v := 64) hx hb dX6_tell_98 (by decide)) ?_
          refine Z.of (pc' := 101) (fun _ _ _ hl => lv_aload_n hx hb dX6_tell_100 rfl (lv_at hl 0 rfl)) ?_
          refine z_get C iX6 0 3 k40 rfl rfl (by decide) rfl rfl dX6_tell_101 rfl ?_
          refine z_get C iX1 4 2 k197 rfl rfl (by decide) rfl rfl dX6_tell_104 rfl ?_
          refine Z.of (pc' := 108) (fun _ _ _ hl => lv_isub hx hb dX6_tell_107) ?_
          refine Z.of (pc' := 113) (fun _ _ _ _ => lv_goto hx hb dX6_tell_108 (by decide)) ?_
          exact E (64 - (f 13)) _ _ _ _ dX6_tell_113 rfl rfl rfl zh22
      · have zh19 := zh14.trans (if_neg c3)
        by_cases c4 : what = 3
        · have zh23 := zh19.trans (if_pos c4)
          refine Z.of (pc' := 114) (fun _ _ _ _ => lv_tableIn (off := 113) hx hb dX6_tell_1 (by rw [c4]; decide) (by rw [c4]; decide) (by rw [c4]; rfl) (by decide)) ?_
          refine Z.of (pc' := 115) (fun _ _ _ hl => lv_aload_n hx hb dX6_tell_114 rfl (lv_at hl 0 rfl)) ?_
          refine z_get C iX6 0 3 k40 rfl rfl (by decide) rfl rfl dX6_tell_115 rfl ?_
          refine z_get C iX1 4 3 k171 rfl rfl (by decide) rfl rfl dX6_tell_118 rfl ?_
          exact E (f 14) _ _ _ _ dX6_tell_121 rfl rfl rfl zh23
        · have zh24 := zh19.trans (if_neg c4)
          by_cases c5 : what = 4
          · have zh25 := zh24.trans (if_pos c5)
            refine Z.of (pc' := 122) (fun _ _ _ _ => lv_tableIn (off := 121) hx hb dX6_tell_1 (by rw [c5]; decide) (by rw [c5]; decide) (by rw [c5]; rfl) (by decide)) ?_
            refine Z.of (pc' := 123) (fun _ _ _ hl => lv_aload_n hx hb dX6_tell_122 rfl (lv_at hl 0 rfl)) ?_
            refine z_get C iX6 0 3 k40 rfl rfl (by decide) rfl rfl dX6_tell_123 rfl ?_
            refine z_get C iX1 4 5 k200 rfl rfl (by decide) rfl rfl dX6_tell_126 rfl ?_
            exact E (f 16) _ _ _ _ dX6_tell_129 rfl rfl rfl zh25
          · have zh26 := zh24.trans (if_neg c5)
            by_cases c6 : what = 5
            · have zh27 := zh26.trans (if_pos c6)
              refine Z.of (pc' := 130) (fun _ _ _ _ => lv_tableIn (off := 129) hx hb dX6_tell_1 (by rw [c6]; decide) (by rw [c6]; decide) (by rw [c6]; rfl) (by decide)) ?_
              refine Z.of (pc' := 131) (fun _ _ _ hl => lv_aload_n hx hb dX6_tell_130 rfl (lv_at hl 0 rfl)) ?_
              refine z_get C iX6 0 3 k40 rfl rfl (by decide) rfl rfl dX6_tell_131 rfl ?_
              refine z_get C iX1 4 6 k203 rfl rfl (by decide) rfl rfl dX6_tell_134 rfl ?_
              exact E (f 17) _ _ _ _ dX6_tell_137 rfl rfl rfl zh27
            · have zh28 := zh26.trans (if_neg c6)
              by_cases c7 : what = 6
              · have zh29 := zh28.trans (if_pos c7)
                refine Z.of (pc' := 138) (fun _ _ _ _ => lv_tableIn (off := 137) hx hb dX6_tell_1 (by rw [c7]; decide) (by rw [c7]; decide) (by rw [c7]; rfl) (by decide)) ?_
                refine Z.of (pc' := 139) (fun _ _ _ hl => lv_aload_n hx hb dX6_tell_138 rfl (lv_at hl 0 rfl)) ?_
                refine z_get C iX6 0 5 k51 rfl rfl (by decide) rfl rfl dX6_tell_139 rfl ?_
                refine z_get C iX0 6 1 k106 rfl rfl (by decide) rfl rfl dX6_tell_142 rfl ?_
                exact E (f 18) _ _ _ _ dX6_tell_145 rfl rfl rfl zh29
              · have zh30 := zh28.trans (if_neg c7)
                by_cases c8 : what = 7
                · have zh31 := zh30.trans (if_pos c8)
                  refine Z.of (pc' := 146) (fun _ _ _ _ => lv_tableIn (off := 145) hx hb dX6_tell_1 (by rw [c8]; decide) (by rw [c8]; decide) (by rw [c8]; rfl) (by decide)) ?_
                  refine Z.of (pc' := 147) (fun _ _ _ hl => lv_aload_n hx hb dX6_tell_146 rfl (lv_at hl 0 rfl)) ?_
                  refine z_get C iX6 0 8 k15 rfl rfl (by decide) rfl rfl dX6_tell_147 rfl ?_
                  refine Z.of (pc' := 151) (fun _ _ _ _ => lv_iconst (v := -1) hx hb dX6_tell_150 (by decide)) ?_
                  refine Z.two' (pt := 159) (pf := 154) (fun _ _ _ _ => lv_icmp_ne hx hb dX6_tell_151 (by decide)) (fun c33 => ?_) (fun c33 => ?_)
                  · have zh34 := zh31.trans (if_neg c33)
                    refine Z.of (pc' := 160) (fun _ _ _ hl => lv_aload_n hx hb dX6_tell_159 rfl (lv_at hl 0 rfl)) ?_
                    refine z_get C iX6 0 8 k15 rfl rfl (by decide) rfl rfl dX6_tell_160 rfl ?_
                    exact E (f 19) _ _ _ _ dX6_tell_163 rfl rfl rfl zh34
                  · have zh35 := zh31.trans (if_pos c33)
                    refine Z.of (pc' := 156) (fun _ _ _ _ => lv_ldc hx hb hown (hts (.constant RX6 196 (-1000004)) (by decide +kernel)) dX6_tell_154) ?_
                    refine Z.of (pc' := 163) (fun _ _ _ _ => lv_goto hx hb dX6_tell_156 (by decide)) ?_
                    exact E (-1000004) _ _ _ _ dX6_tell_163 rfl rfl rfl zh35
                · have zh32 := zh30.trans (if_neg c8)
                  by_cases c9 : what = 8
                  · have zh36 := zh32.trans (if_pos c9)
                    refine Z.of (pc' := 164) (fun _ _ _ _ => lv_tableIn (off := 163) hx hb dX6_tell_1 (by rw [c9]; decide) (by rw [c9]; decide) (by rw [c9]; rfl) (by decide)) ?_
                    refine Z.of (pc' := 165) (fun _ _ _ hl => lv_aload_n hx hb dX6_tell_164 rfl (lv_at hl 0 rfl)) ?_
                    refine z_callVi C (c_X6_locksOn l T A f rb sb) [0, 1, 2, 3, 4, 5, 6, 7] [] rfl (by decide +kernel) (fun u38 => [(A 0, .inr (6, [.ref (A 1), .ref (A 2), .ref (A 3), .ref (A 4), .ref (A 5), .ref (A 6), .ref (A 7), .int (f 0), .int (f 19)])), (A 1, .inr (4, [.int (f 1), .int (f 3), .int (f 5)])), (A 2, .inr (4, [.int (f 2), .int (f 4), .int (f 6)])), (A 3, .inr (5, [.int (f 7), .int (f 8), .int (f 9), .int (f 10)])), (A 4, .inr (1, [.int (f 11), .int (f 12), .int (f 13), .int (f 14), .int (f 15), .int (f 16), .int (f 17)])), (A 5, .inr (0, [.long rb, .int (f 28)])), (A 6, .inr (0, [.long sb, .int (f 18)])), (A 7, .inr (7, [.int (f 20), .int (f 21), .int (f 22), .int (f 23), .int (f 24), .int (f 25), .int (f 26), .int (f 27)]))]) (fun _ => rfl) [] rfl (fun _ => rfl) [A 0, A 1, A 2, A 3, A 4, A 5, A 6, A 7] rfl (fun _ => rfl) 8 (fun _ => rfl) (by decide +kernel) (cwV 0 hts gX6_tell_X6_locksOn rfl rfl rfl (by decide +kernel) ⟨Nat.le_of_ble_eq_true rfl, Nat.le_of_ble_eq_true rfl⟩) 0 rfl rfl rfl (As := []) (rest := []) rfl rfl (Nat.le_of_ble_eq_true rfl) dX6_tell_165 rfl ⟨Nat.zero_le _, Nat.zero_le _⟩ (fun u38 eu38 bu38 => ?_)
                    have zh39 := zl_e zh36 eu38
                    refine Z.two (pt := 175) (pf := 171) (fun _ _ _ _ => lv_if_eq hx hb dX6_tell_168 (by decide)) (fun c40 => ?_) (fun c40 => ?_)
                    · have zh41 := zh39.trans (if_pos c40)
                      refine Z.of (pc' := 176) (fun _ _ _ _ => lv_iconst (v := 0) hx hb dX6_tell_175 (by decide)) ?_
                      exact E 0 _ _ _ _ dX6_tell_176 rfl rfl rfl zh41
                    · have zh42 := zh39.trans (if_neg c40)
                      refine Z.of (pc' := 172) (fun _ _ _ _ => lv_iconst (v := 1) hx hb dX6_tell_171 (by decide)) ?_
                      refine Z.of (pc' := 176) (fun _ _ _ _ => lv_goto hx hb dX6_tell_172 (by decide)) ?_
                      exact E 1 _ _ _ _ dX6_tell_176 rfl rfl rfl zh42
                  · have zh37 := zh32.trans (if_neg c9)
                    by_cases c10 : what = 9
                    · have zh43 := zh37.trans (if_pos c10)
                      refine Z.of (pc' := 177) (fun _ _ _ _ => lv_tableIn (off := 176) hx hb dX6_tell_1 (by rw [c10]; decide) (by rw [c10]; decide) (by rw [c10]; rfl) (by decide)) ?_
                      refine Z.of (pc' := 178) (fun _ _ _ hl => lv_aload_n hx hb dX6_tell_177 rfl (lv_at hl 0 rfl)) ?_
                      refine z_get C iX6 0 7 k9 rfl rfl (by decide) rfl rfl dX6_tell_178 rfl ?_
                      exact E (f 0) _ _ _ _ dX6_tell_181 rfl rfl rfl zh43
                    · have zh44 := zh37.trans (if_neg c10)
                      refine Z.of (pc' := 182) (fun _ _ _ _ => lv_tableOut hx hb dX6_tell_1 (zsw_out (n := 9) (by decide) (fun k hk => by match k, hk with | 0, _ => exact c1 | 1, _ => exact c2 | 2, _ => exact c3 | 3, _ => exact c4 | 4, _ => exact c5 | 5, _ => exact c6 | 6, _ => exact c7 | 7, _ => exact c8 | 8, _ => exact c9 | 9, _ => exact c10 | k + 10, h => omega)) (by decide)) ?_
                      refine Z.of (pc' := 184) (fun _ _ _ _ => lv_ldc hx hb hown (hts (.constant RX6 81 (-1000001)) (by decide +kernel)) dX6_tell_182) ?_
                      exact E (-1000001) _ _ _ _ dX6_tell_184 rfl rfl rfl zh44
def lp24_X6_makeSamples (f : Nat → Int32) (rb : Int64) (sb : Int64) (many : Int32) : Nat → Nat → (Nat → Int32) → Int64 → Int64 → Int32 × (Nat → Int32) × Int64 × Int64
  | 0, _, _, _, _ => (0, f, rb, sb)
  | q24 + 1, k, fx, rx, sx =>
    if many ≤ (nI k) then
      ((fx 23) - (f 23), fx, rx, sx)
    else
      zl (f_X6_nextRawBit fx rx sx) fun u9 =>
      zl (f_X6_takeRawBit u9.2 rx sx u9.1) fun u11 =>
      lp24_X6_makeSamples f rb sb many q24 (k + 1) u11.1 u11.2.1 u11.2.2
theorem lp24_X6_makeSamples_s (f : Nat → Int32) (rb : Int64) (sb : Int64) (many : Int32) (q24 : Nat) (k : Nat) (fx : (Nat → Int32)) (rx : Int64) (sx : Int64) : lp24_X6_makeSamples f rb sb many (q24 + 1) k fx rx sx = (
    if many ≤ (nI k) then
      ((fx 23) - (f 23), fx, rx, sx)
    else
      zl (f_X6_nextRawBit fx rx sx) fun u9 =>
      zl (f_X6_takeRawBit u9.2 rx sx u9.1) fun u11 =>
      lp24_X6_makeSamples f rb sb many q24 (k + 1) u11.1 u11.2.1 u11.2.2
    ) := rfl
def f_X6_makeSamples (f : Nat → Int32) (rb : Int64) (sb : Int64) (many : Int32) : Int32 × (Nat → Int32) × Int64 × Int64 :=
  zl (f_X9_isWithin many 1 300) fun u1 =>
  if u1 = 0 then
    ((-1000001), f, rb, sb)
  else
    lp24_X6_makeSamples f rb sb many 302 0 f rb sb
theorem fe_X6_makeSamples (f : Nat → Int32) (rb : Int64) (sb : Int64) (many : Int32) : f_X6_makeSamples f rb sb many = (
    zl (f_X9_isWithin many 1 300) fun u1 =>
    if u1 = 0 then
      ((-1000001), f, rb, sb)
    else
      lp24_X6_makeSamples f rb sb many 302 0 f rb sb
    ) := rfl
abbrev rm_X6_makeSamples : Room := { frames := 3, cells := 0, slots := 0, locals := 68 }
set_option maxHeartbeats 1000000 in
set_option maxRecDepth 100000 in
theorem c_X6_makeSamples (l : Launch) (T : zT) (A : Nat → Nat) (f : Nat → Int32) (rb : Int64) (sb : Int64) (many : Int32) : Ci l yX6_makeSamples wsX6_makeSamples rm_X6_makeSamples T .int [.ref (A 0), .int many] [(A 0, .inr (6, [.ref (A 1), .ref (A 2), .ref (A 3), .ref (A 4), .ref (A 5), .ref (A 6), .ref (A 7), .int (f 0), .int (f 19)])), (A 1, .inr (4, [.int (f 1), .int (f 3), .int (f 5)])), (A 2, .inr (4, [.int (f 2), .int (f 4), .int (f 6)])), (A 3, .inr (5, [.int (f 7), .int (f 8), .int (f 9), .int (f 10)])), (A 4, .inr (1, [.int (f 11), .int (f 12), .int (f 13), .int (f 14), .int (f 15), .int (f 16), .int (f 17)])), (A 5, .inr (0, [.long rb, .int (f 28)])), (A 6, .inr (0, [.long sb, .int (f 18)])), (A 7, .inr (7, [.int (f 20), .int (f 21), .int (f 22), .int (f 23), .int (f 24), .int (f 25), .int (f 26), .int (f 27)]))] (S := Int32 × (Nat → Int32) × Int64 × Int64) (f_X6_makeSamples f rb sb many) (fun u => u.1) (fun u => [(A 0, .inr (6, [.ref (A 1), .ref (A 2), .ref (A 3), .ref (A 4), .ref (A 5), .ref (A 6), .ref (A 7), .int (u.2.1 0), .int (u.2.1 19)])), (A 1, .inr (4, [.int (u.2.1 1), .int (u.2.1 3), .int (u.2.1 5)])), (A 2, .inr (4, [.int (u.2.1 2), .int (u.2.1 4), .int (u.2.1 6)])), (A 3, .inr (5, [.int (u.2.1 7), .int (u.2.1 8), .int (u.2.1 9), .int (u.2.1 10)])), (A 4, .inr (1, [.int (u.2.1 11), .int (u.2.1 12), .int (u.2.1 13), .int (u.2.1 14), .int (u.2.1 15), .int (u.2.1 16), .int (u.2.1 17)])), (A 5, .inr (0, [.long u.2.2.1, .int (u.2.1 28)])), (A 6, .inr (0, [.long u.2.2.2, .int (u.2.1 18)])), (A 7, .inr (7, [.int (u.2.1 20), .int (u.2.1 21), .int (u.2.1 22), .int (u.2.1 23), .int (u.2.1 24), .int (u.2.1 25), .int (u.2.1 26), .int (u.2.1 27)]))]) := by
  refine z_metI (own := RX6) (maxL := 4) rfl (by decide) rfl (Nat.le_of_ble_eq_true rfl) ?_
  intro P0 E0 S0 M0 G0 B0 T0 K0 A9 Q9 C E
  have hx := C.1.1
  have hb := C.1.2.1
  have hown := C.1.2.2.2.1
  have hts := C.1.2.2.2.2
  have hn := C.2.1.2
  have iX6 : ∀ w ∈ u_ws RX6 TX6 9, w ∈ wsX6_makeSamples := by decide +kernel
  have iX7 : ∀ w ∈ u_ws RX7 TX7 8, w ∈ wsX6_makeSamples := by decide +kernel
  have k57 := hts (.fieldLink RX6 57 "JudgedBits$Source" "tally" "LJudgedBits$Tally;") (by decide +kernel)
  have k96 := hts (.fieldLink RX6 96 "JudgedBits$Tally" "stored" "I") (by decide +kernel)
  change Z P0 l E0 rm_X6_makeSamples S0 M0 G0 B0 T0 K0 4 T A9 Q9 0 0 [(A 0, .inr (6, [.ref (A 1), .ref (A 2), .ref (A 3), .ref (A 4), .ref (A 5), .ref (A 6), .ref (A 7), .int (f 0), .int (f 19)])), (A 1, .inr (4, [.int (f 1), .int (f 3), .int (f 5)])), (A 2, .inr (4, [.int (f 2), .int (f 4), .int (f 6)])), (A 3, .inr (5, [.int (f 7), .int (f 8), .int (f 9), .int (f 10)])), (A 4, .inr (1, [.int (f 11), .int (f 12), .int (f 13), .int (f 14), .int (f 15), .int (f 16), .int (f 17)])), (A 5, .inr (0, [.long rb, .int (f 28)])), (A 6, .inr (0, [.long sb, .int (f 18)])), (A 7, .inr (7, [.int (f 20), .int (f 21), .int (f 22), .int (f 23), .int (f 24), .int (f 25), .int (f 26), .int (f 27)]))] 0 [(0, .ref (A 0)), (1, .int many)] []
  have zh0 := fe_X6_makeSamples f rb sb many
  refine Z.of (pc' := 1) (fun _ _ _ hl => lv_iload_n hx hb dX6_makeSamples_0 rfl (lv_at hl 1 rfl)) ?_
  refine Z.of (pc' := 2) (fun _ _ _ _ => lv_iconst (v := 1) hx hb dX6_makeSamples_1 (by decide)) ?_
  refine Z.of (pc' := 5) (fun _ _ _ _ => lv_sipush (v := 300) hx hb dX6_makeSamples_2 (by decide)) ?_
  refine z_callNi C (c_X9_isWithin l T many 1 300) ⟨va_cnB 3 hts gX6_makeSamples_X9_isWithin_n77 rfl rfl rfl (hn.2.2.2.2.2.2.2.2.1) (hts (.initialized RX9) (by decide +kernel)) (by decide +kernel) ⟨Nat.le_of_ble_eq_true rfl, Nat.le_of_ble_eq_true rfl⟩, hts (.static yX9_isWithin) (by decide +kernel), trivial⟩ (As := [.int many, .int 1, .int 300]) (rest := []) rfl rfl (Nat.le_of_ble_eq_true rfl) dX6_makeSamples_5 rfl ⟨Nat.zero_le _, Nat.zero_le _⟩ (fun u1 eu1 bu1 => ?_)
  have zh2 := zl_e zh0 eu1
  refine Z.two' (pt := 14) (pf := 11) (fun _ _ _ _ => lv_if_ne hx hb dX6_makeSamples_8 (by decide)) (fun c3 => ?_) (fun c3 => ?_)
  · have zh4 := zh2.trans (if_neg c3)
    refine Z.of (pc' := 15) (fun _ _ _ hl => lv_aload_n hx hb dX6_makeSamples_14 rfl (lv_at hl 0 rfl)) ?_
    refine z_get C iX6 0 6 k57 rfl rfl (by decide) rfl rfl dX6_makeSamples_15 rfl ?_
    refine z_get C iX7 7 3 k96 rfl rfl (by decide) rfl rfl dX6_makeSamples_18 rfl ?_
    refine Z.sto (pc' := 22) (lv' := [(2, .int (f 23)), (0, .ref (A 0)), (1, .int many)]) (fun _ _ _ hl => lv_istore_n (lv' := [(2, .int (f 23)), (0, .ref (A 0)), (1, .int many)]) hx hb dX6_makeSamples_21 rfl hl (by decide) rfl) ?_
    refine Z.of (pc' := 23) (fun _ _ _ _ => lv_iconst (v := 0) hx hb dX6_makeSamples_22 (by decide)) ?_
    refine Z.sto (pc' := 24) (lv' := [(3, .int 0), (2, .int (f 23)), (0, .ref (A 0)), (1, .int many)]) (fun _ _ _ hl => lv_istore_n (lv' := [(3, .int 0), (2, .int (f 23)), (0, .ref (A 0)), (1, .int many)]) hx hb dX6_makeSamples_23 rfl hl (by decide) rfl) ?_
    have hm := (zwithin_of eu1 c3).2
    have L24 : ∀ (q24 : Nat) (k : Nat) (fx : (Nat → Int32)) (rx : Int64) (sx : Int64), (k ≤ 300 ∧ k + q24 = 302) → f_X6_makeSamples f rb sb many = lp24_X6_makeSamples f rb sb many q24 k fx rx sx → Z P0 l E0 rm_X6_makeSamples S0 M0 G0 B0 T0 K0 4 T A9 Q9 0 0 [(A 0, .inr (6, [.ref (A 1), .ref (A 2), .ref (A 3), .ref (A 4), .ref (A 5), .ref (A 6), .ref (A 7), .int (fx 0), .int (fx 19)])), (A 1, .inr (4, [.int (fx 1), .int (fx 3), .int (fx 5)])), (A 2, .inr (4, [.int (fx 2), .int (fx 4), .int (fx 6)])), (A 3, .inr (5, [.int (fx 7), .int (fx 8), .int (fx 9), .int (fx 10)])), (A 4, .inr (1, [.int (fx 11), .int (fx 12), .int (fx 13), .int (fx 14), .int (fx 15), .int (fx 16), .int (fx 17)])), (A 5, .inr (0, [.long rx, .int (fx 28)])), (A 6, .inr (0, [.long sx, .int (fx 18)])), (A 7, .inr (7, [.int (fx 20), .int (fx 21), .int (fx 22), .int (fx 23), .int (fx 24), .int (fx 25), .int (fx 26), .int (fx 27)]))] 24 [(0, .ref (A 0)), (1, .int many), (2, .int (f 23)), (3, .int (nI k))] [] := by
      intro q24
      induction q24 with
      | zero =>
        intro k fx rx sx hi24 zhl24
        omega
      | succ q24 ih =>
        intro k fx rx sx hi24 zhl24
        have zhb24 := zhl24.trans (lp24_X6_makeSamples_s f rb sb many q24 k fx rx sx)
        refine Z.of (pc' := 25) (fun _ _ _ hl => lv_iload_n hx hb dX6_makeSamples_24 rfl (lv_at hl 3 rfl)) ?_
        refine Z.of (pc' := 26) (fun _ _ _ hl => lv_iload_n hx hb dX6_makeSamples_25 rfl (lv_at hl 1 rfl)) ?_
        refine Z.two (pt := 43) (pf := 29) (fun _ _ _ _ => lv_icmp_ge hx hb dX6_makeSamples_26 (by decide)) (fun c6 => ?_) (fun c6 => ?_)
        · have zh7 := zhb24.trans (if_pos c6)
          refine Z.of (pc' := 44) (fun _ _ _ hl => lv_aload_n hx hb dX6_makeSamples_43 rfl (lv_at hl 0 rfl)) ?_
          refine z_get C iX6 0 6 k57 rfl rfl (by decide) rfl rfl dX6_makeSamples_44 rfl ?_
          refine z_get C iX7 7 3 k96 rfl rfl (by decide) rfl rfl dX6_makeSamples_47 rfl ?_
          refine Z.of (pc' := 51) (fun _ _ _ hl => lv_iload_n hx hb dX6_makeSamples_50 rfl (lv_at hl 2 rfl)) ?_
          refine Z.of (pc' := 52) (fun _ _ _ hl => lv_isub hx hb dX6_makeSamples_51) ?_
          exact E ((fx 23) - (f 23), fx, rx, sx) _ _ _ _ dX6_makeSamples_52 rfl rfl rfl zh7
        · have zh8 := zhb24.trans (if_neg c6)
          refine Z.of (pc' := 30) (fun _ _ _ hl => lv_aload_n hx hb dX6_makeSamples_29 rfl (lv_at hl 0 rfl)) ?_
          refine Z.of (pc' := 31) (fun _ _ _ hl => lv_aload_n hx hb dX6_makeSamples_30 rfl (lv_at hl 0 rfl)) ?_
          refine z_callVi C (c_X6_nextRawBit l T A fx rx sx) [0, 1, 2, 3, 4, 5, 6, 7] [] rfl (by decide +kernel) (fun u9 => [(A 0, .inr (6, [.ref (A 1), .ref (A 2), .ref (A 3), .ref (A 4), .ref (A 5), .ref (A 6), .ref (A 7), .int (u9.2 0), .int (u9.2 19)])), (A 1, .inr (4, [.int (u9.2 1), .int (u9.2 3), .int (u9.2 5)])), (A 2, .inr (4, [.int (u9.2 2), .int (u9.2 4), .int (u9.2 6)])), (A 3, .inr (5, [.int (u9.2 7), .int (u9.2 8), .int (u9.2 9), .int (u9.2 10)])), (A 4, .inr (1, [.int (u9.2 11), .int (u9.2 12), .int (u9.2 13), .int (u9.2 14), .int (u9.2 15), .int (u9.2 16), .int (u9.2 17)])), (A 5, .inr (0, [.long rx, .int (u9.2 28)])), (A 6, .inr (0, [.long sx, .int (u9.2 18)])), (A 7, .inr (7, [.int (u9.2 20), .int (u9.2 21), .int (u9.2 22), .int (u9.2 23), .int (u9.2 24), .int (u9.2 25), .int (u9.2 26), .int (u9.2 27)]))]) (fun _ => rfl) [] rfl (fun _ => rfl) [A 0, A 1, A 2, A 3, A 4, A 5, A 6, A 7] rfl (fun _ => rfl) 8 (fun _ => rfl) (by decide +kernel) (cwV 0 hts gX6_makeSamples_X6_nextRawBit rfl rfl rfl (by decide +kernel) ⟨Nat.le_of_ble_eq_true rfl, Nat.le_of_ble_eq_true rfl⟩) 0 rfl rfl rfl (As := []) (rest := [.ref (A 0)]) rfl rfl (Nat.le_of_ble_eq_true rfl) dX6_makeSamples_31 rfl ⟨Nat.zero_le _, Nat.zero_le _⟩ (fun u9 eu9 bu9 => ?_)
          have zh10 := zl_e zh8 eu9
          refine z_callVv C (c_X6_takeRawBit l T A u9.2 rx sx u9.1) [0, 1, 2, 3, 4, 5, 6, 7] [] rfl (by decide +kernel) (fun u11 => [(A 0, .inr (6, [.ref (A 1), .ref (A 2), .ref (A 3), .ref (A 4), .ref (A 5), .ref (A 6), .ref (A 7), .int (u11.1 0), .int (u11.1 19)])), (A 1, .inr (4, [.int (u11.1 1), .int (u11.1 3), .int (u11.1 5)])), (A 2, .inr (4, [.int (u11.1 2), .int (u11.1 4), .int (u11.1 6)])), (A 3, .inr (5, [.int (u11.1 7), .int (u11.1 8), .int (u11.1 9), .int (u11.1 10)])), (A 4, .inr (1, [.int (u11.1 11), .int (u11.1 12), .int (u11.1 13), .int (u11.1 14), .int (u11.1 15), .int (u11.1 16), .int (u11.1 17)])), (A 5, .inr (0, [.long u11.2.1, .int (u11.1 28)])), (A 6, .inr (0, [.long u11.2.2, .int (u11.1 18)])), (A 7, .inr (7, [.int (u11.1 20), .int (u11.1 21), .int (u11.1 22), .int (u11.1 23), .int (u11.1 24), .int (u11.1 25), .int (u11.1 26), .int (u11.1 27)]))]) (fun _ => rfl) [] rfl (fun _ => rfl) [A 0, A 1, A 2, A 3, A 4, A 5, A 6, A 7] rfl (fun _ => rfl) 8 (fun _ => rfl) (by decide +kernel) (cwV 1 hts gX6_makeSamples_X6_takeRawBit rfl rfl rfl (by decide +kernel) ⟨Nat.le_of_ble_eq_true rfl, Nat.le_of_ble_eq_true rfl⟩) 0 rfl rfl rfl (As := [.int u9.1]) (rest := []) rfl rfl (Nat.le_of_ble_eq_true rfl) dX6_makeSamples_34 rfl ⟨Nat.zero_le _, Nat.zero_le _⟩ (fun u11 eu11 => ?_)
          have zh12 := zl_e zh10 eu11
          refine Z.sto (pc' := 40) (lv' := [(3, .int (nI (k + 1))), (0, .ref (A 0)), (1, .int many), (2, .int (f 23))]) (fun _ _ _ hl => lv_iinc (lv' := [(3, .int (nI (k + 1))), (0, .ref (A 0)), (1, .int many), (2, .int (f 23))]) hx hb dX6_makeSamples_37 hl (k := 3) rfl ((zi_add (a := k) (b := 1) (rfl : nI k = nI k) (by decide : Int32.ofInt 1 = nI 1)).trans (congrArg nI (by omega))) (by decide) rfl) ?_
          refine Z.of (pc' := 24) (fun _ _ _ _ => lv_goto hx hb dX6_makeSamples_40 (by decide)) ?_
          exact Z.sub (ks := [1, 2, 3, 0]) (lv' := [(0, .ref (A 0)), (1, .int many), (2, .int (f 23)), (3, .int (nI (k + 1)))]) rfl (ih (k + 1) u11.1 u11.2.1 u11.2.2 (by have hlt := zlt_of (N := 300) c6 hm (by omega) (by omega); omega) zh12)
    exact Z.sub (ks := [2, 3, 1, 0]) (lv' := [(0, .ref (A 0)), (1, .int many), (2, .int (f 23)), (3, .int 0)]) rfl (L24 302 0 f rb sb (by omega) zh4)
  · have zh5 := zh2.trans (if_pos c3)
    refine Z.of (pc' := 13) (fun _ _ _ _ => lv_ldc hx hb hown (hts (.constant RX6 81 (-1000001)) (by decide +kernel)) dX6_makeSamples_11) ?_
    exact E ((-1000001), f, rb, sb) _ _ _ _ dX6_makeSamples_13 rfl rfl rfl zh5
