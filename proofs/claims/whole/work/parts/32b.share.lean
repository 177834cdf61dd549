theorem cnt_64N {X N : Nat} (hN : N ≤ 64) (h : X < 2 ^ N) : cntB X 64 = cntB X N := by
  obtain ⟨d, hd⟩ : ∃ d, 64 = N + d := ⟨64 - N, by omega⟩
  rw [hd]
  exact cnt_hi h d
theorem zl_id {α : Type} (x : α) : zl x (fun u => u) = x := rfl
theorem ones_zl (b : Int64) (n : Int32) : f_X0_ones b n = f_J13_bitCount_95d88 b := by
  rw [fe_X0_ones]
  exact zl_id _
theorem ones_eq {X N : Nat} {n : Int32} (hX : X < 2 ^ 64) (hN : N ≤ 64) (h : X < 2 ^ N) : f_X0_ones (lN X) n = nI (cntB X N) := (ones_zl _ _).trans ((bitCount_eq hX).trans (congrArg nI (cnt_64N hN h)))
theorem ones_ok : OnesOK := by
  intro x n hn hz
  obtain ⟨X, hX, rfl⟩ := wb_of x
  obtain ⟨N, hN, eN, cN⟩ := IN_get hn
  rw [cN] at hz ⊢
  have hl : X < 2 ^ N := Nat.lt_pow_two_of_testBit _ (fun i hi => by rw [← tbN hX]; exact hz i hi)
  rw [ones_eq hX hN hl]
  exact IN_nI (cnt_le X N) (by omega)
theorem sh_loop (g m t : Nat → Int32) (X N : Nat) (hN : N ≤ 64) (h28 : m 28 = nI N) (h0 : ¬ N = 0) (hb : ∀ k, k < N → m (29 + k) = nI (X / 2 ^ (N - 1 - k) % 2)) : ∀ (q k : Nat), k + q = 65 → k ≤ N → lp4_X10_share g m t q (nI (cntB X N - cntB X (N - k))) k = f_Jxf58ca_floatToIntBits_5c35a (FP.fdiv (FP.i2f (nI (cntB X N))) (FP.i2f (nI N))) := by
  intro q
  induction q with
  | zero => intro k h1 h2; omega
  | succ q ih =>
    intro k h1 h2
    rw [lp4_X10_share_s, h28]
    by_cases c : N ≤ k
    · have : k = N := by omega
      subst this
      rw [if_pos (nI_le c (by omega)), if_neg (nI_ne0 (by omega) (by omega)), Nat.sub_self]
      rfl
    · rw [if_neg (nI_ge (by omega) (by omega)), show k + 29 = 29 + k by omega, hb k (by omega), nI_add]
      have e1 : cntB X (N - k) = cntB X (N - (k + 1)) + X / 2 ^ (N - 1 - k) % 2 := by
        rw [show N - k = (N - (k + 1)) + 1 by omega, show N - 1 - k = N - (k + 1) by omega]
        rfl
      have e2 : cntB X (N - k) ≤ cntB X N := by
        have : ∀ d i, cntB X i ≤ cntB X (i + d) := fun d i => by
          induction d with
          | zero => exact Nat.le_refl _
          | succ d ihd => exact Nat.le_trans ihd (Nat.le_add_right _ _)
        have q := this k (N - k)
        rwa [show N - k + k = N by omega] at q
      have := ih (k + 1) (by omega) (by omega)
      rw [← this]
      congr 2
      omega
theorem le_share : LE_share LWd := by
  intro fn rn sn ft rt st hm f1 r1 s1 f2 r2 s2 f3 r3 s3 f4 r4 s4 o n t g m tm h u hu v hv
  refine ⟨?_, h⟩
  have e28 : m 28 = fn 28 := h.1.1 28 (by decide) (by decide) (by decide) (by decide)
  have hr := h.1.2.2.2.2.1
  obtain ⟨X, hX, rfl⟩ := wb_of rn
  obtain ⟨N, hN, eN, cN⟩ := IN_get hr.1
  have hl : X < 2 ^ N := rowR_lt hX hN (by rw [← eN]; exact hr)
  have hb := hr.2.1
  rw [cN] at hb
  unfold f_X9_share at hu
  unfold f_X10_share at hv
  simp only [zl] at hu
  rw [ones_eq hX hN hl, eN] at hu
  by_cases c : N = 0
  · subst c
    rw [if_neg (by decide)] at hu
    rw [lp4_X10_share_s, e28, eN, if_pos (by decide), if_pos (by decide)] at hv
    rw [hu, hv]
  · rw [if_pos (show 0 < nI N from (nI_ltI (a := 0) (b := N) (by decide) (by omega)).mpr (by omega))] at hu
    have hs := (zshare (o := nI (cntB X N)) (k := nI N) (IN_nI hN (by decide)) (IN_nI (cnt_le X N) (by omega)) (by rw [nI_clamp (by omega)]; exact Nat.le_refl _) (nI_ne0 (by omega) (by omega))).2
    have hlp := sh_loop g m tm X N hN (e28.trans eN) c (fun k hk => by rw [hb k hk, bitN hX]) 65 0 (by decide) (by omega)
    rw [Nat.sub_zero, Nat.sub_self] at hlp
    rw [hu, hs]
    rw [hv]
    exact hlp.symm
