/-! My layer over the kit: one judgement Z that hides heap, journal and slot array; contracts Ci, Cv, Cr of methods that make no cell. -/
def zl {α : Type} {β : Type} (g : α) (b : α → β) : β := b g
theorem zl_e {α β : Type} {x : β} {g u : α} {b : α → β} (h : x = zl g b) (e : u = g) : x = b u := by subst e; exact h
def zN (U : State) : Prop := va_Nw (.methodLinkNest RX3 39 yX8_init "JudgedBits") U ∧ va_Nw (.methodLinkNest RX3 69 yX9_isWithin "JudgedBits") U ∧ va_Nw (.methodLinkNest RX4 21 yX9_remainder "JudgedBits") U ∧ va_Nw (.methodLinkNest RX5 33 yX9_isWithin "JudgedBits") U ∧ va_Nw (.methodLinkNest RX6 32 yX5_init "JudgedBits") U ∧ va_Nw (.methodLinkNest RX6 39 yX1_init "JudgedBits") U ∧ va_Nw (.methodLinkNest RX6 46 yX0_init "JudgedBits") U ∧ va_Nw (.methodLinkNest RX6 56 yX7_init "JudgedBits") U ∧ va_Nw (.methodLinkNest RX6 77 yX9_isWithin "JudgedBits") U ∧ va_Nw (.methodLinkNest RX8 19 yX9_isWithin "JudgedBits") U
theorem zN.same {u U : State} (h : u.vm = U.vm) (hZ : zN u) : zN U := by
  obtain ⟨a, b, c, d, e, f, g, i, j, k⟩ := hZ
  exact ⟨a.same rfl h, b.same rfl h, c.same rfl h, d.same rfl h, e.same rfl h, f.same rfl h, g.same rfl h, i.same rfl h, j.same rfl h, k.same rfl h⟩
theorem zN.warm {s U : State} (hW : s.WarmedH U.vm) (hZ : zN s) : zN U := by
  obtain ⟨a, b, c, d, e, f, g, i, j, k⟩ := hZ
  exact ⟨a.warmM hW, b.warmM hW, c.warmM hW, d.warmM hW, e.warmM hW, f.warmM hW, g.warmM hW, i.warmM hW, j.warmM hW, k.warmM hW⟩
abbrev zT : Type := va_G × ClassId × ClassId × ClassId
def zK (T : zT) (U : State) : Prop := va_K T.1 vwCl [(T.2.1, .char), (T.2.2.1, .int), (T.2.2.2, .char)] U ∧ zN U
theorem zK.warm {T : zT} {s U : State} (hW : s.WarmedH U.vm) (h : zK T s) : zK T U := ⟨va_K.moved hW.alike h.1, h.2.warm hW⟩
/-- behind a call: the callee's cells at the places is, the others (at the places ic) as they were -/
theorem zput_P {D : va_G} {cl : List vw_C} {A : Nat → Prop} {ws w0 w1 w2 : va_W} {is ic : List Nat} {H H1 : Heap} (hP : va_P D cl ws H) (hD : va_D A ws) (h0 : is.map (fun i => ws[i]?) = w0.map some) (h2 : is.map (fun i => w2[i]?) = w1.map some) (wr : va_W) (hR : ic.map (fun i => ws[i]?) = wr.map some) (hR2 : ic.map (fun i => w2[i]?) = wr.map some) (n : Nat) (hn : w2.length = n) (hcov : (List.range n).all (fun i => is.contains i || ic.contains i) = true)
    (hk : ∀ q : Nat, q < H.size → ¬ va_A w0 H.size q → H1[q]? = H[q]?) (hP1 : va_P D cl w1 H1) : va_P D cl w2 H1 := by
  intro k q hq
  have hkl : k < n := by rw [← hn]; exact (List.getElem?_eq_some_iff.mp hq).1
  have hc := List.all_eq_true.mp hcov k (List.mem_range.mpr hkl)
  by_cases hm : k ∈ is
  · obtain ⟨j, hj⟩ := List.getElem?_of_mem hm
    have h1 : (is.map (fun i => w2[i]?))[j]? = some (some q) := by rw [List.getElem?_map, hj]; exact congrArg some hq
    rw [h2, List.getElem?_map] at h1
    cases hw : w1[j]? with
    | none => rw [hw] at h1; cases h1
    | some q1 => rw [hw] at h1; cases h1; exact hP1 j q hw
  · have hmc : k ∈ ic := by
      rw [Bool.or_eq_true] at hc
      rcases hc with h | h
      · exact absurd (List.contains_iff_mem.mp h) hm
      · exact List.contains_iff_mem.mp h
    obtain ⟨j, hj⟩ := List.getElem?_of_mem hmc
    have h1 : (ic.map (fun i => w2[i]?))[j]? = some (some q) := by rw [List.getElem?_map, hj]; exact congrArg some hq
    rw [hR2, ← hR, List.getElem?_map, hj] at h1
    have h3 : ws[k]? = some q := Option.some.inj h1
    have hlt := (hP k q h3).lt
    refine (hP k q h3).kept (hk q.1 hlt (fun hA => ?_))
    rcases hA with ⟨k2, e, h⟩ | h
    · have h4 : (is.map (fun i => ws[i]?))[k2]? = some (some (q.1, e)) := by rw [h0, List.getElem?_map, h]; rfl
      rw [List.getElem?_map] at h4
      cases hi : is[k2]? with
      | none => rw [hi] at h4; cases h4
      | some i =>
        rw [hi] at h4
        have h5 : ws[i]? = some (q.1, e) := Option.some.inj h4
        have hij := hD.1 k i q (q.1, e) h3 h5 rfl
        subst hij
        exact hm (List.mem_of_getElem? hi)
    · omega
theorem zD_addr {A : Nat → Prop} {ws w2 : va_W} (h : w2.map Prod.fst = ws.map Prod.fst) (hD : va_D A ws) : va_D A w2 := by
  have key : ∀ (k : Nat) (q : Nat × va_E), w2[k]? = some q → ∃ q0, ws[k]? = some q0 ∧ q0.1 = q.1 := by
    intro k q hk
    have h1 : (ws.map Prod.fst)[k]? = some q.1 := by rw [← h, List.getElem?_map, hk]; rfl
    rw [List.getElem?_map] at h1
    cases hw : ws[k]? with
    | none => rw [hw] at h1; cases h1
    | some q0 => rw [hw] at h1; exact ⟨q0, rfl, Option.some.inj h1⟩
  refine ⟨fun i j x y hi hj hxy => ?_, fun k q hk => ?_⟩
  · obtain ⟨x0, h1, h2⟩ := key i x hi
    obtain ⟨y0, h3, h4⟩ := key j y hj
    exact hD.1 i j x0 y0 h1 h3 (h2.trans (hxy.trans h4.symm))
  · obtain ⟨q0, h1, h2⟩ := key k q hk
    rw [← h2]
    exact hD.2 k q0 h1
theorem zsub_P {D : va_G} {cl : List vw_C} {ws w0 : va_W} {H : Heap} (h : va_P D cl ws H) {is : List Nat} (h0 : is.map (fun i => ws[i]?) = w0.map some) : va_P D cl w0 H := by
  intro k q hk
  have h1 : (is.map (fun i => ws[i]?))[k]? = some (some q) := by rw [h0, List.getElem?_map, hk]; rfl
  rw [List.getElem?_map] at h1
  cases hi : is[k]? with
  | none => rw [hi] at h1; cases h1
  | some i => rw [hi] at h1; exact h i q (Option.some.inj h1)
/-- a method's start -/
def zPre (T : zT) (sz : Nat) (w0 : va_W) (U : State) : Prop := U.heap.size = sz ∧ va_P T.1 vwCl w0 U.heap ∧ zK T U ∧ va_D (fun _ => True) w0
theorem zPre_blind {T : zT} {sz : Nat} {w0 : va_W} {av : List Value} : FrameBlind (va_Pc av (zPre T sz w0)) := by
  intro a U g mk q
  obtain ⟨q0, q1, qP, ⟨qK, qN⟩, qD⟩ := q
  exact ⟨q0, q1, qP, ⟨va_K.moved (u := U) (U := U.calling g mk a) (Vm.Alike.refl U.vm) qK, qN.same rfl⟩, qD⟩
abbrev zQi {S : Type} (T : zT) (rty : FieldType) (g : S) (ρ : S → Int32) (ω : S → va_W) (A : Nat → Prop) : Array Value → State → Outcome → State → Prop := va_Qi (fun (r : Int32) (u : S) => u = g ∧ r = ρ u ∧ narrow rty (.int r) = .int r) (fun u t => va_P T.1 vwCl (ω u) t.heap) A
abbrev zQv {S : Type} (T : zT) (g : S) (ω : S → va_W) (A : Nat → Prop) : Array Value → State → Outcome → State → Prop := va_Qv (fun (u : S) => u = g) (fun u t => va_P T.1 vwCl (ω u) t.heap) A
abbrev zQr {S : Type} (T : zT) (g : S) (ρ : S → Nat) (ω : S → va_W) (A : Nat → Prop) : Array Value → State → Outcome → State → Prop := va_Qr (fun (u : S) => u = g) (fun u a t => a = ρ u ∧ va_P T.1 vwCl (ω u) t.heap) A
/-- contracts of methods that make no cell: an int (boolean, char), nothing, a reference -/
def Ci (l : Launch) (y : MethodName) (wy : List Cond) (rm : Room) (T : zT) (rty : FieldType) (av : List Value) (w0 : va_W) {S : Type} (g : S) (ρ : S → Int32) (ω : S → va_W) : Prop :=
  ∀ sz : Nat, Met l y wy rm (va_Pc av (zPre T sz w0)) (zQi T rty g ρ ω (va_A w0 sz)) 0 0 (va_A w0 sz)
def Cv (l : Launch) (y : MethodName) (wy : List Cond) (rm : Room) (T : zT) (av : List Value) (w0 : va_W) {S : Type} (g : S) (ω : S → va_W) : Prop :=
  ∀ sz : Nat, Met l y wy rm (va_Pc av (zPre T sz w0)) (zQv T g ω (va_A w0 sz)) 0 0 (va_A w0 sz)
def Cr (l : Launch) (y : MethodName) (wy : List Cond) (rm : Room) (T : zT) (av : List Value) (w0 : va_W) {S : Type} (g : S) (ρ : S → Nat) (ω : S → va_W) : Prop :=
  ∀ sz : Nat, Met l y wy rm (va_Pc av (zPre T sz w0)) (zQr T g ρ ω (va_A w0 sz)) 0 0 (va_A w0 sz)
section ZR
variable {p : Program} {l : Launch} {e : Env} {R : Room} {s : State} {m : MethodId} {args : Array Value} {below : List Frame} {meth : Method} {c : Code} {cells slots : Nat} {Q : State → Prop} {cc : ByteArray} {nL : Nat} {own : String} {Ts : List Cond} {T : zT} {A : Nat → Prop} {ws : va_W} {pc pc' : Nat} {lv lv' : List (Nat × Value)} {st st' rest : List Value} {a : Nat} {w0 : va_W}
def Z (p : Program) (l : Launch) (e : Env) (R : Room) (s : State) (m : MethodId) (args : Array Value) (below : List Frame) (meth : Method) (c : Code) (nL : Nat) (T : zT) (A : Nat → Prop) (Q : State → Prop) (cells slots : Nat) (ws : va_W) (pc : Nat) (lv : List (Nat × Value)) (st : List Value) : Prop :=
  ∀ (H : Heap) (locs : List Loc) (ls : Array Slot), va_P T.1 vwCl ws H → va_D A ws → va_S A s.heap H locs → lv_has ls nL lv → W p l e R s m args below meth c H locs cells slots Q (F0 m pc ls st)
abbrev zC (p : Program) (l : Launch) (e : Env) (R : Room) (s : State) (m : MethodId) (args : Array Value) (meth : Method) (c : Code) (cc : ByteArray) (nL : Nat) (own : String) (Ts : List Cond) (T : zT) (A : Nat → Prop) : Prop :=
  CallFix p m c cc nL s args Ts own ∧ zK T s ∧ meth.locks = false ∧ ∀ q, s.heap.size ≤ q → A q
theorem Z.of (h : ∀ (H : Heap) (locs : List Loc) (ls : Array Slot), lv_has ls nL lv → W p l e R s m args below meth c H locs cells slots Q (F0 m pc' ls st') → W p l e R s m args below meth c H locs cells slots Q (F0 m pc ls st)) (K : Z p l e R s m args below meth c nL T A Q cells slots ws pc' lv st') : Z p l e R s m args below meth c nL T A Q cells slots ws pc lv st :=
  fun H locs ls hP hD hS hl => h H locs ls hl (K H locs ls hP hD hS hl)
theorem Z.two {b : Prop} {pt pf : Nat} (h : ∀ (H : Heap) (locs : List Loc) (ls : Array Slot), lv_has ls nL lv → (b → W p l e R s m args below meth c H locs cells slots Q (F0 m pt ls st')) → (¬ b → W p l e R s m args below meth c H locs cells slots Q (F0 m pf ls st')) → W p l e R s m args below meth c H locs cells slots Q (F0 m pc ls st)) (Kt : b → Z p l e R s m args below meth c nL T A Q cells slots ws pt lv st') (Kf : ¬ b → Z p l e R s m args below meth c nL T A Q cells slots ws pf lv st') : Z p l e R s m args below meth c nL T A Q cells slots ws pc lv st :=
  fun H locs ls hP hD hS hl => h H locs ls hl (fun hb => Kt hb H locs ls hP hD hS hl) (fun hb => Kf hb H locs ls hP hD hS hl)
theorem Z.two' {b : Prop} {pt pf : Nat} (h : ∀ (H : Heap) (locs : List Loc) (ls : Array Slot), lv_has ls nL lv → (¬ b → W p l e R s m args below meth c H locs cells slots Q (F0 m pt ls st')) → (b → W p l e R s m args below meth c H locs cells slots Q (F0 m pf ls st')) → W p l e R s m args below meth c H locs cells slots Q (F0 m pc ls st)) (Kt : ¬ b → Z p l e R s m args below meth c nL T A Q cells slots ws pt lv st') (Kf : b → Z p l e R s m args below meth c nL T A Q cells slots ws pf lv st') : Z p l e R s m args below meth c nL T A Q cells slots ws pc lv st :=
  fun H locs ls hP hD hS hl => h H locs ls hl (fun hb => Kt hb H locs ls hP hD hS hl) (fun hb => Kf hb H locs ls hP hD hS hl)
theorem Z.sto (h : ∀ (H : Heap) (locs : List Loc) (ls : Array Slot), lv_has ls nL lv → (∀ ls' : Array Slot, lv_has ls' nL lv' → W p l e R s m args below meth c H locs cells slots Q (F0 m pc' ls' st')) → W p l e R s m args below meth c H locs cells slots Q (F0 m pc ls st)) (K : Z p l e R s m args below meth c nL T A Q cells slots ws pc' lv' st') : Z p l e R s m args below meth c nL T A Q cells slots ws pc lv st :=
  fun H locs ls hP hD hS hl => h H locs ls hl (fun ls' hl' => K H locs ls' hP hD hS hl')
theorem Z.eqv {lv2 : List (Nat × Value)} (h : ∀ q ∈ lv', q ∈ lv2) (K : Z p l e R s m args below meth c nL T A Q cells slots ws pc lv' st) : Z p l e R s m args below meth c nL T A Q cells slots ws pc lv2 st :=
  fun H locs ls hP hD hS hl => K H locs ls hP hD hS ⟨hl.1, hl.2.1, fun q hq => hl.2.2 q (h q hq)⟩
theorem Z.sub {ks : List Nat} (h : lv_pick lv ks = lv') (K : Z p l e R s m args below meth c nL T A Q cells slots ws pc lv' st) : Z p l e R s m args below meth c nL T A Q cells slots ws pc lv st :=
  fun H locs ls hP hD hS hl => K H locs ls hP hD hS (lv_sub hl ks h)
theorem z_get (C : zC p l e R s m args meth c cc nL own Ts T A) {Cn : String} {F : u_T} {N ci index : Nat} (hin : ∀ w ∈ u_ws Cn F N, w ∈ Ts) (q0 : Nat) {fs : List Value} (k : Nat) (hlink : (Cond.fieldLink own index Cn (F k).2.1 (F k).2.2.1).before args s = true) (he : ws[q0]? = some (a, .inr (ci, fs))) (hc : vwCl[ci]? = some (Cn, F, N)) (hk : k < N) (hT1 : (F k).1 = Cn) {v : Value} (hv : fs[k]? = some v) (hd : decode cc pc = .ok (.getfield index, 3)) (hpc : pc + 3 = pc')
    (K : Z p l e R s m args below meth c nL T A Q cells slots ws pc' lv (v :: rest)) : Z p l e R s m args below meth c nL T A Q cells slots ws pc lv (.ref a :: rest) := by
  subst hpc
  obtain ⟨⟨hx, hb, hml, hown, hts⟩, ⟨hK, hN⟩, hlk, hA⟩ := C
  intro H locs ls hP hD hS hl
  exact va_get hx hb hts hin hown hK hP q0 he hc k hk hlink (fun x h => by rw [hT1] at h; exact h) hv hd (K H locs ls hP hD hS hl)
theorem z_put (C : zC p l e R s m args meth c cc nL own Ts T A) {Cn : String} {F : u_T} {N ci index : Nat} (hin : ∀ w ∈ u_ws Cn F N, w ∈ Ts) {ty0 : Nat → FieldType} (hty : ∀ k, k < N → parseFieldDescriptor (F k).2.2.1 = some (ty0 k)) (hnm : ∀ a, a < N → ∀ b, b < N → a ≠ b → (F a).2.1 ≠ (F b).2.1) (q0 : Nat) {fs : List Value} (k : Nat) (hlink : (Cond.fieldLink own index Cn (F k).2.1 (F k).2.2.1).before args s = true) (he : ws[q0]? = some (a, .inr (ci, fs))) (hc : vwCl[ci]? = some (Cn, F, N)) (hk : k < N) (hT1 : (F k).1 = Cn) (hfin : (F k).2.2.2 = false) {v : Value} (hn : narrow (ty0 k) v = v) (hfit : fits (ty0 k) v = true) (hl : k < fs.length) (hd : decode cc pc = .ok (.putfield index, 3)) (hpc : pc + 3 = pc') (ws' : va_W) (hws : ws.set q0 (a, .inr (ci, fs.set k v)) = ws')
    (K : Z p l e R s m args below meth c nL T A Q cells slots ws' pc' lv rest) : Z p l e R s m args below meth c nL T A Q cells slots ws pc lv (v :: .ref a :: rest) := by
  subst hpc
  subst hws
  obtain ⟨⟨hx, hb, hml, hown, hts⟩, ⟨hK, hN⟩, hlk, hA⟩ := C
  intro H locs ls hP hD hS hll
  exact va_put hx hb hts hin ty0 hty hnm hown hK hP hD hS q0 he hc k hk hlink (fun x h => by rw [hT1] at h; exact h) hfin (hty k hk) hn hfit hl hd (fun H1 locs1 hP1 hD1 hS1 => K H1 locs1 ls hP1 hD1 hS1 hll)
theorem z_iald (C : zC p l e R s m args meth c cc nL own Ts T A) (q0 t0 : Nat) {cA : ClassId} {n : Nat} {f : Nat → Int32} (ha : ws[q0]? = some (a, .inl (cA, n, .inl f))) (ht : [(T.2.1, FieldType.char), (T.2.2.1, FieldType.int), (T.2.2.2, FieldType.char)][t0]? = some (cA, FieldType.int)) {i : Int32} {j : Nat} (hi : i = nI j) (hj : j < n) (hn : n < 2 ^ 31) (hd : decode cc pc = .ok (.iaload, 1)) (hpc : pc + 1 = pc')
    (K : Z p l e R s m args below meth c nL T A Q cells slots ws pc' lv (.int (f j) :: rest)) : Z p l e R s m args below meth c nL T A Q cells slots ws pc lv (.int i :: .ref a :: rest) := by
  subst hpc
  subst hi
  obtain ⟨⟨hx, hb, hml, hown, hts⟩, ⟨hK, hN⟩, hlk, hA⟩ := C
  intro H locs ls hP hD hS hll
  refine va_iald hx hb hK hP q0 t0 ha ht (vp_in_nI hj hn) hd ?_
  rw [nI_clamp (Nat.lt_trans hj hn)]
  exact K H locs ls hP hD hS hll
theorem z_cald (C : zC p l e R s m args meth c cc nL own Ts T A) (q0 t0 : Nat) {cA : ClassId} {n : Nat} {f : Nat → Int32} (ha : ws[q0]? = some (a, .inl (cA, n, .inl f))) (ht : [(T.2.1, FieldType.char), (T.2.2.1, FieldType.int), (T.2.2.2, FieldType.char)][t0]? = some (cA, FieldType.char)) {i : Int32} {j : Nat} (hi : i = nI j) (hj : j < n) (hn : n < 2 ^ 31) (hd : decode cc pc = .ok (.caload, 1)) (hpc : pc + 1 = pc')
    (K : Z p l e R s m args below meth c nL T A Q cells slots ws pc' lv (.int (f j) :: rest)) : Z p l e R s m args below meth c nL T A Q cells slots ws pc lv (.int i :: .ref a :: rest) := by
  subst hpc
  subst hi
  obtain ⟨⟨hx, hb, hml, hown, hts⟩, ⟨hK, hN⟩, hlk, hA⟩ := C
  intro H locs ls hP hD hS hll
  refine va_cald hx hb hK hP q0 t0 ha ht (vp_in_nI hj hn) hd ?_
  rw [nI_clamp (Nat.lt_trans hj hn)]
  exact K H locs ls hP hD hS hll
theorem z_iast (C : zC p l e R s m args meth c cc nL own Ts T A) (q0 t0 : Nat) {cA : ClassId} {n : Nat} {f : Nat → Int32} (ha : ws[q0]? = some (a, .inl (cA, n, .inl f))) (ht : [(T.2.1, FieldType.char), (T.2.2.1, FieldType.int), (T.2.2.2, FieldType.char)][t0]? = some (cA, FieldType.int)) {i x : Int32} {j : Nat} (hi : i = nI j) (hj : j < n) (hn : n < 2 ^ 31) (hd : decode cc pc = .ok (.iastore, 1)) (hpc : pc + 1 = pc') (w2 : (Nat → Int32) → va_W) (hws : ∀ g, ws.set q0 (a, .inl (cA, n, .inl g)) = w2 g)
    (K : ∀ g, g = upd f j x → Z p l e R s m args below meth c nL T A Q cells slots (w2 g) pc' lv rest) : Z p l e R s m args below meth c nL T A Q cells slots ws pc lv (.int x :: .int i :: .ref a :: rest) := by
  subst hpc
  subst hi
  obtain ⟨⟨hx, hb, hml, hown, hts⟩, ⟨hK, hN⟩, hlk, hA⟩ := C
  intro H locs ls hP hD hS hll
  refine va_iast hx hb hK hP hD hS q0 t0 ha ht (vp_in_nI hj hn) hd (fun H1 locs1 hP1 hD1 hS1 => ?_)
  rw [nI_clamp (Nat.lt_trans hj hn), hws] at hP1 hD1
  exact K _ rfl H1 locs1 ls hP1 hD1 hS1 hll
theorem z_cast (C : zC p l e R s m args meth c cc nL own Ts T A) (q0 t0 : Nat) {cA : ClassId} {n : Nat} {f : Nat → Int32} (ha : ws[q0]? = some (a, .inl (cA, n, .inl f))) (ht : [(T.2.1, FieldType.char), (T.2.2.1, FieldType.int), (T.2.2.2, FieldType.char)][t0]? = some (cA, FieldType.char)) {i x : Int32} {j : Nat} (hi : i = nI j) (hj : j < n) (hn : n < 2 ^ 31) (hd : decode cc pc = .ok (.castore, 1)) (hpc : pc + 1 = pc') (w2 : (Nat → Int32) → va_W) (hws : ∀ g, ws.set q0 (a, .inl (cA, n, .inl g)) = w2 g)
    (K : ∀ g, g = upd f j (vp_nar .char x) → Z p l e R s m args below meth c nL T A Q cells slots (w2 g) pc' lv rest) : Z p l e R s m args below meth c nL T A Q cells slots ws pc lv (.int x :: .int i :: .ref a :: rest) := by
  subst hpc
  subst hi
  obtain ⟨⟨hx, hb, hml, hown, hts⟩, ⟨hK, hN⟩, hlk, hA⟩ := C
  intro H locs ls hP hD hS hll
  refine va_cast hx hb hK hP hD hS q0 t0 ha ht (vp_in_nI hj hn) hd (fun H1 locs1 hP1 hD1 hS1 => ?_)
  rw [nI_clamp (Nat.lt_trans hj hn), hws] at hP1 hD1
  exact K _ rfl H1 locs1 ls hP1 hD1 hS1 hll
theorem z_alen (C : zC p l e R s m args meth c cc nL own Ts T A) (q0 t0 : Nat) {cA : ClassId} {x : vp_A} (ha : ws[q0]? = some (a, .inl (cA, x))) {ty : FieldType} (ht : [(T.2.1, FieldType.char), (T.2.2.1, FieldType.int), (T.2.2.2, FieldType.char)][t0]? = some (cA, ty)) {v : Int32} (hv : Int32.ofNat x.1 = v) (hd : decode cc pc = .ok (.arraylength, 1)) (hpc : pc + 1 = pc')
    (K : Z p l e R s m args below meth c nL T A Q cells slots ws pc' lv (.int v :: rest)) : Z p l e R s m args below meth c nL T A Q cells slots ws pc lv (.ref a :: rest) := by
  subst hpc
  obtain ⟨⟨hx, hb, hml, hown, hts⟩, ⟨hK, hN⟩, hlk, hA⟩ := C
  intro H locs ls hP hD hS hll
  exact va_alen hx hb hK hP q0 t0 ha ht hv hd (K H locs ls hP hD hS hll)
-- calls of methods that make no cell
section ZCALL
variable {S : Type} {y : MethodName} {wy : List Cond} {rm : Room} {As : List Value} {g : S} {ω w2 : S → va_W} {is : List Nat} {bytes : ByteArray} {maxL n index ci q0 : Nat} {ret : Option FieldType} {fs : List Value} {q : vw_C} {Cn host : String} {b : Nat}
theorem z_callVi (C : zC p l e R s m args meth c cc nL own Ts T A) {ρ : S → Int32} {rty : FieldType} (hM : Ci l y wy rm T rty (.ref b :: As) w0 g ρ ω) (is ic : List Nat) (h0 : is.map (fun i => ws[i]?) = w0.map some) (hnd : va_nd is = true) (w2 : S → va_W) (h2 : ∀ u, is.map (fun i => (w2 u)[i]?) = (ω u).map some) (wr : va_W) (hR : ic.map (fun i => ws[i]?) = wr.map some) (hR2 : ∀ u, ic.map (fun i => (w2 u)[i]?) = wr.map some) (ad : List Nat) (h3a : ws.map Prod.fst = ad) (h3 : ∀ u, (w2 u).map Prod.fst = ad) (nw : Nat) (h4 : ∀ u, (w2 u).length = nw) (hcov : (List.range nw).all (fun i => is.contains i || ic.contains i) = true)
    (cw : CallW R s args own Cn index y bytes maxL ret wy rm 0 0 n) (q0 : Nat) (he : ws[q0]? = some (b, .inr (ci, fs))) (hci : vwCl[ci]? = some q) (hq : q.1 = Cn) (hst : st = As.reverse ++ .ref b :: rest) (hn : As.length = n) (hW : (rest.map fun v => v.category).sum ≤ 8) (hd : decode cc pc = .ok (.invokevirtual index, 3)) (hpc : pc + 3 = pc') (hcs : cells ≤ R.cells ∧ slots ≤ R.slots)
    (K : ∀ u, u = g → narrow rty (.int (ρ u)) = .int (ρ u) → Z p l e R s m args below meth c nL T A Q cells slots (w2 u) pc' lv (.int (ρ u) :: rest)) : Z p l e R s m args below meth c nL T A Q cells slots ws pc lv st := by
  subst hpc
  subst hst
  subst hq
  intro H locs ls hP hD hS hl
  obtain ⟨⟨hx, hb, hml, hown, hts⟩, ⟨hK, hN⟩, hlk, hA⟩ := C
  have hPc : va_P T.1 vwCl w0 H := zsub_P hP h0
  have hDc : va_D (fun _ => True) w0 := (hD.sub is hnd h0).weaken (fun _ _ _ _ => trivial)
  have hFc := va_free (wc := w0) hD hS hA is h0
  refine va_calli (va_runV (As := As) (rest := rest) ⟨hx, hb, hml, hown, hts⟩ (hM H.size) cw ⟨zPre_blind, va_recv hK hP hci he, fun U hU hW => ⟨rfl, by rw [hU], by rw [hU]; exact hPc, zK.warm hW ⟨hK, hN⟩, hDc⟩⟩ rfl hn hl.1 rfl (lv_room hW) hd hcs) hS (fun q _ h => hFc q h) hFc (fun r u t H1 locs1 ht hvm hw hB hz1 hk1 hS1 => ?_)
  obtain ⟨hu, hr, hnr⟩ := hw
  rw [ht] at hB
  have hP2 := zput_P hP hD h0 (h2 u) wr hR (hR2 u) nw (h4 u) hcov hk1 hB
  rw [hr] at hnr ⊢
  exact K u hu hnr H1 locs1 ls hP2 (zD_addr ((h3 u).trans h3a.symm) hD) hS1 hl
theorem z_callVv (C : zC p l e R s m args meth c cc nL own Ts T A) (hM : Cv l y wy rm T (.ref b :: As) w0 g ω) (is ic : List Nat) (h0 : is.map (fun i => ws[i]?) = w0.map some) (hnd : va_nd is = true) (w2 : S → va_W) (h2 : ∀ u, is.map (fun i => (w2 u)[i]?) = (ω u).map some) (wr : va_W) (hR : ic.map (fun i => ws[i]?) = wr.map some) (hR2 : ∀ u, ic.map (fun i => (w2 u)[i]?) = wr.map some) (ad : List Nat) (h3a : ws.map Prod.fst = ad) (h3 : ∀ u, (w2 u).map Prod.fst = ad) (nw : Nat) (h4 : ∀ u, (w2 u).length = nw) (hcov : (List.range nw).all (fun i => is.contains i || ic.contains i) = true)
    (cw : CallW R s args own Cn index y bytes maxL ret wy rm 0 0 n) (q0 : Nat) (he : ws[q0]? = some (b, .inr (ci, fs))) (hci : vwCl[ci]? = some q) (hq : q.1 = Cn) (hst : st = As.reverse ++ .ref b :: rest) (hn : As.length = n) (hW : (rest.map fun v => v.category).sum ≤ 8) (hd : decode cc pc = .ok (.invokevirtual index, 3)) (hpc : pc + 3 = pc') (hcs : cells ≤ R.cells ∧ slots ≤ R.slots)
    (K : ∀ u, u = g → Z p l e R s m args below meth c nL T A Q cells slots (w2 u) pc' lv rest) : Z p l e R s m args below meth c nL T A Q cells slots ws pc lv st := by
  subst hpc
  subst hst
  subst hq
  intro H locs ls hP hD hS hl
  obtain ⟨⟨hx, hb, hml, hown, hts⟩, ⟨hK, hN⟩, hlk, hA⟩ := C
  have hPc : va_P T.1 vwCl w0 H := zsub_P hP h0
  have hDc : va_D (fun _ => True) w0 := (hD.sub is hnd h0).weaken (fun _ _ _ _ => trivial)
  have hFc := va_free (wc := w0) hD hS hA is h0
  refine va_callv (va_runV (As := As) (rest := rest) ⟨hx, hb, hml, hown, hts⟩ (hM H.size) cw ⟨zPre_blind, va_recv hK hP hci he, fun U hU hW => ⟨rfl, by rw [hU], by rw [hU]; exact hPc, zK.warm hW ⟨hK, hN⟩, hDc⟩⟩ rfl hn hl.1 rfl (lv_room hW) hd hcs) hS (fun q _ h => hFc q h) hFc (fun u t H1 locs1 ht hvm hw hB hz1 hk1 hS1 => ?_)
  rw [ht] at hB
  have hP2 := zput_P hP hD h0 (h2 u) wr hR (hR2 u) nw (h4 u) hcov hk1 hB
  exact K u hw H1 locs1 ls hP2 (zD_addr ((h3 u).trans h3a.symm) hD) hS1 hl
theorem z_callVr (C : zC p l e R s m args meth c cc nL own Ts T A) {ρ : S → Nat} (hM : Cr l y wy rm T (.ref b :: As) w0 g ρ ω) (is ic : List Nat) (h0 : is.map (fun i => ws[i]?) = w0.map some) (hnd : va_nd is = true) (w2 : S → va_W) (h2 : ∀ u, is.map (fun i => (w2 u)[i]?) = (ω u).map some) (wr : va_W) (hR : ic.map (fun i => ws[i]?) = wr.map some) (hR2 : ∀ u, ic.map (fun i => (w2 u)[i]?) = wr.map some) (ad : List Nat) (h3a : ws.map Prod.fst = ad) (h3 : ∀ u, (w2 u).map Prod.fst = ad) (nw : Nat) (h4 : ∀ u, (w2 u).length = nw) (hcov : (List.range nw).all (fun i => is.contains i || ic.contains i) = true)
    (cw : CallW R s args own Cn index y bytes maxL ret wy rm 0 0 n) (q0 : Nat) (he : ws[q0]? = some (b, .inr (ci, fs))) (hci : vwCl[ci]? = some q) (hq : q.1 = Cn) (hst : st = As.reverse ++ .ref b :: rest) (hn : As.length = n) (hW : (rest.map fun v => v.category).sum ≤ 8) (hd : decode cc pc = .ok (.invokevirtual index, 3)) (hpc : pc + 3 = pc') (hcs : cells ≤ R.cells ∧ slots ≤ R.slots)
    (K : ∀ u, u = g → Z p l e R s m args below meth c nL T A Q cells slots (w2 u) pc' lv (.ref (ρ u) :: rest)) : Z p l e R s m args below meth c nL T A Q cells slots ws pc lv st := by
  subst hpc
  subst hst
  subst hq
  intro H locs ls hP hD hS hl
  obtain ⟨⟨hx, hb, hml, hown, hts⟩, ⟨hK, hN⟩, hlk, hA⟩ := C
  have hPc : va_P T.1 vwCl w0 H := zsub_P hP h0
  have hDc : va_D (fun _ => True) w0 := (hD.sub is hnd h0).weaken (fun _ _ _ _ => trivial)
  have hFc := va_free (wc := w0) hD hS hA is h0
  refine va_callr (va_runV (As := As) (rest := rest) ⟨hx, hb, hml, hown, hts⟩ (hM H.size) cw ⟨zPre_blind, va_recv hK hP hci he, fun U hU hW => ⟨rfl, by rw [hU], by rw [hU]; exact hPc, zK.warm hW ⟨hK, hN⟩, hDc⟩⟩ rfl hn hl.1 rfl (lv_room hW) hd hcs) hS (fun q _ h => hFc q h) hFc (fun u ra t H1 locs1 ht hvm hw hB hz1 hk1 hS1 => ?_)
  obtain ⟨hra, hB⟩ := hB
  rw [ht] at hB
  have hP2 := zput_P hP hD h0 (h2 u) wr hR (hR2 u) nw (h4 u) hcov hk1 hB
  rw [hra]
  exact K u hw H1 locs1 ls hP2 (zD_addr ((h3 u).trans h3a.symm) hD) hS1 hl
/-- a static method that needs no cell -/
theorem z_callSi (C : zC p l e R s m args meth c cc nL own Ts T A) {ρ : S → Int32} {rty : FieldType} (hM : Ci l y wy rm T rty As [] g ρ (fun _ => []))
    (cw : CallB R s args own index y bytes maxL ret wy rm 0 0 n ∧ (Cond.static y).before args s = true) (hst : st = As.reverse ++ rest) (hn : As.length = n) (hW : (rest.map fun v => v.category).sum ≤ 8) (hd : decode cc pc = .ok (.invokestatic index, 3)) (hpc : pc + 3 = pc') (hcs : cells ≤ R.cells ∧ slots ≤ R.slots)
    (K : ∀ u, u = g → narrow rty (.int (ρ u)) = .int (ρ u) → Z p l e R s m args below meth c nL T A Q cells slots ws pc' lv (.int (ρ u) :: rest)) : Z p l e R s m args below meth c nL T A Q cells slots ws pc lv st := by
  subst hpc
  subst hst
  intro H locs ls hP hD hS hl
  obtain ⟨⟨hx, hb, hml, hown, hts⟩, ⟨hK, hN⟩, hlk, hA⟩ := C
  have hPc : va_P T.1 vwCl [] H := fun k q h => by simp at h
  have hDc : va_D (fun _ => True) [] := ⟨fun i j p q h => by simp at h, fun k q h => by simp at h⟩
  have hFc := va_free (wc := []) hD hS hA [] rfl
  refine va_calli (va_runS (As := As) (rest := rest) ⟨hx, hb, hml, hown, hts⟩ (hM H.size) cw ⟨zPre_blind, fun U hU hW => ⟨rfl, by rw [hU], by rw [hU]; exact hPc, zK.warm hW ⟨hK, hN⟩, hDc⟩⟩ rfl hn hl.1 rfl (lv_room hW) hd hcs) hS (fun q _ h => hFc q h) hFc (fun r u t H1 locs1 ht hvm hw hB hz1 hk1 hS1 => ?_)
  obtain ⟨hu, hr, hnr⟩ := hw
  have hP2 : va_P T.1 vwCl ws H1 := fun k q hq => (hP k q hq).kept (hk1 q.1 (hP k q hq).lt (fun hA => by
    rcases hA with ⟨k2, e, h⟩ | h
    · simp at h
    · exact absurd (hP k q hq).lt (Nat.not_lt.mpr h)))
  rw [hr] at hnr ⊢
  exact K u hu hnr H1 locs1 ls hP2 hD hS1 hl
theorem z_callNi (C : zC p l e R s m args meth c cc nL own Ts T A) {ρ : S → Int32} {rty : FieldType} (hM : Ci l y wy rm T rty As [] g ρ (fun _ => []))
    (cw : va_CN R s args own index y host bytes maxL ret wy rm 0 0 n ∧ (Cond.static y).before args s = true ∧ True) (hst : st = As.reverse ++ rest) (hn : As.length = n) (hW : (rest.map fun v => v.category).sum ≤ 8) (hd : decode cc pc = .ok (.invokestatic index, 3)) (hpc : pc + 3 = pc') (hcs : cells ≤ R.cells ∧ slots ≤ R.slots)
    (K : ∀ u, u = g → narrow rty (.int (ρ u)) = .int (ρ u) → Z p l e R s m args below meth c nL T A Q cells slots ws pc' lv (.int (ρ u) :: rest)) : Z p l e R s m args below meth c nL T A Q cells slots ws pc lv st := by
  subst hpc
  subst hst
  intro H locs ls hP hD hS hl
  obtain ⟨⟨hx, hb, hml, hown, hts⟩, ⟨hK, hN⟩, hlk, hA⟩ := C
  have hPc : va_P T.1 vwCl [] H := fun k q h => by simp at h
  have hDc : va_D (fun _ => True) [] := ⟨fun i j p q h => by simp at h, fun k q h => by simp at h⟩
  have hFc := va_free (wc := []) hD hS hA [] rfl
  refine va_calli (va_runSN (As := As) (rest := rest) ⟨hx, hb, hml, hown, hts⟩ (hM H.size) cw ⟨zPre_blind, fun U hU hW => ⟨rfl, by rw [hU], by rw [hU]; exact hPc, zK.warm hW ⟨hK, hN⟩, hDc⟩⟩ rfl hn hl.1 rfl (lv_room hW) hd hcs) hS (fun q _ h => hFc q h) hFc (fun r u t H1 locs1 ht hvm hw hB hz1 hk1 hS1 => ?_)
  obtain ⟨hu, hr, hnr⟩ := hw
  have hP2 : va_P T.1 vwCl ws H1 := fun k q hq => (hP k q hq).kept (hk1 q.1 (hP k q hq).lt (fun hA => by
    rcases hA with ⟨k2, e, h⟩ | h
    · simp at h
    · exact absurd (hP k q hq).lt (Nat.not_lt.mpr h)))
  rw [hr] at hnr ⊢
  exact K u hu hnr H1 locs1 ls hP2 hD hS1 hl
end ZCALL
end ZR
theorem Z.topi {p : Program} {l : Launch} {e : Env} {R : Room} {s : State} {m : MethodId} {args : Array Value} {below : List Frame} {meth : Method} {c : Code} {cells slots : Nat} {Q : State → Prop} {nL : Nat} {T : zT} {A : Nat → Prop} {ws : va_W} {pc : Nat} {lv : List (Nat × Value)} {rest : List Value} {x : Int32} (K : ∀ y, y = x → Z p l e R s m args below meth c nL T A Q cells slots ws pc lv (.int y :: rest)) : Z p l e R s m args below meth c nL T A Q cells slots ws pc lv (.int x :: rest) := K x rfl
theorem Z.topl {p : Program} {l : Launch} {e : Env} {R : Room} {s : State} {m : MethodId} {args : Array Value} {below : List Frame} {meth : Method} {c : Code} {cells slots : Nat} {Q : State → Prop} {nL : Nat} {T : zT} {A : Nat → Prop} {ws : va_W} {pc : Nat} {lv : List (Nat × Value)} {rest : List Value} {x : Int64} (K : ∀ y, y = x → Z p l e R s m args below meth c nL T A Q cells slots ws pc lv (.long y :: rest)) : Z p l e R s m args below meth c nL T A Q cells slots ws pc lv (.long x :: rest) := K x rfl
theorem Z.topn {p : Program} {l : Launch} {e : Env} {R : Room} {s : State} {m : MethodId} {args : Array Value} {below : List Frame} {meth : Method} {c : Code} {cells slots : Nat} {Q : State → Prop} {nL : Nat} {T : zT} {A : Nat → Prop} {ws : va_W} {pc : Nat} {lv : List (Nat × Value)} {rest : List Value} {x y : Int32} (h : x = y) (K : Z p l e R s m args below meth c nL T A Q cells slots ws pc lv (.int y :: rest)) : Z p l e R s m args below meth c nL T A Q cells slots ws pc lv (.int x :: rest) := by rw [h]; exact K
theorem zi_c {x : Int32} {a b : Nat} (h : x = nI a) (e : a = b) : x = nI b := by rw [h, e]
theorem zi_add {x y : Int32} {a b : Nat} (h1 : x = nI a) (h2 : y = nI b) : x + y = nI (a + b) := by rw [h1, h2, nI_add]
theorem zi_mul {x y : Int32} {a b : Nat} (h1 : x = nI a) (h2 : y = nI b) : x * y = nI (a * b) := by rw [h1, h2, pk_mul]
theorem zi_sub {x y : Int32} {a b : Nat} (h1 : x = nI a) (h2 : y = nI b) (h : b ≤ a) : x - y = nI (a - b) := by rw [h1, h2, pk_sub h]
theorem zf_eq {x y : Int32} {a b : Nat} (hx : x = nI a) (hy : y = nI b) (c : x = y) (ha : a < 2 ^ 31) (hb : b < 2 ^ 31) : a = b := (nI_eq ha hb).mp (hx.symm.trans (c.trans hy))
theorem zf_neq {x y : Int32} {a b : Nat} (hx : x = nI a) (hy : y = nI b) (c : ¬ x = y) (_ : a < 2 ^ 31) (_ : b < 2 ^ 31) : ¬ (a = b) := fun h => c (by rw [hx, hy, h])
theorem zf_lt {x y : Int32} {a b : Nat} (hx : x = nI a) (hy : y = nI b) (c : x < y) (ha : a < 2 ^ 31) (hb : b < 2 ^ 31) : a < b := (nI_ltI ha hb).mp (by rw [← hx, ← hy]; exact c)
theorem zf_nlt {x y : Int32} {a b : Nat} (hx : x = nI a) (hy : y = nI b) (c : ¬ x < y) (ha : a < 2 ^ 31) (hb : b < 2 ^ 31) : ¬ (a < b) := fun h => c (by rw [hx, hy]; exact (nI_ltI ha hb).mpr h)
theorem zf_le {x y : Int32} {a b : Nat} (hx : x = nI a) (hy : y = nI b) (c : x ≤ y) (ha : a < 2 ^ 31) (hb : b < 2 ^ 31) : a ≤ b := (nI_leI ha hb).mp (by rw [← hx, ← hy]; exact c)
theorem zf_nle {x y : Int32} {a b : Nat} (hx : x = nI a) (hy : y = nI b) (c : ¬ x ≤ y) (ha : a < 2 ^ 31) (hb : b < 2 ^ 31) : ¬ (a ≤ b) := fun h => c (by rw [hx, hy]; exact (nI_leI ha hb).mpr h)
theorem zsw_out {x : Int32} {n : Nat} (hn : n < 2 ^ 31) (h : ∀ k : Nat, k ≤ n → ¬ x = nI k) : x.toInt < 0 ∨ (n : Int) < x.toInt := by
  by_cases h0 : x < 0
  · exact Or.inl (by simpa using Int32.lt_iff_toInt_lt.mp h0)
  · obtain ⟨j, hj, e⟩ := nI_of h0
    subst e
    rw [nI_toInt hj]
    by_cases hjn : j ≤ n
    · exact absurd rfl (h j hjn)
    · exact Or.inr (by omega)
-- the start of a method: what it owes at its end is handed on as E
theorem z_metI {l : Launch} {y : MethodName} {wy wy' : List Cond} {rm : Room} {T : zT} {av : List Value} {w0 : va_W} {S : Type} {g : S} {ρ : S → Int32} {ω : S → va_W} {cc : ByteArray} {maxL : Nat} {rty : FieldType} {own : String} (ho : y.cls = own) (hy : plainName y.cls = true) (hw : wy = Cond.code y cc maxL (some rty) :: wy') (hfit : (lg_sl av).length ≤ maxL)
    (body : ∀ (p : Program) (e : Env) (s : State) (m : MethodId) (args : Array Value) (below : List Frame) (meth : Method) (c : Code) (A : Nat → Prop) (Q : State → Prop), zC p l e rm s m args meth c cc maxL own wy T A →
      (∀ (u : S) (ws : va_W) (pc : Nat) (lv : List (Nat × Value)) (v : Int32), decode cc pc = .ok (.ireturn, 1) → narrow rty (.int v) = .int v → v = ρ u → ws = ω u → g = u → Z p l e rm s m args below meth c maxL T A Q 0 0 ws pc lv [.int v]) →
      Z p l e rm s m args below meth c maxL T A Q 0 0 w0 0 (lv_args 0 av) []) : Ci l y wy rm T rty av w0 g ρ ω := by
  intro sz
  refine Met.ofW (cc := cc) (maxL := maxL) (ret := (some rty)) hy hw ?_
  intro p e s m args below meth c s₁ B hml hv
  obtain ⟨rfl, hsz, hP, hK, hD0⟩ := hv
  subst hsz
  subst ho
  have hts := atoms_spec (ws := wy) B.pre
  have hl := lv_entry av (n := maxL) hfit
  rw [lg_entry_eq]
  have C : zC p l e rm s m av.toArray meth c cc maxL y.cls wy T (va_A w0 s.heap.size) := ⟨⟨B.exec, B.bytes, hml, findClass_of_methodNamed B.named, hts⟩, hK, B.notSynchronized, fun q h => Or.inr h⟩
  refine body p e s m _ below meth c (va_A w0 s.heap.size) (MQ below (zQi T rty g ρ ω (va_A w0 s.heap.size)) av.toArray s 0 0 (va_A w0 s.heap.size)) C ?_ s.heap [] _ hP (hD0.self (sz := s.heap.size)) va_S.rf hl
  intro u ws pc lv v hd hn hv hw hg H locs ls hP hD hS hll
  exact W.zret (v := v) B.exec B.bytes B.returns hn (fun t ht hW => ⟨⟨v, u, rfl, ⟨hg.symm, hv, hn⟩, by show va_P T.1 vwCl (ω u) t.heap; rw [ht, ← hw]; exact hP⟩, hS.F ht⟩) hS.2.2 hd B.notSynchronized
theorem z_metV {l : Launch} {y : MethodName} {wy wy' : List Cond} {rm : Room} {T : zT} {av : List Value} {w0 : va_W} {S : Type} {g : S} {ω : S → va_W} {cc : ByteArray} {maxL : Nat} {own : String} (ho : y.cls = own) (hy : plainName y.cls = true) (hw : wy = Cond.code y cc maxL none :: wy') (hfit : (lg_sl av).length ≤ maxL)
    (body : ∀ (p : Program) (e : Env) (s : State) (m : MethodId) (args : Array Value) (below : List Frame) (meth : Method) (c : Code) (A : Nat → Prop) (Q : State → Prop), zC p l e rm s m args meth c cc maxL own wy T A →
      (∀ (u : S) (ws : va_W) (pc : Nat) (lv : List (Nat × Value)) , decode cc pc = .ok (.return_, 1) → ws = ω u → g = u → Z p l e rm s m args below meth c maxL T A Q 0 0 ws pc lv []) →
      Z p l e rm s m args below meth c maxL T A Q 0 0 w0 0 (lv_args 0 av) []) : Cv l y wy rm T av w0 g ω := by
  intro sz
  refine Met.ofW (cc := cc) (maxL := maxL) (ret := none) hy hw ?_
  intro p e s m args below meth c s₁ B hml hv
  obtain ⟨rfl, hsz, hP, hK, hD0⟩ := hv
  subst hsz
  subst ho
  have hts := atoms_spec (ws := wy) B.pre
  have hl := lv_entry av (n := maxL) hfit
  rw [lg_entry_eq]
  have C : zC p l e rm s m av.toArray meth c cc maxL y.cls wy T (va_A w0 s.heap.size) := ⟨⟨B.exec, B.bytes, hml, findClass_of_methodNamed B.named, hts⟩, hK, B.notSynchronized, fun q h => Or.inr h⟩
  refine body p e s m _ below meth c (va_A w0 s.heap.size) (MQ below (zQv T g ω (va_A w0 s.heap.size)) av.toArray s 0 0 (va_A w0 s.heap.size)) C ?_ s.heap [] _ hP (hD0.self (sz := s.heap.size)) va_S.rf hl
  intro u ws pc lv hd hw hg H locs ls hP hD hS hll
  exact W.vret B.exec B.bytes B.returns (fun t ht hW => ⟨⟨u, rfl, hg.symm, by show va_P T.1 vwCl (ω u) t.heap; rw [ht, ← hw]; exact hP⟩, hS.F ht⟩) hS.2.2 hd B.notSynchronized
theorem z_metR {l : Launch} {y : MethodName} {wy wy' : List Cond} {rm : Room} {T : zT} {av : List Value} {w0 : va_W} {S : Type} {g : S} {ρ : S → Nat} {ω : S → va_W} {cc : ByteArray} {maxL : Nat} {nmr : String} {own : String} (ho : y.cls = own) (hy : plainName y.cls = true) (hw : wy = Cond.code y cc maxL (some (.object nmr)) :: wy') (hfit : (lg_sl av).length ≤ maxL)
    (body : ∀ (p : Program) (e : Env) (s : State) (m : MethodId) (args : Array Value) (below : List Frame) (meth : Method) (c : Code) (A : Nat → Prop) (Q : State → Prop), zC p l e rm s m args meth c cc maxL own wy T A →
      (∀ (u : S) (ws : va_W) (pc : Nat) (lv : List (Nat × Value)) (v : Nat), decode cc pc = .ok (.areturn, 1) → v = ρ u → ws = ω u → g = u → Z p l e rm s m args below meth c maxL T A Q 0 0 ws pc lv [.ref v]) →
      Z p l e rm s m args below meth c maxL T A Q 0 0 w0 0 (lv_args 0 av) []) : Cr l y wy rm T av w0 g ρ ω := by
  intro sz
  refine Met.ofW (cc := cc) (maxL := maxL) (ret := (some (.object nmr))) hy hw ?_
  intro p e s m args below meth c s₁ B hml hv
  obtain ⟨rfl, hsz, hP, hK, hD0⟩ := hv
  subst hsz
  subst ho
  have hts := atoms_spec (ws := wy) B.pre
  have hl := lv_entry av (n := maxL) hfit
  rw [lg_entry_eq]
  have C : zC p l e rm s m av.toArray meth c cc maxL y.cls wy T (va_A w0 s.heap.size) := ⟨⟨B.exec, B.bytes, hml, findClass_of_methodNamed B.named, hts⟩, hK, B.notSynchronized, fun q h => Or.inr h⟩
  refine body p e s m _ below meth c (va_A w0 s.heap.size) (MQ below (zQr T g ρ ω (va_A w0 s.heap.size)) av.toArray s 0 0 (va_A w0 s.heap.size)) C ?_ s.heap [] _ hP (hD0.self (sz := s.heap.size)) va_S.rf hl
  intro u ws pc lv v hd hv hw hg H locs ls hP hD hS hll
  exact W.aret (v := .ref v) B.exec B.bytes B.returns (Or.inl ⟨_, rfl⟩) (Or.inr ⟨v, rfl⟩) (fun t ht hW => ⟨⟨u, v, rfl, hg.symm, hv, by show va_P T.1 vwCl (ω u) t.heap; rw [ht, ← hw]; exact hP⟩, hS.F ht⟩) hS.2.2 hd B.notSynchronized
