theorem z_ofWF {l : Launch} {y : MethodName} {ws ws' : List Cond} {rm : Room} {Pc : Array Value → State → Prop} {Qc : Array Value → State → Outcome → State → Prop} {mc ms : Nat} {free : Addr → Prop} {cc : ByteArray} {maxL : Nat} {ret : Option FieldType} (hy : plainFor y = true) (hw : ws = Cond.code y cc maxL ret :: ws')
    (body : ∀ p e s m args below meth c s₁, BodyLoose p l y (headSpec ws rm) cc maxL ret e s m args below meth c s₁ → c.maxLocals = maxL → Pc args s → W p l e (headSpec ws rm).room s m args below meth c s.heap [] 0 0 (MQ below Qc args s mc ms free) (entryFrame m args maxL)) : Met l y ws rm Pc Qc mc ms free := by
  refine MetFree.of_bodySF (code := cc) (maxLocals := maxL) (ret := ret) hy ?_ ?_
  · intro args s m h hn
    obtain ⟨meth, c, h1, h2, h3, h4, h5, h6, -, -⟩ := Cond.code_spec hn (atoms_spec (ws := ws) h _ (by rw [hw]; exact List.mem_cons_self))
    exact ⟨meth, c, h1, h2, h3, h4, h5, h6⟩
  · intro p e s m args below meth c s₁ B hml hP _
    have hh0 : s₁.heap = s.heap := by rw [B.state]; rfl
    obtain ⟨t, a1, o, b1, b2, b3⟩ := body p e s m args below meth c s₁ B hml hP s₁ hh0 (Stand.of_body B)
    exact ⟨t, o, a1, b1, b2, ⟨b3.1, b3.2⟩⟩
theorem z_metIF {l : Launch} {y : MethodName} {wy wy' : List Cond} {rm : Room} {T : zT} {av : List Value} {w0 : va_W} {S : Type} {g : S} {ρ : S → Int32} {ω : S → va_W} {cc : ByteArray} {maxL : Nat} {rty : FieldType} {own : String} (ho : y.cls = own) (hy : plainFor y = true) (hw : wy = Cond.code y cc maxL (some rty) :: wy') (hfit : (lg_sl av).length ≤ maxL)
    (body : ∀ (p : Program) (e : Env) (s : State) (m : MethodId) (args : Array Value) (below : List Frame) (meth : Method) (c : Code) (A : Nat → Prop) (Q : State → Prop), zC p l e rm s m args meth c cc maxL own wy T A →
      (∀ (u : S) (ws : va_W) (pc : Nat) (lv : List (Nat × Value)) (v : Int32), decode cc pc = .ok (.ireturn, 1) → narrow rty (.int v) = .int v → v = ρ u → ws = ω u → g = u → Z p l e rm s m args below meth c maxL T A Q 0 0 ws pc lv [.int v]) →
      Z p l e rm s m args below meth c maxL T A Q 0 0 w0 0 (lv_args 0 av) []) : Ci l y wy rm T rty av w0 g ρ ω := by
  intro sz
  refine z_ofWF (cc := cc) (maxL := maxL) (ret := (some rty)) hy hw ?_
  intro p e s m args below meth c s₁ B hml hv
  obtain ⟨rfl, hsz, hP, hK, hD0⟩ := hv
  subst hsz
  subst ho
  have hts := atoms_spec (ws := wy) B.pre
  have hl := lv_entry av (n := maxL) hfit
  rw [lg_entry_eq]
  have C : zC p l e rm s m av.toArray meth c cc maxL y.cls wy T (va_A w0 s.heap.size) := ⟨⟨B.exec, B.bytes, hml, findClass_of_methodNamed B.named, hts⟩, hK, B.notSynchronized, fun q h => Or.inr h⟩
  refine body p e s m _ below meth c (va_A w0 s.heap.size) (MQ below (zQi T rty g ρ ω (va_A w0 s.heap.size)) av.toArray s 0 0 (va_A w0 s.heap.size)) C ?_ s.heap [] _ hP (hD0.self (sz := s.heap.size)) va_S.rf hl
  intro u ws pc lv v hd hn hv hw hg H locs ls hP hD hS hll
  exact W.zret (v := v) B.exec B.bytes B.returns hn (fun t ht hW => ⟨⟨v, u, rfl, ⟨hg.symm, hv, hn⟩, by show va_P T.1 vwCl (ω u) t.heap; rw [ht, ← hw]; exact hP⟩, hS.F ht⟩) hS.2.2 hd B.notSynchronized
def f_Jxf58ca_isNaN_12338 (x : UInt32) : Int32 :=
  if (Op.cmpValue (FP.fcmp x x) .l) = 0 then
    0
  else
    1
theorem fe_Jxf58ca_isNaN_12338 (x : UInt32) : f_Jxf58ca_isNaN_12338 x = (
    if (Op.cmpValue (FP.fcmp x x) .l) = 0 then
      0
    else
      1
    ) := rfl
abbrev rm_Jxf58ca_isNaN_12338 : Room := { frames := 0, cells := 0, slots := 0, locals := 0 }
set_option maxHeartbeats 1000000 in
set_option maxRecDepth 100000 in
theorem c_Jxf58ca_isNaN_12338 (l : Launch) (T : zT) (x : UInt32) : Ci l yJxf58ca_isNaN_12338 wsJxf58ca_isNaN_12338 rm_Jxf58ca_isNaN_12338 T .boolean [.float x] [] (S := Int32) (f_Jxf58ca_isNaN_12338 x) (fun u => u) (fun u => []) := by
  refine z_metIF (own := RJxf58ca) (maxL := 1) rfl (by decide +kernel) rfl (Nat.le_of_ble_eq_true rfl) ?_
  intro P0 E0 S0 M0 G0 B0 T0 K0 A9 Q9 C E
  have hx := C.1.1
  have hb := C.1.2.1
  have hown := C.1.2.2.2.1
  have hts := C.1.2.2.2.2
  have hn := C.2.1.2
  change Z P0 l E0 rm_Jxf58ca_isNaN_12338 S0 M0 G0 B0 T0 K0 1 T A9 Q9 0 0 [] 0 [(0, .float x)] []
  have zh0 := fe_Jxf58ca_isNaN_12338 x
  refine Z.of (pc' := 1) (fun _ _ _ hl => lv_fload_n hx hb dJxf58ca_isNaN_12338_0 rfl (lv_at hl 0 rfl)) ?_
  refine Z.of (pc' := 2) (fun _ _ _ hl => lv_fload_n hx hb dJxf58ca_isNaN_12338_1 rfl (lv_at hl 0 rfl)) ?_
  refine Z.of (pc' := 3) (fun _ _ _ _ => lv_fcmp hx hb dJxf58ca_isNaN_12338_2) ?_
  refine Z.two (pt := 10) (pf := 6) (fun _ _ _ _ => lv_if_eq hx hb dJxf58ca_isNaN_12338_3 (by decide)) (fun c1 => ?_) (fun c1 => ?_)
  · have zh2 := zh0.trans (if_pos c1)
    refine Z.of (pc' := 11) (fun _ _ _ _ => lv_iconst (v := 0) hx hb dJxf58ca_isNaN_12338_10 (by decide)) ?_
    exact E 0 _ _ _ _ dJxf58ca_isNaN_12338_11 rfl rfl rfl zh2
  · have zh3 := zh0.trans (if_neg c1)
    refine Z.of (pc' := 7) (fun _ _ _ _ => lv_iconst (v := 1) hx hb dJxf58ca_isNaN_12338_6 (by decide)) ?_
    refine Z.of (pc' := 11) (fun _ _ _ _ => lv_goto hx hb dJxf58ca_isNaN_12338_7 (by decide)) ?_
    exact E 1 _ _ _ _ dJxf58ca_isNaN_12338_11 rfl rfl rfl zh3
def f_Jxf58ca_floatToIntBits_5c35a (x : UInt32) : Int32 :=
  zl (f_Jxf58ca_isNaN_12338 x) fun u1 =>
  if u1 = 0 then
    x.toInt32
  else
    2143289344
theorem fe_Jxf58ca_floatToIntBits_5c35a (x : UInt32) : f_Jxf58ca_floatToIntBits_5c35a x = (
    zl (f_Jxf58ca_isNaN_12338 x) fun u1 =>
    if u1 = 0 then
      x.toInt32
    else
      2143289344
    ) := rfl
abbrev rm_Jxf58ca_floatToIntBits_5c35a : Room := { frames := 1, cells := 0, slots := 0, locals := 24 }
set_option maxHeartbeats 1000000 in
set_option maxRecDepth 100000 in
theorem c_Jxf58ca_floatToIntBits_5c35a (l : Launch) (T : zT) (x : UInt32) : Ci l yJxf58ca_floatToIntBits_5c35a wsJxf58ca_floatToIntBits_5c35a rm_Jxf58ca_floatToIntBits_5c35a T .int [.float x] [] (S := Int32) (f_Jxf58ca_floatToIntBits_5c35a x) (fun u => u) (fun u => []) := by
  refine z_metIF (own := RJxf58ca) (maxL := 1) rfl (by decide +kernel) rfl (Nat.le_of_ble_eq_true rfl) ?_
  intro P0 E0 S0 M0 G0 B0 T0 K0 A9 Q9 C E
  have hx := C.1.1
  have hb := C.1.2.1
  have hown := C.1.2.2.2.1
  have hts := C.1.2.2.2.2
  have hn := C.2.1.2
  change Z P0 l E0 rm_Jxf58ca_floatToIntBits_5c35a S0 M0 G0 B0 T0 K0 1 T A9 Q9 0 0 [] 0 [(0, .float x)] []
  have zh0 := fe_Jxf58ca_floatToIntBits_5c35a x
  refine Z.of (pc' := 1) (fun _ _ _ hl => lv_fload_n hx hb dJxf58ca_floatToIntBits_5c35a_0 rfl (lv_at hl 0 rfl)) ?_
  refine z_callSi C (c_Jxf58ca_isNaN_12338 l T x) ⟨callB_of 1 hts ggJxf58ca_floatToIntBits_5c35a_Jxf58ca_isNaN_12338 rfl rfl rfl (hts (.initialized RJxf58ca) (by decide +kernel)) (hts (.methodLink RJxf58ca 59 yJxf58ca_isNaN_12338) (by decide +kernel)) (by decide +kernel) ⟨Nat.le_of_ble_eq_true rfl, Nat.le_of_ble_eq_true rfl⟩, hts (.static yJxf58ca_isNaN_12338) (by decide +kernel)⟩ (As := [.float x]) (rest := []) rfl rfl (Nat.le_of_ble_eq_true rfl) dJxf58ca_floatToIntBits_5c35a_1 rfl ⟨Nat.zero_le _, Nat.zero_le _⟩ (fun u1 eu1 bu1 => ?_)
  have zh2 := zl_e zh0 eu1
  refine Z.two' (pt := 12) (pf := 7) (fun _ _ _ _ => lv_if_ne hx hb dJxf58ca_floatToIntBits_5c35a_4 (by decide)) (fun c3 => ?_) (fun c3 => ?_)
  · have zh4 := zh2.trans (if_neg c3)
    refine Z.of (pc' := 14) (fun _ _ _ _ => lv_ldc hx hb hown (hts (.constant RJxf58ca 77 (2143289344)) (by decide +kernel)) dJxf58ca_floatToIntBits_5c35a_12) ?_
    exact E 2143289344 _ _ _ _ dJxf58ca_floatToIntBits_5c35a_14 rfl rfl rfl zh4
  · have zh5 := zh2.trans (if_pos c3)
    refine Z.of (pc' := 8) (fun _ _ _ hl => lv_fload_n hx hb dJxf58ca_floatToIntBits_5c35a_7 rfl (lv_at hl 0 rfl)) ?_
    refine Z.of (pc' := 11) (fun _ _ _ hl => vn_f2i hx hb (C.1.2.2.1.trans hl.1.symm) hown (hts (.methodLink RJxf58ca 74 ⟨"java/lang/Float", "floatToRawIntBits", "(F)I"⟩) (by decide +kernel)) (hts (.native ⟨"java/lang/Float", "floatToRawIntBits", "(F)I"⟩) (by decide +kernel)) (hts (.static ⟨"java/lang/Float", "floatToRawIntBits", "(F)I"⟩) (by decide +kernel)) (hts (.initialized "java/lang/Float") (by decide +kernel)) (Nat.le_of_ble_eq_true rfl) (Nat.le_of_ble_eq_true rfl) dJxf58ca_floatToIntBits_5c35a_8) ?_
    exact E x.toInt32 _ _ _ _ dJxf58ca_floatToIntBits_5c35a_11 rfl rfl rfl zh5
def f_J13_bitCount_95d88 (i : Int64) : Int32 :=
  zl ((i.toUInt64 >>> ((1 : Int32).toInt64.toUInt64 &&& Int64.toUInt64 63)).toInt64 : Int64) fun y1 =>
  zl (((i - (y1 &&& 6148914691236517205)).toUInt64 >>> ((2 : Int32).toInt64.toUInt64 &&& Int64.toUInt64 63)).toInt64 : Int64) fun y3 =>
  zl (((i - (y1 &&& 6148914691236517205)) &&& 3689348814741910323) + (y3 &&& 3689348814741910323) : Int64) fun y5 =>
  zl ((y5.toUInt64 >>> ((4 : Int32).toInt64.toUInt64 &&& Int64.toUInt64 63)).toInt64 : Int64) fun y7 =>
  zl ((((y5 + y7) &&& 1085102592571150095).toUInt64 >>> ((8 : Int32).toInt64.toUInt64 &&& Int64.toUInt64 63)).toInt64 : Int64) fun y9 =>
  zl (((((y5 + y7) &&& 1085102592571150095) + y9).toUInt64 >>> ((16 : Int32).toInt64.toUInt64 &&& Int64.toUInt64 63)).toInt64 : Int64) fun y11 =>
  zl ((((((y5 + y7) &&& 1085102592571150095) + y9) + y11).toUInt64 >>> ((32 : Int32).toInt64.toUInt64 &&& Int64.toUInt64 63)).toInt64 : Int64) fun y13 =>
  zl (((((((y5 + y7) &&& 1085102592571150095) + y9) + y11) + y13).toInt32) &&& 127 : Int32) fun y15 =>
  y15
theorem fe_J13_bitCount_95d88 (i : Int64) : f_J13_bitCount_95d88 i = (
    zl ((i.toUInt64 >>> ((1 : Int32).toInt64.toUInt64 &&& Int64.toUInt64 63)).toInt64 : Int64) fun y1 =>
    zl (((i - (y1 &&& 6148914691236517205)).toUInt64 >>> ((2 : Int32).toInt64.toUInt64 &&& Int64.toUInt64 63)).toInt64 : Int64) fun y3 =>
    zl (((i - (y1 &&& 6148914691236517205)) &&& 3689348814741910323) + (y3 &&& 3689348814741910323) : Int64) fun y5 =>
    zl ((y5.toUInt64 >>> ((4 : Int32).toInt64.toUInt64 &&& Int64.toUInt64 63)).toInt64 : Int64) fun y7 =>
    zl ((((y5 + y7) &&& 1085102592571150095).toUInt64 >>> ((8 : Int32).toInt64.toUInt64 &&& Int64.toUInt64 63)).toInt64 : Int64) fun y9 =>
    zl (((((y5 + y7) &&& 1085102592571150095) + y9).toUInt64 >>> ((16 : Int32).toInt64.toUInt64 &&& Int64.toUInt64 63)).toInt64 : Int64) fun y11 =>
    zl ((((((y5 + y7) &&& 1085102592571150095) + y9) + y11).toUInt64 >>> ((32 : Int32).toInt64.toUInt64 &&& Int64.toUInt64 63)).toInt64 : Int64) fun y13 =>
    zl (((((((y5 + y7) &&& 1085102592571150095) + y9) + y11) + y13).toInt32) &&& 127 : Int32) fun y15 =>
    y15
    ) := rfl
abbrev rm_J13_bitCount_95d88 : Room := { frames := 0, cells := 0, slots := 0, locals := 0 }
set_option maxHeartbeats 1000000 in
set_option maxRecDepth 100000 in
theorem c_J13_bitCount_95d88 (l : Launch) (T : zT) (i : Int64) : Ci l yJ13_bitCount_95d88 wsJ13_bitCount_95d88 rm_J13_bitCount_95d88 T .int [.long i] [] (S := Int32) (f_J13_bitCount_95d88 i) (fun u => u) (fun u => []) := by
  refine z_metI (own := RJ13) (maxL := 2) rfl (by decide) rfl (Nat.le_of_ble_eq_true rfl) ?_
  intro P0 E0 S0 M0 G0 B0 T0 K0 A9 Q9 C E
  have hx := C.1.1
  have hb := C.1.2.1
  have hown := C.1.2.2.2.1
  have hts := C.1.2.2.2.2
  have hn := C.2.1.2
  change Z P0 l E0 rm_J13_bitCount_95d88 S0 M0 G0 B0 T0 K0 2 T A9 Q9 0 0 [] 0 [(0, .long i)] []
  have zh0 := fe_J13_bitCount_95d88 i
  refine Z.of (pc' := 1) (fun _ _ _ hl => lv_lload_n hx hb dJ13_bitCount_95d88_0 rfl (lv_at hl 0 rfl)) ?_
  refine Z.of (pc' := 2) (fun _ _ _ hl => lv_lload_n hx hb dJ13_bitCount_95d88_1 rfl (lv_at hl 0 rfl)) ?_
  refine Z.of (pc' := 3) (fun _ _ _ _ => lv_iconst (v := 1) hx hb dJ13_bitCount_95d88_2 (by decide)) ?_
  refine Z.of (pc' := 4) (fun _ _ _ hl => lv_lushr hx hb dJ13_bitCount_95d88_3 rfl) ?_
  refine Z.topl (fun y1 ey1 => ?_)
  have zh2 := zl_e zh0 ey1
  refine Z.of (pc' := 7) (fun _ _ _ _ => lv_ldc2 hx hb hown (hts (.constantLong RJ13 314 (6148914691236517205)) (by decide +kernel)) dJ13_bitCount_95d88_4) ?_
  refine Z.of (pc' := 8) (fun _ _ _ hl => lv_land hx hb dJ13_bitCount_95d88_7) ?_
  refine Z.of (pc' := 9) (fun _ _ _ hl => lv_lsub hx hb dJ13_bitCount_95d88_8) ?_
  refine Z.sto (pc' := 10) (lv' := [(0, .long (i - (y1 &&& 6148914691236517205)))]) (fun _ _ _ hl => lv_lstore_n (lv' := [(0, .long (i - (y1 &&& 6148914691236517205)))]) hx hb dJ13_bitCount_95d88_9 rfl hl (by decide) rfl) ?_
  refine Z.of (pc' := 11) (fun _ _ _ hl => lv_lload_n hx hb dJ13_bitCount_95d88_10 rfl (lv_at hl 0 rfl)) ?_
  refine Z.of (pc' := 14) (fun _ _ _ _ => lv_ldc2 hx hb hown (hts (.constantLong RJ13 316 (3689348814741910323)) (by decide +kernel)) dJ13_bitCount_95d88_11) ?_
  refine Z.of (pc' := 15) (fun _ _ _ hl => lv_land hx hb dJ13_bitCount_95d88_14) ?_
  refine Z.of (pc' := 16) (fun _ _ _ hl => lv_lload_n hx hb dJ13_bitCount_95d88_15 rfl (lv_at hl 0 rfl)) ?_
  refine Z.of (pc' := 17) (fun _ _ _ _ => lv_iconst (v := 2) hx hb dJ13_bitCount_95d88_16 (by decide)) ?_
  refine Z.of (pc' := 18) (fun _ _ _ hl => lv_lushr hx hb dJ13_bitCount_95d88_17 rfl) ?_
  refine Z.topl (fun y3 ey3 => ?_)
  have zh4 := zl_e zh2 ey3
  refine Z.of (pc' := 21) (fun _ _ _ _ => lv_ldc2 hx hb hown (hts (.constantLong RJ13 316 (3689348814741910323)) (by decide +kernel)) dJ13_bitCount_95d88_18) ?_
  refine Z.of (pc' := 22) (fun _ _ _ hl => lv_land hx hb dJ13_bitCount_95d88_21) ?_
  refine Z.of (pc' := 23) (fun _ _ _ hl => lv_ladd hx hb dJ13_bitCount_95d88_22) ?_
  refine Z.topl (fun y5 ey5 => ?_)
  have zh6 := zl_e zh4 ey5
  refine Z.sto (pc' := 24) (lv' := [(0, .long y5)]) (fun _ _ _ hl => lv_lstore_n (lv' := [(0, .long y5)]) hx hb dJ13_bitCount_95d88_23 rfl hl (by decide) rfl) ?_
  refine Z.of (pc' := 25) (fun _ _ _ hl => lv_lload_n hx hb dJ13_bitCount_95d88_24 rfl (lv_at hl 0 rfl)) ?_
  refine Z.of (pc' := 26) (fun _ _ _ hl => lv_lload_n hx hb dJ13_bitCount_95d88_25 rfl (lv_at hl 0 rfl)) ?_
  refine Z.of (pc' := 27) (fun _ _ _ _ => lv_iconst (v := 4) hx hb dJ13_bitCount_95d88_26 (by decide)) ?_
  refine Z.of (pc' := 28) (fun _ _ _ hl => lv_lushr hx hb dJ13_bitCount_95d88_27 rfl) ?_
  refine Z.topl (fun y7 ey7 => ?_)
  have zh8 := zl_e zh6 ey7
  refine Z.of (pc' := 29) (fun _ _ _ hl => lv_ladd hx hb dJ13_bitCount_95d88_28) ?_
  refine Z.of (pc' := 32) (fun _ _ _ _ => lv_ldc2 hx hb hown (hts (.constantLong RJ13 318 (1085102592571150095)) (by decide +kernel)) dJ13_bitCount_95d88_29) ?_
  refine Z.of (pc' := 33) (fun _ _ _ hl => lv_land hx hb dJ13_bitCount_95d88_32) ?_
  refine Z.sto (pc' := 34) (lv' := [(0, .long ((y5 + y7) &&& 1085102592571150095))]) (fun _ _ _ hl => lv_lstore_n (lv' := [(0, .long ((y5 + y7) &&& 1085102592571150095))]) hx hb dJ13_bitCount_95d88_33 rfl hl (by decide) rfl) ?_
  refine Z.of (pc' := 35) (fun _ _ _ hl => lv_lload_n hx hb dJ13_bitCount_95d88_34 rfl (lv_at hl 0 rfl)) ?_
  refine Z.of (pc' := 36) (fun _ _ _ hl => lv_lload_n hx hb dJ13_bitCount_95d88_35 rfl (lv_at hl 0 rfl)) ?_
  refine Z.of (pc' := 38) (fun _ _ _ _ => lv_bipush (v := 8) hx hb dJ13_bitCount_95d88_36 (by decide)) ?_
  refine Z.of (pc' := 39) (fun _ _ _ hl => lv_lushr hx hb dJ13_bitCount_95d88_38 rfl) ?_
  refine Z.topl (fun y9 ey9 => ?_)
  have zh10 := zl_e zh8 ey9
  refine Z.of (pc' := 40) (fun _ _ _ hl => lv_ladd hx hb dJ13_bitCount_95d88_39) ?_
  refine Z.sto (pc' := 41) (lv' := [(0, .long (((y5 + y7) &&& 1085102592571150095) + y9))]) (fun _ _ _ hl => lv_lstore_n (lv' := [(0, .long (((y5 + y7) &&& 1085102592571150095) + y9))]) hx hb dJ13_bitCount_95d88_40 rfl hl (by decide) rfl) ?_
  refine Z.of (pc' := 42) (fun _ _ _ hl => lv_lload_n hx hb dJ13_bitCount_95d88_41 rfl (lv_at hl 0 rfl)) ?_
  refine Z.of (pc' := 43) (fun _ _ _ hl => lv_lload_n hx hb dJ13_bitCount_95d88_42 rfl (lv_at hl 0 rfl)) ?_
  refine Z.of (pc' := 45) (fun _ _ _ _ => lv_bipush (v := 16) hx hb dJ13_bitCount_95d88_43 (by decide)) ?_
  refine Z.of (pc' := 46) (fun _ _ _ hl => lv_lushr hx hb dJ13_bitCount_95d88_45 rfl) ?_
  refine Z.topl (fun y11 ey11 => ?_)
  have zh12 := zl_e zh10 ey11
  refine Z.of (pc' := 47) (fun _ _ _ hl => lv_ladd hx hb dJ13_bitCount_95d88_46) ?_
  refine Z.sto (pc' := 48) (lv' := [(0, .long ((((y5 + y7) &&& 1085102592571150095) + y9) + y11))]) (fun _ _ _ hl => lv_lstore_n (lv' := [(0, .long ((((y5 + y7) &&& 1085102592571150095) + y9) + y11))]) hx hb dJ13_bitCount_95d88_47 rfl hl (by decide) rfl) ?_
  refine Z.of (pc' := 49) (fun _ _ _ hl => lv_lload_n hx hb dJ13_bitCount_95d88_48 rfl (lv_at hl 0 rfl)) ?_
  refine Z.of (pc' := 50) (fun _ _ _ hl => lv_lload_n hx hb dJ13_bitCount_95d88_49 rfl (lv_at hl 0 rfl)) ?_
  refine Z.of (pc' := 52) (fun _ _ _ _ => lv_bipush (v := 32) hx hb dJ13_bitCount_95d88_50 (by decide)) ?_
  refine Z.of (pc' := 53) (fun _ _ _ hl => lv_lushr hx hb dJ13_bitCount_95d88_52 rfl) ?_
  refine Z.topl (fun y13 ey13 => ?_)
  have zh14 := zl_e zh12 ey13
  refine Z.of (pc' := 54) (fun _ _ _ hl => lv_ladd hx hb dJ13_bitCount_95d88_53) ?_
  refine Z.sto (pc' := 55) (lv' := [(0, .long (((((y5 + y7) &&& 1085102592571150095) + y9) + y11) + y13))]) (fun _ _ _ hl => lv_lstore_n (lv' := [(0, .long (((((y5 + y7) &&& 1085102592571150095) + y9) + y11) + y13))]) hx hb dJ13_bitCount_95d88_54 rfl hl (by decide) rfl) ?_
  refine Z.of (pc' := 56) (fun _ _ _ hl => lv_lload_n hx hb dJ13_bitCount_95d88_55 rfl (lv_at hl 0 rfl)) ?_
  refine Z.of (pc' := 57) (fun _ _ _ hl => lv_l2i hx hb dJ13_bitCount_95d88_56 rfl) ?_
  refine Z.of (pc' := 59) (fun _ _ _ _ => lv_bipush (v := 127) hx hb dJ13_bitCount_95d88_57 (by decide)) ?_
  refine Z.of (pc' := 60) (fun _ _ _ hl => lv_iand hx hb dJ13_bitCount_95d88_59) ?_
  refine Z.topi (fun y15 ey15 => ?_)
  have zh16 := zl_e zh14 ey15
  exact E y15 _ _ _ _ dJ13_bitCount_95d88_60 rfl rfl rfl zh16
def f_X0_ones (b : Int64) (n : Int32) : Int32 :=
  zl (f_J13_bitCount_95d88 b) fun u1 =>
  u1
theorem fe_X0_ones (b : Int64) (n : Int32) : f_X0_ones b n = (
    zl (f_J13_bitCount_95d88 b) fun u1 =>
    u1
    ) := rfl
abbrev rm_X0_ones : Room := { frames := 1, cells := 0, slots := 0, locals := 21 }
set_option maxHeartbeats 1000000 in
set_option maxRecDepth 100000 in
theorem c_X0_ones (l : Launch) (T : zT) (a : Nat) (b : Int64) (n : Int32) : Ci l yX0_ones wsX0_ones rm_X0_ones T .int [.ref a] [(a, .inr (0, [.long b, .int n]))] (S := Int32) (f_X0_ones b n) (fun u => u) (fun u => [(a, .inr (0, [.long b, .int n]))]) := by
  refine z_metI (own := RX0) (maxL := 1) rfl (by decide) rfl (Nat.le_of_ble_eq_true rfl) ?_
  intro P0 E0 S0 M0 G0 B0 T0 K0 A9 Q9 C E
  have hx := C.1.1
  have hb := C.1.2.1
  have hown := C.1.2.2.2.1
  have hts := C.1.2.2.2.2
  have hn := C.2.1.2
  have iX0 : ∀ w ∈ u_ws RX0 TX0 2, w ∈ wsX0_ones := by decide +kernel
  have k7 := hts (.fieldLink RX0 7 "JudgedBits$BitRow" "bits" "J") (by decide +kernel)
  change Z P0 l E0 rm_X0_ones S0 M0 G0 B0 T0 K0 1 T A9 Q9 0 0 [(a, .inr (0, [.long b, .int n]))] 0 [(0, .ref a)] []
  have zh0 := fe_X0_ones b n
  refine Z.of (pc' := 1) (fun _ _ _ hl => lv_aload_n hx hb dX0_ones_0 rfl (lv_at hl 0 rfl)) ?_
  refine z_get C iX0 0 0 k7 rfl rfl (by decide) rfl rfl dX0_ones_1 rfl ?_
  refine z_callSi C (c_J13_bitCount_95d88 l T b) ⟨callB_of 1 hts ggX0_ones_J13_bitCount_95d88 rfl rfl rfl (hts (.initialized RJ13) (by decide +kernel)) (hts (.methodLink RX0 21 yJ13_bitCount_95d88) (by decide +kernel)) (by decide +kernel) ⟨Nat.le_of_ble_eq_true rfl, Nat.le_of_ble_eq_true rfl⟩, hts (.static yJ13_bitCount_95d88) (by decide +kernel)⟩ (As := [.long b]) (rest := []) rfl rfl (Nat.le_of_ble_eq_true rfl) dX0_ones_4 rfl ⟨Nat.zero_le _, Nat.zero_le _⟩ (fun u1 eu1 bu1 => ?_)
  have zh2 := zl_e zh0 eu1
  exact E u1 _ _ _ _ dX0_ones_7 rfl rfl rfl zh2
def okS : Nat → UInt32 → Bool
  | 0, _ => false
  | n + 1, s => if 0 ≤ Op.cmpValue (FP.fcmp s FP.fconst1) .g then decide (FP.fsub s FP.fconst1 &&& 0x7fffffff ≤ 0x7f800000) && decide (FP.fmul (FP.fsub s FP.fconst1) 1258291200 &&& 0x7fffffff ≤ 0x7f800000) else decide (FP.fmul s FP.fconst2 &&& 0x7fffffff ≤ 0x7f800000) && okS n (FP.fmul s FP.fconst2)
theorem okS_hi {n : Nat} {s : UInt32} (h : okS n s = true) (c : 0 ≤ Op.cmpValue (FP.fcmp s FP.fconst1) .g) : vf_n32 (FP.fsub s FP.fconst1) ∧ vf_n32 (FP.fmul (FP.fsub s FP.fconst1) 1258291200) := by
  cases n with
  | zero => cases h
  | succ n =>
    unfold okS at h
    rw [if_pos c, Bool.and_eq_true] at h
    unfold vf_n32; exact ⟨of_decide_eq_true h.1, of_decide_eq_true h.2⟩
theorem okS_lo {n : Nat} {s : UInt32} (h : okS n s = true) (c : ¬ 0 ≤ Op.cmpValue (FP.fcmp s FP.fconst1) .g) : vf_n32 (FP.fmul s FP.fconst2) ∧ 1 ≤ n ∧ okS (n - 1) (FP.fmul s FP.fconst2) = true := by
  cases n with
  | zero => cases h
  | succ n =>
    unfold okS at h
    rw [if_neg c, Bool.and_eq_true] at h
    unfold vf_n32; exact ⟨of_decide_eq_true h.1, Nat.succ_le_succ (Nat.zero_le _), h.2⟩
theorem okS_step {k q : Nat} {s : UInt32} (h : k ≤ 20 ∧ k + (q + 1) = 130 ∧ okS (20 - k) s = true) (c : ¬ 0 ≤ Op.cmpValue (FP.fcmp s FP.fconst1) .g) : k + 1 ≤ 20 ∧ k + 1 + q = 130 ∧ okS (20 - (k + 1)) (FP.fmul s FP.fconst2) = true := by
  obtain ⟨h1, h2, h3⟩ := h
  obtain ⟨-, h4, h5⟩ := okS_lo h3 c
  exact ⟨by omega, by omega, by rw [show 20 - (k + 1) = 20 - k - 1 by omega]; exact h5⟩
def lp15_X9_bitsOfShare (x : UInt32) : Nat → Nat → UInt32 → Int32 → Int32
  | 0, _, _, _ => 0
  | q15 + 1, k, sc, ex =>
    if 126 ≤ (nI k) then
      zl ((ex <<< (23 &&& 31)) + (FP.f2i (FP.fmul (FP.fsub sc FP.fconst1) 1258291200)) : Int32) fun y7 =>
      y7
    else
      if 0 ≤ (Op.cmpValue (FP.fcmp sc FP.fconst1) .g) then
        zl ((ex <<< (23 &&& 31)) + (FP.f2i (FP.fmul (FP.fsub sc FP.fconst1) 1258291200)) : Int32) fun y12 =>
        y12
      else
        lp15_X9_bitsOfShare x q15 (k + 1) (FP.fmul sc FP.fconst2) (ex + (-1))
theorem lp15_X9_bitsOfShare_s (x : UInt32) (q15 : Nat) (k : Nat) (sc : UInt32) (ex : Int32) : lp15_X9_bitsOfShare x (q15 + 1) k sc ex = (
    if 126 ≤ (nI k) then
      zl ((ex <<< (23 &&& 31)) + (FP.f2i (FP.fmul (FP.fsub sc FP.fconst1) 1258291200)) : Int32) fun y7 =>
      y7
    else
      if 0 ≤ (Op.cmpValue (FP.fcmp sc FP.fconst1) .g) then
        zl ((ex <<< (23 &&& 31)) + (FP.f2i (FP.fmul (FP.fsub sc FP.fconst1) 1258291200)) : Int32) fun y12 =>
        y12
      else
        lp15_X9_bitsOfShare x q15 (k + 1) (FP.fmul sc FP.fconst2) (ex + (-1))
    ) := rfl
def f_X9_bitsOfShare (x : UInt32) : Int32 :=
  if 0 < (Op.cmpValue (FP.fcmp x FP.fconst0) .g) then
    lp15_X9_bitsOfShare x 130 0 x 127
  else
    0
theorem fe_X9_bitsOfShare (x : UInt32) : f_X9_bitsOfShare x = (
    if 0 < (Op.cmpValue (FP.fcmp x FP.fconst0) .g) then
      lp15_X9_bitsOfShare x 130 0 x 127
    else
      0
    ) := rfl
abbrev rm_X9_bitsOfShare : Room := { frames := 0, cells := 0, slots := 0, locals := 0 }
set_option maxHeartbeats 1000000 in
set_option maxRecDepth 100000 in
theorem c_X9_bitsOfShare (l : Launch) (T : zT) (x : UInt32) (hsh : 0 < Op.cmpValue (FP.fcmp x FP.fconst0) .g → okS 20 x = true) : Ci l yX9_bitsOfShare wsX9_bitsOfShare rm_X9_bitsOfShare T .int [.float x] [] (S := Int32) (f_X9_bitsOfShare x) (fun u => u) (fun u => []) := by
  refine z_metI (own := RX9) (maxL := 4) rfl (by decide) rfl (Nat.le_of_ble_eq_true rfl) ?_
  intro P0 E0 S0 M0 G0 B0 T0 K0 A9 Q9 C E
  have hx := C.1.1
  have hb := C.1.2.1
  have hown := C.1.2.2.2.1
  have hts := C.1.2.2.2.2
  have hn := C.2.1.2
  change Z P0 l E0 rm_X9_bitsOfShare S0 M0 G0 B0 T0 K0 4 T A9 Q9 0 0 [] 0 [(0, .float x)] []
  have zh0 := fe_X9_bitsOfShare x
  refine Z.of (pc' := 1) (fun _ _ _ hl => lv_fload_n hx hb dX9_bitsOfShare_0 rfl (lv_at hl 0 rfl)) ?_
  refine Z.of (pc' := 2) (fun _ _ _ _ => lv_fconst0 hx hb dX9_bitsOfShare_1) ?_
  refine Z.of (pc' := 3) (fun _ _ _ _ => lv_fcmp hx hb dX9_bitsOfShare_2) ?_
  refine Z.two (pt := 8) (pf := 6) (fun _ _ _ _ => lv_if_gt hx hb dX9_bitsOfShare_3 (by decide)) (fun c1 => ?_) (fun c1 => ?_)
  · have zh2 := zh0.trans (if_pos c1)
    refine Z.of (pc' := 9) (fun _ _ _ hl => lv_fload_n hx hb dX9_bitsOfShare_8 rfl (lv_at hl 0 rfl)) ?_
    refine Z.sto (pc' := 10) (lv' := [(1, .float x), (0, .float x)]) (fun _ _ _ hl => lv_fstore_n (lv' := [(1, .float x), (0, .float x)]) hx hb dX9_bitsOfShare_9 rfl hl (by decide) rfl) ?_
    refine Z.of (pc' := 12) (fun _ _ _ _ => lv_bipush (v := 127) hx hb dX9_bitsOfShare_10 (by decide)) ?_
    refine Z.sto (pc' := 13) (lv' := [(2, .int 127), (1, .float x), (0, .float x)]) (fun _ _ _ hl => lv_istore_n (lv' := [(2, .int 127), (1, .float x), (0, .float x)]) hx hb dX9_bitsOfShare_12 rfl hl (by decide) rfl) ?_
    refine Z.of (pc' := 14) (fun _ _ _ _ => lv_iconst (v := 0) hx hb dX9_bitsOfShare_13 (by decide)) ?_
    refine Z.sto (pc' := 15) (lv' := [(3, .int 0), (2, .int 127), (1, .float x), (0, .float x)]) (fun _ _ _ hl => lv_istore_n (lv' := [(3, .int 0), (2, .int 127), (1, .float x), (0, .float x)]) hx hb dX9_bitsOfShare_14 rfl hl (by decide) rfl) ?_
    have L15 : ∀ (q15 : Nat) (k : Nat) (sc : UInt32) (ex : Int32), (k ≤ 20 ∧ k + q15 = 130 ∧ okS (20 - k) sc = true) → f_X9_bitsOfShare x = lp15_X9_bitsOfShare x q15 k sc ex → Z P0 l E0 rm_X9_bitsOfShare S0 M0 G0 B0 T0 K0 4 T A9 Q9 0 0 [] 15 [(1, .float sc), (2, .int ex), (3, .int (nI k))] [] := by
      intro q15
      induction q15 with
      | zero =>
        intro k sc ex hi15 zhl15
        omega
      | succ q15 ih =>
        intro k sc ex hi15 zhl15
        have zhb15 := zhl15.trans (lp15_X9_bitsOfShare_s x q15 k sc ex)
        refine Z.of (pc' := 16) (fun _ _ _ hl => lv_iload_n hx hb dX9_bitsOfShare_15 rfl (lv_at hl 2 rfl)) ?_
        refine Z.of (pc' := 18) (fun _ _ _ _ => lv_bipush (v := 126) hx hb dX9_bitsOfShare_16 (by decide)) ?_
        refine Z.two (pt := 40) (pf := 21) (fun _ _ _ _ => lv_icmp_ge hx hb dX9_bitsOfShare_18 (by decide)) (fun c4 => ?_) (fun c4 => ?_)
        · have nc4 : 126 ≤ k := zf_le (a := 126) (b := k) (rfl : (126 : Int32) = nI 126) (rfl : nI k = nI k) c4 (by omega) (by omega)
          have zh5 := zhb15.trans (if_pos c4)
          refine Z.of (pc' := 41) (fun _ _ _ hl => lv_iload_n hx hb dX9_bitsOfShare_40 rfl (lv_at hl 1 rfl)) ?_
          refine Z.of (pc' := 43) (fun _ _ _ _ => lv_bipush (v := 23) hx hb dX9_bitsOfShare_41 (by decide)) ?_
          refine Z.of (pc' := 44) (fun _ _ _ hl => lv_ishl hx hb dX9_bitsOfShare_43) ?_
          refine Z.of (pc' := 45) (fun _ _ _ hl => lv_fload_n hx hb dX9_bitsOfShare_44 rfl (lv_at hl 0 rfl)) ?_
          refine Z.of (pc' := 46) (fun _ _ _ _ => lv_fconst1 hx hb dX9_bitsOfShare_45) ?_
          refine Z.of (pc' := 47) (fun _ _ _ _ => lv_fsub hx hb dX9_bitsOfShare_46 (absurd nc4 (by omega))) ?_
          refine Z.of (pc' := 49) (fun _ _ _ _ => lv_ldcf hx hb hown (hts (.constantFloat RX9 182 (1258291200)) (by decide +kernel)) dX9_bitsOfShare_47) ?_
          refine Z.of (pc' := 50) (fun _ _ _ _ => lv_fmul hx hb dX9_bitsOfShare_49 (absurd nc4 (by omega))) ?_
          refine Z.of (pc' := 51) (fun _ _ _ _ => lv_f2i hx hb dX9_bitsOfShare_50) ?_
          refine Z.of (pc' := 52) (fun _ _ _ hl => lv_iadd hx hb dX9_bitsOfShare_51) ?_
          refine Z.topi (fun y7 ey7 => ?_)
          have zh8 := zl_e zh5 ey7
          exact E y7 _ _ _ _ dX9_bitsOfShare_52 rfl rfl rfl zh8
        · have nc4 : ¬ (126 ≤ k) := zf_nle (a := 126) (b := k) (rfl : (126 : Int32) = nI 126) (rfl : nI k = nI k) c4 (by omega) (by omega)
          have zh6 := zhb15.trans (if_neg c4)
          refine Z.of (pc' := 22) (fun _ _ _ hl => lv_fload_n hx hb dX9_bitsOfShare_21 rfl (lv_at hl 0 rfl)) ?_
          refine Z.of (pc' := 23) (fun _ _ _ _ => lv_fconst1 hx hb dX9_bitsOfShare_22) ?_
          refine Z.of (pc' := 24) (fun _ _ _ _ => lv_fcmp hx hb dX9_bitsOfShare_23) ?_
          refine Z.two (pt := 40) (pf := 27) (fun _ _ _ _ => lv_if_ge hx hb dX9_bitsOfShare_24 (by decide)) (fun c9 => ?_) (fun c9 => ?_)
          · have zh10 := zh6.trans (if_pos c9)
            refine Z.of (pc' := 41) (fun _ _ _ hl => lv_iload_n hx hb dX9_bitsOfShare_40 rfl (lv_at hl 1 rfl)) ?_
            refine Z.of (pc' := 43) (fun _ _ _ _ => lv_bipush (v := 23) hx hb dX9_bitsOfShare_41 (by decide)) ?_
            refine Z.of (pc' := 44) (fun _ _ _ hl => lv_ishl hx hb dX9_bitsOfShare_43) ?_
            refine Z.of (pc' := 45) (fun _ _ _ hl => lv_fload_n hx hb dX9_bitsOfShare_44 rfl (lv_at hl 0 rfl)) ?_
            refine Z.of (pc' := 46) (fun _ _ _ _ => lv_fconst1 hx hb dX9_bitsOfShare_45) ?_
            refine Z.of (pc' := 47) (fun _ _ _ _ => lv_fsub hx hb dX9_bitsOfShare_46 (okS_hi hi15.2.2 c9).1) ?_
            refine Z.of (pc' := 49) (fun _ _ _ _ => lv_ldcf hx hb hown (hts (.constantFloat RX9 182 (1258291200)) (by decide +kernel)) dX9_bitsOfShare_47) ?_
            refine Z.of (pc' := 50) (fun _ _ _ _ => lv_fmul hx hb dX9_bitsOfShare_49 (okS_hi hi15.2.2 c9).2) ?_
            refine Z.of (pc' := 51) (fun _ _ _ _ => lv_f2i hx hb dX9_bitsOfShare_50) ?_
            refine Z.of (pc' := 52) (fun _ _ _ hl => lv_iadd hx hb dX9_bitsOfShare_51) ?_
            refine Z.topi (fun y12 ey12 => ?_)
            have zh13 := zl_e zh10 ey12
            exact E y12 _ _ _ _ dX9_bitsOfShare_52 rfl rfl rfl zh13
          · have zh11 := zh6.trans (if_neg c9)
            refine Z.of (pc' := 28) (fun _ _ _ hl => lv_fload_n hx hb dX9_bitsOfShare_27 rfl (lv_at hl 0 rfl)) ?_
            refine Z.of (pc' := 29) (fun _ _ _ _ => lv_fconst2 hx hb dX9_bitsOfShare_28) ?_
            refine Z.of (pc' := 30) (fun _ _ _ _ => lv_fmul hx hb dX9_bitsOfShare_29 (okS_lo hi15.2.2 c9).1) ?_
            refine Z.sto (pc' := 31) (lv' := [(1, .float (FP.fmul sc FP.fconst2)), (2, .int ex), (3, .int (nI k))]) (fun _ _ _ hl => lv_fstore_n (lv' := [(1, .float (FP.fmul sc FP.fconst2)), (2, .int ex), (3, .int (nI k))]) hx hb dX9_bitsOfShare_30 rfl hl (by decide) rfl) ?_
            refine Z.sto (pc' := 34) (lv' := [(2, .int (ex + (-1))), (1, .float (FP.fmul sc FP.fconst2)), (3, .int (nI k))]) (fun _ _ _ hl => lv_iinc (lv' := [(2, .int (ex + (-1))), (1, .float (FP.fmul sc FP.fconst2)), (3, .int (nI k))]) hx hb dX9_bitsOfShare_31 hl (k := 1) rfl rfl (by decide) rfl) ?_
            refine Z.sto (pc' := 37) (lv' := [(3, .int (nI (k + 1))), (2, .int (ex + (-1))), (1, .float (FP.fmul sc FP.fconst2))]) (fun _ _ _ hl => lv_iinc (lv' := [(3, .int (nI (k + 1))), (2, .int (ex + (-1))), (1, .float (FP.fmul sc FP.fconst2))]) hx hb dX9_bitsOfShare_34 hl (k := 2) rfl ((zi_add (a := k) (b := 1) (rfl : nI k = nI k) (by decide : Int32.ofInt 1 = nI 1)).trans (congrArg nI (by omega))) (by decide) rfl) ?_
            refine Z.of (pc' := 15) (fun _ _ _ _ => lv_goto hx hb dX9_bitsOfShare_37 (by decide)) ?_
            exact Z.sub (ks := [2, 1, 0]) (lv' := [(1, .float (FP.fmul sc FP.fconst2)), (2, .int (ex + (-1))), (3, .int (nI (k + 1)))]) rfl (ih (k + 1) (FP.fmul sc FP.fconst2) (ex + (-1)) (okS_step hi15 c9) zh11)
    exact Z.sub (ks := [2, 1, 0]) (lv' := [(1, .float x), (2, .int 127), (3, .int 0)]) rfl (L15 130 0 x 127 ⟨by omega, by omega, hsh c1⟩ zh2)
  · have zh3 := zh0.trans (if_neg c1)
    refine Z.of (pc' := 7) (fun _ _ _ _ => lv_iconst (v := 0) hx hb dX9_bitsOfShare_6 (by decide)) ?_
    exact E 0 _ _ _ _ dX9_bitsOfShare_7 rfl rfl rfl zh3
def shOK (o k : Int32) : Prop := vf_n32 (FP.fdiv (FP.i2f o) (FP.i2f k)) ∧ (0 < Op.cmpValue (FP.fcmp (FP.fdiv (FP.i2f o) (FP.i2f k)) FP.fconst0) .g → okS 20 (FP.fdiv (FP.i2f o) (FP.i2f k)) = true)
def shB (o k : Int32) : Bool := decide (FP.fdiv (FP.i2f o) (FP.i2f k) &&& 0x7fffffff ≤ 0x7f800000) && (decide (¬ 0 < Op.cmpValue (FP.fcmp (FP.fdiv (FP.i2f o) (FP.i2f k)) FP.fconst0) .g) || okS 20 (FP.fdiv (FP.i2f o) (FP.i2f k))) && (f_X9_bitsOfShare (FP.fdiv (FP.i2f o) (FP.i2f k)) == f_Jxf58ca_floatToIntBits_5c35a (FP.fdiv (FP.i2f o) (FP.i2f k)))
theorem shB_spec {o k : Int32} (h : shB o k = true) : shOK o k ∧ f_X9_bitsOfShare (FP.fdiv (FP.i2f o) (FP.i2f k)) = f_Jxf58ca_floatToIntBits_5c35a (FP.fdiv (FP.i2f o) (FP.i2f k)) := by
  unfold shB at h
  rw [Bool.and_eq_true, Bool.and_eq_true] at h
  obtain ⟨⟨h1, h2⟩, h3⟩ := h
  refine ⟨⟨?_, fun hp => ?_⟩, eq_of_beq h3⟩
  · unfold vf_n32; exact of_decide_eq_true h1
  · rw [Bool.or_eq_true] at h2
    exact h2.elim (fun h => absurd hp (of_decide_eq_true h)) id
theorem sh_1 : ∀ o : Fin 2, shB (nI o.val) 1 = true := by decide +kernel
theorem sh_2 : ∀ o : Fin 3, shB (nI o.val) 2 = true := by decide +kernel
theorem sh_3 : ∀ o : Fin 4, shB (nI o.val) 3 = true := by decide +kernel
theorem sh_4 : ∀ o : Fin 5, shB (nI o.val) 4 = true := by decide +kernel
theorem sh_5 : ∀ o : Fin 6, shB (nI o.val) 5 = true := by decide +kernel
theorem sh_6 : ∀ o : Fin 7, shB (nI o.val) 6 = true := by decide +kernel
theorem sh_7 : ∀ o : Fin 8, shB (nI o.val) 7 = true := by decide +kernel
theorem sh_8 : ∀ o : Fin 9, shB (nI o.val) 8 = true := by decide +kernel
theorem sh_9 : ∀ o : Fin 10, shB (nI o.val) 9 = true := by decide +kernel
theorem sh_10 : ∀ o : Fin 11, shB (nI o.val) 10 = true := by decide +kernel
theorem sh_11 : ∀ o : Fin 12, shB (nI o.val) 11 = true := by decide +kernel
theorem sh_12 : ∀ o : Fin 13, shB (nI o.val) 12 = true := by decide +kernel
theorem sh_13 : ∀ o : Fin 14, shB (nI o.val) 13 = true := by decide +kernel
theorem sh_14 : ∀ o : Fin 15, shB (nI o.val) 14 = true := by decide +kernel
theorem sh_15 : ∀ o : Fin 16, shB (nI o.val) 15 = true := by decide +kernel
theorem sh_16 : ∀ o : Fin 17, shB (nI o.val) 16 = true := by decide +kernel
theorem sh_17 : ∀ o : Fin 18, shB (nI o.val) 17 = true := by decide +kernel
theorem sh_18 : ∀ o : Fin 19, shB (nI o.val) 18 = true := by decide +kernel
theorem sh_19 : ∀ o : Fin 20, shB (nI o.val) 19 = true := by decide +kernel
theorem sh_20 : ∀ o : Fin 21, shB (nI o.val) 20 = true := by decide +kernel
theorem sh_21 : ∀ o : Fin 22, shB (nI o.val) 21 = true := by decide +kernel
theorem sh_22 : ∀ o : Fin 23, shB (nI o.val) 22 = true := by decide +kernel
theorem sh_23 : ∀ o : Fin 24, shB (nI o.val) 23 = true := by decide +kernel
theorem sh_24 : ∀ o : Fin 25, shB (nI o.val) 24 = true := by decide +kernel
theorem sh_25 : ∀ o : Fin 26, shB (nI o.val) 25 = true := by decide +kernel
theorem sh_26 : ∀ o : Fin 27, shB (nI o.val) 26 = true := by decide +kernel
theorem sh_27 : ∀ o : Fin 28, shB (nI o.val) 27 = true := by decide +kernel
theorem sh_28 : ∀ o : Fin 29, shB (nI o.val) 28 = true := by decide +kernel
theorem sh_29 : ∀ o : Fin 30, shB (nI o.val) 29 = true := by decide +kernel
theorem sh_30 : ∀ o : Fin 31, shB (nI o.val) 30 = true := by decide +kernel
theorem sh_31 : ∀ o : Fin 32, shB (nI o.val) 31 = true := by decide +kernel
theorem sh_32 : ∀ o : Fin 33, shB (nI o.val) 32 = true := by decide +kernel
theorem sh_33 : ∀ o : Fin 34, shB (nI o.val) 33 = true := by decide +kernel
theorem sh_34 : ∀ o : Fin 35, shB (nI o.val) 34 = true := by decide +kernel
theorem sh_35 : ∀ o : Fin 36, shB (nI o.val) 35 = true := by decide +kernel
theorem sh_36 : ∀ o : Fin 37, shB (nI o.val) 36 = true := by decide +kernel
theorem sh_37 : ∀ o : Fin 38, shB (nI o.val) 37 = true := by decide +kernel
theorem sh_38 : ∀ o : Fin 39, shB (nI o.val) 38 = true := by decide +kernel
theorem sh_39 : ∀ o : Fin 40, shB (nI o.val) 39 = true := by decide +kernel
theorem sh_40 : ∀ o : Fin 41, shB (nI o.val) 40 = true := by decide +kernel
theorem sh_41 : ∀ o : Fin 42, shB (nI o.val) 41 = true := by decide +kernel
theorem sh_42 : ∀ o : Fin 43, shB (nI o.val) 42 = true := by decide +kernel
theorem sh_43 : ∀ o : Fin 44, shB (nI o.val) 43 = true := by decide +kernel
theorem sh_44 : ∀ o : Fin 45, shB (nI o.val) 44 = true := by decide +kernel
theorem sh_45 : ∀ o : Fin 46, shB (nI o.val) 45 = true := by decide +kernel
theorem sh_46 : ∀ o : Fin 47, shB (nI o.val) 46 = true := by decide +kernel
theorem sh_47 : ∀ o : Fin 48, shB (nI o.val) 47 = true := by decide +kernel
theorem sh_48 : ∀ o : Fin 49, shB (nI o.val) 48 = true := by decide +kernel
theorem sh_49 : ∀ o : Fin 50, shB (nI o.val) 49 = true := by decide +kernel
theorem sh_50 : ∀ o : Fin 51, shB (nI o.val) 50 = true := by decide +kernel
theorem sh_51 : ∀ o : Fin 52, shB (nI o.val) 51 = true := by decide +kernel
theorem sh_52 : ∀ o : Fin 53, shB (nI o.val) 52 = true := by decide +kernel
theorem sh_53 : ∀ o : Fin 54, shB (nI o.val) 53 = true := by decide +kernel
theorem sh_54 : ∀ o : Fin 55, shB (nI o.val) 54 = true := by decide +kernel
theorem sh_55 : ∀ o : Fin 56, shB (nI o.val) 55 = true := by decide +kernel
theorem sh_56 : ∀ o : Fin 57, shB (nI o.val) 56 = true := by decide +kernel
theorem sh_57 : ∀ o : Fin 58, shB (nI o.val) 57 = true := by decide +kernel
theorem sh_58 : ∀ o : Fin 59, shB (nI o.val) 58 = true := by decide +kernel
theorem sh_59 : ∀ o : Fin 60, shB (nI o.val) 59 = true := by decide +kernel
theorem sh_60 : ∀ o : Fin 61, shB (nI o.val) 60 = true := by decide +kernel
theorem sh_61 : ∀ o : Fin 62, shB (nI o.val) 61 = true := by decide +kernel
theorem sh_62 : ∀ o : Fin 63, shB (nI o.val) 62 = true := by decide +kernel
theorem sh_63 : ∀ o : Fin 64, shB (nI o.val) 63 = true := by decide +kernel
theorem sh_64 : ∀ o : Fin 65, shB (nI o.val) 64 = true := by decide +kernel
theorem shares {o k : Nat} (h1 : 1 ≤ k) (h2 : k ≤ 64) (h3 : o ≤ k) : shB (nI o) (nI k) = true := by
  match k, h1, h2, h3 with
  | 1, _, _, h3 => exact sh_1 ⟨o, by omega⟩
  | 2, _, _, h3 => exact sh_2 ⟨o, by omega⟩
  | 3, _, _, h3 => exact sh_3 ⟨o, by omega⟩
  | 4, _, _, h3 => exact sh_4 ⟨o, by omega⟩
  | 5, _, _, h3 => exact sh_5 ⟨o, by omega⟩
  | 6, _, _, h3 => exact sh_6 ⟨o, by omega⟩
  | 7, _, _, h3 => exact sh_7 ⟨o, by omega⟩
  | 8, _, _, h3 => exact sh_8 ⟨o, by omega⟩
  | 9, _, _, h3 => exact sh_9 ⟨o, by omega⟩
  | 10, _, _, h3 => exact sh_10 ⟨o, by omega⟩
  | 11, _, _, h3 => exact sh_11 ⟨o, by omega⟩
  | 12, _, _, h3 => exact sh_12 ⟨o, by omega⟩
  | 13, _, _, h3 => exact sh_13 ⟨o, by omega⟩
  | 14, _, _, h3 => exact sh_14 ⟨o, by omega⟩
  | 15, _, _, h3 => exact sh_15 ⟨o, by omega⟩
  | 16, _, _, h3 => exact sh_16 ⟨o, by omega⟩
  | 17, _, _, h3 => exact sh_17 ⟨o, by omega⟩
  | 18, _, _, h3 => exact sh_18 ⟨o, by omega⟩
  | 19, _, _, h3 => exact sh_19 ⟨o, by omega⟩
  | 20, _, _, h3 => exact sh_20 ⟨o, by omega⟩
  | 21, _, _, h3 => exact sh_21 ⟨o, by omega⟩
  | 22, _, _, h3 => exact sh_22 ⟨o, by omega⟩
  | 23, _, _, h3 => exact sh_23 ⟨o, by omega⟩
  | 24, _, _, h3 => exact sh_24 ⟨o, by omega⟩
  | 25, _, _, h3 => exact sh_25 ⟨o, by omega⟩
  | 26, _, _, h3 => exact sh_26 ⟨o, by omega⟩
  | 27, _, _, h3 => exact sh_27 ⟨o, by omega⟩
  | 28, _, _, h3 => exact sh_28 ⟨o, by omega⟩
  | 29, _, _, h3 => exact sh_29 ⟨o, by omega⟩
  | 30, _, _, h3 => exact sh_30 ⟨o, by omega⟩
  | 31, _, _, h3 => exact sh_31 ⟨o, by omega⟩
  | 32, _, _, h3 => exact sh_32 ⟨o, by omega⟩
  | 33, _, _, h3 => exact sh_33 ⟨o, by omega⟩
  | 34, _, _, h3 => exact sh_34 ⟨o, by omega⟩
  | 35, _, _, h3 => exact sh_35 ⟨o, by omega⟩
  | 36, _, _, h3 => exact sh_36 ⟨o, by omega⟩
  | 37, _, _, h3 => exact sh_37 ⟨o, by omega⟩
  | 38, _, _, h3 => exact sh_38 ⟨o, by omega⟩
  | 39, _, _, h3 => exact sh_39 ⟨o, by omega⟩
  | 40, _, _, h3 => exact sh_40 ⟨o, by omega⟩
  | 41, _, _, h3 => exact sh_41 ⟨o, by omega⟩
  | 42, _, _, h3 => exact sh_42 ⟨o, by omega⟩
  | 43, _, _, h3 => exact sh_43 ⟨o, by omega⟩
  | 44, _, _, h3 => exact sh_44 ⟨o, by omega⟩
  | 45, _, _, h3 => exact sh_45 ⟨o, by omega⟩
  | 46, _, _, h3 => exact sh_46 ⟨o, by omega⟩
  | 47, _, _, h3 => exact sh_47 ⟨o, by omega⟩
  | 48, _, _, h3 => exact sh_48 ⟨o, by omega⟩
  | 49, _, _, h3 => exact sh_49 ⟨o, by omega⟩
  | 50, _, _, h3 => exact sh_50 ⟨o, by omega⟩
  | 51, _, _, h3 => exact sh_51 ⟨o, by omega⟩
  | 52, _, _, h3 => exact sh_52 ⟨o, by omega⟩
  | 53, _, _, h3 => exact sh_53 ⟨o, by omega⟩
  | 54, _, _, h3 => exact sh_54 ⟨o, by omega⟩
  | 55, _, _, h3 => exact sh_55 ⟨o, by omega⟩
  | 56, _, _, h3 => exact sh_56 ⟨o, by omega⟩
  | 57, _, _, h3 => exact sh_57 ⟨o, by omega⟩
  | 58, _, _, h3 => exact sh_58 ⟨o, by omega⟩
  | 59, _, _, h3 => exact sh_59 ⟨o, by omega⟩
  | 60, _, _, h3 => exact sh_60 ⟨o, by omega⟩
  | 61, _, _, h3 => exact sh_61 ⟨o, by omega⟩
  | 62, _, _, h3 => exact sh_62 ⟨o, by omega⟩
  | 63, _, _, h3 => exact sh_63 ⟨o, by omega⟩
  | 64, _, _, h3 => exact sh_64 ⟨o, by omega⟩
  | 0, h1, _, _ => exact absurd h1 (by decide)
  | n + 65, _, h2, _ => exact absurd h2 (by omega)
theorem zshare {o k : Int32} {j : Nat} (hk : IN k 64) (ho : IN o j) (hj : j ≤ k.toNatClampNeg) (hne : ¬ k = 0) : shOK o k ∧ f_X9_bitsOfShare (FP.fdiv (FP.i2f o) (FP.i2f k)) = f_Jxf58ca_floatToIntBits_5c35a (FP.fdiv (FP.i2f o) (FP.i2f k)) := by
  have h1 := hk.1
  have h2 := ho.1
  have h3 := hk.2
  have h4 := ho.2
  have h5 : 1 ≤ k.toNatClampNeg := by
    rcases Nat.eq_zero_or_pos k.toNatClampNeg with h | h
    · exact absurd (by rw [h1, h]; rfl) hne
    · exact h
  have h := shB_spec (shares (o := o.toNatClampNeg) (k := k.toNatClampNeg) h5 h3 (by omega))
  rw [← h1, ← h2] at h
  exact h
theorem IN_bit {o b : Int32} {j : Nat} (ho : IN o j) (hj : j ≤ 64) (hb : b = 0 ∨ b = 1) : IN (o + b) (j + 1) := by
  have h2 := ho.1
  have h4 := ho.2
  rcases hb with rfl | rfl
  · refine ⟨?_, ?_⟩
    · rw [Int32.add_zero]; exact h2
    · rw [Int32.add_zero]; omega
  · exact IN_of (k := o.toNatClampNeg + 1) (by rw [← nI_add, ← h2]; rfl) (by omega) (by omega)
def f_X9_share (fn : Nat → Int32) (rn : Int64) (sn : Int64) : Int32 :=
  if 0 < (fn 28) then
    zl (f_X0_ones rn (fn 28)) fun u4 =>
    zl (f_X9_bitsOfShare (FP.fdiv (FP.i2f u4) (FP.i2f (fn 28)))) fun u6 =>
    u6
  else
    (-1000004)
theorem fe_X9_share (fn : Nat → Int32) (rn : Int64) (sn : Int64) : f_X9_share fn rn sn = (
    if 0 < (fn 28) then
      zl (f_X0_ones rn (fn 28)) fun u4 =>
      zl (f_X9_bitsOfShare (FP.fdiv (FP.i2f u4) (FP.i2f (fn 28)))) fun u6 =>
      u6
    else
      (-1000004)
    ) := rfl
abbrev rm_X9_share : Room := { frames := 2, cells := 0, slots := 0, locals := 41 }
set_option maxHeartbeats 1000000 in
set_option maxRecDepth 100000 in
theorem c_X9_share (l : Launch) (T : zT) (a : Nat) (An : Nat → Nat) (At : Nat → Nat) (ah : Nat) (O : Nat → Nat) (fn : Nat → Int32) (rn : Int64) (sn : Int64) (hsh : 0 < (fn 28) → shOK (f_X0_ones rn (fn 28)) (fn 28)) : Ci l yX9_share wsX9_share rm_X9_share T .int [.ref a] [(a, .inr (9, [.ref (An 0), .ref (At 0), .ref ah, .ref (O 0)])), (An 0, .inr (6, [.ref (An 1), .ref (An 2), .ref (An 3), .ref (An 4), .ref (An 5), .ref (An 6), .ref (An 7), .int (fn 0), .int (fn 19)])), (An 1, .inr (4, [.int (fn 1), .int (fn 3), .int (fn 5)])), (An 2, .inr (4, [.int (fn 2), .int (fn 4), .int (fn 6)])), (An 3, .inr (5, [.int (fn 7), .int (fn 8), .int (fn 9), .int (fn 10)])), (An 4, .inr (1, [.int (fn 11), .int (fn 12), .int (fn 13), .int (fn 14), .int (fn 15), .int (fn 16), .int (fn 17)])), (An 5, .inr (0, [.long rn, .int (fn 28)])), (An 6, .inr (0, [.long sn, .int (fn 18)])), (An 7, .inr (7, [.int (fn 20), .int (fn 21), .int (fn 22), .int (fn 23), .int (fn 24), .int (fn 25), .int (fn 26), .int (fn 27)]))] (S := Int32) (f_X9_share fn rn sn) (fun u => u) (fun u => [(a, .inr (9, [.ref (An 0), .ref (At 0), .ref ah, .ref (O 0)])), (An 0, .inr (6, [.ref (An 1), .ref (An 2), .ref (An 3), .ref (An 4), .ref (An 5), .ref (An 6), .ref (An 7), .int (fn 0), .int (fn 19)])), (An 1, .inr (4, [.int (fn 1), .int (fn 3), .int (fn 5)])), (An 2, .inr (4, [.int (fn 2), .int (fn 4), .int (fn 6)])), (An 3, .inr (5, [.int (fn 7), .int (fn 8), .int (fn 9), .int (fn 10)])), (An 4, .inr (1, [.int (fn 11), .int (fn 12), .int (fn 13), .int (fn 14), .int (fn 15), .int (fn 16), .int (fn 17)])), (An 5, .inr (0, [.long rn, .int (fn 28)])), (An 6, .inr (0, [.long sn, .int (fn 18)])), (An 7, .inr (7, [.int (fn 20), .int (fn 21), .int (fn 22), .int (fn 23), .int (fn 24), .int (fn 25), .int (fn 26), .int (fn 27)]))]) := by
  refine z_metI (own := RX9) (maxL := 2) rfl (by decide) rfl (Nat.le_of_ble_eq_true rfl) ?_
  intro P0 E0 S0 M0 G0 B0 T0 K0 A9 Q9 C E
  have hx := C.1.1
  have hb := C.1.2.1
  have hown := C.1.2.2.2.1
  have hts := C.1.2.2.2.2
  have hn := C.2.1.2
  have iX0 : ∀ w ∈ u_ws RX0 TX0 2, w ∈ wsX9_share := by decide +kernel
  have iX6 : ∀ w ∈ u_ws RX6 TX6 9, w ∈ wsX9_share := by decide +kernel
  have iX9 : ∀ w ∈ u_ws RX9 TX9 4, w ∈ wsX9_share := by decide +kernel
  have k10 := hts (.fieldLink RX9 10 "JudgedBits" "now" "LJudgedBits$Source;") (by decide +kernel)
  have k85 := hts (.fieldLink RX9 85 "JudgedBits$Source" "rawBits" "LJudgedBits$BitRow;") (by decide +kernel)
  have k89 := hts (.fieldLink RX9 89 "JudgedBits$BitRow" "size" "I") (by decide +kernel)
  change Z P0 l E0 rm_X9_share S0 M0 G0 B0 T0 K0 2 T A9 Q9 0 0 [(a, .inr (9, [.ref (An 0), .ref (At 0), .ref ah, .ref (O 0)])), (An 0, .inr (6, [.ref (An 1), .ref (An 2), .ref (An 3), .ref (An 4), .ref (An 5), .ref (An 6), .ref (An 7), .int (fn 0), .int (fn 19)])), (An 1, .inr (4, [.int (fn 1), .int (fn 3), .int (fn 5)])), (An 2, .inr (4, [.int (fn 2), .int (fn 4), .int (fn 6)])), (An 3, .inr (5, [.int (fn 7), .int (fn 8), .int (fn 9), .int (fn 10)])), (An 4, .inr (1, [.int (fn 11), .int (fn 12), .int (fn 13), .int (fn 14), .int (fn 15), .int (fn 16), .int (fn 17)])), (An 5, .inr (0, [.long rn, .int (fn 28)])), (An 6, .inr (0, [.long sn, .int (fn 18)])), (An 7, .inr (7, [.int (fn 20), .int (fn 21), .int (fn 22), .int (fn 23), .int (fn 24), .int (fn 25), .int (fn 26), .int (fn 27)]))] 0 [(0, .ref a)] []
  have zh0 := fe_X9_share fn rn sn
  refine Z.of (pc' := 1) (fun _ _ _ hl => lv_aload_n hx hb dX9_share_0 rfl (lv_at hl 0 rfl)) ?_
  refine z_get C iX9 0 0 k10 rfl rfl (by decide) rfl rfl dX9_share_1 rfl ?_
  refine z_get C iX6 1 4 k85 rfl rfl (by decide) rfl rfl dX9_share_4 rfl ?_
  refine z_get C iX0 6 1 k89 rfl rfl (by decide) rfl rfl dX9_share_7 rfl ?_
  refine Z.sto (pc' := 11) (lv' := [(1, .int (fn 28)), (0, .ref a)]) (fun _ _ _ hl => lv_istore_n (lv' := [(1, .int (fn 28)), (0, .ref a)]) hx hb dX9_share_10 rfl hl (by decide) rfl) ?_
  refine Z.of (pc' := 12) (fun _ _ _ hl => lv_iload_n hx hb dX9_share_11 rfl (lv_at hl 0 rfl)) ?_
  refine Z.two (pt := 18) (pf := 15) (fun _ _ _ _ => lv_if_gt hx hb dX9_share_12 (by decide)) (fun c1 => ?_) (fun c1 => ?_)
  · have zh2 := zh0.trans (if_pos c1)
    refine Z.of (pc' := 19) (fun _ _ _ hl => lv_aload_n hx hb dX9_share_18 rfl (lv_at hl 1 rfl)) ?_
    refine z_get C iX9 0 0 k10 rfl rfl (by decide) rfl rfl dX9_share_19 rfl ?_
    refine z_get C iX6 1 4 k85 rfl rfl (by decide) rfl rfl dX9_share_22 rfl ?_
    refine z_callVi C (c_X0_ones l T (An 5) rn (fn 28)) [6] [0, 1, 2, 3, 4, 5, 7, 8] rfl (by decide +kernel) (fun u4 => [(a, .inr (9, [.ref (An 0), .ref (At 0), .ref ah, .ref (O 0)])), (An 0, .inr (6, [.ref (An 1), .ref (An 2), .ref (An 3), .ref (An 4), .ref (An 5), .ref (An 6), .ref (An 7), .int (fn 0), .int (fn 19)])), (An 1, .inr (4, [.int (fn 1), .int (fn 3), .int (fn 5)])), (An 2, .inr (4, [.int (fn 2), .int (fn 4), .int (fn 6)])), (An 3, .inr (5, [.int (fn 7), .int (fn 8), .int (fn 9), .int (fn 10)])), (An 4, .inr (1, [.int (fn 11), .int (fn 12), .int (fn 13), .int (fn 14), .int (fn 15), .int (fn 16), .int (fn 17)])), (An 5, .inr (0, [.long rn, .int (fn 28)])), (An 6, .inr (0, [.long sn, .int (fn 18)])), (An 7, .inr (7, [.int (fn 20), .int (fn 21), .int (fn 22), .int (fn 23), .int (fn 24), .int (fn 25), .int (fn 26), .int (fn 27)]))]) (fun _ => rfl) [(a, .inr (9, [.ref (An 0), .ref (At 0), .ref ah, .ref (O 0)])), (An 0, .inr (6, [.ref (An 1), .ref (An 2), .ref (An 3), .ref (An 4), .ref (An 5), .ref (An 6), .ref (An 7), .int (fn 0), .int (fn 19)])), (An 1, .inr (4, [.int (fn 1), .int (fn 3), .int (fn 5)])), (An 2, .inr (4, [.int (fn 2), .int (fn 4), .int (fn 6)])), (An 3, .inr (5, [.int (fn 7), .int (fn 8), .int (fn 9), .int (fn 10)])), (An 4, .inr (1, [.int (fn 11), .int (fn 12), .int (fn 13), .int (fn 14), .int (fn 15), .int (fn 16), .int (fn 17)])), (An 6, .inr (0, [.long sn, .int (fn 18)])), (An 7, .inr (7, [.int (fn 20), .int (fn 21), .int (fn 22), .int (fn 23), .int (fn 24), .int (fn 25), .int (fn 26), .int (fn 27)]))] rfl (fun _ => rfl) [a, An 0, An 1, An 2, An 3, An 4, An 5, An 6, An 7] rfl (fun _ => rfl) 9 (fun _ => rfl) (by decide +kernel) (cwV 0 hts gX9_share_X0_ones rfl rfl rfl (by decide +kernel) ⟨Nat.le_of_ble_eq_true rfl, Nat.le_of_ble_eq_true rfl⟩) 6 rfl rfl rfl (As := []) (rest := []) rfl rfl (Nat.le_of_ble_eq_true rfl) dX9_share_25 rfl ⟨Nat.zero_le _, Nat.zero_le _⟩ (fun u4 eu4 bu4 => ?_)
    have zh5 := zl_e zh2 eu4
    refine Z.of (pc' := 29) (fun _ _ _ hl => lv_i2f hx hb dX9_share_28) ?_
    refine Z.of (pc' := 30) (fun _ _ _ hl => lv_iload_n hx hb dX9_share_29 rfl (lv_at hl 0 rfl)) ?_
    refine Z.of (pc' := 31) (fun _ _ _ hl => lv_i2f hx hb dX9_share_30) ?_
    refine Z.of (pc' := 32) (fun _ _ _ _ => lv_fdiv hx hb dX9_share_31 (by rw [eu4]; exact (hsh c1).1)) ?_
    refine z_callSi C (c_X9_bitsOfShare l T (FP.fdiv (FP.i2f u4) (FP.i2f (fn 28))) (by rw [eu4]; exact (hsh c1).2)) (cwS 1 hts gX9_share_X9_bitsOfShare rfl rfl rfl (by decide +kernel) ⟨Nat.le_of_ble_eq_true rfl, Nat.le_of_ble_eq_true rfl⟩) (As := [.float (FP.fdiv (FP.i2f u4) (FP.i2f (fn 28)))]) (rest := []) rfl rfl (Nat.le_of_ble_eq_true rfl) dX9_share_32 rfl ⟨Nat.zero_le _, Nat.zero_le _⟩ (fun u6 eu6 bu6 => ?_)
    have zh7 := zl_e zh5 eu6
    exact E u6 _ _ _ _ dX9_share_35 rfl rfl rfl zh7
  · have zh3 := zh0.trans (if_neg c1)
    refine Z.of (pc' := 17) (fun _ _ _ _ => lv_ldc hx hb hown (hts (.constant RX9 96 (-1000004)) (by decide +kernel)) dX9_share_15) ?_
    exact E (-1000004) _ _ _ _ dX9_share_17 rfl rfl rfl zh3
def lp4_X10_share (g : Nat → Int32) (m : Nat → Int32) (t : Nat → Int32) : Nat → Int32 → Nat → Int32
  | 0, _, _ => 0
  | q4 + 1, ones, k =>
    if (m 28) ≤ (nI k) then
      if (m 28) = 0 then
        (-1000004)
      else
        zl (f_Jxf58ca_floatToIntBits_5c35a (FP.fdiv (FP.i2f ones) (FP.i2f (m 28)))) fun u7 =>
        u7
    else
      lp4_X10_share g m t q4 (ones + (m (k + 29))) (k + 1)
theorem lp4_X10_share_s (g : Nat → Int32) (m : Nat → Int32) (t : Nat → Int32) (q4 : Nat) (ones : Int32) (k : Nat) : lp4_X10_share g m t (q4 + 1) ones k = (
    if (m 28) ≤ (nI k) then
      if (m 28) = 0 then
        (-1000004)
      else
        zl (f_Jxf58ca_floatToIntBits_5c35a (FP.fdiv (FP.i2f ones) (FP.i2f (m 28)))) fun u7 =>
        u7
    else
      lp4_X10_share g m t q4 (ones + (m (k + 29))) (k + 1)
    ) := rfl
def f_X10_share (g : Nat → Int32) (m : Nat → Int32) (t : Nat → Int32) : Int32 :=
  lp4_X10_share g m t 65 0 0
theorem fe_X10_share (g : Nat → Int32) (m : Nat → Int32) (t : Nat → Int32) : f_X10_share g m t = (
    lp4_X10_share g m t 65 0 0
    ) := rfl
abbrev rm_X10_share : Room := { frames := 2, cells := 0, slots := 0, locals := 44 }
set_option maxHeartbeats 1000000 in
set_option maxRecDepth 100000 in
theorem c_X10_share (l : Launch) (T : zT) (M : Nat → Nat) (g : Nat → Int32) (m : Nat → Int32) (t : Nat → Int32) (hk0 : IN (m 28) 64) (hbt : ∀ j : Nat, j < 64 → m (j + 29) = 0 ∨ m (j + 29) = 1) : Ci l yX10_share wsX10_share rm_X10_share T .int [.ref (M 0)] [(M 0, .inr (10, [.ref (M 1), .int (g 0), .ref (M 2), .int (g 1), .int (g 2), .int (g 3), .int (g 4), .int (g 5), .int (g 6)])), (M 1, .inl (T.2.2.1, 1099, .inl m)), (M 2, .inl (T.2.2.2, 60, .inl t))] (S := Int32) (f_X10_share g m t) (fun u => u) (fun u => [(M 0, .inr (10, [.ref (M 1), .int (g 0), .ref (M 2), .int (g 1), .int (g 2), .int (g 3), .int (g 4), .int (g 5), .int (g 6)])), (M 1, .inl (T.2.2.1, 1099, .inl m)), (M 2, .inl (T.2.2.2, 60, .inl t))]) := by
  refine z_metI (own := RX10) (maxL := 3) rfl (by decide) rfl (Nat.le_of_ble_eq_true rfl) ?_
  intro P0 E0 S0 M0 G0 B0 T0 K0 A9 Q9 C E
  have hx := C.1.1
  have hb := C.1.2.1
  have hown := C.1.2.2.2.1
  have hts := C.1.2.2.2.2
  have hn := C.2.1.2
  have iX10 : ∀ w ∈ u_ws RX10 TX10 9, w ∈ wsX10_share := by decide +kernel
  have k7 := hts (.fieldLink RX10 7 "JudgedBitsModel" "s" "[I") (by decide +kernel)
  have hk9 := hk0.1
  have hkp := hk0.2
  change Z P0 l E0 rm_X10_share S0 M0 G0 B0 T0 K0 3 T A9 Q9 0 0 [(M 0, .inr (10, [.ref (M 1), .int (g 0), .ref (M 2), .int (g 1), .int (g 2), .int (g 3), .int (g 4), .int (g 5), .int (g 6)])), (M 1, .inl (T.2.2.1, 1099, .inl m)), (M 2, .inl (T.2.2.2, 60, .inl t))] 0 [(0, .ref (M 0))] []
  have zh0 := fe_X10_share g m t
  refine Z.of (pc' := 1) (fun _ _ _ _ => lv_iconst (v := 0) hx hb dX10_share_0 (by decide)) ?_
  refine Z.sto (pc' := 2) (lv' := [(1, .int 0), (0, .ref (M 0))]) (fun _ _ _ hl => lv_istore_n (lv' := [(1, .int 0), (0, .ref (M 0))]) hx hb dX10_share_1 rfl hl (by decide) rfl) ?_
  refine Z.of (pc' := 3) (fun _ _ _ _ => lv_iconst (v := 0) hx hb dX10_share_2 (by decide)) ?_
  refine Z.sto (pc' := 4) (lv' := [(2, .int 0), (1, .int 0), (0, .ref (M 0))]) (fun _ _ _ hl => lv_istore_n (lv' := [(2, .int 0), (1, .int 0), (0, .ref (M 0))]) hx hb dX10_share_3 rfl hl (by decide) rfl) ?_
  have L4 : ∀ (q4 : Nat) (ones : Int32) (k : Nat), (k ≤ (m 28).toNatClampNeg ∧ k + q4 = 65 ∧ IN ones k) → f_X10_share g m t = lp4_X10_share g m t q4 ones k → Z P0 l E0 rm_X10_share S0 M0 G0 B0 T0 K0 3 T A9 Q9 0 0 [(M 0, .inr (10, [.ref (M 1), .int (g 0), .ref (M 2), .int (g 1), .int (g 2), .int (g 3), .int (g 4), .int (g 5), .int (g 6)])), (M 1, .inl (T.2.2.1, 1099, .inl m)), (M 2, .inl (T.2.2.2, 60, .inl t))] 4 [(0, .ref (M 0)), (1, .int ones), (2, .int (nI k))] [] := by
    intro q4
    induction q4 with
    | zero =>
      intro ones k hi4 zhl4
      omega
    | succ q4 ih =>
      intro ones k hi4 zhl4
      have zhb4 := zhl4.trans (lp4_X10_share_s g m t q4 ones k)
      refine Z.of (pc' := 5) (fun _ _ _ hl => lv_iload_n hx hb dX10_share_4 rfl (lv_at hl 2 rfl)) ?_
      refine Z.of (pc' := 6) (fun _ _ _ hl => lv_aload_n hx hb dX10_share_5 rfl (lv_at hl 0 rfl)) ?_
      refine z_get C iX10 0 0 k7 rfl rfl (by decide) rfl rfl dX10_share_6 rfl ?_
      refine Z.of (pc' := 11) (fun _ _ _ _ => lv_bipush (v := 28) hx hb dX10_share_9 (by decide)) ?_
      refine z_iald C 1 1 rfl rfl (j := 28) (rfl : (28 : Int32) = nI 28) (by decide) (by decide) dX10_share_11 rfl ?_
      refine Z.two (pt := 33) (pf := 15) (fun _ _ _ _ => lv_icmp_ge hx hb dX10_share_12 (by decide)) (fun c1 => ?_) (fun c1 => ?_)
      · have nc1 : ((m 28).toNatClampNeg) ≤ k := zf_le (a := ((m 28).toNatClampNeg)) (b := k) hk9 (rfl : nI k = nI k) c1 (by omega) (by omega)
        have zh2 := zhb4.trans (if_pos c1)
        refine Z.of (pc' := 34) (fun _ _ _ hl => lv_aload_n hx hb dX10_share_33 rfl (lv_at hl 0 rfl)) ?_
        refine z_get C iX10 0 0 k7 rfl rfl (by decide) rfl rfl dX10_share_34 rfl ?_
        refine Z.of (pc' := 39) (fun _ _ _ _ => lv_bipush (v := 28) hx hb dX10_share_37 (by decide)) ?_
        refine z_iald C 1 1 rfl rfl (j := 28) (rfl : (28 : Int32) = nI 28) (by decide) (by decide) dX10_share_39 rfl ?_
        refine Z.two' (pt := 48) (pf := 43) (fun _ _ _ _ => lv_if_ne hx hb dX10_share_40 (by decide)) (fun c4 => ?_) (fun c4 => ?_)
        · have zh5 := zh2.trans (if_neg c4)
          refine Z.of (pc' := 49) (fun _ _ _ hl => lv_iload_n hx hb dX10_share_48 rfl (lv_at hl 1 rfl)) ?_
          refine Z.of (pc' := 50) (fun _ _ _ hl => lv_i2f hx hb dX10_share_49) ?_
          refine Z.of (pc' := 51) (fun _ _ _ hl => lv_aload_n hx hb dX10_share_50 rfl (lv_at hl 0 rfl)) ?_
          refine z_get C iX10 0 0 k7 rfl rfl (by decide) rfl rfl dX10_share_51 rfl ?_
          refine Z.of (pc' := 56) (fun _ _ _ _ => lv_bipush (v := 28) hx hb dX10_share_54 (by decide)) ?_
          refine z_iald C 1 1 rfl rfl (j := 28) (rfl : (28 : Int32) = nI 28) (by decide) (by decide) dX10_share_56 rfl ?_
          refine Z.of (pc' := 58) (fun _ _ _ hl => lv_i2f hx hb dX10_share_57) ?_
          refine Z.of (pc' := 59) (fun _ _ _ _ => lv_fdiv hx hb dX10_share_58 (zshare hk0 hi4.2.2 (by omega) c4).1.1) ?_
          refine z_callSi C (c_Jxf58ca_floatToIntBits_5c35a l T (FP.fdiv (FP.i2f ones) (FP.i2f (m 28)))) ⟨callB_of 1 hts ggX10_share_Jxf58ca_floatToIntBits_5c35a rfl rfl rfl (hts (.initialized RJxf58ca) (by decide +kernel)) (hts (.methodLink RX10 79 yJxf58ca_floatToIntBits_5c35a) (by decide +kernel)) (by decide +kernel) ⟨Nat.le_of_ble_eq_true rfl, Nat.le_of_ble_eq_true rfl⟩, hts (.static yJxf58ca_floatToIntBits_5c35a) (by decide +kernel)⟩ (As := [.float (FP.fdiv (FP.i2f ones) (FP.i2f (m 28)))]) (rest := []) rfl rfl (Nat.le_of_ble_eq_true rfl) dX10_share_59 rfl ⟨Nat.zero_le _, Nat.zero_le _⟩ (fun u7 eu7 bu7 => ?_)
          have zh8 := zl_e zh5 eu7
          exact E u7 _ _ _ _ dX10_share_62 rfl rfl rfl zh8
        · have zh6 := zh2.trans (if_pos c4)
          refine Z.of (pc' := 45) (fun _ _ _ _ => lv_ldc hx hb hown (hts (.constant RX10 78 (-1000004)) (by decide +kernel)) dX10_share_43) ?_
          refine Z.of (pc' := 62) (fun _ _ _ _ => lv_goto hx hb dX10_share_45 (by decide)) ?_
          exact E (-1000004) _ _ _ _ dX10_share_62 rfl rfl rfl zh6
      · have nc1 : ¬ (((m 28).toNatClampNeg) ≤ k) := zf_nle (a := ((m 28).toNatClampNeg)) (b := k) hk9 (rfl : nI k = nI k) c1 (by omega) (by omega)
        have zh3 := zhb4.trans (if_neg c1)
        refine Z.of (pc' := 16) (fun _ _ _ hl => lv_iload_n hx hb dX10_share_15 rfl (lv_at hl 1 rfl)) ?_
        refine Z.of (pc' := 17) (fun _ _ _ hl => lv_aload_n hx hb dX10_share_16 rfl (lv_at hl 0 rfl)) ?_
        refine z_get C iX10 0 0 k7 rfl rfl (by decide) rfl rfl dX10_share_17 rfl ?_
        refine Z.of (pc' := 22) (fun _ _ _ _ => lv_bipush (v := 29) hx hb dX10_share_20 (by decide)) ?_
        refine Z.of (pc' := 23) (fun _ _ _ hl => lv_iload_n hx hb dX10_share_22 rfl (lv_at hl 2 rfl)) ?_
        refine Z.of (pc' := 24) (fun _ _ _ hl => lv_iadd hx hb dX10_share_23) ?_
        refine Z.topn (y := nI (k + 29)) (zi_c (zi_add (a := 29) (b := k) (rfl : (29 : Int32) = nI 29) (rfl : nI k = nI k)) (by omega)) ?_
        refine z_iald C 1 1 rfl rfl (j := k + 29) (rfl : nI (k + 29) = nI (k + 29)) (by omega) (by decide) dX10_share_24 rfl ?_
        refine Z.of (pc' := 26) (fun _ _ _ hl => lv_iadd hx hb dX10_share_25) ?_
        refine Z.sto (pc' := 27) (lv' := [(1, .int (ones + (m (k + 29)))), (0, .ref (M 0)), (2, .int (nI k))]) (fun _ _ _ hl => lv_istore_n (lv' := [(1, .int (ones + (m (k + 29)))), (0, .ref (M 0)), (2, .int (nI k))]) hx hb dX10_share_26 rfl hl (by decide) rfl) ?_
        refine Z.sto (pc' := 30) (lv' := [(2, .int (nI (k + 1))), (1, .int (ones + (m (k + 29)))), (0, .ref (M 0))]) (fun _ _ _ hl => lv_iinc (lv' := [(2, .int (nI (k + 1))), (1, .int (ones + (m (k + 29)))), (0, .ref (M 0))]) hx hb dX10_share_27 hl (k := 2) rfl ((zi_add (a := k) (b := 1) (rfl : nI k = nI k) (by decide : Int32.ofInt 1 = nI 1)).trans (congrArg nI (by omega))) (by decide) rfl) ?_
        refine Z.of (pc' := 4) (fun _ _ _ _ => lv_goto hx hb dX10_share_30 (by decide)) ?_
        exact Z.sub (ks := [2, 1, 0]) (lv' := [(0, .ref (M 0)), (1, .int (ones + (m (k + 29)))), (2, .int (nI (k + 1)))]) rfl (ih (ones + (m (k + 29))) (k + 1) ⟨by omega, by omega, IN_bit hi4.2.2 (by omega) (hbt k (by omega))⟩ zh3)
  exact Z.sub (ks := [2, 1, 0]) (lv' := [(0, .ref (M 0)), (1, .int 0), (2, .int 0)]) rfl (L4 65 0 0 ⟨by omega, by omega, rfl, by decide⟩ zh0)
