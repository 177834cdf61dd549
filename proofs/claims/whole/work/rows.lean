section
-- ===== PART A: goes FIRST, ahead of the names: the tables' words, and 'selects' of the private methods out of them =====
/-- a private method of a class that the tables say can be made, by its rows of tables_1 -/
def lw_okq (q : MethodName × Nat) : Prop := (q.1.cls ≠ "java/lang/invoke/MethodHandle" ∧ q.1.cls ≠ "java/lang/invoke/VarHandle") ∧ Cond.instantiable q.1.cls q.2 ∈ tables_1 ∧ Cond.privateMethod q.1 ∈ tables_1 ∧ Cond.instanceMethod q.1 ∈ tables_1
theorem lw_p0 : lw_okq (⟨"JudgedBits", "settle", "(I)I"⟩, 4) := ⟨⟨by decide +kernel, by decide +kernel⟩, List.mem_of_getElem? (i := 16) (by decide +kernel), List.mem_of_getElem? (i := 333) (by decide +kernel), List.mem_of_getElem? (i := 334) (by decide +kernel)⟩
theorem lw_p1 : lw_okq (⟨"JudgedBits$Source", "nextRawBit", "()I"⟩, 9) := ⟨⟨by decide +kernel, by decide +kernel⟩, List.mem_of_getElem? (i := 24) (by decide +kernel), List.mem_of_getElem? (i := 359) (by decide +kernel), List.mem_of_getElem? (i := 360) (by decide +kernel)⟩
theorem lw_p2 : lw_okq (⟨"JudgedBits$Source", "nextNoise", "()I"⟩, 9) := ⟨⟨by decide +kernel, by decide +kernel⟩, List.mem_of_getElem? (i := 24) (by decide +kernel), List.mem_of_getElem? (i := 363) (by decide +kernel), List.mem_of_getElem? (i := 364) (by decide +kernel)⟩
theorem lw_p3 : lw_okq (⟨"JudgedBits$Source", "locksOn", "()Z"⟩, 9) := ⟨⟨by decide +kernel, by decide +kernel⟩, List.mem_of_getElem? (i := 24) (by decide +kernel), List.mem_of_getElem? (i := 375) (by decide +kernel), List.mem_of_getElem? (i := 376) (by decide +kernel)⟩
theorem lw_p4 : lw_okq (⟨"JudgedBits$Source", "takeRawBit", "(I)V"⟩, 9) := ⟨⟨by decide +kernel, by decide +kernel⟩, List.mem_of_getElem? (i := 24) (by decide +kernel), List.mem_of_getElem? (i := 390) (by decide +kernel), List.mem_of_getElem? (i := 391) (by decide +kernel)⟩
theorem lw_p5 : lw_okq (⟨"JudgedBits$Health", "countInRun", "(I)V"⟩, 7) := ⟨⟨by decide +kernel, by decide +kernel⟩, List.mem_of_getElem? (i := 73) (by decide +kernel), List.mem_of_getElem? (i := 402) (by decide +kernel), List.mem_of_getElem? (i := 403) (by decide +kernel)⟩
theorem lw_p6 : lw_okq (⟨"JudgedBits$Health", "failsShare", "(II)Z"⟩, 7) := ⟨⟨by decide +kernel, by decide +kernel⟩, List.mem_of_getElem? (i := 73) (by decide +kernel), List.mem_of_getElem? (i := 406) (by decide +kernel), List.mem_of_getElem? (i := 407) (by decide +kernel)⟩
theorem lw_p7 : lw_okq (⟨"JudgedBits$Health", "bringAlarm", "(I)V"⟩, 7) := ⟨⟨by decide +kernel, by decide +kernel⟩, List.mem_of_getElem? (i := 73) (by decide +kernel), List.mem_of_getElem? (i := 410) (by decide +kernel), List.mem_of_getElem? (i := 411) (by decide +kernel)⟩
theorem lw_p8 : lw_okq (⟨"JudgedBits$Health", "countInStartUp", "()V"⟩, 7) := ⟨⟨by decide +kernel, by decide +kernel⟩, List.mem_of_getElem? (i := 73) (by decide +kernel), List.mem_of_getElem? (i := 414) (by decide +kernel), List.mem_of_getElem? (i := 415) (by decide +kernel)⟩
theorem lw_p9 : lw_okq (⟨"JudgedBits$Source", "pairUp", "(I)V"⟩, 9) := ⟨⟨by decide +kernel, by decide +kernel⟩, List.mem_of_getElem? (i := 24) (by decide +kernel), List.mem_of_getElem? (i := 421) (by decide +kernel), List.mem_of_getElem? (i := 422) (by decide +kernel)⟩
theorem lw_p10 : lw_okq (⟨"JudgedBits", "bitsWithPeriod", "(I)I"⟩, 4) := ⟨⟨by decide +kernel, by decide +kernel⟩, List.mem_of_getElem? (i := 16) (by decide +kernel), List.mem_of_getElem? (i := 527) (by decide +kernel), List.mem_of_getElem? (i := 528) (by decide +kernel)⟩
theorem lw_p11 : lw_okq (⟨"JudgedBits$Orders", "isRead", "()Z"⟩, 10) := ⟨⟨by decide +kernel, by decide +kernel⟩, List.mem_of_getElem? (i := 222) (by decide +kernel), List.mem_of_getElem? (i := 595) (by decide +kernel), List.mem_of_getElem? (i := 596) (by decide +kernel)⟩
theorem lw_p12 : lw_okq (⟨"JudgedBits$Orders", "isSkipped", "(C)Z"⟩, 10) := ⟨⟨by decide +kernel, by decide +kernel⟩, List.mem_of_getElem? (i := 222) (by decide +kernel), List.mem_of_getElem? (i := 606) (by decide +kernel), List.mem_of_getElem? (i := 607) (by decide +kernel)⟩
theorem lw_p13 : lw_okq (⟨"JudgedBits$Orders", "isNumberRead", "()Z"⟩, 10) := ⟨⟨by decide +kernel, by decide +kernel⟩, List.mem_of_getElem? (i := 222) (by decide +kernel), List.mem_of_getElem? (i := 610) (by decide +kernel), List.mem_of_getElem? (i := 611) (by decide +kernel)⟩
theorem lw_p14 : lw_okq (⟨"JudgedBits$Orders", "areRingNumbersRead", "()Z"⟩, 10) := ⟨⟨by decide +kernel, by decide +kernel⟩, List.mem_of_getElem? (i := 222) (by decide +kernel), List.mem_of_getElem? (i := 615) (by decide +kernel), List.mem_of_getElem? (i := 616) (by decide +kernel)⟩
theorem lw_p15 : lw_okq (⟨"JudgedBits$Orders", "doOn", "(LJudgedBits$Source;)I"⟩, 10) := ⟨⟨by decide +kernel, by decide +kernel⟩, List.mem_of_getElem? (i := 222) (by decide +kernel), List.mem_of_getElem? (i := 619) (by decide +kernel), List.mem_of_getElem? (i := 620) (by decide +kernel)⟩
def lw_privs_1 : List (MethodName × Nat) := [(⟨"JudgedBits", "settle", "(I)I"⟩, 4), (⟨"JudgedBits$Source", "nextRawBit", "()I"⟩, 9), (⟨"JudgedBits$Source", "nextNoise", "()I"⟩, 9), (⟨"JudgedBits$Source", "locksOn", "()Z"⟩, 9), (⟨"JudgedBits$Source", "takeRawBit", "(I)V"⟩, 9), (⟨"JudgedBits$Health", "countInRun", "(I)V"⟩, 7), (⟨"JudgedBits$Health", "failsShare", "(II)Z"⟩, 7), (⟨"JudgedBits$Health", "bringAlarm", "(I)V"⟩, 7), (⟨"JudgedBits$Health", "countInStartUp", "()V"⟩, 7), (⟨"JudgedBits$Source", "pairUp", "(I)V"⟩, 9), (⟨"JudgedBits", "bitsWithPeriod", "(I)I"⟩, 4), (⟨"JudgedBits$Orders", "isRead", "()Z"⟩, 10), (⟨"JudgedBits$Orders", "isSkipped", "(C)Z"⟩, 10), (⟨"JudgedBits$Orders", "isNumberRead", "()Z"⟩, 10), (⟨"JudgedBits$Orders", "areRingNumbersRead", "()Z"⟩, 10), (⟨"JudgedBits$Orders", "doOn", "(LJudgedBits$Source;)I"⟩, 10)]
theorem lw_r1 : ∀ q ∈ lw_privs_1, lw_okq q := List.forall_mem_cons.mpr ⟨lw_p0, List.forall_mem_cons.mpr ⟨lw_p1, List.forall_mem_cons.mpr ⟨lw_p2, List.forall_mem_cons.mpr ⟨lw_p3, List.forall_mem_cons.mpr ⟨lw_p4, List.forall_mem_cons.mpr ⟨lw_p5, List.forall_mem_cons.mpr ⟨lw_p6, List.forall_mem_cons.mpr ⟨lw_p7, List.forall_mem_cons.mpr ⟨lw_p8, List.forall_mem_cons.mpr ⟨lw_p9, List.forall_mem_cons.mpr ⟨lw_p10, List.forall_mem_cons.mpr ⟨lw_p11, List.forall_mem_cons.mpr ⟨lw_p12, List.forall_mem_cons.mpr ⟨lw_p13, List.forall_mem_cons.mpr ⟨lw_p14, List.forall_mem_cons.mpr ⟨lw_p15, fun _ h => absurd h List.not_mem_nil⟩⟩⟩⟩⟩⟩⟩⟩⟩⟩⟩⟩⟩⟩⟩⟩
theorem lw_p16 : lw_okq (⟨"JudgedBitsModel", "copies", "(II)V"⟩, 9) := ⟨⟨by decide +kernel, by decide +kernel⟩, List.mem_of_getElem? (i := 633) (by decide +kernel), List.mem_of_getElem? (i := 672) (by decide +kernel), List.mem_of_getElem? (i := 673) (by decide +kernel)⟩
theorem lw_p17 : lw_okq (⟨"JudgedBitsModel", "sets", "(IIII)I"⟩, 9) := ⟨⟨by decide +kernel, by decide +kernel⟩, List.mem_of_getElem? (i := 633) (by decide +kernel), List.mem_of_getElem? (i := 676) (by decide +kernel), List.mem_of_getElem? (i := 677) (by decide +kernel)⟩
theorem lw_p18 : lw_okq (⟨"JudgedBitsModel", "records", "()V"⟩, 9) := ⟨⟨by decide +kernel, by decide +kernel⟩, List.mem_of_getElem? (i := 633) (by decide +kernel), List.mem_of_getElem? (i := 684) (by decide +kernel), List.mem_of_getElem? (i := 685) (by decide +kernel)⟩
theorem lw_p19 : lw_okq (⟨"JudgedBitsModel", "makes", "(II)I"⟩, 9) := ⟨⟨by decide +kernel, by decide +kernel⟩, List.mem_of_getElem? (i := 633) (by decide +kernel), List.mem_of_getElem? (i := 697) (by decide +kernel), List.mem_of_getElem? (i := 698) (by decide +kernel)⟩
theorem lw_p20 : lw_okq (⟨"JudgedBitsModel", "samples", "(I)V"⟩, 9) := ⟨⟨by decide +kernel, by decide +kernel⟩, List.mem_of_getElem? (i := 633) (by decide +kernel), List.mem_of_getElem? (i := 701) (by decide +kernel), List.mem_of_getElem? (i := 702) (by decide +kernel)⟩
theorem lw_p21 : lw_okq (⟨"JudgedBitsModel", "runs", "(II)V"⟩, 9) := ⟨⟨by decide +kernel, by decide +kernel⟩, List.mem_of_getElem? (i := 633) (by decide +kernel), List.mem_of_getElem? (i := 705) (by decide +kernel), List.mem_of_getElem? (i := 706) (by decide +kernel)⟩
theorem lw_p22 : lw_okq (⟨"JudgedBitsModel", "asks", "(I)I"⟩, 9) := ⟨⟨by decide +kernel, by decide +kernel⟩, List.mem_of_getElem? (i := 633) (by decide +kernel), List.mem_of_getElem? (i := 709) (by decide +kernel), List.mem_of_getElem? (i := 710) (by decide +kernel)⟩
theorem lw_p23 : lw_okq (⟨"JudgedBitsModel", "locks", "(I)Z"⟩, 9) := ⟨⟨by decide +kernel, by decide +kernel⟩, List.mem_of_getElem? (i := 633) (by decide +kernel), List.mem_of_getElem? (i := 714) (by decide +kernel), List.mem_of_getElem? (i := 715) (by decide +kernel)⟩
theorem lw_p24 : lw_okq (⟨"JudgedBitsModel", "isHigh", "(II)Z"⟩, 9) := ⟨⟨by decide +kernel, by decide +kernel⟩, List.mem_of_getElem? (i := 633) (by decide +kernel), List.mem_of_getElem? (i := 718) (by decide +kernel), List.mem_of_getElem? (i := 719) (by decide +kernel)⟩
theorem lw_p25 : lw_okq (⟨"JudgedBitsModel", "keeps", "(II)V"⟩, 9) := ⟨⟨by decide +kernel, by decide +kernel⟩, List.mem_of_getElem? (i := 633) (by decide +kernel), List.mem_of_getElem? (i := 722) (by decide +kernel), List.mem_of_getElem? (i := 723) (by decide +kernel)⟩
theorem lw_p26 : lw_okq (⟨"JudgedBitsModel", "tests", "(II)I"⟩, 9) := ⟨⟨by decide +kernel, by decide +kernel⟩, List.mem_of_getElem? (i := 633) (by decide +kernel), List.mem_of_getElem? (i := 726) (by decide +kernel), List.mem_of_getElem? (i := 727) (by decide +kernel)⟩
theorem lw_p27 : lw_okq (⟨"JudgedBitsModel", "takesOne", "(II)V"⟩, 9) := ⟨⟨by decide +kernel, by decide +kernel⟩, List.mem_of_getElem? (i := 633) (by decide +kernel), List.mem_of_getElem? (i := 730) (by decide +kernel), List.mem_of_getElem? (i := 731) (by decide +kernel)⟩
theorem lw_p28 : lw_okq (⟨"JudgedBitsModel", "draws", "(II)I"⟩, 9) := ⟨⟨by decide +kernel, by decide +kernel⟩, List.mem_of_getElem? (i := 633) (by decide +kernel), List.mem_of_getElem? (i := 738) (by decide +kernel), List.mem_of_getElem? (i := 739) (by decide +kernel)⟩
theorem lw_p29 : lw_okq (⟨"JudgedBitsModel", "starts", "(I)I"⟩, 9) := ⟨⟨by decide +kernel, by decide +kernel⟩, List.mem_of_getElem? (i := 633) (by decide +kernel), List.mem_of_getElem? (i := 747) (by decide +kernel), List.mem_of_getElem? (i := 748) (by decide +kernel)⟩
theorem lw_p30 : lw_okq (⟨"JudgedBitsModel", "plays", "()Z"⟩, 9) := ⟨⟨by decide +kernel, by decide +kernel⟩, List.mem_of_getElem? (i := 633) (by decide +kernel), List.mem_of_getElem? (i := 819) (by decide +kernel), List.mem_of_getElem? (i := 820) (by decide +kernel)⟩
theorem lw_p31 : lw_okq (⟨"JudgedBitsModel", "does", "()Z"⟩, 9) := ⟨⟨by decide +kernel, by decide +kernel⟩, List.mem_of_getElem? (i := 633) (by decide +kernel), List.mem_of_getElem? (i := 823) (by decide +kernel), List.mem_of_getElem? (i := 824) (by decide +kernel)⟩
def lw_privs_2 : List (MethodName × Nat) := [(⟨"JudgedBitsModel", "copies", "(II)V"⟩, 9), (⟨"JudgedBitsModel", "sets", "(IIII)I"⟩, 9), (⟨"JudgedBitsModel", "records", "()V"⟩, 9), (⟨"JudgedBitsModel", "makes", "(II)I"⟩, 9), (⟨"JudgedBitsModel", "samples", "(I)V"⟩, 9), (⟨"JudgedBitsModel", "runs", "(II)V"⟩, 9), (⟨"JudgedBitsModel", "asks", "(I)I"⟩, 9), (⟨"JudgedBitsModel", "locks", "(I)Z"⟩, 9), (⟨"JudgedBitsModel", "isHigh", "(II)Z"⟩, 9), (⟨"JudgedBitsModel", "keeps", "(II)V"⟩, 9), (⟨"JudgedBitsModel", "tests", "(II)I"⟩, 9), (⟨"JudgedBitsModel", "takesOne", "(II)V"⟩, 9), (⟨"JudgedBitsModel", "draws", "(II)I"⟩, 9), (⟨"JudgedBitsModel", "starts", "(I)I"⟩, 9), (⟨"JudgedBitsModel", "plays", "()Z"⟩, 9), (⟨"JudgedBitsModel", "does", "()Z"⟩, 9)]
theorem lw_r2 : ∀ q ∈ lw_privs_2, lw_okq q := List.forall_mem_cons.mpr ⟨lw_p16, List.forall_mem_cons.mpr ⟨lw_p17, List.forall_mem_cons.mpr ⟨lw_p18, List.forall_mem_cons.mpr ⟨lw_p19, List.forall_mem_cons.mpr ⟨lw_p20, List.forall_mem_cons.mpr ⟨lw_p21, List.forall_mem_cons.mpr ⟨lw_p22, List.forall_mem_cons.mpr ⟨lw_p23, List.forall_mem_cons.mpr ⟨lw_p24, List.forall_mem_cons.mpr ⟨lw_p25, List.forall_mem_cons.mpr ⟨lw_p26, List.forall_mem_cons.mpr ⟨lw_p27, List.forall_mem_cons.mpr ⟨lw_p28, List.forall_mem_cons.mpr ⟨lw_p29, List.forall_mem_cons.mpr ⟨lw_p30, List.forall_mem_cons.mpr ⟨lw_p31, fun _ h => absurd h List.not_mem_nil⟩⟩⟩⟩⟩⟩⟩⟩⟩⟩⟩⟩⟩⟩⟩⟩
theorem lw_p32 : lw_okq (⟨"JudgedBitsModel", "number", "()I"⟩, 9) := ⟨⟨by decide +kernel, by decide +kernel⟩, List.mem_of_getElem? (i := 633) (by decide +kernel), List.mem_of_getElem? (i := 827) (by decide +kernel), List.mem_of_getElem? (i := 828) (by decide +kernel)⟩
theorem lw_p33 : lw_okq (⟨"JudgedBitsModel", "isNext", "(I)Z"⟩, 9) := ⟨⟨by decide +kernel, by decide +kernel⟩, List.mem_of_getElem? (i := 633) (by decide +kernel), List.mem_of_getElem? (i := 831) (by decide +kernel), List.mem_of_getElem? (i := 832) (by decide +kernel)⟩
def lw_privs_3 : List (MethodName × Nat) := [(⟨"JudgedBitsModel", "number", "()I"⟩, 9), (⟨"JudgedBitsModel", "isNext", "(I)Z"⟩, 9)]
theorem lw_r3 : ∀ q ∈ lw_privs_3, lw_okq q := List.forall_mem_cons.mpr ⟨lw_p32, List.forall_mem_cons.mpr ⟨lw_p33, fun _ h => absurd h List.not_mem_nil⟩⟩
def lw_privs : List (MethodName × Nat) := lw_privs_1 ++ (lw_privs_2 ++ (lw_privs_3))
def lw_tbl : List Cond := k2_sels lw_privs ++ tables_1
theorem lw_privs_ok : ∀ q ∈ lw_privs, lw_okq q := by
  show ∀ q ∈ lw_privs_1 ++ (lw_privs_2 ++ (lw_privs_3)), lw_okq q
  exact List.forall_mem_append.mpr ⟨lw_r1, List.forall_mem_append.mpr ⟨lw_r2, lw_r3⟩⟩
/-- the streams that the claim lets the run draw from -/
abbrev lw_cs : List Choice := [Jvm.Choice.named "NaN.bits"]
theorem lw_bits : nanBits ∈ lw_cs := by first | decide | exact List.mem_cons_self | simp [lw_cs, nanBits]
end
section
/-! ===== BEGIN words of one list among another's, by their places ===== -/
theorem goodIn_r {big : List Cond} (ws : List Cond) (ps : List Nat) (hp : ws = ps.filterMap (fun i => big[i]?)) (h : ws.all goodWord = true) : GoodIn big ws := by
  intro w hw
  have h1 := List.all_eq_true.mp h w hw
  rw [hp] at hw
  obtain ⟨i, -, hi⟩ := List.mem_filterMap.mp hw
  have hm : w ∈ big := by first | exact List.mem_of_getElem? hi | exact List.getElem?_mem hi
  exact ⟨hm, good_of_word h1⟩
theorem goodIn_app {big a b : List Cond} (ha : GoodIn big a) (hb : GoodIn big b) : GoodIn big (a ++ b) := fun w h => (List.mem_append.mp h).elim (ha w) (hb w)
theorem goodIn_ca {big a b : List Cond} {c : Cond} (ha : GoodIn big (c :: a)) (hb : GoodIn big b) : GoodIn big (c :: (a ++ b)) := fun w h => (List.mem_cons.mp h).elim (fun e => ha w (List.mem_cons.mpr (Or.inl e))) (fun h => (List.mem_append.mp h).elim (fun h => ha w (List.mem_cons.mpr (Or.inr h))) (hb w))
theorem goodIn_sub {big ws : List Cond} (hm : ∀ w ∈ ws, w ∈ big) (h : ws.all goodWord = true) : GoodIn big ws := fun w hw => ⟨hm w hw, good_of_word (List.all_eq_true.mp h w hw)⟩
/-! ===== END ===== -/

/-! ===== BEGIN printed: names, fields, word lists, decode rows ===== -/
def RX0 : String := "JudgedBits$BitRow"
def TX0 : u_T := fun k => match k with
  | 0 => ("JudgedBits$BitRow", "bits", "J", false)
  | _ => ("JudgedBits$BitRow", "size", "I", false)
def tyX0 : Nat → FieldType := fun k => match k with
  | 0 => .long
  | _ => .int
abbrev wsX00 : List Cond := u_ws RX0 TX0 2
theorem nmX0 : ∀ a, a < 2 → ∀ b, b < 2 → a ≠ b → (TX0 a).2.1 ≠ (TX0 b).2.1 := by decide +kernel
theorem tyX0_ok : ∀ k, k < 2 → parseFieldDescriptor (TX0 k).2.2.1 = some (tyX0 k) := by decide +kernel
abbrev cX0_init : ByteArray := prog_2_method_1_code
def yX0_init : MethodName := ⟨RX0, "<init>", "()V"⟩
abbrev cX0_copyFrom : ByteArray := prog_2_method_2_code
def yX0_copyFrom : MethodName := ⟨RX0, "copyFrom", "(LJudgedBits$BitRow;)V"⟩
abbrev cX0_clear : ByteArray := prog_2_method_3_code
def yX0_clear : MethodName := ⟨RX0, "clear", "()V"⟩
abbrev cX0_isFull : ByteArray := prog_2_method_4_code
def yX0_isFull : MethodName := ⟨RX0, "isFull", "()Z"⟩
abbrev cX0_append : ByteArray := prog_2_method_5_code
def yX0_append : MethodName := ⟨RX0, "append", "(I)V"⟩
abbrev cX0_fromLatest : ByteArray := prog_2_method_6_code
def yX0_fromLatest : MethodName := ⟨RX0, "fromLatest", "(I)I"⟩
abbrev cX0_fromEarliest : ByteArray := prog_2_method_7_code
def yX0_fromEarliest : MethodName := ⟨RX0, "fromEarliest", "(I)I"⟩
abbrev cX0_takeEarliest : ByteArray := prog_2_method_8_code
def yX0_takeEarliest : MethodName := ⟨RX0, "takeEarliest", "(I)I"⟩
abbrev cX0_ones : ByteArray := prog_2_method_9_code
def yX0_ones : MethodName := ⟨RX0, "ones", "()I"⟩
def RX1 : String := "JudgedBits$Health"
def TX1 : u_T := fun k => match k with
  | 0 => ("JudgedBits$Health", "mode", "I", false)
  | 1 => ("JudgedBits$Health", "failedTest", "I", false)
  | 2 => ("JudgedBits$Health", "startUpBits", "I", false)
  | 3 => ("JudgedBits$Health", "run", "I", false)
  | 4 => ("JudgedBits$Health", "runBit", "I", false)
  | 5 => ("JudgedBits$Health", "windowBits", "I", false)
  | _ => ("JudgedBits$Health", "windowOnes", "I", false)
def tyX1 : Nat → FieldType := fun k => match k with
  | 0 => .int
  | 1 => .int
  | 2 => .int
  | 3 => .int
  | 4 => .int
  | 5 => .int
  | _ => .int
abbrev wsX10 : List Cond := u_ws RX1 TX1 7
theorem nmX1 : ∀ a, a < 7 → ∀ b, b < 7 → a ≠ b → (TX1 a).2.1 ≠ (TX1 b).2.1 := by decide +kernel
theorem tyX1_ok : ∀ k, k < 7 → parseFieldDescriptor (TX1 k).2.2.1 = some (tyX1 k) := by decide +kernel
abbrev cX1_init : ByteArray := prog_3_method_1_code
def yX1_init : MethodName := ⟨RX1, "<init>", "()V"⟩
abbrev cX1_copyFrom : ByteArray := prog_3_method_2_code
def yX1_copyFrom : MethodName := ⟨RX1, "copyFrom", "(LJudgedBits$Health;)V"⟩
abbrev cX1_startAnew : ByteArray := prog_3_method_3_code
def yX1_startAnew : MethodName := ⟨RX1, "startAnew", "()V"⟩
abbrev cX1_judge : ByteArray := prog_3_method_4_code
def yX1_judge : MethodName := ⟨RX1, "judge", "(ILJudgedBits$Settings;)V"⟩
abbrev cX1_countInRun : ByteArray := prog_3_method_5_code
def yX1_countInRun : MethodName := ⟨RX1, "countInRun", "(I)V"⟩
abbrev cX1_failsShare : ByteArray := prog_3_method_6_code
def yX1_failsShare : MethodName := ⟨RX1, "failsShare", "(II)Z"⟩
abbrev cX1_bringAlarm : ByteArray := prog_3_method_7_code
def yX1_bringAlarm : MethodName := ⟨RX1, "bringAlarm", "(I)V"⟩
abbrev cX1_countInStartUp : ByteArray := prog_3_method_8_code
def yX1_countInStartUp : MethodName := ⟨RX1, "countInStartUp", "()V"⟩
def RX2 : String := "JudgedBits$History"
def TX2 : u_T := fun k => match k with
  | 0 => ("JudgedBits$History", "latest", "LJudgedBits$Source;", true)
  | 1 => ("JudgedBits$History", "second", "LJudgedBits$Source;", true)
  | 2 => ("JudgedBits$History", "third", "LJudgedBits$Source;", true)
  | 3 => ("JudgedBits$History", "fourth", "LJudgedBits$Source;", true)
  | _ => ("JudgedBits$History", "many", "I", false)
def tyX2 : Nat → FieldType := fun k => match k with
  | 0 => .object "JudgedBits$Source"
  | 1 => .object "JudgedBits$Source"
  | 2 => .object "JudgedBits$Source"
  | 3 => .object "JudgedBits$Source"
  | _ => .int
abbrev wsX20 : List Cond := u_ws RX2 TX2 5
theorem nmX2 : ∀ a, a < 5 → ∀ b, b < 5 → a ≠ b → (TX2 a).2.1 ≠ (TX2 b).2.1 := by decide +kernel
theorem tyX2_ok : ∀ k, k < 5 → parseFieldDescriptor (TX2 k).2.2.1 = some (tyX2 k) := by decide +kernel
abbrev cX2_init : ByteArray := prog_4_method_1_code
def yX2_init : MethodName := ⟨RX2, "<init>", "()V"⟩
abbrev cX2_keep : ByteArray := prog_4_method_2_code
def yX2_keep : MethodName := ⟨RX2, "keep", "(LJudgedBits$Source;)V"⟩
abbrev cX2_bringBack : ByteArray := prog_4_method_3_code
def yX2_bringBack : MethodName := ⟨RX2, "bringBack", "(LJudgedBits$Source;)I"⟩
def RX3 : String := "JudgedBits$Orders"
def TX3 : u_T := fun k => match k with
  | 0 => ("JudgedBits$Orders", "text", "LJudgedBits$Text;", true)
  | 1 => ("JudgedBits$Orders", "start", "I", false)
  | 2 => ("JudgedBits$Orders", "place", "I", false)
  | 3 => ("JudgedBits$Orders", "done", "I", false)
  | 4 => ("JudgedBits$Orders", "reason", "I", false)
  | 5 => ("JudgedBits$Orders", "cause", "I", false)
  | 6 => ("JudgedBits$Orders", "kind", "I", false)
  | 7 => ("JudgedBits$Orders", "number", "I", false)
  | 8 => ("JudgedBits$Orders", "first", "I", false)
  | _ => ("JudgedBits$Orders", "second", "I", false)
def tyX3 : Nat → FieldType := fun k => match k with
  | 0 => .object "JudgedBits$Text"
  | 1 => .int
  | 2 => .int
  | 3 => .int
  | 4 => .int
  | 5 => .int
  | 6 => .int
  | 7 => .int
  | 8 => .int
  | _ => .int
abbrev wsX30 : List Cond := u_ws RX3 TX3 10
theorem nmX3 : ∀ a, a < 10 → ∀ b, b < 10 → a ≠ b → (TX3 a).2.1 ≠ (TX3 b).2.1 := by decide +kernel
theorem tyX3_ok : ∀ k, k < 10 → parseFieldDescriptor (TX3 k).2.2.1 = some (tyX3 k) := by decide +kernel
abbrev cX3_init : ByteArray := prog_5_method_1_code
def yX3_init : MethodName := ⟨RX3, "<init>", "()V"⟩
abbrev cX3_areDoneOn : ByteArray := prog_5_method_2_code
def yX3_areDoneOn : MethodName := ⟨RX3, "areDoneOn", "(LJudgedBits$Source;)Z"⟩
abbrev cX3_isRead : ByteArray := prog_5_method_3_code
def yX3_isRead : MethodName := ⟨RX3, "isRead", "()Z"⟩
abbrev cX3_areRingNumbersRead : ByteArray := prog_5_method_4_code
def yX3_areRingNumbersRead : MethodName := ⟨RX3, "areRingNumbersRead", "()Z"⟩
abbrev cX3_isNumberRead : ByteArray := prog_5_method_5_code
def yX3_isNumberRead : MethodName := ⟨RX3, "isNumberRead", "()Z"⟩
abbrev cX3_isSkipped : ByteArray := prog_5_method_6_code
def yX3_isSkipped : MethodName := ⟨RX3, "isSkipped", "(C)Z"⟩
abbrev cX3_doOn : ByteArray := prog_5_method_7_code
def yX3_doOn : MethodName := ⟨RX3, "doOn", "(LJudgedBits$Source;)I"⟩
def RX4 : String := "JudgedBits$Ring"
def TX4 : u_T := fun k => match k with
  | 0 => ("JudgedBits$Ring", "period", "I", false)
  | 1 => ("JudgedBits$Ring", "jitter", "I", false)
  | _ => ("JudgedBits$Ring", "phase", "I", false)
def tyX4 : Nat → FieldType := fun k => match k with
  | 0 => .int
  | 1 => .int
  | _ => .int
abbrev wsX40 : List Cond := u_ws RX4 TX4 3
theorem nmX4 : ∀ a, a < 3 → ∀ b, b < 3 → a ≠ b → (TX4 a).2.1 ≠ (TX4 b).2.1 := by decide +kernel
theorem tyX4_ok : ∀ k, k < 3 → parseFieldDescriptor (TX4 k).2.2.1 = some (tyX4 k) := by decide +kernel
abbrev cX4_init : ByteArray := prog_6_method_1_code
def yX4_init : MethodName := ⟨RX4, "<init>", "(I)V"⟩
abbrev cX4_copyFrom : ByteArray := prog_6_method_2_code
def yX4_copyFrom : MethodName := ⟨RX4, "copyFrom", "(LJudgedBits$Ring;)V"⟩
abbrev cX4_isHigh : ByteArray := prog_6_method_3_code
def yX4_isHigh : MethodName := ⟨RX4, "isHigh", "()Z"⟩
abbrev cX4_advance : ByteArray := prog_6_method_4_code
def yX4_advance : MethodName := ⟨RX4, "advance", "(II)V"⟩
abbrev cX4_lockOn : ByteArray := prog_6_method_5_code
def yX4_lockOn : MethodName := ⟨RX4, "lockOn", "(LJudgedBits$Ring;)V"⟩
abbrev cX4_tell : ByteArray := prog_6_method_6_code
def yX4_tell : MethodName := ⟨RX4, "tell", "(I)I"⟩
def RX5 : String := "JudgedBits$Settings"
def TX5 : u_T := fun k => match k with
  | 0 => ("JudgedBits$Settings", "step", "I", false)
  | 1 => ("JudgedBits$Settings", "lock", "I", false)
  | 2 => ("JudgedBits$Settings", "longestRun", "I", false)
  | _ => ("JudgedBits$Settings", "leastOnes", "I", false)
def tyX5 : Nat → FieldType := fun k => match k with
  | 0 => .int
  | 1 => .int
  | 2 => .int
  | _ => .int
abbrev wsX50 : List Cond := u_ws RX5 TX5 4
theorem nmX5 : ∀ a, a < 4 → ∀ b, b < 4 → a ≠ b → (TX5 a).2.1 ≠ (TX5 b).2.1 := by decide +kernel
theorem tyX5_ok : ∀ k, k < 4 → parseFieldDescriptor (TX5 k).2.2.1 = some (tyX5 k) := by decide +kernel
abbrev cX5_init : ByteArray := prog_7_method_1_code
def yX5_init : MethodName := ⟨RX5, "<init>", "()V"⟩
abbrev cX5_copyFrom : ByteArray := prog_7_method_2_code
def yX5_copyFrom : MethodName := ⟨RX5, "copyFrom", "(LJudgedBits$Settings;)V"⟩
abbrev cX5_tell : ByteArray := prog_7_method_3_code
def yX5_tell : MethodName := ⟨RX5, "tell", "(I)I"⟩
abbrev cX5_change : ByteArray := prog_7_method_4_code
def yX5_change : MethodName := ⟨RX5, "change", "(II)I"⟩
abbrev cX5_isAllowed : ByteArray := prog_7_method_5_code
def yX5_isAllowed : MethodName := ⟨RX5, "isAllowed", "(II)Z"⟩
def RX6 : String := "JudgedBits$Source"
def TX6 : u_T := fun k => match k with
  | 0 => ("JudgedBits$Source", "ringZero", "LJudgedBits$Ring;", true)
  | 1 => ("JudgedBits$Source", "ringOne", "LJudgedBits$Ring;", true)
  | 2 => ("JudgedBits$Source", "settings", "LJudgedBits$Settings;", true)
  | 3 => ("JudgedBits$Source", "health", "LJudgedBits$Health;", true)
  | 4 => ("JudgedBits$Source", "rawBits", "LJudgedBits$BitRow;", true)
  | 5 => ("JudgedBits$Source", "store", "LJudgedBits$BitRow;", true)
  | 6 => ("JudgedBits$Source", "tally", "LJudgedBits$Tally;", true)
  | 7 => ("JudgedBits$Source", "noiseNumber", "I", false)
  | _ => ("JudgedBits$Source", "waiting", "I", false)
def tyX6 : Nat → FieldType := fun k => match k with
  | 0 => .object "JudgedBits$Ring"
  | 1 => .object "JudgedBits$Ring"
  | 2 => .object "JudgedBits$Settings"
  | 3 => .object "JudgedBits$Health"
  | 4 => .object "JudgedBits$BitRow"
  | 5 => .object "JudgedBits$BitRow"
  | 6 => .object "JudgedBits$Tally"
  | 7 => .int
  | _ => .int
abbrev wsX60 : List Cond := u_ws RX6 TX6 9
theorem nmX6 : ∀ a, a < 9 → ∀ b, b < 9 → a ≠ b → (TX6 a).2.1 ≠ (TX6 b).2.1 := by decide +kernel
theorem tyX6_ok : ∀ k, k < 9 → parseFieldDescriptor (TX6 k).2.2.1 = some (tyX6 k) := by decide +kernel
abbrev cX6_init : ByteArray := prog_8_method_1_code
def yX6_init : MethodName := ⟨RX6, "<init>", "()V"⟩
abbrev cX6_copyFrom : ByteArray := prog_8_method_2_code
def yX6_copyFrom : MethodName := ⟨RX6, "copyFrom", "(LJudgedBits$Source;)V"⟩
abbrev cX6_ringAt : ByteArray := prog_8_method_3_code
def yX6_ringAt : MethodName := ⟨RX6, "ringAt", "(I)LJudgedBits$Ring;"⟩
abbrev cX6_changeRing : ByteArray := prog_8_method_4_code
def yX6_changeRing : MethodName := ⟨RX6, "changeRing", "(III)I"⟩
abbrev cX6_changeNoise : ByteArray := prog_8_method_5_code
def yX6_changeNoise : MethodName := ⟨RX6, "changeNoise", "(I)I"⟩
abbrev cX6_makeSamples : ByteArray := prog_8_method_6_code
def yX6_makeSamples : MethodName := ⟨RX6, "makeSamples", "(I)I"⟩
abbrev cX6_drawBits : ByteArray := prog_8_method_7_code
def yX6_drawBits : MethodName := ⟨RX6, "drawBits", "(I)I"⟩
abbrev cX6_startAnew : ByteArray := prog_8_method_8_code
def yX6_startAnew : MethodName := ⟨RX6, "startAnew", "()I"⟩
abbrev cX6_nextRawBit : ByteArray := prog_8_method_9_code
def yX6_nextRawBit : MethodName := ⟨RX6, "nextRawBit", "()I"⟩
abbrev cX6_locksOn : ByteArray := prog_8_method_10_code
def yX6_locksOn : MethodName := ⟨RX6, "locksOn", "()Z"⟩
abbrev cX6_nextNoise : ByteArray := prog_8_method_11_code
def yX6_nextNoise : MethodName := ⟨RX6, "nextNoise", "()I"⟩
abbrev cX6_takeRawBit : ByteArray := prog_8_method_12_code
def yX6_takeRawBit : MethodName := ⟨RX6, "takeRawBit", "(I)V"⟩
abbrev cX6_pairUp : ByteArray := prog_8_method_13_code
def yX6_pairUp : MethodName := ⟨RX6, "pairUp", "(I)V"⟩
abbrev cX6_tell : ByteArray := prog_8_method_14_code
def yX6_tell : MethodName := ⟨RX6, "tell", "(I)I"⟩
def RX7 : String := "JudgedBits$Tally"
def TX7 : u_T := fun k => match k with
  | 0 => ("JudgedBits$Tally", "samples", "I", false)
  | 1 => ("JudgedBits$Tally", "ones", "I", false)
  | 2 => ("JudgedBits$Tally", "leftOut", "I", false)
  | 3 => ("JudgedBits$Tally", "stored", "I", false)
  | 4 => ("JudgedBits$Tally", "lost", "I", false)
  | 5 => ("JudgedBits$Tally", "drawn", "I", false)
  | 6 => ("JudgedBits$Tally", "alarms", "I", false)
  | _ => ("JudgedBits$Tally", "longestRun", "I", false)
def tyX7 : Nat → FieldType := fun k => match k with
  | 0 => .int
  | 1 => .int
  | 2 => .int
  | 3 => .int
  | 4 => .int
  | 5 => .int
  | 6 => .int
  | _ => .int
abbrev wsX70 : List Cond := u_ws RX7 TX7 8
theorem nmX7 : ∀ a, a < 8 → ∀ b, b < 8 → a ≠ b → (TX7 a).2.1 ≠ (TX7 b).2.1 := by decide +kernel
theorem tyX7_ok : ∀ k, k < 8 → parseFieldDescriptor (TX7 k).2.2.1 = some (tyX7 k) := by decide +kernel
abbrev cX7_init : ByteArray := prog_9_method_1_code
def yX7_init : MethodName := ⟨RX7, "<init>", "()V"⟩
abbrev cX7_copyFrom : ByteArray := prog_9_method_2_code
def yX7_copyFrom : MethodName := ⟨RX7, "copyFrom", "(LJudgedBits$Tally;)V"⟩
abbrev cX7_tell : ByteArray := prog_9_method_3_code
def yX7_tell : MethodName := ⟨RX7, "tell", "(I)I"⟩
def RX8 : String := "JudgedBits$Text"
def TX8 : u_T := fun k => match k with
  | 0 => ("JudgedBits$Text", "characters", "[C", true)
  | _ => ("JudgedBits$Text", "length", "I", false)
def tyX8 : Nat → FieldType := fun k => match k with
  | 0 => .array .char
  | _ => .int
abbrev wsX80 : List Cond := u_ws RX8 TX8 2
theorem nmX8 : ∀ a, a < 2 → ∀ b, b < 2 → a ≠ b → (TX8 a).2.1 ≠ (TX8 b).2.1 := by decide +kernel
theorem tyX8_ok : ∀ k, k < 2 → parseFieldDescriptor (TX8 k).2.2.1 = some (tyX8 k) := by decide +kernel
abbrev cX8_init : ByteArray := prog_10_method_1_code
def yX8_init : MethodName := ⟨RX8, "<init>", "()V"⟩
abbrev cX8_append : ByteArray := prog_10_method_2_code
def yX8_append : MethodName := ⟨RX8, "append", "(I)I"⟩
abbrev cX8_clear : ByteArray := prog_10_method_3_code
def yX8_clear : MethodName := ⟨RX8, "clear", "()I"⟩
abbrev cX8_at : ByteArray := prog_10_method_4_code
def yX8_at : MethodName := ⟨RX8, "at", "(I)C"⟩
def RX9 : String := "JudgedBits"
def TX9 : u_T := fun k => match k with
  | 0 => ("JudgedBits", "now", "LJudgedBits$Source;", true)
  | 1 => ("JudgedBits", "trial", "LJudgedBits$Source;", true)
  | 2 => ("JudgedBits", "history", "LJudgedBits$History;", true)
  | _ => ("JudgedBits", "orders", "LJudgedBits$Orders;", true)
def tyX9 : Nat → FieldType := fun k => match k with
  | 0 => .object "JudgedBits$Source"
  | 1 => .object "JudgedBits$Source"
  | 2 => .object "JudgedBits$History"
  | _ => .object "JudgedBits$Orders"
abbrev wsX90 : List Cond := u_ws RX9 TX9 4
theorem nmX9 : ∀ a, a < 4 → ∀ b, b < 4 → a ≠ b → (TX9 a).2.1 ≠ (TX9 b).2.1 := by decide +kernel
theorem tyX9_ok : ∀ k, k < 4 → parseFieldDescriptor (TX9 k).2.2.1 = some (tyX9 k) := by decide +kernel
abbrev cX9_init : ByteArray := prog_1_method_1_code
def yX9_init : MethodName := ⟨RX9, "<init>", "()V"⟩
abbrev cX9_ring : ByteArray := prog_1_method_2_code
def yX9_ring : MethodName := ⟨RX9, "ring", "(III)I"⟩
abbrev cX9_noise : ByteArray := prog_1_method_3_code
def yX9_noise : MethodName := ⟨RX9, "noise", "(I)I"⟩
abbrev cX9_sample : ByteArray := prog_1_method_4_code
def yX9_sample : MethodName := ⟨RX9, "sample", "(I)I"⟩
abbrev cX9_draw : ByteArray := prog_1_method_5_code
def yX9_draw : MethodName := ⟨RX9, "draw", "(I)I"⟩
abbrev cX9_restart : ByteArray := prog_1_method_6_code
def yX9_restart : MethodName := ⟨RX9, "restart", "()I"⟩
abbrev cX9_set : ByteArray := prog_1_method_7_code
def yX9_set : MethodName := ⟨RX9, "set", "(II)I"⟩
abbrev cX9_ringOf : ByteArray := prog_1_method_8_code
def yX9_ringOf : MethodName := ⟨RX9, "ringOf", "(II)I"⟩
abbrev cX9_source : ByteArray := prog_1_method_9_code
def yX9_source : MethodName := ⟨RX9, "source", "(I)I"⟩
abbrev cX9_raw : ByteArray := prog_1_method_10_code
def yX9_raw : MethodName := ⟨RX9, "raw", "(I)I"⟩
abbrev cX9_stored : ByteArray := prog_1_method_11_code
def yX9_stored : MethodName := ⟨RX9, "stored", "(I)I"⟩
abbrev cX9_would : ByteArray := prog_1_method_12_code
def yX9_would : MethodName := ⟨RX9, "would", "(II)I"⟩
abbrev cX9_takes : ByteArray := prog_1_method_13_code
def yX9_takes : MethodName := ⟨RX9, "takes", "(I)I"⟩
abbrev cX9_bestPeriod : ByteArray := prog_1_method_14_code
def yX9_bestPeriod : MethodName := ⟨RX9, "bestPeriod", "(I)I"⟩
abbrev cX9_share : ByteArray := prog_1_method_15_code
def yX9_share : MethodName := ⟨RX9, "share", "()I"⟩
abbrev cX9_count : ByteArray := prog_1_method_16_code
def yX9_count : MethodName := ⟨RX9, "count", "(I)I"⟩
abbrev cX9_undo : ByteArray := prog_1_method_17_code
def yX9_undo : MethodName := ⟨RX9, "undo", "()I"⟩
abbrev cX9_type : ByteArray := prog_1_method_18_code
def yX9_type : MethodName := ⟨RX9, "type", "(I)I"⟩
abbrev cX9_clearText : ByteArray := prog_1_method_19_code
def yX9_clearText : MethodName := ⟨RX9, "clearText", "()I"⟩
abbrev cX9_fault : ByteArray := prog_1_method_20_code
def yX9_fault : MethodName := ⟨RX9, "fault", "(I)I"⟩
abbrev cX9_play : ByteArray := prog_1_method_21_code
def yX9_play : MethodName := ⟨RX9, "play", "()I"⟩
abbrev cX9_settle : ByteArray := prog_1_method_22_code
def yX9_settle : MethodName := ⟨RX9, "settle", "(I)I"⟩
abbrev cX9_bitsWithPeriod : ByteArray := prog_1_method_23_code
def yX9_bitsWithPeriod : MethodName := ⟨RX9, "bitsWithPeriod", "(I)I"⟩
abbrev cX9_bitsOfShare : ByteArray := prog_1_method_24_code
def yX9_bitsOfShare : MethodName := ⟨RX9, "bitsOfShare", "(F)I"⟩
abbrev cX9_isWithin : ByteArray := prog_1_method_25_code
def yX9_isWithin : MethodName := ⟨RX9, "isWithin", "(III)Z"⟩
abbrev cX9_remainder : ByteArray := prog_1_method_26_code
def yX9_remainder : MethodName := ⟨RX9, "remainder", "(II)I"⟩
def RX10 : String := "JudgedBitsModel"
def TX10 : u_T := fun k => match k with
  | 0 => ("JudgedBitsModel", "s", "[I", true)
  | 1 => ("JudgedBitsModel", "states", "I", false)
  | 2 => ("JudgedBitsModel", "text", "[C", true)
  | 3 => ("JudgedBitsModel", "typed", "I", false)
  | 4 => ("JudgedBitsModel", "at", "I", false)
  | 5 => ("JudgedBitsModel", "begin", "I", false)
  | 6 => ("JudgedBitsModel", "reason", "I", false)
  | 7 => ("JudgedBitsModel", "cause", "I", false)
  | _ => ("JudgedBitsModel", "orders", "I", false)
def tyX10 : Nat → FieldType := fun k => match k with
  | 0 => .array .int
  | 1 => .int
  | 2 => .array .char
  | 3 => .int
  | 4 => .int
  | 5 => .int
  | 6 => .int
  | 7 => .int
  | _ => .int
abbrev wsX100 : List Cond := u_ws RX10 TX10 9
theorem nmX10 : ∀ a, a < 9 → ∀ b, b < 9 → a ≠ b → (TX10 a).2.1 ≠ (TX10 b).2.1 := by decide +kernel
theorem tyX10_ok : ∀ k, k < 9 → parseFieldDescriptor (TX10 k).2.2.1 = some (tyX10 k) := by decide +kernel
abbrev cX10_init : ByteArray := prog_12_method_1_code
def yX10_init : MethodName := ⟨RX10, "<init>", "()V"⟩
abbrev cX10_in : ByteArray := prog_12_method_2_code
def yX10_in : MethodName := ⟨RX10, "in", "(III)Z"⟩
abbrev cX10_copies : ByteArray := prog_12_method_3_code
def yX10_copies : MethodName := ⟨RX10, "copies", "(II)V"⟩
abbrev cX10_records : ByteArray := prog_12_method_4_code
def yX10_records : MethodName := ⟨RX10, "records", "()V"⟩
abbrev cX10_asks : ByteArray := prog_12_method_5_code
def yX10_asks : MethodName := ⟨RX10, "asks", "(I)I"⟩
abbrev cX10_locks : ByteArray := prog_12_method_6_code
def yX10_locks : MethodName := ⟨RX10, "locks", "(I)Z"⟩
abbrev cX10_runs : ByteArray := prog_12_method_7_code
def yX10_runs : MethodName := ⟨RX10, "runs", "(II)V"⟩
abbrev cX10_isHigh : ByteArray := prog_12_method_8_code
def yX10_isHigh : MethodName := ⟨RX10, "isHigh", "(II)Z"⟩
abbrev cX10_keeps : ByteArray := prog_12_method_9_code
def yX10_keeps : MethodName := ⟨RX10, "keeps", "(II)V"⟩
abbrev cX10_tests : ByteArray := prog_12_method_10_code
def yX10_tests : MethodName := ⟨RX10, "tests", "(II)I"⟩
abbrev cX10_takesOne : ByteArray := prog_12_method_11_code
def yX10_takesOne : MethodName := ⟨RX10, "takesOne", "(II)V"⟩
abbrev cX10_samples : ByteArray := prog_12_method_12_code
def yX10_samples : MethodName := ⟨RX10, "samples", "(I)V"⟩
abbrev cX10_makes : ByteArray := prog_12_method_13_code
def yX10_makes : MethodName := ⟨RX10, "makes", "(II)I"⟩
abbrev cX10_sets : ByteArray := prog_12_method_14_code
def yX10_sets : MethodName := ⟨RX10, "sets", "(IIII)I"⟩
abbrev cX10_draws : ByteArray := prog_12_method_15_code
def yX10_draws : MethodName := ⟨RX10, "draws", "(II)I"⟩
abbrev cX10_starts : ByteArray := prog_12_method_16_code
def yX10_starts : MethodName := ⟨RX10, "starts", "(I)I"⟩
abbrev cX10_ring : ByteArray := prog_12_method_17_code
def yX10_ring : MethodName := ⟨RX10, "ring", "(III)I"⟩
abbrev cX10_noise : ByteArray := prog_12_method_18_code
def yX10_noise : MethodName := ⟨RX10, "noise", "(I)I"⟩
abbrev cX10_sample : ByteArray := prog_12_method_19_code
def yX10_sample : MethodName := ⟨RX10, "sample", "(I)I"⟩
abbrev cX10_draw : ByteArray := prog_12_method_20_code
def yX10_draw : MethodName := ⟨RX10, "draw", "(I)I"⟩
abbrev cX10_restart : ByteArray := prog_12_method_21_code
def yX10_restart : MethodName := ⟨RX10, "restart", "()I"⟩
abbrev cX10_set : ByteArray := prog_12_method_22_code
def yX10_set : MethodName := ⟨RX10, "set", "(II)I"⟩
abbrev cX10_ringOf : ByteArray := prog_12_method_23_code
def yX10_ringOf : MethodName := ⟨RX10, "ringOf", "(II)I"⟩
abbrev cX10_source : ByteArray := prog_12_method_24_code
def yX10_source : MethodName := ⟨RX10, "source", "(I)I"⟩
abbrev cX10_raw : ByteArray := prog_12_method_25_code
def yX10_raw : MethodName := ⟨RX10, "raw", "(I)I"⟩
abbrev cX10_stored : ByteArray := prog_12_method_26_code
def yX10_stored : MethodName := ⟨RX10, "stored", "(I)I"⟩
abbrev cX10_would : ByteArray := prog_12_method_27_code
def yX10_would : MethodName := ⟨RX10, "would", "(II)I"⟩
abbrev cX10_takes : ByteArray := prog_12_method_28_code
def yX10_takes : MethodName := ⟨RX10, "takes", "(I)I"⟩
abbrev cX10_bestPeriod : ByteArray := prog_12_method_29_code
def yX10_bestPeriod : MethodName := ⟨RX10, "bestPeriod", "(I)I"⟩
abbrev cX10_share : ByteArray := prog_12_method_30_code
def yX10_share : MethodName := ⟨RX10, "share", "()I"⟩
abbrev cX10_count : ByteArray := prog_12_method_31_code
def yX10_count : MethodName := ⟨RX10, "count", "(I)I"⟩
abbrev cX10_undo : ByteArray := prog_12_method_32_code
def yX10_undo : MethodName := ⟨RX10, "undo", "()I"⟩
abbrev cX10_type : ByteArray := prog_12_method_33_code
def yX10_type : MethodName := ⟨RX10, "type", "(I)I"⟩
abbrev cX10_clearText : ByteArray := prog_12_method_34_code
def yX10_clearText : MethodName := ⟨RX10, "clearText", "()I"⟩
abbrev cX10_number : ByteArray := prog_12_method_35_code
def yX10_number : MethodName := ⟨RX10, "number", "()I"⟩
abbrev cX10_isNext : ByteArray := prog_12_method_36_code
def yX10_isNext : MethodName := ⟨RX10, "isNext", "(I)Z"⟩
abbrev cX10_does : ByteArray := prog_12_method_37_code
def yX10_does : MethodName := ⟨RX10, "does", "()Z"⟩
abbrev cX10_plays : ByteArray := prog_12_method_38_code
def yX10_plays : MethodName := ⟨RX10, "plays", "()Z"⟩
abbrev cX10_fault : ByteArray := prog_12_method_39_code
def yX10_fault : MethodName := ⟨RX10, "fault", "(I)I"⟩
abbrev cX10_play : ByteArray := prog_12_method_40_code
def yX10_play : MethodName := ⟨RX10, "play", "()I"⟩
def RJxf58ca : String := "java/lang/Float"
def TJxf58ca : u_T := fun k => match k with
  | _ => ("", "", "", false)
def tyJxf58ca : Nat → FieldType := fun k => match k with
  | _ => .int
abbrev wsJxf58ca0 : List Cond := u_ws RJxf58ca TJxf58ca 0
theorem nmJxf58ca : ∀ a, a < 0 → ∀ b, b < 0 → a ≠ b → (TJxf58ca a).2.1 ≠ (TJxf58ca b).2.1 := by decide +kernel
theorem tyJxf58ca_ok : ∀ k, k < 0 → parseFieldDescriptor (TJxf58ca k).2.2.1 = some (tyJxf58ca k) := by decide +kernel
abbrev cJxf58ca_isNaN_12338 : ByteArray := prog_13_method_6_code
def yJxf58ca_isNaN_12338 : MethodName := ⟨RJxf58ca, "isNaN", "(F)Z"⟩
abbrev cJxf58ca_floatToIntBits_5c35a : ByteArray := prog_13_method_24_code
def yJxf58ca_floatToIntBits_5c35a : MethodName := ⟨RJxf58ca, "floatToIntBits", "(F)I"⟩
def RJ13 : String := "java/lang/Long"
def TJ13 : u_T := fun k => match k with
  | _ => ("", "", "", false)
def tyJ13 : Nat → FieldType := fun k => match k with
  | _ => .int
abbrev wsJ130 : List Cond := u_ws RJ13 TJ13 0
theorem nmJ13 : ∀ a, a < 0 → ∀ b, b < 0 → a ≠ b → (TJ13 a).2.1 ≠ (TJ13 b).2.1 := by decide +kernel
theorem tyJ13_ok : ∀ k, k < 0 → parseFieldDescriptor (TJ13 k).2.2.1 = some (tyJ13 k) := by decide +kernel
abbrev cJ13_bitCount_95d88 : ByteArray := prog_14_method_50_code
def yJ13_bitCount_95d88 : MethodName := ⟨RJ13, "bitCount", "(J)I"⟩
def RJ9 : String := "java/lang/Math"
def TJ9 : u_T := fun k => match k with
  | _ => ("", "", "", false)
def tyJ9 : Nat → FieldType := fun k => match k with
  | _ => .int
abbrev wsJ90 : List Cond := u_ws RJ9 TJ9 0
theorem nmJ9 : ∀ a, a < 0 → ∀ b, b < 0 → a ≠ b → (TJ9 a).2.1 ≠ (TJ9 b).2.1 := by decide +kernel
theorem tyJ9_ok : ∀ k, k < 0 → parseFieldDescriptor (TJ9 k).2.2.1 = some (tyJ9 k) := by decide +kernel
abbrev cJ9_abs_0f7a4 : ByteArray := prog_15_method_59_code
def yJ9_abs_0f7a4 : MethodName := ⟨RJ9, "abs", "(I)I"⟩
abbrev cJ9_max_7cf53 : ByteArray := prog_15_method_65_code
def yJ9_max_7cf53 : MethodName := ⟨RJ9, "max", "(II)I"⟩
abbrev cJ9_min_7cf53 : ByteArray := prog_15_method_69_code
def yJ9_min_7cf53 : MethodName := ⟨RJ9, "min", "(II)I"⟩
def RL : String := "JudgedBitsLaw"
abbrev cL_law : ByteArray := code
def yL_law : MethodName := ⟨RL, "law", "([I)Z"⟩
def wsX0_init : List Cond := .code yX0_init cX0_init 1 none :: ([.methodLink RX0 1 objectInit, .instanceMethod objectInit, .code objectInit ⟨#[0xb1]⟩ 1 none, .fieldLink RX0 7 "JudgedBits$BitRow" "bits" "J", .fieldLink RX0 13 "JudgedBits$BitRow" "size" "I"] ++ wsX00)
def wsX0_copyFrom : List Cond := .code yX0_copyFrom cX0_copyFrom 2 none :: ([.fieldLink RX0 7 "JudgedBits$BitRow" "bits" "J", .fieldLink RX0 13 "JudgedBits$BitRow" "size" "I"] ++ wsX00)
def wsX0_clear : List Cond := .code yX0_clear cX0_clear 1 none :: ([.fieldLink RX0 7 "JudgedBits$BitRow" "bits" "J", .fieldLink RX0 13 "JudgedBits$BitRow" "size" "I"] ++ wsX00)
def wsX0_isFull : List Cond := .code yX0_isFull cX0_isFull 1 (some .boolean) :: ([.fieldLink RX0 13 "JudgedBits$BitRow" "size" "I"] ++ wsX00)
def wsX0_append : List Cond := .code yX0_append cX0_append 2 none :: ([.fieldLink RX0 7 "JudgedBits$BitRow" "bits" "J", .fieldLink RX0 13 "JudgedBits$BitRow" "size" "I"] ++ wsX00)
def wsX0_fromLatest : List Cond := .code yX0_fromLatest cX0_fromLatest 2 (some .int) :: ([.fieldLink RX0 7 "JudgedBits$BitRow" "bits" "J"] ++ wsX00)
def wsX0_fromEarliest : List Cond := .code yX0_fromEarliest cX0_fromEarliest 2 (some .int) :: ([.fieldLink RX0 13 "JudgedBits$BitRow" "size" "I", .methodLink RX0 17 yX0_fromLatest, .instanceMethod yX0_fromLatest, .selects RX0 yX0_fromLatest yX0_fromLatest, .initialized RX0, .code yX0_fromLatest cX0_fromLatest 2 (some .int), .fieldLink RX0 7 "JudgedBits$BitRow" "bits" "J"] ++ wsX00)
def wsX0_takeEarliest : List Cond := .code yX0_takeEarliest cX0_takeEarliest 4 (some .int) :: ([.fieldLink RX0 13 "JudgedBits$BitRow" "size" "I", .fieldLink RX0 7 "JudgedBits$BitRow" "bits" "J"] ++ wsX00)
def wsJ13_bitCount_95d88 : List Cond := .code yJ13_bitCount_95d88 cJ13_bitCount_95d88 2 (some .int) :: ([.constantLong RJ13 314 (6148914691236517205), .constantLong RJ13 316 (3689348814741910323), .constantLong RJ13 318 (1085102592571150095)])
def wsX0_ones : List Cond := .code yX0_ones cX0_ones 1 (some .int) :: ([.fieldLink RX0 7 "JudgedBits$BitRow" "bits" "J", .methodLink RX0 21 yJ13_bitCount_95d88, .static yJ13_bitCount_95d88, .initialized RJ13, .code yJ13_bitCount_95d88 cJ13_bitCount_95d88 2 (some .int), .constantLong RJ13 314 (6148914691236517205), .constantLong RJ13 316 (3689348814741910323), .constantLong RJ13 318 (1085102592571150095)] ++ wsX00)
def wsX1_init : List Cond := .code yX1_init cX1_init 1 none :: ([.methodLink RX1 1 objectInit, .instanceMethod objectInit, .code objectInit ⟨#[0xb1]⟩ 1 none, .fieldLink RX1 9 "JudgedBits$Health" "mode" "I", .fieldLink RX1 13 "JudgedBits$Health" "failedTest" "I", .fieldLink RX1 16 "JudgedBits$Health" "startUpBits" "I", .fieldLink RX1 19 "JudgedBits$Health" "run" "I", .fieldLink RX1 22 "JudgedBits$Health" "runBit" "I", .fieldLink RX1 25 "JudgedBits$Health" "windowBits" "I", .fieldLink RX1 28 "JudgedBits$Health" "windowOnes" "I"] ++ wsX10)
def wsX1_copyFrom : List Cond := .code yX1_copyFrom cX1_copyFrom 2 none :: ([.fieldLink RX1 9 "JudgedBits$Health" "mode" "I", .fieldLink RX1 13 "JudgedBits$Health" "failedTest" "I", .fieldLink RX1 16 "JudgedBits$Health" "startUpBits" "I", .fieldLink RX1 19 "JudgedBits$Health" "run" "I", .fieldLink RX1 22 "JudgedBits$Health" "runBit" "I", .fieldLink RX1 25 "JudgedBits$Health" "windowBits" "I", .fieldLink RX1 28 "JudgedBits$Health" "windowOnes" "I"] ++ wsX10)
def wsX1_startAnew : List Cond := .code yX1_startAnew cX1_startAnew 1 none :: ([.fieldLink RX1 9 "JudgedBits$Health" "mode" "I", .fieldLink RX1 13 "JudgedBits$Health" "failedTest" "I", .fieldLink RX1 16 "JudgedBits$Health" "startUpBits" "I", .fieldLink RX1 19 "JudgedBits$Health" "run" "I", .fieldLink RX1 22 "JudgedBits$Health" "runBit" "I", .fieldLink RX1 25 "JudgedBits$Health" "windowBits" "I", .fieldLink RX1 28 "JudgedBits$Health" "windowOnes" "I"] ++ wsX10)
def wsX1_countInRun : List Cond := .code yX1_countInRun cX1_countInRun 2 none :: ([.fieldLink RX1 19 "JudgedBits$Health" "run" "I", .fieldLink RX1 22 "JudgedBits$Health" "runBit" "I"] ++ wsX10)
def wsX1_failsShare : List Cond := .code yX1_failsShare cX1_failsShare 4 (some .boolean) :: ([.fieldLink RX1 25 "JudgedBits$Health" "windowBits" "I", .fieldLink RX1 28 "JudgedBits$Health" "windowOnes" "I"] ++ wsX10)
def wsX1_bringAlarm : List Cond := .code yX1_bringAlarm cX1_bringAlarm 2 none :: ([.fieldLink RX1 9 "JudgedBits$Health" "mode" "I", .fieldLink RX1 13 "JudgedBits$Health" "failedTest" "I"] ++ wsX10)
def wsX1_countInStartUp : List Cond := .code yX1_countInStartUp cX1_countInStartUp 1 none :: ([.fieldLink RX1 16 "JudgedBits$Health" "startUpBits" "I", .fieldLink RX1 9 "JudgedBits$Health" "mode" "I"] ++ wsX10)
def wsX1_judge_r1 : List Cond := [Cond.fieldLink RX1 35 "JudgedBits$Settings" "leastOnes" "I", Cond.fieldLink RX1 19 "JudgedBits$Health" "run" "I", Cond.fieldLink RX1 44 "JudgedBits$Settings" "longestRun" "I", Cond.fieldLink RX1 9 "JudgedBits$Health" "mode" "I", Cond.methodLink RX1 31 yX1_countInRun, Cond.instanceMethod yX1_countInRun, Cond.selects RX1 yX1_countInRun yX1_countInRun, Cond.initialized RX1, Cond.code yX1_countInRun cX1_countInRun 2 none, Cond.fieldLink RX1 22 "JudgedBits$Health" "runBit" "I", Cond.methodLink RX1 40 yX1_failsShare, Cond.instanceMethod yX1_failsShare, Cond.selects RX1 yX1_failsShare yX1_failsShare, Cond.code yX1_failsShare cX1_failsShare 4 (some .boolean), Cond.fieldLink RX1 25 "JudgedBits$Health" "windowBits" "I", Cond.fieldLink RX1 28 "JudgedBits$Health" "windowOnes" "I", Cond.methodLink RX1 47 yX1_bringAlarm, Cond.instanceMethod yX1_bringAlarm, Cond.selects RX1 yX1_bringAlarm yX1_bringAlarm, Cond.code yX1_bringAlarm cX1_bringAlarm 2 none, Cond.fieldLink RX1 13 "JudgedBits$Health" "failedTest" "I", Cond.methodLink RX1 50 yX1_countInStartUp, Cond.instanceMethod yX1_countInStartUp, Cond.selects RX1 yX1_countInStartUp yX1_countInStartUp]
def wsX1_judge_r2 : List Cond := [Cond.code yX1_countInStartUp cX1_countInStartUp 1 none, Cond.fieldLink RX1 16 "JudgedBits$Health" "startUpBits" "I"]
def wsX1_judge : List Cond := .code yX1_judge cX1_judge 4 none :: ((wsX1_judge_r1 ++ wsX1_judge_r2) ++ wsX50 ++ wsX10)
def wsX4_init : List Cond := .code yX4_init cX4_init 2 none :: ([.methodLink RX4 3 objectInit, .instanceMethod objectInit, .code objectInit ⟨#[0xb1]⟩ 1 none, .fieldLink RX4 9 "JudgedBits$Ring" "jitter" "I", .fieldLink RX4 15 "JudgedBits$Ring" "phase" "I", .fieldLink RX4 18 "JudgedBits$Ring" "period" "I"] ++ wsX40)
def wsX5_init : List Cond := .code yX5_init cX5_init 1 none :: ([.methodLink RX5 3 objectInit, .instanceMethod objectInit, .code objectInit ⟨#[0xb1]⟩ 1 none, .fieldLink RX5 9 "JudgedBits$Settings" "step" "I", .fieldLink RX5 15 "JudgedBits$Settings" "lock" "I", .fieldLink RX5 18 "JudgedBits$Settings" "longestRun" "I", .fieldLink RX5 21 "JudgedBits$Settings" "leastOnes" "I"] ++ wsX50)
def wsX7_init : List Cond := .code yX7_init cX7_init 1 none :: ([.methodLink RX7 3 objectInit, .instanceMethod objectInit, .code objectInit ⟨#[0xb1]⟩ 1 none, .fieldLink RX7 9 "JudgedBits$Tally" "samples" "I", .fieldLink RX7 15 "JudgedBits$Tally" "ones" "I", .fieldLink RX7 18 "JudgedBits$Tally" "leftOut" "I", .fieldLink RX7 21 "JudgedBits$Tally" "stored" "I", .fieldLink RX7 24 "JudgedBits$Tally" "lost" "I", .fieldLink RX7 27 "JudgedBits$Tally" "drawn" "I", .fieldLink RX7 30 "JudgedBits$Tally" "alarms" "I", .fieldLink RX7 33 "JudgedBits$Tally" "longestRun" "I"] ++ wsX70)
def wsX6_init_r1 : List Cond := [Cond.methodLink RX6 3 objectInit, Cond.instanceMethod objectInit, Cond.code objectInit ⟨#[0xb1]⟩ 1 none, Cond.fieldLink RX6 9 "JudgedBits$Source" "noiseNumber" "I", Cond.fieldLink RX6 15 "JudgedBits$Source" "waiting" "I", Cond.classLink RX6 18 RX4, Cond.instantiable RX4 3, Cond.initialized RX4, Cond.fieldLink RX6 23 "JudgedBits$Source" "ringZero" "LJudgedBits$Ring;", Cond.fieldLink RX6 27 "JudgedBits$Source" "ringOne" "LJudgedBits$Ring;", Cond.classLink RX6 30 RX5, Cond.instantiable RX5 4, Cond.initialized RX5, Cond.fieldLink RX6 33 "JudgedBits$Source" "settings" "LJudgedBits$Settings;", Cond.classLink RX6 37 RX1, Cond.instantiable RX1 7, Cond.initialized RX1, Cond.fieldLink RX6 40 "JudgedBits$Source" "health" "LJudgedBits$Health;", Cond.classLink RX6 44 RX0, Cond.instantiable RX0 2, Cond.initialized RX0, Cond.fieldLink RX6 47 "JudgedBits$Source" "rawBits" "LJudgedBits$BitRow;", Cond.fieldLink RX6 51 "JudgedBits$Source" "store" "LJudgedBits$BitRow;", Cond.classLink RX6 54 RX7]
def wsX6_init_r2 : List Cond := [Cond.instantiable RX7 8, Cond.initialized RX7, Cond.fieldLink RX6 57 "JudgedBits$Source" "tally" "LJudgedBits$Tally;", Cond.methodLink RX6 20 yX4_init, Cond.instanceMethod yX4_init, Cond.code yX4_init cX4_init 2 none, Cond.methodLink RX4 3 objectInit, Cond.fieldLink RX4 9 "JudgedBits$Ring" "jitter" "I", Cond.fieldLink RX4 15 "JudgedBits$Ring" "phase" "I", Cond.fieldLink RX4 18 "JudgedBits$Ring" "period" "I", Cond.instanceMethod yX5_init, Cond.code yX5_init cX5_init 1 none, Cond.methodLink RX5 3 objectInit, Cond.fieldLink RX5 9 "JudgedBits$Settings" "step" "I", Cond.fieldLink RX5 15 "JudgedBits$Settings" "lock" "I", Cond.fieldLink RX5 18 "JudgedBits$Settings" "longestRun" "I", Cond.fieldLink RX5 21 "JudgedBits$Settings" "leastOnes" "I", Cond.instanceMethod yX1_init, Cond.code yX1_init cX1_init 1 none, Cond.methodLink RX1 1 objectInit, Cond.fieldLink RX1 9 "JudgedBits$Health" "mode" "I", Cond.fieldLink RX1 13 "JudgedBits$Health" "failedTest" "I", Cond.fieldLink RX1 16 "JudgedBits$Health" "startUpBits" "I", Cond.fieldLink RX1 19 "JudgedBits$Health" "run" "I"]
def wsX6_init_r3 : List Cond := [Cond.fieldLink RX1 22 "JudgedBits$Health" "runBit" "I", Cond.fieldLink RX1 25 "JudgedBits$Health" "windowBits" "I", Cond.fieldLink RX1 28 "JudgedBits$Health" "windowOnes" "I", Cond.instanceMethod yX0_init, Cond.code yX0_init cX0_init 1 none, Cond.methodLink RX0 1 objectInit, Cond.fieldLink RX0 7 "JudgedBits$BitRow" "bits" "J", Cond.fieldLink RX0 13 "JudgedBits$BitRow" "size" "I", Cond.instanceMethod yX7_init, Cond.code yX7_init cX7_init 1 none, Cond.methodLink RX7 3 objectInit, Cond.fieldLink RX7 9 "JudgedBits$Tally" "samples" "I", Cond.fieldLink RX7 15 "JudgedBits$Tally" "ones" "I", Cond.fieldLink RX7 18 "JudgedBits$Tally" "leftOut" "I", Cond.fieldLink RX7 21 "JudgedBits$Tally" "stored" "I", Cond.fieldLink RX7 24 "JudgedBits$Tally" "lost" "I", Cond.fieldLink RX7 27 "JudgedBits$Tally" "drawn" "I", Cond.fieldLink RX7 30 "JudgedBits$Tally" "alarms" "I", Cond.fieldLink RX7 33 "JudgedBits$Tally" "longestRun" "I"]
def wsX6_init : List Cond := .code yX6_init cX6_init 1 none :: ((wsX6_init_r1 ++ (wsX6_init_r2 ++ wsX6_init_r3)) ++ wsX60 ++ wsX40 ++ wsX50 ++ wsX10 ++ wsX00 ++ wsX70)
def wsX2_init_r1 : List Cond := [Cond.methodLink RX2 3 objectInit, Cond.instanceMethod objectInit, Cond.code objectInit ⟨#[0xb1]⟩ 1 none, Cond.fieldLink RX2 9 "JudgedBits$History" "many" "I", Cond.classLink RX2 15 RX6, Cond.instantiable RX6 9, Cond.initialized RX6, Cond.fieldLink RX2 18 "JudgedBits$History" "latest" "LJudgedBits$Source;", Cond.fieldLink RX2 22 "JudgedBits$History" "second" "LJudgedBits$Source;", Cond.fieldLink RX2 25 "JudgedBits$History" "third" "LJudgedBits$Source;", Cond.fieldLink RX2 28 "JudgedBits$History" "fourth" "LJudgedBits$Source;", Cond.methodLink RX2 17 yX6_init, Cond.instanceMethod yX6_init, Cond.code yX6_init cX6_init 1 none, Cond.methodLink RX6 3 objectInit, Cond.fieldLink RX6 9 "JudgedBits$Source" "noiseNumber" "I", Cond.fieldLink RX6 15 "JudgedBits$Source" "waiting" "I", Cond.classLink RX6 18 RX4, Cond.instantiable RX4 3, Cond.initialized RX4, Cond.fieldLink RX6 23 "JudgedBits$Source" "ringZero" "LJudgedBits$Ring;", Cond.fieldLink RX6 27 "JudgedBits$Source" "ringOne" "LJudgedBits$Ring;", Cond.classLink RX6 30 RX5, Cond.instantiable RX5 4]
def wsX2_init_r2 : List Cond := [Cond.initialized RX5, Cond.fieldLink RX6 33 "JudgedBits$Source" "settings" "LJudgedBits$Settings;", Cond.classLink RX6 37 RX1, Cond.instantiable RX1 7, Cond.initialized RX1, Cond.fieldLink RX6 40 "JudgedBits$Source" "health" "LJudgedBits$Health;", Cond.classLink RX6 44 RX0, Cond.instantiable RX0 2, Cond.initialized RX0, Cond.fieldLink RX6 47 "JudgedBits$Source" "rawBits" "LJudgedBits$BitRow;", Cond.fieldLink RX6 51 "JudgedBits$Source" "store" "LJudgedBits$BitRow;", Cond.classLink RX6 54 RX7, Cond.instantiable RX7 8, Cond.initialized RX7, Cond.fieldLink RX6 57 "JudgedBits$Source" "tally" "LJudgedBits$Tally;", Cond.methodLink RX6 20 yX4_init, Cond.instanceMethod yX4_init, Cond.code yX4_init cX4_init 2 none, Cond.methodLink RX4 3 objectInit, Cond.fieldLink RX4 9 "JudgedBits$Ring" "jitter" "I", Cond.fieldLink RX4 15 "JudgedBits$Ring" "phase" "I", Cond.fieldLink RX4 18 "JudgedBits$Ring" "period" "I", Cond.instanceMethod yX5_init, Cond.code yX5_init cX5_init 1 none]
def wsX2_init_r3 : List Cond := [Cond.methodLink RX5 3 objectInit, Cond.fieldLink RX5 9 "JudgedBits$Settings" "step" "I", Cond.fieldLink RX5 15 "JudgedBits$Settings" "lock" "I", Cond.fieldLink RX5 18 "JudgedBits$Settings" "longestRun" "I", Cond.fieldLink RX5 21 "JudgedBits$Settings" "leastOnes" "I", Cond.instanceMethod yX1_init, Cond.code yX1_init cX1_init 1 none, Cond.methodLink RX1 1 objectInit, Cond.fieldLink RX1 9 "JudgedBits$Health" "mode" "I", Cond.fieldLink RX1 13 "JudgedBits$Health" "failedTest" "I", Cond.fieldLink RX1 16 "JudgedBits$Health" "startUpBits" "I", Cond.fieldLink RX1 19 "JudgedBits$Health" "run" "I", Cond.fieldLink RX1 22 "JudgedBits$Health" "runBit" "I", Cond.fieldLink RX1 25 "JudgedBits$Health" "windowBits" "I", Cond.fieldLink RX1 28 "JudgedBits$Health" "windowOnes" "I", Cond.instanceMethod yX0_init, Cond.code yX0_init cX0_init 1 none, Cond.methodLink RX0 1 objectInit, Cond.fieldLink RX0 7 "JudgedBits$BitRow" "bits" "J", Cond.fieldLink RX0 13 "JudgedBits$BitRow" "size" "I", Cond.instanceMethod yX7_init, Cond.code yX7_init cX7_init 1 none, Cond.methodLink RX7 3 objectInit, Cond.fieldLink RX7 9 "JudgedBits$Tally" "samples" "I"]
def wsX2_init_r4 : List Cond := [Cond.fieldLink RX7 15 "JudgedBits$Tally" "ones" "I", Cond.fieldLink RX7 18 "JudgedBits$Tally" "leftOut" "I", Cond.fieldLink RX7 21 "JudgedBits$Tally" "stored" "I", Cond.fieldLink RX7 24 "JudgedBits$Tally" "lost" "I", Cond.fieldLink RX7 27 "JudgedBits$Tally" "drawn" "I", Cond.fieldLink RX7 30 "JudgedBits$Tally" "alarms" "I", Cond.fieldLink RX7 33 "JudgedBits$Tally" "longestRun" "I"]
def wsX2_init : List Cond := .code yX2_init cX2_init 1 none :: ((wsX2_init_r1 ++ (wsX2_init_r2 ++ (wsX2_init_r3 ++ wsX2_init_r4))) ++ wsX20 ++ wsX60 ++ wsX40 ++ wsX50 ++ wsX10 ++ wsX00 ++ wsX70)
def wsX4_copyFrom : List Cond := .code yX4_copyFrom cX4_copyFrom 2 none :: ([.fieldLink RX4 18 "JudgedBits$Ring" "period" "I", .fieldLink RX4 9 "JudgedBits$Ring" "jitter" "I", .fieldLink RX4 15 "JudgedBits$Ring" "phase" "I"] ++ wsX40)
def wsX5_copyFrom : List Cond := .code yX5_copyFrom cX5_copyFrom 2 none :: ([.fieldLink RX5 9 "JudgedBits$Settings" "step" "I", .fieldLink RX5 15 "JudgedBits$Settings" "lock" "I", .fieldLink RX5 18 "JudgedBits$Settings" "longestRun" "I", .fieldLink RX5 21 "JudgedBits$Settings" "leastOnes" "I"] ++ wsX50)
def wsX7_copyFrom : List Cond := .code yX7_copyFrom cX7_copyFrom 2 none :: ([.fieldLink RX7 9 "JudgedBits$Tally" "samples" "I", .fieldLink RX7 15 "JudgedBits$Tally" "ones" "I", .fieldLink RX7 18 "JudgedBits$Tally" "leftOut" "I", .fieldLink RX7 21 "JudgedBits$Tally" "stored" "I", .fieldLink RX7 24 "JudgedBits$Tally" "lost" "I", .fieldLink RX7 27 "JudgedBits$Tally" "drawn" "I", .fieldLink RX7 30 "JudgedBits$Tally" "alarms" "I", .fieldLink RX7 33 "JudgedBits$Tally" "longestRun" "I"] ++ wsX70)
def wsX6_copyFrom_r1 : List Cond := [Cond.fieldLink RX6 23 "JudgedBits$Source" "ringZero" "LJudgedBits$Ring;", Cond.fieldLink RX6 27 "JudgedBits$Source" "ringOne" "LJudgedBits$Ring;", Cond.fieldLink RX6 33 "JudgedBits$Source" "settings" "LJudgedBits$Settings;", Cond.fieldLink RX6 40 "JudgedBits$Source" "health" "LJudgedBits$Health;", Cond.fieldLink RX6 47 "JudgedBits$Source" "rawBits" "LJudgedBits$BitRow;", Cond.fieldLink RX6 51 "JudgedBits$Source" "store" "LJudgedBits$BitRow;", Cond.fieldLink RX6 57 "JudgedBits$Source" "tally" "LJudgedBits$Tally;", Cond.fieldLink RX6 9 "JudgedBits$Source" "noiseNumber" "I", Cond.fieldLink RX6 15 "JudgedBits$Source" "waiting" "I", Cond.methodLink RX6 61 yX4_copyFrom, Cond.instanceMethod yX4_copyFrom, Cond.selects RX4 yX4_copyFrom yX4_copyFrom, Cond.initialized RX4, Cond.code yX4_copyFrom cX4_copyFrom 2 none, Cond.fieldLink RX4 18 "JudgedBits$Ring" "period" "I", Cond.fieldLink RX4 9 "JudgedBits$Ring" "jitter" "I", Cond.fieldLink RX4 15 "JudgedBits$Ring" "phase" "I", Cond.methodLink RX6 65 yX5_copyFrom, Cond.instanceMethod yX5_copyFrom, Cond.selects RX5 yX5_copyFrom yX5_copyFrom, Cond.initialized RX5, Cond.code yX5_copyFrom cX5_copyFrom 2 none, Cond.fieldLink RX5 9 "JudgedBits$Settings" "step" "I", Cond.fieldLink RX5 15 "JudgedBits$Settings" "lock" "I"]
def wsX6_copyFrom_r2 : List Cond := [Cond.fieldLink RX5 18 "JudgedBits$Settings" "longestRun" "I", Cond.fieldLink RX5 21 "JudgedBits$Settings" "leastOnes" "I", Cond.methodLink RX6 68 yX1_copyFrom, Cond.instanceMethod yX1_copyFrom, Cond.selects RX1 yX1_copyFrom yX1_copyFrom, Cond.initialized RX1, Cond.code yX1_copyFrom cX1_copyFrom 2 none, Cond.fieldLink RX1 9 "JudgedBits$Health" "mode" "I", Cond.fieldLink RX1 13 "JudgedBits$Health" "failedTest" "I", Cond.fieldLink RX1 16 "JudgedBits$Health" "startUpBits" "I", Cond.fieldLink RX1 19 "JudgedBits$Health" "run" "I", Cond.fieldLink RX1 22 "JudgedBits$Health" "runBit" "I", Cond.fieldLink RX1 25 "JudgedBits$Health" "windowBits" "I", Cond.fieldLink RX1 28 "JudgedBits$Health" "windowOnes" "I", Cond.methodLink RX6 71 yX0_copyFrom, Cond.instanceMethod yX0_copyFrom, Cond.selects RX0 yX0_copyFrom yX0_copyFrom, Cond.initialized RX0, Cond.code yX0_copyFrom cX0_copyFrom 2 none, Cond.fieldLink RX0 7 "JudgedBits$BitRow" "bits" "J", Cond.fieldLink RX0 13 "JudgedBits$BitRow" "size" "I", Cond.methodLink RX6 74 yX7_copyFrom, Cond.instanceMethod yX7_copyFrom, Cond.selects RX7 yX7_copyFrom yX7_copyFrom]
def wsX6_copyFrom_r3 : List Cond := [Cond.initialized RX7, Cond.code yX7_copyFrom cX7_copyFrom 2 none, Cond.fieldLink RX7 9 "JudgedBits$Tally" "samples" "I", Cond.fieldLink RX7 15 "JudgedBits$Tally" "ones" "I", Cond.fieldLink RX7 18 "JudgedBits$Tally" "leftOut" "I", Cond.fieldLink RX7 21 "JudgedBits$Tally" "stored" "I", Cond.fieldLink RX7 24 "JudgedBits$Tally" "lost" "I", Cond.fieldLink RX7 27 "JudgedBits$Tally" "drawn" "I", Cond.fieldLink RX7 30 "JudgedBits$Tally" "alarms" "I", Cond.fieldLink RX7 33 "JudgedBits$Tally" "longestRun" "I"]
def wsX6_copyFrom : List Cond := .code yX6_copyFrom cX6_copyFrom 2 none :: ((wsX6_copyFrom_r1 ++ (wsX6_copyFrom_r2 ++ wsX6_copyFrom_r3)) ++ wsX60 ++ wsX40 ++ wsX50 ++ wsX10 ++ wsX00 ++ wsX70)
def wsX2_keep_r1 : List Cond := [Cond.fieldLink RX2 28 "JudgedBits$History" "fourth" "LJudgedBits$Source;", Cond.fieldLink RX2 25 "JudgedBits$History" "third" "LJudgedBits$Source;", Cond.fieldLink RX2 22 "JudgedBits$History" "second" "LJudgedBits$Source;", Cond.fieldLink RX2 18 "JudgedBits$History" "latest" "LJudgedBits$Source;", Cond.fieldLink RX2 9 "JudgedBits$History" "many" "I", Cond.methodLink RX2 31 yX6_copyFrom, Cond.instanceMethod yX6_copyFrom, Cond.selects RX6 yX6_copyFrom yX6_copyFrom, Cond.initialized RX6, Cond.code yX6_copyFrom cX6_copyFrom 2 none, Cond.fieldLink RX6 23 "JudgedBits$Source" "ringZero" "LJudgedBits$Ring;", Cond.fieldLink RX6 27 "JudgedBits$Source" "ringOne" "LJudgedBits$Ring;", Cond.fieldLink RX6 33 "JudgedBits$Source" "settings" "LJudgedBits$Settings;", Cond.fieldLink RX6 40 "JudgedBits$Source" "health" "LJudgedBits$Health;", Cond.fieldLink RX6 47 "JudgedBits$Source" "rawBits" "LJudgedBits$BitRow;", Cond.fieldLink RX6 51 "JudgedBits$Source" "store" "LJudgedBits$BitRow;", Cond.fieldLink RX6 57 "JudgedBits$Source" "tally" "LJudgedBits$Tally;", Cond.fieldLink RX6 9 "JudgedBits$Source" "noiseNumber" "I", Cond.fieldLink RX6 15 "JudgedBits$Source" "waiting" "I", Cond.methodLink RX6 61 yX4_copyFrom, Cond.instanceMethod yX4_copyFrom, Cond.selects RX4 yX4_copyFrom yX4_copyFrom, Cond.initialized RX4, Cond.code yX4_copyFrom cX4_copyFrom 2 none]
def wsX2_keep_r2 : List Cond := [Cond.fieldLink RX4 18 "JudgedBits$Ring" "period" "I", Cond.fieldLink RX4 9 "JudgedBits$Ring" "jitter" "I", Cond.fieldLink RX4 15 "JudgedBits$Ring" "phase" "I", Cond.methodLink RX6 65 yX5_copyFrom, Cond.instanceMethod yX5_copyFrom, Cond.selects RX5 yX5_copyFrom yX5_copyFrom, Cond.initialized RX5, Cond.code yX5_copyFrom cX5_copyFrom 2 none, Cond.fieldLink RX5 9 "JudgedBits$Settings" "step" "I", Cond.fieldLink RX5 15 "JudgedBits$Settings" "lock" "I", Cond.fieldLink RX5 18 "JudgedBits$Settings" "longestRun" "I", Cond.fieldLink RX5 21 "JudgedBits$Settings" "leastOnes" "I", Cond.methodLink RX6 68 yX1_copyFrom, Cond.instanceMethod yX1_copyFrom, Cond.selects RX1 yX1_copyFrom yX1_copyFrom, Cond.initialized RX1, Cond.code yX1_copyFrom cX1_copyFrom 2 none, Cond.fieldLink RX1 9 "JudgedBits$Health" "mode" "I", Cond.fieldLink RX1 13 "JudgedBits$Health" "failedTest" "I", Cond.fieldLink RX1 16 "JudgedBits$Health" "startUpBits" "I", Cond.fieldLink RX1 19 "JudgedBits$Health" "run" "I", Cond.fieldLink RX1 22 "JudgedBits$Health" "runBit" "I", Cond.fieldLink RX1 25 "JudgedBits$Health" "windowBits" "I", Cond.fieldLink RX1 28 "JudgedBits$Health" "windowOnes" "I"]
def wsX2_keep_r3 : List Cond := [Cond.methodLink RX6 71 yX0_copyFrom, Cond.instanceMethod yX0_copyFrom, Cond.selects RX0 yX0_copyFrom yX0_copyFrom, Cond.initialized RX0, Cond.code yX0_copyFrom cX0_copyFrom 2 none, Cond.fieldLink RX0 7 "JudgedBits$BitRow" "bits" "J", Cond.fieldLink RX0 13 "JudgedBits$BitRow" "size" "I", Cond.methodLink RX6 74 yX7_copyFrom, Cond.instanceMethod yX7_copyFrom, Cond.selects RX7 yX7_copyFrom yX7_copyFrom, Cond.initialized RX7, Cond.code yX7_copyFrom cX7_copyFrom 2 none, Cond.fieldLink RX7 9 "JudgedBits$Tally" "samples" "I", Cond.fieldLink RX7 15 "JudgedBits$Tally" "ones" "I", Cond.fieldLink RX7 18 "JudgedBits$Tally" "leftOut" "I", Cond.fieldLink RX7 21 "JudgedBits$Tally" "stored" "I", Cond.fieldLink RX7 24 "JudgedBits$Tally" "lost" "I", Cond.fieldLink RX7 27 "JudgedBits$Tally" "drawn" "I", Cond.fieldLink RX7 30 "JudgedBits$Tally" "alarms" "I", Cond.fieldLink RX7 33 "JudgedBits$Tally" "longestRun" "I"]
def wsX2_keep : List Cond := .code yX2_keep cX2_keep 2 none :: ((wsX2_keep_r1 ++ (wsX2_keep_r2 ++ wsX2_keep_r3)) ++ wsX20 ++ wsX60 ++ wsX40 ++ wsX50 ++ wsX10 ++ wsX00 ++ wsX70)
def wsX2_bringBack_r1 : List Cond := [Cond.fieldLink RX2 9 "JudgedBits$History" "many" "I", Cond.constant RX2 35 (-1000002), Cond.fieldLink RX2 18 "JudgedBits$History" "latest" "LJudgedBits$Source;", Cond.fieldLink RX2 22 "JudgedBits$History" "second" "LJudgedBits$Source;", Cond.fieldLink RX2 25 "JudgedBits$History" "third" "LJudgedBits$Source;", Cond.fieldLink RX2 28 "JudgedBits$History" "fourth" "LJudgedBits$Source;", Cond.methodLink RX2 31 yX6_copyFrom, Cond.instanceMethod yX6_copyFrom, Cond.selects RX6 yX6_copyFrom yX6_copyFrom, Cond.initialized RX6, Cond.code yX6_copyFrom cX6_copyFrom 2 none, Cond.fieldLink RX6 23 "JudgedBits$Source" "ringZero" "LJudgedBits$Ring;", Cond.fieldLink RX6 27 "JudgedBits$Source" "ringOne" "LJudgedBits$Ring;", Cond.fieldLink RX6 33 "JudgedBits$Source" "settings" "LJudgedBits$Settings;", Cond.fieldLink RX6 40 "JudgedBits$Source" "health" "LJudgedBits$Health;", Cond.fieldLink RX6 47 "JudgedBits$Source" "rawBits" "LJudgedBits$BitRow;", Cond.fieldLink RX6 51 "JudgedBits$Source" "store" "LJudgedBits$BitRow;", Cond.fieldLink RX6 57 "JudgedBits$Source" "tally" "LJudgedBits$Tally;", Cond.fieldLink RX6 9 "JudgedBits$Source" "noiseNumber" "I", Cond.fieldLink RX6 15 "JudgedBits$Source" "waiting" "I", Cond.methodLink RX6 61 yX4_copyFrom, Cond.instanceMethod yX4_copyFrom, Cond.selects RX4 yX4_copyFrom yX4_copyFrom, Cond.initialized RX4]
def wsX2_bringBack_r2 : List Cond := [Cond.code yX4_copyFrom cX4_copyFrom 2 none, Cond.fieldLink RX4 18 "JudgedBits$Ring" "period" "I", Cond.fieldLink RX4 9 "JudgedBits$Ring" "jitter" "I", Cond.fieldLink RX4 15 "JudgedBits$Ring" "phase" "I", Cond.methodLink RX6 65 yX5_copyFrom, Cond.instanceMethod yX5_copyFrom, Cond.selects RX5 yX5_copyFrom yX5_copyFrom, Cond.initialized RX5, Cond.code yX5_copyFrom cX5_copyFrom 2 none, Cond.fieldLink RX5 9 "JudgedBits$Settings" "step" "I", Cond.fieldLink RX5 15 "JudgedBits$Settings" "lock" "I", Cond.fieldLink RX5 18 "JudgedBits$Settings" "longestRun" "I", Cond.fieldLink RX5 21 "JudgedBits$Settings" "leastOnes" "I", Cond.methodLink RX6 68 yX1_copyFrom, Cond.instanceMethod yX1_copyFrom, Cond.selects RX1 yX1_copyFrom yX1_copyFrom, Cond.initialized RX1, Cond.code yX1_copyFrom cX1_copyFrom 2 none, Cond.fieldLink RX1 9 "JudgedBits$Health" "mode" "I", Cond.fieldLink RX1 13 "JudgedBits$Health" "failedTest" "I", Cond.fieldLink RX1 16 "JudgedBits$Health" "startUpBits" "I", Cond.fieldLink RX1 19 "JudgedBits$Health" "run" "I", Cond.fieldLink RX1 22 "JudgedBits$Health" "runBit" "I", Cond.fieldLink RX1 25 "JudgedBits$Health" "windowBits" "I"]
def wsX2_bringBack_r3 : List Cond := [Cond.fieldLink RX1 28 "JudgedBits$Health" "windowOnes" "I", Cond.methodLink RX6 71 yX0_copyFrom, Cond.instanceMethod yX0_copyFrom, Cond.selects RX0 yX0_copyFrom yX0_copyFrom, Cond.initialized RX0, Cond.code yX0_copyFrom cX0_copyFrom 2 none, Cond.fieldLink RX0 7 "JudgedBits$BitRow" "bits" "J", Cond.fieldLink RX0 13 "JudgedBits$BitRow" "size" "I", Cond.methodLink RX6 74 yX7_copyFrom, Cond.instanceMethod yX7_copyFrom, Cond.selects RX7 yX7_copyFrom yX7_copyFrom, Cond.initialized RX7, Cond.code yX7_copyFrom cX7_copyFrom 2 none, Cond.fieldLink RX7 9 "JudgedBits$Tally" "samples" "I", Cond.fieldLink RX7 15 "JudgedBits$Tally" "ones" "I", Cond.fieldLink RX7 18 "JudgedBits$Tally" "leftOut" "I", Cond.fieldLink RX7 21 "JudgedBits$Tally" "stored" "I", Cond.fieldLink RX7 24 "JudgedBits$Tally" "lost" "I", Cond.fieldLink RX7 27 "JudgedBits$Tally" "drawn" "I", Cond.fieldLink RX7 30 "JudgedBits$Tally" "alarms" "I", Cond.fieldLink RX7 33 "JudgedBits$Tally" "longestRun" "I"]
def wsX2_bringBack : List Cond := .code yX2_bringBack cX2_bringBack 2 (some .int) :: ((wsX2_bringBack_r1 ++ (wsX2_bringBack_r2 ++ wsX2_bringBack_r3)) ++ wsX20 ++ wsX60 ++ wsX40 ++ wsX50 ++ wsX10 ++ wsX00 ++ wsX70)
def wsX8_init : List Cond := .code yX8_init cX8_init 1 none :: ([.methodLink RX8 3 objectInit, .instanceMethod objectInit, .code objectInit ⟨#[0xb1]⟩ 1 none, .arrayClass .char, .fieldLink RX8 11 "JudgedBits$Text" "characters" "[C", .fieldLink RX8 15 "JudgedBits$Text" "length" "I"] ++ wsX80)
def wsX3_init : List Cond := .code yX3_init cX3_init 1 none :: ([.methodLink RX3 1 objectInit, .instanceMethod objectInit, .code objectInit ⟨#[0xb1]⟩ 1 none, .fieldLink RX3 7 "JudgedBits$Orders" "start" "I", .fieldLink RX3 13 "JudgedBits$Orders" "place" "I", .fieldLink RX3 16 "JudgedBits$Orders" "done" "I", .fieldLink RX3 19 "JudgedBits$Orders" "reason" "I", .fieldLink RX3 22 "JudgedBits$Orders" "cause" "I", .fieldLink RX3 27 "JudgedBits$Orders" "kind" "I", .fieldLink RX3 30 "JudgedBits$Orders" "number" "I", .fieldLink RX3 33 "JudgedBits$Orders" "first" "I", .fieldLink RX3 36 "JudgedBits$Orders" "second" "I", .classLink RX3 25 RX8, .instantiable RX8 2, .initialized RX8, .fieldLink RX3 40 "JudgedBits$Orders" "text" "LJudgedBits$Text;", .instanceMethod yX8_init, .code yX8_init cX8_init 1 none, .methodLink RX8 3 objectInit, .arrayClass .char, .fieldLink RX8 11 "JudgedBits$Text" "characters" "[C", .fieldLink RX8 15 "JudgedBits$Text" "length" "I"] ++ wsX30 ++ wsX80)
def wsX9_isWithin : List Cond := .code yX9_isWithin cX9_isWithin 3 (some .boolean) :: ([])
def wsX8_at : List Cond := .code yX8_at cX8_at 2 (some .char) :: ([.fieldLink RX8 15 "JudgedBits$Text" "length" "I", .fieldLink RX8 11 "JudgedBits$Text" "characters" "[C", .methodLink RX8 25 Lib.Math.min.name, .static Lib.Math.min.name, .initialized "java/lang/Math", .code Lib.Math.min.name Lib.Math.min.code 2 (some .int), .static yX9_isWithin, .initialized RX9, .code yX9_isWithin cX9_isWithin 3 (some .boolean)] ++ wsX80)
def wsX3_isSkipped : List Cond := .code yX3_isSkipped cX3_isSkipped 2 (some .boolean) :: ([.fieldLink RX3 40 "JudgedBits$Orders" "text" "LJudgedBits$Text;", .fieldLink RX3 13 "JudgedBits$Orders" "place" "I", .methodLink RX3 55 yX8_at, .instanceMethod yX8_at, .selects RX8 yX8_at yX8_at, .initialized RX8, .code yX8_at cX8_at 2 (some .char), .fieldLink RX8 15 "JudgedBits$Text" "length" "I", .fieldLink RX8 11 "JudgedBits$Text" "characters" "[C", .methodLink RX8 25 Lib.Math.min.name, .static Lib.Math.min.name, .initialized "java/lang/Math", .code Lib.Math.min.name Lib.Math.min.code 2 (some .int), .static yX9_isWithin, .initialized RX9, .code yX9_isWithin cX9_isWithin 3 (some .boolean)] ++ wsX30 ++ wsX80)
def wsX3_isNumberRead : List Cond := .code yX3_isNumberRead cX3_isNumberRead 2 (some .boolean) :: ([.fieldLink RX3 30 "JudgedBits$Orders" "number" "I", .fieldLink RX3 13 "JudgedBits$Orders" "place" "I", .fieldLink RX3 40 "JudgedBits$Orders" "text" "LJudgedBits$Text;", .methodLink RX3 55 yX8_at, .instanceMethod yX8_at, .selects RX8 yX8_at yX8_at, .initialized RX8, .code yX8_at cX8_at 2 (some .char), .fieldLink RX8 15 "JudgedBits$Text" "length" "I", .fieldLink RX8 11 "JudgedBits$Text" "characters" "[C", .methodLink RX8 25 Lib.Math.min.name, .static Lib.Math.min.name, .initialized "java/lang/Math", .code Lib.Math.min.name Lib.Math.min.code 2 (some .int), .static yX9_isWithin, .initialized RX9, .code yX9_isWithin cX9_isWithin 3 (some .boolean)] ++ wsX30 ++ wsX80)
def wsX3_areRingNumbersRead_r1 : List Cond := [Cond.fieldLink RX3 30 "JudgedBits$Orders" "number" "I", Cond.fieldLink RX3 33 "JudgedBits$Orders" "first" "I", Cond.fieldLink RX3 36 "JudgedBits$Orders" "second" "I", Cond.methodLink RX3 63 yX3_isNumberRead, Cond.instanceMethod yX3_isNumberRead, Cond.selects RX3 yX3_isNumberRead yX3_isNumberRead, Cond.initialized RX3, Cond.code yX3_isNumberRead cX3_isNumberRead 2 (some .boolean), Cond.fieldLink RX3 13 "JudgedBits$Orders" "place" "I", Cond.fieldLink RX3 40 "JudgedBits$Orders" "text" "LJudgedBits$Text;", Cond.methodLink RX3 55 yX8_at, Cond.instanceMethod yX8_at, Cond.selects RX8 yX8_at yX8_at, Cond.initialized RX8, Cond.code yX8_at cX8_at 2 (some .char), Cond.fieldLink RX8 15 "JudgedBits$Text" "length" "I", Cond.fieldLink RX8 11 "JudgedBits$Text" "characters" "[C", Cond.methodLink RX8 25 Lib.Math.min.name, Cond.static Lib.Math.min.name, Cond.initialized "java/lang/Math", Cond.code Lib.Math.min.name Lib.Math.min.code 2 (some .int), Cond.static yX9_isWithin, Cond.initialized RX9, Cond.code yX9_isWithin cX9_isWithin 3 (some .boolean)]
def wsX3_areRingNumbersRead_r2 : List Cond := [Cond.methodLink RX3 59 yX3_isSkipped, Cond.instanceMethod yX3_isSkipped, Cond.selects RX3 yX3_isSkipped yX3_isSkipped, Cond.code yX3_isSkipped cX3_isSkipped 2 (some .boolean)]
def wsX3_areRingNumbersRead : List Cond := .code yX3_areRingNumbersRead cX3_areRingNumbersRead 1 (some .boolean) :: ((wsX3_areRingNumbersRead_r1 ++ wsX3_areRingNumbersRead_r2) ++ wsX30 ++ wsX80)
def wsX3_isRead_r1 : List Cond := [Cond.fieldLink RX3 40 "JudgedBits$Orders" "text" "LJudgedBits$Text;", Cond.fieldLink RX3 13 "JudgedBits$Orders" "place" "I", Cond.fieldLink RX3 27 "JudgedBits$Orders" "kind" "I", Cond.methodLink RX3 55 yX8_at, Cond.instanceMethod yX8_at, Cond.selects RX8 yX8_at yX8_at, Cond.initialized RX8, Cond.code yX8_at cX8_at 2 (some .char), Cond.fieldLink RX8 15 "JudgedBits$Text" "length" "I", Cond.fieldLink RX8 11 "JudgedBits$Text" "characters" "[C", Cond.methodLink RX8 25 Lib.Math.min.name, Cond.static Lib.Math.min.name, Cond.initialized "java/lang/Math", Cond.code Lib.Math.min.name Lib.Math.min.code 2 (some .int), Cond.static yX9_isWithin, Cond.initialized RX9, Cond.code yX9_isWithin cX9_isWithin 3 (some .boolean), Cond.methodLink RX3 59 yX3_isSkipped, Cond.instanceMethod yX3_isSkipped, Cond.selects RX3 yX3_isSkipped yX3_isSkipped, Cond.initialized RX3, Cond.code yX3_isSkipped cX3_isSkipped 2 (some .boolean), Cond.methodLink RX3 63 yX3_isNumberRead, Cond.instanceMethod yX3_isNumberRead]
def wsX3_isRead_r2 : List Cond := [Cond.selects RX3 yX3_isNumberRead yX3_isNumberRead, Cond.code yX3_isNumberRead cX3_isNumberRead 2 (some .boolean), Cond.fieldLink RX3 30 "JudgedBits$Orders" "number" "I", Cond.methodLink RX3 66 yX3_areRingNumbersRead, Cond.instanceMethod yX3_areRingNumbersRead, Cond.selects RX3 yX3_areRingNumbersRead yX3_areRingNumbersRead, Cond.code yX3_areRingNumbersRead cX3_areRingNumbersRead 1 (some .boolean), Cond.fieldLink RX3 33 "JudgedBits$Orders" "first" "I", Cond.fieldLink RX3 36 "JudgedBits$Orders" "second" "I"]
def wsX3_isRead : List Cond := .code yX3_isRead cX3_isRead 1 (some .boolean) :: ((wsX3_isRead_r1 ++ wsX3_isRead_r2) ++ wsX30 ++ wsX80)
def wsX6_ringAt : List Cond := .code yX6_ringAt cX6_ringAt 2 (some (.object "JudgedBits$Ring")) :: ([.fieldLink RX6 23 "JudgedBits$Source" "ringZero" "LJudgedBits$Ring;", .fieldLink RX6 27 "JudgedBits$Source" "ringOne" "LJudgedBits$Ring;"] ++ wsX60)
def wsX6_changeRing : List Cond := .code yX6_changeRing cX6_changeRing 6 (some .int) :: ([.constant RX6 81 (-1000001), .fieldLink RX6 86 "JudgedBits$Ring" "period" "I", .fieldLink RX6 89 "JudgedBits$Ring" "jitter" "I", .fieldLink RX6 92 "JudgedBits$Ring" "phase" "I", .static yX9_isWithin, .initialized RX9, .code yX9_isWithin cX9_isWithin 3 (some .boolean), .methodLink RX6 82 yX6_ringAt, .instanceMethod yX6_ringAt, .selects RX6 yX6_ringAt yX6_ringAt, .initialized RX6, .code yX6_ringAt cX6_ringAt 2 (some (.object "JudgedBits$Ring")), .fieldLink RX6 23 "JudgedBits$Source" "ringZero" "LJudgedBits$Ring;", .fieldLink RX6 27 "JudgedBits$Source" "ringOne" "LJudgedBits$Ring;"] ++ wsX40 ++ wsX60)
def wsX6_nextNoise : List Cond := .code yX6_nextNoise cX6_nextNoise 1 (some .int) :: ([.fieldLink RX6 9 "JudgedBits$Source" "noiseNumber" "I", .constant RX6 154 (65537)] ++ wsX60)
def wsX9_remainder : List Cond := .code yX9_remainder cX9_remainder 2 (some .int) :: ([])
def wsX4_advance : List Cond := .code yX4_advance cX4_advance 3 none :: ([.fieldLink RX4 15 "JudgedBits$Ring" "phase" "I", .fieldLink RX4 9 "JudgedBits$Ring" "jitter" "I", .fieldLink RX4 18 "JudgedBits$Ring" "period" "I", .static yX9_remainder, .initialized RX9, .code yX9_remainder cX9_remainder 2 (some .int)] ++ wsX40)
def wsX6_locksOn : List Cond := .code yX6_locksOn cX6_locksOn 1 (some .boolean) :: ([.fieldLink RX6 23 "JudgedBits$Source" "ringZero" "LJudgedBits$Ring;", .fieldLink RX6 86 "JudgedBits$Ring" "period" "I", .fieldLink RX6 27 "JudgedBits$Source" "ringOne" "LJudgedBits$Ring;", .methodLink RX6 146 Lib.Math.abs.name, .static Lib.Math.abs.name, .initialized "java/lang/Math", .code Lib.Math.abs.name Lib.Math.abs.code 1 (some .int), .fieldLink RX6 33 "JudgedBits$Source" "settings" "LJudgedBits$Settings;", .fieldLink RX6 151 "JudgedBits$Settings" "lock" "I"] ++ wsX60 ++ wsX40 ++ wsX50)
def wsX4_lockOn : List Cond := .code yX4_lockOn cX4_lockOn 2 none :: ([.fieldLink RX4 15 "JudgedBits$Ring" "phase" "I", .fieldLink RX4 18 "JudgedBits$Ring" "period" "I", .static yX9_remainder, .initialized RX9, .code yX9_remainder cX9_remainder 2 (some .int)] ++ wsX40)
def wsX4_isHigh : List Cond := .code yX4_isHigh cX4_isHigh 1 (some .boolean) :: ([.fieldLink RX4 15 "JudgedBits$Ring" "phase" "I", .fieldLink RX4 18 "JudgedBits$Ring" "period" "I"] ++ wsX40)
def wsX6_nextRawBit_r1 : List Cond := [Cond.fieldLink RX6 23 "JudgedBits$Source" "ringZero" "LJudgedBits$Ring;", Cond.fieldLink RX6 33 "JudgedBits$Source" "settings" "LJudgedBits$Settings;", Cond.fieldLink RX6 126 "JudgedBits$Settings" "step" "I", Cond.fieldLink RX6 27 "JudgedBits$Source" "ringOne" "LJudgedBits$Ring;", Cond.methodLink RX6 129 yX6_nextNoise, Cond.instanceMethod yX6_nextNoise, Cond.selects RX6 yX6_nextNoise yX6_nextNoise, Cond.initialized RX6, Cond.code yX6_nextNoise cX6_nextNoise 1 (some .int), Cond.fieldLink RX6 9 "JudgedBits$Source" "noiseNumber" "I", Cond.constant RX6 154 (65537), Cond.methodLink RX6 132 yX4_advance, Cond.instanceMethod yX4_advance, Cond.selects RX4 yX4_advance yX4_advance, Cond.initialized RX4, Cond.code yX4_advance cX4_advance 3 none, Cond.fieldLink RX4 15 "JudgedBits$Ring" "phase" "I", Cond.fieldLink RX4 9 "JudgedBits$Ring" "jitter" "I", Cond.fieldLink RX4 18 "JudgedBits$Ring" "period" "I", Cond.static yX9_remainder, Cond.initialized RX9, Cond.code yX9_remainder cX9_remainder 2 (some .int), Cond.methodLink RX6 136 yX6_locksOn, Cond.instanceMethod yX6_locksOn]
def wsX6_nextRawBit_r2 : List Cond := [Cond.selects RX6 yX6_locksOn yX6_locksOn, Cond.code yX6_locksOn cX6_locksOn 1 (some .boolean), Cond.fieldLink RX6 86 "JudgedBits$Ring" "period" "I", Cond.methodLink RX6 146 Lib.Math.abs.name, Cond.static Lib.Math.abs.name, Cond.initialized "java/lang/Math", Cond.code Lib.Math.abs.name Lib.Math.abs.code 1 (some .int), Cond.fieldLink RX6 151 "JudgedBits$Settings" "lock" "I", Cond.methodLink RX6 140 yX4_lockOn, Cond.instanceMethod yX4_lockOn, Cond.selects RX4 yX4_lockOn yX4_lockOn, Cond.code yX4_lockOn cX4_lockOn 2 none, Cond.methodLink RX6 143 yX4_isHigh, Cond.instanceMethod yX4_isHigh, Cond.selects RX4 yX4_isHigh yX4_isHigh, Cond.code yX4_isHigh cX4_isHigh 1 (some .boolean)]
def wsX6_nextRawBit : List Cond := .code yX6_nextRawBit cX6_nextRawBit 1 (some .int) :: ((wsX6_nextRawBit_r1 ++ wsX6_nextRawBit_r2) ++ wsX60 ++ wsX50 ++ wsX40)
def wsX6_pairUp : List Cond := .code yX6_pairUp cX6_pairUp 3 none :: ([.fieldLink RX6 15 "JudgedBits$Source" "waiting" "I", .fieldLink RX6 57 "JudgedBits$Source" "tally" "LJudgedBits$Tally;", .fieldLink RX6 184 "JudgedBits$Tally" "leftOut" "I", .fieldLink RX6 51 "JudgedBits$Source" "store" "LJudgedBits$BitRow;", .fieldLink RX6 190 "JudgedBits$Tally" "lost" "I", .fieldLink RX6 96 "JudgedBits$Tally" "stored" "I", .methodLink RX6 187 yX0_isFull, .instanceMethod yX0_isFull, .selects RX0 yX0_isFull yX0_isFull, .initialized RX0, .code yX0_isFull cX0_isFull 1 (some .boolean), .fieldLink RX0 13 "JudgedBits$BitRow" "size" "I", .methodLink RX6 155 yX0_append, .instanceMethod yX0_append, .selects RX0 yX0_append yX0_append, .code yX0_append cX0_append 2 none, .fieldLink RX0 7 "JudgedBits$BitRow" "bits" "J"] ++ wsX60 ++ wsX70 ++ wsX00)
def wsX6_takeRawBit_r1 : List Cond := [Cond.fieldLink RX6 47 "JudgedBits$Source" "rawBits" "LJudgedBits$BitRow;", Cond.fieldLink RX6 57 "JudgedBits$Source" "tally" "LJudgedBits$Tally;", Cond.fieldLink RX6 158 "JudgedBits$Tally" "samples" "I", Cond.fieldLink RX6 161 "JudgedBits$Tally" "ones" "I", Cond.fieldLink RX6 40 "JudgedBits$Source" "health" "LJudgedBits$Health;", Cond.fieldLink RX6 109 "JudgedBits$Health" "mode" "I", Cond.fieldLink RX6 33 "JudgedBits$Source" "settings" "LJudgedBits$Settings;", Cond.fieldLink RX6 168 "JudgedBits$Tally" "longestRun" "I", Cond.fieldLink RX6 171 "JudgedBits$Health" "run" "I", Cond.methodLink RX6 174 Lib.Math.max.name, Cond.static Lib.Math.max.name, Cond.initialized "java/lang/Math", Cond.code Lib.Math.max.name Lib.Math.max.code 2 (some .int), Cond.fieldLink RX6 178 "JudgedBits$Tally" "alarms" "I", Cond.fieldLink RX6 15 "JudgedBits$Source" "waiting" "I", Cond.methodLink RX6 155 yX0_append, Cond.instanceMethod yX0_append, Cond.selects RX0 yX0_append yX0_append, Cond.initialized RX0, Cond.code yX0_append cX0_append 2 none, Cond.fieldLink RX0 7 "JudgedBits$BitRow" "bits" "J", Cond.fieldLink RX0 13 "JudgedBits$BitRow" "size" "I", Cond.methodLink RX6 164 yX1_judge, Cond.instanceMethod yX1_judge]
def wsX6_takeRawBit_r2 : List Cond := [Cond.selects RX1 yX1_judge yX1_judge, Cond.initialized RX1, Cond.code yX1_judge cX1_judge 4 none, Cond.fieldLink RX1 35 "JudgedBits$Settings" "leastOnes" "I", Cond.fieldLink RX1 19 "JudgedBits$Health" "run" "I", Cond.fieldLink RX1 44 "JudgedBits$Settings" "longestRun" "I", Cond.fieldLink RX1 9 "JudgedBits$Health" "mode" "I", Cond.methodLink RX1 31 yX1_countInRun, Cond.instanceMethod yX1_countInRun, Cond.selects RX1 yX1_countInRun yX1_countInRun, Cond.code yX1_countInRun cX1_countInRun 2 none, Cond.fieldLink RX1 22 "JudgedBits$Health" "runBit" "I", Cond.methodLink RX1 40 yX1_failsShare, Cond.instanceMethod yX1_failsShare, Cond.selects RX1 yX1_failsShare yX1_failsShare, Cond.code yX1_failsShare cX1_failsShare 4 (some .boolean), Cond.fieldLink RX1 25 "JudgedBits$Health" "windowBits" "I", Cond.fieldLink RX1 28 "JudgedBits$Health" "windowOnes" "I", Cond.methodLink RX1 47 yX1_bringAlarm, Cond.instanceMethod yX1_bringAlarm, Cond.selects RX1 yX1_bringAlarm yX1_bringAlarm, Cond.code yX1_bringAlarm cX1_bringAlarm 2 none, Cond.fieldLink RX1 13 "JudgedBits$Health" "failedTest" "I", Cond.methodLink RX1 50 yX1_countInStartUp]
def wsX6_takeRawBit_r3 : List Cond := [Cond.instanceMethod yX1_countInStartUp, Cond.selects RX1 yX1_countInStartUp yX1_countInStartUp, Cond.code yX1_countInStartUp cX1_countInStartUp 1 none, Cond.fieldLink RX1 16 "JudgedBits$Health" "startUpBits" "I", Cond.methodLink RX6 181 yX6_pairUp, Cond.instanceMethod yX6_pairUp, Cond.selects RX6 yX6_pairUp yX6_pairUp, Cond.initialized RX6, Cond.code yX6_pairUp cX6_pairUp 3 none, Cond.fieldLink RX6 184 "JudgedBits$Tally" "leftOut" "I", Cond.fieldLink RX6 51 "JudgedBits$Source" "store" "LJudgedBits$BitRow;", Cond.fieldLink RX6 190 "JudgedBits$Tally" "lost" "I", Cond.fieldLink RX6 96 "JudgedBits$Tally" "stored" "I", Cond.methodLink RX6 187 yX0_isFull, Cond.instanceMethod yX0_isFull, Cond.selects RX0 yX0_isFull yX0_isFull, Cond.code yX0_isFull cX0_isFull 1 (some .boolean)]
def wsX6_takeRawBit : List Cond := .code yX6_takeRawBit cX6_takeRawBit 3 none :: ((wsX6_takeRawBit_r1 ++ (wsX6_takeRawBit_r2 ++ wsX6_takeRawBit_r3)) ++ wsX60 ++ wsX70 ++ wsX10 ++ wsX00 ++ wsX50)
def wsX6_makeSamples_r1 : List Cond := [Cond.constant RX6 81 (-1000001), Cond.fieldLink RX6 57 "JudgedBits$Source" "tally" "LJudgedBits$Tally;", Cond.fieldLink RX6 96 "JudgedBits$Tally" "stored" "I", Cond.static yX9_isWithin, Cond.initialized RX9, Cond.code yX9_isWithin cX9_isWithin 3 (some .boolean), Cond.methodLink RX6 99 yX6_nextRawBit, Cond.instanceMethod yX6_nextRawBit, Cond.selects RX6 yX6_nextRawBit yX6_nextRawBit, Cond.initialized RX6, Cond.code yX6_nextRawBit cX6_nextRawBit 1 (some .int), Cond.fieldLink RX6 23 "JudgedBits$Source" "ringZero" "LJudgedBits$Ring;", Cond.fieldLink RX6 33 "JudgedBits$Source" "settings" "LJudgedBits$Settings;", Cond.fieldLink RX6 126 "JudgedBits$Settings" "step" "I", Cond.fieldLink RX6 27 "JudgedBits$Source" "ringOne" "LJudgedBits$Ring;", Cond.methodLink RX6 129 yX6_nextNoise, Cond.instanceMethod yX6_nextNoise, Cond.selects RX6 yX6_nextNoise yX6_nextNoise, Cond.code yX6_nextNoise cX6_nextNoise 1 (some .int), Cond.fieldLink RX6 9 "JudgedBits$Source" "noiseNumber" "I", Cond.constant RX6 154 (65537), Cond.methodLink RX6 132 yX4_advance, Cond.instanceMethod yX4_advance, Cond.selects RX4 yX4_advance yX4_advance]
def wsX6_makeSamples_r2 : List Cond := [Cond.initialized RX4, Cond.code yX4_advance cX4_advance 3 none, Cond.fieldLink RX4 15 "JudgedBits$Ring" "phase" "I", Cond.fieldLink RX4 9 "JudgedBits$Ring" "jitter" "I", Cond.fieldLink RX4 18 "JudgedBits$Ring" "period" "I", Cond.static yX9_remainder, Cond.code yX9_remainder cX9_remainder 2 (some .int), Cond.methodLink RX6 136 yX6_locksOn, Cond.instanceMethod yX6_locksOn, Cond.selects RX6 yX6_locksOn yX6_locksOn, Cond.code yX6_locksOn cX6_locksOn 1 (some .boolean), Cond.fieldLink RX6 86 "JudgedBits$Ring" "period" "I", Cond.methodLink RX6 146 Lib.Math.abs.name, Cond.static Lib.Math.abs.name, Cond.initialized "java/lang/Math", Cond.code Lib.Math.abs.name Lib.Math.abs.code 1 (some .int), Cond.fieldLink RX6 151 "JudgedBits$Settings" "lock" "I", Cond.methodLink RX6 140 yX4_lockOn, Cond.instanceMethod yX4_lockOn, Cond.selects RX4 yX4_lockOn yX4_lockOn, Cond.code yX4_lockOn cX4_lockOn 2 none, Cond.methodLink RX6 143 yX4_isHigh, Cond.instanceMethod yX4_isHigh, Cond.selects RX4 yX4_isHigh yX4_isHigh]
def wsX6_makeSamples_r3 : List Cond := [Cond.code yX4_isHigh cX4_isHigh 1 (some .boolean), Cond.methodLink RX6 103 yX6_takeRawBit, Cond.instanceMethod yX6_takeRawBit, Cond.selects RX6 yX6_takeRawBit yX6_takeRawBit, Cond.code yX6_takeRawBit cX6_takeRawBit 3 none, Cond.fieldLink RX6 47 "JudgedBits$Source" "rawBits" "LJudgedBits$BitRow;", Cond.fieldLink RX6 158 "JudgedBits$Tally" "samples" "I", Cond.fieldLink RX6 161 "JudgedBits$Tally" "ones" "I", Cond.fieldLink RX6 40 "JudgedBits$Source" "health" "LJudgedBits$Health;", Cond.fieldLink RX6 109 "JudgedBits$Health" "mode" "I", Cond.fieldLink RX6 168 "JudgedBits$Tally" "longestRun" "I", Cond.fieldLink RX6 171 "JudgedBits$Health" "run" "I", Cond.methodLink RX6 174 Lib.Math.max.name, Cond.static Lib.Math.max.name, Cond.code Lib.Math.max.name Lib.Math.max.code 2 (some .int), Cond.fieldLink RX6 178 "JudgedBits$Tally" "alarms" "I", Cond.fieldLink RX6 15 "JudgedBits$Source" "waiting" "I", Cond.methodLink RX6 155 yX0_append, Cond.instanceMethod yX0_append, Cond.selects RX0 yX0_append yX0_append, Cond.initialized RX0, Cond.code yX0_append cX0_append 2 none, Cond.fieldLink RX0 7 "JudgedBits$BitRow" "bits" "J", Cond.fieldLink RX0 13 "JudgedBits$BitRow" "size" "I"]
def wsX6_makeSamples_r4 : List Cond := [Cond.methodLink RX6 164 yX1_judge, Cond.instanceMethod yX1_judge, Cond.selects RX1 yX1_judge yX1_judge, Cond.initialized RX1, Cond.code yX1_judge cX1_judge 4 none, Cond.fieldLink RX1 35 "JudgedBits$Settings" "leastOnes" "I", Cond.fieldLink RX1 19 "JudgedBits$Health" "run" "I", Cond.fieldLink RX1 44 "JudgedBits$Settings" "longestRun" "I", Cond.fieldLink RX1 9 "JudgedBits$Health" "mode" "I", Cond.methodLink RX1 31 yX1_countInRun, Cond.instanceMethod yX1_countInRun, Cond.selects RX1 yX1_countInRun yX1_countInRun, Cond.code yX1_countInRun cX1_countInRun 2 none, Cond.fieldLink RX1 22 "JudgedBits$Health" "runBit" "I", Cond.methodLink RX1 40 yX1_failsShare, Cond.instanceMethod yX1_failsShare, Cond.selects RX1 yX1_failsShare yX1_failsShare, Cond.code yX1_failsShare cX1_failsShare 4 (some .boolean), Cond.fieldLink RX1 25 "JudgedBits$Health" "windowBits" "I", Cond.fieldLink RX1 28 "JudgedBits$Health" "windowOnes" "I", Cond.methodLink RX1 47 yX1_bringAlarm, Cond.instanceMethod yX1_bringAlarm, Cond.selects RX1 yX1_bringAlarm yX1_bringAlarm, Cond.code yX1_bringAlarm cX1_bringAlarm 2 none]
def wsX6_makeSamples_r5 : List Cond := [Cond.fieldLink RX1 13 "JudgedBits$Health" "failedTest" "I", Cond.methodLink RX1 50 yX1_countInStartUp, Cond.instanceMethod yX1_countInStartUp, Cond.selects RX1 yX1_countInStartUp yX1_countInStartUp, Cond.code yX1_countInStartUp cX1_countInStartUp 1 none, Cond.fieldLink RX1 16 "JudgedBits$Health" "startUpBits" "I", Cond.methodLink RX6 181 yX6_pairUp, Cond.instanceMethod yX6_pairUp, Cond.selects RX6 yX6_pairUp yX6_pairUp, Cond.code yX6_pairUp cX6_pairUp 3 none, Cond.fieldLink RX6 184 "JudgedBits$Tally" "leftOut" "I", Cond.fieldLink RX6 51 "JudgedBits$Source" "store" "LJudgedBits$BitRow;", Cond.fieldLink RX6 190 "JudgedBits$Tally" "lost" "I", Cond.methodLink RX6 187 yX0_isFull, Cond.instanceMethod yX0_isFull, Cond.selects RX0 yX0_isFull yX0_isFull, Cond.code yX0_isFull cX0_isFull 1 (some .boolean)]
def wsX6_makeSamples : List Cond := .code yX6_makeSamples cX6_makeSamples 4 (some .int) :: ((wsX6_makeSamples_r1 ++ (wsX6_makeSamples_r2 ++ (wsX6_makeSamples_r3 ++ (wsX6_makeSamples_r4 ++ wsX6_makeSamples_r5)))) ++ wsX60 ++ wsX70 ++ wsX50 ++ wsX40 ++ wsX10 ++ wsX00)
def wsX6_drawBits : List Cond := .code yX6_drawBits cX6_drawBits 2 (some .int) :: ([.constant RX6 81 (-1000001), .fieldLink RX6 51 "JudgedBits$Source" "store" "LJudgedBits$BitRow;", .fieldLink RX6 106 "JudgedBits$BitRow" "size" "I", .fieldLink RX6 40 "JudgedBits$Source" "health" "LJudgedBits$Health;", .fieldLink RX6 109 "JudgedBits$Health" "mode" "I", .constant RX6 112 (-1000002), .fieldLink RX6 57 "JudgedBits$Source" "tally" "LJudgedBits$Tally;", .fieldLink RX6 113 "JudgedBits$Tally" "drawn" "I", .static yX9_isWithin, .initialized RX9, .code yX9_isWithin cX9_isWithin 3 (some .boolean), .methodLink RX6 116 yX0_takeEarliest, .instanceMethod yX0_takeEarliest, .selects RX0 yX0_takeEarliest yX0_takeEarliest, .initialized RX0, .code yX0_takeEarliest cX0_takeEarliest 4 (some .int), .fieldLink RX0 13 "JudgedBits$BitRow" "size" "I", .fieldLink RX0 7 "JudgedBits$BitRow" "bits" "J"] ++ wsX60 ++ wsX00 ++ wsX10 ++ wsX70)
def wsX6_startAnew : List Cond := .code yX6_startAnew cX6_startAnew 2 (some .int) :: ([.fieldLink RX6 51 "JudgedBits$Source" "store" "LJudgedBits$BitRow;", .fieldLink RX6 106 "JudgedBits$BitRow" "size" "I", .fieldLink RX6 40 "JudgedBits$Source" "health" "LJudgedBits$Health;", .fieldLink RX6 15 "JudgedBits$Source" "waiting" "I", .methodLink RX6 120 yX0_clear, .instanceMethod yX0_clear, .selects RX0 yX0_clear yX0_clear, .initialized RX0, .code yX0_clear cX0_clear 1 none, .fieldLink RX0 7 "JudgedBits$BitRow" "bits" "J", .fieldLink RX0 13 "JudgedBits$BitRow" "size" "I", .methodLink RX6 123 yX1_startAnew, .instanceMethod yX1_startAnew, .selects RX1 yX1_startAnew yX1_startAnew, .initialized RX1, .code yX1_startAnew cX1_startAnew 1 none, .fieldLink RX1 9 "JudgedBits$Health" "mode" "I", .fieldLink RX1 13 "JudgedBits$Health" "failedTest" "I", .fieldLink RX1 16 "JudgedBits$Health" "startUpBits" "I", .fieldLink RX1 19 "JudgedBits$Health" "run" "I", .fieldLink RX1 22 "JudgedBits$Health" "runBit" "I", .fieldLink RX1 25 "JudgedBits$Health" "windowBits" "I", .fieldLink RX1 28 "JudgedBits$Health" "windowOnes" "I"] ++ wsX60 ++ wsX00 ++ wsX10)
def wsX6_changeNoise : List Cond := .code yX6_changeNoise cX6_changeNoise 3 (some .int) :: ([.constant RX6 95 (65536), .constant RX6 81 (-1000001), .fieldLink RX6 9 "JudgedBits$Source" "noiseNumber" "I", .static yX9_isWithin, .initialized RX9, .code yX9_isWithin cX9_isWithin 3 (some .boolean)] ++ wsX60)
def wsX3_doOn_r1 : List Cond := [Cond.fieldLink RX3 27 "JudgedBits$Orders" "kind" "I", Cond.fieldLink RX3 33 "JudgedBits$Orders" "first" "I", Cond.fieldLink RX3 36 "JudgedBits$Orders" "second" "I", Cond.fieldLink RX3 30 "JudgedBits$Orders" "number" "I", Cond.methodLink RX3 75 yX6_changeRing, Cond.instanceMethod yX6_changeRing, Cond.selects RX6 yX6_changeRing yX6_changeRing, Cond.initialized RX6, Cond.code yX6_changeRing cX6_changeRing 6 (some .int), Cond.constant RX6 81 (-1000001), Cond.fieldLink RX6 86 "JudgedBits$Ring" "period" "I", Cond.fieldLink RX6 89 "JudgedBits$Ring" "jitter" "I", Cond.fieldLink RX6 92 "JudgedBits$Ring" "phase" "I", Cond.static yX9_isWithin, Cond.initialized RX9, Cond.code yX9_isWithin cX9_isWithin 3 (some .boolean), Cond.methodLink RX6 82 yX6_ringAt, Cond.instanceMethod yX6_ringAt, Cond.selects RX6 yX6_ringAt yX6_ringAt, Cond.code yX6_ringAt cX6_ringAt 2 (some (.object "JudgedBits$Ring")), Cond.fieldLink RX6 23 "JudgedBits$Source" "ringZero" "LJudgedBits$Ring;", Cond.fieldLink RX6 27 "JudgedBits$Source" "ringOne" "LJudgedBits$Ring;", Cond.methodLink RX3 81 yX6_makeSamples, Cond.instanceMethod yX6_makeSamples]
def wsX3_doOn_r2 : List Cond := [Cond.selects RX6 yX6_makeSamples yX6_makeSamples, Cond.code yX6_makeSamples cX6_makeSamples 4 (some .int), Cond.fieldLink RX6 57 "JudgedBits$Source" "tally" "LJudgedBits$Tally;", Cond.fieldLink RX6 96 "JudgedBits$Tally" "stored" "I", Cond.methodLink RX6 99 yX6_nextRawBit, Cond.instanceMethod yX6_nextRawBit, Cond.selects RX6 yX6_nextRawBit yX6_nextRawBit, Cond.code yX6_nextRawBit cX6_nextRawBit 1 (some .int), Cond.fieldLink RX6 33 "JudgedBits$Source" "settings" "LJudgedBits$Settings;", Cond.fieldLink RX6 126 "JudgedBits$Settings" "step" "I", Cond.methodLink RX6 129 yX6_nextNoise, Cond.instanceMethod yX6_nextNoise, Cond.selects RX6 yX6_nextNoise yX6_nextNoise, Cond.code yX6_nextNoise cX6_nextNoise 1 (some .int), Cond.fieldLink RX6 9 "JudgedBits$Source" "noiseNumber" "I", Cond.constant RX6 154 (65537), Cond.methodLink RX6 132 yX4_advance, Cond.instanceMethod yX4_advance, Cond.selects RX4 yX4_advance yX4_advance, Cond.initialized RX4, Cond.code yX4_advance cX4_advance 3 none, Cond.fieldLink RX4 15 "JudgedBits$Ring" "phase" "I", Cond.fieldLink RX4 9 "JudgedBits$Ring" "jitter" "I", Cond.fieldLink RX4 18 "JudgedBits$Ring" "period" "I"]
def wsX3_doOn_r3 : List Cond := [Cond.static yX9_remainder, Cond.code yX9_remainder cX9_remainder 2 (some .int), Cond.methodLink RX6 136 yX6_locksOn, Cond.instanceMethod yX6_locksOn, Cond.selects RX6 yX6_locksOn yX6_locksOn, Cond.code yX6_locksOn cX6_locksOn 1 (some .boolean), Cond.methodLink RX6 146 Lib.Math.abs.name, Cond.static Lib.Math.abs.name, Cond.initialized "java/lang/Math", Cond.code Lib.Math.abs.name Lib.Math.abs.code 1 (some .int), Cond.fieldLink RX6 151 "JudgedBits$Settings" "lock" "I", Cond.methodLink RX6 140 yX4_lockOn, Cond.instanceMethod yX4_lockOn, Cond.selects RX4 yX4_lockOn yX4_lockOn, Cond.code yX4_lockOn cX4_lockOn 2 none, Cond.methodLink RX6 143 yX4_isHigh, Cond.instanceMethod yX4_isHigh, Cond.selects RX4 yX4_isHigh yX4_isHigh, Cond.code yX4_isHigh cX4_isHigh 1 (some .boolean), Cond.methodLink RX6 103 yX6_takeRawBit, Cond.instanceMethod yX6_takeRawBit, Cond.selects RX6 yX6_takeRawBit yX6_takeRawBit, Cond.code yX6_takeRawBit cX6_takeRawBit 3 none, Cond.fieldLink RX6 47 "JudgedBits$Source" "rawBits" "LJudgedBits$BitRow;"]
def wsX3_doOn_r4 : List Cond := [Cond.fieldLink RX6 158 "JudgedBits$Tally" "samples" "I", Cond.fieldLink RX6 161 "JudgedBits$Tally" "ones" "I", Cond.fieldLink RX6 40 "JudgedBits$Source" "health" "LJudgedBits$Health;", Cond.fieldLink RX6 109 "JudgedBits$Health" "mode" "I", Cond.fieldLink RX6 168 "JudgedBits$Tally" "longestRun" "I", Cond.fieldLink RX6 171 "JudgedBits$Health" "run" "I", Cond.methodLink RX6 174 Lib.Math.max.name, Cond.static Lib.Math.max.name, Cond.code Lib.Math.max.name Lib.Math.max.code 2 (some .int), Cond.fieldLink RX6 178 "JudgedBits$Tally" "alarms" "I", Cond.fieldLink RX6 15 "JudgedBits$Source" "waiting" "I", Cond.methodLink RX6 155 yX0_append, Cond.instanceMethod yX0_append, Cond.selects RX0 yX0_append yX0_append, Cond.initialized RX0, Cond.code yX0_append cX0_append 2 none, Cond.fieldLink RX0 7 "JudgedBits$BitRow" "bits" "J", Cond.fieldLink RX0 13 "JudgedBits$BitRow" "size" "I", Cond.methodLink RX6 164 yX1_judge, Cond.instanceMethod yX1_judge, Cond.selects RX1 yX1_judge yX1_judge, Cond.initialized RX1, Cond.code yX1_judge cX1_judge 4 none, Cond.fieldLink RX1 35 "JudgedBits$Settings" "leastOnes" "I"]
def wsX3_doOn_r5 : List Cond := [Cond.fieldLink RX1 19 "JudgedBits$Health" "run" "I", Cond.fieldLink RX1 44 "JudgedBits$Settings" "longestRun" "I", Cond.fieldLink RX1 9 "JudgedBits$Health" "mode" "I", Cond.methodLink RX1 31 yX1_countInRun, Cond.instanceMethod yX1_countInRun, Cond.selects RX1 yX1_countInRun yX1_countInRun, Cond.code yX1_countInRun cX1_countInRun 2 none, Cond.fieldLink RX1 22 "JudgedBits$Health" "runBit" "I", Cond.methodLink RX1 40 yX1_failsShare, Cond.instanceMethod yX1_failsShare, Cond.selects RX1 yX1_failsShare yX1_failsShare, Cond.code yX1_failsShare cX1_failsShare 4 (some .boolean), Cond.fieldLink RX1 25 "JudgedBits$Health" "windowBits" "I", Cond.fieldLink RX1 28 "JudgedBits$Health" "windowOnes" "I", Cond.methodLink RX1 47 yX1_bringAlarm, Cond.instanceMethod yX1_bringAlarm, Cond.selects RX1 yX1_bringAlarm yX1_bringAlarm, Cond.code yX1_bringAlarm cX1_bringAlarm 2 none, Cond.fieldLink RX1 13 "JudgedBits$Health" "failedTest" "I", Cond.methodLink RX1 50 yX1_countInStartUp, Cond.instanceMethod yX1_countInStartUp, Cond.selects RX1 yX1_countInStartUp yX1_countInStartUp, Cond.code yX1_countInStartUp cX1_countInStartUp 1 none, Cond.fieldLink RX1 16 "JudgedBits$Health" "startUpBits" "I"]
def wsX3_doOn_r6 : List Cond := [Cond.methodLink RX6 181 yX6_pairUp, Cond.instanceMethod yX6_pairUp, Cond.selects RX6 yX6_pairUp yX6_pairUp, Cond.code yX6_pairUp cX6_pairUp 3 none, Cond.fieldLink RX6 184 "JudgedBits$Tally" "leftOut" "I", Cond.fieldLink RX6 51 "JudgedBits$Source" "store" "LJudgedBits$BitRow;", Cond.fieldLink RX6 190 "JudgedBits$Tally" "lost" "I", Cond.methodLink RX6 187 yX0_isFull, Cond.instanceMethod yX0_isFull, Cond.selects RX0 yX0_isFull yX0_isFull, Cond.code yX0_isFull cX0_isFull 1 (some .boolean), Cond.methodLink RX3 85 yX6_drawBits, Cond.instanceMethod yX6_drawBits, Cond.selects RX6 yX6_drawBits yX6_drawBits, Cond.code yX6_drawBits cX6_drawBits 2 (some .int), Cond.fieldLink RX6 106 "JudgedBits$BitRow" "size" "I", Cond.constant RX6 112 (-1000002), Cond.fieldLink RX6 113 "JudgedBits$Tally" "drawn" "I", Cond.methodLink RX6 116 yX0_takeEarliest, Cond.instanceMethod yX0_takeEarliest, Cond.selects RX0 yX0_takeEarliest yX0_takeEarliest, Cond.code yX0_takeEarliest cX0_takeEarliest 4 (some .int), Cond.methodLink RX3 88 yX6_startAnew, Cond.instanceMethod yX6_startAnew]
def wsX3_doOn_r7 : List Cond := [Cond.selects RX6 yX6_startAnew yX6_startAnew, Cond.code yX6_startAnew cX6_startAnew 2 (some .int), Cond.methodLink RX6 120 yX0_clear, Cond.instanceMethod yX0_clear, Cond.selects RX0 yX0_clear yX0_clear, Cond.code yX0_clear cX0_clear 1 none, Cond.methodLink RX6 123 yX1_startAnew, Cond.instanceMethod yX1_startAnew, Cond.selects RX1 yX1_startAnew yX1_startAnew, Cond.code yX1_startAnew cX1_startAnew 1 none, Cond.methodLink RX3 92 yX6_changeNoise, Cond.instanceMethod yX6_changeNoise, Cond.selects RX6 yX6_changeNoise yX6_changeNoise, Cond.code yX6_changeNoise cX6_changeNoise 3 (some .int), Cond.constant RX6 95 (65536)]
def wsX3_doOn : List Cond := .code yX3_doOn cX3_doOn 2 (some .int) :: ((wsX3_doOn_r1 ++ (wsX3_doOn_r2 ++ (wsX3_doOn_r3 ++ (wsX3_doOn_r4 ++ (wsX3_doOn_r5 ++ (wsX3_doOn_r6 ++ wsX3_doOn_r7)))))) ++ wsX30 ++ wsX40 ++ wsX60 ++ wsX70 ++ wsX50 ++ wsX10 ++ wsX00)
def wsX3_areDoneOn_r1 : List Cond := [Cond.fieldLink RX3 13 "JudgedBits$Orders" "place" "I", Cond.fieldLink RX3 16 "JudgedBits$Orders" "done" "I", Cond.fieldLink RX3 40 "JudgedBits$Orders" "text" "LJudgedBits$Text;", Cond.fieldLink RX3 44 "JudgedBits$Text" "length" "I", Cond.fieldLink RX3 7 "JudgedBits$Orders" "start" "I", Cond.fieldLink RX3 19 "JudgedBits$Orders" "reason" "I", Cond.fieldLink RX3 22 "JudgedBits$Orders" "cause" "I", Cond.methodLink RX3 47 yX3_isRead, Cond.instanceMethod yX3_isRead, Cond.selects RX3 yX3_isRead yX3_isRead, Cond.initialized RX3, Cond.code yX3_isRead cX3_isRead 1 (some .boolean), Cond.fieldLink RX3 27 "JudgedBits$Orders" "kind" "I", Cond.methodLink RX3 55 yX8_at, Cond.instanceMethod yX8_at, Cond.selects RX8 yX8_at yX8_at, Cond.initialized RX8, Cond.code yX8_at cX8_at 2 (some .char), Cond.fieldLink RX8 15 "JudgedBits$Text" "length" "I", Cond.fieldLink RX8 11 "JudgedBits$Text" "characters" "[C", Cond.methodLink RX8 25 Lib.Math.min.name, Cond.static Lib.Math.min.name, Cond.initialized "java/lang/Math", Cond.code Lib.Math.min.name Lib.Math.min.code 2 (some .int)]
def wsX3_areDoneOn_r2 : List Cond := [Cond.static yX9_isWithin, Cond.initialized RX9, Cond.code yX9_isWithin cX9_isWithin 3 (some .boolean), Cond.methodLink RX3 59 yX3_isSkipped, Cond.instanceMethod yX3_isSkipped, Cond.selects RX3 yX3_isSkipped yX3_isSkipped, Cond.code yX3_isSkipped cX3_isSkipped 2 (some .boolean), Cond.methodLink RX3 63 yX3_isNumberRead, Cond.instanceMethod yX3_isNumberRead, Cond.selects RX3 yX3_isNumberRead yX3_isNumberRead, Cond.code yX3_isNumberRead cX3_isNumberRead 2 (some .boolean), Cond.fieldLink RX3 30 "JudgedBits$Orders" "number" "I", Cond.methodLink RX3 66 yX3_areRingNumbersRead, Cond.instanceMethod yX3_areRingNumbersRead, Cond.selects RX3 yX3_areRingNumbersRead yX3_areRingNumbersRead, Cond.code yX3_areRingNumbersRead cX3_areRingNumbersRead 1 (some .boolean), Cond.fieldLink RX3 33 "JudgedBits$Orders" "first" "I", Cond.fieldLink RX3 36 "JudgedBits$Orders" "second" "I", Cond.methodLink RX3 51 yX3_doOn, Cond.instanceMethod yX3_doOn, Cond.selects RX3 yX3_doOn yX3_doOn, Cond.code yX3_doOn cX3_doOn 2 (some .int), Cond.methodLink RX3 75 yX6_changeRing, Cond.instanceMethod yX6_changeRing]
def wsX3_areDoneOn_r3 : List Cond := [Cond.selects RX6 yX6_changeRing yX6_changeRing, Cond.initialized RX6, Cond.code yX6_changeRing cX6_changeRing 6 (some .int), Cond.constant RX6 81 (-1000001), Cond.fieldLink RX6 86 "JudgedBits$Ring" "period" "I", Cond.fieldLink RX6 89 "JudgedBits$Ring" "jitter" "I", Cond.fieldLink RX6 92 "JudgedBits$Ring" "phase" "I", Cond.methodLink RX6 82 yX6_ringAt, Cond.instanceMethod yX6_ringAt, Cond.selects RX6 yX6_ringAt yX6_ringAt, Cond.code yX6_ringAt cX6_ringAt 2 (some (.object "JudgedBits$Ring")), Cond.fieldLink RX6 23 "JudgedBits$Source" "ringZero" "LJudgedBits$Ring;", Cond.fieldLink RX6 27 "JudgedBits$Source" "ringOne" "LJudgedBits$Ring;", Cond.methodLink RX3 81 yX6_makeSamples, Cond.instanceMethod yX6_makeSamples, Cond.selects RX6 yX6_makeSamples yX6_makeSamples, Cond.code yX6_makeSamples cX6_makeSamples 4 (some .int), Cond.fieldLink RX6 57 "JudgedBits$Source" "tally" "LJudgedBits$Tally;", Cond.fieldLink RX6 96 "JudgedBits$Tally" "stored" "I", Cond.methodLink RX6 99 yX6_nextRawBit, Cond.instanceMethod yX6_nextRawBit, Cond.selects RX6 yX6_nextRawBit yX6_nextRawBit, Cond.code yX6_nextRawBit cX6_nextRawBit 1 (some .int), Cond.fieldLink RX6 33 "JudgedBits$Source" "settings" "LJudgedBits$Settings;"]
def wsX3_areDoneOn_r4 : List Cond := [Cond.fieldLink RX6 126 "JudgedBits$Settings" "step" "I", Cond.methodLink RX6 129 yX6_nextNoise, Cond.instanceMethod yX6_nextNoise, Cond.selects RX6 yX6_nextNoise yX6_nextNoise, Cond.code yX6_nextNoise cX6_nextNoise 1 (some .int), Cond.fieldLink RX6 9 "JudgedBits$Source" "noiseNumber" "I", Cond.constant RX6 154 (65537), Cond.methodLink RX6 132 yX4_advance, Cond.instanceMethod yX4_advance, Cond.selects RX4 yX4_advance yX4_advance, Cond.initialized RX4, Cond.code yX4_advance cX4_advance 3 none, Cond.fieldLink RX4 15 "JudgedBits$Ring" "phase" "I", Cond.fieldLink RX4 9 "JudgedBits$Ring" "jitter" "I", Cond.fieldLink RX4 18 "JudgedBits$Ring" "period" "I", Cond.static yX9_remainder, Cond.code yX9_remainder cX9_remainder 2 (some .int), Cond.methodLink RX6 136 yX6_locksOn, Cond.instanceMethod yX6_locksOn, Cond.selects RX6 yX6_locksOn yX6_locksOn, Cond.code yX6_locksOn cX6_locksOn 1 (some .boolean), Cond.methodLink RX6 146 Lib.Math.abs.name, Cond.static Lib.Math.abs.name, Cond.code Lib.Math.abs.name Lib.Math.abs.code 1 (some .int)]
def wsX3_areDoneOn_r5 : List Cond := [Cond.fieldLink RX6 151 "JudgedBits$Settings" "lock" "I", Cond.methodLink RX6 140 yX4_lockOn, Cond.instanceMethod yX4_lockOn, Cond.selects RX4 yX4_lockOn yX4_lockOn, Cond.code yX4_lockOn cX4_lockOn 2 none, Cond.methodLink RX6 143 yX4_isHigh, Cond.instanceMethod yX4_isHigh, Cond.selects RX4 yX4_isHigh yX4_isHigh, Cond.code yX4_isHigh cX4_isHigh 1 (some .boolean), Cond.methodLink RX6 103 yX6_takeRawBit, Cond.instanceMethod yX6_takeRawBit, Cond.selects RX6 yX6_takeRawBit yX6_takeRawBit, Cond.code yX6_takeRawBit cX6_takeRawBit 3 none, Cond.fieldLink RX6 47 "JudgedBits$Source" "rawBits" "LJudgedBits$BitRow;", Cond.fieldLink RX6 158 "JudgedBits$Tally" "samples" "I", Cond.fieldLink RX6 161 "JudgedBits$Tally" "ones" "I", Cond.fieldLink RX6 40 "JudgedBits$Source" "health" "LJudgedBits$Health;", Cond.fieldLink RX6 109 "JudgedBits$Health" "mode" "I", Cond.fieldLink RX6 168 "JudgedBits$Tally" "longestRun" "I", Cond.fieldLink RX6 171 "JudgedBits$Health" "run" "I", Cond.methodLink RX6 174 Lib.Math.max.name, Cond.static Lib.Math.max.name, Cond.code Lib.Math.max.name Lib.Math.max.code 2 (some .int), Cond.fieldLink RX6 178 "JudgedBits$Tally" "alarms" "I"]
def wsX3_areDoneOn_r6 : List Cond := [Cond.fieldLink RX6 15 "JudgedBits$Source" "waiting" "I", Cond.methodLink RX6 155 yX0_append, Cond.instanceMethod yX0_append, Cond.selects RX0 yX0_append yX0_append, Cond.initialized RX0, Cond.code yX0_append cX0_append 2 none, Cond.fieldLink RX0 7 "JudgedBits$BitRow" "bits" "J", Cond.fieldLink RX0 13 "JudgedBits$BitRow" "size" "I", Cond.methodLink RX6 164 yX1_judge, Cond.instanceMethod yX1_judge, Cond.selects RX1 yX1_judge yX1_judge, Cond.initialized RX1, Cond.code yX1_judge cX1_judge 4 none, Cond.fieldLink RX1 35 "JudgedBits$Settings" "leastOnes" "I", Cond.fieldLink RX1 19 "JudgedBits$Health" "run" "I", Cond.fieldLink RX1 44 "JudgedBits$Settings" "longestRun" "I", Cond.fieldLink RX1 9 "JudgedBits$Health" "mode" "I", Cond.methodLink RX1 31 yX1_countInRun, Cond.instanceMethod yX1_countInRun, Cond.selects RX1 yX1_countInRun yX1_countInRun, Cond.code yX1_countInRun cX1_countInRun 2 none, Cond.fieldLink RX1 22 "JudgedBits$Health" "runBit" "I", Cond.methodLink RX1 40 yX1_failsShare, Cond.instanceMethod yX1_failsShare]
def wsX3_areDoneOn_r7 : List Cond := [Cond.selects RX1 yX1_failsShare yX1_failsShare, Cond.code yX1_failsShare cX1_failsShare 4 (some .boolean), Cond.fieldLink RX1 25 "JudgedBits$Health" "windowBits" "I", Cond.fieldLink RX1 28 "JudgedBits$Health" "windowOnes" "I", Cond.methodLink RX1 47 yX1_bringAlarm, Cond.instanceMethod yX1_bringAlarm, Cond.selects RX1 yX1_bringAlarm yX1_bringAlarm, Cond.code yX1_bringAlarm cX1_bringAlarm 2 none, Cond.fieldLink RX1 13 "JudgedBits$Health" "failedTest" "I", Cond.methodLink RX1 50 yX1_countInStartUp, Cond.instanceMethod yX1_countInStartUp, Cond.selects RX1 yX1_countInStartUp yX1_countInStartUp, Cond.code yX1_countInStartUp cX1_countInStartUp 1 none, Cond.fieldLink RX1 16 "JudgedBits$Health" "startUpBits" "I", Cond.methodLink RX6 181 yX6_pairUp, Cond.instanceMethod yX6_pairUp, Cond.selects RX6 yX6_pairUp yX6_pairUp, Cond.code yX6_pairUp cX6_pairUp 3 none, Cond.fieldLink RX6 184 "JudgedBits$Tally" "leftOut" "I", Cond.fieldLink RX6 51 "JudgedBits$Source" "store" "LJudgedBits$BitRow;", Cond.fieldLink RX6 190 "JudgedBits$Tally" "lost" "I", Cond.methodLink RX6 187 yX0_isFull, Cond.instanceMethod yX0_isFull, Cond.selects RX0 yX0_isFull yX0_isFull]
def wsX3_areDoneOn_r8 : List Cond := [Cond.code yX0_isFull cX0_isFull 1 (some .boolean), Cond.methodLink RX3 85 yX6_drawBits, Cond.instanceMethod yX6_drawBits, Cond.selects RX6 yX6_drawBits yX6_drawBits, Cond.code yX6_drawBits cX6_drawBits 2 (some .int), Cond.fieldLink RX6 106 "JudgedBits$BitRow" "size" "I", Cond.constant RX6 112 (-1000002), Cond.fieldLink RX6 113 "JudgedBits$Tally" "drawn" "I", Cond.methodLink RX6 116 yX0_takeEarliest, Cond.instanceMethod yX0_takeEarliest, Cond.selects RX0 yX0_takeEarliest yX0_takeEarliest, Cond.code yX0_takeEarliest cX0_takeEarliest 4 (some .int), Cond.methodLink RX3 88 yX6_startAnew, Cond.instanceMethod yX6_startAnew, Cond.selects RX6 yX6_startAnew yX6_startAnew, Cond.code yX6_startAnew cX6_startAnew 2 (some .int), Cond.methodLink RX6 120 yX0_clear, Cond.instanceMethod yX0_clear, Cond.selects RX0 yX0_clear yX0_clear, Cond.code yX0_clear cX0_clear 1 none, Cond.methodLink RX6 123 yX1_startAnew, Cond.instanceMethod yX1_startAnew, Cond.selects RX1 yX1_startAnew yX1_startAnew, Cond.code yX1_startAnew cX1_startAnew 1 none]
def wsX3_areDoneOn_r9 : List Cond := [Cond.methodLink RX3 92 yX6_changeNoise, Cond.instanceMethod yX6_changeNoise, Cond.selects RX6 yX6_changeNoise yX6_changeNoise, Cond.code yX6_changeNoise cX6_changeNoise 3 (some .int), Cond.constant RX6 95 (65536)]
def wsX3_areDoneOn : List Cond := .code yX3_areDoneOn cX3_areDoneOn 3 (some .boolean) :: ((wsX3_areDoneOn_r1 ++ (wsX3_areDoneOn_r2 ++ (wsX3_areDoneOn_r3 ++ (wsX3_areDoneOn_r4 ++ (wsX3_areDoneOn_r5 ++ (wsX3_areDoneOn_r6 ++ (wsX3_areDoneOn_r7 ++ (wsX3_areDoneOn_r8 ++ wsX3_areDoneOn_r9)))))))) ++ wsX30 ++ wsX80 ++ wsX40 ++ wsX60 ++ wsX70 ++ wsX50 ++ wsX10 ++ wsX00)
def wsX4_tell : List Cond := .code yX4_tell cX4_tell 2 (some .int) :: ([.fieldLink RX4 18 "JudgedBits$Ring" "period" "I", .fieldLink RX4 9 "JudgedBits$Ring" "jitter" "I", .fieldLink RX4 15 "JudgedBits$Ring" "phase" "I", .constant RX4 29 (-1000001), .methodLink RX4 25 yX4_isHigh, .instanceMethod yX4_isHigh, .selects RX4 yX4_isHigh yX4_isHigh, .initialized RX4, .code yX4_isHigh cX4_isHigh 1 (some .boolean)] ++ wsX40)
def wsX5_tell : List Cond := .code yX5_tell cX5_tell 2 (some .int) :: ([.fieldLink RX5 9 "JudgedBits$Settings" "step" "I", .fieldLink RX5 15 "JudgedBits$Settings" "lock" "I", .fieldLink RX5 18 "JudgedBits$Settings" "longestRun" "I", .fieldLink RX5 21 "JudgedBits$Settings" "leastOnes" "I", .constant RX5 24 (-1000001)] ++ wsX50)
def wsX5_isAllowed : List Cond := .code yX5_isAllowed cX5_isAllowed 2 (some .boolean) :: ([.static yX9_isWithin, .initialized RX9, .code yX9_isWithin cX9_isWithin 3 (some .boolean)])
def wsX5_change : List Cond := .code yX5_change cX5_change 4 (some .int) :: ([.constant RX5 24 (-1000001), .fieldLink RX5 9 "JudgedBits$Settings" "step" "I", .fieldLink RX5 15 "JudgedBits$Settings" "lock" "I", .fieldLink RX5 18 "JudgedBits$Settings" "longestRun" "I", .fieldLink RX5 21 "JudgedBits$Settings" "leastOnes" "I", .methodLink RX5 25 yX5_isAllowed, .static yX5_isAllowed, .initialized RX5, .code yX5_isAllowed cX5_isAllowed 2 (some .boolean), .static yX9_isWithin, .initialized RX9, .code yX9_isWithin cX9_isWithin 3 (some .boolean), .methodLink RX5 29 yX5_tell, .instanceMethod yX5_tell, .selects RX5 yX5_tell yX5_tell, .code yX5_tell cX5_tell 2 (some .int)] ++ wsX50)
def wsX6_tell_r1 : List Cond := [Cond.fieldLink RX6 40 "JudgedBits$Source" "health" "LJudgedBits$Health;", Cond.fieldLink RX6 109 "JudgedBits$Health" "mode" "I", Cond.fieldLink RX6 193 "JudgedBits$Health" "failedTest" "I", Cond.constant RX6 196 (-1000004), Cond.fieldLink RX6 197 "JudgedBits$Health" "startUpBits" "I", Cond.fieldLink RX6 171 "JudgedBits$Health" "run" "I", Cond.fieldLink RX6 200 "JudgedBits$Health" "windowBits" "I", Cond.fieldLink RX6 203 "JudgedBits$Health" "windowOnes" "I", Cond.fieldLink RX6 51 "JudgedBits$Source" "store" "LJudgedBits$BitRow;", Cond.fieldLink RX6 106 "JudgedBits$BitRow" "size" "I", Cond.fieldLink RX6 15 "JudgedBits$Source" "waiting" "I", Cond.fieldLink RX6 9 "JudgedBits$Source" "noiseNumber" "I", Cond.constant RX6 81 (-1000001), Cond.methodLink RX6 136 yX6_locksOn, Cond.instanceMethod yX6_locksOn, Cond.selects RX6 yX6_locksOn yX6_locksOn, Cond.initialized RX6, Cond.code yX6_locksOn cX6_locksOn 1 (some .boolean), Cond.fieldLink RX6 23 "JudgedBits$Source" "ringZero" "LJudgedBits$Ring;", Cond.fieldLink RX6 86 "JudgedBits$Ring" "period" "I", Cond.fieldLink RX6 27 "JudgedBits$Source" "ringOne" "LJudgedBits$Ring;", Cond.methodLink RX6 146 Lib.Math.abs.name, Cond.static Lib.Math.abs.name, Cond.initialized "java/lang/Math"]
def wsX6_tell_r2 : List Cond := [Cond.code Lib.Math.abs.name Lib.Math.abs.code 1 (some .int), Cond.fieldLink RX6 33 "JudgedBits$Source" "settings" "LJudgedBits$Settings;", Cond.fieldLink RX6 151 "JudgedBits$Settings" "lock" "I"]
def wsX6_tell : List Cond := .code yX6_tell cX6_tell 2 (some .int) :: ((wsX6_tell_r1 ++ wsX6_tell_r2) ++ wsX60 ++ wsX10 ++ wsX00 ++ wsX40 ++ wsX50)
def wsX7_tell : List Cond := .code yX7_tell cX7_tell 2 (some .int) :: ([.fieldLink RX7 9 "JudgedBits$Tally" "samples" "I", .fieldLink RX7 15 "JudgedBits$Tally" "ones" "I", .fieldLink RX7 18 "JudgedBits$Tally" "leftOut" "I", .fieldLink RX7 21 "JudgedBits$Tally" "stored" "I", .fieldLink RX7 24 "JudgedBits$Tally" "lost" "I", .fieldLink RX7 27 "JudgedBits$Tally" "drawn" "I", .fieldLink RX7 30 "JudgedBits$Tally" "alarms" "I", .fieldLink RX7 33 "JudgedBits$Tally" "longestRun" "I", .constant RX7 36 (-1000001)] ++ wsX70)
def wsX8_append : List Cond := .code yX8_append cX8_append 2 (some .int) :: ([.constant RX8 23 (-1000001), .fieldLink RX8 15 "JudgedBits$Text" "length" "I", .fieldLink RX8 11 "JudgedBits$Text" "characters" "[C", .constant RX8 24 (-1000003), .static yX9_isWithin, .initialized RX9, .code yX9_isWithin cX9_isWithin 3 (some .boolean)] ++ wsX80)
def wsX8_clear : List Cond := .code yX8_clear cX8_clear 2 (some .int) :: ([.fieldLink RX8 15 "JudgedBits$Text" "length" "I"] ++ wsX80)
def wsX9_init_r1 : List Cond := [Cond.methodLink RX9 1 objectInit, Cond.instanceMethod objectInit, Cond.code objectInit ⟨#[0xb1]⟩ 1 none, Cond.classLink RX9 7 RX6, Cond.instantiable RX6 9, Cond.initialized RX6, Cond.fieldLink RX9 10 "JudgedBits" "now" "LJudgedBits$Source;", Cond.fieldLink RX9 16 "JudgedBits" "trial" "LJudgedBits$Source;", Cond.classLink RX9 19 RX2, Cond.instantiable RX2 5, Cond.initialized RX2, Cond.fieldLink RX9 22 "JudgedBits" "history" "LJudgedBits$History;", Cond.classLink RX9 26 RX3, Cond.instantiable RX3 10, Cond.initialized RX3, Cond.fieldLink RX9 29 "JudgedBits" "orders" "LJudgedBits$Orders;", Cond.methodLink RX9 9 yX6_init, Cond.instanceMethod yX6_init, Cond.code yX6_init cX6_init 1 none, Cond.methodLink RX6 3 objectInit, Cond.fieldLink RX6 9 "JudgedBits$Source" "noiseNumber" "I", Cond.fieldLink RX6 15 "JudgedBits$Source" "waiting" "I", Cond.classLink RX6 18 RX4, Cond.instantiable RX4 3]
def wsX9_init_r2 : List Cond := [Cond.initialized RX4, Cond.fieldLink RX6 23 "JudgedBits$Source" "ringZero" "LJudgedBits$Ring;", Cond.fieldLink RX6 27 "JudgedBits$Source" "ringOne" "LJudgedBits$Ring;", Cond.classLink RX6 30 RX5, Cond.instantiable RX5 4, Cond.initialized RX5, Cond.fieldLink RX6 33 "JudgedBits$Source" "settings" "LJudgedBits$Settings;", Cond.classLink RX6 37 RX1, Cond.instantiable RX1 7, Cond.initialized RX1, Cond.fieldLink RX6 40 "JudgedBits$Source" "health" "LJudgedBits$Health;", Cond.classLink RX6 44 RX0, Cond.instantiable RX0 2, Cond.initialized RX0, Cond.fieldLink RX6 47 "JudgedBits$Source" "rawBits" "LJudgedBits$BitRow;", Cond.fieldLink RX6 51 "JudgedBits$Source" "store" "LJudgedBits$BitRow;", Cond.classLink RX6 54 RX7, Cond.instantiable RX7 8, Cond.initialized RX7, Cond.fieldLink RX6 57 "JudgedBits$Source" "tally" "LJudgedBits$Tally;", Cond.methodLink RX6 20 yX4_init, Cond.instanceMethod yX4_init, Cond.code yX4_init cX4_init 2 none, Cond.methodLink RX4 3 objectInit]
def wsX9_init_r3 : List Cond := [Cond.fieldLink RX4 9 "JudgedBits$Ring" "jitter" "I", Cond.fieldLink RX4 15 "JudgedBits$Ring" "phase" "I", Cond.fieldLink RX4 18 "JudgedBits$Ring" "period" "I", Cond.instanceMethod yX5_init, Cond.code yX5_init cX5_init 1 none, Cond.methodLink RX5 3 objectInit, Cond.fieldLink RX5 9 "JudgedBits$Settings" "step" "I", Cond.fieldLink RX5 15 "JudgedBits$Settings" "lock" "I", Cond.fieldLink RX5 18 "JudgedBits$Settings" "longestRun" "I", Cond.fieldLink RX5 21 "JudgedBits$Settings" "leastOnes" "I", Cond.instanceMethod yX1_init, Cond.code yX1_init cX1_init 1 none, Cond.methodLink RX1 1 objectInit, Cond.fieldLink RX1 9 "JudgedBits$Health" "mode" "I", Cond.fieldLink RX1 13 "JudgedBits$Health" "failedTest" "I", Cond.fieldLink RX1 16 "JudgedBits$Health" "startUpBits" "I", Cond.fieldLink RX1 19 "JudgedBits$Health" "run" "I", Cond.fieldLink RX1 22 "JudgedBits$Health" "runBit" "I", Cond.fieldLink RX1 25 "JudgedBits$Health" "windowBits" "I", Cond.fieldLink RX1 28 "JudgedBits$Health" "windowOnes" "I", Cond.instanceMethod yX0_init, Cond.code yX0_init cX0_init 1 none, Cond.methodLink RX0 1 objectInit, Cond.fieldLink RX0 7 "JudgedBits$BitRow" "bits" "J"]
def wsX9_init_r4 : List Cond := [Cond.fieldLink RX0 13 "JudgedBits$BitRow" "size" "I", Cond.instanceMethod yX7_init, Cond.code yX7_init cX7_init 1 none, Cond.methodLink RX7 3 objectInit, Cond.fieldLink RX7 9 "JudgedBits$Tally" "samples" "I", Cond.fieldLink RX7 15 "JudgedBits$Tally" "ones" "I", Cond.fieldLink RX7 18 "JudgedBits$Tally" "leftOut" "I", Cond.fieldLink RX7 21 "JudgedBits$Tally" "stored" "I", Cond.fieldLink RX7 24 "JudgedBits$Tally" "lost" "I", Cond.fieldLink RX7 27 "JudgedBits$Tally" "drawn" "I", Cond.fieldLink RX7 30 "JudgedBits$Tally" "alarms" "I", Cond.fieldLink RX7 33 "JudgedBits$Tally" "longestRun" "I", Cond.methodLink RX9 21 yX2_init, Cond.instanceMethod yX2_init, Cond.code yX2_init cX2_init 1 none, Cond.methodLink RX2 3 objectInit, Cond.fieldLink RX2 9 "JudgedBits$History" "many" "I", Cond.classLink RX2 15 RX6, Cond.fieldLink RX2 18 "JudgedBits$History" "latest" "LJudgedBits$Source;", Cond.fieldLink RX2 22 "JudgedBits$History" "second" "LJudgedBits$Source;", Cond.fieldLink RX2 25 "JudgedBits$History" "third" "LJudgedBits$Source;", Cond.fieldLink RX2 28 "JudgedBits$History" "fourth" "LJudgedBits$Source;", Cond.methodLink RX2 17 yX6_init, Cond.methodLink RX9 28 yX3_init]
def wsX9_init_r5 : List Cond := [Cond.instanceMethod yX3_init, Cond.code yX3_init cX3_init 1 none, Cond.methodLink RX3 1 objectInit, Cond.fieldLink RX3 7 "JudgedBits$Orders" "start" "I", Cond.fieldLink RX3 13 "JudgedBits$Orders" "place" "I", Cond.fieldLink RX3 16 "JudgedBits$Orders" "done" "I", Cond.fieldLink RX3 19 "JudgedBits$Orders" "reason" "I", Cond.fieldLink RX3 22 "JudgedBits$Orders" "cause" "I", Cond.fieldLink RX3 27 "JudgedBits$Orders" "kind" "I", Cond.fieldLink RX3 30 "JudgedBits$Orders" "number" "I", Cond.fieldLink RX3 33 "JudgedBits$Orders" "first" "I", Cond.fieldLink RX3 36 "JudgedBits$Orders" "second" "I", Cond.classLink RX3 25 RX8, Cond.instantiable RX8 2, Cond.initialized RX8, Cond.fieldLink RX3 40 "JudgedBits$Orders" "text" "LJudgedBits$Text;", Cond.instanceMethod yX8_init, Cond.code yX8_init cX8_init 1 none, Cond.methodLink RX8 3 objectInit, Cond.arrayClass .char, Cond.fieldLink RX8 11 "JudgedBits$Text" "characters" "[C", Cond.fieldLink RX8 15 "JudgedBits$Text" "length" "I"]
def wsX9_init : List Cond := .code yX9_init cX9_init 1 none :: ((wsX9_init_r1 ++ (wsX9_init_r2 ++ (wsX9_init_r3 ++ (wsX9_init_r4 ++ wsX9_init_r5)))) ++ wsX60 ++ wsX90 ++ wsX20 ++ wsX30 ++ wsX40 ++ wsX50 ++ wsX10 ++ wsX00 ++ wsX70 ++ wsX80)
def wsX9_settle_r1 : List Cond := [Cond.fieldLink RX9 22 "JudgedBits" "history" "LJudgedBits$History;", Cond.fieldLink RX9 10 "JudgedBits" "now" "LJudgedBits$Source;", Cond.fieldLink RX9 16 "JudgedBits" "trial" "LJudgedBits$Source;", Cond.methodLink RX9 172 yX2_keep, Cond.instanceMethod yX2_keep, Cond.selects RX2 yX2_keep yX2_keep, Cond.initialized RX2, Cond.code yX2_keep cX2_keep 2 none, Cond.fieldLink RX2 28 "JudgedBits$History" "fourth" "LJudgedBits$Source;", Cond.fieldLink RX2 25 "JudgedBits$History" "third" "LJudgedBits$Source;", Cond.fieldLink RX2 22 "JudgedBits$History" "second" "LJudgedBits$Source;", Cond.fieldLink RX2 18 "JudgedBits$History" "latest" "LJudgedBits$Source;", Cond.fieldLink RX2 9 "JudgedBits$History" "many" "I", Cond.methodLink RX2 31 yX6_copyFrom, Cond.instanceMethod yX6_copyFrom, Cond.selects RX6 yX6_copyFrom yX6_copyFrom, Cond.initialized RX6, Cond.code yX6_copyFrom cX6_copyFrom 2 none, Cond.fieldLink RX6 23 "JudgedBits$Source" "ringZero" "LJudgedBits$Ring;", Cond.fieldLink RX6 27 "JudgedBits$Source" "ringOne" "LJudgedBits$Ring;", Cond.fieldLink RX6 33 "JudgedBits$Source" "settings" "LJudgedBits$Settings;", Cond.fieldLink RX6 40 "JudgedBits$Source" "health" "LJudgedBits$Health;", Cond.fieldLink RX6 47 "JudgedBits$Source" "rawBits" "LJudgedBits$BitRow;", Cond.fieldLink RX6 51 "JudgedBits$Source" "store" "LJudgedBits$BitRow;"]
def wsX9_settle_r2 : List Cond := [Cond.fieldLink RX6 57 "JudgedBits$Source" "tally" "LJudgedBits$Tally;", Cond.fieldLink RX6 9 "JudgedBits$Source" "noiseNumber" "I", Cond.fieldLink RX6 15 "JudgedBits$Source" "waiting" "I", Cond.methodLink RX6 61 yX4_copyFrom, Cond.instanceMethod yX4_copyFrom, Cond.selects RX4 yX4_copyFrom yX4_copyFrom, Cond.initialized RX4, Cond.code yX4_copyFrom cX4_copyFrom 2 none, Cond.fieldLink RX4 18 "JudgedBits$Ring" "period" "I", Cond.fieldLink RX4 9 "JudgedBits$Ring" "jitter" "I", Cond.fieldLink RX4 15 "JudgedBits$Ring" "phase" "I", Cond.methodLink RX6 65 yX5_copyFrom, Cond.instanceMethod yX5_copyFrom, Cond.selects RX5 yX5_copyFrom yX5_copyFrom, Cond.initialized RX5, Cond.code yX5_copyFrom cX5_copyFrom 2 none, Cond.fieldLink RX5 9 "JudgedBits$Settings" "step" "I", Cond.fieldLink RX5 15 "JudgedBits$Settings" "lock" "I", Cond.fieldLink RX5 18 "JudgedBits$Settings" "longestRun" "I", Cond.fieldLink RX5 21 "JudgedBits$Settings" "leastOnes" "I", Cond.methodLink RX6 68 yX1_copyFrom, Cond.instanceMethod yX1_copyFrom, Cond.selects RX1 yX1_copyFrom yX1_copyFrom, Cond.initialized RX1]
def wsX9_settle_r3 : List Cond := [Cond.code yX1_copyFrom cX1_copyFrom 2 none, Cond.fieldLink RX1 9 "JudgedBits$Health" "mode" "I", Cond.fieldLink RX1 13 "JudgedBits$Health" "failedTest" "I", Cond.fieldLink RX1 16 "JudgedBits$Health" "startUpBits" "I", Cond.fieldLink RX1 19 "JudgedBits$Health" "run" "I", Cond.fieldLink RX1 22 "JudgedBits$Health" "runBit" "I", Cond.fieldLink RX1 25 "JudgedBits$Health" "windowBits" "I", Cond.fieldLink RX1 28 "JudgedBits$Health" "windowOnes" "I", Cond.methodLink RX6 71 yX0_copyFrom, Cond.instanceMethod yX0_copyFrom, Cond.selects RX0 yX0_copyFrom yX0_copyFrom, Cond.initialized RX0, Cond.code yX0_copyFrom cX0_copyFrom 2 none, Cond.fieldLink RX0 7 "JudgedBits$BitRow" "bits" "J", Cond.fieldLink RX0 13 "JudgedBits$BitRow" "size" "I", Cond.methodLink RX6 74 yX7_copyFrom, Cond.instanceMethod yX7_copyFrom, Cond.selects RX7 yX7_copyFrom yX7_copyFrom, Cond.initialized RX7, Cond.code yX7_copyFrom cX7_copyFrom 2 none, Cond.fieldLink RX7 9 "JudgedBits$Tally" "samples" "I", Cond.fieldLink RX7 15 "JudgedBits$Tally" "ones" "I", Cond.fieldLink RX7 18 "JudgedBits$Tally" "leftOut" "I", Cond.fieldLink RX7 21 "JudgedBits$Tally" "stored" "I"]
def wsX9_settle_r4 : List Cond := [Cond.fieldLink RX7 24 "JudgedBits$Tally" "lost" "I", Cond.fieldLink RX7 27 "JudgedBits$Tally" "drawn" "I", Cond.fieldLink RX7 30 "JudgedBits$Tally" "alarms" "I", Cond.fieldLink RX7 33 "JudgedBits$Tally" "longestRun" "I", Cond.methodLink RX9 33 yX6_copyFrom]
def wsX9_settle : List Cond := .code yX9_settle cX9_settle 2 (some .int) :: ((wsX9_settle_r1 ++ (wsX9_settle_r2 ++ (wsX9_settle_r3 ++ wsX9_settle_r4))) ++ wsX90 ++ wsX20 ++ wsX60 ++ wsX40 ++ wsX50 ++ wsX10 ++ wsX00 ++ wsX70)
def wsX9_ring_r1 : List Cond := [Cond.fieldLink RX9 16 "JudgedBits" "trial" "LJudgedBits$Source;", Cond.fieldLink RX9 10 "JudgedBits" "now" "LJudgedBits$Source;", Cond.methodLink RX9 33 yX6_copyFrom, Cond.instanceMethod yX6_copyFrom, Cond.selects RX6 yX6_copyFrom yX6_copyFrom, Cond.initialized RX6, Cond.code yX6_copyFrom cX6_copyFrom 2 none, Cond.fieldLink RX6 23 "JudgedBits$Source" "ringZero" "LJudgedBits$Ring;", Cond.fieldLink RX6 27 "JudgedBits$Source" "ringOne" "LJudgedBits$Ring;", Cond.fieldLink RX6 33 "JudgedBits$Source" "settings" "LJudgedBits$Settings;", Cond.fieldLink RX6 40 "JudgedBits$Source" "health" "LJudgedBits$Health;", Cond.fieldLink RX6 47 "JudgedBits$Source" "rawBits" "LJudgedBits$BitRow;", Cond.fieldLink RX6 51 "JudgedBits$Source" "store" "LJudgedBits$BitRow;", Cond.fieldLink RX6 57 "JudgedBits$Source" "tally" "LJudgedBits$Tally;", Cond.fieldLink RX6 9 "JudgedBits$Source" "noiseNumber" "I", Cond.fieldLink RX6 15 "JudgedBits$Source" "waiting" "I", Cond.methodLink RX6 61 yX4_copyFrom, Cond.instanceMethod yX4_copyFrom, Cond.selects RX4 yX4_copyFrom yX4_copyFrom, Cond.initialized RX4, Cond.code yX4_copyFrom cX4_copyFrom 2 none, Cond.fieldLink RX4 18 "JudgedBits$Ring" "period" "I", Cond.fieldLink RX4 9 "JudgedBits$Ring" "jitter" "I", Cond.fieldLink RX4 15 "JudgedBits$Ring" "phase" "I"]
def wsX9_ring_r2 : List Cond := [Cond.methodLink RX6 65 yX5_copyFrom, Cond.instanceMethod yX5_copyFrom, Cond.selects RX5 yX5_copyFrom yX5_copyFrom, Cond.initialized RX5, Cond.code yX5_copyFrom cX5_copyFrom 2 none, Cond.fieldLink RX5 9 "JudgedBits$Settings" "step" "I", Cond.fieldLink RX5 15 "JudgedBits$Settings" "lock" "I", Cond.fieldLink RX5 18 "JudgedBits$Settings" "longestRun" "I", Cond.fieldLink RX5 21 "JudgedBits$Settings" "leastOnes" "I", Cond.methodLink RX6 68 yX1_copyFrom, Cond.instanceMethod yX1_copyFrom, Cond.selects RX1 yX1_copyFrom yX1_copyFrom, Cond.initialized RX1, Cond.code yX1_copyFrom cX1_copyFrom 2 none, Cond.fieldLink RX1 9 "JudgedBits$Health" "mode" "I", Cond.fieldLink RX1 13 "JudgedBits$Health" "failedTest" "I", Cond.fieldLink RX1 16 "JudgedBits$Health" "startUpBits" "I", Cond.fieldLink RX1 19 "JudgedBits$Health" "run" "I", Cond.fieldLink RX1 22 "JudgedBits$Health" "runBit" "I", Cond.fieldLink RX1 25 "JudgedBits$Health" "windowBits" "I", Cond.fieldLink RX1 28 "JudgedBits$Health" "windowOnes" "I", Cond.methodLink RX6 71 yX0_copyFrom, Cond.instanceMethod yX0_copyFrom, Cond.selects RX0 yX0_copyFrom yX0_copyFrom]
def wsX9_ring_r3 : List Cond := [Cond.initialized RX0, Cond.code yX0_copyFrom cX0_copyFrom 2 none, Cond.fieldLink RX0 7 "JudgedBits$BitRow" "bits" "J", Cond.fieldLink RX0 13 "JudgedBits$BitRow" "size" "I", Cond.methodLink RX6 74 yX7_copyFrom, Cond.instanceMethod yX7_copyFrom, Cond.selects RX7 yX7_copyFrom yX7_copyFrom, Cond.initialized RX7, Cond.code yX7_copyFrom cX7_copyFrom 2 none, Cond.fieldLink RX7 9 "JudgedBits$Tally" "samples" "I", Cond.fieldLink RX7 15 "JudgedBits$Tally" "ones" "I", Cond.fieldLink RX7 18 "JudgedBits$Tally" "leftOut" "I", Cond.fieldLink RX7 21 "JudgedBits$Tally" "stored" "I", Cond.fieldLink RX7 24 "JudgedBits$Tally" "lost" "I", Cond.fieldLink RX7 27 "JudgedBits$Tally" "drawn" "I", Cond.fieldLink RX7 30 "JudgedBits$Tally" "alarms" "I", Cond.fieldLink RX7 33 "JudgedBits$Tally" "longestRun" "I", Cond.methodLink RX9 37 yX6_changeRing, Cond.instanceMethod yX6_changeRing, Cond.selects RX6 yX6_changeRing yX6_changeRing, Cond.code yX6_changeRing cX6_changeRing 6 (some .int), Cond.constant RX6 81 (-1000001), Cond.fieldLink RX6 86 "JudgedBits$Ring" "period" "I", Cond.fieldLink RX6 89 "JudgedBits$Ring" "jitter" "I"]
def wsX9_ring_r4 : List Cond := [Cond.fieldLink RX6 92 "JudgedBits$Ring" "phase" "I", Cond.static yX9_isWithin, Cond.initialized RX9, Cond.code yX9_isWithin cX9_isWithin 3 (some .boolean), Cond.methodLink RX6 82 yX6_ringAt, Cond.instanceMethod yX6_ringAt, Cond.selects RX6 yX6_ringAt yX6_ringAt, Cond.code yX6_ringAt cX6_ringAt 2 (some (.object "JudgedBits$Ring")), Cond.methodLink RX9 41 yX9_settle, Cond.instanceMethod yX9_settle, Cond.selects RX9 yX9_settle yX9_settle, Cond.code yX9_settle cX9_settle 2 (some .int), Cond.fieldLink RX9 22 "JudgedBits" "history" "LJudgedBits$History;", Cond.methodLink RX9 172 yX2_keep, Cond.instanceMethod yX2_keep, Cond.selects RX2 yX2_keep yX2_keep, Cond.initialized RX2, Cond.code yX2_keep cX2_keep 2 none, Cond.fieldLink RX2 28 "JudgedBits$History" "fourth" "LJudgedBits$Source;", Cond.fieldLink RX2 25 "JudgedBits$History" "third" "LJudgedBits$Source;", Cond.fieldLink RX2 22 "JudgedBits$History" "second" "LJudgedBits$Source;", Cond.fieldLink RX2 18 "JudgedBits$History" "latest" "LJudgedBits$Source;", Cond.fieldLink RX2 9 "JudgedBits$History" "many" "I", Cond.methodLink RX2 31 yX6_copyFrom]
def wsX9_ring : List Cond := .code yX9_ring cX9_ring 4 (some .int) :: ((wsX9_ring_r1 ++ (wsX9_ring_r2 ++ (wsX9_ring_r3 ++ wsX9_ring_r4))) ++ wsX90 ++ wsX60 ++ wsX40 ++ wsX50 ++ wsX10 ++ wsX00 ++ wsX70 ++ wsX20)
def wsX9_noise_r1 : List Cond := [Cond.fieldLink RX9 16 "JudgedBits" "trial" "LJudgedBits$Source;", Cond.fieldLink RX9 10 "JudgedBits" "now" "LJudgedBits$Source;", Cond.methodLink RX9 33 yX6_copyFrom, Cond.instanceMethod yX6_copyFrom, Cond.selects RX6 yX6_copyFrom yX6_copyFrom, Cond.initialized RX6, Cond.code yX6_copyFrom cX6_copyFrom 2 none, Cond.fieldLink RX6 23 "JudgedBits$Source" "ringZero" "LJudgedBits$Ring;", Cond.fieldLink RX6 27 "JudgedBits$Source" "ringOne" "LJudgedBits$Ring;", Cond.fieldLink RX6 33 "JudgedBits$Source" "settings" "LJudgedBits$Settings;", Cond.fieldLink RX6 40 "JudgedBits$Source" "health" "LJudgedBits$Health;", Cond.fieldLink RX6 47 "JudgedBits$Source" "rawBits" "LJudgedBits$BitRow;", Cond.fieldLink RX6 51 "JudgedBits$Source" "store" "LJudgedBits$BitRow;", Cond.fieldLink RX6 57 "JudgedBits$Source" "tally" "LJudgedBits$Tally;", Cond.fieldLink RX6 9 "JudgedBits$Source" "noiseNumber" "I", Cond.fieldLink RX6 15 "JudgedBits$Source" "waiting" "I", Cond.methodLink RX6 61 yX4_copyFrom, Cond.instanceMethod yX4_copyFrom, Cond.selects RX4 yX4_copyFrom yX4_copyFrom, Cond.initialized RX4, Cond.code yX4_copyFrom cX4_copyFrom 2 none, Cond.fieldLink RX4 18 "JudgedBits$Ring" "period" "I", Cond.fieldLink RX4 9 "JudgedBits$Ring" "jitter" "I", Cond.fieldLink RX4 15 "JudgedBits$Ring" "phase" "I"]
def wsX9_noise_r2 : List Cond := [Cond.methodLink RX6 65 yX5_copyFrom, Cond.instanceMethod yX5_copyFrom, Cond.selects RX5 yX5_copyFrom yX5_copyFrom, Cond.initialized RX5, Cond.code yX5_copyFrom cX5_copyFrom 2 none, Cond.fieldLink RX5 9 "JudgedBits$Settings" "step" "I", Cond.fieldLink RX5 15 "JudgedBits$Settings" "lock" "I", Cond.fieldLink RX5 18 "JudgedBits$Settings" "longestRun" "I", Cond.fieldLink RX5 21 "JudgedBits$Settings" "leastOnes" "I", Cond.methodLink RX6 68 yX1_copyFrom, Cond.instanceMethod yX1_copyFrom, Cond.selects RX1 yX1_copyFrom yX1_copyFrom, Cond.initialized RX1, Cond.code yX1_copyFrom cX1_copyFrom 2 none, Cond.fieldLink RX1 9 "JudgedBits$Health" "mode" "I", Cond.fieldLink RX1 13 "JudgedBits$Health" "failedTest" "I", Cond.fieldLink RX1 16 "JudgedBits$Health" "startUpBits" "I", Cond.fieldLink RX1 19 "JudgedBits$Health" "run" "I", Cond.fieldLink RX1 22 "JudgedBits$Health" "runBit" "I", Cond.fieldLink RX1 25 "JudgedBits$Health" "windowBits" "I", Cond.fieldLink RX1 28 "JudgedBits$Health" "windowOnes" "I", Cond.methodLink RX6 71 yX0_copyFrom, Cond.instanceMethod yX0_copyFrom, Cond.selects RX0 yX0_copyFrom yX0_copyFrom]
def wsX9_noise_r3 : List Cond := [Cond.initialized RX0, Cond.code yX0_copyFrom cX0_copyFrom 2 none, Cond.fieldLink RX0 7 "JudgedBits$BitRow" "bits" "J", Cond.fieldLink RX0 13 "JudgedBits$BitRow" "size" "I", Cond.methodLink RX6 74 yX7_copyFrom, Cond.instanceMethod yX7_copyFrom, Cond.selects RX7 yX7_copyFrom yX7_copyFrom, Cond.initialized RX7, Cond.code yX7_copyFrom cX7_copyFrom 2 none, Cond.fieldLink RX7 9 "JudgedBits$Tally" "samples" "I", Cond.fieldLink RX7 15 "JudgedBits$Tally" "ones" "I", Cond.fieldLink RX7 18 "JudgedBits$Tally" "leftOut" "I", Cond.fieldLink RX7 21 "JudgedBits$Tally" "stored" "I", Cond.fieldLink RX7 24 "JudgedBits$Tally" "lost" "I", Cond.fieldLink RX7 27 "JudgedBits$Tally" "drawn" "I", Cond.fieldLink RX7 30 "JudgedBits$Tally" "alarms" "I", Cond.fieldLink RX7 33 "JudgedBits$Tally" "longestRun" "I", Cond.methodLink RX9 45 yX6_changeNoise, Cond.instanceMethod yX6_changeNoise, Cond.selects RX6 yX6_changeNoise yX6_changeNoise, Cond.code yX6_changeNoise cX6_changeNoise 3 (some .int), Cond.constant RX6 95 (65536), Cond.constant RX6 81 (-1000001), Cond.static yX9_isWithin]
def wsX9_noise_r4 : List Cond := [Cond.initialized RX9, Cond.code yX9_isWithin cX9_isWithin 3 (some .boolean), Cond.methodLink RX9 41 yX9_settle, Cond.instanceMethod yX9_settle, Cond.selects RX9 yX9_settle yX9_settle, Cond.code yX9_settle cX9_settle 2 (some .int), Cond.fieldLink RX9 22 "JudgedBits" "history" "LJudgedBits$History;", Cond.methodLink RX9 172 yX2_keep, Cond.instanceMethod yX2_keep, Cond.selects RX2 yX2_keep yX2_keep, Cond.initialized RX2, Cond.code yX2_keep cX2_keep 2 none, Cond.fieldLink RX2 28 "JudgedBits$History" "fourth" "LJudgedBits$Source;", Cond.fieldLink RX2 25 "JudgedBits$History" "third" "LJudgedBits$Source;", Cond.fieldLink RX2 22 "JudgedBits$History" "second" "LJudgedBits$Source;", Cond.fieldLink RX2 18 "JudgedBits$History" "latest" "LJudgedBits$Source;", Cond.fieldLink RX2 9 "JudgedBits$History" "many" "I", Cond.methodLink RX2 31 yX6_copyFrom]
def wsX9_noise : List Cond := .code yX9_noise cX9_noise 2 (some .int) :: ((wsX9_noise_r1 ++ (wsX9_noise_r2 ++ (wsX9_noise_r3 ++ wsX9_noise_r4))) ++ wsX90 ++ wsX60 ++ wsX40 ++ wsX50 ++ wsX10 ++ wsX00 ++ wsX70 ++ wsX20)
def wsX9_sample_r1 : List Cond := [Cond.fieldLink RX9 16 "JudgedBits" "trial" "LJudgedBits$Source;", Cond.fieldLink RX9 10 "JudgedBits" "now" "LJudgedBits$Source;", Cond.methodLink RX9 33 yX6_copyFrom, Cond.instanceMethod yX6_copyFrom, Cond.selects RX6 yX6_copyFrom yX6_copyFrom, Cond.initialized RX6, Cond.code yX6_copyFrom cX6_copyFrom 2 none, Cond.fieldLink RX6 23 "JudgedBits$Source" "ringZero" "LJudgedBits$Ring;", Cond.fieldLink RX6 27 "JudgedBits$Source" "ringOne" "LJudgedBits$Ring;", Cond.fieldLink RX6 33 "JudgedBits$Source" "settings" "LJudgedBits$Settings;", Cond.fieldLink RX6 40 "JudgedBits$Source" "health" "LJudgedBits$Health;", Cond.fieldLink RX6 47 "JudgedBits$Source" "rawBits" "LJudgedBits$BitRow;", Cond.fieldLink RX6 51 "JudgedBits$Source" "store" "LJudgedBits$BitRow;", Cond.fieldLink RX6 57 "JudgedBits$Source" "tally" "LJudgedBits$Tally;", Cond.fieldLink RX6 9 "JudgedBits$Source" "noiseNumber" "I", Cond.fieldLink RX6 15 "JudgedBits$Source" "waiting" "I", Cond.methodLink RX6 61 yX4_copyFrom, Cond.instanceMethod yX4_copyFrom, Cond.selects RX4 yX4_copyFrom yX4_copyFrom, Cond.initialized RX4, Cond.code yX4_copyFrom cX4_copyFrom 2 none, Cond.fieldLink RX4 18 "JudgedBits$Ring" "period" "I", Cond.fieldLink RX4 9 "JudgedBits$Ring" "jitter" "I", Cond.fieldLink RX4 15 "JudgedBits$Ring" "phase" "I"]
def wsX9_sample_r2 : List Cond := [Cond.methodLink RX6 65 yX5_copyFrom, Cond.instanceMethod yX5_copyFrom, Cond.selects RX5 yX5_copyFrom yX5_copyFrom, Cond.initialized RX5, Cond.code yX5_copyFrom cX5_copyFrom 2 none, Cond.fieldLink RX5 9 "JudgedBits$Settings" "step" "I", Cond.fieldLink RX5 15 "JudgedBits$Settings" "lock" "I", Cond.fieldLink RX5 18 "JudgedBits$Settings" "longestRun" "I", Cond.fieldLink RX5 21 "JudgedBits$Settings" "leastOnes" "I", Cond.methodLink RX6 68 yX1_copyFrom, Cond.instanceMethod yX1_copyFrom, Cond.selects RX1 yX1_copyFrom yX1_copyFrom, Cond.initialized RX1, Cond.code yX1_copyFrom cX1_copyFrom 2 none, Cond.fieldLink RX1 9 "JudgedBits$Health" "mode" "I", Cond.fieldLink RX1 13 "JudgedBits$Health" "failedTest" "I", Cond.fieldLink RX1 16 "JudgedBits$Health" "startUpBits" "I", Cond.fieldLink RX1 19 "JudgedBits$Health" "run" "I", Cond.fieldLink RX1 22 "JudgedBits$Health" "runBit" "I", Cond.fieldLink RX1 25 "JudgedBits$Health" "windowBits" "I", Cond.fieldLink RX1 28 "JudgedBits$Health" "windowOnes" "I", Cond.methodLink RX6 71 yX0_copyFrom, Cond.instanceMethod yX0_copyFrom, Cond.selects RX0 yX0_copyFrom yX0_copyFrom]
def wsX9_sample_r3 : List Cond := [Cond.initialized RX0, Cond.code yX0_copyFrom cX0_copyFrom 2 none, Cond.fieldLink RX0 7 "JudgedBits$BitRow" "bits" "J", Cond.fieldLink RX0 13 "JudgedBits$BitRow" "size" "I", Cond.methodLink RX6 74 yX7_copyFrom, Cond.instanceMethod yX7_copyFrom, Cond.selects RX7 yX7_copyFrom yX7_copyFrom, Cond.initialized RX7, Cond.code yX7_copyFrom cX7_copyFrom 2 none, Cond.fieldLink RX7 9 "JudgedBits$Tally" "samples" "I", Cond.fieldLink RX7 15 "JudgedBits$Tally" "ones" "I", Cond.fieldLink RX7 18 "JudgedBits$Tally" "leftOut" "I", Cond.fieldLink RX7 21 "JudgedBits$Tally" "stored" "I", Cond.fieldLink RX7 24 "JudgedBits$Tally" "lost" "I", Cond.fieldLink RX7 27 "JudgedBits$Tally" "drawn" "I", Cond.fieldLink RX7 30 "JudgedBits$Tally" "alarms" "I", Cond.fieldLink RX7 33 "JudgedBits$Tally" "longestRun" "I", Cond.methodLink RX9 48 yX6_makeSamples, Cond.instanceMethod yX6_makeSamples, Cond.selects RX6 yX6_makeSamples yX6_makeSamples, Cond.code yX6_makeSamples cX6_makeSamples 4 (some .int), Cond.constant RX6 81 (-1000001), Cond.fieldLink RX6 96 "JudgedBits$Tally" "stored" "I", Cond.static yX9_isWithin]
def wsX9_sample_r4 : List Cond := [Cond.initialized RX9, Cond.code yX9_isWithin cX9_isWithin 3 (some .boolean), Cond.methodLink RX6 99 yX6_nextRawBit, Cond.instanceMethod yX6_nextRawBit, Cond.selects RX6 yX6_nextRawBit yX6_nextRawBit, Cond.code yX6_nextRawBit cX6_nextRawBit 1 (some .int), Cond.fieldLink RX6 126 "JudgedBits$Settings" "step" "I", Cond.methodLink RX6 129 yX6_nextNoise, Cond.instanceMethod yX6_nextNoise, Cond.selects RX6 yX6_nextNoise yX6_nextNoise, Cond.code yX6_nextNoise cX6_nextNoise 1 (some .int), Cond.constant RX6 154 (65537), Cond.methodLink RX6 132 yX4_advance, Cond.instanceMethod yX4_advance, Cond.selects RX4 yX4_advance yX4_advance, Cond.code yX4_advance cX4_advance 3 none, Cond.static yX9_remainder, Cond.code yX9_remainder cX9_remainder 2 (some .int), Cond.methodLink RX6 136 yX6_locksOn, Cond.instanceMethod yX6_locksOn, Cond.selects RX6 yX6_locksOn yX6_locksOn, Cond.code yX6_locksOn cX6_locksOn 1 (some .boolean), Cond.fieldLink RX6 86 "JudgedBits$Ring" "period" "I", Cond.methodLink RX6 146 Lib.Math.abs.name]
def wsX9_sample_r5 : List Cond := [Cond.static Lib.Math.abs.name, Cond.initialized "java/lang/Math", Cond.code Lib.Math.abs.name Lib.Math.abs.code 1 (some .int), Cond.fieldLink RX6 151 "JudgedBits$Settings" "lock" "I", Cond.methodLink RX6 140 yX4_lockOn, Cond.instanceMethod yX4_lockOn, Cond.selects RX4 yX4_lockOn yX4_lockOn, Cond.code yX4_lockOn cX4_lockOn 2 none, Cond.methodLink RX6 143 yX4_isHigh, Cond.instanceMethod yX4_isHigh, Cond.selects RX4 yX4_isHigh yX4_isHigh, Cond.code yX4_isHigh cX4_isHigh 1 (some .boolean), Cond.methodLink RX6 103 yX6_takeRawBit, Cond.instanceMethod yX6_takeRawBit, Cond.selects RX6 yX6_takeRawBit yX6_takeRawBit, Cond.code yX6_takeRawBit cX6_takeRawBit 3 none, Cond.fieldLink RX6 158 "JudgedBits$Tally" "samples" "I", Cond.fieldLink RX6 161 "JudgedBits$Tally" "ones" "I", Cond.fieldLink RX6 109 "JudgedBits$Health" "mode" "I", Cond.fieldLink RX6 168 "JudgedBits$Tally" "longestRun" "I", Cond.fieldLink RX6 171 "JudgedBits$Health" "run" "I", Cond.methodLink RX6 174 Lib.Math.max.name, Cond.static Lib.Math.max.name, Cond.code Lib.Math.max.name Lib.Math.max.code 2 (some .int)]
def wsX9_sample_r6 : List Cond := [Cond.fieldLink RX6 178 "JudgedBits$Tally" "alarms" "I", Cond.methodLink RX6 155 yX0_append, Cond.instanceMethod yX0_append, Cond.selects RX0 yX0_append yX0_append, Cond.code yX0_append cX0_append 2 none, Cond.methodLink RX6 164 yX1_judge, Cond.instanceMethod yX1_judge, Cond.selects RX1 yX1_judge yX1_judge, Cond.code yX1_judge cX1_judge 4 none, Cond.fieldLink RX1 35 "JudgedBits$Settings" "leastOnes" "I", Cond.fieldLink RX1 44 "JudgedBits$Settings" "longestRun" "I", Cond.methodLink RX1 31 yX1_countInRun, Cond.instanceMethod yX1_countInRun, Cond.selects RX1 yX1_countInRun yX1_countInRun, Cond.code yX1_countInRun cX1_countInRun 2 none, Cond.methodLink RX1 40 yX1_failsShare, Cond.instanceMethod yX1_failsShare, Cond.selects RX1 yX1_failsShare yX1_failsShare, Cond.code yX1_failsShare cX1_failsShare 4 (some .boolean), Cond.methodLink RX1 47 yX1_bringAlarm, Cond.instanceMethod yX1_bringAlarm, Cond.selects RX1 yX1_bringAlarm yX1_bringAlarm, Cond.code yX1_bringAlarm cX1_bringAlarm 2 none, Cond.methodLink RX1 50 yX1_countInStartUp]
def wsX9_sample_r7 : List Cond := [Cond.instanceMethod yX1_countInStartUp, Cond.selects RX1 yX1_countInStartUp yX1_countInStartUp, Cond.code yX1_countInStartUp cX1_countInStartUp 1 none, Cond.methodLink RX6 181 yX6_pairUp, Cond.instanceMethod yX6_pairUp, Cond.selects RX6 yX6_pairUp yX6_pairUp, Cond.code yX6_pairUp cX6_pairUp 3 none, Cond.fieldLink RX6 184 "JudgedBits$Tally" "leftOut" "I", Cond.fieldLink RX6 190 "JudgedBits$Tally" "lost" "I", Cond.methodLink RX6 187 yX0_isFull, Cond.instanceMethod yX0_isFull, Cond.selects RX0 yX0_isFull yX0_isFull, Cond.code yX0_isFull cX0_isFull 1 (some .boolean), Cond.methodLink RX9 41 yX9_settle, Cond.instanceMethod yX9_settle, Cond.selects RX9 yX9_settle yX9_settle, Cond.code yX9_settle cX9_settle 2 (some .int), Cond.fieldLink RX9 22 "JudgedBits" "history" "LJudgedBits$History;", Cond.methodLink RX9 172 yX2_keep, Cond.instanceMethod yX2_keep, Cond.selects RX2 yX2_keep yX2_keep, Cond.initialized RX2, Cond.code yX2_keep cX2_keep 2 none, Cond.fieldLink RX2 28 "JudgedBits$History" "fourth" "LJudgedBits$Source;"]
def wsX9_sample_r8 : List Cond := [Cond.fieldLink RX2 25 "JudgedBits$History" "third" "LJudgedBits$Source;", Cond.fieldLink RX2 22 "JudgedBits$History" "second" "LJudgedBits$Source;", Cond.fieldLink RX2 18 "JudgedBits$History" "latest" "LJudgedBits$Source;", Cond.fieldLink RX2 9 "JudgedBits$History" "many" "I", Cond.methodLink RX2 31 yX6_copyFrom]
def wsX9_sample : List Cond := .code yX9_sample cX9_sample 2 (some .int) :: ((wsX9_sample_r1 ++ (wsX9_sample_r2 ++ (wsX9_sample_r3 ++ (wsX9_sample_r4 ++ (wsX9_sample_r5 ++ (wsX9_sample_r6 ++ (wsX9_sample_r7 ++ wsX9_sample_r8))))))) ++ wsX90 ++ wsX60 ++ wsX40 ++ wsX50 ++ wsX10 ++ wsX00 ++ wsX70 ++ wsX20)
def wsX9_draw_r1 : List Cond := [Cond.fieldLink RX9 16 "JudgedBits" "trial" "LJudgedBits$Source;", Cond.fieldLink RX9 10 "JudgedBits" "now" "LJudgedBits$Source;", Cond.methodLink RX9 33 yX6_copyFrom, Cond.instanceMethod yX6_copyFrom, Cond.selects RX6 yX6_copyFrom yX6_copyFrom, Cond.initialized RX6, Cond.code yX6_copyFrom cX6_copyFrom 2 none, Cond.fieldLink RX6 23 "JudgedBits$Source" "ringZero" "LJudgedBits$Ring;", Cond.fieldLink RX6 27 "JudgedBits$Source" "ringOne" "LJudgedBits$Ring;", Cond.fieldLink RX6 33 "JudgedBits$Source" "settings" "LJudgedBits$Settings;", Cond.fieldLink RX6 40 "JudgedBits$Source" "health" "LJudgedBits$Health;", Cond.fieldLink RX6 47 "JudgedBits$Source" "rawBits" "LJudgedBits$BitRow;", Cond.fieldLink RX6 51 "JudgedBits$Source" "store" "LJudgedBits$BitRow;", Cond.fieldLink RX6 57 "JudgedBits$Source" "tally" "LJudgedBits$Tally;", Cond.fieldLink RX6 9 "JudgedBits$Source" "noiseNumber" "I", Cond.fieldLink RX6 15 "JudgedBits$Source" "waiting" "I", Cond.methodLink RX6 61 yX4_copyFrom, Cond.instanceMethod yX4_copyFrom, Cond.selects RX4 yX4_copyFrom yX4_copyFrom, Cond.initialized RX4, Cond.code yX4_copyFrom cX4_copyFrom 2 none, Cond.fieldLink RX4 18 "JudgedBits$Ring" "period" "I", Cond.fieldLink RX4 9 "JudgedBits$Ring" "jitter" "I", Cond.fieldLink RX4 15 "JudgedBits$Ring" "phase" "I"]
def wsX9_draw_r2 : List Cond := [Cond.methodLink RX6 65 yX5_copyFrom, Cond.instanceMethod yX5_copyFrom, Cond.selects RX5 yX5_copyFrom yX5_copyFrom, Cond.initialized RX5, Cond.code yX5_copyFrom cX5_copyFrom 2 none, Cond.fieldLink RX5 9 "JudgedBits$Settings" "step" "I", Cond.fieldLink RX5 15 "JudgedBits$Settings" "lock" "I", Cond.fieldLink RX5 18 "JudgedBits$Settings" "longestRun" "I", Cond.fieldLink RX5 21 "JudgedBits$Settings" "leastOnes" "I", Cond.methodLink RX6 68 yX1_copyFrom, Cond.instanceMethod yX1_copyFrom, Cond.selects RX1 yX1_copyFrom yX1_copyFrom, Cond.initialized RX1, Cond.code yX1_copyFrom cX1_copyFrom 2 none, Cond.fieldLink RX1 9 "JudgedBits$Health" "mode" "I", Cond.fieldLink RX1 13 "JudgedBits$Health" "failedTest" "I", Cond.fieldLink RX1 16 "JudgedBits$Health" "startUpBits" "I", Cond.fieldLink RX1 19 "JudgedBits$Health" "run" "I", Cond.fieldLink RX1 22 "JudgedBits$Health" "runBit" "I", Cond.fieldLink RX1 25 "JudgedBits$Health" "windowBits" "I", Cond.fieldLink RX1 28 "JudgedBits$Health" "windowOnes" "I", Cond.methodLink RX6 71 yX0_copyFrom, Cond.instanceMethod yX0_copyFrom, Cond.selects RX0 yX0_copyFrom yX0_copyFrom]
def wsX9_draw_r3 : List Cond := [Cond.initialized RX0, Cond.code yX0_copyFrom cX0_copyFrom 2 none, Cond.fieldLink RX0 7 "JudgedBits$BitRow" "bits" "J", Cond.fieldLink RX0 13 "JudgedBits$BitRow" "size" "I", Cond.methodLink RX6 74 yX7_copyFrom, Cond.instanceMethod yX7_copyFrom, Cond.selects RX7 yX7_copyFrom yX7_copyFrom, Cond.initialized RX7, Cond.code yX7_copyFrom cX7_copyFrom 2 none, Cond.fieldLink RX7 9 "JudgedBits$Tally" "samples" "I", Cond.fieldLink RX7 15 "JudgedBits$Tally" "ones" "I", Cond.fieldLink RX7 18 "JudgedBits$Tally" "leftOut" "I", Cond.fieldLink RX7 21 "JudgedBits$Tally" "stored" "I", Cond.fieldLink RX7 24 "JudgedBits$Tally" "lost" "I", Cond.fieldLink RX7 27 "JudgedBits$Tally" "drawn" "I", Cond.fieldLink RX7 30 "JudgedBits$Tally" "alarms" "I", Cond.fieldLink RX7 33 "JudgedBits$Tally" "longestRun" "I", Cond.methodLink RX9 51 yX6_drawBits, Cond.instanceMethod yX6_drawBits, Cond.selects RX6 yX6_drawBits yX6_drawBits, Cond.code yX6_drawBits cX6_drawBits 2 (some .int), Cond.constant RX6 81 (-1000001), Cond.fieldLink RX6 106 "JudgedBits$BitRow" "size" "I", Cond.fieldLink RX6 109 "JudgedBits$Health" "mode" "I"]
def wsX9_draw_r4 : List Cond := [Cond.constant RX6 112 (-1000002), Cond.fieldLink RX6 113 "JudgedBits$Tally" "drawn" "I", Cond.static yX9_isWithin, Cond.initialized RX9, Cond.code yX9_isWithin cX9_isWithin 3 (some .boolean), Cond.methodLink RX6 116 yX0_takeEarliest, Cond.instanceMethod yX0_takeEarliest, Cond.selects RX0 yX0_takeEarliest yX0_takeEarliest, Cond.code yX0_takeEarliest cX0_takeEarliest 4 (some .int), Cond.methodLink RX9 41 yX9_settle, Cond.instanceMethod yX9_settle, Cond.selects RX9 yX9_settle yX9_settle, Cond.code yX9_settle cX9_settle 2 (some .int), Cond.fieldLink RX9 22 "JudgedBits" "history" "LJudgedBits$History;", Cond.methodLink RX9 172 yX2_keep, Cond.instanceMethod yX2_keep, Cond.selects RX2 yX2_keep yX2_keep, Cond.initialized RX2, Cond.code yX2_keep cX2_keep 2 none, Cond.fieldLink RX2 28 "JudgedBits$History" "fourth" "LJudgedBits$Source;", Cond.fieldLink RX2 25 "JudgedBits$History" "third" "LJudgedBits$Source;", Cond.fieldLink RX2 22 "JudgedBits$History" "second" "LJudgedBits$Source;", Cond.fieldLink RX2 18 "JudgedBits$History" "latest" "LJudgedBits$Source;", Cond.fieldLink RX2 9 "JudgedBits$History" "many" "I"]
def wsX9_draw_r5 : List Cond := [Cond.methodLink RX2 31 yX6_copyFrom]
def wsX9_draw : List Cond := .code yX9_draw cX9_draw 2 (some .int) :: ((wsX9_draw_r1 ++ (wsX9_draw_r2 ++ (wsX9_draw_r3 ++ (wsX9_draw_r4 ++ wsX9_draw_r5)))) ++ wsX90 ++ wsX60 ++ wsX40 ++ wsX50 ++ wsX10 ++ wsX00 ++ wsX70 ++ wsX20)
def wsX9_restart_r1 : List Cond := [Cond.fieldLink RX9 16 "JudgedBits" "trial" "LJudgedBits$Source;", Cond.fieldLink RX9 10 "JudgedBits" "now" "LJudgedBits$Source;", Cond.methodLink RX9 33 yX6_copyFrom, Cond.instanceMethod yX6_copyFrom, Cond.selects RX6 yX6_copyFrom yX6_copyFrom, Cond.initialized RX6, Cond.code yX6_copyFrom cX6_copyFrom 2 none, Cond.fieldLink RX6 23 "JudgedBits$Source" "ringZero" "LJudgedBits$Ring;", Cond.fieldLink RX6 27 "JudgedBits$Source" "ringOne" "LJudgedBits$Ring;", Cond.fieldLink RX6 33 "JudgedBits$Source" "settings" "LJudgedBits$Settings;", Cond.fieldLink RX6 40 "JudgedBits$Source" "health" "LJudgedBits$Health;", Cond.fieldLink RX6 47 "JudgedBits$Source" "rawBits" "LJudgedBits$BitRow;", Cond.fieldLink RX6 51 "JudgedBits$Source" "store" "LJudgedBits$BitRow;", Cond.fieldLink RX6 57 "JudgedBits$Source" "tally" "LJudgedBits$Tally;", Cond.fieldLink RX6 9 "JudgedBits$Source" "noiseNumber" "I", Cond.fieldLink RX6 15 "JudgedBits$Source" "waiting" "I", Cond.methodLink RX6 61 yX4_copyFrom, Cond.instanceMethod yX4_copyFrom, Cond.selects RX4 yX4_copyFrom yX4_copyFrom, Cond.initialized RX4, Cond.code yX4_copyFrom cX4_copyFrom 2 none, Cond.fieldLink RX4 18 "JudgedBits$Ring" "period" "I", Cond.fieldLink RX4 9 "JudgedBits$Ring" "jitter" "I", Cond.fieldLink RX4 15 "JudgedBits$Ring" "phase" "I"]
def wsX9_restart_r2 : List Cond := [Cond.methodLink RX6 65 yX5_copyFrom, Cond.instanceMethod yX5_copyFrom, Cond.selects RX5 yX5_copyFrom yX5_copyFrom, Cond.initialized RX5, Cond.code yX5_copyFrom cX5_copyFrom 2 none, Cond.fieldLink RX5 9 "JudgedBits$Settings" "step" "I", Cond.fieldLink RX5 15 "JudgedBits$Settings" "lock" "I", Cond.fieldLink RX5 18 "JudgedBits$Settings" "longestRun" "I", Cond.fieldLink RX5 21 "JudgedBits$Settings" "leastOnes" "I", Cond.methodLink RX6 68 yX1_copyFrom, Cond.instanceMethod yX1_copyFrom, Cond.selects RX1 yX1_copyFrom yX1_copyFrom, Cond.initialized RX1, Cond.code yX1_copyFrom cX1_copyFrom 2 none, Cond.fieldLink RX1 9 "JudgedBits$Health" "mode" "I", Cond.fieldLink RX1 13 "JudgedBits$Health" "failedTest" "I", Cond.fieldLink RX1 16 "JudgedBits$Health" "startUpBits" "I", Cond.fieldLink RX1 19 "JudgedBits$Health" "run" "I", Cond.fieldLink RX1 22 "JudgedBits$Health" "runBit" "I", Cond.fieldLink RX1 25 "JudgedBits$Health" "windowBits" "I", Cond.fieldLink RX1 28 "JudgedBits$Health" "windowOnes" "I", Cond.methodLink RX6 71 yX0_copyFrom, Cond.instanceMethod yX0_copyFrom, Cond.selects RX0 yX0_copyFrom yX0_copyFrom]
def wsX9_restart_r3 : List Cond := [Cond.initialized RX0, Cond.code yX0_copyFrom cX0_copyFrom 2 none, Cond.fieldLink RX0 7 "JudgedBits$BitRow" "bits" "J", Cond.fieldLink RX0 13 "JudgedBits$BitRow" "size" "I", Cond.methodLink RX6 74 yX7_copyFrom, Cond.instanceMethod yX7_copyFrom, Cond.selects RX7 yX7_copyFrom yX7_copyFrom, Cond.initialized RX7, Cond.code yX7_copyFrom cX7_copyFrom 2 none, Cond.fieldLink RX7 9 "JudgedBits$Tally" "samples" "I", Cond.fieldLink RX7 15 "JudgedBits$Tally" "ones" "I", Cond.fieldLink RX7 18 "JudgedBits$Tally" "leftOut" "I", Cond.fieldLink RX7 21 "JudgedBits$Tally" "stored" "I", Cond.fieldLink RX7 24 "JudgedBits$Tally" "lost" "I", Cond.fieldLink RX7 27 "JudgedBits$Tally" "drawn" "I", Cond.fieldLink RX7 30 "JudgedBits$Tally" "alarms" "I", Cond.fieldLink RX7 33 "JudgedBits$Tally" "longestRun" "I", Cond.methodLink RX9 54 yX6_startAnew, Cond.instanceMethod yX6_startAnew, Cond.selects RX6 yX6_startAnew yX6_startAnew, Cond.code yX6_startAnew cX6_startAnew 2 (some .int), Cond.fieldLink RX6 106 "JudgedBits$BitRow" "size" "I", Cond.methodLink RX6 120 yX0_clear, Cond.instanceMethod yX0_clear]
def wsX9_restart_r4 : List Cond := [Cond.selects RX0 yX0_clear yX0_clear, Cond.code yX0_clear cX0_clear 1 none, Cond.methodLink RX6 123 yX1_startAnew, Cond.instanceMethod yX1_startAnew, Cond.selects RX1 yX1_startAnew yX1_startAnew, Cond.code yX1_startAnew cX1_startAnew 1 none, Cond.methodLink RX9 41 yX9_settle, Cond.instanceMethod yX9_settle, Cond.selects RX9 yX9_settle yX9_settle, Cond.initialized RX9, Cond.code yX9_settle cX9_settle 2 (some .int), Cond.fieldLink RX9 22 "JudgedBits" "history" "LJudgedBits$History;", Cond.methodLink RX9 172 yX2_keep, Cond.instanceMethod yX2_keep, Cond.selects RX2 yX2_keep yX2_keep, Cond.initialized RX2, Cond.code yX2_keep cX2_keep 2 none, Cond.fieldLink RX2 28 "JudgedBits$History" "fourth" "LJudgedBits$Source;", Cond.fieldLink RX2 25 "JudgedBits$History" "third" "LJudgedBits$Source;", Cond.fieldLink RX2 22 "JudgedBits$History" "second" "LJudgedBits$Source;", Cond.fieldLink RX2 18 "JudgedBits$History" "latest" "LJudgedBits$Source;", Cond.fieldLink RX2 9 "JudgedBits$History" "many" "I", Cond.methodLink RX2 31 yX6_copyFrom]
def wsX9_restart : List Cond := .code yX9_restart cX9_restart 1 (some .int) :: ((wsX9_restart_r1 ++ (wsX9_restart_r2 ++ (wsX9_restart_r3 ++ wsX9_restart_r4))) ++ wsX90 ++ wsX60 ++ wsX40 ++ wsX50 ++ wsX10 ++ wsX00 ++ wsX70 ++ wsX20)
def wsX9_set_r1 : List Cond := [Cond.fieldLink RX9 16 "JudgedBits" "trial" "LJudgedBits$Source;", Cond.fieldLink RX9 10 "JudgedBits" "now" "LJudgedBits$Source;", Cond.fieldLink RX9 58 "JudgedBits$Source" "settings" "LJudgedBits$Settings;", Cond.methodLink RX9 33 yX6_copyFrom, Cond.instanceMethod yX6_copyFrom, Cond.selects RX6 yX6_copyFrom yX6_copyFrom, Cond.initialized RX6, Cond.code yX6_copyFrom cX6_copyFrom 2 none, Cond.fieldLink RX6 23 "JudgedBits$Source" "ringZero" "LJudgedBits$Ring;", Cond.fieldLink RX6 27 "JudgedBits$Source" "ringOne" "LJudgedBits$Ring;", Cond.fieldLink RX6 33 "JudgedBits$Source" "settings" "LJudgedBits$Settings;", Cond.fieldLink RX6 40 "JudgedBits$Source" "health" "LJudgedBits$Health;", Cond.fieldLink RX6 47 "JudgedBits$Source" "rawBits" "LJudgedBits$BitRow;", Cond.fieldLink RX6 51 "JudgedBits$Source" "store" "LJudgedBits$BitRow;", Cond.fieldLink RX6 57 "JudgedBits$Source" "tally" "LJudgedBits$Tally;", Cond.fieldLink RX6 9 "JudgedBits$Source" "noiseNumber" "I", Cond.fieldLink RX6 15 "JudgedBits$Source" "waiting" "I", Cond.methodLink RX6 61 yX4_copyFrom, Cond.instanceMethod yX4_copyFrom, Cond.selects RX4 yX4_copyFrom yX4_copyFrom, Cond.initialized RX4, Cond.code yX4_copyFrom cX4_copyFrom 2 none, Cond.fieldLink RX4 18 "JudgedBits$Ring" "period" "I", Cond.fieldLink RX4 9 "JudgedBits$Ring" "jitter" "I"]
def wsX9_set_r2 : List Cond := [Cond.fieldLink RX4 15 "JudgedBits$Ring" "phase" "I", Cond.methodLink RX6 65 yX5_copyFrom, Cond.instanceMethod yX5_copyFrom, Cond.selects RX5 yX5_copyFrom yX5_copyFrom, Cond.initialized RX5, Cond.code yX5_copyFrom cX5_copyFrom 2 none, Cond.fieldLink RX5 9 "JudgedBits$Settings" "step" "I", Cond.fieldLink RX5 15 "JudgedBits$Settings" "lock" "I", Cond.fieldLink RX5 18 "JudgedBits$Settings" "longestRun" "I", Cond.fieldLink RX5 21 "JudgedBits$Settings" "leastOnes" "I", Cond.methodLink RX6 68 yX1_copyFrom, Cond.instanceMethod yX1_copyFrom, Cond.selects RX1 yX1_copyFrom yX1_copyFrom, Cond.initialized RX1, Cond.code yX1_copyFrom cX1_copyFrom 2 none, Cond.fieldLink RX1 9 "JudgedBits$Health" "mode" "I", Cond.fieldLink RX1 13 "JudgedBits$Health" "failedTest" "I", Cond.fieldLink RX1 16 "JudgedBits$Health" "startUpBits" "I", Cond.fieldLink RX1 19 "JudgedBits$Health" "run" "I", Cond.fieldLink RX1 22 "JudgedBits$Health" "runBit" "I", Cond.fieldLink RX1 25 "JudgedBits$Health" "windowBits" "I", Cond.fieldLink RX1 28 "JudgedBits$Health" "windowOnes" "I", Cond.methodLink RX6 71 yX0_copyFrom, Cond.instanceMethod yX0_copyFrom]
def wsX9_set_r3 : List Cond := [Cond.selects RX0 yX0_copyFrom yX0_copyFrom, Cond.initialized RX0, Cond.code yX0_copyFrom cX0_copyFrom 2 none, Cond.fieldLink RX0 7 "JudgedBits$BitRow" "bits" "J", Cond.fieldLink RX0 13 "JudgedBits$BitRow" "size" "I", Cond.methodLink RX6 74 yX7_copyFrom, Cond.instanceMethod yX7_copyFrom, Cond.selects RX7 yX7_copyFrom yX7_copyFrom, Cond.initialized RX7, Cond.code yX7_copyFrom cX7_copyFrom 2 none, Cond.fieldLink RX7 9 "JudgedBits$Tally" "samples" "I", Cond.fieldLink RX7 15 "JudgedBits$Tally" "ones" "I", Cond.fieldLink RX7 18 "JudgedBits$Tally" "leftOut" "I", Cond.fieldLink RX7 21 "JudgedBits$Tally" "stored" "I", Cond.fieldLink RX7 24 "JudgedBits$Tally" "lost" "I", Cond.fieldLink RX7 27 "JudgedBits$Tally" "drawn" "I", Cond.fieldLink RX7 30 "JudgedBits$Tally" "alarms" "I", Cond.fieldLink RX7 33 "JudgedBits$Tally" "longestRun" "I", Cond.methodLink RX9 62 yX5_change, Cond.instanceMethod yX5_change, Cond.selects RX5 yX5_change yX5_change, Cond.code yX5_change cX5_change 4 (some .int), Cond.constant RX5 24 (-1000001), Cond.methodLink RX5 25 yX5_isAllowed]
def wsX9_set_r4 : List Cond := [Cond.static yX5_isAllowed, Cond.code yX5_isAllowed cX5_isAllowed 2 (some .boolean), Cond.static yX9_isWithin, Cond.initialized RX9, Cond.code yX9_isWithin cX9_isWithin 3 (some .boolean), Cond.methodLink RX5 29 yX5_tell, Cond.instanceMethod yX5_tell, Cond.selects RX5 yX5_tell yX5_tell, Cond.code yX5_tell cX5_tell 2 (some .int), Cond.methodLink RX9 41 yX9_settle, Cond.instanceMethod yX9_settle, Cond.selects RX9 yX9_settle yX9_settle, Cond.code yX9_settle cX9_settle 2 (some .int), Cond.fieldLink RX9 22 "JudgedBits" "history" "LJudgedBits$History;", Cond.methodLink RX9 172 yX2_keep, Cond.instanceMethod yX2_keep, Cond.selects RX2 yX2_keep yX2_keep, Cond.initialized RX2, Cond.code yX2_keep cX2_keep 2 none, Cond.fieldLink RX2 28 "JudgedBits$History" "fourth" "LJudgedBits$Source;", Cond.fieldLink RX2 25 "JudgedBits$History" "third" "LJudgedBits$Source;", Cond.fieldLink RX2 22 "JudgedBits$History" "second" "LJudgedBits$Source;", Cond.fieldLink RX2 18 "JudgedBits$History" "latest" "LJudgedBits$Source;", Cond.fieldLink RX2 9 "JudgedBits$History" "many" "I"]
def wsX9_set_r5 : List Cond := [Cond.methodLink RX2 31 yX6_copyFrom]
def wsX9_set : List Cond := .code yX9_set cX9_set 3 (some .int) :: ((wsX9_set_r1 ++ (wsX9_set_r2 ++ (wsX9_set_r3 ++ (wsX9_set_r4 ++ wsX9_set_r5)))) ++ wsX90 ++ wsX60 ++ wsX40 ++ wsX50 ++ wsX10 ++ wsX00 ++ wsX70 ++ wsX20)
def wsX9_ringOf_r1 : List Cond := [Cond.constant RX9 72 (-1000001), Cond.fieldLink RX9 10 "JudgedBits" "now" "LJudgedBits$Source;", Cond.methodLink RX9 68 yX9_isWithin, Cond.static yX9_isWithin, Cond.initialized RX9, Cond.code yX9_isWithin cX9_isWithin 3 (some .boolean), Cond.methodLink RX9 73 yX6_ringAt, Cond.instanceMethod yX6_ringAt, Cond.selects RX6 yX6_ringAt yX6_ringAt, Cond.initialized RX6, Cond.code yX6_ringAt cX6_ringAt 2 (some (.object "JudgedBits$Ring")), Cond.fieldLink RX6 23 "JudgedBits$Source" "ringZero" "LJudgedBits$Ring;", Cond.fieldLink RX6 27 "JudgedBits$Source" "ringOne" "LJudgedBits$Ring;", Cond.methodLink RX9 77 yX4_tell, Cond.instanceMethod yX4_tell, Cond.selects RX4 yX4_tell yX4_tell, Cond.initialized RX4, Cond.code yX4_tell cX4_tell 2 (some .int), Cond.fieldLink RX4 18 "JudgedBits$Ring" "period" "I", Cond.fieldLink RX4 9 "JudgedBits$Ring" "jitter" "I", Cond.fieldLink RX4 15 "JudgedBits$Ring" "phase" "I", Cond.constant RX4 29 (-1000001), Cond.methodLink RX4 25 yX4_isHigh, Cond.instanceMethod yX4_isHigh]
def wsX9_ringOf_r2 : List Cond := [Cond.selects RX4 yX4_isHigh yX4_isHigh, Cond.code yX4_isHigh cX4_isHigh 1 (some .boolean)]
def wsX9_ringOf : List Cond := .code yX9_ringOf cX9_ringOf 3 (some .int) :: ((wsX9_ringOf_r1 ++ wsX9_ringOf_r2) ++ wsX90 ++ wsX60 ++ wsX40)
def wsX9_source_r1 : List Cond := [Cond.fieldLink RX9 10 "JudgedBits" "now" "LJudgedBits$Source;", Cond.methodLink RX9 82 yX6_tell, Cond.instanceMethod yX6_tell, Cond.selects RX6 yX6_tell yX6_tell, Cond.initialized RX6, Cond.code yX6_tell cX6_tell 2 (some .int), Cond.fieldLink RX6 40 "JudgedBits$Source" "health" "LJudgedBits$Health;", Cond.fieldLink RX6 109 "JudgedBits$Health" "mode" "I", Cond.fieldLink RX6 193 "JudgedBits$Health" "failedTest" "I", Cond.constant RX6 196 (-1000004), Cond.fieldLink RX6 197 "JudgedBits$Health" "startUpBits" "I", Cond.fieldLink RX6 171 "JudgedBits$Health" "run" "I", Cond.fieldLink RX6 200 "JudgedBits$Health" "windowBits" "I", Cond.fieldLink RX6 203 "JudgedBits$Health" "windowOnes" "I", Cond.fieldLink RX6 51 "JudgedBits$Source" "store" "LJudgedBits$BitRow;", Cond.fieldLink RX6 106 "JudgedBits$BitRow" "size" "I", Cond.fieldLink RX6 15 "JudgedBits$Source" "waiting" "I", Cond.fieldLink RX6 9 "JudgedBits$Source" "noiseNumber" "I", Cond.constant RX6 81 (-1000001), Cond.methodLink RX6 136 yX6_locksOn, Cond.instanceMethod yX6_locksOn, Cond.selects RX6 yX6_locksOn yX6_locksOn, Cond.code yX6_locksOn cX6_locksOn 1 (some .boolean), Cond.fieldLink RX6 23 "JudgedBits$Source" "ringZero" "LJudgedBits$Ring;"]
def wsX9_source_r2 : List Cond := [Cond.fieldLink RX6 86 "JudgedBits$Ring" "period" "I", Cond.fieldLink RX6 27 "JudgedBits$Source" "ringOne" "LJudgedBits$Ring;", Cond.methodLink RX6 146 Lib.Math.abs.name, Cond.static Lib.Math.abs.name, Cond.initialized "java/lang/Math", Cond.code Lib.Math.abs.name Lib.Math.abs.code 1 (some .int), Cond.fieldLink RX6 33 "JudgedBits$Source" "settings" "LJudgedBits$Settings;", Cond.fieldLink RX6 151 "JudgedBits$Settings" "lock" "I"]
def wsX9_source : List Cond := .code yX9_source cX9_source 2 (some .int) :: ((wsX9_source_r1 ++ wsX9_source_r2) ++ wsX90 ++ wsX60 ++ wsX10 ++ wsX00 ++ wsX40 ++ wsX50)
def wsX9_raw : List Cond := .code yX9_raw cX9_raw 2 (some .int) :: ([.constant RX9 72 (-1000001), .fieldLink RX9 10 "JudgedBits" "now" "LJudgedBits$Source;", .fieldLink RX9 85 "JudgedBits$Source" "rawBits" "LJudgedBits$BitRow;", .fieldLink RX9 89 "JudgedBits$BitRow" "size" "I", .constant RX9 96 (-1000004), .methodLink RX9 68 yX9_isWithin, .static yX9_isWithin, .initialized RX9, .code yX9_isWithin cX9_isWithin 3 (some .boolean), .methodLink RX9 93 yX0_fromLatest, .instanceMethod yX0_fromLatest, .selects RX0 yX0_fromLatest yX0_fromLatest, .initialized RX0, .code yX0_fromLatest cX0_fromLatest 2 (some .int), .fieldLink RX0 7 "JudgedBits$BitRow" "bits" "J"] ++ wsX90 ++ wsX60 ++ wsX00)
def wsX9_stored : List Cond := .code yX9_stored cX9_stored 2 (some .int) :: ([.constant RX9 72 (-1000001), .fieldLink RX9 10 "JudgedBits" "now" "LJudgedBits$Source;", .fieldLink RX9 97 "JudgedBits$Source" "store" "LJudgedBits$BitRow;", .fieldLink RX9 89 "JudgedBits$BitRow" "size" "I", .constant RX9 96 (-1000004), .methodLink RX9 100 yX0_fromEarliest, .instanceMethod yX0_fromEarliest, .selects RX0 yX0_fromEarliest yX0_fromEarliest, .initialized RX0, .code yX0_fromEarliest cX0_fromEarliest 2 (some .int), .fieldLink RX0 13 "JudgedBits$BitRow" "size" "I", .methodLink RX0 17 yX0_fromLatest, .instanceMethod yX0_fromLatest, .selects RX0 yX0_fromLatest yX0_fromLatest, .code yX0_fromLatest cX0_fromLatest 2 (some .int), .fieldLink RX0 7 "JudgedBits$BitRow" "bits" "J"] ++ wsX90 ++ wsX60 ++ wsX00)
def wsX9_would_r1 : List Cond := [Cond.constant RX9 72 (-1000001), Cond.fieldLink RX9 16 "JudgedBits" "trial" "LJudgedBits$Source;", Cond.fieldLink RX9 10 "JudgedBits" "now" "LJudgedBits$Source;", Cond.fieldLink RX9 97 "JudgedBits$Source" "store" "LJudgedBits$BitRow;", Cond.fieldLink RX9 89 "JudgedBits$BitRow" "size" "I", Cond.fieldLink RX9 103 "JudgedBits$Source" "health" "LJudgedBits$Health;", Cond.fieldLink RX9 107 "JudgedBits$Health" "mode" "I", Cond.fieldLink RX9 112 "JudgedBits$Source" "tally" "LJudgedBits$Tally;", Cond.fieldLink RX9 116 "JudgedBits$Tally" "lost" "I", Cond.methodLink RX9 68 yX9_isWithin, Cond.static yX9_isWithin, Cond.initialized RX9, Cond.code yX9_isWithin cX9_isWithin 3 (some .boolean), Cond.methodLink RX9 33 yX6_copyFrom, Cond.instanceMethod yX6_copyFrom, Cond.selects RX6 yX6_copyFrom yX6_copyFrom, Cond.initialized RX6, Cond.code yX6_copyFrom cX6_copyFrom 2 none, Cond.fieldLink RX6 23 "JudgedBits$Source" "ringZero" "LJudgedBits$Ring;", Cond.fieldLink RX6 27 "JudgedBits$Source" "ringOne" "LJudgedBits$Ring;", Cond.fieldLink RX6 33 "JudgedBits$Source" "settings" "LJudgedBits$Settings;", Cond.fieldLink RX6 40 "JudgedBits$Source" "health" "LJudgedBits$Health;", Cond.fieldLink RX6 47 "JudgedBits$Source" "rawBits" "LJudgedBits$BitRow;", Cond.fieldLink RX6 51 "JudgedBits$Source" "store" "LJudgedBits$BitRow;"]
def wsX9_would_r2 : List Cond := [Cond.fieldLink RX6 57 "JudgedBits$Source" "tally" "LJudgedBits$Tally;", Cond.fieldLink RX6 9 "JudgedBits$Source" "noiseNumber" "I", Cond.fieldLink RX6 15 "JudgedBits$Source" "waiting" "I", Cond.methodLink RX6 61 yX4_copyFrom, Cond.instanceMethod yX4_copyFrom, Cond.selects RX4 yX4_copyFrom yX4_copyFrom, Cond.initialized RX4, Cond.code yX4_copyFrom cX4_copyFrom 2 none, Cond.fieldLink RX4 18 "JudgedBits$Ring" "period" "I", Cond.fieldLink RX4 9 "JudgedBits$Ring" "jitter" "I", Cond.fieldLink RX4 15 "JudgedBits$Ring" "phase" "I", Cond.methodLink RX6 65 yX5_copyFrom, Cond.instanceMethod yX5_copyFrom, Cond.selects RX5 yX5_copyFrom yX5_copyFrom, Cond.initialized RX5, Cond.code yX5_copyFrom cX5_copyFrom 2 none, Cond.fieldLink RX5 9 "JudgedBits$Settings" "step" "I", Cond.fieldLink RX5 15 "JudgedBits$Settings" "lock" "I", Cond.fieldLink RX5 18 "JudgedBits$Settings" "longestRun" "I", Cond.fieldLink RX5 21 "JudgedBits$Settings" "leastOnes" "I", Cond.methodLink RX6 68 yX1_copyFrom, Cond.instanceMethod yX1_copyFrom, Cond.selects RX1 yX1_copyFrom yX1_copyFrom, Cond.initialized RX1]
def wsX9_would_r3 : List Cond := [Cond.code yX1_copyFrom cX1_copyFrom 2 none, Cond.fieldLink RX1 9 "JudgedBits$Health" "mode" "I", Cond.fieldLink RX1 13 "JudgedBits$Health" "failedTest" "I", Cond.fieldLink RX1 16 "JudgedBits$Health" "startUpBits" "I", Cond.fieldLink RX1 19 "JudgedBits$Health" "run" "I", Cond.fieldLink RX1 22 "JudgedBits$Health" "runBit" "I", Cond.fieldLink RX1 25 "JudgedBits$Health" "windowBits" "I", Cond.fieldLink RX1 28 "JudgedBits$Health" "windowOnes" "I", Cond.methodLink RX6 71 yX0_copyFrom, Cond.instanceMethod yX0_copyFrom, Cond.selects RX0 yX0_copyFrom yX0_copyFrom, Cond.initialized RX0, Cond.code yX0_copyFrom cX0_copyFrom 2 none, Cond.fieldLink RX0 7 "JudgedBits$BitRow" "bits" "J", Cond.fieldLink RX0 13 "JudgedBits$BitRow" "size" "I", Cond.methodLink RX6 74 yX7_copyFrom, Cond.instanceMethod yX7_copyFrom, Cond.selects RX7 yX7_copyFrom yX7_copyFrom, Cond.initialized RX7, Cond.code yX7_copyFrom cX7_copyFrom 2 none, Cond.fieldLink RX7 9 "JudgedBits$Tally" "samples" "I", Cond.fieldLink RX7 15 "JudgedBits$Tally" "ones" "I", Cond.fieldLink RX7 18 "JudgedBits$Tally" "leftOut" "I", Cond.fieldLink RX7 21 "JudgedBits$Tally" "stored" "I"]
def wsX9_would_r4 : List Cond := [Cond.fieldLink RX7 24 "JudgedBits$Tally" "lost" "I", Cond.fieldLink RX7 27 "JudgedBits$Tally" "drawn" "I", Cond.fieldLink RX7 30 "JudgedBits$Tally" "alarms" "I", Cond.fieldLink RX7 33 "JudgedBits$Tally" "longestRun" "I", Cond.methodLink RX9 48 yX6_makeSamples, Cond.instanceMethod yX6_makeSamples, Cond.selects RX6 yX6_makeSamples yX6_makeSamples, Cond.code yX6_makeSamples cX6_makeSamples 4 (some .int), Cond.constant RX6 81 (-1000001), Cond.fieldLink RX6 96 "JudgedBits$Tally" "stored" "I", Cond.methodLink RX6 99 yX6_nextRawBit, Cond.instanceMethod yX6_nextRawBit, Cond.selects RX6 yX6_nextRawBit yX6_nextRawBit, Cond.code yX6_nextRawBit cX6_nextRawBit 1 (some .int), Cond.fieldLink RX6 126 "JudgedBits$Settings" "step" "I", Cond.methodLink RX6 129 yX6_nextNoise, Cond.instanceMethod yX6_nextNoise, Cond.selects RX6 yX6_nextNoise yX6_nextNoise, Cond.code yX6_nextNoise cX6_nextNoise 1 (some .int), Cond.constant RX6 154 (65537), Cond.methodLink RX6 132 yX4_advance, Cond.instanceMethod yX4_advance, Cond.selects RX4 yX4_advance yX4_advance, Cond.code yX4_advance cX4_advance 3 none]
def wsX9_would_r5 : List Cond := [Cond.static yX9_remainder, Cond.code yX9_remainder cX9_remainder 2 (some .int), Cond.methodLink RX6 136 yX6_locksOn, Cond.instanceMethod yX6_locksOn, Cond.selects RX6 yX6_locksOn yX6_locksOn, Cond.code yX6_locksOn cX6_locksOn 1 (some .boolean), Cond.fieldLink RX6 86 "JudgedBits$Ring" "period" "I", Cond.methodLink RX6 146 Lib.Math.abs.name, Cond.static Lib.Math.abs.name, Cond.initialized "java/lang/Math", Cond.code Lib.Math.abs.name Lib.Math.abs.code 1 (some .int), Cond.fieldLink RX6 151 "JudgedBits$Settings" "lock" "I", Cond.methodLink RX6 140 yX4_lockOn, Cond.instanceMethod yX4_lockOn, Cond.selects RX4 yX4_lockOn yX4_lockOn, Cond.code yX4_lockOn cX4_lockOn 2 none, Cond.methodLink RX6 143 yX4_isHigh, Cond.instanceMethod yX4_isHigh, Cond.selects RX4 yX4_isHigh yX4_isHigh, Cond.code yX4_isHigh cX4_isHigh 1 (some .boolean), Cond.methodLink RX6 103 yX6_takeRawBit, Cond.instanceMethod yX6_takeRawBit, Cond.selects RX6 yX6_takeRawBit yX6_takeRawBit, Cond.code yX6_takeRawBit cX6_takeRawBit 3 none]
def wsX9_would_r6 : List Cond := [Cond.fieldLink RX6 158 "JudgedBits$Tally" "samples" "I", Cond.fieldLink RX6 161 "JudgedBits$Tally" "ones" "I", Cond.fieldLink RX6 109 "JudgedBits$Health" "mode" "I", Cond.fieldLink RX6 168 "JudgedBits$Tally" "longestRun" "I", Cond.fieldLink RX6 171 "JudgedBits$Health" "run" "I", Cond.methodLink RX6 174 Lib.Math.max.name, Cond.static Lib.Math.max.name, Cond.code Lib.Math.max.name Lib.Math.max.code 2 (some .int), Cond.fieldLink RX6 178 "JudgedBits$Tally" "alarms" "I", Cond.methodLink RX6 155 yX0_append, Cond.instanceMethod yX0_append, Cond.selects RX0 yX0_append yX0_append, Cond.code yX0_append cX0_append 2 none, Cond.methodLink RX6 164 yX1_judge, Cond.instanceMethod yX1_judge, Cond.selects RX1 yX1_judge yX1_judge, Cond.code yX1_judge cX1_judge 4 none, Cond.fieldLink RX1 35 "JudgedBits$Settings" "leastOnes" "I", Cond.fieldLink RX1 44 "JudgedBits$Settings" "longestRun" "I", Cond.methodLink RX1 31 yX1_countInRun, Cond.instanceMethod yX1_countInRun, Cond.selects RX1 yX1_countInRun yX1_countInRun, Cond.code yX1_countInRun cX1_countInRun 2 none, Cond.methodLink RX1 40 yX1_failsShare]
def wsX9_would_r7 : List Cond := [Cond.instanceMethod yX1_failsShare, Cond.selects RX1 yX1_failsShare yX1_failsShare, Cond.code yX1_failsShare cX1_failsShare 4 (some .boolean), Cond.methodLink RX1 47 yX1_bringAlarm, Cond.instanceMethod yX1_bringAlarm, Cond.selects RX1 yX1_bringAlarm yX1_bringAlarm, Cond.code yX1_bringAlarm cX1_bringAlarm 2 none, Cond.methodLink RX1 50 yX1_countInStartUp, Cond.instanceMethod yX1_countInStartUp, Cond.selects RX1 yX1_countInStartUp yX1_countInStartUp, Cond.code yX1_countInStartUp cX1_countInStartUp 1 none, Cond.methodLink RX6 181 yX6_pairUp, Cond.instanceMethod yX6_pairUp, Cond.selects RX6 yX6_pairUp yX6_pairUp, Cond.code yX6_pairUp cX6_pairUp 3 none, Cond.fieldLink RX6 184 "JudgedBits$Tally" "leftOut" "I", Cond.fieldLink RX6 190 "JudgedBits$Tally" "lost" "I", Cond.methodLink RX6 187 yX0_isFull, Cond.instanceMethod yX0_isFull, Cond.selects RX0 yX0_isFull yX0_isFull, Cond.code yX0_isFull cX0_isFull 1 (some .boolean)]
def wsX9_would : List Cond := .code yX9_would cX9_would 3 (some .int) :: ((wsX9_would_r1 ++ (wsX9_would_r2 ++ (wsX9_would_r3 ++ (wsX9_would_r4 ++ (wsX9_would_r5 ++ (wsX9_would_r6 ++ wsX9_would_r7)))))) ++ wsX90 ++ wsX60 ++ wsX00 ++ wsX10 ++ wsX70 ++ wsX40 ++ wsX50)
def wsX9_takes_r1 : List Cond := [Cond.constant RX9 72 (-1000001), Cond.fieldLink RX9 16 "JudgedBits" "trial" "LJudgedBits$Source;", Cond.fieldLink RX9 10 "JudgedBits" "now" "LJudgedBits$Source;", Cond.fieldLink RX9 97 "JudgedBits$Source" "store" "LJudgedBits$BitRow;", Cond.fieldLink RX9 89 "JudgedBits$BitRow" "size" "I", Cond.constant RX9 96 (-1000004), Cond.methodLink RX9 68 yX9_isWithin, Cond.static yX9_isWithin, Cond.initialized RX9, Cond.code yX9_isWithin cX9_isWithin 3 (some .boolean), Cond.methodLink RX9 33 yX6_copyFrom, Cond.instanceMethod yX6_copyFrom, Cond.selects RX6 yX6_copyFrom yX6_copyFrom, Cond.initialized RX6, Cond.code yX6_copyFrom cX6_copyFrom 2 none, Cond.fieldLink RX6 23 "JudgedBits$Source" "ringZero" "LJudgedBits$Ring;", Cond.fieldLink RX6 27 "JudgedBits$Source" "ringOne" "LJudgedBits$Ring;", Cond.fieldLink RX6 33 "JudgedBits$Source" "settings" "LJudgedBits$Settings;", Cond.fieldLink RX6 40 "JudgedBits$Source" "health" "LJudgedBits$Health;", Cond.fieldLink RX6 47 "JudgedBits$Source" "rawBits" "LJudgedBits$BitRow;", Cond.fieldLink RX6 51 "JudgedBits$Source" "store" "LJudgedBits$BitRow;", Cond.fieldLink RX6 57 "JudgedBits$Source" "tally" "LJudgedBits$Tally;", Cond.fieldLink RX6 9 "JudgedBits$Source" "noiseNumber" "I", Cond.fieldLink RX6 15 "JudgedBits$Source" "waiting" "I"]
def wsX9_takes_r2 : List Cond := [Cond.methodLink RX6 61 yX4_copyFrom, Cond.instanceMethod yX4_copyFrom, Cond.selects RX4 yX4_copyFrom yX4_copyFrom, Cond.initialized RX4, Cond.code yX4_copyFrom cX4_copyFrom 2 none, Cond.fieldLink RX4 18 "JudgedBits$Ring" "period" "I", Cond.fieldLink RX4 9 "JudgedBits$Ring" "jitter" "I", Cond.fieldLink RX4 15 "JudgedBits$Ring" "phase" "I", Cond.methodLink RX6 65 yX5_copyFrom, Cond.instanceMethod yX5_copyFrom, Cond.selects RX5 yX5_copyFrom yX5_copyFrom, Cond.initialized RX5, Cond.code yX5_copyFrom cX5_copyFrom 2 none, Cond.fieldLink RX5 9 "JudgedBits$Settings" "step" "I", Cond.fieldLink RX5 15 "JudgedBits$Settings" "lock" "I", Cond.fieldLink RX5 18 "JudgedBits$Settings" "longestRun" "I", Cond.fieldLink RX5 21 "JudgedBits$Settings" "leastOnes" "I", Cond.methodLink RX6 68 yX1_copyFrom, Cond.instanceMethod yX1_copyFrom, Cond.selects RX1 yX1_copyFrom yX1_copyFrom, Cond.initialized RX1, Cond.code yX1_copyFrom cX1_copyFrom 2 none, Cond.fieldLink RX1 9 "JudgedBits$Health" "mode" "I", Cond.fieldLink RX1 13 "JudgedBits$Health" "failedTest" "I"]
def wsX9_takes_r3 : List Cond := [Cond.fieldLink RX1 16 "JudgedBits$Health" "startUpBits" "I", Cond.fieldLink RX1 19 "JudgedBits$Health" "run" "I", Cond.fieldLink RX1 22 "JudgedBits$Health" "runBit" "I", Cond.fieldLink RX1 25 "JudgedBits$Health" "windowBits" "I", Cond.fieldLink RX1 28 "JudgedBits$Health" "windowOnes" "I", Cond.methodLink RX6 71 yX0_copyFrom, Cond.instanceMethod yX0_copyFrom, Cond.selects RX0 yX0_copyFrom yX0_copyFrom, Cond.initialized RX0, Cond.code yX0_copyFrom cX0_copyFrom 2 none, Cond.fieldLink RX0 7 "JudgedBits$BitRow" "bits" "J", Cond.fieldLink RX0 13 "JudgedBits$BitRow" "size" "I", Cond.methodLink RX6 74 yX7_copyFrom, Cond.instanceMethod yX7_copyFrom, Cond.selects RX7 yX7_copyFrom yX7_copyFrom, Cond.initialized RX7, Cond.code yX7_copyFrom cX7_copyFrom 2 none, Cond.fieldLink RX7 9 "JudgedBits$Tally" "samples" "I", Cond.fieldLink RX7 15 "JudgedBits$Tally" "ones" "I", Cond.fieldLink RX7 18 "JudgedBits$Tally" "leftOut" "I", Cond.fieldLink RX7 21 "JudgedBits$Tally" "stored" "I", Cond.fieldLink RX7 24 "JudgedBits$Tally" "lost" "I", Cond.fieldLink RX7 27 "JudgedBits$Tally" "drawn" "I", Cond.fieldLink RX7 30 "JudgedBits$Tally" "alarms" "I"]
def wsX9_takes_r4 : List Cond := [Cond.fieldLink RX7 33 "JudgedBits$Tally" "longestRun" "I", Cond.methodLink RX9 48 yX6_makeSamples, Cond.instanceMethod yX6_makeSamples, Cond.selects RX6 yX6_makeSamples yX6_makeSamples, Cond.code yX6_makeSamples cX6_makeSamples 4 (some .int), Cond.constant RX6 81 (-1000001), Cond.fieldLink RX6 96 "JudgedBits$Tally" "stored" "I", Cond.methodLink RX6 99 yX6_nextRawBit, Cond.instanceMethod yX6_nextRawBit, Cond.selects RX6 yX6_nextRawBit yX6_nextRawBit, Cond.code yX6_nextRawBit cX6_nextRawBit 1 (some .int), Cond.fieldLink RX6 126 "JudgedBits$Settings" "step" "I", Cond.methodLink RX6 129 yX6_nextNoise, Cond.instanceMethod yX6_nextNoise, Cond.selects RX6 yX6_nextNoise yX6_nextNoise, Cond.code yX6_nextNoise cX6_nextNoise 1 (some .int), Cond.constant RX6 154 (65537), Cond.methodLink RX6 132 yX4_advance, Cond.instanceMethod yX4_advance, Cond.selects RX4 yX4_advance yX4_advance, Cond.code yX4_advance cX4_advance 3 none, Cond.static yX9_remainder, Cond.code yX9_remainder cX9_remainder 2 (some .int), Cond.methodLink RX6 136 yX6_locksOn]
def wsX9_takes_r5 : List Cond := [Cond.instanceMethod yX6_locksOn, Cond.selects RX6 yX6_locksOn yX6_locksOn, Cond.code yX6_locksOn cX6_locksOn 1 (some .boolean), Cond.fieldLink RX6 86 "JudgedBits$Ring" "period" "I", Cond.methodLink RX6 146 Lib.Math.abs.name, Cond.static Lib.Math.abs.name, Cond.initialized "java/lang/Math", Cond.code Lib.Math.abs.name Lib.Math.abs.code 1 (some .int), Cond.fieldLink RX6 151 "JudgedBits$Settings" "lock" "I", Cond.methodLink RX6 140 yX4_lockOn, Cond.instanceMethod yX4_lockOn, Cond.selects RX4 yX4_lockOn yX4_lockOn, Cond.code yX4_lockOn cX4_lockOn 2 none, Cond.methodLink RX6 143 yX4_isHigh, Cond.instanceMethod yX4_isHigh, Cond.selects RX4 yX4_isHigh yX4_isHigh, Cond.code yX4_isHigh cX4_isHigh 1 (some .boolean), Cond.methodLink RX6 103 yX6_takeRawBit, Cond.instanceMethod yX6_takeRawBit, Cond.selects RX6 yX6_takeRawBit yX6_takeRawBit, Cond.code yX6_takeRawBit cX6_takeRawBit 3 none, Cond.fieldLink RX6 158 "JudgedBits$Tally" "samples" "I", Cond.fieldLink RX6 161 "JudgedBits$Tally" "ones" "I", Cond.fieldLink RX6 109 "JudgedBits$Health" "mode" "I"]
def wsX9_takes_r6 : List Cond := [Cond.fieldLink RX6 168 "JudgedBits$Tally" "longestRun" "I", Cond.fieldLink RX6 171 "JudgedBits$Health" "run" "I", Cond.methodLink RX6 174 Lib.Math.max.name, Cond.static Lib.Math.max.name, Cond.code Lib.Math.max.name Lib.Math.max.code 2 (some .int), Cond.fieldLink RX6 178 "JudgedBits$Tally" "alarms" "I", Cond.methodLink RX6 155 yX0_append, Cond.instanceMethod yX0_append, Cond.selects RX0 yX0_append yX0_append, Cond.code yX0_append cX0_append 2 none, Cond.methodLink RX6 164 yX1_judge, Cond.instanceMethod yX1_judge, Cond.selects RX1 yX1_judge yX1_judge, Cond.code yX1_judge cX1_judge 4 none, Cond.fieldLink RX1 35 "JudgedBits$Settings" "leastOnes" "I", Cond.fieldLink RX1 44 "JudgedBits$Settings" "longestRun" "I", Cond.methodLink RX1 31 yX1_countInRun, Cond.instanceMethod yX1_countInRun, Cond.selects RX1 yX1_countInRun yX1_countInRun, Cond.code yX1_countInRun cX1_countInRun 2 none, Cond.methodLink RX1 40 yX1_failsShare, Cond.instanceMethod yX1_failsShare, Cond.selects RX1 yX1_failsShare yX1_failsShare, Cond.code yX1_failsShare cX1_failsShare 4 (some .boolean)]
def wsX9_takes_r7 : List Cond := [Cond.methodLink RX1 47 yX1_bringAlarm, Cond.instanceMethod yX1_bringAlarm, Cond.selects RX1 yX1_bringAlarm yX1_bringAlarm, Cond.code yX1_bringAlarm cX1_bringAlarm 2 none, Cond.methodLink RX1 50 yX1_countInStartUp, Cond.instanceMethod yX1_countInStartUp, Cond.selects RX1 yX1_countInStartUp yX1_countInStartUp, Cond.code yX1_countInStartUp cX1_countInStartUp 1 none, Cond.methodLink RX6 181 yX6_pairUp, Cond.instanceMethod yX6_pairUp, Cond.selects RX6 yX6_pairUp yX6_pairUp, Cond.code yX6_pairUp cX6_pairUp 3 none, Cond.fieldLink RX6 184 "JudgedBits$Tally" "leftOut" "I", Cond.fieldLink RX6 190 "JudgedBits$Tally" "lost" "I", Cond.methodLink RX6 187 yX0_isFull, Cond.instanceMethod yX0_isFull, Cond.selects RX0 yX0_isFull yX0_isFull, Cond.code yX0_isFull cX0_isFull 1 (some .boolean)]
def wsX9_takes : List Cond := .code yX9_takes cX9_takes 3 (some .int) :: ((wsX9_takes_r1 ++ (wsX9_takes_r2 ++ (wsX9_takes_r3 ++ (wsX9_takes_r4 ++ (wsX9_takes_r5 ++ (wsX9_takes_r6 ++ wsX9_takes_r7)))))) ++ wsX90 ++ wsX60 ++ wsX00 ++ wsX40 ++ wsX50 ++ wsX10 ++ wsX70)
def wsX9_bitsWithPeriod_r1 : List Cond := [Cond.fieldLink RX9 16 "JudgedBits" "trial" "LJudgedBits$Source;", Cond.fieldLink RX9 10 "JudgedBits" "now" "LJudgedBits$Source;", Cond.fieldLink RX9 175 "JudgedBits$Source" "ringOne" "LJudgedBits$Ring;", Cond.fieldLink RX9 179 "JudgedBits$Ring" "jitter" "I", Cond.fieldLink RX9 97 "JudgedBits$Source" "store" "LJudgedBits$BitRow;", Cond.fieldLink RX9 89 "JudgedBits$BitRow" "size" "I", Cond.methodLink RX9 33 yX6_copyFrom, Cond.instanceMethod yX6_copyFrom, Cond.selects RX6 yX6_copyFrom yX6_copyFrom, Cond.initialized RX6, Cond.code yX6_copyFrom cX6_copyFrom 2 none, Cond.fieldLink RX6 23 "JudgedBits$Source" "ringZero" "LJudgedBits$Ring;", Cond.fieldLink RX6 27 "JudgedBits$Source" "ringOne" "LJudgedBits$Ring;", Cond.fieldLink RX6 33 "JudgedBits$Source" "settings" "LJudgedBits$Settings;", Cond.fieldLink RX6 40 "JudgedBits$Source" "health" "LJudgedBits$Health;", Cond.fieldLink RX6 47 "JudgedBits$Source" "rawBits" "LJudgedBits$BitRow;", Cond.fieldLink RX6 51 "JudgedBits$Source" "store" "LJudgedBits$BitRow;", Cond.fieldLink RX6 57 "JudgedBits$Source" "tally" "LJudgedBits$Tally;", Cond.fieldLink RX6 9 "JudgedBits$Source" "noiseNumber" "I", Cond.fieldLink RX6 15 "JudgedBits$Source" "waiting" "I", Cond.methodLink RX6 61 yX4_copyFrom, Cond.instanceMethod yX4_copyFrom, Cond.selects RX4 yX4_copyFrom yX4_copyFrom, Cond.initialized RX4]
def wsX9_bitsWithPeriod_r2 : List Cond := [Cond.code yX4_copyFrom cX4_copyFrom 2 none, Cond.fieldLink RX4 18 "JudgedBits$Ring" "period" "I", Cond.fieldLink RX4 9 "JudgedBits$Ring" "jitter" "I", Cond.fieldLink RX4 15 "JudgedBits$Ring" "phase" "I", Cond.methodLink RX6 65 yX5_copyFrom, Cond.instanceMethod yX5_copyFrom, Cond.selects RX5 yX5_copyFrom yX5_copyFrom, Cond.initialized RX5, Cond.code yX5_copyFrom cX5_copyFrom 2 none, Cond.fieldLink RX5 9 "JudgedBits$Settings" "step" "I", Cond.fieldLink RX5 15 "JudgedBits$Settings" "lock" "I", Cond.fieldLink RX5 18 "JudgedBits$Settings" "longestRun" "I", Cond.fieldLink RX5 21 "JudgedBits$Settings" "leastOnes" "I", Cond.methodLink RX6 68 yX1_copyFrom, Cond.instanceMethod yX1_copyFrom, Cond.selects RX1 yX1_copyFrom yX1_copyFrom, Cond.initialized RX1, Cond.code yX1_copyFrom cX1_copyFrom 2 none, Cond.fieldLink RX1 9 "JudgedBits$Health" "mode" "I", Cond.fieldLink RX1 13 "JudgedBits$Health" "failedTest" "I", Cond.fieldLink RX1 16 "JudgedBits$Health" "startUpBits" "I", Cond.fieldLink RX1 19 "JudgedBits$Health" "run" "I", Cond.fieldLink RX1 22 "JudgedBits$Health" "runBit" "I", Cond.fieldLink RX1 25 "JudgedBits$Health" "windowBits" "I"]
def wsX9_bitsWithPeriod_r3 : List Cond := [Cond.fieldLink RX1 28 "JudgedBits$Health" "windowOnes" "I", Cond.methodLink RX6 71 yX0_copyFrom, Cond.instanceMethod yX0_copyFrom, Cond.selects RX0 yX0_copyFrom yX0_copyFrom, Cond.initialized RX0, Cond.code yX0_copyFrom cX0_copyFrom 2 none, Cond.fieldLink RX0 7 "JudgedBits$BitRow" "bits" "J", Cond.fieldLink RX0 13 "JudgedBits$BitRow" "size" "I", Cond.methodLink RX6 74 yX7_copyFrom, Cond.instanceMethod yX7_copyFrom, Cond.selects RX7 yX7_copyFrom yX7_copyFrom, Cond.initialized RX7, Cond.code yX7_copyFrom cX7_copyFrom 2 none, Cond.fieldLink RX7 9 "JudgedBits$Tally" "samples" "I", Cond.fieldLink RX7 15 "JudgedBits$Tally" "ones" "I", Cond.fieldLink RX7 18 "JudgedBits$Tally" "leftOut" "I", Cond.fieldLink RX7 21 "JudgedBits$Tally" "stored" "I", Cond.fieldLink RX7 24 "JudgedBits$Tally" "lost" "I", Cond.fieldLink RX7 27 "JudgedBits$Tally" "drawn" "I", Cond.fieldLink RX7 30 "JudgedBits$Tally" "alarms" "I", Cond.fieldLink RX7 33 "JudgedBits$Tally" "longestRun" "I", Cond.methodLink RX9 37 yX6_changeRing, Cond.instanceMethod yX6_changeRing, Cond.selects RX6 yX6_changeRing yX6_changeRing]
def wsX9_bitsWithPeriod_r4 : List Cond := [Cond.code yX6_changeRing cX6_changeRing 6 (some .int), Cond.constant RX6 81 (-1000001), Cond.fieldLink RX6 86 "JudgedBits$Ring" "period" "I", Cond.fieldLink RX6 89 "JudgedBits$Ring" "jitter" "I", Cond.fieldLink RX6 92 "JudgedBits$Ring" "phase" "I", Cond.static yX9_isWithin, Cond.initialized RX9, Cond.code yX9_isWithin cX9_isWithin 3 (some .boolean), Cond.methodLink RX6 82 yX6_ringAt, Cond.instanceMethod yX6_ringAt, Cond.selects RX6 yX6_ringAt yX6_ringAt, Cond.code yX6_ringAt cX6_ringAt 2 (some (.object "JudgedBits$Ring")), Cond.methodLink RX9 48 yX6_makeSamples, Cond.instanceMethod yX6_makeSamples, Cond.selects RX6 yX6_makeSamples yX6_makeSamples, Cond.code yX6_makeSamples cX6_makeSamples 4 (some .int), Cond.fieldLink RX6 96 "JudgedBits$Tally" "stored" "I", Cond.methodLink RX6 99 yX6_nextRawBit, Cond.instanceMethod yX6_nextRawBit, Cond.selects RX6 yX6_nextRawBit yX6_nextRawBit, Cond.code yX6_nextRawBit cX6_nextRawBit 1 (some .int), Cond.fieldLink RX6 126 "JudgedBits$Settings" "step" "I", Cond.methodLink RX6 129 yX6_nextNoise, Cond.instanceMethod yX6_nextNoise]
def wsX9_bitsWithPeriod_r5 : List Cond := [Cond.selects RX6 yX6_nextNoise yX6_nextNoise, Cond.code yX6_nextNoise cX6_nextNoise 1 (some .int), Cond.constant RX6 154 (65537), Cond.methodLink RX6 132 yX4_advance, Cond.instanceMethod yX4_advance, Cond.selects RX4 yX4_advance yX4_advance, Cond.code yX4_advance cX4_advance 3 none, Cond.static yX9_remainder, Cond.code yX9_remainder cX9_remainder 2 (some .int), Cond.methodLink RX6 136 yX6_locksOn, Cond.instanceMethod yX6_locksOn, Cond.selects RX6 yX6_locksOn yX6_locksOn, Cond.code yX6_locksOn cX6_locksOn 1 (some .boolean), Cond.methodLink RX6 146 Lib.Math.abs.name, Cond.static Lib.Math.abs.name, Cond.initialized "java/lang/Math", Cond.code Lib.Math.abs.name Lib.Math.abs.code 1 (some .int), Cond.fieldLink RX6 151 "JudgedBits$Settings" "lock" "I", Cond.methodLink RX6 140 yX4_lockOn, Cond.instanceMethod yX4_lockOn, Cond.selects RX4 yX4_lockOn yX4_lockOn, Cond.code yX4_lockOn cX4_lockOn 2 none, Cond.methodLink RX6 143 yX4_isHigh, Cond.instanceMethod yX4_isHigh]
def wsX9_bitsWithPeriod_r6 : List Cond := [Cond.selects RX4 yX4_isHigh yX4_isHigh, Cond.code yX4_isHigh cX4_isHigh 1 (some .boolean), Cond.methodLink RX6 103 yX6_takeRawBit, Cond.instanceMethod yX6_takeRawBit, Cond.selects RX6 yX6_takeRawBit yX6_takeRawBit, Cond.code yX6_takeRawBit cX6_takeRawBit 3 none, Cond.fieldLink RX6 158 "JudgedBits$Tally" "samples" "I", Cond.fieldLink RX6 161 "JudgedBits$Tally" "ones" "I", Cond.fieldLink RX6 109 "JudgedBits$Health" "mode" "I", Cond.fieldLink RX6 168 "JudgedBits$Tally" "longestRun" "I", Cond.fieldLink RX6 171 "JudgedBits$Health" "run" "I", Cond.methodLink RX6 174 Lib.Math.max.name, Cond.static Lib.Math.max.name, Cond.code Lib.Math.max.name Lib.Math.max.code 2 (some .int), Cond.fieldLink RX6 178 "JudgedBits$Tally" "alarms" "I", Cond.methodLink RX6 155 yX0_append, Cond.instanceMethod yX0_append, Cond.selects RX0 yX0_append yX0_append, Cond.code yX0_append cX0_append 2 none, Cond.methodLink RX6 164 yX1_judge, Cond.instanceMethod yX1_judge, Cond.selects RX1 yX1_judge yX1_judge, Cond.code yX1_judge cX1_judge 4 none, Cond.fieldLink RX1 35 "JudgedBits$Settings" "leastOnes" "I"]
def wsX9_bitsWithPeriod_r7 : List Cond := [Cond.fieldLink RX1 44 "JudgedBits$Settings" "longestRun" "I", Cond.methodLink RX1 31 yX1_countInRun, Cond.instanceMethod yX1_countInRun, Cond.selects RX1 yX1_countInRun yX1_countInRun, Cond.code yX1_countInRun cX1_countInRun 2 none, Cond.methodLink RX1 40 yX1_failsShare, Cond.instanceMethod yX1_failsShare, Cond.selects RX1 yX1_failsShare yX1_failsShare, Cond.code yX1_failsShare cX1_failsShare 4 (some .boolean), Cond.methodLink RX1 47 yX1_bringAlarm, Cond.instanceMethod yX1_bringAlarm, Cond.selects RX1 yX1_bringAlarm yX1_bringAlarm, Cond.code yX1_bringAlarm cX1_bringAlarm 2 none, Cond.methodLink RX1 50 yX1_countInStartUp, Cond.instanceMethod yX1_countInStartUp, Cond.selects RX1 yX1_countInStartUp yX1_countInStartUp, Cond.code yX1_countInStartUp cX1_countInStartUp 1 none, Cond.methodLink RX6 181 yX6_pairUp, Cond.instanceMethod yX6_pairUp, Cond.selects RX6 yX6_pairUp yX6_pairUp, Cond.code yX6_pairUp cX6_pairUp 3 none, Cond.fieldLink RX6 184 "JudgedBits$Tally" "leftOut" "I", Cond.fieldLink RX6 190 "JudgedBits$Tally" "lost" "I", Cond.methodLink RX6 187 yX0_isFull]
def wsX9_bitsWithPeriod_r8 : List Cond := [Cond.instanceMethod yX0_isFull, Cond.selects RX0 yX0_isFull yX0_isFull, Cond.code yX0_isFull cX0_isFull 1 (some .boolean)]
def wsX9_bitsWithPeriod : List Cond := .code yX9_bitsWithPeriod cX9_bitsWithPeriod 2 (some .int) :: ((wsX9_bitsWithPeriod_r1 ++ (wsX9_bitsWithPeriod_r2 ++ (wsX9_bitsWithPeriod_r3 ++ (wsX9_bitsWithPeriod_r4 ++ (wsX9_bitsWithPeriod_r5 ++ (wsX9_bitsWithPeriod_r6 ++ (wsX9_bitsWithPeriod_r7 ++ wsX9_bitsWithPeriod_r8))))))) ++ wsX90 ++ wsX60 ++ wsX40 ++ wsX00 ++ wsX50 ++ wsX10 ++ wsX70)
def wsX9_bestPeriod_r1 : List Cond := [Cond.constant RX9 72 (-1000001), Cond.methodLink RX9 68 yX9_isWithin, Cond.static yX9_isWithin, Cond.initialized RX9, Cond.code yX9_isWithin cX9_isWithin 3 (some .boolean), Cond.methodLink RX9 121 yX9_bitsWithPeriod, Cond.instanceMethod yX9_bitsWithPeriod, Cond.selects RX9 yX9_bitsWithPeriod yX9_bitsWithPeriod, Cond.code yX9_bitsWithPeriod cX9_bitsWithPeriod 2 (some .int), Cond.fieldLink RX9 16 "JudgedBits" "trial" "LJudgedBits$Source;", Cond.fieldLink RX9 10 "JudgedBits" "now" "LJudgedBits$Source;", Cond.fieldLink RX9 175 "JudgedBits$Source" "ringOne" "LJudgedBits$Ring;", Cond.fieldLink RX9 179 "JudgedBits$Ring" "jitter" "I", Cond.fieldLink RX9 97 "JudgedBits$Source" "store" "LJudgedBits$BitRow;", Cond.fieldLink RX9 89 "JudgedBits$BitRow" "size" "I", Cond.methodLink RX9 33 yX6_copyFrom, Cond.instanceMethod yX6_copyFrom, Cond.selects RX6 yX6_copyFrom yX6_copyFrom, Cond.initialized RX6, Cond.code yX6_copyFrom cX6_copyFrom 2 none, Cond.fieldLink RX6 23 "JudgedBits$Source" "ringZero" "LJudgedBits$Ring;", Cond.fieldLink RX6 27 "JudgedBits$Source" "ringOne" "LJudgedBits$Ring;", Cond.fieldLink RX6 33 "JudgedBits$Source" "settings" "LJudgedBits$Settings;", Cond.fieldLink RX6 40 "JudgedBits$Source" "health" "LJudgedBits$Health;"]
def wsX9_bestPeriod_r2 : List Cond := [Cond.fieldLink RX6 47 "JudgedBits$Source" "rawBits" "LJudgedBits$BitRow;", Cond.fieldLink RX6 51 "JudgedBits$Source" "store" "LJudgedBits$BitRow;", Cond.fieldLink RX6 57 "JudgedBits$Source" "tally" "LJudgedBits$Tally;", Cond.fieldLink RX6 9 "JudgedBits$Source" "noiseNumber" "I", Cond.fieldLink RX6 15 "JudgedBits$Source" "waiting" "I", Cond.methodLink RX6 61 yX4_copyFrom, Cond.instanceMethod yX4_copyFrom, Cond.selects RX4 yX4_copyFrom yX4_copyFrom, Cond.initialized RX4, Cond.code yX4_copyFrom cX4_copyFrom 2 none, Cond.fieldLink RX4 18 "JudgedBits$Ring" "period" "I", Cond.fieldLink RX4 9 "JudgedBits$Ring" "jitter" "I", Cond.fieldLink RX4 15 "JudgedBits$Ring" "phase" "I", Cond.methodLink RX6 65 yX5_copyFrom, Cond.instanceMethod yX5_copyFrom, Cond.selects RX5 yX5_copyFrom yX5_copyFrom, Cond.initialized RX5, Cond.code yX5_copyFrom cX5_copyFrom 2 none, Cond.fieldLink RX5 9 "JudgedBits$Settings" "step" "I", Cond.fieldLink RX5 15 "JudgedBits$Settings" "lock" "I", Cond.fieldLink RX5 18 "JudgedBits$Settings" "longestRun" "I", Cond.fieldLink RX5 21 "JudgedBits$Settings" "leastOnes" "I", Cond.methodLink RX6 68 yX1_copyFrom, Cond.instanceMethod yX1_copyFrom]
def wsX9_bestPeriod_r3 : List Cond := [Cond.selects RX1 yX1_copyFrom yX1_copyFrom, Cond.initialized RX1, Cond.code yX1_copyFrom cX1_copyFrom 2 none, Cond.fieldLink RX1 9 "JudgedBits$Health" "mode" "I", Cond.fieldLink RX1 13 "JudgedBits$Health" "failedTest" "I", Cond.fieldLink RX1 16 "JudgedBits$Health" "startUpBits" "I", Cond.fieldLink RX1 19 "JudgedBits$Health" "run" "I", Cond.fieldLink RX1 22 "JudgedBits$Health" "runBit" "I", Cond.fieldLink RX1 25 "JudgedBits$Health" "windowBits" "I", Cond.fieldLink RX1 28 "JudgedBits$Health" "windowOnes" "I", Cond.methodLink RX6 71 yX0_copyFrom, Cond.instanceMethod yX0_copyFrom, Cond.selects RX0 yX0_copyFrom yX0_copyFrom, Cond.initialized RX0, Cond.code yX0_copyFrom cX0_copyFrom 2 none, Cond.fieldLink RX0 7 "JudgedBits$BitRow" "bits" "J", Cond.fieldLink RX0 13 "JudgedBits$BitRow" "size" "I", Cond.methodLink RX6 74 yX7_copyFrom, Cond.instanceMethod yX7_copyFrom, Cond.selects RX7 yX7_copyFrom yX7_copyFrom, Cond.initialized RX7, Cond.code yX7_copyFrom cX7_copyFrom 2 none, Cond.fieldLink RX7 9 "JudgedBits$Tally" "samples" "I", Cond.fieldLink RX7 15 "JudgedBits$Tally" "ones" "I"]
def wsX9_bestPeriod_r4 : List Cond := [Cond.fieldLink RX7 18 "JudgedBits$Tally" "leftOut" "I", Cond.fieldLink RX7 21 "JudgedBits$Tally" "stored" "I", Cond.fieldLink RX7 24 "JudgedBits$Tally" "lost" "I", Cond.fieldLink RX7 27 "JudgedBits$Tally" "drawn" "I", Cond.fieldLink RX7 30 "JudgedBits$Tally" "alarms" "I", Cond.fieldLink RX7 33 "JudgedBits$Tally" "longestRun" "I", Cond.methodLink RX9 37 yX6_changeRing, Cond.instanceMethod yX6_changeRing, Cond.selects RX6 yX6_changeRing yX6_changeRing, Cond.code yX6_changeRing cX6_changeRing 6 (some .int), Cond.constant RX6 81 (-1000001), Cond.fieldLink RX6 86 "JudgedBits$Ring" "period" "I", Cond.fieldLink RX6 89 "JudgedBits$Ring" "jitter" "I", Cond.fieldLink RX6 92 "JudgedBits$Ring" "phase" "I", Cond.methodLink RX6 82 yX6_ringAt, Cond.instanceMethod yX6_ringAt, Cond.selects RX6 yX6_ringAt yX6_ringAt, Cond.code yX6_ringAt cX6_ringAt 2 (some (.object "JudgedBits$Ring")), Cond.methodLink RX9 48 yX6_makeSamples, Cond.instanceMethod yX6_makeSamples, Cond.selects RX6 yX6_makeSamples yX6_makeSamples, Cond.code yX6_makeSamples cX6_makeSamples 4 (some .int), Cond.fieldLink RX6 96 "JudgedBits$Tally" "stored" "I", Cond.methodLink RX6 99 yX6_nextRawBit]
def wsX9_bestPeriod_r5 : List Cond := [Cond.instanceMethod yX6_nextRawBit, Cond.selects RX6 yX6_nextRawBit yX6_nextRawBit, Cond.code yX6_nextRawBit cX6_nextRawBit 1 (some .int), Cond.fieldLink RX6 126 "JudgedBits$Settings" "step" "I", Cond.methodLink RX6 129 yX6_nextNoise, Cond.instanceMethod yX6_nextNoise, Cond.selects RX6 yX6_nextNoise yX6_nextNoise, Cond.code yX6_nextNoise cX6_nextNoise 1 (some .int), Cond.constant RX6 154 (65537), Cond.methodLink RX6 132 yX4_advance, Cond.instanceMethod yX4_advance, Cond.selects RX4 yX4_advance yX4_advance, Cond.code yX4_advance cX4_advance 3 none, Cond.static yX9_remainder, Cond.code yX9_remainder cX9_remainder 2 (some .int), Cond.methodLink RX6 136 yX6_locksOn, Cond.instanceMethod yX6_locksOn, Cond.selects RX6 yX6_locksOn yX6_locksOn, Cond.code yX6_locksOn cX6_locksOn 1 (some .boolean), Cond.methodLink RX6 146 Lib.Math.abs.name, Cond.static Lib.Math.abs.name, Cond.initialized "java/lang/Math", Cond.code Lib.Math.abs.name Lib.Math.abs.code 1 (some .int), Cond.fieldLink RX6 151 "JudgedBits$Settings" "lock" "I"]
def wsX9_bestPeriod_r6 : List Cond := [Cond.methodLink RX6 140 yX4_lockOn, Cond.instanceMethod yX4_lockOn, Cond.selects RX4 yX4_lockOn yX4_lockOn, Cond.code yX4_lockOn cX4_lockOn 2 none, Cond.methodLink RX6 143 yX4_isHigh, Cond.instanceMethod yX4_isHigh, Cond.selects RX4 yX4_isHigh yX4_isHigh, Cond.code yX4_isHigh cX4_isHigh 1 (some .boolean), Cond.methodLink RX6 103 yX6_takeRawBit, Cond.instanceMethod yX6_takeRawBit, Cond.selects RX6 yX6_takeRawBit yX6_takeRawBit, Cond.code yX6_takeRawBit cX6_takeRawBit 3 none, Cond.fieldLink RX6 158 "JudgedBits$Tally" "samples" "I", Cond.fieldLink RX6 161 "JudgedBits$Tally" "ones" "I", Cond.fieldLink RX6 109 "JudgedBits$Health" "mode" "I", Cond.fieldLink RX6 168 "JudgedBits$Tally" "longestRun" "I", Cond.fieldLink RX6 171 "JudgedBits$Health" "run" "I", Cond.methodLink RX6 174 Lib.Math.max.name, Cond.static Lib.Math.max.name, Cond.code Lib.Math.max.name Lib.Math.max.code 2 (some .int), Cond.fieldLink RX6 178 "JudgedBits$Tally" "alarms" "I", Cond.methodLink RX6 155 yX0_append, Cond.instanceMethod yX0_append, Cond.selects RX0 yX0_append yX0_append]
def wsX9_bestPeriod_r7 : List Cond := [Cond.code yX0_append cX0_append 2 none, Cond.methodLink RX6 164 yX1_judge, Cond.instanceMethod yX1_judge, Cond.selects RX1 yX1_judge yX1_judge, Cond.code yX1_judge cX1_judge 4 none, Cond.fieldLink RX1 35 "JudgedBits$Settings" "leastOnes" "I", Cond.fieldLink RX1 44 "JudgedBits$Settings" "longestRun" "I", Cond.methodLink RX1 31 yX1_countInRun, Cond.instanceMethod yX1_countInRun, Cond.selects RX1 yX1_countInRun yX1_countInRun, Cond.code yX1_countInRun cX1_countInRun 2 none, Cond.methodLink RX1 40 yX1_failsShare, Cond.instanceMethod yX1_failsShare, Cond.selects RX1 yX1_failsShare yX1_failsShare, Cond.code yX1_failsShare cX1_failsShare 4 (some .boolean), Cond.methodLink RX1 47 yX1_bringAlarm, Cond.instanceMethod yX1_bringAlarm, Cond.selects RX1 yX1_bringAlarm yX1_bringAlarm, Cond.code yX1_bringAlarm cX1_bringAlarm 2 none, Cond.methodLink RX1 50 yX1_countInStartUp, Cond.instanceMethod yX1_countInStartUp, Cond.selects RX1 yX1_countInStartUp yX1_countInStartUp, Cond.code yX1_countInStartUp cX1_countInStartUp 1 none, Cond.methodLink RX6 181 yX6_pairUp]
def wsX9_bestPeriod_r8 : List Cond := [Cond.instanceMethod yX6_pairUp, Cond.selects RX6 yX6_pairUp yX6_pairUp, Cond.code yX6_pairUp cX6_pairUp 3 none, Cond.fieldLink RX6 184 "JudgedBits$Tally" "leftOut" "I", Cond.fieldLink RX6 190 "JudgedBits$Tally" "lost" "I", Cond.methodLink RX6 187 yX0_isFull, Cond.instanceMethod yX0_isFull, Cond.selects RX0 yX0_isFull yX0_isFull, Cond.code yX0_isFull cX0_isFull 1 (some .boolean)]
def wsX9_bestPeriod : List Cond := .code yX9_bestPeriod cX9_bestPeriod 6 (some .int) :: ((wsX9_bestPeriod_r1 ++ (wsX9_bestPeriod_r2 ++ (wsX9_bestPeriod_r3 ++ (wsX9_bestPeriod_r4 ++ (wsX9_bestPeriod_r5 ++ (wsX9_bestPeriod_r6 ++ (wsX9_bestPeriod_r7 ++ wsX9_bestPeriod_r8))))))) ++ wsX90 ++ wsX60 ++ wsX40 ++ wsX00 ++ wsX50 ++ wsX10 ++ wsX70)
def wsX9_bitsOfShare : List Cond := .code yX9_bitsOfShare cX9_bitsOfShare 4 (some .int) :: ([.constantFloat RX9 182 (1258291200)])
def wsX9_share : List Cond := .code yX9_share cX9_share 2 (some .int) :: ([.fieldLink RX9 10 "JudgedBits" "now" "LJudgedBits$Source;", .fieldLink RX9 85 "JudgedBits$Source" "rawBits" "LJudgedBits$BitRow;", .fieldLink RX9 89 "JudgedBits$BitRow" "size" "I", .constant RX9 96 (-1000004), .methodLink RX9 124 yX0_ones, .instanceMethod yX0_ones, .selects RX0 yX0_ones yX0_ones, .initialized RX0, .code yX0_ones cX0_ones 1 (some .int), .fieldLink RX0 7 "JudgedBits$BitRow" "bits" "J", .methodLink RX0 21 yJ13_bitCount_95d88, .static yJ13_bitCount_95d88, .initialized RJ13, .code yJ13_bitCount_95d88 cJ13_bitCount_95d88 2 (some .int), .constantLong RJ13 314 (6148914691236517205), .constantLong RJ13 316 (3689348814741910323), .constantLong RJ13 318 (1085102592571150095), .methodLink RX9 127 yX9_bitsOfShare, .static yX9_bitsOfShare, .initialized RX9, .code yX9_bitsOfShare cX9_bitsOfShare 4 (some .int), .constantFloat RX9 182 (1258291200)] ++ wsX90 ++ wsX60 ++ wsX00)
def wsX9_count_r1 : List Cond := [Cond.fieldLink RX9 10 "JudgedBits" "now" "LJudgedBits$Source;", Cond.fieldLink RX9 58 "JudgedBits$Source" "settings" "LJudgedBits$Settings;", Cond.fieldLink RX9 22 "JudgedBits" "history" "LJudgedBits$History;", Cond.fieldLink RX9 132 "JudgedBits$History" "many" "I", Cond.fieldLink RX9 29 "JudgedBits" "orders" "LJudgedBits$Orders;", Cond.fieldLink RX9 135 "JudgedBits$Orders" "text" "LJudgedBits$Text;", Cond.fieldLink RX9 139 "JudgedBits$Text" "length" "I", Cond.fieldLink RX9 112 "JudgedBits$Source" "tally" "LJudgedBits$Tally;", Cond.methodLink RX9 68 yX9_isWithin, Cond.static yX9_isWithin, Cond.initialized RX9, Cond.code yX9_isWithin cX9_isWithin 3 (some .boolean), Cond.methodLink RX9 131 yX5_tell, Cond.instanceMethod yX5_tell, Cond.selects RX5 yX5_tell yX5_tell, Cond.initialized RX5, Cond.code yX5_tell cX5_tell 2 (some .int), Cond.fieldLink RX5 9 "JudgedBits$Settings" "step" "I", Cond.fieldLink RX5 15 "JudgedBits$Settings" "lock" "I", Cond.fieldLink RX5 18 "JudgedBits$Settings" "longestRun" "I", Cond.fieldLink RX5 21 "JudgedBits$Settings" "leastOnes" "I", Cond.constant RX5 24 (-1000001), Cond.methodLink RX9 144 yX7_tell, Cond.instanceMethod yX7_tell]
def wsX9_count_r2 : List Cond := [Cond.selects RX7 yX7_tell yX7_tell, Cond.initialized RX7, Cond.code yX7_tell cX7_tell 2 (some .int), Cond.fieldLink RX7 9 "JudgedBits$Tally" "samples" "I", Cond.fieldLink RX7 15 "JudgedBits$Tally" "ones" "I", Cond.fieldLink RX7 18 "JudgedBits$Tally" "leftOut" "I", Cond.fieldLink RX7 21 "JudgedBits$Tally" "stored" "I", Cond.fieldLink RX7 24 "JudgedBits$Tally" "lost" "I", Cond.fieldLink RX7 27 "JudgedBits$Tally" "drawn" "I", Cond.fieldLink RX7 30 "JudgedBits$Tally" "alarms" "I", Cond.fieldLink RX7 33 "JudgedBits$Tally" "longestRun" "I", Cond.constant RX7 36 (-1000001)]
def wsX9_count : List Cond := .code yX9_count cX9_count 2 (some .int) :: ((wsX9_count_r1 ++ wsX9_count_r2) ++ wsX90 ++ wsX60 ++ wsX20 ++ wsX30 ++ wsX80 ++ wsX50 ++ wsX70)
def wsX9_undo_r1 : List Cond := [Cond.fieldLink RX9 22 "JudgedBits" "history" "LJudgedBits$History;", Cond.fieldLink RX9 10 "JudgedBits" "now" "LJudgedBits$Source;", Cond.methodLink RX9 145 yX2_bringBack, Cond.instanceMethod yX2_bringBack, Cond.selects RX2 yX2_bringBack yX2_bringBack, Cond.initialized RX2, Cond.code yX2_bringBack cX2_bringBack 2 (some .int), Cond.fieldLink RX2 9 "JudgedBits$History" "many" "I", Cond.constant RX2 35 (-1000002), Cond.fieldLink RX2 18 "JudgedBits$History" "latest" "LJudgedBits$Source;", Cond.fieldLink RX2 22 "JudgedBits$History" "second" "LJudgedBits$Source;", Cond.fieldLink RX2 25 "JudgedBits$History" "third" "LJudgedBits$Source;", Cond.fieldLink RX2 28 "JudgedBits$History" "fourth" "LJudgedBits$Source;", Cond.methodLink RX2 31 yX6_copyFrom, Cond.instanceMethod yX6_copyFrom, Cond.selects RX6 yX6_copyFrom yX6_copyFrom, Cond.initialized RX6, Cond.code yX6_copyFrom cX6_copyFrom 2 none, Cond.fieldLink RX6 23 "JudgedBits$Source" "ringZero" "LJudgedBits$Ring;", Cond.fieldLink RX6 27 "JudgedBits$Source" "ringOne" "LJudgedBits$Ring;", Cond.fieldLink RX6 33 "JudgedBits$Source" "settings" "LJudgedBits$Settings;", Cond.fieldLink RX6 40 "JudgedBits$Source" "health" "LJudgedBits$Health;", Cond.fieldLink RX6 47 "JudgedBits$Source" "rawBits" "LJudgedBits$BitRow;", Cond.fieldLink RX6 51 "JudgedBits$Source" "store" "LJudgedBits$BitRow;"]
def wsX9_undo_r2 : List Cond := [Cond.fieldLink RX6 57 "JudgedBits$Source" "tally" "LJudgedBits$Tally;", Cond.fieldLink RX6 9 "JudgedBits$Source" "noiseNumber" "I", Cond.fieldLink RX6 15 "JudgedBits$Source" "waiting" "I", Cond.methodLink RX6 61 yX4_copyFrom, Cond.instanceMethod yX4_copyFrom, Cond.selects RX4 yX4_copyFrom yX4_copyFrom, Cond.initialized RX4, Cond.code yX4_copyFrom cX4_copyFrom 2 none, Cond.fieldLink RX4 18 "JudgedBits$Ring" "period" "I", Cond.fieldLink RX4 9 "JudgedBits$Ring" "jitter" "I", Cond.fieldLink RX4 15 "JudgedBits$Ring" "phase" "I", Cond.methodLink RX6 65 yX5_copyFrom, Cond.instanceMethod yX5_copyFrom, Cond.selects RX5 yX5_copyFrom yX5_copyFrom, Cond.initialized RX5, Cond.code yX5_copyFrom cX5_copyFrom 2 none, Cond.fieldLink RX5 9 "JudgedBits$Settings" "step" "I", Cond.fieldLink RX5 15 "JudgedBits$Settings" "lock" "I", Cond.fieldLink RX5 18 "JudgedBits$Settings" "longestRun" "I", Cond.fieldLink RX5 21 "JudgedBits$Settings" "leastOnes" "I", Cond.methodLink RX6 68 yX1_copyFrom, Cond.instanceMethod yX1_copyFrom, Cond.selects RX1 yX1_copyFrom yX1_copyFrom, Cond.initialized RX1]
def wsX9_undo_r3 : List Cond := [Cond.code yX1_copyFrom cX1_copyFrom 2 none, Cond.fieldLink RX1 9 "JudgedBits$Health" "mode" "I", Cond.fieldLink RX1 13 "JudgedBits$Health" "failedTest" "I", Cond.fieldLink RX1 16 "JudgedBits$Health" "startUpBits" "I", Cond.fieldLink RX1 19 "JudgedBits$Health" "run" "I", Cond.fieldLink RX1 22 "JudgedBits$Health" "runBit" "I", Cond.fieldLink RX1 25 "JudgedBits$Health" "windowBits" "I", Cond.fieldLink RX1 28 "JudgedBits$Health" "windowOnes" "I", Cond.methodLink RX6 71 yX0_copyFrom, Cond.instanceMethod yX0_copyFrom, Cond.selects RX0 yX0_copyFrom yX0_copyFrom, Cond.initialized RX0, Cond.code yX0_copyFrom cX0_copyFrom 2 none, Cond.fieldLink RX0 7 "JudgedBits$BitRow" "bits" "J", Cond.fieldLink RX0 13 "JudgedBits$BitRow" "size" "I", Cond.methodLink RX6 74 yX7_copyFrom, Cond.instanceMethod yX7_copyFrom, Cond.selects RX7 yX7_copyFrom yX7_copyFrom, Cond.initialized RX7, Cond.code yX7_copyFrom cX7_copyFrom 2 none, Cond.fieldLink RX7 9 "JudgedBits$Tally" "samples" "I", Cond.fieldLink RX7 15 "JudgedBits$Tally" "ones" "I", Cond.fieldLink RX7 18 "JudgedBits$Tally" "leftOut" "I", Cond.fieldLink RX7 21 "JudgedBits$Tally" "stored" "I"]
def wsX9_undo_r4 : List Cond := [Cond.fieldLink RX7 24 "JudgedBits$Tally" "lost" "I", Cond.fieldLink RX7 27 "JudgedBits$Tally" "drawn" "I", Cond.fieldLink RX7 30 "JudgedBits$Tally" "alarms" "I", Cond.fieldLink RX7 33 "JudgedBits$Tally" "longestRun" "I"]
def wsX9_undo : List Cond := .code yX9_undo cX9_undo 1 (some .int) :: ((wsX9_undo_r1 ++ (wsX9_undo_r2 ++ (wsX9_undo_r3 ++ wsX9_undo_r4))) ++ wsX90 ++ wsX20 ++ wsX60 ++ wsX40 ++ wsX50 ++ wsX10 ++ wsX00 ++ wsX70)
def wsX9_type : List Cond := .code yX9_type cX9_type 2 (some .int) :: ([.fieldLink RX9 29 "JudgedBits" "orders" "LJudgedBits$Orders;", .fieldLink RX9 135 "JudgedBits$Orders" "text" "LJudgedBits$Text;", .methodLink RX9 149 yX8_append, .instanceMethod yX8_append, .selects RX8 yX8_append yX8_append, .initialized RX8, .code yX8_append cX8_append 2 (some .int), .constant RX8 23 (-1000001), .fieldLink RX8 15 "JudgedBits$Text" "length" "I", .fieldLink RX8 11 "JudgedBits$Text" "characters" "[C", .constant RX8 24 (-1000003), .static yX9_isWithin, .initialized RX9, .code yX9_isWithin cX9_isWithin 3 (some .boolean)] ++ wsX90 ++ wsX30 ++ wsX80)
def wsX9_clearText : List Cond := .code yX9_clearText cX9_clearText 1 (some .int) :: ([.fieldLink RX9 29 "JudgedBits" "orders" "LJudgedBits$Orders;", .fieldLink RX9 135 "JudgedBits$Orders" "text" "LJudgedBits$Text;", .methodLink RX9 152 yX8_clear, .instanceMethod yX8_clear, .selects RX8 yX8_clear yX8_clear, .initialized RX8, .code yX8_clear cX8_clear 2 (some .int), .fieldLink RX8 15 "JudgedBits$Text" "length" "I"] ++ wsX90 ++ wsX30 ++ wsX80)
def wsX9_fault_r1 : List Cond := [Cond.constant RX9 72 (-1000001), Cond.fieldLink RX9 16 "JudgedBits" "trial" "LJudgedBits$Source;", Cond.fieldLink RX9 10 "JudgedBits" "now" "LJudgedBits$Source;", Cond.fieldLink RX9 29 "JudgedBits" "orders" "LJudgedBits$Orders;", Cond.constant RX9 96 (-1000004), Cond.fieldLink RX9 159 "JudgedBits$Orders" "start" "I", Cond.fieldLink RX9 162 "JudgedBits$Orders" "reason" "I", Cond.fieldLink RX9 165 "JudgedBits$Orders" "cause" "I", Cond.methodLink RX9 68 yX9_isWithin, Cond.static yX9_isWithin, Cond.initialized RX9, Cond.code yX9_isWithin cX9_isWithin 3 (some .boolean), Cond.methodLink RX9 33 yX6_copyFrom, Cond.instanceMethod yX6_copyFrom, Cond.selects RX6 yX6_copyFrom yX6_copyFrom, Cond.initialized RX6, Cond.code yX6_copyFrom cX6_copyFrom 2 none, Cond.fieldLink RX6 23 "JudgedBits$Source" "ringZero" "LJudgedBits$Ring;", Cond.fieldLink RX6 27 "JudgedBits$Source" "ringOne" "LJudgedBits$Ring;", Cond.fieldLink RX6 33 "JudgedBits$Source" "settings" "LJudgedBits$Settings;", Cond.fieldLink RX6 40 "JudgedBits$Source" "health" "LJudgedBits$Health;", Cond.fieldLink RX6 47 "JudgedBits$Source" "rawBits" "LJudgedBits$BitRow;", Cond.fieldLink RX6 51 "JudgedBits$Source" "store" "LJudgedBits$BitRow;", Cond.fieldLink RX6 57 "JudgedBits$Source" "tally" "LJudgedBits$Tally;"]
def wsX9_fault_r2 : List Cond := [Cond.fieldLink RX6 9 "JudgedBits$Source" "noiseNumber" "I", Cond.fieldLink RX6 15 "JudgedBits$Source" "waiting" "I", Cond.methodLink RX6 61 yX4_copyFrom, Cond.instanceMethod yX4_copyFrom, Cond.selects RX4 yX4_copyFrom yX4_copyFrom, Cond.initialized RX4, Cond.code yX4_copyFrom cX4_copyFrom 2 none, Cond.fieldLink RX4 18 "JudgedBits$Ring" "period" "I", Cond.fieldLink RX4 9 "JudgedBits$Ring" "jitter" "I", Cond.fieldLink RX4 15 "JudgedBits$Ring" "phase" "I", Cond.methodLink RX6 65 yX5_copyFrom, Cond.instanceMethod yX5_copyFrom, Cond.selects RX5 yX5_copyFrom yX5_copyFrom, Cond.initialized RX5, Cond.code yX5_copyFrom cX5_copyFrom 2 none, Cond.fieldLink RX5 9 "JudgedBits$Settings" "step" "I", Cond.fieldLink RX5 15 "JudgedBits$Settings" "lock" "I", Cond.fieldLink RX5 18 "JudgedBits$Settings" "longestRun" "I", Cond.fieldLink RX5 21 "JudgedBits$Settings" "leastOnes" "I", Cond.methodLink RX6 68 yX1_copyFrom, Cond.instanceMethod yX1_copyFrom, Cond.selects RX1 yX1_copyFrom yX1_copyFrom, Cond.initialized RX1, Cond.code yX1_copyFrom cX1_copyFrom 2 none]
def wsX9_fault_r3 : List Cond := [Cond.fieldLink RX1 9 "JudgedBits$Health" "mode" "I", Cond.fieldLink RX1 13 "JudgedBits$Health" "failedTest" "I", Cond.fieldLink RX1 16 "JudgedBits$Health" "startUpBits" "I", Cond.fieldLink RX1 19 "JudgedBits$Health" "run" "I", Cond.fieldLink RX1 22 "JudgedBits$Health" "runBit" "I", Cond.fieldLink RX1 25 "JudgedBits$Health" "windowBits" "I", Cond.fieldLink RX1 28 "JudgedBits$Health" "windowOnes" "I", Cond.methodLink RX6 71 yX0_copyFrom, Cond.instanceMethod yX0_copyFrom, Cond.selects RX0 yX0_copyFrom yX0_copyFrom, Cond.initialized RX0, Cond.code yX0_copyFrom cX0_copyFrom 2 none, Cond.fieldLink RX0 7 "JudgedBits$BitRow" "bits" "J", Cond.fieldLink RX0 13 "JudgedBits$BitRow" "size" "I", Cond.methodLink RX6 74 yX7_copyFrom, Cond.instanceMethod yX7_copyFrom, Cond.selects RX7 yX7_copyFrom yX7_copyFrom, Cond.initialized RX7, Cond.code yX7_copyFrom cX7_copyFrom 2 none, Cond.fieldLink RX7 9 "JudgedBits$Tally" "samples" "I", Cond.fieldLink RX7 15 "JudgedBits$Tally" "ones" "I", Cond.fieldLink RX7 18 "JudgedBits$Tally" "leftOut" "I", Cond.fieldLink RX7 21 "JudgedBits$Tally" "stored" "I", Cond.fieldLink RX7 24 "JudgedBits$Tally" "lost" "I"]
def wsX9_fault_r4 : List Cond := [Cond.fieldLink RX7 27 "JudgedBits$Tally" "drawn" "I", Cond.fieldLink RX7 30 "JudgedBits$Tally" "alarms" "I", Cond.fieldLink RX7 33 "JudgedBits$Tally" "longestRun" "I", Cond.methodLink RX9 155 yX3_areDoneOn, Cond.instanceMethod yX3_areDoneOn, Cond.selects RX3 yX3_areDoneOn yX3_areDoneOn, Cond.initialized RX3, Cond.code yX3_areDoneOn cX3_areDoneOn 3 (some .boolean), Cond.fieldLink RX3 13 "JudgedBits$Orders" "place" "I", Cond.fieldLink RX3 16 "JudgedBits$Orders" "done" "I", Cond.fieldLink RX3 40 "JudgedBits$Orders" "text" "LJudgedBits$Text;", Cond.fieldLink RX3 44 "JudgedBits$Text" "length" "I", Cond.fieldLink RX3 7 "JudgedBits$Orders" "start" "I", Cond.fieldLink RX3 19 "JudgedBits$Orders" "reason" "I", Cond.fieldLink RX3 22 "JudgedBits$Orders" "cause" "I", Cond.methodLink RX3 47 yX3_isRead, Cond.instanceMethod yX3_isRead, Cond.selects RX3 yX3_isRead yX3_isRead, Cond.code yX3_isRead cX3_isRead 1 (some .boolean), Cond.fieldLink RX3 27 "JudgedBits$Orders" "kind" "I", Cond.methodLink RX3 55 yX8_at, Cond.instanceMethod yX8_at, Cond.selects RX8 yX8_at yX8_at, Cond.initialized RX8]
def wsX9_fault_r5 : List Cond := [Cond.code yX8_at cX8_at 2 (some .char), Cond.fieldLink RX8 15 "JudgedBits$Text" "length" "I", Cond.fieldLink RX8 11 "JudgedBits$Text" "characters" "[C", Cond.methodLink RX8 25 Lib.Math.min.name, Cond.static Lib.Math.min.name, Cond.initialized "java/lang/Math", Cond.code Lib.Math.min.name Lib.Math.min.code 2 (some .int), Cond.methodLink RX3 59 yX3_isSkipped, Cond.instanceMethod yX3_isSkipped, Cond.selects RX3 yX3_isSkipped yX3_isSkipped, Cond.code yX3_isSkipped cX3_isSkipped 2 (some .boolean), Cond.methodLink RX3 63 yX3_isNumberRead, Cond.instanceMethod yX3_isNumberRead, Cond.selects RX3 yX3_isNumberRead yX3_isNumberRead, Cond.code yX3_isNumberRead cX3_isNumberRead 2 (some .boolean), Cond.fieldLink RX3 30 "JudgedBits$Orders" "number" "I", Cond.methodLink RX3 66 yX3_areRingNumbersRead, Cond.instanceMethod yX3_areRingNumbersRead, Cond.selects RX3 yX3_areRingNumbersRead yX3_areRingNumbersRead, Cond.code yX3_areRingNumbersRead cX3_areRingNumbersRead 1 (some .boolean), Cond.fieldLink RX3 33 "JudgedBits$Orders" "first" "I", Cond.fieldLink RX3 36 "JudgedBits$Orders" "second" "I", Cond.methodLink RX3 51 yX3_doOn, Cond.instanceMethod yX3_doOn]
def wsX9_fault_r6 : List Cond := [Cond.selects RX3 yX3_doOn yX3_doOn, Cond.code yX3_doOn cX3_doOn 2 (some .int), Cond.methodLink RX3 75 yX6_changeRing, Cond.instanceMethod yX6_changeRing, Cond.selects RX6 yX6_changeRing yX6_changeRing, Cond.code yX6_changeRing cX6_changeRing 6 (some .int), Cond.constant RX6 81 (-1000001), Cond.fieldLink RX6 86 "JudgedBits$Ring" "period" "I", Cond.fieldLink RX6 89 "JudgedBits$Ring" "jitter" "I", Cond.fieldLink RX6 92 "JudgedBits$Ring" "phase" "I", Cond.methodLink RX6 82 yX6_ringAt, Cond.instanceMethod yX6_ringAt, Cond.selects RX6 yX6_ringAt yX6_ringAt, Cond.code yX6_ringAt cX6_ringAt 2 (some (.object "JudgedBits$Ring")), Cond.methodLink RX3 81 yX6_makeSamples, Cond.instanceMethod yX6_makeSamples, Cond.selects RX6 yX6_makeSamples yX6_makeSamples, Cond.code yX6_makeSamples cX6_makeSamples 4 (some .int), Cond.fieldLink RX6 96 "JudgedBits$Tally" "stored" "I", Cond.methodLink RX6 99 yX6_nextRawBit, Cond.instanceMethod yX6_nextRawBit, Cond.selects RX6 yX6_nextRawBit yX6_nextRawBit, Cond.code yX6_nextRawBit cX6_nextRawBit 1 (some .int), Cond.fieldLink RX6 126 "JudgedBits$Settings" "step" "I"]
def wsX9_fault_r7 : List Cond := [Cond.methodLink RX6 129 yX6_nextNoise, Cond.instanceMethod yX6_nextNoise, Cond.selects RX6 yX6_nextNoise yX6_nextNoise, Cond.code yX6_nextNoise cX6_nextNoise 1 (some .int), Cond.constant RX6 154 (65537), Cond.methodLink RX6 132 yX4_advance, Cond.instanceMethod yX4_advance, Cond.selects RX4 yX4_advance yX4_advance, Cond.code yX4_advance cX4_advance 3 none, Cond.static yX9_remainder, Cond.code yX9_remainder cX9_remainder 2 (some .int), Cond.methodLink RX6 136 yX6_locksOn, Cond.instanceMethod yX6_locksOn, Cond.selects RX6 yX6_locksOn yX6_locksOn, Cond.code yX6_locksOn cX6_locksOn 1 (some .boolean), Cond.methodLink RX6 146 Lib.Math.abs.name, Cond.static Lib.Math.abs.name, Cond.code Lib.Math.abs.name Lib.Math.abs.code 1 (some .int), Cond.fieldLink RX6 151 "JudgedBits$Settings" "lock" "I", Cond.methodLink RX6 140 yX4_lockOn, Cond.instanceMethod yX4_lockOn, Cond.selects RX4 yX4_lockOn yX4_lockOn, Cond.code yX4_lockOn cX4_lockOn 2 none, Cond.methodLink RX6 143 yX4_isHigh]
def wsX9_fault_r8 : List Cond := [Cond.instanceMethod yX4_isHigh, Cond.selects RX4 yX4_isHigh yX4_isHigh, Cond.code yX4_isHigh cX4_isHigh 1 (some .boolean), Cond.methodLink RX6 103 yX6_takeRawBit, Cond.instanceMethod yX6_takeRawBit, Cond.selects RX6 yX6_takeRawBit yX6_takeRawBit, Cond.code yX6_takeRawBit cX6_takeRawBit 3 none, Cond.fieldLink RX6 158 "JudgedBits$Tally" "samples" "I", Cond.fieldLink RX6 161 "JudgedBits$Tally" "ones" "I", Cond.fieldLink RX6 109 "JudgedBits$Health" "mode" "I", Cond.fieldLink RX6 168 "JudgedBits$Tally" "longestRun" "I", Cond.fieldLink RX6 171 "JudgedBits$Health" "run" "I", Cond.methodLink RX6 174 Lib.Math.max.name, Cond.static Lib.Math.max.name, Cond.code Lib.Math.max.name Lib.Math.max.code 2 (some .int), Cond.fieldLink RX6 178 "JudgedBits$Tally" "alarms" "I", Cond.methodLink RX6 155 yX0_append, Cond.instanceMethod yX0_append, Cond.selects RX0 yX0_append yX0_append, Cond.code yX0_append cX0_append 2 none, Cond.methodLink RX6 164 yX1_judge, Cond.instanceMethod yX1_judge, Cond.selects RX1 yX1_judge yX1_judge, Cond.code yX1_judge cX1_judge 4 none]
def wsX9_fault_r9 : List Cond := [Cond.fieldLink RX1 35 "JudgedBits$Settings" "leastOnes" "I", Cond.fieldLink RX1 44 "JudgedBits$Settings" "longestRun" "I", Cond.methodLink RX1 31 yX1_countInRun, Cond.instanceMethod yX1_countInRun, Cond.selects RX1 yX1_countInRun yX1_countInRun, Cond.code yX1_countInRun cX1_countInRun 2 none, Cond.methodLink RX1 40 yX1_failsShare, Cond.instanceMethod yX1_failsShare, Cond.selects RX1 yX1_failsShare yX1_failsShare, Cond.code yX1_failsShare cX1_failsShare 4 (some .boolean), Cond.methodLink RX1 47 yX1_bringAlarm, Cond.instanceMethod yX1_bringAlarm, Cond.selects RX1 yX1_bringAlarm yX1_bringAlarm, Cond.code yX1_bringAlarm cX1_bringAlarm 2 none, Cond.methodLink RX1 50 yX1_countInStartUp, Cond.instanceMethod yX1_countInStartUp, Cond.selects RX1 yX1_countInStartUp yX1_countInStartUp, Cond.code yX1_countInStartUp cX1_countInStartUp 1 none, Cond.methodLink RX6 181 yX6_pairUp, Cond.instanceMethod yX6_pairUp, Cond.selects RX6 yX6_pairUp yX6_pairUp, Cond.code yX6_pairUp cX6_pairUp 3 none, Cond.fieldLink RX6 184 "JudgedBits$Tally" "leftOut" "I", Cond.fieldLink RX6 190 "JudgedBits$Tally" "lost" "I"]
def wsX9_fault_r10 : List Cond := [Cond.methodLink RX6 187 yX0_isFull, Cond.instanceMethod yX0_isFull, Cond.selects RX0 yX0_isFull yX0_isFull, Cond.code yX0_isFull cX0_isFull 1 (some .boolean), Cond.methodLink RX3 85 yX6_drawBits, Cond.instanceMethod yX6_drawBits, Cond.selects RX6 yX6_drawBits yX6_drawBits, Cond.code yX6_drawBits cX6_drawBits 2 (some .int), Cond.fieldLink RX6 106 "JudgedBits$BitRow" "size" "I", Cond.constant RX6 112 (-1000002), Cond.fieldLink RX6 113 "JudgedBits$Tally" "drawn" "I", Cond.methodLink RX6 116 yX0_takeEarliest, Cond.instanceMethod yX0_takeEarliest, Cond.selects RX0 yX0_takeEarliest yX0_takeEarliest, Cond.code yX0_takeEarliest cX0_takeEarliest 4 (some .int), Cond.methodLink RX3 88 yX6_startAnew, Cond.instanceMethod yX6_startAnew, Cond.selects RX6 yX6_startAnew yX6_startAnew, Cond.code yX6_startAnew cX6_startAnew 2 (some .int), Cond.methodLink RX6 120 yX0_clear, Cond.instanceMethod yX0_clear, Cond.selects RX0 yX0_clear yX0_clear, Cond.code yX0_clear cX0_clear 1 none, Cond.methodLink RX6 123 yX1_startAnew]
def wsX9_fault_r11 : List Cond := [Cond.instanceMethod yX1_startAnew, Cond.selects RX1 yX1_startAnew yX1_startAnew, Cond.code yX1_startAnew cX1_startAnew 1 none, Cond.methodLink RX3 92 yX6_changeNoise, Cond.instanceMethod yX6_changeNoise, Cond.selects RX6 yX6_changeNoise yX6_changeNoise, Cond.code yX6_changeNoise cX6_changeNoise 3 (some .int), Cond.constant RX6 95 (65536)]
def wsX9_fault : List Cond := .code yX9_fault cX9_fault 2 (some .int) :: ((wsX9_fault_r1 ++ (wsX9_fault_r2 ++ (wsX9_fault_r3 ++ (wsX9_fault_r4 ++ (wsX9_fault_r5 ++ (wsX9_fault_r6 ++ (wsX9_fault_r7 ++ (wsX9_fault_r8 ++ (wsX9_fault_r9 ++ (wsX9_fault_r10 ++ wsX9_fault_r11)))))))))) ++ wsX90 ++ wsX30 ++ wsX60 ++ wsX40 ++ wsX50 ++ wsX10 ++ wsX00 ++ wsX70 ++ wsX80)
def wsX9_play_r1 : List Cond := [Cond.fieldLink RX9 16 "JudgedBits" "trial" "LJudgedBits$Source;", Cond.fieldLink RX9 10 "JudgedBits" "now" "LJudgedBits$Source;", Cond.fieldLink RX9 29 "JudgedBits" "orders" "LJudgedBits$Orders;", Cond.fieldLink RX9 168 "JudgedBits$Orders" "done" "I", Cond.constant RX9 171 (-1000002), Cond.methodLink RX9 33 yX6_copyFrom, Cond.instanceMethod yX6_copyFrom, Cond.selects RX6 yX6_copyFrom yX6_copyFrom, Cond.initialized RX6, Cond.code yX6_copyFrom cX6_copyFrom 2 none, Cond.fieldLink RX6 23 "JudgedBits$Source" "ringZero" "LJudgedBits$Ring;", Cond.fieldLink RX6 27 "JudgedBits$Source" "ringOne" "LJudgedBits$Ring;", Cond.fieldLink RX6 33 "JudgedBits$Source" "settings" "LJudgedBits$Settings;", Cond.fieldLink RX6 40 "JudgedBits$Source" "health" "LJudgedBits$Health;", Cond.fieldLink RX6 47 "JudgedBits$Source" "rawBits" "LJudgedBits$BitRow;", Cond.fieldLink RX6 51 "JudgedBits$Source" "store" "LJudgedBits$BitRow;", Cond.fieldLink RX6 57 "JudgedBits$Source" "tally" "LJudgedBits$Tally;", Cond.fieldLink RX6 9 "JudgedBits$Source" "noiseNumber" "I", Cond.fieldLink RX6 15 "JudgedBits$Source" "waiting" "I", Cond.methodLink RX6 61 yX4_copyFrom, Cond.instanceMethod yX4_copyFrom, Cond.selects RX4 yX4_copyFrom yX4_copyFrom, Cond.initialized RX4, Cond.code yX4_copyFrom cX4_copyFrom 2 none]
def wsX9_play_r2 : List Cond := [Cond.fieldLink RX4 18 "JudgedBits$Ring" "period" "I", Cond.fieldLink RX4 9 "JudgedBits$Ring" "jitter" "I", Cond.fieldLink RX4 15 "JudgedBits$Ring" "phase" "I", Cond.methodLink RX6 65 yX5_copyFrom, Cond.instanceMethod yX5_copyFrom, Cond.selects RX5 yX5_copyFrom yX5_copyFrom, Cond.initialized RX5, Cond.code yX5_copyFrom cX5_copyFrom 2 none, Cond.fieldLink RX5 9 "JudgedBits$Settings" "step" "I", Cond.fieldLink RX5 15 "JudgedBits$Settings" "lock" "I", Cond.fieldLink RX5 18 "JudgedBits$Settings" "longestRun" "I", Cond.fieldLink RX5 21 "JudgedBits$Settings" "leastOnes" "I", Cond.methodLink RX6 68 yX1_copyFrom, Cond.instanceMethod yX1_copyFrom, Cond.selects RX1 yX1_copyFrom yX1_copyFrom, Cond.initialized RX1, Cond.code yX1_copyFrom cX1_copyFrom 2 none, Cond.fieldLink RX1 9 "JudgedBits$Health" "mode" "I", Cond.fieldLink RX1 13 "JudgedBits$Health" "failedTest" "I", Cond.fieldLink RX1 16 "JudgedBits$Health" "startUpBits" "I", Cond.fieldLink RX1 19 "JudgedBits$Health" "run" "I", Cond.fieldLink RX1 22 "JudgedBits$Health" "runBit" "I", Cond.fieldLink RX1 25 "JudgedBits$Health" "windowBits" "I", Cond.fieldLink RX1 28 "JudgedBits$Health" "windowOnes" "I"]
def wsX9_play_r3 : List Cond := [Cond.methodLink RX6 71 yX0_copyFrom, Cond.instanceMethod yX0_copyFrom, Cond.selects RX0 yX0_copyFrom yX0_copyFrom, Cond.initialized RX0, Cond.code yX0_copyFrom cX0_copyFrom 2 none, Cond.fieldLink RX0 7 "JudgedBits$BitRow" "bits" "J", Cond.fieldLink RX0 13 "JudgedBits$BitRow" "size" "I", Cond.methodLink RX6 74 yX7_copyFrom, Cond.instanceMethod yX7_copyFrom, Cond.selects RX7 yX7_copyFrom yX7_copyFrom, Cond.initialized RX7, Cond.code yX7_copyFrom cX7_copyFrom 2 none, Cond.fieldLink RX7 9 "JudgedBits$Tally" "samples" "I", Cond.fieldLink RX7 15 "JudgedBits$Tally" "ones" "I", Cond.fieldLink RX7 18 "JudgedBits$Tally" "leftOut" "I", Cond.fieldLink RX7 21 "JudgedBits$Tally" "stored" "I", Cond.fieldLink RX7 24 "JudgedBits$Tally" "lost" "I", Cond.fieldLink RX7 27 "JudgedBits$Tally" "drawn" "I", Cond.fieldLink RX7 30 "JudgedBits$Tally" "alarms" "I", Cond.fieldLink RX7 33 "JudgedBits$Tally" "longestRun" "I", Cond.methodLink RX9 155 yX3_areDoneOn, Cond.instanceMethod yX3_areDoneOn, Cond.selects RX3 yX3_areDoneOn yX3_areDoneOn, Cond.initialized RX3]
def wsX9_play_r4 : List Cond := [Cond.code yX3_areDoneOn cX3_areDoneOn 3 (some .boolean), Cond.fieldLink RX3 13 "JudgedBits$Orders" "place" "I", Cond.fieldLink RX3 16 "JudgedBits$Orders" "done" "I", Cond.fieldLink RX3 40 "JudgedBits$Orders" "text" "LJudgedBits$Text;", Cond.fieldLink RX3 44 "JudgedBits$Text" "length" "I", Cond.fieldLink RX3 7 "JudgedBits$Orders" "start" "I", Cond.fieldLink RX3 19 "JudgedBits$Orders" "reason" "I", Cond.fieldLink RX3 22 "JudgedBits$Orders" "cause" "I", Cond.methodLink RX3 47 yX3_isRead, Cond.instanceMethod yX3_isRead, Cond.selects RX3 yX3_isRead yX3_isRead, Cond.code yX3_isRead cX3_isRead 1 (some .boolean), Cond.fieldLink RX3 27 "JudgedBits$Orders" "kind" "I", Cond.methodLink RX3 55 yX8_at, Cond.instanceMethod yX8_at, Cond.selects RX8 yX8_at yX8_at, Cond.initialized RX8, Cond.code yX8_at cX8_at 2 (some .char), Cond.fieldLink RX8 15 "JudgedBits$Text" "length" "I", Cond.fieldLink RX8 11 "JudgedBits$Text" "characters" "[C", Cond.methodLink RX8 25 Lib.Math.min.name, Cond.static Lib.Math.min.name, Cond.initialized "java/lang/Math", Cond.code Lib.Math.min.name Lib.Math.min.code 2 (some .int)]
def wsX9_play_r5 : List Cond := [Cond.static yX9_isWithin, Cond.initialized RX9, Cond.code yX9_isWithin cX9_isWithin 3 (some .boolean), Cond.methodLink RX3 59 yX3_isSkipped, Cond.instanceMethod yX3_isSkipped, Cond.selects RX3 yX3_isSkipped yX3_isSkipped, Cond.code yX3_isSkipped cX3_isSkipped 2 (some .boolean), Cond.methodLink RX3 63 yX3_isNumberRead, Cond.instanceMethod yX3_isNumberRead, Cond.selects RX3 yX3_isNumberRead yX3_isNumberRead, Cond.code yX3_isNumberRead cX3_isNumberRead 2 (some .boolean), Cond.fieldLink RX3 30 "JudgedBits$Orders" "number" "I", Cond.methodLink RX3 66 yX3_areRingNumbersRead, Cond.instanceMethod yX3_areRingNumbersRead, Cond.selects RX3 yX3_areRingNumbersRead yX3_areRingNumbersRead, Cond.code yX3_areRingNumbersRead cX3_areRingNumbersRead 1 (some .boolean), Cond.fieldLink RX3 33 "JudgedBits$Orders" "first" "I", Cond.fieldLink RX3 36 "JudgedBits$Orders" "second" "I", Cond.methodLink RX3 51 yX3_doOn, Cond.instanceMethod yX3_doOn, Cond.selects RX3 yX3_doOn yX3_doOn, Cond.code yX3_doOn cX3_doOn 2 (some .int), Cond.methodLink RX3 75 yX6_changeRing, Cond.instanceMethod yX6_changeRing]
def wsX9_play_r6 : List Cond := [Cond.selects RX6 yX6_changeRing yX6_changeRing, Cond.code yX6_changeRing cX6_changeRing 6 (some .int), Cond.constant RX6 81 (-1000001), Cond.fieldLink RX6 86 "JudgedBits$Ring" "period" "I", Cond.fieldLink RX6 89 "JudgedBits$Ring" "jitter" "I", Cond.fieldLink RX6 92 "JudgedBits$Ring" "phase" "I", Cond.methodLink RX6 82 yX6_ringAt, Cond.instanceMethod yX6_ringAt, Cond.selects RX6 yX6_ringAt yX6_ringAt, Cond.code yX6_ringAt cX6_ringAt 2 (some (.object "JudgedBits$Ring")), Cond.methodLink RX3 81 yX6_makeSamples, Cond.instanceMethod yX6_makeSamples, Cond.selects RX6 yX6_makeSamples yX6_makeSamples, Cond.code yX6_makeSamples cX6_makeSamples 4 (some .int), Cond.fieldLink RX6 96 "JudgedBits$Tally" "stored" "I", Cond.methodLink RX6 99 yX6_nextRawBit, Cond.instanceMethod yX6_nextRawBit, Cond.selects RX6 yX6_nextRawBit yX6_nextRawBit, Cond.code yX6_nextRawBit cX6_nextRawBit 1 (some .int), Cond.fieldLink RX6 126 "JudgedBits$Settings" "step" "I", Cond.methodLink RX6 129 yX6_nextNoise, Cond.instanceMethod yX6_nextNoise, Cond.selects RX6 yX6_nextNoise yX6_nextNoise, Cond.code yX6_nextNoise cX6_nextNoise 1 (some .int)]
def wsX9_play_r7 : List Cond := [Cond.constant RX6 154 (65537), Cond.methodLink RX6 132 yX4_advance, Cond.instanceMethod yX4_advance, Cond.selects RX4 yX4_advance yX4_advance, Cond.code yX4_advance cX4_advance 3 none, Cond.static yX9_remainder, Cond.code yX9_remainder cX9_remainder 2 (some .int), Cond.methodLink RX6 136 yX6_locksOn, Cond.instanceMethod yX6_locksOn, Cond.selects RX6 yX6_locksOn yX6_locksOn, Cond.code yX6_locksOn cX6_locksOn 1 (some .boolean), Cond.methodLink RX6 146 Lib.Math.abs.name, Cond.static Lib.Math.abs.name, Cond.code Lib.Math.abs.name Lib.Math.abs.code 1 (some .int), Cond.fieldLink RX6 151 "JudgedBits$Settings" "lock" "I", Cond.methodLink RX6 140 yX4_lockOn, Cond.instanceMethod yX4_lockOn, Cond.selects RX4 yX4_lockOn yX4_lockOn, Cond.code yX4_lockOn cX4_lockOn 2 none, Cond.methodLink RX6 143 yX4_isHigh, Cond.instanceMethod yX4_isHigh, Cond.selects RX4 yX4_isHigh yX4_isHigh, Cond.code yX4_isHigh cX4_isHigh 1 (some .boolean), Cond.methodLink RX6 103 yX6_takeRawBit]
def wsX9_play_r8 : List Cond := [Cond.instanceMethod yX6_takeRawBit, Cond.selects RX6 yX6_takeRawBit yX6_takeRawBit, Cond.code yX6_takeRawBit cX6_takeRawBit 3 none, Cond.fieldLink RX6 158 "JudgedBits$Tally" "samples" "I", Cond.fieldLink RX6 161 "JudgedBits$Tally" "ones" "I", Cond.fieldLink RX6 109 "JudgedBits$Health" "mode" "I", Cond.fieldLink RX6 168 "JudgedBits$Tally" "longestRun" "I", Cond.fieldLink RX6 171 "JudgedBits$Health" "run" "I", Cond.methodLink RX6 174 Lib.Math.max.name, Cond.static Lib.Math.max.name, Cond.code Lib.Math.max.name Lib.Math.max.code 2 (some .int), Cond.fieldLink RX6 178 "JudgedBits$Tally" "alarms" "I", Cond.methodLink RX6 155 yX0_append, Cond.instanceMethod yX0_append, Cond.selects RX0 yX0_append yX0_append, Cond.code yX0_append cX0_append 2 none, Cond.methodLink RX6 164 yX1_judge, Cond.instanceMethod yX1_judge, Cond.selects RX1 yX1_judge yX1_judge, Cond.code yX1_judge cX1_judge 4 none, Cond.fieldLink RX1 35 "JudgedBits$Settings" "leastOnes" "I", Cond.fieldLink RX1 44 "JudgedBits$Settings" "longestRun" "I", Cond.methodLink RX1 31 yX1_countInRun, Cond.instanceMethod yX1_countInRun]
def wsX9_play_r9 : List Cond := [Cond.selects RX1 yX1_countInRun yX1_countInRun, Cond.code yX1_countInRun cX1_countInRun 2 none, Cond.methodLink RX1 40 yX1_failsShare, Cond.instanceMethod yX1_failsShare, Cond.selects RX1 yX1_failsShare yX1_failsShare, Cond.code yX1_failsShare cX1_failsShare 4 (some .boolean), Cond.methodLink RX1 47 yX1_bringAlarm, Cond.instanceMethod yX1_bringAlarm, Cond.selects RX1 yX1_bringAlarm yX1_bringAlarm, Cond.code yX1_bringAlarm cX1_bringAlarm 2 none, Cond.methodLink RX1 50 yX1_countInStartUp, Cond.instanceMethod yX1_countInStartUp, Cond.selects RX1 yX1_countInStartUp yX1_countInStartUp, Cond.code yX1_countInStartUp cX1_countInStartUp 1 none, Cond.methodLink RX6 181 yX6_pairUp, Cond.instanceMethod yX6_pairUp, Cond.selects RX6 yX6_pairUp yX6_pairUp, Cond.code yX6_pairUp cX6_pairUp 3 none, Cond.fieldLink RX6 184 "JudgedBits$Tally" "leftOut" "I", Cond.fieldLink RX6 190 "JudgedBits$Tally" "lost" "I", Cond.methodLink RX6 187 yX0_isFull, Cond.instanceMethod yX0_isFull, Cond.selects RX0 yX0_isFull yX0_isFull, Cond.code yX0_isFull cX0_isFull 1 (some .boolean)]
def wsX9_play_r10 : List Cond := [Cond.methodLink RX3 85 yX6_drawBits, Cond.instanceMethod yX6_drawBits, Cond.selects RX6 yX6_drawBits yX6_drawBits, Cond.code yX6_drawBits cX6_drawBits 2 (some .int), Cond.fieldLink RX6 106 "JudgedBits$BitRow" "size" "I", Cond.constant RX6 112 (-1000002), Cond.fieldLink RX6 113 "JudgedBits$Tally" "drawn" "I", Cond.methodLink RX6 116 yX0_takeEarliest, Cond.instanceMethod yX0_takeEarliest, Cond.selects RX0 yX0_takeEarliest yX0_takeEarliest, Cond.code yX0_takeEarliest cX0_takeEarliest 4 (some .int), Cond.methodLink RX3 88 yX6_startAnew, Cond.instanceMethod yX6_startAnew, Cond.selects RX6 yX6_startAnew yX6_startAnew, Cond.code yX6_startAnew cX6_startAnew 2 (some .int), Cond.methodLink RX6 120 yX0_clear, Cond.instanceMethod yX0_clear, Cond.selects RX0 yX0_clear yX0_clear, Cond.code yX0_clear cX0_clear 1 none, Cond.methodLink RX6 123 yX1_startAnew, Cond.instanceMethod yX1_startAnew, Cond.selects RX1 yX1_startAnew yX1_startAnew, Cond.code yX1_startAnew cX1_startAnew 1 none, Cond.methodLink RX3 92 yX6_changeNoise]
def wsX9_play_r11 : List Cond := [Cond.instanceMethod yX6_changeNoise, Cond.selects RX6 yX6_changeNoise yX6_changeNoise, Cond.code yX6_changeNoise cX6_changeNoise 3 (some .int), Cond.constant RX6 95 (65536), Cond.methodLink RX9 41 yX9_settle, Cond.instanceMethod yX9_settle, Cond.selects RX9 yX9_settle yX9_settle, Cond.code yX9_settle cX9_settle 2 (some .int), Cond.fieldLink RX9 22 "JudgedBits" "history" "LJudgedBits$History;", Cond.methodLink RX9 172 yX2_keep, Cond.instanceMethod yX2_keep, Cond.selects RX2 yX2_keep yX2_keep, Cond.initialized RX2, Cond.code yX2_keep cX2_keep 2 none, Cond.fieldLink RX2 28 "JudgedBits$History" "fourth" "LJudgedBits$Source;", Cond.fieldLink RX2 25 "JudgedBits$History" "third" "LJudgedBits$Source;", Cond.fieldLink RX2 22 "JudgedBits$History" "second" "LJudgedBits$Source;", Cond.fieldLink RX2 18 "JudgedBits$History" "latest" "LJudgedBits$Source;", Cond.fieldLink RX2 9 "JudgedBits$History" "many" "I", Cond.methodLink RX2 31 yX6_copyFrom]
def wsX9_play : List Cond := .code yX9_play cX9_play 1 (some .int) :: ((wsX9_play_r1 ++ (wsX9_play_r2 ++ (wsX9_play_r3 ++ (wsX9_play_r4 ++ (wsX9_play_r5 ++ (wsX9_play_r6 ++ (wsX9_play_r7 ++ (wsX9_play_r8 ++ (wsX9_play_r9 ++ (wsX9_play_r10 ++ wsX9_play_r11)))))))))) ++ wsX90 ++ wsX30 ++ wsX60 ++ wsX40 ++ wsX50 ++ wsX10 ++ wsX00 ++ wsX70 ++ wsX80 ++ wsX20)
def wsX10_init : List Cond := .code yX10_init cX10_init 1 none :: ([.methodLink RX10 1 objectInit, .instanceMethod objectInit, .code objectInit ⟨#[0xb1]⟩ 1 none, .arrayClass .int, .fieldLink RX10 7 "JudgedBitsModel" "s" "[I", .arrayClass .char, .fieldLink RX10 13 "JudgedBitsModel" "text" "[C"] ++ wsX100)
def wsX10_in : List Cond := .code yX10_in cX10_in 3 (some .boolean) :: ([])
def wsX10_copies : List Cond := .code yX10_copies cX10_copies 4 none :: ([.fieldLink RX10 7 "JudgedBitsModel" "s" "[I"] ++ wsX100)
def wsX10_records : List Cond := .code yX10_records cX10_records 2 none :: ([.fieldLink RX10 17 "JudgedBitsModel" "states" "I", .methodLink RX10 21 yX10_copies, .instanceMethod yX10_copies, .selects RX10 yX10_copies yX10_copies, .initialized RX10, .code yX10_copies cX10_copies 4 none, .fieldLink RX10 7 "JudgedBitsModel" "s" "[I"] ++ wsX100)
def wsX10_asks : List Cond := .code yX10_asks cX10_asks 2 (some .int) :: ([.fieldLink RX10 7 "JudgedBitsModel" "s" "[I", .constant RX10 25 (65537)] ++ wsX100)
def wsX10_locks : List Cond := .code yX10_locks cX10_locks 3 (some .boolean) :: ([.fieldLink RX10 7 "JudgedBitsModel" "s" "[I"] ++ wsX100)
def wsX10_runs : List Cond := .code yX10_runs cX10_runs 4 none :: ([.fieldLink RX10 7 "JudgedBitsModel" "s" "[I", .methodLink RX10 26 yX10_asks, .instanceMethod yX10_asks, .selects RX10 yX10_asks yX10_asks, .initialized RX10, .code yX10_asks cX10_asks 2 (some .int), .constant RX10 25 (65537)] ++ wsX100)
def wsX10_isHigh : List Cond := .code yX10_isHigh cX10_isHigh 3 (some .boolean) :: ([.fieldLink RX10 7 "JudgedBitsModel" "s" "[I"] ++ wsX100)
def wsX10_keeps : List Cond := .code yX10_keeps cX10_keeps 4 none :: ([.fieldLink RX10 7 "JudgedBitsModel" "s" "[I"] ++ wsX100)
def wsX10_tests : List Cond := .code yX10_tests cX10_tests 5 (some .int) :: ([.fieldLink RX10 7 "JudgedBitsModel" "s" "[I", .methodLink RX10 30 yX10_in, .static yX10_in, .initialized RX10, .code yX10_in cX10_in 3 (some .boolean)] ++ wsX100)
def wsX10_takesOne : List Cond := .code yX10_takesOne cX10_takesOne 3 none :: ([.fieldLink RX10 7 "JudgedBitsModel" "s" "[I"] ++ wsX100)
def wsX10_samples_r1 : List Cond := [Cond.fieldLink RX10 7 "JudgedBitsModel" "s" "[I", Cond.methodLink RX10 34 yX10_runs, Cond.instanceMethod yX10_runs, Cond.selects RX10 yX10_runs yX10_runs, Cond.initialized RX10, Cond.code yX10_runs cX10_runs 4 none, Cond.methodLink RX10 26 yX10_asks, Cond.instanceMethod yX10_asks, Cond.selects RX10 yX10_asks yX10_asks, Cond.code yX10_asks cX10_asks 2 (some .int), Cond.constant RX10 25 (65537), Cond.methodLink RX10 37 yX10_locks, Cond.instanceMethod yX10_locks, Cond.selects RX10 yX10_locks yX10_locks, Cond.code yX10_locks cX10_locks 3 (some .boolean), Cond.methodLink RX10 41 yX10_isHigh, Cond.instanceMethod yX10_isHigh, Cond.selects RX10 yX10_isHigh yX10_isHigh, Cond.code yX10_isHigh cX10_isHigh 3 (some .boolean), Cond.methodLink RX10 45 yX10_keeps, Cond.instanceMethod yX10_keeps, Cond.selects RX10 yX10_keeps yX10_keeps, Cond.code yX10_keeps cX10_keeps 4 none, Cond.methodLink RX10 48 yX10_tests]
def wsX10_samples_r2 : List Cond := [Cond.instanceMethod yX10_tests, Cond.selects RX10 yX10_tests yX10_tests, Cond.code yX10_tests cX10_tests 5 (some .int), Cond.methodLink RX10 30 yX10_in, Cond.static yX10_in, Cond.code yX10_in cX10_in 3 (some .boolean), Cond.methodLink RX10 52 yX10_takesOne, Cond.instanceMethod yX10_takesOne, Cond.selects RX10 yX10_takesOne yX10_takesOne, Cond.code yX10_takesOne cX10_takesOne 3 none]
def wsX10_samples : List Cond := .code yX10_samples cX10_samples 4 none :: ((wsX10_samples_r1 ++ wsX10_samples_r2) ++ wsX100)
def wsX10_makes_r1 : List Cond := [Cond.fieldLink RX10 7 "JudgedBitsModel" "s" "[I", Cond.methodLink RX10 55 yX10_samples, Cond.instanceMethod yX10_samples, Cond.selects RX10 yX10_samples yX10_samples, Cond.initialized RX10, Cond.code yX10_samples cX10_samples 4 none, Cond.methodLink RX10 34 yX10_runs, Cond.instanceMethod yX10_runs, Cond.selects RX10 yX10_runs yX10_runs, Cond.code yX10_runs cX10_runs 4 none, Cond.methodLink RX10 26 yX10_asks, Cond.instanceMethod yX10_asks, Cond.selects RX10 yX10_asks yX10_asks, Cond.code yX10_asks cX10_asks 2 (some .int), Cond.constant RX10 25 (65537), Cond.methodLink RX10 37 yX10_locks, Cond.instanceMethod yX10_locks, Cond.selects RX10 yX10_locks yX10_locks, Cond.code yX10_locks cX10_locks 3 (some .boolean), Cond.methodLink RX10 41 yX10_isHigh, Cond.instanceMethod yX10_isHigh, Cond.selects RX10 yX10_isHigh yX10_isHigh, Cond.code yX10_isHigh cX10_isHigh 3 (some .boolean), Cond.methodLink RX10 45 yX10_keeps]
def wsX10_makes_r2 : List Cond := [Cond.instanceMethod yX10_keeps, Cond.selects RX10 yX10_keeps yX10_keeps, Cond.code yX10_keeps cX10_keeps 4 none, Cond.methodLink RX10 48 yX10_tests, Cond.instanceMethod yX10_tests, Cond.selects RX10 yX10_tests yX10_tests, Cond.code yX10_tests cX10_tests 5 (some .int), Cond.methodLink RX10 30 yX10_in, Cond.static yX10_in, Cond.code yX10_in cX10_in 3 (some .boolean), Cond.methodLink RX10 52 yX10_takesOne, Cond.instanceMethod yX10_takesOne, Cond.selects RX10 yX10_takesOne yX10_takesOne, Cond.code yX10_takesOne cX10_takesOne 3 none]
def wsX10_makes : List Cond := .code yX10_makes cX10_makes 6 (some .int) :: ((wsX10_makes_r1 ++ wsX10_makes_r2) ++ wsX100)
def wsX10_sets : List Cond := .code yX10_sets cX10_sets 7 (some .int) :: ([.constant RX10 59 (-1000001), .fieldLink RX10 7 "JudgedBitsModel" "s" "[I", .methodLink RX10 30 yX10_in, .static yX10_in, .initialized RX10, .code yX10_in cX10_in 3 (some .boolean)] ++ wsX100)
def wsX10_draws : List Cond := .code yX10_draws cX10_draws 6 (some .int) :: ([.constant RX10 59 (-1000001), .fieldLink RX10 7 "JudgedBitsModel" "s" "[I", .constant RX10 60 (-1000002), .methodLink RX10 30 yX10_in, .static yX10_in, .initialized RX10, .code yX10_in cX10_in 3 (some .boolean)] ++ wsX100)
def wsX10_starts : List Cond := .code yX10_starts cX10_starts 4 (some .int) :: ([.fieldLink RX10 7 "JudgedBitsModel" "s" "[I"] ++ wsX100)
def wsX10_ring : List Cond := .code yX10_ring cX10_ring 5 (some .int) :: ([.methodLink RX10 21 yX10_copies, .instanceMethod yX10_copies, .selects RX10 yX10_copies yX10_copies, .initialized RX10, .code yX10_copies cX10_copies 4 none, .fieldLink RX10 7 "JudgedBitsModel" "s" "[I", .methodLink RX10 61 yX10_sets, .instanceMethod yX10_sets, .selects RX10 yX10_sets yX10_sets, .code yX10_sets cX10_sets 7 (some .int), .constant RX10 59 (-1000001), .methodLink RX10 30 yX10_in, .static yX10_in, .code yX10_in cX10_in 3 (some .boolean), .methodLink RX10 65 yX10_records, .instanceMethod yX10_records, .selects RX10 yX10_records yX10_records, .code yX10_records cX10_records 2 none, .fieldLink RX10 17 "JudgedBitsModel" "states" "I"] ++ wsX100)
def wsX10_noise : List Cond := .code yX10_noise cX10_noise 3 (some .int) :: ([.constant RX10 68 (65536), .constant RX10 59 (-1000001), .fieldLink RX10 7 "JudgedBitsModel" "s" "[I", .methodLink RX10 30 yX10_in, .static yX10_in, .initialized RX10, .code yX10_in cX10_in 3 (some .boolean), .methodLink RX10 65 yX10_records, .instanceMethod yX10_records, .selects RX10 yX10_records yX10_records, .code yX10_records cX10_records 2 none, .fieldLink RX10 17 "JudgedBitsModel" "states" "I", .methodLink RX10 21 yX10_copies, .instanceMethod yX10_copies, .selects RX10 yX10_copies yX10_copies, .code yX10_copies cX10_copies 4 none] ++ wsX100)
def wsX10_sample_r1 : List Cond := [Cond.constant RX10 59 (-1000001), Cond.methodLink RX10 30 yX10_in, Cond.static yX10_in, Cond.initialized RX10, Cond.code yX10_in cX10_in 3 (some .boolean), Cond.methodLink RX10 65 yX10_records, Cond.instanceMethod yX10_records, Cond.selects RX10 yX10_records yX10_records, Cond.code yX10_records cX10_records 2 none, Cond.fieldLink RX10 17 "JudgedBitsModel" "states" "I", Cond.methodLink RX10 21 yX10_copies, Cond.instanceMethod yX10_copies, Cond.selects RX10 yX10_copies yX10_copies, Cond.code yX10_copies cX10_copies 4 none, Cond.fieldLink RX10 7 "JudgedBitsModel" "s" "[I", Cond.methodLink RX10 69 yX10_makes, Cond.instanceMethod yX10_makes, Cond.selects RX10 yX10_makes yX10_makes, Cond.code yX10_makes cX10_makes 6 (some .int), Cond.methodLink RX10 55 yX10_samples, Cond.instanceMethod yX10_samples, Cond.selects RX10 yX10_samples yX10_samples, Cond.code yX10_samples cX10_samples 4 none, Cond.methodLink RX10 34 yX10_runs]
def wsX10_sample_r2 : List Cond := [Cond.instanceMethod yX10_runs, Cond.selects RX10 yX10_runs yX10_runs, Cond.code yX10_runs cX10_runs 4 none, Cond.methodLink RX10 26 yX10_asks, Cond.instanceMethod yX10_asks, Cond.selects RX10 yX10_asks yX10_asks, Cond.code yX10_asks cX10_asks 2 (some .int), Cond.constant RX10 25 (65537), Cond.methodLink RX10 37 yX10_locks, Cond.instanceMethod yX10_locks, Cond.selects RX10 yX10_locks yX10_locks, Cond.code yX10_locks cX10_locks 3 (some .boolean), Cond.methodLink RX10 41 yX10_isHigh, Cond.instanceMethod yX10_isHigh, Cond.selects RX10 yX10_isHigh yX10_isHigh, Cond.code yX10_isHigh cX10_isHigh 3 (some .boolean), Cond.methodLink RX10 45 yX10_keeps, Cond.instanceMethod yX10_keeps, Cond.selects RX10 yX10_keeps yX10_keeps, Cond.code yX10_keeps cX10_keeps 4 none, Cond.methodLink RX10 48 yX10_tests, Cond.instanceMethod yX10_tests, Cond.selects RX10 yX10_tests yX10_tests, Cond.code yX10_tests cX10_tests 5 (some .int)]
def wsX10_sample_r3 : List Cond := [Cond.methodLink RX10 52 yX10_takesOne, Cond.instanceMethod yX10_takesOne, Cond.selects RX10 yX10_takesOne yX10_takesOne, Cond.code yX10_takesOne cX10_takesOne 3 none]
def wsX10_sample : List Cond := .code yX10_sample cX10_sample 2 (some .int) :: ((wsX10_sample_r1 ++ (wsX10_sample_r2 ++ wsX10_sample_r3)) ++ wsX100)
def wsX10_draw : List Cond := .code yX10_draw cX10_draw 3 (some .int) :: ([.methodLink RX10 21 yX10_copies, .instanceMethod yX10_copies, .selects RX10 yX10_copies yX10_copies, .initialized RX10, .code yX10_copies cX10_copies 4 none, .fieldLink RX10 7 "JudgedBitsModel" "s" "[I", .methodLink RX10 72 yX10_draws, .instanceMethod yX10_draws, .selects RX10 yX10_draws yX10_draws, .code yX10_draws cX10_draws 6 (some .int), .constant RX10 59 (-1000001), .constant RX10 60 (-1000002), .methodLink RX10 30 yX10_in, .static yX10_in, .code yX10_in cX10_in 3 (some .boolean), .methodLink RX10 65 yX10_records, .instanceMethod yX10_records, .selects RX10 yX10_records yX10_records, .code yX10_records cX10_records 2 none, .fieldLink RX10 17 "JudgedBitsModel" "states" "I"] ++ wsX100)
def wsX10_restart : List Cond := .code yX10_restart cX10_restart 1 (some .int) :: ([.methodLink RX10 65 yX10_records, .instanceMethod yX10_records, .selects RX10 yX10_records yX10_records, .initialized RX10, .code yX10_records cX10_records 2 none, .fieldLink RX10 17 "JudgedBitsModel" "states" "I", .methodLink RX10 21 yX10_copies, .instanceMethod yX10_copies, .selects RX10 yX10_copies yX10_copies, .code yX10_copies cX10_copies 4 none, .fieldLink RX10 7 "JudgedBitsModel" "s" "[I", .methodLink RX10 75 yX10_starts, .instanceMethod yX10_starts, .selects RX10 yX10_starts yX10_starts, .code yX10_starts cX10_starts 4 (some .int)] ++ wsX100)
def wsX10_set : List Cond := .code yX10_set cX10_set 5 (some .int) :: ([.constant RX10 59 (-1000001), .fieldLink RX10 7 "JudgedBitsModel" "s" "[I", .methodLink RX10 30 yX10_in, .static yX10_in, .initialized RX10, .code yX10_in cX10_in 3 (some .boolean), .methodLink RX10 65 yX10_records, .instanceMethod yX10_records, .selects RX10 yX10_records yX10_records, .code yX10_records cX10_records 2 none, .fieldLink RX10 17 "JudgedBitsModel" "states" "I", .methodLink RX10 21 yX10_copies, .instanceMethod yX10_copies, .selects RX10 yX10_copies yX10_copies, .code yX10_copies cX10_copies 4 none] ++ wsX100)
def wsX10_ringOf : List Cond := .code yX10_ringOf cX10_ringOf 3 (some .int) :: ([.constant RX10 59 (-1000001), .fieldLink RX10 7 "JudgedBitsModel" "s" "[I", .methodLink RX10 30 yX10_in, .static yX10_in, .initialized RX10, .code yX10_in cX10_in 3 (some .boolean), .methodLink RX10 41 yX10_isHigh, .instanceMethod yX10_isHigh, .selects RX10 yX10_isHigh yX10_isHigh, .code yX10_isHigh cX10_isHigh 3 (some .boolean)] ++ wsX100)
def wsX10_source : List Cond := .code yX10_source cX10_source 2 (some .int) :: ([.fieldLink RX10 7 "JudgedBitsModel" "s" "[I", .constant RX10 78 (-1000004), .constant RX10 59 (-1000001), .methodLink RX10 37 yX10_locks, .instanceMethod yX10_locks, .selects RX10 yX10_locks yX10_locks, .initialized RX10, .code yX10_locks cX10_locks 3 (some .boolean)] ++ wsX100)
def wsX10_raw : List Cond := .code yX10_raw cX10_raw 2 (some .int) :: ([.constant RX10 59 (-1000001), .fieldLink RX10 7 "JudgedBitsModel" "s" "[I", .constant RX10 78 (-1000004), .methodLink RX10 30 yX10_in, .static yX10_in, .initialized RX10, .code yX10_in cX10_in 3 (some .boolean)] ++ wsX100)
def wsX10_stored : List Cond := .code yX10_stored cX10_stored 2 (some .int) :: ([.constant RX10 59 (-1000001), .fieldLink RX10 7 "JudgedBitsModel" "s" "[I", .constant RX10 78 (-1000004)] ++ wsX100)
def wsX10_would_r1 : List Cond := [Cond.constant RX10 59 (-1000001), Cond.fieldLink RX10 7 "JudgedBitsModel" "s" "[I", Cond.methodLink RX10 30 yX10_in, Cond.static yX10_in, Cond.initialized RX10, Cond.code yX10_in cX10_in 3 (some .boolean), Cond.methodLink RX10 21 yX10_copies, Cond.instanceMethod yX10_copies, Cond.selects RX10 yX10_copies yX10_copies, Cond.code yX10_copies cX10_copies 4 none, Cond.methodLink RX10 69 yX10_makes, Cond.instanceMethod yX10_makes, Cond.selects RX10 yX10_makes yX10_makes, Cond.code yX10_makes cX10_makes 6 (some .int), Cond.methodLink RX10 55 yX10_samples, Cond.instanceMethod yX10_samples, Cond.selects RX10 yX10_samples yX10_samples, Cond.code yX10_samples cX10_samples 4 none, Cond.methodLink RX10 34 yX10_runs, Cond.instanceMethod yX10_runs, Cond.selects RX10 yX10_runs yX10_runs, Cond.code yX10_runs cX10_runs 4 none, Cond.methodLink RX10 26 yX10_asks, Cond.instanceMethod yX10_asks]
def wsX10_would_r2 : List Cond := [Cond.selects RX10 yX10_asks yX10_asks, Cond.code yX10_asks cX10_asks 2 (some .int), Cond.constant RX10 25 (65537), Cond.methodLink RX10 37 yX10_locks, Cond.instanceMethod yX10_locks, Cond.selects RX10 yX10_locks yX10_locks, Cond.code yX10_locks cX10_locks 3 (some .boolean), Cond.methodLink RX10 41 yX10_isHigh, Cond.instanceMethod yX10_isHigh, Cond.selects RX10 yX10_isHigh yX10_isHigh, Cond.code yX10_isHigh cX10_isHigh 3 (some .boolean), Cond.methodLink RX10 45 yX10_keeps, Cond.instanceMethod yX10_keeps, Cond.selects RX10 yX10_keeps yX10_keeps, Cond.code yX10_keeps cX10_keeps 4 none, Cond.methodLink RX10 48 yX10_tests, Cond.instanceMethod yX10_tests, Cond.selects RX10 yX10_tests yX10_tests, Cond.code yX10_tests cX10_tests 5 (some .int), Cond.methodLink RX10 52 yX10_takesOne, Cond.instanceMethod yX10_takesOne, Cond.selects RX10 yX10_takesOne yX10_takesOne, Cond.code yX10_takesOne cX10_takesOne 3 none]
def wsX10_would : List Cond := .code yX10_would cX10_would 4 (some .int) :: ((wsX10_would_r1 ++ wsX10_would_r2) ++ wsX100)
def wsX10_takes_r1 : List Cond := [Cond.constant RX10 59 (-1000001), Cond.fieldLink RX10 7 "JudgedBitsModel" "s" "[I", Cond.constant RX10 78 (-1000004), Cond.methodLink RX10 30 yX10_in, Cond.static yX10_in, Cond.initialized RX10, Cond.code yX10_in cX10_in 3 (some .boolean), Cond.methodLink RX10 21 yX10_copies, Cond.instanceMethod yX10_copies, Cond.selects RX10 yX10_copies yX10_copies, Cond.code yX10_copies cX10_copies 4 none, Cond.methodLink RX10 55 yX10_samples, Cond.instanceMethod yX10_samples, Cond.selects RX10 yX10_samples yX10_samples, Cond.code yX10_samples cX10_samples 4 none, Cond.methodLink RX10 34 yX10_runs, Cond.instanceMethod yX10_runs, Cond.selects RX10 yX10_runs yX10_runs, Cond.code yX10_runs cX10_runs 4 none, Cond.methodLink RX10 26 yX10_asks, Cond.instanceMethod yX10_asks, Cond.selects RX10 yX10_asks yX10_asks, Cond.code yX10_asks cX10_asks 2 (some .int), Cond.constant RX10 25 (65537)]
def wsX10_takes_r2 : List Cond := [Cond.methodLink RX10 37 yX10_locks, Cond.instanceMethod yX10_locks, Cond.selects RX10 yX10_locks yX10_locks, Cond.code yX10_locks cX10_locks 3 (some .boolean), Cond.methodLink RX10 41 yX10_isHigh, Cond.instanceMethod yX10_isHigh, Cond.selects RX10 yX10_isHigh yX10_isHigh, Cond.code yX10_isHigh cX10_isHigh 3 (some .boolean), Cond.methodLink RX10 45 yX10_keeps, Cond.instanceMethod yX10_keeps, Cond.selects RX10 yX10_keeps yX10_keeps, Cond.code yX10_keeps cX10_keeps 4 none, Cond.methodLink RX10 48 yX10_tests, Cond.instanceMethod yX10_tests, Cond.selects RX10 yX10_tests yX10_tests, Cond.code yX10_tests cX10_tests 5 (some .int), Cond.methodLink RX10 52 yX10_takesOne, Cond.instanceMethod yX10_takesOne, Cond.selects RX10 yX10_takesOne yX10_takesOne, Cond.code yX10_takesOne cX10_takesOne 3 none]
def wsX10_takes : List Cond := .code yX10_takes cX10_takes 4 (some .int) :: ((wsX10_takes_r1 ++ wsX10_takes_r2) ++ wsX100)
def wsX10_bestPeriod_r1 : List Cond := [Cond.constant RX10 59 (-1000001), Cond.fieldLink RX10 7 "JudgedBitsModel" "s" "[I", Cond.methodLink RX10 30 yX10_in, Cond.static yX10_in, Cond.initialized RX10, Cond.code yX10_in cX10_in 3 (some .boolean), Cond.methodLink RX10 21 yX10_copies, Cond.instanceMethod yX10_copies, Cond.selects RX10 yX10_copies yX10_copies, Cond.code yX10_copies cX10_copies 4 none, Cond.methodLink RX10 61 yX10_sets, Cond.instanceMethod yX10_sets, Cond.selects RX10 yX10_sets yX10_sets, Cond.code yX10_sets cX10_sets 7 (some .int), Cond.methodLink RX10 69 yX10_makes, Cond.instanceMethod yX10_makes, Cond.selects RX10 yX10_makes yX10_makes, Cond.code yX10_makes cX10_makes 6 (some .int), Cond.methodLink RX10 55 yX10_samples, Cond.instanceMethod yX10_samples, Cond.selects RX10 yX10_samples yX10_samples, Cond.code yX10_samples cX10_samples 4 none, Cond.methodLink RX10 34 yX10_runs, Cond.instanceMethod yX10_runs]
def wsX10_bestPeriod_r2 : List Cond := [Cond.selects RX10 yX10_runs yX10_runs, Cond.code yX10_runs cX10_runs 4 none, Cond.methodLink RX10 26 yX10_asks, Cond.instanceMethod yX10_asks, Cond.selects RX10 yX10_asks yX10_asks, Cond.code yX10_asks cX10_asks 2 (some .int), Cond.constant RX10 25 (65537), Cond.methodLink RX10 37 yX10_locks, Cond.instanceMethod yX10_locks, Cond.selects RX10 yX10_locks yX10_locks, Cond.code yX10_locks cX10_locks 3 (some .boolean), Cond.methodLink RX10 41 yX10_isHigh, Cond.instanceMethod yX10_isHigh, Cond.selects RX10 yX10_isHigh yX10_isHigh, Cond.code yX10_isHigh cX10_isHigh 3 (some .boolean), Cond.methodLink RX10 45 yX10_keeps, Cond.instanceMethod yX10_keeps, Cond.selects RX10 yX10_keeps yX10_keeps, Cond.code yX10_keeps cX10_keeps 4 none, Cond.methodLink RX10 48 yX10_tests, Cond.instanceMethod yX10_tests, Cond.selects RX10 yX10_tests yX10_tests, Cond.code yX10_tests cX10_tests 5 (some .int), Cond.methodLink RX10 52 yX10_takesOne]
def wsX10_bestPeriod_r3 : List Cond := [Cond.instanceMethod yX10_takesOne, Cond.selects RX10 yX10_takesOne yX10_takesOne, Cond.code yX10_takesOne cX10_takesOne 3 none]
def wsX10_bestPeriod : List Cond := .code yX10_bestPeriod cX10_bestPeriod 6 (some .int) :: ((wsX10_bestPeriod_r1 ++ (wsX10_bestPeriod_r2 ++ wsX10_bestPeriod_r3)) ++ wsX100)
def wsJxf58ca_isNaN_12338 : List Cond := .code yJxf58ca_isNaN_12338 cJxf58ca_isNaN_12338 1 (some .boolean) :: ([])
def wsJxf58ca_floatToIntBits_5c35a : List Cond := .code yJxf58ca_floatToIntBits_5c35a cJxf58ca_floatToIntBits_5c35a 1 (some .int) :: ([.methodLink RJxf58ca 74 ⟨"java/lang/Float", "floatToRawIntBits", "(F)I"⟩, .native ⟨"java/lang/Float", "floatToRawIntBits", "(F)I"⟩, .static ⟨"java/lang/Float", "floatToRawIntBits", "(F)I"⟩, .initialized "java/lang/Float", .constant RJxf58ca 77 (2143289344), .methodLink RJxf58ca 59 yJxf58ca_isNaN_12338, .static yJxf58ca_isNaN_12338, .initialized RJxf58ca, .code yJxf58ca_isNaN_12338 cJxf58ca_isNaN_12338 1 (some .boolean)])
def wsX10_share : List Cond := .code yX10_share cX10_share 3 (some .int) :: ([.fieldLink RX10 7 "JudgedBitsModel" "s" "[I", .constant RX10 78 (-1000004), .methodLink RX10 79 yJxf58ca_floatToIntBits_5c35a, .static yJxf58ca_floatToIntBits_5c35a, .initialized RJxf58ca, .code yJxf58ca_floatToIntBits_5c35a cJxf58ca_floatToIntBits_5c35a 1 (some .int), .methodLink RJxf58ca 74 ⟨"java/lang/Float", "floatToRawIntBits", "(F)I"⟩, .native ⟨"java/lang/Float", "floatToRawIntBits", "(F)I"⟩, .static ⟨"java/lang/Float", "floatToRawIntBits", "(F)I"⟩, .initialized "java/lang/Float", .constant RJxf58ca 77 (2143289344), .methodLink RJxf58ca 59 yJxf58ca_isNaN_12338, .static yJxf58ca_isNaN_12338, .code yJxf58ca_isNaN_12338 cJxf58ca_isNaN_12338 1 (some .boolean)] ++ wsX100)
def wsX10_count : List Cond := .code yX10_count cX10_count 2 (some .int) :: ([.fieldLink RX10 7 "JudgedBitsModel" "s" "[I", .fieldLink RX10 17 "JudgedBitsModel" "states" "I", .fieldLink RX10 85 "JudgedBitsModel" "typed" "I", .constant RX10 59 (-1000001), .methodLink RX10 30 yX10_in, .static yX10_in, .initialized RX10, .code yX10_in cX10_in 3 (some .boolean)] ++ wsX100)
def wsX10_undo : List Cond := .code yX10_undo cX10_undo 1 (some .int) :: ([.fieldLink RX10 17 "JudgedBitsModel" "states" "I", .constant RX10 60 (-1000002), .methodLink RX10 21 yX10_copies, .instanceMethod yX10_copies, .selects RX10 yX10_copies yX10_copies, .initialized RX10, .code yX10_copies cX10_copies 4 none, .fieldLink RX10 7 "JudgedBitsModel" "s" "[I"] ++ wsX100)
def wsX10_type : List Cond := .code yX10_type cX10_type 2 (some .int) :: ([.constant RX10 59 (-1000001), .fieldLink RX10 85 "JudgedBitsModel" "typed" "I", .constant RX10 88 (-1000003), .fieldLink RX10 13 "JudgedBitsModel" "text" "[C", .methodLink RX10 30 yX10_in, .static yX10_in, .initialized RX10, .code yX10_in cX10_in 3 (some .boolean)] ++ wsX100)
def wsX10_clearText : List Cond := .code yX10_clearText cX10_clearText 2 (some .int) :: ([.fieldLink RX10 85 "JudgedBitsModel" "typed" "I"] ++ wsX100)
def wsX10_number : List Cond := .code yX10_number cX10_number 3 (some .int) :: ([.fieldLink RX10 89 "JudgedBitsModel" "at" "I", .fieldLink RX10 85 "JudgedBitsModel" "typed" "I", .fieldLink RX10 13 "JudgedBitsModel" "text" "[C", .methodLink RX10 30 yX10_in, .static yX10_in, .initialized RX10, .code yX10_in cX10_in 3 (some .boolean)] ++ wsX100)
def wsX10_isNext : List Cond := .code yX10_isNext cX10_isNext 3 (some .boolean) :: ([.fieldLink RX10 89 "JudgedBitsModel" "at" "I", .fieldLink RX10 85 "JudgedBitsModel" "typed" "I", .fieldLink RX10 13 "JudgedBitsModel" "text" "[C"] ++ wsX100)
def wsX10_does_r1 : List Cond := [Cond.fieldLink RX10 89 "JudgedBitsModel" "at" "I", Cond.fieldLink RX10 92 "JudgedBitsModel" "begin" "I", Cond.fieldLink RX10 13 "JudgedBitsModel" "text" "[C", Cond.fieldLink RX10 102 "JudgedBitsModel" "reason" "I", Cond.fieldLink RX10 105 "JudgedBitsModel" "cause" "I", Cond.constant RX10 59 (-1000001), Cond.fieldLink RX10 7 "JudgedBitsModel" "s" "[I", Cond.methodLink RX10 95 yX10_number, Cond.instanceMethod yX10_number, Cond.selects RX10 yX10_number yX10_number, Cond.initialized RX10, Cond.code yX10_number cX10_number 3 (some .int), Cond.fieldLink RX10 85 "JudgedBitsModel" "typed" "I", Cond.methodLink RX10 30 yX10_in, Cond.static yX10_in, Cond.code yX10_in cX10_in 3 (some .boolean), Cond.methodLink RX10 99 yX10_isNext, Cond.instanceMethod yX10_isNext, Cond.selects RX10 yX10_isNext yX10_isNext, Cond.code yX10_isNext cX10_isNext 3 (some .boolean), Cond.methodLink RX10 61 yX10_sets, Cond.instanceMethod yX10_sets, Cond.selects RX10 yX10_sets yX10_sets, Cond.code yX10_sets cX10_sets 7 (some .int)]
def wsX10_does_r2 : List Cond := [Cond.methodLink RX10 69 yX10_makes, Cond.instanceMethod yX10_makes, Cond.selects RX10 yX10_makes yX10_makes, Cond.code yX10_makes cX10_makes 6 (some .int), Cond.methodLink RX10 55 yX10_samples, Cond.instanceMethod yX10_samples, Cond.selects RX10 yX10_samples yX10_samples, Cond.code yX10_samples cX10_samples 4 none, Cond.methodLink RX10 34 yX10_runs, Cond.instanceMethod yX10_runs, Cond.selects RX10 yX10_runs yX10_runs, Cond.code yX10_runs cX10_runs 4 none, Cond.methodLink RX10 26 yX10_asks, Cond.instanceMethod yX10_asks, Cond.selects RX10 yX10_asks yX10_asks, Cond.code yX10_asks cX10_asks 2 (some .int), Cond.constant RX10 25 (65537), Cond.methodLink RX10 37 yX10_locks, Cond.instanceMethod yX10_locks, Cond.selects RX10 yX10_locks yX10_locks, Cond.code yX10_locks cX10_locks 3 (some .boolean), Cond.methodLink RX10 41 yX10_isHigh, Cond.instanceMethod yX10_isHigh, Cond.selects RX10 yX10_isHigh yX10_isHigh]
def wsX10_does_r3 : List Cond := [Cond.code yX10_isHigh cX10_isHigh 3 (some .boolean), Cond.methodLink RX10 45 yX10_keeps, Cond.instanceMethod yX10_keeps, Cond.selects RX10 yX10_keeps yX10_keeps, Cond.code yX10_keeps cX10_keeps 4 none, Cond.methodLink RX10 48 yX10_tests, Cond.instanceMethod yX10_tests, Cond.selects RX10 yX10_tests yX10_tests, Cond.code yX10_tests cX10_tests 5 (some .int), Cond.methodLink RX10 52 yX10_takesOne, Cond.instanceMethod yX10_takesOne, Cond.selects RX10 yX10_takesOne yX10_takesOne, Cond.code yX10_takesOne cX10_takesOne 3 none, Cond.methodLink RX10 72 yX10_draws, Cond.instanceMethod yX10_draws, Cond.selects RX10 yX10_draws yX10_draws, Cond.code yX10_draws cX10_draws 6 (some .int), Cond.constant RX10 60 (-1000002), Cond.methodLink RX10 75 yX10_starts, Cond.instanceMethod yX10_starts, Cond.selects RX10 yX10_starts yX10_starts, Cond.code yX10_starts cX10_starts 4 (some .int)]
def wsX10_does : List Cond := .code yX10_does cX10_does 7 (some .boolean) :: ((wsX10_does_r1 ++ (wsX10_does_r2 ++ wsX10_does_r3)) ++ wsX100)
def wsX10_plays_r1 : List Cond := [Cond.fieldLink RX10 89 "JudgedBitsModel" "at" "I", Cond.fieldLink RX10 108 "JudgedBitsModel" "orders" "I", Cond.fieldLink RX10 102 "JudgedBitsModel" "reason" "I", Cond.fieldLink RX10 85 "JudgedBitsModel" "typed" "I", Cond.methodLink RX10 21 yX10_copies, Cond.instanceMethod yX10_copies, Cond.selects RX10 yX10_copies yX10_copies, Cond.initialized RX10, Cond.code yX10_copies cX10_copies 4 none, Cond.fieldLink RX10 7 "JudgedBitsModel" "s" "[I", Cond.methodLink RX10 111 yX10_does, Cond.instanceMethod yX10_does, Cond.selects RX10 yX10_does yX10_does, Cond.code yX10_does cX10_does 7 (some .boolean), Cond.fieldLink RX10 92 "JudgedBitsModel" "begin" "I", Cond.fieldLink RX10 13 "JudgedBitsModel" "text" "[C", Cond.fieldLink RX10 105 "JudgedBitsModel" "cause" "I", Cond.constant RX10 59 (-1000001), Cond.methodLink RX10 95 yX10_number, Cond.instanceMethod yX10_number, Cond.selects RX10 yX10_number yX10_number, Cond.code yX10_number cX10_number 3 (some .int), Cond.methodLink RX10 30 yX10_in, Cond.static yX10_in]
def wsX10_plays_r2 : List Cond := [Cond.code yX10_in cX10_in 3 (some .boolean), Cond.methodLink RX10 99 yX10_isNext, Cond.instanceMethod yX10_isNext, Cond.selects RX10 yX10_isNext yX10_isNext, Cond.code yX10_isNext cX10_isNext 3 (some .boolean), Cond.methodLink RX10 61 yX10_sets, Cond.instanceMethod yX10_sets, Cond.selects RX10 yX10_sets yX10_sets, Cond.code yX10_sets cX10_sets 7 (some .int), Cond.methodLink RX10 69 yX10_makes, Cond.instanceMethod yX10_makes, Cond.selects RX10 yX10_makes yX10_makes, Cond.code yX10_makes cX10_makes 6 (some .int), Cond.methodLink RX10 55 yX10_samples, Cond.instanceMethod yX10_samples, Cond.selects RX10 yX10_samples yX10_samples, Cond.code yX10_samples cX10_samples 4 none, Cond.methodLink RX10 34 yX10_runs, Cond.instanceMethod yX10_runs, Cond.selects RX10 yX10_runs yX10_runs, Cond.code yX10_runs cX10_runs 4 none, Cond.methodLink RX10 26 yX10_asks, Cond.instanceMethod yX10_asks, Cond.selects RX10 yX10_asks yX10_asks]
def wsX10_plays_r3 : List Cond := [Cond.code yX10_asks cX10_asks 2 (some .int), Cond.constant RX10 25 (65537), Cond.methodLink RX10 37 yX10_locks, Cond.instanceMethod yX10_locks, Cond.selects RX10 yX10_locks yX10_locks, Cond.code yX10_locks cX10_locks 3 (some .boolean), Cond.methodLink RX10 41 yX10_isHigh, Cond.instanceMethod yX10_isHigh, Cond.selects RX10 yX10_isHigh yX10_isHigh, Cond.code yX10_isHigh cX10_isHigh 3 (some .boolean), Cond.methodLink RX10 45 yX10_keeps, Cond.instanceMethod yX10_keeps, Cond.selects RX10 yX10_keeps yX10_keeps, Cond.code yX10_keeps cX10_keeps 4 none, Cond.methodLink RX10 48 yX10_tests, Cond.instanceMethod yX10_tests, Cond.selects RX10 yX10_tests yX10_tests, Cond.code yX10_tests cX10_tests 5 (some .int), Cond.methodLink RX10 52 yX10_takesOne, Cond.instanceMethod yX10_takesOne, Cond.selects RX10 yX10_takesOne yX10_takesOne, Cond.code yX10_takesOne cX10_takesOne 3 none, Cond.methodLink RX10 72 yX10_draws, Cond.instanceMethod yX10_draws]
def wsX10_plays_r4 : List Cond := [Cond.selects RX10 yX10_draws yX10_draws, Cond.code yX10_draws cX10_draws 6 (some .int), Cond.constant RX10 60 (-1000002), Cond.methodLink RX10 75 yX10_starts, Cond.instanceMethod yX10_starts, Cond.selects RX10 yX10_starts yX10_starts, Cond.code yX10_starts cX10_starts 4 (some .int)]
def wsX10_plays : List Cond := .code yX10_plays cX10_plays 2 (some .boolean) :: ((wsX10_plays_r1 ++ (wsX10_plays_r2 ++ (wsX10_plays_r3 ++ wsX10_plays_r4))) ++ wsX100)
def wsX10_fault_r1 : List Cond := [Cond.constant RX10 59 (-1000001), Cond.constant RX10 78 (-1000004), Cond.fieldLink RX10 92 "JudgedBitsModel" "begin" "I", Cond.fieldLink RX10 102 "JudgedBitsModel" "reason" "I", Cond.fieldLink RX10 105 "JudgedBitsModel" "cause" "I", Cond.methodLink RX10 30 yX10_in, Cond.static yX10_in, Cond.initialized RX10, Cond.code yX10_in cX10_in 3 (some .boolean), Cond.methodLink RX10 115 yX10_plays, Cond.instanceMethod yX10_plays, Cond.selects RX10 yX10_plays yX10_plays, Cond.code yX10_plays cX10_plays 2 (some .boolean), Cond.fieldLink RX10 89 "JudgedBitsModel" "at" "I", Cond.fieldLink RX10 108 "JudgedBitsModel" "orders" "I", Cond.fieldLink RX10 85 "JudgedBitsModel" "typed" "I", Cond.methodLink RX10 21 yX10_copies, Cond.instanceMethod yX10_copies, Cond.selects RX10 yX10_copies yX10_copies, Cond.code yX10_copies cX10_copies 4 none, Cond.fieldLink RX10 7 "JudgedBitsModel" "s" "[I", Cond.methodLink RX10 111 yX10_does, Cond.instanceMethod yX10_does, Cond.selects RX10 yX10_does yX10_does]
def wsX10_fault_r2 : List Cond := [Cond.code yX10_does cX10_does 7 (some .boolean), Cond.fieldLink RX10 13 "JudgedBitsModel" "text" "[C", Cond.methodLink RX10 95 yX10_number, Cond.instanceMethod yX10_number, Cond.selects RX10 yX10_number yX10_number, Cond.code yX10_number cX10_number 3 (some .int), Cond.methodLink RX10 99 yX10_isNext, Cond.instanceMethod yX10_isNext, Cond.selects RX10 yX10_isNext yX10_isNext, Cond.code yX10_isNext cX10_isNext 3 (some .boolean), Cond.methodLink RX10 61 yX10_sets, Cond.instanceMethod yX10_sets, Cond.selects RX10 yX10_sets yX10_sets, Cond.code yX10_sets cX10_sets 7 (some .int), Cond.methodLink RX10 69 yX10_makes, Cond.instanceMethod yX10_makes, Cond.selects RX10 yX10_makes yX10_makes, Cond.code yX10_makes cX10_makes 6 (some .int), Cond.methodLink RX10 55 yX10_samples, Cond.instanceMethod yX10_samples, Cond.selects RX10 yX10_samples yX10_samples, Cond.code yX10_samples cX10_samples 4 none, Cond.methodLink RX10 34 yX10_runs, Cond.instanceMethod yX10_runs]
def wsX10_fault_r3 : List Cond := [Cond.selects RX10 yX10_runs yX10_runs, Cond.code yX10_runs cX10_runs 4 none, Cond.methodLink RX10 26 yX10_asks, Cond.instanceMethod yX10_asks, Cond.selects RX10 yX10_asks yX10_asks, Cond.code yX10_asks cX10_asks 2 (some .int), Cond.constant RX10 25 (65537), Cond.methodLink RX10 37 yX10_locks, Cond.instanceMethod yX10_locks, Cond.selects RX10 yX10_locks yX10_locks, Cond.code yX10_locks cX10_locks 3 (some .boolean), Cond.methodLink RX10 41 yX10_isHigh, Cond.instanceMethod yX10_isHigh, Cond.selects RX10 yX10_isHigh yX10_isHigh, Cond.code yX10_isHigh cX10_isHigh 3 (some .boolean), Cond.methodLink RX10 45 yX10_keeps, Cond.instanceMethod yX10_keeps, Cond.selects RX10 yX10_keeps yX10_keeps, Cond.code yX10_keeps cX10_keeps 4 none, Cond.methodLink RX10 48 yX10_tests, Cond.instanceMethod yX10_tests, Cond.selects RX10 yX10_tests yX10_tests, Cond.code yX10_tests cX10_tests 5 (some .int), Cond.methodLink RX10 52 yX10_takesOne]
def wsX10_fault_r4 : List Cond := [Cond.instanceMethod yX10_takesOne, Cond.selects RX10 yX10_takesOne yX10_takesOne, Cond.code yX10_takesOne cX10_takesOne 3 none, Cond.methodLink RX10 72 yX10_draws, Cond.instanceMethod yX10_draws, Cond.selects RX10 yX10_draws yX10_draws, Cond.code yX10_draws cX10_draws 6 (some .int), Cond.constant RX10 60 (-1000002), Cond.methodLink RX10 75 yX10_starts, Cond.instanceMethod yX10_starts, Cond.selects RX10 yX10_starts yX10_starts, Cond.code yX10_starts cX10_starts 4 (some .int)]
def wsX10_fault : List Cond := .code yX10_fault cX10_fault 2 (some .int) :: ((wsX10_fault_r1 ++ (wsX10_fault_r2 ++ (wsX10_fault_r3 ++ wsX10_fault_r4))) ++ wsX100)
def wsX10_play_r1 : List Cond := [Cond.constant RX10 60 (-1000002), Cond.fieldLink RX10 108 "JudgedBitsModel" "orders" "I", Cond.methodLink RX10 115 yX10_plays, Cond.instanceMethod yX10_plays, Cond.selects RX10 yX10_plays yX10_plays, Cond.initialized RX10, Cond.code yX10_plays cX10_plays 2 (some .boolean), Cond.fieldLink RX10 89 "JudgedBitsModel" "at" "I", Cond.fieldLink RX10 102 "JudgedBitsModel" "reason" "I", Cond.fieldLink RX10 85 "JudgedBitsModel" "typed" "I", Cond.methodLink RX10 21 yX10_copies, Cond.instanceMethod yX10_copies, Cond.selects RX10 yX10_copies yX10_copies, Cond.code yX10_copies cX10_copies 4 none, Cond.fieldLink RX10 7 "JudgedBitsModel" "s" "[I", Cond.methodLink RX10 111 yX10_does, Cond.instanceMethod yX10_does, Cond.selects RX10 yX10_does yX10_does, Cond.code yX10_does cX10_does 7 (some .boolean), Cond.fieldLink RX10 92 "JudgedBitsModel" "begin" "I", Cond.fieldLink RX10 13 "JudgedBitsModel" "text" "[C", Cond.fieldLink RX10 105 "JudgedBitsModel" "cause" "I", Cond.constant RX10 59 (-1000001), Cond.methodLink RX10 95 yX10_number]
def wsX10_play_r2 : List Cond := [Cond.instanceMethod yX10_number, Cond.selects RX10 yX10_number yX10_number, Cond.code yX10_number cX10_number 3 (some .int), Cond.methodLink RX10 30 yX10_in, Cond.static yX10_in, Cond.code yX10_in cX10_in 3 (some .boolean), Cond.methodLink RX10 99 yX10_isNext, Cond.instanceMethod yX10_isNext, Cond.selects RX10 yX10_isNext yX10_isNext, Cond.code yX10_isNext cX10_isNext 3 (some .boolean), Cond.methodLink RX10 61 yX10_sets, Cond.instanceMethod yX10_sets, Cond.selects RX10 yX10_sets yX10_sets, Cond.code yX10_sets cX10_sets 7 (some .int), Cond.methodLink RX10 69 yX10_makes, Cond.instanceMethod yX10_makes, Cond.selects RX10 yX10_makes yX10_makes, Cond.code yX10_makes cX10_makes 6 (some .int), Cond.methodLink RX10 55 yX10_samples, Cond.instanceMethod yX10_samples, Cond.selects RX10 yX10_samples yX10_samples, Cond.code yX10_samples cX10_samples 4 none, Cond.methodLink RX10 34 yX10_runs, Cond.instanceMethod yX10_runs]
def wsX10_play_r3 : List Cond := [Cond.selects RX10 yX10_runs yX10_runs, Cond.code yX10_runs cX10_runs 4 none, Cond.methodLink RX10 26 yX10_asks, Cond.instanceMethod yX10_asks, Cond.selects RX10 yX10_asks yX10_asks, Cond.code yX10_asks cX10_asks 2 (some .int), Cond.constant RX10 25 (65537), Cond.methodLink RX10 37 yX10_locks, Cond.instanceMethod yX10_locks, Cond.selects RX10 yX10_locks yX10_locks, Cond.code yX10_locks cX10_locks 3 (some .boolean), Cond.methodLink RX10 41 yX10_isHigh, Cond.instanceMethod yX10_isHigh, Cond.selects RX10 yX10_isHigh yX10_isHigh, Cond.code yX10_isHigh cX10_isHigh 3 (some .boolean), Cond.methodLink RX10 45 yX10_keeps, Cond.instanceMethod yX10_keeps, Cond.selects RX10 yX10_keeps yX10_keeps, Cond.code yX10_keeps cX10_keeps 4 none, Cond.methodLink RX10 48 yX10_tests, Cond.instanceMethod yX10_tests, Cond.selects RX10 yX10_tests yX10_tests, Cond.code yX10_tests cX10_tests 5 (some .int), Cond.methodLink RX10 52 yX10_takesOne]
def wsX10_play_r4 : List Cond := [Cond.instanceMethod yX10_takesOne, Cond.selects RX10 yX10_takesOne yX10_takesOne, Cond.code yX10_takesOne cX10_takesOne 3 none, Cond.methodLink RX10 72 yX10_draws, Cond.instanceMethod yX10_draws, Cond.selects RX10 yX10_draws yX10_draws, Cond.code yX10_draws cX10_draws 6 (some .int), Cond.methodLink RX10 75 yX10_starts, Cond.instanceMethod yX10_starts, Cond.selects RX10 yX10_starts yX10_starts, Cond.code yX10_starts cX10_starts 4 (some .int), Cond.methodLink RX10 65 yX10_records, Cond.instanceMethod yX10_records, Cond.selects RX10 yX10_records yX10_records, Cond.code yX10_records cX10_records 2 none, Cond.fieldLink RX10 17 "JudgedBitsModel" "states" "I"]
def wsX10_play : List Cond := .code yX10_play cX10_play 1 (some .int) :: ((wsX10_play_r1 ++ (wsX10_play_r2 ++ (wsX10_play_r3 ++ wsX10_play_r4))) ++ wsX100)
def wsJ9_abs_0f7a4 : List Cond := .code yJ9_abs_0f7a4 cJ9_abs_0f7a4 1 (some .int) :: ([])
def wsJ9_max_7cf53 : List Cond := .code yJ9_max_7cf53 cJ9_max_7cf53 2 (some .int) :: ([])
def wsJ9_min_7cf53 : List Cond := .code yJ9_min_7cf53 cJ9_min_7cf53 2 (some .int) :: ([])
def wsL_law_r1 : List Cond := [Cond.classLink RL 7 RX9, Cond.instantiable RX9 4, Cond.initialized RX9, Cond.classLink RL 10 RX10, Cond.instantiable RX10 9, Cond.initialized RX10, Cond.methodLink RL 9 yX9_init, Cond.instanceMethod yX9_init, Cond.code yX9_init cX9_init 1 none, Cond.methodLink RX9 1 objectInit, Cond.instanceMethod objectInit, Cond.code objectInit ⟨#[0xb1]⟩ 1 none, Cond.classLink RX9 7 RX6, Cond.instantiable RX6 9, Cond.initialized RX6, Cond.fieldLink RX9 10 "JudgedBits" "now" "LJudgedBits$Source;", Cond.fieldLink RX9 16 "JudgedBits" "trial" "LJudgedBits$Source;", Cond.classLink RX9 19 RX2, Cond.instantiable RX2 5, Cond.initialized RX2, Cond.fieldLink RX9 22 "JudgedBits" "history" "LJudgedBits$History;", Cond.classLink RX9 26 RX3, Cond.instantiable RX3 10, Cond.initialized RX3]
def wsL_law_r2 : List Cond := [Cond.fieldLink RX9 29 "JudgedBits" "orders" "LJudgedBits$Orders;", Cond.methodLink RX9 9 yX6_init, Cond.instanceMethod yX6_init, Cond.code yX6_init cX6_init 1 none, Cond.methodLink RX6 3 objectInit, Cond.fieldLink RX6 9 "JudgedBits$Source" "noiseNumber" "I", Cond.fieldLink RX6 15 "JudgedBits$Source" "waiting" "I", Cond.classLink RX6 18 RX4, Cond.instantiable RX4 3, Cond.initialized RX4, Cond.fieldLink RX6 23 "JudgedBits$Source" "ringZero" "LJudgedBits$Ring;", Cond.fieldLink RX6 27 "JudgedBits$Source" "ringOne" "LJudgedBits$Ring;", Cond.classLink RX6 30 RX5, Cond.instantiable RX5 4, Cond.initialized RX5, Cond.fieldLink RX6 33 "JudgedBits$Source" "settings" "LJudgedBits$Settings;", Cond.classLink RX6 37 RX1, Cond.instantiable RX1 7, Cond.initialized RX1, Cond.fieldLink RX6 40 "JudgedBits$Source" "health" "LJudgedBits$Health;", Cond.classLink RX6 44 RX0, Cond.instantiable RX0 2, Cond.initialized RX0, Cond.fieldLink RX6 47 "JudgedBits$Source" "rawBits" "LJudgedBits$BitRow;"]
def wsL_law_r3 : List Cond := [Cond.fieldLink RX6 51 "JudgedBits$Source" "store" "LJudgedBits$BitRow;", Cond.classLink RX6 54 RX7, Cond.instantiable RX7 8, Cond.initialized RX7, Cond.fieldLink RX6 57 "JudgedBits$Source" "tally" "LJudgedBits$Tally;", Cond.methodLink RX6 20 yX4_init, Cond.instanceMethod yX4_init, Cond.code yX4_init cX4_init 2 none, Cond.methodLink RX4 3 objectInit, Cond.fieldLink RX4 9 "JudgedBits$Ring" "jitter" "I", Cond.fieldLink RX4 15 "JudgedBits$Ring" "phase" "I", Cond.fieldLink RX4 18 "JudgedBits$Ring" "period" "I", Cond.instanceMethod yX5_init, Cond.code yX5_init cX5_init 1 none, Cond.methodLink RX5 3 objectInit, Cond.fieldLink RX5 9 "JudgedBits$Settings" "step" "I", Cond.fieldLink RX5 15 "JudgedBits$Settings" "lock" "I", Cond.fieldLink RX5 18 "JudgedBits$Settings" "longestRun" "I", Cond.fieldLink RX5 21 "JudgedBits$Settings" "leastOnes" "I", Cond.instanceMethod yX1_init, Cond.code yX1_init cX1_init 1 none, Cond.methodLink RX1 1 objectInit, Cond.fieldLink RX1 9 "JudgedBits$Health" "mode" "I", Cond.fieldLink RX1 13 "JudgedBits$Health" "failedTest" "I"]
def wsL_law_r4 : List Cond := [Cond.fieldLink RX1 16 "JudgedBits$Health" "startUpBits" "I", Cond.fieldLink RX1 19 "JudgedBits$Health" "run" "I", Cond.fieldLink RX1 22 "JudgedBits$Health" "runBit" "I", Cond.fieldLink RX1 25 "JudgedBits$Health" "windowBits" "I", Cond.fieldLink RX1 28 "JudgedBits$Health" "windowOnes" "I", Cond.instanceMethod yX0_init, Cond.code yX0_init cX0_init 1 none, Cond.methodLink RX0 1 objectInit, Cond.fieldLink RX0 7 "JudgedBits$BitRow" "bits" "J", Cond.fieldLink RX0 13 "JudgedBits$BitRow" "size" "I", Cond.instanceMethod yX7_init, Cond.code yX7_init cX7_init 1 none, Cond.methodLink RX7 3 objectInit, Cond.fieldLink RX7 9 "JudgedBits$Tally" "samples" "I", Cond.fieldLink RX7 15 "JudgedBits$Tally" "ones" "I", Cond.fieldLink RX7 18 "JudgedBits$Tally" "leftOut" "I", Cond.fieldLink RX7 21 "JudgedBits$Tally" "stored" "I", Cond.fieldLink RX7 24 "JudgedBits$Tally" "lost" "I", Cond.fieldLink RX7 27 "JudgedBits$Tally" "drawn" "I", Cond.fieldLink RX7 30 "JudgedBits$Tally" "alarms" "I", Cond.fieldLink RX7 33 "JudgedBits$Tally" "longestRun" "I", Cond.methodLink RX9 21 yX2_init, Cond.instanceMethod yX2_init, Cond.code yX2_init cX2_init 1 none]
def wsL_law_r5 : List Cond := [Cond.methodLink RX2 3 objectInit, Cond.fieldLink RX2 9 "JudgedBits$History" "many" "I", Cond.classLink RX2 15 RX6, Cond.fieldLink RX2 18 "JudgedBits$History" "latest" "LJudgedBits$Source;", Cond.fieldLink RX2 22 "JudgedBits$History" "second" "LJudgedBits$Source;", Cond.fieldLink RX2 25 "JudgedBits$History" "third" "LJudgedBits$Source;", Cond.fieldLink RX2 28 "JudgedBits$History" "fourth" "LJudgedBits$Source;", Cond.methodLink RX2 17 yX6_init, Cond.methodLink RX9 28 yX3_init, Cond.instanceMethod yX3_init, Cond.code yX3_init cX3_init 1 none, Cond.methodLink RX3 1 objectInit, Cond.fieldLink RX3 7 "JudgedBits$Orders" "start" "I", Cond.fieldLink RX3 13 "JudgedBits$Orders" "place" "I", Cond.fieldLink RX3 16 "JudgedBits$Orders" "done" "I", Cond.fieldLink RX3 19 "JudgedBits$Orders" "reason" "I", Cond.fieldLink RX3 22 "JudgedBits$Orders" "cause" "I", Cond.fieldLink RX3 27 "JudgedBits$Orders" "kind" "I", Cond.fieldLink RX3 30 "JudgedBits$Orders" "number" "I", Cond.fieldLink RX3 33 "JudgedBits$Orders" "first" "I", Cond.fieldLink RX3 36 "JudgedBits$Orders" "second" "I", Cond.classLink RX3 25 RX8, Cond.instantiable RX8 2, Cond.initialized RX8]
def wsL_law_r6 : List Cond := [Cond.fieldLink RX3 40 "JudgedBits$Orders" "text" "LJudgedBits$Text;", Cond.instanceMethod yX8_init, Cond.code yX8_init cX8_init 1 none, Cond.methodLink RX8 3 objectInit, Cond.arrayClass .char, Cond.fieldLink RX8 11 "JudgedBits$Text" "characters" "[C", Cond.fieldLink RX8 15 "JudgedBits$Text" "length" "I", Cond.methodLink RL 12 yX10_init, Cond.instanceMethod yX10_init, Cond.code yX10_init cX10_init 1 none, Cond.methodLink RX10 1 objectInit, Cond.arrayClass .int, Cond.fieldLink RX10 7 "JudgedBitsModel" "s" "[I", Cond.fieldLink RX10 13 "JudgedBitsModel" "text" "[C", Cond.methodLink RL 13 yX9_ring, Cond.instanceMethod yX9_ring, Cond.selects RX9 yX9_ring yX9_ring, Cond.code yX9_ring cX9_ring 4 (some .int), Cond.methodLink RX9 33 yX6_copyFrom, Cond.instanceMethod yX6_copyFrom, Cond.selects RX6 yX6_copyFrom yX6_copyFrom, Cond.code yX6_copyFrom cX6_copyFrom 2 none, Cond.methodLink RX6 61 yX4_copyFrom, Cond.instanceMethod yX4_copyFrom]
def wsL_law_r7 : List Cond := [Cond.selects RX4 yX4_copyFrom yX4_copyFrom, Cond.code yX4_copyFrom cX4_copyFrom 2 none, Cond.methodLink RX6 65 yX5_copyFrom, Cond.instanceMethod yX5_copyFrom, Cond.selects RX5 yX5_copyFrom yX5_copyFrom, Cond.code yX5_copyFrom cX5_copyFrom 2 none, Cond.methodLink RX6 68 yX1_copyFrom, Cond.instanceMethod yX1_copyFrom, Cond.selects RX1 yX1_copyFrom yX1_copyFrom, Cond.code yX1_copyFrom cX1_copyFrom 2 none, Cond.methodLink RX6 71 yX0_copyFrom, Cond.instanceMethod yX0_copyFrom, Cond.selects RX0 yX0_copyFrom yX0_copyFrom, Cond.code yX0_copyFrom cX0_copyFrom 2 none, Cond.methodLink RX6 74 yX7_copyFrom, Cond.instanceMethod yX7_copyFrom, Cond.selects RX7 yX7_copyFrom yX7_copyFrom, Cond.code yX7_copyFrom cX7_copyFrom 2 none, Cond.methodLink RX9 37 yX6_changeRing, Cond.instanceMethod yX6_changeRing, Cond.selects RX6 yX6_changeRing yX6_changeRing, Cond.code yX6_changeRing cX6_changeRing 6 (some .int), Cond.constant RX6 81 (-1000001), Cond.fieldLink RX6 86 "JudgedBits$Ring" "period" "I"]
def wsL_law_r8 : List Cond := [Cond.fieldLink RX6 89 "JudgedBits$Ring" "jitter" "I", Cond.fieldLink RX6 92 "JudgedBits$Ring" "phase" "I", Cond.static yX9_isWithin, Cond.code yX9_isWithin cX9_isWithin 3 (some .boolean), Cond.methodLink RX6 82 yX6_ringAt, Cond.instanceMethod yX6_ringAt, Cond.selects RX6 yX6_ringAt yX6_ringAt, Cond.code yX6_ringAt cX6_ringAt 2 (some (.object "JudgedBits$Ring")), Cond.methodLink RX9 41 yX9_settle, Cond.instanceMethod yX9_settle, Cond.selects RX9 yX9_settle yX9_settle, Cond.code yX9_settle cX9_settle 2 (some .int), Cond.methodLink RX9 172 yX2_keep, Cond.instanceMethod yX2_keep, Cond.selects RX2 yX2_keep yX2_keep, Cond.code yX2_keep cX2_keep 2 none, Cond.methodLink RX2 31 yX6_copyFrom, Cond.methodLink RL 17 yX10_ring, Cond.instanceMethod yX10_ring, Cond.selects RX10 yX10_ring yX10_ring, Cond.code yX10_ring cX10_ring 5 (some .int), Cond.methodLink RX10 21 yX10_copies, Cond.instanceMethod yX10_copies, Cond.selects RX10 yX10_copies yX10_copies]
def wsL_law_r9 : List Cond := [Cond.code yX10_copies cX10_copies 4 none, Cond.methodLink RX10 61 yX10_sets, Cond.instanceMethod yX10_sets, Cond.selects RX10 yX10_sets yX10_sets, Cond.code yX10_sets cX10_sets 7 (some .int), Cond.constant RX10 59 (-1000001), Cond.methodLink RX10 30 yX10_in, Cond.static yX10_in, Cond.code yX10_in cX10_in 3 (some .boolean), Cond.methodLink RX10 65 yX10_records, Cond.instanceMethod yX10_records, Cond.selects RX10 yX10_records yX10_records, Cond.code yX10_records cX10_records 2 none, Cond.fieldLink RX10 17 "JudgedBitsModel" "states" "I", Cond.methodLink RL 18 yX9_noise, Cond.instanceMethod yX9_noise, Cond.selects RX9 yX9_noise yX9_noise, Cond.code yX9_noise cX9_noise 2 (some .int), Cond.methodLink RX9 45 yX6_changeNoise, Cond.instanceMethod yX6_changeNoise, Cond.selects RX6 yX6_changeNoise yX6_changeNoise, Cond.code yX6_changeNoise cX6_changeNoise 3 (some .int), Cond.constant RX6 95 (65536), Cond.methodLink RL 22 yX10_noise]
def wsL_law_r10 : List Cond := [Cond.instanceMethod yX10_noise, Cond.selects RX10 yX10_noise yX10_noise, Cond.code yX10_noise cX10_noise 3 (some .int), Cond.constant RX10 68 (65536), Cond.methodLink RL 23 yX9_sample, Cond.instanceMethod yX9_sample, Cond.selects RX9 yX9_sample yX9_sample, Cond.code yX9_sample cX9_sample 2 (some .int), Cond.methodLink RX9 48 yX6_makeSamples, Cond.instanceMethod yX6_makeSamples, Cond.selects RX6 yX6_makeSamples yX6_makeSamples, Cond.code yX6_makeSamples cX6_makeSamples 4 (some .int), Cond.fieldLink RX6 96 "JudgedBits$Tally" "stored" "I", Cond.methodLink RX6 99 yX6_nextRawBit, Cond.instanceMethod yX6_nextRawBit, Cond.selects RX6 yX6_nextRawBit yX6_nextRawBit, Cond.code yX6_nextRawBit cX6_nextRawBit 1 (some .int), Cond.fieldLink RX6 126 "JudgedBits$Settings" "step" "I", Cond.methodLink RX6 129 yX6_nextNoise, Cond.instanceMethod yX6_nextNoise, Cond.selects RX6 yX6_nextNoise yX6_nextNoise, Cond.code yX6_nextNoise cX6_nextNoise 1 (some .int), Cond.constant RX6 154 (65537), Cond.methodLink RX6 132 yX4_advance]
def wsL_law_r11 : List Cond := [Cond.instanceMethod yX4_advance, Cond.selects RX4 yX4_advance yX4_advance, Cond.code yX4_advance cX4_advance 3 none, Cond.static yX9_remainder, Cond.code yX9_remainder cX9_remainder 2 (some .int), Cond.methodLink RX6 136 yX6_locksOn, Cond.instanceMethod yX6_locksOn, Cond.selects RX6 yX6_locksOn yX6_locksOn, Cond.code yX6_locksOn cX6_locksOn 1 (some .boolean), Cond.methodLink RX6 146 Lib.Math.abs.name, Cond.static Lib.Math.abs.name, Cond.initialized "java/lang/Math", Cond.code Lib.Math.abs.name Lib.Math.abs.code 1 (some .int), Cond.fieldLink RX6 151 "JudgedBits$Settings" "lock" "I", Cond.methodLink RX6 140 yX4_lockOn, Cond.instanceMethod yX4_lockOn, Cond.selects RX4 yX4_lockOn yX4_lockOn, Cond.code yX4_lockOn cX4_lockOn 2 none, Cond.methodLink RX6 143 yX4_isHigh, Cond.instanceMethod yX4_isHigh, Cond.selects RX4 yX4_isHigh yX4_isHigh, Cond.code yX4_isHigh cX4_isHigh 1 (some .boolean), Cond.methodLink RX6 103 yX6_takeRawBit, Cond.instanceMethod yX6_takeRawBit]
def wsL_law_r12 : List Cond := [Cond.selects RX6 yX6_takeRawBit yX6_takeRawBit, Cond.code yX6_takeRawBit cX6_takeRawBit 3 none, Cond.fieldLink RX6 158 "JudgedBits$Tally" "samples" "I", Cond.fieldLink RX6 161 "JudgedBits$Tally" "ones" "I", Cond.fieldLink RX6 109 "JudgedBits$Health" "mode" "I", Cond.fieldLink RX6 168 "JudgedBits$Tally" "longestRun" "I", Cond.fieldLink RX6 171 "JudgedBits$Health" "run" "I", Cond.methodLink RX6 174 Lib.Math.max.name, Cond.static Lib.Math.max.name, Cond.code Lib.Math.max.name Lib.Math.max.code 2 (some .int), Cond.fieldLink RX6 178 "JudgedBits$Tally" "alarms" "I", Cond.methodLink RX6 155 yX0_append, Cond.instanceMethod yX0_append, Cond.selects RX0 yX0_append yX0_append, Cond.code yX0_append cX0_append 2 none, Cond.methodLink RX6 164 yX1_judge, Cond.instanceMethod yX1_judge, Cond.selects RX1 yX1_judge yX1_judge, Cond.code yX1_judge cX1_judge 4 none, Cond.fieldLink RX1 35 "JudgedBits$Settings" "leastOnes" "I", Cond.fieldLink RX1 44 "JudgedBits$Settings" "longestRun" "I", Cond.methodLink RX1 31 yX1_countInRun, Cond.instanceMethod yX1_countInRun, Cond.selects RX1 yX1_countInRun yX1_countInRun]
def wsL_law_r13 : List Cond := [Cond.code yX1_countInRun cX1_countInRun 2 none, Cond.methodLink RX1 40 yX1_failsShare, Cond.instanceMethod yX1_failsShare, Cond.selects RX1 yX1_failsShare yX1_failsShare, Cond.code yX1_failsShare cX1_failsShare 4 (some .boolean), Cond.methodLink RX1 47 yX1_bringAlarm, Cond.instanceMethod yX1_bringAlarm, Cond.selects RX1 yX1_bringAlarm yX1_bringAlarm, Cond.code yX1_bringAlarm cX1_bringAlarm 2 none, Cond.methodLink RX1 50 yX1_countInStartUp, Cond.instanceMethod yX1_countInStartUp, Cond.selects RX1 yX1_countInStartUp yX1_countInStartUp, Cond.code yX1_countInStartUp cX1_countInStartUp 1 none, Cond.methodLink RX6 181 yX6_pairUp, Cond.instanceMethod yX6_pairUp, Cond.selects RX6 yX6_pairUp yX6_pairUp, Cond.code yX6_pairUp cX6_pairUp 3 none, Cond.fieldLink RX6 184 "JudgedBits$Tally" "leftOut" "I", Cond.fieldLink RX6 190 "JudgedBits$Tally" "lost" "I", Cond.methodLink RX6 187 yX0_isFull, Cond.instanceMethod yX0_isFull, Cond.selects RX0 yX0_isFull yX0_isFull, Cond.code yX0_isFull cX0_isFull 1 (some .boolean), Cond.methodLink RL 26 yX10_sample]
def wsL_law_r14 : List Cond := [Cond.instanceMethod yX10_sample, Cond.selects RX10 yX10_sample yX10_sample, Cond.code yX10_sample cX10_sample 2 (some .int), Cond.methodLink RX10 69 yX10_makes, Cond.instanceMethod yX10_makes, Cond.selects RX10 yX10_makes yX10_makes, Cond.code yX10_makes cX10_makes 6 (some .int), Cond.methodLink RX10 55 yX10_samples, Cond.instanceMethod yX10_samples, Cond.selects RX10 yX10_samples yX10_samples, Cond.code yX10_samples cX10_samples 4 none, Cond.methodLink RX10 34 yX10_runs, Cond.instanceMethod yX10_runs, Cond.selects RX10 yX10_runs yX10_runs, Cond.code yX10_runs cX10_runs 4 none, Cond.methodLink RX10 26 yX10_asks, Cond.instanceMethod yX10_asks, Cond.selects RX10 yX10_asks yX10_asks, Cond.code yX10_asks cX10_asks 2 (some .int), Cond.constant RX10 25 (65537), Cond.methodLink RX10 37 yX10_locks, Cond.instanceMethod yX10_locks, Cond.selects RX10 yX10_locks yX10_locks, Cond.code yX10_locks cX10_locks 3 (some .boolean)]
def wsL_law_r15 : List Cond := [Cond.methodLink RX10 41 yX10_isHigh, Cond.instanceMethod yX10_isHigh, Cond.selects RX10 yX10_isHigh yX10_isHigh, Cond.code yX10_isHigh cX10_isHigh 3 (some .boolean), Cond.methodLink RX10 45 yX10_keeps, Cond.instanceMethod yX10_keeps, Cond.selects RX10 yX10_keeps yX10_keeps, Cond.code yX10_keeps cX10_keeps 4 none, Cond.methodLink RX10 48 yX10_tests, Cond.instanceMethod yX10_tests, Cond.selects RX10 yX10_tests yX10_tests, Cond.code yX10_tests cX10_tests 5 (some .int), Cond.methodLink RX10 52 yX10_takesOne, Cond.instanceMethod yX10_takesOne, Cond.selects RX10 yX10_takesOne yX10_takesOne, Cond.code yX10_takesOne cX10_takesOne 3 none, Cond.methodLink RL 27 yX9_draw, Cond.instanceMethod yX9_draw, Cond.selects RX9 yX9_draw yX9_draw, Cond.code yX9_draw cX9_draw 2 (some .int), Cond.methodLink RX9 51 yX6_drawBits, Cond.instanceMethod yX6_drawBits, Cond.selects RX6 yX6_drawBits yX6_drawBits, Cond.code yX6_drawBits cX6_drawBits 2 (some .int)]
def wsL_law_r16 : List Cond := [Cond.fieldLink RX6 106 "JudgedBits$BitRow" "size" "I", Cond.constant RX6 112 (-1000002), Cond.fieldLink RX6 113 "JudgedBits$Tally" "drawn" "I", Cond.methodLink RX6 116 yX0_takeEarliest, Cond.instanceMethod yX0_takeEarliest, Cond.selects RX0 yX0_takeEarliest yX0_takeEarliest, Cond.code yX0_takeEarliest cX0_takeEarliest 4 (some .int), Cond.methodLink RL 30 yX10_draw, Cond.instanceMethod yX10_draw, Cond.selects RX10 yX10_draw yX10_draw, Cond.code yX10_draw cX10_draw 3 (some .int), Cond.methodLink RX10 72 yX10_draws, Cond.instanceMethod yX10_draws, Cond.selects RX10 yX10_draws yX10_draws, Cond.code yX10_draws cX10_draws 6 (some .int), Cond.constant RX10 60 (-1000002), Cond.methodLink RL 31 yX9_restart, Cond.instanceMethod yX9_restart, Cond.selects RX9 yX9_restart yX9_restart, Cond.code yX9_restart cX9_restart 1 (some .int), Cond.methodLink RX9 54 yX6_startAnew, Cond.instanceMethod yX6_startAnew, Cond.selects RX6 yX6_startAnew yX6_startAnew, Cond.code yX6_startAnew cX6_startAnew 2 (some .int)]
def wsL_law_r17 : List Cond := [Cond.methodLink RX6 120 yX0_clear, Cond.instanceMethod yX0_clear, Cond.selects RX0 yX0_clear yX0_clear, Cond.code yX0_clear cX0_clear 1 none, Cond.methodLink RX6 123 yX1_startAnew, Cond.instanceMethod yX1_startAnew, Cond.selects RX1 yX1_startAnew yX1_startAnew, Cond.code yX1_startAnew cX1_startAnew 1 none, Cond.methodLink RL 35 yX10_restart, Cond.instanceMethod yX10_restart, Cond.selects RX10 yX10_restart yX10_restart, Cond.code yX10_restart cX10_restart 1 (some .int), Cond.methodLink RX10 75 yX10_starts, Cond.instanceMethod yX10_starts, Cond.selects RX10 yX10_starts yX10_starts, Cond.code yX10_starts cX10_starts 4 (some .int), Cond.methodLink RL 36 yX9_set, Cond.instanceMethod yX9_set, Cond.selects RX9 yX9_set yX9_set, Cond.code yX9_set cX9_set 3 (some .int), Cond.fieldLink RX9 58 "JudgedBits$Source" "settings" "LJudgedBits$Settings;", Cond.methodLink RX9 62 yX5_change, Cond.instanceMethod yX5_change, Cond.selects RX5 yX5_change yX5_change]
def wsL_law_r18 : List Cond := [Cond.code yX5_change cX5_change 4 (some .int), Cond.constant RX5 24 (-1000001), Cond.methodLink RX5 25 yX5_isAllowed, Cond.static yX5_isAllowed, Cond.code yX5_isAllowed cX5_isAllowed 2 (some .boolean), Cond.methodLink RX5 29 yX5_tell, Cond.instanceMethod yX5_tell, Cond.selects RX5 yX5_tell yX5_tell, Cond.code yX5_tell cX5_tell 2 (some .int), Cond.methodLink RL 40 yX10_set, Cond.instanceMethod yX10_set, Cond.selects RX10 yX10_set yX10_set, Cond.code yX10_set cX10_set 5 (some .int), Cond.methodLink RL 41 yX9_ringOf, Cond.instanceMethod yX9_ringOf, Cond.selects RX9 yX9_ringOf yX9_ringOf, Cond.code yX9_ringOf cX9_ringOf 3 (some .int), Cond.constant RX9 72 (-1000001), Cond.methodLink RX9 68 yX9_isWithin, Cond.methodLink RX9 73 yX6_ringAt, Cond.methodLink RX9 77 yX4_tell, Cond.instanceMethod yX4_tell, Cond.selects RX4 yX4_tell yX4_tell, Cond.code yX4_tell cX4_tell 2 (some .int)]
def wsL_law_r19 : List Cond := [Cond.constant RX4 29 (-1000001), Cond.methodLink RX4 25 yX4_isHigh, Cond.methodLink RL 44 yX10_ringOf, Cond.instanceMethod yX10_ringOf, Cond.selects RX10 yX10_ringOf yX10_ringOf, Cond.code yX10_ringOf cX10_ringOf 3 (some .int), Cond.methodLink RL 45 yX9_source, Cond.instanceMethod yX9_source, Cond.selects RX9 yX9_source yX9_source, Cond.code yX9_source cX9_source 2 (some .int), Cond.methodLink RX9 82 yX6_tell, Cond.instanceMethod yX6_tell, Cond.selects RX6 yX6_tell yX6_tell, Cond.code yX6_tell cX6_tell 2 (some .int), Cond.fieldLink RX6 193 "JudgedBits$Health" "failedTest" "I", Cond.constant RX6 196 (-1000004), Cond.fieldLink RX6 197 "JudgedBits$Health" "startUpBits" "I", Cond.fieldLink RX6 200 "JudgedBits$Health" "windowBits" "I", Cond.fieldLink RX6 203 "JudgedBits$Health" "windowOnes" "I", Cond.methodLink RL 48 yX10_source, Cond.instanceMethod yX10_source, Cond.selects RX10 yX10_source yX10_source, Cond.code yX10_source cX10_source 2 (some .int), Cond.constant RX10 78 (-1000004)]
def wsL_law_r20 : List Cond := [Cond.methodLink RL 49 yX9_raw, Cond.instanceMethod yX9_raw, Cond.selects RX9 yX9_raw yX9_raw, Cond.code yX9_raw cX9_raw 2 (some .int), Cond.fieldLink RX9 85 "JudgedBits$Source" "rawBits" "LJudgedBits$BitRow;", Cond.fieldLink RX9 89 "JudgedBits$BitRow" "size" "I", Cond.constant RX9 96 (-1000004), Cond.methodLink RX9 93 yX0_fromLatest, Cond.instanceMethod yX0_fromLatest, Cond.selects RX0 yX0_fromLatest yX0_fromLatest, Cond.code yX0_fromLatest cX0_fromLatest 2 (some .int), Cond.methodLink RL 52 yX10_raw, Cond.instanceMethod yX10_raw, Cond.selects RX10 yX10_raw yX10_raw, Cond.code yX10_raw cX10_raw 2 (some .int), Cond.methodLink RL 53 yX9_stored, Cond.instanceMethod yX9_stored, Cond.selects RX9 yX9_stored yX9_stored, Cond.code yX9_stored cX9_stored 2 (some .int), Cond.fieldLink RX9 97 "JudgedBits$Source" "store" "LJudgedBits$BitRow;", Cond.methodLink RX9 100 yX0_fromEarliest, Cond.instanceMethod yX0_fromEarliest, Cond.selects RX0 yX0_fromEarliest yX0_fromEarliest, Cond.code yX0_fromEarliest cX0_fromEarliest 2 (some .int)]
def wsL_law_r21 : List Cond := [Cond.methodLink RX0 17 yX0_fromLatest, Cond.methodLink RL 56 yX10_stored, Cond.instanceMethod yX10_stored, Cond.selects RX10 yX10_stored yX10_stored, Cond.code yX10_stored cX10_stored 2 (some .int), Cond.methodLink RL 57 yX9_would, Cond.instanceMethod yX9_would, Cond.selects RX9 yX9_would yX9_would, Cond.code yX9_would cX9_would 3 (some .int), Cond.fieldLink RX9 103 "JudgedBits$Source" "health" "LJudgedBits$Health;", Cond.fieldLink RX9 107 "JudgedBits$Health" "mode" "I", Cond.fieldLink RX9 112 "JudgedBits$Source" "tally" "LJudgedBits$Tally;", Cond.fieldLink RX9 116 "JudgedBits$Tally" "lost" "I", Cond.methodLink RL 60 yX10_would, Cond.instanceMethod yX10_would, Cond.selects RX10 yX10_would yX10_would, Cond.code yX10_would cX10_would 4 (some .int), Cond.methodLink RL 61 yX9_takes, Cond.instanceMethod yX9_takes, Cond.selects RX9 yX9_takes yX9_takes, Cond.code yX9_takes cX9_takes 3 (some .int), Cond.methodLink RL 64 yX10_takes, Cond.instanceMethod yX10_takes, Cond.selects RX10 yX10_takes yX10_takes]
def wsL_law_r22 : List Cond := [Cond.code yX10_takes cX10_takes 4 (some .int), Cond.methodLink RL 65 yX9_bestPeriod, Cond.instanceMethod yX9_bestPeriod, Cond.selects RX9 yX9_bestPeriod yX9_bestPeriod, Cond.code yX9_bestPeriod cX9_bestPeriod 6 (some .int), Cond.methodLink RX9 121 yX9_bitsWithPeriod, Cond.instanceMethod yX9_bitsWithPeriod, Cond.selects RX9 yX9_bitsWithPeriod yX9_bitsWithPeriod, Cond.code yX9_bitsWithPeriod cX9_bitsWithPeriod 2 (some .int), Cond.fieldLink RX9 175 "JudgedBits$Source" "ringOne" "LJudgedBits$Ring;", Cond.fieldLink RX9 179 "JudgedBits$Ring" "jitter" "I", Cond.methodLink RL 68 yX10_bestPeriod, Cond.instanceMethod yX10_bestPeriod, Cond.selects RX10 yX10_bestPeriod yX10_bestPeriod, Cond.code yX10_bestPeriod cX10_bestPeriod 6 (some .int), Cond.methodLink RL 69 yX9_share, Cond.instanceMethod yX9_share, Cond.selects RX9 yX9_share yX9_share, Cond.code yX9_share cX9_share 2 (some .int), Cond.methodLink RX9 124 yX0_ones, Cond.instanceMethod yX0_ones, Cond.selects RX0 yX0_ones yX0_ones, Cond.code yX0_ones cX0_ones 1 (some .int), Cond.methodLink RX0 21 yJ13_bitCount_95d88]
def wsL_law_r23 : List Cond := [Cond.static yJ13_bitCount_95d88, Cond.initialized RJ13, Cond.code yJ13_bitCount_95d88 cJ13_bitCount_95d88 2 (some .int), Cond.constantLong RJ13 314 (6148914691236517205), Cond.constantLong RJ13 316 (3689348814741910323), Cond.constantLong RJ13 318 (1085102592571150095), Cond.methodLink RX9 127 yX9_bitsOfShare, Cond.static yX9_bitsOfShare, Cond.code yX9_bitsOfShare cX9_bitsOfShare 4 (some .int), Cond.constantFloat RX9 182 (1258291200), Cond.methodLink RL 72 yX10_share, Cond.instanceMethod yX10_share, Cond.selects RX10 yX10_share yX10_share, Cond.code yX10_share cX10_share 3 (some .int), Cond.methodLink RX10 79 yJxf58ca_floatToIntBits_5c35a, Cond.static yJxf58ca_floatToIntBits_5c35a, Cond.initialized RJxf58ca, Cond.code yJxf58ca_floatToIntBits_5c35a cJxf58ca_floatToIntBits_5c35a 1 (some .int), Cond.methodLink RJxf58ca 74 ⟨"java/lang/Float", "floatToRawIntBits", "(F)I"⟩, Cond.native ⟨"java/lang/Float", "floatToRawIntBits", "(F)I"⟩, Cond.static ⟨"java/lang/Float", "floatToRawIntBits", "(F)I"⟩, Cond.initialized "java/lang/Float", Cond.constant RJxf58ca 77 (2143289344), Cond.methodLink RJxf58ca 59 yJxf58ca_isNaN_12338]
def wsL_law_r24 : List Cond := [Cond.static yJxf58ca_isNaN_12338, Cond.code yJxf58ca_isNaN_12338 cJxf58ca_isNaN_12338 1 (some .boolean), Cond.methodLink RL 73 yX9_count, Cond.instanceMethod yX9_count, Cond.selects RX9 yX9_count yX9_count, Cond.code yX9_count cX9_count 2 (some .int), Cond.fieldLink RX9 132 "JudgedBits$History" "many" "I", Cond.fieldLink RX9 135 "JudgedBits$Orders" "text" "LJudgedBits$Text;", Cond.fieldLink RX9 139 "JudgedBits$Text" "length" "I", Cond.methodLink RX9 131 yX5_tell, Cond.methodLink RX9 144 yX7_tell, Cond.instanceMethod yX7_tell, Cond.selects RX7 yX7_tell yX7_tell, Cond.code yX7_tell cX7_tell 2 (some .int), Cond.constant RX7 36 (-1000001), Cond.methodLink RL 76 yX10_count, Cond.instanceMethod yX10_count, Cond.selects RX10 yX10_count yX10_count, Cond.code yX10_count cX10_count 2 (some .int), Cond.fieldLink RX10 85 "JudgedBitsModel" "typed" "I", Cond.methodLink RL 77 yX9_undo, Cond.instanceMethod yX9_undo, Cond.selects RX9 yX9_undo yX9_undo, Cond.code yX9_undo cX9_undo 1 (some .int)]
def wsL_law_r25 : List Cond := [Cond.methodLink RX9 145 yX2_bringBack, Cond.instanceMethod yX2_bringBack, Cond.selects RX2 yX2_bringBack yX2_bringBack, Cond.code yX2_bringBack cX2_bringBack 2 (some .int), Cond.constant RX2 35 (-1000002), Cond.methodLink RL 80 yX10_undo, Cond.instanceMethod yX10_undo, Cond.selects RX10 yX10_undo yX10_undo, Cond.code yX10_undo cX10_undo 1 (some .int), Cond.methodLink RL 81 yX9_type, Cond.instanceMethod yX9_type, Cond.selects RX9 yX9_type yX9_type, Cond.code yX9_type cX9_type 2 (some .int), Cond.methodLink RX9 149 yX8_append, Cond.instanceMethod yX8_append, Cond.selects RX8 yX8_append yX8_append, Cond.code yX8_append cX8_append 2 (some .int), Cond.constant RX8 23 (-1000001), Cond.constant RX8 24 (-1000003), Cond.methodLink RL 84 yX10_type, Cond.instanceMethod yX10_type, Cond.selects RX10 yX10_type yX10_type, Cond.code yX10_type cX10_type 2 (some .int), Cond.constant RX10 88 (-1000003)]
def wsL_law_r26 : List Cond := [Cond.methodLink RL 85 yX9_clearText, Cond.instanceMethod yX9_clearText, Cond.selects RX9 yX9_clearText yX9_clearText, Cond.code yX9_clearText cX9_clearText 1 (some .int), Cond.methodLink RX9 152 yX8_clear, Cond.instanceMethod yX8_clear, Cond.selects RX8 yX8_clear yX8_clear, Cond.code yX8_clear cX8_clear 2 (some .int), Cond.methodLink RL 88 yX10_clearText, Cond.instanceMethod yX10_clearText, Cond.selects RX10 yX10_clearText yX10_clearText, Cond.code yX10_clearText cX10_clearText 2 (some .int), Cond.methodLink RL 89 yX9_fault, Cond.instanceMethod yX9_fault, Cond.selects RX9 yX9_fault yX9_fault, Cond.code yX9_fault cX9_fault 2 (some .int), Cond.fieldLink RX9 159 "JudgedBits$Orders" "start" "I", Cond.fieldLink RX9 162 "JudgedBits$Orders" "reason" "I", Cond.fieldLink RX9 165 "JudgedBits$Orders" "cause" "I", Cond.methodLink RX9 155 yX3_areDoneOn, Cond.instanceMethod yX3_areDoneOn, Cond.selects RX3 yX3_areDoneOn yX3_areDoneOn, Cond.code yX3_areDoneOn cX3_areDoneOn 3 (some .boolean), Cond.fieldLink RX3 44 "JudgedBits$Text" "length" "I"]
def wsL_law_r27 : List Cond := [Cond.methodLink RX3 47 yX3_isRead, Cond.instanceMethod yX3_isRead, Cond.selects RX3 yX3_isRead yX3_isRead, Cond.code yX3_isRead cX3_isRead 1 (some .boolean), Cond.methodLink RX3 55 yX8_at, Cond.instanceMethod yX8_at, Cond.selects RX8 yX8_at yX8_at, Cond.code yX8_at cX8_at 2 (some .char), Cond.methodLink RX8 25 Lib.Math.min.name, Cond.static Lib.Math.min.name, Cond.code Lib.Math.min.name Lib.Math.min.code 2 (some .int), Cond.methodLink RX3 59 yX3_isSkipped, Cond.instanceMethod yX3_isSkipped, Cond.selects RX3 yX3_isSkipped yX3_isSkipped, Cond.code yX3_isSkipped cX3_isSkipped 2 (some .boolean), Cond.methodLink RX3 63 yX3_isNumberRead, Cond.instanceMethod yX3_isNumberRead, Cond.selects RX3 yX3_isNumberRead yX3_isNumberRead, Cond.code yX3_isNumberRead cX3_isNumberRead 2 (some .boolean), Cond.methodLink RX3 66 yX3_areRingNumbersRead, Cond.instanceMethod yX3_areRingNumbersRead, Cond.selects RX3 yX3_areRingNumbersRead yX3_areRingNumbersRead, Cond.code yX3_areRingNumbersRead cX3_areRingNumbersRead 1 (some .boolean), Cond.methodLink RX3 51 yX3_doOn]
def wsL_law_r28 : List Cond := [Cond.instanceMethod yX3_doOn, Cond.selects RX3 yX3_doOn yX3_doOn, Cond.code yX3_doOn cX3_doOn 2 (some .int), Cond.methodLink RX3 75 yX6_changeRing, Cond.methodLink RX3 81 yX6_makeSamples, Cond.methodLink RX3 85 yX6_drawBits, Cond.methodLink RX3 88 yX6_startAnew, Cond.methodLink RX3 92 yX6_changeNoise, Cond.methodLink RL 92 yX10_fault, Cond.instanceMethod yX10_fault, Cond.selects RX10 yX10_fault yX10_fault, Cond.code yX10_fault cX10_fault 2 (some .int), Cond.fieldLink RX10 92 "JudgedBitsModel" "begin" "I", Cond.fieldLink RX10 102 "JudgedBitsModel" "reason" "I", Cond.fieldLink RX10 105 "JudgedBitsModel" "cause" "I", Cond.methodLink RX10 115 yX10_plays, Cond.instanceMethod yX10_plays, Cond.selects RX10 yX10_plays yX10_plays, Cond.code yX10_plays cX10_plays 2 (some .boolean), Cond.fieldLink RX10 89 "JudgedBitsModel" "at" "I", Cond.fieldLink RX10 108 "JudgedBitsModel" "orders" "I", Cond.methodLink RX10 111 yX10_does, Cond.instanceMethod yX10_does, Cond.selects RX10 yX10_does yX10_does]
def wsL_law_r29 : List Cond := [Cond.code yX10_does cX10_does 7 (some .boolean), Cond.methodLink RX10 95 yX10_number, Cond.instanceMethod yX10_number, Cond.selects RX10 yX10_number yX10_number, Cond.code yX10_number cX10_number 3 (some .int), Cond.methodLink RX10 99 yX10_isNext, Cond.instanceMethod yX10_isNext, Cond.selects RX10 yX10_isNext yX10_isNext, Cond.code yX10_isNext cX10_isNext 3 (some .boolean), Cond.methodLink RL 93 yX9_play, Cond.instanceMethod yX9_play, Cond.selects RX9 yX9_play yX9_play, Cond.code yX9_play cX9_play 1 (some .int), Cond.fieldLink RX9 168 "JudgedBits$Orders" "done" "I", Cond.constant RX9 171 (-1000002), Cond.methodLink RL 96 yX10_play, Cond.instanceMethod yX10_play, Cond.selects RX10 yX10_play yX10_play, Cond.code yX10_play cX10_play 1 (some .int)]
def wsL_law : List Cond := (wsL_law_r1 ++ (wsL_law_r2 ++ (wsL_law_r3 ++ (wsL_law_r4 ++ (wsL_law_r5 ++ (wsL_law_r6 ++ (wsL_law_r7 ++ (wsL_law_r8 ++ (wsL_law_r9 ++ (wsL_law_r10 ++ (wsL_law_r11 ++ (wsL_law_r12 ++ (wsL_law_r13 ++ (wsL_law_r14 ++ (wsL_law_r15 ++ (wsL_law_r16 ++ (wsL_law_r17 ++ (wsL_law_r18 ++ (wsL_law_r19 ++ (wsL_law_r20 ++ (wsL_law_r21 ++ (wsL_law_r22 ++ (wsL_law_r23 ++ (wsL_law_r24 ++ (wsL_law_r25 ++ (wsL_law_r26 ++ (wsL_law_r27 ++ (wsL_law_r28 ++ wsL_law_r29)))))))))))))))))))))))))))) ++ wsX90 ++ wsX100 ++ wsX60 ++ wsX20 ++ wsX30 ++ wsX40 ++ wsX50 ++ wsX10 ++ wsX00 ++ wsX70 ++ wsX80 ++ ([] : List Cond)
end
section
theorem goodL_r (ws : List Cond) (ps : List Nat) (hp : ws = ps.filterMap (fun i => lw_tbl[i]?)) : ∀ w ∈ ws, w ∈ lw_tbl := by
  intro w hw
  rw [hp] at hw
  obtain ⟨i, -, hi⟩ := List.mem_filterMap.mp hw
  exact List.mem_of_getElem? hi
set_option maxRecDepth 20000 in
theorem wsL_law_r1_in : ∀ w ∈ wsL_law_r1, w ∈ lw_tbl := goodL_r wsL_law_r1 [49, 50, 35, 666, 667, 45, 51, 52, 53, 54, 55, 56, 57, 58, 36, 313, 314, 230, 231, 42, 315, 255, 256, 43] (by decide +kernel)
set_option maxRecDepth 20000 in
theorem wsL_law_r2_in : ∀ w ∈ wsL_law_r2, w ∈ lw_tbl := goodL_r wsL_law_r2 [316, 59, 60, 61, 62, 209, 210, 63, 64, 37, 196, 197, 83, 84, 38, 199, 106, 107, 39, 201, 141, 142, 40, 203] (by decide +kernel)
set_option maxRecDepth 20000 in
theorem wsL_law_r3_in : ∀ w ∈ wsL_law_r3, w ∈ lw_tbl := goodL_r wsL_law_r3 [205, 156, 157, 41, 207, 65, 66, 67, 68, 71, 74, 69, 86, 87, 88, 89, 91, 93, 95, 109, 110, 111, 112, 115] (by decide +kernel)
set_option maxRecDepth 20000 in
theorem wsL_law_r4_in : ∀ w ∈ wsL_law_r4, w ∈ lw_tbl := goodL_r wsL_law_r4 [117, 119, 121, 122, 124, 144, 145, 146, 147, 148, 159, 160, 161, 162, 164, 166, 168, 170, 173, 175, 177, 232, 233, 234] (by decide +kernel)
set_option maxRecDepth 20000 in
theorem wsL_law_r5_in : ∀ w ∈ wsL_law_r5, w ∈ lw_tbl := goodL_r wsL_law_r5 [235, 242, 236, 238, 239, 240, 241, 237, 257, 258, 259, 260, 279, 281, 282, 284, 286, 288, 289, 290, 291, 261, 262, 44] (by decide +kernel)
set_option maxRecDepth 20000 in
theorem wsL_law_r6_in : ∀ w ∈ wsL_law_r6, w ∈ lw_tbl := goodL_r wsL_law_r6 [277, 264, 265, 266, 276, 267, 268, 668, 669, 670, 671, 700, 672, 674, 326, 327, 328, 329, 330, 331, 332, 333, 334, 335] (by decide +kernel)
set_option maxRecDepth 20000 in
theorem wsL_law_r7_in : ∀ w ∈ wsL_law_r7, w ∈ lw_tbl := goodL_r wsL_law_r7 [336, 337, 338, 339, 340, 341, 342, 343, 344, 345, 346, 347, 348, 349, 350, 351, 352, 353, 354, 355, 356, 357, 361, 70] (by decide +kernel)
set_option maxRecDepth 20000 in
theorem wsL_law_r8_in : ∀ w ∈ wsL_law_r8, w ∈ lw_tbl := goodL_r wsL_law_r8 [72, 75, 359, 360, 362, 363, 364, 365, 366, 368, 0, 369, 370, 371, 372, 373, 374, 701, 702, 703, 704, 705, 707, 16] (by decide +kernel)
set_option maxRecDepth 20000 in
theorem wsL_law_r9_in : ∀ w ∈ wsL_law_r9, w ∈ lw_tbl := goodL_r wsL_law_r9 [708, 709, 711, 17, 712, 716, 713, 714, 715, 717, 719, 18, 720, 673, 375, 376, 377, 378, 379, 380, 381, 382, 383, 721] (by decide +kernel)
set_option maxRecDepth 20000 in
theorem wsL_law_r10_in : ∀ w ∈ wsL_law_r10, w ∈ lw_tbl := goodL_r wsL_law_r10 [722, 723, 724, 725, 384, 385, 386, 387, 388, 389, 390, 391, 169, 392, 394, 1, 395, 90, 396, 398, 2, 399, 400, 401] (by decide +kernel)
set_option maxRecDepth 20000 in
theorem wsL_law_r11_in : ∀ w ∈ wsL_law_r11, w ∈ lw_tbl := goodL_r wsL_law_r11 [402, 403, 404, 406, 407, 408, 410, 3, 411, 412, 413, 46, 414, 92, 415, 416, 417, 418, 419, 420, 421, 422, 423, 425] (by decide +kernel)
set_option maxRecDepth 20000 in
theorem wsL_law_r12_in : ∀ w ∈ wsL_law_r12, w ∈ lw_tbl := goodL_r wsL_law_r12 [4, 426, 163, 165, 113, 178, 120, 451, 452, 453, 176, 427, 428, 429, 430, 431, 432, 433, 434, 96, 94, 435, 437, 5] (by decide +kernel)
set_option maxRecDepth 20000 in
theorem wsL_law_r13_in : ∀ w ∈ wsL_law_r13, w ∈ lw_tbl := goodL_r wsL_law_r13 [438, 439, 441, 6, 442, 443, 445, 7, 446, 447, 449, 8, 450, 454, 456, 9, 457, 167, 172, 458, 459, 460, 461, 726] (by decide +kernel)
set_option maxRecDepth 20000 in
theorem wsL_law_r14_in : ∀ w ∈ wsL_law_r14, w ∈ lw_tbl := goodL_r wsL_law_r14 [727, 728, 729, 730, 732, 19, 733, 734, 736, 20, 737, 738, 740, 21, 741, 742, 744, 22, 745, 746, 747, 749, 23, 750] (by decide +kernel)
set_option maxRecDepth 20000 in
theorem wsL_law_r15_in : ∀ w ∈ wsL_law_r15, w ∈ lw_tbl := goodL_r wsL_law_r15 [751, 753, 24, 754, 755, 757, 25, 758, 759, 761, 26, 762, 763, 765, 27, 766, 462, 463, 464, 465, 466, 467, 468, 469] (by decide +kernel)
set_option maxRecDepth 20000 in
theorem wsL_law_r16_in : ∀ w ∈ wsL_law_r16, w ∈ lw_tbl := goodL_r wsL_law_r16 [149, 470, 174, 471, 472, 473, 474, 767, 768, 769, 770, 771, 773, 28, 774, 775, 475, 476, 477, 478, 479, 480, 481, 482] (by decide +kernel)
set_option maxRecDepth 20000 in
theorem wsL_law_r17_in : ∀ w ∈ wsL_law_r17, w ∈ lw_tbl := goodL_r wsL_law_r17 [483, 484, 485, 486, 487, 488, 489, 490, 776, 777, 778, 779, 780, 782, 29, 783, 491, 492, 493, 494, 200, 495, 496, 497] (by decide +kernel)
set_option maxRecDepth 20000 in
theorem wsL_law_r18_in : ∀ w ∈ wsL_law_r18, w ∈ lw_tbl := goodL_r wsL_law_r18 [498, 503, 499, 500, 501, 504, 505, 506, 507, 784, 785, 786, 787, 508, 509, 510, 511, 513, 512, 514, 515, 516, 517, 518] (by decide +kernel)
set_option maxRecDepth 20000 in
theorem wsL_law_r19_in : ∀ w ∈ wsL_law_r19, w ∈ lw_tbl := goodL_r wsL_law_r19 [520, 519, 788, 789, 790, 791, 521, 522, 523, 524, 525, 526, 527, 528, 116, 529, 118, 123, 125, 792, 793, 794, 795, 796] (by decide +kernel)
set_option maxRecDepth 20000 in
theorem wsL_law_r20_in : ∀ w ∈ wsL_law_r20, w ∈ lw_tbl := goodL_r wsL_law_r20 [530, 531, 532, 533, 204, 150, 538, 534, 535, 536, 537, 797, 798, 799, 800, 539, 540, 541, 542, 206, 543, 544, 545, 546] (by decide +kernel)
set_option maxRecDepth 20000 in
theorem wsL_law_r21_in : ∀ w ∈ wsL_law_r21, w ∈ lw_tbl := goodL_r wsL_law_r21 [547, 801, 802, 803, 804, 548, 549, 550, 551, 202, 114, 208, 171, 805, 806, 807, 808, 552, 553, 554, 555, 809, 810, 811] (by decide +kernel)
set_option maxRecDepth 20000 in
theorem wsL_law_r22_in : ∀ w ∈ wsL_law_r22, w ∈ lw_tbl := goodL_r wsL_law_r22 [812, 556, 557, 558, 559, 560, 562, 10, 563, 198, 73, 813, 814, 815, 816, 564, 565, 566, 567, 568, 569, 570, 571, 572] (by decide +kernel)
set_option maxRecDepth 20000 in
theorem wsL_law_r23_in : ∀ w ∈ wsL_law_r23, w ∈ lw_tbl := goodL_r wsL_law_r23 [573, 47, 574, 575, 576, 577, 578, 579, 580, 581, 817, 818, 819, 820, 821, 822, 48, 823, 827, 829, 828, 48, 830, 824] (by decide +kernel)
set_option maxRecDepth 20000 in
theorem wsL_law_r24_in : ∀ w ∈ wsL_law_r24, w ∈ lw_tbl := goodL_r wsL_law_r24 [825, 826, 582, 583, 584, 585, 243, 278, 270, 586, 587, 588, 589, 590, 591, 831, 832, 833, 834, 675, 592, 593, 594, 595] (by decide +kernel)
set_option maxRecDepth 20000 in
theorem wsL_law_r25_in : ∀ w ∈ wsL_law_r25, w ∈ lw_tbl := goodL_r wsL_law_r25 [596, 597, 598, 599, 600, 835, 836, 837, 838, 601, 602, 603, 604, 605, 606, 607, 608, 610, 611, 839, 840, 841, 842, 843] (by decide +kernel)
set_option maxRecDepth 20000 in
theorem wsL_law_r26_in : ∀ w ∈ wsL_law_r26, w ∈ lw_tbl := goodL_r wsL_law_r26 [612, 613, 614, 615, 616, 617, 618, 619, 844, 845, 846, 847, 620, 621, 622, 623, 280, 285, 287, 624, 625, 626, 627, 269] (by decide +kernel)
set_option maxRecDepth 20000 in
theorem wsL_law_r27_in : ∀ w ∈ wsL_law_r27, w ∈ lw_tbl := goodL_r wsL_law_r27 [628, 630, 11, 631, 632, 633, 634, 635, 636, 637, 638, 639, 641, 12, 642, 643, 645, 13, 646, 648, 650, 14, 651, 652] (by decide +kernel)
set_option maxRecDepth 20000 in
theorem wsL_law_r28_in : ∀ w ∈ wsL_law_r28, w ∈ lw_tbl := goodL_r wsL_law_r28 [654, 15, 655, 656, 657, 658, 659, 660, 848, 849, 850, 851, 677, 678, 679, 852, 854, 30, 855, 676, 680, 856, 858, 31] (by decide +kernel)
set_option maxRecDepth 20000 in
theorem wsL_law_r29_in : ∀ w ∈ wsL_law_r29, w ∈ lw_tbl := goodL_r wsL_law_r29 [859, 860, 862, 32, 863, 864, 866, 33, 867, 661, 662, 663, 664, 283, 665, 868, 869, 870, 871] (by decide +kernel)
set_option maxRecDepth 20000 in
theorem wsX90_inl : ∀ w ∈ wsX90, w ∈ lw_tbl := by decide +kernel
set_option maxRecDepth 20000 in
theorem wsX100_inl : ∀ w ∈ wsX100, w ∈ lw_tbl := by decide +kernel
set_option maxRecDepth 20000 in
theorem wsX60_inl : ∀ w ∈ wsX60, w ∈ lw_tbl := by decide +kernel
set_option maxRecDepth 20000 in
theorem wsX20_inl : ∀ w ∈ wsX20, w ∈ lw_tbl := by decide +kernel
set_option maxRecDepth 20000 in
theorem wsX30_inl : ∀ w ∈ wsX30, w ∈ lw_tbl := by decide +kernel
set_option maxRecDepth 20000 in
theorem wsX40_inl : ∀ w ∈ wsX40, w ∈ lw_tbl := by decide +kernel
set_option maxRecDepth 20000 in
theorem wsX50_inl : ∀ w ∈ wsX50, w ∈ lw_tbl := by decide +kernel
set_option maxRecDepth 20000 in
theorem wsX10_inl : ∀ w ∈ wsX10, w ∈ lw_tbl := by decide +kernel
set_option maxRecDepth 20000 in
theorem wsX00_inl : ∀ w ∈ wsX00, w ∈ lw_tbl := by decide +kernel
set_option maxRecDepth 20000 in
theorem wsX70_inl : ∀ w ∈ wsX70, w ∈ lw_tbl := by decide +kernel
set_option maxRecDepth 20000 in
theorem wsX80_inl : ∀ w ∈ wsX80, w ∈ lw_tbl := by decide +kernel
set_option maxRecDepth 20000 in
theorem wsL_law_in : ∀ w ∈ wsL_law, w ∈ lw_tbl := List.forall_mem_append.mpr ⟨List.forall_mem_append.mpr ⟨List.forall_mem_append.mpr ⟨List.forall_mem_append.mpr ⟨List.forall_mem_append.mpr ⟨List.forall_mem_append.mpr ⟨List.forall_mem_append.mpr ⟨List.forall_mem_append.mpr ⟨List.forall_mem_append.mpr ⟨List.forall_mem_append.mpr ⟨List.forall_mem_append.mpr ⟨List.forall_mem_append.mpr ⟨List.forall_mem_append.mpr ⟨wsL_law_r1_in, List.forall_mem_append.mpr ⟨wsL_law_r2_in, List.forall_mem_append.mpr ⟨wsL_law_r3_in, List.forall_mem_append.mpr ⟨wsL_law_r4_in, List.forall_mem_append.mpr ⟨wsL_law_r5_in, List.forall_mem_append.mpr ⟨wsL_law_r6_in, List.forall_mem_append.mpr ⟨wsL_law_r7_in, List.forall_mem_append.mpr ⟨wsL_law_r8_in, List.forall_mem_append.mpr ⟨wsL_law_r9_in, List.forall_mem_append.mpr ⟨wsL_law_r10_in, List.forall_mem_append.mpr ⟨wsL_law_r11_in, List.forall_mem_append.mpr ⟨wsL_law_r12_in, List.forall_mem_append.mpr ⟨wsL_law_r13_in, List.forall_mem_append.mpr ⟨wsL_law_r14_in, List.forall_mem_append.mpr ⟨wsL_law_r15_in, List.forall_mem_append.mpr ⟨wsL_law_r16_in, List.forall_mem_append.mpr ⟨wsL_law_r17_in, List.forall_mem_append.mpr ⟨wsL_law_r18_in, List.forall_mem_append.mpr ⟨wsL_law_r19_in, List.forall_mem_append.mpr ⟨wsL_law_r20_in, List.forall_mem_append.mpr ⟨wsL_law_r21_in, List.forall_mem_append.mpr ⟨wsL_law_r22_in, List.forall_mem_append.mpr ⟨wsL_law_r23_in, List.forall_mem_append.mpr ⟨wsL_law_r24_in, List.forall_mem_append.mpr ⟨wsL_law_r25_in, List.forall_mem_append.mpr ⟨wsL_law_r26_in, List.forall_mem_append.mpr ⟨wsL_law_r27_in, List.forall_mem_append.mpr ⟨wsL_law_r28_in, wsL_law_r29_in⟩⟩⟩⟩⟩⟩⟩⟩⟩⟩⟩⟩⟩⟩⟩⟩⟩⟩⟩⟩⟩⟩⟩⟩⟩⟩⟩⟩, wsX90_inl⟩, wsX100_inl⟩, wsX60_inl⟩, wsX20_inl⟩, wsX30_inl⟩, wsX40_inl⟩, wsX50_inl⟩, wsX10_inl⟩, wsX00_inl⟩, wsX70_inl⟩, wsX80_inl⟩, fun _ h => absurd h List.not_mem_nil⟩
theorem inlX0 : ∀ w ∈ wsX00, w ∈ wsL_law := fun _ h => List.mem_append_left _ (List.mem_append_left _ (List.mem_append_left _ (List.mem_append_right _ h)))
theorem inX0 : ∀ w ∈ wsX00, w ∈ lw_tbl := fun w h => wsL_law_in w (inlX0 w h)
theorem inlX1 : ∀ w ∈ wsX10, w ∈ wsL_law := fun _ h => List.mem_append_left _ (List.mem_append_left _ (List.mem_append_left _ (List.mem_append_left _ (List.mem_append_right _ h))))
theorem inX1 : ∀ w ∈ wsX10, w ∈ lw_tbl := fun w h => wsL_law_in w (inlX1 w h)
theorem inlX2 : ∀ w ∈ wsX20, w ∈ wsL_law := fun _ h => List.mem_append_left _ (List.mem_append_left _ (List.mem_append_left _ (List.mem_append_left _ (List.mem_append_left _ (List.mem_append_left _ (List.mem_append_left _ (List.mem_append_left _ (List.mem_append_right _ h))))))))
theorem inX2 : ∀ w ∈ wsX20, w ∈ lw_tbl := fun w h => wsL_law_in w (inlX2 w h)
theorem inlX3 : ∀ w ∈ wsX30, w ∈ wsL_law := fun _ h => List.mem_append_left _ (List.mem_append_left _ (List.mem_append_left _ (List.mem_append_left _ (List.mem_append_left _ (List.mem_append_left _ (List.mem_append_left _ (List.mem_append_right _ h)))))))
theorem inX3 : ∀ w ∈ wsX30, w ∈ lw_tbl := fun w h => wsL_law_in w (inlX3 w h)
theorem inlX4 : ∀ w ∈ wsX40, w ∈ wsL_law := fun _ h => List.mem_append_left _ (List.mem_append_left _ (List.mem_append_left _ (List.mem_append_left _ (List.mem_append_left _ (List.mem_append_left _ (List.mem_append_right _ h))))))
theorem inX4 : ∀ w ∈ wsX40, w ∈ lw_tbl := fun w h => wsL_law_in w (inlX4 w h)
theorem inlX5 : ∀ w ∈ wsX50, w ∈ wsL_law := fun _ h => List.mem_append_left _ (List.mem_append_left _ (List.mem_append_left _ (List.mem_append_left _ (List.mem_append_left _ (List.mem_append_right _ h)))))
theorem inX5 : ∀ w ∈ wsX50, w ∈ lw_tbl := fun w h => wsL_law_in w (inlX5 w h)
theorem inlX6 : ∀ w ∈ wsX60, w ∈ wsL_law := fun _ h => List.mem_append_left _ (List.mem_append_left _ (List.mem_append_left _ (List.mem_append_left _ (List.mem_append_left _ (List.mem_append_left _ (List.mem_append_left _ (List.mem_append_left _ (List.mem_append_left _ (List.mem_append_right _ h)))))))))
theorem inX6 : ∀ w ∈ wsX60, w ∈ lw_tbl := fun w h => wsL_law_in w (inlX6 w h)
theorem inlX7 : ∀ w ∈ wsX70, w ∈ wsL_law := fun _ h => List.mem_append_left _ (List.mem_append_left _ (List.mem_append_right _ h))
theorem inX7 : ∀ w ∈ wsX70, w ∈ lw_tbl := fun w h => wsL_law_in w (inlX7 w h)
theorem inlX8 : ∀ w ∈ wsX80, w ∈ wsL_law := fun _ h => List.mem_append_left _ (List.mem_append_right _ h)
theorem inX8 : ∀ w ∈ wsX80, w ∈ lw_tbl := fun w h => wsL_law_in w (inlX8 w h)
theorem inlX9 : ∀ w ∈ wsX90, w ∈ wsL_law := fun _ h => List.mem_append_left _ (List.mem_append_left _ (List.mem_append_left _ (List.mem_append_left _ (List.mem_append_left _ (List.mem_append_left _ (List.mem_append_left _ (List.mem_append_left _ (List.mem_append_left _ (List.mem_append_left _ (List.mem_append_left _ (List.mem_append_right _ h)))))))))))
theorem inX9 : ∀ w ∈ wsX90, w ∈ lw_tbl := fun w h => wsL_law_in w (inlX9 w h)
theorem inlX10 : ∀ w ∈ wsX100, w ∈ wsL_law := fun _ h => List.mem_append_left _ (List.mem_append_left _ (List.mem_append_left _ (List.mem_append_left _ (List.mem_append_left _ (List.mem_append_left _ (List.mem_append_left _ (List.mem_append_left _ (List.mem_append_left _ (List.mem_append_left _ (List.mem_append_right _ h))))))))))
theorem inX10 : ∀ w ∈ wsX100, w ∈ lw_tbl := fun w h => wsL_law_in w (inlX10 w h)
theorem inJxf58ca : ∀ w ∈ wsJxf58ca0, w ∈ lw_tbl := by decide +kernel
theorem inJ13 : ∀ w ∈ wsJ130, w ∈ lw_tbl := by decide +kernel
theorem inJ9 : ∀ w ∈ wsJ90, w ∈ lw_tbl := by decide +kernel
end
section
theorem dX0_init_0 : decode cX0_init 0 = .ok (.aload_n 0, 1) := by decide +kernel
theorem dX0_init_1 : decode cX0_init 1 = .ok (.invokespecial 1, 3) := by decide +kernel
theorem dX0_init_4 : decode cX0_init 4 = .ok (.aload_n 0, 1) := by decide +kernel
theorem dX0_init_5 : decode cX0_init 5 = .ok (.lconst 0, 1) := by decide +kernel
theorem dX0_init_6 : decode cX0_init 6 = .ok (.putfield 7, 3) := by decide +kernel
theorem dX0_init_9 : decode cX0_init 9 = .ok (.aload_n 0, 1) := by decide +kernel
theorem dX0_init_10 : decode cX0_init 10 = .ok (.iconst 0, 1) := by decide +kernel
theorem dX0_init_11 : decode cX0_init 11 = .ok (.putfield 13, 3) := by decide +kernel
theorem dX0_init_14 : decode cX0_init 14 = .ok (.return_, 1) := by decide +kernel
theorem dX0_copyFrom_0 : decode cX0_copyFrom 0 = .ok (.aload_n 0, 1) := by decide +kernel
theorem dX0_copyFrom_1 : decode cX0_copyFrom 1 = .ok (.aload_n 1, 1) := by decide +kernel
theorem dX0_copyFrom_2 : decode cX0_copyFrom 2 = .ok (.getfield 7, 3) := by decide +kernel
theorem dX0_copyFrom_5 : decode cX0_copyFrom 5 = .ok (.putfield 7, 3) := by decide +kernel
theorem dX0_copyFrom_8 : decode cX0_copyFrom 8 = .ok (.aload_n 0, 1) := by decide +kernel
theorem dX0_copyFrom_9 : decode cX0_copyFrom 9 = .ok (.aload_n 1, 1) := by decide +kernel
theorem dX0_copyFrom_10 : decode cX0_copyFrom 10 = .ok (.getfield 13, 3) := by decide +kernel
theorem dX0_copyFrom_13 : decode cX0_copyFrom 13 = .ok (.putfield 13, 3) := by decide +kernel
theorem dX0_copyFrom_16 : decode cX0_copyFrom 16 = .ok (.return_, 1) := by decide +kernel
theorem dX0_clear_0 : decode cX0_clear 0 = .ok (.aload_n 0, 1) := by decide +kernel
theorem dX0_clear_1 : decode cX0_clear 1 = .ok (.lconst 0, 1) := by decide +kernel
theorem dX0_clear_2 : decode cX0_clear 2 = .ok (.putfield 7, 3) := by decide +kernel
theorem dX0_clear_5 : decode cX0_clear 5 = .ok (.aload_n 0, 1) := by decide +kernel
theorem dX0_clear_6 : decode cX0_clear 6 = .ok (.iconst 0, 1) := by decide +kernel
theorem dX0_clear_7 : decode cX0_clear 7 = .ok (.putfield 13, 3) := by decide +kernel
theorem dX0_clear_10 : decode cX0_clear 10 = .ok (.return_, 1) := by decide +kernel
theorem dX0_isFull_0 : decode cX0_isFull 0 = .ok (.aload_n 0, 1) := by decide +kernel
theorem dX0_isFull_1 : decode cX0_isFull 1 = .ok (.getfield 13, 3) := by decide +kernel
theorem dX0_isFull_4 : decode cX0_isFull 4 = .ok (.bipush 64, 2) := by decide +kernel
theorem dX0_isFull_6 : decode cX0_isFull 6 = .ok (.if_icmp .lt 7, 3) := by decide +kernel
theorem dX0_isFull_9 : decode cX0_isFull 9 = .ok (.iconst 1, 1) := by decide +kernel
theorem dX0_isFull_10 : decode cX0_isFull 10 = .ok (.goto 4, 3) := by decide +kernel
theorem dX0_isFull_13 : decode cX0_isFull 13 = .ok (.iconst 0, 1) := by decide +kernel
theorem dX0_isFull_14 : decode cX0_isFull 14 = .ok (.ireturn, 1) := by decide +kernel
theorem dX0_append_0 : decode cX0_append 0 = .ok (.aload_n 0, 1) := by decide +kernel
theorem dX0_append_1 : decode cX0_append 1 = .ok (.aload_n 0, 1) := by decide +kernel
theorem dX0_append_2 : decode cX0_append 2 = .ok (.getfield 7, 3) := by decide +kernel
theorem dX0_append_5 : decode cX0_append 5 = .ok (.iconst 1, 1) := by decide +kernel
theorem dX0_append_6 : decode cX0_append 6 = .ok (.lshl, 1) := by decide +kernel
theorem dX0_append_7 : decode cX0_append 7 = .ok (.iload_n 1, 1) := by decide +kernel
theorem dX0_append_8 : decode cX0_append 8 = .ok (.i2l, 1) := by decide +kernel
theorem dX0_append_9 : decode cX0_append 9 = .ok (.lor, 1) := by decide +kernel
theorem dX0_append_10 : decode cX0_append 10 = .ok (.putfield 7, 3) := by decide +kernel
theorem dX0_append_13 : decode cX0_append 13 = .ok (.aload_n 0, 1) := by decide +kernel
theorem dX0_append_14 : decode cX0_append 14 = .ok (.getfield 13, 3) := by decide +kernel
theorem dX0_append_17 : decode cX0_append 17 = .ok (.bipush 64, 2) := by decide +kernel
theorem dX0_append_19 : decode cX0_append 19 = .ok (.if_icmp .ge 13, 3) := by decide +kernel
theorem dX0_append_22 : decode cX0_append 22 = .ok (.aload_n 0, 1) := by decide +kernel
theorem dX0_append_23 : decode cX0_append 23 = .ok (.dup, 1) := by decide +kernel
theorem dX0_append_24 : decode cX0_append 24 = .ok (.getfield 13, 3) := by decide +kernel
theorem dX0_append_27 : decode cX0_append 27 = .ok (.iconst 1, 1) := by decide +kernel
theorem dX0_append_28 : decode cX0_append 28 = .ok (.iadd, 1) := by decide +kernel
theorem dX0_append_29 : decode cX0_append 29 = .ok (.putfield 13, 3) := by decide +kernel
theorem dX0_append_32 : decode cX0_append 32 = .ok (.return_, 1) := by decide +kernel
theorem dX0_fromLatest_0 : decode cX0_fromLatest 0 = .ok (.aload_n 0, 1) := by decide +kernel
theorem dX0_fromLatest_1 : decode cX0_fromLatest 1 = .ok (.getfield 7, 3) := by decide +kernel
theorem dX0_fromLatest_4 : decode cX0_fromLatest 4 = .ok (.iload_n 1, 1) := by decide +kernel
theorem dX0_fromLatest_5 : decode cX0_fromLatest 5 = .ok (.lushr, 1) := by decide +kernel
theorem dX0_fromLatest_6 : decode cX0_fromLatest 6 = .ok (.lconst 1, 1) := by decide +kernel
theorem dX0_fromLatest_7 : decode cX0_fromLatest 7 = .ok (.land, 1) := by decide +kernel
theorem dX0_fromLatest_8 : decode cX0_fromLatest 8 = .ok (.l2i, 1) := by decide +kernel
theorem dX0_fromLatest_9 : decode cX0_fromLatest 9 = .ok (.ireturn, 1) := by decide +kernel
set_option maxRecDepth 20000 in
theorem ggX0_fromEarliest_X0_fromLatest : GoodIn wsX0_fromEarliest wsX0_fromLatest := goodIn_r _ [6, 7, 8, 9] (by decide +kernel) (by decide +kernel)
set_option maxRecDepth 20000 in
theorem gX0_fromEarliest_X0_fromLatest : GoodIn wsX0_fromEarliest (wsV RX0 17 RX0 yX0_fromLatest wsX0_fromLatest) := goodIn_app (goodIn_of _ (by decide +kernel)) ggX0_fromEarliest_X0_fromLatest
theorem dX0_fromEarliest_0 : decode cX0_fromEarliest 0 = .ok (.aload_n 0, 1) := by decide +kernel
theorem dX0_fromEarliest_1 : decode cX0_fromEarliest 1 = .ok (.aload_n 0, 1) := by decide +kernel
theorem dX0_fromEarliest_2 : decode cX0_fromEarliest 2 = .ok (.getfield 13, 3) := by decide +kernel
theorem dX0_fromEarliest_5 : decode cX0_fromEarliest 5 = .ok (.iconst 1, 1) := by decide +kernel
theorem dX0_fromEarliest_6 : decode cX0_fromEarliest 6 = .ok (.isub, 1) := by decide +kernel
theorem dX0_fromEarliest_7 : decode cX0_fromEarliest 7 = .ok (.iload_n 1, 1) := by decide +kernel
theorem dX0_fromEarliest_8 : decode cX0_fromEarliest 8 = .ok (.isub, 1) := by decide +kernel
theorem dX0_fromEarliest_9 : decode cX0_fromEarliest 9 = .ok (.invokevirtual 17, 3) := by decide +kernel
theorem dX0_fromEarliest_12 : decode cX0_fromEarliest 12 = .ok (.ireturn, 1) := by decide +kernel
theorem dX0_takeEarliest_0 : decode cX0_takeEarliest 0 = .ok (.aload_n 0, 1) := by decide +kernel
theorem dX0_takeEarliest_1 : decode cX0_takeEarliest 1 = .ok (.getfield 13, 3) := by decide +kernel
theorem dX0_takeEarliest_4 : decode cX0_takeEarliest 4 = .ok (.iload_n 1, 1) := by decide +kernel
theorem dX0_takeEarliest_5 : decode cX0_takeEarliest 5 = .ok (.isub, 1) := by decide +kernel
theorem dX0_takeEarliest_6 : decode cX0_takeEarliest 6 = .ok (.istore_n 2, 1) := by decide +kernel
theorem dX0_takeEarliest_7 : decode cX0_takeEarliest 7 = .ok (.aload_n 0, 1) := by decide +kernel
theorem dX0_takeEarliest_8 : decode cX0_takeEarliest 8 = .ok (.getfield 7, 3) := by decide +kernel
theorem dX0_takeEarliest_11 : decode cX0_takeEarliest 11 = .ok (.iload_n 2, 1) := by decide +kernel
theorem dX0_takeEarliest_12 : decode cX0_takeEarliest 12 = .ok (.lushr, 1) := by decide +kernel
theorem dX0_takeEarliest_13 : decode cX0_takeEarliest 13 = .ok (.l2i, 1) := by decide +kernel
theorem dX0_takeEarliest_14 : decode cX0_takeEarliest 14 = .ok (.istore_n 3, 1) := by decide +kernel
theorem dX0_takeEarliest_15 : decode cX0_takeEarliest 15 = .ok (.aload_n 0, 1) := by decide +kernel
theorem dX0_takeEarliest_16 : decode cX0_takeEarliest 16 = .ok (.aload_n 0, 1) := by decide +kernel
theorem dX0_takeEarliest_17 : decode cX0_takeEarliest 17 = .ok (.getfield 7, 3) := by decide +kernel
theorem dX0_takeEarliest_20 : decode cX0_takeEarliest 20 = .ok (.lconst 1, 1) := by decide +kernel
theorem dX0_takeEarliest_21 : decode cX0_takeEarliest 21 = .ok (.iload_n 2, 1) := by decide +kernel
theorem dX0_takeEarliest_22 : decode cX0_takeEarliest 22 = .ok (.lshl, 1) := by decide +kernel
theorem dX0_takeEarliest_23 : decode cX0_takeEarliest 23 = .ok (.lconst 1, 1) := by decide +kernel
theorem dX0_takeEarliest_24 : decode cX0_takeEarliest 24 = .ok (.lsub, 1) := by decide +kernel
theorem dX0_takeEarliest_25 : decode cX0_takeEarliest 25 = .ok (.land, 1) := by decide +kernel
theorem dX0_takeEarliest_26 : decode cX0_takeEarliest 26 = .ok (.putfield 7, 3) := by decide +kernel
theorem dX0_takeEarliest_29 : decode cX0_takeEarliest 29 = .ok (.aload_n 0, 1) := by decide +kernel
theorem dX0_takeEarliest_30 : decode cX0_takeEarliest 30 = .ok (.iload_n 2, 1) := by decide +kernel
theorem dX0_takeEarliest_31 : decode cX0_takeEarliest 31 = .ok (.putfield 13, 3) := by decide +kernel
theorem dX0_takeEarliest_34 : decode cX0_takeEarliest 34 = .ok (.iload_n 3, 1) := by decide +kernel
theorem dX0_takeEarliest_35 : decode cX0_takeEarliest 35 = .ok (.ireturn, 1) := by decide +kernel
set_option maxRecDepth 20000 in
theorem ggX0_ones_J13_bitCount_95d88 : GoodIn wsX0_ones wsJ13_bitCount_95d88 := goodIn_r _ [5, 6, 7, 8] (by decide +kernel) (by decide +kernel)
set_option maxRecDepth 20000 in
theorem gX0_ones_J13_bitCount_95d88 : GoodIn wsX0_ones (va_wsS RX0 21 yJ13_bitCount_95d88 wsJ13_bitCount_95d88) := goodIn_app (goodIn_of _ (by decide +kernel)) ggX0_ones_J13_bitCount_95d88
theorem dX0_ones_0 : decode cX0_ones 0 = .ok (.aload_n 0, 1) := by decide +kernel
theorem dX0_ones_1 : decode cX0_ones 1 = .ok (.getfield 7, 3) := by decide +kernel
theorem dX0_ones_4 : decode cX0_ones 4 = .ok (.invokestatic 21, 3) := by decide +kernel
theorem dX0_ones_7 : decode cX0_ones 7 = .ok (.ireturn, 1) := by decide +kernel
theorem dX1_init_0 : decode cX1_init 0 = .ok (.aload_n 0, 1) := by decide +kernel
theorem dX1_init_1 : decode cX1_init 1 = .ok (.invokespecial 1, 3) := by decide +kernel
theorem dX1_init_4 : decode cX1_init 4 = .ok (.aload_n 0, 1) := by decide +kernel
theorem dX1_init_5 : decode cX1_init 5 = .ok (.iconst 0, 1) := by decide +kernel
theorem dX1_init_6 : decode cX1_init 6 = .ok (.putfield 9, 3) := by decide +kernel
theorem dX1_init_9 : decode cX1_init 9 = .ok (.aload_n 0, 1) := by decide +kernel
theorem dX1_init_10 : decode cX1_init 10 = .ok (.iconst 0, 1) := by decide +kernel
theorem dX1_init_11 : decode cX1_init 11 = .ok (.putfield 13, 3) := by decide +kernel
theorem dX1_init_14 : decode cX1_init 14 = .ok (.aload_n 0, 1) := by decide +kernel
theorem dX1_init_15 : decode cX1_init 15 = .ok (.iconst 0, 1) := by decide +kernel
theorem dX1_init_16 : decode cX1_init 16 = .ok (.putfield 16, 3) := by decide +kernel
theorem dX1_init_19 : decode cX1_init 19 = .ok (.aload_n 0, 1) := by decide +kernel
theorem dX1_init_20 : decode cX1_init 20 = .ok (.iconst 0, 1) := by decide +kernel
theorem dX1_init_21 : decode cX1_init 21 = .ok (.putfield 19, 3) := by decide +kernel
theorem dX1_init_24 : decode cX1_init 24 = .ok (.aload_n 0, 1) := by decide +kernel
theorem dX1_init_25 : decode cX1_init 25 = .ok (.iconst 0, 1) := by decide +kernel
theorem dX1_init_26 : decode cX1_init 26 = .ok (.putfield 22, 3) := by decide +kernel
theorem dX1_init_29 : decode cX1_init 29 = .ok (.aload_n 0, 1) := by decide +kernel
theorem dX1_init_30 : decode cX1_init 30 = .ok (.iconst 0, 1) := by decide +kernel
theorem dX1_init_31 : decode cX1_init 31 = .ok (.putfield 25, 3) := by decide +kernel
theorem dX1_init_34 : decode cX1_init 34 = .ok (.aload_n 0, 1) := by decide +kernel
theorem dX1_init_35 : decode cX1_init 35 = .ok (.iconst 0, 1) := by decide +kernel
theorem dX1_init_36 : decode cX1_init 36 = .ok (.putfield 28, 3) := by decide +kernel
theorem dX1_init_39 : decode cX1_init 39 = .ok (.return_, 1) := by decide +kernel
theorem dX1_copyFrom_0 : decode cX1_copyFrom 0 = .ok (.aload_n 0, 1) := by decide +kernel
theorem dX1_copyFrom_1 : decode cX1_copyFrom 1 = .ok (.aload_n 1, 1) := by decide +kernel
theorem dX1_copyFrom_2 : decode cX1_copyFrom 2 = .ok (.getfield 9, 3) := by decide +kernel
theorem dX1_copyFrom_5 : decode cX1_copyFrom 5 = .ok (.putfield 9, 3) := by decide +kernel
theorem dX1_copyFrom_8 : decode cX1_copyFrom 8 = .ok (.aload_n 0, 1) := by decide +kernel
theorem dX1_copyFrom_9 : decode cX1_copyFrom 9 = .ok (.aload_n 1, 1) := by decide +kernel
theorem dX1_copyFrom_10 : decode cX1_copyFrom 10 = .ok (.getfield 13, 3) := by decide +kernel
theorem dX1_copyFrom_13 : decode cX1_copyFrom 13 = .ok (.putfield 13, 3) := by decide +kernel
theorem dX1_copyFrom_16 : decode cX1_copyFrom 16 = .ok (.aload_n 0, 1) := by decide +kernel
theorem dX1_copyFrom_17 : decode cX1_copyFrom 17 = .ok (.aload_n 1, 1) := by decide +kernel
theorem dX1_copyFrom_18 : decode cX1_copyFrom 18 = .ok (.getfield 16, 3) := by decide +kernel
theorem dX1_copyFrom_21 : decode cX1_copyFrom 21 = .ok (.putfield 16, 3) := by decide +kernel
theorem dX1_copyFrom_24 : decode cX1_copyFrom 24 = .ok (.aload_n 0, 1) := by decide +kernel
theorem dX1_copyFrom_25 : decode cX1_copyFrom 25 = .ok (.aload_n 1, 1) := by decide +kernel
theorem dX1_copyFrom_26 : decode cX1_copyFrom 26 = .ok (.getfield 19, 3) := by decide +kernel
theorem dX1_copyFrom_29 : decode cX1_copyFrom 29 = .ok (.putfield 19, 3) := by decide +kernel
theorem dX1_copyFrom_32 : decode cX1_copyFrom 32 = .ok (.aload_n 0, 1) := by decide +kernel
theorem dX1_copyFrom_33 : decode cX1_copyFrom 33 = .ok (.aload_n 1, 1) := by decide +kernel
theorem dX1_copyFrom_34 : decode cX1_copyFrom 34 = .ok (.getfield 22, 3) := by decide +kernel
theorem dX1_copyFrom_37 : decode cX1_copyFrom 37 = .ok (.putfield 22, 3) := by decide +kernel
theorem dX1_copyFrom_40 : decode cX1_copyFrom 40 = .ok (.aload_n 0, 1) := by decide +kernel
theorem dX1_copyFrom_41 : decode cX1_copyFrom 41 = .ok (.aload_n 1, 1) := by decide +kernel
theorem dX1_copyFrom_42 : decode cX1_copyFrom 42 = .ok (.getfield 25, 3) := by decide +kernel
theorem dX1_copyFrom_45 : decode cX1_copyFrom 45 = .ok (.putfield 25, 3) := by decide +kernel
theorem dX1_copyFrom_48 : decode cX1_copyFrom 48 = .ok (.aload_n 0, 1) := by decide +kernel
theorem dX1_copyFrom_49 : decode cX1_copyFrom 49 = .ok (.aload_n 1, 1) := by decide +kernel
theorem dX1_copyFrom_50 : decode cX1_copyFrom 50 = .ok (.getfield 28, 3) := by decide +kernel
theorem dX1_copyFrom_53 : decode cX1_copyFrom 53 = .ok (.putfield 28, 3) := by decide +kernel
theorem dX1_copyFrom_56 : decode cX1_copyFrom 56 = .ok (.return_, 1) := by decide +kernel
theorem dX1_startAnew_0 : decode cX1_startAnew 0 = .ok (.aload_n 0, 1) := by decide +kernel
theorem dX1_startAnew_1 : decode cX1_startAnew 1 = .ok (.iconst 0, 1) := by decide +kernel
theorem dX1_startAnew_2 : decode cX1_startAnew 2 = .ok (.putfield 9, 3) := by decide +kernel
theorem dX1_startAnew_5 : decode cX1_startAnew 5 = .ok (.aload_n 0, 1) := by decide +kernel
theorem dX1_startAnew_6 : decode cX1_startAnew 6 = .ok (.iconst 0, 1) := by decide +kernel
theorem dX1_startAnew_7 : decode cX1_startAnew 7 = .ok (.putfield 13, 3) := by decide +kernel
theorem dX1_startAnew_10 : decode cX1_startAnew 10 = .ok (.aload_n 0, 1) := by decide +kernel
theorem dX1_startAnew_11 : decode cX1_startAnew 11 = .ok (.iconst 0, 1) := by decide +kernel
theorem dX1_startAnew_12 : decode cX1_startAnew 12 = .ok (.putfield 16, 3) := by decide +kernel
theorem dX1_startAnew_15 : decode cX1_startAnew 15 = .ok (.aload_n 0, 1) := by decide +kernel
theorem dX1_startAnew_16 : decode cX1_startAnew 16 = .ok (.iconst 0, 1) := by decide +kernel
theorem dX1_startAnew_17 : decode cX1_startAnew 17 = .ok (.putfield 19, 3) := by decide +kernel
theorem dX1_startAnew_20 : decode cX1_startAnew 20 = .ok (.aload_n 0, 1) := by decide +kernel
theorem dX1_startAnew_21 : decode cX1_startAnew 21 = .ok (.iconst 0, 1) := by decide +kernel
theorem dX1_startAnew_22 : decode cX1_startAnew 22 = .ok (.putfield 22, 3) := by decide +kernel
theorem dX1_startAnew_25 : decode cX1_startAnew 25 = .ok (.aload_n 0, 1) := by decide +kernel
theorem dX1_startAnew_26 : decode cX1_startAnew 26 = .ok (.iconst 0, 1) := by decide +kernel
theorem dX1_startAnew_27 : decode cX1_startAnew 27 = .ok (.putfield 25, 3) := by decide +kernel
theorem dX1_startAnew_30 : decode cX1_startAnew 30 = .ok (.aload_n 0, 1) := by decide +kernel
theorem dX1_startAnew_31 : decode cX1_startAnew 31 = .ok (.iconst 0, 1) := by decide +kernel
theorem dX1_startAnew_32 : decode cX1_startAnew 32 = .ok (.putfield 28, 3) := by decide +kernel
theorem dX1_startAnew_35 : decode cX1_startAnew 35 = .ok (.return_, 1) := by decide +kernel
set_option maxRecDepth 20000 in
theorem ggX1_judge_X1_countInRun : GoodIn wsX1_judge wsX1_countInRun := goodIn_r _ [9, 2, 10, 31, 32, 33, 34, 35, 36, 37] (by decide +kernel) (by decide +kernel)
set_option maxRecDepth 20000 in
theorem gX1_judge_X1_countInRun : GoodIn wsX1_judge (wsV RX1 31 RX1 yX1_countInRun wsX1_countInRun) := goodIn_app (goodIn_of _ (by decide +kernel)) ggX1_judge_X1_countInRun
set_option maxRecDepth 20000 in
theorem ggX1_judge_X1_failsShare : GoodIn wsX1_judge wsX1_failsShare := goodIn_r _ [14, 15, 16, 31, 32, 33, 34, 35, 36, 37] (by decide +kernel) (by decide +kernel)
set_option maxRecDepth 20000 in
theorem gX1_judge_X1_failsShare : GoodIn wsX1_judge (wsV RX1 40 RX1 yX1_failsShare wsX1_failsShare) := goodIn_app (goodIn_of _ (by decide +kernel)) ggX1_judge_X1_failsShare
set_option maxRecDepth 20000 in
theorem ggX1_judge_X1_bringAlarm : GoodIn wsX1_judge wsX1_bringAlarm := goodIn_r _ [20, 4, 21, 31, 32, 33, 34, 35, 36, 37] (by decide +kernel) (by decide +kernel)
set_option maxRecDepth 20000 in
theorem gX1_judge_X1_bringAlarm : GoodIn wsX1_judge (wsV RX1 47 RX1 yX1_bringAlarm wsX1_bringAlarm) := goodIn_app (goodIn_of _ (by decide +kernel)) ggX1_judge_X1_bringAlarm
set_option maxRecDepth 20000 in
theorem ggX1_judge_X1_countInStartUp : GoodIn wsX1_judge wsX1_countInStartUp := goodIn_r _ [25, 26, 4, 31, 32, 33, 34, 35, 36, 37] (by decide +kernel) (by decide +kernel)
set_option maxRecDepth 20000 in
theorem gX1_judge_X1_countInStartUp : GoodIn wsX1_judge (wsV RX1 50 RX1 yX1_countInStartUp wsX1_countInStartUp) := goodIn_app (goodIn_of _ (by decide +kernel)) ggX1_judge_X1_countInStartUp
theorem dX1_judge_0 : decode cX1_judge 0 = .ok (.aload_n 0, 1) := by decide +kernel
theorem dX1_judge_1 : decode cX1_judge 1 = .ok (.iload_n 1, 1) := by decide +kernel
theorem dX1_judge_2 : decode cX1_judge 2 = .ok (.invokevirtual 31, 3) := by decide +kernel
theorem dX1_judge_5 : decode cX1_judge 5 = .ok (.aload_n 0, 1) := by decide +kernel
theorem dX1_judge_6 : decode cX1_judge 6 = .ok (.iload_n 1, 1) := by decide +kernel
theorem dX1_judge_7 : decode cX1_judge 7 = .ok (.aload_n 2, 1) := by decide +kernel
theorem dX1_judge_8 : decode cX1_judge 8 = .ok (.getfield 35, 3) := by decide +kernel
theorem dX1_judge_11 : decode cX1_judge 11 = .ok (.invokevirtual 40, 3) := by decide +kernel
theorem dX1_judge_14 : decode cX1_judge 14 = .ok (.istore_n 3, 1) := by decide +kernel
theorem dX1_judge_15 : decode cX1_judge 15 = .ok (.aload_n 0, 1) := by decide +kernel
theorem dX1_judge_16 : decode cX1_judge 16 = .ok (.getfield 19, 3) := by decide +kernel
theorem dX1_judge_19 : decode cX1_judge 19 = .ok (.aload_n 2, 1) := by decide +kernel
theorem dX1_judge_20 : decode cX1_judge 20 = .ok (.getfield 44, 3) := by decide +kernel
theorem dX1_judge_23 : decode cX1_judge 23 = .ok (.if_icmp .le 11, 3) := by decide +kernel
theorem dX1_judge_26 : decode cX1_judge 26 = .ok (.aload_n 0, 1) := by decide +kernel
theorem dX1_judge_27 : decode cX1_judge 27 = .ok (.iconst 1, 1) := by decide +kernel
theorem dX1_judge_28 : decode cX1_judge 28 = .ok (.invokevirtual 47, 3) := by decide +kernel
theorem dX1_judge_31 : decode cX1_judge 31 = .ok (.goto 26, 3) := by decide +kernel
theorem dX1_judge_34 : decode cX1_judge 34 = .ok (.iload_n 3, 1) := by decide +kernel
theorem dX1_judge_35 : decode cX1_judge 35 = .ok (.ifCond .eq 11, 3) := by decide +kernel
theorem dX1_judge_38 : decode cX1_judge 38 = .ok (.aload_n 0, 1) := by decide +kernel
theorem dX1_judge_39 : decode cX1_judge 39 = .ok (.iconst 2, 1) := by decide +kernel
theorem dX1_judge_40 : decode cX1_judge 40 = .ok (.invokevirtual 47, 3) := by decide +kernel
theorem dX1_judge_43 : decode cX1_judge 43 = .ok (.goto 14, 3) := by decide +kernel
theorem dX1_judge_46 : decode cX1_judge 46 = .ok (.aload_n 0, 1) := by decide +kernel
theorem dX1_judge_47 : decode cX1_judge 47 = .ok (.getfield 9, 3) := by decide +kernel
theorem dX1_judge_50 : decode cX1_judge 50 = .ok (.ifCond .ne 7, 3) := by decide +kernel
theorem dX1_judge_53 : decode cX1_judge 53 = .ok (.aload_n 0, 1) := by decide +kernel
theorem dX1_judge_54 : decode cX1_judge 54 = .ok (.invokevirtual 50, 3) := by decide +kernel
theorem dX1_judge_57 : decode cX1_judge 57 = .ok (.return_, 1) := by decide +kernel
theorem dX1_countInRun_0 : decode cX1_countInRun 0 = .ok (.aload_n 0, 1) := by decide +kernel
theorem dX1_countInRun_1 : decode cX1_countInRun 1 = .ok (.aload_n 0, 1) := by decide +kernel
theorem dX1_countInRun_2 : decode cX1_countInRun 2 = .ok (.getfield 19, 3) := by decide +kernel
theorem dX1_countInRun_5 : decode cX1_countInRun 5 = .ok (.ifCond .le 20, 3) := by decide +kernel
theorem dX1_countInRun_8 : decode cX1_countInRun 8 = .ok (.iload_n 1, 1) := by decide +kernel
theorem dX1_countInRun_9 : decode cX1_countInRun 9 = .ok (.aload_n 0, 1) := by decide +kernel
theorem dX1_countInRun_10 : decode cX1_countInRun 10 = .ok (.getfield 22, 3) := by decide +kernel
theorem dX1_countInRun_13 : decode cX1_countInRun 13 = .ok (.if_icmp .ne 12, 3) := by decide +kernel
theorem dX1_countInRun_16 : decode cX1_countInRun 16 = .ok (.aload_n 0, 1) := by decide +kernel
theorem dX1_countInRun_17 : decode cX1_countInRun 17 = .ok (.getfield 19, 3) := by decide +kernel
theorem dX1_countInRun_20 : decode cX1_countInRun 20 = .ok (.iconst 1, 1) := by decide +kernel
theorem dX1_countInRun_21 : decode cX1_countInRun 21 = .ok (.iadd, 1) := by decide +kernel
theorem dX1_countInRun_22 : decode cX1_countInRun 22 = .ok (.goto 4, 3) := by decide +kernel
theorem dX1_countInRun_25 : decode cX1_countInRun 25 = .ok (.iconst 1, 1) := by decide +kernel
theorem dX1_countInRun_26 : decode cX1_countInRun 26 = .ok (.putfield 19, 3) := by decide +kernel
theorem dX1_countInRun_29 : decode cX1_countInRun 29 = .ok (.aload_n 0, 1) := by decide +kernel
theorem dX1_countInRun_30 : decode cX1_countInRun 30 = .ok (.iload_n 1, 1) := by decide +kernel
theorem dX1_countInRun_31 : decode cX1_countInRun 31 = .ok (.putfield 22, 3) := by decide +kernel
theorem dX1_countInRun_34 : decode cX1_countInRun 34 = .ok (.return_, 1) := by decide +kernel
theorem dX1_failsShare_0 : decode cX1_failsShare 0 = .ok (.aload_n 0, 1) := by decide +kernel
theorem dX1_failsShare_1 : decode cX1_failsShare 1 = .ok (.dup, 1) := by decide +kernel
theorem dX1_failsShare_2 : decode cX1_failsShare 2 = .ok (.getfield 25, 3) := by decide +kernel
theorem dX1_failsShare_5 : decode cX1_failsShare 5 = .ok (.iconst 1, 1) := by decide +kernel
theorem dX1_failsShare_6 : decode cX1_failsShare 6 = .ok (.iadd, 1) := by decide +kernel
theorem dX1_failsShare_7 : decode cX1_failsShare 7 = .ok (.putfield 25, 3) := by decide +kernel
theorem dX1_failsShare_10 : decode cX1_failsShare 10 = .ok (.aload_n 0, 1) := by decide +kernel
theorem dX1_failsShare_11 : decode cX1_failsShare 11 = .ok (.dup, 1) := by decide +kernel
theorem dX1_failsShare_12 : decode cX1_failsShare 12 = .ok (.getfield 28, 3) := by decide +kernel
theorem dX1_failsShare_15 : decode cX1_failsShare 15 = .ok (.iload_n 1, 1) := by decide +kernel
theorem dX1_failsShare_16 : decode cX1_failsShare 16 = .ok (.iadd, 1) := by decide +kernel
theorem dX1_failsShare_17 : decode cX1_failsShare 17 = .ok (.putfield 28, 3) := by decide +kernel
theorem dX1_failsShare_20 : decode cX1_failsShare 20 = .ok (.aload_n 0, 1) := by decide +kernel
theorem dX1_failsShare_21 : decode cX1_failsShare 21 = .ok (.getfield 25, 3) := by decide +kernel
theorem dX1_failsShare_24 : decode cX1_failsShare 24 = .ok (.bipush 32, 2) := by decide +kernel
theorem dX1_failsShare_26 : decode cX1_failsShare 26 = .ok (.if_icmp .ge 5, 3) := by decide +kernel
theorem dX1_failsShare_29 : decode cX1_failsShare 29 = .ok (.iconst 0, 1) := by decide +kernel
theorem dX1_failsShare_30 : decode cX1_failsShare 30 = .ok (.ireturn, 1) := by decide +kernel
theorem dX1_failsShare_31 : decode cX1_failsShare 31 = .ok (.aload_n 0, 1) := by decide +kernel
theorem dX1_failsShare_32 : decode cX1_failsShare 32 = .ok (.getfield 28, 3) := by decide +kernel
theorem dX1_failsShare_35 : decode cX1_failsShare 35 = .ok (.istore_n 3, 1) := by decide +kernel
theorem dX1_failsShare_36 : decode cX1_failsShare 36 = .ok (.aload_n 0, 1) := by decide +kernel
theorem dX1_failsShare_37 : decode cX1_failsShare 37 = .ok (.iconst 0, 1) := by decide +kernel
theorem dX1_failsShare_38 : decode cX1_failsShare 38 = .ok (.putfield 25, 3) := by decide +kernel
theorem dX1_failsShare_41 : decode cX1_failsShare 41 = .ok (.aload_n 0, 1) := by decide +kernel
theorem dX1_failsShare_42 : decode cX1_failsShare 42 = .ok (.iconst 0, 1) := by decide +kernel
theorem dX1_failsShare_43 : decode cX1_failsShare 43 = .ok (.putfield 28, 3) := by decide +kernel
theorem dX1_failsShare_46 : decode cX1_failsShare 46 = .ok (.iload_n 3, 1) := by decide +kernel
theorem dX1_failsShare_47 : decode cX1_failsShare 47 = .ok (.iload_n 2, 1) := by decide +kernel
theorem dX1_failsShare_48 : decode cX1_failsShare 48 = .ok (.if_icmp .lt 11, 3) := by decide +kernel
theorem dX1_failsShare_51 : decode cX1_failsShare 51 = .ok (.iload_n 3, 1) := by decide +kernel
theorem dX1_failsShare_52 : decode cX1_failsShare 52 = .ok (.bipush 32, 2) := by decide +kernel
theorem dX1_failsShare_54 : decode cX1_failsShare 54 = .ok (.iload_n 2, 1) := by decide +kernel
theorem dX1_failsShare_55 : decode cX1_failsShare 55 = .ok (.isub, 1) := by decide +kernel
theorem dX1_failsShare_56 : decode cX1_failsShare 56 = .ok (.if_icmp .le 7, 3) := by decide +kernel
theorem dX1_failsShare_59 : decode cX1_failsShare 59 = .ok (.iconst 1, 1) := by decide +kernel
theorem dX1_failsShare_60 : decode cX1_failsShare 60 = .ok (.goto 4, 3) := by decide +kernel
theorem dX1_failsShare_63 : decode cX1_failsShare 63 = .ok (.iconst 0, 1) := by decide +kernel
theorem dX1_failsShare_64 : decode cX1_failsShare 64 = .ok (.ireturn, 1) := by decide +kernel
theorem dX1_bringAlarm_0 : decode cX1_bringAlarm 0 = .ok (.aload_n 0, 1) := by decide +kernel
theorem dX1_bringAlarm_1 : decode cX1_bringAlarm 1 = .ok (.iconst 2, 1) := by decide +kernel
theorem dX1_bringAlarm_2 : decode cX1_bringAlarm 2 = .ok (.putfield 9, 3) := by decide +kernel
theorem dX1_bringAlarm_5 : decode cX1_bringAlarm 5 = .ok (.aload_n 0, 1) := by decide +kernel
theorem dX1_bringAlarm_6 : decode cX1_bringAlarm 6 = .ok (.iload_n 1, 1) := by decide +kernel
theorem dX1_bringAlarm_7 : decode cX1_bringAlarm 7 = .ok (.putfield 13, 3) := by decide +kernel
theorem dX1_bringAlarm_10 : decode cX1_bringAlarm 10 = .ok (.return_, 1) := by decide +kernel
theorem dX1_countInStartUp_0 : decode cX1_countInStartUp 0 = .ok (.aload_n 0, 1) := by decide +kernel
theorem dX1_countInStartUp_1 : decode cX1_countInStartUp 1 = .ok (.dup, 1) := by decide +kernel
theorem dX1_countInStartUp_2 : decode cX1_countInStartUp 2 = .ok (.getfield 16, 3) := by decide +kernel
theorem dX1_countInStartUp_5 : decode cX1_countInStartUp 5 = .ok (.iconst 1, 1) := by decide +kernel
theorem dX1_countInStartUp_6 : decode cX1_countInStartUp 6 = .ok (.iadd, 1) := by decide +kernel
theorem dX1_countInStartUp_7 : decode cX1_countInStartUp 7 = .ok (.putfield 16, 3) := by decide +kernel
theorem dX1_countInStartUp_10 : decode cX1_countInStartUp 10 = .ok (.aload_n 0, 1) := by decide +kernel
theorem dX1_countInStartUp_11 : decode cX1_countInStartUp 11 = .ok (.getfield 16, 3) := by decide +kernel
theorem dX1_countInStartUp_14 : decode cX1_countInStartUp 14 = .ok (.bipush 64, 2) := by decide +kernel
theorem dX1_countInStartUp_16 : decode cX1_countInStartUp 16 = .ok (.if_icmp .lt 8, 3) := by decide +kernel
theorem dX1_countInStartUp_19 : decode cX1_countInStartUp 19 = .ok (.aload_n 0, 1) := by decide +kernel
theorem dX1_countInStartUp_20 : decode cX1_countInStartUp 20 = .ok (.iconst 1, 1) := by decide +kernel
theorem dX1_countInStartUp_21 : decode cX1_countInStartUp 21 = .ok (.putfield 9, 3) := by decide +kernel
theorem dX1_countInStartUp_24 : decode cX1_countInStartUp 24 = .ok (.return_, 1) := by decide +kernel
set_option maxRecDepth 20000 in
theorem ggX2_init_X6_init : GoodIn wsX2_init wsX6_init := goodIn_r _ [14, 15, 2, 3, 16, 17, 18, 19, 20, 21, 22, 23, 24, 25, 26, 27, 28, 29, 30, 31, 32, 33, 34, 35, 36, 37, 38, 39, 40, 41, 42, 43, 44, 45, 46, 47, 48, 49, 50, 51, 52, 53, 54, 55, 56, 57, 58, 59, 60, 61, 62, 63, 64, 65, 66, 67, 68, 69, 70, 71, 72, 73, 74, 75, 76, 77, 78, 79, 85, 86, 87, 88, 89, 90, 91, 92, 93, 94, 95, 96, 97, 98, 99, 100, 101, 102, 103, 104, 105, 106, 107, 108, 109, 110, 111, 112, 113, 114, 115, 116, 117] (by decide +kernel) (by decide +kernel)
set_option maxRecDepth 20000 in
theorem gX2_init_X6_init : GoodIn wsX2_init (wsX6_init) := ggX2_init_X6_init
theorem dX2_init_0 : decode cX2_init 0 = .ok (.aload_n 0, 1) := by decide +kernel
theorem dX2_init_1 : decode cX2_init 1 = .ok (.invokespecial 3, 3) := by decide +kernel
theorem dX2_init_4 : decode cX2_init 4 = .ok (.aload_n 0, 1) := by decide +kernel
theorem dX2_init_5 : decode cX2_init 5 = .ok (.iconst 0, 1) := by decide +kernel
theorem dX2_init_6 : decode cX2_init 6 = .ok (.putfield 9, 3) := by decide +kernel
theorem dX2_init_9 : decode cX2_init 9 = .ok (.aload_n 0, 1) := by decide +kernel
theorem dX2_init_10 : decode cX2_init 10 = .ok (.new 15, 3) := by decide +kernel
theorem dX2_init_13 : decode cX2_init 13 = .ok (.dup, 1) := by decide +kernel
theorem dX2_init_14 : decode cX2_init 14 = .ok (.invokespecial 17, 3) := by decide +kernel
theorem dX2_init_17 : decode cX2_init 17 = .ok (.putfield 18, 3) := by decide +kernel
theorem dX2_init_20 : decode cX2_init 20 = .ok (.aload_n 0, 1) := by decide +kernel
theorem dX2_init_21 : decode cX2_init 21 = .ok (.new 15, 3) := by decide +kernel
theorem dX2_init_24 : decode cX2_init 24 = .ok (.dup, 1) := by decide +kernel
theorem dX2_init_25 : decode cX2_init 25 = .ok (.invokespecial 17, 3) := by decide +kernel
theorem dX2_init_28 : decode cX2_init 28 = .ok (.putfield 22, 3) := by decide +kernel
theorem dX2_init_31 : decode cX2_init 31 = .ok (.aload_n 0, 1) := by decide +kernel
theorem dX2_init_32 : decode cX2_init 32 = .ok (.new 15, 3) := by decide +kernel
theorem dX2_init_35 : decode cX2_init 35 = .ok (.dup, 1) := by decide +kernel
theorem dX2_init_36 : decode cX2_init 36 = .ok (.invokespecial 17, 3) := by decide +kernel
theorem dX2_init_39 : decode cX2_init 39 = .ok (.putfield 25, 3) := by decide +kernel
theorem dX2_init_42 : decode cX2_init 42 = .ok (.aload_n 0, 1) := by decide +kernel
theorem dX2_init_43 : decode cX2_init 43 = .ok (.new 15, 3) := by decide +kernel
theorem dX2_init_46 : decode cX2_init 46 = .ok (.dup, 1) := by decide +kernel
theorem dX2_init_47 : decode cX2_init 47 = .ok (.invokespecial 17, 3) := by decide +kernel
theorem dX2_init_50 : decode cX2_init 50 = .ok (.putfield 28, 3) := by decide +kernel
theorem dX2_init_53 : decode cX2_init 53 = .ok (.return_, 1) := by decide +kernel
set_option maxRecDepth 20000 in
theorem ggX2_keep_X6_copyFrom : GoodIn wsX2_keep wsX6_copyFrom := goodIn_r _ [10, 11, 12, 13, 14, 15, 16, 17, 18, 19, 20, 21, 22, 23, 24, 25, 26, 27, 28, 29, 30, 31, 32, 33, 34, 35, 36, 37, 38, 39, 40, 41, 42, 43, 44, 45, 46, 47, 48, 49, 50, 51, 52, 53, 54, 55, 56, 57, 58, 59, 60, 61, 62, 63, 64, 65, 66, 67, 68, 74, 75, 76, 77, 78, 79, 80, 81, 82, 83, 84, 85, 86, 87, 88, 89, 90, 91, 92, 93, 94, 95, 96, 97, 98, 99, 100, 101, 102, 103, 104, 105, 106] (by decide +kernel) (by decide +kernel)
set_option maxRecDepth 20000 in
theorem gX2_keep_X6_copyFrom : GoodIn wsX2_keep (wsV RX2 31 RX6 yX6_copyFrom wsX6_copyFrom) := goodIn_app (goodIn_of _ (by decide +kernel)) ggX2_keep_X6_copyFrom
theorem dX2_keep_0 : decode cX2_keep 0 = .ok (.aload_n 0, 1) := by decide +kernel
theorem dX2_keep_1 : decode cX2_keep 1 = .ok (.getfield 28, 3) := by decide +kernel
theorem dX2_keep_4 : decode cX2_keep 4 = .ok (.aload_n 0, 1) := by decide +kernel
theorem dX2_keep_5 : decode cX2_keep 5 = .ok (.getfield 25, 3) := by decide +kernel
theorem dX2_keep_8 : decode cX2_keep 8 = .ok (.invokevirtual 31, 3) := by decide +kernel
theorem dX2_keep_11 : decode cX2_keep 11 = .ok (.aload_n 0, 1) := by decide +kernel
theorem dX2_keep_12 : decode cX2_keep 12 = .ok (.getfield 25, 3) := by decide +kernel
theorem dX2_keep_15 : decode cX2_keep 15 = .ok (.aload_n 0, 1) := by decide +kernel
theorem dX2_keep_16 : decode cX2_keep 16 = .ok (.getfield 22, 3) := by decide +kernel
theorem dX2_keep_19 : decode cX2_keep 19 = .ok (.invokevirtual 31, 3) := by decide +kernel
theorem dX2_keep_22 : decode cX2_keep 22 = .ok (.aload_n 0, 1) := by decide +kernel
theorem dX2_keep_23 : decode cX2_keep 23 = .ok (.getfield 22, 3) := by decide +kernel
theorem dX2_keep_26 : decode cX2_keep 26 = .ok (.aload_n 0, 1) := by decide +kernel
theorem dX2_keep_27 : decode cX2_keep 27 = .ok (.getfield 18, 3) := by decide +kernel
theorem dX2_keep_30 : decode cX2_keep 30 = .ok (.invokevirtual 31, 3) := by decide +kernel
theorem dX2_keep_33 : decode cX2_keep 33 = .ok (.aload_n 0, 1) := by decide +kernel
theorem dX2_keep_34 : decode cX2_keep 34 = .ok (.getfield 18, 3) := by decide +kernel
theorem dX2_keep_37 : decode cX2_keep 37 = .ok (.aload_n 1, 1) := by decide +kernel
theorem dX2_keep_38 : decode cX2_keep 38 = .ok (.invokevirtual 31, 3) := by decide +kernel
theorem dX2_keep_41 : decode cX2_keep 41 = .ok (.aload_n 0, 1) := by decide +kernel
theorem dX2_keep_42 : decode cX2_keep 42 = .ok (.getfield 9, 3) := by decide +kernel
theorem dX2_keep_45 : decode cX2_keep 45 = .ok (.iconst 4, 1) := by decide +kernel
theorem dX2_keep_46 : decode cX2_keep 46 = .ok (.if_icmp .ge 13, 3) := by decide +kernel
theorem dX2_keep_49 : decode cX2_keep 49 = .ok (.aload_n 0, 1) := by decide +kernel
theorem dX2_keep_50 : decode cX2_keep 50 = .ok (.dup, 1) := by decide +kernel
theorem dX2_keep_51 : decode cX2_keep 51 = .ok (.getfield 9, 3) := by decide +kernel
theorem dX2_keep_54 : decode cX2_keep 54 = .ok (.iconst 1, 1) := by decide +kernel
theorem dX2_keep_55 : decode cX2_keep 55 = .ok (.iadd, 1) := by decide +kernel
theorem dX2_keep_56 : decode cX2_keep 56 = .ok (.putfield 9, 3) := by decide +kernel
theorem dX2_keep_59 : decode cX2_keep 59 = .ok (.return_, 1) := by decide +kernel
set_option maxRecDepth 20000 in
theorem ggX2_bringBack_X6_copyFrom : GoodIn wsX2_bringBack wsX6_copyFrom := goodIn_r _ [11, 12, 13, 14, 15, 16, 17, 18, 19, 20, 21, 22, 23, 24, 25, 26, 27, 28, 29, 30, 31, 32, 33, 34, 35, 36, 37, 38, 39, 40, 41, 42, 43, 44, 45, 46, 47, 48, 49, 50, 51, 52, 53, 54, 55, 56, 57, 58, 59, 60, 61, 62, 63, 64, 65, 66, 67, 68, 69, 75, 76, 77, 78, 79, 80, 81, 82, 83, 84, 85, 86, 87, 88, 89, 90, 91, 92, 93, 94, 95, 96, 97, 98, 99, 100, 101, 102, 103, 104, 105, 106, 107] (by decide +kernel) (by decide +kernel)
set_option maxRecDepth 20000 in
theorem gX2_bringBack_X6_copyFrom : GoodIn wsX2_bringBack (wsV RX2 31 RX6 yX6_copyFrom wsX6_copyFrom) := goodIn_app (goodIn_of _ (by decide +kernel)) ggX2_bringBack_X6_copyFrom
theorem dX2_bringBack_0 : decode cX2_bringBack 0 = .ok (.aload_n 0, 1) := by decide +kernel
theorem dX2_bringBack_1 : decode cX2_bringBack 1 = .ok (.getfield 9, 3) := by decide +kernel
theorem dX2_bringBack_4 : decode cX2_bringBack 4 = .ok (.ifCond .gt 6, 3) := by decide +kernel
theorem dX2_bringBack_7 : decode cX2_bringBack 7 = .ok (.ldc 35, 2) := by decide +kernel
theorem dX2_bringBack_9 : decode cX2_bringBack 9 = .ok (.ireturn, 1) := by decide +kernel
theorem dX2_bringBack_10 : decode cX2_bringBack 10 = .ok (.aload_n 1, 1) := by decide +kernel
theorem dX2_bringBack_11 : decode cX2_bringBack 11 = .ok (.aload_n 0, 1) := by decide +kernel
theorem dX2_bringBack_12 : decode cX2_bringBack 12 = .ok (.getfield 18, 3) := by decide +kernel
theorem dX2_bringBack_15 : decode cX2_bringBack 15 = .ok (.invokevirtual 31, 3) := by decide +kernel
theorem dX2_bringBack_18 : decode cX2_bringBack 18 = .ok (.aload_n 0, 1) := by decide +kernel
theorem dX2_bringBack_19 : decode cX2_bringBack 19 = .ok (.getfield 18, 3) := by decide +kernel
theorem dX2_bringBack_22 : decode cX2_bringBack 22 = .ok (.aload_n 0, 1) := by decide +kernel
theorem dX2_bringBack_23 : decode cX2_bringBack 23 = .ok (.getfield 22, 3) := by decide +kernel
theorem dX2_bringBack_26 : decode cX2_bringBack 26 = .ok (.invokevirtual 31, 3) := by decide +kernel
theorem dX2_bringBack_29 : decode cX2_bringBack 29 = .ok (.aload_n 0, 1) := by decide +kernel
theorem dX2_bringBack_30 : decode cX2_bringBack 30 = .ok (.getfield 22, 3) := by decide +kernel
theorem dX2_bringBack_33 : decode cX2_bringBack 33 = .ok (.aload_n 0, 1) := by decide +kernel
theorem dX2_bringBack_34 : decode cX2_bringBack 34 = .ok (.getfield 25, 3) := by decide +kernel
theorem dX2_bringBack_37 : decode cX2_bringBack 37 = .ok (.invokevirtual 31, 3) := by decide +kernel
theorem dX2_bringBack_40 : decode cX2_bringBack 40 = .ok (.aload_n 0, 1) := by decide +kernel
theorem dX2_bringBack_41 : decode cX2_bringBack 41 = .ok (.getfield 25, 3) := by decide +kernel
theorem dX2_bringBack_44 : decode cX2_bringBack 44 = .ok (.aload_n 0, 1) := by decide +kernel
theorem dX2_bringBack_45 : decode cX2_bringBack 45 = .ok (.getfield 28, 3) := by decide +kernel
theorem dX2_bringBack_48 : decode cX2_bringBack 48 = .ok (.invokevirtual 31, 3) := by decide +kernel
theorem dX2_bringBack_51 : decode cX2_bringBack 51 = .ok (.aload_n 0, 1) := by decide +kernel
theorem dX2_bringBack_52 : decode cX2_bringBack 52 = .ok (.dup, 1) := by decide +kernel
theorem dX2_bringBack_53 : decode cX2_bringBack 53 = .ok (.getfield 9, 3) := by decide +kernel
theorem dX2_bringBack_56 : decode cX2_bringBack 56 = .ok (.iconst 1, 1) := by decide +kernel
theorem dX2_bringBack_57 : decode cX2_bringBack 57 = .ok (.isub, 1) := by decide +kernel
theorem dX2_bringBack_58 : decode cX2_bringBack 58 = .ok (.putfield 9, 3) := by decide +kernel
theorem dX2_bringBack_61 : decode cX2_bringBack 61 = .ok (.aload_n 0, 1) := by decide +kernel
theorem dX2_bringBack_62 : decode cX2_bringBack 62 = .ok (.getfield 9, 3) := by decide +kernel
theorem dX2_bringBack_65 : decode cX2_bringBack 65 = .ok (.ireturn, 1) := by decide +kernel
set_option maxRecDepth 20000 in
theorem ggX3_init_X8_init : GoodIn wsX3_init wsX8_init := goodIn_r _ [18, 19, 2, 3, 20, 21, 22, 33, 34] (by decide +kernel) (by decide +kernel)
set_option maxRecDepth 20000 in
theorem gX3_init_X8_init_n39 : GoodIn wsX3_init (wsX8_init) := ggX3_init_X8_init
theorem dX3_init_0 : decode cX3_init 0 = .ok (.aload_n 0, 1) := by decide +kernel
theorem dX3_init_1 : decode cX3_init 1 = .ok (.invokespecial 1, 3) := by decide +kernel
theorem dX3_init_4 : decode cX3_init 4 = .ok (.aload_n 0, 1) := by decide +kernel
theorem dX3_init_5 : decode cX3_init 5 = .ok (.iconst 0, 1) := by decide +kernel
theorem dX3_init_6 : decode cX3_init 6 = .ok (.putfield 7, 3) := by decide +kernel
theorem dX3_init_9 : decode cX3_init 9 = .ok (.aload_n 0, 1) := by decide +kernel
theorem dX3_init_10 : decode cX3_init 10 = .ok (.iconst 0, 1) := by decide +kernel
theorem dX3_init_11 : decode cX3_init 11 = .ok (.putfield 13, 3) := by decide +kernel
theorem dX3_init_14 : decode cX3_init 14 = .ok (.aload_n 0, 1) := by decide +kernel
theorem dX3_init_15 : decode cX3_init 15 = .ok (.iconst 0, 1) := by decide +kernel
theorem dX3_init_16 : decode cX3_init 16 = .ok (.putfield 16, 3) := by decide +kernel
theorem dX3_init_19 : decode cX3_init 19 = .ok (.aload_n 0, 1) := by decide +kernel
theorem dX3_init_20 : decode cX3_init 20 = .ok (.iconst 0, 1) := by decide +kernel
theorem dX3_init_21 : decode cX3_init 21 = .ok (.putfield 19, 3) := by decide +kernel
theorem dX3_init_24 : decode cX3_init 24 = .ok (.aload_n 0, 1) := by decide +kernel
theorem dX3_init_25 : decode cX3_init 25 = .ok (.iconst 0, 1) := by decide +kernel
theorem dX3_init_26 : decode cX3_init 26 = .ok (.putfield 22, 3) := by decide +kernel
theorem dX3_init_29 : decode cX3_init 29 = .ok (.aload_n 0, 1) := by decide +kernel
theorem dX3_init_30 : decode cX3_init 30 = .ok (.iconst 0, 1) := by decide +kernel
theorem dX3_init_31 : decode cX3_init 31 = .ok (.putfield 27, 3) := by decide +kernel
theorem dX3_init_34 : decode cX3_init 34 = .ok (.aload_n 0, 1) := by decide +kernel
theorem dX3_init_35 : decode cX3_init 35 = .ok (.iconst 0, 1) := by decide +kernel
theorem dX3_init_36 : decode cX3_init 36 = .ok (.putfield 30, 3) := by decide +kernel
theorem dX3_init_39 : decode cX3_init 39 = .ok (.aload_n 0, 1) := by decide +kernel
theorem dX3_init_40 : decode cX3_init 40 = .ok (.iconst 0, 1) := by decide +kernel
theorem dX3_init_41 : decode cX3_init 41 = .ok (.putfield 33, 3) := by decide +kernel
theorem dX3_init_44 : decode cX3_init 44 = .ok (.aload_n 0, 1) := by decide +kernel
theorem dX3_init_45 : decode cX3_init 45 = .ok (.iconst 0, 1) := by decide +kernel
theorem dX3_init_46 : decode cX3_init 46 = .ok (.putfield 36, 3) := by decide +kernel
theorem dX3_init_49 : decode cX3_init 49 = .ok (.aload_n 0, 1) := by decide +kernel
theorem dX3_init_50 : decode cX3_init 50 = .ok (.new 25, 3) := by decide +kernel
theorem dX3_init_53 : decode cX3_init 53 = .ok (.dup, 1) := by decide +kernel
theorem dX3_init_54 : decode cX3_init 54 = .ok (.invokespecial 39, 3) := by decide +kernel
theorem dX3_init_57 : decode cX3_init 57 = .ok (.putfield 40, 3) := by decide +kernel
theorem dX3_init_60 : decode cX3_init 60 = .ok (.return_, 1) := by decide +kernel
set_option maxRecDepth 20000 in
theorem ggX3_areDoneOn_X3_isRead : GoodIn wsX3_areDoneOn wsX3_isRead := goodIn_r _ [12, 3, 1, 13, 14, 15, 16, 17, 18, 19, 20, 21, 22, 23, 24, 25, 26, 27, 28, 29, 30, 11, 31, 32, 33, 34, 35, 36, 37, 38, 39, 40, 41, 42, 198, 199, 200, 201, 202, 203, 204, 205, 206, 207, 208, 209] (by decide +kernel) (by decide +kernel)
set_option maxRecDepth 20000 in
theorem gX3_areDoneOn_X3_isRead : GoodIn wsX3_areDoneOn (wsV RX3 47 RX3 yX3_isRead wsX3_isRead) := goodIn_app (goodIn_of _ (by decide +kernel)) ggX3_areDoneOn_X3_isRead
set_option maxRecDepth 20000 in
theorem ggX3_areDoneOn_X3_doOn : GoodIn wsX3_areDoneOn wsX3_doOn := goodIn_r _ [46, 13, 41, 42, 36, 47, 48, 49, 50, 51, 52, 53, 54, 55, 25, 26, 27, 56, 57, 58, 59, 60, 61, 62, 63, 64, 65, 66, 67, 68, 69, 70, 71, 72, 73, 74, 75, 76, 77, 78, 79, 80, 81, 82, 83, 84, 85, 86, 87, 88, 89, 90, 91, 92, 93, 94, 95, 23, 96, 97, 98, 99, 100, 101, 102, 103, 104, 105, 106, 107, 108, 109, 110, 111, 112, 113, 114, 115, 116, 117, 118, 119, 120, 121, 122, 123, 124, 125, 126, 127, 128, 129, 130, 131, 132, 133, 134, 135, 136, 137, 138, 139, 140, 141, 142, 143, 144, 145, 146, 147, 148, 149, 150, 151, 152, 153, 154, 155, 156, 157, 158, 159, 160, 161, 162, 163, 164, 165, 166, 167, 168, 169, 170, 171, 172, 173, 174, 175, 176, 177, 178, 179, 180, 181, 182, 183, 184, 185, 186, 187, 188, 189, 190, 191, 192, 193, 194, 195, 196, 197, 198, 199, 200, 201, 202, 203, 204, 205, 206, 207, 210, 211, 212, 213, 214, 215, 216, 217, 218, 219, 220, 221, 222, 223, 224, 225, 226, 227, 228, 229, 230, 231, 232, 233, 234, 235, 236, 237, 238, 239, 240, 241, 242] (by decide +kernel) (by decide +kernel)
set_option maxRecDepth 20000 in
theorem gX3_areDoneOn_X3_doOn : GoodIn wsX3_areDoneOn (wsV RX3 51 RX3 yX3_doOn wsX3_doOn) := goodIn_app (goodIn_of _ (by decide +kernel)) ggX3_areDoneOn_X3_doOn
theorem dX3_areDoneOn_0 : decode cX3_areDoneOn 0 = .ok (.aload_n 0, 1) := by decide +kernel
theorem dX3_areDoneOn_1 : decode cX3_areDoneOn 1 = .ok (.iconst 0, 1) := by decide +kernel
theorem dX3_areDoneOn_2 : decode cX3_areDoneOn 2 = .ok (.putfield 13, 3) := by decide +kernel
theorem dX3_areDoneOn_5 : decode cX3_areDoneOn 5 = .ok (.aload_n 0, 1) := by decide +kernel
theorem dX3_areDoneOn_6 : decode cX3_areDoneOn 6 = .ok (.iconst 0, 1) := by decide +kernel
theorem dX3_areDoneOn_7 : decode cX3_areDoneOn 7 = .ok (.putfield 16, 3) := by decide +kernel
theorem dX3_areDoneOn_10 : decode cX3_areDoneOn 10 = .ok (.aload_n 0, 1) := by decide +kernel
theorem dX3_areDoneOn_11 : decode cX3_areDoneOn 11 = .ok (.getfield 16, 3) := by decide +kernel
theorem dX3_areDoneOn_14 : decode cX3_areDoneOn 14 = .ok (.bipush 60, 2) := by decide +kernel
theorem dX3_areDoneOn_16 : decode cX3_areDoneOn 16 = .ok (.if_icmp .ge 87, 3) := by decide +kernel
theorem dX3_areDoneOn_19 : decode cX3_areDoneOn 19 = .ok (.aload_n 0, 1) := by decide +kernel
theorem dX3_areDoneOn_20 : decode cX3_areDoneOn 20 = .ok (.getfield 13, 3) := by decide +kernel
theorem dX3_areDoneOn_23 : decode cX3_areDoneOn 23 = .ok (.aload_n 0, 1) := by decide +kernel
theorem dX3_areDoneOn_24 : decode cX3_areDoneOn 24 = .ok (.getfield 40, 3) := by decide +kernel
theorem dX3_areDoneOn_27 : decode cX3_areDoneOn 27 = .ok (.getfield 44, 3) := by decide +kernel
theorem dX3_areDoneOn_30 : decode cX3_areDoneOn 30 = .ok (.if_icmp .ge 73, 3) := by decide +kernel
theorem dX3_areDoneOn_33 : decode cX3_areDoneOn 33 = .ok (.aload_n 0, 1) := by decide +kernel
theorem dX3_areDoneOn_34 : decode cX3_areDoneOn 34 = .ok (.aload_n 0, 1) := by decide +kernel
theorem dX3_areDoneOn_35 : decode cX3_areDoneOn 35 = .ok (.getfield 13, 3) := by decide +kernel
theorem dX3_areDoneOn_38 : decode cX3_areDoneOn 38 = .ok (.putfield 7, 3) := by decide +kernel
theorem dX3_areDoneOn_41 : decode cX3_areDoneOn 41 = .ok (.aload_n 0, 1) := by decide +kernel
theorem dX3_areDoneOn_42 : decode cX3_areDoneOn 42 = .ok (.invokevirtual 47, 3) := by decide +kernel
theorem dX3_areDoneOn_45 : decode cX3_areDoneOn 45 = .ok (.ifCond .ne 23, 3) := by decide +kernel
theorem dX3_areDoneOn_48 : decode cX3_areDoneOn 48 = .ok (.aload_n 0, 1) := by decide +kernel
theorem dX3_areDoneOn_49 : decode cX3_areDoneOn 49 = .ok (.iconst 1, 1) := by decide +kernel
theorem dX3_areDoneOn_50 : decode cX3_areDoneOn 50 = .ok (.putfield 19, 3) := by decide +kernel
theorem dX3_areDoneOn_53 : decode cX3_areDoneOn 53 = .ok (.aload_n 0, 1) := by decide +kernel
theorem dX3_areDoneOn_54 : decode cX3_areDoneOn 54 = .ok (.aload_n 0, 1) := by decide +kernel
theorem dX3_areDoneOn_55 : decode cX3_areDoneOn 55 = .ok (.getfield 13, 3) := by decide +kernel
theorem dX3_areDoneOn_58 : decode cX3_areDoneOn 58 = .ok (.aload_n 0, 1) := by decide +kernel
theorem dX3_areDoneOn_59 : decode cX3_areDoneOn 59 = .ok (.getfield 7, 3) := by decide +kernel
theorem dX3_areDoneOn_62 : decode cX3_areDoneOn 62 = .ok (.isub, 1) := by decide +kernel
theorem dX3_areDoneOn_63 : decode cX3_areDoneOn 63 = .ok (.putfield 22, 3) := by decide +kernel
theorem dX3_areDoneOn_66 : decode cX3_areDoneOn 66 = .ok (.iconst 0, 1) := by decide +kernel
theorem dX3_areDoneOn_67 : decode cX3_areDoneOn 67 = .ok (.ireturn, 1) := by decide +kernel
theorem dX3_areDoneOn_68 : decode cX3_areDoneOn 68 = .ok (.aload_n 0, 1) := by decide +kernel
theorem dX3_areDoneOn_69 : decode cX3_areDoneOn 69 = .ok (.aload_n 1, 1) := by decide +kernel
theorem dX3_areDoneOn_70 : decode cX3_areDoneOn 70 = .ok (.invokevirtual 51, 3) := by decide +kernel
theorem dX3_areDoneOn_73 : decode cX3_areDoneOn 73 = .ok (.istore_n 2, 1) := by decide +kernel
theorem dX3_areDoneOn_74 : decode cX3_areDoneOn 74 = .ok (.iload_n 2, 1) := by decide +kernel
theorem dX3_areDoneOn_75 : decode cX3_areDoneOn 75 = .ok (.ifCond .ge 15, 3) := by decide +kernel
theorem dX3_areDoneOn_78 : decode cX3_areDoneOn 78 = .ok (.aload_n 0, 1) := by decide +kernel
theorem dX3_areDoneOn_79 : decode cX3_areDoneOn 79 = .ok (.iconst 2, 1) := by decide +kernel
theorem dX3_areDoneOn_80 : decode cX3_areDoneOn 80 = .ok (.putfield 19, 3) := by decide +kernel
theorem dX3_areDoneOn_83 : decode cX3_areDoneOn 83 = .ok (.aload_n 0, 1) := by decide +kernel
theorem dX3_areDoneOn_84 : decode cX3_areDoneOn 84 = .ok (.iload_n 2, 1) := by decide +kernel
theorem dX3_areDoneOn_85 : decode cX3_areDoneOn 85 = .ok (.putfield 22, 3) := by decide +kernel
theorem dX3_areDoneOn_88 : decode cX3_areDoneOn 88 = .ok (.iconst 0, 1) := by decide +kernel
theorem dX3_areDoneOn_89 : decode cX3_areDoneOn 89 = .ok (.ireturn, 1) := by decide +kernel
theorem dX3_areDoneOn_90 : decode cX3_areDoneOn 90 = .ok (.aload_n 0, 1) := by decide +kernel
theorem dX3_areDoneOn_91 : decode cX3_areDoneOn 91 = .ok (.dup, 1) := by decide +kernel
theorem dX3_areDoneOn_92 : decode cX3_areDoneOn 92 = .ok (.getfield 16, 3) := by decide +kernel
theorem dX3_areDoneOn_95 : decode cX3_areDoneOn 95 = .ok (.iconst 1, 1) := by decide +kernel
theorem dX3_areDoneOn_96 : decode cX3_areDoneOn 96 = .ok (.iadd, 1) := by decide +kernel
theorem dX3_areDoneOn_97 : decode cX3_areDoneOn 97 = .ok (.putfield 16, 3) := by decide +kernel
theorem dX3_areDoneOn_100 : decode cX3_areDoneOn 100 = .ok (.goto (-90), 3) := by decide +kernel
theorem dX3_areDoneOn_103 : decode cX3_areDoneOn 103 = .ok (.iconst 1, 1) := by decide +kernel
theorem dX3_areDoneOn_104 : decode cX3_areDoneOn 104 = .ok (.ireturn, 1) := by decide +kernel
set_option maxRecDepth 20000 in
theorem ggX3_isRead_X8_at : GoodIn wsX3_isRead wsX8_at := goodIn_r _ [8, 9, 10, 11, 12, 13, 14, 15, 16, 17, 44, 45] (by decide +kernel) (by decide +kernel)
set_option maxRecDepth 20000 in
theorem gX3_isRead_X8_at : GoodIn wsX3_isRead (wsV RX3 55 RX8 yX8_at wsX8_at) := goodIn_app (goodIn_of _ (by decide +kernel)) ggX3_isRead_X8_at
set_option maxRecDepth 20000 in
theorem ggX3_isRead_X3_isSkipped : GoodIn wsX3_isRead wsX3_isSkipped := goodIn_r _ [22, 1, 2, 4, 5, 6, 7, 8, 9, 10, 11, 12, 13, 14, 15, 16, 17, 34, 35, 36, 37, 38, 39, 40, 41, 42, 43, 44, 45] (by decide +kernel) (by decide +kernel)
set_option maxRecDepth 20000 in
theorem gX3_isRead_X3_isSkipped : GoodIn wsX3_isRead (wsV RX3 59 RX3 yX3_isSkipped wsX3_isSkipped) := goodIn_app (goodIn_of _ (by decide +kernel)) ggX3_isRead_X3_isSkipped
set_option maxRecDepth 20000 in
theorem ggX3_isRead_X3_isNumberRead : GoodIn wsX3_isRead wsX3_isNumberRead := goodIn_r _ [26, 27, 2, 1, 4, 5, 6, 7, 8, 9, 10, 11, 12, 13, 14, 15, 16, 17, 34, 35, 36, 37, 38, 39, 40, 41, 42, 43, 44, 45] (by decide +kernel) (by decide +kernel)
set_option maxRecDepth 20000 in
theorem gX3_isRead_X3_isNumberRead : GoodIn wsX3_isRead (wsV RX3 63 RX3 yX3_isNumberRead wsX3_isNumberRead) := goodIn_app (goodIn_of _ (by decide +kernel)) ggX3_isRead_X3_isNumberRead
set_option maxRecDepth 20000 in
theorem ggX3_isRead_X3_areRingNumbersRead : GoodIn wsX3_isRead wsX3_areRingNumbersRead := goodIn_r _ [31, 27, 32, 33, 23, 24, 25, 21, 26, 2, 1, 4, 5, 6, 7, 8, 9, 10, 11, 12, 13, 14, 15, 16, 17, 18, 19, 20, 22, 34, 35, 36, 37, 38, 39, 40, 41, 42, 43, 44, 45] (by decide +kernel) (by decide +kernel)
set_option maxRecDepth 20000 in
theorem gX3_isRead_X3_areRingNumbersRead : GoodIn wsX3_isRead (wsV RX3 66 RX3 yX3_areRingNumbersRead wsX3_areRingNumbersRead) := goodIn_app (goodIn_of _ (by decide +kernel)) ggX3_isRead_X3_areRingNumbersRead
theorem dX3_isRead_0 : decode cX3_isRead 0 = .ok (.aload_n 0, 1) := by decide +kernel
theorem dX3_isRead_1 : decode cX3_isRead 1 = .ok (.aload_n 0, 1) := by decide +kernel
theorem dX3_isRead_2 : decode cX3_isRead 2 = .ok (.getfield 40, 3) := by decide +kernel
theorem dX3_isRead_5 : decode cX3_isRead 5 = .ok (.aload_n 0, 1) := by decide +kernel
theorem dX3_isRead_6 : decode cX3_isRead 6 = .ok (.getfield 13, 3) := by decide +kernel
theorem dX3_isRead_9 : decode cX3_isRead 9 = .ok (.invokevirtual 55, 3) := by decide +kernel
theorem dX3_isRead_12 : decode cX3_isRead 12 = .ok (.putfield 27, 3) := by decide +kernel
theorem dX3_isRead_15 : decode cX3_isRead 15 = .ok (.aload_n 0, 1) := by decide +kernel
theorem dX3_isRead_16 : decode cX3_isRead 16 = .ok (.getfield 27, 3) := by decide +kernel
theorem dX3_isRead_19 : decode cX3_isRead 19 = .ok (.lookupswitch 130 #[(100, 66), (110, 49), (114, 98), (115, 66), (120, 66)], 49) := by decide +kernel
theorem dX3_isRead_68 : decode cX3_isRead 68 = .ok (.aload_n 0, 1) := by decide +kernel
theorem dX3_isRead_69 : decode cX3_isRead 69 = .ok (.dup, 1) := by decide +kernel
theorem dX3_isRead_70 : decode cX3_isRead 70 = .ok (.getfield 13, 3) := by decide +kernel
theorem dX3_isRead_73 : decode cX3_isRead 73 = .ok (.iconst 1, 1) := by decide +kernel
theorem dX3_isRead_74 : decode cX3_isRead 74 = .ok (.iadd, 1) := by decide +kernel
theorem dX3_isRead_75 : decode cX3_isRead 75 = .ok (.putfield 13, 3) := by decide +kernel
theorem dX3_isRead_78 : decode cX3_isRead 78 = .ok (.aload_n 0, 1) := by decide +kernel
theorem dX3_isRead_79 : decode cX3_isRead 79 = .ok (.bipush 59, 2) := by decide +kernel
theorem dX3_isRead_81 : decode cX3_isRead 81 = .ok (.invokevirtual 59, 3) := by decide +kernel
theorem dX3_isRead_84 : decode cX3_isRead 84 = .ok (.ireturn, 1) := by decide +kernel
theorem dX3_isRead_85 : decode cX3_isRead 85 = .ok (.aload_n 0, 1) := by decide +kernel
theorem dX3_isRead_86 : decode cX3_isRead 86 = .ok (.dup, 1) := by decide +kernel
theorem dX3_isRead_87 : decode cX3_isRead 87 = .ok (.getfield 13, 3) := by decide +kernel
theorem dX3_isRead_90 : decode cX3_isRead 90 = .ok (.iconst 1, 1) := by decide +kernel
theorem dX3_isRead_91 : decode cX3_isRead 91 = .ok (.iadd, 1) := by decide +kernel
theorem dX3_isRead_92 : decode cX3_isRead 92 = .ok (.putfield 13, 3) := by decide +kernel
theorem dX3_isRead_95 : decode cX3_isRead 95 = .ok (.aload_n 0, 1) := by decide +kernel
theorem dX3_isRead_96 : decode cX3_isRead 96 = .ok (.invokevirtual 63, 3) := by decide +kernel
theorem dX3_isRead_99 : decode cX3_isRead 99 = .ok (.ifCond .eq 16, 3) := by decide +kernel
theorem dX3_isRead_102 : decode cX3_isRead 102 = .ok (.aload_n 0, 1) := by decide +kernel
theorem dX3_isRead_103 : decode cX3_isRead 103 = .ok (.bipush 59, 2) := by decide +kernel
theorem dX3_isRead_105 : decode cX3_isRead 105 = .ok (.invokevirtual 59, 3) := by decide +kernel
theorem dX3_isRead_108 : decode cX3_isRead 108 = .ok (.ifCond .eq 7, 3) := by decide +kernel
theorem dX3_isRead_111 : decode cX3_isRead 111 = .ok (.iconst 1, 1) := by decide +kernel
theorem dX3_isRead_112 : decode cX3_isRead 112 = .ok (.goto 4, 3) := by decide +kernel
theorem dX3_isRead_115 : decode cX3_isRead 115 = .ok (.iconst 0, 1) := by decide +kernel
theorem dX3_isRead_116 : decode cX3_isRead 116 = .ok (.ireturn, 1) := by decide +kernel
theorem dX3_isRead_117 : decode cX3_isRead 117 = .ok (.aload_n 0, 1) := by decide +kernel
theorem dX3_isRead_118 : decode cX3_isRead 118 = .ok (.dup, 1) := by decide +kernel
theorem dX3_isRead_119 : decode cX3_isRead 119 = .ok (.getfield 13, 3) := by decide +kernel
theorem dX3_isRead_122 : decode cX3_isRead 122 = .ok (.iconst 1, 1) := by decide +kernel
theorem dX3_isRead_123 : decode cX3_isRead 123 = .ok (.iadd, 1) := by decide +kernel
theorem dX3_isRead_124 : decode cX3_isRead 124 = .ok (.putfield 13, 3) := by decide +kernel
theorem dX3_isRead_127 : decode cX3_isRead 127 = .ok (.aload_n 0, 1) := by decide +kernel
theorem dX3_isRead_128 : decode cX3_isRead 128 = .ok (.invokevirtual 66, 3) := by decide +kernel
theorem dX3_isRead_131 : decode cX3_isRead 131 = .ok (.ifCond .eq 16, 3) := by decide +kernel
theorem dX3_isRead_134 : decode cX3_isRead 134 = .ok (.aload_n 0, 1) := by decide +kernel
theorem dX3_isRead_135 : decode cX3_isRead 135 = .ok (.bipush 59, 2) := by decide +kernel
theorem dX3_isRead_137 : decode cX3_isRead 137 = .ok (.invokevirtual 59, 3) := by decide +kernel
theorem dX3_isRead_140 : decode cX3_isRead 140 = .ok (.ifCond .eq 7, 3) := by decide +kernel
theorem dX3_isRead_143 : decode cX3_isRead 143 = .ok (.iconst 1, 1) := by decide +kernel
theorem dX3_isRead_144 : decode cX3_isRead 144 = .ok (.goto 4, 3) := by decide +kernel
theorem dX3_isRead_147 : decode cX3_isRead 147 = .ok (.iconst 0, 1) := by decide +kernel
theorem dX3_isRead_148 : decode cX3_isRead 148 = .ok (.ireturn, 1) := by decide +kernel
theorem dX3_isRead_149 : decode cX3_isRead 149 = .ok (.iconst 0, 1) := by decide +kernel
theorem dX3_isRead_150 : decode cX3_isRead 150 = .ok (.ireturn, 1) := by decide +kernel
set_option maxRecDepth 20000 in
theorem ggX3_areRingNumbersRead_X3_isNumberRead : GoodIn wsX3_areRingNumbersRead wsX3_isNumberRead := goodIn_r _ [8, 1, 9, 10, 11, 12, 13, 14, 15, 16, 17, 18, 19, 20, 21, 22, 23, 24, 29, 30, 31, 32, 33, 34, 35, 36, 37, 38, 39, 40] (by decide +kernel) (by decide +kernel)
set_option maxRecDepth 20000 in
theorem gX3_areRingNumbersRead_X3_isNumberRead : GoodIn wsX3_areRingNumbersRead (wsV RX3 63 RX3 yX3_isNumberRead wsX3_isNumberRead) := goodIn_app (goodIn_of _ (by decide +kernel)) ggX3_areRingNumbersRead_X3_isNumberRead
set_option maxRecDepth 20000 in
theorem ggX3_areRingNumbersRead_X3_isSkipped : GoodIn wsX3_areRingNumbersRead wsX3_isSkipped := goodIn_r _ [28, 10, 9, 11, 12, 13, 14, 15, 16, 17, 18, 19, 20, 21, 22, 23, 24, 29, 30, 31, 32, 33, 34, 35, 36, 37, 38, 39, 40] (by decide +kernel) (by decide +kernel)
set_option maxRecDepth 20000 in
theorem gX3_areRingNumbersRead_X3_isSkipped : GoodIn wsX3_areRingNumbersRead (wsV RX3 59 RX3 yX3_isSkipped wsX3_isSkipped) := goodIn_app (goodIn_of _ (by decide +kernel)) ggX3_areRingNumbersRead_X3_isSkipped
theorem dX3_areRingNumbersRead_0 : decode cX3_areRingNumbersRead 0 = .ok (.aload_n 0, 1) := by decide +kernel
theorem dX3_areRingNumbersRead_1 : decode cX3_areRingNumbersRead 1 = .ok (.invokevirtual 63, 3) := by decide +kernel
theorem dX3_areRingNumbersRead_4 : decode cX3_areRingNumbersRead 4 = .ok (.ifCond .eq 12, 3) := by decide +kernel
theorem dX3_areRingNumbersRead_7 : decode cX3_areRingNumbersRead 7 = .ok (.aload_n 0, 1) := by decide +kernel
theorem dX3_areRingNumbersRead_8 : decode cX3_areRingNumbersRead 8 = .ok (.bipush 44, 2) := by decide +kernel
theorem dX3_areRingNumbersRead_10 : decode cX3_areRingNumbersRead 10 = .ok (.invokevirtual 59, 3) := by decide +kernel
theorem dX3_areRingNumbersRead_13 : decode cX3_areRingNumbersRead 13 = .ok (.ifCond .ne 5, 3) := by decide +kernel
theorem dX3_areRingNumbersRead_16 : decode cX3_areRingNumbersRead 16 = .ok (.iconst 0, 1) := by decide +kernel
theorem dX3_areRingNumbersRead_17 : decode cX3_areRingNumbersRead 17 = .ok (.ireturn, 1) := by decide +kernel
theorem dX3_areRingNumbersRead_18 : decode cX3_areRingNumbersRead 18 = .ok (.aload_n 0, 1) := by decide +kernel
theorem dX3_areRingNumbersRead_19 : decode cX3_areRingNumbersRead 19 = .ok (.aload_n 0, 1) := by decide +kernel
theorem dX3_areRingNumbersRead_20 : decode cX3_areRingNumbersRead 20 = .ok (.getfield 30, 3) := by decide +kernel
theorem dX3_areRingNumbersRead_23 : decode cX3_areRingNumbersRead 23 = .ok (.putfield 33, 3) := by decide +kernel
theorem dX3_areRingNumbersRead_26 : decode cX3_areRingNumbersRead 26 = .ok (.aload_n 0, 1) := by decide +kernel
theorem dX3_areRingNumbersRead_27 : decode cX3_areRingNumbersRead 27 = .ok (.invokevirtual 63, 3) := by decide +kernel
theorem dX3_areRingNumbersRead_30 : decode cX3_areRingNumbersRead 30 = .ok (.ifCond .eq 12, 3) := by decide +kernel
theorem dX3_areRingNumbersRead_33 : decode cX3_areRingNumbersRead 33 = .ok (.aload_n 0, 1) := by decide +kernel
theorem dX3_areRingNumbersRead_34 : decode cX3_areRingNumbersRead 34 = .ok (.bipush 44, 2) := by decide +kernel
theorem dX3_areRingNumbersRead_36 : decode cX3_areRingNumbersRead 36 = .ok (.invokevirtual 59, 3) := by decide +kernel
theorem dX3_areRingNumbersRead_39 : decode cX3_areRingNumbersRead 39 = .ok (.ifCond .ne 5, 3) := by decide +kernel
theorem dX3_areRingNumbersRead_42 : decode cX3_areRingNumbersRead 42 = .ok (.iconst 0, 1) := by decide +kernel
theorem dX3_areRingNumbersRead_43 : decode cX3_areRingNumbersRead 43 = .ok (.ireturn, 1) := by decide +kernel
theorem dX3_areRingNumbersRead_44 : decode cX3_areRingNumbersRead 44 = .ok (.aload_n 0, 1) := by decide +kernel
theorem dX3_areRingNumbersRead_45 : decode cX3_areRingNumbersRead 45 = .ok (.aload_n 0, 1) := by decide +kernel
theorem dX3_areRingNumbersRead_46 : decode cX3_areRingNumbersRead 46 = .ok (.getfield 30, 3) := by decide +kernel
theorem dX3_areRingNumbersRead_49 : decode cX3_areRingNumbersRead 49 = .ok (.putfield 36, 3) := by decide +kernel
theorem dX3_areRingNumbersRead_52 : decode cX3_areRingNumbersRead 52 = .ok (.aload_n 0, 1) := by decide +kernel
theorem dX3_areRingNumbersRead_53 : decode cX3_areRingNumbersRead 53 = .ok (.invokevirtual 63, 3) := by decide +kernel
theorem dX3_areRingNumbersRead_56 : decode cX3_areRingNumbersRead 56 = .ok (.ireturn, 1) := by decide +kernel
set_option maxRecDepth 20000 in
theorem ggX3_isNumberRead_X8_at : GoodIn wsX3_isNumberRead wsX8_at := goodIn_r _ [8, 9, 10, 11, 12, 13, 14, 15, 16, 17, 28, 29] (by decide +kernel) (by decide +kernel)
set_option maxRecDepth 20000 in
theorem gX3_isNumberRead_X8_at : GoodIn wsX3_isNumberRead (wsV RX3 55 RX8 yX8_at wsX8_at) := goodIn_app (goodIn_of _ (by decide +kernel)) ggX3_isNumberRead_X8_at
set_option maxRecDepth 20000 in
theorem ggX3_isNumberRead_X9_isWithin : GoodIn wsX3_isNumberRead wsX9_isWithin := goodIn_r _ [17] (by decide +kernel) (by decide +kernel)
set_option maxRecDepth 20000 in
theorem gX3_isNumberRead_X9_isWithin_n69 : GoodIn wsX3_isNumberRead (wsX9_isWithin) := ggX3_isNumberRead_X9_isWithin
theorem dX3_isNumberRead_0 : decode cX3_isNumberRead 0 = .ok (.aload_n 0, 1) := by decide +kernel
theorem dX3_isNumberRead_1 : decode cX3_isNumberRead 1 = .ok (.iconst 0, 1) := by decide +kernel
theorem dX3_isNumberRead_2 : decode cX3_isNumberRead 2 = .ok (.putfield 30, 3) := by decide +kernel
theorem dX3_isNumberRead_5 : decode cX3_isNumberRead 5 = .ok (.aload_n 0, 1) := by decide +kernel
theorem dX3_isNumberRead_6 : decode cX3_isNumberRead 6 = .ok (.getfield 13, 3) := by decide +kernel
theorem dX3_isNumberRead_9 : decode cX3_isNumberRead 9 = .ok (.istore_n 1, 1) := by decide +kernel
theorem dX3_isNumberRead_10 : decode cX3_isNumberRead 10 = .ok (.aload_n 0, 1) := by decide +kernel
theorem dX3_isNumberRead_11 : decode cX3_isNumberRead 11 = .ok (.getfield 13, 3) := by decide +kernel
theorem dX3_isNumberRead_14 : decode cX3_isNumberRead 14 = .ok (.iload_n 1, 1) := by decide +kernel
end
section
theorem dX3_isNumberRead_15 : decode cX3_isNumberRead 15 = .ok (.isub, 1) := by decide +kernel
theorem dX3_isNumberRead_16 : decode cX3_isNumberRead 16 = .ok (.iconst 3, 1) := by decide +kernel
theorem dX3_isNumberRead_17 : decode cX3_isNumberRead 17 = .ok (.if_icmp .ge 63, 3) := by decide +kernel
theorem dX3_isNumberRead_20 : decode cX3_isNumberRead 20 = .ok (.aload_n 0, 1) := by decide +kernel
theorem dX3_isNumberRead_21 : decode cX3_isNumberRead 21 = .ok (.getfield 40, 3) := by decide +kernel
theorem dX3_isNumberRead_24 : decode cX3_isNumberRead 24 = .ok (.aload_n 0, 1) := by decide +kernel
theorem dX3_isNumberRead_25 : decode cX3_isNumberRead 25 = .ok (.getfield 13, 3) := by decide +kernel
theorem dX3_isNumberRead_28 : decode cX3_isNumberRead 28 = .ok (.invokevirtual 55, 3) := by decide +kernel
theorem dX3_isNumberRead_31 : decode cX3_isNumberRead 31 = .ok (.bipush 48, 2) := by decide +kernel
theorem dX3_isNumberRead_33 : decode cX3_isNumberRead 33 = .ok (.bipush 57, 2) := by decide +kernel
theorem dX3_isNumberRead_35 : decode cX3_isNumberRead 35 = .ok (.invokestatic 69, 3) := by decide +kernel
theorem dX3_isNumberRead_38 : decode cX3_isNumberRead 38 = .ok (.ifCond .eq 42, 3) := by decide +kernel
theorem dX3_isNumberRead_41 : decode cX3_isNumberRead 41 = .ok (.aload_n 0, 1) := by decide +kernel
theorem dX3_isNumberRead_42 : decode cX3_isNumberRead 42 = .ok (.aload_n 0, 1) := by decide +kernel
theorem dX3_isNumberRead_43 : decode cX3_isNumberRead 43 = .ok (.getfield 30, 3) := by decide +kernel
theorem dX3_isNumberRead_46 : decode cX3_isNumberRead 46 = .ok (.bipush 10, 2) := by decide +kernel
theorem dX3_isNumberRead_48 : decode cX3_isNumberRead 48 = .ok (.imul, 1) := by decide +kernel
theorem dX3_isNumberRead_49 : decode cX3_isNumberRead 49 = .ok (.aload_n 0, 1) := by decide +kernel
theorem dX3_isNumberRead_50 : decode cX3_isNumberRead 50 = .ok (.getfield 40, 3) := by decide +kernel
theorem dX3_isNumberRead_53 : decode cX3_isNumberRead 53 = .ok (.aload_n 0, 1) := by decide +kernel
theorem dX3_isNumberRead_54 : decode cX3_isNumberRead 54 = .ok (.getfield 13, 3) := by decide +kernel
theorem dX3_isNumberRead_57 : decode cX3_isNumberRead 57 = .ok (.invokevirtual 55, 3) := by decide +kernel
theorem dX3_isNumberRead_60 : decode cX3_isNumberRead 60 = .ok (.iadd, 1) := by decide +kernel
theorem dX3_isNumberRead_61 : decode cX3_isNumberRead 61 = .ok (.bipush 48, 2) := by decide +kernel
theorem dX3_isNumberRead_63 : decode cX3_isNumberRead 63 = .ok (.isub, 1) := by decide +kernel
theorem dX3_isNumberRead_64 : decode cX3_isNumberRead 64 = .ok (.putfield 30, 3) := by decide +kernel
theorem dX3_isNumberRead_67 : decode cX3_isNumberRead 67 = .ok (.aload_n 0, 1) := by decide +kernel
theorem dX3_isNumberRead_68 : decode cX3_isNumberRead 68 = .ok (.dup, 1) := by decide +kernel
theorem dX3_isNumberRead_69 : decode cX3_isNumberRead 69 = .ok (.getfield 13, 3) := by decide +kernel
theorem dX3_isNumberRead_72 : decode cX3_isNumberRead 72 = .ok (.iconst 1, 1) := by decide +kernel
theorem dX3_isNumberRead_73 : decode cX3_isNumberRead 73 = .ok (.iadd, 1) := by decide +kernel
theorem dX3_isNumberRead_74 : decode cX3_isNumberRead 74 = .ok (.putfield 13, 3) := by decide +kernel
theorem dX3_isNumberRead_77 : decode cX3_isNumberRead 77 = .ok (.goto (-67), 3) := by decide +kernel
theorem dX3_isNumberRead_80 : decode cX3_isNumberRead 80 = .ok (.aload_n 0, 1) := by decide +kernel
theorem dX3_isNumberRead_81 : decode cX3_isNumberRead 81 = .ok (.getfield 13, 3) := by decide +kernel
theorem dX3_isNumberRead_84 : decode cX3_isNumberRead 84 = .ok (.iload_n 1, 1) := by decide +kernel
theorem dX3_isNumberRead_85 : decode cX3_isNumberRead 85 = .ok (.if_icmp .le 7, 3) := by decide +kernel
theorem dX3_isNumberRead_88 : decode cX3_isNumberRead 88 = .ok (.iconst 1, 1) := by decide +kernel
theorem dX3_isNumberRead_89 : decode cX3_isNumberRead 89 = .ok (.goto 4, 3) := by decide +kernel
theorem dX3_isNumberRead_92 : decode cX3_isNumberRead 92 = .ok (.iconst 0, 1) := by decide +kernel
theorem dX3_isNumberRead_93 : decode cX3_isNumberRead 93 = .ok (.ireturn, 1) := by decide +kernel
set_option maxRecDepth 20000 in
theorem ggX3_isSkipped_X8_at : GoodIn wsX3_isSkipped wsX8_at := goodIn_r _ [7, 8, 9, 10, 11, 12, 13, 14, 15, 16, 27, 28] (by decide +kernel) (by decide +kernel)
set_option maxRecDepth 20000 in
theorem gX3_isSkipped_X8_at : GoodIn wsX3_isSkipped (wsV RX3 55 RX8 yX8_at wsX8_at) := goodIn_app (goodIn_of _ (by decide +kernel)) ggX3_isSkipped_X8_at
theorem dX3_isSkipped_0 : decode cX3_isSkipped 0 = .ok (.aload_n 0, 1) := by decide +kernel
theorem dX3_isSkipped_1 : decode cX3_isSkipped 1 = .ok (.getfield 40, 3) := by decide +kernel
theorem dX3_isSkipped_4 : decode cX3_isSkipped 4 = .ok (.aload_n 0, 1) := by decide +kernel
theorem dX3_isSkipped_5 : decode cX3_isSkipped 5 = .ok (.getfield 13, 3) := by decide +kernel
theorem dX3_isSkipped_8 : decode cX3_isSkipped 8 = .ok (.invokevirtual 55, 3) := by decide +kernel
theorem dX3_isSkipped_11 : decode cX3_isSkipped 11 = .ok (.iload_n 1, 1) := by decide +kernel
theorem dX3_isSkipped_12 : decode cX3_isSkipped 12 = .ok (.if_icmp .eq 5, 3) := by decide +kernel
theorem dX3_isSkipped_15 : decode cX3_isSkipped 15 = .ok (.iconst 0, 1) := by decide +kernel
theorem dX3_isSkipped_16 : decode cX3_isSkipped 16 = .ok (.ireturn, 1) := by decide +kernel
theorem dX3_isSkipped_17 : decode cX3_isSkipped 17 = .ok (.aload_n 0, 1) := by decide +kernel
theorem dX3_isSkipped_18 : decode cX3_isSkipped 18 = .ok (.dup, 1) := by decide +kernel
theorem dX3_isSkipped_19 : decode cX3_isSkipped 19 = .ok (.getfield 13, 3) := by decide +kernel
theorem dX3_isSkipped_22 : decode cX3_isSkipped 22 = .ok (.iconst 1, 1) := by decide +kernel
theorem dX3_isSkipped_23 : decode cX3_isSkipped 23 = .ok (.iadd, 1) := by decide +kernel
theorem dX3_isSkipped_24 : decode cX3_isSkipped 24 = .ok (.putfield 13, 3) := by decide +kernel
theorem dX3_isSkipped_27 : decode cX3_isSkipped 27 = .ok (.iconst 1, 1) := by decide +kernel
theorem dX3_isSkipped_28 : decode cX3_isSkipped 28 = .ok (.ireturn, 1) := by decide +kernel
set_option maxRecDepth 20000 in
theorem ggX3_doOn_X6_changeRing : GoodIn wsX3_doOn wsX6_changeRing := goodIn_r _ [9, 10, 11, 12, 13, 14, 15, 16, 17, 18, 19, 8, 20, 21, 22, 170, 171, 172, 173, 174, 175, 176, 177, 178, 179, 180, 181] (by decide +kernel) (by decide +kernel)
set_option maxRecDepth 20000 in
theorem gX3_doOn_X6_changeRing : GoodIn wsX3_doOn (wsV RX3 75 RX6 yX6_changeRing wsX6_changeRing) := goodIn_app (goodIn_of _ (by decide +kernel)) ggX3_doOn_X6_changeRing
set_option maxRecDepth 20000 in
theorem ggX3_doOn_X6_makeSamples : GoodIn wsX3_doOn wsX6_makeSamples := goodIn_r _ [26, 10, 27, 28, 14, 15, 16, 29, 30, 31, 8, 32, 21, 33, 34, 22, 35, 36, 37, 38, 39, 40, 41, 42, 43, 44, 45, 46, 47, 48, 49, 50, 51, 52, 53, 54, 11, 55, 56, 57, 58, 59, 60, 61, 62, 63, 64, 65, 66, 67, 68, 69, 70, 71, 72, 73, 74, 75, 76, 77, 78, 79, 80, 81, 82, 83, 84, 85, 86, 87, 88, 89, 90, 91, 92, 93, 94, 95, 96, 97, 98, 99, 100, 101, 102, 103, 104, 105, 106, 107, 108, 109, 110, 111, 112, 113, 114, 115, 116, 117, 118, 119, 120, 121, 122, 123, 124, 125, 126, 127, 128, 129, 130, 131, 173, 174, 175, 176, 177, 178, 179, 180, 181, 182, 183, 184, 185, 186, 187, 188, 189, 190, 191, 192, 193, 170, 171, 172, 194, 195, 196, 197, 198, 199, 200, 201, 202] (by decide +kernel) (by decide +kernel)
set_option maxRecDepth 20000 in
theorem gX3_doOn_X6_makeSamples : GoodIn wsX3_doOn (wsV RX3 81 RX6 yX6_makeSamples wsX6_makeSamples) := goodIn_app (goodIn_of _ (by decide +kernel)) ggX3_doOn_X6_makeSamples
set_option maxRecDepth 20000 in
theorem ggX3_doOn_X6_drawBits : GoodIn wsX3_doOn wsX6_drawBits := goodIn_r _ [135, 10, 126, 136, 75, 76, 137, 27, 138, 14, 15, 16, 139, 140, 141, 87, 142, 90, 89, 173, 174, 175, 176, 177, 178, 179, 180, 181, 201, 202, 194, 195, 196, 197, 198, 199, 200, 182, 183, 184, 185, 186, 187, 188, 189] (by decide +kernel) (by decide +kernel)
set_option maxRecDepth 20000 in
theorem gX3_doOn_X6_drawBits : GoodIn wsX3_doOn (wsV RX3 85 RX6 yX6_drawBits wsX6_drawBits) := goodIn_app (goodIn_of _ (by decide +kernel)) ggX3_doOn_X6_drawBits
set_option maxRecDepth 20000 in
theorem ggX3_doOn_X6_startAnew : GoodIn wsX3_doOn wsX6_startAnew := goodIn_r _ [146, 126, 136, 75, 83, 147, 148, 149, 87, 150, 89, 90, 151, 152, 153, 94, 154, 99, 115, 120, 97, 104, 109, 110, 173, 174, 175, 176, 177, 178, 179, 180, 181, 201, 202, 194, 195, 196, 197, 198, 199, 200] (by decide +kernel) (by decide +kernel)
set_option maxRecDepth 20000 in
theorem gX3_doOn_X6_startAnew : GoodIn wsX3_doOn (wsV RX3 88 RX6 yX6_startAnew wsX6_startAnew) := goodIn_app (goodIn_of _ (by decide +kernel)) ggX3_doOn_X6_startAnew
set_option maxRecDepth 20000 in
theorem ggX3_doOn_X6_changeNoise : GoodIn wsX3_doOn wsX6_changeNoise := goodIn_r _ [158, 159, 10, 39, 14, 15, 16, 173, 174, 175, 176, 177, 178, 179, 180, 181] (by decide +kernel) (by decide +kernel)
set_option maxRecDepth 20000 in
theorem gX3_doOn_X6_changeNoise : GoodIn wsX3_doOn (wsV RX3 92 RX6 yX6_changeNoise wsX6_changeNoise) := goodIn_app (goodIn_of _ (by decide +kernel)) ggX3_doOn_X6_changeNoise
theorem dX3_doOn_0 : decode cX3_doOn 0 = .ok (.aload_n 0, 1) := by decide +kernel
theorem dX3_doOn_1 : decode cX3_doOn 1 = .ok (.getfield 27, 3) := by decide +kernel
theorem dX3_doOn_4 : decode cX3_doOn 4 = .ok (.lookupswitch 84 #[(100, 70), (110, 79), (114, 44), (115, 61)], 44) := by decide +kernel
theorem dX3_doOn_48 : decode cX3_doOn 48 = .ok (.aload_n 1, 1) := by decide +kernel
theorem dX3_doOn_49 : decode cX3_doOn 49 = .ok (.aload_n 0, 1) := by decide +kernel
theorem dX3_doOn_50 : decode cX3_doOn 50 = .ok (.getfield 33, 3) := by decide +kernel
theorem dX3_doOn_53 : decode cX3_doOn 53 = .ok (.aload_n 0, 1) := by decide +kernel
theorem dX3_doOn_54 : decode cX3_doOn 54 = .ok (.getfield 36, 3) := by decide +kernel
theorem dX3_doOn_57 : decode cX3_doOn 57 = .ok (.aload_n 0, 1) := by decide +kernel
theorem dX3_doOn_58 : decode cX3_doOn 58 = .ok (.getfield 30, 3) := by decide +kernel
theorem dX3_doOn_61 : decode cX3_doOn 61 = .ok (.invokevirtual 75, 3) := by decide +kernel
theorem dX3_doOn_64 : decode cX3_doOn 64 = .ok (.ireturn, 1) := by decide +kernel
theorem dX3_doOn_65 : decode cX3_doOn 65 = .ok (.aload_n 1, 1) := by decide +kernel
theorem dX3_doOn_66 : decode cX3_doOn 66 = .ok (.aload_n 0, 1) := by decide +kernel
theorem dX3_doOn_67 : decode cX3_doOn 67 = .ok (.getfield 30, 3) := by decide +kernel
theorem dX3_doOn_70 : decode cX3_doOn 70 = .ok (.invokevirtual 81, 3) := by decide +kernel
theorem dX3_doOn_73 : decode cX3_doOn 73 = .ok (.ireturn, 1) := by decide +kernel
theorem dX3_doOn_74 : decode cX3_doOn 74 = .ok (.aload_n 1, 1) := by decide +kernel
theorem dX3_doOn_75 : decode cX3_doOn 75 = .ok (.aload_n 0, 1) := by decide +kernel
theorem dX3_doOn_76 : decode cX3_doOn 76 = .ok (.getfield 30, 3) := by decide +kernel
theorem dX3_doOn_79 : decode cX3_doOn 79 = .ok (.invokevirtual 85, 3) := by decide +kernel
theorem dX3_doOn_82 : decode cX3_doOn 82 = .ok (.ireturn, 1) := by decide +kernel
theorem dX3_doOn_83 : decode cX3_doOn 83 = .ok (.aload_n 1, 1) := by decide +kernel
theorem dX3_doOn_84 : decode cX3_doOn 84 = .ok (.invokevirtual 88, 3) := by decide +kernel
theorem dX3_doOn_87 : decode cX3_doOn 87 = .ok (.ireturn, 1) := by decide +kernel
theorem dX3_doOn_88 : decode cX3_doOn 88 = .ok (.aload_n 1, 1) := by decide +kernel
theorem dX3_doOn_89 : decode cX3_doOn 89 = .ok (.aload_n 0, 1) := by decide +kernel
theorem dX3_doOn_90 : decode cX3_doOn 90 = .ok (.getfield 30, 3) := by decide +kernel
theorem dX3_doOn_93 : decode cX3_doOn 93 = .ok (.invokevirtual 92, 3) := by decide +kernel
theorem dX3_doOn_96 : decode cX3_doOn 96 = .ok (.ireturn, 1) := by decide +kernel
theorem dX4_init_0 : decode cX4_init 0 = .ok (.aload_n 0, 1) := by decide +kernel
theorem dX4_init_1 : decode cX4_init 1 = .ok (.invokespecial 3, 3) := by decide +kernel
theorem dX4_init_4 : decode cX4_init 4 = .ok (.aload_n 0, 1) := by decide +kernel
theorem dX4_init_5 : decode cX4_init 5 = .ok (.bipush 7, 2) := by decide +kernel
theorem dX4_init_7 : decode cX4_init 7 = .ok (.putfield 9, 3) := by decide +kernel
theorem dX4_init_10 : decode cX4_init 10 = .ok (.aload_n 0, 1) := by decide +kernel
theorem dX4_init_11 : decode cX4_init 11 = .ok (.iconst 0, 1) := by decide +kernel
theorem dX4_init_12 : decode cX4_init 12 = .ok (.putfield 15, 3) := by decide +kernel
theorem dX4_init_15 : decode cX4_init 15 = .ok (.aload_n 0, 1) := by decide +kernel
theorem dX4_init_16 : decode cX4_init 16 = .ok (.iload_n 1, 1) := by decide +kernel
theorem dX4_init_17 : decode cX4_init 17 = .ok (.putfield 18, 3) := by decide +kernel
theorem dX4_init_20 : decode cX4_init 20 = .ok (.return_, 1) := by decide +kernel
theorem dX4_copyFrom_0 : decode cX4_copyFrom 0 = .ok (.aload_n 0, 1) := by decide +kernel
theorem dX4_copyFrom_1 : decode cX4_copyFrom 1 = .ok (.aload_n 1, 1) := by decide +kernel
theorem dX4_copyFrom_2 : decode cX4_copyFrom 2 = .ok (.getfield 18, 3) := by decide +kernel
theorem dX4_copyFrom_5 : decode cX4_copyFrom 5 = .ok (.putfield 18, 3) := by decide +kernel
theorem dX4_copyFrom_8 : decode cX4_copyFrom 8 = .ok (.aload_n 0, 1) := by decide +kernel
theorem dX4_copyFrom_9 : decode cX4_copyFrom 9 = .ok (.aload_n 1, 1) := by decide +kernel
theorem dX4_copyFrom_10 : decode cX4_copyFrom 10 = .ok (.getfield 9, 3) := by decide +kernel
theorem dX4_copyFrom_13 : decode cX4_copyFrom 13 = .ok (.putfield 9, 3) := by decide +kernel
theorem dX4_copyFrom_16 : decode cX4_copyFrom 16 = .ok (.aload_n 0, 1) := by decide +kernel
theorem dX4_copyFrom_17 : decode cX4_copyFrom 17 = .ok (.aload_n 1, 1) := by decide +kernel
theorem dX4_copyFrom_18 : decode cX4_copyFrom 18 = .ok (.getfield 15, 3) := by decide +kernel
theorem dX4_copyFrom_21 : decode cX4_copyFrom 21 = .ok (.putfield 15, 3) := by decide +kernel
theorem dX4_copyFrom_24 : decode cX4_copyFrom 24 = .ok (.return_, 1) := by decide +kernel
theorem dX4_isHigh_0 : decode cX4_isHigh 0 = .ok (.aload_n 0, 1) := by decide +kernel
theorem dX4_isHigh_1 : decode cX4_isHigh 1 = .ok (.getfield 15, 3) := by decide +kernel
theorem dX4_isHigh_4 : decode cX4_isHigh 4 = .ok (.aload_n 0, 1) := by decide +kernel
theorem dX4_isHigh_5 : decode cX4_isHigh 5 = .ok (.getfield 18, 3) := by decide +kernel
theorem dX4_isHigh_8 : decode cX4_isHigh 8 = .ok (.iconst 2, 1) := by decide +kernel
theorem dX4_isHigh_9 : decode cX4_isHigh 9 = .ok (.idiv, 1) := by decide +kernel
theorem dX4_isHigh_10 : decode cX4_isHigh 10 = .ok (.if_icmp .ge 7, 3) := by decide +kernel
theorem dX4_isHigh_13 : decode cX4_isHigh 13 = .ok (.iconst 1, 1) := by decide +kernel
theorem dX4_isHigh_14 : decode cX4_isHigh 14 = .ok (.goto 4, 3) := by decide +kernel
theorem dX4_isHigh_17 : decode cX4_isHigh 17 = .ok (.iconst 0, 1) := by decide +kernel
theorem dX4_isHigh_18 : decode cX4_isHigh 18 = .ok (.ireturn, 1) := by decide +kernel
set_option maxRecDepth 20000 in
theorem ggX4_advance_X9_remainder : GoodIn wsX4_advance wsX9_remainder := goodIn_r _ [6] (by decide +kernel) (by decide +kernel)
set_option maxRecDepth 20000 in
theorem gX4_advance_X9_remainder_n21 : GoodIn wsX4_advance (wsX9_remainder) := ggX4_advance_X9_remainder
theorem dX4_advance_0 : decode cX4_advance 0 = .ok (.aload_n 0, 1) := by decide +kernel
theorem dX4_advance_1 : decode cX4_advance 1 = .ok (.aload_n 0, 1) := by decide +kernel
theorem dX4_advance_2 : decode cX4_advance 2 = .ok (.getfield 15, 3) := by decide +kernel
theorem dX4_advance_5 : decode cX4_advance 5 = .ok (.iload_n 1, 1) := by decide +kernel
theorem dX4_advance_6 : decode cX4_advance 6 = .ok (.iadd, 1) := by decide +kernel
theorem dX4_advance_7 : decode cX4_advance 7 = .ok (.iload_n 2, 1) := by decide +kernel
theorem dX4_advance_8 : decode cX4_advance 8 = .ok (.aload_n 0, 1) := by decide +kernel
theorem dX4_advance_9 : decode cX4_advance 9 = .ok (.getfield 9, 3) := by decide +kernel
theorem dX4_advance_12 : decode cX4_advance 12 = .ok (.iconst 1, 1) := by decide +kernel
theorem dX4_advance_13 : decode cX4_advance 13 = .ok (.iadd, 1) := by decide +kernel
theorem dX4_advance_14 : decode cX4_advance 14 = .ok (.invokestatic 21, 3) := by decide +kernel
theorem dX4_advance_17 : decode cX4_advance 17 = .ok (.iadd, 1) := by decide +kernel
theorem dX4_advance_18 : decode cX4_advance 18 = .ok (.aload_n 0, 1) := by decide +kernel
theorem dX4_advance_19 : decode cX4_advance 19 = .ok (.getfield 18, 3) := by decide +kernel
theorem dX4_advance_22 : decode cX4_advance 22 = .ok (.invokestatic 21, 3) := by decide +kernel
theorem dX4_advance_25 : decode cX4_advance 25 = .ok (.putfield 15, 3) := by decide +kernel
theorem dX4_advance_28 : decode cX4_advance 28 = .ok (.return_, 1) := by decide +kernel
set_option maxRecDepth 20000 in
theorem ggX4_lockOn_X9_remainder : GoodIn wsX4_lockOn wsX9_remainder := goodIn_r _ [5] (by decide +kernel) (by decide +kernel)
set_option maxRecDepth 20000 in
theorem gX4_lockOn_X9_remainder_n21 : GoodIn wsX4_lockOn (wsX9_remainder) := ggX4_lockOn_X9_remainder
theorem dX4_lockOn_0 : decode cX4_lockOn 0 = .ok (.aload_n 0, 1) := by decide +kernel
theorem dX4_lockOn_1 : decode cX4_lockOn 1 = .ok (.aload_n 1, 1) := by decide +kernel
theorem dX4_lockOn_2 : decode cX4_lockOn 2 = .ok (.getfield 15, 3) := by decide +kernel
theorem dX4_lockOn_5 : decode cX4_lockOn 5 = .ok (.aload_n 0, 1) := by decide +kernel
theorem dX4_lockOn_6 : decode cX4_lockOn 6 = .ok (.getfield 18, 3) := by decide +kernel
theorem dX4_lockOn_9 : decode cX4_lockOn 9 = .ok (.invokestatic 21, 3) := by decide +kernel
theorem dX4_lockOn_12 : decode cX4_lockOn 12 = .ok (.putfield 15, 3) := by decide +kernel
theorem dX4_lockOn_15 : decode cX4_lockOn 15 = .ok (.return_, 1) := by decide +kernel
set_option maxRecDepth 20000 in
theorem ggX4_tell_X4_isHigh : GoodIn wsX4_tell wsX4_isHigh := goodIn_r _ [9, 3, 1, 10, 11, 12] (by decide +kernel) (by decide +kernel)
set_option maxRecDepth 20000 in
theorem gX4_tell_X4_isHigh : GoodIn wsX4_tell (wsV RX4 25 RX4 yX4_isHigh wsX4_isHigh) := goodIn_app (goodIn_of _ (by decide +kernel)) ggX4_tell_X4_isHigh
theorem dX4_tell_0 : decode cX4_tell 0 = .ok (.iload_n 1, 1) := by decide +kernel
theorem dX4_tell_1 : decode cX4_tell 1 = .ok (.tableswitch 59 0 3 #[31, 36, 41, 46], 31) := by decide +kernel
theorem dX4_tell_32 : decode cX4_tell 32 = .ok (.aload_n 0, 1) := by decide +kernel
theorem dX4_tell_33 : decode cX4_tell 33 = .ok (.getfield 18, 3) := by decide +kernel
theorem dX4_tell_36 : decode cX4_tell 36 = .ok (.ireturn, 1) := by decide +kernel
theorem dX4_tell_37 : decode cX4_tell 37 = .ok (.aload_n 0, 1) := by decide +kernel
theorem dX4_tell_38 : decode cX4_tell 38 = .ok (.getfield 9, 3) := by decide +kernel
theorem dX4_tell_41 : decode cX4_tell 41 = .ok (.ireturn, 1) := by decide +kernel
theorem dX4_tell_42 : decode cX4_tell 42 = .ok (.aload_n 0, 1) := by decide +kernel
theorem dX4_tell_43 : decode cX4_tell 43 = .ok (.getfield 15, 3) := by decide +kernel
theorem dX4_tell_46 : decode cX4_tell 46 = .ok (.ireturn, 1) := by decide +kernel
theorem dX4_tell_47 : decode cX4_tell 47 = .ok (.aload_n 0, 1) := by decide +kernel
theorem dX4_tell_48 : decode cX4_tell 48 = .ok (.invokevirtual 25, 3) := by decide +kernel
theorem dX4_tell_51 : decode cX4_tell 51 = .ok (.ifCond .eq 7, 3) := by decide +kernel
theorem dX4_tell_54 : decode cX4_tell 54 = .ok (.iconst 1, 1) := by decide +kernel
theorem dX4_tell_55 : decode cX4_tell 55 = .ok (.goto 4, 3) := by decide +kernel
theorem dX4_tell_58 : decode cX4_tell 58 = .ok (.iconst 0, 1) := by decide +kernel
theorem dX4_tell_59 : decode cX4_tell 59 = .ok (.ireturn, 1) := by decide +kernel
theorem dX4_tell_60 : decode cX4_tell 60 = .ok (.ldc 29, 2) := by decide +kernel
theorem dX4_tell_62 : decode cX4_tell 62 = .ok (.ireturn, 1) := by decide +kernel
theorem dX5_init_0 : decode cX5_init 0 = .ok (.aload_n 0, 1) := by decide +kernel
theorem dX5_init_1 : decode cX5_init 1 = .ok (.invokespecial 3, 3) := by decide +kernel
theorem dX5_init_4 : decode cX5_init 4 = .ok (.aload_n 0, 1) := by decide +kernel
theorem dX5_init_5 : decode cX5_init 5 = .ok (.bipush 37, 2) := by decide +kernel
theorem dX5_init_7 : decode cX5_init 7 = .ok (.putfield 9, 3) := by decide +kernel
theorem dX5_init_10 : decode cX5_init 10 = .ok (.aload_n 0, 1) := by decide +kernel
theorem dX5_init_11 : decode cX5_init 11 = .ok (.iconst 2, 1) := by decide +kernel
theorem dX5_init_12 : decode cX5_init 12 = .ok (.putfield 15, 3) := by decide +kernel
theorem dX5_init_15 : decode cX5_init 15 = .ok (.aload_n 0, 1) := by decide +kernel
theorem dX5_init_16 : decode cX5_init 16 = .ok (.bipush 12, 2) := by decide +kernel
theorem dX5_init_18 : decode cX5_init 18 = .ok (.putfield 18, 3) := by decide +kernel
theorem dX5_init_21 : decode cX5_init 21 = .ok (.aload_n 0, 1) := by decide +kernel
theorem dX5_init_22 : decode cX5_init 22 = .ok (.bipush 6, 2) := by decide +kernel
theorem dX5_init_24 : decode cX5_init 24 = .ok (.putfield 21, 3) := by decide +kernel
theorem dX5_init_27 : decode cX5_init 27 = .ok (.return_, 1) := by decide +kernel
theorem dX5_copyFrom_0 : decode cX5_copyFrom 0 = .ok (.aload_n 0, 1) := by decide +kernel
theorem dX5_copyFrom_1 : decode cX5_copyFrom 1 = .ok (.aload_n 1, 1) := by decide +kernel
theorem dX5_copyFrom_2 : decode cX5_copyFrom 2 = .ok (.getfield 9, 3) := by decide +kernel
theorem dX5_copyFrom_5 : decode cX5_copyFrom 5 = .ok (.putfield 9, 3) := by decide +kernel
theorem dX5_copyFrom_8 : decode cX5_copyFrom 8 = .ok (.aload_n 0, 1) := by decide +kernel
theorem dX5_copyFrom_9 : decode cX5_copyFrom 9 = .ok (.aload_n 1, 1) := by decide +kernel
theorem dX5_copyFrom_10 : decode cX5_copyFrom 10 = .ok (.getfield 15, 3) := by decide +kernel
theorem dX5_copyFrom_13 : decode cX5_copyFrom 13 = .ok (.putfield 15, 3) := by decide +kernel
theorem dX5_copyFrom_16 : decode cX5_copyFrom 16 = .ok (.aload_n 0, 1) := by decide +kernel
theorem dX5_copyFrom_17 : decode cX5_copyFrom 17 = .ok (.aload_n 1, 1) := by decide +kernel
theorem dX5_copyFrom_18 : decode cX5_copyFrom 18 = .ok (.getfield 18, 3) := by decide +kernel
theorem dX5_copyFrom_21 : decode cX5_copyFrom 21 = .ok (.putfield 18, 3) := by decide +kernel
theorem dX5_copyFrom_24 : decode cX5_copyFrom 24 = .ok (.aload_n 0, 1) := by decide +kernel
theorem dX5_copyFrom_25 : decode cX5_copyFrom 25 = .ok (.aload_n 1, 1) := by decide +kernel
theorem dX5_copyFrom_26 : decode cX5_copyFrom 26 = .ok (.getfield 21, 3) := by decide +kernel
theorem dX5_copyFrom_29 : decode cX5_copyFrom 29 = .ok (.putfield 21, 3) := by decide +kernel
theorem dX5_copyFrom_32 : decode cX5_copyFrom 32 = .ok (.return_, 1) := by decide +kernel
theorem dX5_tell_0 : decode cX5_tell 0 = .ok (.iload_n 1, 1) := by decide +kernel
theorem dX5_tell_1 : decode cX5_tell 1 = .ok (.tableswitch 51 0 3 #[31, 36, 41, 46], 31) := by decide +kernel
theorem dX5_tell_32 : decode cX5_tell 32 = .ok (.aload_n 0, 1) := by decide +kernel
theorem dX5_tell_33 : decode cX5_tell 33 = .ok (.getfield 9, 3) := by decide +kernel
theorem dX5_tell_36 : decode cX5_tell 36 = .ok (.ireturn, 1) := by decide +kernel
theorem dX5_tell_37 : decode cX5_tell 37 = .ok (.aload_n 0, 1) := by decide +kernel
theorem dX5_tell_38 : decode cX5_tell 38 = .ok (.getfield 15, 3) := by decide +kernel
theorem dX5_tell_41 : decode cX5_tell 41 = .ok (.ireturn, 1) := by decide +kernel
theorem dX5_tell_42 : decode cX5_tell 42 = .ok (.aload_n 0, 1) := by decide +kernel
theorem dX5_tell_43 : decode cX5_tell 43 = .ok (.getfield 18, 3) := by decide +kernel
theorem dX5_tell_46 : decode cX5_tell 46 = .ok (.ireturn, 1) := by decide +kernel
theorem dX5_tell_47 : decode cX5_tell 47 = .ok (.aload_n 0, 1) := by decide +kernel
theorem dX5_tell_48 : decode cX5_tell 48 = .ok (.getfield 21, 3) := by decide +kernel
theorem dX5_tell_51 : decode cX5_tell 51 = .ok (.ireturn, 1) := by decide +kernel
theorem dX5_tell_52 : decode cX5_tell 52 = .ok (.ldc 24, 2) := by decide +kernel
theorem dX5_tell_54 : decode cX5_tell 54 = .ok (.ireturn, 1) := by decide +kernel
set_option maxRecDepth 20000 in
theorem ggX5_change_X5_isAllowed : GoodIn wsX5_change wsX5_isAllowed := goodIn_r _ [9, 10, 11, 12] (by decide +kernel) (by decide +kernel)
set_option maxRecDepth 20000 in
theorem gX5_change_X5_isAllowed : GoodIn wsX5_change (va_wsS RX5 25 yX5_isAllowed wsX5_isAllowed) := goodIn_app (goodIn_of _ (by decide +kernel)) ggX5_change_X5_isAllowed
set_option maxRecDepth 20000 in
theorem ggX5_change_X5_tell : GoodIn wsX5_change wsX5_tell := goodIn_r _ [16, 2, 3, 4, 5, 1, 17, 18, 19, 20] (by decide +kernel) (by decide +kernel)
set_option maxRecDepth 20000 in
theorem gX5_change_X5_tell : GoodIn wsX5_change (wsV RX5 29 RX5 yX5_tell wsX5_tell) := goodIn_app (goodIn_of _ (by decide +kernel)) ggX5_change_X5_tell
theorem dX5_change_0 : decode cX5_change 0 = .ok (.iload_n 1, 1) := by decide +kernel
theorem dX5_change_1 : decode cX5_change 1 = .ok (.iload_n 2, 1) := by decide +kernel
theorem dX5_change_2 : decode cX5_change 2 = .ok (.invokestatic 25, 3) := by decide +kernel
theorem dX5_change_5 : decode cX5_change 5 = .ok (.ifCond .ne 6, 3) := by decide +kernel
theorem dX5_change_8 : decode cX5_change 8 = .ok (.ldc 24, 2) := by decide +kernel
theorem dX5_change_10 : decode cX5_change 10 = .ok (.ireturn, 1) := by decide +kernel
theorem dX5_change_11 : decode cX5_change 11 = .ok (.aload_n 0, 1) := by decide +kernel
theorem dX5_change_12 : decode cX5_change 12 = .ok (.iload_n 1, 1) := by decide +kernel
theorem dX5_change_13 : decode cX5_change 13 = .ok (.invokevirtual 29, 3) := by decide +kernel
theorem dX5_change_16 : decode cX5_change 16 = .ok (.istore_n 3, 1) := by decide +kernel
theorem dX5_change_17 : decode cX5_change 17 = .ok (.iload_n 1, 1) := by decide +kernel
theorem dX5_change_18 : decode cX5_change 18 = .ok (.tableswitch 50 0 2 #[26, 34, 42], 26) := by decide +kernel
theorem dX5_change_44 : decode cX5_change 44 = .ok (.aload_n 0, 1) := by decide +kernel
theorem dX5_change_45 : decode cX5_change 45 = .ok (.iload_n 2, 1) := by decide +kernel
theorem dX5_change_46 : decode cX5_change 46 = .ok (.putfield 9, 3) := by decide +kernel
theorem dX5_change_49 : decode cX5_change 49 = .ok (.goto 24, 3) := by decide +kernel
theorem dX5_change_52 : decode cX5_change 52 = .ok (.aload_n 0, 1) := by decide +kernel
theorem dX5_change_53 : decode cX5_change 53 = .ok (.iload_n 2, 1) := by decide +kernel
theorem dX5_change_54 : decode cX5_change 54 = .ok (.putfield 15, 3) := by decide +kernel
theorem dX5_change_57 : decode cX5_change 57 = .ok (.goto 16, 3) := by decide +kernel
theorem dX5_change_60 : decode cX5_change 60 = .ok (.aload_n 0, 1) := by decide +kernel
theorem dX5_change_61 : decode cX5_change 61 = .ok (.iload_n 2, 1) := by decide +kernel
theorem dX5_change_62 : decode cX5_change 62 = .ok (.putfield 18, 3) := by decide +kernel
theorem dX5_change_65 : decode cX5_change 65 = .ok (.goto 8, 3) := by decide +kernel
theorem dX5_change_68 : decode cX5_change 68 = .ok (.aload_n 0, 1) := by decide +kernel
theorem dX5_change_69 : decode cX5_change 69 = .ok (.iload_n 2, 1) := by decide +kernel
theorem dX5_change_70 : decode cX5_change 70 = .ok (.putfield 21, 3) := by decide +kernel
theorem dX5_change_73 : decode cX5_change 73 = .ok (.iload_n 3, 1) := by decide +kernel
theorem dX5_change_74 : decode cX5_change 74 = .ok (.ireturn, 1) := by decide +kernel
set_option maxRecDepth 20000 in
theorem ggX5_isAllowed_X9_isWithin : GoodIn wsX5_isAllowed wsX9_isWithin := goodIn_r _ [3] (by decide +kernel) (by decide +kernel)
set_option maxRecDepth 20000 in
theorem gX5_isAllowed_X9_isWithin_n33 : GoodIn wsX5_isAllowed (wsX9_isWithin) := ggX5_isAllowed_X9_isWithin
theorem dX5_isAllowed_0 : decode cX5_isAllowed 0 = .ok (.iload_n 0, 1) := by decide +kernel
theorem dX5_isAllowed_1 : decode cX5_isAllowed 1 = .ok (.tableswitch 64 0 3 #[31, 40, 48, 56], 31) := by decide +kernel
theorem dX5_isAllowed_32 : decode cX5_isAllowed 32 = .ok (.iload_n 1, 1) := by decide +kernel
theorem dX5_isAllowed_33 : decode cX5_isAllowed 33 = .ok (.iconst 1, 1) := by decide +kernel
theorem dX5_isAllowed_34 : decode cX5_isAllowed 34 = .ok (.sipush 500, 3) := by decide +kernel
theorem dX5_isAllowed_37 : decode cX5_isAllowed 37 = .ok (.invokestatic 33, 3) := by decide +kernel
theorem dX5_isAllowed_40 : decode cX5_isAllowed 40 = .ok (.ireturn, 1) := by decide +kernel
theorem dX5_isAllowed_41 : decode cX5_isAllowed 41 = .ok (.iload_n 1, 1) := by decide +kernel
theorem dX5_isAllowed_42 : decode cX5_isAllowed 42 = .ok (.iconst 0, 1) := by decide +kernel
theorem dX5_isAllowed_43 : decode cX5_isAllowed 43 = .ok (.bipush 50, 2) := by decide +kernel
theorem dX5_isAllowed_45 : decode cX5_isAllowed 45 = .ok (.invokestatic 33, 3) := by decide +kernel
theorem dX5_isAllowed_48 : decode cX5_isAllowed 48 = .ok (.ireturn, 1) := by decide +kernel
theorem dX5_isAllowed_49 : decode cX5_isAllowed 49 = .ok (.iload_n 1, 1) := by decide +kernel
theorem dX5_isAllowed_50 : decode cX5_isAllowed 50 = .ok (.iconst 2, 1) := by decide +kernel
theorem dX5_isAllowed_51 : decode cX5_isAllowed 51 = .ok (.bipush 40, 2) := by decide +kernel
theorem dX5_isAllowed_53 : decode cX5_isAllowed 53 = .ok (.invokestatic 33, 3) := by decide +kernel
theorem dX5_isAllowed_56 : decode cX5_isAllowed 56 = .ok (.ireturn, 1) := by decide +kernel
theorem dX5_isAllowed_57 : decode cX5_isAllowed 57 = .ok (.iload_n 1, 1) := by decide +kernel
theorem dX5_isAllowed_58 : decode cX5_isAllowed 58 = .ok (.iconst 0, 1) := by decide +kernel
theorem dX5_isAllowed_59 : decode cX5_isAllowed 59 = .ok (.bipush 16, 2) := by decide +kernel
theorem dX5_isAllowed_61 : decode cX5_isAllowed 61 = .ok (.invokestatic 33, 3) := by decide +kernel
theorem dX5_isAllowed_64 : decode cX5_isAllowed 64 = .ok (.ireturn, 1) := by decide +kernel
theorem dX5_isAllowed_65 : decode cX5_isAllowed 65 = .ok (.iconst 0, 1) := by decide +kernel
theorem dX5_isAllowed_66 : decode cX5_isAllowed 66 = .ok (.ireturn, 1) := by decide +kernel
set_option maxRecDepth 20000 in
theorem ggX6_init_X4_init : GoodIn wsX6_init wsX4_init := goodIn_r _ [30, 31, 2, 3, 32, 33, 34, 77, 78, 79] (by decide +kernel) (by decide +kernel)
set_option maxRecDepth 20000 in
theorem gX6_init_X4_init : GoodIn wsX6_init (wsX4_init) := ggX6_init_X4_init
set_option maxRecDepth 20000 in
theorem ggX6_init_X5_init : GoodIn wsX6_init wsX5_init := goodIn_r _ [36, 37, 2, 3, 38, 39, 40, 41, 80, 81, 82, 83] (by decide +kernel) (by decide +kernel)
set_option maxRecDepth 20000 in
theorem gX6_init_X5_init_n32 : GoodIn wsX6_init (wsX5_init) := ggX6_init_X5_init
set_option maxRecDepth 20000 in
theorem ggX6_init_X1_init : GoodIn wsX6_init wsX1_init := goodIn_r _ [43, 44, 2, 3, 45, 46, 47, 48, 49, 50, 51, 84, 85, 86, 87, 88, 89, 90] (by decide +kernel) (by decide +kernel)
set_option maxRecDepth 20000 in
theorem gX6_init_X1_init_n39 : GoodIn wsX6_init (wsX1_init) := ggX6_init_X1_init
set_option maxRecDepth 20000 in
theorem ggX6_init_X0_init : GoodIn wsX6_init wsX0_init := goodIn_r _ [53, 54, 2, 3, 55, 56, 91, 92] (by decide +kernel) (by decide +kernel)
set_option maxRecDepth 20000 in
theorem gX6_init_X0_init_n46 : GoodIn wsX6_init (wsX0_init) := ggX6_init_X0_init
set_option maxRecDepth 20000 in
theorem ggX6_init_X7_init : GoodIn wsX6_init wsX7_init := goodIn_r _ [58, 59, 2, 3, 60, 61, 62, 63, 64, 65, 66, 67, 93, 94, 95, 96, 97, 98, 99, 100] (by decide +kernel) (by decide +kernel)
set_option maxRecDepth 20000 in
theorem gX6_init_X7_init_n56 : GoodIn wsX6_init (wsX7_init) := ggX6_init_X7_init
theorem dX6_init_0 : decode cX6_init 0 = .ok (.aload_n 0, 1) := by decide +kernel
theorem dX6_init_1 : decode cX6_init 1 = .ok (.invokespecial 3, 3) := by decide +kernel
theorem dX6_init_4 : decode cX6_init 4 = .ok (.aload_n 0, 1) := by decide +kernel
theorem dX6_init_5 : decode cX6_init 5 = .ok (.iconst 1, 1) := by decide +kernel
theorem dX6_init_6 : decode cX6_init 6 = .ok (.putfield 9, 3) := by decide +kernel
theorem dX6_init_9 : decode cX6_init 9 = .ok (.aload_n 0, 1) := by decide +kernel
theorem dX6_init_10 : decode cX6_init 10 = .ok (.iconst (-1), 1) := by decide +kernel
theorem dX6_init_11 : decode cX6_init 11 = .ok (.putfield 15, 3) := by decide +kernel
theorem dX6_init_14 : decode cX6_init 14 = .ok (.aload_n 0, 1) := by decide +kernel
theorem dX6_init_15 : decode cX6_init 15 = .ok (.new 18, 3) := by decide +kernel
theorem dX6_init_18 : decode cX6_init 18 = .ok (.dup, 1) := by decide +kernel
theorem dX6_init_19 : decode cX6_init 19 = .ok (.bipush 100, 2) := by decide +kernel
theorem dX6_init_21 : decode cX6_init 21 = .ok (.invokespecial 20, 3) := by decide +kernel
theorem dX6_init_24 : decode cX6_init 24 = .ok (.putfield 23, 3) := by decide +kernel
theorem dX6_init_27 : decode cX6_init 27 = .ok (.aload_n 0, 1) := by decide +kernel
theorem dX6_init_28 : decode cX6_init 28 = .ok (.new 18, 3) := by decide +kernel
theorem dX6_init_31 : decode cX6_init 31 = .ok (.dup, 1) := by decide +kernel
theorem dX6_init_32 : decode cX6_init 32 = .ok (.sipush 137, 3) := by decide +kernel
theorem dX6_init_35 : decode cX6_init 35 = .ok (.invokespecial 20, 3) := by decide +kernel
theorem dX6_init_38 : decode cX6_init 38 = .ok (.putfield 27, 3) := by decide +kernel
theorem dX6_init_41 : decode cX6_init 41 = .ok (.aload_n 0, 1) := by decide +kernel
theorem dX6_init_42 : decode cX6_init 42 = .ok (.new 30, 3) := by decide +kernel
theorem dX6_init_45 : decode cX6_init 45 = .ok (.dup, 1) := by decide +kernel
theorem dX6_init_46 : decode cX6_init 46 = .ok (.invokespecial 32, 3) := by decide +kernel
theorem dX6_init_49 : decode cX6_init 49 = .ok (.putfield 33, 3) := by decide +kernel
theorem dX6_init_52 : decode cX6_init 52 = .ok (.aload_n 0, 1) := by decide +kernel
theorem dX6_init_53 : decode cX6_init 53 = .ok (.new 37, 3) := by decide +kernel
theorem dX6_init_56 : decode cX6_init 56 = .ok (.dup, 1) := by decide +kernel
theorem dX6_init_57 : decode cX6_init 57 = .ok (.invokespecial 39, 3) := by decide +kernel
theorem dX6_init_60 : decode cX6_init 60 = .ok (.putfield 40, 3) := by decide +kernel
theorem dX6_init_63 : decode cX6_init 63 = .ok (.aload_n 0, 1) := by decide +kernel
theorem dX6_init_64 : decode cX6_init 64 = .ok (.new 44, 3) := by decide +kernel
theorem dX6_init_67 : decode cX6_init 67 = .ok (.dup, 1) := by decide +kernel
theorem dX6_init_68 : decode cX6_init 68 = .ok (.invokespecial 46, 3) := by decide +kernel
theorem dX6_init_71 : decode cX6_init 71 = .ok (.putfield 47, 3) := by decide +kernel
theorem dX6_init_74 : decode cX6_init 74 = .ok (.aload_n 0, 1) := by decide +kernel
theorem dX6_init_75 : decode cX6_init 75 = .ok (.new 44, 3) := by decide +kernel
theorem dX6_init_78 : decode cX6_init 78 = .ok (.dup, 1) := by decide +kernel
theorem dX6_init_79 : decode cX6_init 79 = .ok (.invokespecial 46, 3) := by decide +kernel
theorem dX6_init_82 : decode cX6_init 82 = .ok (.putfield 51, 3) := by decide +kernel
theorem dX6_init_85 : decode cX6_init 85 = .ok (.aload_n 0, 1) := by decide +kernel
theorem dX6_init_86 : decode cX6_init 86 = .ok (.new 54, 3) := by decide +kernel
theorem dX6_init_89 : decode cX6_init 89 = .ok (.dup, 1) := by decide +kernel
theorem dX6_init_90 : decode cX6_init 90 = .ok (.invokespecial 56, 3) := by decide +kernel
theorem dX6_init_93 : decode cX6_init 93 = .ok (.putfield 57, 3) := by decide +kernel
theorem dX6_init_96 : decode cX6_init 96 = .ok (.return_, 1) := by decide +kernel
set_option maxRecDepth 20000 in
theorem ggX6_copyFrom_X4_copyFrom : GoodIn wsX6_copyFrom wsX4_copyFrom := goodIn_r _ [14, 15, 16, 17, 68, 69, 70] (by decide +kernel) (by decide +kernel)
set_option maxRecDepth 20000 in
theorem gX6_copyFrom_X4_copyFrom : GoodIn wsX6_copyFrom (wsV RX6 61 RX4 yX4_copyFrom wsX4_copyFrom) := goodIn_app (goodIn_of _ (by decide +kernel)) ggX6_copyFrom_X4_copyFrom
set_option maxRecDepth 20000 in
theorem ggX6_copyFrom_X5_copyFrom : GoodIn wsX6_copyFrom wsX5_copyFrom := goodIn_r _ [22, 23, 24, 25, 26, 71, 72, 73, 74] (by decide +kernel) (by decide +kernel)
set_option maxRecDepth 20000 in
theorem gX6_copyFrom_X5_copyFrom : GoodIn wsX6_copyFrom (wsV RX6 65 RX5 yX5_copyFrom wsX5_copyFrom) := goodIn_app (goodIn_of _ (by decide +kernel)) ggX6_copyFrom_X5_copyFrom
set_option maxRecDepth 20000 in
theorem ggX6_copyFrom_X1_copyFrom : GoodIn wsX6_copyFrom wsX1_copyFrom := goodIn_r _ [31, 32, 33, 34, 35, 36, 37, 38, 75, 76, 77, 78, 79, 80, 81] (by decide +kernel) (by decide +kernel)
set_option maxRecDepth 20000 in
theorem gX6_copyFrom_X1_copyFrom : GoodIn wsX6_copyFrom (wsV RX6 68 RX1 yX1_copyFrom wsX1_copyFrom) := goodIn_app (goodIn_of _ (by decide +kernel)) ggX6_copyFrom_X1_copyFrom
set_option maxRecDepth 20000 in
theorem ggX6_copyFrom_X0_copyFrom : GoodIn wsX6_copyFrom wsX0_copyFrom := goodIn_r _ [43, 44, 45, 82, 83] (by decide +kernel) (by decide +kernel)
set_option maxRecDepth 20000 in
theorem gX6_copyFrom_X0_copyFrom : GoodIn wsX6_copyFrom (wsV RX6 71 RX0 yX0_copyFrom wsX0_copyFrom) := goodIn_app (goodIn_of _ (by decide +kernel)) ggX6_copyFrom_X0_copyFrom
set_option maxRecDepth 20000 in
theorem ggX6_copyFrom_X7_copyFrom : GoodIn wsX6_copyFrom wsX7_copyFrom := goodIn_r _ [50, 51, 52, 53, 54, 55, 56, 57, 58, 84, 85, 86, 87, 88, 89, 90, 91] (by decide +kernel) (by decide +kernel)
set_option maxRecDepth 20000 in
theorem gX6_copyFrom_X7_copyFrom : GoodIn wsX6_copyFrom (wsV RX6 74 RX7 yX7_copyFrom wsX7_copyFrom) := goodIn_app (goodIn_of _ (by decide +kernel)) ggX6_copyFrom_X7_copyFrom
theorem dX6_copyFrom_0 : decode cX6_copyFrom 0 = .ok (.aload_n 0, 1) := by decide +kernel
theorem dX6_copyFrom_1 : decode cX6_copyFrom 1 = .ok (.getfield 23, 3) := by decide +kernel
theorem dX6_copyFrom_4 : decode cX6_copyFrom 4 = .ok (.aload_n 1, 1) := by decide +kernel
theorem dX6_copyFrom_5 : decode cX6_copyFrom 5 = .ok (.getfield 23, 3) := by decide +kernel
theorem dX6_copyFrom_8 : decode cX6_copyFrom 8 = .ok (.invokevirtual 61, 3) := by decide +kernel
theorem dX6_copyFrom_11 : decode cX6_copyFrom 11 = .ok (.aload_n 0, 1) := by decide +kernel
theorem dX6_copyFrom_12 : decode cX6_copyFrom 12 = .ok (.getfield 27, 3) := by decide +kernel
theorem dX6_copyFrom_15 : decode cX6_copyFrom 15 = .ok (.aload_n 1, 1) := by decide +kernel
theorem dX6_copyFrom_16 : decode cX6_copyFrom 16 = .ok (.getfield 27, 3) := by decide +kernel
theorem dX6_copyFrom_19 : decode cX6_copyFrom 19 = .ok (.invokevirtual 61, 3) := by decide +kernel
theorem dX6_copyFrom_22 : decode cX6_copyFrom 22 = .ok (.aload_n 0, 1) := by decide +kernel
theorem dX6_copyFrom_23 : decode cX6_copyFrom 23 = .ok (.getfield 33, 3) := by decide +kernel
theorem dX6_copyFrom_26 : decode cX6_copyFrom 26 = .ok (.aload_n 1, 1) := by decide +kernel
theorem dX6_copyFrom_27 : decode cX6_copyFrom 27 = .ok (.getfield 33, 3) := by decide +kernel
theorem dX6_copyFrom_30 : decode cX6_copyFrom 30 = .ok (.invokevirtual 65, 3) := by decide +kernel
theorem dX6_copyFrom_33 : decode cX6_copyFrom 33 = .ok (.aload_n 0, 1) := by decide +kernel
theorem dX6_copyFrom_34 : decode cX6_copyFrom 34 = .ok (.getfield 40, 3) := by decide +kernel
theorem dX6_copyFrom_37 : decode cX6_copyFrom 37 = .ok (.aload_n 1, 1) := by decide +kernel
theorem dX6_copyFrom_38 : decode cX6_copyFrom 38 = .ok (.getfield 40, 3) := by decide +kernel
theorem dX6_copyFrom_41 : decode cX6_copyFrom 41 = .ok (.invokevirtual 68, 3) := by decide +kernel
theorem dX6_copyFrom_44 : decode cX6_copyFrom 44 = .ok (.aload_n 0, 1) := by decide +kernel
theorem dX6_copyFrom_45 : decode cX6_copyFrom 45 = .ok (.getfield 47, 3) := by decide +kernel
theorem dX6_copyFrom_48 : decode cX6_copyFrom 48 = .ok (.aload_n 1, 1) := by decide +kernel
theorem dX6_copyFrom_49 : decode cX6_copyFrom 49 = .ok (.getfield 47, 3) := by decide +kernel
theorem dX6_copyFrom_52 : decode cX6_copyFrom 52 = .ok (.invokevirtual 71, 3) := by decide +kernel
theorem dX6_copyFrom_55 : decode cX6_copyFrom 55 = .ok (.aload_n 0, 1) := by decide +kernel
theorem dX6_copyFrom_56 : decode cX6_copyFrom 56 = .ok (.getfield 51, 3) := by decide +kernel
theorem dX6_copyFrom_59 : decode cX6_copyFrom 59 = .ok (.aload_n 1, 1) := by decide +kernel
theorem dX6_copyFrom_60 : decode cX6_copyFrom 60 = .ok (.getfield 51, 3) := by decide +kernel
theorem dX6_copyFrom_63 : decode cX6_copyFrom 63 = .ok (.invokevirtual 71, 3) := by decide +kernel
theorem dX6_copyFrom_66 : decode cX6_copyFrom 66 = .ok (.aload_n 0, 1) := by decide +kernel
theorem dX6_copyFrom_67 : decode cX6_copyFrom 67 = .ok (.getfield 57, 3) := by decide +kernel
theorem dX6_copyFrom_70 : decode cX6_copyFrom 70 = .ok (.aload_n 1, 1) := by decide +kernel
theorem dX6_copyFrom_71 : decode cX6_copyFrom 71 = .ok (.getfield 57, 3) := by decide +kernel
theorem dX6_copyFrom_74 : decode cX6_copyFrom 74 = .ok (.invokevirtual 74, 3) := by decide +kernel
theorem dX6_copyFrom_77 : decode cX6_copyFrom 77 = .ok (.aload_n 0, 1) := by decide +kernel
theorem dX6_copyFrom_78 : decode cX6_copyFrom 78 = .ok (.aload_n 1, 1) := by decide +kernel
theorem dX6_copyFrom_79 : decode cX6_copyFrom 79 = .ok (.getfield 9, 3) := by decide +kernel
theorem dX6_copyFrom_82 : decode cX6_copyFrom 82 = .ok (.putfield 9, 3) := by decide +kernel
theorem dX6_copyFrom_85 : decode cX6_copyFrom 85 = .ok (.aload_n 0, 1) := by decide +kernel
theorem dX6_copyFrom_86 : decode cX6_copyFrom 86 = .ok (.aload_n 1, 1) := by decide +kernel
theorem dX6_copyFrom_87 : decode cX6_copyFrom 87 = .ok (.getfield 15, 3) := by decide +kernel
theorem dX6_copyFrom_90 : decode cX6_copyFrom 90 = .ok (.putfield 15, 3) := by decide +kernel
theorem dX6_copyFrom_93 : decode cX6_copyFrom 93 = .ok (.return_, 1) := by decide +kernel
theorem dX6_ringAt_0 : decode cX6_ringAt 0 = .ok (.iload_n 1, 1) := by decide +kernel
theorem dX6_ringAt_1 : decode cX6_ringAt 1 = .ok (.ifCond .ne 10, 3) := by decide +kernel
theorem dX6_ringAt_4 : decode cX6_ringAt 4 = .ok (.aload_n 0, 1) := by decide +kernel
theorem dX6_ringAt_5 : decode cX6_ringAt 5 = .ok (.getfield 23, 3) := by decide +kernel
theorem dX6_ringAt_8 : decode cX6_ringAt 8 = .ok (.goto 7, 3) := by decide +kernel
theorem dX6_ringAt_11 : decode cX6_ringAt 11 = .ok (.aload_n 0, 1) := by decide +kernel
theorem dX6_ringAt_12 : decode cX6_ringAt 12 = .ok (.getfield 27, 3) := by decide +kernel
theorem dX6_ringAt_15 : decode cX6_ringAt 15 = .ok (.areturn, 1) := by decide +kernel
set_option maxRecDepth 20000 in
theorem ggX6_changeRing_X9_isWithin : GoodIn wsX6_changeRing wsX9_isWithin := goodIn_r _ [7] (by decide +kernel) (by decide +kernel)
set_option maxRecDepth 20000 in
theorem gX6_changeRing_X9_isWithin_n77 : GoodIn wsX6_changeRing (wsX9_isWithin) := ggX6_changeRing_X9_isWithin
set_option maxRecDepth 20000 in
theorem ggX6_changeRing_X6_ringAt : GoodIn wsX6_changeRing wsX6_ringAt := goodIn_r _ [12, 13, 14, 18, 19, 20, 21, 22, 23, 24, 25, 26] (by decide +kernel) (by decide +kernel)
set_option maxRecDepth 20000 in
theorem gX6_changeRing_X6_ringAt : GoodIn wsX6_changeRing (wsV RX6 82 RX6 yX6_ringAt wsX6_ringAt) := goodIn_app (goodIn_of _ (by decide +kernel)) ggX6_changeRing_X6_ringAt
theorem dX6_changeRing_0 : decode cX6_changeRing 0 = .ok (.iload_n 1, 1) := by decide +kernel
theorem dX6_changeRing_1 : decode cX6_changeRing 1 = .ok (.iconst 0, 1) := by decide +kernel
theorem dX6_changeRing_2 : decode cX6_changeRing 2 = .ok (.iconst 1, 1) := by decide +kernel
theorem dX6_changeRing_3 : decode cX6_changeRing 3 = .ok (.invokestatic 77, 3) := by decide +kernel
theorem dX6_changeRing_6 : decode cX6_changeRing 6 = .ok (.ifCond .eq 25, 3) := by decide +kernel
theorem dX6_changeRing_9 : decode cX6_changeRing 9 = .ok (.iload_n 2, 1) := by decide +kernel
theorem dX6_changeRing_10 : decode cX6_changeRing 10 = .ok (.bipush 10, 2) := by decide +kernel
theorem dX6_changeRing_12 : decode cX6_changeRing 12 = .ok (.sipush 999, 3) := by decide +kernel
theorem dX6_changeRing_15 : decode cX6_changeRing 15 = .ok (.invokestatic 77, 3) := by decide +kernel
theorem dX6_changeRing_18 : decode cX6_changeRing 18 = .ok (.ifCond .eq 13, 3) := by decide +kernel
theorem dX6_changeRing_21 : decode cX6_changeRing 21 = .ok (.iload_n 3, 1) := by decide +kernel
theorem dX6_changeRing_22 : decode cX6_changeRing 22 = .ok (.iconst 0, 1) := by decide +kernel
theorem dX6_changeRing_23 : decode cX6_changeRing 23 = .ok (.bipush 99, 2) := by decide +kernel
theorem dX6_changeRing_25 : decode cX6_changeRing 25 = .ok (.invokestatic 77, 3) := by decide +kernel
theorem dX6_changeRing_28 : decode cX6_changeRing 28 = .ok (.ifCond .ne 6, 3) := by decide +kernel
theorem dX6_changeRing_31 : decode cX6_changeRing 31 = .ok (.ldc 81, 2) := by decide +kernel
theorem dX6_changeRing_33 : decode cX6_changeRing 33 = .ok (.ireturn, 1) := by decide +kernel
theorem dX6_changeRing_34 : decode cX6_changeRing 34 = .ok (.aload_n 0, 1) := by decide +kernel
theorem dX6_changeRing_35 : decode cX6_changeRing 35 = .ok (.iload_n 1, 1) := by decide +kernel
theorem dX6_changeRing_36 : decode cX6_changeRing 36 = .ok (.invokevirtual 82, 3) := by decide +kernel
theorem dX6_changeRing_39 : decode cX6_changeRing 39 = .ok (.astore 4, 2) := by decide +kernel
theorem dX6_changeRing_41 : decode cX6_changeRing 41 = .ok (.aload 4, 2) := by decide +kernel
theorem dX6_changeRing_43 : decode cX6_changeRing 43 = .ok (.getfield 86, 3) := by decide +kernel
theorem dX6_changeRing_46 : decode cX6_changeRing 46 = .ok (.istore 5, 2) := by decide +kernel
theorem dX6_changeRing_48 : decode cX6_changeRing 48 = .ok (.aload 4, 2) := by decide +kernel
theorem dX6_changeRing_50 : decode cX6_changeRing 50 = .ok (.iload_n 2, 1) := by decide +kernel
theorem dX6_changeRing_51 : decode cX6_changeRing 51 = .ok (.putfield 86, 3) := by decide +kernel
theorem dX6_changeRing_54 : decode cX6_changeRing 54 = .ok (.aload 4, 2) := by decide +kernel
theorem dX6_changeRing_56 : decode cX6_changeRing 56 = .ok (.iload_n 3, 1) := by decide +kernel
theorem dX6_changeRing_57 : decode cX6_changeRing 57 = .ok (.putfield 89, 3) := by decide +kernel
theorem dX6_changeRing_60 : decode cX6_changeRing 60 = .ok (.aload 4, 2) := by decide +kernel
theorem dX6_changeRing_62 : decode cX6_changeRing 62 = .ok (.iconst 0, 1) := by decide +kernel
theorem dX6_changeRing_63 : decode cX6_changeRing 63 = .ok (.putfield 92, 3) := by decide +kernel
theorem dX6_changeRing_66 : decode cX6_changeRing 66 = .ok (.iload 5, 2) := by decide +kernel
theorem dX6_changeRing_68 : decode cX6_changeRing 68 = .ok (.ireturn, 1) := by decide +kernel
set_option maxRecDepth 20000 in
theorem ggX6_changeNoise_X9_isWithin : GoodIn wsX6_changeNoise wsX9_isWithin := goodIn_r _ [6] (by decide +kernel) (by decide +kernel)
set_option maxRecDepth 20000 in
theorem gX6_changeNoise_X9_isWithin_n77 : GoodIn wsX6_changeNoise (wsX9_isWithin) := ggX6_changeNoise_X9_isWithin
theorem dX6_changeNoise_0 : decode cX6_changeNoise 0 = .ok (.iload_n 1, 1) := by decide +kernel
theorem dX6_changeNoise_1 : decode cX6_changeNoise 1 = .ok (.iconst 1, 1) := by decide +kernel
theorem dX6_changeNoise_2 : decode cX6_changeNoise 2 = .ok (.ldc 95, 2) := by decide +kernel
theorem dX6_changeNoise_4 : decode cX6_changeNoise 4 = .ok (.invokestatic 77, 3) := by decide +kernel
theorem dX6_changeNoise_7 : decode cX6_changeNoise 7 = .ok (.ifCond .ne 6, 3) := by decide +kernel
theorem dX6_changeNoise_10 : decode cX6_changeNoise 10 = .ok (.ldc 81, 2) := by decide +kernel
theorem dX6_changeNoise_12 : decode cX6_changeNoise 12 = .ok (.ireturn, 1) := by decide +kernel
theorem dX6_changeNoise_13 : decode cX6_changeNoise 13 = .ok (.aload_n 0, 1) := by decide +kernel
theorem dX6_changeNoise_14 : decode cX6_changeNoise 14 = .ok (.getfield 9, 3) := by decide +kernel
theorem dX6_changeNoise_17 : decode cX6_changeNoise 17 = .ok (.istore_n 2, 1) := by decide +kernel
theorem dX6_changeNoise_18 : decode cX6_changeNoise 18 = .ok (.aload_n 0, 1) := by decide +kernel
theorem dX6_changeNoise_19 : decode cX6_changeNoise 19 = .ok (.iload_n 1, 1) := by decide +kernel
theorem dX6_changeNoise_20 : decode cX6_changeNoise 20 = .ok (.putfield 9, 3) := by decide +kernel
theorem dX6_changeNoise_23 : decode cX6_changeNoise 23 = .ok (.iload_n 2, 1) := by decide +kernel
theorem dX6_changeNoise_24 : decode cX6_changeNoise 24 = .ok (.ireturn, 1) := by decide +kernel
set_option maxRecDepth 20000 in
theorem ggX6_makeSamples_X9_isWithin : GoodIn wsX6_makeSamples wsX9_isWithin := goodIn_r _ [6] (by decide +kernel) (by decide +kernel)
set_option maxRecDepth 20000 in
theorem gX6_makeSamples_X9_isWithin_n77 : GoodIn wsX6_makeSamples (wsX9_isWithin) := ggX6_makeSamples_X9_isWithin
set_option maxRecDepth 20000 in
theorem ggX6_makeSamples_X6_nextRawBit : GoodIn wsX6_makeSamples wsX6_nextRawBit := goodIn_r _ [11, 12, 13, 14, 15, 16, 17, 18, 10, 19, 20, 21, 22, 23, 24, 25, 26, 27, 28, 29, 30, 5, 31, 32, 33, 34, 35, 36, 37, 38, 39, 40, 41, 42, 43, 44, 45, 46, 47, 48, 49, 114, 115, 116, 117, 118, 119, 120, 121, 122, 131, 132, 133, 134, 135, 136, 137] (by decide +kernel) (by decide +kernel)
set_option maxRecDepth 20000 in
theorem gX6_makeSamples_X6_nextRawBit : GoodIn wsX6_makeSamples (wsV RX6 99 RX6 yX6_nextRawBit wsX6_nextRawBit) := goodIn_app (goodIn_of _ (by decide +kernel)) ggX6_makeSamples_X6_nextRawBit
set_option maxRecDepth 20000 in
theorem ggX6_makeSamples_X6_takeRawBit : GoodIn wsX6_makeSamples wsX6_takeRawBit := goodIn_r _ [53, 54, 2, 55, 56, 57, 58, 13, 59, 60, 61, 62, 39, 63, 64, 65, 66, 67, 68, 69, 70, 71, 72, 73, 74, 75, 76, 77, 78, 79, 80, 81, 82, 83, 84, 85, 86, 87, 88, 89, 90, 91, 92, 93, 94, 95, 96, 97, 98, 99, 100, 101, 102, 103, 104, 105, 10, 106, 107, 108, 109, 3, 110, 111, 112, 113, 114, 115, 116, 117, 118, 119, 120, 121, 122, 123, 124, 125, 126, 127, 128, 129, 130, 138, 139, 140, 141, 142, 143, 144, 145, 146, 131, 132, 133, 134] (by decide +kernel) (by decide +kernel)
set_option maxRecDepth 20000 in
theorem gX6_makeSamples_X6_takeRawBit : GoodIn wsX6_makeSamples (wsV RX6 103 RX6 yX6_takeRawBit wsX6_takeRawBit) := goodIn_app (goodIn_of _ (by decide +kernel)) ggX6_makeSamples_X6_takeRawBit
theorem dX6_makeSamples_0 : decode cX6_makeSamples 0 = .ok (.iload_n 1, 1) := by decide +kernel
theorem dX6_makeSamples_1 : decode cX6_makeSamples 1 = .ok (.iconst 1, 1) := by decide +kernel
theorem dX6_makeSamples_2 : decode cX6_makeSamples 2 = .ok (.sipush 300, 3) := by decide +kernel
theorem dX6_makeSamples_5 : decode cX6_makeSamples 5 = .ok (.invokestatic 77, 3) := by decide +kernel
theorem dX6_makeSamples_8 : decode cX6_makeSamples 8 = .ok (.ifCond .ne 6, 3) := by decide +kernel
theorem dX6_makeSamples_11 : decode cX6_makeSamples 11 = .ok (.ldc 81, 2) := by decide +kernel
theorem dX6_makeSamples_13 : decode cX6_makeSamples 13 = .ok (.ireturn, 1) := by decide +kernel
theorem dX6_makeSamples_14 : decode cX6_makeSamples 14 = .ok (.aload_n 0, 1) := by decide +kernel
theorem dX6_makeSamples_15 : decode cX6_makeSamples 15 = .ok (.getfield 57, 3) := by decide +kernel
theorem dX6_makeSamples_18 : decode cX6_makeSamples 18 = .ok (.getfield 96, 3) := by decide +kernel
theorem dX6_makeSamples_21 : decode cX6_makeSamples 21 = .ok (.istore_n 2, 1) := by decide +kernel
theorem dX6_makeSamples_22 : decode cX6_makeSamples 22 = .ok (.iconst 0, 1) := by decide +kernel
theorem dX6_makeSamples_23 : decode cX6_makeSamples 23 = .ok (.istore_n 3, 1) := by decide +kernel
theorem dX6_makeSamples_24 : decode cX6_makeSamples 24 = .ok (.iload_n 3, 1) := by decide +kernel
theorem dX6_makeSamples_25 : decode cX6_makeSamples 25 = .ok (.iload_n 1, 1) := by decide +kernel
theorem dX6_makeSamples_26 : decode cX6_makeSamples 26 = .ok (.if_icmp .ge 17, 3) := by decide +kernel
theorem dX6_makeSamples_29 : decode cX6_makeSamples 29 = .ok (.aload_n 0, 1) := by decide +kernel
theorem dX6_makeSamples_30 : decode cX6_makeSamples 30 = .ok (.aload_n 0, 1) := by decide +kernel
theorem dX6_makeSamples_31 : decode cX6_makeSamples 31 = .ok (.invokevirtual 99, 3) := by decide +kernel
theorem dX6_makeSamples_34 : decode cX6_makeSamples 34 = .ok (.invokevirtual 103, 3) := by decide +kernel
theorem dX6_makeSamples_37 : decode cX6_makeSamples 37 = .ok (.iinc 3 1, 3) := by decide +kernel
theorem dX6_makeSamples_40 : decode cX6_makeSamples 40 = .ok (.goto (-16), 3) := by decide +kernel
theorem dX6_makeSamples_43 : decode cX6_makeSamples 43 = .ok (.aload_n 0, 1) := by decide +kernel
theorem dX6_makeSamples_44 : decode cX6_makeSamples 44 = .ok (.getfield 57, 3) := by decide +kernel
theorem dX6_makeSamples_47 : decode cX6_makeSamples 47 = .ok (.getfield 96, 3) := by decide +kernel
theorem dX6_makeSamples_50 : decode cX6_makeSamples 50 = .ok (.iload_n 2, 1) := by decide +kernel
theorem dX6_makeSamples_51 : decode cX6_makeSamples 51 = .ok (.isub, 1) := by decide +kernel
theorem dX6_makeSamples_52 : decode cX6_makeSamples 52 = .ok (.ireturn, 1) := by decide +kernel
set_option maxRecDepth 20000 in
theorem ggX6_drawBits_X9_isWithin : GoodIn wsX6_drawBits wsX9_isWithin := goodIn_r _ [11] (by decide +kernel) (by decide +kernel)
set_option maxRecDepth 20000 in
theorem gX6_drawBits_X9_isWithin_n77 : GoodIn wsX6_drawBits (wsX9_isWithin) := ggX6_drawBits_X9_isWithin
set_option maxRecDepth 20000 in
theorem ggX6_drawBits_X0_takeEarliest : GoodIn wsX6_drawBits wsX0_takeEarliest := goodIn_r _ [16, 17, 18, 28, 29] (by decide +kernel) (by decide +kernel)
set_option maxRecDepth 20000 in
theorem gX6_drawBits_X0_takeEarliest : GoodIn wsX6_drawBits (wsV RX6 116 RX0 yX0_takeEarliest wsX0_takeEarliest) := goodIn_app (goodIn_of _ (by decide +kernel)) ggX6_drawBits_X0_takeEarliest
theorem dX6_drawBits_0 : decode cX6_drawBits 0 = .ok (.iload_n 1, 1) := by decide +kernel
theorem dX6_drawBits_1 : decode cX6_drawBits 1 = .ok (.iconst 1, 1) := by decide +kernel
theorem dX6_drawBits_2 : decode cX6_drawBits 2 = .ok (.bipush 24, 2) := by decide +kernel
theorem dX6_drawBits_4 : decode cX6_drawBits 4 = .ok (.invokestatic 77, 3) := by decide +kernel
theorem dX6_drawBits_7 : decode cX6_drawBits 7 = .ok (.ifCond .ne 6, 3) := by decide +kernel
theorem dX6_drawBits_10 : decode cX6_drawBits 10 = .ok (.ldc 81, 2) := by decide +kernel
theorem dX6_drawBits_12 : decode cX6_drawBits 12 = .ok (.ireturn, 1) := by decide +kernel
theorem dX6_drawBits_13 : decode cX6_drawBits 13 = .ok (.aload_n 0, 1) := by decide +kernel
theorem dX6_drawBits_14 : decode cX6_drawBits 14 = .ok (.getfield 51, 3) := by decide +kernel
theorem dX6_drawBits_17 : decode cX6_drawBits 17 = .ok (.getfield 106, 3) := by decide +kernel
theorem dX6_drawBits_20 : decode cX6_drawBits 20 = .ok (.iload_n 1, 1) := by decide +kernel
theorem dX6_drawBits_21 : decode cX6_drawBits 21 = .ok (.if_icmp .lt 14, 3) := by decide +kernel
theorem dX6_drawBits_24 : decode cX6_drawBits 24 = .ok (.aload_n 0, 1) := by decide +kernel
theorem dX6_drawBits_25 : decode cX6_drawBits 25 = .ok (.getfield 40, 3) := by decide +kernel
theorem dX6_drawBits_28 : decode cX6_drawBits 28 = .ok (.getfield 109, 3) := by decide +kernel
theorem dX6_drawBits_31 : decode cX6_drawBits 31 = .ok (.iconst 2, 1) := by decide +kernel
theorem dX6_drawBits_32 : decode cX6_drawBits 32 = .ok (.if_icmp .ne 6, 3) := by decide +kernel
theorem dX6_drawBits_35 : decode cX6_drawBits 35 = .ok (.ldc 112, 2) := by decide +kernel
theorem dX6_drawBits_37 : decode cX6_drawBits 37 = .ok (.ireturn, 1) := by decide +kernel
theorem dX6_drawBits_38 : decode cX6_drawBits 38 = .ok (.aload_n 0, 1) := by decide +kernel
theorem dX6_drawBits_39 : decode cX6_drawBits 39 = .ok (.getfield 57, 3) := by decide +kernel
theorem dX6_drawBits_42 : decode cX6_drawBits 42 = .ok (.dup, 1) := by decide +kernel
theorem dX6_drawBits_43 : decode cX6_drawBits 43 = .ok (.getfield 113, 3) := by decide +kernel
theorem dX6_drawBits_46 : decode cX6_drawBits 46 = .ok (.iload_n 1, 1) := by decide +kernel
theorem dX6_drawBits_47 : decode cX6_drawBits 47 = .ok (.iadd, 1) := by decide +kernel
theorem dX6_drawBits_48 : decode cX6_drawBits 48 = .ok (.putfield 113, 3) := by decide +kernel
theorem dX6_drawBits_51 : decode cX6_drawBits 51 = .ok (.aload_n 0, 1) := by decide +kernel
theorem dX6_drawBits_52 : decode cX6_drawBits 52 = .ok (.getfield 51, 3) := by decide +kernel
theorem dX6_drawBits_55 : decode cX6_drawBits 55 = .ok (.iload_n 1, 1) := by decide +kernel
theorem dX6_drawBits_56 : decode cX6_drawBits 56 = .ok (.invokevirtual 116, 3) := by decide +kernel
theorem dX6_drawBits_59 : decode cX6_drawBits 59 = .ok (.ireturn, 1) := by decide +kernel
set_option maxRecDepth 20000 in
theorem ggX6_startAnew_X0_clear : GoodIn wsX6_startAnew wsX0_clear := goodIn_r _ [9, 10, 11, 33, 34] (by decide +kernel) (by decide +kernel)
set_option maxRecDepth 20000 in
theorem gX6_startAnew_X0_clear : GoodIn wsX6_startAnew (wsV RX6 120 RX0 yX0_clear wsX0_clear) := goodIn_app (goodIn_of _ (by decide +kernel)) ggX6_startAnew_X0_clear
set_option maxRecDepth 20000 in
theorem ggX6_startAnew_X1_startAnew : GoodIn wsX6_startAnew wsX1_startAnew := goodIn_r _ [16, 17, 18, 19, 20, 21, 22, 23, 35, 36, 37, 38, 39, 40, 41] (by decide +kernel) (by decide +kernel)
set_option maxRecDepth 20000 in
theorem gX6_startAnew_X1_startAnew : GoodIn wsX6_startAnew (wsV RX6 123 RX1 yX1_startAnew wsX1_startAnew) := goodIn_app (goodIn_of _ (by decide +kernel)) ggX6_startAnew_X1_startAnew
theorem dX6_startAnew_0 : decode cX6_startAnew 0 = .ok (.aload_n 0, 1) := by decide +kernel
theorem dX6_startAnew_1 : decode cX6_startAnew 1 = .ok (.getfield 51, 3) := by decide +kernel
theorem dX6_startAnew_4 : decode cX6_startAnew 4 = .ok (.getfield 106, 3) := by decide +kernel
theorem dX6_startAnew_7 : decode cX6_startAnew 7 = .ok (.istore_n 1, 1) := by decide +kernel
theorem dX6_startAnew_8 : decode cX6_startAnew 8 = .ok (.aload_n 0, 1) := by decide +kernel
theorem dX6_startAnew_9 : decode cX6_startAnew 9 = .ok (.getfield 51, 3) := by decide +kernel
theorem dX6_startAnew_12 : decode cX6_startAnew 12 = .ok (.invokevirtual 120, 3) := by decide +kernel
theorem dX6_startAnew_15 : decode cX6_startAnew 15 = .ok (.aload_n 0, 1) := by decide +kernel
theorem dX6_startAnew_16 : decode cX6_startAnew 16 = .ok (.getfield 40, 3) := by decide +kernel
theorem dX6_startAnew_19 : decode cX6_startAnew 19 = .ok (.invokevirtual 123, 3) := by decide +kernel
theorem dX6_startAnew_22 : decode cX6_startAnew 22 = .ok (.aload_n 0, 1) := by decide +kernel
theorem dX6_startAnew_23 : decode cX6_startAnew 23 = .ok (.iconst (-1), 1) := by decide +kernel
theorem dX6_startAnew_24 : decode cX6_startAnew 24 = .ok (.putfield 15, 3) := by decide +kernel
theorem dX6_startAnew_27 : decode cX6_startAnew 27 = .ok (.iload_n 1, 1) := by decide +kernel
theorem dX6_startAnew_28 : decode cX6_startAnew 28 = .ok (.ireturn, 1) := by decide +kernel
set_option maxRecDepth 20000 in
theorem ggX6_nextRawBit_X6_nextNoise : GoodIn wsX6_nextRawBit wsX6_nextNoise := goodIn_r _ [9, 10, 11, 41, 42, 43, 44, 45, 46, 47, 48, 49] (by decide +kernel) (by decide +kernel)
set_option maxRecDepth 20000 in
theorem gX6_nextRawBit_X6_nextNoise : GoodIn wsX6_nextRawBit (wsV RX6 129 RX6 yX6_nextNoise wsX6_nextNoise) := goodIn_app (goodIn_of _ (by decide +kernel)) ggX6_nextRawBit_X6_nextNoise
set_option maxRecDepth 20000 in
theorem ggX6_nextRawBit_X4_advance : GoodIn wsX6_nextRawBit wsX4_advance := goodIn_r _ [16, 17, 18, 19, 20, 21, 22, 54, 55, 56] (by decide +kernel) (by decide +kernel)
set_option maxRecDepth 20000 in
theorem gX6_nextRawBit_X4_advance : GoodIn wsX6_nextRawBit (wsV RX6 132 RX4 yX4_advance wsX4_advance) := goodIn_app (goodIn_of _ (by decide +kernel)) ggX6_nextRawBit_X4_advance
set_option maxRecDepth 20000 in
theorem ggX6_nextRawBit_X6_locksOn : GoodIn wsX6_nextRawBit wsX6_locksOn := goodIn_r _ [26, 1, 27, 4, 28, 29, 30, 31, 2, 32, 41, 42, 43, 44, 45, 46, 47, 48, 49, 54, 55, 56, 50, 51, 52, 53] (by decide +kernel) (by decide +kernel)
set_option maxRecDepth 20000 in
theorem gX6_nextRawBit_X6_locksOn : GoodIn wsX6_nextRawBit (wsV RX6 136 RX6 yX6_locksOn wsX6_locksOn) := goodIn_app (goodIn_of _ (by decide +kernel)) ggX6_nextRawBit_X6_locksOn
set_option maxRecDepth 20000 in
theorem ggX6_nextRawBit_X4_lockOn : GoodIn wsX6_nextRawBit wsX4_lockOn := goodIn_r _ [36, 17, 19, 20, 21, 22, 54, 55, 56] (by decide +kernel) (by decide +kernel)
set_option maxRecDepth 20000 in
theorem gX6_nextRawBit_X4_lockOn : GoodIn wsX6_nextRawBit (wsV RX6 140 RX4 yX4_lockOn wsX4_lockOn) := goodIn_app (goodIn_of _ (by decide +kernel)) ggX6_nextRawBit_X4_lockOn
set_option maxRecDepth 20000 in
theorem ggX6_nextRawBit_X4_isHigh : GoodIn wsX6_nextRawBit wsX4_isHigh := goodIn_r _ [40, 17, 19, 54, 55, 56] (by decide +kernel) (by decide +kernel)
set_option maxRecDepth 20000 in
theorem gX6_nextRawBit_X4_isHigh : GoodIn wsX6_nextRawBit (wsV RX6 143 RX4 yX4_isHigh wsX4_isHigh) := goodIn_app (goodIn_of _ (by decide +kernel)) ggX6_nextRawBit_X4_isHigh
end
section
theorem dX6_nextRawBit_0 : decode cX6_nextRawBit 0 = .ok (.aload_n 0, 1) := by decide +kernel
theorem dX6_nextRawBit_1 : decode cX6_nextRawBit 1 = .ok (.getfield 23, 3) := by decide +kernel
theorem dX6_nextRawBit_4 : decode cX6_nextRawBit 4 = .ok (.aload_n 0, 1) := by decide +kernel
theorem dX6_nextRawBit_5 : decode cX6_nextRawBit 5 = .ok (.getfield 33, 3) := by decide +kernel
theorem dX6_nextRawBit_8 : decode cX6_nextRawBit 8 = .ok (.getfield 126, 3) := by decide +kernel
theorem dX6_nextRawBit_11 : decode cX6_nextRawBit 11 = .ok (.aload_n 0, 1) := by decide +kernel
theorem dX6_nextRawBit_12 : decode cX6_nextRawBit 12 = .ok (.invokevirtual 129, 3) := by decide +kernel
theorem dX6_nextRawBit_15 : decode cX6_nextRawBit 15 = .ok (.invokevirtual 132, 3) := by decide +kernel
theorem dX6_nextRawBit_18 : decode cX6_nextRawBit 18 = .ok (.aload_n 0, 1) := by decide +kernel
theorem dX6_nextRawBit_19 : decode cX6_nextRawBit 19 = .ok (.invokevirtual 136, 3) := by decide +kernel
theorem dX6_nextRawBit_22 : decode cX6_nextRawBit 22 = .ok (.ifCond .eq 17, 3) := by decide +kernel
theorem dX6_nextRawBit_25 : decode cX6_nextRawBit 25 = .ok (.aload_n 0, 1) := by decide +kernel
theorem dX6_nextRawBit_26 : decode cX6_nextRawBit 26 = .ok (.getfield 27, 3) := by decide +kernel
theorem dX6_nextRawBit_29 : decode cX6_nextRawBit 29 = .ok (.aload_n 0, 1) := by decide +kernel
theorem dX6_nextRawBit_30 : decode cX6_nextRawBit 30 = .ok (.getfield 23, 3) := by decide +kernel
theorem dX6_nextRawBit_33 : decode cX6_nextRawBit 33 = .ok (.invokevirtual 140, 3) := by decide +kernel
theorem dX6_nextRawBit_36 : decode cX6_nextRawBit 36 = .ok (.goto 21, 3) := by decide +kernel
theorem dX6_nextRawBit_39 : decode cX6_nextRawBit 39 = .ok (.aload_n 0, 1) := by decide +kernel
theorem dX6_nextRawBit_40 : decode cX6_nextRawBit 40 = .ok (.getfield 27, 3) := by decide +kernel
theorem dX6_nextRawBit_43 : decode cX6_nextRawBit 43 = .ok (.aload_n 0, 1) := by decide +kernel
theorem dX6_nextRawBit_44 : decode cX6_nextRawBit 44 = .ok (.getfield 33, 3) := by decide +kernel
theorem dX6_nextRawBit_47 : decode cX6_nextRawBit 47 = .ok (.getfield 126, 3) := by decide +kernel
theorem dX6_nextRawBit_50 : decode cX6_nextRawBit 50 = .ok (.aload_n 0, 1) := by decide +kernel
theorem dX6_nextRawBit_51 : decode cX6_nextRawBit 51 = .ok (.invokevirtual 129, 3) := by decide +kernel
theorem dX6_nextRawBit_54 : decode cX6_nextRawBit 54 = .ok (.invokevirtual 132, 3) := by decide +kernel
theorem dX6_nextRawBit_57 : decode cX6_nextRawBit 57 = .ok (.aload_n 0, 1) := by decide +kernel
theorem dX6_nextRawBit_58 : decode cX6_nextRawBit 58 = .ok (.getfield 23, 3) := by decide +kernel
theorem dX6_nextRawBit_61 : decode cX6_nextRawBit 61 = .ok (.invokevirtual 143, 3) := by decide +kernel
theorem dX6_nextRawBit_64 : decode cX6_nextRawBit 64 = .ok (.aload_n 0, 1) := by decide +kernel
theorem dX6_nextRawBit_65 : decode cX6_nextRawBit 65 = .ok (.getfield 27, 3) := by decide +kernel
theorem dX6_nextRawBit_68 : decode cX6_nextRawBit 68 = .ok (.invokevirtual 143, 3) := by decide +kernel
theorem dX6_nextRawBit_71 : decode cX6_nextRawBit 71 = .ok (.if_icmp .eq 7, 3) := by decide +kernel
theorem dX6_nextRawBit_74 : decode cX6_nextRawBit 74 = .ok (.iconst 1, 1) := by decide +kernel
theorem dX6_nextRawBit_75 : decode cX6_nextRawBit 75 = .ok (.goto 4, 3) := by decide +kernel
theorem dX6_nextRawBit_78 : decode cX6_nextRawBit 78 = .ok (.iconst 0, 1) := by decide +kernel
theorem dX6_nextRawBit_79 : decode cX6_nextRawBit 79 = .ok (.ireturn, 1) := by decide +kernel
theorem dX6_locksOn_0 : decode cX6_locksOn 0 = .ok (.aload_n 0, 1) := by decide +kernel
theorem dX6_locksOn_1 : decode cX6_locksOn 1 = .ok (.getfield 23, 3) := by decide +kernel
theorem dX6_locksOn_4 : decode cX6_locksOn 4 = .ok (.getfield 86, 3) := by decide +kernel
theorem dX6_locksOn_7 : decode cX6_locksOn 7 = .ok (.aload_n 0, 1) := by decide +kernel
theorem dX6_locksOn_8 : decode cX6_locksOn 8 = .ok (.getfield 27, 3) := by decide +kernel
theorem dX6_locksOn_11 : decode cX6_locksOn 11 = .ok (.getfield 86, 3) := by decide +kernel
theorem dX6_locksOn_14 : decode cX6_locksOn 14 = .ok (.isub, 1) := by decide +kernel
theorem dX6_locksOn_15 : decode cX6_locksOn 15 = .ok (.invokestatic 146, 3) := by decide +kernel
theorem dX6_locksOn_18 : decode cX6_locksOn 18 = .ok (.aload_n 0, 1) := by decide +kernel
theorem dX6_locksOn_19 : decode cX6_locksOn 19 = .ok (.getfield 33, 3) := by decide +kernel
theorem dX6_locksOn_22 : decode cX6_locksOn 22 = .ok (.getfield 151, 3) := by decide +kernel
theorem dX6_locksOn_25 : decode cX6_locksOn 25 = .ok (.if_icmp .gt 7, 3) := by decide +kernel
theorem dX6_locksOn_28 : decode cX6_locksOn 28 = .ok (.iconst 1, 1) := by decide +kernel
theorem dX6_locksOn_29 : decode cX6_locksOn 29 = .ok (.goto 4, 3) := by decide +kernel
theorem dX6_locksOn_32 : decode cX6_locksOn 32 = .ok (.iconst 0, 1) := by decide +kernel
theorem dX6_locksOn_33 : decode cX6_locksOn 33 = .ok (.ireturn, 1) := by decide +kernel
theorem dX6_nextNoise_0 : decode cX6_nextNoise 0 = .ok (.aload_n 0, 1) := by decide +kernel
theorem dX6_nextNoise_1 : decode cX6_nextNoise 1 = .ok (.aload_n 0, 1) := by decide +kernel
theorem dX6_nextNoise_2 : decode cX6_nextNoise 2 = .ok (.getfield 9, 3) := by decide +kernel
theorem dX6_nextNoise_5 : decode cX6_nextNoise 5 = .ok (.bipush 75, 2) := by decide +kernel
theorem dX6_nextNoise_7 : decode cX6_nextNoise 7 = .ok (.imul, 1) := by decide +kernel
theorem dX6_nextNoise_8 : decode cX6_nextNoise 8 = .ok (.ldc 154, 2) := by decide +kernel
theorem dX6_nextNoise_10 : decode cX6_nextNoise 10 = .ok (.irem, 1) := by decide +kernel
theorem dX6_nextNoise_11 : decode cX6_nextNoise 11 = .ok (.putfield 9, 3) := by decide +kernel
theorem dX6_nextNoise_14 : decode cX6_nextNoise 14 = .ok (.aload_n 0, 1) := by decide +kernel
theorem dX6_nextNoise_15 : decode cX6_nextNoise 15 = .ok (.getfield 9, 3) := by decide +kernel
theorem dX6_nextNoise_18 : decode cX6_nextNoise 18 = .ok (.ireturn, 1) := by decide +kernel
set_option maxRecDepth 20000 in
theorem ggX6_takeRawBit_X0_append : GoodIn wsX6_takeRawBit wsX0_append := goodIn_r _ [20, 21, 22, 90, 91] (by decide +kernel) (by decide +kernel)
set_option maxRecDepth 20000 in
theorem gX6_takeRawBit_X0_append : GoodIn wsX6_takeRawBit (wsV RX6 155 RX0 yX0_append wsX0_append) := goodIn_app (goodIn_of _ (by decide +kernel)) ggX6_takeRawBit_X0_append
set_option maxRecDepth 20000 in
theorem ggX6_takeRawBit_X1_judge : GoodIn wsX6_takeRawBit wsX1_judge := goodIn_r _ [27, 28, 29, 30, 31, 32, 33, 34, 26, 35, 36, 37, 38, 39, 40, 41, 42, 43, 44, 45, 46, 47, 48, 49, 50, 51, 52, 92, 93, 94, 95, 83, 84, 85, 86, 87, 88, 89] (by decide +kernel) (by decide +kernel)
set_option maxRecDepth 20000 in
theorem gX6_takeRawBit_X1_judge : GoodIn wsX6_takeRawBit (wsV RX6 164 RX1 yX1_judge wsX1_judge) := goodIn_app (goodIn_of _ (by decide +kernel)) ggX6_takeRawBit_X1_judge
set_option maxRecDepth 20000 in
theorem ggX6_takeRawBit_X6_pairUp : GoodIn wsX6_takeRawBit wsX6_pairUp := goodIn_r _ [57, 15, 2, 58, 59, 60, 61, 62, 63, 64, 19, 65, 22, 16, 17, 18, 20, 21, 66, 67, 68, 69, 70, 71, 72, 73, 74, 75, 76, 77, 78, 79, 80, 81, 82, 90, 91] (by decide +kernel) (by decide +kernel)
set_option maxRecDepth 20000 in
theorem gX6_takeRawBit_X6_pairUp : GoodIn wsX6_takeRawBit (wsV RX6 181 RX6 yX6_pairUp wsX6_pairUp) := goodIn_app (goodIn_of _ (by decide +kernel)) ggX6_takeRawBit_X6_pairUp
theorem dX6_takeRawBit_0 : decode cX6_takeRawBit 0 = .ok (.aload_n 0, 1) := by decide +kernel
theorem dX6_takeRawBit_1 : decode cX6_takeRawBit 1 = .ok (.getfield 47, 3) := by decide +kernel
theorem dX6_takeRawBit_4 : decode cX6_takeRawBit 4 = .ok (.iload_n 1, 1) := by decide +kernel
theorem dX6_takeRawBit_5 : decode cX6_takeRawBit 5 = .ok (.invokevirtual 155, 3) := by decide +kernel
theorem dX6_takeRawBit_8 : decode cX6_takeRawBit 8 = .ok (.aload_n 0, 1) := by decide +kernel
theorem dX6_takeRawBit_9 : decode cX6_takeRawBit 9 = .ok (.getfield 57, 3) := by decide +kernel
theorem dX6_takeRawBit_12 : decode cX6_takeRawBit 12 = .ok (.dup, 1) := by decide +kernel
theorem dX6_takeRawBit_13 : decode cX6_takeRawBit 13 = .ok (.getfield 158, 3) := by decide +kernel
theorem dX6_takeRawBit_16 : decode cX6_takeRawBit 16 = .ok (.iconst 1, 1) := by decide +kernel
theorem dX6_takeRawBit_17 : decode cX6_takeRawBit 17 = .ok (.iadd, 1) := by decide +kernel
theorem dX6_takeRawBit_18 : decode cX6_takeRawBit 18 = .ok (.putfield 158, 3) := by decide +kernel
theorem dX6_takeRawBit_21 : decode cX6_takeRawBit 21 = .ok (.aload_n 0, 1) := by decide +kernel
theorem dX6_takeRawBit_22 : decode cX6_takeRawBit 22 = .ok (.getfield 57, 3) := by decide +kernel
theorem dX6_takeRawBit_25 : decode cX6_takeRawBit 25 = .ok (.dup, 1) := by decide +kernel
theorem dX6_takeRawBit_26 : decode cX6_takeRawBit 26 = .ok (.getfield 161, 3) := by decide +kernel
theorem dX6_takeRawBit_29 : decode cX6_takeRawBit 29 = .ok (.iload_n 1, 1) := by decide +kernel
theorem dX6_takeRawBit_30 : decode cX6_takeRawBit 30 = .ok (.iadd, 1) := by decide +kernel
theorem dX6_takeRawBit_31 : decode cX6_takeRawBit 31 = .ok (.putfield 161, 3) := by decide +kernel
theorem dX6_takeRawBit_34 : decode cX6_takeRawBit 34 = .ok (.aload_n 0, 1) := by decide +kernel
theorem dX6_takeRawBit_35 : decode cX6_takeRawBit 35 = .ok (.getfield 40, 3) := by decide +kernel
theorem dX6_takeRawBit_38 : decode cX6_takeRawBit 38 = .ok (.getfield 109, 3) := by decide +kernel
theorem dX6_takeRawBit_41 : decode cX6_takeRawBit 41 = .ok (.iconst 2, 1) := by decide +kernel
theorem dX6_takeRawBit_42 : decode cX6_takeRawBit 42 = .ok (.if_icmp .ne 4, 3) := by decide +kernel
theorem dX6_takeRawBit_45 : decode cX6_takeRawBit 45 = .ok (.return_, 1) := by decide +kernel
theorem dX6_takeRawBit_46 : decode cX6_takeRawBit 46 = .ok (.aload_n 0, 1) := by decide +kernel
theorem dX6_takeRawBit_47 : decode cX6_takeRawBit 47 = .ok (.getfield 40, 3) := by decide +kernel
theorem dX6_takeRawBit_50 : decode cX6_takeRawBit 50 = .ok (.getfield 109, 3) := by decide +kernel
theorem dX6_takeRawBit_53 : decode cX6_takeRawBit 53 = .ok (.iconst 1, 1) := by decide +kernel
theorem dX6_takeRawBit_54 : decode cX6_takeRawBit 54 = .ok (.if_icmp .ne 7, 3) := by decide +kernel
theorem dX6_takeRawBit_57 : decode cX6_takeRawBit 57 = .ok (.iconst 1, 1) := by decide +kernel
theorem dX6_takeRawBit_58 : decode cX6_takeRawBit 58 = .ok (.goto 4, 3) := by decide +kernel
theorem dX6_takeRawBit_61 : decode cX6_takeRawBit 61 = .ok (.iconst 0, 1) := by decide +kernel
theorem dX6_takeRawBit_62 : decode cX6_takeRawBit 62 = .ok (.istore_n 2, 1) := by decide +kernel
theorem dX6_takeRawBit_63 : decode cX6_takeRawBit 63 = .ok (.aload_n 0, 1) := by decide +kernel
theorem dX6_takeRawBit_64 : decode cX6_takeRawBit 64 = .ok (.getfield 40, 3) := by decide +kernel
theorem dX6_takeRawBit_67 : decode cX6_takeRawBit 67 = .ok (.iload_n 1, 1) := by decide +kernel
theorem dX6_takeRawBit_68 : decode cX6_takeRawBit 68 = .ok (.aload_n 0, 1) := by decide +kernel
theorem dX6_takeRawBit_69 : decode cX6_takeRawBit 69 = .ok (.getfield 33, 3) := by decide +kernel
theorem dX6_takeRawBit_72 : decode cX6_takeRawBit 72 = .ok (.invokevirtual 164, 3) := by decide +kernel
theorem dX6_takeRawBit_75 : decode cX6_takeRawBit 75 = .ok (.aload_n 0, 1) := by decide +kernel
theorem dX6_takeRawBit_76 : decode cX6_takeRawBit 76 = .ok (.getfield 57, 3) := by decide +kernel
theorem dX6_takeRawBit_79 : decode cX6_takeRawBit 79 = .ok (.aload_n 0, 1) := by decide +kernel
theorem dX6_takeRawBit_80 : decode cX6_takeRawBit 80 = .ok (.getfield 57, 3) := by decide +kernel
theorem dX6_takeRawBit_83 : decode cX6_takeRawBit 83 = .ok (.getfield 168, 3) := by decide +kernel
theorem dX6_takeRawBit_86 : decode cX6_takeRawBit 86 = .ok (.aload_n 0, 1) := by decide +kernel
theorem dX6_takeRawBit_87 : decode cX6_takeRawBit 87 = .ok (.getfield 40, 3) := by decide +kernel
theorem dX6_takeRawBit_90 : decode cX6_takeRawBit 90 = .ok (.getfield 171, 3) := by decide +kernel
theorem dX6_takeRawBit_93 : decode cX6_takeRawBit 93 = .ok (.invokestatic 174, 3) := by decide +kernel
theorem dX6_takeRawBit_96 : decode cX6_takeRawBit 96 = .ok (.putfield 168, 3) := by decide +kernel
theorem dX6_takeRawBit_99 : decode cX6_takeRawBit 99 = .ok (.aload_n 0, 1) := by decide +kernel
theorem dX6_takeRawBit_100 : decode cX6_takeRawBit 100 = .ok (.getfield 40, 3) := by decide +kernel
theorem dX6_takeRawBit_103 : decode cX6_takeRawBit 103 = .ok (.getfield 109, 3) := by decide +kernel
theorem dX6_takeRawBit_106 : decode cX6_takeRawBit 106 = .ok (.iconst 2, 1) := by decide +kernel
theorem dX6_takeRawBit_107 : decode cX6_takeRawBit 107 = .ok (.if_icmp .ne 24, 3) := by decide +kernel
theorem dX6_takeRawBit_110 : decode cX6_takeRawBit 110 = .ok (.aload_n 0, 1) := by decide +kernel
theorem dX6_takeRawBit_111 : decode cX6_takeRawBit 111 = .ok (.getfield 57, 3) := by decide +kernel
theorem dX6_takeRawBit_114 : decode cX6_takeRawBit 114 = .ok (.dup, 1) := by decide +kernel
theorem dX6_takeRawBit_115 : decode cX6_takeRawBit 115 = .ok (.getfield 178, 3) := by decide +kernel
theorem dX6_takeRawBit_118 : decode cX6_takeRawBit 118 = .ok (.iconst 1, 1) := by decide +kernel
theorem dX6_takeRawBit_119 : decode cX6_takeRawBit 119 = .ok (.iadd, 1) := by decide +kernel
theorem dX6_takeRawBit_120 : decode cX6_takeRawBit 120 = .ok (.putfield 178, 3) := by decide +kernel
theorem dX6_takeRawBit_123 : decode cX6_takeRawBit 123 = .ok (.aload_n 0, 1) := by decide +kernel
theorem dX6_takeRawBit_124 : decode cX6_takeRawBit 124 = .ok (.iconst (-1), 1) := by decide +kernel
theorem dX6_takeRawBit_125 : decode cX6_takeRawBit 125 = .ok (.putfield 15, 3) := by decide +kernel
theorem dX6_takeRawBit_128 : decode cX6_takeRawBit 128 = .ok (.goto 12, 3) := by decide +kernel
theorem dX6_takeRawBit_131 : decode cX6_takeRawBit 131 = .ok (.iload_n 2, 1) := by decide +kernel
theorem dX6_takeRawBit_132 : decode cX6_takeRawBit 132 = .ok (.ifCond .eq 8, 3) := by decide +kernel
theorem dX6_takeRawBit_135 : decode cX6_takeRawBit 135 = .ok (.aload_n 0, 1) := by decide +kernel
theorem dX6_takeRawBit_136 : decode cX6_takeRawBit 136 = .ok (.iload_n 1, 1) := by decide +kernel
theorem dX6_takeRawBit_137 : decode cX6_takeRawBit 137 = .ok (.invokevirtual 181, 3) := by decide +kernel
theorem dX6_takeRawBit_140 : decode cX6_takeRawBit 140 = .ok (.return_, 1) := by decide +kernel
set_option maxRecDepth 20000 in
theorem ggX6_pairUp_X0_isFull : GoodIn wsX6_pairUp wsX0_isFull := goodIn_r _ [11, 12, 35, 36] (by decide +kernel) (by decide +kernel)
set_option maxRecDepth 20000 in
theorem gX6_pairUp_X0_isFull : GoodIn wsX6_pairUp (wsV RX6 187 RX0 yX0_isFull wsX0_isFull) := goodIn_app (goodIn_of _ (by decide +kernel)) ggX6_pairUp_X0_isFull
set_option maxRecDepth 20000 in
theorem ggX6_pairUp_X0_append : GoodIn wsX6_pairUp wsX0_append := goodIn_r _ [16, 17, 12, 35, 36] (by decide +kernel) (by decide +kernel)
set_option maxRecDepth 20000 in
theorem gX6_pairUp_X0_append : GoodIn wsX6_pairUp (wsV RX6 155 RX0 yX0_append wsX0_append) := goodIn_app (goodIn_of _ (by decide +kernel)) ggX6_pairUp_X0_append
theorem dX6_pairUp_0 : decode cX6_pairUp 0 = .ok (.aload_n 0, 1) := by decide +kernel
theorem dX6_pairUp_1 : decode cX6_pairUp 1 = .ok (.getfield 15, 3) := by decide +kernel
theorem dX6_pairUp_4 : decode cX6_pairUp 4 = .ok (.iconst (-1), 1) := by decide +kernel
theorem dX6_pairUp_5 : decode cX6_pairUp 5 = .ok (.if_icmp .ne 9, 3) := by decide +kernel
theorem dX6_pairUp_8 : decode cX6_pairUp 8 = .ok (.aload_n 0, 1) := by decide +kernel
theorem dX6_pairUp_9 : decode cX6_pairUp 9 = .ok (.iload_n 1, 1) := by decide +kernel
theorem dX6_pairUp_10 : decode cX6_pairUp 10 = .ok (.putfield 15, 3) := by decide +kernel
theorem dX6_pairUp_13 : decode cX6_pairUp 13 = .ok (.return_, 1) := by decide +kernel
theorem dX6_pairUp_14 : decode cX6_pairUp 14 = .ok (.aload_n 0, 1) := by decide +kernel
theorem dX6_pairUp_15 : decode cX6_pairUp 15 = .ok (.getfield 15, 3) := by decide +kernel
theorem dX6_pairUp_18 : decode cX6_pairUp 18 = .ok (.istore_n 2, 1) := by decide +kernel
theorem dX6_pairUp_19 : decode cX6_pairUp 19 = .ok (.aload_n 0, 1) := by decide +kernel
theorem dX6_pairUp_20 : decode cX6_pairUp 20 = .ok (.iconst (-1), 1) := by decide +kernel
theorem dX6_pairUp_21 : decode cX6_pairUp 21 = .ok (.putfield 15, 3) := by decide +kernel
theorem dX6_pairUp_24 : decode cX6_pairUp 24 = .ok (.iload_n 2, 1) := by decide +kernel
theorem dX6_pairUp_25 : decode cX6_pairUp 25 = .ok (.iload_n 1, 1) := by decide +kernel
theorem dX6_pairUp_26 : decode cX6_pairUp 26 = .ok (.if_icmp .ne 19, 3) := by decide +kernel
theorem dX6_pairUp_29 : decode cX6_pairUp 29 = .ok (.aload_n 0, 1) := by decide +kernel
theorem dX6_pairUp_30 : decode cX6_pairUp 30 = .ok (.getfield 57, 3) := by decide +kernel
theorem dX6_pairUp_33 : decode cX6_pairUp 33 = .ok (.dup, 1) := by decide +kernel
theorem dX6_pairUp_34 : decode cX6_pairUp 34 = .ok (.getfield 184, 3) := by decide +kernel
theorem dX6_pairUp_37 : decode cX6_pairUp 37 = .ok (.iconst 1, 1) := by decide +kernel
theorem dX6_pairUp_38 : decode cX6_pairUp 38 = .ok (.iadd, 1) := by decide +kernel
theorem dX6_pairUp_39 : decode cX6_pairUp 39 = .ok (.putfield 184, 3) := by decide +kernel
theorem dX6_pairUp_42 : decode cX6_pairUp 42 = .ok (.goto 50, 3) := by decide +kernel
theorem dX6_pairUp_45 : decode cX6_pairUp 45 = .ok (.aload_n 0, 1) := by decide +kernel
theorem dX6_pairUp_46 : decode cX6_pairUp 46 = .ok (.getfield 51, 3) := by decide +kernel
theorem dX6_pairUp_49 : decode cX6_pairUp 49 = .ok (.invokevirtual 187, 3) := by decide +kernel
theorem dX6_pairUp_52 : decode cX6_pairUp 52 = .ok (.ifCond .eq 19, 3) := by decide +kernel
theorem dX6_pairUp_55 : decode cX6_pairUp 55 = .ok (.aload_n 0, 1) := by decide +kernel
theorem dX6_pairUp_56 : decode cX6_pairUp 56 = .ok (.getfield 57, 3) := by decide +kernel
theorem dX6_pairUp_59 : decode cX6_pairUp 59 = .ok (.dup, 1) := by decide +kernel
theorem dX6_pairUp_60 : decode cX6_pairUp 60 = .ok (.getfield 190, 3) := by decide +kernel
theorem dX6_pairUp_63 : decode cX6_pairUp 63 = .ok (.iconst 1, 1) := by decide +kernel
theorem dX6_pairUp_64 : decode cX6_pairUp 64 = .ok (.iadd, 1) := by decide +kernel
theorem dX6_pairUp_65 : decode cX6_pairUp 65 = .ok (.putfield 190, 3) := by decide +kernel
theorem dX6_pairUp_68 : decode cX6_pairUp 68 = .ok (.goto 24, 3) := by decide +kernel
theorem dX6_pairUp_71 : decode cX6_pairUp 71 = .ok (.aload_n 0, 1) := by decide +kernel
theorem dX6_pairUp_72 : decode cX6_pairUp 72 = .ok (.getfield 51, 3) := by decide +kernel
theorem dX6_pairUp_75 : decode cX6_pairUp 75 = .ok (.iload_n 2, 1) := by decide +kernel
theorem dX6_pairUp_76 : decode cX6_pairUp 76 = .ok (.invokevirtual 155, 3) := by decide +kernel
theorem dX6_pairUp_79 : decode cX6_pairUp 79 = .ok (.aload_n 0, 1) := by decide +kernel
theorem dX6_pairUp_80 : decode cX6_pairUp 80 = .ok (.getfield 57, 3) := by decide +kernel
theorem dX6_pairUp_83 : decode cX6_pairUp 83 = .ok (.dup, 1) := by decide +kernel
theorem dX6_pairUp_84 : decode cX6_pairUp 84 = .ok (.getfield 96, 3) := by decide +kernel
theorem dX6_pairUp_87 : decode cX6_pairUp 87 = .ok (.iconst 1, 1) := by decide +kernel
theorem dX6_pairUp_88 : decode cX6_pairUp 88 = .ok (.iadd, 1) := by decide +kernel
theorem dX6_pairUp_89 : decode cX6_pairUp 89 = .ok (.putfield 96, 3) := by decide +kernel
theorem dX6_pairUp_92 : decode cX6_pairUp 92 = .ok (.return_, 1) := by decide +kernel
set_option maxRecDepth 20000 in
theorem ggX6_tell_X6_locksOn : GoodIn wsX6_tell wsX6_locksOn := goodIn_r _ [18, 19, 20, 21, 22, 23, 24, 25, 26, 27, 28, 29, 30, 31, 32, 33, 34, 35, 36, 46, 47, 48, 49, 50, 51, 52] (by decide +kernel) (by decide +kernel)
set_option maxRecDepth 20000 in
theorem gX6_tell_X6_locksOn : GoodIn wsX6_tell (wsV RX6 136 RX6 yX6_locksOn wsX6_locksOn) := goodIn_app (goodIn_of _ (by decide +kernel)) ggX6_tell_X6_locksOn
theorem dX6_tell_0 : decode cX6_tell 0 = .ok (.iload_n 1, 1) := by decide +kernel
theorem dX6_tell_1 : decode cX6_tell 1 = .ok (.tableswitch 181 0 9 #[55, 63, 87, 113, 121, 129, 137, 145, 163, 176], 55) := by decide +kernel
theorem dX6_tell_56 : decode cX6_tell 56 = .ok (.aload_n 0, 1) := by decide +kernel
theorem dX6_tell_57 : decode cX6_tell 57 = .ok (.getfield 40, 3) := by decide +kernel
theorem dX6_tell_60 : decode cX6_tell 60 = .ok (.getfield 109, 3) := by decide +kernel
theorem dX6_tell_63 : decode cX6_tell 63 = .ok (.ireturn, 1) := by decide +kernel
theorem dX6_tell_64 : decode cX6_tell 64 = .ok (.aload_n 0, 1) := by decide +kernel
theorem dX6_tell_65 : decode cX6_tell 65 = .ok (.getfield 40, 3) := by decide +kernel
theorem dX6_tell_68 : decode cX6_tell 68 = .ok (.getfield 109, 3) := by decide +kernel
theorem dX6_tell_71 : decode cX6_tell 71 = .ok (.iconst 2, 1) := by decide +kernel
theorem dX6_tell_72 : decode cX6_tell 72 = .ok (.if_icmp .ne 13, 3) := by decide +kernel
theorem dX6_tell_75 : decode cX6_tell 75 = .ok (.aload_n 0, 1) := by decide +kernel
theorem dX6_tell_76 : decode cX6_tell 76 = .ok (.getfield 40, 3) := by decide +kernel
theorem dX6_tell_79 : decode cX6_tell 79 = .ok (.getfield 193, 3) := by decide +kernel
theorem dX6_tell_82 : decode cX6_tell 82 = .ok (.goto 5, 3) := by decide +kernel
theorem dX6_tell_85 : decode cX6_tell 85 = .ok (.ldc 196, 2) := by decide +kernel
theorem dX6_tell_87 : decode cX6_tell 87 = .ok (.ireturn, 1) := by decide +kernel
theorem dX6_tell_88 : decode cX6_tell 88 = .ok (.aload_n 0, 1) := by decide +kernel
theorem dX6_tell_89 : decode cX6_tell 89 = .ok (.getfield 40, 3) := by decide +kernel
theorem dX6_tell_92 : decode cX6_tell 92 = .ok (.getfield 109, 3) := by decide +kernel
theorem dX6_tell_95 : decode cX6_tell 95 = .ok (.ifCond .ne 16, 3) := by decide +kernel
theorem dX6_tell_98 : decode cX6_tell 98 = .ok (.bipush 64, 2) := by decide +kernel
theorem dX6_tell_100 : decode cX6_tell 100 = .ok (.aload_n 0, 1) := by decide +kernel
theorem dX6_tell_101 : decode cX6_tell 101 = .ok (.getfield 40, 3) := by decide +kernel
theorem dX6_tell_104 : decode cX6_tell 104 = .ok (.getfield 197, 3) := by decide +kernel
theorem dX6_tell_107 : decode cX6_tell 107 = .ok (.isub, 1) := by decide +kernel
theorem dX6_tell_108 : decode cX6_tell 108 = .ok (.goto 5, 3) := by decide +kernel
theorem dX6_tell_111 : decode cX6_tell 111 = .ok (.ldc 196, 2) := by decide +kernel
theorem dX6_tell_113 : decode cX6_tell 113 = .ok (.ireturn, 1) := by decide +kernel
theorem dX6_tell_114 : decode cX6_tell 114 = .ok (.aload_n 0, 1) := by decide +kernel
theorem dX6_tell_115 : decode cX6_tell 115 = .ok (.getfield 40, 3) := by decide +kernel
theorem dX6_tell_118 : decode cX6_tell 118 = .ok (.getfield 171, 3) := by decide +kernel
theorem dX6_tell_121 : decode cX6_tell 121 = .ok (.ireturn, 1) := by decide +kernel
theorem dX6_tell_122 : decode cX6_tell 122 = .ok (.aload_n 0, 1) := by decide +kernel
theorem dX6_tell_123 : decode cX6_tell 123 = .ok (.getfield 40, 3) := by decide +kernel
theorem dX6_tell_126 : decode cX6_tell 126 = .ok (.getfield 200, 3) := by decide +kernel
theorem dX6_tell_129 : decode cX6_tell 129 = .ok (.ireturn, 1) := by decide +kernel
theorem dX6_tell_130 : decode cX6_tell 130 = .ok (.aload_n 0, 1) := by decide +kernel
theorem dX6_tell_131 : decode cX6_tell 131 = .ok (.getfield 40, 3) := by decide +kernel
theorem dX6_tell_134 : decode cX6_tell 134 = .ok (.getfield 203, 3) := by decide +kernel
theorem dX6_tell_137 : decode cX6_tell 137 = .ok (.ireturn, 1) := by decide +kernel
theorem dX6_tell_138 : decode cX6_tell 138 = .ok (.aload_n 0, 1) := by decide +kernel
theorem dX6_tell_139 : decode cX6_tell 139 = .ok (.getfield 51, 3) := by decide +kernel
theorem dX6_tell_142 : decode cX6_tell 142 = .ok (.getfield 106, 3) := by decide +kernel
theorem dX6_tell_145 : decode cX6_tell 145 = .ok (.ireturn, 1) := by decide +kernel
theorem dX6_tell_146 : decode cX6_tell 146 = .ok (.aload_n 0, 1) := by decide +kernel
theorem dX6_tell_147 : decode cX6_tell 147 = .ok (.getfield 15, 3) := by decide +kernel
theorem dX6_tell_150 : decode cX6_tell 150 = .ok (.iconst (-1), 1) := by decide +kernel
theorem dX6_tell_151 : decode cX6_tell 151 = .ok (.if_icmp .ne 8, 3) := by decide +kernel
theorem dX6_tell_154 : decode cX6_tell 154 = .ok (.ldc 196, 2) := by decide +kernel
theorem dX6_tell_156 : decode cX6_tell 156 = .ok (.goto 7, 3) := by decide +kernel
theorem dX6_tell_159 : decode cX6_tell 159 = .ok (.aload_n 0, 1) := by decide +kernel
theorem dX6_tell_160 : decode cX6_tell 160 = .ok (.getfield 15, 3) := by decide +kernel
theorem dX6_tell_163 : decode cX6_tell 163 = .ok (.ireturn, 1) := by decide +kernel
theorem dX6_tell_164 : decode cX6_tell 164 = .ok (.aload_n 0, 1) := by decide +kernel
theorem dX6_tell_165 : decode cX6_tell 165 = .ok (.invokevirtual 136, 3) := by decide +kernel
theorem dX6_tell_168 : decode cX6_tell 168 = .ok (.ifCond .eq 7, 3) := by decide +kernel
theorem dX6_tell_171 : decode cX6_tell 171 = .ok (.iconst 1, 1) := by decide +kernel
theorem dX6_tell_172 : decode cX6_tell 172 = .ok (.goto 4, 3) := by decide +kernel
theorem dX6_tell_175 : decode cX6_tell 175 = .ok (.iconst 0, 1) := by decide +kernel
theorem dX6_tell_176 : decode cX6_tell 176 = .ok (.ireturn, 1) := by decide +kernel
theorem dX6_tell_177 : decode cX6_tell 177 = .ok (.aload_n 0, 1) := by decide +kernel
theorem dX6_tell_178 : decode cX6_tell 178 = .ok (.getfield 9, 3) := by decide +kernel
theorem dX6_tell_181 : decode cX6_tell 181 = .ok (.ireturn, 1) := by decide +kernel
theorem dX6_tell_182 : decode cX6_tell 182 = .ok (.ldc 81, 2) := by decide +kernel
theorem dX6_tell_184 : decode cX6_tell 184 = .ok (.ireturn, 1) := by decide +kernel
theorem dX7_init_0 : decode cX7_init 0 = .ok (.aload_n 0, 1) := by decide +kernel
theorem dX7_init_1 : decode cX7_init 1 = .ok (.invokespecial 3, 3) := by decide +kernel
theorem dX7_init_4 : decode cX7_init 4 = .ok (.aload_n 0, 1) := by decide +kernel
theorem dX7_init_5 : decode cX7_init 5 = .ok (.iconst 0, 1) := by decide +kernel
theorem dX7_init_6 : decode cX7_init 6 = .ok (.putfield 9, 3) := by decide +kernel
theorem dX7_init_9 : decode cX7_init 9 = .ok (.aload_n 0, 1) := by decide +kernel
theorem dX7_init_10 : decode cX7_init 10 = .ok (.iconst 0, 1) := by decide +kernel
theorem dX7_init_11 : decode cX7_init 11 = .ok (.putfield 15, 3) := by decide +kernel
theorem dX7_init_14 : decode cX7_init 14 = .ok (.aload_n 0, 1) := by decide +kernel
theorem dX7_init_15 : decode cX7_init 15 = .ok (.iconst 0, 1) := by decide +kernel
theorem dX7_init_16 : decode cX7_init 16 = .ok (.putfield 18, 3) := by decide +kernel
theorem dX7_init_19 : decode cX7_init 19 = .ok (.aload_n 0, 1) := by decide +kernel
theorem dX7_init_20 : decode cX7_init 20 = .ok (.iconst 0, 1) := by decide +kernel
theorem dX7_init_21 : decode cX7_init 21 = .ok (.putfield 21, 3) := by decide +kernel
theorem dX7_init_24 : decode cX7_init 24 = .ok (.aload_n 0, 1) := by decide +kernel
theorem dX7_init_25 : decode cX7_init 25 = .ok (.iconst 0, 1) := by decide +kernel
theorem dX7_init_26 : decode cX7_init 26 = .ok (.putfield 24, 3) := by decide +kernel
theorem dX7_init_29 : decode cX7_init 29 = .ok (.aload_n 0, 1) := by decide +kernel
theorem dX7_init_30 : decode cX7_init 30 = .ok (.iconst 0, 1) := by decide +kernel
theorem dX7_init_31 : decode cX7_init 31 = .ok (.putfield 27, 3) := by decide +kernel
theorem dX7_init_34 : decode cX7_init 34 = .ok (.aload_n 0, 1) := by decide +kernel
theorem dX7_init_35 : decode cX7_init 35 = .ok (.iconst 0, 1) := by decide +kernel
theorem dX7_init_36 : decode cX7_init 36 = .ok (.putfield 30, 3) := by decide +kernel
theorem dX7_init_39 : decode cX7_init 39 = .ok (.aload_n 0, 1) := by decide +kernel
theorem dX7_init_40 : decode cX7_init 40 = .ok (.iconst 0, 1) := by decide +kernel
theorem dX7_init_41 : decode cX7_init 41 = .ok (.putfield 33, 3) := by decide +kernel
theorem dX7_init_44 : decode cX7_init 44 = .ok (.return_, 1) := by decide +kernel
theorem dX7_copyFrom_0 : decode cX7_copyFrom 0 = .ok (.aload_n 0, 1) := by decide +kernel
theorem dX7_copyFrom_1 : decode cX7_copyFrom 1 = .ok (.aload_n 1, 1) := by decide +kernel
theorem dX7_copyFrom_2 : decode cX7_copyFrom 2 = .ok (.getfield 9, 3) := by decide +kernel
theorem dX7_copyFrom_5 : decode cX7_copyFrom 5 = .ok (.putfield 9, 3) := by decide +kernel
theorem dX7_copyFrom_8 : decode cX7_copyFrom 8 = .ok (.aload_n 0, 1) := by decide +kernel
theorem dX7_copyFrom_9 : decode cX7_copyFrom 9 = .ok (.aload_n 1, 1) := by decide +kernel
theorem dX7_copyFrom_10 : decode cX7_copyFrom 10 = .ok (.getfield 15, 3) := by decide +kernel
theorem dX7_copyFrom_13 : decode cX7_copyFrom 13 = .ok (.putfield 15, 3) := by decide +kernel
theorem dX7_copyFrom_16 : decode cX7_copyFrom 16 = .ok (.aload_n 0, 1) := by decide +kernel
theorem dX7_copyFrom_17 : decode cX7_copyFrom 17 = .ok (.aload_n 1, 1) := by decide +kernel
theorem dX7_copyFrom_18 : decode cX7_copyFrom 18 = .ok (.getfield 18, 3) := by decide +kernel
theorem dX7_copyFrom_21 : decode cX7_copyFrom 21 = .ok (.putfield 18, 3) := by decide +kernel
theorem dX7_copyFrom_24 : decode cX7_copyFrom 24 = .ok (.aload_n 0, 1) := by decide +kernel
theorem dX7_copyFrom_25 : decode cX7_copyFrom 25 = .ok (.aload_n 1, 1) := by decide +kernel
theorem dX7_copyFrom_26 : decode cX7_copyFrom 26 = .ok (.getfield 21, 3) := by decide +kernel
theorem dX7_copyFrom_29 : decode cX7_copyFrom 29 = .ok (.putfield 21, 3) := by decide +kernel
theorem dX7_copyFrom_32 : decode cX7_copyFrom 32 = .ok (.aload_n 0, 1) := by decide +kernel
theorem dX7_copyFrom_33 : decode cX7_copyFrom 33 = .ok (.aload_n 1, 1) := by decide +kernel
theorem dX7_copyFrom_34 : decode cX7_copyFrom 34 = .ok (.getfield 24, 3) := by decide +kernel
theorem dX7_copyFrom_37 : decode cX7_copyFrom 37 = .ok (.putfield 24, 3) := by decide +kernel
theorem dX7_copyFrom_40 : decode cX7_copyFrom 40 = .ok (.aload_n 0, 1) := by decide +kernel
theorem dX7_copyFrom_41 : decode cX7_copyFrom 41 = .ok (.aload_n 1, 1) := by decide +kernel
theorem dX7_copyFrom_42 : decode cX7_copyFrom 42 = .ok (.getfield 27, 3) := by decide +kernel
theorem dX7_copyFrom_45 : decode cX7_copyFrom 45 = .ok (.putfield 27, 3) := by decide +kernel
theorem dX7_copyFrom_48 : decode cX7_copyFrom 48 = .ok (.aload_n 0, 1) := by decide +kernel
theorem dX7_copyFrom_49 : decode cX7_copyFrom 49 = .ok (.aload_n 1, 1) := by decide +kernel
theorem dX7_copyFrom_50 : decode cX7_copyFrom 50 = .ok (.getfield 30, 3) := by decide +kernel
theorem dX7_copyFrom_53 : decode cX7_copyFrom 53 = .ok (.putfield 30, 3) := by decide +kernel
theorem dX7_copyFrom_56 : decode cX7_copyFrom 56 = .ok (.aload_n 0, 1) := by decide +kernel
theorem dX7_copyFrom_57 : decode cX7_copyFrom 57 = .ok (.aload_n 1, 1) := by decide +kernel
theorem dX7_copyFrom_58 : decode cX7_copyFrom 58 = .ok (.getfield 33, 3) := by decide +kernel
theorem dX7_copyFrom_61 : decode cX7_copyFrom 61 = .ok (.putfield 33, 3) := by decide +kernel
theorem dX7_copyFrom_64 : decode cX7_copyFrom 64 = .ok (.return_, 1) := by decide +kernel
theorem dX7_tell_0 : decode cX7_tell 0 = .ok (.iload_n 1, 1) := by decide +kernel
theorem dX7_tell_1 : decode cX7_tell 1 = .ok (.tableswitch 87 0 7 #[47, 52, 57, 62, 67, 72, 77, 82], 47) := by decide +kernel
theorem dX7_tell_48 : decode cX7_tell 48 = .ok (.aload_n 0, 1) := by decide +kernel
theorem dX7_tell_49 : decode cX7_tell 49 = .ok (.getfield 9, 3) := by decide +kernel
theorem dX7_tell_52 : decode cX7_tell 52 = .ok (.ireturn, 1) := by decide +kernel
theorem dX7_tell_53 : decode cX7_tell 53 = .ok (.aload_n 0, 1) := by decide +kernel
theorem dX7_tell_54 : decode cX7_tell 54 = .ok (.getfield 15, 3) := by decide +kernel
theorem dX7_tell_57 : decode cX7_tell 57 = .ok (.ireturn, 1) := by decide +kernel
theorem dX7_tell_58 : decode cX7_tell 58 = .ok (.aload_n 0, 1) := by decide +kernel
theorem dX7_tell_59 : decode cX7_tell 59 = .ok (.getfield 18, 3) := by decide +kernel
theorem dX7_tell_62 : decode cX7_tell 62 = .ok (.ireturn, 1) := by decide +kernel
theorem dX7_tell_63 : decode cX7_tell 63 = .ok (.aload_n 0, 1) := by decide +kernel
theorem dX7_tell_64 : decode cX7_tell 64 = .ok (.getfield 21, 3) := by decide +kernel
theorem dX7_tell_67 : decode cX7_tell 67 = .ok (.ireturn, 1) := by decide +kernel
theorem dX7_tell_68 : decode cX7_tell 68 = .ok (.aload_n 0, 1) := by decide +kernel
theorem dX7_tell_69 : decode cX7_tell 69 = .ok (.getfield 24, 3) := by decide +kernel
theorem dX7_tell_72 : decode cX7_tell 72 = .ok (.ireturn, 1) := by decide +kernel
theorem dX7_tell_73 : decode cX7_tell 73 = .ok (.aload_n 0, 1) := by decide +kernel
theorem dX7_tell_74 : decode cX7_tell 74 = .ok (.getfield 27, 3) := by decide +kernel
theorem dX7_tell_77 : decode cX7_tell 77 = .ok (.ireturn, 1) := by decide +kernel
theorem dX7_tell_78 : decode cX7_tell 78 = .ok (.aload_n 0, 1) := by decide +kernel
theorem dX7_tell_79 : decode cX7_tell 79 = .ok (.getfield 30, 3) := by decide +kernel
theorem dX7_tell_82 : decode cX7_tell 82 = .ok (.ireturn, 1) := by decide +kernel
theorem dX7_tell_83 : decode cX7_tell 83 = .ok (.aload_n 0, 1) := by decide +kernel
theorem dX7_tell_84 : decode cX7_tell 84 = .ok (.getfield 33, 3) := by decide +kernel
theorem dX7_tell_87 : decode cX7_tell 87 = .ok (.ireturn, 1) := by decide +kernel
theorem dX7_tell_88 : decode cX7_tell 88 = .ok (.ldc 36, 2) := by decide +kernel
theorem dX7_tell_90 : decode cX7_tell 90 = .ok (.ireturn, 1) := by decide +kernel
theorem dX8_init_0 : decode cX8_init 0 = .ok (.aload_n 0, 1) := by decide +kernel
theorem dX8_init_1 : decode cX8_init 1 = .ok (.invokespecial 3, 3) := by decide +kernel
theorem dX8_init_4 : decode cX8_init 4 = .ok (.aload_n 0, 1) := by decide +kernel
theorem dX8_init_5 : decode cX8_init 5 = .ok (.bipush 60, 2) := by decide +kernel
theorem dX8_init_7 : decode cX8_init 7 = .ok (.newarray .char, 2) := by decide +kernel
theorem dX8_init_9 : decode cX8_init 9 = .ok (.putfield 11, 3) := by decide +kernel
theorem dX8_init_12 : decode cX8_init 12 = .ok (.aload_n 0, 1) := by decide +kernel
theorem dX8_init_13 : decode cX8_init 13 = .ok (.iconst 0, 1) := by decide +kernel
theorem dX8_init_14 : decode cX8_init 14 = .ok (.putfield 15, 3) := by decide +kernel
theorem dX8_init_17 : decode cX8_init 17 = .ok (.return_, 1) := by decide +kernel
set_option maxRecDepth 20000 in
theorem ggX8_append_X9_isWithin : GoodIn wsX8_append wsX9_isWithin := goodIn_r _ [7] (by decide +kernel) (by decide +kernel)
set_option maxRecDepth 20000 in
theorem gX8_append_X9_isWithin_n19 : GoodIn wsX8_append (wsX9_isWithin) := ggX8_append_X9_isWithin
theorem dX8_append_0 : decode cX8_append 0 = .ok (.iload_n 1, 1) := by decide +kernel
theorem dX8_append_1 : decode cX8_append 1 = .ok (.bipush 32, 2) := by decide +kernel
theorem dX8_append_3 : decode cX8_append 3 = .ok (.bipush 126, 2) := by decide +kernel
theorem dX8_append_5 : decode cX8_append 5 = .ok (.invokestatic 19, 3) := by decide +kernel
theorem dX8_append_8 : decode cX8_append 8 = .ok (.ifCond .ne 6, 3) := by decide +kernel
theorem dX8_append_11 : decode cX8_append 11 = .ok (.ldc 23, 2) := by decide +kernel
theorem dX8_append_13 : decode cX8_append 13 = .ok (.ireturn, 1) := by decide +kernel
theorem dX8_append_14 : decode cX8_append 14 = .ok (.aload_n 0, 1) := by decide +kernel
theorem dX8_append_15 : decode cX8_append 15 = .ok (.getfield 15, 3) := by decide +kernel
theorem dX8_append_18 : decode cX8_append 18 = .ok (.iconst 0, 1) := by decide +kernel
theorem dX8_append_19 : decode cX8_append 19 = .ok (.aload_n 0, 1) := by decide +kernel
theorem dX8_append_20 : decode cX8_append 20 = .ok (.getfield 11, 3) := by decide +kernel
theorem dX8_append_23 : decode cX8_append 23 = .ok (.arraylength, 1) := by decide +kernel
theorem dX8_append_24 : decode cX8_append 24 = .ok (.iconst 1, 1) := by decide +kernel
theorem dX8_append_25 : decode cX8_append 25 = .ok (.isub, 1) := by decide +kernel
theorem dX8_append_26 : decode cX8_append 26 = .ok (.invokestatic 19, 3) := by decide +kernel
theorem dX8_append_29 : decode cX8_append 29 = .ok (.ifCond .ne 6, 3) := by decide +kernel
theorem dX8_append_32 : decode cX8_append 32 = .ok (.ldc 24, 2) := by decide +kernel
theorem dX8_append_34 : decode cX8_append 34 = .ok (.ireturn, 1) := by decide +kernel
theorem dX8_append_35 : decode cX8_append 35 = .ok (.aload_n 0, 1) := by decide +kernel
theorem dX8_append_36 : decode cX8_append 36 = .ok (.getfield 11, 3) := by decide +kernel
theorem dX8_append_39 : decode cX8_append 39 = .ok (.aload_n 0, 1) := by decide +kernel
theorem dX8_append_40 : decode cX8_append 40 = .ok (.getfield 15, 3) := by decide +kernel
theorem dX8_append_43 : decode cX8_append 43 = .ok (.iload_n 1, 1) := by decide +kernel
theorem dX8_append_44 : decode cX8_append 44 = .ok (.i2c, 1) := by decide +kernel
theorem dX8_append_45 : decode cX8_append 45 = .ok (.castore, 1) := by decide +kernel
theorem dX8_append_46 : decode cX8_append 46 = .ok (.aload_n 0, 1) := by decide +kernel
theorem dX8_append_47 : decode cX8_append 47 = .ok (.dup, 1) := by decide +kernel
theorem dX8_append_48 : decode cX8_append 48 = .ok (.getfield 15, 3) := by decide +kernel
theorem dX8_append_51 : decode cX8_append 51 = .ok (.iconst 1, 1) := by decide +kernel
theorem dX8_append_52 : decode cX8_append 52 = .ok (.iadd, 1) := by decide +kernel
theorem dX8_append_53 : decode cX8_append 53 = .ok (.putfield 15, 3) := by decide +kernel
theorem dX8_append_56 : decode cX8_append 56 = .ok (.aload_n 0, 1) := by decide +kernel
theorem dX8_append_57 : decode cX8_append 57 = .ok (.getfield 15, 3) := by decide +kernel
theorem dX8_append_60 : decode cX8_append 60 = .ok (.ireturn, 1) := by decide +kernel
theorem dX8_clear_0 : decode cX8_clear 0 = .ok (.aload_n 0, 1) := by decide +kernel
theorem dX8_clear_1 : decode cX8_clear 1 = .ok (.getfield 15, 3) := by decide +kernel
theorem dX8_clear_4 : decode cX8_clear 4 = .ok (.istore_n 1, 1) := by decide +kernel
theorem dX8_clear_5 : decode cX8_clear 5 = .ok (.aload_n 0, 1) := by decide +kernel
theorem dX8_clear_6 : decode cX8_clear 6 = .ok (.iconst 0, 1) := by decide +kernel
theorem dX8_clear_7 : decode cX8_clear 7 = .ok (.putfield 15, 3) := by decide +kernel
theorem dX8_clear_10 : decode cX8_clear 10 = .ok (.iload_n 1, 1) := by decide +kernel
theorem dX8_clear_11 : decode cX8_clear 11 = .ok (.ireturn, 1) := by decide +kernel
set_option maxRecDepth 20000 in
theorem ggX8_at_X9_isWithin : GoodIn wsX8_at wsX9_isWithin := goodIn_r _ [9] (by decide +kernel) (by decide +kernel)
set_option maxRecDepth 20000 in
theorem gX8_at_X9_isWithin_n19 : GoodIn wsX8_at (wsX9_isWithin) := ggX8_at_X9_isWithin
theorem dX8_at_0 : decode cX8_at 0 = .ok (.iload_n 1, 1) := by decide +kernel
theorem dX8_at_1 : decode cX8_at 1 = .ok (.iconst 0, 1) := by decide +kernel
theorem dX8_at_2 : decode cX8_at 2 = .ok (.aload_n 0, 1) := by decide +kernel
theorem dX8_at_3 : decode cX8_at 3 = .ok (.getfield 15, 3) := by decide +kernel
theorem dX8_at_6 : decode cX8_at 6 = .ok (.aload_n 0, 1) := by decide +kernel
theorem dX8_at_7 : decode cX8_at 7 = .ok (.getfield 11, 3) := by decide +kernel
theorem dX8_at_10 : decode cX8_at 10 = .ok (.arraylength, 1) := by decide +kernel
theorem dX8_at_11 : decode cX8_at 11 = .ok (.invokestatic 25, 3) := by decide +kernel
theorem dX8_at_14 : decode cX8_at 14 = .ok (.iconst 1, 1) := by decide +kernel
theorem dX8_at_15 : decode cX8_at 15 = .ok (.isub, 1) := by decide +kernel
theorem dX8_at_16 : decode cX8_at 16 = .ok (.invokestatic 19, 3) := by decide +kernel
theorem dX8_at_19 : decode cX8_at 19 = .ok (.ifCond .eq 12, 3) := by decide +kernel
theorem dX8_at_22 : decode cX8_at 22 = .ok (.aload_n 0, 1) := by decide +kernel
theorem dX8_at_23 : decode cX8_at 23 = .ok (.getfield 11, 3) := by decide +kernel
theorem dX8_at_26 : decode cX8_at 26 = .ok (.iload_n 1, 1) := by decide +kernel
theorem dX8_at_27 : decode cX8_at 27 = .ok (.caload, 1) := by decide +kernel
theorem dX8_at_28 : decode cX8_at 28 = .ok (.goto 4, 3) := by decide +kernel
theorem dX8_at_31 : decode cX8_at 31 = .ok (.iconst 0, 1) := by decide +kernel
theorem dX8_at_32 : decode cX8_at 32 = .ok (.ireturn, 1) := by decide +kernel
set_option maxRecDepth 20000 in
theorem ggX9_init_X6_init : GoodIn wsX9_init wsX6_init := goodIn_r _ [19, 20, 2, 3, 21, 22, 23, 24, 25, 26, 27, 28, 29, 30, 31, 32, 33, 34, 35, 36, 37, 38, 39, 40, 41, 42, 43, 44, 45, 46, 47, 48, 49, 50, 51, 52, 53, 54, 55, 56, 57, 58, 59, 60, 61, 62, 63, 64, 65, 66, 67, 68, 69, 70, 71, 72, 73, 74, 75, 76, 77, 78, 79, 80, 81, 82, 83, 84, 119, 120, 121, 122, 123, 124, 125, 126, 127, 147, 148, 149, 150, 151, 152, 153, 154, 155, 156, 157, 158, 159, 160, 161, 162, 163, 164, 165, 166, 167, 168, 169, 170] (by decide +kernel) (by decide +kernel)
set_option maxRecDepth 20000 in
theorem gX9_init_X6_init : GoodIn wsX9_init (wsX6_init) := ggX9_init_X6_init
set_option maxRecDepth 20000 in
theorem ggX9_init_X2_init : GoodIn wsX9_init wsX2_init := goodIn_r _ [87, 88, 2, 3, 89, 90, 5, 6, 91, 92, 93, 94, 95, 18, 19, 20, 21, 22, 23, 24, 25, 26, 27, 28, 29, 30, 31, 32, 33, 34, 35, 36, 37, 38, 39, 40, 41, 42, 43, 44, 45, 46, 47, 48, 49, 50, 51, 52, 53, 54, 55, 56, 57, 58, 59, 60, 61, 62, 63, 64, 65, 66, 67, 68, 69, 70, 71, 72, 73, 74, 75, 76, 77, 78, 79, 80, 81, 82, 83, 84, 132, 133, 134, 135, 136, 119, 120, 121, 122, 123, 124, 125, 126, 127, 147, 148, 149, 150, 151, 152, 153, 154, 155, 156, 157, 158, 159, 160, 161, 162, 163, 164, 165, 166, 167, 168, 169, 170] (by decide +kernel) (by decide +kernel)
set_option maxRecDepth 20000 in
theorem gX9_init_X2_init : GoodIn wsX9_init (wsX2_init) := ggX9_init_X2_init
set_option maxRecDepth 20000 in
theorem ggX9_init_X3_init : GoodIn wsX9_init wsX3_init := goodIn_r _ [98, 99, 2, 3, 100, 101, 102, 103, 104, 105, 106, 107, 108, 109, 110, 111, 112, 113, 114, 115, 116, 117, 118, 137, 138, 139, 140, 141, 142, 143, 144, 145, 146, 171, 172] (by decide +kernel) (by decide +kernel)
set_option maxRecDepth 20000 in
theorem gX9_init_X3_init : GoodIn wsX9_init (wsX3_init) := ggX9_init_X3_init
theorem dX9_init_0 : decode cX9_init 0 = .ok (.aload_n 0, 1) := by decide +kernel
theorem dX9_init_1 : decode cX9_init 1 = .ok (.invokespecial 1, 3) := by decide +kernel
theorem dX9_init_4 : decode cX9_init 4 = .ok (.aload_n 0, 1) := by decide +kernel
theorem dX9_init_5 : decode cX9_init 5 = .ok (.new 7, 3) := by decide +kernel
theorem dX9_init_8 : decode cX9_init 8 = .ok (.dup, 1) := by decide +kernel
theorem dX9_init_9 : decode cX9_init 9 = .ok (.invokespecial 9, 3) := by decide +kernel
theorem dX9_init_12 : decode cX9_init 12 = .ok (.putfield 10, 3) := by decide +kernel
theorem dX9_init_15 : decode cX9_init 15 = .ok (.aload_n 0, 1) := by decide +kernel
theorem dX9_init_16 : decode cX9_init 16 = .ok (.new 7, 3) := by decide +kernel
theorem dX9_init_19 : decode cX9_init 19 = .ok (.dup, 1) := by decide +kernel
theorem dX9_init_20 : decode cX9_init 20 = .ok (.invokespecial 9, 3) := by decide +kernel
theorem dX9_init_23 : decode cX9_init 23 = .ok (.putfield 16, 3) := by decide +kernel
theorem dX9_init_26 : decode cX9_init 26 = .ok (.aload_n 0, 1) := by decide +kernel
theorem dX9_init_27 : decode cX9_init 27 = .ok (.new 19, 3) := by decide +kernel
theorem dX9_init_30 : decode cX9_init 30 = .ok (.dup, 1) := by decide +kernel
theorem dX9_init_31 : decode cX9_init 31 = .ok (.invokespecial 21, 3) := by decide +kernel
theorem dX9_init_34 : decode cX9_init 34 = .ok (.putfield 22, 3) := by decide +kernel
theorem dX9_init_37 : decode cX9_init 37 = .ok (.aload_n 0, 1) := by decide +kernel
theorem dX9_init_38 : decode cX9_init 38 = .ok (.new 26, 3) := by decide +kernel
theorem dX9_init_41 : decode cX9_init 41 = .ok (.dup, 1) := by decide +kernel
theorem dX9_init_42 : decode cX9_init 42 = .ok (.invokespecial 28, 3) := by decide +kernel
theorem dX9_init_45 : decode cX9_init 45 = .ok (.putfield 29, 3) := by decide +kernel
theorem dX9_init_48 : decode cX9_init 48 = .ok (.return_, 1) := by decide +kernel
set_option maxRecDepth 20000 in
theorem ggX9_ring_X6_copyFrom : GoodIn wsX9_ring wsX6_copyFrom := goodIn_r _ [7, 8, 9, 10, 11, 12, 13, 14, 15, 16, 17, 18, 19, 20, 21, 22, 23, 24, 25, 26, 27, 28, 29, 30, 31, 32, 33, 34, 35, 36, 37, 38, 39, 40, 41, 42, 43, 44, 45, 46, 47, 48, 49, 50, 51, 52, 53, 54, 55, 56, 57, 58, 59, 60, 61, 62, 63, 64, 65, 101, 102, 103, 104, 105, 106, 107, 108, 109, 110, 111, 112, 113, 114, 115, 116, 117, 118, 119, 120, 121, 122, 123, 124, 125, 126, 127, 128, 129, 130, 131, 132, 133] (by decide +kernel) (by decide +kernel)
set_option maxRecDepth 20000 in
theorem gX9_ring_X6_copyFrom : GoodIn wsX9_ring (wsV RX9 33 RX6 yX6_copyFrom wsX6_copyFrom) := goodIn_app (goodIn_of _ (by decide +kernel)) ggX9_ring_X6_copyFrom
set_option maxRecDepth 20000 in
theorem ggX9_ring_X6_changeRing : GoodIn wsX9_ring wsX6_changeRing := goodIn_r _ [69, 70, 71, 72, 73, 74, 75, 76, 77, 78, 79, 6, 80, 8, 9, 110, 111, 112, 101, 102, 103, 104, 105, 106, 107, 108, 109] (by decide +kernel) (by decide +kernel)
set_option maxRecDepth 20000 in
theorem gX9_ring_X6_changeRing : GoodIn wsX9_ring (wsV RX9 37 RX6 yX6_changeRing wsX6_changeRing) := goodIn_app (goodIn_of _ (by decide +kernel)) ggX9_ring_X6_changeRing
set_option maxRecDepth 20000 in
theorem ggX9_ring_X9_settle : GoodIn wsX9_ring wsX9_settle := goodIn_r _ [84, 85, 2, 1, 86, 87, 88, 89, 90, 91, 92, 93, 94, 95, 96, 4, 5, 6, 7, 8, 9, 10, 11, 12, 13, 14, 15, 16, 17, 18, 19, 20, 21, 22, 23, 24, 25, 26, 27, 28, 29, 30, 31, 32, 33, 34, 35, 36, 37, 38, 39, 40, 41, 42, 43, 44, 45, 46, 47, 48, 49, 50, 51, 52, 53, 54, 55, 56, 57, 58, 59, 60, 61, 62, 63, 64, 65, 3, 97, 98, 99, 100, 134, 135, 136, 137, 138, 101, 102, 103, 104, 105, 106, 107, 108, 109, 110, 111, 112, 113, 114, 115, 116, 117, 118, 119, 120, 121, 122, 123, 124, 125, 126, 127, 128, 129, 130, 131, 132, 133] (by decide +kernel) (by decide +kernel)
set_option maxRecDepth 20000 in
theorem gX9_ring_X9_settle : GoodIn wsX9_ring (wsV RX9 41 RX9 yX9_settle wsX9_settle) := goodIn_app (goodIn_of _ (by decide +kernel)) ggX9_ring_X9_settle
theorem dX9_ring_0 : decode cX9_ring 0 = .ok (.aload_n 0, 1) := by decide +kernel
theorem dX9_ring_1 : decode cX9_ring 1 = .ok (.getfield 16, 3) := by decide +kernel
theorem dX9_ring_4 : decode cX9_ring 4 = .ok (.aload_n 0, 1) := by decide +kernel
theorem dX9_ring_5 : decode cX9_ring 5 = .ok (.getfield 10, 3) := by decide +kernel
theorem dX9_ring_8 : decode cX9_ring 8 = .ok (.invokevirtual 33, 3) := by decide +kernel
theorem dX9_ring_11 : decode cX9_ring 11 = .ok (.aload_n 0, 1) := by decide +kernel
theorem dX9_ring_12 : decode cX9_ring 12 = .ok (.aload_n 0, 1) := by decide +kernel
theorem dX9_ring_13 : decode cX9_ring 13 = .ok (.getfield 16, 3) := by decide +kernel
theorem dX9_ring_16 : decode cX9_ring 16 = .ok (.iload_n 1, 1) := by decide +kernel
theorem dX9_ring_17 : decode cX9_ring 17 = .ok (.iload_n 2, 1) := by decide +kernel
theorem dX9_ring_18 : decode cX9_ring 18 = .ok (.iload_n 3, 1) := by decide +kernel
theorem dX9_ring_19 : decode cX9_ring 19 = .ok (.invokevirtual 37, 3) := by decide +kernel
theorem dX9_ring_22 : decode cX9_ring 22 = .ok (.invokevirtual 41, 3) := by decide +kernel
theorem dX9_ring_25 : decode cX9_ring 25 = .ok (.ireturn, 1) := by decide +kernel
set_option maxRecDepth 20000 in
theorem ggX9_noise_X6_copyFrom : GoodIn wsX9_noise wsX6_copyFrom := goodIn_r _ [7, 8, 9, 10, 11, 12, 13, 14, 15, 16, 17, 18, 19, 20, 21, 22, 23, 24, 25, 26, 27, 28, 29, 30, 31, 32, 33, 34, 35, 36, 37, 38, 39, 40, 41, 42, 43, 44, 45, 46, 47, 48, 49, 50, 51, 52, 53, 54, 55, 56, 57, 58, 59, 60, 61, 62, 63, 64, 65, 95, 96, 97, 98, 99, 100, 101, 102, 103, 104, 105, 106, 107, 108, 109, 110, 111, 112, 113, 114, 115, 116, 117, 118, 119, 120, 121, 122, 123, 124, 125, 126, 127] (by decide +kernel) (by decide +kernel)
set_option maxRecDepth 20000 in
theorem gX9_noise_X6_copyFrom : GoodIn wsX9_noise (wsV RX9 33 RX6 yX6_copyFrom wsX6_copyFrom) := goodIn_app (goodIn_of _ (by decide +kernel)) ggX9_noise_X6_copyFrom
set_option maxRecDepth 20000 in
theorem ggX9_noise_X6_changeNoise : GoodIn wsX9_noise wsX6_changeNoise := goodIn_r _ [69, 70, 71, 15, 72, 73, 74, 95, 96, 97, 98, 99, 100, 101, 102, 103] (by decide +kernel) (by decide +kernel)
set_option maxRecDepth 20000 in
theorem gX9_noise_X6_changeNoise : GoodIn wsX9_noise (wsV RX9 45 RX6 yX6_changeNoise wsX6_changeNoise) := goodIn_app (goodIn_of _ (by decide +kernel)) ggX9_noise_X6_changeNoise
set_option maxRecDepth 20000 in
theorem ggX9_noise_X9_settle : GoodIn wsX9_noise wsX9_settle := goodIn_r _ [78, 79, 2, 1, 80, 81, 82, 83, 84, 85, 86, 87, 88, 89, 90, 4, 5, 6, 7, 8, 9, 10, 11, 12, 13, 14, 15, 16, 17, 18, 19, 20, 21, 22, 23, 24, 25, 26, 27, 28, 29, 30, 31, 32, 33, 34, 35, 36, 37, 38, 39, 40, 41, 42, 43, 44, 45, 46, 47, 48, 49, 50, 51, 52, 53, 54, 55, 56, 57, 58, 59, 60, 61, 62, 63, 64, 65, 3, 91, 92, 93, 94, 128, 129, 130, 131, 132, 95, 96, 97, 98, 99, 100, 101, 102, 103, 104, 105, 106, 107, 108, 109, 110, 111, 112, 113, 114, 115, 116, 117, 118, 119, 120, 121, 122, 123, 124, 125, 126, 127] (by decide +kernel) (by decide +kernel)
set_option maxRecDepth 20000 in
theorem gX9_noise_X9_settle : GoodIn wsX9_noise (wsV RX9 41 RX9 yX9_settle wsX9_settle) := goodIn_app (goodIn_of _ (by decide +kernel)) ggX9_noise_X9_settle
theorem dX9_noise_0 : decode cX9_noise 0 = .ok (.aload_n 0, 1) := by decide +kernel
theorem dX9_noise_1 : decode cX9_noise 1 = .ok (.getfield 16, 3) := by decide +kernel
theorem dX9_noise_4 : decode cX9_noise 4 = .ok (.aload_n 0, 1) := by decide +kernel
theorem dX9_noise_5 : decode cX9_noise 5 = .ok (.getfield 10, 3) := by decide +kernel
theorem dX9_noise_8 : decode cX9_noise 8 = .ok (.invokevirtual 33, 3) := by decide +kernel
theorem dX9_noise_11 : decode cX9_noise 11 = .ok (.aload_n 0, 1) := by decide +kernel
theorem dX9_noise_12 : decode cX9_noise 12 = .ok (.aload_n 0, 1) := by decide +kernel
theorem dX9_noise_13 : decode cX9_noise 13 = .ok (.getfield 16, 3) := by decide +kernel
theorem dX9_noise_16 : decode cX9_noise 16 = .ok (.iload_n 1, 1) := by decide +kernel
theorem dX9_noise_17 : decode cX9_noise 17 = .ok (.invokevirtual 45, 3) := by decide +kernel
theorem dX9_noise_20 : decode cX9_noise 20 = .ok (.invokevirtual 41, 3) := by decide +kernel
theorem dX9_noise_23 : decode cX9_noise 23 = .ok (.ireturn, 1) := by decide +kernel
set_option maxRecDepth 20000 in
theorem ggX9_sample_X6_copyFrom : GoodIn wsX9_sample wsX6_copyFrom := goodIn_r _ [7, 8, 9, 10, 11, 12, 13, 14, 15, 16, 17, 18, 19, 20, 21, 22, 23, 24, 25, 26, 27, 28, 29, 30, 31, 32, 33, 34, 35, 36, 37, 38, 39, 40, 41, 42, 43, 44, 45, 46, 47, 48, 49, 50, 51, 52, 53, 54, 55, 56, 57, 58, 59, 60, 61, 62, 63, 64, 65, 178, 179, 180, 181, 182, 183, 184, 185, 186, 187, 188, 189, 190, 191, 192, 193, 194, 195, 196, 197, 198, 199, 200, 201, 202, 203, 204, 205, 206, 207, 208, 209, 210] (by decide +kernel) (by decide +kernel)
set_option maxRecDepth 20000 in
theorem gX9_sample_X6_copyFrom : GoodIn wsX9_sample (wsV RX9 33 RX6 yX6_copyFrom wsX6_copyFrom) := goodIn_app (goodIn_of _ (by decide +kernel)) ggX9_sample_X6_copyFrom
set_option maxRecDepth 20000 in
theorem ggX9_sample_X6_makeSamples : GoodIn wsX9_sample wsX6_makeSamples := goodIn_r _ [69, 70, 14, 71, 72, 73, 74, 75, 76, 77, 6, 78, 8, 10, 79, 9, 80, 81, 82, 83, 15, 84, 85, 86, 87, 20, 88, 24, 23, 22, 89, 90, 91, 92, 93, 94, 95, 96, 97, 98, 99, 100, 101, 102, 103, 104, 105, 106, 107, 108, 109, 110, 111, 112, 12, 113, 114, 11, 115, 116, 117, 118, 119, 120, 121, 16, 122, 123, 124, 49, 125, 51, 52, 126, 127, 128, 37, 129, 130, 42, 131, 39, 132, 133, 134, 135, 43, 136, 137, 138, 139, 44, 45, 140, 141, 142, 143, 40, 144, 145, 146, 147, 41, 148, 149, 150, 151, 152, 13, 153, 154, 155, 156, 157, 178, 179, 180, 181, 182, 183, 184, 185, 186, 203, 204, 205, 206, 207, 208, 209, 210, 190, 191, 192, 193, 187, 188, 189, 194, 195, 196, 197, 198, 199, 200, 201, 202] (by decide +kernel) (by decide +kernel)
set_option maxRecDepth 20000 in
theorem gX9_sample_X6_makeSamples : GoodIn wsX9_sample (wsV RX9 48 RX6 yX6_makeSamples wsX6_makeSamples) := goodIn_app (goodIn_of _ (by decide +kernel)) ggX9_sample_X6_makeSamples
set_option maxRecDepth 20000 in
theorem ggX9_sample_X9_settle : GoodIn wsX9_sample wsX9_settle := goodIn_r _ [161, 162, 2, 1, 163, 164, 165, 166, 167, 168, 169, 170, 171, 172, 173, 4, 5, 6, 7, 8, 9, 10, 11, 12, 13, 14, 15, 16, 17, 18, 19, 20, 21, 22, 23, 24, 25, 26, 27, 28, 29, 30, 31, 32, 33, 34, 35, 36, 37, 38, 39, 40, 41, 42, 43, 44, 45, 46, 47, 48, 49, 50, 51, 52, 53, 54, 55, 56, 57, 58, 59, 60, 61, 62, 63, 64, 65, 3, 174, 175, 176, 177, 211, 212, 213, 214, 215, 178, 179, 180, 181, 182, 183, 184, 185, 186, 187, 188, 189, 190, 191, 192, 193, 194, 195, 196, 197, 198, 199, 200, 201, 202, 203, 204, 205, 206, 207, 208, 209, 210] (by decide +kernel) (by decide +kernel)
set_option maxRecDepth 20000 in
theorem gX9_sample_X9_settle : GoodIn wsX9_sample (wsV RX9 41 RX9 yX9_settle wsX9_settle) := goodIn_app (goodIn_of _ (by decide +kernel)) ggX9_sample_X9_settle
theorem dX9_sample_0 : decode cX9_sample 0 = .ok (.aload_n 0, 1) := by decide +kernel
theorem dX9_sample_1 : decode cX9_sample 1 = .ok (.getfield 16, 3) := by decide +kernel
theorem dX9_sample_4 : decode cX9_sample 4 = .ok (.aload_n 0, 1) := by decide +kernel
theorem dX9_sample_5 : decode cX9_sample 5 = .ok (.getfield 10, 3) := by decide +kernel
theorem dX9_sample_8 : decode cX9_sample 8 = .ok (.invokevirtual 33, 3) := by decide +kernel
theorem dX9_sample_11 : decode cX9_sample 11 = .ok (.aload_n 0, 1) := by decide +kernel
theorem dX9_sample_12 : decode cX9_sample 12 = .ok (.aload_n 0, 1) := by decide +kernel
theorem dX9_sample_13 : decode cX9_sample 13 = .ok (.getfield 16, 3) := by decide +kernel
theorem dX9_sample_16 : decode cX9_sample 16 = .ok (.iload_n 1, 1) := by decide +kernel
theorem dX9_sample_17 : decode cX9_sample 17 = .ok (.invokevirtual 48, 3) := by decide +kernel
theorem dX9_sample_20 : decode cX9_sample 20 = .ok (.invokevirtual 41, 3) := by decide +kernel
theorem dX9_sample_23 : decode cX9_sample 23 = .ok (.ireturn, 1) := by decide +kernel
set_option maxRecDepth 20000 in
theorem ggX9_draw_X6_copyFrom : GoodIn wsX9_draw wsX6_copyFrom := goodIn_r _ [7, 8, 9, 10, 11, 12, 13, 14, 15, 16, 17, 18, 19, 20, 21, 22, 23, 24, 25, 26, 27, 28, 29, 30, 31, 32, 33, 34, 35, 36, 37, 38, 39, 40, 41, 42, 43, 44, 45, 46, 47, 48, 49, 50, 51, 52, 53, 54, 55, 56, 57, 58, 59, 60, 61, 62, 63, 64, 65, 102, 103, 104, 105, 106, 107, 108, 109, 110, 111, 112, 113, 114, 115, 116, 117, 118, 119, 120, 121, 122, 123, 124, 125, 126, 127, 128, 129, 130, 131, 132, 133, 134] (by decide +kernel) (by decide +kernel)
set_option maxRecDepth 20000 in
theorem gX9_draw_X6_copyFrom : GoodIn wsX9_draw (wsV RX9 33 RX6 yX6_copyFrom wsX6_copyFrom) := goodIn_app (goodIn_of _ (by decide +kernel)) ggX9_draw_X6_copyFrom
set_option maxRecDepth 20000 in
theorem ggX9_draw_X6_drawBits : GoodIn wsX9_draw wsX6_drawBits := goodIn_r _ [69, 70, 13, 71, 11, 72, 73, 14, 74, 75, 76, 77, 78, 79, 80, 49, 81, 52, 51, 102, 103, 104, 105, 106, 107, 108, 109, 110, 125, 126, 118, 119, 120, 121, 122, 123, 124, 127, 128, 129, 130, 131, 132, 133, 134] (by decide +kernel) (by decide +kernel)
set_option maxRecDepth 20000 in
theorem gX9_draw_X6_drawBits : GoodIn wsX9_draw (wsV RX9 51 RX6 yX6_drawBits wsX6_drawBits) := goodIn_app (goodIn_of _ (by decide +kernel)) ggX9_draw_X6_drawBits
set_option maxRecDepth 20000 in
theorem ggX9_draw_X9_settle : GoodIn wsX9_draw wsX9_settle := goodIn_r _ [85, 86, 2, 1, 87, 88, 89, 90, 91, 92, 93, 94, 95, 96, 97, 4, 5, 6, 7, 8, 9, 10, 11, 12, 13, 14, 15, 16, 17, 18, 19, 20, 21, 22, 23, 24, 25, 26, 27, 28, 29, 30, 31, 32, 33, 34, 35, 36, 37, 38, 39, 40, 41, 42, 43, 44, 45, 46, 47, 48, 49, 50, 51, 52, 53, 54, 55, 56, 57, 58, 59, 60, 61, 62, 63, 64, 65, 3, 98, 99, 100, 101, 135, 136, 137, 138, 139, 102, 103, 104, 105, 106, 107, 108, 109, 110, 111, 112, 113, 114, 115, 116, 117, 118, 119, 120, 121, 122, 123, 124, 125, 126, 127, 128, 129, 130, 131, 132, 133, 134] (by decide +kernel) (by decide +kernel)
set_option maxRecDepth 20000 in
theorem gX9_draw_X9_settle : GoodIn wsX9_draw (wsV RX9 41 RX9 yX9_settle wsX9_settle) := goodIn_app (goodIn_of _ (by decide +kernel)) ggX9_draw_X9_settle
theorem dX9_draw_0 : decode cX9_draw 0 = .ok (.aload_n 0, 1) := by decide +kernel
theorem dX9_draw_1 : decode cX9_draw 1 = .ok (.getfield 16, 3) := by decide +kernel
theorem dX9_draw_4 : decode cX9_draw 4 = .ok (.aload_n 0, 1) := by decide +kernel
theorem dX9_draw_5 : decode cX9_draw 5 = .ok (.getfield 10, 3) := by decide +kernel
theorem dX9_draw_8 : decode cX9_draw 8 = .ok (.invokevirtual 33, 3) := by decide +kernel
theorem dX9_draw_11 : decode cX9_draw 11 = .ok (.aload_n 0, 1) := by decide +kernel
theorem dX9_draw_12 : decode cX9_draw 12 = .ok (.aload_n 0, 1) := by decide +kernel
theorem dX9_draw_13 : decode cX9_draw 13 = .ok (.getfield 16, 3) := by decide +kernel
theorem dX9_draw_16 : decode cX9_draw 16 = .ok (.iload_n 1, 1) := by decide +kernel
theorem dX9_draw_17 : decode cX9_draw 17 = .ok (.invokevirtual 51, 3) := by decide +kernel
theorem dX9_draw_20 : decode cX9_draw 20 = .ok (.invokevirtual 41, 3) := by decide +kernel
theorem dX9_draw_23 : decode cX9_draw 23 = .ok (.ireturn, 1) := by decide +kernel
set_option maxRecDepth 20000 in
theorem ggX9_restart_X6_copyFrom : GoodIn wsX9_restart wsX6_copyFrom := goodIn_r _ [7, 8, 9, 10, 11, 12, 13, 14, 15, 16, 17, 18, 19, 20, 21, 22, 23, 24, 25, 26, 27, 28, 29, 30, 31, 32, 33, 34, 35, 36, 37, 38, 39, 40, 41, 42, 43, 44, 45, 46, 47, 48, 49, 50, 51, 52, 53, 54, 55, 56, 57, 58, 59, 60, 61, 62, 63, 64, 65, 100, 101, 102, 103, 104, 105, 106, 107, 108, 109, 110, 111, 112, 113, 114, 115, 116, 117, 118, 119, 120, 121, 122, 123, 124, 125, 126, 127, 128, 129, 130, 131, 132] (by decide +kernel) (by decide +kernel)
set_option maxRecDepth 20000 in
theorem gX9_restart_X6_copyFrom : GoodIn wsX9_restart (wsV RX9 33 RX6 yX6_copyFrom wsX6_copyFrom) := goodIn_app (goodIn_of _ (by decide +kernel)) ggX9_restart_X6_copyFrom
set_option maxRecDepth 20000 in
theorem ggX9_restart_X6_startAnew : GoodIn wsX9_restart wsX6_startAnew := goodIn_r _ [69, 13, 70, 11, 16, 71, 72, 73, 49, 74, 51, 52, 75, 76, 77, 37, 78, 39, 40, 41, 42, 43, 44, 45, 100, 101, 102, 103, 104, 105, 106, 107, 108, 123, 124, 116, 117, 118, 119, 120, 121, 122] (by decide +kernel) (by decide +kernel)
set_option maxRecDepth 20000 in
theorem gX9_restart_X6_startAnew : GoodIn wsX9_restart (wsV RX9 54 RX6 yX6_startAnew wsX6_startAnew) := goodIn_app (goodIn_of _ (by decide +kernel)) ggX9_restart_X6_startAnew
set_option maxRecDepth 20000 in
theorem ggX9_restart_X9_settle : GoodIn wsX9_restart wsX9_settle := goodIn_r _ [83, 84, 2, 1, 85, 86, 87, 88, 89, 90, 91, 92, 93, 94, 95, 4, 5, 6, 7, 8, 9, 10, 11, 12, 13, 14, 15, 16, 17, 18, 19, 20, 21, 22, 23, 24, 25, 26, 27, 28, 29, 30, 31, 32, 33, 34, 35, 36, 37, 38, 39, 40, 41, 42, 43, 44, 45, 46, 47, 48, 49, 50, 51, 52, 53, 54, 55, 56, 57, 58, 59, 60, 61, 62, 63, 64, 65, 3, 96, 97, 98, 99, 133, 134, 135, 136, 137, 100, 101, 102, 103, 104, 105, 106, 107, 108, 109, 110, 111, 112, 113, 114, 115, 116, 117, 118, 119, 120, 121, 122, 123, 124, 125, 126, 127, 128, 129, 130, 131, 132] (by decide +kernel) (by decide +kernel)
set_option maxRecDepth 20000 in
theorem gX9_restart_X9_settle : GoodIn wsX9_restart (wsV RX9 41 RX9 yX9_settle wsX9_settle) := goodIn_app (goodIn_of _ (by decide +kernel)) ggX9_restart_X9_settle
theorem dX9_restart_0 : decode cX9_restart 0 = .ok (.aload_n 0, 1) := by decide +kernel
theorem dX9_restart_1 : decode cX9_restart 1 = .ok (.getfield 16, 3) := by decide +kernel
theorem dX9_restart_4 : decode cX9_restart 4 = .ok (.aload_n 0, 1) := by decide +kernel
theorem dX9_restart_5 : decode cX9_restart 5 = .ok (.getfield 10, 3) := by decide +kernel
theorem dX9_restart_8 : decode cX9_restart 8 = .ok (.invokevirtual 33, 3) := by decide +kernel
theorem dX9_restart_11 : decode cX9_restart 11 = .ok (.aload_n 0, 1) := by decide +kernel
theorem dX9_restart_12 : decode cX9_restart 12 = .ok (.aload_n 0, 1) := by decide +kernel
theorem dX9_restart_13 : decode cX9_restart 13 = .ok (.getfield 16, 3) := by decide +kernel
theorem dX9_restart_16 : decode cX9_restart 16 = .ok (.invokevirtual 54, 3) := by decide +kernel
theorem dX9_restart_19 : decode cX9_restart 19 = .ok (.invokevirtual 41, 3) := by decide +kernel
theorem dX9_restart_22 : decode cX9_restart 22 = .ok (.ireturn, 1) := by decide +kernel
set_option maxRecDepth 20000 in
theorem ggX9_set_X6_copyFrom : GoodIn wsX9_set wsX6_copyFrom := goodIn_r _ [8, 9, 10, 11, 12, 13, 14, 15, 16, 17, 18, 19, 20, 21, 22, 23, 24, 25, 26, 27, 28, 29, 30, 31, 32, 33, 34, 35, 36, 37, 38, 39, 40, 41, 42, 43, 44, 45, 46, 47, 48, 49, 50, 51, 52, 53, 54, 55, 56, 57, 58, 59, 60, 61, 62, 63, 64, 65, 66, 102, 103, 104, 105, 106, 107, 108, 109, 110, 111, 112, 113, 114, 115, 116, 117, 118, 119, 120, 121, 122, 123, 124, 125, 126, 127, 128, 129, 130, 131, 132, 133, 134] (by decide +kernel) (by decide +kernel)
set_option maxRecDepth 20000 in
theorem gX9_set_X6_copyFrom : GoodIn wsX9_set (wsV RX9 33 RX6 yX6_copyFrom wsX6_copyFrom) := goodIn_app (goodIn_of _ (by decide +kernel)) ggX9_set_X6_copyFrom
set_option maxRecDepth 20000 in
theorem ggX9_set_X5_change : GoodIn wsX9_set wsX5_change := goodIn_r _ [70, 71, 31, 32, 33, 34, 72, 73, 29, 74, 75, 76, 77, 78, 79, 80, 81, 114, 115, 116, 117] (by decide +kernel) (by decide +kernel)
set_option maxRecDepth 20000 in
theorem gX9_set_X5_change : GoodIn wsX9_set (wsV RX9 62 RX5 yX5_change wsX5_change) := goodIn_app (goodIn_of _ (by decide +kernel)) ggX9_set_X5_change
set_option maxRecDepth 20000 in
theorem ggX9_set_X9_settle : GoodIn wsX9_set wsX9_settle := goodIn_r _ [85, 86, 2, 1, 87, 88, 89, 90, 91, 92, 93, 94, 95, 96, 97, 5, 6, 7, 8, 9, 10, 11, 12, 13, 14, 15, 16, 17, 18, 19, 20, 21, 22, 23, 24, 25, 26, 27, 28, 29, 30, 31, 32, 33, 34, 35, 36, 37, 38, 39, 40, 41, 42, 43, 44, 45, 46, 47, 48, 49, 50, 51, 52, 53, 54, 55, 56, 57, 58, 59, 60, 61, 62, 63, 64, 65, 66, 4, 98, 99, 100, 101, 135, 136, 137, 138, 139, 102, 103, 104, 105, 106, 107, 108, 109, 110, 111, 112, 113, 114, 115, 116, 117, 118, 119, 120, 121, 122, 123, 124, 125, 126, 127, 128, 129, 130, 131, 132, 133, 134] (by decide +kernel) (by decide +kernel)
set_option maxRecDepth 20000 in
theorem gX9_set_X9_settle : GoodIn wsX9_set (wsV RX9 41 RX9 yX9_settle wsX9_settle) := goodIn_app (goodIn_of _ (by decide +kernel)) ggX9_set_X9_settle
theorem dX9_set_0 : decode cX9_set 0 = .ok (.aload_n 0, 1) := by decide +kernel
theorem dX9_set_1 : decode cX9_set 1 = .ok (.getfield 16, 3) := by decide +kernel
theorem dX9_set_4 : decode cX9_set 4 = .ok (.aload_n 0, 1) := by decide +kernel
theorem dX9_set_5 : decode cX9_set 5 = .ok (.getfield 10, 3) := by decide +kernel
theorem dX9_set_8 : decode cX9_set 8 = .ok (.invokevirtual 33, 3) := by decide +kernel
theorem dX9_set_11 : decode cX9_set 11 = .ok (.aload_n 0, 1) := by decide +kernel
theorem dX9_set_12 : decode cX9_set 12 = .ok (.aload_n 0, 1) := by decide +kernel
theorem dX9_set_13 : decode cX9_set 13 = .ok (.getfield 16, 3) := by decide +kernel
theorem dX9_set_16 : decode cX9_set 16 = .ok (.getfield 58, 3) := by decide +kernel
theorem dX9_set_19 : decode cX9_set 19 = .ok (.iload_n 1, 1) := by decide +kernel
theorem dX9_set_20 : decode cX9_set 20 = .ok (.iload_n 2, 1) := by decide +kernel
theorem dX9_set_21 : decode cX9_set 21 = .ok (.invokevirtual 62, 3) := by decide +kernel
theorem dX9_set_24 : decode cX9_set 24 = .ok (.invokevirtual 41, 3) := by decide +kernel
theorem dX9_set_27 : decode cX9_set 27 = .ok (.ireturn, 1) := by decide +kernel
set_option maxRecDepth 20000 in
theorem ggX9_ringOf_X9_isWithin : GoodIn wsX9_ringOf wsX9_isWithin := goodIn_r _ [6] (by decide +kernel) (by decide +kernel)
set_option maxRecDepth 20000 in
theorem gX9_ringOf_X9_isWithin : GoodIn wsX9_ringOf (va_wsS RX9 68 yX9_isWithin wsX9_isWithin) := goodIn_app (goodIn_of _ (by decide +kernel)) ggX9_ringOf_X9_isWithin
set_option maxRecDepth 20000 in
theorem ggX9_ringOf_X6_ringAt : GoodIn wsX9_ringOf wsX6_ringAt := goodIn_r _ [11, 12, 13, 31, 32, 33, 34, 35, 36, 37, 38, 39] (by decide +kernel) (by decide +kernel)
set_option maxRecDepth 20000 in
theorem gX9_ringOf_X6_ringAt : GoodIn wsX9_ringOf (wsV RX9 73 RX6 yX6_ringAt wsX6_ringAt) := goodIn_app (goodIn_of _ (by decide +kernel)) ggX9_ringOf_X6_ringAt
set_option maxRecDepth 20000 in
theorem ggX9_ringOf_X4_tell : GoodIn wsX9_ringOf wsX4_tell := goodIn_r _ [18, 19, 20, 21, 22, 23, 24, 25, 17, 26, 40, 41, 42] (by decide +kernel) (by decide +kernel)
set_option maxRecDepth 20000 in
theorem gX9_ringOf_X4_tell : GoodIn wsX9_ringOf (wsV RX9 77 RX4 yX4_tell wsX4_tell) := goodIn_app (goodIn_of _ (by decide +kernel)) ggX9_ringOf_X4_tell
theorem dX9_ringOf_0 : decode cX9_ringOf 0 = .ok (.iload_n 1, 1) := by decide +kernel
theorem dX9_ringOf_1 : decode cX9_ringOf 1 = .ok (.iconst 0, 1) := by decide +kernel
theorem dX9_ringOf_2 : decode cX9_ringOf 2 = .ok (.iconst 1, 1) := by decide +kernel
theorem dX9_ringOf_3 : decode cX9_ringOf 3 = .ok (.invokestatic 68, 3) := by decide +kernel
theorem dX9_ringOf_6 : decode cX9_ringOf 6 = .ok (.ifCond .ne 6, 3) := by decide +kernel
end
section
theorem dX9_ringOf_9 : decode cX9_ringOf 9 = .ok (.ldc 72, 2) := by decide +kernel
theorem dX9_ringOf_11 : decode cX9_ringOf 11 = .ok (.ireturn, 1) := by decide +kernel
theorem dX9_ringOf_12 : decode cX9_ringOf 12 = .ok (.aload_n 0, 1) := by decide +kernel
theorem dX9_ringOf_13 : decode cX9_ringOf 13 = .ok (.getfield 10, 3) := by decide +kernel
theorem dX9_ringOf_16 : decode cX9_ringOf 16 = .ok (.iload_n 1, 1) := by decide +kernel
theorem dX9_ringOf_17 : decode cX9_ringOf 17 = .ok (.invokevirtual 73, 3) := by decide +kernel
theorem dX9_ringOf_20 : decode cX9_ringOf 20 = .ok (.iload_n 2, 1) := by decide +kernel
theorem dX9_ringOf_21 : decode cX9_ringOf 21 = .ok (.invokevirtual 77, 3) := by decide +kernel
theorem dX9_ringOf_24 : decode cX9_ringOf 24 = .ok (.ireturn, 1) := by decide +kernel
set_option maxRecDepth 20000 in
theorem ggX9_source_X6_tell : GoodIn wsX9_source wsX6_tell := goodIn_r _ [6, 7, 8, 9, 10, 11, 12, 13, 14, 15, 16, 17, 18, 19, 20, 21, 22, 5, 23, 24, 25, 26, 27, 28, 29, 30, 31, 32, 37, 38, 39, 40, 41, 42, 43, 44, 45, 46, 47, 48, 49, 50, 51, 52, 53, 54, 55, 56, 57, 58, 59, 60, 61] (by decide +kernel) (by decide +kernel)
set_option maxRecDepth 20000 in
theorem gX9_source_X6_tell : GoodIn wsX9_source (wsV RX9 82 RX6 yX6_tell wsX6_tell) := goodIn_app (goodIn_of _ (by decide +kernel)) ggX9_source_X6_tell
theorem dX9_source_0 : decode cX9_source 0 = .ok (.aload_n 0, 1) := by decide +kernel
theorem dX9_source_1 : decode cX9_source 1 = .ok (.getfield 10, 3) := by decide +kernel
theorem dX9_source_4 : decode cX9_source 4 = .ok (.iload_n 1, 1) := by decide +kernel
theorem dX9_source_5 : decode cX9_source 5 = .ok (.invokevirtual 82, 3) := by decide +kernel
theorem dX9_source_8 : decode cX9_source 8 = .ok (.ireturn, 1) := by decide +kernel
set_option maxRecDepth 20000 in
theorem ggX9_raw_X9_isWithin : GoodIn wsX9_raw wsX9_isWithin := goodIn_r _ [9] (by decide +kernel) (by decide +kernel)
set_option maxRecDepth 20000 in
theorem gX9_raw_X9_isWithin : GoodIn wsX9_raw (va_wsS RX9 68 yX9_isWithin wsX9_isWithin) := goodIn_app (goodIn_of _ (by decide +kernel)) ggX9_raw_X9_isWithin
set_option maxRecDepth 20000 in
theorem ggX9_raw_X0_fromLatest : GoodIn wsX9_raw wsX0_fromLatest := goodIn_r _ [14, 15, 29, 30] (by decide +kernel) (by decide +kernel)
set_option maxRecDepth 20000 in
theorem gX9_raw_X0_fromLatest : GoodIn wsX9_raw (wsV RX9 93 RX0 yX0_fromLatest wsX0_fromLatest) := goodIn_app (goodIn_of _ (by decide +kernel)) ggX9_raw_X0_fromLatest
theorem dX9_raw_0 : decode cX9_raw 0 = .ok (.iload_n 1, 1) := by decide +kernel
theorem dX9_raw_1 : decode cX9_raw 1 = .ok (.iconst 0, 1) := by decide +kernel
theorem dX9_raw_2 : decode cX9_raw 2 = .ok (.bipush 63, 2) := by decide +kernel
theorem dX9_raw_4 : decode cX9_raw 4 = .ok (.invokestatic 68, 3) := by decide +kernel
theorem dX9_raw_7 : decode cX9_raw 7 = .ok (.ifCond .ne 6, 3) := by decide +kernel
theorem dX9_raw_10 : decode cX9_raw 10 = .ok (.ldc 72, 2) := by decide +kernel
theorem dX9_raw_12 : decode cX9_raw 12 = .ok (.ireturn, 1) := by decide +kernel
theorem dX9_raw_13 : decode cX9_raw 13 = .ok (.iload_n 1, 1) := by decide +kernel
theorem dX9_raw_14 : decode cX9_raw 14 = .ok (.aload_n 0, 1) := by decide +kernel
theorem dX9_raw_15 : decode cX9_raw 15 = .ok (.getfield 10, 3) := by decide +kernel
theorem dX9_raw_18 : decode cX9_raw 18 = .ok (.getfield 85, 3) := by decide +kernel
theorem dX9_raw_21 : decode cX9_raw 21 = .ok (.getfield 89, 3) := by decide +kernel
theorem dX9_raw_24 : decode cX9_raw 24 = .ok (.if_icmp .ge 17, 3) := by decide +kernel
theorem dX9_raw_27 : decode cX9_raw 27 = .ok (.aload_n 0, 1) := by decide +kernel
theorem dX9_raw_28 : decode cX9_raw 28 = .ok (.getfield 10, 3) := by decide +kernel
theorem dX9_raw_31 : decode cX9_raw 31 = .ok (.getfield 85, 3) := by decide +kernel
theorem dX9_raw_34 : decode cX9_raw 34 = .ok (.iload_n 1, 1) := by decide +kernel
theorem dX9_raw_35 : decode cX9_raw 35 = .ok (.invokevirtual 93, 3) := by decide +kernel
theorem dX9_raw_38 : decode cX9_raw 38 = .ok (.goto 5, 3) := by decide +kernel
theorem dX9_raw_41 : decode cX9_raw 41 = .ok (.ldc 96, 2) := by decide +kernel
theorem dX9_raw_43 : decode cX9_raw 43 = .ok (.ireturn, 1) := by decide +kernel
set_option maxRecDepth 20000 in
theorem ggX9_stored_X0_fromEarliest : GoodIn wsX9_stored wsX0_fromEarliest := goodIn_r _ [10, 11, 12, 13, 14, 9, 15, 16, 30, 31] (by decide +kernel) (by decide +kernel)
set_option maxRecDepth 20000 in
theorem gX9_stored_X0_fromEarliest : GoodIn wsX9_stored (wsV RX9 100 RX0 yX0_fromEarliest wsX0_fromEarliest) := goodIn_app (goodIn_of _ (by decide +kernel)) ggX9_stored_X0_fromEarliest
theorem dX9_stored_0 : decode cX9_stored 0 = .ok (.iload_n 1, 1) := by decide +kernel
theorem dX9_stored_1 : decode cX9_stored 1 = .ok (.ifCond .ge 6, 3) := by decide +kernel
theorem dX9_stored_4 : decode cX9_stored 4 = .ok (.ldc 72, 2) := by decide +kernel
theorem dX9_stored_6 : decode cX9_stored 6 = .ok (.ireturn, 1) := by decide +kernel
theorem dX9_stored_7 : decode cX9_stored 7 = .ok (.iload_n 1, 1) := by decide +kernel
theorem dX9_stored_8 : decode cX9_stored 8 = .ok (.aload_n 0, 1) := by decide +kernel
theorem dX9_stored_9 : decode cX9_stored 9 = .ok (.getfield 10, 3) := by decide +kernel
theorem dX9_stored_12 : decode cX9_stored 12 = .ok (.getfield 97, 3) := by decide +kernel
theorem dX9_stored_15 : decode cX9_stored 15 = .ok (.getfield 89, 3) := by decide +kernel
theorem dX9_stored_18 : decode cX9_stored 18 = .ok (.if_icmp .ge 17, 3) := by decide +kernel
theorem dX9_stored_21 : decode cX9_stored 21 = .ok (.aload_n 0, 1) := by decide +kernel
theorem dX9_stored_22 : decode cX9_stored 22 = .ok (.getfield 10, 3) := by decide +kernel
theorem dX9_stored_25 : decode cX9_stored 25 = .ok (.getfield 97, 3) := by decide +kernel
theorem dX9_stored_28 : decode cX9_stored 28 = .ok (.iload_n 1, 1) := by decide +kernel
theorem dX9_stored_29 : decode cX9_stored 29 = .ok (.invokevirtual 100, 3) := by decide +kernel
theorem dX9_stored_32 : decode cX9_stored 32 = .ok (.goto 5, 3) := by decide +kernel
theorem dX9_stored_35 : decode cX9_stored 35 = .ok (.ldc 96, 2) := by decide +kernel
theorem dX9_stored_37 : decode cX9_stored 37 = .ok (.ireturn, 1) := by decide +kernel
set_option maxRecDepth 20000 in
theorem ggX9_would_X9_isWithin : GoodIn wsX9_would wsX9_isWithin := goodIn_r _ [13] (by decide +kernel) (by decide +kernel)
set_option maxRecDepth 20000 in
theorem gX9_would_X9_isWithin : GoodIn wsX9_would (va_wsS RX9 68 yX9_isWithin wsX9_isWithin) := goodIn_app (goodIn_of _ (by decide +kernel)) ggX9_would_X9_isWithin
set_option maxRecDepth 20000 in
theorem ggX9_would_X6_copyFrom : GoodIn wsX9_would wsX6_copyFrom := goodIn_r _ [18, 19, 20, 21, 22, 23, 24, 25, 26, 27, 28, 29, 30, 31, 32, 33, 34, 35, 36, 37, 38, 39, 40, 41, 42, 43, 44, 45, 46, 47, 48, 49, 50, 51, 52, 53, 54, 55, 56, 57, 58, 59, 60, 61, 62, 63, 64, 65, 66, 67, 68, 69, 70, 71, 72, 73, 74, 75, 76, 170, 171, 172, 173, 174, 175, 176, 177, 178, 196, 197, 198, 199, 200, 201, 202, 181, 182, 183, 184, 185, 186, 187, 179, 180, 188, 189, 190, 191, 192, 193, 194, 195] (by decide +kernel) (by decide +kernel)
set_option maxRecDepth 20000 in
theorem gX9_would_X6_copyFrom : GoodIn wsX9_would (wsV RX9 33 RX6 yX6_copyFrom wsX6_copyFrom) := goodIn_app (goodIn_of _ (by decide +kernel)) ggX9_would_X6_copyFrom
set_option maxRecDepth 20000 in
theorem ggX9_would_X6_makeSamples : GoodIn wsX9_would wsX6_makeSamples := goodIn_r _ [80, 81, 25, 82, 11, 12, 13, 83, 84, 85, 17, 86, 19, 21, 87, 20, 88, 89, 90, 91, 26, 92, 93, 94, 95, 31, 96, 35, 34, 33, 97, 98, 99, 100, 101, 102, 103, 104, 105, 106, 107, 108, 109, 110, 111, 112, 113, 114, 115, 116, 117, 118, 119, 120, 23, 121, 122, 22, 123, 124, 125, 126, 127, 128, 129, 27, 130, 131, 132, 60, 133, 62, 63, 134, 135, 136, 48, 137, 138, 53, 139, 50, 140, 141, 142, 143, 54, 144, 145, 146, 147, 55, 56, 148, 149, 150, 151, 51, 152, 153, 154, 155, 52, 156, 157, 158, 159, 160, 24, 161, 162, 163, 164, 165, 170, 171, 172, 173, 174, 175, 176, 177, 178, 188, 189, 190, 191, 192, 193, 194, 195, 199, 200, 201, 202, 196, 197, 198, 181, 182, 183, 184, 185, 186, 187, 179, 180] (by decide +kernel) (by decide +kernel)
set_option maxRecDepth 20000 in
theorem gX9_would_X6_makeSamples : GoodIn wsX9_would (wsV RX9 48 RX6 yX6_makeSamples wsX6_makeSamples) := goodIn_app (goodIn_of _ (by decide +kernel)) ggX9_would_X6_makeSamples
theorem dX9_would_0 : decode cX9_would 0 = .ok (.iload_n 1, 1) := by decide +kernel
theorem dX9_would_1 : decode cX9_would 1 = .ok (.iconst 0, 1) := by decide +kernel
theorem dX9_would_2 : decode cX9_would 2 = .ok (.sipush 300, 3) := by decide +kernel
theorem dX9_would_5 : decode cX9_would 5 = .ok (.invokestatic 68, 3) := by decide +kernel
theorem dX9_would_8 : decode cX9_would 8 = .ok (.ifCond .eq 12, 3) := by decide +kernel
theorem dX9_would_11 : decode cX9_would 11 = .ok (.iload_n 2, 1) := by decide +kernel
theorem dX9_would_12 : decode cX9_would 12 = .ok (.iconst 0, 1) := by decide +kernel
theorem dX9_would_13 : decode cX9_would 13 = .ok (.iconst 2, 1) := by decide +kernel
theorem dX9_would_14 : decode cX9_would 14 = .ok (.invokestatic 68, 3) := by decide +kernel
theorem dX9_would_17 : decode cX9_would 17 = .ok (.ifCond .ne 6, 3) := by decide +kernel
theorem dX9_would_20 : decode cX9_would 20 = .ok (.ldc 72, 2) := by decide +kernel
theorem dX9_would_22 : decode cX9_would 22 = .ok (.ireturn, 1) := by decide +kernel
theorem dX9_would_23 : decode cX9_would 23 = .ok (.aload_n 0, 1) := by decide +kernel
theorem dX9_would_24 : decode cX9_would 24 = .ok (.getfield 16, 3) := by decide +kernel
theorem dX9_would_27 : decode cX9_would 27 = .ok (.aload_n 0, 1) := by decide +kernel
theorem dX9_would_28 : decode cX9_would 28 = .ok (.getfield 10, 3) := by decide +kernel
theorem dX9_would_31 : decode cX9_would 31 = .ok (.invokevirtual 33, 3) := by decide +kernel
theorem dX9_would_34 : decode cX9_would 34 = .ok (.iload_n 1, 1) := by decide +kernel
theorem dX9_would_35 : decode cX9_would 35 = .ok (.ifCond .le 12, 3) := by decide +kernel
theorem dX9_would_38 : decode cX9_would 38 = .ok (.aload_n 0, 1) := by decide +kernel
theorem dX9_would_39 : decode cX9_would 39 = .ok (.getfield 16, 3) := by decide +kernel
theorem dX9_would_42 : decode cX9_would 42 = .ok (.iload_n 1, 1) := by decide +kernel
theorem dX9_would_43 : decode cX9_would 43 = .ok (.invokevirtual 48, 3) := by decide +kernel
theorem dX9_would_46 : decode cX9_would 46 = .ok (.pop, 1) := by decide +kernel
theorem dX9_would_47 : decode cX9_would 47 = .ok (.iload_n 2, 1) := by decide +kernel
theorem dX9_would_48 : decode cX9_would 48 = .ok (.lookupswitch 50 #[(0, 28), (1, 39)], 28) := by decide +kernel
theorem dX9_would_76 : decode cX9_would 76 = .ok (.aload_n 0, 1) := by decide +kernel
theorem dX9_would_77 : decode cX9_would 77 = .ok (.getfield 16, 3) := by decide +kernel
theorem dX9_would_80 : decode cX9_would 80 = .ok (.getfield 97, 3) := by decide +kernel
theorem dX9_would_83 : decode cX9_would 83 = .ok (.getfield 89, 3) := by decide +kernel
theorem dX9_would_86 : decode cX9_would 86 = .ok (.ireturn, 1) := by decide +kernel
theorem dX9_would_87 : decode cX9_would 87 = .ok (.aload_n 0, 1) := by decide +kernel
theorem dX9_would_88 : decode cX9_would 88 = .ok (.getfield 16, 3) := by decide +kernel
theorem dX9_would_91 : decode cX9_would 91 = .ok (.getfield 103, 3) := by decide +kernel
theorem dX9_would_94 : decode cX9_would 94 = .ok (.getfield 107, 3) := by decide +kernel
theorem dX9_would_97 : decode cX9_would 97 = .ok (.ireturn, 1) := by decide +kernel
theorem dX9_would_98 : decode cX9_would 98 = .ok (.aload_n 0, 1) := by decide +kernel
theorem dX9_would_99 : decode cX9_would 99 = .ok (.getfield 16, 3) := by decide +kernel
theorem dX9_would_102 : decode cX9_would 102 = .ok (.getfield 112, 3) := by decide +kernel
theorem dX9_would_105 : decode cX9_would 105 = .ok (.getfield 116, 3) := by decide +kernel
theorem dX9_would_108 : decode cX9_would 108 = .ok (.aload_n 0, 1) := by decide +kernel
theorem dX9_would_109 : decode cX9_would 109 = .ok (.getfield 10, 3) := by decide +kernel
theorem dX9_would_112 : decode cX9_would 112 = .ok (.getfield 112, 3) := by decide +kernel
theorem dX9_would_115 : decode cX9_would 115 = .ok (.getfield 116, 3) := by decide +kernel
theorem dX9_would_118 : decode cX9_would 118 = .ok (.isub, 1) := by decide +kernel
theorem dX9_would_119 : decode cX9_would 119 = .ok (.ireturn, 1) := by decide +kernel
set_option maxRecDepth 20000 in
theorem ggX9_takes_X9_isWithin : GoodIn wsX9_takes wsX9_isWithin := goodIn_r _ [10] (by decide +kernel) (by decide +kernel)
set_option maxRecDepth 20000 in
theorem gX9_takes_X9_isWithin : GoodIn wsX9_takes (va_wsS RX9 68 yX9_isWithin wsX9_isWithin) := goodIn_app (goodIn_of _ (by decide +kernel)) ggX9_takes_X9_isWithin
set_option maxRecDepth 20000 in
theorem ggX9_takes_X6_copyFrom : GoodIn wsX9_takes wsX6_copyFrom := goodIn_r _ [15, 16, 17, 18, 19, 20, 21, 22, 23, 24, 25, 26, 27, 28, 29, 30, 31, 32, 33, 34, 35, 36, 37, 38, 39, 40, 41, 42, 43, 44, 45, 46, 47, 48, 49, 50, 51, 52, 53, 54, 55, 56, 57, 58, 59, 60, 61, 62, 63, 64, 65, 66, 67, 68, 69, 70, 71, 72, 73, 167, 168, 169, 170, 171, 172, 173, 174, 175, 178, 179, 180, 181, 182, 183, 184, 185, 186, 187, 188, 189, 190, 191, 176, 177, 192, 193, 194, 195, 196, 197, 198, 199] (by decide +kernel) (by decide +kernel)
set_option maxRecDepth 20000 in
theorem gX9_takes_X6_copyFrom : GoodIn wsX9_takes (wsV RX9 33 RX6 yX6_copyFrom wsX6_copyFrom) := goodIn_app (goodIn_of _ (by decide +kernel)) ggX9_takes_X6_copyFrom
set_option maxRecDepth 20000 in
theorem ggX9_takes_X6_makeSamples : GoodIn wsX9_takes wsX6_makeSamples := goodIn_r _ [77, 78, 22, 79, 8, 9, 10, 80, 81, 82, 14, 83, 16, 18, 84, 17, 85, 86, 87, 88, 23, 89, 90, 91, 92, 28, 93, 32, 31, 30, 94, 95, 96, 97, 98, 99, 100, 101, 102, 103, 104, 105, 106, 107, 108, 109, 110, 111, 112, 113, 114, 115, 116, 117, 20, 118, 119, 19, 120, 121, 122, 123, 124, 125, 126, 24, 127, 128, 129, 57, 130, 59, 60, 131, 132, 133, 45, 134, 135, 50, 136, 47, 137, 138, 139, 140, 51, 141, 142, 143, 144, 52, 53, 145, 146, 147, 148, 48, 149, 150, 151, 152, 49, 153, 154, 155, 156, 157, 21, 158, 159, 160, 161, 162, 167, 168, 169, 170, 171, 172, 173, 174, 175, 192, 193, 194, 195, 196, 197, 198, 199, 181, 182, 183, 184, 178, 179, 180, 185, 186, 187, 188, 189, 190, 191, 176, 177] (by decide +kernel) (by decide +kernel)
set_option maxRecDepth 20000 in
theorem gX9_takes_X6_makeSamples : GoodIn wsX9_takes (wsV RX9 48 RX6 yX6_makeSamples wsX6_makeSamples) := goodIn_app (goodIn_of _ (by decide +kernel)) ggX9_takes_X6_makeSamples
theorem dX9_takes_0 : decode cX9_takes 0 = .ok (.iload_n 1, 1) := by decide +kernel
theorem dX9_takes_1 : decode cX9_takes 1 = .ok (.iconst 1, 1) := by decide +kernel
theorem dX9_takes_2 : decode cX9_takes 2 = .ok (.bipush 64, 2) := by decide +kernel
theorem dX9_takes_4 : decode cX9_takes 4 = .ok (.invokestatic 68, 3) := by decide +kernel
theorem dX9_takes_7 : decode cX9_takes 7 = .ok (.ifCond .ne 6, 3) := by decide +kernel
theorem dX9_takes_10 : decode cX9_takes 10 = .ok (.ldc 72, 2) := by decide +kernel
theorem dX9_takes_12 : decode cX9_takes 12 = .ok (.ireturn, 1) := by decide +kernel
theorem dX9_takes_13 : decode cX9_takes 13 = .ok (.aload_n 0, 1) := by decide +kernel
theorem dX9_takes_14 : decode cX9_takes 14 = .ok (.getfield 16, 3) := by decide +kernel
theorem dX9_takes_17 : decode cX9_takes 17 = .ok (.aload_n 0, 1) := by decide +kernel
theorem dX9_takes_18 : decode cX9_takes 18 = .ok (.getfield 10, 3) := by decide +kernel
theorem dX9_takes_21 : decode cX9_takes 21 = .ok (.invokevirtual 33, 3) := by decide +kernel
theorem dX9_takes_24 : decode cX9_takes 24 = .ok (.iconst 0, 1) := by decide +kernel
theorem dX9_takes_25 : decode cX9_takes 25 = .ok (.istore_n 2, 1) := by decide +kernel
theorem dX9_takes_26 : decode cX9_takes 26 = .ok (.iload_n 2, 1) := by decide +kernel
theorem dX9_takes_27 : decode cX9_takes 27 = .ok (.sipush 2000, 3) := by decide +kernel
theorem dX9_takes_30 : decode cX9_takes 30 = .ok (.if_icmp .gt 34, 3) := by decide +kernel
theorem dX9_takes_33 : decode cX9_takes 33 = .ok (.aload_n 0, 1) := by decide +kernel
theorem dX9_takes_34 : decode cX9_takes 34 = .ok (.getfield 16, 3) := by decide +kernel
theorem dX9_takes_37 : decode cX9_takes 37 = .ok (.getfield 97, 3) := by decide +kernel
theorem dX9_takes_40 : decode cX9_takes 40 = .ok (.getfield 89, 3) := by decide +kernel
theorem dX9_takes_43 : decode cX9_takes 43 = .ok (.iload_n 1, 1) := by decide +kernel
theorem dX9_takes_44 : decode cX9_takes 44 = .ok (.if_icmp .lt 5, 3) := by decide +kernel
theorem dX9_takes_47 : decode cX9_takes 47 = .ok (.iload_n 2, 1) := by decide +kernel
theorem dX9_takes_48 : decode cX9_takes 48 = .ok (.ireturn, 1) := by decide +kernel
theorem dX9_takes_49 : decode cX9_takes 49 = .ok (.aload_n 0, 1) := by decide +kernel
theorem dX9_takes_50 : decode cX9_takes 50 = .ok (.getfield 16, 3) := by decide +kernel
theorem dX9_takes_53 : decode cX9_takes 53 = .ok (.iconst 1, 1) := by decide +kernel
theorem dX9_takes_54 : decode cX9_takes 54 = .ok (.invokevirtual 48, 3) := by decide +kernel
theorem dX9_takes_57 : decode cX9_takes 57 = .ok (.pop, 1) := by decide +kernel
theorem dX9_takes_58 : decode cX9_takes 58 = .ok (.iinc 2 1, 3) := by decide +kernel
theorem dX9_takes_61 : decode cX9_takes 61 = .ok (.goto (-35), 3) := by decide +kernel
theorem dX9_takes_64 : decode cX9_takes 64 = .ok (.ldc 96, 2) := by decide +kernel
theorem dX9_takes_66 : decode cX9_takes 66 = .ok (.ireturn, 1) := by decide +kernel
set_option maxRecDepth 20000 in
theorem ggX9_bestPeriod_X9_isWithin : GoodIn wsX9_bestPeriod wsX9_isWithin := goodIn_r _ [5] (by decide +kernel) (by decide +kernel)
set_option maxRecDepth 20000 in
theorem gX9_bestPeriod_X9_isWithin : GoodIn wsX9_bestPeriod (va_wsS RX9 68 yX9_isWithin wsX9_isWithin) := goodIn_app (goodIn_of _ (by decide +kernel)) ggX9_bestPeriod_X9_isWithin
set_option maxRecDepth 20000 in
theorem ggX9_bestPeriod_X9_bitsWithPeriod : GoodIn wsX9_bestPeriod wsX9_bitsWithPeriod := goodIn_r _ [9, 10, 11, 12, 13, 14, 15, 16, 17, 18, 19, 20, 21, 22, 23, 24, 25, 26, 27, 28, 29, 30, 31, 32, 33, 34, 35, 36, 37, 38, 39, 40, 41, 42, 43, 44, 45, 46, 47, 48, 49, 50, 51, 52, 53, 54, 55, 56, 57, 58, 59, 60, 61, 62, 63, 64, 65, 66, 67, 68, 69, 70, 71, 72, 73, 74, 75, 76, 77, 78, 79, 80, 81, 82, 83, 84, 85, 86, 3, 4, 5, 87, 88, 89, 90, 91, 92, 93, 94, 95, 96, 97, 98, 99, 100, 101, 102, 103, 104, 105, 106, 107, 108, 109, 110, 111, 112, 113, 114, 115, 116, 117, 118, 119, 120, 121, 122, 123, 124, 125, 126, 127, 128, 129, 130, 131, 132, 133, 134, 135, 136, 137, 138, 139, 140, 141, 142, 143, 144, 145, 146, 147, 148, 149, 150, 151, 152, 153, 154, 155, 156, 157, 158, 159, 160, 161, 162, 163, 164, 165, 166, 167, 168, 169, 170, 171, 172, 173, 174, 175, 176, 177, 178, 179, 180, 181, 182, 183, 184, 185, 186, 187, 188, 189, 190, 191, 192, 193, 194, 195, 196, 197, 198, 199, 200, 201, 202, 203, 204, 205, 206, 207, 208, 209, 210, 211, 212, 213, 214] (by decide +kernel) (by decide +kernel)
set_option maxRecDepth 20000 in
theorem gX9_bestPeriod_X9_bitsWithPeriod : GoodIn wsX9_bestPeriod (wsV RX9 121 RX9 yX9_bitsWithPeriod wsX9_bitsWithPeriod) := goodIn_app (goodIn_of _ (by decide +kernel)) ggX9_bestPeriod_X9_bitsWithPeriod
theorem dX9_bestPeriod_0 : decode cX9_bestPeriod 0 = .ok (.iload_n 1, 1) := by decide +kernel
theorem dX9_bestPeriod_1 : decode cX9_bestPeriod 1 = .ok (.iconst 0, 1) := by decide +kernel
theorem dX9_bestPeriod_2 : decode cX9_bestPeriod 2 = .ok (.iconst 1, 1) := by decide +kernel
theorem dX9_bestPeriod_3 : decode cX9_bestPeriod 3 = .ok (.invokestatic 68, 3) := by decide +kernel
theorem dX9_bestPeriod_6 : decode cX9_bestPeriod 6 = .ok (.ifCond .ne 6, 3) := by decide +kernel
theorem dX9_bestPeriod_9 : decode cX9_bestPeriod 9 = .ok (.ldc 72, 2) := by decide +kernel
theorem dX9_bestPeriod_11 : decode cX9_bestPeriod 11 = .ok (.ireturn, 1) := by decide +kernel
theorem dX9_bestPeriod_12 : decode cX9_bestPeriod 12 = .ok (.iconst 0, 1) := by decide +kernel
theorem dX9_bestPeriod_13 : decode cX9_bestPeriod 13 = .ok (.istore_n 2, 1) := by decide +kernel
theorem dX9_bestPeriod_14 : decode cX9_bestPeriod 14 = .ok (.iconst (-1), 1) := by decide +kernel
theorem dX9_bestPeriod_15 : decode cX9_bestPeriod 15 = .ok (.istore_n 3, 1) := by decide +kernel
theorem dX9_bestPeriod_16 : decode cX9_bestPeriod 16 = .ok (.bipush 20, 2) := by decide +kernel
theorem dX9_bestPeriod_18 : decode cX9_bestPeriod 18 = .ok (.istore 4, 2) := by decide +kernel
theorem dX9_bestPeriod_20 : decode cX9_bestPeriod 20 = .ok (.iload 4, 2) := by decide +kernel
theorem dX9_bestPeriod_22 : decode cX9_bestPeriod 22 = .ok (.sipush 400, 3) := by decide +kernel
theorem dX9_bestPeriod_25 : decode cX9_bestPeriod 25 = .ok (.if_icmp .gt 29, 3) := by decide +kernel
theorem dX9_bestPeriod_28 : decode cX9_bestPeriod 28 = .ok (.aload_n 0, 1) := by decide +kernel
theorem dX9_bestPeriod_29 : decode cX9_bestPeriod 29 = .ok (.iload 4, 2) := by decide +kernel
theorem dX9_bestPeriod_31 : decode cX9_bestPeriod 31 = .ok (.invokevirtual 121, 3) := by decide +kernel
theorem dX9_bestPeriod_34 : decode cX9_bestPeriod 34 = .ok (.istore 5, 2) := by decide +kernel
theorem dX9_bestPeriod_36 : decode cX9_bestPeriod 36 = .ok (.iload 5, 2) := by decide +kernel
theorem dX9_bestPeriod_38 : decode cX9_bestPeriod 38 = .ok (.iload_n 3, 1) := by decide +kernel
theorem dX9_bestPeriod_39 : decode cX9_bestPeriod 39 = .ok (.if_icmp .le 9, 3) := by decide +kernel
theorem dX9_bestPeriod_42 : decode cX9_bestPeriod 42 = .ok (.iload 4, 2) := by decide +kernel
theorem dX9_bestPeriod_44 : decode cX9_bestPeriod 44 = .ok (.istore_n 2, 1) := by decide +kernel
theorem dX9_bestPeriod_45 : decode cX9_bestPeriod 45 = .ok (.iload 5, 2) := by decide +kernel
theorem dX9_bestPeriod_47 : decode cX9_bestPeriod 47 = .ok (.istore_n 3, 1) := by decide +kernel
theorem dX9_bestPeriod_48 : decode cX9_bestPeriod 48 = .ok (.iinc 4 20, 3) := by decide +kernel
theorem dX9_bestPeriod_51 : decode cX9_bestPeriod 51 = .ok (.goto (-31), 3) := by decide +kernel
theorem dX9_bestPeriod_54 : decode cX9_bestPeriod 54 = .ok (.iload_n 1, 1) := by decide +kernel
theorem dX9_bestPeriod_55 : decode cX9_bestPeriod 55 = .ok (.ifCond .ne 7, 3) := by decide +kernel
theorem dX9_bestPeriod_58 : decode cX9_bestPeriod 58 = .ok (.iload_n 2, 1) := by decide +kernel
theorem dX9_bestPeriod_59 : decode cX9_bestPeriod 59 = .ok (.goto 4, 3) := by decide +kernel
theorem dX9_bestPeriod_62 : decode cX9_bestPeriod 62 = .ok (.iload_n 3, 1) := by decide +kernel
theorem dX9_bestPeriod_63 : decode cX9_bestPeriod 63 = .ok (.ireturn, 1) := by decide +kernel
set_option maxRecDepth 20000 in
theorem ggX9_share_X0_ones : GoodIn wsX9_share wsX0_ones := goodIn_r _ [9, 10, 11, 12, 13, 14, 15, 16, 17, 36, 37] (by decide +kernel) (by decide +kernel)
set_option maxRecDepth 20000 in
theorem gX9_share_X0_ones : GoodIn wsX9_share (wsV RX9 124 RX0 yX0_ones wsX0_ones) := goodIn_app (goodIn_of _ (by decide +kernel)) ggX9_share_X0_ones
set_option maxRecDepth 20000 in
theorem ggX9_share_X9_bitsOfShare : GoodIn wsX9_share wsX9_bitsOfShare := goodIn_r _ [21, 22] (by decide +kernel) (by decide +kernel)
set_option maxRecDepth 20000 in
theorem gX9_share_X9_bitsOfShare : GoodIn wsX9_share (va_wsS RX9 127 yX9_bitsOfShare wsX9_bitsOfShare) := goodIn_app (goodIn_of _ (by decide +kernel)) ggX9_share_X9_bitsOfShare
theorem dX9_share_0 : decode cX9_share 0 = .ok (.aload_n 0, 1) := by decide +kernel
theorem dX9_share_1 : decode cX9_share 1 = .ok (.getfield 10, 3) := by decide +kernel
theorem dX9_share_4 : decode cX9_share 4 = .ok (.getfield 85, 3) := by decide +kernel
theorem dX9_share_7 : decode cX9_share 7 = .ok (.getfield 89, 3) := by decide +kernel
theorem dX9_share_10 : decode cX9_share 10 = .ok (.istore_n 1, 1) := by decide +kernel
theorem dX9_share_11 : decode cX9_share 11 = .ok (.iload_n 1, 1) := by decide +kernel
theorem dX9_share_12 : decode cX9_share 12 = .ok (.ifCond .gt 6, 3) := by decide +kernel
theorem dX9_share_15 : decode cX9_share 15 = .ok (.ldc 96, 2) := by decide +kernel
theorem dX9_share_17 : decode cX9_share 17 = .ok (.ireturn, 1) := by decide +kernel
theorem dX9_share_18 : decode cX9_share 18 = .ok (.aload_n 0, 1) := by decide +kernel
theorem dX9_share_19 : decode cX9_share 19 = .ok (.getfield 10, 3) := by decide +kernel
theorem dX9_share_22 : decode cX9_share 22 = .ok (.getfield 85, 3) := by decide +kernel
theorem dX9_share_25 : decode cX9_share 25 = .ok (.invokevirtual 124, 3) := by decide +kernel
theorem dX9_share_28 : decode cX9_share 28 = .ok (.i2f, 1) := by decide +kernel
theorem dX9_share_29 : decode cX9_share 29 = .ok (.iload_n 1, 1) := by decide +kernel
theorem dX9_share_30 : decode cX9_share 30 = .ok (.i2f, 1) := by decide +kernel
theorem dX9_share_31 : decode cX9_share 31 = .ok (.fdiv, 1) := by decide +kernel
theorem dX9_share_32 : decode cX9_share 32 = .ok (.invokestatic 127, 3) := by decide +kernel
theorem dX9_share_35 : decode cX9_share 35 = .ok (.ireturn, 1) := by decide +kernel
set_option maxRecDepth 20000 in
theorem ggX9_count_X9_isWithin : GoodIn wsX9_count wsX9_isWithin := goodIn_r _ [12] (by decide +kernel) (by decide +kernel)
set_option maxRecDepth 20000 in
theorem gX9_count_X9_isWithin : GoodIn wsX9_count (va_wsS RX9 68 yX9_isWithin wsX9_isWithin) := goodIn_app (goodIn_of _ (by decide +kernel)) ggX9_count_X9_isWithin
set_option maxRecDepth 20000 in
theorem ggX9_count_X5_tell : GoodIn wsX9_count wsX5_tell := goodIn_r _ [17, 18, 19, 20, 21, 22, 67, 68, 69, 70] (by decide +kernel) (by decide +kernel)
set_option maxRecDepth 20000 in
theorem gX9_count_X5_tell : GoodIn wsX9_count (wsV RX9 131 RX5 yX5_tell wsX5_tell) := goodIn_app (goodIn_of _ (by decide +kernel)) ggX9_count_X5_tell
set_option maxRecDepth 20000 in
theorem ggX9_count_X7_tell : GoodIn wsX9_count wsX7_tell := goodIn_r _ [27, 28, 29, 30, 31, 32, 33, 34, 35, 36, 71, 72, 73, 74, 75, 76, 77, 78] (by decide +kernel) (by decide +kernel)
set_option maxRecDepth 20000 in
theorem gX9_count_X7_tell : GoodIn wsX9_count (wsV RX9 144 RX7 yX7_tell wsX7_tell) := goodIn_app (goodIn_of _ (by decide +kernel)) ggX9_count_X7_tell
theorem dX9_count_0 : decode cX9_count 0 = .ok (.iload_n 1, 1) := by decide +kernel
theorem dX9_count_1 : decode cX9_count 1 = .ok (.bipush 20, 2) := by decide +kernel
theorem dX9_count_3 : decode cX9_count 3 = .ok (.bipush 23, 2) := by decide +kernel
theorem dX9_count_5 : decode cX9_count 5 = .ok (.invokestatic 68, 3) := by decide +kernel
theorem dX9_count_8 : decode cX9_count 8 = .ok (.ifCond .eq 18, 3) := by decide +kernel
theorem dX9_count_11 : decode cX9_count 11 = .ok (.aload_n 0, 1) := by decide +kernel
theorem dX9_count_12 : decode cX9_count 12 = .ok (.getfield 10, 3) := by decide +kernel
theorem dX9_count_15 : decode cX9_count 15 = .ok (.getfield 58, 3) := by decide +kernel
theorem dX9_count_18 : decode cX9_count 18 = .ok (.iload_n 1, 1) := by decide +kernel
theorem dX9_count_19 : decode cX9_count 19 = .ok (.bipush 20, 2) := by decide +kernel
theorem dX9_count_21 : decode cX9_count 21 = .ok (.isub, 1) := by decide +kernel
theorem dX9_count_22 : decode cX9_count 22 = .ok (.invokevirtual 131, 3) := by decide +kernel
theorem dX9_count_25 : decode cX9_count 25 = .ok (.ireturn, 1) := by decide +kernel
theorem dX9_count_26 : decode cX9_count 26 = .ok (.iload_n 1, 1) := by decide +kernel
theorem dX9_count_27 : decode cX9_count 27 = .ok (.bipush 8, 2) := by decide +kernel
theorem dX9_count_29 : decode cX9_count 29 = .ok (.if_icmp .ne 11, 3) := by decide +kernel
theorem dX9_count_32 : decode cX9_count 32 = .ok (.aload_n 0, 1) := by decide +kernel
theorem dX9_count_33 : decode cX9_count 33 = .ok (.getfield 22, 3) := by decide +kernel
theorem dX9_count_36 : decode cX9_count 36 = .ok (.getfield 132, 3) := by decide +kernel
theorem dX9_count_39 : decode cX9_count 39 = .ok (.ireturn, 1) := by decide +kernel
theorem dX9_count_40 : decode cX9_count 40 = .ok (.iload_n 1, 1) := by decide +kernel
theorem dX9_count_41 : decode cX9_count 41 = .ok (.bipush 9, 2) := by decide +kernel
theorem dX9_count_43 : decode cX9_count 43 = .ok (.if_icmp .ne 14, 3) := by decide +kernel
theorem dX9_count_46 : decode cX9_count 46 = .ok (.aload_n 0, 1) := by decide +kernel
theorem dX9_count_47 : decode cX9_count 47 = .ok (.getfield 29, 3) := by decide +kernel
theorem dX9_count_50 : decode cX9_count 50 = .ok (.getfield 135, 3) := by decide +kernel
theorem dX9_count_53 : decode cX9_count 53 = .ok (.getfield 139, 3) := by decide +kernel
theorem dX9_count_56 : decode cX9_count 56 = .ok (.ireturn, 1) := by decide +kernel
theorem dX9_count_57 : decode cX9_count 57 = .ok (.aload_n 0, 1) := by decide +kernel
theorem dX9_count_58 : decode cX9_count 58 = .ok (.getfield 10, 3) := by decide +kernel
theorem dX9_count_61 : decode cX9_count 61 = .ok (.getfield 112, 3) := by decide +kernel
theorem dX9_count_64 : decode cX9_count 64 = .ok (.iload_n 1, 1) := by decide +kernel
theorem dX9_count_65 : decode cX9_count 65 = .ok (.invokevirtual 144, 3) := by decide +kernel
theorem dX9_count_68 : decode cX9_count 68 = .ok (.ireturn, 1) := by decide +kernel
set_option maxRecDepth 20000 in
theorem ggX9_undo_X2_bringBack : GoodIn wsX9_undo wsX2_bringBack := goodIn_r _ [7, 8, 9, 10, 11, 12, 13, 14, 15, 16, 17, 18, 19, 20, 21, 22, 23, 24, 25, 26, 27, 28, 29, 30, 31, 32, 33, 34, 35, 36, 37, 38, 39, 40, 41, 42, 43, 44, 45, 46, 47, 48, 49, 50, 51, 52, 53, 54, 55, 56, 57, 58, 59, 60, 61, 62, 63, 64, 65, 66, 67, 68, 69, 70, 71, 72, 73, 74, 75, 76, 81, 82, 83, 84, 85, 86, 87, 88, 89, 90, 91, 92, 93, 94, 95, 96, 97, 98, 99, 100, 101, 102, 103, 104, 105, 106, 107, 108, 109, 110, 111, 112, 113, 114, 115, 116, 117, 118] (by decide +kernel) (by decide +kernel)
set_option maxRecDepth 20000 in
theorem gX9_undo_X2_bringBack : GoodIn wsX9_undo (wsV RX9 145 RX2 yX2_bringBack wsX2_bringBack) := goodIn_app (goodIn_of _ (by decide +kernel)) ggX9_undo_X2_bringBack
theorem dX9_undo_0 : decode cX9_undo 0 = .ok (.aload_n 0, 1) := by decide +kernel
theorem dX9_undo_1 : decode cX9_undo 1 = .ok (.getfield 22, 3) := by decide +kernel
theorem dX9_undo_4 : decode cX9_undo 4 = .ok (.aload_n 0, 1) := by decide +kernel
theorem dX9_undo_5 : decode cX9_undo 5 = .ok (.getfield 10, 3) := by decide +kernel
theorem dX9_undo_8 : decode cX9_undo 8 = .ok (.invokevirtual 145, 3) := by decide +kernel
theorem dX9_undo_11 : decode cX9_undo 11 = .ok (.ireturn, 1) := by decide +kernel
set_option maxRecDepth 20000 in
theorem ggX9_type_X8_append : GoodIn wsX9_type wsX8_append := goodIn_r _ [7, 8, 9, 10, 11, 12, 13, 14, 29, 30] (by decide +kernel) (by decide +kernel)
set_option maxRecDepth 20000 in
theorem gX9_type_X8_append : GoodIn wsX9_type (wsV RX9 149 RX8 yX8_append wsX8_append) := goodIn_app (goodIn_of _ (by decide +kernel)) ggX9_type_X8_append
theorem dX9_type_0 : decode cX9_type 0 = .ok (.aload_n 0, 1) := by decide +kernel
theorem dX9_type_1 : decode cX9_type 1 = .ok (.getfield 29, 3) := by decide +kernel
theorem dX9_type_4 : decode cX9_type 4 = .ok (.getfield 135, 3) := by decide +kernel
theorem dX9_type_7 : decode cX9_type 7 = .ok (.iload_n 1, 1) := by decide +kernel
theorem dX9_type_8 : decode cX9_type 8 = .ok (.invokevirtual 149, 3) := by decide +kernel
theorem dX9_type_11 : decode cX9_type 11 = .ok (.ireturn, 1) := by decide +kernel
set_option maxRecDepth 20000 in
theorem ggX9_clearText_X8_clear : GoodIn wsX9_clearText wsX8_clear := goodIn_r _ [7, 8, 23, 24] (by decide +kernel) (by decide +kernel)
set_option maxRecDepth 20000 in
theorem gX9_clearText_X8_clear : GoodIn wsX9_clearText (wsV RX9 152 RX8 yX8_clear wsX8_clear) := goodIn_app (goodIn_of _ (by decide +kernel)) ggX9_clearText_X8_clear
theorem dX9_clearText_0 : decode cX9_clearText 0 = .ok (.aload_n 0, 1) := by decide +kernel
theorem dX9_clearText_1 : decode cX9_clearText 1 = .ok (.getfield 29, 3) := by decide +kernel
theorem dX9_clearText_4 : decode cX9_clearText 4 = .ok (.getfield 135, 3) := by decide +kernel
theorem dX9_clearText_7 : decode cX9_clearText 7 = .ok (.invokevirtual 152, 3) := by decide +kernel
theorem dX9_clearText_10 : decode cX9_clearText 10 = .ok (.ireturn, 1) := by decide +kernel
set_option maxRecDepth 20000 in
theorem ggX9_fault_X9_isWithin : GoodIn wsX9_fault wsX9_isWithin := goodIn_r _ [12] (by decide +kernel) (by decide +kernel)
set_option maxRecDepth 20000 in
theorem gX9_fault_X9_isWithin : GoodIn wsX9_fault (va_wsS RX9 68 yX9_isWithin wsX9_isWithin) := goodIn_app (goodIn_of _ (by decide +kernel)) ggX9_fault_X9_isWithin
set_option maxRecDepth 20000 in
theorem ggX9_fault_X6_copyFrom : GoodIn wsX9_fault wsX6_copyFrom := goodIn_r _ [17, 18, 19, 20, 21, 22, 23, 24, 25, 26, 27, 28, 29, 30, 31, 32, 33, 34, 35, 36, 37, 38, 39, 40, 41, 42, 43, 44, 45, 46, 47, 48, 49, 50, 51, 52, 53, 54, 55, 56, 57, 58, 59, 60, 61, 62, 63, 64, 65, 66, 67, 68, 69, 70, 71, 72, 73, 74, 75, 263, 264, 265, 266, 267, 268, 269, 270, 271, 272, 273, 274, 275, 276, 277, 278, 279, 280, 281, 282, 283, 284, 285, 286, 287, 288, 289, 290, 291, 292, 293, 294, 295] (by decide +kernel) (by decide +kernel)
set_option maxRecDepth 20000 in
theorem gX9_fault_X6_copyFrom : GoodIn wsX9_fault (wsV RX9 33 RX6 yX6_copyFrom wsX6_copyFrom) := goodIn_app (goodIn_of _ (by decide +kernel)) ggX9_fault_X6_copyFrom
set_option maxRecDepth 20000 in
theorem ggX9_fault_X3_areDoneOn : GoodIn wsX9_fault wsX3_areDoneOn := goodIn_r _ [80, 81, 82, 83, 84, 85, 86, 87, 88, 89, 90, 79, 91, 92, 93, 94, 95, 96, 97, 98, 99, 100, 101, 102, 103, 10, 11, 12, 104, 105, 106, 107, 108, 109, 110, 111, 112, 113, 114, 115, 116, 117, 118, 119, 120, 121, 122, 123, 124, 125, 16, 126, 127, 128, 129, 130, 131, 132, 133, 134, 18, 19, 135, 136, 137, 138, 24, 139, 140, 141, 142, 143, 20, 144, 145, 146, 147, 148, 25, 149, 150, 151, 152, 30, 153, 34, 33, 32, 154, 155, 156, 157, 158, 159, 160, 161, 162, 163, 164, 165, 166, 167, 168, 169, 170, 171, 172, 173, 174, 175, 22, 176, 177, 21, 178, 179, 180, 181, 182, 183, 184, 26, 185, 186, 187, 59, 188, 61, 62, 189, 190, 191, 47, 192, 193, 52, 194, 49, 195, 196, 197, 198, 53, 199, 200, 201, 202, 54, 55, 203, 204, 205, 206, 50, 207, 208, 209, 210, 51, 211, 212, 213, 214, 215, 23, 216, 217, 218, 219, 220, 221, 222, 223, 224, 225, 226, 227, 228, 229, 230, 231, 232, 233, 234, 235, 236, 237, 238, 239, 240, 241, 242, 243, 244, 245, 246, 247, 248, 253, 254, 255, 256, 257, 258, 259, 260, 261, 262, 296, 297, 272, 273, 274, 263, 264, 265, 266, 267, 268, 269, 270, 271, 288, 289, 290, 291, 292, 293, 294, 295, 275, 276, 277, 278, 279, 280, 281, 282, 283, 284, 285, 286, 287] (by decide +kernel) (by decide +kernel)
set_option maxRecDepth 20000 in
theorem gX9_fault_X3_areDoneOn : GoodIn wsX9_fault (wsV RX9 155 RX3 yX3_areDoneOn wsX3_areDoneOn) := goodIn_app (goodIn_of _ (by decide +kernel)) ggX9_fault_X3_areDoneOn
theorem dX9_fault_0 : decode cX9_fault 0 = .ok (.iload_n 1, 1) := by decide +kernel
theorem dX9_fault_1 : decode cX9_fault 1 = .ok (.iconst 0, 1) := by decide +kernel
theorem dX9_fault_2 : decode cX9_fault 2 = .ok (.iconst 2, 1) := by decide +kernel
theorem dX9_fault_3 : decode cX9_fault 3 = .ok (.invokestatic 68, 3) := by decide +kernel
theorem dX9_fault_6 : decode cX9_fault 6 = .ok (.ifCond .ne 6, 3) := by decide +kernel
theorem dX9_fault_9 : decode cX9_fault 9 = .ok (.ldc 72, 2) := by decide +kernel
theorem dX9_fault_11 : decode cX9_fault 11 = .ok (.ireturn, 1) := by decide +kernel
theorem dX9_fault_12 : decode cX9_fault 12 = .ok (.aload_n 0, 1) := by decide +kernel
theorem dX9_fault_13 : decode cX9_fault 13 = .ok (.getfield 16, 3) := by decide +kernel
theorem dX9_fault_16 : decode cX9_fault 16 = .ok (.aload_n 0, 1) := by decide +kernel
theorem dX9_fault_17 : decode cX9_fault 17 = .ok (.getfield 10, 3) := by decide +kernel
theorem dX9_fault_20 : decode cX9_fault 20 = .ok (.invokevirtual 33, 3) := by decide +kernel
theorem dX9_fault_23 : decode cX9_fault 23 = .ok (.aload_n 0, 1) := by decide +kernel
theorem dX9_fault_24 : decode cX9_fault 24 = .ok (.getfield 29, 3) := by decide +kernel
theorem dX9_fault_27 : decode cX9_fault 27 = .ok (.aload_n 0, 1) := by decide +kernel
theorem dX9_fault_28 : decode cX9_fault 28 = .ok (.getfield 16, 3) := by decide +kernel
theorem dX9_fault_31 : decode cX9_fault 31 = .ok (.invokevirtual 155, 3) := by decide +kernel
theorem dX9_fault_34 : decode cX9_fault 34 = .ok (.ifCond .eq 6, 3) := by decide +kernel
theorem dX9_fault_37 : decode cX9_fault 37 = .ok (.ldc 96, 2) := by decide +kernel
theorem dX9_fault_39 : decode cX9_fault 39 = .ok (.ireturn, 1) := by decide +kernel
theorem dX9_fault_40 : decode cX9_fault 40 = .ok (.iload_n 1, 1) := by decide +kernel
theorem dX9_fault_41 : decode cX9_fault 41 = .ok (.lookupswitch 43 #[(0, 27), (1, 35)], 27) := by decide +kernel
theorem dX9_fault_68 : decode cX9_fault 68 = .ok (.aload_n 0, 1) := by decide +kernel
theorem dX9_fault_69 : decode cX9_fault 69 = .ok (.getfield 29, 3) := by decide +kernel
theorem dX9_fault_72 : decode cX9_fault 72 = .ok (.getfield 159, 3) := by decide +kernel
theorem dX9_fault_75 : decode cX9_fault 75 = .ok (.ireturn, 1) := by decide +kernel
theorem dX9_fault_76 : decode cX9_fault 76 = .ok (.aload_n 0, 1) := by decide +kernel
theorem dX9_fault_77 : decode cX9_fault 77 = .ok (.getfield 29, 3) := by decide +kernel
theorem dX9_fault_80 : decode cX9_fault 80 = .ok (.getfield 162, 3) := by decide +kernel
theorem dX9_fault_83 : decode cX9_fault 83 = .ok (.ireturn, 1) := by decide +kernel
theorem dX9_fault_84 : decode cX9_fault 84 = .ok (.aload_n 0, 1) := by decide +kernel
theorem dX9_fault_85 : decode cX9_fault 85 = .ok (.getfield 29, 3) := by decide +kernel
theorem dX9_fault_88 : decode cX9_fault 88 = .ok (.getfield 165, 3) := by decide +kernel
theorem dX9_fault_91 : decode cX9_fault 91 = .ok (.ireturn, 1) := by decide +kernel
set_option maxRecDepth 20000 in
theorem ggX9_play_X6_copyFrom : GoodIn wsX9_play wsX6_copyFrom := goodIn_r _ [10, 11, 12, 13, 14, 15, 16, 17, 18, 19, 20, 21, 22, 23, 24, 25, 26, 27, 28, 29, 30, 31, 32, 33, 34, 35, 36, 37, 38, 39, 40, 41, 42, 43, 44, 45, 46, 47, 48, 49, 50, 51, 52, 53, 54, 55, 56, 57, 58, 59, 60, 61, 62, 63, 64, 65, 66, 67, 68, 275, 276, 277, 278, 279, 280, 281, 282, 283, 284, 285, 286, 287, 288, 289, 290, 291, 292, 293, 294, 295, 296, 297, 298, 299, 300, 301, 302, 303, 304, 305, 306, 307] (by decide +kernel) (by decide +kernel)
set_option maxRecDepth 20000 in
theorem gX9_play_X6_copyFrom : GoodIn wsX9_play (wsV RX9 33 RX6 yX6_copyFrom wsX6_copyFrom) := goodIn_app (goodIn_of _ (by decide +kernel)) ggX9_play_X6_copyFrom
set_option maxRecDepth 20000 in
theorem ggX9_play_X3_areDoneOn : GoodIn wsX9_play wsX3_areDoneOn := goodIn_r _ [73, 74, 75, 76, 77, 78, 79, 80, 81, 82, 83, 72, 84, 85, 86, 87, 88, 89, 90, 91, 92, 93, 94, 95, 96, 97, 98, 99, 100, 101, 102, 103, 104, 105, 106, 107, 108, 109, 110, 111, 112, 113, 114, 115, 116, 117, 118, 119, 120, 121, 9, 122, 123, 124, 125, 126, 127, 128, 129, 130, 11, 12, 131, 132, 133, 134, 17, 135, 136, 137, 138, 139, 13, 140, 141, 142, 143, 144, 18, 145, 146, 147, 148, 23, 149, 27, 26, 25, 150, 151, 152, 153, 154, 155, 156, 157, 158, 159, 160, 161, 162, 163, 164, 165, 166, 167, 168, 169, 170, 171, 15, 172, 173, 14, 174, 175, 176, 177, 178, 179, 180, 19, 181, 182, 183, 52, 184, 54, 55, 185, 186, 187, 40, 188, 189, 45, 190, 42, 191, 192, 193, 194, 46, 195, 196, 197, 198, 47, 48, 199, 200, 201, 202, 43, 203, 204, 205, 206, 44, 207, 208, 209, 210, 211, 16, 212, 213, 214, 215, 216, 217, 218, 219, 220, 221, 222, 223, 224, 225, 226, 227, 228, 229, 230, 231, 232, 233, 234, 235, 236, 237, 238, 239, 240, 241, 242, 243, 244, 265, 266, 267, 268, 269, 270, 271, 272, 273, 274, 308, 309, 284, 285, 286, 275, 276, 277, 278, 279, 280, 281, 282, 283, 300, 301, 302, 303, 304, 305, 306, 307, 287, 288, 289, 290, 291, 292, 293, 294, 295, 296, 297, 298, 299] (by decide +kernel) (by decide +kernel)
set_option maxRecDepth 20000 in
theorem gX9_play_X3_areDoneOn : GoodIn wsX9_play (wsV RX9 155 RX3 yX3_areDoneOn wsX3_areDoneOn) := goodIn_app (goodIn_of _ (by decide +kernel)) ggX9_play_X3_areDoneOn
set_option maxRecDepth 20000 in
theorem ggX9_play_X9_settle : GoodIn wsX9_play wsX9_settle := goodIn_r _ [248, 249, 2, 1, 250, 251, 252, 253, 254, 255, 256, 257, 258, 259, 260, 7, 8, 9, 10, 11, 12, 13, 14, 15, 16, 17, 18, 19, 20, 21, 22, 23, 24, 25, 26, 27, 28, 29, 30, 31, 32, 33, 34, 35, 36, 37, 38, 39, 40, 41, 42, 43, 44, 45, 46, 47, 48, 49, 50, 51, 52, 53, 54, 55, 56, 57, 58, 59, 60, 61, 62, 63, 64, 65, 66, 67, 68, 6, 261, 262, 263, 264, 310, 311, 312, 313, 314, 275, 276, 277, 278, 279, 280, 281, 282, 283, 284, 285, 286, 287, 288, 289, 290, 291, 292, 293, 294, 295, 296, 297, 298, 299, 300, 301, 302, 303, 304, 305, 306, 307] (by decide +kernel) (by decide +kernel)
set_option maxRecDepth 20000 in
theorem gX9_play_X9_settle : GoodIn wsX9_play (wsV RX9 41 RX9 yX9_settle wsX9_settle) := goodIn_app (goodIn_of _ (by decide +kernel)) ggX9_play_X9_settle
theorem dX9_play_0 : decode cX9_play 0 = .ok (.aload_n 0, 1) := by decide +kernel
theorem dX9_play_1 : decode cX9_play 1 = .ok (.getfield 16, 3) := by decide +kernel
theorem dX9_play_4 : decode cX9_play 4 = .ok (.aload_n 0, 1) := by decide +kernel
theorem dX9_play_5 : decode cX9_play 5 = .ok (.getfield 10, 3) := by decide +kernel
theorem dX9_play_8 : decode cX9_play 8 = .ok (.invokevirtual 33, 3) := by decide +kernel
theorem dX9_play_11 : decode cX9_play 11 = .ok (.aload_n 0, 1) := by decide +kernel
theorem dX9_play_12 : decode cX9_play 12 = .ok (.aload_n 0, 1) := by decide +kernel
theorem dX9_play_13 : decode cX9_play 13 = .ok (.getfield 29, 3) := by decide +kernel
theorem dX9_play_16 : decode cX9_play 16 = .ok (.aload_n 0, 1) := by decide +kernel
theorem dX9_play_17 : decode cX9_play 17 = .ok (.getfield 16, 3) := by decide +kernel
theorem dX9_play_20 : decode cX9_play 20 = .ok (.invokevirtual 155, 3) := by decide +kernel
theorem dX9_play_23 : decode cX9_play 23 = .ok (.ifCond .eq 13, 3) := by decide +kernel
theorem dX9_play_26 : decode cX9_play 26 = .ok (.aload_n 0, 1) := by decide +kernel
theorem dX9_play_27 : decode cX9_play 27 = .ok (.getfield 29, 3) := by decide +kernel
theorem dX9_play_30 : decode cX9_play 30 = .ok (.getfield 168, 3) := by decide +kernel
theorem dX9_play_33 : decode cX9_play 33 = .ok (.goto 5, 3) := by decide +kernel
theorem dX9_play_36 : decode cX9_play 36 = .ok (.ldc 171, 2) := by decide +kernel
theorem dX9_play_38 : decode cX9_play 38 = .ok (.invokevirtual 41, 3) := by decide +kernel
theorem dX9_play_41 : decode cX9_play 41 = .ok (.ireturn, 1) := by decide +kernel
set_option maxRecDepth 20000 in
theorem ggX9_settle_X2_keep : GoodIn wsX9_settle wsX2_keep := goodIn_r _ [8, 9, 10, 11, 12, 13, 14, 15, 16, 17, 18, 19, 20, 21, 22, 23, 24, 25, 26, 27, 28, 29, 30, 31, 32, 33, 34, 35, 36, 37, 38, 39, 40, 41, 42, 43, 44, 45, 46, 47, 48, 49, 50, 51, 52, 53, 54, 55, 56, 57, 58, 59, 60, 61, 62, 63, 64, 65, 66, 67, 68, 69, 70, 71, 72, 73, 74, 75, 76, 82, 83, 84, 85, 86, 87, 88, 89, 90, 91, 92, 93, 94, 95, 96, 97, 98, 99, 100, 101, 102, 103, 104, 105, 106, 107, 108, 109, 110, 111, 112, 113, 114, 115, 116, 117, 118, 119] (by decide +kernel) (by decide +kernel)
set_option maxRecDepth 20000 in
theorem gX9_settle_X2_keep : GoodIn wsX9_settle (wsV RX9 172 RX2 yX2_keep wsX2_keep) := goodIn_app (goodIn_of _ (by decide +kernel)) ggX9_settle_X2_keep
set_option maxRecDepth 20000 in
theorem ggX9_settle_X6_copyFrom : GoodIn wsX9_settle wsX6_copyFrom := goodIn_r _ [18, 19, 20, 21, 22, 23, 24, 25, 26, 27, 28, 29, 30, 31, 32, 33, 34, 35, 36, 37, 38, 39, 40, 41, 42, 43, 44, 45, 46, 47, 48, 49, 50, 51, 52, 53, 54, 55, 56, 57, 58, 59, 60, 61, 62, 63, 64, 65, 66, 67, 68, 69, 70, 71, 72, 73, 74, 75, 76, 87, 88, 89, 90, 91, 92, 93, 94, 95, 96, 97, 98, 99, 100, 101, 102, 103, 104, 105, 106, 107, 108, 109, 110, 111, 112, 113, 114, 115, 116, 117, 118, 119] (by decide +kernel) (by decide +kernel)
set_option maxRecDepth 20000 in
theorem gX9_settle_X6_copyFrom : GoodIn wsX9_settle (wsV RX9 33 RX6 yX6_copyFrom wsX6_copyFrom) := goodIn_app (goodIn_of _ (by decide +kernel)) ggX9_settle_X6_copyFrom
theorem dX9_settle_0 : decode cX9_settle 0 = .ok (.iload_n 1, 1) := by decide +kernel
theorem dX9_settle_1 : decode cX9_settle 1 = .ok (.ifCond .lt 25, 3) := by decide +kernel
theorem dX9_settle_4 : decode cX9_settle 4 = .ok (.aload_n 0, 1) := by decide +kernel
theorem dX9_settle_5 : decode cX9_settle 5 = .ok (.getfield 22, 3) := by decide +kernel
theorem dX9_settle_8 : decode cX9_settle 8 = .ok (.aload_n 0, 1) := by decide +kernel
theorem dX9_settle_9 : decode cX9_settle 9 = .ok (.getfield 10, 3) := by decide +kernel
theorem dX9_settle_12 : decode cX9_settle 12 = .ok (.invokevirtual 172, 3) := by decide +kernel
theorem dX9_settle_15 : decode cX9_settle 15 = .ok (.aload_n 0, 1) := by decide +kernel
theorem dX9_settle_16 : decode cX9_settle 16 = .ok (.getfield 10, 3) := by decide +kernel
theorem dX9_settle_19 : decode cX9_settle 19 = .ok (.aload_n 0, 1) := by decide +kernel
theorem dX9_settle_20 : decode cX9_settle 20 = .ok (.getfield 16, 3) := by decide +kernel
theorem dX9_settle_23 : decode cX9_settle 23 = .ok (.invokevirtual 33, 3) := by decide +kernel
theorem dX9_settle_26 : decode cX9_settle 26 = .ok (.iload_n 1, 1) := by decide +kernel
theorem dX9_settle_27 : decode cX9_settle 27 = .ok (.ireturn, 1) := by decide +kernel
set_option maxRecDepth 20000 in
theorem ggX9_bitsWithPeriod_X6_copyFrom : GoodIn wsX9_bitsWithPeriod wsX6_copyFrom := goodIn_r _ [11, 12, 13, 14, 15, 16, 17, 18, 19, 20, 21, 22, 23, 24, 25, 26, 27, 28, 29, 30, 31, 32, 33, 34, 35, 36, 37, 38, 39, 40, 41, 42, 43, 44, 45, 46, 47, 48, 49, 50, 51, 52, 53, 54, 55, 56, 57, 58, 59, 60, 61, 62, 63, 64, 65, 66, 67, 68, 69, 176, 177, 178, 179, 180, 181, 182, 183, 184, 185, 186, 187, 190, 191, 192, 193, 194, 195, 196, 197, 198, 199, 200, 188, 189, 201, 202, 203, 204, 205, 206, 207, 208] (by decide +kernel) (by decide +kernel)
set_option maxRecDepth 20000 in
theorem gX9_bitsWithPeriod_X6_copyFrom : GoodIn wsX9_bitsWithPeriod (wsV RX9 33 RX6 yX6_copyFrom wsX6_copyFrom) := goodIn_app (goodIn_of _ (by decide +kernel)) ggX9_bitsWithPeriod_X6_copyFrom
set_option maxRecDepth 20000 in
theorem ggX9_bitsWithPeriod_X6_changeRing : GoodIn wsX9_bitsWithPeriod wsX6_changeRing := goodIn_r _ [73, 74, 75, 76, 77, 78, 79, 80, 81, 82, 83, 10, 84, 12, 13, 185, 186, 187, 176, 177, 178, 179, 180, 181, 182, 183, 184] (by decide +kernel) (by decide +kernel)
set_option maxRecDepth 20000 in
theorem gX9_bitsWithPeriod_X6_changeRing : GoodIn wsX9_bitsWithPeriod (wsV RX9 37 RX6 yX6_changeRing wsX6_changeRing) := goodIn_app (goodIn_of _ (by decide +kernel)) ggX9_bitsWithPeriod_X6_changeRing
set_option maxRecDepth 20000 in
theorem ggX9_bitsWithPeriod_X6_makeSamples : GoodIn wsX9_bitsWithPeriod wsX6_makeSamples := goodIn_r _ [88, 74, 18, 89, 78, 79, 80, 90, 91, 92, 10, 93, 12, 14, 94, 13, 95, 96, 97, 98, 19, 99, 100, 101, 102, 24, 103, 28, 27, 26, 104, 105, 106, 107, 108, 109, 75, 110, 111, 112, 113, 114, 115, 116, 117, 118, 119, 120, 121, 122, 123, 124, 125, 126, 16, 127, 128, 15, 129, 130, 131, 132, 133, 134, 135, 20, 136, 137, 138, 53, 139, 55, 56, 140, 141, 142, 41, 143, 144, 46, 145, 43, 146, 147, 148, 149, 47, 150, 151, 152, 153, 48, 49, 154, 155, 156, 157, 44, 158, 159, 160, 161, 45, 162, 163, 164, 165, 166, 17, 167, 168, 169, 170, 171, 176, 177, 178, 179, 180, 181, 182, 183, 184, 201, 202, 203, 204, 205, 206, 207, 208, 190, 191, 192, 193, 185, 186, 187, 194, 195, 196, 197, 198, 199, 200, 188, 189] (by decide +kernel) (by decide +kernel)
set_option maxRecDepth 20000 in
theorem gX9_bitsWithPeriod_X6_makeSamples : GoodIn wsX9_bitsWithPeriod (wsV RX9 48 RX6 yX6_makeSamples wsX6_makeSamples) := goodIn_app (goodIn_of _ (by decide +kernel)) ggX9_bitsWithPeriod_X6_makeSamples
theorem dX9_bitsWithPeriod_0 : decode cX9_bitsWithPeriod 0 = .ok (.aload_n 0, 1) := by decide +kernel
theorem dX9_bitsWithPeriod_1 : decode cX9_bitsWithPeriod 1 = .ok (.getfield 16, 3) := by decide +kernel
theorem dX9_bitsWithPeriod_4 : decode cX9_bitsWithPeriod 4 = .ok (.aload_n 0, 1) := by decide +kernel
theorem dX9_bitsWithPeriod_5 : decode cX9_bitsWithPeriod 5 = .ok (.getfield 10, 3) := by decide +kernel
theorem dX9_bitsWithPeriod_8 : decode cX9_bitsWithPeriod 8 = .ok (.invokevirtual 33, 3) := by decide +kernel
theorem dX9_bitsWithPeriod_11 : decode cX9_bitsWithPeriod 11 = .ok (.aload_n 0, 1) := by decide +kernel
theorem dX9_bitsWithPeriod_12 : decode cX9_bitsWithPeriod 12 = .ok (.getfield 16, 3) := by decide +kernel
theorem dX9_bitsWithPeriod_15 : decode cX9_bitsWithPeriod 15 = .ok (.iconst 1, 1) := by decide +kernel
theorem dX9_bitsWithPeriod_16 : decode cX9_bitsWithPeriod 16 = .ok (.iload_n 1, 1) := by decide +kernel
theorem dX9_bitsWithPeriod_17 : decode cX9_bitsWithPeriod 17 = .ok (.aload_n 0, 1) := by decide +kernel
theorem dX9_bitsWithPeriod_18 : decode cX9_bitsWithPeriod 18 = .ok (.getfield 16, 3) := by decide +kernel
theorem dX9_bitsWithPeriod_21 : decode cX9_bitsWithPeriod 21 = .ok (.getfield 175, 3) := by decide +kernel
theorem dX9_bitsWithPeriod_24 : decode cX9_bitsWithPeriod 24 = .ok (.getfield 179, 3) := by decide +kernel
theorem dX9_bitsWithPeriod_27 : decode cX9_bitsWithPeriod 27 = .ok (.invokevirtual 37, 3) := by decide +kernel
theorem dX9_bitsWithPeriod_30 : decode cX9_bitsWithPeriod 30 = .ok (.pop, 1) := by decide +kernel
theorem dX9_bitsWithPeriod_31 : decode cX9_bitsWithPeriod 31 = .ok (.aload_n 0, 1) := by decide +kernel
theorem dX9_bitsWithPeriod_32 : decode cX9_bitsWithPeriod 32 = .ok (.getfield 16, 3) := by decide +kernel
theorem dX9_bitsWithPeriod_35 : decode cX9_bitsWithPeriod 35 = .ok (.sipush 200, 3) := by decide +kernel
theorem dX9_bitsWithPeriod_38 : decode cX9_bitsWithPeriod 38 = .ok (.invokevirtual 48, 3) := by decide +kernel
theorem dX9_bitsWithPeriod_41 : decode cX9_bitsWithPeriod 41 = .ok (.pop, 1) := by decide +kernel
theorem dX9_bitsWithPeriod_42 : decode cX9_bitsWithPeriod 42 = .ok (.aload_n 0, 1) := by decide +kernel
theorem dX9_bitsWithPeriod_43 : decode cX9_bitsWithPeriod 43 = .ok (.getfield 16, 3) := by decide +kernel
theorem dX9_bitsWithPeriod_46 : decode cX9_bitsWithPeriod 46 = .ok (.getfield 97, 3) := by decide +kernel
theorem dX9_bitsWithPeriod_49 : decode cX9_bitsWithPeriod 49 = .ok (.getfield 89, 3) := by decide +kernel
theorem dX9_bitsWithPeriod_52 : decode cX9_bitsWithPeriod 52 = .ok (.ireturn, 1) := by decide +kernel
theorem dX9_bitsOfShare_0 : decode cX9_bitsOfShare 0 = .ok (.fload_n 0, 1) := by decide +kernel
theorem dX9_bitsOfShare_1 : decode cX9_bitsOfShare 1 = .ok (.fconst 0, 1) := by decide +kernel
theorem dX9_bitsOfShare_2 : decode cX9_bitsOfShare 2 = .ok (.fcmp .g, 1) := by decide +kernel
theorem dX9_bitsOfShare_3 : decode cX9_bitsOfShare 3 = .ok (.ifCond .gt 5, 3) := by decide +kernel
theorem dX9_bitsOfShare_6 : decode cX9_bitsOfShare 6 = .ok (.iconst 0, 1) := by decide +kernel
theorem dX9_bitsOfShare_7 : decode cX9_bitsOfShare 7 = .ok (.ireturn, 1) := by decide +kernel
theorem dX9_bitsOfShare_8 : decode cX9_bitsOfShare 8 = .ok (.fload_n 0, 1) := by decide +kernel
theorem dX9_bitsOfShare_9 : decode cX9_bitsOfShare 9 = .ok (.fstore_n 1, 1) := by decide +kernel
theorem dX9_bitsOfShare_10 : decode cX9_bitsOfShare 10 = .ok (.bipush 127, 2) := by decide +kernel
theorem dX9_bitsOfShare_12 : decode cX9_bitsOfShare 12 = .ok (.istore_n 2, 1) := by decide +kernel
theorem dX9_bitsOfShare_13 : decode cX9_bitsOfShare 13 = .ok (.iconst 0, 1) := by decide +kernel
theorem dX9_bitsOfShare_14 : decode cX9_bitsOfShare 14 = .ok (.istore_n 3, 1) := by decide +kernel
theorem dX9_bitsOfShare_15 : decode cX9_bitsOfShare 15 = .ok (.iload_n 3, 1) := by decide +kernel
theorem dX9_bitsOfShare_16 : decode cX9_bitsOfShare 16 = .ok (.bipush 126, 2) := by decide +kernel
theorem dX9_bitsOfShare_18 : decode cX9_bitsOfShare 18 = .ok (.if_icmp .ge 22, 3) := by decide +kernel
theorem dX9_bitsOfShare_21 : decode cX9_bitsOfShare 21 = .ok (.fload_n 1, 1) := by decide +kernel
theorem dX9_bitsOfShare_22 : decode cX9_bitsOfShare 22 = .ok (.fconst 1, 1) := by decide +kernel
theorem dX9_bitsOfShare_23 : decode cX9_bitsOfShare 23 = .ok (.fcmp .g, 1) := by decide +kernel
theorem dX9_bitsOfShare_24 : decode cX9_bitsOfShare 24 = .ok (.ifCond .ge 16, 3) := by decide +kernel
theorem dX9_bitsOfShare_27 : decode cX9_bitsOfShare 27 = .ok (.fload_n 1, 1) := by decide +kernel
theorem dX9_bitsOfShare_28 : decode cX9_bitsOfShare 28 = .ok (.fconst 2, 1) := by decide +kernel
theorem dX9_bitsOfShare_29 : decode cX9_bitsOfShare 29 = .ok (.fmul, 1) := by decide +kernel
theorem dX9_bitsOfShare_30 : decode cX9_bitsOfShare 30 = .ok (.fstore_n 1, 1) := by decide +kernel
theorem dX9_bitsOfShare_31 : decode cX9_bitsOfShare 31 = .ok (.iinc 2 (-1), 3) := by decide +kernel
theorem dX9_bitsOfShare_34 : decode cX9_bitsOfShare 34 = .ok (.iinc 3 1, 3) := by decide +kernel
theorem dX9_bitsOfShare_37 : decode cX9_bitsOfShare 37 = .ok (.goto (-22), 3) := by decide +kernel
theorem dX9_bitsOfShare_40 : decode cX9_bitsOfShare 40 = .ok (.iload_n 2, 1) := by decide +kernel
theorem dX9_bitsOfShare_41 : decode cX9_bitsOfShare 41 = .ok (.bipush 23, 2) := by decide +kernel
theorem dX9_bitsOfShare_43 : decode cX9_bitsOfShare 43 = .ok (.ishl, 1) := by decide +kernel
theorem dX9_bitsOfShare_44 : decode cX9_bitsOfShare 44 = .ok (.fload_n 1, 1) := by decide +kernel
theorem dX9_bitsOfShare_45 : decode cX9_bitsOfShare 45 = .ok (.fconst 1, 1) := by decide +kernel
theorem dX9_bitsOfShare_46 : decode cX9_bitsOfShare 46 = .ok (.fsub, 1) := by decide +kernel
theorem dX9_bitsOfShare_47 : decode cX9_bitsOfShare 47 = .ok (.ldc 182, 2) := by decide +kernel
theorem dX9_bitsOfShare_49 : decode cX9_bitsOfShare 49 = .ok (.fmul, 1) := by decide +kernel
theorem dX9_bitsOfShare_50 : decode cX9_bitsOfShare 50 = .ok (.f2i, 1) := by decide +kernel
theorem dX9_bitsOfShare_51 : decode cX9_bitsOfShare 51 = .ok (.iadd, 1) := by decide +kernel
theorem dX9_bitsOfShare_52 : decode cX9_bitsOfShare 52 = .ok (.ireturn, 1) := by decide +kernel
theorem dX9_isWithin_0 : decode cX9_isWithin 0 = .ok (.iload_n 0, 1) := by decide +kernel
theorem dX9_isWithin_1 : decode cX9_isWithin 1 = .ok (.iload_n 1, 1) := by decide +kernel
theorem dX9_isWithin_2 : decode cX9_isWithin 2 = .ok (.if_icmp .lt 12, 3) := by decide +kernel
theorem dX9_isWithin_5 : decode cX9_isWithin 5 = .ok (.iload_n 0, 1) := by decide +kernel
theorem dX9_isWithin_6 : decode cX9_isWithin 6 = .ok (.iload_n 2, 1) := by decide +kernel
theorem dX9_isWithin_7 : decode cX9_isWithin 7 = .ok (.if_icmp .gt 7, 3) := by decide +kernel
theorem dX9_isWithin_10 : decode cX9_isWithin 10 = .ok (.iconst 1, 1) := by decide +kernel
theorem dX9_isWithin_11 : decode cX9_isWithin 11 = .ok (.goto 4, 3) := by decide +kernel
theorem dX9_isWithin_14 : decode cX9_isWithin 14 = .ok (.iconst 0, 1) := by decide +kernel
theorem dX9_isWithin_15 : decode cX9_isWithin 15 = .ok (.ireturn, 1) := by decide +kernel
theorem dX9_remainder_0 : decode cX9_remainder 0 = .ok (.iload_n 1, 1) := by decide +kernel
theorem dX9_remainder_1 : decode cX9_remainder 1 = .ok (.ifCond .le 9, 3) := by decide +kernel
theorem dX9_remainder_4 : decode cX9_remainder 4 = .ok (.iload_n 0, 1) := by decide +kernel
theorem dX9_remainder_5 : decode cX9_remainder 5 = .ok (.iload_n 1, 1) := by decide +kernel
theorem dX9_remainder_6 : decode cX9_remainder 6 = .ok (.irem, 1) := by decide +kernel
theorem dX9_remainder_7 : decode cX9_remainder 7 = .ok (.goto 4, 3) := by decide +kernel
theorem dX9_remainder_10 : decode cX9_remainder 10 = .ok (.iconst 0, 1) := by decide +kernel
theorem dX9_remainder_11 : decode cX9_remainder 11 = .ok (.ireturn, 1) := by decide +kernel
theorem dX10_init_0 : decode cX10_init 0 = .ok (.aload_n 0, 1) := by decide +kernel
theorem dX10_init_1 : decode cX10_init 1 = .ok (.invokespecial 1, 3) := by decide +kernel
theorem dX10_init_4 : decode cX10_init 4 = .ok (.aload_n 0, 1) := by decide +kernel
theorem dX10_init_5 : decode cX10_init 5 = .ok (.sipush 1099, 3) := by decide +kernel
theorem dX10_init_8 : decode cX10_init 8 = .ok (.newarray .int, 2) := by decide +kernel
theorem dX10_init_10 : decode cX10_init 10 = .ok (.putfield 7, 3) := by decide +kernel
theorem dX10_init_13 : decode cX10_init 13 = .ok (.aload_n 0, 1) := by decide +kernel
theorem dX10_init_14 : decode cX10_init 14 = .ok (.bipush 60, 2) := by decide +kernel
theorem dX10_init_16 : decode cX10_init 16 = .ok (.newarray .char, 2) := by decide +kernel
theorem dX10_init_18 : decode cX10_init 18 = .ok (.putfield 13, 3) := by decide +kernel
theorem dX10_init_21 : decode cX10_init 21 = .ok (.aload_n 0, 1) := by decide +kernel
theorem dX10_init_22 : decode cX10_init 22 = .ok (.getfield 7, 3) := by decide +kernel
theorem dX10_init_25 : decode cX10_init 25 = .ok (.iconst 0, 1) := by decide +kernel
theorem dX10_init_26 : decode cX10_init 26 = .ok (.iconst 1, 1) := by decide +kernel
theorem dX10_init_27 : decode cX10_init 27 = .ok (.iastore, 1) := by decide +kernel
theorem dX10_init_28 : decode cX10_init 28 = .ok (.aload_n 0, 1) := by decide +kernel
theorem dX10_init_29 : decode cX10_init 29 = .ok (.getfield 7, 3) := by decide +kernel
theorem dX10_init_32 : decode cX10_init 32 = .ok (.iconst 1, 1) := by decide +kernel
theorem dX10_init_33 : decode cX10_init 33 = .ok (.bipush 100, 2) := by decide +kernel
theorem dX10_init_35 : decode cX10_init 35 = .ok (.iastore, 1) := by decide +kernel
theorem dX10_init_36 : decode cX10_init 36 = .ok (.aload_n 0, 1) := by decide +kernel
theorem dX10_init_37 : decode cX10_init 37 = .ok (.getfield 7, 3) := by decide +kernel
theorem dX10_init_40 : decode cX10_init 40 = .ok (.iconst 2, 1) := by decide +kernel
theorem dX10_init_41 : decode cX10_init 41 = .ok (.sipush 137, 3) := by decide +kernel
theorem dX10_init_44 : decode cX10_init 44 = .ok (.iastore, 1) := by decide +kernel
theorem dX10_init_45 : decode cX10_init 45 = .ok (.aload_n 0, 1) := by decide +kernel
theorem dX10_init_46 : decode cX10_init 46 = .ok (.getfield 7, 3) := by decide +kernel
theorem dX10_init_49 : decode cX10_init 49 = .ok (.iconst 3, 1) := by decide +kernel
theorem dX10_init_50 : decode cX10_init 50 = .ok (.bipush 7, 2) := by decide +kernel
theorem dX10_init_52 : decode cX10_init 52 = .ok (.iastore, 1) := by decide +kernel
theorem dX10_init_53 : decode cX10_init 53 = .ok (.aload_n 0, 1) := by decide +kernel
theorem dX10_init_54 : decode cX10_init 54 = .ok (.getfield 7, 3) := by decide +kernel
theorem dX10_init_57 : decode cX10_init 57 = .ok (.iconst 4, 1) := by decide +kernel
theorem dX10_init_58 : decode cX10_init 58 = .ok (.bipush 7, 2) := by decide +kernel
theorem dX10_init_60 : decode cX10_init 60 = .ok (.iastore, 1) := by decide +kernel
theorem dX10_init_61 : decode cX10_init 61 = .ok (.aload_n 0, 1) := by decide +kernel
theorem dX10_init_62 : decode cX10_init 62 = .ok (.getfield 7, 3) := by decide +kernel
theorem dX10_init_65 : decode cX10_init 65 = .ok (.bipush 7, 2) := by decide +kernel
theorem dX10_init_67 : decode cX10_init 67 = .ok (.bipush 37, 2) := by decide +kernel
theorem dX10_init_69 : decode cX10_init 69 = .ok (.iastore, 1) := by decide +kernel
theorem dX10_init_70 : decode cX10_init 70 = .ok (.aload_n 0, 1) := by decide +kernel
theorem dX10_init_71 : decode cX10_init 71 = .ok (.getfield 7, 3) := by decide +kernel
theorem dX10_init_74 : decode cX10_init 74 = .ok (.bipush 8, 2) := by decide +kernel
theorem dX10_init_76 : decode cX10_init 76 = .ok (.iconst 2, 1) := by decide +kernel
theorem dX10_init_77 : decode cX10_init 77 = .ok (.iastore, 1) := by decide +kernel
theorem dX10_init_78 : decode cX10_init 78 = .ok (.aload_n 0, 1) := by decide +kernel
theorem dX10_init_79 : decode cX10_init 79 = .ok (.getfield 7, 3) := by decide +kernel
theorem dX10_init_82 : decode cX10_init 82 = .ok (.bipush 9, 2) := by decide +kernel
theorem dX10_init_84 : decode cX10_init 84 = .ok (.bipush 12, 2) := by decide +kernel
theorem dX10_init_86 : decode cX10_init 86 = .ok (.iastore, 1) := by decide +kernel
theorem dX10_init_87 : decode cX10_init 87 = .ok (.aload_n 0, 1) := by decide +kernel
theorem dX10_init_88 : decode cX10_init 88 = .ok (.getfield 7, 3) := by decide +kernel
theorem dX10_init_91 : decode cX10_init 91 = .ok (.bipush 10, 2) := by decide +kernel
theorem dX10_init_93 : decode cX10_init 93 = .ok (.bipush 6, 2) := by decide +kernel
theorem dX10_init_95 : decode cX10_init 95 = .ok (.iastore, 1) := by decide +kernel
theorem dX10_init_96 : decode cX10_init 96 = .ok (.aload_n 0, 1) := by decide +kernel
theorem dX10_init_97 : decode cX10_init 97 = .ok (.getfield 7, 3) := by decide +kernel
theorem dX10_init_100 : decode cX10_init 100 = .ok (.bipush 13, 2) := by decide +kernel
theorem dX10_init_102 : decode cX10_init 102 = .ok (.bipush 64, 2) := by decide +kernel
theorem dX10_init_104 : decode cX10_init 104 = .ok (.iastore, 1) := by decide +kernel
theorem dX10_init_105 : decode cX10_init 105 = .ok (.aload_n 0, 1) := by decide +kernel
theorem dX10_init_106 : decode cX10_init 106 = .ok (.getfield 7, 3) := by decide +kernel
theorem dX10_init_109 : decode cX10_init 109 = .ok (.bipush 19, 2) := by decide +kernel
theorem dX10_init_111 : decode cX10_init 111 = .ok (.iconst (-1), 1) := by decide +kernel
theorem dX10_init_112 : decode cX10_init 112 = .ok (.iastore, 1) := by decide +kernel
theorem dX10_init_113 : decode cX10_init 113 = .ok (.return_, 1) := by decide +kernel
theorem dX10_in_0 : decode cX10_in 0 = .ok (.iload_n 0, 1) := by decide +kernel
theorem dX10_in_1 : decode cX10_in 1 = .ok (.iload_n 1, 1) := by decide +kernel
theorem dX10_in_2 : decode cX10_in 2 = .ok (.if_icmp .lt 12, 3) := by decide +kernel
theorem dX10_in_5 : decode cX10_in 5 = .ok (.iload_n 0, 1) := by decide +kernel
theorem dX10_in_6 : decode cX10_in 6 = .ok (.iload_n 2, 1) := by decide +kernel
theorem dX10_in_7 : decode cX10_in 7 = .ok (.if_icmp .gt 7, 3) := by decide +kernel
theorem dX10_in_10 : decode cX10_in 10 = .ok (.iconst 1, 1) := by decide +kernel
theorem dX10_in_11 : decode cX10_in 11 = .ok (.goto 4, 3) := by decide +kernel
theorem dX10_in_14 : decode cX10_in 14 = .ok (.iconst 0, 1) := by decide +kernel
theorem dX10_in_15 : decode cX10_in 15 = .ok (.ireturn, 1) := by decide +kernel
theorem dX10_copies_0 : decode cX10_copies 0 = .ok (.iconst 0, 1) := by decide +kernel
theorem dX10_copies_1 : decode cX10_copies 1 = .ok (.istore_n 3, 1) := by decide +kernel
theorem dX10_copies_2 : decode cX10_copies 2 = .ok (.iload_n 3, 1) := by decide +kernel
theorem dX10_copies_3 : decode cX10_copies 3 = .ok (.sipush 157, 3) := by decide +kernel
theorem dX10_copies_6 : decode cX10_copies 6 = .ok (.if_icmp .ge 33, 3) := by decide +kernel
theorem dX10_copies_9 : decode cX10_copies 9 = .ok (.aload_n 0, 1) := by decide +kernel
theorem dX10_copies_10 : decode cX10_copies 10 = .ok (.getfield 7, 3) := by decide +kernel
theorem dX10_copies_13 : decode cX10_copies 13 = .ok (.sipush 157, 3) := by decide +kernel
theorem dX10_copies_16 : decode cX10_copies 16 = .ok (.iload_n 2, 1) := by decide +kernel
theorem dX10_copies_17 : decode cX10_copies 17 = .ok (.imul, 1) := by decide +kernel
theorem dX10_copies_18 : decode cX10_copies 18 = .ok (.iload_n 3, 1) := by decide +kernel
theorem dX10_copies_19 : decode cX10_copies 19 = .ok (.iadd, 1) := by decide +kernel
theorem dX10_copies_20 : decode cX10_copies 20 = .ok (.aload_n 0, 1) := by decide +kernel
theorem dX10_copies_21 : decode cX10_copies 21 = .ok (.getfield 7, 3) := by decide +kernel
theorem dX10_copies_24 : decode cX10_copies 24 = .ok (.sipush 157, 3) := by decide +kernel
theorem dX10_copies_27 : decode cX10_copies 27 = .ok (.iload_n 1, 1) := by decide +kernel
theorem dX10_copies_28 : decode cX10_copies 28 = .ok (.imul, 1) := by decide +kernel
theorem dX10_copies_29 : decode cX10_copies 29 = .ok (.iload_n 3, 1) := by decide +kernel
theorem dX10_copies_30 : decode cX10_copies 30 = .ok (.iadd, 1) := by decide +kernel
theorem dX10_copies_31 : decode cX10_copies 31 = .ok (.iaload, 1) := by decide +kernel
theorem dX10_copies_32 : decode cX10_copies 32 = .ok (.iastore, 1) := by decide +kernel
theorem dX10_copies_33 : decode cX10_copies 33 = .ok (.iinc 3 1, 3) := by decide +kernel
theorem dX10_copies_36 : decode cX10_copies 36 = .ok (.goto (-34), 3) := by decide +kernel
theorem dX10_copies_39 : decode cX10_copies 39 = .ok (.return_, 1) := by decide +kernel
set_option maxRecDepth 20000 in
theorem ggX10_records_X10_copies : GoodIn wsX10_records wsX10_copies := goodIn_r _ [6, 7, 8, 9, 10, 11, 12, 13, 14, 15, 16] (by decide +kernel) (by decide +kernel)
set_option maxRecDepth 20000 in
theorem gX10_records_X10_copies : GoodIn wsX10_records (wsV RX10 21 RX10 yX10_copies wsX10_copies) := goodIn_app (goodIn_of _ (by decide +kernel)) ggX10_records_X10_copies
theorem dX10_records_0 : decode cX10_records 0 = .ok (.aload_n 0, 1) := by decide +kernel
theorem dX10_records_1 : decode cX10_records 1 = .ok (.getfield 17, 3) := by decide +kernel
theorem dX10_records_4 : decode cX10_records 4 = .ok (.iconst 4, 1) := by decide +kernel
theorem dX10_records_5 : decode cX10_records 5 = .ok (.if_icmp .ne 34, 3) := by decide +kernel
theorem dX10_records_8 : decode cX10_records 8 = .ok (.iconst 1, 1) := by decide +kernel
theorem dX10_records_9 : decode cX10_records 9 = .ok (.istore_n 1, 1) := by decide +kernel
theorem dX10_records_10 : decode cX10_records 10 = .ok (.iload_n 1, 1) := by decide +kernel
theorem dX10_records_11 : decode cX10_records 11 = .ok (.iconst 4, 1) := by decide +kernel
theorem dX10_records_12 : decode cX10_records 12 = .ok (.if_icmp .ge 17, 3) := by decide +kernel
theorem dX10_records_15 : decode cX10_records 15 = .ok (.aload_n 0, 1) := by decide +kernel
theorem dX10_records_16 : decode cX10_records 16 = .ok (.iload_n 1, 1) := by decide +kernel
theorem dX10_records_17 : decode cX10_records 17 = .ok (.iconst 1, 1) := by decide +kernel
theorem dX10_records_18 : decode cX10_records 18 = .ok (.iadd, 1) := by decide +kernel
theorem dX10_records_19 : decode cX10_records 19 = .ok (.iload_n 1, 1) := by decide +kernel
theorem dX10_records_20 : decode cX10_records 20 = .ok (.invokevirtual 21, 3) := by decide +kernel
theorem dX10_records_23 : decode cX10_records 23 = .ok (.iinc 1 1, 3) := by decide +kernel
theorem dX10_records_26 : decode cX10_records 26 = .ok (.goto (-16), 3) := by decide +kernel
theorem dX10_records_29 : decode cX10_records 29 = .ok (.aload_n 0, 1) := by decide +kernel
theorem dX10_records_30 : decode cX10_records 30 = .ok (.dup, 1) := by decide +kernel
theorem dX10_records_31 : decode cX10_records 31 = .ok (.getfield 17, 3) := by decide +kernel
theorem dX10_records_34 : decode cX10_records 34 = .ok (.iconst 1, 1) := by decide +kernel
theorem dX10_records_35 : decode cX10_records 35 = .ok (.isub, 1) := by decide +kernel
theorem dX10_records_36 : decode cX10_records 36 = .ok (.putfield 17, 3) := by decide +kernel
theorem dX10_records_39 : decode cX10_records 39 = .ok (.aload_n 0, 1) := by decide +kernel
theorem dX10_records_40 : decode cX10_records 40 = .ok (.dup, 1) := by decide +kernel
theorem dX10_records_41 : decode cX10_records 41 = .ok (.getfield 17, 3) := by decide +kernel
theorem dX10_records_44 : decode cX10_records 44 = .ok (.iconst 1, 1) := by decide +kernel
end
section
theorem dX10_records_45 : decode cX10_records 45 = .ok (.iadd, 1) := by decide +kernel
theorem dX10_records_46 : decode cX10_records 46 = .ok (.putfield 17, 3) := by decide +kernel
theorem dX10_records_49 : decode cX10_records 49 = .ok (.aload_n 0, 1) := by decide +kernel
theorem dX10_records_50 : decode cX10_records 50 = .ok (.iconst 0, 1) := by decide +kernel
theorem dX10_records_51 : decode cX10_records 51 = .ok (.aload_n 0, 1) := by decide +kernel
theorem dX10_records_52 : decode cX10_records 52 = .ok (.getfield 17, 3) := by decide +kernel
theorem dX10_records_55 : decode cX10_records 55 = .ok (.invokevirtual 21, 3) := by decide +kernel
theorem dX10_records_58 : decode cX10_records 58 = .ok (.return_, 1) := by decide +kernel
theorem dX10_asks_0 : decode cX10_asks 0 = .ok (.aload_n 0, 1) := by decide +kernel
theorem dX10_asks_1 : decode cX10_asks 1 = .ok (.getfield 7, 3) := by decide +kernel
theorem dX10_asks_4 : decode cX10_asks 4 = .ok (.iload_n 1, 1) := by decide +kernel
theorem dX10_asks_5 : decode cX10_asks 5 = .ok (.aload_n 0, 1) := by decide +kernel
theorem dX10_asks_6 : decode cX10_asks 6 = .ok (.getfield 7, 3) := by decide +kernel
theorem dX10_asks_9 : decode cX10_asks 9 = .ok (.iload_n 1, 1) := by decide +kernel
theorem dX10_asks_10 : decode cX10_asks 10 = .ok (.iaload, 1) := by decide +kernel
theorem dX10_asks_11 : decode cX10_asks 11 = .ok (.bipush 75, 2) := by decide +kernel
theorem dX10_asks_13 : decode cX10_asks 13 = .ok (.imul, 1) := by decide +kernel
theorem dX10_asks_14 : decode cX10_asks 14 = .ok (.ldc 25, 2) := by decide +kernel
theorem dX10_asks_16 : decode cX10_asks 16 = .ok (.irem, 1) := by decide +kernel
theorem dX10_asks_17 : decode cX10_asks 17 = .ok (.iastore, 1) := by decide +kernel
theorem dX10_asks_18 : decode cX10_asks 18 = .ok (.aload_n 0, 1) := by decide +kernel
theorem dX10_asks_19 : decode cX10_asks 19 = .ok (.getfield 7, 3) := by decide +kernel
theorem dX10_asks_22 : decode cX10_asks 22 = .ok (.iload_n 1, 1) := by decide +kernel
theorem dX10_asks_23 : decode cX10_asks 23 = .ok (.iaload, 1) := by decide +kernel
theorem dX10_asks_24 : decode cX10_asks 24 = .ok (.ireturn, 1) := by decide +kernel
theorem dX10_locks_0 : decode cX10_locks 0 = .ok (.aload_n 0, 1) := by decide +kernel
theorem dX10_locks_1 : decode cX10_locks 1 = .ok (.getfield 7, 3) := by decide +kernel
theorem dX10_locks_4 : decode cX10_locks 4 = .ok (.iload_n 1, 1) := by decide +kernel
theorem dX10_locks_5 : decode cX10_locks 5 = .ok (.iconst 1, 1) := by decide +kernel
theorem dX10_locks_6 : decode cX10_locks 6 = .ok (.iadd, 1) := by decide +kernel
theorem dX10_locks_7 : decode cX10_locks 7 = .ok (.iaload, 1) := by decide +kernel
theorem dX10_locks_8 : decode cX10_locks 8 = .ok (.aload_n 0, 1) := by decide +kernel
theorem dX10_locks_9 : decode cX10_locks 9 = .ok (.getfield 7, 3) := by decide +kernel
theorem dX10_locks_12 : decode cX10_locks 12 = .ok (.iload_n 1, 1) := by decide +kernel
theorem dX10_locks_13 : decode cX10_locks 13 = .ok (.iconst 1, 1) := by decide +kernel
theorem dX10_locks_14 : decode cX10_locks 14 = .ok (.iadd, 1) := by decide +kernel
theorem dX10_locks_15 : decode cX10_locks 15 = .ok (.iconst 1, 1) := by decide +kernel
theorem dX10_locks_16 : decode cX10_locks 16 = .ok (.iadd, 1) := by decide +kernel
theorem dX10_locks_17 : decode cX10_locks 17 = .ok (.iaload, 1) := by decide +kernel
theorem dX10_locks_18 : decode cX10_locks 18 = .ok (.isub, 1) := by decide +kernel
theorem dX10_locks_19 : decode cX10_locks 19 = .ok (.istore_n 2, 1) := by decide +kernel
theorem dX10_locks_20 : decode cX10_locks 20 = .ok (.iload_n 2, 1) := by decide +kernel
theorem dX10_locks_21 : decode cX10_locks 21 = .ok (.ifCond .ge 8, 3) := by decide +kernel
theorem dX10_locks_24 : decode cX10_locks 24 = .ok (.iload_n 2, 1) := by decide +kernel
theorem dX10_locks_25 : decode cX10_locks 25 = .ok (.ineg, 1) := by decide +kernel
theorem dX10_locks_26 : decode cX10_locks 26 = .ok (.goto 4, 3) := by decide +kernel
theorem dX10_locks_29 : decode cX10_locks 29 = .ok (.iload_n 2, 1) := by decide +kernel
theorem dX10_locks_30 : decode cX10_locks 30 = .ok (.aload_n 0, 1) := by decide +kernel
theorem dX10_locks_31 : decode cX10_locks 31 = .ok (.getfield 7, 3) := by decide +kernel
theorem dX10_locks_34 : decode cX10_locks 34 = .ok (.iload_n 1, 1) := by decide +kernel
theorem dX10_locks_35 : decode cX10_locks 35 = .ok (.bipush 7, 2) := by decide +kernel
theorem dX10_locks_37 : decode cX10_locks 37 = .ok (.iadd, 1) := by decide +kernel
theorem dX10_locks_38 : decode cX10_locks 38 = .ok (.iconst 1, 1) := by decide +kernel
theorem dX10_locks_39 : decode cX10_locks 39 = .ok (.iadd, 1) := by decide +kernel
theorem dX10_locks_40 : decode cX10_locks 40 = .ok (.iaload, 1) := by decide +kernel
theorem dX10_locks_41 : decode cX10_locks 41 = .ok (.if_icmp .gt 7, 3) := by decide +kernel
theorem dX10_locks_44 : decode cX10_locks 44 = .ok (.iconst 1, 1) := by decide +kernel
theorem dX10_locks_45 : decode cX10_locks 45 = .ok (.goto 4, 3) := by decide +kernel
theorem dX10_locks_48 : decode cX10_locks 48 = .ok (.iconst 0, 1) := by decide +kernel
theorem dX10_locks_49 : decode cX10_locks 49 = .ok (.ireturn, 1) := by decide +kernel
set_option maxRecDepth 20000 in
theorem ggX10_runs_X10_asks : GoodIn wsX10_runs wsX10_asks := goodIn_r _ [6, 1, 7, 8, 9, 10, 11, 12, 13, 14, 15, 16] (by decide +kernel) (by decide +kernel)
set_option maxRecDepth 20000 in
theorem gX10_runs_X10_asks : GoodIn wsX10_runs (wsV RX10 26 RX10 yX10_asks wsX10_asks) := goodIn_app (goodIn_of _ (by decide +kernel)) ggX10_runs_X10_asks
theorem dX10_runs_0 : decode cX10_runs 0 = .ok (.aload_n 0, 1) := by decide +kernel
theorem dX10_runs_1 : decode cX10_runs 1 = .ok (.getfield 7, 3) := by decide +kernel
theorem dX10_runs_4 : decode cX10_runs 4 = .ok (.iload_n 1, 1) := by decide +kernel
theorem dX10_runs_5 : decode cX10_runs 5 = .ok (.bipush 7, 2) := by decide +kernel
theorem dX10_runs_7 : decode cX10_runs 7 = .ok (.iadd, 1) := by decide +kernel
theorem dX10_runs_8 : decode cX10_runs 8 = .ok (.iaload, 1) := by decide +kernel
theorem dX10_runs_9 : decode cX10_runs 9 = .ok (.aload_n 0, 1) := by decide +kernel
theorem dX10_runs_10 : decode cX10_runs 10 = .ok (.iload_n 1, 1) := by decide +kernel
theorem dX10_runs_11 : decode cX10_runs 11 = .ok (.invokevirtual 26, 3) := by decide +kernel
theorem dX10_runs_14 : decode cX10_runs 14 = .ok (.aload_n 0, 1) := by decide +kernel
theorem dX10_runs_15 : decode cX10_runs 15 = .ok (.getfield 7, 3) := by decide +kernel
theorem dX10_runs_18 : decode cX10_runs 18 = .ok (.iload_n 1, 1) := by decide +kernel
theorem dX10_runs_19 : decode cX10_runs 19 = .ok (.iconst 3, 1) := by decide +kernel
theorem dX10_runs_20 : decode cX10_runs 20 = .ok (.iadd, 1) := by decide +kernel
theorem dX10_runs_21 : decode cX10_runs 21 = .ok (.iload_n 2, 1) := by decide +kernel
theorem dX10_runs_22 : decode cX10_runs 22 = .ok (.iadd, 1) := by decide +kernel
theorem dX10_runs_23 : decode cX10_runs 23 = .ok (.iaload, 1) := by decide +kernel
theorem dX10_runs_24 : decode cX10_runs 24 = .ok (.iconst 1, 1) := by decide +kernel
theorem dX10_runs_25 : decode cX10_runs 25 = .ok (.iadd, 1) := by decide +kernel
theorem dX10_runs_26 : decode cX10_runs 26 = .ok (.irem, 1) := by decide +kernel
theorem dX10_runs_27 : decode cX10_runs 27 = .ok (.iadd, 1) := by decide +kernel
theorem dX10_runs_28 : decode cX10_runs 28 = .ok (.istore_n 3, 1) := by decide +kernel
theorem dX10_runs_29 : decode cX10_runs 29 = .ok (.aload_n 0, 1) := by decide +kernel
theorem dX10_runs_30 : decode cX10_runs 30 = .ok (.getfield 7, 3) := by decide +kernel
theorem dX10_runs_33 : decode cX10_runs 33 = .ok (.iload_n 1, 1) := by decide +kernel
theorem dX10_runs_34 : decode cX10_runs 34 = .ok (.iconst 5, 1) := by decide +kernel
theorem dX10_runs_35 : decode cX10_runs 35 = .ok (.iadd, 1) := by decide +kernel
theorem dX10_runs_36 : decode cX10_runs 36 = .ok (.iload_n 2, 1) := by decide +kernel
theorem dX10_runs_37 : decode cX10_runs 37 = .ok (.iadd, 1) := by decide +kernel
theorem dX10_runs_38 : decode cX10_runs 38 = .ok (.aload_n 0, 1) := by decide +kernel
theorem dX10_runs_39 : decode cX10_runs 39 = .ok (.getfield 7, 3) := by decide +kernel
theorem dX10_runs_42 : decode cX10_runs 42 = .ok (.iload_n 1, 1) := by decide +kernel
theorem dX10_runs_43 : decode cX10_runs 43 = .ok (.iconst 5, 1) := by decide +kernel
theorem dX10_runs_44 : decode cX10_runs 44 = .ok (.iadd, 1) := by decide +kernel
theorem dX10_runs_45 : decode cX10_runs 45 = .ok (.iload_n 2, 1) := by decide +kernel
theorem dX10_runs_46 : decode cX10_runs 46 = .ok (.iadd, 1) := by decide +kernel
theorem dX10_runs_47 : decode cX10_runs 47 = .ok (.iaload, 1) := by decide +kernel
theorem dX10_runs_48 : decode cX10_runs 48 = .ok (.iload_n 3, 1) := by decide +kernel
theorem dX10_runs_49 : decode cX10_runs 49 = .ok (.iadd, 1) := by decide +kernel
theorem dX10_runs_50 : decode cX10_runs 50 = .ok (.aload_n 0, 1) := by decide +kernel
theorem dX10_runs_51 : decode cX10_runs 51 = .ok (.getfield 7, 3) := by decide +kernel
theorem dX10_runs_54 : decode cX10_runs 54 = .ok (.iload_n 1, 1) := by decide +kernel
theorem dX10_runs_55 : decode cX10_runs 55 = .ok (.iconst 1, 1) := by decide +kernel
theorem dX10_runs_56 : decode cX10_runs 56 = .ok (.iadd, 1) := by decide +kernel
theorem dX10_runs_57 : decode cX10_runs 57 = .ok (.iload_n 2, 1) := by decide +kernel
theorem dX10_runs_58 : decode cX10_runs 58 = .ok (.iadd, 1) := by decide +kernel
theorem dX10_runs_59 : decode cX10_runs 59 = .ok (.iaload, 1) := by decide +kernel
theorem dX10_runs_60 : decode cX10_runs 60 = .ok (.irem, 1) := by decide +kernel
theorem dX10_runs_61 : decode cX10_runs 61 = .ok (.iastore, 1) := by decide +kernel
theorem dX10_runs_62 : decode cX10_runs 62 = .ok (.return_, 1) := by decide +kernel
theorem dX10_isHigh_0 : decode cX10_isHigh 0 = .ok (.aload_n 0, 1) := by decide +kernel
theorem dX10_isHigh_1 : decode cX10_isHigh 1 = .ok (.getfield 7, 3) := by decide +kernel
theorem dX10_isHigh_4 : decode cX10_isHigh 4 = .ok (.iload_n 1, 1) := by decide +kernel
theorem dX10_isHigh_5 : decode cX10_isHigh 5 = .ok (.iconst 5, 1) := by decide +kernel
theorem dX10_isHigh_6 : decode cX10_isHigh 6 = .ok (.iadd, 1) := by decide +kernel
theorem dX10_isHigh_7 : decode cX10_isHigh 7 = .ok (.iload_n 2, 1) := by decide +kernel
theorem dX10_isHigh_8 : decode cX10_isHigh 8 = .ok (.iadd, 1) := by decide +kernel
theorem dX10_isHigh_9 : decode cX10_isHigh 9 = .ok (.iaload, 1) := by decide +kernel
theorem dX10_isHigh_10 : decode cX10_isHigh 10 = .ok (.aload_n 0, 1) := by decide +kernel
theorem dX10_isHigh_11 : decode cX10_isHigh 11 = .ok (.getfield 7, 3) := by decide +kernel
theorem dX10_isHigh_14 : decode cX10_isHigh 14 = .ok (.iload_n 1, 1) := by decide +kernel
theorem dX10_isHigh_15 : decode cX10_isHigh 15 = .ok (.iconst 1, 1) := by decide +kernel
theorem dX10_isHigh_16 : decode cX10_isHigh 16 = .ok (.iadd, 1) := by decide +kernel
theorem dX10_isHigh_17 : decode cX10_isHigh 17 = .ok (.iload_n 2, 1) := by decide +kernel
theorem dX10_isHigh_18 : decode cX10_isHigh 18 = .ok (.iadd, 1) := by decide +kernel
theorem dX10_isHigh_19 : decode cX10_isHigh 19 = .ok (.iaload, 1) := by decide +kernel
theorem dX10_isHigh_20 : decode cX10_isHigh 20 = .ok (.iconst 2, 1) := by decide +kernel
theorem dX10_isHigh_21 : decode cX10_isHigh 21 = .ok (.idiv, 1) := by decide +kernel
theorem dX10_isHigh_22 : decode cX10_isHigh 22 = .ok (.if_icmp .ge 7, 3) := by decide +kernel
theorem dX10_isHigh_25 : decode cX10_isHigh 25 = .ok (.iconst 1, 1) := by decide +kernel
theorem dX10_isHigh_26 : decode cX10_isHigh 26 = .ok (.goto 4, 3) := by decide +kernel
theorem dX10_isHigh_29 : decode cX10_isHigh 29 = .ok (.iconst 0, 1) := by decide +kernel
theorem dX10_isHigh_30 : decode cX10_isHigh 30 = .ok (.ireturn, 1) := by decide +kernel
theorem dX10_keeps_0 : decode cX10_keeps 0 = .ok (.aload_n 0, 1) := by decide +kernel
theorem dX10_keeps_1 : decode cX10_keeps 1 = .ok (.getfield 7, 3) := by decide +kernel
theorem dX10_keeps_4 : decode cX10_keeps 4 = .ok (.iload_n 1, 1) := by decide +kernel
theorem dX10_keeps_5 : decode cX10_keeps 5 = .ok (.bipush 28, 2) := by decide +kernel
theorem dX10_keeps_7 : decode cX10_keeps 7 = .ok (.iadd, 1) := by decide +kernel
theorem dX10_keeps_8 : decode cX10_keeps 8 = .ok (.iaload, 1) := by decide +kernel
theorem dX10_keeps_9 : decode cX10_keeps 9 = .ok (.bipush 64, 2) := by decide +kernel
theorem dX10_keeps_11 : decode cX10_keeps 11 = .ok (.if_icmp .ne 54, 3) := by decide +kernel
theorem dX10_keeps_14 : decode cX10_keeps 14 = .ok (.iconst 0, 1) := by decide +kernel
theorem dX10_keeps_15 : decode cX10_keeps 15 = .ok (.istore_n 3, 1) := by decide +kernel
theorem dX10_keeps_16 : decode cX10_keeps 16 = .ok (.iload_n 3, 1) := by decide +kernel
theorem dX10_keeps_17 : decode cX10_keeps 17 = .ok (.bipush 63, 2) := by decide +kernel
theorem dX10_keeps_19 : decode cX10_keeps 19 = .ok (.if_icmp .ge 33, 3) := by decide +kernel
theorem dX10_keeps_22 : decode cX10_keeps 22 = .ok (.aload_n 0, 1) := by decide +kernel
theorem dX10_keeps_23 : decode cX10_keeps 23 = .ok (.getfield 7, 3) := by decide +kernel
theorem dX10_keeps_26 : decode cX10_keeps 26 = .ok (.iload_n 1, 1) := by decide +kernel
theorem dX10_keeps_27 : decode cX10_keeps 27 = .ok (.bipush 29, 2) := by decide +kernel
theorem dX10_keeps_29 : decode cX10_keeps 29 = .ok (.iadd, 1) := by decide +kernel
theorem dX10_keeps_30 : decode cX10_keeps 30 = .ok (.iload_n 3, 1) := by decide +kernel
theorem dX10_keeps_31 : decode cX10_keeps 31 = .ok (.iadd, 1) := by decide +kernel
theorem dX10_keeps_32 : decode cX10_keeps 32 = .ok (.aload_n 0, 1) := by decide +kernel
theorem dX10_keeps_33 : decode cX10_keeps 33 = .ok (.getfield 7, 3) := by decide +kernel
theorem dX10_keeps_36 : decode cX10_keeps 36 = .ok (.iload_n 1, 1) := by decide +kernel
theorem dX10_keeps_37 : decode cX10_keeps 37 = .ok (.bipush 29, 2) := by decide +kernel
theorem dX10_keeps_39 : decode cX10_keeps 39 = .ok (.iadd, 1) := by decide +kernel
theorem dX10_keeps_40 : decode cX10_keeps 40 = .ok (.iload_n 3, 1) := by decide +kernel
theorem dX10_keeps_41 : decode cX10_keeps 41 = .ok (.iadd, 1) := by decide +kernel
theorem dX10_keeps_42 : decode cX10_keeps 42 = .ok (.iconst 1, 1) := by decide +kernel
theorem dX10_keeps_43 : decode cX10_keeps 43 = .ok (.iadd, 1) := by decide +kernel
theorem dX10_keeps_44 : decode cX10_keeps 44 = .ok (.iaload, 1) := by decide +kernel
theorem dX10_keeps_45 : decode cX10_keeps 45 = .ok (.iastore, 1) := by decide +kernel
theorem dX10_keeps_46 : decode cX10_keeps 46 = .ok (.iinc 3 1, 3) := by decide +kernel
theorem dX10_keeps_49 : decode cX10_keeps 49 = .ok (.goto (-33), 3) := by decide +kernel
theorem dX10_keeps_52 : decode cX10_keeps 52 = .ok (.aload_n 0, 1) := by decide +kernel
theorem dX10_keeps_53 : decode cX10_keeps 53 = .ok (.getfield 7, 3) := by decide +kernel
theorem dX10_keeps_56 : decode cX10_keeps 56 = .ok (.iload_n 1, 1) := by decide +kernel
theorem dX10_keeps_57 : decode cX10_keeps 57 = .ok (.bipush 28, 2) := by decide +kernel
theorem dX10_keeps_59 : decode cX10_keeps 59 = .ok (.iadd, 1) := by decide +kernel
theorem dX10_keeps_60 : decode cX10_keeps 60 = .ok (.dup2, 1) := by decide +kernel
theorem dX10_keeps_61 : decode cX10_keeps 61 = .ok (.iaload, 1) := by decide +kernel
theorem dX10_keeps_62 : decode cX10_keeps 62 = .ok (.iconst 1, 1) := by decide +kernel
theorem dX10_keeps_63 : decode cX10_keeps 63 = .ok (.isub, 1) := by decide +kernel
theorem dX10_keeps_64 : decode cX10_keeps 64 = .ok (.iastore, 1) := by decide +kernel
theorem dX10_keeps_65 : decode cX10_keeps 65 = .ok (.aload_n 0, 1) := by decide +kernel
theorem dX10_keeps_66 : decode cX10_keeps 66 = .ok (.getfield 7, 3) := by decide +kernel
theorem dX10_keeps_69 : decode cX10_keeps 69 = .ok (.iload_n 1, 1) := by decide +kernel
theorem dX10_keeps_70 : decode cX10_keeps 70 = .ok (.bipush 29, 2) := by decide +kernel
theorem dX10_keeps_72 : decode cX10_keeps 72 = .ok (.iadd, 1) := by decide +kernel
theorem dX10_keeps_73 : decode cX10_keeps 73 = .ok (.aload_n 0, 1) := by decide +kernel
theorem dX10_keeps_74 : decode cX10_keeps 74 = .ok (.getfield 7, 3) := by decide +kernel
theorem dX10_keeps_77 : decode cX10_keeps 77 = .ok (.iload_n 1, 1) := by decide +kernel
theorem dX10_keeps_78 : decode cX10_keeps 78 = .ok (.bipush 28, 2) := by decide +kernel
theorem dX10_keeps_80 : decode cX10_keeps 80 = .ok (.iadd, 1) := by decide +kernel
theorem dX10_keeps_81 : decode cX10_keeps 81 = .ok (.iaload, 1) := by decide +kernel
theorem dX10_keeps_82 : decode cX10_keeps 82 = .ok (.iadd, 1) := by decide +kernel
theorem dX10_keeps_83 : decode cX10_keeps 83 = .ok (.iload_n 2, 1) := by decide +kernel
theorem dX10_keeps_84 : decode cX10_keeps 84 = .ok (.iastore, 1) := by decide +kernel
theorem dX10_keeps_85 : decode cX10_keeps 85 = .ok (.aload_n 0, 1) := by decide +kernel
theorem dX10_keeps_86 : decode cX10_keeps 86 = .ok (.getfield 7, 3) := by decide +kernel
theorem dX10_keeps_89 : decode cX10_keeps 89 = .ok (.iload_n 1, 1) := by decide +kernel
theorem dX10_keeps_90 : decode cX10_keeps 90 = .ok (.bipush 28, 2) := by decide +kernel
theorem dX10_keeps_92 : decode cX10_keeps 92 = .ok (.iadd, 1) := by decide +kernel
theorem dX10_keeps_93 : decode cX10_keeps 93 = .ok (.dup2, 1) := by decide +kernel
theorem dX10_keeps_94 : decode cX10_keeps 94 = .ok (.iaload, 1) := by decide +kernel
theorem dX10_keeps_95 : decode cX10_keeps 95 = .ok (.iconst 1, 1) := by decide +kernel
theorem dX10_keeps_96 : decode cX10_keeps 96 = .ok (.iadd, 1) := by decide +kernel
theorem dX10_keeps_97 : decode cX10_keeps 97 = .ok (.iastore, 1) := by decide +kernel
theorem dX10_keeps_98 : decode cX10_keeps 98 = .ok (.return_, 1) := by decide +kernel
set_option maxRecDepth 20000 in
theorem ggX10_tests_X10_in : GoodIn wsX10_tests wsX10_in := goodIn_r _ [5] (by decide +kernel) (by decide +kernel)
set_option maxRecDepth 20000 in
theorem gX10_tests_X10_in : GoodIn wsX10_tests (va_wsS RX10 30 yX10_in wsX10_in) := goodIn_app (goodIn_of _ (by decide +kernel)) ggX10_tests_X10_in
theorem dX10_tests_0 : decode cX10_tests 0 = .ok (.aload_n 0, 1) := by decide +kernel
theorem dX10_tests_1 : decode cX10_tests 1 = .ok (.getfield 7, 3) := by decide +kernel
theorem dX10_tests_4 : decode cX10_tests 4 = .ok (.iload_n 1, 1) := by decide +kernel
theorem dX10_tests_5 : decode cX10_tests 5 = .ok (.bipush 14, 2) := by decide +kernel
theorem dX10_tests_7 : decode cX10_tests 7 = .ok (.iadd, 1) := by decide +kernel
theorem dX10_tests_8 : decode cX10_tests 8 = .ok (.aload_n 0, 1) := by decide +kernel
theorem dX10_tests_9 : decode cX10_tests 9 = .ok (.getfield 7, 3) := by decide +kernel
theorem dX10_tests_12 : decode cX10_tests 12 = .ok (.iload_n 1, 1) := by decide +kernel
theorem dX10_tests_13 : decode cX10_tests 13 = .ok (.bipush 14, 2) := by decide +kernel
theorem dX10_tests_15 : decode cX10_tests 15 = .ok (.iadd, 1) := by decide +kernel
theorem dX10_tests_16 : decode cX10_tests 16 = .ok (.iaload, 1) := by decide +kernel
theorem dX10_tests_17 : decode cX10_tests 17 = .ok (.ifCond .le 30, 3) := by decide +kernel
theorem dX10_tests_20 : decode cX10_tests 20 = .ok (.aload_n 0, 1) := by decide +kernel
theorem dX10_tests_21 : decode cX10_tests 21 = .ok (.getfield 7, 3) := by decide +kernel
theorem dX10_tests_24 : decode cX10_tests 24 = .ok (.iload_n 1, 1) := by decide +kernel
theorem dX10_tests_25 : decode cX10_tests 25 = .ok (.bipush 15, 2) := by decide +kernel
theorem dX10_tests_27 : decode cX10_tests 27 = .ok (.iadd, 1) := by decide +kernel
theorem dX10_tests_28 : decode cX10_tests 28 = .ok (.iaload, 1) := by decide +kernel
theorem dX10_tests_29 : decode cX10_tests 29 = .ok (.iload_n 2, 1) := by decide +kernel
theorem dX10_tests_30 : decode cX10_tests 30 = .ok (.if_icmp .ne 17, 3) := by decide +kernel
theorem dX10_tests_33 : decode cX10_tests 33 = .ok (.aload_n 0, 1) := by decide +kernel
theorem dX10_tests_34 : decode cX10_tests 34 = .ok (.getfield 7, 3) := by decide +kernel
theorem dX10_tests_37 : decode cX10_tests 37 = .ok (.iload_n 1, 1) := by decide +kernel
theorem dX10_tests_38 : decode cX10_tests 38 = .ok (.bipush 14, 2) := by decide +kernel
theorem dX10_tests_40 : decode cX10_tests 40 = .ok (.iadd, 1) := by decide +kernel
theorem dX10_tests_41 : decode cX10_tests 41 = .ok (.iaload, 1) := by decide +kernel
theorem dX10_tests_42 : decode cX10_tests 42 = .ok (.iconst 1, 1) := by decide +kernel
theorem dX10_tests_43 : decode cX10_tests 43 = .ok (.iadd, 1) := by decide +kernel
theorem dX10_tests_44 : decode cX10_tests 44 = .ok (.goto 4, 3) := by decide +kernel
theorem dX10_tests_47 : decode cX10_tests 47 = .ok (.iconst 1, 1) := by decide +kernel
theorem dX10_tests_48 : decode cX10_tests 48 = .ok (.iastore, 1) := by decide +kernel
theorem dX10_tests_49 : decode cX10_tests 49 = .ok (.aload_n 0, 1) := by decide +kernel
theorem dX10_tests_50 : decode cX10_tests 50 = .ok (.getfield 7, 3) := by decide +kernel
theorem dX10_tests_53 : decode cX10_tests 53 = .ok (.iload_n 1, 1) := by decide +kernel
theorem dX10_tests_54 : decode cX10_tests 54 = .ok (.bipush 15, 2) := by decide +kernel
theorem dX10_tests_56 : decode cX10_tests 56 = .ok (.iadd, 1) := by decide +kernel
theorem dX10_tests_57 : decode cX10_tests 57 = .ok (.iload_n 2, 1) := by decide +kernel
theorem dX10_tests_58 : decode cX10_tests 58 = .ok (.iastore, 1) := by decide +kernel
theorem dX10_tests_59 : decode cX10_tests 59 = .ok (.aload_n 0, 1) := by decide +kernel
theorem dX10_tests_60 : decode cX10_tests 60 = .ok (.getfield 7, 3) := by decide +kernel
theorem dX10_tests_63 : decode cX10_tests 63 = .ok (.iload_n 1, 1) := by decide +kernel
theorem dX10_tests_64 : decode cX10_tests 64 = .ok (.bipush 27, 2) := by decide +kernel
theorem dX10_tests_66 : decode cX10_tests 66 = .ok (.iadd, 1) := by decide +kernel
theorem dX10_tests_67 : decode cX10_tests 67 = .ok (.aload_n 0, 1) := by decide +kernel
theorem dX10_tests_68 : decode cX10_tests 68 = .ok (.getfield 7, 3) := by decide +kernel
theorem dX10_tests_71 : decode cX10_tests 71 = .ok (.iload_n 1, 1) := by decide +kernel
theorem dX10_tests_72 : decode cX10_tests 72 = .ok (.bipush 14, 2) := by decide +kernel
theorem dX10_tests_74 : decode cX10_tests 74 = .ok (.iadd, 1) := by decide +kernel
theorem dX10_tests_75 : decode cX10_tests 75 = .ok (.iaload, 1) := by decide +kernel
theorem dX10_tests_76 : decode cX10_tests 76 = .ok (.aload_n 0, 1) := by decide +kernel
theorem dX10_tests_77 : decode cX10_tests 77 = .ok (.getfield 7, 3) := by decide +kernel
theorem dX10_tests_80 : decode cX10_tests 80 = .ok (.iload_n 1, 1) := by decide +kernel
theorem dX10_tests_81 : decode cX10_tests 81 = .ok (.bipush 27, 2) := by decide +kernel
theorem dX10_tests_83 : decode cX10_tests 83 = .ok (.iadd, 1) := by decide +kernel
theorem dX10_tests_84 : decode cX10_tests 84 = .ok (.iaload, 1) := by decide +kernel
theorem dX10_tests_85 : decode cX10_tests 85 = .ok (.if_icmp .le 15, 3) := by decide +kernel
theorem dX10_tests_88 : decode cX10_tests 88 = .ok (.aload_n 0, 1) := by decide +kernel
theorem dX10_tests_89 : decode cX10_tests 89 = .ok (.getfield 7, 3) := by decide +kernel
theorem dX10_tests_92 : decode cX10_tests 92 = .ok (.iload_n 1, 1) := by decide +kernel
theorem dX10_tests_93 : decode cX10_tests 93 = .ok (.bipush 14, 2) := by decide +kernel
theorem dX10_tests_95 : decode cX10_tests 95 = .ok (.iadd, 1) := by decide +kernel
theorem dX10_tests_96 : decode cX10_tests 96 = .ok (.iaload, 1) := by decide +kernel
theorem dX10_tests_97 : decode cX10_tests 97 = .ok (.goto 12, 3) := by decide +kernel
theorem dX10_tests_100 : decode cX10_tests 100 = .ok (.aload_n 0, 1) := by decide +kernel
theorem dX10_tests_101 : decode cX10_tests 101 = .ok (.getfield 7, 3) := by decide +kernel
theorem dX10_tests_104 : decode cX10_tests 104 = .ok (.iload_n 1, 1) := by decide +kernel
theorem dX10_tests_105 : decode cX10_tests 105 = .ok (.bipush 27, 2) := by decide +kernel
theorem dX10_tests_107 : decode cX10_tests 107 = .ok (.iadd, 1) := by decide +kernel
theorem dX10_tests_108 : decode cX10_tests 108 = .ok (.iaload, 1) := by decide +kernel
theorem dX10_tests_109 : decode cX10_tests 109 = .ok (.iastore, 1) := by decide +kernel
theorem dX10_tests_110 : decode cX10_tests 110 = .ok (.aload_n 0, 1) := by decide +kernel
theorem dX10_tests_111 : decode cX10_tests 111 = .ok (.getfield 7, 3) := by decide +kernel
theorem dX10_tests_114 : decode cX10_tests 114 = .ok (.iload_n 1, 1) := by decide +kernel
theorem dX10_tests_115 : decode cX10_tests 115 = .ok (.bipush 16, 2) := by decide +kernel
theorem dX10_tests_117 : decode cX10_tests 117 = .ok (.iadd, 1) := by decide +kernel
theorem dX10_tests_118 : decode cX10_tests 118 = .ok (.dup2, 1) := by decide +kernel
theorem dX10_tests_119 : decode cX10_tests 119 = .ok (.iaload, 1) := by decide +kernel
theorem dX10_tests_120 : decode cX10_tests 120 = .ok (.iconst 1, 1) := by decide +kernel
theorem dX10_tests_121 : decode cX10_tests 121 = .ok (.iadd, 1) := by decide +kernel
theorem dX10_tests_122 : decode cX10_tests 122 = .ok (.iastore, 1) := by decide +kernel
theorem dX10_tests_123 : decode cX10_tests 123 = .ok (.aload_n 0, 1) := by decide +kernel
theorem dX10_tests_124 : decode cX10_tests 124 = .ok (.getfield 7, 3) := by decide +kernel
theorem dX10_tests_127 : decode cX10_tests 127 = .ok (.iload_n 1, 1) := by decide +kernel
theorem dX10_tests_128 : decode cX10_tests 128 = .ok (.bipush 17, 2) := by decide +kernel
theorem dX10_tests_130 : decode cX10_tests 130 = .ok (.iadd, 1) := by decide +kernel
theorem dX10_tests_131 : decode cX10_tests 131 = .ok (.dup2, 1) := by decide +kernel
theorem dX10_tests_132 : decode cX10_tests 132 = .ok (.iaload, 1) := by decide +kernel
theorem dX10_tests_133 : decode cX10_tests 133 = .ok (.iload_n 2, 1) := by decide +kernel
theorem dX10_tests_134 : decode cX10_tests 134 = .ok (.iadd, 1) := by decide +kernel
theorem dX10_tests_135 : decode cX10_tests 135 = .ok (.iastore, 1) := by decide +kernel
theorem dX10_tests_136 : decode cX10_tests 136 = .ok (.aload_n 0, 1) := by decide +kernel
theorem dX10_tests_137 : decode cX10_tests 137 = .ok (.getfield 7, 3) := by decide +kernel
theorem dX10_tests_140 : decode cX10_tests 140 = .ok (.iload_n 1, 1) := by decide +kernel
theorem dX10_tests_141 : decode cX10_tests 141 = .ok (.bipush 16, 2) := by decide +kernel
theorem dX10_tests_143 : decode cX10_tests 143 = .ok (.iadd, 1) := by decide +kernel
theorem dX10_tests_144 : decode cX10_tests 144 = .ok (.iaload, 1) := by decide +kernel
theorem dX10_tests_145 : decode cX10_tests 145 = .ok (.bipush 32, 2) := by decide +kernel
theorem dX10_tests_147 : decode cX10_tests 147 = .ok (.if_icmp .ne 7, 3) := by decide +kernel
theorem dX10_tests_150 : decode cX10_tests 150 = .ok (.iconst 1, 1) := by decide +kernel
theorem dX10_tests_151 : decode cX10_tests 151 = .ok (.goto 4, 3) := by decide +kernel
theorem dX10_tests_154 : decode cX10_tests 154 = .ok (.iconst 0, 1) := by decide +kernel
theorem dX10_tests_155 : decode cX10_tests 155 = .ok (.istore_n 3, 1) := by decide +kernel
theorem dX10_tests_156 : decode cX10_tests 156 = .ok (.iload_n 3, 1) := by decide +kernel
theorem dX10_tests_157 : decode cX10_tests 157 = .ok (.ifCond .eq 47, 3) := by decide +kernel
theorem dX10_tests_160 : decode cX10_tests 160 = .ok (.aload_n 0, 1) := by decide +kernel
theorem dX10_tests_161 : decode cX10_tests 161 = .ok (.getfield 7, 3) := by decide +kernel
theorem dX10_tests_164 : decode cX10_tests 164 = .ok (.iload_n 1, 1) := by decide +kernel
theorem dX10_tests_165 : decode cX10_tests 165 = .ok (.bipush 17, 2) := by decide +kernel
theorem dX10_tests_167 : decode cX10_tests 167 = .ok (.iadd, 1) := by decide +kernel
theorem dX10_tests_168 : decode cX10_tests 168 = .ok (.iaload, 1) := by decide +kernel
theorem dX10_tests_169 : decode cX10_tests 169 = .ok (.aload_n 0, 1) := by decide +kernel
theorem dX10_tests_170 : decode cX10_tests 170 = .ok (.getfield 7, 3) := by decide +kernel
theorem dX10_tests_173 : decode cX10_tests 173 = .ok (.iload_n 1, 1) := by decide +kernel
theorem dX10_tests_174 : decode cX10_tests 174 = .ok (.bipush 7, 2) := by decide +kernel
theorem dX10_tests_176 : decode cX10_tests 176 = .ok (.iadd, 1) := by decide +kernel
theorem dX10_tests_177 : decode cX10_tests 177 = .ok (.iconst 3, 1) := by decide +kernel
theorem dX10_tests_178 : decode cX10_tests 178 = .ok (.iadd, 1) := by decide +kernel
theorem dX10_tests_179 : decode cX10_tests 179 = .ok (.iaload, 1) := by decide +kernel
theorem dX10_tests_180 : decode cX10_tests 180 = .ok (.bipush 32, 2) := by decide +kernel
theorem dX10_tests_182 : decode cX10_tests 182 = .ok (.aload_n 0, 1) := by decide +kernel
theorem dX10_tests_183 : decode cX10_tests 183 = .ok (.getfield 7, 3) := by decide +kernel
theorem dX10_tests_186 : decode cX10_tests 186 = .ok (.iload_n 1, 1) := by decide +kernel
theorem dX10_tests_187 : decode cX10_tests 187 = .ok (.bipush 7, 2) := by decide +kernel
theorem dX10_tests_189 : decode cX10_tests 189 = .ok (.iadd, 1) := by decide +kernel
theorem dX10_tests_190 : decode cX10_tests 190 = .ok (.iconst 3, 1) := by decide +kernel
theorem dX10_tests_191 : decode cX10_tests 191 = .ok (.iadd, 1) := by decide +kernel
theorem dX10_tests_192 : decode cX10_tests 192 = .ok (.iaload, 1) := by decide +kernel
theorem dX10_tests_193 : decode cX10_tests 193 = .ok (.isub, 1) := by decide +kernel
theorem dX10_tests_194 : decode cX10_tests 194 = .ok (.invokestatic 30, 3) := by decide +kernel
theorem dX10_tests_197 : decode cX10_tests 197 = .ok (.ifCond .ne 7, 3) := by decide +kernel
theorem dX10_tests_200 : decode cX10_tests 200 = .ok (.iconst 1, 1) := by decide +kernel
theorem dX10_tests_201 : decode cX10_tests 201 = .ok (.goto 4, 3) := by decide +kernel
theorem dX10_tests_204 : decode cX10_tests 204 = .ok (.iconst 0, 1) := by decide +kernel
theorem dX10_tests_205 : decode cX10_tests 205 = .ok (.istore 4, 2) := by decide +kernel
theorem dX10_tests_207 : decode cX10_tests 207 = .ok (.iload_n 3, 1) := by decide +kernel
theorem dX10_tests_208 : decode cX10_tests 208 = .ok (.ifCond .eq 23, 3) := by decide +kernel
theorem dX10_tests_211 : decode cX10_tests 211 = .ok (.aload_n 0, 1) := by decide +kernel
theorem dX10_tests_212 : decode cX10_tests 212 = .ok (.getfield 7, 3) := by decide +kernel
theorem dX10_tests_215 : decode cX10_tests 215 = .ok (.iload_n 1, 1) := by decide +kernel
theorem dX10_tests_216 : decode cX10_tests 216 = .ok (.bipush 16, 2) := by decide +kernel
theorem dX10_tests_218 : decode cX10_tests 218 = .ok (.iadd, 1) := by decide +kernel
theorem dX10_tests_219 : decode cX10_tests 219 = .ok (.iconst 0, 1) := by decide +kernel
theorem dX10_tests_220 : decode cX10_tests 220 = .ok (.iastore, 1) := by decide +kernel
theorem dX10_tests_221 : decode cX10_tests 221 = .ok (.aload_n 0, 1) := by decide +kernel
theorem dX10_tests_222 : decode cX10_tests 222 = .ok (.getfield 7, 3) := by decide +kernel
theorem dX10_tests_225 : decode cX10_tests 225 = .ok (.iload_n 1, 1) := by decide +kernel
theorem dX10_tests_226 : decode cX10_tests 226 = .ok (.bipush 17, 2) := by decide +kernel
theorem dX10_tests_228 : decode cX10_tests 228 = .ok (.iadd, 1) := by decide +kernel
theorem dX10_tests_229 : decode cX10_tests 229 = .ok (.iconst 0, 1) := by decide +kernel
theorem dX10_tests_230 : decode cX10_tests 230 = .ok (.iastore, 1) := by decide +kernel
theorem dX10_tests_231 : decode cX10_tests 231 = .ok (.aload_n 0, 1) := by decide +kernel
theorem dX10_tests_232 : decode cX10_tests 232 = .ok (.getfield 7, 3) := by decide +kernel
theorem dX10_tests_235 : decode cX10_tests 235 = .ok (.iload_n 1, 1) := by decide +kernel
theorem dX10_tests_236 : decode cX10_tests 236 = .ok (.bipush 14, 2) := by decide +kernel
theorem dX10_tests_238 : decode cX10_tests 238 = .ok (.iadd, 1) := by decide +kernel
theorem dX10_tests_239 : decode cX10_tests 239 = .ok (.iaload, 1) := by decide +kernel
theorem dX10_tests_240 : decode cX10_tests 240 = .ok (.aload_n 0, 1) := by decide +kernel
theorem dX10_tests_241 : decode cX10_tests 241 = .ok (.getfield 7, 3) := by decide +kernel
theorem dX10_tests_244 : decode cX10_tests 244 = .ok (.iload_n 1, 1) := by decide +kernel
theorem dX10_tests_245 : decode cX10_tests 245 = .ok (.bipush 7, 2) := by decide +kernel
theorem dX10_tests_247 : decode cX10_tests 247 = .ok (.iadd, 1) := by decide +kernel
theorem dX10_tests_248 : decode cX10_tests 248 = .ok (.iconst 2, 1) := by decide +kernel
theorem dX10_tests_249 : decode cX10_tests 249 = .ok (.iadd, 1) := by decide +kernel
theorem dX10_tests_250 : decode cX10_tests 250 = .ok (.iaload, 1) := by decide +kernel
theorem dX10_tests_251 : decode cX10_tests 251 = .ok (.if_icmp .le 7, 3) := by decide +kernel
theorem dX10_tests_254 : decode cX10_tests 254 = .ok (.iconst 1, 1) := by decide +kernel
theorem dX10_tests_255 : decode cX10_tests 255 = .ok (.goto 13, 3) := by decide +kernel
theorem dX10_tests_258 : decode cX10_tests 258 = .ok (.iload 4, 2) := by decide +kernel
theorem dX10_tests_260 : decode cX10_tests 260 = .ok (.ifCond .eq 7, 3) := by decide +kernel
theorem dX10_tests_263 : decode cX10_tests 263 = .ok (.iconst 2, 1) := by decide +kernel
theorem dX10_tests_264 : decode cX10_tests 264 = .ok (.goto 4, 3) := by decide +kernel
theorem dX10_tests_267 : decode cX10_tests 267 = .ok (.iconst 0, 1) := by decide +kernel
theorem dX10_tests_268 : decode cX10_tests 268 = .ok (.ireturn, 1) := by decide +kernel
theorem dX10_takesOne_0 : decode cX10_takesOne 0 = .ok (.aload_n 0, 1) := by decide +kernel
theorem dX10_takesOne_1 : decode cX10_takesOne 1 = .ok (.getfield 7, 3) := by decide +kernel
theorem dX10_takesOne_4 : decode cX10_takesOne 4 = .ok (.iload_n 1, 1) := by decide +kernel
theorem dX10_takesOne_5 : decode cX10_takesOne 5 = .ok (.bipush 19, 2) := by decide +kernel
theorem dX10_takesOne_7 : decode cX10_takesOne 7 = .ok (.iadd, 1) := by decide +kernel
theorem dX10_takesOne_8 : decode cX10_takesOne 8 = .ok (.iaload, 1) := by decide +kernel
theorem dX10_takesOne_9 : decode cX10_takesOne 9 = .ok (.ifCond .ge 14, 3) := by decide +kernel
theorem dX10_takesOne_12 : decode cX10_takesOne 12 = .ok (.aload_n 0, 1) := by decide +kernel
theorem dX10_takesOne_13 : decode cX10_takesOne 13 = .ok (.getfield 7, 3) := by decide +kernel
theorem dX10_takesOne_16 : decode cX10_takesOne 16 = .ok (.iload_n 1, 1) := by decide +kernel
theorem dX10_takesOne_17 : decode cX10_takesOne 17 = .ok (.bipush 19, 2) := by decide +kernel
theorem dX10_takesOne_19 : decode cX10_takesOne 19 = .ok (.iadd, 1) := by decide +kernel
theorem dX10_takesOne_20 : decode cX10_takesOne 20 = .ok (.iload_n 2, 1) := by decide +kernel
theorem dX10_takesOne_21 : decode cX10_takesOne 21 = .ok (.iastore, 1) := by decide +kernel
theorem dX10_takesOne_22 : decode cX10_takesOne 22 = .ok (.return_, 1) := by decide +kernel
theorem dX10_takesOne_23 : decode cX10_takesOne 23 = .ok (.aload_n 0, 1) := by decide +kernel
theorem dX10_takesOne_24 : decode cX10_takesOne 24 = .ok (.getfield 7, 3) := by decide +kernel
theorem dX10_takesOne_27 : decode cX10_takesOne 27 = .ok (.iload_n 1, 1) := by decide +kernel
theorem dX10_takesOne_28 : decode cX10_takesOne 28 = .ok (.bipush 19, 2) := by decide +kernel
theorem dX10_takesOne_30 : decode cX10_takesOne 30 = .ok (.iadd, 1) := by decide +kernel
theorem dX10_takesOne_31 : decode cX10_takesOne 31 = .ok (.iaload, 1) := by decide +kernel
theorem dX10_takesOne_32 : decode cX10_takesOne 32 = .ok (.iload_n 2, 1) := by decide +kernel
theorem dX10_takesOne_33 : decode cX10_takesOne 33 = .ok (.if_icmp .ne 19, 3) := by decide +kernel
theorem dX10_takesOne_36 : decode cX10_takesOne 36 = .ok (.aload_n 0, 1) := by decide +kernel
theorem dX10_takesOne_37 : decode cX10_takesOne 37 = .ok (.getfield 7, 3) := by decide +kernel
theorem dX10_takesOne_40 : decode cX10_takesOne 40 = .ok (.iload_n 1, 1) := by decide +kernel
theorem dX10_takesOne_41 : decode cX10_takesOne 41 = .ok (.bipush 22, 2) := by decide +kernel
theorem dX10_takesOne_43 : decode cX10_takesOne 43 = .ok (.iadd, 1) := by decide +kernel
theorem dX10_takesOne_44 : decode cX10_takesOne 44 = .ok (.dup2, 1) := by decide +kernel
theorem dX10_takesOne_45 : decode cX10_takesOne 45 = .ok (.iaload, 1) := by decide +kernel
theorem dX10_takesOne_46 : decode cX10_takesOne 46 = .ok (.iconst 1, 1) := by decide +kernel
theorem dX10_takesOne_47 : decode cX10_takesOne 47 = .ok (.iadd, 1) := by decide +kernel
theorem dX10_takesOne_48 : decode cX10_takesOne 48 = .ok (.iastore, 1) := by decide +kernel
theorem dX10_takesOne_49 : decode cX10_takesOne 49 = .ok (.goto 87, 3) := by decide +kernel
theorem dX10_takesOne_52 : decode cX10_takesOne 52 = .ok (.aload_n 0, 1) := by decide +kernel
theorem dX10_takesOne_53 : decode cX10_takesOne 53 = .ok (.getfield 7, 3) := by decide +kernel
theorem dX10_takesOne_56 : decode cX10_takesOne 56 = .ok (.iload_n 1, 1) := by decide +kernel
theorem dX10_takesOne_57 : decode cX10_takesOne 57 = .ok (.bipush 18, 2) := by decide +kernel
theorem dX10_takesOne_59 : decode cX10_takesOne 59 = .ok (.iadd, 1) := by decide +kernel
theorem dX10_takesOne_60 : decode cX10_takesOne 60 = .ok (.iaload, 1) := by decide +kernel
theorem dX10_takesOne_61 : decode cX10_takesOne 61 = .ok (.bipush 64, 2) := by decide +kernel
theorem dX10_takesOne_63 : decode cX10_takesOne 63 = .ok (.if_icmp .ne 19, 3) := by decide +kernel
theorem dX10_takesOne_66 : decode cX10_takesOne 66 = .ok (.aload_n 0, 1) := by decide +kernel
theorem dX10_takesOne_67 : decode cX10_takesOne 67 = .ok (.getfield 7, 3) := by decide +kernel
theorem dX10_takesOne_70 : decode cX10_takesOne 70 = .ok (.iload_n 1, 1) := by decide +kernel
theorem dX10_takesOne_71 : decode cX10_takesOne 71 = .ok (.bipush 24, 2) := by decide +kernel
theorem dX10_takesOne_73 : decode cX10_takesOne 73 = .ok (.iadd, 1) := by decide +kernel
theorem dX10_takesOne_74 : decode cX10_takesOne 74 = .ok (.dup2, 1) := by decide +kernel
theorem dX10_takesOne_75 : decode cX10_takesOne 75 = .ok (.iaload, 1) := by decide +kernel
theorem dX10_takesOne_76 : decode cX10_takesOne 76 = .ok (.iconst 1, 1) := by decide +kernel
theorem dX10_takesOne_77 : decode cX10_takesOne 77 = .ok (.iadd, 1) := by decide +kernel
theorem dX10_takesOne_78 : decode cX10_takesOne 78 = .ok (.iastore, 1) := by decide +kernel
theorem dX10_takesOne_79 : decode cX10_takesOne 79 = .ok (.goto 57, 3) := by decide +kernel
theorem dX10_takesOne_82 : decode cX10_takesOne 82 = .ok (.aload_n 0, 1) := by decide +kernel
theorem dX10_takesOne_83 : decode cX10_takesOne 83 = .ok (.getfield 7, 3) := by decide +kernel
theorem dX10_takesOne_86 : decode cX10_takesOne 86 = .ok (.iload_n 1, 1) := by decide +kernel
theorem dX10_takesOne_87 : decode cX10_takesOne 87 = .ok (.bipush 93, 2) := by decide +kernel
theorem dX10_takesOne_89 : decode cX10_takesOne 89 = .ok (.iadd, 1) := by decide +kernel
theorem dX10_takesOne_90 : decode cX10_takesOne 90 = .ok (.aload_n 0, 1) := by decide +kernel
theorem dX10_takesOne_91 : decode cX10_takesOne 91 = .ok (.getfield 7, 3) := by decide +kernel
theorem dX10_takesOne_94 : decode cX10_takesOne 94 = .ok (.iload_n 1, 1) := by decide +kernel
theorem dX10_takesOne_95 : decode cX10_takesOne 95 = .ok (.bipush 18, 2) := by decide +kernel
theorem dX10_takesOne_97 : decode cX10_takesOne 97 = .ok (.iadd, 1) := by decide +kernel
theorem dX10_takesOne_98 : decode cX10_takesOne 98 = .ok (.iaload, 1) := by decide +kernel
theorem dX10_takesOne_99 : decode cX10_takesOne 99 = .ok (.iadd, 1) := by decide +kernel
theorem dX10_takesOne_100 : decode cX10_takesOne 100 = .ok (.aload_n 0, 1) := by decide +kernel
theorem dX10_takesOne_101 : decode cX10_takesOne 101 = .ok (.getfield 7, 3) := by decide +kernel
theorem dX10_takesOne_104 : decode cX10_takesOne 104 = .ok (.iload_n 1, 1) := by decide +kernel
theorem dX10_takesOne_105 : decode cX10_takesOne 105 = .ok (.bipush 19, 2) := by decide +kernel
theorem dX10_takesOne_107 : decode cX10_takesOne 107 = .ok (.iadd, 1) := by decide +kernel
theorem dX10_takesOne_108 : decode cX10_takesOne 108 = .ok (.iaload, 1) := by decide +kernel
theorem dX10_takesOne_109 : decode cX10_takesOne 109 = .ok (.iastore, 1) := by decide +kernel
theorem dX10_takesOne_110 : decode cX10_takesOne 110 = .ok (.aload_n 0, 1) := by decide +kernel
theorem dX10_takesOne_111 : decode cX10_takesOne 111 = .ok (.getfield 7, 3) := by decide +kernel
theorem dX10_takesOne_114 : decode cX10_takesOne 114 = .ok (.iload_n 1, 1) := by decide +kernel
theorem dX10_takesOne_115 : decode cX10_takesOne 115 = .ok (.bipush 18, 2) := by decide +kernel
theorem dX10_takesOne_117 : decode cX10_takesOne 117 = .ok (.iadd, 1) := by decide +kernel
theorem dX10_takesOne_118 : decode cX10_takesOne 118 = .ok (.dup2, 1) := by decide +kernel
theorem dX10_takesOne_119 : decode cX10_takesOne 119 = .ok (.iaload, 1) := by decide +kernel
theorem dX10_takesOne_120 : decode cX10_takesOne 120 = .ok (.iconst 1, 1) := by decide +kernel
theorem dX10_takesOne_121 : decode cX10_takesOne 121 = .ok (.iadd, 1) := by decide +kernel
theorem dX10_takesOne_122 : decode cX10_takesOne 122 = .ok (.iastore, 1) := by decide +kernel
theorem dX10_takesOne_123 : decode cX10_takesOne 123 = .ok (.aload_n 0, 1) := by decide +kernel
theorem dX10_takesOne_124 : decode cX10_takesOne 124 = .ok (.getfield 7, 3) := by decide +kernel
theorem dX10_takesOne_127 : decode cX10_takesOne 127 = .ok (.iload_n 1, 1) := by decide +kernel
theorem dX10_takesOne_128 : decode cX10_takesOne 128 = .ok (.bipush 23, 2) := by decide +kernel
theorem dX10_takesOne_130 : decode cX10_takesOne 130 = .ok (.iadd, 1) := by decide +kernel
theorem dX10_takesOne_131 : decode cX10_takesOne 131 = .ok (.dup2, 1) := by decide +kernel
theorem dX10_takesOne_132 : decode cX10_takesOne 132 = .ok (.iaload, 1) := by decide +kernel
theorem dX10_takesOne_133 : decode cX10_takesOne 133 = .ok (.iconst 1, 1) := by decide +kernel
theorem dX10_takesOne_134 : decode cX10_takesOne 134 = .ok (.iadd, 1) := by decide +kernel
theorem dX10_takesOne_135 : decode cX10_takesOne 135 = .ok (.iastore, 1) := by decide +kernel
theorem dX10_takesOne_136 : decode cX10_takesOne 136 = .ok (.aload_n 0, 1) := by decide +kernel
theorem dX10_takesOne_137 : decode cX10_takesOne 137 = .ok (.getfield 7, 3) := by decide +kernel
theorem dX10_takesOne_140 : decode cX10_takesOne 140 = .ok (.iload_n 1, 1) := by decide +kernel
theorem dX10_takesOne_141 : decode cX10_takesOne 141 = .ok (.bipush 19, 2) := by decide +kernel
theorem dX10_takesOne_143 : decode cX10_takesOne 143 = .ok (.iadd, 1) := by decide +kernel
theorem dX10_takesOne_144 : decode cX10_takesOne 144 = .ok (.iconst (-1), 1) := by decide +kernel
theorem dX10_takesOne_145 : decode cX10_takesOne 145 = .ok (.iastore, 1) := by decide +kernel
theorem dX10_takesOne_146 : decode cX10_takesOne 146 = .ok (.return_, 1) := by decide +kernel
set_option maxRecDepth 20000 in
theorem ggX10_samples_X10_runs : GoodIn wsX10_samples wsX10_runs := goodIn_r _ [6, 1, 7, 8, 9, 5, 10, 11, 35, 36, 37, 38, 39, 40, 41, 42, 43] (by decide +kernel) (by decide +kernel)
set_option maxRecDepth 20000 in
theorem gX10_samples_X10_runs : GoodIn wsX10_samples (wsV RX10 34 RX10 yX10_runs wsX10_runs) := goodIn_app (goodIn_of _ (by decide +kernel)) ggX10_samples_X10_runs
set_option maxRecDepth 20000 in
theorem ggX10_samples_X10_locks : GoodIn wsX10_samples wsX10_locks := goodIn_r _ [15, 1, 35, 36, 37, 38, 39, 40, 41, 42, 43] (by decide +kernel) (by decide +kernel)
set_option maxRecDepth 20000 in
theorem gX10_samples_X10_locks : GoodIn wsX10_samples (wsV RX10 37 RX10 yX10_locks wsX10_locks) := goodIn_app (goodIn_of _ (by decide +kernel)) ggX10_samples_X10_locks
set_option maxRecDepth 20000 in
theorem ggX10_samples_X10_isHigh : GoodIn wsX10_samples wsX10_isHigh := goodIn_r _ [19, 1, 35, 36, 37, 38, 39, 40, 41, 42, 43] (by decide +kernel) (by decide +kernel)
set_option maxRecDepth 20000 in
theorem gX10_samples_X10_isHigh : GoodIn wsX10_samples (wsV RX10 41 RX10 yX10_isHigh wsX10_isHigh) := goodIn_app (goodIn_of _ (by decide +kernel)) ggX10_samples_X10_isHigh
set_option maxRecDepth 20000 in
theorem ggX10_samples_X10_keeps : GoodIn wsX10_samples wsX10_keeps := goodIn_r _ [23, 1, 35, 36, 37, 38, 39, 40, 41, 42, 43] (by decide +kernel) (by decide +kernel)
set_option maxRecDepth 20000 in
theorem gX10_samples_X10_keeps : GoodIn wsX10_samples (wsV RX10 45 RX10 yX10_keeps wsX10_keeps) := goodIn_app (goodIn_of _ (by decide +kernel)) ggX10_samples_X10_keeps
set_option maxRecDepth 20000 in
theorem ggX10_samples_X10_tests : GoodIn wsX10_samples wsX10_tests := goodIn_r _ [27, 1, 28, 29, 5, 30, 35, 36, 37, 38, 39, 40, 41, 42, 43] (by decide +kernel) (by decide +kernel)
set_option maxRecDepth 20000 in
theorem gX10_samples_X10_tests : GoodIn wsX10_samples (wsV RX10 48 RX10 yX10_tests wsX10_tests) := goodIn_app (goodIn_of _ (by decide +kernel)) ggX10_samples_X10_tests
set_option maxRecDepth 20000 in
theorem ggX10_samples_X10_takesOne : GoodIn wsX10_samples wsX10_takesOne := goodIn_r _ [34, 1, 35, 36, 37, 38, 39, 40, 41, 42, 43] (by decide +kernel) (by decide +kernel)
set_option maxRecDepth 20000 in
theorem gX10_samples_X10_takesOne : GoodIn wsX10_samples (wsV RX10 52 RX10 yX10_takesOne wsX10_takesOne) := goodIn_app (goodIn_of _ (by decide +kernel)) ggX10_samples_X10_takesOne
theorem dX10_samples_0 : decode cX10_samples 0 = .ok (.aload_n 0, 1) := by decide +kernel
theorem dX10_samples_1 : decode cX10_samples 1 = .ok (.iload_n 1, 1) := by decide +kernel
theorem dX10_samples_2 : decode cX10_samples 2 = .ok (.iconst 0, 1) := by decide +kernel
theorem dX10_samples_3 : decode cX10_samples 3 = .ok (.invokevirtual 34, 3) := by decide +kernel
theorem dX10_samples_6 : decode cX10_samples 6 = .ok (.aload_n 0, 1) := by decide +kernel
theorem dX10_samples_7 : decode cX10_samples 7 = .ok (.iload_n 1, 1) := by decide +kernel
theorem dX10_samples_8 : decode cX10_samples 8 = .ok (.invokevirtual 37, 3) := by decide +kernel
theorem dX10_samples_11 : decode cX10_samples 11 = .ok (.ifCond .eq 35, 3) := by decide +kernel
theorem dX10_samples_14 : decode cX10_samples 14 = .ok (.aload_n 0, 1) := by decide +kernel
theorem dX10_samples_15 : decode cX10_samples 15 = .ok (.getfield 7, 3) := by decide +kernel
theorem dX10_samples_18 : decode cX10_samples 18 = .ok (.iload_n 1, 1) := by decide +kernel
theorem dX10_samples_19 : decode cX10_samples 19 = .ok (.iconst 5, 1) := by decide +kernel
theorem dX10_samples_20 : decode cX10_samples 20 = .ok (.iadd, 1) := by decide +kernel
theorem dX10_samples_21 : decode cX10_samples 21 = .ok (.iconst 1, 1) := by decide +kernel
theorem dX10_samples_22 : decode cX10_samples 22 = .ok (.iadd, 1) := by decide +kernel
theorem dX10_samples_23 : decode cX10_samples 23 = .ok (.aload_n 0, 1) := by decide +kernel
theorem dX10_samples_24 : decode cX10_samples 24 = .ok (.getfield 7, 3) := by decide +kernel
theorem dX10_samples_27 : decode cX10_samples 27 = .ok (.iload_n 1, 1) := by decide +kernel
theorem dX10_samples_28 : decode cX10_samples 28 = .ok (.iconst 5, 1) := by decide +kernel
theorem dX10_samples_29 : decode cX10_samples 29 = .ok (.iadd, 1) := by decide +kernel
theorem dX10_samples_30 : decode cX10_samples 30 = .ok (.iaload, 1) := by decide +kernel
theorem dX10_samples_31 : decode cX10_samples 31 = .ok (.aload_n 0, 1) := by decide +kernel
theorem dX10_samples_32 : decode cX10_samples 32 = .ok (.getfield 7, 3) := by decide +kernel
theorem dX10_samples_35 : decode cX10_samples 35 = .ok (.iload_n 1, 1) := by decide +kernel
theorem dX10_samples_36 : decode cX10_samples 36 = .ok (.iconst 1, 1) := by decide +kernel
theorem dX10_samples_37 : decode cX10_samples 37 = .ok (.iadd, 1) := by decide +kernel
theorem dX10_samples_38 : decode cX10_samples 38 = .ok (.iconst 1, 1) := by decide +kernel
theorem dX10_samples_39 : decode cX10_samples 39 = .ok (.iadd, 1) := by decide +kernel
theorem dX10_samples_40 : decode cX10_samples 40 = .ok (.iaload, 1) := by decide +kernel
theorem dX10_samples_41 : decode cX10_samples 41 = .ok (.irem, 1) := by decide +kernel
theorem dX10_samples_42 : decode cX10_samples 42 = .ok (.iastore, 1) := by decide +kernel
theorem dX10_samples_43 : decode cX10_samples 43 = .ok (.goto 9, 3) := by decide +kernel
theorem dX10_samples_46 : decode cX10_samples 46 = .ok (.aload_n 0, 1) := by decide +kernel
theorem dX10_samples_47 : decode cX10_samples 47 = .ok (.iload_n 1, 1) := by decide +kernel
theorem dX10_samples_48 : decode cX10_samples 48 = .ok (.iconst 1, 1) := by decide +kernel
theorem dX10_samples_49 : decode cX10_samples 49 = .ok (.invokevirtual 34, 3) := by decide +kernel
theorem dX10_samples_52 : decode cX10_samples 52 = .ok (.aload_n 0, 1) := by decide +kernel
theorem dX10_samples_53 : decode cX10_samples 53 = .ok (.iload_n 1, 1) := by decide +kernel
theorem dX10_samples_54 : decode cX10_samples 54 = .ok (.iconst 0, 1) := by decide +kernel
theorem dX10_samples_55 : decode cX10_samples 55 = .ok (.invokevirtual 41, 3) := by decide +kernel
theorem dX10_samples_58 : decode cX10_samples 58 = .ok (.aload_n 0, 1) := by decide +kernel
theorem dX10_samples_59 : decode cX10_samples 59 = .ok (.iload_n 1, 1) := by decide +kernel
theorem dX10_samples_60 : decode cX10_samples 60 = .ok (.iconst 1, 1) := by decide +kernel
theorem dX10_samples_61 : decode cX10_samples 61 = .ok (.invokevirtual 41, 3) := by decide +kernel
theorem dX10_samples_64 : decode cX10_samples 64 = .ok (.if_icmp .ne 7, 3) := by decide +kernel
theorem dX10_samples_67 : decode cX10_samples 67 = .ok (.iconst 0, 1) := by decide +kernel
theorem dX10_samples_68 : decode cX10_samples 68 = .ok (.goto 4, 3) := by decide +kernel
theorem dX10_samples_71 : decode cX10_samples 71 = .ok (.iconst 1, 1) := by decide +kernel
theorem dX10_samples_72 : decode cX10_samples 72 = .ok (.istore_n 2, 1) := by decide +kernel
theorem dX10_samples_73 : decode cX10_samples 73 = .ok (.aload_n 0, 1) := by decide +kernel
theorem dX10_samples_74 : decode cX10_samples 74 = .ok (.getfield 7, 3) := by decide +kernel
theorem dX10_samples_77 : decode cX10_samples 77 = .ok (.iload_n 1, 1) := by decide +kernel
theorem dX10_samples_78 : decode cX10_samples 78 = .ok (.bipush 20, 2) := by decide +kernel
theorem dX10_samples_80 : decode cX10_samples 80 = .ok (.iadd, 1) := by decide +kernel
theorem dX10_samples_81 : decode cX10_samples 81 = .ok (.dup2, 1) := by decide +kernel
theorem dX10_samples_82 : decode cX10_samples 82 = .ok (.iaload, 1) := by decide +kernel
theorem dX10_samples_83 : decode cX10_samples 83 = .ok (.iconst 1, 1) := by decide +kernel
theorem dX10_samples_84 : decode cX10_samples 84 = .ok (.iadd, 1) := by decide +kernel
theorem dX10_samples_85 : decode cX10_samples 85 = .ok (.iastore, 1) := by decide +kernel
theorem dX10_samples_86 : decode cX10_samples 86 = .ok (.aload_n 0, 1) := by decide +kernel
theorem dX10_samples_87 : decode cX10_samples 87 = .ok (.getfield 7, 3) := by decide +kernel
theorem dX10_samples_90 : decode cX10_samples 90 = .ok (.iload_n 1, 1) := by decide +kernel
theorem dX10_samples_91 : decode cX10_samples 91 = .ok (.bipush 21, 2) := by decide +kernel
theorem dX10_samples_93 : decode cX10_samples 93 = .ok (.iadd, 1) := by decide +kernel
theorem dX10_samples_94 : decode cX10_samples 94 = .ok (.dup2, 1) := by decide +kernel
theorem dX10_samples_95 : decode cX10_samples 95 = .ok (.iaload, 1) := by decide +kernel
theorem dX10_samples_96 : decode cX10_samples 96 = .ok (.iload_n 2, 1) := by decide +kernel
theorem dX10_samples_97 : decode cX10_samples 97 = .ok (.iadd, 1) := by decide +kernel
theorem dX10_samples_98 : decode cX10_samples 98 = .ok (.iastore, 1) := by decide +kernel
theorem dX10_samples_99 : decode cX10_samples 99 = .ok (.aload_n 0, 1) := by decide +kernel
theorem dX10_samples_100 : decode cX10_samples 100 = .ok (.iload_n 1, 1) := by decide +kernel
theorem dX10_samples_101 : decode cX10_samples 101 = .ok (.iload_n 2, 1) := by decide +kernel
theorem dX10_samples_102 : decode cX10_samples 102 = .ok (.invokevirtual 45, 3) := by decide +kernel
theorem dX10_samples_105 : decode cX10_samples 105 = .ok (.aload_n 0, 1) := by decide +kernel
theorem dX10_samples_106 : decode cX10_samples 106 = .ok (.getfield 7, 3) := by decide +kernel
theorem dX10_samples_109 : decode cX10_samples 109 = .ok (.iload_n 1, 1) := by decide +kernel
theorem dX10_samples_110 : decode cX10_samples 110 = .ok (.bipush 11, 2) := by decide +kernel
theorem dX10_samples_112 : decode cX10_samples 112 = .ok (.iadd, 1) := by decide +kernel
theorem dX10_samples_113 : decode cX10_samples 113 = .ok (.iaload, 1) := by decide +kernel
theorem dX10_samples_114 : decode cX10_samples 114 = .ok (.iconst 2, 1) := by decide +kernel
theorem dX10_samples_115 : decode cX10_samples 115 = .ok (.if_icmp .ne 4, 3) := by decide +kernel
theorem dX10_samples_118 : decode cX10_samples 118 = .ok (.return_, 1) := by decide +kernel
theorem dX10_samples_119 : decode cX10_samples 119 = .ok (.aload_n 0, 1) := by decide +kernel
theorem dX10_samples_120 : decode cX10_samples 120 = .ok (.iload_n 1, 1) := by decide +kernel
theorem dX10_samples_121 : decode cX10_samples 121 = .ok (.iload_n 2, 1) := by decide +kernel
theorem dX10_samples_122 : decode cX10_samples 122 = .ok (.invokevirtual 48, 3) := by decide +kernel
theorem dX10_samples_125 : decode cX10_samples 125 = .ok (.istore_n 3, 1) := by decide +kernel
theorem dX10_samples_126 : decode cX10_samples 126 = .ok (.iload_n 3, 1) := by decide +kernel
theorem dX10_samples_127 : decode cX10_samples 127 = .ok (.ifCond .le 49, 3) := by decide +kernel
theorem dX10_samples_130 : decode cX10_samples 130 = .ok (.aload_n 0, 1) := by decide +kernel
theorem dX10_samples_131 : decode cX10_samples 131 = .ok (.getfield 7, 3) := by decide +kernel
theorem dX10_samples_134 : decode cX10_samples 134 = .ok (.iload_n 1, 1) := by decide +kernel
theorem dX10_samples_135 : decode cX10_samples 135 = .ok (.bipush 11, 2) := by decide +kernel
theorem dX10_samples_137 : decode cX10_samples 137 = .ok (.iadd, 1) := by decide +kernel
theorem dX10_samples_138 : decode cX10_samples 138 = .ok (.iconst 2, 1) := by decide +kernel
theorem dX10_samples_139 : decode cX10_samples 139 = .ok (.iastore, 1) := by decide +kernel
theorem dX10_samples_140 : decode cX10_samples 140 = .ok (.aload_n 0, 1) := by decide +kernel
theorem dX10_samples_141 : decode cX10_samples 141 = .ok (.getfield 7, 3) := by decide +kernel
theorem dX10_samples_144 : decode cX10_samples 144 = .ok (.iload_n 1, 1) := by decide +kernel
theorem dX10_samples_145 : decode cX10_samples 145 = .ok (.bipush 12, 2) := by decide +kernel
theorem dX10_samples_147 : decode cX10_samples 147 = .ok (.iadd, 1) := by decide +kernel
theorem dX10_samples_148 : decode cX10_samples 148 = .ok (.iload_n 3, 1) := by decide +kernel
theorem dX10_samples_149 : decode cX10_samples 149 = .ok (.iastore, 1) := by decide +kernel
theorem dX10_samples_150 : decode cX10_samples 150 = .ok (.aload_n 0, 1) := by decide +kernel
theorem dX10_samples_151 : decode cX10_samples 151 = .ok (.getfield 7, 3) := by decide +kernel
theorem dX10_samples_154 : decode cX10_samples 154 = .ok (.iload_n 1, 1) := by decide +kernel
theorem dX10_samples_155 : decode cX10_samples 155 = .ok (.bipush 26, 2) := by decide +kernel
theorem dX10_samples_157 : decode cX10_samples 157 = .ok (.iadd, 1) := by decide +kernel
theorem dX10_samples_158 : decode cX10_samples 158 = .ok (.dup2, 1) := by decide +kernel
theorem dX10_samples_159 : decode cX10_samples 159 = .ok (.iaload, 1) := by decide +kernel
theorem dX10_samples_160 : decode cX10_samples 160 = .ok (.iconst 1, 1) := by decide +kernel
theorem dX10_samples_161 : decode cX10_samples 161 = .ok (.iadd, 1) := by decide +kernel
theorem dX10_samples_162 : decode cX10_samples 162 = .ok (.iastore, 1) := by decide +kernel
theorem dX10_samples_163 : decode cX10_samples 163 = .ok (.aload_n 0, 1) := by decide +kernel
theorem dX10_samples_164 : decode cX10_samples 164 = .ok (.getfield 7, 3) := by decide +kernel
theorem dX10_samples_167 : decode cX10_samples 167 = .ok (.iload_n 1, 1) := by decide +kernel
theorem dX10_samples_168 : decode cX10_samples 168 = .ok (.bipush 19, 2) := by decide +kernel
theorem dX10_samples_170 : decode cX10_samples 170 = .ok (.iadd, 1) := by decide +kernel
theorem dX10_samples_171 : decode cX10_samples 171 = .ok (.iconst (-1), 1) := by decide +kernel
theorem dX10_samples_172 : decode cX10_samples 172 = .ok (.iastore, 1) := by decide +kernel
theorem dX10_samples_173 : decode cX10_samples 173 = .ok (.goto 63, 3) := by decide +kernel
theorem dX10_samples_176 : decode cX10_samples 176 = .ok (.aload_n 0, 1) := by decide +kernel
theorem dX10_samples_177 : decode cX10_samples 177 = .ok (.getfield 7, 3) := by decide +kernel
theorem dX10_samples_180 : decode cX10_samples 180 = .ok (.iload_n 1, 1) := by decide +kernel
theorem dX10_samples_181 : decode cX10_samples 181 = .ok (.bipush 11, 2) := by decide +kernel
theorem dX10_samples_183 : decode cX10_samples 183 = .ok (.iadd, 1) := by decide +kernel
theorem dX10_samples_184 : decode cX10_samples 184 = .ok (.iaload, 1) := by decide +kernel
theorem dX10_samples_185 : decode cX10_samples 185 = .ok (.ifCond .ne 45, 3) := by decide +kernel
theorem dX10_samples_188 : decode cX10_samples 188 = .ok (.aload_n 0, 1) := by decide +kernel
theorem dX10_samples_189 : decode cX10_samples 189 = .ok (.getfield 7, 3) := by decide +kernel
theorem dX10_samples_192 : decode cX10_samples 192 = .ok (.iload_n 1, 1) := by decide +kernel
theorem dX10_samples_193 : decode cX10_samples 193 = .ok (.bipush 13, 2) := by decide +kernel
theorem dX10_samples_195 : decode cX10_samples 195 = .ok (.iadd, 1) := by decide +kernel
theorem dX10_samples_196 : decode cX10_samples 196 = .ok (.dup2, 1) := by decide +kernel
end
section
theorem dX10_samples_197 : decode cX10_samples 197 = .ok (.iaload, 1) := by decide +kernel
theorem dX10_samples_198 : decode cX10_samples 198 = .ok (.iconst 1, 1) := by decide +kernel
theorem dX10_samples_199 : decode cX10_samples 199 = .ok (.isub, 1) := by decide +kernel
theorem dX10_samples_200 : decode cX10_samples 200 = .ok (.iastore, 1) := by decide +kernel
theorem dX10_samples_201 : decode cX10_samples 201 = .ok (.aload_n 0, 1) := by decide +kernel
theorem dX10_samples_202 : decode cX10_samples 202 = .ok (.getfield 7, 3) := by decide +kernel
theorem dX10_samples_205 : decode cX10_samples 205 = .ok (.iload_n 1, 1) := by decide +kernel
theorem dX10_samples_206 : decode cX10_samples 206 = .ok (.bipush 11, 2) := by decide +kernel
theorem dX10_samples_208 : decode cX10_samples 208 = .ok (.iadd, 1) := by decide +kernel
theorem dX10_samples_209 : decode cX10_samples 209 = .ok (.aload_n 0, 1) := by decide +kernel
theorem dX10_samples_210 : decode cX10_samples 210 = .ok (.getfield 7, 3) := by decide +kernel
theorem dX10_samples_213 : decode cX10_samples 213 = .ok (.iload_n 1, 1) := by decide +kernel
theorem dX10_samples_214 : decode cX10_samples 214 = .ok (.bipush 13, 2) := by decide +kernel
theorem dX10_samples_216 : decode cX10_samples 216 = .ok (.iadd, 1) := by decide +kernel
theorem dX10_samples_217 : decode cX10_samples 217 = .ok (.iaload, 1) := by decide +kernel
theorem dX10_samples_218 : decode cX10_samples 218 = .ok (.ifCond .ne 7, 3) := by decide +kernel
theorem dX10_samples_221 : decode cX10_samples 221 = .ok (.iconst 1, 1) := by decide +kernel
theorem dX10_samples_222 : decode cX10_samples 222 = .ok (.goto 4, 3) := by decide +kernel
theorem dX10_samples_225 : decode cX10_samples 225 = .ok (.iconst 0, 1) := by decide +kernel
theorem dX10_samples_226 : decode cX10_samples 226 = .ok (.iastore, 1) := by decide +kernel
theorem dX10_samples_227 : decode cX10_samples 227 = .ok (.goto 9, 3) := by decide +kernel
theorem dX10_samples_230 : decode cX10_samples 230 = .ok (.aload_n 0, 1) := by decide +kernel
theorem dX10_samples_231 : decode cX10_samples 231 = .ok (.iload_n 1, 1) := by decide +kernel
theorem dX10_samples_232 : decode cX10_samples 232 = .ok (.iload_n 2, 1) := by decide +kernel
theorem dX10_samples_233 : decode cX10_samples 233 = .ok (.invokevirtual 52, 3) := by decide +kernel
theorem dX10_samples_236 : decode cX10_samples 236 = .ok (.return_, 1) := by decide +kernel
set_option maxRecDepth 20000 in
theorem ggX10_makes_X10_samples : GoodIn wsX10_makes wsX10_samples := goodIn_r _ [6, 1, 7, 8, 9, 5, 10, 11, 12, 13, 14, 15, 16, 17, 18, 19, 20, 21, 22, 23, 24, 25, 26, 27, 28, 29, 30, 31, 32, 33, 34, 35, 36, 37, 38, 39, 40, 41, 42, 43, 44, 45, 46, 47] (by decide +kernel) (by decide +kernel)
set_option maxRecDepth 20000 in
theorem gX10_makes_X10_samples : GoodIn wsX10_makes (wsV RX10 55 RX10 yX10_samples wsX10_samples) := goodIn_app (goodIn_of _ (by decide +kernel)) ggX10_makes_X10_samples
theorem dX10_makes_0 : decode cX10_makes 0 = .ok (.sipush 157, 3) := by decide +kernel
theorem dX10_makes_3 : decode cX10_makes 3 = .ok (.iload_n 1, 1) := by decide +kernel
theorem dX10_makes_4 : decode cX10_makes 4 = .ok (.imul, 1) := by decide +kernel
theorem dX10_makes_5 : decode cX10_makes 5 = .ok (.istore_n 3, 1) := by decide +kernel
theorem dX10_makes_6 : decode cX10_makes 6 = .ok (.aload_n 0, 1) := by decide +kernel
theorem dX10_makes_7 : decode cX10_makes 7 = .ok (.getfield 7, 3) := by decide +kernel
theorem dX10_makes_10 : decode cX10_makes 10 = .ok (.iload_n 3, 1) := by decide +kernel
theorem dX10_makes_11 : decode cX10_makes 11 = .ok (.bipush 23, 2) := by decide +kernel
theorem dX10_makes_13 : decode cX10_makes 13 = .ok (.iadd, 1) := by decide +kernel
theorem dX10_makes_14 : decode cX10_makes 14 = .ok (.iaload, 1) := by decide +kernel
theorem dX10_makes_15 : decode cX10_makes 15 = .ok (.istore 4, 2) := by decide +kernel
theorem dX10_makes_17 : decode cX10_makes 17 = .ok (.iconst 0, 1) := by decide +kernel
theorem dX10_makes_18 : decode cX10_makes 18 = .ok (.istore 5, 2) := by decide +kernel
theorem dX10_makes_20 : decode cX10_makes 20 = .ok (.iload 5, 2) := by decide +kernel
theorem dX10_makes_22 : decode cX10_makes 22 = .ok (.iload_n 2, 1) := by decide +kernel
theorem dX10_makes_23 : decode cX10_makes 23 = .ok (.if_icmp .ge 14, 3) := by decide +kernel
theorem dX10_makes_26 : decode cX10_makes 26 = .ok (.aload_n 0, 1) := by decide +kernel
theorem dX10_makes_27 : decode cX10_makes 27 = .ok (.iload_n 3, 1) := by decide +kernel
theorem dX10_makes_28 : decode cX10_makes 28 = .ok (.invokevirtual 55, 3) := by decide +kernel
theorem dX10_makes_31 : decode cX10_makes 31 = .ok (.iinc 5 1, 3) := by decide +kernel
theorem dX10_makes_34 : decode cX10_makes 34 = .ok (.goto (-14), 3) := by decide +kernel
theorem dX10_makes_37 : decode cX10_makes 37 = .ok (.aload_n 0, 1) := by decide +kernel
theorem dX10_makes_38 : decode cX10_makes 38 = .ok (.getfield 7, 3) := by decide +kernel
theorem dX10_makes_41 : decode cX10_makes 41 = .ok (.iload_n 3, 1) := by decide +kernel
theorem dX10_makes_42 : decode cX10_makes 42 = .ok (.bipush 23, 2) := by decide +kernel
theorem dX10_makes_44 : decode cX10_makes 44 = .ok (.iadd, 1) := by decide +kernel
theorem dX10_makes_45 : decode cX10_makes 45 = .ok (.iaload, 1) := by decide +kernel
theorem dX10_makes_46 : decode cX10_makes 46 = .ok (.iload 4, 2) := by decide +kernel
theorem dX10_makes_48 : decode cX10_makes 48 = .ok (.isub, 1) := by decide +kernel
theorem dX10_makes_49 : decode cX10_makes 49 = .ok (.ireturn, 1) := by decide +kernel
set_option maxRecDepth 20000 in
theorem ggX10_sets_X10_in : GoodIn wsX10_sets wsX10_in := goodIn_r _ [6] (by decide +kernel) (by decide +kernel)
set_option maxRecDepth 20000 in
theorem gX10_sets_X10_in : GoodIn wsX10_sets (va_wsS RX10 30 yX10_in wsX10_in) := goodIn_app (goodIn_of _ (by decide +kernel)) ggX10_sets_X10_in
theorem dX10_sets_0 : decode cX10_sets 0 = .ok (.iload_n 2, 1) := by decide +kernel
theorem dX10_sets_1 : decode cX10_sets 1 = .ok (.iconst 0, 1) := by decide +kernel
theorem dX10_sets_2 : decode cX10_sets 2 = .ok (.iconst 1, 1) := by decide +kernel
theorem dX10_sets_3 : decode cX10_sets 3 = .ok (.invokestatic 30, 3) := by decide +kernel
theorem dX10_sets_6 : decode cX10_sets 6 = .ok (.ifCond .eq 26, 3) := by decide +kernel
theorem dX10_sets_9 : decode cX10_sets 9 = .ok (.iload_n 3, 1) := by decide +kernel
theorem dX10_sets_10 : decode cX10_sets 10 = .ok (.bipush 10, 2) := by decide +kernel
theorem dX10_sets_12 : decode cX10_sets 12 = .ok (.sipush 999, 3) := by decide +kernel
theorem dX10_sets_15 : decode cX10_sets 15 = .ok (.invokestatic 30, 3) := by decide +kernel
theorem dX10_sets_18 : decode cX10_sets 18 = .ok (.ifCond .eq 14, 3) := by decide +kernel
theorem dX10_sets_21 : decode cX10_sets 21 = .ok (.iload 4, 2) := by decide +kernel
theorem dX10_sets_23 : decode cX10_sets 23 = .ok (.iconst 0, 1) := by decide +kernel
theorem dX10_sets_24 : decode cX10_sets 24 = .ok (.bipush 99, 2) := by decide +kernel
theorem dX10_sets_26 : decode cX10_sets 26 = .ok (.invokestatic 30, 3) := by decide +kernel
theorem dX10_sets_29 : decode cX10_sets 29 = .ok (.ifCond .ne 6, 3) := by decide +kernel
theorem dX10_sets_32 : decode cX10_sets 32 = .ok (.ldc 59, 2) := by decide +kernel
theorem dX10_sets_34 : decode cX10_sets 34 = .ok (.ireturn, 1) := by decide +kernel
theorem dX10_sets_35 : decode cX10_sets 35 = .ok (.sipush 157, 3) := by decide +kernel
theorem dX10_sets_38 : decode cX10_sets 38 = .ok (.iload_n 1, 1) := by decide +kernel
theorem dX10_sets_39 : decode cX10_sets 39 = .ok (.imul, 1) := by decide +kernel
theorem dX10_sets_40 : decode cX10_sets 40 = .ok (.istore 5, 2) := by decide +kernel
theorem dX10_sets_42 : decode cX10_sets 42 = .ok (.aload_n 0, 1) := by decide +kernel
theorem dX10_sets_43 : decode cX10_sets 43 = .ok (.getfield 7, 3) := by decide +kernel
theorem dX10_sets_46 : decode cX10_sets 46 = .ok (.iload 5, 2) := by decide +kernel
theorem dX10_sets_48 : decode cX10_sets 48 = .ok (.iconst 1, 1) := by decide +kernel
theorem dX10_sets_49 : decode cX10_sets 49 = .ok (.iadd, 1) := by decide +kernel
theorem dX10_sets_50 : decode cX10_sets 50 = .ok (.iload_n 2, 1) := by decide +kernel
theorem dX10_sets_51 : decode cX10_sets 51 = .ok (.iadd, 1) := by decide +kernel
theorem dX10_sets_52 : decode cX10_sets 52 = .ok (.iaload, 1) := by decide +kernel
theorem dX10_sets_53 : decode cX10_sets 53 = .ok (.istore 6, 2) := by decide +kernel
theorem dX10_sets_55 : decode cX10_sets 55 = .ok (.aload_n 0, 1) := by decide +kernel
theorem dX10_sets_56 : decode cX10_sets 56 = .ok (.getfield 7, 3) := by decide +kernel
theorem dX10_sets_59 : decode cX10_sets 59 = .ok (.iload 5, 2) := by decide +kernel
theorem dX10_sets_61 : decode cX10_sets 61 = .ok (.iconst 1, 1) := by decide +kernel
theorem dX10_sets_62 : decode cX10_sets 62 = .ok (.iadd, 1) := by decide +kernel
theorem dX10_sets_63 : decode cX10_sets 63 = .ok (.iload_n 2, 1) := by decide +kernel
theorem dX10_sets_64 : decode cX10_sets 64 = .ok (.iadd, 1) := by decide +kernel
theorem dX10_sets_65 : decode cX10_sets 65 = .ok (.iload_n 3, 1) := by decide +kernel
theorem dX10_sets_66 : decode cX10_sets 66 = .ok (.iastore, 1) := by decide +kernel
theorem dX10_sets_67 : decode cX10_sets 67 = .ok (.aload_n 0, 1) := by decide +kernel
theorem dX10_sets_68 : decode cX10_sets 68 = .ok (.getfield 7, 3) := by decide +kernel
theorem dX10_sets_71 : decode cX10_sets 71 = .ok (.iload 5, 2) := by decide +kernel
theorem dX10_sets_73 : decode cX10_sets 73 = .ok (.iconst 3, 1) := by decide +kernel
theorem dX10_sets_74 : decode cX10_sets 74 = .ok (.iadd, 1) := by decide +kernel
theorem dX10_sets_75 : decode cX10_sets 75 = .ok (.iload_n 2, 1) := by decide +kernel
theorem dX10_sets_76 : decode cX10_sets 76 = .ok (.iadd, 1) := by decide +kernel
theorem dX10_sets_77 : decode cX10_sets 77 = .ok (.iload 4, 2) := by decide +kernel
theorem dX10_sets_79 : decode cX10_sets 79 = .ok (.iastore, 1) := by decide +kernel
theorem dX10_sets_80 : decode cX10_sets 80 = .ok (.aload_n 0, 1) := by decide +kernel
theorem dX10_sets_81 : decode cX10_sets 81 = .ok (.getfield 7, 3) := by decide +kernel
theorem dX10_sets_84 : decode cX10_sets 84 = .ok (.iload 5, 2) := by decide +kernel
theorem dX10_sets_86 : decode cX10_sets 86 = .ok (.iconst 5, 1) := by decide +kernel
theorem dX10_sets_87 : decode cX10_sets 87 = .ok (.iadd, 1) := by decide +kernel
theorem dX10_sets_88 : decode cX10_sets 88 = .ok (.iload_n 2, 1) := by decide +kernel
theorem dX10_sets_89 : decode cX10_sets 89 = .ok (.iadd, 1) := by decide +kernel
theorem dX10_sets_90 : decode cX10_sets 90 = .ok (.iconst 0, 1) := by decide +kernel
theorem dX10_sets_91 : decode cX10_sets 91 = .ok (.iastore, 1) := by decide +kernel
theorem dX10_sets_92 : decode cX10_sets 92 = .ok (.iload 6, 2) := by decide +kernel
theorem dX10_sets_94 : decode cX10_sets 94 = .ok (.ireturn, 1) := by decide +kernel
set_option maxRecDepth 20000 in
theorem ggX10_draws_X10_in : GoodIn wsX10_draws wsX10_in := goodIn_r _ [7] (by decide +kernel) (by decide +kernel)
set_option maxRecDepth 20000 in
theorem gX10_draws_X10_in : GoodIn wsX10_draws (va_wsS RX10 30 yX10_in wsX10_in) := goodIn_app (goodIn_of _ (by decide +kernel)) ggX10_draws_X10_in
theorem dX10_draws_0 : decode cX10_draws 0 = .ok (.sipush 157, 3) := by decide +kernel
theorem dX10_draws_3 : decode cX10_draws 3 = .ok (.iload_n 1, 1) := by decide +kernel
theorem dX10_draws_4 : decode cX10_draws 4 = .ok (.imul, 1) := by decide +kernel
theorem dX10_draws_5 : decode cX10_draws 5 = .ok (.istore_n 3, 1) := by decide +kernel
theorem dX10_draws_6 : decode cX10_draws 6 = .ok (.iload_n 2, 1) := by decide +kernel
theorem dX10_draws_7 : decode cX10_draws 7 = .ok (.iconst 1, 1) := by decide +kernel
theorem dX10_draws_8 : decode cX10_draws 8 = .ok (.bipush 24, 2) := by decide +kernel
theorem dX10_draws_10 : decode cX10_draws 10 = .ok (.invokestatic 30, 3) := by decide +kernel
theorem dX10_draws_13 : decode cX10_draws 13 = .ok (.ifCond .ne 6, 3) := by decide +kernel
theorem dX10_draws_16 : decode cX10_draws 16 = .ok (.ldc 59, 2) := by decide +kernel
theorem dX10_draws_18 : decode cX10_draws 18 = .ok (.ireturn, 1) := by decide +kernel
theorem dX10_draws_19 : decode cX10_draws 19 = .ok (.aload_n 0, 1) := by decide +kernel
theorem dX10_draws_20 : decode cX10_draws 20 = .ok (.getfield 7, 3) := by decide +kernel
theorem dX10_draws_23 : decode cX10_draws 23 = .ok (.iload_n 3, 1) := by decide +kernel
theorem dX10_draws_24 : decode cX10_draws 24 = .ok (.bipush 18, 2) := by decide +kernel
theorem dX10_draws_26 : decode cX10_draws 26 = .ok (.iadd, 1) := by decide +kernel
theorem dX10_draws_27 : decode cX10_draws 27 = .ok (.iaload, 1) := by decide +kernel
theorem dX10_draws_28 : decode cX10_draws 28 = .ok (.iload_n 2, 1) := by decide +kernel
theorem dX10_draws_29 : decode cX10_draws 29 = .ok (.if_icmp .lt 16, 3) := by decide +kernel
theorem dX10_draws_32 : decode cX10_draws 32 = .ok (.aload_n 0, 1) := by decide +kernel
theorem dX10_draws_33 : decode cX10_draws 33 = .ok (.getfield 7, 3) := by decide +kernel
theorem dX10_draws_36 : decode cX10_draws 36 = .ok (.iload_n 3, 1) := by decide +kernel
theorem dX10_draws_37 : decode cX10_draws 37 = .ok (.bipush 11, 2) := by decide +kernel
theorem dX10_draws_39 : decode cX10_draws 39 = .ok (.iadd, 1) := by decide +kernel
theorem dX10_draws_40 : decode cX10_draws 40 = .ok (.iaload, 1) := by decide +kernel
theorem dX10_draws_41 : decode cX10_draws 41 = .ok (.iconst 2, 1) := by decide +kernel
theorem dX10_draws_42 : decode cX10_draws 42 = .ok (.if_icmp .ne 6, 3) := by decide +kernel
theorem dX10_draws_45 : decode cX10_draws 45 = .ok (.ldc 60, 2) := by decide +kernel
theorem dX10_draws_47 : decode cX10_draws 47 = .ok (.ireturn, 1) := by decide +kernel
theorem dX10_draws_48 : decode cX10_draws 48 = .ok (.iconst 0, 1) := by decide +kernel
theorem dX10_draws_49 : decode cX10_draws 49 = .ok (.istore 4, 2) := by decide +kernel
theorem dX10_draws_51 : decode cX10_draws 51 = .ok (.iconst 0, 1) := by decide +kernel
theorem dX10_draws_52 : decode cX10_draws 52 = .ok (.istore 5, 2) := by decide +kernel
theorem dX10_draws_54 : decode cX10_draws 54 = .ok (.iload 5, 2) := by decide +kernel
theorem dX10_draws_56 : decode cX10_draws 56 = .ok (.iload_n 2, 1) := by decide +kernel
theorem dX10_draws_57 : decode cX10_draws 57 = .ok (.if_icmp .ge 28, 3) := by decide +kernel
theorem dX10_draws_60 : decode cX10_draws 60 = .ok (.iconst 2, 1) := by decide +kernel
theorem dX10_draws_61 : decode cX10_draws 61 = .ok (.iload 4, 2) := by decide +kernel
theorem dX10_draws_63 : decode cX10_draws 63 = .ok (.imul, 1) := by decide +kernel
theorem dX10_draws_64 : decode cX10_draws 64 = .ok (.aload_n 0, 1) := by decide +kernel
theorem dX10_draws_65 : decode cX10_draws 65 = .ok (.getfield 7, 3) := by decide +kernel
theorem dX10_draws_68 : decode cX10_draws 68 = .ok (.iload_n 3, 1) := by decide +kernel
theorem dX10_draws_69 : decode cX10_draws 69 = .ok (.bipush 93, 2) := by decide +kernel
theorem dX10_draws_71 : decode cX10_draws 71 = .ok (.iadd, 1) := by decide +kernel
theorem dX10_draws_72 : decode cX10_draws 72 = .ok (.iload 5, 2) := by decide +kernel
theorem dX10_draws_74 : decode cX10_draws 74 = .ok (.iadd, 1) := by decide +kernel
theorem dX10_draws_75 : decode cX10_draws 75 = .ok (.iaload, 1) := by decide +kernel
theorem dX10_draws_76 : decode cX10_draws 76 = .ok (.iadd, 1) := by decide +kernel
theorem dX10_draws_77 : decode cX10_draws 77 = .ok (.istore 4, 2) := by decide +kernel
theorem dX10_draws_79 : decode cX10_draws 79 = .ok (.iinc 5 1, 3) := by decide +kernel
theorem dX10_draws_82 : decode cX10_draws 82 = .ok (.goto (-28), 3) := by decide +kernel
theorem dX10_draws_85 : decode cX10_draws 85 = .ok (.iload_n 2, 1) := by decide +kernel
theorem dX10_draws_86 : decode cX10_draws 86 = .ok (.istore 5, 2) := by decide +kernel
theorem dX10_draws_88 : decode cX10_draws 88 = .ok (.iload 5, 2) := by decide +kernel
theorem dX10_draws_90 : decode cX10_draws 90 = .ok (.aload_n 0, 1) := by decide +kernel
theorem dX10_draws_91 : decode cX10_draws 91 = .ok (.getfield 7, 3) := by decide +kernel
theorem dX10_draws_94 : decode cX10_draws 94 = .ok (.iload_n 3, 1) := by decide +kernel
theorem dX10_draws_95 : decode cX10_draws 95 = .ok (.bipush 18, 2) := by decide +kernel
theorem dX10_draws_97 : decode cX10_draws 97 = .ok (.iadd, 1) := by decide +kernel
theorem dX10_draws_98 : decode cX10_draws 98 = .ok (.iaload, 1) := by decide +kernel
theorem dX10_draws_99 : decode cX10_draws 99 = .ok (.if_icmp .ge 35, 3) := by decide +kernel
theorem dX10_draws_102 : decode cX10_draws 102 = .ok (.aload_n 0, 1) := by decide +kernel
theorem dX10_draws_103 : decode cX10_draws 103 = .ok (.getfield 7, 3) := by decide +kernel
theorem dX10_draws_106 : decode cX10_draws 106 = .ok (.iload_n 3, 1) := by decide +kernel
theorem dX10_draws_107 : decode cX10_draws 107 = .ok (.bipush 93, 2) := by decide +kernel
theorem dX10_draws_109 : decode cX10_draws 109 = .ok (.iadd, 1) := by decide +kernel
theorem dX10_draws_110 : decode cX10_draws 110 = .ok (.iload 5, 2) := by decide +kernel
theorem dX10_draws_112 : decode cX10_draws 112 = .ok (.iadd, 1) := by decide +kernel
theorem dX10_draws_113 : decode cX10_draws 113 = .ok (.iload_n 2, 1) := by decide +kernel
theorem dX10_draws_114 : decode cX10_draws 114 = .ok (.isub, 1) := by decide +kernel
theorem dX10_draws_115 : decode cX10_draws 115 = .ok (.aload_n 0, 1) := by decide +kernel
theorem dX10_draws_116 : decode cX10_draws 116 = .ok (.getfield 7, 3) := by decide +kernel
theorem dX10_draws_119 : decode cX10_draws 119 = .ok (.iload_n 3, 1) := by decide +kernel
theorem dX10_draws_120 : decode cX10_draws 120 = .ok (.bipush 93, 2) := by decide +kernel
theorem dX10_draws_122 : decode cX10_draws 122 = .ok (.iadd, 1) := by decide +kernel
theorem dX10_draws_123 : decode cX10_draws 123 = .ok (.iload 5, 2) := by decide +kernel
theorem dX10_draws_125 : decode cX10_draws 125 = .ok (.iadd, 1) := by decide +kernel
theorem dX10_draws_126 : decode cX10_draws 126 = .ok (.iaload, 1) := by decide +kernel
theorem dX10_draws_127 : decode cX10_draws 127 = .ok (.iastore, 1) := by decide +kernel
theorem dX10_draws_128 : decode cX10_draws 128 = .ok (.iinc 5 1, 3) := by decide +kernel
theorem dX10_draws_131 : decode cX10_draws 131 = .ok (.goto (-43), 3) := by decide +kernel
theorem dX10_draws_134 : decode cX10_draws 134 = .ok (.aload_n 0, 1) := by decide +kernel
theorem dX10_draws_135 : decode cX10_draws 135 = .ok (.getfield 7, 3) := by decide +kernel
theorem dX10_draws_138 : decode cX10_draws 138 = .ok (.iload_n 3, 1) := by decide +kernel
theorem dX10_draws_139 : decode cX10_draws 139 = .ok (.bipush 18, 2) := by decide +kernel
theorem dX10_draws_141 : decode cX10_draws 141 = .ok (.iadd, 1) := by decide +kernel
theorem dX10_draws_142 : decode cX10_draws 142 = .ok (.dup2, 1) := by decide +kernel
theorem dX10_draws_143 : decode cX10_draws 143 = .ok (.iaload, 1) := by decide +kernel
theorem dX10_draws_144 : decode cX10_draws 144 = .ok (.iload_n 2, 1) := by decide +kernel
theorem dX10_draws_145 : decode cX10_draws 145 = .ok (.isub, 1) := by decide +kernel
theorem dX10_draws_146 : decode cX10_draws 146 = .ok (.iastore, 1) := by decide +kernel
theorem dX10_draws_147 : decode cX10_draws 147 = .ok (.aload_n 0, 1) := by decide +kernel
theorem dX10_draws_148 : decode cX10_draws 148 = .ok (.getfield 7, 3) := by decide +kernel
theorem dX10_draws_151 : decode cX10_draws 151 = .ok (.iload_n 3, 1) := by decide +kernel
theorem dX10_draws_152 : decode cX10_draws 152 = .ok (.bipush 25, 2) := by decide +kernel
theorem dX10_draws_154 : decode cX10_draws 154 = .ok (.iadd, 1) := by decide +kernel
theorem dX10_draws_155 : decode cX10_draws 155 = .ok (.dup2, 1) := by decide +kernel
theorem dX10_draws_156 : decode cX10_draws 156 = .ok (.iaload, 1) := by decide +kernel
theorem dX10_draws_157 : decode cX10_draws 157 = .ok (.iload_n 2, 1) := by decide +kernel
theorem dX10_draws_158 : decode cX10_draws 158 = .ok (.iadd, 1) := by decide +kernel
theorem dX10_draws_159 : decode cX10_draws 159 = .ok (.iastore, 1) := by decide +kernel
theorem dX10_draws_160 : decode cX10_draws 160 = .ok (.iload 4, 2) := by decide +kernel
theorem dX10_draws_162 : decode cX10_draws 162 = .ok (.ireturn, 1) := by decide +kernel
theorem dX10_starts_0 : decode cX10_starts 0 = .ok (.sipush 157, 3) := by decide +kernel
theorem dX10_starts_3 : decode cX10_starts 3 = .ok (.iload_n 1, 1) := by decide +kernel
theorem dX10_starts_4 : decode cX10_starts 4 = .ok (.imul, 1) := by decide +kernel
theorem dX10_starts_5 : decode cX10_starts 5 = .ok (.istore_n 2, 1) := by decide +kernel
theorem dX10_starts_6 : decode cX10_starts 6 = .ok (.aload_n 0, 1) := by decide +kernel
theorem dX10_starts_7 : decode cX10_starts 7 = .ok (.getfield 7, 3) := by decide +kernel
theorem dX10_starts_10 : decode cX10_starts 10 = .ok (.iload_n 2, 1) := by decide +kernel
theorem dX10_starts_11 : decode cX10_starts 11 = .ok (.bipush 18, 2) := by decide +kernel
theorem dX10_starts_13 : decode cX10_starts 13 = .ok (.iadd, 1) := by decide +kernel
theorem dX10_starts_14 : decode cX10_starts 14 = .ok (.iaload, 1) := by decide +kernel
theorem dX10_starts_15 : decode cX10_starts 15 = .ok (.istore_n 3, 1) := by decide +kernel
theorem dX10_starts_16 : decode cX10_starts 16 = .ok (.aload_n 0, 1) := by decide +kernel
theorem dX10_starts_17 : decode cX10_starts 17 = .ok (.getfield 7, 3) := by decide +kernel
theorem dX10_starts_20 : decode cX10_starts 20 = .ok (.iload_n 2, 1) := by decide +kernel
theorem dX10_starts_21 : decode cX10_starts 21 = .ok (.bipush 11, 2) := by decide +kernel
theorem dX10_starts_23 : decode cX10_starts 23 = .ok (.iadd, 1) := by decide +kernel
theorem dX10_starts_24 : decode cX10_starts 24 = .ok (.iconst 0, 1) := by decide +kernel
theorem dX10_starts_25 : decode cX10_starts 25 = .ok (.iastore, 1) := by decide +kernel
theorem dX10_starts_26 : decode cX10_starts 26 = .ok (.aload_n 0, 1) := by decide +kernel
theorem dX10_starts_27 : decode cX10_starts 27 = .ok (.getfield 7, 3) := by decide +kernel
theorem dX10_starts_30 : decode cX10_starts 30 = .ok (.iload_n 2, 1) := by decide +kernel
theorem dX10_starts_31 : decode cX10_starts 31 = .ok (.bipush 13, 2) := by decide +kernel
theorem dX10_starts_33 : decode cX10_starts 33 = .ok (.iadd, 1) := by decide +kernel
theorem dX10_starts_34 : decode cX10_starts 34 = .ok (.bipush 64, 2) := by decide +kernel
theorem dX10_starts_36 : decode cX10_starts 36 = .ok (.iastore, 1) := by decide +kernel
theorem dX10_starts_37 : decode cX10_starts 37 = .ok (.aload_n 0, 1) := by decide +kernel
theorem dX10_starts_38 : decode cX10_starts 38 = .ok (.getfield 7, 3) := by decide +kernel
theorem dX10_starts_41 : decode cX10_starts 41 = .ok (.iload_n 2, 1) := by decide +kernel
theorem dX10_starts_42 : decode cX10_starts 42 = .ok (.bipush 14, 2) := by decide +kernel
theorem dX10_starts_44 : decode cX10_starts 44 = .ok (.iadd, 1) := by decide +kernel
theorem dX10_starts_45 : decode cX10_starts 45 = .ok (.iconst 0, 1) := by decide +kernel
theorem dX10_starts_46 : decode cX10_starts 46 = .ok (.iastore, 1) := by decide +kernel
theorem dX10_starts_47 : decode cX10_starts 47 = .ok (.aload_n 0, 1) := by decide +kernel
theorem dX10_starts_48 : decode cX10_starts 48 = .ok (.getfield 7, 3) := by decide +kernel
theorem dX10_starts_51 : decode cX10_starts 51 = .ok (.iload_n 2, 1) := by decide +kernel
theorem dX10_starts_52 : decode cX10_starts 52 = .ok (.bipush 16, 2) := by decide +kernel
theorem dX10_starts_54 : decode cX10_starts 54 = .ok (.iadd, 1) := by decide +kernel
theorem dX10_starts_55 : decode cX10_starts 55 = .ok (.iconst 0, 1) := by decide +kernel
theorem dX10_starts_56 : decode cX10_starts 56 = .ok (.iastore, 1) := by decide +kernel
theorem dX10_starts_57 : decode cX10_starts 57 = .ok (.aload_n 0, 1) := by decide +kernel
theorem dX10_starts_58 : decode cX10_starts 58 = .ok (.getfield 7, 3) := by decide +kernel
theorem dX10_starts_61 : decode cX10_starts 61 = .ok (.iload_n 2, 1) := by decide +kernel
theorem dX10_starts_62 : decode cX10_starts 62 = .ok (.bipush 17, 2) := by decide +kernel
theorem dX10_starts_64 : decode cX10_starts 64 = .ok (.iadd, 1) := by decide +kernel
theorem dX10_starts_65 : decode cX10_starts 65 = .ok (.iconst 0, 1) := by decide +kernel
theorem dX10_starts_66 : decode cX10_starts 66 = .ok (.iastore, 1) := by decide +kernel
theorem dX10_starts_67 : decode cX10_starts 67 = .ok (.aload_n 0, 1) := by decide +kernel
theorem dX10_starts_68 : decode cX10_starts 68 = .ok (.getfield 7, 3) := by decide +kernel
theorem dX10_starts_71 : decode cX10_starts 71 = .ok (.iload_n 2, 1) := by decide +kernel
theorem dX10_starts_72 : decode cX10_starts 72 = .ok (.bipush 18, 2) := by decide +kernel
theorem dX10_starts_74 : decode cX10_starts 74 = .ok (.iadd, 1) := by decide +kernel
theorem dX10_starts_75 : decode cX10_starts 75 = .ok (.iconst 0, 1) := by decide +kernel
theorem dX10_starts_76 : decode cX10_starts 76 = .ok (.iastore, 1) := by decide +kernel
theorem dX10_starts_77 : decode cX10_starts 77 = .ok (.aload_n 0, 1) := by decide +kernel
theorem dX10_starts_78 : decode cX10_starts 78 = .ok (.getfield 7, 3) := by decide +kernel
theorem dX10_starts_81 : decode cX10_starts 81 = .ok (.iload_n 2, 1) := by decide +kernel
theorem dX10_starts_82 : decode cX10_starts 82 = .ok (.bipush 19, 2) := by decide +kernel
theorem dX10_starts_84 : decode cX10_starts 84 = .ok (.iadd, 1) := by decide +kernel
theorem dX10_starts_85 : decode cX10_starts 85 = .ok (.iconst (-1), 1) := by decide +kernel
theorem dX10_starts_86 : decode cX10_starts 86 = .ok (.iastore, 1) := by decide +kernel
theorem dX10_starts_87 : decode cX10_starts 87 = .ok (.iload_n 3, 1) := by decide +kernel
theorem dX10_starts_88 : decode cX10_starts 88 = .ok (.ireturn, 1) := by decide +kernel
set_option maxRecDepth 20000 in
theorem ggX10_ring_X10_copies : GoodIn wsX10_ring wsX10_copies := goodIn_r _ [5, 6, 20, 21, 22, 23, 24, 25, 26, 27, 28] (by decide +kernel) (by decide +kernel)
set_option maxRecDepth 20000 in
theorem gX10_ring_X10_copies : GoodIn wsX10_ring (wsV RX10 21 RX10 yX10_copies wsX10_copies) := goodIn_app (goodIn_of _ (by decide +kernel)) ggX10_ring_X10_copies
set_option maxRecDepth 20000 in
theorem ggX10_ring_X10_sets : GoodIn wsX10_ring wsX10_sets := goodIn_r _ [10, 11, 6, 12, 13, 4, 14, 20, 21, 22, 23, 24, 25, 26, 27, 28] (by decide +kernel) (by decide +kernel)
set_option maxRecDepth 20000 in
theorem gX10_ring_X10_sets : GoodIn wsX10_ring (wsV RX10 61 RX10 yX10_sets wsX10_sets) := goodIn_app (goodIn_of _ (by decide +kernel)) ggX10_ring_X10_sets
set_option maxRecDepth 20000 in
theorem ggX10_ring_X10_records : GoodIn wsX10_ring wsX10_records := goodIn_r _ [18, 19, 1, 2, 3, 4, 5, 6, 20, 21, 22, 23, 24, 25, 26, 27, 28] (by decide +kernel) (by decide +kernel)
set_option maxRecDepth 20000 in
theorem gX10_ring_X10_records : GoodIn wsX10_ring (wsV RX10 65 RX10 yX10_records wsX10_records) := goodIn_app (goodIn_of _ (by decide +kernel)) ggX10_ring_X10_records
theorem dX10_ring_0 : decode cX10_ring 0 = .ok (.aload_n 0, 1) := by decide +kernel
theorem dX10_ring_1 : decode cX10_ring 1 = .ok (.iconst 0, 1) := by decide +kernel
theorem dX10_ring_2 : decode cX10_ring 2 = .ok (.iconst 5, 1) := by decide +kernel
theorem dX10_ring_3 : decode cX10_ring 3 = .ok (.invokevirtual 21, 3) := by decide +kernel
theorem dX10_ring_6 : decode cX10_ring 6 = .ok (.aload_n 0, 1) := by decide +kernel
theorem dX10_ring_7 : decode cX10_ring 7 = .ok (.iconst 5, 1) := by decide +kernel
theorem dX10_ring_8 : decode cX10_ring 8 = .ok (.iload_n 1, 1) := by decide +kernel
theorem dX10_ring_9 : decode cX10_ring 9 = .ok (.iload_n 2, 1) := by decide +kernel
theorem dX10_ring_10 : decode cX10_ring 10 = .ok (.iload_n 3, 1) := by decide +kernel
theorem dX10_ring_11 : decode cX10_ring 11 = .ok (.invokevirtual 61, 3) := by decide +kernel
theorem dX10_ring_14 : decode cX10_ring 14 = .ok (.istore 4, 2) := by decide +kernel
theorem dX10_ring_16 : decode cX10_ring 16 = .ok (.iload 4, 2) := by decide +kernel
theorem dX10_ring_18 : decode cX10_ring 18 = .ok (.ifCond .lt 13, 3) := by decide +kernel
theorem dX10_ring_21 : decode cX10_ring 21 = .ok (.aload_n 0, 1) := by decide +kernel
theorem dX10_ring_22 : decode cX10_ring 22 = .ok (.invokevirtual 65, 3) := by decide +kernel
theorem dX10_ring_25 : decode cX10_ring 25 = .ok (.aload_n 0, 1) := by decide +kernel
theorem dX10_ring_26 : decode cX10_ring 26 = .ok (.iconst 5, 1) := by decide +kernel
theorem dX10_ring_27 : decode cX10_ring 27 = .ok (.iconst 0, 1) := by decide +kernel
theorem dX10_ring_28 : decode cX10_ring 28 = .ok (.invokevirtual 21, 3) := by decide +kernel
theorem dX10_ring_31 : decode cX10_ring 31 = .ok (.iload 4, 2) := by decide +kernel
theorem dX10_ring_33 : decode cX10_ring 33 = .ok (.ireturn, 1) := by decide +kernel
set_option maxRecDepth 20000 in
theorem ggX10_noise_X10_in : GoodIn wsX10_noise wsX10_in := goodIn_r _ [7] (by decide +kernel) (by decide +kernel)
set_option maxRecDepth 20000 in
theorem gX10_noise_X10_in : GoodIn wsX10_noise (va_wsS RX10 30 yX10_in wsX10_in) := goodIn_app (goodIn_of _ (by decide +kernel)) ggX10_noise_X10_in
set_option maxRecDepth 20000 in
theorem ggX10_noise_X10_records : GoodIn wsX10_noise wsX10_records := goodIn_r _ [11, 12, 13, 14, 15, 6, 16, 3, 17, 18, 19, 20, 21, 22, 23, 24, 25] (by decide +kernel) (by decide +kernel)
set_option maxRecDepth 20000 in
theorem gX10_noise_X10_records : GoodIn wsX10_noise (wsV RX10 65 RX10 yX10_records wsX10_records) := goodIn_app (goodIn_of _ (by decide +kernel)) ggX10_noise_X10_records
theorem dX10_noise_0 : decode cX10_noise 0 = .ok (.iload_n 1, 1) := by decide +kernel
theorem dX10_noise_1 : decode cX10_noise 1 = .ok (.iconst 1, 1) := by decide +kernel
theorem dX10_noise_2 : decode cX10_noise 2 = .ok (.ldc 68, 2) := by decide +kernel
theorem dX10_noise_4 : decode cX10_noise 4 = .ok (.invokestatic 30, 3) := by decide +kernel
theorem dX10_noise_7 : decode cX10_noise 7 = .ok (.ifCond .ne 6, 3) := by decide +kernel
theorem dX10_noise_10 : decode cX10_noise 10 = .ok (.ldc 59, 2) := by decide +kernel
theorem dX10_noise_12 : decode cX10_noise 12 = .ok (.ireturn, 1) := by decide +kernel
theorem dX10_noise_13 : decode cX10_noise 13 = .ok (.aload_n 0, 1) := by decide +kernel
theorem dX10_noise_14 : decode cX10_noise 14 = .ok (.invokevirtual 65, 3) := by decide +kernel
theorem dX10_noise_17 : decode cX10_noise 17 = .ok (.aload_n 0, 1) := by decide +kernel
theorem dX10_noise_18 : decode cX10_noise 18 = .ok (.getfield 7, 3) := by decide +kernel
theorem dX10_noise_21 : decode cX10_noise 21 = .ok (.iconst 0, 1) := by decide +kernel
theorem dX10_noise_22 : decode cX10_noise 22 = .ok (.iaload, 1) := by decide +kernel
theorem dX10_noise_23 : decode cX10_noise 23 = .ok (.istore_n 2, 1) := by decide +kernel
theorem dX10_noise_24 : decode cX10_noise 24 = .ok (.aload_n 0, 1) := by decide +kernel
theorem dX10_noise_25 : decode cX10_noise 25 = .ok (.getfield 7, 3) := by decide +kernel
theorem dX10_noise_28 : decode cX10_noise 28 = .ok (.iconst 0, 1) := by decide +kernel
theorem dX10_noise_29 : decode cX10_noise 29 = .ok (.iload_n 1, 1) := by decide +kernel
theorem dX10_noise_30 : decode cX10_noise 30 = .ok (.iastore, 1) := by decide +kernel
theorem dX10_noise_31 : decode cX10_noise 31 = .ok (.iload_n 2, 1) := by decide +kernel
theorem dX10_noise_32 : decode cX10_noise 32 = .ok (.ireturn, 1) := by decide +kernel
set_option maxRecDepth 20000 in
theorem ggX10_sample_X10_in : GoodIn wsX10_sample wsX10_in := goodIn_r _ [5] (by decide +kernel) (by decide +kernel)
set_option maxRecDepth 20000 in
theorem gX10_sample_X10_in : GoodIn wsX10_sample (va_wsS RX10 30 yX10_in wsX10_in) := goodIn_app (goodIn_of _ (by decide +kernel)) ggX10_sample_X10_in
set_option maxRecDepth 20000 in
theorem ggX10_sample_X10_records : GoodIn wsX10_sample wsX10_records := goodIn_r _ [9, 10, 11, 12, 13, 4, 14, 15, 53, 54, 55, 56, 57, 58, 59, 60, 61] (by decide +kernel) (by decide +kernel)
set_option maxRecDepth 20000 in
theorem gX10_sample_X10_records : GoodIn wsX10_sample (wsV RX10 65 RX10 yX10_records wsX10_records) := goodIn_app (goodIn_of _ (by decide +kernel)) ggX10_sample_X10_records
set_option maxRecDepth 20000 in
theorem ggX10_sample_X10_makes : GoodIn wsX10_sample wsX10_makes := goodIn_r _ [19, 15, 20, 21, 22, 4, 23, 24, 25, 26, 27, 28, 29, 30, 31, 32, 33, 34, 35, 36, 37, 38, 39, 40, 41, 42, 43, 44, 45, 46, 47, 48, 2, 3, 5, 49, 50, 51, 52, 53, 54, 55, 56, 57, 58, 59, 60, 61] (by decide +kernel) (by decide +kernel)
set_option maxRecDepth 20000 in
theorem gX10_sample_X10_makes : GoodIn wsX10_sample (wsV RX10 69 RX10 yX10_makes wsX10_makes) := goodIn_app (goodIn_of _ (by decide +kernel)) ggX10_sample_X10_makes
theorem dX10_sample_0 : decode cX10_sample 0 = .ok (.iload_n 1, 1) := by decide +kernel
theorem dX10_sample_1 : decode cX10_sample 1 = .ok (.iconst 1, 1) := by decide +kernel
theorem dX10_sample_2 : decode cX10_sample 2 = .ok (.sipush 300, 3) := by decide +kernel
theorem dX10_sample_5 : decode cX10_sample 5 = .ok (.invokestatic 30, 3) := by decide +kernel
theorem dX10_sample_8 : decode cX10_sample 8 = .ok (.ifCond .ne 6, 3) := by decide +kernel
theorem dX10_sample_11 : decode cX10_sample 11 = .ok (.ldc 59, 2) := by decide +kernel
theorem dX10_sample_13 : decode cX10_sample 13 = .ok (.ireturn, 1) := by decide +kernel
theorem dX10_sample_14 : decode cX10_sample 14 = .ok (.aload_n 0, 1) := by decide +kernel
theorem dX10_sample_15 : decode cX10_sample 15 = .ok (.invokevirtual 65, 3) := by decide +kernel
theorem dX10_sample_18 : decode cX10_sample 18 = .ok (.aload_n 0, 1) := by decide +kernel
theorem dX10_sample_19 : decode cX10_sample 19 = .ok (.iconst 0, 1) := by decide +kernel
theorem dX10_sample_20 : decode cX10_sample 20 = .ok (.iload_n 1, 1) := by decide +kernel
theorem dX10_sample_21 : decode cX10_sample 21 = .ok (.invokevirtual 69, 3) := by decide +kernel
theorem dX10_sample_24 : decode cX10_sample 24 = .ok (.ireturn, 1) := by decide +kernel
set_option maxRecDepth 20000 in
theorem ggX10_draw_X10_copies : GoodIn wsX10_draw wsX10_copies := goodIn_r _ [5, 6, 21, 22, 23, 24, 25, 26, 27, 28, 29] (by decide +kernel) (by decide +kernel)
set_option maxRecDepth 20000 in
theorem gX10_draw_X10_copies : GoodIn wsX10_draw (wsV RX10 21 RX10 yX10_copies wsX10_copies) := goodIn_app (goodIn_of _ (by decide +kernel)) ggX10_draw_X10_copies
set_option maxRecDepth 20000 in
theorem ggX10_draw_X10_draws : GoodIn wsX10_draw wsX10_draws := goodIn_r _ [10, 11, 6, 12, 13, 14, 4, 15, 21, 22, 23, 24, 25, 26, 27, 28, 29] (by decide +kernel) (by decide +kernel)
set_option maxRecDepth 20000 in
theorem gX10_draw_X10_draws : GoodIn wsX10_draw (wsV RX10 72 RX10 yX10_draws wsX10_draws) := goodIn_app (goodIn_of _ (by decide +kernel)) ggX10_draw_X10_draws
set_option maxRecDepth 20000 in
theorem ggX10_draw_X10_records : GoodIn wsX10_draw wsX10_records := goodIn_r _ [19, 20, 1, 2, 3, 4, 5, 6, 21, 22, 23, 24, 25, 26, 27, 28, 29] (by decide +kernel) (by decide +kernel)
set_option maxRecDepth 20000 in
theorem gX10_draw_X10_records : GoodIn wsX10_draw (wsV RX10 65 RX10 yX10_records wsX10_records) := goodIn_app (goodIn_of _ (by decide +kernel)) ggX10_draw_X10_records
theorem dX10_draw_0 : decode cX10_draw 0 = .ok (.aload_n 0, 1) := by decide +kernel
theorem dX10_draw_1 : decode cX10_draw 1 = .ok (.iconst 0, 1) := by decide +kernel
theorem dX10_draw_2 : decode cX10_draw 2 = .ok (.iconst 5, 1) := by decide +kernel
theorem dX10_draw_3 : decode cX10_draw 3 = .ok (.invokevirtual 21, 3) := by decide +kernel
theorem dX10_draw_6 : decode cX10_draw 6 = .ok (.aload_n 0, 1) := by decide +kernel
theorem dX10_draw_7 : decode cX10_draw 7 = .ok (.iconst 5, 1) := by decide +kernel
theorem dX10_draw_8 : decode cX10_draw 8 = .ok (.iload_n 1, 1) := by decide +kernel
theorem dX10_draw_9 : decode cX10_draw 9 = .ok (.invokevirtual 72, 3) := by decide +kernel
theorem dX10_draw_12 : decode cX10_draw 12 = .ok (.istore_n 2, 1) := by decide +kernel
theorem dX10_draw_13 : decode cX10_draw 13 = .ok (.iload_n 2, 1) := by decide +kernel
theorem dX10_draw_14 : decode cX10_draw 14 = .ok (.ifCond .lt 13, 3) := by decide +kernel
theorem dX10_draw_17 : decode cX10_draw 17 = .ok (.aload_n 0, 1) := by decide +kernel
theorem dX10_draw_18 : decode cX10_draw 18 = .ok (.invokevirtual 65, 3) := by decide +kernel
theorem dX10_draw_21 : decode cX10_draw 21 = .ok (.aload_n 0, 1) := by decide +kernel
theorem dX10_draw_22 : decode cX10_draw 22 = .ok (.iconst 5, 1) := by decide +kernel
theorem dX10_draw_23 : decode cX10_draw 23 = .ok (.iconst 0, 1) := by decide +kernel
theorem dX10_draw_24 : decode cX10_draw 24 = .ok (.invokevirtual 21, 3) := by decide +kernel
theorem dX10_draw_27 : decode cX10_draw 27 = .ok (.iload_n 2, 1) := by decide +kernel
theorem dX10_draw_28 : decode cX10_draw 28 = .ok (.ireturn, 1) := by decide +kernel
set_option maxRecDepth 20000 in
theorem ggX10_restart_X10_records : GoodIn wsX10_restart wsX10_records := goodIn_r _ [5, 6, 7, 8, 9, 4, 10, 11, 16, 17, 18, 19, 20, 21, 22, 23, 24] (by decide +kernel) (by decide +kernel)
set_option maxRecDepth 20000 in
theorem gX10_restart_X10_records : GoodIn wsX10_restart (wsV RX10 65 RX10 yX10_records wsX10_records) := goodIn_app (goodIn_of _ (by decide +kernel)) ggX10_restart_X10_records
set_option maxRecDepth 20000 in
theorem ggX10_restart_X10_starts : GoodIn wsX10_restart wsX10_starts := goodIn_r _ [15, 11, 16, 17, 18, 19, 20, 21, 22, 23, 24] (by decide +kernel) (by decide +kernel)
set_option maxRecDepth 20000 in
theorem gX10_restart_X10_starts : GoodIn wsX10_restart (wsV RX10 75 RX10 yX10_starts wsX10_starts) := goodIn_app (goodIn_of _ (by decide +kernel)) ggX10_restart_X10_starts
theorem dX10_restart_0 : decode cX10_restart 0 = .ok (.aload_n 0, 1) := by decide +kernel
theorem dX10_restart_1 : decode cX10_restart 1 = .ok (.invokevirtual 65, 3) := by decide +kernel
theorem dX10_restart_4 : decode cX10_restart 4 = .ok (.aload_n 0, 1) := by decide +kernel
theorem dX10_restart_5 : decode cX10_restart 5 = .ok (.iconst 0, 1) := by decide +kernel
theorem dX10_restart_6 : decode cX10_restart 6 = .ok (.invokevirtual 75, 3) := by decide +kernel
theorem dX10_restart_9 : decode cX10_restart 9 = .ok (.ireturn, 1) := by decide +kernel
set_option maxRecDepth 20000 in
theorem ggX10_set_X10_in : GoodIn wsX10_set wsX10_in := goodIn_r _ [6] (by decide +kernel) (by decide +kernel)
set_option maxRecDepth 20000 in
theorem gX10_set_X10_in : GoodIn wsX10_set (va_wsS RX10 30 yX10_in wsX10_in) := goodIn_app (goodIn_of _ (by decide +kernel)) ggX10_set_X10_in
set_option maxRecDepth 20000 in
theorem ggX10_set_X10_records : GoodIn wsX10_set wsX10_records := goodIn_r _ [10, 11, 12, 13, 14, 5, 15, 2, 16, 17, 18, 19, 20, 21, 22, 23, 24] (by decide +kernel) (by decide +kernel)
set_option maxRecDepth 20000 in
theorem gX10_set_X10_records : GoodIn wsX10_set (wsV RX10 65 RX10 yX10_records wsX10_records) := goodIn_app (goodIn_of _ (by decide +kernel)) ggX10_set_X10_records
theorem dX10_set_0 : decode cX10_set 0 = .ok (.iload_n 1, 1) := by decide +kernel
theorem dX10_set_1 : decode cX10_set 1 = .ok (.ifCond .ne 14, 3) := by decide +kernel
theorem dX10_set_4 : decode cX10_set 4 = .ok (.iload_n 2, 1) := by decide +kernel
theorem dX10_set_5 : decode cX10_set 5 = .ok (.iconst 1, 1) := by decide +kernel
theorem dX10_set_6 : decode cX10_set 6 = .ok (.sipush 500, 3) := by decide +kernel
theorem dX10_set_9 : decode cX10_set 9 = .ok (.invokestatic 30, 3) := by decide +kernel
theorem dX10_set_12 : decode cX10_set 12 = .ok (.goto 53, 3) := by decide +kernel
theorem dX10_set_15 : decode cX10_set 15 = .ok (.iload_n 1, 1) := by decide +kernel
theorem dX10_set_16 : decode cX10_set 16 = .ok (.iconst 1, 1) := by decide +kernel
theorem dX10_set_17 : decode cX10_set 17 = .ok (.if_icmp .ne 13, 3) := by decide +kernel
theorem dX10_set_20 : decode cX10_set 20 = .ok (.iload_n 2, 1) := by decide +kernel
theorem dX10_set_21 : decode cX10_set 21 = .ok (.iconst 0, 1) := by decide +kernel
theorem dX10_set_22 : decode cX10_set 22 = .ok (.bipush 50, 2) := by decide +kernel
theorem dX10_set_24 : decode cX10_set 24 = .ok (.invokestatic 30, 3) := by decide +kernel
theorem dX10_set_27 : decode cX10_set 27 = .ok (.goto 38, 3) := by decide +kernel
theorem dX10_set_30 : decode cX10_set 30 = .ok (.iload_n 1, 1) := by decide +kernel
theorem dX10_set_31 : decode cX10_set 31 = .ok (.iconst 2, 1) := by decide +kernel
theorem dX10_set_32 : decode cX10_set 32 = .ok (.if_icmp .ne 13, 3) := by decide +kernel
theorem dX10_set_35 : decode cX10_set 35 = .ok (.iload_n 2, 1) := by decide +kernel
theorem dX10_set_36 : decode cX10_set 36 = .ok (.iconst 2, 1) := by decide +kernel
theorem dX10_set_37 : decode cX10_set 37 = .ok (.bipush 40, 2) := by decide +kernel
theorem dX10_set_39 : decode cX10_set 39 = .ok (.invokestatic 30, 3) := by decide +kernel
theorem dX10_set_42 : decode cX10_set 42 = .ok (.goto 23, 3) := by decide +kernel
theorem dX10_set_45 : decode cX10_set 45 = .ok (.iload_n 1, 1) := by decide +kernel
theorem dX10_set_46 : decode cX10_set 46 = .ok (.iconst 3, 1) := by decide +kernel
theorem dX10_set_47 : decode cX10_set 47 = .ok (.if_icmp .ne 17, 3) := by decide +kernel
theorem dX10_set_50 : decode cX10_set 50 = .ok (.iload_n 2, 1) := by decide +kernel
theorem dX10_set_51 : decode cX10_set 51 = .ok (.iconst 0, 1) := by decide +kernel
theorem dX10_set_52 : decode cX10_set 52 = .ok (.bipush 16, 2) := by decide +kernel
theorem dX10_set_54 : decode cX10_set 54 = .ok (.invokestatic 30, 3) := by decide +kernel
theorem dX10_set_57 : decode cX10_set 57 = .ok (.ifCond .eq 7, 3) := by decide +kernel
theorem dX10_set_60 : decode cX10_set 60 = .ok (.iconst 1, 1) := by decide +kernel
theorem dX10_set_61 : decode cX10_set 61 = .ok (.goto 4, 3) := by decide +kernel
theorem dX10_set_64 : decode cX10_set 64 = .ok (.iconst 0, 1) := by decide +kernel
theorem dX10_set_65 : decode cX10_set 65 = .ok (.istore_n 3, 1) := by decide +kernel
theorem dX10_set_66 : decode cX10_set 66 = .ok (.iload_n 3, 1) := by decide +kernel
theorem dX10_set_67 : decode cX10_set 67 = .ok (.ifCond .ne 6, 3) := by decide +kernel
theorem dX10_set_70 : decode cX10_set 70 = .ok (.ldc 59, 2) := by decide +kernel
theorem dX10_set_72 : decode cX10_set 72 = .ok (.ireturn, 1) := by decide +kernel
theorem dX10_set_73 : decode cX10_set 73 = .ok (.aload_n 0, 1) := by decide +kernel
theorem dX10_set_74 : decode cX10_set 74 = .ok (.invokevirtual 65, 3) := by decide +kernel
theorem dX10_set_77 : decode cX10_set 77 = .ok (.aload_n 0, 1) := by decide +kernel
theorem dX10_set_78 : decode cX10_set 78 = .ok (.getfield 7, 3) := by decide +kernel
theorem dX10_set_81 : decode cX10_set 81 = .ok (.bipush 7, 2) := by decide +kernel
theorem dX10_set_83 : decode cX10_set 83 = .ok (.iload_n 1, 1) := by decide +kernel
theorem dX10_set_84 : decode cX10_set 84 = .ok (.iadd, 1) := by decide +kernel
theorem dX10_set_85 : decode cX10_set 85 = .ok (.iaload, 1) := by decide +kernel
theorem dX10_set_86 : decode cX10_set 86 = .ok (.istore 4, 2) := by decide +kernel
theorem dX10_set_88 : decode cX10_set 88 = .ok (.aload_n 0, 1) := by decide +kernel
theorem dX10_set_89 : decode cX10_set 89 = .ok (.getfield 7, 3) := by decide +kernel
theorem dX10_set_92 : decode cX10_set 92 = .ok (.bipush 7, 2) := by decide +kernel
theorem dX10_set_94 : decode cX10_set 94 = .ok (.iload_n 1, 1) := by decide +kernel
theorem dX10_set_95 : decode cX10_set 95 = .ok (.iadd, 1) := by decide +kernel
theorem dX10_set_96 : decode cX10_set 96 = .ok (.iload_n 2, 1) := by decide +kernel
theorem dX10_set_97 : decode cX10_set 97 = .ok (.iastore, 1) := by decide +kernel
theorem dX10_set_98 : decode cX10_set 98 = .ok (.iload 4, 2) := by decide +kernel
theorem dX10_set_100 : decode cX10_set 100 = .ok (.ireturn, 1) := by decide +kernel
set_option maxRecDepth 20000 in
theorem ggX10_ringOf_X10_in : GoodIn wsX10_ringOf wsX10_in := goodIn_r _ [6] (by decide +kernel) (by decide +kernel)
set_option maxRecDepth 20000 in
theorem gX10_ringOf_X10_in : GoodIn wsX10_ringOf (va_wsS RX10 30 yX10_in wsX10_in) := goodIn_app (goodIn_of _ (by decide +kernel)) ggX10_ringOf_X10_in
set_option maxRecDepth 20000 in
theorem ggX10_ringOf_X10_isHigh : GoodIn wsX10_ringOf wsX10_isHigh := goodIn_r _ [10, 2, 11, 12, 13, 14, 15, 16, 17, 18, 19] (by decide +kernel) (by decide +kernel)
set_option maxRecDepth 20000 in
theorem gX10_ringOf_X10_isHigh : GoodIn wsX10_ringOf (wsV RX10 41 RX10 yX10_isHigh wsX10_isHigh) := goodIn_app (goodIn_of _ (by decide +kernel)) ggX10_ringOf_X10_isHigh
theorem dX10_ringOf_0 : decode cX10_ringOf 0 = .ok (.iload_n 1, 1) := by decide +kernel
theorem dX10_ringOf_1 : decode cX10_ringOf 1 = .ok (.iconst 0, 1) := by decide +kernel
theorem dX10_ringOf_2 : decode cX10_ringOf 2 = .ok (.iconst 1, 1) := by decide +kernel
theorem dX10_ringOf_3 : decode cX10_ringOf 3 = .ok (.invokestatic 30, 3) := by decide +kernel
theorem dX10_ringOf_6 : decode cX10_ringOf 6 = .ok (.ifCond .eq 12, 3) := by decide +kernel
theorem dX10_ringOf_9 : decode cX10_ringOf 9 = .ok (.iload_n 2, 1) := by decide +kernel
theorem dX10_ringOf_10 : decode cX10_ringOf 10 = .ok (.iconst 0, 1) := by decide +kernel
theorem dX10_ringOf_11 : decode cX10_ringOf 11 = .ok (.iconst 3, 1) := by decide +kernel
theorem dX10_ringOf_12 : decode cX10_ringOf 12 = .ok (.invokestatic 30, 3) := by decide +kernel
theorem dX10_ringOf_15 : decode cX10_ringOf 15 = .ok (.ifCond .ne 6, 3) := by decide +kernel
theorem dX10_ringOf_18 : decode cX10_ringOf 18 = .ok (.ldc 59, 2) := by decide +kernel
theorem dX10_ringOf_20 : decode cX10_ringOf 20 = .ok (.ireturn, 1) := by decide +kernel
theorem dX10_ringOf_21 : decode cX10_ringOf 21 = .ok (.iload_n 2, 1) := by decide +kernel
theorem dX10_ringOf_22 : decode cX10_ringOf 22 = .ok (.iconst 3, 1) := by decide +kernel
theorem dX10_ringOf_23 : decode cX10_ringOf 23 = .ok (.if_icmp .ne 20, 3) := by decide +kernel
theorem dX10_ringOf_26 : decode cX10_ringOf 26 = .ok (.aload_n 0, 1) := by decide +kernel
theorem dX10_ringOf_27 : decode cX10_ringOf 27 = .ok (.iconst 0, 1) := by decide +kernel
theorem dX10_ringOf_28 : decode cX10_ringOf 28 = .ok (.iload_n 1, 1) := by decide +kernel
theorem dX10_ringOf_29 : decode cX10_ringOf 29 = .ok (.invokevirtual 41, 3) := by decide +kernel
theorem dX10_ringOf_32 : decode cX10_ringOf 32 = .ok (.ifCond .eq 7, 3) := by decide +kernel
theorem dX10_ringOf_35 : decode cX10_ringOf 35 = .ok (.iconst 1, 1) := by decide +kernel
theorem dX10_ringOf_36 : decode cX10_ringOf 36 = .ok (.goto 19, 3) := by decide +kernel
theorem dX10_ringOf_39 : decode cX10_ringOf 39 = .ok (.iconst 0, 1) := by decide +kernel
theorem dX10_ringOf_40 : decode cX10_ringOf 40 = .ok (.goto 15, 3) := by decide +kernel
theorem dX10_ringOf_43 : decode cX10_ringOf 43 = .ok (.aload_n 0, 1) := by decide +kernel
theorem dX10_ringOf_44 : decode cX10_ringOf 44 = .ok (.getfield 7, 3) := by decide +kernel
theorem dX10_ringOf_47 : decode cX10_ringOf 47 = .ok (.iconst 1, 1) := by decide +kernel
theorem dX10_ringOf_48 : decode cX10_ringOf 48 = .ok (.iconst 2, 1) := by decide +kernel
theorem dX10_ringOf_49 : decode cX10_ringOf 49 = .ok (.iload_n 2, 1) := by decide +kernel
theorem dX10_ringOf_50 : decode cX10_ringOf 50 = .ok (.imul, 1) := by decide +kernel
theorem dX10_ringOf_51 : decode cX10_ringOf 51 = .ok (.iadd, 1) := by decide +kernel
theorem dX10_ringOf_52 : decode cX10_ringOf 52 = .ok (.iload_n 1, 1) := by decide +kernel
theorem dX10_ringOf_53 : decode cX10_ringOf 53 = .ok (.iadd, 1) := by decide +kernel
theorem dX10_ringOf_54 : decode cX10_ringOf 54 = .ok (.iaload, 1) := by decide +kernel
theorem dX10_ringOf_55 : decode cX10_ringOf 55 = .ok (.ireturn, 1) := by decide +kernel
set_option maxRecDepth 20000 in
theorem ggX10_source_X10_locks : GoodIn wsX10_source wsX10_locks := goodIn_r _ [8, 1, 9, 10, 11, 12, 13, 14, 15, 16, 17] (by decide +kernel) (by decide +kernel)
set_option maxRecDepth 20000 in
theorem gX10_source_X10_locks : GoodIn wsX10_source (wsV RX10 37 RX10 yX10_locks wsX10_locks) := goodIn_app (goodIn_of _ (by decide +kernel)) ggX10_source_X10_locks
theorem dX10_source_0 : decode cX10_source 0 = .ok (.iload_n 1, 1) := by decide +kernel
theorem dX10_source_1 : decode cX10_source 1 = .ok (.tableswitch 186 0 9 #[55, 63, 87, 110, 118, 126, 134, 142, 165, 179], 55) := by decide +kernel
theorem dX10_source_56 : decode cX10_source 56 = .ok (.aload_n 0, 1) := by decide +kernel
theorem dX10_source_57 : decode cX10_source 57 = .ok (.getfield 7, 3) := by decide +kernel
theorem dX10_source_60 : decode cX10_source 60 = .ok (.bipush 11, 2) := by decide +kernel
theorem dX10_source_62 : decode cX10_source 62 = .ok (.iaload, 1) := by decide +kernel
theorem dX10_source_63 : decode cX10_source 63 = .ok (.ireturn, 1) := by decide +kernel
theorem dX10_source_64 : decode cX10_source 64 = .ok (.aload_n 0, 1) := by decide +kernel
theorem dX10_source_65 : decode cX10_source 65 = .ok (.getfield 7, 3) := by decide +kernel
theorem dX10_source_68 : decode cX10_source 68 = .ok (.bipush 11, 2) := by decide +kernel
theorem dX10_source_70 : decode cX10_source 70 = .ok (.iaload, 1) := by decide +kernel
theorem dX10_source_71 : decode cX10_source 71 = .ok (.iconst 2, 1) := by decide +kernel
theorem dX10_source_72 : decode cX10_source 72 = .ok (.if_icmp .ne 13, 3) := by decide +kernel
theorem dX10_source_75 : decode cX10_source 75 = .ok (.aload_n 0, 1) := by decide +kernel
theorem dX10_source_76 : decode cX10_source 76 = .ok (.getfield 7, 3) := by decide +kernel
theorem dX10_source_79 : decode cX10_source 79 = .ok (.bipush 12, 2) := by decide +kernel
theorem dX10_source_81 : decode cX10_source 81 = .ok (.iaload, 1) := by decide +kernel
theorem dX10_source_82 : decode cX10_source 82 = .ok (.goto 5, 3) := by decide +kernel
theorem dX10_source_85 : decode cX10_source 85 = .ok (.ldc 78, 2) := by decide +kernel
theorem dX10_source_87 : decode cX10_source 87 = .ok (.ireturn, 1) := by decide +kernel
theorem dX10_source_88 : decode cX10_source 88 = .ok (.aload_n 0, 1) := by decide +kernel
theorem dX10_source_89 : decode cX10_source 89 = .ok (.getfield 7, 3) := by decide +kernel
theorem dX10_source_92 : decode cX10_source 92 = .ok (.bipush 11, 2) := by decide +kernel
theorem dX10_source_94 : decode cX10_source 94 = .ok (.iaload, 1) := by decide +kernel
theorem dX10_source_95 : decode cX10_source 95 = .ok (.ifCond .ne 13, 3) := by decide +kernel
theorem dX10_source_98 : decode cX10_source 98 = .ok (.aload_n 0, 1) := by decide +kernel
theorem dX10_source_99 : decode cX10_source 99 = .ok (.getfield 7, 3) := by decide +kernel
theorem dX10_source_102 : decode cX10_source 102 = .ok (.bipush 13, 2) := by decide +kernel
theorem dX10_source_104 : decode cX10_source 104 = .ok (.iaload, 1) := by decide +kernel
theorem dX10_source_105 : decode cX10_source 105 = .ok (.goto 5, 3) := by decide +kernel
theorem dX10_source_108 : decode cX10_source 108 = .ok (.ldc 78, 2) := by decide +kernel
theorem dX10_source_110 : decode cX10_source 110 = .ok (.ireturn, 1) := by decide +kernel
theorem dX10_source_111 : decode cX10_source 111 = .ok (.aload_n 0, 1) := by decide +kernel
theorem dX10_source_112 : decode cX10_source 112 = .ok (.getfield 7, 3) := by decide +kernel
theorem dX10_source_115 : decode cX10_source 115 = .ok (.bipush 14, 2) := by decide +kernel
theorem dX10_source_117 : decode cX10_source 117 = .ok (.iaload, 1) := by decide +kernel
theorem dX10_source_118 : decode cX10_source 118 = .ok (.ireturn, 1) := by decide +kernel
theorem dX10_source_119 : decode cX10_source 119 = .ok (.aload_n 0, 1) := by decide +kernel
theorem dX10_source_120 : decode cX10_source 120 = .ok (.getfield 7, 3) := by decide +kernel
theorem dX10_source_123 : decode cX10_source 123 = .ok (.bipush 16, 2) := by decide +kernel
theorem dX10_source_125 : decode cX10_source 125 = .ok (.iaload, 1) := by decide +kernel
theorem dX10_source_126 : decode cX10_source 126 = .ok (.ireturn, 1) := by decide +kernel
theorem dX10_source_127 : decode cX10_source 127 = .ok (.aload_n 0, 1) := by decide +kernel
theorem dX10_source_128 : decode cX10_source 128 = .ok (.getfield 7, 3) := by decide +kernel
theorem dX10_source_131 : decode cX10_source 131 = .ok (.bipush 17, 2) := by decide +kernel
theorem dX10_source_133 : decode cX10_source 133 = .ok (.iaload, 1) := by decide +kernel
theorem dX10_source_134 : decode cX10_source 134 = .ok (.ireturn, 1) := by decide +kernel
theorem dX10_source_135 : decode cX10_source 135 = .ok (.aload_n 0, 1) := by decide +kernel
theorem dX10_source_136 : decode cX10_source 136 = .ok (.getfield 7, 3) := by decide +kernel
theorem dX10_source_139 : decode cX10_source 139 = .ok (.bipush 18, 2) := by decide +kernel
theorem dX10_source_141 : decode cX10_source 141 = .ok (.iaload, 1) := by decide +kernel
theorem dX10_source_142 : decode cX10_source 142 = .ok (.ireturn, 1) := by decide +kernel
theorem dX10_source_143 : decode cX10_source 143 = .ok (.aload_n 0, 1) := by decide +kernel
theorem dX10_source_144 : decode cX10_source 144 = .ok (.getfield 7, 3) := by decide +kernel
theorem dX10_source_147 : decode cX10_source 147 = .ok (.bipush 19, 2) := by decide +kernel
theorem dX10_source_149 : decode cX10_source 149 = .ok (.iaload, 1) := by decide +kernel
theorem dX10_source_150 : decode cX10_source 150 = .ok (.ifCond .ge 8, 3) := by decide +kernel
theorem dX10_source_153 : decode cX10_source 153 = .ok (.ldc 78, 2) := by decide +kernel
theorem dX10_source_155 : decode cX10_source 155 = .ok (.goto 10, 3) := by decide +kernel
theorem dX10_source_158 : decode cX10_source 158 = .ok (.aload_n 0, 1) := by decide +kernel
theorem dX10_source_159 : decode cX10_source 159 = .ok (.getfield 7, 3) := by decide +kernel
theorem dX10_source_162 : decode cX10_source 162 = .ok (.bipush 19, 2) := by decide +kernel
theorem dX10_source_164 : decode cX10_source 164 = .ok (.iaload, 1) := by decide +kernel
theorem dX10_source_165 : decode cX10_source 165 = .ok (.ireturn, 1) := by decide +kernel
theorem dX10_source_166 : decode cX10_source 166 = .ok (.aload_n 0, 1) := by decide +kernel
theorem dX10_source_167 : decode cX10_source 167 = .ok (.iconst 0, 1) := by decide +kernel
theorem dX10_source_168 : decode cX10_source 168 = .ok (.invokevirtual 37, 3) := by decide +kernel
theorem dX10_source_171 : decode cX10_source 171 = .ok (.ifCond .eq 7, 3) := by decide +kernel
theorem dX10_source_174 : decode cX10_source 174 = .ok (.iconst 1, 1) := by decide +kernel
theorem dX10_source_175 : decode cX10_source 175 = .ok (.goto 4, 3) := by decide +kernel
theorem dX10_source_178 : decode cX10_source 178 = .ok (.iconst 0, 1) := by decide +kernel
theorem dX10_source_179 : decode cX10_source 179 = .ok (.ireturn, 1) := by decide +kernel
theorem dX10_source_180 : decode cX10_source 180 = .ok (.aload_n 0, 1) := by decide +kernel
theorem dX10_source_181 : decode cX10_source 181 = .ok (.getfield 7, 3) := by decide +kernel
theorem dX10_source_184 : decode cX10_source 184 = .ok (.iconst 0, 1) := by decide +kernel
theorem dX10_source_185 : decode cX10_source 185 = .ok (.iaload, 1) := by decide +kernel
theorem dX10_source_186 : decode cX10_source 186 = .ok (.ireturn, 1) := by decide +kernel
theorem dX10_source_187 : decode cX10_source 187 = .ok (.ldc 59, 2) := by decide +kernel
theorem dX10_source_189 : decode cX10_source 189 = .ok (.ireturn, 1) := by decide +kernel
set_option maxRecDepth 20000 in
theorem ggX10_raw_X10_in : GoodIn wsX10_raw wsX10_in := goodIn_r _ [7] (by decide +kernel) (by decide +kernel)
set_option maxRecDepth 20000 in
theorem gX10_raw_X10_in : GoodIn wsX10_raw (va_wsS RX10 30 yX10_in wsX10_in) := goodIn_app (goodIn_of _ (by decide +kernel)) ggX10_raw_X10_in
theorem dX10_raw_0 : decode cX10_raw 0 = .ok (.iload_n 1, 1) := by decide +kernel
theorem dX10_raw_1 : decode cX10_raw 1 = .ok (.iconst 0, 1) := by decide +kernel
theorem dX10_raw_2 : decode cX10_raw 2 = .ok (.bipush 63, 2) := by decide +kernel
theorem dX10_raw_4 : decode cX10_raw 4 = .ok (.invokestatic 30, 3) := by decide +kernel
theorem dX10_raw_7 : decode cX10_raw 7 = .ok (.ifCond .ne 6, 3) := by decide +kernel
theorem dX10_raw_10 : decode cX10_raw 10 = .ok (.ldc 59, 2) := by decide +kernel
theorem dX10_raw_12 : decode cX10_raw 12 = .ok (.ireturn, 1) := by decide +kernel
theorem dX10_raw_13 : decode cX10_raw 13 = .ok (.iload_n 1, 1) := by decide +kernel
theorem dX10_raw_14 : decode cX10_raw 14 = .ok (.aload_n 0, 1) := by decide +kernel
theorem dX10_raw_15 : decode cX10_raw 15 = .ok (.getfield 7, 3) := by decide +kernel
theorem dX10_raw_18 : decode cX10_raw 18 = .ok (.bipush 28, 2) := by decide +kernel
theorem dX10_raw_20 : decode cX10_raw 20 = .ok (.iaload, 1) := by decide +kernel
theorem dX10_raw_21 : decode cX10_raw 21 = .ok (.if_icmp .ge 25, 3) := by decide +kernel
theorem dX10_raw_24 : decode cX10_raw 24 = .ok (.aload_n 0, 1) := by decide +kernel
theorem dX10_raw_25 : decode cX10_raw 25 = .ok (.getfield 7, 3) := by decide +kernel
theorem dX10_raw_28 : decode cX10_raw 28 = .ok (.bipush 29, 2) := by decide +kernel
theorem dX10_raw_30 : decode cX10_raw 30 = .ok (.aload_n 0, 1) := by decide +kernel
theorem dX10_raw_31 : decode cX10_raw 31 = .ok (.getfield 7, 3) := by decide +kernel
theorem dX10_raw_34 : decode cX10_raw 34 = .ok (.bipush 28, 2) := by decide +kernel
theorem dX10_raw_36 : decode cX10_raw 36 = .ok (.iaload, 1) := by decide +kernel
end
section
theorem dX10_raw_37 : decode cX10_raw 37 = .ok (.iadd, 1) := by decide +kernel
theorem dX10_raw_38 : decode cX10_raw 38 = .ok (.iconst 1, 1) := by decide +kernel
theorem dX10_raw_39 : decode cX10_raw 39 = .ok (.isub, 1) := by decide +kernel
theorem dX10_raw_40 : decode cX10_raw 40 = .ok (.iload_n 1, 1) := by decide +kernel
theorem dX10_raw_41 : decode cX10_raw 41 = .ok (.isub, 1) := by decide +kernel
theorem dX10_raw_42 : decode cX10_raw 42 = .ok (.iaload, 1) := by decide +kernel
theorem dX10_raw_43 : decode cX10_raw 43 = .ok (.goto 5, 3) := by decide +kernel
theorem dX10_raw_46 : decode cX10_raw 46 = .ok (.ldc 78, 2) := by decide +kernel
theorem dX10_raw_48 : decode cX10_raw 48 = .ok (.ireturn, 1) := by decide +kernel
theorem dX10_stored_0 : decode cX10_stored 0 = .ok (.iload_n 1, 1) := by decide +kernel
theorem dX10_stored_1 : decode cX10_stored 1 = .ok (.ifCond .ge 6, 3) := by decide +kernel
theorem dX10_stored_4 : decode cX10_stored 4 = .ok (.ldc 59, 2) := by decide +kernel
theorem dX10_stored_6 : decode cX10_stored 6 = .ok (.ireturn, 1) := by decide +kernel
theorem dX10_stored_7 : decode cX10_stored 7 = .ok (.iload_n 1, 1) := by decide +kernel
theorem dX10_stored_8 : decode cX10_stored 8 = .ok (.aload_n 0, 1) := by decide +kernel
theorem dX10_stored_9 : decode cX10_stored 9 = .ok (.getfield 7, 3) := by decide +kernel
theorem dX10_stored_12 : decode cX10_stored 12 = .ok (.bipush 18, 2) := by decide +kernel
theorem dX10_stored_14 : decode cX10_stored 14 = .ok (.iaload, 1) := by decide +kernel
theorem dX10_stored_15 : decode cX10_stored 15 = .ok (.if_icmp .ge 15, 3) := by decide +kernel
theorem dX10_stored_18 : decode cX10_stored 18 = .ok (.aload_n 0, 1) := by decide +kernel
theorem dX10_stored_19 : decode cX10_stored 19 = .ok (.getfield 7, 3) := by decide +kernel
theorem dX10_stored_22 : decode cX10_stored 22 = .ok (.bipush 93, 2) := by decide +kernel
theorem dX10_stored_24 : decode cX10_stored 24 = .ok (.iload_n 1, 1) := by decide +kernel
theorem dX10_stored_25 : decode cX10_stored 25 = .ok (.iadd, 1) := by decide +kernel
theorem dX10_stored_26 : decode cX10_stored 26 = .ok (.iaload, 1) := by decide +kernel
theorem dX10_stored_27 : decode cX10_stored 27 = .ok (.goto 5, 3) := by decide +kernel
theorem dX10_stored_30 : decode cX10_stored 30 = .ok (.ldc 78, 2) := by decide +kernel
theorem dX10_stored_32 : decode cX10_stored 32 = .ok (.ireturn, 1) := by decide +kernel
set_option maxRecDepth 20000 in
theorem ggX10_would_X10_in : GoodIn wsX10_would wsX10_in := goodIn_r _ [6] (by decide +kernel) (by decide +kernel)
set_option maxRecDepth 20000 in
theorem gX10_would_X10_in : GoodIn wsX10_would (va_wsS RX10 30 yX10_in wsX10_in) := goodIn_app (goodIn_of _ (by decide +kernel)) ggX10_would_X10_in
set_option maxRecDepth 20000 in
theorem ggX10_would_X10_copies : GoodIn wsX10_would wsX10_copies := goodIn_r _ [10, 2, 48, 49, 50, 51, 52, 53, 54, 55, 56] (by decide +kernel) (by decide +kernel)
set_option maxRecDepth 20000 in
theorem gX10_would_X10_copies : GoodIn wsX10_would (wsV RX10 21 RX10 yX10_copies wsX10_copies) := goodIn_app (goodIn_of _ (by decide +kernel)) ggX10_would_X10_copies
set_option maxRecDepth 20000 in
theorem ggX10_would_X10_makes : GoodIn wsX10_would wsX10_makes := goodIn_r _ [14, 2, 15, 16, 17, 5, 18, 19, 20, 21, 22, 23, 24, 25, 26, 27, 28, 29, 30, 31, 32, 33, 34, 35, 36, 37, 38, 39, 40, 41, 42, 43, 3, 4, 6, 44, 45, 46, 47, 48, 49, 50, 51, 52, 53, 54, 55, 56] (by decide +kernel) (by decide +kernel)
set_option maxRecDepth 20000 in
theorem gX10_would_X10_makes : GoodIn wsX10_would (wsV RX10 69 RX10 yX10_makes wsX10_makes) := goodIn_app (goodIn_of _ (by decide +kernel)) ggX10_would_X10_makes
theorem dX10_would_0 : decode cX10_would 0 = .ok (.iload_n 1, 1) := by decide +kernel
theorem dX10_would_1 : decode cX10_would 1 = .ok (.iconst 0, 1) := by decide +kernel
theorem dX10_would_2 : decode cX10_would 2 = .ok (.sipush 300, 3) := by decide +kernel
theorem dX10_would_5 : decode cX10_would 5 = .ok (.invokestatic 30, 3) := by decide +kernel
theorem dX10_would_8 : decode cX10_would 8 = .ok (.ifCond .eq 12, 3) := by decide +kernel
theorem dX10_would_11 : decode cX10_would 11 = .ok (.iload_n 2, 1) := by decide +kernel
theorem dX10_would_12 : decode cX10_would 12 = .ok (.iconst 0, 1) := by decide +kernel
theorem dX10_would_13 : decode cX10_would 13 = .ok (.iconst 2, 1) := by decide +kernel
theorem dX10_would_14 : decode cX10_would 14 = .ok (.invokestatic 30, 3) := by decide +kernel
theorem dX10_would_17 : decode cX10_would 17 = .ok (.ifCond .ne 6, 3) := by decide +kernel
theorem dX10_would_20 : decode cX10_would 20 = .ok (.ldc 59, 2) := by decide +kernel
theorem dX10_would_22 : decode cX10_would 22 = .ok (.ireturn, 1) := by decide +kernel
theorem dX10_would_23 : decode cX10_would 23 = .ok (.aload_n 0, 1) := by decide +kernel
theorem dX10_would_24 : decode cX10_would 24 = .ok (.iconst 0, 1) := by decide +kernel
theorem dX10_would_25 : decode cX10_would 25 = .ok (.iconst 5, 1) := by decide +kernel
theorem dX10_would_26 : decode cX10_would 26 = .ok (.invokevirtual 21, 3) := by decide +kernel
theorem dX10_would_29 : decode cX10_would 29 = .ok (.aload_n 0, 1) := by decide +kernel
theorem dX10_would_30 : decode cX10_would 30 = .ok (.iconst 5, 1) := by decide +kernel
theorem dX10_would_31 : decode cX10_would 31 = .ok (.iload_n 1, 1) := by decide +kernel
theorem dX10_would_32 : decode cX10_would 32 = .ok (.invokevirtual 69, 3) := by decide +kernel
theorem dX10_would_35 : decode cX10_would 35 = .ok (.pop, 1) := by decide +kernel
theorem dX10_would_36 : decode cX10_would 36 = .ok (.sipush 785, 3) := by decide +kernel
theorem dX10_would_39 : decode cX10_would 39 = .ok (.istore_n 3, 1) := by decide +kernel
theorem dX10_would_40 : decode cX10_would 40 = .ok (.iload_n 2, 1) := by decide +kernel
theorem dX10_would_41 : decode cX10_would 41 = .ok (.ifCond .ne 15, 3) := by decide +kernel
theorem dX10_would_44 : decode cX10_would 44 = .ok (.aload_n 0, 1) := by decide +kernel
theorem dX10_would_45 : decode cX10_would 45 = .ok (.getfield 7, 3) := by decide +kernel
theorem dX10_would_48 : decode cX10_would 48 = .ok (.iload_n 3, 1) := by decide +kernel
theorem dX10_would_49 : decode cX10_would 49 = .ok (.bipush 18, 2) := by decide +kernel
theorem dX10_would_51 : decode cX10_would 51 = .ok (.iadd, 1) := by decide +kernel
theorem dX10_would_52 : decode cX10_would 52 = .ok (.iaload, 1) := by decide +kernel
theorem dX10_would_53 : decode cX10_would 53 = .ok (.goto 37, 3) := by decide +kernel
theorem dX10_would_56 : decode cX10_would 56 = .ok (.iload_n 2, 1) := by decide +kernel
theorem dX10_would_57 : decode cX10_would 57 = .ok (.iconst 1, 1) := by decide +kernel
theorem dX10_would_58 : decode cX10_would 58 = .ok (.if_icmp .ne 15, 3) := by decide +kernel
theorem dX10_would_61 : decode cX10_would 61 = .ok (.aload_n 0, 1) := by decide +kernel
theorem dX10_would_62 : decode cX10_would 62 = .ok (.getfield 7, 3) := by decide +kernel
theorem dX10_would_65 : decode cX10_would 65 = .ok (.iload_n 3, 1) := by decide +kernel
theorem dX10_would_66 : decode cX10_would 66 = .ok (.bipush 11, 2) := by decide +kernel
theorem dX10_would_68 : decode cX10_would 68 = .ok (.iadd, 1) := by decide +kernel
theorem dX10_would_69 : decode cX10_would 69 = .ok (.iaload, 1) := by decide +kernel
theorem dX10_would_70 : decode cX10_would 70 = .ok (.goto 20, 3) := by decide +kernel
theorem dX10_would_73 : decode cX10_would 73 = .ok (.aload_n 0, 1) := by decide +kernel
theorem dX10_would_74 : decode cX10_would 74 = .ok (.getfield 7, 3) := by decide +kernel
theorem dX10_would_77 : decode cX10_would 77 = .ok (.iload_n 3, 1) := by decide +kernel
theorem dX10_would_78 : decode cX10_would 78 = .ok (.bipush 24, 2) := by decide +kernel
theorem dX10_would_80 : decode cX10_would 80 = .ok (.iadd, 1) := by decide +kernel
theorem dX10_would_81 : decode cX10_would 81 = .ok (.iaload, 1) := by decide +kernel
theorem dX10_would_82 : decode cX10_would 82 = .ok (.aload_n 0, 1) := by decide +kernel
theorem dX10_would_83 : decode cX10_would 83 = .ok (.getfield 7, 3) := by decide +kernel
theorem dX10_would_86 : decode cX10_would 86 = .ok (.bipush 24, 2) := by decide +kernel
theorem dX10_would_88 : decode cX10_would 88 = .ok (.iaload, 1) := by decide +kernel
theorem dX10_would_89 : decode cX10_would 89 = .ok (.isub, 1) := by decide +kernel
theorem dX10_would_90 : decode cX10_would 90 = .ok (.ireturn, 1) := by decide +kernel
set_option maxRecDepth 20000 in
theorem ggX10_takes_X10_in : GoodIn wsX10_takes wsX10_in := goodIn_r _ [7] (by decide +kernel) (by decide +kernel)
set_option maxRecDepth 20000 in
theorem gX10_takes_X10_in : GoodIn wsX10_takes (va_wsS RX10 30 yX10_in wsX10_in) := goodIn_app (goodIn_of _ (by decide +kernel)) ggX10_takes_X10_in
set_option maxRecDepth 20000 in
theorem ggX10_takes_X10_copies : GoodIn wsX10_takes wsX10_copies := goodIn_r _ [11, 2, 45, 46, 47, 48, 49, 50, 51, 52, 53] (by decide +kernel) (by decide +kernel)
set_option maxRecDepth 20000 in
theorem gX10_takes_X10_copies : GoodIn wsX10_takes (wsV RX10 21 RX10 yX10_copies wsX10_copies) := goodIn_app (goodIn_of _ (by decide +kernel)) ggX10_takes_X10_copies
set_option maxRecDepth 20000 in
theorem ggX10_takes_X10_samples : GoodIn wsX10_takes wsX10_samples := goodIn_r _ [15, 2, 16, 17, 18, 6, 19, 20, 21, 22, 23, 24, 25, 26, 27, 28, 29, 30, 31, 32, 33, 34, 35, 36, 37, 38, 39, 40, 4, 5, 7, 41, 42, 43, 44, 45, 46, 47, 48, 49, 50, 51, 52, 53] (by decide +kernel) (by decide +kernel)
set_option maxRecDepth 20000 in
theorem gX10_takes_X10_samples : GoodIn wsX10_takes (wsV RX10 55 RX10 yX10_samples wsX10_samples) := goodIn_app (goodIn_of _ (by decide +kernel)) ggX10_takes_X10_samples
theorem dX10_takes_0 : decode cX10_takes 0 = .ok (.iload_n 1, 1) := by decide +kernel
theorem dX10_takes_1 : decode cX10_takes 1 = .ok (.iconst 1, 1) := by decide +kernel
theorem dX10_takes_2 : decode cX10_takes 2 = .ok (.bipush 64, 2) := by decide +kernel
theorem dX10_takes_4 : decode cX10_takes 4 = .ok (.invokestatic 30, 3) := by decide +kernel
theorem dX10_takes_7 : decode cX10_takes 7 = .ok (.ifCond .ne 6, 3) := by decide +kernel
theorem dX10_takes_10 : decode cX10_takes 10 = .ok (.ldc 59, 2) := by decide +kernel
theorem dX10_takes_12 : decode cX10_takes 12 = .ok (.ireturn, 1) := by decide +kernel
theorem dX10_takes_13 : decode cX10_takes 13 = .ok (.aload_n 0, 1) := by decide +kernel
theorem dX10_takes_14 : decode cX10_takes 14 = .ok (.iconst 0, 1) := by decide +kernel
theorem dX10_takes_15 : decode cX10_takes 15 = .ok (.iconst 5, 1) := by decide +kernel
theorem dX10_takes_16 : decode cX10_takes 16 = .ok (.invokevirtual 21, 3) := by decide +kernel
theorem dX10_takes_19 : decode cX10_takes 19 = .ok (.sipush 785, 3) := by decide +kernel
theorem dX10_takes_22 : decode cX10_takes 22 = .ok (.istore_n 2, 1) := by decide +kernel
theorem dX10_takes_23 : decode cX10_takes 23 = .ok (.iconst 0, 1) := by decide +kernel
theorem dX10_takes_24 : decode cX10_takes 24 = .ok (.istore_n 3, 1) := by decide +kernel
theorem dX10_takes_25 : decode cX10_takes 25 = .ok (.aload_n 0, 1) := by decide +kernel
theorem dX10_takes_26 : decode cX10_takes 26 = .ok (.getfield 7, 3) := by decide +kernel
theorem dX10_takes_29 : decode cX10_takes 29 = .ok (.iload_n 2, 1) := by decide +kernel
theorem dX10_takes_30 : decode cX10_takes 30 = .ok (.bipush 18, 2) := by decide +kernel
theorem dX10_takes_32 : decode cX10_takes 32 = .ok (.iadd, 1) := by decide +kernel
theorem dX10_takes_33 : decode cX10_takes 33 = .ok (.iaload, 1) := by decide +kernel
theorem dX10_takes_34 : decode cX10_takes 34 = .ok (.iload_n 1, 1) := by decide +kernel
theorem dX10_takes_35 : decode cX10_takes 35 = .ok (.if_icmp .ge 21, 3) := by decide +kernel
theorem dX10_takes_38 : decode cX10_takes 38 = .ok (.iload_n 3, 1) := by decide +kernel
theorem dX10_takes_39 : decode cX10_takes 39 = .ok (.sipush 2000, 3) := by decide +kernel
theorem dX10_takes_42 : decode cX10_takes 42 = .ok (.if_icmp .ge 14, 3) := by decide +kernel
theorem dX10_takes_45 : decode cX10_takes 45 = .ok (.aload_n 0, 1) := by decide +kernel
theorem dX10_takes_46 : decode cX10_takes 46 = .ok (.iload_n 2, 1) := by decide +kernel
theorem dX10_takes_47 : decode cX10_takes 47 = .ok (.invokevirtual 55, 3) := by decide +kernel
theorem dX10_takes_50 : decode cX10_takes 50 = .ok (.iinc 3 1, 3) := by decide +kernel
theorem dX10_takes_53 : decode cX10_takes 53 = .ok (.goto (-28), 3) := by decide +kernel
theorem dX10_takes_56 : decode cX10_takes 56 = .ok (.aload_n 0, 1) := by decide +kernel
theorem dX10_takes_57 : decode cX10_takes 57 = .ok (.getfield 7, 3) := by decide +kernel
theorem dX10_takes_60 : decode cX10_takes 60 = .ok (.iload_n 2, 1) := by decide +kernel
theorem dX10_takes_61 : decode cX10_takes 61 = .ok (.bipush 18, 2) := by decide +kernel
theorem dX10_takes_63 : decode cX10_takes 63 = .ok (.iadd, 1) := by decide +kernel
theorem dX10_takes_64 : decode cX10_takes 64 = .ok (.iaload, 1) := by decide +kernel
theorem dX10_takes_65 : decode cX10_takes 65 = .ok (.iload_n 1, 1) := by decide +kernel
theorem dX10_takes_66 : decode cX10_takes 66 = .ok (.if_icmp .lt 7, 3) := by decide +kernel
theorem dX10_takes_69 : decode cX10_takes 69 = .ok (.iload_n 3, 1) := by decide +kernel
theorem dX10_takes_70 : decode cX10_takes 70 = .ok (.goto 5, 3) := by decide +kernel
theorem dX10_takes_73 : decode cX10_takes 73 = .ok (.ldc 78, 2) := by decide +kernel
theorem dX10_takes_75 : decode cX10_takes 75 = .ok (.ireturn, 1) := by decide +kernel
set_option maxRecDepth 20000 in
theorem ggX10_bestPeriod_X10_in : GoodIn wsX10_bestPeriod wsX10_in := goodIn_r _ [6] (by decide +kernel) (by decide +kernel)
set_option maxRecDepth 20000 in
theorem gX10_bestPeriod_X10_in : GoodIn wsX10_bestPeriod (va_wsS RX10 30 yX10_in wsX10_in) := goodIn_app (goodIn_of _ (by decide +kernel)) ggX10_bestPeriod_X10_in
set_option maxRecDepth 20000 in
theorem ggX10_bestPeriod_X10_copies : GoodIn wsX10_bestPeriod wsX10_copies := goodIn_r _ [10, 2, 52, 53, 54, 55, 56, 57, 58, 59, 60] (by decide +kernel) (by decide +kernel)
set_option maxRecDepth 20000 in
theorem gX10_bestPeriod_X10_copies : GoodIn wsX10_bestPeriod (wsV RX10 21 RX10 yX10_copies wsX10_copies) := goodIn_app (goodIn_of _ (by decide +kernel)) ggX10_bestPeriod_X10_copies
set_option maxRecDepth 20000 in
theorem ggX10_bestPeriod_X10_sets : GoodIn wsX10_bestPeriod wsX10_sets := goodIn_r _ [14, 1, 2, 3, 4, 5, 6, 52, 53, 54, 55, 56, 57, 58, 59, 60] (by decide +kernel) (by decide +kernel)
set_option maxRecDepth 20000 in
theorem gX10_bestPeriod_X10_sets : GoodIn wsX10_bestPeriod (wsV RX10 61 RX10 yX10_sets wsX10_sets) := goodIn_app (goodIn_of _ (by decide +kernel)) ggX10_bestPeriod_X10_sets
set_option maxRecDepth 20000 in
theorem ggX10_bestPeriod_X10_makes : GoodIn wsX10_bestPeriod wsX10_makes := goodIn_r _ [18, 2, 19, 20, 21, 5, 22, 23, 24, 25, 26, 27, 28, 29, 30, 31, 32, 33, 34, 35, 36, 37, 38, 39, 40, 41, 42, 43, 44, 45, 46, 47, 3, 4, 6, 48, 49, 50, 51, 52, 53, 54, 55, 56, 57, 58, 59, 60] (by decide +kernel) (by decide +kernel)
set_option maxRecDepth 20000 in
theorem gX10_bestPeriod_X10_makes : GoodIn wsX10_bestPeriod (wsV RX10 69 RX10 yX10_makes wsX10_makes) := goodIn_app (goodIn_of _ (by decide +kernel)) ggX10_bestPeriod_X10_makes
theorem dX10_bestPeriod_0 : decode cX10_bestPeriod 0 = .ok (.iload_n 1, 1) := by decide +kernel
theorem dX10_bestPeriod_1 : decode cX10_bestPeriod 1 = .ok (.iconst 0, 1) := by decide +kernel
theorem dX10_bestPeriod_2 : decode cX10_bestPeriod 2 = .ok (.iconst 1, 1) := by decide +kernel
theorem dX10_bestPeriod_3 : decode cX10_bestPeriod 3 = .ok (.invokestatic 30, 3) := by decide +kernel
theorem dX10_bestPeriod_6 : decode cX10_bestPeriod 6 = .ok (.ifCond .ne 6, 3) := by decide +kernel
theorem dX10_bestPeriod_9 : decode cX10_bestPeriod 9 = .ok (.ldc 59, 2) := by decide +kernel
theorem dX10_bestPeriod_11 : decode cX10_bestPeriod 11 = .ok (.ireturn, 1) := by decide +kernel
theorem dX10_bestPeriod_12 : decode cX10_bestPeriod 12 = .ok (.iconst 0, 1) := by decide +kernel
theorem dX10_bestPeriod_13 : decode cX10_bestPeriod 13 = .ok (.istore_n 2, 1) := by decide +kernel
theorem dX10_bestPeriod_14 : decode cX10_bestPeriod 14 = .ok (.iconst (-1), 1) := by decide +kernel
theorem dX10_bestPeriod_15 : decode cX10_bestPeriod 15 = .ok (.istore_n 3, 1) := by decide +kernel
theorem dX10_bestPeriod_16 : decode cX10_bestPeriod 16 = .ok (.bipush 20, 2) := by decide +kernel
theorem dX10_bestPeriod_18 : decode cX10_bestPeriod 18 = .ok (.istore 4, 2) := by decide +kernel
theorem dX10_bestPeriod_20 : decode cX10_bestPeriod 20 = .ok (.iload 4, 2) := by decide +kernel
theorem dX10_bestPeriod_22 : decode cX10_bestPeriod 22 = .ok (.sipush 400, 3) := by decide +kernel
theorem dX10_bestPeriod_25 : decode cX10_bestPeriod 25 = .ok (.if_icmp .gt 75, 3) := by decide +kernel
theorem dX10_bestPeriod_28 : decode cX10_bestPeriod 28 = .ok (.aload_n 0, 1) := by decide +kernel
theorem dX10_bestPeriod_29 : decode cX10_bestPeriod 29 = .ok (.iconst 0, 1) := by decide +kernel
theorem dX10_bestPeriod_30 : decode cX10_bestPeriod 30 = .ok (.iconst 5, 1) := by decide +kernel
theorem dX10_bestPeriod_31 : decode cX10_bestPeriod 31 = .ok (.invokevirtual 21, 3) := by decide +kernel
theorem dX10_bestPeriod_34 : decode cX10_bestPeriod 34 = .ok (.aload_n 0, 1) := by decide +kernel
theorem dX10_bestPeriod_35 : decode cX10_bestPeriod 35 = .ok (.iconst 5, 1) := by decide +kernel
theorem dX10_bestPeriod_36 : decode cX10_bestPeriod 36 = .ok (.iconst 1, 1) := by decide +kernel
theorem dX10_bestPeriod_37 : decode cX10_bestPeriod 37 = .ok (.iload 4, 2) := by decide +kernel
theorem dX10_bestPeriod_39 : decode cX10_bestPeriod 39 = .ok (.aload_n 0, 1) := by decide +kernel
theorem dX10_bestPeriod_40 : decode cX10_bestPeriod 40 = .ok (.getfield 7, 3) := by decide +kernel
theorem dX10_bestPeriod_43 : decode cX10_bestPeriod 43 = .ok (.iconst 4, 1) := by decide +kernel
theorem dX10_bestPeriod_44 : decode cX10_bestPeriod 44 = .ok (.iaload, 1) := by decide +kernel
theorem dX10_bestPeriod_45 : decode cX10_bestPeriod 45 = .ok (.invokevirtual 61, 3) := by decide +kernel
theorem dX10_bestPeriod_48 : decode cX10_bestPeriod 48 = .ok (.pop, 1) := by decide +kernel
theorem dX10_bestPeriod_49 : decode cX10_bestPeriod 49 = .ok (.aload_n 0, 1) := by decide +kernel
theorem dX10_bestPeriod_50 : decode cX10_bestPeriod 50 = .ok (.iconst 5, 1) := by decide +kernel
theorem dX10_bestPeriod_51 : decode cX10_bestPeriod 51 = .ok (.sipush 200, 3) := by decide +kernel
theorem dX10_bestPeriod_54 : decode cX10_bestPeriod 54 = .ok (.invokevirtual 69, 3) := by decide +kernel
theorem dX10_bestPeriod_57 : decode cX10_bestPeriod 57 = .ok (.pop, 1) := by decide +kernel
theorem dX10_bestPeriod_58 : decode cX10_bestPeriod 58 = .ok (.aload_n 0, 1) := by decide +kernel
theorem dX10_bestPeriod_59 : decode cX10_bestPeriod 59 = .ok (.getfield 7, 3) := by decide +kernel
theorem dX10_bestPeriod_62 : decode cX10_bestPeriod 62 = .ok (.sipush 803, 3) := by decide +kernel
theorem dX10_bestPeriod_65 : decode cX10_bestPeriod 65 = .ok (.iaload, 1) := by decide +kernel
theorem dX10_bestPeriod_66 : decode cX10_bestPeriod 66 = .ok (.istore 5, 2) := by decide +kernel
theorem dX10_bestPeriod_68 : decode cX10_bestPeriod 68 = .ok (.iload 5, 2) := by decide +kernel
theorem dX10_bestPeriod_70 : decode cX10_bestPeriod 70 = .ok (.iload_n 3, 1) := by decide +kernel
theorem dX10_bestPeriod_71 : decode cX10_bestPeriod 71 = .ok (.if_icmp .le 8, 3) := by decide +kernel
theorem dX10_bestPeriod_74 : decode cX10_bestPeriod 74 = .ok (.iload 4, 2) := by decide +kernel
theorem dX10_bestPeriod_76 : decode cX10_bestPeriod 76 = .ok (.goto 4, 3) := by decide +kernel
theorem dX10_bestPeriod_79 : decode cX10_bestPeriod 79 = .ok (.iload_n 2, 1) := by decide +kernel
theorem dX10_bestPeriod_80 : decode cX10_bestPeriod 80 = .ok (.istore_n 2, 1) := by decide +kernel
theorem dX10_bestPeriod_81 : decode cX10_bestPeriod 81 = .ok (.iload 5, 2) := by decide +kernel
theorem dX10_bestPeriod_83 : decode cX10_bestPeriod 83 = .ok (.iload_n 3, 1) := by decide +kernel
theorem dX10_bestPeriod_84 : decode cX10_bestPeriod 84 = .ok (.if_icmp .le 8, 3) := by decide +kernel
theorem dX10_bestPeriod_87 : decode cX10_bestPeriod 87 = .ok (.iload 5, 2) := by decide +kernel
theorem dX10_bestPeriod_89 : decode cX10_bestPeriod 89 = .ok (.goto 4, 3) := by decide +kernel
theorem dX10_bestPeriod_92 : decode cX10_bestPeriod 92 = .ok (.iload_n 3, 1) := by decide +kernel
theorem dX10_bestPeriod_93 : decode cX10_bestPeriod 93 = .ok (.istore_n 3, 1) := by decide +kernel
theorem dX10_bestPeriod_94 : decode cX10_bestPeriod 94 = .ok (.iinc 4 20, 3) := by decide +kernel
theorem dX10_bestPeriod_97 : decode cX10_bestPeriod 97 = .ok (.goto (-77), 3) := by decide +kernel
theorem dX10_bestPeriod_100 : decode cX10_bestPeriod 100 = .ok (.iload_n 1, 1) := by decide +kernel
theorem dX10_bestPeriod_101 : decode cX10_bestPeriod 101 = .ok (.ifCond .ne 7, 3) := by decide +kernel
theorem dX10_bestPeriod_104 : decode cX10_bestPeriod 104 = .ok (.iload_n 2, 1) := by decide +kernel
theorem dX10_bestPeriod_105 : decode cX10_bestPeriod 105 = .ok (.goto 4, 3) := by decide +kernel
theorem dX10_bestPeriod_108 : decode cX10_bestPeriod 108 = .ok (.iload_n 3, 1) := by decide +kernel
theorem dX10_bestPeriod_109 : decode cX10_bestPeriod 109 = .ok (.ireturn, 1) := by decide +kernel
set_option maxRecDepth 20000 in
theorem ggX10_share_Jxf58ca_floatToIntBits_5c35a : GoodIn wsX10_share wsJxf58ca_floatToIntBits_5c35a := goodIn_r _ [6, 7, 8, 9, 10, 11, 12, 13, 5, 14] (by decide +kernel) (by decide +kernel)
set_option maxRecDepth 20000 in
theorem gX10_share_Jxf58ca_floatToIntBits_5c35a : GoodIn wsX10_share (va_wsS RX10 79 yJxf58ca_floatToIntBits_5c35a wsJxf58ca_floatToIntBits_5c35a) := goodIn_app (goodIn_of _ (by decide +kernel)) ggX10_share_Jxf58ca_floatToIntBits_5c35a
theorem dX10_share_0 : decode cX10_share 0 = .ok (.iconst 0, 1) := by decide +kernel
theorem dX10_share_1 : decode cX10_share 1 = .ok (.istore_n 1, 1) := by decide +kernel
theorem dX10_share_2 : decode cX10_share 2 = .ok (.iconst 0, 1) := by decide +kernel
theorem dX10_share_3 : decode cX10_share 3 = .ok (.istore_n 2, 1) := by decide +kernel
theorem dX10_share_4 : decode cX10_share 4 = .ok (.iload_n 2, 1) := by decide +kernel
theorem dX10_share_5 : decode cX10_share 5 = .ok (.aload_n 0, 1) := by decide +kernel
theorem dX10_share_6 : decode cX10_share 6 = .ok (.getfield 7, 3) := by decide +kernel
theorem dX10_share_9 : decode cX10_share 9 = .ok (.bipush 28, 2) := by decide +kernel
theorem dX10_share_11 : decode cX10_share 11 = .ok (.iaload, 1) := by decide +kernel
theorem dX10_share_12 : decode cX10_share 12 = .ok (.if_icmp .ge 21, 3) := by decide +kernel
theorem dX10_share_15 : decode cX10_share 15 = .ok (.iload_n 1, 1) := by decide +kernel
theorem dX10_share_16 : decode cX10_share 16 = .ok (.aload_n 0, 1) := by decide +kernel
theorem dX10_share_17 : decode cX10_share 17 = .ok (.getfield 7, 3) := by decide +kernel
theorem dX10_share_20 : decode cX10_share 20 = .ok (.bipush 29, 2) := by decide +kernel
theorem dX10_share_22 : decode cX10_share 22 = .ok (.iload_n 2, 1) := by decide +kernel
theorem dX10_share_23 : decode cX10_share 23 = .ok (.iadd, 1) := by decide +kernel
theorem dX10_share_24 : decode cX10_share 24 = .ok (.iaload, 1) := by decide +kernel
theorem dX10_share_25 : decode cX10_share 25 = .ok (.iadd, 1) := by decide +kernel
theorem dX10_share_26 : decode cX10_share 26 = .ok (.istore_n 1, 1) := by decide +kernel
theorem dX10_share_27 : decode cX10_share 27 = .ok (.iinc 2 1, 3) := by decide +kernel
theorem dX10_share_30 : decode cX10_share 30 = .ok (.goto (-26), 3) := by decide +kernel
theorem dX10_share_33 : decode cX10_share 33 = .ok (.aload_n 0, 1) := by decide +kernel
theorem dX10_share_34 : decode cX10_share 34 = .ok (.getfield 7, 3) := by decide +kernel
theorem dX10_share_37 : decode cX10_share 37 = .ok (.bipush 28, 2) := by decide +kernel
theorem dX10_share_39 : decode cX10_share 39 = .ok (.iaload, 1) := by decide +kernel
theorem dX10_share_40 : decode cX10_share 40 = .ok (.ifCond .ne 8, 3) := by decide +kernel
theorem dX10_share_43 : decode cX10_share 43 = .ok (.ldc 78, 2) := by decide +kernel
theorem dX10_share_45 : decode cX10_share 45 = .ok (.goto 17, 3) := by decide +kernel
theorem dX10_share_48 : decode cX10_share 48 = .ok (.iload_n 1, 1) := by decide +kernel
theorem dX10_share_49 : decode cX10_share 49 = .ok (.i2f, 1) := by decide +kernel
theorem dX10_share_50 : decode cX10_share 50 = .ok (.aload_n 0, 1) := by decide +kernel
theorem dX10_share_51 : decode cX10_share 51 = .ok (.getfield 7, 3) := by decide +kernel
theorem dX10_share_54 : decode cX10_share 54 = .ok (.bipush 28, 2) := by decide +kernel
theorem dX10_share_56 : decode cX10_share 56 = .ok (.iaload, 1) := by decide +kernel
theorem dX10_share_57 : decode cX10_share 57 = .ok (.i2f, 1) := by decide +kernel
theorem dX10_share_58 : decode cX10_share 58 = .ok (.fdiv, 1) := by decide +kernel
theorem dX10_share_59 : decode cX10_share 59 = .ok (.invokestatic 79, 3) := by decide +kernel
theorem dX10_share_62 : decode cX10_share 62 = .ok (.ireturn, 1) := by decide +kernel
set_option maxRecDepth 20000 in
theorem ggX10_count_X10_in : GoodIn wsX10_count wsX10_in := goodIn_r _ [8] (by decide +kernel) (by decide +kernel)
set_option maxRecDepth 20000 in
theorem gX10_count_X10_in : GoodIn wsX10_count (va_wsS RX10 30 yX10_in wsX10_in) := goodIn_app (goodIn_of _ (by decide +kernel)) ggX10_count_X10_in
theorem dX10_count_0 : decode cX10_count 0 = .ok (.iload_n 1, 1) := by decide +kernel
theorem dX10_count_1 : decode cX10_count 1 = .ok (.iconst 0, 1) := by decide +kernel
theorem dX10_count_2 : decode cX10_count 2 = .ok (.bipush 7, 2) := by decide +kernel
theorem dX10_count_4 : decode cX10_count 4 = .ok (.invokestatic 30, 3) := by decide +kernel
theorem dX10_count_7 : decode cX10_count 7 = .ok (.ifCond .eq 13, 3) := by decide +kernel
theorem dX10_count_10 : decode cX10_count 10 = .ok (.aload_n 0, 1) := by decide +kernel
theorem dX10_count_11 : decode cX10_count 11 = .ok (.getfield 7, 3) := by decide +kernel
theorem dX10_count_14 : decode cX10_count 14 = .ok (.bipush 20, 2) := by decide +kernel
theorem dX10_count_16 : decode cX10_count 16 = .ok (.iload_n 1, 1) := by decide +kernel
theorem dX10_count_17 : decode cX10_count 17 = .ok (.iadd, 1) := by decide +kernel
theorem dX10_count_18 : decode cX10_count 18 = .ok (.iaload, 1) := by decide +kernel
theorem dX10_count_19 : decode cX10_count 19 = .ok (.ireturn, 1) := by decide +kernel
theorem dX10_count_20 : decode cX10_count 20 = .ok (.iload_n 1, 1) := by decide +kernel
theorem dX10_count_21 : decode cX10_count 21 = .ok (.bipush 20, 2) := by decide +kernel
theorem dX10_count_23 : decode cX10_count 23 = .ok (.bipush 23, 2) := by decide +kernel
theorem dX10_count_25 : decode cX10_count 25 = .ok (.invokestatic 30, 3) := by decide +kernel
theorem dX10_count_28 : decode cX10_count 28 = .ok (.ifCond .eq 16, 3) := by decide +kernel
theorem dX10_count_31 : decode cX10_count 31 = .ok (.aload_n 0, 1) := by decide +kernel
theorem dX10_count_32 : decode cX10_count 32 = .ok (.getfield 7, 3) := by decide +kernel
theorem dX10_count_35 : decode cX10_count 35 = .ok (.bipush 7, 2) := by decide +kernel
theorem dX10_count_37 : decode cX10_count 37 = .ok (.iload_n 1, 1) := by decide +kernel
theorem dX10_count_38 : decode cX10_count 38 = .ok (.iadd, 1) := by decide +kernel
theorem dX10_count_39 : decode cX10_count 39 = .ok (.bipush 20, 2) := by decide +kernel
theorem dX10_count_41 : decode cX10_count 41 = .ok (.isub, 1) := by decide +kernel
theorem dX10_count_42 : decode cX10_count 42 = .ok (.iaload, 1) := by decide +kernel
theorem dX10_count_43 : decode cX10_count 43 = .ok (.ireturn, 1) := by decide +kernel
theorem dX10_count_44 : decode cX10_count 44 = .ok (.iload_n 1, 1) := by decide +kernel
theorem dX10_count_45 : decode cX10_count 45 = .ok (.bipush 8, 2) := by decide +kernel
theorem dX10_count_47 : decode cX10_count 47 = .ok (.if_icmp .ne 10, 3) := by decide +kernel
theorem dX10_count_50 : decode cX10_count 50 = .ok (.aload_n 0, 1) := by decide +kernel
theorem dX10_count_51 : decode cX10_count 51 = .ok (.getfield 17, 3) := by decide +kernel
theorem dX10_count_54 : decode cX10_count 54 = .ok (.goto 18, 3) := by decide +kernel
theorem dX10_count_57 : decode cX10_count 57 = .ok (.iload_n 1, 1) := by decide +kernel
theorem dX10_count_58 : decode cX10_count 58 = .ok (.bipush 9, 2) := by decide +kernel
theorem dX10_count_60 : decode cX10_count 60 = .ok (.if_icmp .ne 10, 3) := by decide +kernel
theorem dX10_count_63 : decode cX10_count 63 = .ok (.aload_n 0, 1) := by decide +kernel
theorem dX10_count_64 : decode cX10_count 64 = .ok (.getfield 85, 3) := by decide +kernel
theorem dX10_count_67 : decode cX10_count 67 = .ok (.goto 5, 3) := by decide +kernel
theorem dX10_count_70 : decode cX10_count 70 = .ok (.ldc 59, 2) := by decide +kernel
theorem dX10_count_72 : decode cX10_count 72 = .ok (.ireturn, 1) := by decide +kernel
set_option maxRecDepth 20000 in
theorem ggX10_undo_X10_copies : GoodIn wsX10_undo wsX10_copies := goodIn_r _ [7, 8, 9, 10, 11, 12, 13, 14, 15, 16, 17] (by decide +kernel) (by decide +kernel)
set_option maxRecDepth 20000 in
theorem gX10_undo_X10_copies : GoodIn wsX10_undo (wsV RX10 21 RX10 yX10_copies wsX10_copies) := goodIn_app (goodIn_of _ (by decide +kernel)) ggX10_undo_X10_copies
theorem dX10_undo_0 : decode cX10_undo 0 = .ok (.aload_n 0, 1) := by decide +kernel
theorem dX10_undo_1 : decode cX10_undo 1 = .ok (.getfield 17, 3) := by decide +kernel
theorem dX10_undo_4 : decode cX10_undo 4 = .ok (.ifCond .ne 6, 3) := by decide +kernel
theorem dX10_undo_7 : decode cX10_undo 7 = .ok (.ldc 60, 2) := by decide +kernel
theorem dX10_undo_9 : decode cX10_undo 9 = .ok (.ireturn, 1) := by decide +kernel
theorem dX10_undo_10 : decode cX10_undo 10 = .ok (.aload_n 0, 1) := by decide +kernel
theorem dX10_undo_11 : decode cX10_undo 11 = .ok (.aload_n 0, 1) := by decide +kernel
theorem dX10_undo_12 : decode cX10_undo 12 = .ok (.getfield 17, 3) := by decide +kernel
theorem dX10_undo_15 : decode cX10_undo 15 = .ok (.iconst 0, 1) := by decide +kernel
theorem dX10_undo_16 : decode cX10_undo 16 = .ok (.invokevirtual 21, 3) := by decide +kernel
theorem dX10_undo_19 : decode cX10_undo 19 = .ok (.aload_n 0, 1) := by decide +kernel
theorem dX10_undo_20 : decode cX10_undo 20 = .ok (.dup, 1) := by decide +kernel
theorem dX10_undo_21 : decode cX10_undo 21 = .ok (.getfield 17, 3) := by decide +kernel
theorem dX10_undo_24 : decode cX10_undo 24 = .ok (.iconst 1, 1) := by decide +kernel
theorem dX10_undo_25 : decode cX10_undo 25 = .ok (.isub, 1) := by decide +kernel
theorem dX10_undo_26 : decode cX10_undo 26 = .ok (.putfield 17, 3) := by decide +kernel
theorem dX10_undo_29 : decode cX10_undo 29 = .ok (.aload_n 0, 1) := by decide +kernel
theorem dX10_undo_30 : decode cX10_undo 30 = .ok (.getfield 17, 3) := by decide +kernel
theorem dX10_undo_33 : decode cX10_undo 33 = .ok (.ireturn, 1) := by decide +kernel
set_option maxRecDepth 20000 in
theorem ggX10_type_X10_in : GoodIn wsX10_type wsX10_in := goodIn_r _ [8] (by decide +kernel) (by decide +kernel)
set_option maxRecDepth 20000 in
theorem gX10_type_X10_in : GoodIn wsX10_type (va_wsS RX10 30 yX10_in wsX10_in) := goodIn_app (goodIn_of _ (by decide +kernel)) ggX10_type_X10_in
theorem dX10_type_0 : decode cX10_type 0 = .ok (.iload_n 1, 1) := by decide +kernel
theorem dX10_type_1 : decode cX10_type 1 = .ok (.bipush 32, 2) := by decide +kernel
theorem dX10_type_3 : decode cX10_type 3 = .ok (.bipush 126, 2) := by decide +kernel
theorem dX10_type_5 : decode cX10_type 5 = .ok (.invokestatic 30, 3) := by decide +kernel
theorem dX10_type_8 : decode cX10_type 8 = .ok (.ifCond .ne 6, 3) := by decide +kernel
theorem dX10_type_11 : decode cX10_type 11 = .ok (.ldc 59, 2) := by decide +kernel
theorem dX10_type_13 : decode cX10_type 13 = .ok (.ireturn, 1) := by decide +kernel
theorem dX10_type_14 : decode cX10_type 14 = .ok (.aload_n 0, 1) := by decide +kernel
theorem dX10_type_15 : decode cX10_type 15 = .ok (.getfield 85, 3) := by decide +kernel
theorem dX10_type_18 : decode cX10_type 18 = .ok (.bipush 60, 2) := by decide +kernel
theorem dX10_type_20 : decode cX10_type 20 = .ok (.if_icmp .ne 6, 3) := by decide +kernel
theorem dX10_type_23 : decode cX10_type 23 = .ok (.ldc 88, 2) := by decide +kernel
theorem dX10_type_25 : decode cX10_type 25 = .ok (.ireturn, 1) := by decide +kernel
theorem dX10_type_26 : decode cX10_type 26 = .ok (.aload_n 0, 1) := by decide +kernel
theorem dX10_type_27 : decode cX10_type 27 = .ok (.getfield 13, 3) := by decide +kernel
theorem dX10_type_30 : decode cX10_type 30 = .ok (.aload_n 0, 1) := by decide +kernel
theorem dX10_type_31 : decode cX10_type 31 = .ok (.getfield 85, 3) := by decide +kernel
theorem dX10_type_34 : decode cX10_type 34 = .ok (.iload_n 1, 1) := by decide +kernel
theorem dX10_type_35 : decode cX10_type 35 = .ok (.i2c, 1) := by decide +kernel
theorem dX10_type_36 : decode cX10_type 36 = .ok (.castore, 1) := by decide +kernel
theorem dX10_type_37 : decode cX10_type 37 = .ok (.aload_n 0, 1) := by decide +kernel
theorem dX10_type_38 : decode cX10_type 38 = .ok (.dup, 1) := by decide +kernel
theorem dX10_type_39 : decode cX10_type 39 = .ok (.getfield 85, 3) := by decide +kernel
theorem dX10_type_42 : decode cX10_type 42 = .ok (.iconst 1, 1) := by decide +kernel
theorem dX10_type_43 : decode cX10_type 43 = .ok (.iadd, 1) := by decide +kernel
theorem dX10_type_44 : decode cX10_type 44 = .ok (.putfield 85, 3) := by decide +kernel
theorem dX10_type_47 : decode cX10_type 47 = .ok (.aload_n 0, 1) := by decide +kernel
theorem dX10_type_48 : decode cX10_type 48 = .ok (.getfield 85, 3) := by decide +kernel
theorem dX10_type_51 : decode cX10_type 51 = .ok (.ireturn, 1) := by decide +kernel
theorem dX10_clearText_0 : decode cX10_clearText 0 = .ok (.aload_n 0, 1) := by decide +kernel
theorem dX10_clearText_1 : decode cX10_clearText 1 = .ok (.getfield 85, 3) := by decide +kernel
theorem dX10_clearText_4 : decode cX10_clearText 4 = .ok (.istore_n 1, 1) := by decide +kernel
theorem dX10_clearText_5 : decode cX10_clearText 5 = .ok (.aload_n 0, 1) := by decide +kernel
theorem dX10_clearText_6 : decode cX10_clearText 6 = .ok (.iconst 0, 1) := by decide +kernel
theorem dX10_clearText_7 : decode cX10_clearText 7 = .ok (.putfield 85, 3) := by decide +kernel
theorem dX10_clearText_10 : decode cX10_clearText 10 = .ok (.iload_n 1, 1) := by decide +kernel
theorem dX10_clearText_11 : decode cX10_clearText 11 = .ok (.ireturn, 1) := by decide +kernel
set_option maxRecDepth 20000 in
theorem ggX10_number_X10_in : GoodIn wsX10_number wsX10_in := goodIn_r _ [7] (by decide +kernel) (by decide +kernel)
set_option maxRecDepth 20000 in
theorem gX10_number_X10_in : GoodIn wsX10_number (va_wsS RX10 30 yX10_in wsX10_in) := goodIn_app (goodIn_of _ (by decide +kernel)) ggX10_number_X10_in
theorem dX10_number_0 : decode cX10_number 0 = .ok (.aload_n 0, 1) := by decide +kernel
theorem dX10_number_1 : decode cX10_number 1 = .ok (.getfield 89, 3) := by decide +kernel
theorem dX10_number_4 : decode cX10_number 4 = .ok (.istore_n 1, 1) := by decide +kernel
theorem dX10_number_5 : decode cX10_number 5 = .ok (.iconst 0, 1) := by decide +kernel
theorem dX10_number_6 : decode cX10_number 6 = .ok (.istore_n 2, 1) := by decide +kernel
theorem dX10_number_7 : decode cX10_number 7 = .ok (.aload_n 0, 1) := by decide +kernel
theorem dX10_number_8 : decode cX10_number 8 = .ok (.getfield 89, 3) := by decide +kernel
theorem dX10_number_11 : decode cX10_number 11 = .ok (.aload_n 0, 1) := by decide +kernel
theorem dX10_number_12 : decode cX10_number 12 = .ok (.getfield 85, 3) := by decide +kernel
theorem dX10_number_15 : decode cX10_number 15 = .ok (.if_icmp .ge 63, 3) := by decide +kernel
theorem dX10_number_18 : decode cX10_number 18 = .ok (.aload_n 0, 1) := by decide +kernel
theorem dX10_number_19 : decode cX10_number 19 = .ok (.getfield 89, 3) := by decide +kernel
theorem dX10_number_22 : decode cX10_number 22 = .ok (.iload_n 1, 1) := by decide +kernel
theorem dX10_number_23 : decode cX10_number 23 = .ok (.iconst 3, 1) := by decide +kernel
theorem dX10_number_24 : decode cX10_number 24 = .ok (.iadd, 1) := by decide +kernel
theorem dX10_number_25 : decode cX10_number 25 = .ok (.if_icmp .ge 53, 3) := by decide +kernel
theorem dX10_number_28 : decode cX10_number 28 = .ok (.aload_n 0, 1) := by decide +kernel
theorem dX10_number_29 : decode cX10_number 29 = .ok (.getfield 13, 3) := by decide +kernel
theorem dX10_number_32 : decode cX10_number 32 = .ok (.aload_n 0, 1) := by decide +kernel
theorem dX10_number_33 : decode cX10_number 33 = .ok (.getfield 89, 3) := by decide +kernel
theorem dX10_number_36 : decode cX10_number 36 = .ok (.caload, 1) := by decide +kernel
theorem dX10_number_37 : decode cX10_number 37 = .ok (.bipush 48, 2) := by decide +kernel
theorem dX10_number_39 : decode cX10_number 39 = .ok (.bipush 57, 2) := by decide +kernel
theorem dX10_number_41 : decode cX10_number 41 = .ok (.invokestatic 30, 3) := by decide +kernel
theorem dX10_number_44 : decode cX10_number 44 = .ok (.ifCond .eq 34, 3) := by decide +kernel
theorem dX10_number_47 : decode cX10_number 47 = .ok (.bipush 10, 2) := by decide +kernel
theorem dX10_number_49 : decode cX10_number 49 = .ok (.iload_n 2, 1) := by decide +kernel
theorem dX10_number_50 : decode cX10_number 50 = .ok (.imul, 1) := by decide +kernel
theorem dX10_number_51 : decode cX10_number 51 = .ok (.aload_n 0, 1) := by decide +kernel
theorem dX10_number_52 : decode cX10_number 52 = .ok (.getfield 13, 3) := by decide +kernel
theorem dX10_number_55 : decode cX10_number 55 = .ok (.aload_n 0, 1) := by decide +kernel
theorem dX10_number_56 : decode cX10_number 56 = .ok (.getfield 89, 3) := by decide +kernel
theorem dX10_number_59 : decode cX10_number 59 = .ok (.caload, 1) := by decide +kernel
theorem dX10_number_60 : decode cX10_number 60 = .ok (.iadd, 1) := by decide +kernel
theorem dX10_number_61 : decode cX10_number 61 = .ok (.bipush 48, 2) := by decide +kernel
theorem dX10_number_63 : decode cX10_number 63 = .ok (.isub, 1) := by decide +kernel
theorem dX10_number_64 : decode cX10_number 64 = .ok (.istore_n 2, 1) := by decide +kernel
theorem dX10_number_65 : decode cX10_number 65 = .ok (.aload_n 0, 1) := by decide +kernel
theorem dX10_number_66 : decode cX10_number 66 = .ok (.dup, 1) := by decide +kernel
theorem dX10_number_67 : decode cX10_number 67 = .ok (.getfield 89, 3) := by decide +kernel
theorem dX10_number_70 : decode cX10_number 70 = .ok (.iconst 1, 1) := by decide +kernel
theorem dX10_number_71 : decode cX10_number 71 = .ok (.iadd, 1) := by decide +kernel
theorem dX10_number_72 : decode cX10_number 72 = .ok (.putfield 89, 3) := by decide +kernel
theorem dX10_number_75 : decode cX10_number 75 = .ok (.goto (-68), 3) := by decide +kernel
theorem dX10_number_78 : decode cX10_number 78 = .ok (.aload_n 0, 1) := by decide +kernel
theorem dX10_number_79 : decode cX10_number 79 = .ok (.getfield 89, 3) := by decide +kernel
theorem dX10_number_82 : decode cX10_number 82 = .ok (.iload_n 1, 1) := by decide +kernel
theorem dX10_number_83 : decode cX10_number 83 = .ok (.if_icmp .le 7, 3) := by decide +kernel
theorem dX10_number_86 : decode cX10_number 86 = .ok (.iload_n 2, 1) := by decide +kernel
theorem dX10_number_87 : decode cX10_number 87 = .ok (.goto 4, 3) := by decide +kernel
theorem dX10_number_90 : decode cX10_number 90 = .ok (.iconst (-1), 1) := by decide +kernel
theorem dX10_number_91 : decode cX10_number 91 = .ok (.ireturn, 1) := by decide +kernel
theorem dX10_isNext_0 : decode cX10_isNext 0 = .ok (.aload_n 0, 1) := by decide +kernel
theorem dX10_isNext_1 : decode cX10_isNext 1 = .ok (.getfield 89, 3) := by decide +kernel
theorem dX10_isNext_4 : decode cX10_isNext 4 = .ok (.aload_n 0, 1) := by decide +kernel
theorem dX10_isNext_5 : decode cX10_isNext 5 = .ok (.getfield 85, 3) := by decide +kernel
theorem dX10_isNext_8 : decode cX10_isNext 8 = .ok (.if_icmp .ge 20, 3) := by decide +kernel
theorem dX10_isNext_11 : decode cX10_isNext 11 = .ok (.aload_n 0, 1) := by decide +kernel
theorem dX10_isNext_12 : decode cX10_isNext 12 = .ok (.getfield 13, 3) := by decide +kernel
theorem dX10_isNext_15 : decode cX10_isNext 15 = .ok (.aload_n 0, 1) := by decide +kernel
theorem dX10_isNext_16 : decode cX10_isNext 16 = .ok (.getfield 89, 3) := by decide +kernel
theorem dX10_isNext_19 : decode cX10_isNext 19 = .ok (.caload, 1) := by decide +kernel
theorem dX10_isNext_20 : decode cX10_isNext 20 = .ok (.iload_n 1, 1) := by decide +kernel
theorem dX10_isNext_21 : decode cX10_isNext 21 = .ok (.if_icmp .ne 7, 3) := by decide +kernel
theorem dX10_isNext_24 : decode cX10_isNext 24 = .ok (.iconst 1, 1) := by decide +kernel
theorem dX10_isNext_25 : decode cX10_isNext 25 = .ok (.goto 4, 3) := by decide +kernel
theorem dX10_isNext_28 : decode cX10_isNext 28 = .ok (.iconst 0, 1) := by decide +kernel
theorem dX10_isNext_29 : decode cX10_isNext 29 = .ok (.istore_n 2, 1) := by decide +kernel
theorem dX10_isNext_30 : decode cX10_isNext 30 = .ok (.aload_n 0, 1) := by decide +kernel
theorem dX10_isNext_31 : decode cX10_isNext 31 = .ok (.dup, 1) := by decide +kernel
theorem dX10_isNext_32 : decode cX10_isNext 32 = .ok (.getfield 89, 3) := by decide +kernel
theorem dX10_isNext_35 : decode cX10_isNext 35 = .ok (.iload_n 2, 1) := by decide +kernel
theorem dX10_isNext_36 : decode cX10_isNext 36 = .ok (.ifCond .eq 7, 3) := by decide +kernel
theorem dX10_isNext_39 : decode cX10_isNext 39 = .ok (.iconst 1, 1) := by decide +kernel
theorem dX10_isNext_40 : decode cX10_isNext 40 = .ok (.goto 4, 3) := by decide +kernel
theorem dX10_isNext_43 : decode cX10_isNext 43 = .ok (.iconst 0, 1) := by decide +kernel
theorem dX10_isNext_44 : decode cX10_isNext 44 = .ok (.iadd, 1) := by decide +kernel
theorem dX10_isNext_45 : decode cX10_isNext 45 = .ok (.putfield 89, 3) := by decide +kernel
theorem dX10_isNext_48 : decode cX10_isNext 48 = .ok (.iload_n 2, 1) := by decide +kernel
theorem dX10_isNext_49 : decode cX10_isNext 49 = .ok (.ireturn, 1) := by decide +kernel
set_option maxRecDepth 20000 in
theorem ggX10_does_X10_number : GoodIn wsX10_does wsX10_number := goodIn_r _ [12, 1, 13, 3, 14, 15, 11, 16, 71, 72, 73, 74, 75, 76, 77, 78, 79] (by decide +kernel) (by decide +kernel)
set_option maxRecDepth 20000 in
theorem gX10_does_X10_number : GoodIn wsX10_does (wsV RX10 95 RX10 yX10_number wsX10_number) := goodIn_app (goodIn_of _ (by decide +kernel)) ggX10_does_X10_number
set_option maxRecDepth 20000 in
theorem ggX10_does_X10_isNext : GoodIn wsX10_does wsX10_isNext := goodIn_r _ [20, 1, 13, 3, 71, 72, 73, 74, 75, 76, 77, 78, 79] (by decide +kernel) (by decide +kernel)
set_option maxRecDepth 20000 in
theorem gX10_does_X10_isNext : GoodIn wsX10_does (wsV RX10 99 RX10 yX10_isNext wsX10_isNext) := goodIn_app (goodIn_of _ (by decide +kernel)) ggX10_does_X10_isNext
set_option maxRecDepth 20000 in
theorem ggX10_does_X10_sets : GoodIn wsX10_does wsX10_sets := goodIn_r _ [24, 6, 7, 14, 15, 11, 16, 71, 72, 73, 74, 75, 76, 77, 78, 79] (by decide +kernel) (by decide +kernel)
set_option maxRecDepth 20000 in
theorem gX10_does_X10_sets : GoodIn wsX10_does (wsV RX10 61 RX10 yX10_sets wsX10_sets) := goodIn_app (goodIn_of _ (by decide +kernel)) ggX10_does_X10_sets
set_option maxRecDepth 20000 in
theorem ggX10_does_X10_in : GoodIn wsX10_does wsX10_in := goodIn_r _ [16] (by decide +kernel) (by decide +kernel)
set_option maxRecDepth 20000 in
theorem gX10_does_X10_in : GoodIn wsX10_does (va_wsS RX10 30 yX10_in wsX10_in) := goodIn_app (goodIn_of _ (by decide +kernel)) ggX10_does_X10_in
set_option maxRecDepth 20000 in
theorem ggX10_does_X10_makes : GoodIn wsX10_does wsX10_makes := goodIn_r _ [28, 7, 29, 30, 31, 11, 32, 33, 34, 35, 36, 37, 38, 39, 40, 41, 42, 43, 44, 45, 46, 47, 48, 49, 50, 51, 52, 53, 54, 55, 56, 57, 14, 15, 16, 58, 59, 60, 61, 71, 72, 73, 74, 75, 76, 77, 78, 79] (by decide +kernel) (by decide +kernel)
set_option maxRecDepth 20000 in
theorem gX10_does_X10_makes : GoodIn wsX10_does (wsV RX10 69 RX10 yX10_makes wsX10_makes) := goodIn_app (goodIn_of _ (by decide +kernel)) ggX10_does_X10_makes
set_option maxRecDepth 20000 in
theorem ggX10_does_X10_draws : GoodIn wsX10_does wsX10_draws := goodIn_r _ [65, 6, 7, 66, 14, 15, 11, 16, 71, 72, 73, 74, 75, 76, 77, 78, 79] (by decide +kernel) (by decide +kernel)
set_option maxRecDepth 20000 in
theorem gX10_does_X10_draws : GoodIn wsX10_does (wsV RX10 72 RX10 yX10_draws wsX10_draws) := goodIn_app (goodIn_of _ (by decide +kernel)) ggX10_does_X10_draws
set_option maxRecDepth 20000 in
theorem ggX10_does_X10_starts : GoodIn wsX10_does wsX10_starts := goodIn_r _ [70, 7, 71, 72, 73, 74, 75, 76, 77, 78, 79] (by decide +kernel) (by decide +kernel)
set_option maxRecDepth 20000 in
theorem gX10_does_X10_starts : GoodIn wsX10_does (wsV RX10 75 RX10 yX10_starts wsX10_starts) := goodIn_app (goodIn_of _ (by decide +kernel)) ggX10_does_X10_starts
theorem dX10_does_0 : decode cX10_does 0 = .ok (.aload_n 0, 1) := by decide +kernel
theorem dX10_does_1 : decode cX10_does 1 = .ok (.aload_n 0, 1) := by decide +kernel
theorem dX10_does_2 : decode cX10_does 2 = .ok (.getfield 89, 3) := by decide +kernel
theorem dX10_does_5 : decode cX10_does 5 = .ok (.putfield 92, 3) := by decide +kernel
theorem dX10_does_8 : decode cX10_does 8 = .ok (.aload_n 0, 1) := by decide +kernel
theorem dX10_does_9 : decode cX10_does 9 = .ok (.getfield 13, 3) := by decide +kernel
theorem dX10_does_12 : decode cX10_does 12 = .ok (.aload_n 0, 1) := by decide +kernel
theorem dX10_does_13 : decode cX10_does 13 = .ok (.getfield 89, 3) := by decide +kernel
theorem dX10_does_16 : decode cX10_does 16 = .ok (.caload, 1) := by decide +kernel
theorem dX10_does_17 : decode cX10_does 17 = .ok (.istore_n 1, 1) := by decide +kernel
theorem dX10_does_18 : decode cX10_does 18 = .ok (.iload_n 1, 1) := by decide +kernel
theorem dX10_does_19 : decode cX10_does 19 = .ok (.bipush 114, 2) := by decide +kernel
theorem dX10_does_21 : decode cX10_does 21 = .ok (.if_icmp .eq 27, 3) := by decide +kernel
theorem dX10_does_24 : decode cX10_does 24 = .ok (.iload_n 1, 1) := by decide +kernel
theorem dX10_does_25 : decode cX10_does 25 = .ok (.bipush 115, 2) := by decide +kernel
theorem dX10_does_27 : decode cX10_does 27 = .ok (.if_icmp .eq 21, 3) := by decide +kernel
theorem dX10_does_30 : decode cX10_does 30 = .ok (.iload_n 1, 1) := by decide +kernel
theorem dX10_does_31 : decode cX10_does 31 = .ok (.bipush 100, 2) := by decide +kernel
theorem dX10_does_33 : decode cX10_does 33 = .ok (.if_icmp .eq 15, 3) := by decide +kernel
theorem dX10_does_36 : decode cX10_does 36 = .ok (.iload_n 1, 1) := by decide +kernel
theorem dX10_does_37 : decode cX10_does 37 = .ok (.bipush 110, 2) := by decide +kernel
theorem dX10_does_39 : decode cX10_does 39 = .ok (.if_icmp .eq 9, 3) := by decide +kernel
theorem dX10_does_42 : decode cX10_does 42 = .ok (.iload_n 1, 1) := by decide +kernel
theorem dX10_does_43 : decode cX10_does 43 = .ok (.bipush 120, 2) := by decide +kernel
theorem dX10_does_45 : decode cX10_does 45 = .ok (.if_icmp .ne 7, 3) := by decide +kernel
theorem dX10_does_48 : decode cX10_does 48 = .ok (.iconst 1, 1) := by decide +kernel
theorem dX10_does_49 : decode cX10_does 49 = .ok (.goto 4, 3) := by decide +kernel
theorem dX10_does_52 : decode cX10_does 52 = .ok (.iconst 0, 1) := by decide +kernel
theorem dX10_does_53 : decode cX10_does 53 = .ok (.istore_n 2, 1) := by decide +kernel
theorem dX10_does_54 : decode cX10_does 54 = .ok (.aload_n 0, 1) := by decide +kernel
theorem dX10_does_55 : decode cX10_does 55 = .ok (.dup, 1) := by decide +kernel
theorem dX10_does_56 : decode cX10_does 56 = .ok (.getfield 89, 3) := by decide +kernel
theorem dX10_does_59 : decode cX10_does 59 = .ok (.iload_n 2, 1) := by decide +kernel
theorem dX10_does_60 : decode cX10_does 60 = .ok (.ifCond .eq 7, 3) := by decide +kernel
theorem dX10_does_63 : decode cX10_does 63 = .ok (.iconst 1, 1) := by decide +kernel
theorem dX10_does_64 : decode cX10_does 64 = .ok (.goto 4, 3) := by decide +kernel
theorem dX10_does_67 : decode cX10_does 67 = .ok (.iconst 0, 1) := by decide +kernel
theorem dX10_does_68 : decode cX10_does 68 = .ok (.iadd, 1) := by decide +kernel
theorem dX10_does_69 : decode cX10_does 69 = .ok (.putfield 89, 3) := by decide +kernel
theorem dX10_does_72 : decode cX10_does 72 = .ok (.iload_n 2, 1) := by decide +kernel
theorem dX10_does_73 : decode cX10_does 73 = .ok (.ifCond .eq 16, 3) := by decide +kernel
theorem dX10_does_76 : decode cX10_does 76 = .ok (.iload_n 1, 1) := by decide +kernel
theorem dX10_does_77 : decode cX10_does 77 = .ok (.bipush 110, 2) := by decide +kernel
theorem dX10_does_79 : decode cX10_does 79 = .ok (.if_icmp .eq 10, 3) := by decide +kernel
theorem dX10_does_82 : decode cX10_does 82 = .ok (.aload_n 0, 1) := by decide +kernel
theorem dX10_does_83 : decode cX10_does 83 = .ok (.invokevirtual 95, 3) := by decide +kernel
theorem dX10_does_86 : decode cX10_does 86 = .ok (.goto 4, 3) := by decide +kernel
theorem dX10_does_89 : decode cX10_does 89 = .ok (.iconst 0, 1) := by decide +kernel
theorem dX10_does_90 : decode cX10_does 90 = .ok (.istore_n 3, 1) := by decide +kernel
theorem dX10_does_91 : decode cX10_does 91 = .ok (.iload_n 2, 1) := by decide +kernel
theorem dX10_does_92 : decode cX10_does 92 = .ok (.ifCond .eq 11, 3) := by decide +kernel
theorem dX10_does_95 : decode cX10_does 95 = .ok (.iload_n 3, 1) := by decide +kernel
theorem dX10_does_96 : decode cX10_does 96 = .ok (.ifCond .lt 7, 3) := by decide +kernel
theorem dX10_does_99 : decode cX10_does 99 = .ok (.iconst 1, 1) := by decide +kernel
theorem dX10_does_100 : decode cX10_does 100 = .ok (.goto 4, 3) := by decide +kernel
theorem dX10_does_103 : decode cX10_does 103 = .ok (.iconst 0, 1) := by decide +kernel
theorem dX10_does_104 : decode cX10_does 104 = .ok (.istore_n 2, 1) := by decide +kernel
theorem dX10_does_105 : decode cX10_does 105 = .ok (.iconst 0, 1) := by decide +kernel
theorem dX10_does_106 : decode cX10_does 106 = .ok (.istore 4, 2) := by decide +kernel
theorem dX10_does_108 : decode cX10_does 108 = .ok (.iconst 0, 1) := by decide +kernel
theorem dX10_does_109 : decode cX10_does 109 = .ok (.istore 5, 2) := by decide +kernel
theorem dX10_does_111 : decode cX10_does 111 = .ok (.iload_n 2, 1) := by decide +kernel
theorem dX10_does_112 : decode cX10_does 112 = .ok (.ifCond .eq 83, 3) := by decide +kernel
theorem dX10_does_115 : decode cX10_does 115 = .ok (.iload_n 1, 1) := by decide +kernel
theorem dX10_does_116 : decode cX10_does 116 = .ok (.bipush 114, 2) := by decide +kernel
theorem dX10_does_118 : decode cX10_does 118 = .ok (.if_icmp .ne 77, 3) := by decide +kernel
theorem dX10_does_121 : decode cX10_does 121 = .ok (.aload_n 0, 1) := by decide +kernel
theorem dX10_does_122 : decode cX10_does 122 = .ok (.bipush 44, 2) := by decide +kernel
theorem dX10_does_124 : decode cX10_does 124 = .ok (.invokevirtual 99, 3) := by decide +kernel
theorem dX10_does_127 : decode cX10_does 127 = .ok (.istore_n 2, 1) := by decide +kernel
theorem dX10_does_128 : decode cX10_does 128 = .ok (.iload_n 2, 1) := by decide +kernel
theorem dX10_does_129 : decode cX10_does 129 = .ok (.ifCond .eq 10, 3) := by decide +kernel
theorem dX10_does_132 : decode cX10_does 132 = .ok (.aload_n 0, 1) := by decide +kernel
theorem dX10_does_133 : decode cX10_does 133 = .ok (.invokevirtual 95, 3) := by decide +kernel
theorem dX10_does_136 : decode cX10_does 136 = .ok (.goto 4, 3) := by decide +kernel
theorem dX10_does_139 : decode cX10_does 139 = .ok (.iconst (-1), 1) := by decide +kernel
theorem dX10_does_140 : decode cX10_does 140 = .ok (.istore 4, 2) := by decide +kernel
theorem dX10_does_142 : decode cX10_does 142 = .ok (.iload_n 2, 1) := by decide +kernel
theorem dX10_does_143 : decode cX10_does 143 = .ok (.ifCond .eq 21, 3) := by decide +kernel
theorem dX10_does_146 : decode cX10_does 146 = .ok (.iload 4, 2) := by decide +kernel
theorem dX10_does_148 : decode cX10_does 148 = .ok (.ifCond .lt 16, 3) := by decide +kernel
theorem dX10_does_151 : decode cX10_does 151 = .ok (.aload_n 0, 1) := by decide +kernel
theorem dX10_does_152 : decode cX10_does 152 = .ok (.bipush 44, 2) := by decide +kernel
theorem dX10_does_154 : decode cX10_does 154 = .ok (.invokevirtual 99, 3) := by decide +kernel
theorem dX10_does_157 : decode cX10_does 157 = .ok (.ifCond .eq 7, 3) := by decide +kernel
theorem dX10_does_160 : decode cX10_does 160 = .ok (.iconst 1, 1) := by decide +kernel
theorem dX10_does_161 : decode cX10_does 161 = .ok (.goto 4, 3) := by decide +kernel
theorem dX10_does_164 : decode cX10_does 164 = .ok (.iconst 0, 1) := by decide +kernel
theorem dX10_does_165 : decode cX10_does 165 = .ok (.istore_n 2, 1) := by decide +kernel
theorem dX10_does_166 : decode cX10_does 166 = .ok (.iload_n 2, 1) := by decide +kernel
theorem dX10_does_167 : decode cX10_does 167 = .ok (.ifCond .eq 10, 3) := by decide +kernel
theorem dX10_does_170 : decode cX10_does 170 = .ok (.aload_n 0, 1) := by decide +kernel
theorem dX10_does_171 : decode cX10_does 171 = .ok (.invokevirtual 95, 3) := by decide +kernel
theorem dX10_does_174 : decode cX10_does 174 = .ok (.goto 4, 3) := by decide +kernel
theorem dX10_does_177 : decode cX10_does 177 = .ok (.iconst (-1), 1) := by decide +kernel
theorem dX10_does_178 : decode cX10_does 178 = .ok (.istore 5, 2) := by decide +kernel
theorem dX10_does_180 : decode cX10_does 180 = .ok (.iload_n 2, 1) := by decide +kernel
theorem dX10_does_181 : decode cX10_does 181 = .ok (.ifCond .eq 12, 3) := by decide +kernel
theorem dX10_does_184 : decode cX10_does 184 = .ok (.iload 5, 2) := by decide +kernel
theorem dX10_does_186 : decode cX10_does 186 = .ok (.ifCond .lt 7, 3) := by decide +kernel
theorem dX10_does_189 : decode cX10_does 189 = .ok (.iconst 1, 1) := by decide +kernel
theorem dX10_does_190 : decode cX10_does 190 = .ok (.goto 4, 3) := by decide +kernel
theorem dX10_does_193 : decode cX10_does 193 = .ok (.iconst 0, 1) := by decide +kernel
theorem dX10_does_194 : decode cX10_does 194 = .ok (.istore_n 2, 1) := by decide +kernel
theorem dX10_does_195 : decode cX10_does 195 = .ok (.iload_n 2, 1) := by decide +kernel
theorem dX10_does_196 : decode cX10_does 196 = .ok (.ifCond .eq 16, 3) := by decide +kernel
theorem dX10_does_199 : decode cX10_does 199 = .ok (.aload_n 0, 1) := by decide +kernel
theorem dX10_does_200 : decode cX10_does 200 = .ok (.bipush 59, 2) := by decide +kernel
theorem dX10_does_202 : decode cX10_does 202 = .ok (.invokevirtual 99, 3) := by decide +kernel
theorem dX10_does_205 : decode cX10_does 205 = .ok (.ifCond .eq 7, 3) := by decide +kernel
theorem dX10_does_208 : decode cX10_does 208 = .ok (.iconst 1, 1) := by decide +kernel
theorem dX10_does_209 : decode cX10_does 209 = .ok (.goto 4, 3) := by decide +kernel
theorem dX10_does_212 : decode cX10_does 212 = .ok (.iconst 0, 1) := by decide +kernel
theorem dX10_does_213 : decode cX10_does 213 = .ok (.istore_n 2, 1) := by decide +kernel
theorem dX10_does_214 : decode cX10_does 214 = .ok (.iload_n 2, 1) := by decide +kernel
theorem dX10_does_215 : decode cX10_does 215 = .ok (.ifCond .ne 23, 3) := by decide +kernel
theorem dX10_does_218 : decode cX10_does 218 = .ok (.aload_n 0, 1) := by decide +kernel
theorem dX10_does_219 : decode cX10_does 219 = .ok (.iconst 1, 1) := by decide +kernel
theorem dX10_does_220 : decode cX10_does 220 = .ok (.putfield 102, 3) := by decide +kernel
theorem dX10_does_223 : decode cX10_does 223 = .ok (.aload_n 0, 1) := by decide +kernel
theorem dX10_does_224 : decode cX10_does 224 = .ok (.aload_n 0, 1) := by decide +kernel
theorem dX10_does_225 : decode cX10_does 225 = .ok (.getfield 89, 3) := by decide +kernel
theorem dX10_does_228 : decode cX10_does 228 = .ok (.aload_n 0, 1) := by decide +kernel
theorem dX10_does_229 : decode cX10_does 229 = .ok (.getfield 92, 3) := by decide +kernel
theorem dX10_does_232 : decode cX10_does 232 = .ok (.isub, 1) := by decide +kernel
theorem dX10_does_233 : decode cX10_does 233 = .ok (.putfield 105, 3) := by decide +kernel
theorem dX10_does_236 : decode cX10_does 236 = .ok (.iconst 0, 1) := by decide +kernel
theorem dX10_does_237 : decode cX10_does 237 = .ok (.ireturn, 1) := by decide +kernel
theorem dX10_does_238 : decode cX10_does 238 = .ok (.iconst 0, 1) := by decide +kernel
theorem dX10_does_239 : decode cX10_does 239 = .ok (.istore 6, 2) := by decide +kernel
theorem dX10_does_241 : decode cX10_does 241 = .ok (.iload_n 1, 1) := by decide +kernel
theorem dX10_does_242 : decode cX10_does 242 = .ok (.bipush 114, 2) := by decide +kernel
theorem dX10_does_244 : decode cX10_does 244 = .ok (.if_icmp .ne 19, 3) := by decide +kernel
theorem dX10_does_247 : decode cX10_does 247 = .ok (.aload_n 0, 1) := by decide +kernel
theorem dX10_does_248 : decode cX10_does 248 = .ok (.bipush 6, 2) := by decide +kernel
theorem dX10_does_250 : decode cX10_does 250 = .ok (.iload_n 3, 1) := by decide +kernel
theorem dX10_does_251 : decode cX10_does 251 = .ok (.iload 4, 2) := by decide +kernel
theorem dX10_does_253 : decode cX10_does 253 = .ok (.iload 5, 2) := by decide +kernel
theorem dX10_does_255 : decode cX10_does 255 = .ok (.invokevirtual 61, 3) := by decide +kernel
theorem dX10_does_258 : decode cX10_does 258 = .ok (.istore 6, 2) := by decide +kernel
theorem dX10_does_260 : decode cX10_does 260 = .ok (.goto 108, 3) := by decide +kernel
theorem dX10_does_263 : decode cX10_does 263 = .ok (.iload_n 1, 1) := by decide +kernel
theorem dX10_does_264 : decode cX10_does 264 = .ok (.bipush 115, 2) := by decide +kernel
theorem dX10_does_266 : decode cX10_does 266 = .ok (.if_icmp .ne 31, 3) := by decide +kernel
theorem dX10_does_269 : decode cX10_does 269 = .ok (.iload_n 3, 1) := by decide +kernel
theorem dX10_does_270 : decode cX10_does 270 = .ok (.iconst 1, 1) := by decide +kernel
theorem dX10_does_271 : decode cX10_does 271 = .ok (.sipush 300, 3) := by decide +kernel
theorem dX10_does_274 : decode cX10_does 274 = .ok (.invokestatic 30, 3) := by decide +kernel
theorem dX10_does_277 : decode cX10_does 277 = .ok (.ifCond .eq 13, 3) := by decide +kernel
theorem dX10_does_280 : decode cX10_does 280 = .ok (.aload_n 0, 1) := by decide +kernel
theorem dX10_does_281 : decode cX10_does 281 = .ok (.bipush 6, 2) := by decide +kernel
end
section
theorem dX10_does_283 : decode cX10_does 283 = .ok (.iload_n 3, 1) := by decide +kernel
theorem dX10_does_284 : decode cX10_does 284 = .ok (.invokevirtual 69, 3) := by decide +kernel
theorem dX10_does_287 : decode cX10_does 287 = .ok (.goto 5, 3) := by decide +kernel
theorem dX10_does_290 : decode cX10_does 290 = .ok (.ldc 59, 2) := by decide +kernel
theorem dX10_does_292 : decode cX10_does 292 = .ok (.istore 6, 2) := by decide +kernel
theorem dX10_does_294 : decode cX10_does 294 = .ok (.goto 74, 3) := by decide +kernel
theorem dX10_does_297 : decode cX10_does 297 = .ok (.iload_n 1, 1) := by decide +kernel
theorem dX10_does_298 : decode cX10_does 298 = .ok (.bipush 100, 2) := by decide +kernel
theorem dX10_does_300 : decode cX10_does 300 = .ok (.if_icmp .ne 15, 3) := by decide +kernel
theorem dX10_does_303 : decode cX10_does 303 = .ok (.aload_n 0, 1) := by decide +kernel
theorem dX10_does_304 : decode cX10_does 304 = .ok (.bipush 6, 2) := by decide +kernel
theorem dX10_does_306 : decode cX10_does 306 = .ok (.iload_n 3, 1) := by decide +kernel
theorem dX10_does_307 : decode cX10_does 307 = .ok (.invokevirtual 72, 3) := by decide +kernel
theorem dX10_does_310 : decode cX10_does 310 = .ok (.istore 6, 2) := by decide +kernel
theorem dX10_does_312 : decode cX10_does 312 = .ok (.goto 56, 3) := by decide +kernel
theorem dX10_does_315 : decode cX10_does 315 = .ok (.iload_n 1, 1) := by decide +kernel
theorem dX10_does_316 : decode cX10_does 316 = .ok (.bipush 110, 2) := by decide +kernel
theorem dX10_does_318 : decode cX10_does 318 = .ok (.if_icmp .ne 14, 3) := by decide +kernel
theorem dX10_does_321 : decode cX10_does 321 = .ok (.aload_n 0, 1) := by decide +kernel
theorem dX10_does_322 : decode cX10_does 322 = .ok (.bipush 6, 2) := by decide +kernel
theorem dX10_does_324 : decode cX10_does 324 = .ok (.invokevirtual 75, 3) := by decide +kernel
theorem dX10_does_327 : decode cX10_does 327 = .ok (.istore 6, 2) := by decide +kernel
theorem dX10_does_329 : decode cX10_does 329 = .ok (.goto 39, 3) := by decide +kernel
theorem dX10_does_332 : decode cX10_does 332 = .ok (.iload_n 3, 1) := by decide +kernel
theorem dX10_does_333 : decode cX10_does 333 = .ok (.ifCond .le 7, 3) := by decide +kernel
theorem dX10_does_336 : decode cX10_does 336 = .ok (.iconst 0, 1) := by decide +kernel
theorem dX10_does_337 : decode cX10_does 337 = .ok (.goto 5, 3) := by decide +kernel
theorem dX10_does_340 : decode cX10_does 340 = .ok (.ldc 59, 2) := by decide +kernel
theorem dX10_does_342 : decode cX10_does 342 = .ok (.istore 6, 2) := by decide +kernel
theorem dX10_does_344 : decode cX10_does 344 = .ok (.aload_n 0, 1) := by decide +kernel
theorem dX10_does_345 : decode cX10_does 345 = .ok (.getfield 7, 3) := by decide +kernel
theorem dX10_does_348 : decode cX10_does 348 = .ok (.sipush 942, 3) := by decide +kernel
theorem dX10_does_351 : decode cX10_does 351 = .ok (.iload_n 3, 1) := by decide +kernel
theorem dX10_does_352 : decode cX10_does 352 = .ok (.ifCond .le 7, 3) := by decide +kernel
theorem dX10_does_355 : decode cX10_does 355 = .ok (.iload_n 3, 1) := by decide +kernel
theorem dX10_does_356 : decode cX10_does 356 = .ok (.goto 11, 3) := by decide +kernel
theorem dX10_does_359 : decode cX10_does 359 = .ok (.aload_n 0, 1) := by decide +kernel
theorem dX10_does_360 : decode cX10_does 360 = .ok (.getfield 7, 3) := by decide +kernel
theorem dX10_does_363 : decode cX10_does 363 = .ok (.sipush 942, 3) := by decide +kernel
theorem dX10_does_366 : decode cX10_does 366 = .ok (.iaload, 1) := by decide +kernel
theorem dX10_does_367 : decode cX10_does 367 = .ok (.iastore, 1) := by decide +kernel
theorem dX10_does_368 : decode cX10_does 368 = .ok (.aload_n 0, 1) := by decide +kernel
theorem dX10_does_369 : decode cX10_does 369 = .ok (.iload 6, 2) := by decide +kernel
theorem dX10_does_371 : decode cX10_does 371 = .ok (.ifCond .ge 7, 3) := by decide +kernel
theorem dX10_does_374 : decode cX10_does 374 = .ok (.iconst 2, 1) := by decide +kernel
theorem dX10_does_375 : decode cX10_does 375 = .ok (.goto 4, 3) := by decide +kernel
theorem dX10_does_378 : decode cX10_does 378 = .ok (.iconst 0, 1) := by decide +kernel
theorem dX10_does_379 : decode cX10_does 379 = .ok (.putfield 102, 3) := by decide +kernel
theorem dX10_does_382 : decode cX10_does 382 = .ok (.aload_n 0, 1) := by decide +kernel
theorem dX10_does_383 : decode cX10_does 383 = .ok (.iload 6, 2) := by decide +kernel
theorem dX10_does_385 : decode cX10_does 385 = .ok (.putfield 105, 3) := by decide +kernel
theorem dX10_does_388 : decode cX10_does 388 = .ok (.iload 6, 2) := by decide +kernel
theorem dX10_does_390 : decode cX10_does 390 = .ok (.ifCond .lt 7, 3) := by decide +kernel
theorem dX10_does_393 : decode cX10_does 393 = .ok (.iconst 1, 1) := by decide +kernel
theorem dX10_does_394 : decode cX10_does 394 = .ok (.goto 4, 3) := by decide +kernel
theorem dX10_does_397 : decode cX10_does 397 = .ok (.iconst 0, 1) := by decide +kernel
theorem dX10_does_398 : decode cX10_does 398 = .ok (.ireturn, 1) := by decide +kernel
set_option maxRecDepth 20000 in
theorem ggX10_plays_X10_copies : GoodIn wsX10_plays wsX10_copies := goodIn_r _ [9, 10, 80, 81, 82, 83, 84, 85, 86, 87, 88] (by decide +kernel) (by decide +kernel)
set_option maxRecDepth 20000 in
theorem gX10_plays_X10_copies : GoodIn wsX10_plays (wsV RX10 21 RX10 yX10_copies wsX10_copies) := goodIn_app (goodIn_of _ (by decide +kernel)) ggX10_plays_X10_copies
set_option maxRecDepth 20000 in
theorem ggX10_plays_X10_does : GoodIn wsX10_plays wsX10_does := goodIn_r _ [14, 1, 15, 16, 3, 17, 18, 10, 19, 20, 21, 8, 22, 4, 23, 24, 25, 26, 27, 28, 29, 30, 31, 32, 33, 34, 35, 36, 37, 38, 39, 40, 41, 42, 43, 44, 45, 46, 47, 48, 49, 50, 51, 52, 53, 54, 55, 56, 57, 58, 59, 60, 61, 62, 63, 64, 65, 66, 67, 68, 69, 70, 71, 72, 73, 74, 75, 76, 77, 78, 79, 80, 81, 82, 83, 84, 85, 86, 87, 88] (by decide +kernel) (by decide +kernel)
set_option maxRecDepth 20000 in
theorem gX10_plays_X10_does : GoodIn wsX10_plays (wsV RX10 111 RX10 yX10_does wsX10_does) := goodIn_app (goodIn_of _ (by decide +kernel)) ggX10_plays_X10_does
theorem dX10_plays_0 : decode cX10_plays 0 = .ok (.aload_n 0, 1) := by decide +kernel
theorem dX10_plays_1 : decode cX10_plays 1 = .ok (.iconst 0, 1) := by decide +kernel
theorem dX10_plays_2 : decode cX10_plays 2 = .ok (.bipush 6, 2) := by decide +kernel
theorem dX10_plays_4 : decode cX10_plays 4 = .ok (.invokevirtual 21, 3) := by decide +kernel
theorem dX10_plays_7 : decode cX10_plays 7 = .ok (.aload_n 0, 1) := by decide +kernel
theorem dX10_plays_8 : decode cX10_plays 8 = .ok (.iconst 0, 1) := by decide +kernel
theorem dX10_plays_9 : decode cX10_plays 9 = .ok (.putfield 89, 3) := by decide +kernel
theorem dX10_plays_12 : decode cX10_plays 12 = .ok (.aload_n 0, 1) := by decide +kernel
theorem dX10_plays_13 : decode cX10_plays 13 = .ok (.iconst 0, 1) := by decide +kernel
theorem dX10_plays_14 : decode cX10_plays 14 = .ok (.putfield 108, 3) := by decide +kernel
theorem dX10_plays_17 : decode cX10_plays 17 = .ok (.aload_n 0, 1) := by decide +kernel
theorem dX10_plays_18 : decode cX10_plays 18 = .ok (.iconst 0, 1) := by decide +kernel
theorem dX10_plays_19 : decode cX10_plays 19 = .ok (.putfield 102, 3) := by decide +kernel
theorem dX10_plays_22 : decode cX10_plays 22 = .ok (.iconst 1, 1) := by decide +kernel
theorem dX10_plays_23 : decode cX10_plays 23 = .ok (.istore_n 1, 1) := by decide +kernel
theorem dX10_plays_24 : decode cX10_plays 24 = .ok (.iload_n 1, 1) := by decide +kernel
theorem dX10_plays_25 : decode cX10_plays 25 = .ok (.ifCond .eq 40, 3) := by decide +kernel
theorem dX10_plays_28 : decode cX10_plays 28 = .ok (.aload_n 0, 1) := by decide +kernel
theorem dX10_plays_29 : decode cX10_plays 29 = .ok (.getfield 89, 3) := by decide +kernel
theorem dX10_plays_32 : decode cX10_plays 32 = .ok (.aload_n 0, 1) := by decide +kernel
theorem dX10_plays_33 : decode cX10_plays 33 = .ok (.getfield 85, 3) := by decide +kernel
theorem dX10_plays_36 : decode cX10_plays 36 = .ok (.if_icmp .ge 29, 3) := by decide +kernel
theorem dX10_plays_39 : decode cX10_plays 39 = .ok (.aload_n 0, 1) := by decide +kernel
theorem dX10_plays_40 : decode cX10_plays 40 = .ok (.invokevirtual 111, 3) := by decide +kernel
theorem dX10_plays_43 : decode cX10_plays 43 = .ok (.istore_n 1, 1) := by decide +kernel
theorem dX10_plays_44 : decode cX10_plays 44 = .ok (.aload_n 0, 1) := by decide +kernel
theorem dX10_plays_45 : decode cX10_plays 45 = .ok (.dup, 1) := by decide +kernel
theorem dX10_plays_46 : decode cX10_plays 46 = .ok (.getfield 108, 3) := by decide +kernel
theorem dX10_plays_49 : decode cX10_plays 49 = .ok (.iload_n 1, 1) := by decide +kernel
theorem dX10_plays_50 : decode cX10_plays 50 = .ok (.ifCond .eq 7, 3) := by decide +kernel
theorem dX10_plays_53 : decode cX10_plays 53 = .ok (.iconst 1, 1) := by decide +kernel
theorem dX10_plays_54 : decode cX10_plays 54 = .ok (.goto 4, 3) := by decide +kernel
theorem dX10_plays_57 : decode cX10_plays 57 = .ok (.iconst 0, 1) := by decide +kernel
theorem dX10_plays_58 : decode cX10_plays 58 = .ok (.iadd, 1) := by decide +kernel
theorem dX10_plays_59 : decode cX10_plays 59 = .ok (.putfield 108, 3) := by decide +kernel
theorem dX10_plays_62 : decode cX10_plays 62 = .ok (.goto (-38), 3) := by decide +kernel
theorem dX10_plays_65 : decode cX10_plays 65 = .ok (.iload_n 1, 1) := by decide +kernel
theorem dX10_plays_66 : decode cX10_plays 66 = .ok (.ireturn, 1) := by decide +kernel
set_option maxRecDepth 20000 in
theorem ggX10_fault_X10_in : GoodIn wsX10_fault wsX10_in := goodIn_r _ [9] (by decide +kernel) (by decide +kernel)
set_option maxRecDepth 20000 in
theorem gX10_fault_X10_in : GoodIn wsX10_fault (va_wsS RX10 30 yX10_in wsX10_in) := goodIn_app (goodIn_of _ (by decide +kernel)) ggX10_fault_X10_in
set_option maxRecDepth 20000 in
theorem ggX10_fault_X10_plays : GoodIn wsX10_fault wsX10_plays := goodIn_r _ [13, 14, 15, 4, 16, 17, 18, 19, 8, 20, 21, 22, 23, 24, 25, 3, 26, 5, 1, 27, 28, 29, 30, 6, 7, 9, 31, 32, 33, 34, 35, 36, 37, 38, 39, 40, 41, 42, 43, 44, 45, 46, 47, 48, 49, 50, 51, 52, 53, 54, 55, 56, 57, 58, 59, 60, 61, 62, 63, 64, 65, 66, 67, 68, 69, 70, 71, 72, 73, 74, 75, 76, 77, 78, 79, 80, 81, 82, 83, 84, 85, 86, 87, 88, 89, 90, 91, 92, 93] (by decide +kernel) (by decide +kernel)
set_option maxRecDepth 20000 in
theorem gX10_fault_X10_plays : GoodIn wsX10_fault (wsV RX10 115 RX10 yX10_plays wsX10_plays) := goodIn_app (goodIn_of _ (by decide +kernel)) ggX10_fault_X10_plays
theorem dX10_fault_0 : decode cX10_fault 0 = .ok (.iload_n 1, 1) := by decide +kernel
theorem dX10_fault_1 : decode cX10_fault 1 = .ok (.iconst 0, 1) := by decide +kernel
theorem dX10_fault_2 : decode cX10_fault 2 = .ok (.iconst 2, 1) := by decide +kernel
theorem dX10_fault_3 : decode cX10_fault 3 = .ok (.invokestatic 30, 3) := by decide +kernel
theorem dX10_fault_6 : decode cX10_fault 6 = .ok (.ifCond .ne 6, 3) := by decide +kernel
theorem dX10_fault_9 : decode cX10_fault 9 = .ok (.ldc 59, 2) := by decide +kernel
theorem dX10_fault_11 : decode cX10_fault 11 = .ok (.ireturn, 1) := by decide +kernel
theorem dX10_fault_12 : decode cX10_fault 12 = .ok (.aload_n 0, 1) := by decide +kernel
theorem dX10_fault_13 : decode cX10_fault 13 = .ok (.invokevirtual 115, 3) := by decide +kernel
theorem dX10_fault_16 : decode cX10_fault 16 = .ok (.ifCond .eq 6, 3) := by decide +kernel
theorem dX10_fault_19 : decode cX10_fault 19 = .ok (.ldc 78, 2) := by decide +kernel
theorem dX10_fault_21 : decode cX10_fault 21 = .ok (.ireturn, 1) := by decide +kernel
theorem dX10_fault_22 : decode cX10_fault 22 = .ok (.iload_n 1, 1) := by decide +kernel
theorem dX10_fault_23 : decode cX10_fault 23 = .ok (.ifCond .ne 10, 3) := by decide +kernel
theorem dX10_fault_26 : decode cX10_fault 26 = .ok (.aload_n 0, 1) := by decide +kernel
theorem dX10_fault_27 : decode cX10_fault 27 = .ok (.getfield 92, 3) := by decide +kernel
theorem dX10_fault_30 : decode cX10_fault 30 = .ok (.goto 19, 3) := by decide +kernel
theorem dX10_fault_33 : decode cX10_fault 33 = .ok (.iload_n 1, 1) := by decide +kernel
theorem dX10_fault_34 : decode cX10_fault 34 = .ok (.iconst 1, 1) := by decide +kernel
theorem dX10_fault_35 : decode cX10_fault 35 = .ok (.if_icmp .ne 10, 3) := by decide +kernel
theorem dX10_fault_38 : decode cX10_fault 38 = .ok (.aload_n 0, 1) := by decide +kernel
theorem dX10_fault_39 : decode cX10_fault 39 = .ok (.getfield 102, 3) := by decide +kernel
theorem dX10_fault_42 : decode cX10_fault 42 = .ok (.goto 7, 3) := by decide +kernel
theorem dX10_fault_45 : decode cX10_fault 45 = .ok (.aload_n 0, 1) := by decide +kernel
theorem dX10_fault_46 : decode cX10_fault 46 = .ok (.getfield 105, 3) := by decide +kernel
theorem dX10_fault_49 : decode cX10_fault 49 = .ok (.ireturn, 1) := by decide +kernel
set_option maxRecDepth 20000 in
theorem ggX10_play_X10_plays : GoodIn wsX10_play wsX10_plays := goodIn_r _ [7, 8, 2, 9, 10, 11, 12, 13, 6, 14, 15, 16, 17, 18, 19, 20, 21, 22, 23, 24, 25, 26, 27, 28, 29, 30, 31, 32, 33, 34, 35, 36, 37, 38, 39, 40, 41, 42, 43, 44, 45, 46, 47, 48, 49, 50, 51, 52, 53, 54, 55, 56, 57, 58, 59, 60, 61, 62, 63, 64, 65, 66, 67, 68, 69, 70, 71, 72, 73, 74, 75, 76, 77, 78, 79, 1, 80, 81, 82, 83, 89, 90, 91, 92, 93, 94, 95, 96, 97] (by decide +kernel) (by decide +kernel)
set_option maxRecDepth 20000 in
theorem gX10_play_X10_plays : GoodIn wsX10_play (wsV RX10 115 RX10 yX10_plays wsX10_plays) := goodIn_app (goodIn_of _ (by decide +kernel)) ggX10_play_X10_plays
set_option maxRecDepth 20000 in
theorem ggX10_play_X10_records : GoodIn wsX10_play wsX10_records := goodIn_r _ [87, 88, 11, 12, 13, 6, 14, 15, 89, 90, 91, 92, 93, 94, 95, 96, 97] (by decide +kernel) (by decide +kernel)
set_option maxRecDepth 20000 in
theorem gX10_play_X10_records : GoodIn wsX10_play (wsV RX10 65 RX10 yX10_records wsX10_records) := goodIn_app (goodIn_of _ (by decide +kernel)) ggX10_play_X10_records
set_option maxRecDepth 20000 in
theorem ggX10_play_X10_copies : GoodIn wsX10_play wsX10_copies := goodIn_r _ [14, 15, 89, 90, 91, 92, 93, 94, 95, 96, 97] (by decide +kernel) (by decide +kernel)
set_option maxRecDepth 20000 in
theorem gX10_play_X10_copies : GoodIn wsX10_play (wsV RX10 21 RX10 yX10_copies wsX10_copies) := goodIn_app (goodIn_of _ (by decide +kernel)) ggX10_play_X10_copies
theorem dX10_play_0 : decode cX10_play 0 = .ok (.aload_n 0, 1) := by decide +kernel
theorem dX10_play_1 : decode cX10_play 1 = .ok (.invokevirtual 115, 3) := by decide +kernel
theorem dX10_play_4 : decode cX10_play 4 = .ok (.ifCond .ne 6, 3) := by decide +kernel
theorem dX10_play_7 : decode cX10_play 7 = .ok (.ldc 60, 2) := by decide +kernel
theorem dX10_play_9 : decode cX10_play 9 = .ok (.ireturn, 1) := by decide +kernel
theorem dX10_play_10 : decode cX10_play 10 = .ok (.aload_n 0, 1) := by decide +kernel
theorem dX10_play_11 : decode cX10_play 11 = .ok (.invokevirtual 65, 3) := by decide +kernel
theorem dX10_play_14 : decode cX10_play 14 = .ok (.aload_n 0, 1) := by decide +kernel
theorem dX10_play_15 : decode cX10_play 15 = .ok (.bipush 6, 2) := by decide +kernel
theorem dX10_play_17 : decode cX10_play 17 = .ok (.iconst 0, 1) := by decide +kernel
theorem dX10_play_18 : decode cX10_play 18 = .ok (.invokevirtual 21, 3) := by decide +kernel
theorem dX10_play_21 : decode cX10_play 21 = .ok (.aload_n 0, 1) := by decide +kernel
theorem dX10_play_22 : decode cX10_play 22 = .ok (.getfield 108, 3) := by decide +kernel
theorem dX10_play_25 : decode cX10_play 25 = .ok (.ireturn, 1) := by decide +kernel
theorem dJxf58ca_isNaN_12338_0 : decode cJxf58ca_isNaN_12338 0 = .ok (.fload_n 0, 1) := by decide +kernel
theorem dJxf58ca_isNaN_12338_1 : decode cJxf58ca_isNaN_12338 1 = .ok (.fload_n 0, 1) := by decide +kernel
theorem dJxf58ca_isNaN_12338_2 : decode cJxf58ca_isNaN_12338 2 = .ok (.fcmp .l, 1) := by decide +kernel
theorem dJxf58ca_isNaN_12338_3 : decode cJxf58ca_isNaN_12338 3 = .ok (.ifCond .eq 7, 3) := by decide +kernel
theorem dJxf58ca_isNaN_12338_6 : decode cJxf58ca_isNaN_12338 6 = .ok (.iconst 1, 1) := by decide +kernel
theorem dJxf58ca_isNaN_12338_7 : decode cJxf58ca_isNaN_12338 7 = .ok (.goto 4, 3) := by decide +kernel
theorem dJxf58ca_isNaN_12338_10 : decode cJxf58ca_isNaN_12338 10 = .ok (.iconst 0, 1) := by decide +kernel
theorem dJxf58ca_isNaN_12338_11 : decode cJxf58ca_isNaN_12338 11 = .ok (.ireturn, 1) := by decide +kernel
set_option maxRecDepth 20000 in
theorem ggJxf58ca_floatToIntBits_5c35a_Jxf58ca_isNaN_12338 : GoodIn wsJxf58ca_floatToIntBits_5c35a wsJxf58ca_isNaN_12338 := goodIn_r _ [9] (by decide +kernel) (by decide +kernel)
set_option maxRecDepth 20000 in
theorem gJxf58ca_floatToIntBits_5c35a_Jxf58ca_isNaN_12338 : GoodIn wsJxf58ca_floatToIntBits_5c35a (va_wsS RJxf58ca 59 yJxf58ca_isNaN_12338 wsJxf58ca_isNaN_12338) := goodIn_app (goodIn_of _ (by decide +kernel)) ggJxf58ca_floatToIntBits_5c35a_Jxf58ca_isNaN_12338
theorem dJxf58ca_floatToIntBits_5c35a_0 : decode cJxf58ca_floatToIntBits_5c35a 0 = .ok (.fload_n 0, 1) := by decide +kernel
theorem dJxf58ca_floatToIntBits_5c35a_1 : decode cJxf58ca_floatToIntBits_5c35a 1 = .ok (.invokestatic 59, 3) := by decide +kernel
theorem dJxf58ca_floatToIntBits_5c35a_4 : decode cJxf58ca_floatToIntBits_5c35a 4 = .ok (.ifCond .ne 8, 3) := by decide +kernel
theorem dJxf58ca_floatToIntBits_5c35a_7 : decode cJxf58ca_floatToIntBits_5c35a 7 = .ok (.fload_n 0, 1) := by decide +kernel
theorem dJxf58ca_floatToIntBits_5c35a_8 : decode cJxf58ca_floatToIntBits_5c35a 8 = .ok (.invokestatic 74, 3) := by decide +kernel
theorem dJxf58ca_floatToIntBits_5c35a_11 : decode cJxf58ca_floatToIntBits_5c35a 11 = .ok (.ireturn, 1) := by decide +kernel
theorem dJxf58ca_floatToIntBits_5c35a_12 : decode cJxf58ca_floatToIntBits_5c35a 12 = .ok (.ldc 77, 2) := by decide +kernel
theorem dJxf58ca_floatToIntBits_5c35a_14 : decode cJxf58ca_floatToIntBits_5c35a 14 = .ok (.ireturn, 1) := by decide +kernel
theorem dJ13_bitCount_95d88_0 : decode cJ13_bitCount_95d88 0 = .ok (.lload_n 0, 1) := by decide +kernel
theorem dJ13_bitCount_95d88_1 : decode cJ13_bitCount_95d88 1 = .ok (.lload_n 0, 1) := by decide +kernel
theorem dJ13_bitCount_95d88_2 : decode cJ13_bitCount_95d88 2 = .ok (.iconst 1, 1) := by decide +kernel
theorem dJ13_bitCount_95d88_3 : decode cJ13_bitCount_95d88 3 = .ok (.lushr, 1) := by decide +kernel
theorem dJ13_bitCount_95d88_4 : decode cJ13_bitCount_95d88 4 = .ok (.ldc2_w 314, 3) := by decide +kernel
theorem dJ13_bitCount_95d88_7 : decode cJ13_bitCount_95d88 7 = .ok (.land, 1) := by decide +kernel
theorem dJ13_bitCount_95d88_8 : decode cJ13_bitCount_95d88 8 = .ok (.lsub, 1) := by decide +kernel
theorem dJ13_bitCount_95d88_9 : decode cJ13_bitCount_95d88 9 = .ok (.lstore_n 0, 1) := by decide +kernel
theorem dJ13_bitCount_95d88_10 : decode cJ13_bitCount_95d88 10 = .ok (.lload_n 0, 1) := by decide +kernel
theorem dJ13_bitCount_95d88_11 : decode cJ13_bitCount_95d88 11 = .ok (.ldc2_w 316, 3) := by decide +kernel
theorem dJ13_bitCount_95d88_14 : decode cJ13_bitCount_95d88 14 = .ok (.land, 1) := by decide +kernel
theorem dJ13_bitCount_95d88_15 : decode cJ13_bitCount_95d88 15 = .ok (.lload_n 0, 1) := by decide +kernel
theorem dJ13_bitCount_95d88_16 : decode cJ13_bitCount_95d88 16 = .ok (.iconst 2, 1) := by decide +kernel
theorem dJ13_bitCount_95d88_17 : decode cJ13_bitCount_95d88 17 = .ok (.lushr, 1) := by decide +kernel
theorem dJ13_bitCount_95d88_18 : decode cJ13_bitCount_95d88 18 = .ok (.ldc2_w 316, 3) := by decide +kernel
theorem dJ13_bitCount_95d88_21 : decode cJ13_bitCount_95d88 21 = .ok (.land, 1) := by decide +kernel
theorem dJ13_bitCount_95d88_22 : decode cJ13_bitCount_95d88 22 = .ok (.ladd, 1) := by decide +kernel
theorem dJ13_bitCount_95d88_23 : decode cJ13_bitCount_95d88 23 = .ok (.lstore_n 0, 1) := by decide +kernel
theorem dJ13_bitCount_95d88_24 : decode cJ13_bitCount_95d88 24 = .ok (.lload_n 0, 1) := by decide +kernel
theorem dJ13_bitCount_95d88_25 : decode cJ13_bitCount_95d88 25 = .ok (.lload_n 0, 1) := by decide +kernel
theorem dJ13_bitCount_95d88_26 : decode cJ13_bitCount_95d88 26 = .ok (.iconst 4, 1) := by decide +kernel
theorem dJ13_bitCount_95d88_27 : decode cJ13_bitCount_95d88 27 = .ok (.lushr, 1) := by decide +kernel
theorem dJ13_bitCount_95d88_28 : decode cJ13_bitCount_95d88 28 = .ok (.ladd, 1) := by decide +kernel
theorem dJ13_bitCount_95d88_29 : decode cJ13_bitCount_95d88 29 = .ok (.ldc2_w 318, 3) := by decide +kernel
theorem dJ13_bitCount_95d88_32 : decode cJ13_bitCount_95d88 32 = .ok (.land, 1) := by decide +kernel
theorem dJ13_bitCount_95d88_33 : decode cJ13_bitCount_95d88 33 = .ok (.lstore_n 0, 1) := by decide +kernel
theorem dJ13_bitCount_95d88_34 : decode cJ13_bitCount_95d88 34 = .ok (.lload_n 0, 1) := by decide +kernel
theorem dJ13_bitCount_95d88_35 : decode cJ13_bitCount_95d88 35 = .ok (.lload_n 0, 1) := by decide +kernel
theorem dJ13_bitCount_95d88_36 : decode cJ13_bitCount_95d88 36 = .ok (.bipush 8, 2) := by decide +kernel
theorem dJ13_bitCount_95d88_38 : decode cJ13_bitCount_95d88 38 = .ok (.lushr, 1) := by decide +kernel
theorem dJ13_bitCount_95d88_39 : decode cJ13_bitCount_95d88 39 = .ok (.ladd, 1) := by decide +kernel
theorem dJ13_bitCount_95d88_40 : decode cJ13_bitCount_95d88 40 = .ok (.lstore_n 0, 1) := by decide +kernel
theorem dJ13_bitCount_95d88_41 : decode cJ13_bitCount_95d88 41 = .ok (.lload_n 0, 1) := by decide +kernel
theorem dJ13_bitCount_95d88_42 : decode cJ13_bitCount_95d88 42 = .ok (.lload_n 0, 1) := by decide +kernel
theorem dJ13_bitCount_95d88_43 : decode cJ13_bitCount_95d88 43 = .ok (.bipush 16, 2) := by decide +kernel
theorem dJ13_bitCount_95d88_45 : decode cJ13_bitCount_95d88 45 = .ok (.lushr, 1) := by decide +kernel
theorem dJ13_bitCount_95d88_46 : decode cJ13_bitCount_95d88 46 = .ok (.ladd, 1) := by decide +kernel
theorem dJ13_bitCount_95d88_47 : decode cJ13_bitCount_95d88 47 = .ok (.lstore_n 0, 1) := by decide +kernel
theorem dJ13_bitCount_95d88_48 : decode cJ13_bitCount_95d88 48 = .ok (.lload_n 0, 1) := by decide +kernel
theorem dJ13_bitCount_95d88_49 : decode cJ13_bitCount_95d88 49 = .ok (.lload_n 0, 1) := by decide +kernel
theorem dJ13_bitCount_95d88_50 : decode cJ13_bitCount_95d88 50 = .ok (.bipush 32, 2) := by decide +kernel
theorem dJ13_bitCount_95d88_52 : decode cJ13_bitCount_95d88 52 = .ok (.lushr, 1) := by decide +kernel
theorem dJ13_bitCount_95d88_53 : decode cJ13_bitCount_95d88 53 = .ok (.ladd, 1) := by decide +kernel
theorem dJ13_bitCount_95d88_54 : decode cJ13_bitCount_95d88 54 = .ok (.lstore_n 0, 1) := by decide +kernel
theorem dJ13_bitCount_95d88_55 : decode cJ13_bitCount_95d88 55 = .ok (.lload_n 0, 1) := by decide +kernel
theorem dJ13_bitCount_95d88_56 : decode cJ13_bitCount_95d88 56 = .ok (.l2i, 1) := by decide +kernel
theorem dJ13_bitCount_95d88_57 : decode cJ13_bitCount_95d88 57 = .ok (.bipush 127, 2) := by decide +kernel
theorem dJ13_bitCount_95d88_59 : decode cJ13_bitCount_95d88 59 = .ok (.iand, 1) := by decide +kernel
theorem dJ13_bitCount_95d88_60 : decode cJ13_bitCount_95d88 60 = .ok (.ireturn, 1) := by decide +kernel
theorem dJ9_abs_0f7a4_0 : decode cJ9_abs_0f7a4 0 = .ok (.iload_n 0, 1) := by decide +kernel
theorem dJ9_abs_0f7a4_1 : decode cJ9_abs_0f7a4 1 = .ok (.ifCond .ge 8, 3) := by decide +kernel
theorem dJ9_abs_0f7a4_4 : decode cJ9_abs_0f7a4 4 = .ok (.iload_n 0, 1) := by decide +kernel
theorem dJ9_abs_0f7a4_5 : decode cJ9_abs_0f7a4 5 = .ok (.ineg, 1) := by decide +kernel
theorem dJ9_abs_0f7a4_6 : decode cJ9_abs_0f7a4 6 = .ok (.goto 4, 3) := by decide +kernel
theorem dJ9_abs_0f7a4_9 : decode cJ9_abs_0f7a4 9 = .ok (.iload_n 0, 1) := by decide +kernel
theorem dJ9_abs_0f7a4_10 : decode cJ9_abs_0f7a4 10 = .ok (.ireturn, 1) := by decide +kernel
theorem dJ9_max_7cf53_0 : decode cJ9_max_7cf53 0 = .ok (.iload_n 0, 1) := by decide +kernel
theorem dJ9_max_7cf53_1 : decode cJ9_max_7cf53 1 = .ok (.iload_n 1, 1) := by decide +kernel
theorem dJ9_max_7cf53_2 : decode cJ9_max_7cf53 2 = .ok (.if_icmp .lt 7, 3) := by decide +kernel
theorem dJ9_max_7cf53_5 : decode cJ9_max_7cf53 5 = .ok (.iload_n 0, 1) := by decide +kernel
theorem dJ9_max_7cf53_6 : decode cJ9_max_7cf53 6 = .ok (.goto 4, 3) := by decide +kernel
theorem dJ9_max_7cf53_9 : decode cJ9_max_7cf53 9 = .ok (.iload_n 1, 1) := by decide +kernel
theorem dJ9_max_7cf53_10 : decode cJ9_max_7cf53 10 = .ok (.ireturn, 1) := by decide +kernel
theorem dJ9_min_7cf53_0 : decode cJ9_min_7cf53 0 = .ok (.iload_n 0, 1) := by decide +kernel
theorem dJ9_min_7cf53_1 : decode cJ9_min_7cf53 1 = .ok (.iload_n 1, 1) := by decide +kernel
theorem dJ9_min_7cf53_2 : decode cJ9_min_7cf53 2 = .ok (.if_icmp .gt 7, 3) := by decide +kernel
theorem dJ9_min_7cf53_5 : decode cJ9_min_7cf53 5 = .ok (.iload_n 0, 1) := by decide +kernel
theorem dJ9_min_7cf53_6 : decode cJ9_min_7cf53 6 = .ok (.goto 4, 3) := by decide +kernel
theorem dJ9_min_7cf53_9 : decode cJ9_min_7cf53 9 = .ok (.iload_n 1, 1) := by decide +kernel
theorem dJ9_min_7cf53_10 : decode cJ9_min_7cf53 10 = .ok (.ireturn, 1) := by decide +kernel
theorem dL_law_0 : decode cL_law 0 = .ok (.new 7, 3) := by decide +kernel
theorem dL_law_3 : decode cL_law 3 = .ok (.dup, 1) := by decide +kernel
theorem dL_law_4 : decode cL_law 4 = .ok (.invokespecial 9, 3) := by decide +kernel
theorem dL_law_7 : decode cL_law 7 = .ok (.astore_n 1, 1) := by decide +kernel
theorem dL_law_8 : decode cL_law 8 = .ok (.new 10, 3) := by decide +kernel
theorem dL_law_11 : decode cL_law 11 = .ok (.dup, 1) := by decide +kernel
theorem dL_law_12 : decode cL_law 12 = .ok (.invokespecial 12, 3) := by decide +kernel
theorem dL_law_15 : decode cL_law 15 = .ok (.astore_n 2, 1) := by decide +kernel
theorem dL_law_16 : decode cL_law 16 = .ok (.iconst 0, 1) := by decide +kernel
theorem dL_law_17 : decode cL_law 17 = .ok (.istore_n 3, 1) := by decide +kernel
theorem dL_law_18 : decode cL_law 18 = .ok (.iload_n 3, 1) := by decide +kernel
theorem dL_law_19 : decode cL_law 19 = .ok (.aload_n 0, 1) := by decide +kernel
theorem dL_law_20 : decode cL_law 20 = .ok (.arraylength, 1) := by decide +kernel
theorem dL_law_21 : decode cL_law 21 = .ok (.iconst 4, 1) := by decide +kernel
theorem dL_law_22 : decode cL_law 22 = .ok (.isub, 1) := by decide +kernel
theorem dL_law_23 : decode cL_law 23 = .ok (.if_icmp .gt 571, 3) := by decide +kernel
theorem dL_law_26 : decode cL_law 26 = .ok (.aload_n 0, 1) := by decide +kernel
theorem dL_law_27 : decode cL_law 27 = .ok (.iload_n 3, 1) := by decide +kernel
theorem dL_law_28 : decode cL_law 28 = .ok (.iaload, 1) := by decide +kernel
theorem dL_law_29 : decode cL_law 29 = .ok (.bipush 31, 2) := by decide +kernel
theorem dL_law_31 : decode cL_law 31 = .ok (.iand, 1) := by decide +kernel
theorem dL_law_32 : decode cL_law 32 = .ok (.tableswitch 556 0 19 #[96, 139, 162, 185, 208, 221, 254, 287, 310, 333, 356, 389, 412, 435, 448, 471, 484, 507, 520, 543], 96) := by decide +kernel
theorem dL_law_128 : decode cL_law 128 = .ok (.aload_n 1, 1) := by decide +kernel
theorem dL_law_129 : decode cL_law 129 = .ok (.aload_n 0, 1) := by decide +kernel
theorem dL_law_130 : decode cL_law 130 = .ok (.iload_n 3, 1) := by decide +kernel
theorem dL_law_131 : decode cL_law 131 = .ok (.iconst 1, 1) := by decide +kernel
theorem dL_law_132 : decode cL_law 132 = .ok (.iadd, 1) := by decide +kernel
theorem dL_law_133 : decode cL_law 133 = .ok (.iaload, 1) := by decide +kernel
theorem dL_law_134 : decode cL_law 134 = .ok (.aload_n 0, 1) := by decide +kernel
theorem dL_law_135 : decode cL_law 135 = .ok (.iload_n 3, 1) := by decide +kernel
theorem dL_law_136 : decode cL_law 136 = .ok (.iconst 2, 1) := by decide +kernel
theorem dL_law_137 : decode cL_law 137 = .ok (.iadd, 1) := by decide +kernel
theorem dL_law_138 : decode cL_law 138 = .ok (.iaload, 1) := by decide +kernel
theorem dL_law_139 : decode cL_law 139 = .ok (.aload_n 0, 1) := by decide +kernel
theorem dL_law_140 : decode cL_law 140 = .ok (.iload_n 3, 1) := by decide +kernel
theorem dL_law_141 : decode cL_law 141 = .ok (.iconst 3, 1) := by decide +kernel
theorem dL_law_142 : decode cL_law 142 = .ok (.iadd, 1) := by decide +kernel
theorem dL_law_143 : decode cL_law 143 = .ok (.iaload, 1) := by decide +kernel
theorem dL_law_144 : decode cL_law 144 = .ok (.invokevirtual 13, 3) := by decide +kernel
theorem dL_law_147 : decode cL_law 147 = .ok (.aload_n 2, 1) := by decide +kernel
theorem dL_law_148 : decode cL_law 148 = .ok (.aload_n 0, 1) := by decide +kernel
theorem dL_law_149 : decode cL_law 149 = .ok (.iload_n 3, 1) := by decide +kernel
theorem dL_law_150 : decode cL_law 150 = .ok (.iconst 1, 1) := by decide +kernel
theorem dL_law_151 : decode cL_law 151 = .ok (.iadd, 1) := by decide +kernel
theorem dL_law_152 : decode cL_law 152 = .ok (.iaload, 1) := by decide +kernel
theorem dL_law_153 : decode cL_law 153 = .ok (.aload_n 0, 1) := by decide +kernel
theorem dL_law_154 : decode cL_law 154 = .ok (.iload_n 3, 1) := by decide +kernel
theorem dL_law_155 : decode cL_law 155 = .ok (.iconst 2, 1) := by decide +kernel
theorem dL_law_156 : decode cL_law 156 = .ok (.iadd, 1) := by decide +kernel
theorem dL_law_157 : decode cL_law 157 = .ok (.iaload, 1) := by decide +kernel
theorem dL_law_158 : decode cL_law 158 = .ok (.aload_n 0, 1) := by decide +kernel
theorem dL_law_159 : decode cL_law 159 = .ok (.iload_n 3, 1) := by decide +kernel
theorem dL_law_160 : decode cL_law 160 = .ok (.iconst 3, 1) := by decide +kernel
theorem dL_law_161 : decode cL_law 161 = .ok (.iadd, 1) := by decide +kernel
theorem dL_law_162 : decode cL_law 162 = .ok (.iaload, 1) := by decide +kernel
theorem dL_law_163 : decode cL_law 163 = .ok (.invokevirtual 17, 3) := by decide +kernel
theorem dL_law_166 : decode cL_law 166 = .ok (.if_icmp .eq 422, 3) := by decide +kernel
theorem dL_law_169 : decode cL_law 169 = .ok (.iconst 0, 1) := by decide +kernel
theorem dL_law_170 : decode cL_law 170 = .ok (.ireturn, 1) := by decide +kernel
theorem dL_law_171 : decode cL_law 171 = .ok (.aload_n 1, 1) := by decide +kernel
theorem dL_law_172 : decode cL_law 172 = .ok (.aload_n 0, 1) := by decide +kernel
theorem dL_law_173 : decode cL_law 173 = .ok (.iload_n 3, 1) := by decide +kernel
theorem dL_law_174 : decode cL_law 174 = .ok (.iconst 1, 1) := by decide +kernel
theorem dL_law_175 : decode cL_law 175 = .ok (.iadd, 1) := by decide +kernel
theorem dL_law_176 : decode cL_law 176 = .ok (.iaload, 1) := by decide +kernel
theorem dL_law_177 : decode cL_law 177 = .ok (.invokevirtual 18, 3) := by decide +kernel
theorem dL_law_180 : decode cL_law 180 = .ok (.aload_n 2, 1) := by decide +kernel
theorem dL_law_181 : decode cL_law 181 = .ok (.aload_n 0, 1) := by decide +kernel
theorem dL_law_182 : decode cL_law 182 = .ok (.iload_n 3, 1) := by decide +kernel
theorem dL_law_183 : decode cL_law 183 = .ok (.iconst 1, 1) := by decide +kernel
theorem dL_law_184 : decode cL_law 184 = .ok (.iadd, 1) := by decide +kernel
theorem dL_law_185 : decode cL_law 185 = .ok (.iaload, 1) := by decide +kernel
theorem dL_law_186 : decode cL_law 186 = .ok (.invokevirtual 22, 3) := by decide +kernel
theorem dL_law_189 : decode cL_law 189 = .ok (.if_icmp .eq 399, 3) := by decide +kernel
theorem dL_law_192 : decode cL_law 192 = .ok (.iconst 0, 1) := by decide +kernel
theorem dL_law_193 : decode cL_law 193 = .ok (.ireturn, 1) := by decide +kernel
theorem dL_law_194 : decode cL_law 194 = .ok (.aload_n 1, 1) := by decide +kernel
theorem dL_law_195 : decode cL_law 195 = .ok (.aload_n 0, 1) := by decide +kernel
theorem dL_law_196 : decode cL_law 196 = .ok (.iload_n 3, 1) := by decide +kernel
theorem dL_law_197 : decode cL_law 197 = .ok (.iconst 1, 1) := by decide +kernel
theorem dL_law_198 : decode cL_law 198 = .ok (.iadd, 1) := by decide +kernel
theorem dL_law_199 : decode cL_law 199 = .ok (.iaload, 1) := by decide +kernel
theorem dL_law_200 : decode cL_law 200 = .ok (.invokevirtual 23, 3) := by decide +kernel
theorem dL_law_203 : decode cL_law 203 = .ok (.aload_n 2, 1) := by decide +kernel
theorem dL_law_204 : decode cL_law 204 = .ok (.aload_n 0, 1) := by decide +kernel
theorem dL_law_205 : decode cL_law 205 = .ok (.iload_n 3, 1) := by decide +kernel
theorem dL_law_206 : decode cL_law 206 = .ok (.iconst 1, 1) := by decide +kernel
theorem dL_law_207 : decode cL_law 207 = .ok (.iadd, 1) := by decide +kernel
theorem dL_law_208 : decode cL_law 208 = .ok (.iaload, 1) := by decide +kernel
theorem dL_law_209 : decode cL_law 209 = .ok (.invokevirtual 26, 3) := by decide +kernel
theorem dL_law_212 : decode cL_law 212 = .ok (.if_icmp .eq 376, 3) := by decide +kernel
theorem dL_law_215 : decode cL_law 215 = .ok (.iconst 0, 1) := by decide +kernel
theorem dL_law_216 : decode cL_law 216 = .ok (.ireturn, 1) := by decide +kernel
theorem dL_law_217 : decode cL_law 217 = .ok (.aload_n 1, 1) := by decide +kernel
theorem dL_law_218 : decode cL_law 218 = .ok (.aload_n 0, 1) := by decide +kernel
theorem dL_law_219 : decode cL_law 219 = .ok (.iload_n 3, 1) := by decide +kernel
theorem dL_law_220 : decode cL_law 220 = .ok (.iconst 1, 1) := by decide +kernel
theorem dL_law_221 : decode cL_law 221 = .ok (.iadd, 1) := by decide +kernel
theorem dL_law_222 : decode cL_law 222 = .ok (.iaload, 1) := by decide +kernel
theorem dL_law_223 : decode cL_law 223 = .ok (.invokevirtual 27, 3) := by decide +kernel
theorem dL_law_226 : decode cL_law 226 = .ok (.aload_n 2, 1) := by decide +kernel
theorem dL_law_227 : decode cL_law 227 = .ok (.aload_n 0, 1) := by decide +kernel
theorem dL_law_228 : decode cL_law 228 = .ok (.iload_n 3, 1) := by decide +kernel
theorem dL_law_229 : decode cL_law 229 = .ok (.iconst 1, 1) := by decide +kernel
theorem dL_law_230 : decode cL_law 230 = .ok (.iadd, 1) := by decide +kernel
theorem dL_law_231 : decode cL_law 231 = .ok (.iaload, 1) := by decide +kernel
theorem dL_law_232 : decode cL_law 232 = .ok (.invokevirtual 30, 3) := by decide +kernel
theorem dL_law_235 : decode cL_law 235 = .ok (.if_icmp .eq 353, 3) := by decide +kernel
theorem dL_law_238 : decode cL_law 238 = .ok (.iconst 0, 1) := by decide +kernel
theorem dL_law_239 : decode cL_law 239 = .ok (.ireturn, 1) := by decide +kernel
theorem dL_law_240 : decode cL_law 240 = .ok (.aload_n 1, 1) := by decide +kernel
theorem dL_law_241 : decode cL_law 241 = .ok (.invokevirtual 31, 3) := by decide +kernel
theorem dL_law_244 : decode cL_law 244 = .ok (.aload_n 2, 1) := by decide +kernel
theorem dL_law_245 : decode cL_law 245 = .ok (.invokevirtual 35, 3) := by decide +kernel
theorem dL_law_248 : decode cL_law 248 = .ok (.if_icmp .eq 340, 3) := by decide +kernel
theorem dL_law_251 : decode cL_law 251 = .ok (.iconst 0, 1) := by decide +kernel
theorem dL_law_252 : decode cL_law 252 = .ok (.ireturn, 1) := by decide +kernel
theorem dL_law_253 : decode cL_law 253 = .ok (.aload_n 1, 1) := by decide +kernel
theorem dL_law_254 : decode cL_law 254 = .ok (.aload_n 0, 1) := by decide +kernel
theorem dL_law_255 : decode cL_law 255 = .ok (.iload_n 3, 1) := by decide +kernel
theorem dL_law_256 : decode cL_law 256 = .ok (.iconst 1, 1) := by decide +kernel
theorem dL_law_257 : decode cL_law 257 = .ok (.iadd, 1) := by decide +kernel
theorem dL_law_258 : decode cL_law 258 = .ok (.iaload, 1) := by decide +kernel
theorem dL_law_259 : decode cL_law 259 = .ok (.aload_n 0, 1) := by decide +kernel
theorem dL_law_260 : decode cL_law 260 = .ok (.iload_n 3, 1) := by decide +kernel
theorem dL_law_261 : decode cL_law 261 = .ok (.iconst 2, 1) := by decide +kernel
theorem dL_law_262 : decode cL_law 262 = .ok (.iadd, 1) := by decide +kernel
theorem dL_law_263 : decode cL_law 263 = .ok (.iaload, 1) := by decide +kernel
theorem dL_law_264 : decode cL_law 264 = .ok (.invokevirtual 36, 3) := by decide +kernel
theorem dL_law_267 : decode cL_law 267 = .ok (.aload_n 2, 1) := by decide +kernel
theorem dL_law_268 : decode cL_law 268 = .ok (.aload_n 0, 1) := by decide +kernel
theorem dL_law_269 : decode cL_law 269 = .ok (.iload_n 3, 1) := by decide +kernel
theorem dL_law_270 : decode cL_law 270 = .ok (.iconst 1, 1) := by decide +kernel
theorem dL_law_271 : decode cL_law 271 = .ok (.iadd, 1) := by decide +kernel
theorem dL_law_272 : decode cL_law 272 = .ok (.iaload, 1) := by decide +kernel
theorem dL_law_273 : decode cL_law 273 = .ok (.aload_n 0, 1) := by decide +kernel
theorem dL_law_274 : decode cL_law 274 = .ok (.iload_n 3, 1) := by decide +kernel
theorem dL_law_275 : decode cL_law 275 = .ok (.iconst 2, 1) := by decide +kernel
theorem dL_law_276 : decode cL_law 276 = .ok (.iadd, 1) := by decide +kernel
theorem dL_law_277 : decode cL_law 277 = .ok (.iaload, 1) := by decide +kernel
theorem dL_law_278 : decode cL_law 278 = .ok (.invokevirtual 40, 3) := by decide +kernel
theorem dL_law_281 : decode cL_law 281 = .ok (.if_icmp .eq 307, 3) := by decide +kernel
theorem dL_law_284 : decode cL_law 284 = .ok (.iconst 0, 1) := by decide +kernel
theorem dL_law_285 : decode cL_law 285 = .ok (.ireturn, 1) := by decide +kernel
theorem dL_law_286 : decode cL_law 286 = .ok (.aload_n 1, 1) := by decide +kernel
theorem dL_law_287 : decode cL_law 287 = .ok (.aload_n 0, 1) := by decide +kernel
theorem dL_law_288 : decode cL_law 288 = .ok (.iload_n 3, 1) := by decide +kernel
theorem dL_law_289 : decode cL_law 289 = .ok (.iconst 1, 1) := by decide +kernel
theorem dL_law_290 : decode cL_law 290 = .ok (.iadd, 1) := by decide +kernel
theorem dL_law_291 : decode cL_law 291 = .ok (.iaload, 1) := by decide +kernel
theorem dL_law_292 : decode cL_law 292 = .ok (.aload_n 0, 1) := by decide +kernel
theorem dL_law_293 : decode cL_law 293 = .ok (.iload_n 3, 1) := by decide +kernel
theorem dL_law_294 : decode cL_law 294 = .ok (.iconst 2, 1) := by decide +kernel
theorem dL_law_295 : decode cL_law 295 = .ok (.iadd, 1) := by decide +kernel
theorem dL_law_296 : decode cL_law 296 = .ok (.iaload, 1) := by decide +kernel
theorem dL_law_297 : decode cL_law 297 = .ok (.invokevirtual 41, 3) := by decide +kernel
theorem dL_law_300 : decode cL_law 300 = .ok (.aload_n 2, 1) := by decide +kernel
theorem dL_law_301 : decode cL_law 301 = .ok (.aload_n 0, 1) := by decide +kernel
theorem dL_law_302 : decode cL_law 302 = .ok (.iload_n 3, 1) := by decide +kernel
theorem dL_law_303 : decode cL_law 303 = .ok (.iconst 1, 1) := by decide +kernel
theorem dL_law_304 : decode cL_law 304 = .ok (.iadd, 1) := by decide +kernel
theorem dL_law_305 : decode cL_law 305 = .ok (.iaload, 1) := by decide +kernel
theorem dL_law_306 : decode cL_law 306 = .ok (.aload_n 0, 1) := by decide +kernel
theorem dL_law_307 : decode cL_law 307 = .ok (.iload_n 3, 1) := by decide +kernel
theorem dL_law_308 : decode cL_law 308 = .ok (.iconst 2, 1) := by decide +kernel
theorem dL_law_309 : decode cL_law 309 = .ok (.iadd, 1) := by decide +kernel
theorem dL_law_310 : decode cL_law 310 = .ok (.iaload, 1) := by decide +kernel
theorem dL_law_311 : decode cL_law 311 = .ok (.invokevirtual 44, 3) := by decide +kernel
theorem dL_law_314 : decode cL_law 314 = .ok (.if_icmp .eq 274, 3) := by decide +kernel
theorem dL_law_317 : decode cL_law 317 = .ok (.iconst 0, 1) := by decide +kernel
theorem dL_law_318 : decode cL_law 318 = .ok (.ireturn, 1) := by decide +kernel
theorem dL_law_319 : decode cL_law 319 = .ok (.aload_n 1, 1) := by decide +kernel
theorem dL_law_320 : decode cL_law 320 = .ok (.aload_n 0, 1) := by decide +kernel
theorem dL_law_321 : decode cL_law 321 = .ok (.iload_n 3, 1) := by decide +kernel
theorem dL_law_322 : decode cL_law 322 = .ok (.iconst 1, 1) := by decide +kernel
theorem dL_law_323 : decode cL_law 323 = .ok (.iadd, 1) := by decide +kernel
theorem dL_law_324 : decode cL_law 324 = .ok (.iaload, 1) := by decide +kernel
theorem dL_law_325 : decode cL_law 325 = .ok (.invokevirtual 45, 3) := by decide +kernel
theorem dL_law_328 : decode cL_law 328 = .ok (.aload_n 2, 1) := by decide +kernel
theorem dL_law_329 : decode cL_law 329 = .ok (.aload_n 0, 1) := by decide +kernel
theorem dL_law_330 : decode cL_law 330 = .ok (.iload_n 3, 1) := by decide +kernel
theorem dL_law_331 : decode cL_law 331 = .ok (.iconst 1, 1) := by decide +kernel
theorem dL_law_332 : decode cL_law 332 = .ok (.iadd, 1) := by decide +kernel
theorem dL_law_333 : decode cL_law 333 = .ok (.iaload, 1) := by decide +kernel
theorem dL_law_334 : decode cL_law 334 = .ok (.invokevirtual 48, 3) := by decide +kernel
theorem dL_law_337 : decode cL_law 337 = .ok (.if_icmp .eq 251, 3) := by decide +kernel
theorem dL_law_340 : decode cL_law 340 = .ok (.iconst 0, 1) := by decide +kernel
theorem dL_law_341 : decode cL_law 341 = .ok (.ireturn, 1) := by decide +kernel
theorem dL_law_342 : decode cL_law 342 = .ok (.aload_n 1, 1) := by decide +kernel
theorem dL_law_343 : decode cL_law 343 = .ok (.aload_n 0, 1) := by decide +kernel
theorem dL_law_344 : decode cL_law 344 = .ok (.iload_n 3, 1) := by decide +kernel
theorem dL_law_345 : decode cL_law 345 = .ok (.iconst 1, 1) := by decide +kernel
theorem dL_law_346 : decode cL_law 346 = .ok (.iadd, 1) := by decide +kernel
theorem dL_law_347 : decode cL_law 347 = .ok (.iaload, 1) := by decide +kernel
theorem dL_law_348 : decode cL_law 348 = .ok (.invokevirtual 49, 3) := by decide +kernel
theorem dL_law_351 : decode cL_law 351 = .ok (.aload_n 2, 1) := by decide +kernel
theorem dL_law_352 : decode cL_law 352 = .ok (.aload_n 0, 1) := by decide +kernel
theorem dL_law_353 : decode cL_law 353 = .ok (.iload_n 3, 1) := by decide +kernel
theorem dL_law_354 : decode cL_law 354 = .ok (.iconst 1, 1) := by decide +kernel
theorem dL_law_355 : decode cL_law 355 = .ok (.iadd, 1) := by decide +kernel
theorem dL_law_356 : decode cL_law 356 = .ok (.iaload, 1) := by decide +kernel
theorem dL_law_357 : decode cL_law 357 = .ok (.invokevirtual 52, 3) := by decide +kernel
theorem dL_law_360 : decode cL_law 360 = .ok (.if_icmp .eq 228, 3) := by decide +kernel
theorem dL_law_363 : decode cL_law 363 = .ok (.iconst 0, 1) := by decide +kernel
theorem dL_law_364 : decode cL_law 364 = .ok (.ireturn, 1) := by decide +kernel
theorem dL_law_365 : decode cL_law 365 = .ok (.aload_n 1, 1) := by decide +kernel
theorem dL_law_366 : decode cL_law 366 = .ok (.aload_n 0, 1) := by decide +kernel
theorem dL_law_367 : decode cL_law 367 = .ok (.iload_n 3, 1) := by decide +kernel
theorem dL_law_368 : decode cL_law 368 = .ok (.iconst 1, 1) := by decide +kernel
theorem dL_law_369 : decode cL_law 369 = .ok (.iadd, 1) := by decide +kernel
theorem dL_law_370 : decode cL_law 370 = .ok (.iaload, 1) := by decide +kernel
theorem dL_law_371 : decode cL_law 371 = .ok (.invokevirtual 53, 3) := by decide +kernel
theorem dL_law_374 : decode cL_law 374 = .ok (.aload_n 2, 1) := by decide +kernel
theorem dL_law_375 : decode cL_law 375 = .ok (.aload_n 0, 1) := by decide +kernel
theorem dL_law_376 : decode cL_law 376 = .ok (.iload_n 3, 1) := by decide +kernel
theorem dL_law_377 : decode cL_law 377 = .ok (.iconst 1, 1) := by decide +kernel
theorem dL_law_378 : decode cL_law 378 = .ok (.iadd, 1) := by decide +kernel
theorem dL_law_379 : decode cL_law 379 = .ok (.iaload, 1) := by decide +kernel
theorem dL_law_380 : decode cL_law 380 = .ok (.invokevirtual 56, 3) := by decide +kernel
theorem dL_law_383 : decode cL_law 383 = .ok (.if_icmp .eq 205, 3) := by decide +kernel
theorem dL_law_386 : decode cL_law 386 = .ok (.iconst 0, 1) := by decide +kernel
theorem dL_law_387 : decode cL_law 387 = .ok (.ireturn, 1) := by decide +kernel
theorem dL_law_388 : decode cL_law 388 = .ok (.aload_n 1, 1) := by decide +kernel
theorem dL_law_389 : decode cL_law 389 = .ok (.aload_n 0, 1) := by decide +kernel
theorem dL_law_390 : decode cL_law 390 = .ok (.iload_n 3, 1) := by decide +kernel
theorem dL_law_391 : decode cL_law 391 = .ok (.iconst 1, 1) := by decide +kernel
theorem dL_law_392 : decode cL_law 392 = .ok (.iadd, 1) := by decide +kernel
theorem dL_law_393 : decode cL_law 393 = .ok (.iaload, 1) := by decide +kernel
theorem dL_law_394 : decode cL_law 394 = .ok (.aload_n 0, 1) := by decide +kernel
theorem dL_law_395 : decode cL_law 395 = .ok (.iload_n 3, 1) := by decide +kernel
theorem dL_law_396 : decode cL_law 396 = .ok (.iconst 2, 1) := by decide +kernel
theorem dL_law_397 : decode cL_law 397 = .ok (.iadd, 1) := by decide +kernel
theorem dL_law_398 : decode cL_law 398 = .ok (.iaload, 1) := by decide +kernel
theorem dL_law_399 : decode cL_law 399 = .ok (.invokevirtual 57, 3) := by decide +kernel
theorem dL_law_402 : decode cL_law 402 = .ok (.aload_n 2, 1) := by decide +kernel
theorem dL_law_403 : decode cL_law 403 = .ok (.aload_n 0, 1) := by decide +kernel
theorem dL_law_404 : decode cL_law 404 = .ok (.iload_n 3, 1) := by decide +kernel
theorem dL_law_405 : decode cL_law 405 = .ok (.iconst 1, 1) := by decide +kernel
theorem dL_law_406 : decode cL_law 406 = .ok (.iadd, 1) := by decide +kernel
theorem dL_law_407 : decode cL_law 407 = .ok (.iaload, 1) := by decide +kernel
theorem dL_law_408 : decode cL_law 408 = .ok (.aload_n 0, 1) := by decide +kernel
theorem dL_law_409 : decode cL_law 409 = .ok (.iload_n 3, 1) := by decide +kernel
theorem dL_law_410 : decode cL_law 410 = .ok (.iconst 2, 1) := by decide +kernel
theorem dL_law_411 : decode cL_law 411 = .ok (.iadd, 1) := by decide +kernel
theorem dL_law_412 : decode cL_law 412 = .ok (.iaload, 1) := by decide +kernel
theorem dL_law_413 : decode cL_law 413 = .ok (.invokevirtual 60, 3) := by decide +kernel
theorem dL_law_416 : decode cL_law 416 = .ok (.if_icmp .eq 172, 3) := by decide +kernel
theorem dL_law_419 : decode cL_law 419 = .ok (.iconst 0, 1) := by decide +kernel
theorem dL_law_420 : decode cL_law 420 = .ok (.ireturn, 1) := by decide +kernel
theorem dL_law_421 : decode cL_law 421 = .ok (.aload_n 1, 1) := by decide +kernel
theorem dL_law_422 : decode cL_law 422 = .ok (.aload_n 0, 1) := by decide +kernel
theorem dL_law_423 : decode cL_law 423 = .ok (.iload_n 3, 1) := by decide +kernel
theorem dL_law_424 : decode cL_law 424 = .ok (.iconst 1, 1) := by decide +kernel
theorem dL_law_425 : decode cL_law 425 = .ok (.iadd, 1) := by decide +kernel
theorem dL_law_426 : decode cL_law 426 = .ok (.iaload, 1) := by decide +kernel
theorem dL_law_427 : decode cL_law 427 = .ok (.invokevirtual 61, 3) := by decide +kernel
theorem dL_law_430 : decode cL_law 430 = .ok (.aload_n 2, 1) := by decide +kernel
theorem dL_law_431 : decode cL_law 431 = .ok (.aload_n 0, 1) := by decide +kernel
theorem dL_law_432 : decode cL_law 432 = .ok (.iload_n 3, 1) := by decide +kernel
theorem dL_law_433 : decode cL_law 433 = .ok (.iconst 1, 1) := by decide +kernel
theorem dL_law_434 : decode cL_law 434 = .ok (.iadd, 1) := by decide +kernel
theorem dL_law_435 : decode cL_law 435 = .ok (.iaload, 1) := by decide +kernel
theorem dL_law_436 : decode cL_law 436 = .ok (.invokevirtual 64, 3) := by decide +kernel
theorem dL_law_439 : decode cL_law 439 = .ok (.if_icmp .eq 149, 3) := by decide +kernel
theorem dL_law_442 : decode cL_law 442 = .ok (.iconst 0, 1) := by decide +kernel
theorem dL_law_443 : decode cL_law 443 = .ok (.ireturn, 1) := by decide +kernel
theorem dL_law_444 : decode cL_law 444 = .ok (.aload_n 1, 1) := by decide +kernel
theorem dL_law_445 : decode cL_law 445 = .ok (.aload_n 0, 1) := by decide +kernel
theorem dL_law_446 : decode cL_law 446 = .ok (.iload_n 3, 1) := by decide +kernel
theorem dL_law_447 : decode cL_law 447 = .ok (.iconst 1, 1) := by decide +kernel
theorem dL_law_448 : decode cL_law 448 = .ok (.iadd, 1) := by decide +kernel
theorem dL_law_449 : decode cL_law 449 = .ok (.iaload, 1) := by decide +kernel
theorem dL_law_450 : decode cL_law 450 = .ok (.invokevirtual 65, 3) := by decide +kernel
theorem dL_law_453 : decode cL_law 453 = .ok (.aload_n 2, 1) := by decide +kernel
theorem dL_law_454 : decode cL_law 454 = .ok (.aload_n 0, 1) := by decide +kernel
theorem dL_law_455 : decode cL_law 455 = .ok (.iload_n 3, 1) := by decide +kernel
theorem dL_law_456 : decode cL_law 456 = .ok (.iconst 1, 1) := by decide +kernel
theorem dL_law_457 : decode cL_law 457 = .ok (.iadd, 1) := by decide +kernel
theorem dL_law_458 : decode cL_law 458 = .ok (.iaload, 1) := by decide +kernel
theorem dL_law_459 : decode cL_law 459 = .ok (.invokevirtual 68, 3) := by decide +kernel
theorem dL_law_462 : decode cL_law 462 = .ok (.if_icmp .eq 126, 3) := by decide +kernel
theorem dL_law_465 : decode cL_law 465 = .ok (.iconst 0, 1) := by decide +kernel
theorem dL_law_466 : decode cL_law 466 = .ok (.ireturn, 1) := by decide +kernel
theorem dL_law_467 : decode cL_law 467 = .ok (.aload_n 1, 1) := by decide +kernel
theorem dL_law_468 : decode cL_law 468 = .ok (.invokevirtual 69, 3) := by decide +kernel
theorem dL_law_471 : decode cL_law 471 = .ok (.aload_n 2, 1) := by decide +kernel
theorem dL_law_472 : decode cL_law 472 = .ok (.invokevirtual 72, 3) := by decide +kernel
theorem dL_law_475 : decode cL_law 475 = .ok (.if_icmp .eq 113, 3) := by decide +kernel
theorem dL_law_478 : decode cL_law 478 = .ok (.iconst 0, 1) := by decide +kernel
theorem dL_law_479 : decode cL_law 479 = .ok (.ireturn, 1) := by decide +kernel
theorem dL_law_480 : decode cL_law 480 = .ok (.aload_n 1, 1) := by decide +kernel
theorem dL_law_481 : decode cL_law 481 = .ok (.aload_n 0, 1) := by decide +kernel
theorem dL_law_482 : decode cL_law 482 = .ok (.iload_n 3, 1) := by decide +kernel
theorem dL_law_483 : decode cL_law 483 = .ok (.iconst 1, 1) := by decide +kernel
theorem dL_law_484 : decode cL_law 484 = .ok (.iadd, 1) := by decide +kernel
theorem dL_law_485 : decode cL_law 485 = .ok (.iaload, 1) := by decide +kernel
theorem dL_law_486 : decode cL_law 486 = .ok (.invokevirtual 73, 3) := by decide +kernel
theorem dL_law_489 : decode cL_law 489 = .ok (.aload_n 2, 1) := by decide +kernel
theorem dL_law_490 : decode cL_law 490 = .ok (.aload_n 0, 1) := by decide +kernel
theorem dL_law_491 : decode cL_law 491 = .ok (.iload_n 3, 1) := by decide +kernel
theorem dL_law_492 : decode cL_law 492 = .ok (.iconst 1, 1) := by decide +kernel
theorem dL_law_493 : decode cL_law 493 = .ok (.iadd, 1) := by decide +kernel
theorem dL_law_494 : decode cL_law 494 = .ok (.iaload, 1) := by decide +kernel
theorem dL_law_495 : decode cL_law 495 = .ok (.invokevirtual 76, 3) := by decide +kernel
theorem dL_law_498 : decode cL_law 498 = .ok (.if_icmp .eq 90, 3) := by decide +kernel
theorem dL_law_501 : decode cL_law 501 = .ok (.iconst 0, 1) := by decide +kernel
theorem dL_law_502 : decode cL_law 502 = .ok (.ireturn, 1) := by decide +kernel
theorem dL_law_503 : decode cL_law 503 = .ok (.aload_n 1, 1) := by decide +kernel
theorem dL_law_504 : decode cL_law 504 = .ok (.invokevirtual 77, 3) := by decide +kernel
theorem dL_law_507 : decode cL_law 507 = .ok (.aload_n 2, 1) := by decide +kernel
theorem dL_law_508 : decode cL_law 508 = .ok (.invokevirtual 80, 3) := by decide +kernel
theorem dL_law_511 : decode cL_law 511 = .ok (.if_icmp .eq 77, 3) := by decide +kernel
theorem dL_law_514 : decode cL_law 514 = .ok (.iconst 0, 1) := by decide +kernel
theorem dL_law_515 : decode cL_law 515 = .ok (.ireturn, 1) := by decide +kernel
theorem dL_law_516 : decode cL_law 516 = .ok (.aload_n 1, 1) := by decide +kernel
theorem dL_law_517 : decode cL_law 517 = .ok (.aload_n 0, 1) := by decide +kernel
theorem dL_law_518 : decode cL_law 518 = .ok (.iload_n 3, 1) := by decide +kernel
theorem dL_law_519 : decode cL_law 519 = .ok (.iconst 1, 1) := by decide +kernel
theorem dL_law_520 : decode cL_law 520 = .ok (.iadd, 1) := by decide +kernel
theorem dL_law_521 : decode cL_law 521 = .ok (.iaload, 1) := by decide +kernel
theorem dL_law_522 : decode cL_law 522 = .ok (.invokevirtual 81, 3) := by decide +kernel
theorem dL_law_525 : decode cL_law 525 = .ok (.aload_n 2, 1) := by decide +kernel
theorem dL_law_526 : decode cL_law 526 = .ok (.aload_n 0, 1) := by decide +kernel
theorem dL_law_527 : decode cL_law 527 = .ok (.iload_n 3, 1) := by decide +kernel
theorem dL_law_528 : decode cL_law 528 = .ok (.iconst 1, 1) := by decide +kernel
theorem dL_law_529 : decode cL_law 529 = .ok (.iadd, 1) := by decide +kernel
theorem dL_law_530 : decode cL_law 530 = .ok (.iaload, 1) := by decide +kernel
theorem dL_law_531 : decode cL_law 531 = .ok (.invokevirtual 84, 3) := by decide +kernel
theorem dL_law_534 : decode cL_law 534 = .ok (.if_icmp .eq 54, 3) := by decide +kernel
theorem dL_law_537 : decode cL_law 537 = .ok (.iconst 0, 1) := by decide +kernel
theorem dL_law_538 : decode cL_law 538 = .ok (.ireturn, 1) := by decide +kernel
theorem dL_law_539 : decode cL_law 539 = .ok (.aload_n 1, 1) := by decide +kernel
theorem dL_law_540 : decode cL_law 540 = .ok (.invokevirtual 85, 3) := by decide +kernel
theorem dL_law_543 : decode cL_law 543 = .ok (.aload_n 2, 1) := by decide +kernel
theorem dL_law_544 : decode cL_law 544 = .ok (.invokevirtual 88, 3) := by decide +kernel
theorem dL_law_547 : decode cL_law 547 = .ok (.if_icmp .eq 41, 3) := by decide +kernel
theorem dL_law_550 : decode cL_law 550 = .ok (.iconst 0, 1) := by decide +kernel
theorem dL_law_551 : decode cL_law 551 = .ok (.ireturn, 1) := by decide +kernel
theorem dL_law_552 : decode cL_law 552 = .ok (.aload_n 1, 1) := by decide +kernel
theorem dL_law_553 : decode cL_law 553 = .ok (.aload_n 0, 1) := by decide +kernel
theorem dL_law_554 : decode cL_law 554 = .ok (.iload_n 3, 1) := by decide +kernel
theorem dL_law_555 : decode cL_law 555 = .ok (.iconst 1, 1) := by decide +kernel
theorem dL_law_556 : decode cL_law 556 = .ok (.iadd, 1) := by decide +kernel
theorem dL_law_557 : decode cL_law 557 = .ok (.iaload, 1) := by decide +kernel
theorem dL_law_558 : decode cL_law 558 = .ok (.invokevirtual 89, 3) := by decide +kernel
theorem dL_law_561 : decode cL_law 561 = .ok (.aload_n 2, 1) := by decide +kernel
theorem dL_law_562 : decode cL_law 562 = .ok (.aload_n 0, 1) := by decide +kernel
theorem dL_law_563 : decode cL_law 563 = .ok (.iload_n 3, 1) := by decide +kernel
theorem dL_law_564 : decode cL_law 564 = .ok (.iconst 1, 1) := by decide +kernel
theorem dL_law_565 : decode cL_law 565 = .ok (.iadd, 1) := by decide +kernel
theorem dL_law_566 : decode cL_law 566 = .ok (.iaload, 1) := by decide +kernel
theorem dL_law_567 : decode cL_law 567 = .ok (.invokevirtual 92, 3) := by decide +kernel
theorem dL_law_570 : decode cL_law 570 = .ok (.if_icmp .eq 18, 3) := by decide +kernel
theorem dL_law_573 : decode cL_law 573 = .ok (.iconst 0, 1) := by decide +kernel
theorem dL_law_574 : decode cL_law 574 = .ok (.ireturn, 1) := by decide +kernel
theorem dL_law_575 : decode cL_law 575 = .ok (.aload_n 1, 1) := by decide +kernel
theorem dL_law_576 : decode cL_law 576 = .ok (.invokevirtual 93, 3) := by decide +kernel
theorem dL_law_579 : decode cL_law 579 = .ok (.aload_n 2, 1) := by decide +kernel
theorem dL_law_580 : decode cL_law 580 = .ok (.invokevirtual 96, 3) := by decide +kernel
theorem dL_law_583 : decode cL_law 583 = .ok (.if_icmp .eq 5, 3) := by decide +kernel
theorem dL_law_586 : decode cL_law 586 = .ok (.iconst 0, 1) := by decide +kernel
theorem dL_law_587 : decode cL_law 587 = .ok (.ireturn, 1) := by decide +kernel
theorem dL_law_588 : decode cL_law 588 = .ok (.iinc 3 4, 3) := by decide +kernel
theorem dL_law_591 : decode cL_law 591 = .ok (.goto (-573), 3) := by decide +kernel
theorem dL_law_594 : decode cL_law 594 = .ok (.iconst 1, 1) := by decide +kernel
theorem dL_law_595 : decode cL_law 595 = .ok (.ireturn, 1) := by decide +kernel
abbrev vwCl : List vw_C := [(RX0, TX0, 2), (RX1, TX1, 7), (RX2, TX2, 5), (RX3, TX3, 10), (RX4, TX4, 3), (RX5, TX5, 4), (RX6, TX6, 9), (RX7, TX7, 8), (RX8, TX8, 2), (RX9, TX9, 4), (RX10, TX10, 9)]
end
section
/-! My layer over the kit: one judgement Z that hides heap, journal and slot array; contracts Ci, Cv, Cr of methods that make no cell. -/
def zN (U : State) : Prop := va_Nw (.methodLinkNest RX3 39 yX8_init "JudgedBits") U ∧ va_Nw (.methodLinkNest RX3 69 yX9_isWithin "JudgedBits") U ∧ va_Nw (.methodLinkNest RX4 21 yX9_remainder "JudgedBits") U ∧ va_Nw (.methodLinkNest RX5 33 yX9_isWithin "JudgedBits") U ∧ va_Nw (.methodLinkNest RX6 32 yX5_init "JudgedBits") U ∧ va_Nw (.methodLinkNest RX6 39 yX1_init "JudgedBits") U ∧ va_Nw (.methodLinkNest RX6 46 yX0_init "JudgedBits") U ∧ va_Nw (.methodLinkNest RX6 56 yX7_init "JudgedBits") U ∧ va_Nw (.methodLinkNest RX6 77 yX9_isWithin "JudgedBits") U ∧ va_Nw (.methodLinkNest RX8 19 yX9_isWithin "JudgedBits") U
theorem zN.same {u U : State} (h : u.vm = U.vm) (hZ : zN u) : zN U := by
  obtain ⟨a, b, c, d, e, f, g, i, j, k⟩ := hZ
  exact ⟨a.same rfl h, b.same rfl h, c.same rfl h, d.same rfl h, e.same rfl h, f.same rfl h, g.same rfl h, i.same rfl h, j.same rfl h, k.same rfl h⟩
theorem zN.warm {s U : State} (hW : s.WarmedH U.vm) (hZ : zN s) : zN U := by
  obtain ⟨a, b, c, d, e, f, g, i, j, k⟩ := hZ
  exact ⟨a.warmM hW, b.warmM hW, c.warmM hW, d.warmM hW, e.warmM hW, f.warmM hW, g.warmM hW, i.warmM hW, j.warmM hW, k.warmM hW⟩
abbrev zT : Type := va_G × ClassId × ClassId × ClassId
def zK (T : zT) (U : State) : Prop := va_K T.1 vwCl [(T.2.1, .char), (T.2.2.1, .int), (T.2.2.2, .char)] U ∧ zN U
theorem zK.warm {T : zT} {s U : State} (hW : s.WarmedH U.vm) (h : zK T s) : zK T U := ⟨va_K.moved hW.alike h.1, h.2.warm hW⟩
/-- worlds: cells put at places -/
def zput : va_W → List Nat → va_W → va_W
  | ws, i :: is, x :: w => zput (ws.set i x) is w
  | ws, _, _ => ws
theorem zput_get : ∀ (is : List Nat) (w1 ws : va_W) (k : Nat) (q : Nat × va_E), w1.length = is.length → (zput ws is w1)[k]? = some q → q ∈ w1 ∨ (k ∉ is ∧ ws[k]? = some q)
  | [], w1, ws, k, q, _, h => by
    cases w1 with
    | nil => exact Or.inr ⟨List.not_mem_nil, h⟩
    | cons x w => exact Or.inr ⟨List.not_mem_nil, h⟩
  | i :: is, [], ws, k, q, hl, h => by simp at hl
  | i :: is, x :: w, ws, k, q, hl, h => by
    have hl2 : w.length = is.length := by simpa using hl
    rcases zput_get is w (ws.set i x) k q hl2 h with h1 | ⟨h1, h2⟩
    · exact Or.inl (List.mem_cons_of_mem _ h1)
    · by_cases hk : k = i
      · subst hk
        rw [List.getElem?_set] at h2
        simp only [if_true] at h2
        split at h2
        · cases h2; exact Or.inl List.mem_cons_self
        · cases h2
      · rw [List.getElem?_set_ne (Ne.symm hk)] at h2
        refine Or.inr ⟨fun hm => ?_, h2⟩
        rcases List.mem_cons.mp hm with e | e
        · exact hk e
        · exact h1 e
theorem zput_P {D : va_G} {cl : List vw_C} {A : Nat → Prop} {ws w0 w1 : va_W} {is : List Nat} {H H1 : Heap} (hP : va_P D cl ws H) (hD : va_D A ws) (h0 : is.map (fun i => ws[i]?) = w0.map some) (hl : w1.length = is.length)
    (hk : ∀ q : Nat, q < H.size → ¬ va_A w0 H.size q → H1[q]? = H[q]?) (hP1 : va_P D cl w1 H1) : va_P D cl (zput ws is w1) H1 := by
  intro k q hq
  rcases zput_get is w1 ws k q hl hq with h | ⟨h1, h2⟩
  · obtain ⟨j, hj⟩ := List.getElem?_of_mem h
    exact hP1 j q hj
  · have hlt := (hP k q h2).lt
    refine (hP k q h2).kept (hk q.1 hlt (fun hA => ?_))
    rcases hA with ⟨k2, e, h⟩ | h
    · have h3 : (is.map (fun i => ws[i]?))[k2]? = some (some (q.1, e)) := by rw [h0, List.getElem?_map, h]; rfl
      rw [List.getElem?_map] at h3
      cases hi : is[k2]? with
      | none => rw [hi] at h3; cases h3
      | some i =>
        rw [hi] at h3
        have h4 : ws[i]? = some (q.1, e) := Option.some.inj h3
        have hij := hD.1 k i q (q.1, e) h2 h4 rfl
        subst hij
        exact h1 (List.mem_of_getElem? hi)
    · omega
theorem zD_addr {A : Nat → Prop} {ws w2 : va_W} (h : w2.map Prod.fst = ws.map Prod.fst) (hD : va_D A ws) : va_D A w2 := by
  have key : ∀ (k : Nat) (q : Nat × va_E), w2[k]? = some q → ∃ q0, ws[k]? = some q0 ∧ q0.1 = q.1 := by
    intro k q hk
    have h1 : (ws.map Prod.fst)[k]? = some q.1 := by rw [← h, List.getElem?_map, hk]; rfl
    rw [List.getElem?_map] at h1
    cases hw : ws[k]? with
    | none => rw [hw] at h1; cases h1
    | some q0 => rw [hw] at h1; exact ⟨q0, rfl, Option.some.inj h1⟩
  refine ⟨fun i j x y hi hj hxy => ?_, fun k q hk => ?_⟩
  · obtain ⟨x0, h1, h2⟩ := key i x hi
    obtain ⟨y0, h3, h4⟩ := key j y hj
    exact hD.1 i j x0 y0 h1 h3 (h2.trans (hxy.trans h4.symm))
  · obtain ⟨q0, h1, h2⟩ := key k q hk
    rw [← h2]
    exact hD.2 k q0 h1
theorem zsub_P {D : va_G} {cl : List vw_C} {ws w0 : va_W} {H : Heap} (h : va_P D cl ws H) {is : List Nat} (h0 : is.map (fun i => ws[i]?) = w0.map some) : va_P D cl w0 H := by
  intro k q hk
  have h1 : (is.map (fun i => ws[i]?))[k]? = some (some q) := by rw [h0, List.getElem?_map, hk]; rfl
  rw [List.getElem?_map] at h1
  cases hi : is[k]? with
  | none => rw [hi] at h1; cases h1
  | some i => rw [hi] at h1; exact h i q (Option.some.inj h1)
/-- a method's start -/
def zPre (T : zT) (sz : Nat) (w0 : va_W) (U : State) : Prop := U.heap.size = sz ∧ va_P T.1 vwCl w0 U.heap ∧ zK T U ∧ va_D (fun _ => True) w0
theorem zPre_blind {T : zT} {sz : Nat} {w0 : va_W} {av : List Value} : FrameBlind (va_Pc av (zPre T sz w0)) := by
  intro a U g mk q
  obtain ⟨q0, q1, qP, ⟨qK, qN⟩, qD⟩ := q
  exact ⟨q0, q1, qP, ⟨va_K.moved (u := U) (U := U.calling g mk a) (Vm.Alike.refl U.vm) qK, qN.same rfl⟩, qD⟩
abbrev zQi {S : Type} (T : zT) (rty : FieldType) (g : S) (ρ : S → Int32) (ω : S → va_W) (A : Nat → Prop) : Array Value → State → Outcome → State → Prop := va_Qi (fun (r : Int32) (u : S) => u = g ∧ r = ρ u ∧ narrow rty (.int r) = .int r) (fun u t => va_P T.1 vwCl (ω u) t.heap) A
abbrev zQv {S : Type} (T : zT) (g : S) (ω : S → va_W) (A : Nat → Prop) : Array Value → State → Outcome → State → Prop := va_Qv (fun (u : S) => u = g) (fun u t => va_P T.1 vwCl (ω u) t.heap) A
abbrev zQr {S : Type} (T : zT) (g : S) (ρ : S → Nat) (ω : S → va_W) (A : Nat → Prop) : Array Value → State → Outcome → State → Prop := va_Qr (fun (u : S) => u = g) (fun u a t => a = ρ u ∧ va_P T.1 vwCl (ω u) t.heap) A
/-- contracts of methods that make no cell: an int (boolean, char), nothing, a reference -/
def Ci (l : Launch) (y : MethodName) (wy : List Cond) (rm : Room) (T : zT) (rty : FieldType) (av : List Value) (w0 : va_W) {S : Type} (g : S) (ρ : S → Int32) (ω : S → va_W) : Prop :=
  ∀ sz : Nat, Met l y wy rm (va_Pc av (zPre T sz w0)) (zQi T rty g ρ ω (va_A w0 sz)) 0 0 (va_A w0 sz)
def Cv (l : Launch) (y : MethodName) (wy : List Cond) (rm : Room) (T : zT) (av : List Value) (w0 : va_W) {S : Type} (g : S) (ω : S → va_W) : Prop :=
  ∀ sz : Nat, Met l y wy rm (va_Pc av (zPre T sz w0)) (zQv T g ω (va_A w0 sz)) 0 0 (va_A w0 sz)
def Cr (l : Launch) (y : MethodName) (wy : List Cond) (rm : Room) (T : zT) (av : List Value) (w0 : va_W) {S : Type} (g : S) (ρ : S → Nat) (ω : S → va_W) : Prop :=
  ∀ sz : Nat, Met l y wy rm (va_Pc av (zPre T sz w0)) (zQr T g ρ ω (va_A w0 sz)) 0 0 (va_A w0 sz)
section ZR
variable {p : Program} {l : Launch} {e : Env} {R : Room} {s : State} {m : MethodId} {args : Array Value} {below : List Frame} {meth : Method} {c : Code} {cells slots : Nat} {Q : State → Prop} {cc : ByteArray} {nL : Nat} {own : String} {Ts : List Cond} {T : zT} {A : Nat → Prop} {ws : va_W} {pc pc' : Nat} {lv lv' : List (Nat × Value)} {st st' rest : List Value} {a : Nat} {w0 : va_W}
def Z (p : Program) (l : Launch) (e : Env) (R : Room) (s : State) (m : MethodId) (args : Array Value) (below : List Frame) (meth : Method) (c : Code) (nL : Nat) (T : zT) (A : Nat → Prop) (Q : State → Prop) (cells slots : Nat) (ws : va_W) (pc : Nat) (lv : List (Nat × Value)) (st : List Value) : Prop :=
  ∀ (H : Heap) (locs : List Loc) (ls : Array Slot), va_P T.1 vwCl ws H → va_D A ws → va_S A s.heap H locs → lv_has ls nL lv → W p l e R s m args below meth c H locs cells slots Q (F0 m pc ls st)
abbrev zC (p : Program) (l : Launch) (e : Env) (R : Room) (s : State) (m : MethodId) (args : Array Value) (meth : Method) (c : Code) (cc : ByteArray) (nL : Nat) (own : String) (Ts : List Cond) (T : zT) (A : Nat → Prop) : Prop :=
  CallFix p m c cc nL s args Ts own ∧ zK T s ∧ meth.locks = false ∧ ∀ q, s.heap.size ≤ q → A q
theorem Z.of (h : ∀ (H : Heap) (locs : List Loc) (ls : Array Slot), lv_has ls nL lv → W p l e R s m args below meth c H locs cells slots Q (F0 m pc' ls st') → W p l e R s m args below meth c H locs cells slots Q (F0 m pc ls st)) (K : Z p l e R s m args below meth c nL T A Q cells slots ws pc' lv st') : Z p l e R s m args below meth c nL T A Q cells slots ws pc lv st :=
  fun H locs ls hP hD hS hl => h H locs ls hl (K H locs ls hP hD hS hl)
theorem Z.two {b : Prop} {pt pf : Nat} (h : ∀ (H : Heap) (locs : List Loc) (ls : Array Slot), lv_has ls nL lv → (b → W p l e R s m args below meth c H locs cells slots Q (F0 m pt ls st')) → (¬ b → W p l e R s m args below meth c H locs cells slots Q (F0 m pf ls st')) → W p l e R s m args below meth c H locs cells slots Q (F0 m pc ls st)) (Kt : b → Z p l e R s m args below meth c nL T A Q cells slots ws pt lv st') (Kf : ¬ b → Z p l e R s m args below meth c nL T A Q cells slots ws pf lv st') : Z p l e R s m args below meth c nL T A Q cells slots ws pc lv st :=
  fun H locs ls hP hD hS hl => h H locs ls hl (fun hb => Kt hb H locs ls hP hD hS hl) (fun hb => Kf hb H locs ls hP hD hS hl)
theorem Z.two' {b : Prop} {pt pf : Nat} (h : ∀ (H : Heap) (locs : List Loc) (ls : Array Slot), lv_has ls nL lv → (¬ b → W p l e R s m args below meth c H locs cells slots Q (F0 m pt ls st')) → (b → W p l e R s m args below meth c H locs cells slots Q (F0 m pf ls st')) → W p l e R s m args below meth c H locs cells slots Q (F0 m pc ls st)) (Kt : ¬ b → Z p l e R s m args below meth c nL T A Q cells slots ws pt lv st') (Kf : b → Z p l e R s m args below meth c nL T A Q cells slots ws pf lv st') : Z p l e R s m args below meth c nL T A Q cells slots ws pc lv st :=
  fun H locs ls hP hD hS hl => h H locs ls hl (fun hb => Kt hb H locs ls hP hD hS hl) (fun hb => Kf hb H locs ls hP hD hS hl)
theorem Z.sto (h : ∀ (H : Heap) (locs : List Loc) (ls : Array Slot), lv_has ls nL lv → (∀ ls' : Array Slot, lv_has ls' nL lv' → W p l e R s m args below meth c H locs cells slots Q (F0 m pc' ls' st')) → W p l e R s m args below meth c H locs cells slots Q (F0 m pc ls st)) (K : Z p l e R s m args below meth c nL T A Q cells slots ws pc' lv' st') : Z p l e R s m args below meth c nL T A Q cells slots ws pc lv st :=
  fun H locs ls hP hD hS hl => h H locs ls hl (fun ls' hl' => K H locs ls' hP hD hS hl')
theorem Z.eqv {lv2 : List (Nat × Value)} (h : ∀ q ∈ lv', q ∈ lv2) (K : Z p l e R s m args below meth c nL T A Q cells slots ws pc lv' st) : Z p l e R s m args below meth c nL T A Q cells slots ws pc lv2 st :=
  fun H locs ls hP hD hS hl => K H locs ls hP hD hS ⟨hl.1, hl.2.1, fun q hq => hl.2.2 q (h q hq)⟩
theorem Z.sub {ks : List Nat} (h : lv_pick lv ks = lv') (K : Z p l e R s m args below meth c nL T A Q cells slots ws pc lv' st) : Z p l e R s m args below meth c nL T A Q cells slots ws pc lv st :=
  fun H locs ls hP hD hS hl => K H locs ls hP hD hS (lv_sub hl ks h)
theorem z_get (C : zC p l e R s m args meth c cc nL own Ts T A) {Cn : String} {F : u_T} {N ci index : Nat} (hin : ∀ w ∈ u_ws Cn F N, w ∈ Ts) (q0 : Nat) {fs : List Value} (k : Nat) (hlink : (Cond.fieldLink own index Cn (F k).2.1 (F k).2.2.1).before args s = true) (he : ws[q0]? = some (a, .inr (ci, fs))) (hc : vwCl[ci]? = some (Cn, F, N)) (hk : k < N) (hT1 : (F k).1 = Cn) {v : Value} (hv : fs[k]? = some v) (hd : decode cc pc = .ok (.getfield index, 3)) (hpc : pc + 3 = pc')
    (K : Z p l e R s m args below meth c nL T A Q cells slots ws pc' lv (v :: rest)) : Z p l e R s m args below meth c nL T A Q cells slots ws pc lv (.ref a :: rest) := by
  subst hpc
  obtain ⟨⟨hx, hb, hml, hown, hts⟩, ⟨hK, hN⟩, hlk, hA⟩ := C
  intro H locs ls hP hD hS hl
  exact va_get hx hb hts hin hown hK hP q0 he hc k hk hlink (fun x h => by rw [hT1] at h; exact h) hv hd (K H locs ls hP hD hS hl)
theorem z_put (C : zC p l e R s m args meth c cc nL own Ts T A) {Cn : String} {F : u_T} {N ci index : Nat} (hin : ∀ w ∈ u_ws Cn F N, w ∈ Ts) {ty0 : Nat → FieldType} (hty : ∀ k, k < N → parseFieldDescriptor (F k).2.2.1 = some (ty0 k)) (hnm : ∀ a, a < N → ∀ b, b < N → a ≠ b → (F a).2.1 ≠ (F b).2.1) (q0 : Nat) {fs : List Value} (k : Nat) (hlink : (Cond.fieldLink own index Cn (F k).2.1 (F k).2.2.1).before args s = true) (he : ws[q0]? = some (a, .inr (ci, fs))) (hc : vwCl[ci]? = some (Cn, F, N)) (hk : k < N) (hT1 : (F k).1 = Cn) (hfin : (F k).2.2.2 = false) {v : Value} (hn : narrow (ty0 k) v = v) (hfit : fits (ty0 k) v = true) (hl : k < fs.length) (hd : decode cc pc = .ok (.putfield index, 3)) (hpc : pc + 3 = pc') (ws' : va_W) (hws : ws.set q0 (a, .inr (ci, fs.set k v)) = ws')
    (K : Z p l e R s m args below meth c nL T A Q cells slots ws' pc' lv rest) : Z p l e R s m args below meth c nL T A Q cells slots ws pc lv (v :: .ref a :: rest) := by
  subst hpc
  subst hws
  obtain ⟨⟨hx, hb, hml, hown, hts⟩, ⟨hK, hN⟩, hlk, hA⟩ := C
  intro H locs ls hP hD hS hll
  exact va_put hx hb hts hin ty0 hty hnm hown hK hP hD hS q0 he hc k hk hlink (fun x h => by rw [hT1] at h; exact h) hfin (hty k hk) hn hfit hl hd (fun H1 locs1 hP1 hD1 hS1 => K H1 locs1 ls hP1 hD1 hS1 hll)
theorem z_iald (C : zC p l e R s m args meth c cc nL own Ts T A) (q0 t0 : Nat) {cA : ClassId} {n : Nat} {f : Nat → Int32} (ha : ws[q0]? = some (a, .inl (cA, n, .inl f))) (ht : [(T.2.1, FieldType.char), (T.2.2.1, FieldType.int), (T.2.2.2, FieldType.char)][t0]? = some (cA, FieldType.int)) {i : Int32} {j : Nat} (hi : i = nI j) (hj : j < n) (hn : n < 2 ^ 31) (hd : decode cc pc = .ok (.iaload, 1)) (hpc : pc + 1 = pc')
    (K : Z p l e R s m args below meth c nL T A Q cells slots ws pc' lv (.int (f j) :: rest)) : Z p l e R s m args below meth c nL T A Q cells slots ws pc lv (.int i :: .ref a :: rest) := by
  subst hpc
  subst hi
  obtain ⟨⟨hx, hb, hml, hown, hts⟩, ⟨hK, hN⟩, hlk, hA⟩ := C
  intro H locs ls hP hD hS hll
  refine va_iald hx hb hK hP q0 t0 ha ht (vp_in_nI hj hn) hd ?_
  rw [nI_clamp (Nat.lt_trans hj hn)]
  exact K H locs ls hP hD hS hll
theorem z_cald (C : zC p l e R s m args meth c cc nL own Ts T A) (q0 t0 : Nat) {cA : ClassId} {n : Nat} {f : Nat → Int32} (ha : ws[q0]? = some (a, .inl (cA, n, .inl f))) (ht : [(T.2.1, FieldType.char), (T.2.2.1, FieldType.int), (T.2.2.2, FieldType.char)][t0]? = some (cA, FieldType.char)) {i : Int32} {j : Nat} (hi : i = nI j) (hj : j < n) (hn : n < 2 ^ 31) (hd : decode cc pc = .ok (.caload, 1)) (hpc : pc + 1 = pc')
    (K : Z p l e R s m args below meth c nL T A Q cells slots ws pc' lv (.int (f j) :: rest)) : Z p l e R s m args below meth c nL T A Q cells slots ws pc lv (.int i :: .ref a :: rest) := by
  subst hpc
  subst hi
  obtain ⟨⟨hx, hb, hml, hown, hts⟩, ⟨hK, hN⟩, hlk, hA⟩ := C
  intro H locs ls hP hD hS hll
  refine va_cald hx hb hK hP q0 t0 ha ht (vp_in_nI hj hn) hd ?_
  rw [nI_clamp (Nat.lt_trans hj hn)]
  exact K H locs ls hP hD hS hll
theorem z_iast (C : zC p l e R s m args meth c cc nL own Ts T A) (q0 t0 : Nat) {cA : ClassId} {n : Nat} {f : Nat → Int32} (ha : ws[q0]? = some (a, .inl (cA, n, .inl f))) (ht : [(T.2.1, FieldType.char), (T.2.2.1, FieldType.int), (T.2.2.2, FieldType.char)][t0]? = some (cA, FieldType.int)) {i x : Int32} {j : Nat} (hi : i = nI j) (hj : j < n) (hn : n < 2 ^ 31) (hd : decode cc pc = .ok (.iastore, 1)) (hpc : pc + 1 = pc') (w2 : (Nat → Int32) → va_W) (hws : ∀ g, ws.set q0 (a, .inl (cA, n, .inl g)) = w2 g)
    (K : ∀ g, g = upd f j x → Z p l e R s m args below meth c nL T A Q cells slots (w2 g) pc' lv rest) : Z p l e R s m args below meth c nL T A Q cells slots ws pc lv (.int x :: .int i :: .ref a :: rest) := by
  subst hpc
  subst hi
  obtain ⟨⟨hx, hb, hml, hown, hts⟩, ⟨hK, hN⟩, hlk, hA⟩ := C
  intro H locs ls hP hD hS hll
  refine va_iast hx hb hK hP hD hS q0 t0 ha ht (vp_in_nI hj hn) hd (fun H1 locs1 hP1 hD1 hS1 => ?_)
  rw [nI_clamp (Nat.lt_trans hj hn), hws] at hP1 hD1
  exact K _ rfl H1 locs1 ls hP1 hD1 hS1 hll
theorem z_cast (C : zC p l e R s m args meth c cc nL own Ts T A) (q0 t0 : Nat) {cA : ClassId} {n : Nat} {f : Nat → Int32} (ha : ws[q0]? = some (a, .inl (cA, n, .inl f))) (ht : [(T.2.1, FieldType.char), (T.2.2.1, FieldType.int), (T.2.2.2, FieldType.char)][t0]? = some (cA, FieldType.char)) {i x : Int32} {j : Nat} (hi : i = nI j) (hj : j < n) (hn : n < 2 ^ 31) (hd : decode cc pc = .ok (.castore, 1)) (hpc : pc + 1 = pc') (w2 : (Nat → Int32) → va_W) (hws : ∀ g, ws.set q0 (a, .inl (cA, n, .inl g)) = w2 g)
    (K : ∀ g, g = upd f j (vp_nar .char x) → Z p l e R s m args below meth c nL T A Q cells slots (w2 g) pc' lv rest) : Z p l e R s m args below meth c nL T A Q cells slots ws pc lv (.int x :: .int i :: .ref a :: rest) := by
  subst hpc
  subst hi
  obtain ⟨⟨hx, hb, hml, hown, hts⟩, ⟨hK, hN⟩, hlk, hA⟩ := C
  intro H locs ls hP hD hS hll
  refine va_cast hx hb hK hP hD hS q0 t0 ha ht (vp_in_nI hj hn) hd (fun H1 locs1 hP1 hD1 hS1 => ?_)
  rw [nI_clamp (Nat.lt_trans hj hn), hws] at hP1 hD1
  exact K _ rfl H1 locs1 ls hP1 hD1 hS1 hll
theorem z_alen (C : zC p l e R s m args meth c cc nL own Ts T A) (q0 t0 : Nat) {cA : ClassId} {x : vp_A} (ha : ws[q0]? = some (a, .inl (cA, x))) {ty : FieldType} (ht : [(T.2.1, FieldType.char), (T.2.2.1, FieldType.int), (T.2.2.2, FieldType.char)][t0]? = some (cA, ty)) {v : Int32} (hv : Int32.ofNat x.1 = v) (hd : decode cc pc = .ok (.arraylength, 1)) (hpc : pc + 1 = pc')
    (K : Z p l e R s m args below meth c nL T A Q cells slots ws pc' lv (.int v :: rest)) : Z p l e R s m args below meth c nL T A Q cells slots ws pc lv (.ref a :: rest) := by
  subst hpc
  obtain ⟨⟨hx, hb, hml, hown, hts⟩, ⟨hK, hN⟩, hlk, hA⟩ := C
  intro H locs ls hP hD hS hll
  exact va_alen hx hb hK hP q0 t0 ha ht hv hd (K H locs ls hP hD hS hll)
-- calls of methods that make no cell
section ZCALL
variable {S : Type} {y : MethodName} {wy : List Cond} {rm : Room} {As : List Value} {g : S} {ω w2 : S → va_W} {is : List Nat} {bytes : ByteArray} {maxL n index ci q0 : Nat} {ret : Option FieldType} {fs : List Value} {q : vw_C} {Cn host : String} {b : Nat}
theorem z_callVi (C : zC p l e R s m args meth c cc nL own Ts T A) {ρ : S → Int32} {rty : FieldType} (hM : Ci l y wy rm T rty (.ref b :: As) w0 g ρ ω) (is : List Nat) (h0 : is.map (fun i => ws[i]?) = w0.map some) (hnd : va_nd is = true) (w2 : S → va_W) (h2 : ∀ u, zput ws is (ω u) = w2 u) (h3 : ∀ u, (w2 u).map Prod.fst = ws.map Prod.fst) (h4 : ∀ u, (ω u).length = is.length)
    (cw : CallW R s args own Cn index y bytes maxL ret wy rm 0 0 n) (q0 : Nat) (he : ws[q0]? = some (b, .inr (ci, fs))) (hci : vwCl[ci]? = some q) (hq : q.1 = Cn) (hst : st = As.reverse ++ .ref b :: rest) (hn : As.length = n) (hW : (rest.map fun v => v.category).sum ≤ 8) (hd : decode cc pc = .ok (.invokevirtual index, 3)) (hpc : pc + 3 = pc') (hcs : cells ≤ R.cells ∧ slots ≤ R.slots)
    (K : ∀ u, u = g → narrow rty (.int (ρ u)) = .int (ρ u) → Z p l e R s m args below meth c nL T A Q cells slots (w2 u) pc' lv (.int (ρ u) :: rest)) : Z p l e R s m args below meth c nL T A Q cells slots ws pc lv st := by
  subst hpc
  subst hst
  subst hq
  intro H locs ls hP hD hS hl
  obtain ⟨⟨hx, hb, hml, hown, hts⟩, ⟨hK, hN⟩, hlk, hA⟩ := C
  have hPc : va_P T.1 vwCl w0 H := zsub_P hP h0
  have hDc : va_D (fun _ => True) w0 := (hD.sub is hnd h0).weaken (fun _ _ _ _ => trivial)
  have hFc := va_free (wc := w0) hD hS hA is h0
  refine va_calli (va_runV (As := As) (rest := rest) ⟨hx, hb, hml, hown, hts⟩ (hM H.size) cw ⟨zPre_blind, va_recv hK hP hci he, fun U hU hW => ⟨rfl, by rw [hU], by rw [hU]; exact hPc, zK.warm hW ⟨hK, hN⟩, hDc⟩⟩ rfl hn hl.1 rfl (lv_room hW) hd hcs) hS (fun q _ h => hFc q h) hFc (fun r u t H1 locs1 ht hvm hw hB hz1 hk1 hS1 => ?_)
  obtain ⟨hu, hr, hnr⟩ := hw
  rw [ht] at hB
  have hP2 := zput_P hP hD h0 (h4 u) hk1 hB
  rw [h2] at hP2
  rw [hr] at hnr ⊢
  exact K u hu hnr H1 locs1 ls hP2 (zD_addr (h3 u) hD) hS1 hl
theorem z_callVv (C : zC p l e R s m args meth c cc nL own Ts T A) (hM : Cv l y wy rm T (.ref b :: As) w0 g ω) (is : List Nat) (h0 : is.map (fun i => ws[i]?) = w0.map some) (hnd : va_nd is = true) (w2 : S → va_W) (h2 : ∀ u, zput ws is (ω u) = w2 u) (h3 : ∀ u, (w2 u).map Prod.fst = ws.map Prod.fst) (h4 : ∀ u, (ω u).length = is.length)
    (cw : CallW R s args own Cn index y bytes maxL ret wy rm 0 0 n) (q0 : Nat) (he : ws[q0]? = some (b, .inr (ci, fs))) (hci : vwCl[ci]? = some q) (hq : q.1 = Cn) (hst : st = As.reverse ++ .ref b :: rest) (hn : As.length = n) (hW : (rest.map fun v => v.category).sum ≤ 8) (hd : decode cc pc = .ok (.invokevirtual index, 3)) (hpc : pc + 3 = pc') (hcs : cells ≤ R.cells ∧ slots ≤ R.slots)
    (K : ∀ u, u = g → Z p l e R s m args below meth c nL T A Q cells slots (w2 u) pc' lv rest) : Z p l e R s m args below meth c nL T A Q cells slots ws pc lv st := by
  subst hpc
  subst hst
  subst hq
  intro H locs ls hP hD hS hl
  obtain ⟨⟨hx, hb, hml, hown, hts⟩, ⟨hK, hN⟩, hlk, hA⟩ := C
  have hPc : va_P T.1 vwCl w0 H := zsub_P hP h0
  have hDc : va_D (fun _ => True) w0 := (hD.sub is hnd h0).weaken (fun _ _ _ _ => trivial)
  have hFc := va_free (wc := w0) hD hS hA is h0
  refine va_callv (va_runV (As := As) (rest := rest) ⟨hx, hb, hml, hown, hts⟩ (hM H.size) cw ⟨zPre_blind, va_recv hK hP hci he, fun U hU hW => ⟨rfl, by rw [hU], by rw [hU]; exact hPc, zK.warm hW ⟨hK, hN⟩, hDc⟩⟩ rfl hn hl.1 rfl (lv_room hW) hd hcs) hS (fun q _ h => hFc q h) hFc (fun u t H1 locs1 ht hvm hw hB hz1 hk1 hS1 => ?_)
  rw [ht] at hB
  have hP2 := zput_P hP hD h0 (h4 u) hk1 hB
  rw [h2] at hP2
  exact K u hw H1 locs1 ls hP2 (zD_addr (h3 u) hD) hS1 hl
theorem z_callVr (C : zC p l e R s m args meth c cc nL own Ts T A) {ρ : S → Nat} (hM : Cr l y wy rm T (.ref b :: As) w0 g ρ ω) (is : List Nat) (h0 : is.map (fun i => ws[i]?) = w0.map some) (hnd : va_nd is = true) (w2 : S → va_W) (h2 : ∀ u, zput ws is (ω u) = w2 u) (h3 : ∀ u, (w2 u).map Prod.fst = ws.map Prod.fst) (h4 : ∀ u, (ω u).length = is.length)
    (cw : CallW R s args own Cn index y bytes maxL ret wy rm 0 0 n) (q0 : Nat) (he : ws[q0]? = some (b, .inr (ci, fs))) (hci : vwCl[ci]? = some q) (hq : q.1 = Cn) (hst : st = As.reverse ++ .ref b :: rest) (hn : As.length = n) (hW : (rest.map fun v => v.category).sum ≤ 8) (hd : decode cc pc = .ok (.invokevirtual index, 3)) (hpc : pc + 3 = pc') (hcs : cells ≤ R.cells ∧ slots ≤ R.slots)
    (K : ∀ u, u = g → Z p l e R s m args below meth c nL T A Q cells slots (w2 u) pc' lv (.ref (ρ u) :: rest)) : Z p l e R s m args below meth c nL T A Q cells slots ws pc lv st := by
  subst hpc
  subst hst
  subst hq
  intro H locs ls hP hD hS hl
  obtain ⟨⟨hx, hb, hml, hown, hts⟩, ⟨hK, hN⟩, hlk, hA⟩ := C
  have hPc : va_P T.1 vwCl w0 H := zsub_P hP h0
  have hDc : va_D (fun _ => True) w0 := (hD.sub is hnd h0).weaken (fun _ _ _ _ => trivial)
  have hFc := va_free (wc := w0) hD hS hA is h0
  refine va_callr (va_runV (As := As) (rest := rest) ⟨hx, hb, hml, hown, hts⟩ (hM H.size) cw ⟨zPre_blind, va_recv hK hP hci he, fun U hU hW => ⟨rfl, by rw [hU], by rw [hU]; exact hPc, zK.warm hW ⟨hK, hN⟩, hDc⟩⟩ rfl hn hl.1 rfl (lv_room hW) hd hcs) hS (fun q _ h => hFc q h) hFc (fun u ra t H1 locs1 ht hvm hw hB hz1 hk1 hS1 => ?_)
  obtain ⟨hra, hB⟩ := hB
  rw [ht] at hB
  have hP2 := zput_P hP hD h0 (h4 u) hk1 hB
  rw [h2] at hP2
  rw [hra]
  exact K u hw H1 locs1 ls hP2 (zD_addr (h3 u) hD) hS1 hl
/-- a static method that needs no cell -/
theorem z_callSi (C : zC p l e R s m args meth c cc nL own Ts T A) {ρ : S → Int32} {rty : FieldType} (hM : Ci l y wy rm T rty As [] g ρ (fun _ => []))
    (cw : CallB R s args own index y bytes maxL ret wy rm 0 0 n ∧ (Cond.static y).before args s = true) (hst : st = As.reverse ++ rest) (hn : As.length = n) (hW : (rest.map fun v => v.category).sum ≤ 8) (hd : decode cc pc = .ok (.invokestatic index, 3)) (hpc : pc + 3 = pc') (hcs : cells ≤ R.cells ∧ slots ≤ R.slots)
    (K : ∀ u, u = g → narrow rty (.int (ρ u)) = .int (ρ u) → Z p l e R s m args below meth c nL T A Q cells slots ws pc' lv (.int (ρ u) :: rest)) : Z p l e R s m args below meth c nL T A Q cells slots ws pc lv st := by
  subst hpc
  subst hst
  intro H locs ls hP hD hS hl
  obtain ⟨⟨hx, hb, hml, hown, hts⟩, ⟨hK, hN⟩, hlk, hA⟩ := C
  have hPc : va_P T.1 vwCl [] H := fun k q h => by simp at h
  have hDc : va_D (fun _ => True) [] := ⟨fun i j p q h => by simp at h, fun k q h => by simp at h⟩
  have hFc := va_free (wc := []) hD hS hA [] rfl
  refine va_calli (va_runS (As := As) (rest := rest) ⟨hx, hb, hml, hown, hts⟩ (hM H.size) cw ⟨zPre_blind, fun U hU hW => ⟨rfl, by rw [hU], by rw [hU]; exact hPc, zK.warm hW ⟨hK, hN⟩, hDc⟩⟩ rfl hn hl.1 rfl (lv_room hW) hd hcs) hS (fun q _ h => hFc q h) hFc (fun r u t H1 locs1 ht hvm hw hB hz1 hk1 hS1 => ?_)
  obtain ⟨hu, hr, hnr⟩ := hw
  have hP2 := zput_P (is := []) (w1 := []) hP hD rfl rfl hk1 (fun k q h => by simp at h)
  rw [hr] at hnr ⊢
  exact K u hu hnr H1 locs1 ls hP2 hD hS1 hl
theorem z_callNi (C : zC p l e R s m args meth c cc nL own Ts T A) {ρ : S → Int32} {rty : FieldType} (hM : Ci l y wy rm T rty As [] g ρ (fun _ => []))
    (cw : va_CN R s args own index y host bytes maxL ret wy rm 0 0 n ∧ (Cond.static y).before args s = true ∧ True) (hst : st = As.reverse ++ rest) (hn : As.length = n) (hW : (rest.map fun v => v.category).sum ≤ 8) (hd : decode cc pc = .ok (.invokestatic index, 3)) (hpc : pc + 3 = pc') (hcs : cells ≤ R.cells ∧ slots ≤ R.slots)
    (K : ∀ u, u = g → narrow rty (.int (ρ u)) = .int (ρ u) → Z p l e R s m args below meth c nL T A Q cells slots ws pc' lv (.int (ρ u) :: rest)) : Z p l e R s m args below meth c nL T A Q cells slots ws pc lv st := by
  subst hpc
  subst hst
  intro H locs ls hP hD hS hl
  obtain ⟨⟨hx, hb, hml, hown, hts⟩, ⟨hK, hN⟩, hlk, hA⟩ := C
  have hPc : va_P T.1 vwCl [] H := fun k q h => by simp at h
  have hDc : va_D (fun _ => True) [] := ⟨fun i j p q h => by simp at h, fun k q h => by simp at h⟩
  have hFc := va_free (wc := []) hD hS hA [] rfl
  refine va_calli (va_runSN (As := As) (rest := rest) ⟨hx, hb, hml, hown, hts⟩ (hM H.size) cw ⟨zPre_blind, fun U hU hW => ⟨rfl, by rw [hU], by rw [hU]; exact hPc, zK.warm hW ⟨hK, hN⟩, hDc⟩⟩ rfl hn hl.1 rfl (lv_room hW) hd hcs) hS (fun q _ h => hFc q h) hFc (fun r u t H1 locs1 ht hvm hw hB hz1 hk1 hS1 => ?_)
  obtain ⟨hu, hr, hnr⟩ := hw
  have hP2 := zput_P (is := []) (w1 := []) hP hD rfl rfl hk1 (fun k q h => by simp at h)
  rw [hr] at hnr ⊢
  exact K u hu hnr H1 locs1 ls hP2 hD hS1 hl
end ZCALL
end ZR
theorem Z.topi {p : Program} {l : Launch} {e : Env} {R : Room} {s : State} {m : MethodId} {args : Array Value} {below : List Frame} {meth : Method} {c : Code} {cells slots : Nat} {Q : State → Prop} {nL : Nat} {T : zT} {A : Nat → Prop} {ws : va_W} {pc : Nat} {lv : List (Nat × Value)} {rest : List Value} {x : Int32} (K : ∀ y, y = x → Z p l e R s m args below meth c nL T A Q cells slots ws pc lv (.int y :: rest)) : Z p l e R s m args below meth c nL T A Q cells slots ws pc lv (.int x :: rest) := K x rfl
theorem Z.topn {p : Program} {l : Launch} {e : Env} {R : Room} {s : State} {m : MethodId} {args : Array Value} {below : List Frame} {meth : Method} {c : Code} {cells slots : Nat} {Q : State → Prop} {nL : Nat} {T : zT} {A : Nat → Prop} {ws : va_W} {pc : Nat} {lv : List (Nat × Value)} {rest : List Value} {x y : Int32} (h : x = y) (K : Z p l e R s m args below meth c nL T A Q cells slots ws pc lv (.int y :: rest)) : Z p l e R s m args below meth c nL T A Q cells slots ws pc lv (.int x :: rest) := by rw [h]; exact K
theorem zi_c {x : Int32} {a b : Nat} (h : x = nI a) (e : a = b) : x = nI b := by rw [h, e]
theorem zi_add {x y : Int32} {a b : Nat} (h1 : x = nI a) (h2 : y = nI b) : x + y = nI (a + b) := by rw [h1, h2, nI_add]
theorem zi_mul {x y : Int32} {a b : Nat} (h1 : x = nI a) (h2 : y = nI b) : x * y = nI (a * b) := by rw [h1, h2, pk_mul]
theorem zi_sub {x y : Int32} {a b : Nat} (h1 : x = nI a) (h2 : y = nI b) (h : b ≤ a) : x - y = nI (a - b) := by rw [h1, h2, pk_sub h]
theorem zsw_out {x : Int32} {n : Nat} (hn : n < 2 ^ 31) (h : ∀ k : Nat, k ≤ n → ¬ x = nI k) : x.toInt < 0 ∨ (n : Int) < x.toInt := by
  by_cases h0 : x < 0
  · exact Or.inl (by simpa using Int32.lt_iff_toInt_lt.mp h0)
  · obtain ⟨j, hj, e⟩ := nI_of h0
    subst e
    rw [nI_toInt hj]
    by_cases hjn : j ≤ n
    · exact absurd rfl (h j hjn)
    · exact Or.inr (by omega)
-- the start of a method: what it owes at its end is handed on as E
theorem z_metI {l : Launch} {y : MethodName} {wy wy' : List Cond} {rm : Room} {T : zT} {av : List Value} {w0 : va_W} {S : Type} {g : S} {ρ : S → Int32} {ω : S → va_W} {cc : ByteArray} {maxL : Nat} {rty : FieldType} {own : String} (ho : y.cls = own) (hy : plainName y.cls = true) (hw : wy = Cond.code y cc maxL (some rty) :: wy') (hfit : (lg_sl av).length ≤ maxL)
    (body : ∀ (p : Program) (e : Env) (s : State) (m : MethodId) (args : Array Value) (below : List Frame) (meth : Method) (c : Code) (A : Nat → Prop) (Q : State → Prop), zC p l e rm s m args meth c cc maxL own wy T A →
      (∀ (u : S) (ws : va_W) (pc : Nat) (lv : List (Nat × Value)) (v : Int32), decode cc pc = .ok (.ireturn, 1) → narrow rty (.int v) = .int v → v = ρ u → ws = ω u → g = u → Z p l e rm s m args below meth c maxL T A Q 0 0 ws pc lv [.int v]) →
      Z p l e rm s m args below meth c maxL T A Q 0 0 w0 0 (lv_args 0 av) []) : Ci l y wy rm T rty av w0 g ρ ω := by
  intro sz
  refine Met.ofW (cc := cc) (maxL := maxL) (ret := (some rty)) hy hw ?_
  intro p e s m args below meth c s₁ B hml hv
  obtain ⟨rfl, hsz, hP, hK, hD0⟩ := hv
  subst hsz
  subst ho
  have hts := atoms_spec (ws := wy) B.pre
  have hl := lv_entry av (n := maxL) hfit
  rw [lg_entry_eq]
  have C : zC p l e rm s m av.toArray meth c cc maxL y.cls wy T (va_A w0 s.heap.size) := ⟨⟨B.exec, B.bytes, hml, findClass_of_methodNamed B.named, hts⟩, hK, B.notSynchronized, fun q h => Or.inr h⟩
  refine body p e s m _ below meth c (va_A w0 s.heap.size) (MQ below (zQi T rty g ρ ω (va_A w0 s.heap.size)) av.toArray s 0 0 (va_A w0 s.heap.size)) C ?_ s.heap [] _ hP (hD0.self (sz := s.heap.size)) va_S.rf hl
  intro u ws pc lv v hd hn hv hw hg H locs ls hP hD hS hll
  exact W.zret (v := v) B.exec B.bytes B.returns hn (fun t ht hW => ⟨⟨v, u, rfl, ⟨hg.symm, hv, hn⟩, by show va_P T.1 vwCl (ω u) t.heap; rw [ht, ← hw]; exact hP⟩, hS.F ht⟩) hS.2.2 hd B.notSynchronized
theorem z_metV {l : Launch} {y : MethodName} {wy wy' : List Cond} {rm : Room} {T : zT} {av : List Value} {w0 : va_W} {S : Type} {g : S} {ω : S → va_W} {cc : ByteArray} {maxL : Nat} {own : String} (ho : y.cls = own) (hy : plainName y.cls = true) (hw : wy = Cond.code y cc maxL none :: wy') (hfit : (lg_sl av).length ≤ maxL)
    (body : ∀ (p : Program) (e : Env) (s : State) (m : MethodId) (args : Array Value) (below : List Frame) (meth : Method) (c : Code) (A : Nat → Prop) (Q : State → Prop), zC p l e rm s m args meth c cc maxL own wy T A →
      (∀ (u : S) (ws : va_W) (pc : Nat) (lv : List (Nat × Value)) , decode cc pc = .ok (.return_, 1) → ws = ω u → g = u → Z p l e rm s m args below meth c maxL T A Q 0 0 ws pc lv []) →
      Z p l e rm s m args below meth c maxL T A Q 0 0 w0 0 (lv_args 0 av) []) : Cv l y wy rm T av w0 g ω := by
  intro sz
  refine Met.ofW (cc := cc) (maxL := maxL) (ret := none) hy hw ?_
  intro p e s m args below meth c s₁ B hml hv
  obtain ⟨rfl, hsz, hP, hK, hD0⟩ := hv
  subst hsz
  subst ho
  have hts := atoms_spec (ws := wy) B.pre
  have hl := lv_entry av (n := maxL) hfit
  rw [lg_entry_eq]
  have C : zC p l e rm s m av.toArray meth c cc maxL y.cls wy T (va_A w0 s.heap.size) := ⟨⟨B.exec, B.bytes, hml, findClass_of_methodNamed B.named, hts⟩, hK, B.notSynchronized, fun q h => Or.inr h⟩
  refine body p e s m _ below meth c (va_A w0 s.heap.size) (MQ below (zQv T g ω (va_A w0 s.heap.size)) av.toArray s 0 0 (va_A w0 s.heap.size)) C ?_ s.heap [] _ hP (hD0.self (sz := s.heap.size)) va_S.rf hl
  intro u ws pc lv hd hw hg H locs ls hP hD hS hll
  exact W.vret B.exec B.bytes B.returns (fun t ht hW => ⟨⟨u, rfl, hg.symm, by show va_P T.1 vwCl (ω u) t.heap; rw [ht, ← hw]; exact hP⟩, hS.F ht⟩) hS.2.2 hd B.notSynchronized
theorem z_metR {l : Launch} {y : MethodName} {wy wy' : List Cond} {rm : Room} {T : zT} {av : List Value} {w0 : va_W} {S : Type} {g : S} {ρ : S → Nat} {ω : S → va_W} {cc : ByteArray} {maxL : Nat} {nmr : String} {own : String} (ho : y.cls = own) (hy : plainName y.cls = true) (hw : wy = Cond.code y cc maxL (some (.object nmr)) :: wy') (hfit : (lg_sl av).length ≤ maxL)
    (body : ∀ (p : Program) (e : Env) (s : State) (m : MethodId) (args : Array Value) (below : List Frame) (meth : Method) (c : Code) (A : Nat → Prop) (Q : State → Prop), zC p l e rm s m args meth c cc maxL own wy T A →
      (∀ (u : S) (ws : va_W) (pc : Nat) (lv : List (Nat × Value)) (v : Nat), decode cc pc = .ok (.areturn, 1) → v = ρ u → ws = ω u → g = u → Z p l e rm s m args below meth c maxL T A Q 0 0 ws pc lv [.ref v]) →
      Z p l e rm s m args below meth c maxL T A Q 0 0 w0 0 (lv_args 0 av) []) : Cr l y wy rm T av w0 g ρ ω := by
  intro sz
  refine Met.ofW (cc := cc) (maxL := maxL) (ret := (some (.object nmr))) hy hw ?_
  intro p e s m args below meth c s₁ B hml hv
  obtain ⟨rfl, hsz, hP, hK, hD0⟩ := hv
  subst hsz
  subst ho
  have hts := atoms_spec (ws := wy) B.pre
  have hl := lv_entry av (n := maxL) hfit
  rw [lg_entry_eq]
  have C : zC p l e rm s m av.toArray meth c cc maxL y.cls wy T (va_A w0 s.heap.size) := ⟨⟨B.exec, B.bytes, hml, findClass_of_methodNamed B.named, hts⟩, hK, B.notSynchronized, fun q h => Or.inr h⟩
  refine body p e s m _ below meth c (va_A w0 s.heap.size) (MQ below (zQr T g ρ ω (va_A w0 s.heap.size)) av.toArray s 0 0 (va_A w0 s.heap.size)) C ?_ s.heap [] _ hP (hD0.self (sz := s.heap.size)) va_S.rf hl
  intro u ws pc lv v hd hv hw hg H locs ls hP hD hS hll
  exact W.aret (v := .ref v) B.exec B.bytes B.returns (Or.inl ⟨_, rfl⟩) (Or.inr ⟨v, rfl⟩) (fun t ht hW => ⟨⟨u, v, rfl, hg.symm, hv, by show va_P T.1 vwCl (ω u) t.heap; rw [ht, ← hw]; exact hP⟩, hS.F ht⟩) hS.2.2 hd B.notSynchronized
end
section
def f_X9_isWithin (v : Int32) (lo : Int32) (hi : Int32) : Int32 :=
  if v < lo then
    0
  else
    if hi < v then
      0
    else
      1
abbrev rm_X9_isWithin : Room := { frames := 0, cells := 0, slots := 0, locals := 0 }
set_option maxHeartbeats 4000000 in
set_option maxRecDepth 100000 in
theorem c_X9_isWithin (l : Launch) (T : zT) (v : Int32) (lo : Int32) (hi : Int32) : Ci l yX9_isWithin wsX9_isWithin rm_X9_isWithin T .boolean [.int v, .int lo, .int hi] [] (S := Int32) (f_X9_isWithin v lo hi) (fun u => u) (fun u => []) := by
  refine z_metI (own := RX9) (maxL := 3) rfl (by decide) rfl (Nat.le_of_ble_eq_true rfl) ?_
  intro P0 E0 S0 M0 G0 B0 T0 K0 A Q C E
  have hx := C.1.1
  have hb := C.1.2.1
  have hown := C.1.2.2.2.1
  have hts := C.1.2.2.2.2
  have hn := C.2.1.2
  change Z P0 l E0 rm_X9_isWithin S0 M0 G0 B0 T0 K0 3 T A Q 0 0 [] 0 [(0, .int v), (1, .int lo), (2, .int hi)] []
  refine Z.of (pc' := 1) (fun _ _ _ hl => lv_iload_n hx hb dX9_isWithin_0 rfl (lv_at hl 0 rfl)) ?_
  refine Z.of (pc' := 2) (fun _ _ _ hl => lv_iload_n hx hb dX9_isWithin_1 rfl (lv_at hl 1 rfl)) ?_
  refine Z.two (pt := 14) (pf := 5) (fun _ _ _ _ => lv_icmp_lt hx hb dX9_isWithin_2 (by decide)) (fun c1 => ?_) (fun c1 => ?_)
  · refine Z.of (pc' := 15) (fun _ _ _ _ => lv_iconst (v := 0) hx hb dX9_isWithin_14 (by decide)) ?_
    exact E 0 _ _ _ _ dX9_isWithin_15 rfl rfl rfl (by exact if_pos c1)
  · refine Z.of (pc' := 6) (fun _ _ _ hl => lv_iload_n hx hb dX9_isWithin_5 rfl (lv_at hl 0 rfl)) ?_
    refine Z.of (pc' := 7) (fun _ _ _ hl => lv_iload_n hx hb dX9_isWithin_6 rfl (lv_at hl 2 rfl)) ?_
    refine Z.two (pt := 14) (pf := 10) (fun _ _ _ _ => lv_icmp_gt hx hb dX9_isWithin_7 (by decide)) (fun c2 => ?_) (fun c2 => ?_)
    · refine Z.of (pc' := 15) (fun _ _ _ _ => lv_iconst (v := 0) hx hb dX9_isWithin_14 (by decide)) ?_
      exact E 0 _ _ _ _ dX9_isWithin_15 rfl rfl rfl (by exact (if_neg c1).trans (if_pos c2))
    · refine Z.of (pc' := 11) (fun _ _ _ _ => lv_iconst (v := 1) hx hb dX9_isWithin_10 (by decide)) ?_
      refine Z.of (pc' := 15) (fun _ _ _ _ => lv_goto hx hb dX9_isWithin_11 (by decide)) ?_
      exact E 1 _ _ _ _ dX9_isWithin_15 rfl rfl rfl (by exact (if_neg c1).trans (if_neg c2))
def f_X9_remainder (v : Int32) (d : Int32) : Int32 :=
  if d ≤ 0 then
    0
  else
    (v - v / d * d)
abbrev rm_X9_remainder : Room := { frames := 0, cells := 0, slots := 0, locals := 0 }
set_option maxHeartbeats 4000000 in
set_option maxRecDepth 100000 in
theorem c_X9_remainder (l : Launch) (T : zT) (v : Int32) (d : Int32) : Ci l yX9_remainder wsX9_remainder rm_X9_remainder T .int [.int v, .int d] [] (S := Int32) (f_X9_remainder v d) (fun u => u) (fun u => []) := by
  refine z_metI (own := RX9) (maxL := 2) rfl (by decide) rfl (Nat.le_of_ble_eq_true rfl) ?_
  intro P0 E0 S0 M0 G0 B0 T0 K0 A Q C E
  have hx := C.1.1
  have hb := C.1.2.1
  have hown := C.1.2.2.2.1
  have hts := C.1.2.2.2.2
  have hn := C.2.1.2
  change Z P0 l E0 rm_X9_remainder S0 M0 G0 B0 T0 K0 2 T A Q 0 0 [] 0 [(0, .int v), (1, .int d)] []
  refine Z.of (pc' := 1) (fun _ _ _ hl => lv_iload_n hx hb dX9_remainder_0 rfl (lv_at hl 1 rfl)) ?_
  refine Z.two (pt := 10) (pf := 4) (fun _ _ _ _ => lv_if_le hx hb dX9_remainder_1 (by decide)) (fun c1 => ?_) (fun c1 => ?_)
  · refine Z.of (pc' := 11) (fun _ _ _ _ => lv_iconst (v := 0) hx hb dX9_remainder_10 (by decide)) ?_
    exact E 0 _ _ _ _ dX9_remainder_11 rfl rfl rfl (by exact if_pos c1)
  · refine Z.of (pc' := 5) (fun _ _ _ hl => lv_iload_n hx hb dX9_remainder_4 rfl (lv_at hl 0 rfl)) ?_
    refine Z.of (pc' := 6) (fun _ _ _ hl => lv_iload_n hx hb dX9_remainder_5 rfl (lv_at hl 1 rfl)) ?_
    refine Z.of (pc' := 7) (fun _ _ _ hl => lv_irem hx hb dX9_remainder_6 (fun h9 => c1 (by rw [h9]; decide))) ?_
    refine Z.of (pc' := 11) (fun _ _ _ _ => lv_goto hx hb dX9_remainder_7 (by decide)) ?_
    exact E (v - v / d * d) _ _ _ _ dX9_remainder_11 rfl rfl rfl (by exact if_neg c1)
abbrev rm_X0_copyFrom : Room := { frames := 0, cells := 0, slots := 0, locals := 0 }
set_option maxHeartbeats 4000000 in
set_option maxRecDepth 100000 in
theorem c_X0_copyFrom (l : Launch) (T : zT) (a : Nat) (o : Nat) (b : Int64) (n : Int32) (b2 : Int64) (n2 : Int32) : Cv l yX0_copyFrom wsX0_copyFrom rm_X0_copyFrom T [.ref a, .ref o] [(a, .inr (0, [.long b, .int n])), (o, .inr (0, [.long b2, .int n2]))] (S := Unit) () (fun u => [(a, .inr (0, [.long b2, .int n2])), (o, .inr (0, [.long b2, .int n2]))]) := by
  refine z_metV (own := RX0) (maxL := 2) rfl (by decide) rfl (Nat.le_of_ble_eq_true rfl) ?_
  intro P0 E0 S0 M0 G0 B0 T0 K0 A Q C E
  have hx := C.1.1
  have hb := C.1.2.1
  have hown := C.1.2.2.2.1
  have hts := C.1.2.2.2.2
  have hn := C.2.1.2
  have iX0 : ∀ w ∈ u_ws RX0 TX0 2, w ∈ wsX0_copyFrom := by decide +kernel
  have k7 := hts (.fieldLink RX0 7 "JudgedBits$BitRow" "bits" "J") (by decide +kernel)
  have k13 := hts (.fieldLink RX0 13 "JudgedBits$BitRow" "size" "I") (by decide +kernel)
  change Z P0 l E0 rm_X0_copyFrom S0 M0 G0 B0 T0 K0 2 T A Q 0 0 [(a, .inr (0, [.long b, .int n])), (o, .inr (0, [.long b2, .int n2]))] 0 [(0, .ref a), (1, .ref o)] []
  refine Z.of (pc' := 1) (fun _ _ _ hl => lv_aload_n hx hb dX0_copyFrom_0 rfl (lv_at hl 0 rfl)) ?_
  refine Z.of (pc' := 2) (fun _ _ _ hl => lv_aload_n hx hb dX0_copyFrom_1 rfl (lv_at hl 1 rfl)) ?_
  refine z_get C iX0 1 0 k7 rfl rfl (by decide) rfl rfl dX0_copyFrom_2 rfl ?_
  refine z_put C iX0 tyX0_ok nmX0 0 0 k7 rfl rfl (by decide) rfl rfl rfl rfl (Nat.le_of_ble_eq_true rfl) dX0_copyFrom_5 rfl [(a, .inr (0, [.long b2, .int n])), (o, .inr (0, [.long b2, .int n2]))] rfl ?_
  refine Z.of (pc' := 9) (fun _ _ _ hl => lv_aload_n hx hb dX0_copyFrom_8 rfl (lv_at hl 0 rfl)) ?_
  refine Z.of (pc' := 10) (fun _ _ _ hl => lv_aload_n hx hb dX0_copyFrom_9 rfl (lv_at hl 1 rfl)) ?_
  refine z_get C iX0 1 1 k13 rfl rfl (by decide) rfl rfl dX0_copyFrom_10 rfl ?_
  refine z_put C iX0 tyX0_ok nmX0 0 1 k13 rfl rfl (by decide) rfl rfl rfl rfl (Nat.le_of_ble_eq_true rfl) dX0_copyFrom_13 rfl [(a, .inr (0, [.long b2, .int n2])), (o, .inr (0, [.long b2, .int n2]))] rfl ?_
  exact E () _ _ _ dX0_copyFrom_16  rfl rfl
abbrev rm_X0_clear : Room := { frames := 0, cells := 0, slots := 0, locals := 0 }
set_option maxHeartbeats 4000000 in
set_option maxRecDepth 100000 in
theorem c_X0_clear (l : Launch) (T : zT) (a : Nat) (b : Int64) (n : Int32) : Cv l yX0_clear wsX0_clear rm_X0_clear T [.ref a] [(a, .inr (0, [.long b, .int n]))] (S := Unit) () (fun u => [(a, .inr (0, [.long 0, .int 0]))]) := by
  refine z_metV (own := RX0) (maxL := 1) rfl (by decide) rfl (Nat.le_of_ble_eq_true rfl) ?_
  intro P0 E0 S0 M0 G0 B0 T0 K0 A Q C E
  have hx := C.1.1
  have hb := C.1.2.1
  have hown := C.1.2.2.2.1
  have hts := C.1.2.2.2.2
  have hn := C.2.1.2
  have iX0 : ∀ w ∈ u_ws RX0 TX0 2, w ∈ wsX0_clear := by decide +kernel
  have k7 := hts (.fieldLink RX0 7 "JudgedBits$BitRow" "bits" "J") (by decide +kernel)
  have k13 := hts (.fieldLink RX0 13 "JudgedBits$BitRow" "size" "I") (by decide +kernel)
  change Z P0 l E0 rm_X0_clear S0 M0 G0 B0 T0 K0 1 T A Q 0 0 [(a, .inr (0, [.long b, .int n]))] 0 [(0, .ref a)] []
  refine Z.of (pc' := 1) (fun _ _ _ hl => lv_aload_n hx hb dX0_clear_0 rfl (lv_at hl 0 rfl)) ?_
  refine Z.of (pc' := 2) (fun _ _ _ _ => lv_lconst (v := 0) hx hb dX0_clear_1 rfl) ?_
  refine z_put C iX0 tyX0_ok nmX0 0 0 k7 rfl rfl (by decide) rfl rfl rfl rfl (Nat.le_of_ble_eq_true rfl) dX0_clear_2 rfl [(a, .inr (0, [.long 0, .int n]))] rfl ?_
  refine Z.of (pc' := 6) (fun _ _ _ hl => lv_aload_n hx hb dX0_clear_5 rfl (lv_at hl 0 rfl)) ?_
  refine Z.of (pc' := 7) (fun _ _ _ _ => lv_iconst (v := 0) hx hb dX0_clear_6 (by decide)) ?_
  refine z_put C iX0 tyX0_ok nmX0 0 1 k13 rfl rfl (by decide) rfl rfl rfl rfl (Nat.le_of_ble_eq_true rfl) dX0_clear_7 rfl [(a, .inr (0, [.long 0, .int 0]))] rfl ?_
  exact E () _ _ _ dX0_clear_10  rfl rfl
def f_X0_isFull (b : Int64) (n : Int32) : Int32 :=
  if n < 64 then
    0
  else
    1
abbrev rm_X0_isFull : Room := { frames := 0, cells := 0, slots := 0, locals := 0 }
set_option maxHeartbeats 4000000 in
set_option maxRecDepth 100000 in
theorem c_X0_isFull (l : Launch) (T : zT) (a : Nat) (b : Int64) (n : Int32) : Ci l yX0_isFull wsX0_isFull rm_X0_isFull T .boolean [.ref a] [(a, .inr (0, [.long b, .int n]))] (S := Int32) (f_X0_isFull b n) (fun u => u) (fun u => [(a, .inr (0, [.long b, .int n]))]) := by
  refine z_metI (own := RX0) (maxL := 1) rfl (by decide) rfl (Nat.le_of_ble_eq_true rfl) ?_
  intro P0 E0 S0 M0 G0 B0 T0 K0 A Q C E
  have hx := C.1.1
  have hb := C.1.2.1
  have hown := C.1.2.2.2.1
  have hts := C.1.2.2.2.2
  have hn := C.2.1.2
  have iX0 : ∀ w ∈ u_ws RX0 TX0 2, w ∈ wsX0_isFull := by decide +kernel
  have k13 := hts (.fieldLink RX0 13 "JudgedBits$BitRow" "size" "I") (by decide +kernel)
  change Z P0 l E0 rm_X0_isFull S0 M0 G0 B0 T0 K0 1 T A Q 0 0 [(a, .inr (0, [.long b, .int n]))] 0 [(0, .ref a)] []
  refine Z.of (pc' := 1) (fun _ _ _ hl => lv_aload_n hx hb dX0_isFull_0 rfl (lv_at hl 0 rfl)) ?_
  refine z_get C iX0 0 1 k13 rfl rfl (by decide) rfl rfl dX0_isFull_1 rfl ?_
  refine Z.of (pc' := 6) (fun _ _ _ _ => lv_bipush (v := 64) hx hb dX0_isFull_4 (by decide)) ?_
  refine Z.two (pt := 13) (pf := 9) (fun _ _ _ _ => lv_icmp_lt hx hb dX0_isFull_6 (by decide)) (fun c1 => ?_) (fun c1 => ?_)
  · refine Z.of (pc' := 14) (fun _ _ _ _ => lv_iconst (v := 0) hx hb dX0_isFull_13 (by decide)) ?_
    exact E 0 _ _ _ _ dX0_isFull_14 rfl rfl rfl (by exact if_pos c1)
  · refine Z.of (pc' := 10) (fun _ _ _ _ => lv_iconst (v := 1) hx hb dX0_isFull_9 (by decide)) ?_
    refine Z.of (pc' := 14) (fun _ _ _ _ => lv_goto hx hb dX0_isFull_10 (by decide)) ?_
    exact E 1 _ _ _ _ dX0_isFull_14 rfl rfl rfl (by exact if_neg c1)
def f_X0_append (b : Int64) (n : Int32) (bit : Int32) : Int64 × Int32 :=
  if 64 ≤ n then
    ((b <<< ((1 : Int32).toInt64 &&& 63)) ||| bit.toInt64, n)
  else
    ((b <<< ((1 : Int32).toInt64 &&& 63)) ||| bit.toInt64, n + 1)
abbrev rm_X0_append : Room := { frames := 0, cells := 0, slots := 0, locals := 0 }
set_option maxHeartbeats 4000000 in
set_option maxRecDepth 100000 in
theorem c_X0_append (l : Launch) (T : zT) (a : Nat) (b : Int64) (n : Int32) (bit : Int32) : Cv l yX0_append wsX0_append rm_X0_append T [.ref a, .int bit] [(a, .inr (0, [.long b, .int n]))] (S := Int64 × Int32) (f_X0_append b n bit) (fun u => [(a, .inr (0, [.long u.1, .int u.2]))]) := by
  refine z_metV (own := RX0) (maxL := 2) rfl (by decide) rfl (Nat.le_of_ble_eq_true rfl) ?_
  intro P0 E0 S0 M0 G0 B0 T0 K0 A Q C E
  have hx := C.1.1
  have hb := C.1.2.1
  have hown := C.1.2.2.2.1
  have hts := C.1.2.2.2.2
  have hn := C.2.1.2
  have iX0 : ∀ w ∈ u_ws RX0 TX0 2, w ∈ wsX0_append := by decide +kernel
  have k7 := hts (.fieldLink RX0 7 "JudgedBits$BitRow" "bits" "J") (by decide +kernel)
  have k13 := hts (.fieldLink RX0 13 "JudgedBits$BitRow" "size" "I") (by decide +kernel)
  change Z P0 l E0 rm_X0_append S0 M0 G0 B0 T0 K0 2 T A Q 0 0 [(a, .inr (0, [.long b, .int n]))] 0 [(0, .ref a), (1, .int bit)] []
  refine Z.of (pc' := 1) (fun _ _ _ hl => lv_aload_n hx hb dX0_append_0 rfl (lv_at hl 0 rfl)) ?_
  refine Z.of (pc' := 2) (fun _ _ _ hl => lv_aload_n hx hb dX0_append_1 rfl (lv_at hl 0 rfl)) ?_
  refine z_get C iX0 0 0 k7 rfl rfl (by decide) rfl rfl dX0_append_2 rfl ?_
  refine Z.of (pc' := 6) (fun _ _ _ _ => lv_iconst (v := 1) hx hb dX0_append_5 (by decide)) ?_
  refine Z.of (pc' := 7) (fun _ _ _ hl => lv_lshl hx hb dX0_append_6 rfl) ?_
  refine Z.of (pc' := 8) (fun _ _ _ hl => lv_iload_n hx hb dX0_append_7 rfl (lv_at hl 1 rfl)) ?_
  refine Z.of (pc' := 9) (fun _ _ _ hl => lv_i2l hx hb dX0_append_8 rfl) ?_
  refine Z.of (pc' := 10) (fun _ _ _ hl => lv_lor hx hb dX0_append_9) ?_
  refine z_put C iX0 tyX0_ok nmX0 0 0 k7 rfl rfl (by decide) rfl rfl rfl rfl (Nat.le_of_ble_eq_true rfl) dX0_append_10 rfl [(a, .inr (0, [.long ((b <<< ((1 : Int32).toInt64 &&& 63)) ||| bit.toInt64), .int n]))] rfl ?_
  refine Z.of (pc' := 14) (fun _ _ _ hl => lv_aload_n hx hb dX0_append_13 rfl (lv_at hl 0 rfl)) ?_
  refine z_get C iX0 0 1 k13 rfl rfl (by decide) rfl rfl dX0_append_14 rfl ?_
  refine Z.of (pc' := 19) (fun _ _ _ _ => lv_bipush (v := 64) hx hb dX0_append_17 (by decide)) ?_
  refine Z.two (pt := 32) (pf := 22) (fun _ _ _ _ => lv_icmp_ge hx hb dX0_append_19 (by decide)) (fun c1 => ?_) (fun c1 => ?_)
  · exact E ((b <<< ((1 : Int32).toInt64 &&& 63)) ||| bit.toInt64, n) _ _ _ dX0_append_32  rfl (by exact if_pos c1)
  · refine Z.of (pc' := 23) (fun _ _ _ hl => lv_aload_n hx hb dX0_append_22 rfl (lv_at hl 0 rfl)) ?_
    refine Z.of (pc' := 24) (fun _ _ _ hl => lv_dup hx hb dX0_append_23 rfl) ?_
    refine z_get C iX0 0 1 k13 rfl rfl (by decide) rfl rfl dX0_append_24 rfl ?_
    refine Z.of (pc' := 28) (fun _ _ _ _ => lv_iconst (v := 1) hx hb dX0_append_27 (by decide)) ?_
    refine Z.of (pc' := 29) (fun _ _ _ hl => lv_iadd hx hb dX0_append_28) ?_
    refine z_put C iX0 tyX0_ok nmX0 0 1 k13 rfl rfl (by decide) rfl rfl rfl rfl (Nat.le_of_ble_eq_true rfl) dX0_append_29 rfl [(a, .inr (0, [.long ((b <<< ((1 : Int32).toInt64 &&& 63)) ||| bit.toInt64), .int (n + 1)]))] rfl ?_
    exact E ((b <<< ((1 : Int32).toInt64 &&& 63)) ||| bit.toInt64, n + 1) _ _ _ dX0_append_32  rfl (by exact if_neg c1)
def f_X0_fromLatest (b : Int64) (n : Int32) (i : Int32) : Int32 :=
  ((((b.toUInt64 >>> (i.toInt64.toUInt64 &&& Int64.toUInt64 63)).toInt64) &&& 1).toInt32)
abbrev rm_X0_fromLatest : Room := { frames := 0, cells := 0, slots := 0, locals := 0 }
set_option maxHeartbeats 4000000 in
set_option maxRecDepth 100000 in
theorem c_X0_fromLatest (l : Launch) (T : zT) (a : Nat) (b : Int64) (n : Int32) (i : Int32) : Ci l yX0_fromLatest wsX0_fromLatest rm_X0_fromLatest T .int [.ref a, .int i] [(a, .inr (0, [.long b, .int n]))] (S := Int32) (f_X0_fromLatest b n i) (fun u => u) (fun u => [(a, .inr (0, [.long b, .int n]))]) := by
  refine z_metI (own := RX0) (maxL := 2) rfl (by decide) rfl (Nat.le_of_ble_eq_true rfl) ?_
  intro P0 E0 S0 M0 G0 B0 T0 K0 A Q C E
  have hx := C.1.1
  have hb := C.1.2.1
  have hown := C.1.2.2.2.1
  have hts := C.1.2.2.2.2
  have hn := C.2.1.2
  have iX0 : ∀ w ∈ u_ws RX0 TX0 2, w ∈ wsX0_fromLatest := by decide +kernel
  have k7 := hts (.fieldLink RX0 7 "JudgedBits$BitRow" "bits" "J") (by decide +kernel)
  change Z P0 l E0 rm_X0_fromLatest S0 M0 G0 B0 T0 K0 2 T A Q 0 0 [(a, .inr (0, [.long b, .int n]))] 0 [(0, .ref a), (1, .int i)] []
  refine Z.of (pc' := 1) (fun _ _ _ hl => lv_aload_n hx hb dX0_fromLatest_0 rfl (lv_at hl 0 rfl)) ?_
  refine z_get C iX0 0 0 k7 rfl rfl (by decide) rfl rfl dX0_fromLatest_1 rfl ?_
  refine Z.of (pc' := 5) (fun _ _ _ hl => lv_iload_n hx hb dX0_fromLatest_4 rfl (lv_at hl 1 rfl)) ?_
  refine Z.of (pc' := 6) (fun _ _ _ hl => lv_lushr hx hb dX0_fromLatest_5 rfl) ?_
  refine Z.of (pc' := 7) (fun _ _ _ _ => lv_lconst (v := 1) hx hb dX0_fromLatest_6 rfl) ?_
  refine Z.of (pc' := 8) (fun _ _ _ hl => lv_land hx hb dX0_fromLatest_7) ?_
  refine Z.of (pc' := 9) (fun _ _ _ hl => lv_l2i hx hb dX0_fromLatest_8 rfl) ?_
  exact E ((((b.toUInt64 >>> (i.toInt64.toUInt64 &&& Int64.toUInt64 63)).toInt64) &&& 1).toInt32) _ _ _ _ dX0_fromLatest_9 rfl rfl rfl (by exact rfl)
def f_X0_fromEarliest (b : Int64) (n : Int32) (i : Int32) : Int32 :=
  let u1 := f_X0_fromLatest b n ((n - 1) - i)
  u1
abbrev rm_X0_fromEarliest : Room := { frames := 1, cells := 0, slots := 0, locals := 21 }
set_option maxHeartbeats 4000000 in
set_option maxRecDepth 100000 in
theorem c_X0_fromEarliest (l : Launch) (T : zT) (a : Nat) (b : Int64) (n : Int32) (i : Int32) : Ci l yX0_fromEarliest wsX0_fromEarliest rm_X0_fromEarliest T .int [.ref a, .int i] [(a, .inr (0, [.long b, .int n]))] (S := Int32) (f_X0_fromEarliest b n i) (fun u => u) (fun u => [(a, .inr (0, [.long b, .int n]))]) := by
  refine z_metI (own := RX0) (maxL := 2) rfl (by decide) rfl (Nat.le_of_ble_eq_true rfl) ?_
  intro P0 E0 S0 M0 G0 B0 T0 K0 A Q C E
  have hx := C.1.1
  have hb := C.1.2.1
  have hown := C.1.2.2.2.1
  have hts := C.1.2.2.2.2
  have hn := C.2.1.2
  have iX0 : ∀ w ∈ u_ws RX0 TX0 2, w ∈ wsX0_fromEarliest := by decide +kernel
  have k13 := hts (.fieldLink RX0 13 "JudgedBits$BitRow" "size" "I") (by decide +kernel)
  change Z P0 l E0 rm_X0_fromEarliest S0 M0 G0 B0 T0 K0 2 T A Q 0 0 [(a, .inr (0, [.long b, .int n]))] 0 [(0, .ref a), (1, .int i)] []
  refine Z.of (pc' := 1) (fun _ _ _ hl => lv_aload_n hx hb dX0_fromEarliest_0 rfl (lv_at hl 0 rfl)) ?_
  refine Z.of (pc' := 2) (fun _ _ _ hl => lv_aload_n hx hb dX0_fromEarliest_1 rfl (lv_at hl 0 rfl)) ?_
  refine z_get C iX0 0 1 k13 rfl rfl (by decide) rfl rfl dX0_fromEarliest_2 rfl ?_
  refine Z.of (pc' := 6) (fun _ _ _ _ => lv_iconst (v := 1) hx hb dX0_fromEarliest_5 (by decide)) ?_
  refine Z.of (pc' := 7) (fun _ _ _ hl => lv_isub hx hb dX0_fromEarliest_6) ?_
  refine Z.of (pc' := 8) (fun _ _ _ hl => lv_iload_n hx hb dX0_fromEarliest_7 rfl (lv_at hl 1 rfl)) ?_
  refine Z.of (pc' := 9) (fun _ _ _ hl => lv_isub hx hb dX0_fromEarliest_8) ?_
  refine z_callVi C (c_X0_fromLatest l T a b n ((n - 1) - i)) [0] rfl (by decide) (fun u1 => [(a, .inr (0, [.long b, .int n]))]) (fun _ => rfl) (fun _ => rfl) (fun _ => rfl) (cwV 1 hts gX0_fromEarliest_X0_fromLatest rfl rfl rfl (by decide +kernel) ⟨Nat.le_of_ble_eq_true rfl, Nat.le_of_ble_eq_true rfl⟩) 0 rfl rfl rfl (As := [.int ((n - 1) - i)]) (rest := []) rfl rfl (Nat.le_of_ble_eq_true rfl) dX0_fromEarliest_9 rfl ⟨Nat.zero_le _, Nat.zero_le _⟩ (fun u1 eu1 bu1 => ?_)
  exact E u1 _ _ _ _ dX0_fromEarliest_12 rfl rfl rfl (by subst eu1; exact rfl)
def f_X0_takeEarliest (b : Int64) (n : Int32) (many : Int32) : Int32 × Int64 :=
  (((b.toUInt64 >>> ((n - many).toInt64.toUInt64 &&& Int64.toUInt64 63)).toInt64).toInt32, b &&& ((1 <<< ((n - many).toInt64 &&& 63)) - 1))
abbrev rm_X0_takeEarliest : Room := { frames := 0, cells := 0, slots := 0, locals := 0 }
set_option maxHeartbeats 4000000 in
set_option maxRecDepth 100000 in
theorem c_X0_takeEarliest (l : Launch) (T : zT) (a : Nat) (b : Int64) (n : Int32) (many : Int32) : Ci l yX0_takeEarliest wsX0_takeEarliest rm_X0_takeEarliest T .int [.ref a, .int many] [(a, .inr (0, [.long b, .int n]))] (S := Int32 × Int64) (f_X0_takeEarliest b n many) (fun u => u.1) (fun u => [(a, .inr (0, [.long u.2, .int (n - many)]))]) := by
  refine z_metI (own := RX0) (maxL := 4) rfl (by decide) rfl (Nat.le_of_ble_eq_true rfl) ?_
  intro P0 E0 S0 M0 G0 B0 T0 K0 A Q C E
  have hx := C.1.1
  have hb := C.1.2.1
  have hown := C.1.2.2.2.1
  have hts := C.1.2.2.2.2
  have hn := C.2.1.2
  have iX0 : ∀ w ∈ u_ws RX0 TX0 2, w ∈ wsX0_takeEarliest := by decide +kernel
  have k7 := hts (.fieldLink RX0 7 "JudgedBits$BitRow" "bits" "J") (by decide +kernel)
  have k13 := hts (.fieldLink RX0 13 "JudgedBits$BitRow" "size" "I") (by decide +kernel)
  change Z P0 l E0 rm_X0_takeEarliest S0 M0 G0 B0 T0 K0 4 T A Q 0 0 [(a, .inr (0, [.long b, .int n]))] 0 [(0, .ref a), (1, .int many)] []
  refine Z.of (pc' := 1) (fun _ _ _ hl => lv_aload_n hx hb dX0_takeEarliest_0 rfl (lv_at hl 0 rfl)) ?_
  refine z_get C iX0 0 1 k13 rfl rfl (by decide) rfl rfl dX0_takeEarliest_1 rfl ?_
  refine Z.of (pc' := 5) (fun _ _ _ hl => lv_iload_n hx hb dX0_takeEarliest_4 rfl (lv_at hl 1 rfl)) ?_
  refine Z.of (pc' := 6) (fun _ _ _ hl => lv_isub hx hb dX0_takeEarliest_5) ?_
  refine Z.sto (pc' := 7) (lv' := [(2, .int (n - many)), (0, .ref a), (1, .int many)]) (fun _ _ _ hl => lv_istore_n (lv' := [(2, .int (n - many)), (0, .ref a), (1, .int many)]) hx hb dX0_takeEarliest_6 rfl hl (by decide) rfl) ?_
  refine Z.of (pc' := 8) (fun _ _ _ hl => lv_aload_n hx hb dX0_takeEarliest_7 rfl (lv_at hl 1 rfl)) ?_
  refine z_get C iX0 0 0 k7 rfl rfl (by decide) rfl rfl dX0_takeEarliest_8 rfl ?_
  refine Z.of (pc' := 12) (fun _ _ _ hl => lv_iload_n hx hb dX0_takeEarliest_11 rfl (lv_at hl 0 rfl)) ?_
  refine Z.of (pc' := 13) (fun _ _ _ hl => lv_lushr hx hb dX0_takeEarliest_12 rfl) ?_
  refine Z.of (pc' := 14) (fun _ _ _ hl => lv_l2i hx hb dX0_takeEarliest_13 rfl) ?_
  refine Z.sto (pc' := 15) (lv' := [(3, .int (((b.toUInt64 >>> ((n - many).toInt64.toUInt64 &&& Int64.toUInt64 63)).toInt64).toInt32)), (2, .int (n - many)), (0, .ref a), (1, .int many)]) (fun _ _ _ hl => lv_istore_n (lv' := [(3, .int (((b.toUInt64 >>> ((n - many).toInt64.toUInt64 &&& Int64.toUInt64 63)).toInt64).toInt32)), (2, .int (n - many)), (0, .ref a), (1, .int many)]) hx hb dX0_takeEarliest_14 rfl hl (by decide) rfl) ?_
  refine Z.of (pc' := 16) (fun _ _ _ hl => lv_aload_n hx hb dX0_takeEarliest_15 rfl (lv_at hl 2 rfl)) ?_
  refine Z.of (pc' := 17) (fun _ _ _ hl => lv_aload_n hx hb dX0_takeEarliest_16 rfl (lv_at hl 2 rfl)) ?_
  refine z_get C iX0 0 0 k7 rfl rfl (by decide) rfl rfl dX0_takeEarliest_17 rfl ?_
  refine Z.of (pc' := 21) (fun _ _ _ _ => lv_lconst (v := 1) hx hb dX0_takeEarliest_20 rfl) ?_
  refine Z.of (pc' := 22) (fun _ _ _ hl => lv_iload_n hx hb dX0_takeEarliest_21 rfl (lv_at hl 1 rfl)) ?_
  refine Z.of (pc' := 23) (fun _ _ _ hl => lv_lshl hx hb dX0_takeEarliest_22 rfl) ?_
  refine Z.of (pc' := 24) (fun _ _ _ _ => lv_lconst (v := 1) hx hb dX0_takeEarliest_23 rfl) ?_
  refine Z.of (pc' := 25) (fun _ _ _ hl => lv_lsub hx hb dX0_takeEarliest_24) ?_
  refine Z.of (pc' := 26) (fun _ _ _ hl => lv_land hx hb dX0_takeEarliest_25) ?_
  refine z_put C iX0 tyX0_ok nmX0 0 0 k7 rfl rfl (by decide) rfl rfl rfl rfl (Nat.le_of_ble_eq_true rfl) dX0_takeEarliest_26 rfl [(a, .inr (0, [.long (b &&& ((1 <<< ((n - many).toInt64 &&& 63)) - 1)), .int n]))] rfl ?_
  refine Z.of (pc' := 30) (fun _ _ _ hl => lv_aload_n hx hb dX0_takeEarliest_29 rfl (lv_at hl 2 rfl)) ?_
  refine Z.of (pc' := 31) (fun _ _ _ hl => lv_iload_n hx hb dX0_takeEarliest_30 rfl (lv_at hl 1 rfl)) ?_
  refine z_put C iX0 tyX0_ok nmX0 0 1 k13 rfl rfl (by decide) rfl rfl rfl rfl (Nat.le_of_ble_eq_true rfl) dX0_takeEarliest_31 rfl [(a, .inr (0, [.long (b &&& ((1 <<< ((n - many).toInt64 &&& 63)) - 1)), .int (n - many)]))] rfl ?_
  refine Z.of (pc' := 35) (fun _ _ _ hl => lv_iload_n hx hb dX0_takeEarliest_34 rfl (lv_at hl 0 rfl)) ?_
  exact E (((b.toUInt64 >>> ((n - many).toInt64.toUInt64 &&& Int64.toUInt64 63)).toInt64).toInt32, b &&& ((1 <<< ((n - many).toInt64 &&& 63)) - 1)) _ _ _ _ dX0_takeEarliest_35 rfl rfl rfl (by exact rfl)
abbrev rm_X4_copyFrom : Room := { frames := 0, cells := 0, slots := 0, locals := 0 }
set_option maxHeartbeats 4000000 in
set_option maxRecDepth 100000 in
theorem c_X4_copyFrom (l : Launch) (T : zT) (a : Nat) (o : Nat) (p : Int32) (j : Int32) (h : Int32) (p2 : Int32) (j2 : Int32) (h2 : Int32) : Cv l yX4_copyFrom wsX4_copyFrom rm_X4_copyFrom T [.ref a, .ref o] [(a, .inr (4, [.int p, .int j, .int h])), (o, .inr (4, [.int p2, .int j2, .int h2]))] (S := Unit) () (fun u => [(a, .inr (4, [.int p2, .int j2, .int h2])), (o, .inr (4, [.int p2, .int j2, .int h2]))]) := by
  refine z_metV (own := RX4) (maxL := 2) rfl (by decide) rfl (Nat.le_of_ble_eq_true rfl) ?_
  intro P0 E0 S0 M0 G0 B0 T0 K0 A Q C E
  have hx := C.1.1
  have hb := C.1.2.1
  have hown := C.1.2.2.2.1
  have hts := C.1.2.2.2.2
  have hn := C.2.1.2
  have iX4 : ∀ w ∈ u_ws RX4 TX4 3, w ∈ wsX4_copyFrom := by decide +kernel
  have k9 := hts (.fieldLink RX4 9 "JudgedBits$Ring" "jitter" "I") (by decide +kernel)
  have k15 := hts (.fieldLink RX4 15 "JudgedBits$Ring" "phase" "I") (by decide +kernel)
  have k18 := hts (.fieldLink RX4 18 "JudgedBits$Ring" "period" "I") (by decide +kernel)
  change Z P0 l E0 rm_X4_copyFrom S0 M0 G0 B0 T0 K0 2 T A Q 0 0 [(a, .inr (4, [.int p, .int j, .int h])), (o, .inr (4, [.int p2, .int j2, .int h2]))] 0 [(0, .ref a), (1, .ref o)] []
  refine Z.of (pc' := 1) (fun _ _ _ hl => lv_aload_n hx hb dX4_copyFrom_0 rfl (lv_at hl 0 rfl)) ?_
  refine Z.of (pc' := 2) (fun _ _ _ hl => lv_aload_n hx hb dX4_copyFrom_1 rfl (lv_at hl 1 rfl)) ?_
  refine z_get C iX4 1 0 k18 rfl rfl (by decide) rfl rfl dX4_copyFrom_2 rfl ?_
  refine z_put C iX4 tyX4_ok nmX4 0 0 k18 rfl rfl (by decide) rfl rfl rfl rfl (Nat.le_of_ble_eq_true rfl) dX4_copyFrom_5 rfl [(a, .inr (4, [.int p2, .int j, .int h])), (o, .inr (4, [.int p2, .int j2, .int h2]))] rfl ?_
  refine Z.of (pc' := 9) (fun _ _ _ hl => lv_aload_n hx hb dX4_copyFrom_8 rfl (lv_at hl 0 rfl)) ?_
  refine Z.of (pc' := 10) (fun _ _ _ hl => lv_aload_n hx hb dX4_copyFrom_9 rfl (lv_at hl 1 rfl)) ?_
  refine z_get C iX4 1 1 k9 rfl rfl (by decide) rfl rfl dX4_copyFrom_10 rfl ?_
  refine z_put C iX4 tyX4_ok nmX4 0 1 k9 rfl rfl (by decide) rfl rfl rfl rfl (Nat.le_of_ble_eq_true rfl) dX4_copyFrom_13 rfl [(a, .inr (4, [.int p2, .int j2, .int h])), (o, .inr (4, [.int p2, .int j2, .int h2]))] rfl ?_
  refine Z.of (pc' := 17) (fun _ _ _ hl => lv_aload_n hx hb dX4_copyFrom_16 rfl (lv_at hl 0 rfl)) ?_
  refine Z.of (pc' := 18) (fun _ _ _ hl => lv_aload_n hx hb dX4_copyFrom_17 rfl (lv_at hl 1 rfl)) ?_
  refine z_get C iX4 1 2 k15 rfl rfl (by decide) rfl rfl dX4_copyFrom_18 rfl ?_
  refine z_put C iX4 tyX4_ok nmX4 0 2 k15 rfl rfl (by decide) rfl rfl rfl rfl (Nat.le_of_ble_eq_true rfl) dX4_copyFrom_21 rfl [(a, .inr (4, [.int p2, .int j2, .int h2])), (o, .inr (4, [.int p2, .int j2, .int h2]))] rfl ?_
  exact E () _ _ _ dX4_copyFrom_24  rfl rfl
def f_X4_isHigh (p : Int32) (j : Int32) (h : Int32) : Int32 :=
  if (p / 2) ≤ h then
    0
  else
    1
abbrev rm_X4_isHigh : Room := { frames := 0, cells := 0, slots := 0, locals := 0 }
set_option maxHeartbeats 4000000 in
set_option maxRecDepth 100000 in
theorem c_X4_isHigh (l : Launch) (T : zT) (a : Nat) (p : Int32) (j : Int32) (h : Int32) : Ci l yX4_isHigh wsX4_isHigh rm_X4_isHigh T .boolean [.ref a] [(a, .inr (4, [.int p, .int j, .int h]))] (S := Int32) (f_X4_isHigh p j h) (fun u => u) (fun u => [(a, .inr (4, [.int p, .int j, .int h]))]) := by
  refine z_metI (own := RX4) (maxL := 1) rfl (by decide) rfl (Nat.le_of_ble_eq_true rfl) ?_
  intro P0 E0 S0 M0 G0 B0 T0 K0 A Q C E
  have hx := C.1.1
  have hb := C.1.2.1
  have hown := C.1.2.2.2.1
  have hts := C.1.2.2.2.2
  have hn := C.2.1.2
  have iX4 : ∀ w ∈ u_ws RX4 TX4 3, w ∈ wsX4_isHigh := by decide +kernel
  have k15 := hts (.fieldLink RX4 15 "JudgedBits$Ring" "phase" "I") (by decide +kernel)
  have k18 := hts (.fieldLink RX4 18 "JudgedBits$Ring" "period" "I") (by decide +kernel)
  change Z P0 l E0 rm_X4_isHigh S0 M0 G0 B0 T0 K0 1 T A Q 0 0 [(a, .inr (4, [.int p, .int j, .int h]))] 0 [(0, .ref a)] []
  refine Z.of (pc' := 1) (fun _ _ _ hl => lv_aload_n hx hb dX4_isHigh_0 rfl (lv_at hl 0 rfl)) ?_
  refine z_get C iX4 0 2 k15 rfl rfl (by decide) rfl rfl dX4_isHigh_1 rfl ?_
  refine Z.of (pc' := 5) (fun _ _ _ hl => lv_aload_n hx hb dX4_isHigh_4 rfl (lv_at hl 0 rfl)) ?_
  refine z_get C iX4 0 0 k18 rfl rfl (by decide) rfl rfl dX4_isHigh_5 rfl ?_
  refine Z.of (pc' := 9) (fun _ _ _ _ => lv_iconst (v := 2) hx hb dX4_isHigh_8 (by decide)) ?_
  refine Z.of (pc' := 10) (fun _ _ _ hl => lv_idiv hx hb dX4_isHigh_9 (by decide)) ?_
  refine Z.two (pt := 17) (pf := 13) (fun _ _ _ _ => lv_icmp_ge hx hb dX4_isHigh_10 (by decide)) (fun c1 => ?_) (fun c1 => ?_)
  · refine Z.of (pc' := 18) (fun _ _ _ _ => lv_iconst (v := 0) hx hb dX4_isHigh_17 (by decide)) ?_
    exact E 0 _ _ _ _ dX4_isHigh_18 rfl rfl rfl (by exact if_pos c1)
  · refine Z.of (pc' := 14) (fun _ _ _ _ => lv_iconst (v := 1) hx hb dX4_isHigh_13 (by decide)) ?_
    refine Z.of (pc' := 18) (fun _ _ _ _ => lv_goto hx hb dX4_isHigh_14 (by decide)) ?_
    exact E 1 _ _ _ _ dX4_isHigh_18 rfl rfl rfl (by exact if_neg c1)
def f_X4_advance (p : Int32) (j : Int32) (h : Int32) (step : Int32) (n : Int32) : Int32 :=
  let u1 := f_X9_remainder n (j + 1)
  let u2 := f_X9_remainder ((h + step) + u1) p
  u2
abbrev rm_X4_advance : Room := { frames := 1, cells := 0, slots := 0, locals := 21 }
set_option maxHeartbeats 4000000 in
set_option maxRecDepth 100000 in
theorem c_X4_advance (l : Launch) (T : zT) (a : Nat) (p : Int32) (j : Int32) (h : Int32) (step : Int32) (n : Int32) : Cv l yX4_advance wsX4_advance rm_X4_advance T [.ref a, .int step, .int n] [(a, .inr (4, [.int p, .int j, .int h]))] (S := Int32) (f_X4_advance p j h step n) (fun u => [(a, .inr (4, [.int p, .int j, .int u]))]) := by
  refine z_metV (own := RX4) (maxL := 3) rfl (by decide) rfl (Nat.le_of_ble_eq_true rfl) ?_
  intro P0 E0 S0 M0 G0 B0 T0 K0 A Q C E
  have hx := C.1.1
  have hb := C.1.2.1
  have hown := C.1.2.2.2.1
  have hts := C.1.2.2.2.2
  have hn := C.2.1.2
  have iX4 : ∀ w ∈ u_ws RX4 TX4 3, w ∈ wsX4_advance := by decide +kernel
  have k9 := hts (.fieldLink RX4 9 "JudgedBits$Ring" "jitter" "I") (by decide +kernel)
  have k15 := hts (.fieldLink RX4 15 "JudgedBits$Ring" "phase" "I") (by decide +kernel)
  have k18 := hts (.fieldLink RX4 18 "JudgedBits$Ring" "period" "I") (by decide +kernel)
  change Z P0 l E0 rm_X4_advance S0 M0 G0 B0 T0 K0 3 T A Q 0 0 [(a, .inr (4, [.int p, .int j, .int h]))] 0 [(0, .ref a), (1, .int step), (2, .int n)] []
  refine Z.of (pc' := 1) (fun _ _ _ hl => lv_aload_n hx hb dX4_advance_0 rfl (lv_at hl 0 rfl)) ?_
  refine Z.of (pc' := 2) (fun _ _ _ hl => lv_aload_n hx hb dX4_advance_1 rfl (lv_at hl 0 rfl)) ?_
  refine z_get C iX4 0 2 k15 rfl rfl (by decide) rfl rfl dX4_advance_2 rfl ?_
  refine Z.of (pc' := 6) (fun _ _ _ hl => lv_iload_n hx hb dX4_advance_5 rfl (lv_at hl 1 rfl)) ?_
  refine Z.of (pc' := 7) (fun _ _ _ hl => lv_iadd hx hb dX4_advance_6) ?_
  refine Z.of (pc' := 8) (fun _ _ _ hl => lv_iload_n hx hb dX4_advance_7 rfl (lv_at hl 2 rfl)) ?_
  refine Z.of (pc' := 9) (fun _ _ _ hl => lv_aload_n hx hb dX4_advance_8 rfl (lv_at hl 0 rfl)) ?_
  refine z_get C iX4 0 1 k9 rfl rfl (by decide) rfl rfl dX4_advance_9 rfl ?_
  refine Z.of (pc' := 13) (fun _ _ _ _ => lv_iconst (v := 1) hx hb dX4_advance_12 (by decide)) ?_
  refine Z.of (pc' := 14) (fun _ _ _ hl => lv_iadd hx hb dX4_advance_13) ?_
  refine z_callNi C (c_X9_remainder l T n (j + 1)) ⟨va_cnB 2 hts gX4_advance_X9_remainder_n21 rfl rfl rfl (hn.2.2.1) (hts (.initialized RX9) (by decide +kernel)) (by decide +kernel) ⟨Nat.le_of_ble_eq_true rfl, Nat.le_of_ble_eq_true rfl⟩, hts (.static yX9_remainder) (by decide +kernel), trivial⟩ (As := [.int n, .int (j + 1)]) (rest := [.int (h + step), .ref a]) rfl rfl (Nat.le_of_ble_eq_true rfl) dX4_advance_14 rfl ⟨Nat.zero_le _, Nat.zero_le _⟩ (fun u1 eu1 bu1 => ?_)
  refine Z.of (pc' := 18) (fun _ _ _ hl => lv_iadd hx hb dX4_advance_17) ?_
  refine Z.of (pc' := 19) (fun _ _ _ hl => lv_aload_n hx hb dX4_advance_18 rfl (lv_at hl 0 rfl)) ?_
  refine z_get C iX4 0 0 k18 rfl rfl (by decide) rfl rfl dX4_advance_19 rfl ?_
  refine z_callNi C (c_X9_remainder l T ((h + step) + u1) p) ⟨va_cnB 2 hts gX4_advance_X9_remainder_n21 rfl rfl rfl (hn.2.2.1) (hts (.initialized RX9) (by decide +kernel)) (by decide +kernel) ⟨Nat.le_of_ble_eq_true rfl, Nat.le_of_ble_eq_true rfl⟩, hts (.static yX9_remainder) (by decide +kernel), trivial⟩ (As := [.int ((h + step) + u1), .int p]) (rest := [.ref a]) rfl rfl (Nat.le_of_ble_eq_true rfl) dX4_advance_22 rfl ⟨Nat.zero_le _, Nat.zero_le _⟩ (fun u2 eu2 bu2 => ?_)
  refine z_put C iX4 tyX4_ok nmX4 0 2 k15 rfl rfl (by decide) rfl rfl rfl rfl (Nat.le_of_ble_eq_true rfl) dX4_advance_25 rfl [(a, .inr (4, [.int p, .int j, .int u2]))] rfl ?_
  exact E u2 _ _ _ dX4_advance_28  rfl (by subst eu1; subst eu2; exact rfl)
def f_X4_lockOn (p : Int32) (j : Int32) (h : Int32) (p2 : Int32) (j2 : Int32) (h2 : Int32) : Int32 :=
  let u1 := f_X9_remainder h2 p
  u1
abbrev rm_X4_lockOn : Room := { frames := 1, cells := 0, slots := 0, locals := 21 }
set_option maxHeartbeats 4000000 in
set_option maxRecDepth 100000 in
theorem c_X4_lockOn (l : Launch) (T : zT) (a : Nat) (o : Nat) (p : Int32) (j : Int32) (h : Int32) (p2 : Int32) (j2 : Int32) (h2 : Int32) : Cv l yX4_lockOn wsX4_lockOn rm_X4_lockOn T [.ref a, .ref o] [(a, .inr (4, [.int p, .int j, .int h])), (o, .inr (4, [.int p2, .int j2, .int h2]))] (S := Int32) (f_X4_lockOn p j h p2 j2 h2) (fun u => [(a, .inr (4, [.int p, .int j, .int u])), (o, .inr (4, [.int p2, .int j2, .int h2]))]) := by
  refine z_metV (own := RX4) (maxL := 2) rfl (by decide) rfl (Nat.le_of_ble_eq_true rfl) ?_
  intro P0 E0 S0 M0 G0 B0 T0 K0 A Q C E
  have hx := C.1.1
  have hb := C.1.2.1
  have hown := C.1.2.2.2.1
  have hts := C.1.2.2.2.2
  have hn := C.2.1.2
  have iX4 : ∀ w ∈ u_ws RX4 TX4 3, w ∈ wsX4_lockOn := by decide +kernel
  have k15 := hts (.fieldLink RX4 15 "JudgedBits$Ring" "phase" "I") (by decide +kernel)
  have k18 := hts (.fieldLink RX4 18 "JudgedBits$Ring" "period" "I") (by decide +kernel)
  change Z P0 l E0 rm_X4_lockOn S0 M0 G0 B0 T0 K0 2 T A Q 0 0 [(a, .inr (4, [.int p, .int j, .int h])), (o, .inr (4, [.int p2, .int j2, .int h2]))] 0 [(0, .ref a), (1, .ref o)] []
  refine Z.of (pc' := 1) (fun _ _ _ hl => lv_aload_n hx hb dX4_lockOn_0 rfl (lv_at hl 0 rfl)) ?_
  refine Z.of (pc' := 2) (fun _ _ _ hl => lv_aload_n hx hb dX4_lockOn_1 rfl (lv_at hl 1 rfl)) ?_
  refine z_get C iX4 1 2 k15 rfl rfl (by decide) rfl rfl dX4_lockOn_2 rfl ?_
  refine Z.of (pc' := 6) (fun _ _ _ hl => lv_aload_n hx hb dX4_lockOn_5 rfl (lv_at hl 0 rfl)) ?_
  refine z_get C iX4 0 0 k18 rfl rfl (by decide) rfl rfl dX4_lockOn_6 rfl ?_
  refine z_callNi C (c_X9_remainder l T h2 p) ⟨va_cnB 2 hts gX4_lockOn_X9_remainder_n21 rfl rfl rfl (hn.2.2.1) (hts (.initialized RX9) (by decide +kernel)) (by decide +kernel) ⟨Nat.le_of_ble_eq_true rfl, Nat.le_of_ble_eq_true rfl⟩, hts (.static yX9_remainder) (by decide +kernel), trivial⟩ (As := [.int h2, .int p]) (rest := [.ref a]) rfl rfl (Nat.le_of_ble_eq_true rfl) dX4_lockOn_9 rfl ⟨Nat.zero_le _, Nat.zero_le _⟩ (fun u1 eu1 bu1 => ?_)
  refine z_put C iX4 tyX4_ok nmX4 0 2 k15 rfl rfl (by decide) rfl rfl rfl rfl (Nat.le_of_ble_eq_true rfl) dX4_lockOn_12 rfl [(a, .inr (4, [.int p, .int j, .int u1])), (o, .inr (4, [.int p2, .int j2, .int h2]))] rfl ?_
  exact E u1 _ _ _ dX4_lockOn_15  rfl (by subst eu1; exact rfl)
def f_X4_tell (p : Int32) (j : Int32) (h : Int32) (what : Int32) : Int32 :=
  if what = 0 then
    p
  else
    if what = 1 then
      j
    else
      if what = 2 then
        h
      else
        if what = 3 then
          let u5 := f_X4_isHigh p j h
          if u5 = 0 then
            0
          else
            1
        else
          (-1000001)
abbrev rm_X4_tell : Room := { frames := 1, cells := 0, slots := 0, locals := 20 }
set_option maxHeartbeats 4000000 in
set_option maxRecDepth 100000 in
theorem c_X4_tell (l : Launch) (T : zT) (a : Nat) (p : Int32) (j : Int32) (h : Int32) (what : Int32) : Ci l yX4_tell wsX4_tell rm_X4_tell T .int [.ref a, .int what] [(a, .inr (4, [.int p, .int j, .int h]))] (S := Int32) (f_X4_tell p j h what) (fun u => u) (fun u => [(a, .inr (4, [.int p, .int j, .int h]))]) := by
  refine z_metI (own := RX4) (maxL := 2) rfl (by decide) rfl (Nat.le_of_ble_eq_true rfl) ?_
  intro P0 E0 S0 M0 G0 B0 T0 K0 A Q C E
  have hx := C.1.1
  have hb := C.1.2.1
  have hown := C.1.2.2.2.1
  have hts := C.1.2.2.2.2
  have hn := C.2.1.2
  have iX4 : ∀ w ∈ u_ws RX4 TX4 3, w ∈ wsX4_tell := by decide +kernel
  have k9 := hts (.fieldLink RX4 9 "JudgedBits$Ring" "jitter" "I") (by decide +kernel)
  have k15 := hts (.fieldLink RX4 15 "JudgedBits$Ring" "phase" "I") (by decide +kernel)
  have k18 := hts (.fieldLink RX4 18 "JudgedBits$Ring" "period" "I") (by decide +kernel)
  change Z P0 l E0 rm_X4_tell S0 M0 G0 B0 T0 K0 2 T A Q 0 0 [(a, .inr (4, [.int p, .int j, .int h]))] 0 [(0, .ref a), (1, .int what)] []
  refine Z.of (pc' := 1) (fun _ _ _ hl => lv_iload_n hx hb dX4_tell_0 rfl (lv_at hl 1 rfl)) ?_
  by_cases c1 : what = 0
  · refine Z.of (pc' := 32) (fun _ _ _ _ => lv_tableIn (off := 31) hx hb dX4_tell_1 (by rw [c1]; decide) (by rw [c1]; decide) (by rw [c1]; rfl) (by decide)) ?_
    refine Z.of (pc' := 33) (fun _ _ _ hl => lv_aload_n hx hb dX4_tell_32 rfl (lv_at hl 0 rfl)) ?_
    refine z_get C iX4 0 0 k18 rfl rfl (by decide) rfl rfl dX4_tell_33 rfl ?_
    exact E p _ _ _ _ dX4_tell_36 rfl rfl rfl (by exact if_pos c1)
  · by_cases c2 : what = 1
    · refine Z.of (pc' := 37) (fun _ _ _ _ => lv_tableIn (off := 36) hx hb dX4_tell_1 (by rw [c2]; decide) (by rw [c2]; decide) (by rw [c2]; rfl) (by decide)) ?_
      refine Z.of (pc' := 38) (fun _ _ _ hl => lv_aload_n hx hb dX4_tell_37 rfl (lv_at hl 0 rfl)) ?_
      refine z_get C iX4 0 1 k9 rfl rfl (by decide) rfl rfl dX4_tell_38 rfl ?_
      exact E j _ _ _ _ dX4_tell_41 rfl rfl rfl (by exact (if_neg c1).trans (if_pos c2))
    · by_cases c3 : what = 2
      · refine Z.of (pc' := 42) (fun _ _ _ _ => lv_tableIn (off := 41) hx hb dX4_tell_1 (by rw [c3]; decide) (by rw [c3]; decide) (by rw [c3]; rfl) (by decide)) ?_
        refine Z.of (pc' := 43) (fun _ _ _ hl => lv_aload_n hx hb dX4_tell_42 rfl (lv_at hl 0 rfl)) ?_
        refine z_get C iX4 0 2 k15 rfl rfl (by decide) rfl rfl dX4_tell_43 rfl ?_
        exact E h _ _ _ _ dX4_tell_46 rfl rfl rfl (by exact (if_neg c1).trans ((if_neg c2).trans (if_pos c3)))
      · by_cases c4 : what = 3
        · refine Z.of (pc' := 47) (fun _ _ _ _ => lv_tableIn (off := 46) hx hb dX4_tell_1 (by rw [c4]; decide) (by rw [c4]; decide) (by rw [c4]; rfl) (by decide)) ?_
          refine Z.of (pc' := 48) (fun _ _ _ hl => lv_aload_n hx hb dX4_tell_47 rfl (lv_at hl 0 rfl)) ?_
          refine z_callVi C (c_X4_isHigh l T a p j h) [0] rfl (by decide) (fun u5 => [(a, .inr (4, [.int p, .int j, .int h]))]) (fun _ => rfl) (fun _ => rfl) (fun _ => rfl) (cwV 0 hts gX4_tell_X4_isHigh rfl rfl rfl (by decide +kernel) ⟨Nat.le_of_ble_eq_true rfl, Nat.le_of_ble_eq_true rfl⟩) 0 rfl rfl rfl (As := []) (rest := []) rfl rfl (Nat.le_of_ble_eq_true rfl) dX4_tell_48 rfl ⟨Nat.zero_le _, Nat.zero_le _⟩ (fun u5 eu5 bu5 => ?_)
          refine Z.two (pt := 58) (pf := 54) (fun _ _ _ _ => lv_if_eq hx hb dX4_tell_51 (by decide)) (fun c6 => ?_) (fun c6 => ?_)
          · refine Z.of (pc' := 59) (fun _ _ _ _ => lv_iconst (v := 0) hx hb dX4_tell_58 (by decide)) ?_
            exact E 0 _ _ _ _ dX4_tell_59 rfl rfl rfl (by subst eu5; exact (if_neg c1).trans ((if_neg c2).trans ((if_neg c3).trans ((if_pos c4).trans (if_pos c6)))))
          · refine Z.of (pc' := 55) (fun _ _ _ _ => lv_iconst (v := 1) hx hb dX4_tell_54 (by decide)) ?_
            refine Z.of (pc' := 59) (fun _ _ _ _ => lv_goto hx hb dX4_tell_55 (by decide)) ?_
            exact E 1 _ _ _ _ dX4_tell_59 rfl rfl rfl (by subst eu5; exact (if_neg c1).trans ((if_neg c2).trans ((if_neg c3).trans ((if_pos c4).trans (if_neg c6)))))
        · refine Z.of (pc' := 60) (fun _ _ _ _ => lv_tableOut hx hb dX4_tell_1 (zsw_out (n := 3) (by decide) (fun k hk => by match k, hk with | 0, _ => exact c1 | 1, _ => exact c2 | 2, _ => exact c3 | 3, _ => exact c4 | k + 4, h => omega)) (by decide)) ?_
          refine Z.of (pc' := 62) (fun _ _ _ _ => lv_ldc hx hb hown (hts (.constant RX4 29 (-1000001)) (by decide +kernel)) dX4_tell_60) ?_
          exact E (-1000001) _ _ _ _ dX4_tell_62 rfl rfl rfl (by exact (if_neg c1).trans ((if_neg c2).trans ((if_neg c3).trans (if_neg c4))))
abbrev rm_X5_copyFrom : Room := { frames := 0, cells := 0, slots := 0, locals := 0 }
set_option maxHeartbeats 4000000 in
set_option maxRecDepth 100000 in
theorem c_X5_copyFrom (l : Launch) (T : zT) (a : Nat) (o : Nat) (s0 : Int32) (s1 : Int32) (s2 : Int32) (s3 : Int32) (t0 : Int32) (t1 : Int32) (t2 : Int32) (t3 : Int32) : Cv l yX5_copyFrom wsX5_copyFrom rm_X5_copyFrom T [.ref a, .ref o] [(a, .inr (5, [.int s0, .int s1, .int s2, .int s3])), (o, .inr (5, [.int t0, .int t1, .int t2, .int t3]))] (S := Unit) () (fun u => [(a, .inr (5, [.int t0, .int t1, .int t2, .int t3])), (o, .inr (5, [.int t0, .int t1, .int t2, .int t3]))]) := by
  refine z_metV (own := RX5) (maxL := 2) rfl (by decide) rfl (Nat.le_of_ble_eq_true rfl) ?_
  intro P0 E0 S0 M0 G0 B0 T0 K0 A Q C E
  have hx := C.1.1
  have hb := C.1.2.1
  have hown := C.1.2.2.2.1
  have hts := C.1.2.2.2.2
  have hn := C.2.1.2
  have iX5 : ∀ w ∈ u_ws RX5 TX5 4, w ∈ wsX5_copyFrom := by decide +kernel
  have k9 := hts (.fieldLink RX5 9 "JudgedBits$Settings" "step" "I") (by decide +kernel)
  have k15 := hts (.fieldLink RX5 15 "JudgedBits$Settings" "lock" "I") (by decide +kernel)
  have k18 := hts (.fieldLink RX5 18 "JudgedBits$Settings" "longestRun" "I") (by decide +kernel)
  have k21 := hts (.fieldLink RX5 21 "JudgedBits$Settings" "leastOnes" "I") (by decide +kernel)
  change Z P0 l E0 rm_X5_copyFrom S0 M0 G0 B0 T0 K0 2 T A Q 0 0 [(a, .inr (5, [.int s0, .int s1, .int s2, .int s3])), (o, .inr (5, [.int t0, .int t1, .int t2, .int t3]))] 0 [(0, .ref a), (1, .ref o)] []
  refine Z.of (pc' := 1) (fun _ _ _ hl => lv_aload_n hx hb dX5_copyFrom_0 rfl (lv_at hl 0 rfl)) ?_
  refine Z.of (pc' := 2) (fun _ _ _ hl => lv_aload_n hx hb dX5_copyFrom_1 rfl (lv_at hl 1 rfl)) ?_
  refine z_get C iX5 1 0 k9 rfl rfl (by decide) rfl rfl dX5_copyFrom_2 rfl ?_
  refine z_put C iX5 tyX5_ok nmX5 0 0 k9 rfl rfl (by decide) rfl rfl rfl rfl (Nat.le_of_ble_eq_true rfl) dX5_copyFrom_5 rfl [(a, .inr (5, [.int t0, .int s1, .int s2, .int s3])), (o, .inr (5, [.int t0, .int t1, .int t2, .int t3]))] rfl ?_
  refine Z.of (pc' := 9) (fun _ _ _ hl => lv_aload_n hx hb dX5_copyFrom_8 rfl (lv_at hl 0 rfl)) ?_
  refine Z.of (pc' := 10) (fun _ _ _ hl => lv_aload_n hx hb dX5_copyFrom_9 rfl (lv_at hl 1 rfl)) ?_
  refine z_get C iX5 1 1 k15 rfl rfl (by decide) rfl rfl dX5_copyFrom_10 rfl ?_
  refine z_put C iX5 tyX5_ok nmX5 0 1 k15 rfl rfl (by decide) rfl rfl rfl rfl (Nat.le_of_ble_eq_true rfl) dX5_copyFrom_13 rfl [(a, .inr (5, [.int t0, .int t1, .int s2, .int s3])), (o, .inr (5, [.int t0, .int t1, .int t2, .int t3]))] rfl ?_
  refine Z.of (pc' := 17) (fun _ _ _ hl => lv_aload_n hx hb dX5_copyFrom_16 rfl (lv_at hl 0 rfl)) ?_
  refine Z.of (pc' := 18) (fun _ _ _ hl => lv_aload_n hx hb dX5_copyFrom_17 rfl (lv_at hl 1 rfl)) ?_
  refine z_get C iX5 1 2 k18 rfl rfl (by decide) rfl rfl dX5_copyFrom_18 rfl ?_
  refine z_put C iX5 tyX5_ok nmX5 0 2 k18 rfl rfl (by decide) rfl rfl rfl rfl (Nat.le_of_ble_eq_true rfl) dX5_copyFrom_21 rfl [(a, .inr (5, [.int t0, .int t1, .int t2, .int s3])), (o, .inr (5, [.int t0, .int t1, .int t2, .int t3]))] rfl ?_
  refine Z.of (pc' := 25) (fun _ _ _ hl => lv_aload_n hx hb dX5_copyFrom_24 rfl (lv_at hl 0 rfl)) ?_
  refine Z.of (pc' := 26) (fun _ _ _ hl => lv_aload_n hx hb dX5_copyFrom_25 rfl (lv_at hl 1 rfl)) ?_
  refine z_get C iX5 1 3 k21 rfl rfl (by decide) rfl rfl dX5_copyFrom_26 rfl ?_
  refine z_put C iX5 tyX5_ok nmX5 0 3 k21 rfl rfl (by decide) rfl rfl rfl rfl (Nat.le_of_ble_eq_true rfl) dX5_copyFrom_29 rfl [(a, .inr (5, [.int t0, .int t1, .int t2, .int t3])), (o, .inr (5, [.int t0, .int t1, .int t2, .int t3]))] rfl ?_
  exact E () _ _ _ dX5_copyFrom_32  rfl rfl
def f_X5_tell (s0 : Int32) (s1 : Int32) (s2 : Int32) (s3 : Int32) (what : Int32) : Int32 :=
  if what = 0 then
    s0
  else
    if what = 1 then
      s1
    else
      if what = 2 then
        s2
      else
        if what = 3 then
          s3
        else
          (-1000001)
abbrev rm_X5_tell : Room := { frames := 0, cells := 0, slots := 0, locals := 0 }
set_option maxHeartbeats 4000000 in
set_option maxRecDepth 100000 in
theorem c_X5_tell (l : Launch) (T : zT) (a : Nat) (s0 : Int32) (s1 : Int32) (s2 : Int32) (s3 : Int32) (what : Int32) : Ci l yX5_tell wsX5_tell rm_X5_tell T .int [.ref a, .int what] [(a, .inr (5, [.int s0, .int s1, .int s2, .int s3]))] (S := Int32) (f_X5_tell s0 s1 s2 s3 what) (fun u => u) (fun u => [(a, .inr (5, [.int s0, .int s1, .int s2, .int s3]))]) := by
  refine z_metI (own := RX5) (maxL := 2) rfl (by decide) rfl (Nat.le_of_ble_eq_true rfl) ?_
  intro P0 E0 S0 M0 G0 B0 T0 K0 A Q C E
  have hx := C.1.1
  have hb := C.1.2.1
  have hown := C.1.2.2.2.1
  have hts := C.1.2.2.2.2
  have hn := C.2.1.2
  have iX5 : ∀ w ∈ u_ws RX5 TX5 4, w ∈ wsX5_tell := by decide +kernel
  have k9 := hts (.fieldLink RX5 9 "JudgedBits$Settings" "step" "I") (by decide +kernel)
  have k15 := hts (.fieldLink RX5 15 "JudgedBits$Settings" "lock" "I") (by decide +kernel)
  have k18 := hts (.fieldLink RX5 18 "JudgedBits$Settings" "longestRun" "I") (by decide +kernel)
  have k21 := hts (.fieldLink RX5 21 "JudgedBits$Settings" "leastOnes" "I") (by decide +kernel)
  change Z P0 l E0 rm_X5_tell S0 M0 G0 B0 T0 K0 2 T A Q 0 0 [(a, .inr (5, [.int s0, .int s1, .int s2, .int s3]))] 0 [(0, .ref a), (1, .int what)] []
  refine Z.of (pc' := 1) (fun _ _ _ hl => lv_iload_n hx hb dX5_tell_0 rfl (lv_at hl 1 rfl)) ?_
  by_cases c1 : what = 0
  · refine Z.of (pc' := 32) (fun _ _ _ _ => lv_tableIn (off := 31) hx hb dX5_tell_1 (by rw [c1]; decide) (by rw [c1]; decide) (by rw [c1]; rfl) (by decide)) ?_
    refine Z.of (pc' := 33) (fun _ _ _ hl => lv_aload_n hx hb dX5_tell_32 rfl (lv_at hl 0 rfl)) ?_
    refine z_get C iX5 0 0 k9 rfl rfl (by decide) rfl rfl dX5_tell_33 rfl ?_
    exact E s0 _ _ _ _ dX5_tell_36 rfl rfl rfl (by exact if_pos c1)
  · by_cases c2 : what = 1
    · refine Z.of (pc' := 37) (fun _ _ _ _ => lv_tableIn (off := 36) hx hb dX5_tell_1 (by rw [c2]; decide) (by rw [c2]; decide) (by rw [c2]; rfl) (by decide)) ?_
      refine Z.of (pc' := 38) (fun _ _ _ hl => lv_aload_n hx hb dX5_tell_37 rfl (lv_at hl 0 rfl)) ?_
      refine z_get C iX5 0 1 k15 rfl rfl (by decide) rfl rfl dX5_tell_38 rfl ?_
      exact E s1 _ _ _ _ dX5_tell_41 rfl rfl rfl (by exact (if_neg c1).trans (if_pos c2))
    · by_cases c3 : what = 2
      · refine Z.of (pc' := 42) (fun _ _ _ _ => lv_tableIn (off := 41) hx hb dX5_tell_1 (by rw [c3]; decide) (by rw [c3]; decide) (by rw [c3]; rfl) (by decide)) ?_
        refine Z.of (pc' := 43) (fun _ _ _ hl => lv_aload_n hx hb dX5_tell_42 rfl (lv_at hl 0 rfl)) ?_
        refine z_get C iX5 0 2 k18 rfl rfl (by decide) rfl rfl dX5_tell_43 rfl ?_
        exact E s2 _ _ _ _ dX5_tell_46 rfl rfl rfl (by exact (if_neg c1).trans ((if_neg c2).trans (if_pos c3)))
      · by_cases c4 : what = 3
        · refine Z.of (pc' := 47) (fun _ _ _ _ => lv_tableIn (off := 46) hx hb dX5_tell_1 (by rw [c4]; decide) (by rw [c4]; decide) (by rw [c4]; rfl) (by decide)) ?_
          refine Z.of (pc' := 48) (fun _ _ _ hl => lv_aload_n hx hb dX5_tell_47 rfl (lv_at hl 0 rfl)) ?_
          refine z_get C iX5 0 3 k21 rfl rfl (by decide) rfl rfl dX5_tell_48 rfl ?_
          exact E s3 _ _ _ _ dX5_tell_51 rfl rfl rfl (by exact (if_neg c1).trans ((if_neg c2).trans ((if_neg c3).trans (if_pos c4))))
        · refine Z.of (pc' := 52) (fun _ _ _ _ => lv_tableOut hx hb dX5_tell_1 (zsw_out (n := 3) (by decide) (fun k hk => by match k, hk with | 0, _ => exact c1 | 1, _ => exact c2 | 2, _ => exact c3 | 3, _ => exact c4 | k + 4, h => omega)) (by decide)) ?_
          refine Z.of (pc' := 54) (fun _ _ _ _ => lv_ldc hx hb hown (hts (.constant RX5 24 (-1000001)) (by decide +kernel)) dX5_tell_52) ?_
          exact E (-1000001) _ _ _ _ dX5_tell_54 rfl rfl rfl (by exact (if_neg c1).trans ((if_neg c2).trans ((if_neg c3).trans (if_neg c4))))
def f_X5_isAllowed (what : Int32) (value : Int32) : Int32 :=
  if what = 0 then
    let u5 := f_X9_isWithin value 1 500
    u5
  else
    if what = 1 then
      let u6 := f_X9_isWithin value 0 50
      u6
    else
      if what = 2 then
        let u7 := f_X9_isWithin value 2 40
        u7
      else
        if what = 3 then
          let u8 := f_X9_isWithin value 0 16
          u8
        else
          0
abbrev rm_X5_isAllowed : Room := { frames := 1, cells := 0, slots := 0, locals := 22 }
set_option maxHeartbeats 4000000 in
set_option maxRecDepth 100000 in
theorem c_X5_isAllowed (l : Launch) (T : zT) (what : Int32) (value : Int32) : Ci l yX5_isAllowed wsX5_isAllowed rm_X5_isAllowed T .boolean [.int what, .int value] [] (S := Int32) (f_X5_isAllowed what value) (fun u => u) (fun u => []) := by
  refine z_metI (own := RX5) (maxL := 2) rfl (by decide) rfl (Nat.le_of_ble_eq_true rfl) ?_
  intro P0 E0 S0 M0 G0 B0 T0 K0 A Q C E
  have hx := C.1.1
  have hb := C.1.2.1
  have hown := C.1.2.2.2.1
  have hts := C.1.2.2.2.2
  have hn := C.2.1.2
  change Z P0 l E0 rm_X5_isAllowed S0 M0 G0 B0 T0 K0 2 T A Q 0 0 [] 0 [(0, .int what), (1, .int value)] []
  refine Z.of (pc' := 1) (fun _ _ _ hl => lv_iload_n hx hb dX5_isAllowed_0 rfl (lv_at hl 0 rfl)) ?_
  by_cases c1 : what = 0
  · refine Z.of (pc' := 32) (fun _ _ _ _ => lv_tableIn (off := 31) hx hb dX5_isAllowed_1 (by rw [c1]; decide) (by rw [c1]; decide) (by rw [c1]; rfl) (by decide)) ?_
    refine Z.of (pc' := 33) (fun _ _ _ hl => lv_iload_n hx hb dX5_isAllowed_32 rfl (lv_at hl 1 rfl)) ?_
    refine Z.of (pc' := 34) (fun _ _ _ _ => lv_iconst (v := 1) hx hb dX5_isAllowed_33 (by decide)) ?_
    refine Z.of (pc' := 37) (fun _ _ _ _ => lv_sipush (v := 500) hx hb dX5_isAllowed_34 (by decide)) ?_
    refine z_callNi C (c_X9_isWithin l T value 1 500) ⟨va_cnB 3 hts gX5_isAllowed_X9_isWithin_n33 rfl rfl rfl (hn.2.2.2.1) (hts (.initialized RX9) (by decide +kernel)) (by decide +kernel) ⟨Nat.le_of_ble_eq_true rfl, Nat.le_of_ble_eq_true rfl⟩, hts (.static yX9_isWithin) (by decide +kernel), trivial⟩ (As := [.int value, .int 1, .int 500]) (rest := []) rfl rfl (Nat.le_of_ble_eq_true rfl) dX5_isAllowed_37 rfl ⟨Nat.zero_le _, Nat.zero_le _⟩ (fun u5 eu5 bu5 => ?_)
    exact E u5 _ _ _ _ dX5_isAllowed_40 bu5 rfl rfl (by subst eu5; exact if_pos c1)
  · by_cases c2 : what = 1
    · refine Z.of (pc' := 41) (fun _ _ _ _ => lv_tableIn (off := 40) hx hb dX5_isAllowed_1 (by rw [c2]; decide) (by rw [c2]; decide) (by rw [c2]; rfl) (by decide)) ?_
      refine Z.of (pc' := 42) (fun _ _ _ hl => lv_iload_n hx hb dX5_isAllowed_41 rfl (lv_at hl 1 rfl)) ?_
      refine Z.of (pc' := 43) (fun _ _ _ _ => lv_iconst (v := 0) hx hb dX5_isAllowed_42 (by decide)) ?_
      refine Z.of (pc' := 45) (fun _ _ _ _ => lv_bipush (v := 50) hx hb dX5_isAllowed_43 (by decide)) ?_
      refine z_callNi C (c_X9_isWithin l T value 0 50) ⟨va_cnB 3 hts gX5_isAllowed_X9_isWithin_n33 rfl rfl rfl (hn.2.2.2.1) (hts (.initialized RX9) (by decide +kernel)) (by decide +kernel) ⟨Nat.le_of_ble_eq_true rfl, Nat.le_of_ble_eq_true rfl⟩, hts (.static yX9_isWithin) (by decide +kernel), trivial⟩ (As := [.int value, .int 0, .int 50]) (rest := []) rfl rfl (Nat.le_of_ble_eq_true rfl) dX5_isAllowed_45 rfl ⟨Nat.zero_le _, Nat.zero_le _⟩ (fun u6 eu6 bu6 => ?_)
      exact E u6 _ _ _ _ dX5_isAllowed_48 bu6 rfl rfl (by subst eu6; exact (if_neg c1).trans (if_pos c2))
    · by_cases c3 : what = 2
      · refine Z.of (pc' := 49) (fun _ _ _ _ => lv_tableIn (off := 48) hx hb dX5_isAllowed_1 (by rw [c3]; decide) (by rw [c3]; decide) (by rw [c3]; rfl) (by decide)) ?_
        refine Z.of (pc' := 50) (fun _ _ _ hl => lv_iload_n hx hb dX5_isAllowed_49 rfl (lv_at hl 1 rfl)) ?_
        refine Z.of (pc' := 51) (fun _ _ _ _ => lv_iconst (v := 2) hx hb dX5_isAllowed_50 (by decide)) ?_
        refine Z.of (pc' := 53) (fun _ _ _ _ => lv_bipush (v := 40) hx hb dX5_isAllowed_51 (by decide)) ?_
        refine z_callNi C (c_X9_isWithin l T value 2 40) ⟨va_cnB 3 hts gX5_isAllowed_X9_isWithin_n33 rfl rfl rfl (hn.2.2.2.1) (hts (.initialized RX9) (by decide +kernel)) (by decide +kernel) ⟨Nat.le_of_ble_eq_true rfl, Nat.le_of_ble_eq_true rfl⟩, hts (.static yX9_isWithin) (by decide +kernel), trivial⟩ (As := [.int value, .int 2, .int 40]) (rest := []) rfl rfl (Nat.le_of_ble_eq_true rfl) dX5_isAllowed_53 rfl ⟨Nat.zero_le _, Nat.zero_le _⟩ (fun u7 eu7 bu7 => ?_)
        exact E u7 _ _ _ _ dX5_isAllowed_56 bu7 rfl rfl (by subst eu7; exact (if_neg c1).trans ((if_neg c2).trans (if_pos c3)))
      · by_cases c4 : what = 3
        · refine Z.of (pc' := 57) (fun _ _ _ _ => lv_tableIn (off := 56) hx hb dX5_isAllowed_1 (by rw [c4]; decide) (by rw [c4]; decide) (by rw [c4]; rfl) (by decide)) ?_
          refine Z.of (pc' := 58) (fun _ _ _ hl => lv_iload_n hx hb dX5_isAllowed_57 rfl (lv_at hl 1 rfl)) ?_
          refine Z.of (pc' := 59) (fun _ _ _ _ => lv_iconst (v := 0) hx hb dX5_isAllowed_58 (by decide)) ?_
          refine Z.of (pc' := 61) (fun _ _ _ _ => lv_bipush (v := 16) hx hb dX5_isAllowed_59 (by decide)) ?_
          refine z_callNi C (c_X9_isWithin l T value 0 16) ⟨va_cnB 3 hts gX5_isAllowed_X9_isWithin_n33 rfl rfl rfl (hn.2.2.2.1) (hts (.initialized RX9) (by decide +kernel)) (by decide +kernel) ⟨Nat.le_of_ble_eq_true rfl, Nat.le_of_ble_eq_true rfl⟩, hts (.static yX9_isWithin) (by decide +kernel), trivial⟩ (As := [.int value, .int 0, .int 16]) (rest := []) rfl rfl (Nat.le_of_ble_eq_true rfl) dX5_isAllowed_61 rfl ⟨Nat.zero_le _, Nat.zero_le _⟩ (fun u8 eu8 bu8 => ?_)
          exact E u8 _ _ _ _ dX5_isAllowed_64 bu8 rfl rfl (by subst eu8; exact (if_neg c1).trans ((if_neg c2).trans ((if_neg c3).trans (if_pos c4))))
        · refine Z.of (pc' := 65) (fun _ _ _ _ => lv_tableOut hx hb dX5_isAllowed_1 (zsw_out (n := 3) (by decide) (fun k hk => by match k, hk with | 0, _ => exact c1 | 1, _ => exact c2 | 2, _ => exact c3 | 3, _ => exact c4 | k + 4, h => omega)) (by decide)) ?_
          refine Z.of (pc' := 66) (fun _ _ _ _ => lv_iconst (v := 0) hx hb dX5_isAllowed_65 (by decide)) ?_
          exact E 0 _ _ _ _ dX5_isAllowed_66 rfl rfl rfl (by exact (if_neg c1).trans ((if_neg c2).trans ((if_neg c3).trans (if_neg c4))))
def f_X5_change (s0 : Int32) (s1 : Int32) (s2 : Int32) (s3 : Int32) (what : Int32) (value : Int32) : Int32 × Int32 × Int32 × Int32 × Int32 :=
  let u1 := f_X5_isAllowed what value
  if u1 = 0 then
    ((-1000001), s0, s1, s2, s3)
  else
    let u3 := f_X5_tell s0 s1 s2 s3 what
    let v7 : Int32 × Int32 × Int32 × Int32 := (
      if what = 0 then
        (value, s1, s2, s3)
      else
        if what = 1 then
          (s0, value, s2, s3)
        else
          if what = 2 then
            (s0, s1, value, s3)
          else
            (s0, s1, s2, value)
      )
    (u3, v7.1, v7.2.1, v7.2.2.1, v7.2.2.2)
abbrev rm_X5_change : Room := { frames := 2, cells := 0, slots := 0, locals := 43 }
set_option maxHeartbeats 4000000 in
set_option maxRecDepth 100000 in
theorem c_X5_change (l : Launch) (T : zT) (a : Nat) (s0 : Int32) (s1 : Int32) (s2 : Int32) (s3 : Int32) (what : Int32) (value : Int32) : Ci l yX5_change wsX5_change rm_X5_change T .int [.ref a, .int what, .int value] [(a, .inr (5, [.int s0, .int s1, .int s2, .int s3]))] (S := Int32 × Int32 × Int32 × Int32 × Int32) (f_X5_change s0 s1 s2 s3 what value) (fun u => u.1) (fun u => [(a, .inr (5, [.int u.2.1, .int u.2.2.1, .int u.2.2.2.1, .int u.2.2.2.2]))]) := by
  refine z_metI (own := RX5) (maxL := 4) rfl (by decide) rfl (Nat.le_of_ble_eq_true rfl) ?_
  intro P0 E0 S0 M0 G0 B0 T0 K0 A Q C E
  have hx := C.1.1
  have hb := C.1.2.1
  have hown := C.1.2.2.2.1
  have hts := C.1.2.2.2.2
  have hn := C.2.1.2
  have iX5 : ∀ w ∈ u_ws RX5 TX5 4, w ∈ wsX5_change := by decide +kernel
  have k9 := hts (.fieldLink RX5 9 "JudgedBits$Settings" "step" "I") (by decide +kernel)
  have k15 := hts (.fieldLink RX5 15 "JudgedBits$Settings" "lock" "I") (by decide +kernel)
  have k18 := hts (.fieldLink RX5 18 "JudgedBits$Settings" "longestRun" "I") (by decide +kernel)
  have k21 := hts (.fieldLink RX5 21 "JudgedBits$Settings" "leastOnes" "I") (by decide +kernel)
  change Z P0 l E0 rm_X5_change S0 M0 G0 B0 T0 K0 4 T A Q 0 0 [(a, .inr (5, [.int s0, .int s1, .int s2, .int s3]))] 0 [(0, .ref a), (1, .int what), (2, .int value)] []
  refine Z.of (pc' := 1) (fun _ _ _ hl => lv_iload_n hx hb dX5_change_0 rfl (lv_at hl 1 rfl)) ?_
  refine Z.of (pc' := 2) (fun _ _ _ hl => lv_iload_n hx hb dX5_change_1 rfl (lv_at hl 2 rfl)) ?_
  refine z_callSi C (c_X5_isAllowed l T what value) (cwS 2 hts gX5_change_X5_isAllowed rfl rfl rfl (by decide +kernel) ⟨Nat.le_of_ble_eq_true rfl, Nat.le_of_ble_eq_true rfl⟩) (As := [.int what, .int value]) (rest := []) rfl rfl (Nat.le_of_ble_eq_true rfl) dX5_change_2 rfl ⟨Nat.zero_le _, Nat.zero_le _⟩ (fun u1 eu1 bu1 => ?_)
  refine Z.two' (pt := 11) (pf := 8) (fun _ _ _ _ => lv_if_ne hx hb dX5_change_5 (by decide)) (fun c2 => ?_) (fun c2 => ?_)
  · refine Z.of (pc' := 12) (fun _ _ _ hl => lv_aload_n hx hb dX5_change_11 rfl (lv_at hl 0 rfl)) ?_
    refine Z.of (pc' := 13) (fun _ _ _ hl => lv_iload_n hx hb dX5_change_12 rfl (lv_at hl 1 rfl)) ?_
    refine z_callVi C (c_X5_tell l T a s0 s1 s2 s3 what) [0] rfl (by decide) (fun u3 => [(a, .inr (5, [.int s0, .int s1, .int s2, .int s3]))]) (fun _ => rfl) (fun _ => rfl) (fun _ => rfl) (cwV 1 hts gX5_change_X5_tell rfl rfl rfl (by decide +kernel) ⟨Nat.le_of_ble_eq_true rfl, Nat.le_of_ble_eq_true rfl⟩) 0 rfl rfl rfl (As := [.int what]) (rest := []) rfl rfl (Nat.le_of_ble_eq_true rfl) dX5_change_13 rfl ⟨Nat.zero_le _, Nat.zero_le _⟩ (fun u3 eu3 bu3 => ?_)
    refine Z.sto (pc' := 17) (lv' := [(3, .int u3), (0, .ref a), (1, .int what), (2, .int value)]) (fun _ _ _ hl => lv_istore_n (lv' := [(3, .int u3), (0, .ref a), (1, .int what), (2, .int value)]) hx hb dX5_change_16 rfl hl (by decide) rfl) ?_
    refine Z.of (pc' := 18) (fun _ _ _ hl => lv_iload_n hx hb dX5_change_17 rfl (lv_at hl 2 rfl)) ?_
    have J7 : ∀ v7 : Int32 × Int32 × Int32 × Int32, v7 = (
        if what = 0 then
          (value, s1, s2, s3)
        else
          if what = 1 then
            (s0, value, s2, s3)
          else
            if what = 2 then
              (s0, s1, value, s3)
            else
              (s0, s1, s2, value)
        ) → Z P0 l E0 rm_X5_change S0 M0 G0 B0 T0 K0 4 T A Q 0 0 [(a, .inr (5, [.int v7.1, .int v7.2.1, .int v7.2.2.1, .int v7.2.2.2]))] 73 [(3, .int u3)] [] := by
      intro v7 ev7
      refine Z.of (pc' := 74) (fun _ _ _ hl => lv_iload_n hx hb dX5_change_73 rfl (lv_at hl 0 rfl)) ?_
      exact E (u3, v7.1, v7.2.1, v7.2.2.1, v7.2.2.2) _ _ _ _ dX5_change_74 rfl rfl rfl (by subst eu1; subst eu3; subst ev7; exact if_neg c2)
    by_cases c4 : what = 0
    · refine Z.of (pc' := 44) (fun _ _ _ _ => lv_tableIn (off := 26) hx hb dX5_change_18 (by rw [c4]; decide) (by rw [c4]; decide) (by rw [c4]; rfl) (by decide)) ?_
      refine Z.of (pc' := 45) (fun _ _ _ hl => lv_aload_n hx hb dX5_change_44 rfl (lv_at hl 1 rfl)) ?_
      refine Z.of (pc' := 46) (fun _ _ _ hl => lv_iload_n hx hb dX5_change_45 rfl (lv_at hl 3 rfl)) ?_
      refine z_put C iX5 tyX5_ok nmX5 0 0 k9 rfl rfl (by decide) rfl rfl rfl rfl (Nat.le_of_ble_eq_true rfl) dX5_change_46 rfl [(a, .inr (5, [.int value, .int s1, .int s2, .int s3]))] rfl ?_
      refine Z.of (pc' := 73) (fun _ _ _ _ => lv_goto hx hb dX5_change_49 (by decide)) ?_
      exact Z.sub (ks := [0]) (lv' := [(3, .int u3)]) rfl (J7 (value, s1, s2, s3) (by exact Eq.symm (if_pos c4)))
    · by_cases c5 : what = 1
      · refine Z.of (pc' := 52) (fun _ _ _ _ => lv_tableIn (off := 34) hx hb dX5_change_18 (by rw [c5]; decide) (by rw [c5]; decide) (by rw [c5]; rfl) (by decide)) ?_
        refine Z.of (pc' := 53) (fun _ _ _ hl => lv_aload_n hx hb dX5_change_52 rfl (lv_at hl 1 rfl)) ?_
        refine Z.of (pc' := 54) (fun _ _ _ hl => lv_iload_n hx hb dX5_change_53 rfl (lv_at hl 3 rfl)) ?_
        refine z_put C iX5 tyX5_ok nmX5 0 1 k15 rfl rfl (by decide) rfl rfl rfl rfl (Nat.le_of_ble_eq_true rfl) dX5_change_54 rfl [(a, .inr (5, [.int s0, .int value, .int s2, .int s3]))] rfl ?_
        refine Z.of (pc' := 73) (fun _ _ _ _ => lv_goto hx hb dX5_change_57 (by decide)) ?_
        exact Z.sub (ks := [0]) (lv' := [(3, .int u3)]) rfl (J7 (s0, value, s2, s3) (by exact Eq.symm ((if_neg c4).trans (if_pos c5))))
      · by_cases c6 : what = 2
        · refine Z.of (pc' := 60) (fun _ _ _ _ => lv_tableIn (off := 42) hx hb dX5_change_18 (by rw [c6]; decide) (by rw [c6]; decide) (by rw [c6]; rfl) (by decide)) ?_
          refine Z.of (pc' := 61) (fun _ _ _ hl => lv_aload_n hx hb dX5_change_60 rfl (lv_at hl 1 rfl)) ?_
          refine Z.of (pc' := 62) (fun _ _ _ hl => lv_iload_n hx hb dX5_change_61 rfl (lv_at hl 3 rfl)) ?_
          refine z_put C iX5 tyX5_ok nmX5 0 2 k18 rfl rfl (by decide) rfl rfl rfl rfl (Nat.le_of_ble_eq_true rfl) dX5_change_62 rfl [(a, .inr (5, [.int s0, .int s1, .int value, .int s3]))] rfl ?_
          refine Z.of (pc' := 73) (fun _ _ _ _ => lv_goto hx hb dX5_change_65 (by decide)) ?_
          exact Z.sub (ks := [0]) (lv' := [(3, .int u3)]) rfl (J7 (s0, s1, value, s3) (by exact Eq.symm ((if_neg c4).trans ((if_neg c5).trans (if_pos c6)))))
        · refine Z.of (pc' := 68) (fun _ _ _ _ => lv_tableOut hx hb dX5_change_18 (zsw_out (n := 2) (by decide) (fun k hk => by match k, hk with | 0, _ => exact c4 | 1, _ => exact c5 | 2, _ => exact c6 | k + 3, h => omega)) (by decide)) ?_
          refine Z.of (pc' := 69) (fun _ _ _ hl => lv_aload_n hx hb dX5_change_68 rfl (lv_at hl 1 rfl)) ?_
          refine Z.of (pc' := 70) (fun _ _ _ hl => lv_iload_n hx hb dX5_change_69 rfl (lv_at hl 3 rfl)) ?_
          refine z_put C iX5 tyX5_ok nmX5 0 3 k21 rfl rfl (by decide) rfl rfl rfl rfl (Nat.le_of_ble_eq_true rfl) dX5_change_70 rfl [(a, .inr (5, [.int s0, .int s1, .int s2, .int value]))] rfl ?_
          exact Z.sub (ks := [0]) (lv' := [(3, .int u3)]) rfl (J7 (s0, s1, s2, value) (by exact Eq.symm ((if_neg c4).trans ((if_neg c5).trans (if_neg c6)))))
  · refine Z.of (pc' := 10) (fun _ _ _ _ => lv_ldc hx hb hown (hts (.constant RX5 24 (-1000001)) (by decide +kernel)) dX5_change_8) ?_
    exact E ((-1000001), s0, s1, s2, s3) _ _ _ _ dX5_change_10 rfl rfl rfl (by subst eu1; exact if_pos c2)
abbrev rm_X1_copyFrom : Room := { frames := 0, cells := 0, slots := 0, locals := 0 }
set_option maxHeartbeats 4000000 in
set_option maxRecDepth 100000 in
theorem c_X1_copyFrom (l : Launch) (T : zT) (a : Nat) (o : Nat) (h0 : Int32) (h1 : Int32) (h2 : Int32) (h3 : Int32) (h4 : Int32) (h5 : Int32) (h6 : Int32) (g0 : Int32) (g1 : Int32) (g2 : Int32) (g3 : Int32) (g4 : Int32) (g5 : Int32) (g6 : Int32) : Cv l yX1_copyFrom wsX1_copyFrom rm_X1_copyFrom T [.ref a, .ref o] [(a, .inr (1, [.int h0, .int h1, .int h2, .int h3, .int h4, .int h5, .int h6])), (o, .inr (1, [.int g0, .int g1, .int g2, .int g3, .int g4, .int g5, .int g6]))] (S := Unit) () (fun u => [(a, .inr (1, [.int g0, .int g1, .int g2, .int g3, .int g4, .int g5, .int g6])), (o, .inr (1, [.int g0, .int g1, .int g2, .int g3, .int g4, .int g5, .int g6]))]) := by
  refine z_metV (own := RX1) (maxL := 2) rfl (by decide) rfl (Nat.le_of_ble_eq_true rfl) ?_
  intro P0 E0 S0 M0 G0 B0 T0 K0 A Q C E
  have hx := C.1.1
  have hb := C.1.2.1
  have hown := C.1.2.2.2.1
  have hts := C.1.2.2.2.2
  have hn := C.2.1.2
  have iX1 : ∀ w ∈ u_ws RX1 TX1 7, w ∈ wsX1_copyFrom := by decide +kernel
  have k9 := hts (.fieldLink RX1 9 "JudgedBits$Health" "mode" "I") (by decide +kernel)
  have k13 := hts (.fieldLink RX1 13 "JudgedBits$Health" "failedTest" "I") (by decide +kernel)
  have k16 := hts (.fieldLink RX1 16 "JudgedBits$Health" "startUpBits" "I") (by decide +kernel)
  have k19 := hts (.fieldLink RX1 19 "JudgedBits$Health" "run" "I") (by decide +kernel)
  have k22 := hts (.fieldLink RX1 22 "JudgedBits$Health" "runBit" "I") (by decide +kernel)
  have k25 := hts (.fieldLink RX1 25 "JudgedBits$Health" "windowBits" "I") (by decide +kernel)
  have k28 := hts (.fieldLink RX1 28 "JudgedBits$Health" "windowOnes" "I") (by decide +kernel)
  change Z P0 l E0 rm_X1_copyFrom S0 M0 G0 B0 T0 K0 2 T A Q 0 0 [(a, .inr (1, [.int h0, .int h1, .int h2, .int h3, .int h4, .int h5, .int h6])), (o, .inr (1, [.int g0, .int g1, .int g2, .int g3, .int g4, .int g5, .int g6]))] 0 [(0, .ref a), (1, .ref o)] []
  refine Z.of (pc' := 1) (fun _ _ _ hl => lv_aload_n hx hb dX1_copyFrom_0 rfl (lv_at hl 0 rfl)) ?_
  refine Z.of (pc' := 2) (fun _ _ _ hl => lv_aload_n hx hb dX1_copyFrom_1 rfl (lv_at hl 1 rfl)) ?_
  refine z_get C iX1 1 0 k9 rfl rfl (by decide) rfl rfl dX1_copyFrom_2 rfl ?_
  refine z_put C iX1 tyX1_ok nmX1 0 0 k9 rfl rfl (by decide) rfl rfl rfl rfl (Nat.le_of_ble_eq_true rfl) dX1_copyFrom_5 rfl [(a, .inr (1, [.int g0, .int h1, .int h2, .int h3, .int h4, .int h5, .int h6])), (o, .inr (1, [.int g0, .int g1, .int g2, .int g3, .int g4, .int g5, .int g6]))] rfl ?_
  refine Z.of (pc' := 9) (fun _ _ _ hl => lv_aload_n hx hb dX1_copyFrom_8 rfl (lv_at hl 0 rfl)) ?_
  refine Z.of (pc' := 10) (fun _ _ _ hl => lv_aload_n hx hb dX1_copyFrom_9 rfl (lv_at hl 1 rfl)) ?_
  refine z_get C iX1 1 1 k13 rfl rfl (by decide) rfl rfl dX1_copyFrom_10 rfl ?_
  refine z_put C iX1 tyX1_ok nmX1 0 1 k13 rfl rfl (by decide) rfl rfl rfl rfl (Nat.le_of_ble_eq_true rfl) dX1_copyFrom_13 rfl [(a, .inr (1, [.int g0, .int g1, .int h2, .int h3, .int h4, .int h5, .int h6])), (o, .inr (1, [.int g0, .int g1, .int g2, .int g3, .int g4, .int g5, .int g6]))] rfl ?_
  refine Z.of (pc' := 17) (fun _ _ _ hl => lv_aload_n hx hb dX1_copyFrom_16 rfl (lv_at hl 0 rfl)) ?_
  refine Z.of (pc' := 18) (fun _ _ _ hl => lv_aload_n hx hb dX1_copyFrom_17 rfl (lv_at hl 1 rfl)) ?_
  refine z_get C iX1 1 2 k16 rfl rfl (by decide) rfl rfl dX1_copyFrom_18 rfl ?_
  refine z_put C iX1 tyX1_ok nmX1 0 2 k16 rfl rfl (by decide) rfl rfl rfl rfl (Nat.le_of_ble_eq_true rfl) dX1_copyFrom_21 rfl [(a, .inr (1, [.int g0, .int g1, .int g2, .int h3, .int h4, .int h5, .int h6])), (o, .inr (1, [.int g0, .int g1, .int g2, .int g3, .int g4, .int g5, .int g6]))] rfl ?_
  refine Z.of (pc' := 25) (fun _ _ _ hl => lv_aload_n hx hb dX1_copyFrom_24 rfl (lv_at hl 0 rfl)) ?_
  refine Z.of (pc' := 26) (fun _ _ _ hl => lv_aload_n hx hb dX1_copyFrom_25 rfl (lv_at hl 1 rfl)) ?_
  refine z_get C iX1 1 3 k19 rfl rfl (by decide) rfl rfl dX1_copyFrom_26 rfl ?_
  refine z_put C iX1 tyX1_ok nmX1 0 3 k19 rfl rfl (by decide) rfl rfl rfl rfl (Nat.le_of_ble_eq_true rfl) dX1_copyFrom_29 rfl [(a, .inr (1, [.int g0, .int g1, .int g2, .int g3, .int h4, .int h5, .int h6])), (o, .inr (1, [.int g0, .int g1, .int g2, .int g3, .int g4, .int g5, .int g6]))] rfl ?_
  refine Z.of (pc' := 33) (fun _ _ _ hl => lv_aload_n hx hb dX1_copyFrom_32 rfl (lv_at hl 0 rfl)) ?_
  refine Z.of (pc' := 34) (fun _ _ _ hl => lv_aload_n hx hb dX1_copyFrom_33 rfl (lv_at hl 1 rfl)) ?_
  refine z_get C iX1 1 4 k22 rfl rfl (by decide) rfl rfl dX1_copyFrom_34 rfl ?_
  refine z_put C iX1 tyX1_ok nmX1 0 4 k22 rfl rfl (by decide) rfl rfl rfl rfl (Nat.le_of_ble_eq_true rfl) dX1_copyFrom_37 rfl [(a, .inr (1, [.int g0, .int g1, .int g2, .int g3, .int g4, .int h5, .int h6])), (o, .inr (1, [.int g0, .int g1, .int g2, .int g3, .int g4, .int g5, .int g6]))] rfl ?_
  refine Z.of (pc' := 41) (fun _ _ _ hl => lv_aload_n hx hb dX1_copyFrom_40 rfl (lv_at hl 0 rfl)) ?_
  refine Z.of (pc' := 42) (fun _ _ _ hl => lv_aload_n hx hb dX1_copyFrom_41 rfl (lv_at hl 1 rfl)) ?_
  refine z_get C iX1 1 5 k25 rfl rfl (by decide) rfl rfl dX1_copyFrom_42 rfl ?_
  refine z_put C iX1 tyX1_ok nmX1 0 5 k25 rfl rfl (by decide) rfl rfl rfl rfl (Nat.le_of_ble_eq_true rfl) dX1_copyFrom_45 rfl [(a, .inr (1, [.int g0, .int g1, .int g2, .int g3, .int g4, .int g5, .int h6])), (o, .inr (1, [.int g0, .int g1, .int g2, .int g3, .int g4, .int g5, .int g6]))] rfl ?_
  refine Z.of (pc' := 49) (fun _ _ _ hl => lv_aload_n hx hb dX1_copyFrom_48 rfl (lv_at hl 0 rfl)) ?_
  refine Z.of (pc' := 50) (fun _ _ _ hl => lv_aload_n hx hb dX1_copyFrom_49 rfl (lv_at hl 1 rfl)) ?_
  refine z_get C iX1 1 6 k28 rfl rfl (by decide) rfl rfl dX1_copyFrom_50 rfl ?_
  refine z_put C iX1 tyX1_ok nmX1 0 6 k28 rfl rfl (by decide) rfl rfl rfl rfl (Nat.le_of_ble_eq_true rfl) dX1_copyFrom_53 rfl [(a, .inr (1, [.int g0, .int g1, .int g2, .int g3, .int g4, .int g5, .int g6])), (o, .inr (1, [.int g0, .int g1, .int g2, .int g3, .int g4, .int g5, .int g6]))] rfl ?_
  exact E () _ _ _ dX1_copyFrom_56  rfl rfl
abbrev rm_X1_startAnew : Room := { frames := 0, cells := 0, slots := 0, locals := 0 }
set_option maxHeartbeats 4000000 in
set_option maxRecDepth 100000 in
theorem c_X1_startAnew (l : Launch) (T : zT) (a : Nat) (h0 : Int32) (h1 : Int32) (h2 : Int32) (h3 : Int32) (h4 : Int32) (h5 : Int32) (h6 : Int32) : Cv l yX1_startAnew wsX1_startAnew rm_X1_startAnew T [.ref a] [(a, .inr (1, [.int h0, .int h1, .int h2, .int h3, .int h4, .int h5, .int h6]))] (S := Unit) () (fun u => [(a, .inr (1, [.int 0, .int 0, .int 0, .int 0, .int 0, .int 0, .int 0]))]) := by
  refine z_metV (own := RX1) (maxL := 1) rfl (by decide) rfl (Nat.le_of_ble_eq_true rfl) ?_
  intro P0 E0 S0 M0 G0 B0 T0 K0 A Q C E
  have hx := C.1.1
  have hb := C.1.2.1
  have hown := C.1.2.2.2.1
  have hts := C.1.2.2.2.2
  have hn := C.2.1.2
  have iX1 : ∀ w ∈ u_ws RX1 TX1 7, w ∈ wsX1_startAnew := by decide +kernel
  have k9 := hts (.fieldLink RX1 9 "JudgedBits$Health" "mode" "I") (by decide +kernel)
  have k13 := hts (.fieldLink RX1 13 "JudgedBits$Health" "failedTest" "I") (by decide +kernel)
  have k16 := hts (.fieldLink RX1 16 "JudgedBits$Health" "startUpBits" "I") (by decide +kernel)
  have k19 := hts (.fieldLink RX1 19 "JudgedBits$Health" "run" "I") (by decide +kernel)
  have k22 := hts (.fieldLink RX1 22 "JudgedBits$Health" "runBit" "I") (by decide +kernel)
  have k25 := hts (.fieldLink RX1 25 "JudgedBits$Health" "windowBits" "I") (by decide +kernel)
  have k28 := hts (.fieldLink RX1 28 "JudgedBits$Health" "windowOnes" "I") (by decide +kernel)
  change Z P0 l E0 rm_X1_startAnew S0 M0 G0 B0 T0 K0 1 T A Q 0 0 [(a, .inr (1, [.int h0, .int h1, .int h2, .int h3, .int h4, .int h5, .int h6]))] 0 [(0, .ref a)] []
  refine Z.of (pc' := 1) (fun _ _ _ hl => lv_aload_n hx hb dX1_startAnew_0 rfl (lv_at hl 0 rfl)) ?_
  refine Z.of (pc' := 2) (fun _ _ _ _ => lv_iconst (v := 0) hx hb dX1_startAnew_1 (by decide)) ?_
  refine z_put C iX1 tyX1_ok nmX1 0 0 k9 rfl rfl (by decide) rfl rfl rfl rfl (Nat.le_of_ble_eq_true rfl) dX1_startAnew_2 rfl [(a, .inr (1, [.int 0, .int h1, .int h2, .int h3, .int h4, .int h5, .int h6]))] rfl ?_
  refine Z.of (pc' := 6) (fun _ _ _ hl => lv_aload_n hx hb dX1_startAnew_5 rfl (lv_at hl 0 rfl)) ?_
  refine Z.of (pc' := 7) (fun _ _ _ _ => lv_iconst (v := 0) hx hb dX1_startAnew_6 (by decide)) ?_
  refine z_put C iX1 tyX1_ok nmX1 0 1 k13 rfl rfl (by decide) rfl rfl rfl rfl (Nat.le_of_ble_eq_true rfl) dX1_startAnew_7 rfl [(a, .inr (1, [.int 0, .int 0, .int h2, .int h3, .int h4, .int h5, .int h6]))] rfl ?_
  refine Z.of (pc' := 11) (fun _ _ _ hl => lv_aload_n hx hb dX1_startAnew_10 rfl (lv_at hl 0 rfl)) ?_
  refine Z.of (pc' := 12) (fun _ _ _ _ => lv_iconst (v := 0) hx hb dX1_startAnew_11 (by decide)) ?_
  refine z_put C iX1 tyX1_ok nmX1 0 2 k16 rfl rfl (by decide) rfl rfl rfl rfl (Nat.le_of_ble_eq_true rfl) dX1_startAnew_12 rfl [(a, .inr (1, [.int 0, .int 0, .int 0, .int h3, .int h4, .int h5, .int h6]))] rfl ?_
  refine Z.of (pc' := 16) (fun _ _ _ hl => lv_aload_n hx hb dX1_startAnew_15 rfl (lv_at hl 0 rfl)) ?_
  refine Z.of (pc' := 17) (fun _ _ _ _ => lv_iconst (v := 0) hx hb dX1_startAnew_16 (by decide)) ?_
  refine z_put C iX1 tyX1_ok nmX1 0 3 k19 rfl rfl (by decide) rfl rfl rfl rfl (Nat.le_of_ble_eq_true rfl) dX1_startAnew_17 rfl [(a, .inr (1, [.int 0, .int 0, .int 0, .int 0, .int h4, .int h5, .int h6]))] rfl ?_
  refine Z.of (pc' := 21) (fun _ _ _ hl => lv_aload_n hx hb dX1_startAnew_20 rfl (lv_at hl 0 rfl)) ?_
  refine Z.of (pc' := 22) (fun _ _ _ _ => lv_iconst (v := 0) hx hb dX1_startAnew_21 (by decide)) ?_
  refine z_put C iX1 tyX1_ok nmX1 0 4 k22 rfl rfl (by decide) rfl rfl rfl rfl (Nat.le_of_ble_eq_true rfl) dX1_startAnew_22 rfl [(a, .inr (1, [.int 0, .int 0, .int 0, .int 0, .int 0, .int h5, .int h6]))] rfl ?_
  refine Z.of (pc' := 26) (fun _ _ _ hl => lv_aload_n hx hb dX1_startAnew_25 rfl (lv_at hl 0 rfl)) ?_
  refine Z.of (pc' := 27) (fun _ _ _ _ => lv_iconst (v := 0) hx hb dX1_startAnew_26 (by decide)) ?_
  refine z_put C iX1 tyX1_ok nmX1 0 5 k25 rfl rfl (by decide) rfl rfl rfl rfl (Nat.le_of_ble_eq_true rfl) dX1_startAnew_27 rfl [(a, .inr (1, [.int 0, .int 0, .int 0, .int 0, .int 0, .int 0, .int h6]))] rfl ?_
  refine Z.of (pc' := 31) (fun _ _ _ hl => lv_aload_n hx hb dX1_startAnew_30 rfl (lv_at hl 0 rfl)) ?_
  refine Z.of (pc' := 32) (fun _ _ _ _ => lv_iconst (v := 0) hx hb dX1_startAnew_31 (by decide)) ?_
  refine z_put C iX1 tyX1_ok nmX1 0 6 k28 rfl rfl (by decide) rfl rfl rfl rfl (Nat.le_of_ble_eq_true rfl) dX1_startAnew_32 rfl [(a, .inr (1, [.int 0, .int 0, .int 0, .int 0, .int 0, .int 0, .int 0]))] rfl ?_
  exact E () _ _ _ dX1_startAnew_35  rfl rfl
def f_X1_countInRun (h0 : Int32) (h1 : Int32) (h2 : Int32) (h3 : Int32) (h4 : Int32) (h5 : Int32) (h6 : Int32) (bit : Int32) : Int32 :=
  let v2 : Int32 := (
    if h3 ≤ 0 then
      1
    else
      if bit = h4 then
        (h3 + 1)
      else
        1
    )
  v2
abbrev rm_X1_countInRun : Room := { frames := 0, cells := 0, slots := 0, locals := 0 }
set_option maxHeartbeats 4000000 in
set_option maxRecDepth 100000 in
theorem c_X1_countInRun (l : Launch) (T : zT) (a : Nat) (h0 : Int32) (h1 : Int32) (h2 : Int32) (h3 : Int32) (h4 : Int32) (h5 : Int32) (h6 : Int32) (bit : Int32) : Cv l yX1_countInRun wsX1_countInRun rm_X1_countInRun T [.ref a, .int bit] [(a, .inr (1, [.int h0, .int h1, .int h2, .int h3, .int h4, .int h5, .int h6]))] (S := Int32) (f_X1_countInRun h0 h1 h2 h3 h4 h5 h6 bit) (fun u => [(a, .inr (1, [.int h0, .int h1, .int h2, .int u, .int bit, .int h5, .int h6]))]) := by
  refine z_metV (own := RX1) (maxL := 2) rfl (by decide) rfl (Nat.le_of_ble_eq_true rfl) ?_
  intro P0 E0 S0 M0 G0 B0 T0 K0 A Q C E
  have hx := C.1.1
  have hb := C.1.2.1
  have hown := C.1.2.2.2.1
  have hts := C.1.2.2.2.2
  have hn := C.2.1.2
  have iX1 : ∀ w ∈ u_ws RX1 TX1 7, w ∈ wsX1_countInRun := by decide +kernel
  have k19 := hts (.fieldLink RX1 19 "JudgedBits$Health" "run" "I") (by decide +kernel)
  have k22 := hts (.fieldLink RX1 22 "JudgedBits$Health" "runBit" "I") (by decide +kernel)
  change Z P0 l E0 rm_X1_countInRun S0 M0 G0 B0 T0 K0 2 T A Q 0 0 [(a, .inr (1, [.int h0, .int h1, .int h2, .int h3, .int h4, .int h5, .int h6]))] 0 [(0, .ref a), (1, .int bit)] []
  refine Z.of (pc' := 1) (fun _ _ _ hl => lv_aload_n hx hb dX1_countInRun_0 rfl (lv_at hl 0 rfl)) ?_
  refine Z.of (pc' := 2) (fun _ _ _ hl => lv_aload_n hx hb dX1_countInRun_1 rfl (lv_at hl 0 rfl)) ?_
  refine z_get C iX1 0 3 k19 rfl rfl (by decide) rfl rfl dX1_countInRun_2 rfl ?_
  have J2 : ∀ v2 : Int32, v2 = (
      if h3 ≤ 0 then
        1
      else
        if bit = h4 then
          (h3 + 1)
        else
          1
      ) → Z P0 l E0 rm_X1_countInRun S0 M0 G0 B0 T0 K0 2 T A Q 0 0 [(a, .inr (1, [.int h0, .int h1, .int h2, .int h3, .int h4, .int h5, .int h6]))] 26 [(0, .ref a), (1, .int bit)] [.int v2, .ref a] := by
    intro v2 ev2
    refine z_put C iX1 tyX1_ok nmX1 0 3 k19 rfl rfl (by decide) rfl rfl rfl rfl (Nat.le_of_ble_eq_true rfl) dX1_countInRun_26 rfl [(a, .inr (1, [.int h0, .int h1, .int h2, .int v2, .int h4, .int h5, .int h6]))] rfl ?_
    refine Z.of (pc' := 30) (fun _ _ _ hl => lv_aload_n hx hb dX1_countInRun_29 rfl (lv_at hl 0 rfl)) ?_
    refine Z.of (pc' := 31) (fun _ _ _ hl => lv_iload_n hx hb dX1_countInRun_30 rfl (lv_at hl 1 rfl)) ?_
    refine z_put C iX1 tyX1_ok nmX1 0 4 k22 rfl rfl (by decide) rfl rfl rfl rfl (Nat.le_of_ble_eq_true rfl) dX1_countInRun_31 rfl [(a, .inr (1, [.int h0, .int h1, .int h2, .int v2, .int bit, .int h5, .int h6]))] rfl ?_
    exact E v2 _ _ _ dX1_countInRun_34  rfl (by subst ev2; exact rfl)
  refine Z.two (pt := 25) (pf := 8) (fun _ _ _ _ => lv_if_le hx hb dX1_countInRun_5 (by decide)) (fun c1 => ?_) (fun c1 => ?_)
  · refine Z.of (pc' := 26) (fun _ _ _ _ => lv_iconst (v := 1) hx hb dX1_countInRun_25 (by decide)) ?_
    exact J2 1 (by exact Eq.symm (if_pos c1))
  · refine Z.of (pc' := 9) (fun _ _ _ hl => lv_iload_n hx hb dX1_countInRun_8 rfl (lv_at hl 1 rfl)) ?_
    refine Z.of (pc' := 10) (fun _ _ _ hl => lv_aload_n hx hb dX1_countInRun_9 rfl (lv_at hl 0 rfl)) ?_
    refine z_get C iX1 0 4 k22 rfl rfl (by decide) rfl rfl dX1_countInRun_10 rfl ?_
    refine Z.two' (pt := 25) (pf := 16) (fun _ _ _ _ => lv_icmp_ne hx hb dX1_countInRun_13 (by decide)) (fun c3 => ?_) (fun c3 => ?_)
    · refine Z.of (pc' := 26) (fun _ _ _ _ => lv_iconst (v := 1) hx hb dX1_countInRun_25 (by decide)) ?_
      exact J2 1 (by exact Eq.symm ((if_neg c1).trans (if_neg c3)))
    · refine Z.of (pc' := 17) (fun _ _ _ hl => lv_aload_n hx hb dX1_countInRun_16 rfl (lv_at hl 0 rfl)) ?_
      refine z_get C iX1 0 3 k19 rfl rfl (by decide) rfl rfl dX1_countInRun_17 rfl ?_
      refine Z.of (pc' := 21) (fun _ _ _ _ => lv_iconst (v := 1) hx hb dX1_countInRun_20 (by decide)) ?_
      refine Z.of (pc' := 22) (fun _ _ _ hl => lv_iadd hx hb dX1_countInRun_21) ?_
      refine Z.of (pc' := 26) (fun _ _ _ _ => lv_goto hx hb dX1_countInRun_22 (by decide)) ?_
      exact J2 (h3 + 1) (by exact Eq.symm ((if_neg c1).trans (if_pos c3)))
def f_X1_failsShare (h0 : Int32) (h1 : Int32) (h2 : Int32) (h3 : Int32) (h4 : Int32) (h5 : Int32) (h6 : Int32) (bit : Int32) (least : Int32) : Int32 × Int32 × Int32 :=
  if 32 ≤ (h5 + 1) then
    if (h6 + bit) < least then
      (1, 0, 0)
    else
      if (h6 + bit) ≤ (32 - least) then
        (0, 0, 0)
      else
        (1, 0, 0)
  else
    (0, h5 + 1, h6 + bit)
abbrev rm_X1_failsShare : Room := { frames := 0, cells := 0, slots := 0, locals := 0 }
set_option maxHeartbeats 4000000 in
set_option maxRecDepth 100000 in
theorem c_X1_failsShare (l : Launch) (T : zT) (a : Nat) (h0 : Int32) (h1 : Int32) (h2 : Int32) (h3 : Int32) (h4 : Int32) (h5 : Int32) (h6 : Int32) (bit : Int32) (least : Int32) : Ci l yX1_failsShare wsX1_failsShare rm_X1_failsShare T .boolean [.ref a, .int bit, .int least] [(a, .inr (1, [.int h0, .int h1, .int h2, .int h3, .int h4, .int h5, .int h6]))] (S := Int32 × Int32 × Int32) (f_X1_failsShare h0 h1 h2 h3 h4 h5 h6 bit least) (fun u => u.1) (fun u => [(a, .inr (1, [.int h0, .int h1, .int h2, .int h3, .int h4, .int u.2.1, .int u.2.2]))]) := by
  refine z_metI (own := RX1) (maxL := 4) rfl (by decide) rfl (Nat.le_of_ble_eq_true rfl) ?_
  intro P0 E0 S0 M0 G0 B0 T0 K0 A Q C E
  have hx := C.1.1
  have hb := C.1.2.1
  have hown := C.1.2.2.2.1
  have hts := C.1.2.2.2.2
  have hn := C.2.1.2
  have iX1 : ∀ w ∈ u_ws RX1 TX1 7, w ∈ wsX1_failsShare := by decide +kernel
  have k25 := hts (.fieldLink RX1 25 "JudgedBits$Health" "windowBits" "I") (by decide +kernel)
  have k28 := hts (.fieldLink RX1 28 "JudgedBits$Health" "windowOnes" "I") (by decide +kernel)
  change Z P0 l E0 rm_X1_failsShare S0 M0 G0 B0 T0 K0 4 T A Q 0 0 [(a, .inr (1, [.int h0, .int h1, .int h2, .int h3, .int h4, .int h5, .int h6]))] 0 [(0, .ref a), (1, .int bit), (2, .int least)] []
  refine Z.of (pc' := 1) (fun _ _ _ hl => lv_aload_n hx hb dX1_failsShare_0 rfl (lv_at hl 0 rfl)) ?_
  refine Z.of (pc' := 2) (fun _ _ _ hl => lv_dup hx hb dX1_failsShare_1 rfl) ?_
  refine z_get C iX1 0 5 k25 rfl rfl (by decide) rfl rfl dX1_failsShare_2 rfl ?_
  refine Z.of (pc' := 6) (fun _ _ _ _ => lv_iconst (v := 1) hx hb dX1_failsShare_5 (by decide)) ?_
  refine Z.of (pc' := 7) (fun _ _ _ hl => lv_iadd hx hb dX1_failsShare_6) ?_
  refine z_put C iX1 tyX1_ok nmX1 0 5 k25 rfl rfl (by decide) rfl rfl rfl rfl (Nat.le_of_ble_eq_true rfl) dX1_failsShare_7 rfl [(a, .inr (1, [.int h0, .int h1, .int h2, .int h3, .int h4, .int (h5 + 1), .int h6]))] rfl ?_
  refine Z.of (pc' := 11) (fun _ _ _ hl => lv_aload_n hx hb dX1_failsShare_10 rfl (lv_at hl 0 rfl)) ?_
  refine Z.of (pc' := 12) (fun _ _ _ hl => lv_dup hx hb dX1_failsShare_11 rfl) ?_
  refine z_get C iX1 0 6 k28 rfl rfl (by decide) rfl rfl dX1_failsShare_12 rfl ?_
  refine Z.of (pc' := 16) (fun _ _ _ hl => lv_iload_n hx hb dX1_failsShare_15 rfl (lv_at hl 1 rfl)) ?_
  refine Z.of (pc' := 17) (fun _ _ _ hl => lv_iadd hx hb dX1_failsShare_16) ?_
  refine z_put C iX1 tyX1_ok nmX1 0 6 k28 rfl rfl (by decide) rfl rfl rfl rfl (Nat.le_of_ble_eq_true rfl) dX1_failsShare_17 rfl [(a, .inr (1, [.int h0, .int h1, .int h2, .int h3, .int h4, .int (h5 + 1), .int (h6 + bit)]))] rfl ?_
  refine Z.of (pc' := 21) (fun _ _ _ hl => lv_aload_n hx hb dX1_failsShare_20 rfl (lv_at hl 0 rfl)) ?_
  refine z_get C iX1 0 5 k25 rfl rfl (by decide) rfl rfl dX1_failsShare_21 rfl ?_
  refine Z.of (pc' := 26) (fun _ _ _ _ => lv_bipush (v := 32) hx hb dX1_failsShare_24 (by decide)) ?_
  refine Z.two (pt := 31) (pf := 29) (fun _ _ _ _ => lv_icmp_ge hx hb dX1_failsShare_26 (by decide)) (fun c1 => ?_) (fun c1 => ?_)
  · refine Z.of (pc' := 32) (fun _ _ _ hl => lv_aload_n hx hb dX1_failsShare_31 rfl (lv_at hl 0 rfl)) ?_
    refine z_get C iX1 0 6 k28 rfl rfl (by decide) rfl rfl dX1_failsShare_32 rfl ?_
    refine Z.sto (pc' := 36) (lv' := [(3, .int (h6 + bit)), (0, .ref a), (1, .int bit), (2, .int least)]) (fun _ _ _ hl => lv_istore_n (lv' := [(3, .int (h6 + bit)), (0, .ref a), (1, .int bit), (2, .int least)]) hx hb dX1_failsShare_35 rfl hl (by decide) rfl) ?_
    refine Z.of (pc' := 37) (fun _ _ _ hl => lv_aload_n hx hb dX1_failsShare_36 rfl (lv_at hl 1 rfl)) ?_
    refine Z.of (pc' := 38) (fun _ _ _ _ => lv_iconst (v := 0) hx hb dX1_failsShare_37 (by decide)) ?_
    refine z_put C iX1 tyX1_ok nmX1 0 5 k25 rfl rfl (by decide) rfl rfl rfl rfl (Nat.le_of_ble_eq_true rfl) dX1_failsShare_38 rfl [(a, .inr (1, [.int h0, .int h1, .int h2, .int h3, .int h4, .int 0, .int (h6 + bit)]))] rfl ?_
    refine Z.of (pc' := 42) (fun _ _ _ hl => lv_aload_n hx hb dX1_failsShare_41 rfl (lv_at hl 1 rfl)) ?_
    refine Z.of (pc' := 43) (fun _ _ _ _ => lv_iconst (v := 0) hx hb dX1_failsShare_42 (by decide)) ?_
    refine z_put C iX1 tyX1_ok nmX1 0 6 k28 rfl rfl (by decide) rfl rfl rfl rfl (Nat.le_of_ble_eq_true rfl) dX1_failsShare_43 rfl [(a, .inr (1, [.int h0, .int h1, .int h2, .int h3, .int h4, .int 0, .int 0]))] rfl ?_
    refine Z.of (pc' := 47) (fun _ _ _ hl => lv_iload_n hx hb dX1_failsShare_46 rfl (lv_at hl 0 rfl)) ?_
    refine Z.of (pc' := 48) (fun _ _ _ hl => lv_iload_n hx hb dX1_failsShare_47 rfl (lv_at hl 3 rfl)) ?_
    refine Z.two (pt := 59) (pf := 51) (fun _ _ _ _ => lv_icmp_lt hx hb dX1_failsShare_48 (by decide)) (fun c2 => ?_) (fun c2 => ?_)
    · refine Z.of (pc' := 60) (fun _ _ _ _ => lv_iconst (v := 1) hx hb dX1_failsShare_59 (by decide)) ?_
      refine Z.of (pc' := 64) (fun _ _ _ _ => lv_goto hx hb dX1_failsShare_60 (by decide)) ?_
      exact E (1, 0, 0) _ _ _ _ dX1_failsShare_64 rfl rfl rfl (by exact (if_pos c1).trans (if_pos c2))
    · refine Z.of (pc' := 52) (fun _ _ _ hl => lv_iload_n hx hb dX1_failsShare_51 rfl (lv_at hl 0 rfl)) ?_
      refine Z.of (pc' := 54) (fun _ _ _ _ => lv_bipush (v := 32) hx hb dX1_failsShare_52 (by decide)) ?_
      refine Z.of (pc' := 55) (fun _ _ _ hl => lv_iload_n hx hb dX1_failsShare_54 rfl (lv_at hl 3 rfl)) ?_
      refine Z.of (pc' := 56) (fun _ _ _ hl => lv_isub hx hb dX1_failsShare_55) ?_
      refine Z.two (pt := 63) (pf := 59) (fun _ _ _ _ => lv_icmp_le hx hb dX1_failsShare_56 (by decide)) (fun c3 => ?_) (fun c3 => ?_)
      · refine Z.of (pc' := 64) (fun _ _ _ _ => lv_iconst (v := 0) hx hb dX1_failsShare_63 (by decide)) ?_
        exact E (0, 0, 0) _ _ _ _ dX1_failsShare_64 rfl rfl rfl (by exact (if_pos c1).trans ((if_neg c2).trans (if_pos c3)))
      · refine Z.of (pc' := 60) (fun _ _ _ _ => lv_iconst (v := 1) hx hb dX1_failsShare_59 (by decide)) ?_
        refine Z.of (pc' := 64) (fun _ _ _ _ => lv_goto hx hb dX1_failsShare_60 (by decide)) ?_
        exact E (1, 0, 0) _ _ _ _ dX1_failsShare_64 rfl rfl rfl (by exact (if_pos c1).trans ((if_neg c2).trans (if_neg c3)))
  · refine Z.of (pc' := 30) (fun _ _ _ _ => lv_iconst (v := 0) hx hb dX1_failsShare_29 (by decide)) ?_
    exact E (0, h5 + 1, h6 + bit) _ _ _ _ dX1_failsShare_30 rfl rfl rfl (by exact if_neg c1)
abbrev rm_X1_bringAlarm : Room := { frames := 0, cells := 0, slots := 0, locals := 0 }
set_option maxHeartbeats 4000000 in
set_option maxRecDepth 100000 in
theorem c_X1_bringAlarm (l : Launch) (T : zT) (a : Nat) (h0 : Int32) (h1 : Int32) (h2 : Int32) (h3 : Int32) (h4 : Int32) (h5 : Int32) (h6 : Int32) (test : Int32) : Cv l yX1_bringAlarm wsX1_bringAlarm rm_X1_bringAlarm T [.ref a, .int test] [(a, .inr (1, [.int h0, .int h1, .int h2, .int h3, .int h4, .int h5, .int h6]))] (S := Unit) () (fun u => [(a, .inr (1, [.int 2, .int test, .int h2, .int h3, .int h4, .int h5, .int h6]))]) := by
  refine z_metV (own := RX1) (maxL := 2) rfl (by decide) rfl (Nat.le_of_ble_eq_true rfl) ?_
  intro P0 E0 S0 M0 G0 B0 T0 K0 A Q C E
  have hx := C.1.1
  have hb := C.1.2.1
  have hown := C.1.2.2.2.1
  have hts := C.1.2.2.2.2
  have hn := C.2.1.2
  have iX1 : ∀ w ∈ u_ws RX1 TX1 7, w ∈ wsX1_bringAlarm := by decide +kernel
  have k9 := hts (.fieldLink RX1 9 "JudgedBits$Health" "mode" "I") (by decide +kernel)
  have k13 := hts (.fieldLink RX1 13 "JudgedBits$Health" "failedTest" "I") (by decide +kernel)
  change Z P0 l E0 rm_X1_bringAlarm S0 M0 G0 B0 T0 K0 2 T A Q 0 0 [(a, .inr (1, [.int h0, .int h1, .int h2, .int h3, .int h4, .int h5, .int h6]))] 0 [(0, .ref a), (1, .int test)] []
  refine Z.of (pc' := 1) (fun _ _ _ hl => lv_aload_n hx hb dX1_bringAlarm_0 rfl (lv_at hl 0 rfl)) ?_
  refine Z.of (pc' := 2) (fun _ _ _ _ => lv_iconst (v := 2) hx hb dX1_bringAlarm_1 (by decide)) ?_
  refine z_put C iX1 tyX1_ok nmX1 0 0 k9 rfl rfl (by decide) rfl rfl rfl rfl (Nat.le_of_ble_eq_true rfl) dX1_bringAlarm_2 rfl [(a, .inr (1, [.int 2, .int h1, .int h2, .int h3, .int h4, .int h5, .int h6]))] rfl ?_
  refine Z.of (pc' := 6) (fun _ _ _ hl => lv_aload_n hx hb dX1_bringAlarm_5 rfl (lv_at hl 0 rfl)) ?_
  refine Z.of (pc' := 7) (fun _ _ _ hl => lv_iload_n hx hb dX1_bringAlarm_6 rfl (lv_at hl 1 rfl)) ?_
  refine z_put C iX1 tyX1_ok nmX1 0 1 k13 rfl rfl (by decide) rfl rfl rfl rfl (Nat.le_of_ble_eq_true rfl) dX1_bringAlarm_7 rfl [(a, .inr (1, [.int 2, .int test, .int h2, .int h3, .int h4, .int h5, .int h6]))] rfl ?_
  exact E () _ _ _ dX1_bringAlarm_10  rfl rfl
def f_X1_countInStartUp (h0 : Int32) (h1 : Int32) (h2 : Int32) (h3 : Int32) (h4 : Int32) (h5 : Int32) (h6 : Int32) : Int32 :=
  if (h2 + 1) < 64 then
    h0
  else
    1
abbrev rm_X1_countInStartUp : Room := { frames := 0, cells := 0, slots := 0, locals := 0 }
set_option maxHeartbeats 4000000 in
set_option maxRecDepth 100000 in
theorem c_X1_countInStartUp (l : Launch) (T : zT) (a : Nat) (h0 : Int32) (h1 : Int32) (h2 : Int32) (h3 : Int32) (h4 : Int32) (h5 : Int32) (h6 : Int32) : Cv l yX1_countInStartUp wsX1_countInStartUp rm_X1_countInStartUp T [.ref a] [(a, .inr (1, [.int h0, .int h1, .int h2, .int h3, .int h4, .int h5, .int h6]))] (S := Int32) (f_X1_countInStartUp h0 h1 h2 h3 h4 h5 h6) (fun u => [(a, .inr (1, [.int u, .int h1, .int (h2 + 1), .int h3, .int h4, .int h5, .int h6]))]) := by
  refine z_metV (own := RX1) (maxL := 1) rfl (by decide) rfl (Nat.le_of_ble_eq_true rfl) ?_
  intro P0 E0 S0 M0 G0 B0 T0 K0 A Q C E
  have hx := C.1.1
  have hb := C.1.2.1
  have hown := C.1.2.2.2.1
  have hts := C.1.2.2.2.2
  have hn := C.2.1.2
  have iX1 : ∀ w ∈ u_ws RX1 TX1 7, w ∈ wsX1_countInStartUp := by decide +kernel
  have k9 := hts (.fieldLink RX1 9 "JudgedBits$Health" "mode" "I") (by decide +kernel)
  have k16 := hts (.fieldLink RX1 16 "JudgedBits$Health" "startUpBits" "I") (by decide +kernel)
  change Z P0 l E0 rm_X1_countInStartUp S0 M0 G0 B0 T0 K0 1 T A Q 0 0 [(a, .inr (1, [.int h0, .int h1, .int h2, .int h3, .int h4, .int h5, .int h6]))] 0 [(0, .ref a)] []
  refine Z.of (pc' := 1) (fun _ _ _ hl => lv_aload_n hx hb dX1_countInStartUp_0 rfl (lv_at hl 0 rfl)) ?_
  refine Z.of (pc' := 2) (fun _ _ _ hl => lv_dup hx hb dX1_countInStartUp_1 rfl) ?_
  refine z_get C iX1 0 2 k16 rfl rfl (by decide) rfl rfl dX1_countInStartUp_2 rfl ?_
  refine Z.of (pc' := 6) (fun _ _ _ _ => lv_iconst (v := 1) hx hb dX1_countInStartUp_5 (by decide)) ?_
  refine Z.of (pc' := 7) (fun _ _ _ hl => lv_iadd hx hb dX1_countInStartUp_6) ?_
  refine z_put C iX1 tyX1_ok nmX1 0 2 k16 rfl rfl (by decide) rfl rfl rfl rfl (Nat.le_of_ble_eq_true rfl) dX1_countInStartUp_7 rfl [(a, .inr (1, [.int h0, .int h1, .int (h2 + 1), .int h3, .int h4, .int h5, .int h6]))] rfl ?_
  refine Z.of (pc' := 11) (fun _ _ _ hl => lv_aload_n hx hb dX1_countInStartUp_10 rfl (lv_at hl 0 rfl)) ?_
  refine z_get C iX1 0 2 k16 rfl rfl (by decide) rfl rfl dX1_countInStartUp_11 rfl ?_
  refine Z.of (pc' := 16) (fun _ _ _ _ => lv_bipush (v := 64) hx hb dX1_countInStartUp_14 (by decide)) ?_
  refine Z.two (pt := 24) (pf := 19) (fun _ _ _ _ => lv_icmp_lt hx hb dX1_countInStartUp_16 (by decide)) (fun c1 => ?_) (fun c1 => ?_)
  · exact E h0 _ _ _ dX1_countInStartUp_24  rfl (by exact if_pos c1)
  · refine Z.of (pc' := 20) (fun _ _ _ hl => lv_aload_n hx hb dX1_countInStartUp_19 rfl (lv_at hl 0 rfl)) ?_
    refine Z.of (pc' := 21) (fun _ _ _ _ => lv_iconst (v := 1) hx hb dX1_countInStartUp_20 (by decide)) ?_
    refine z_put C iX1 tyX1_ok nmX1 0 0 k9 rfl rfl (by decide) rfl rfl rfl rfl (Nat.le_of_ble_eq_true rfl) dX1_countInStartUp_21 rfl [(a, .inr (1, [.int 1, .int h1, .int (h2 + 1), .int h3, .int h4, .int h5, .int h6]))] rfl ?_
    exact E 1 _ _ _ dX1_countInStartUp_24  rfl (by exact if_neg c1)
def f_X1_judge (h0 : Int32) (h1 : Int32) (h2 : Int32) (h3 : Int32) (h4 : Int32) (h5 : Int32) (h6 : Int32) (s0 : Int32) (s1 : Int32) (s2 : Int32) (s3 : Int32) (bit : Int32) : Int32 × Int32 × Int32 × Int32 × Int32 × Int32 :=
  let u1 := f_X1_countInRun h0 h1 h2 h3 h4 h5 h6 bit
  let u2 := f_X1_failsShare h0 h1 h2 u1 bit h5 h6 bit s3
  if u1 ≤ s2 then
    if u2.1 = 0 then
      if h0 = 0 then
        let u6 := f_X1_countInStartUp h0 h1 h2 u1 bit u2.2.1 u2.2.2
        (u6, h1, h2 + 1, u1, u2.2.1, u2.2.2)
      else
        (h0, h1, h2, u1, u2.2.1, u2.2.2)
    else
      (2, 2, h2, u1, u2.2.1, u2.2.2)
  else
    (2, 1, h2, u1, u2.2.1, u2.2.2)
abbrev rm_X1_judge : Room := { frames := 1, cells := 0, slots := 0, locals := 23 }
set_option maxHeartbeats 4000000 in
set_option maxRecDepth 100000 in
theorem c_X1_judge (l : Launch) (T : zT) (a : Nat) (o : Nat) (h0 : Int32) (h1 : Int32) (h2 : Int32) (h3 : Int32) (h4 : Int32) (h5 : Int32) (h6 : Int32) (s0 : Int32) (s1 : Int32) (s2 : Int32) (s3 : Int32) (bit : Int32) : Cv l yX1_judge wsX1_judge rm_X1_judge T [.ref a, .int bit, .ref o] [(a, .inr (1, [.int h0, .int h1, .int h2, .int h3, .int h4, .int h5, .int h6])), (o, .inr (5, [.int s0, .int s1, .int s2, .int s3]))] (S := Int32 × Int32 × Int32 × Int32 × Int32 × Int32) (f_X1_judge h0 h1 h2 h3 h4 h5 h6 s0 s1 s2 s3 bit) (fun u => [(a, .inr (1, [.int u.1, .int u.2.1, .int u.2.2.1, .int u.2.2.2.1, .int bit, .int u.2.2.2.2.1, .int u.2.2.2.2.2])), (o, .inr (5, [.int s0, .int s1, .int s2, .int s3]))]) := by
  refine z_metV (own := RX1) (maxL := 4) rfl (by decide) rfl (Nat.le_of_ble_eq_true rfl) ?_
  intro P0 E0 S0 M0 G0 B0 T0 K0 A Q C E
  have hx := C.1.1
  have hb := C.1.2.1
  have hown := C.1.2.2.2.1
  have hts := C.1.2.2.2.2
  have hn := C.2.1.2
  have iX1 : ∀ w ∈ u_ws RX1 TX1 7, w ∈ wsX1_judge := by decide +kernel
  have iX5 : ∀ w ∈ u_ws RX5 TX5 4, w ∈ wsX1_judge := by decide +kernel
  have k9 := hts (.fieldLink RX1 9 "JudgedBits$Health" "mode" "I") (by decide +kernel)
  have k19 := hts (.fieldLink RX1 19 "JudgedBits$Health" "run" "I") (by decide +kernel)
  have k35 := hts (.fieldLink RX1 35 "JudgedBits$Settings" "leastOnes" "I") (by decide +kernel)
  have k44 := hts (.fieldLink RX1 44 "JudgedBits$Settings" "longestRun" "I") (by decide +kernel)
  change Z P0 l E0 rm_X1_judge S0 M0 G0 B0 T0 K0 4 T A Q 0 0 [(a, .inr (1, [.int h0, .int h1, .int h2, .int h3, .int h4, .int h5, .int h6])), (o, .inr (5, [.int s0, .int s1, .int s2, .int s3]))] 0 [(0, .ref a), (1, .int bit), (2, .ref o)] []
  refine Z.of (pc' := 1) (fun _ _ _ hl => lv_aload_n hx hb dX1_judge_0 rfl (lv_at hl 0 rfl)) ?_
  refine Z.of (pc' := 2) (fun _ _ _ hl => lv_iload_n hx hb dX1_judge_1 rfl (lv_at hl 1 rfl)) ?_
  refine z_callVv C (c_X1_countInRun l T a h0 h1 h2 h3 h4 h5 h6 bit) [0] rfl (by decide) (fun u1 => [(a, .inr (1, [.int h0, .int h1, .int h2, .int u1, .int bit, .int h5, .int h6])), (o, .inr (5, [.int s0, .int s1, .int s2, .int s3]))]) (fun _ => rfl) (fun _ => rfl) (fun _ => rfl) (cwV 1 hts gX1_judge_X1_countInRun rfl rfl rfl (by decide +kernel) ⟨Nat.le_of_ble_eq_true rfl, Nat.le_of_ble_eq_true rfl⟩) 0 rfl rfl rfl (As := [.int bit]) (rest := []) rfl rfl (Nat.le_of_ble_eq_true rfl) dX1_judge_2 rfl ⟨Nat.zero_le _, Nat.zero_le _⟩ (fun u1 eu1 => ?_)
  refine Z.of (pc' := 6) (fun _ _ _ hl => lv_aload_n hx hb dX1_judge_5 rfl (lv_at hl 0 rfl)) ?_
  refine Z.of (pc' := 7) (fun _ _ _ hl => lv_iload_n hx hb dX1_judge_6 rfl (lv_at hl 1 rfl)) ?_
  refine Z.of (pc' := 8) (fun _ _ _ hl => lv_aload_n hx hb dX1_judge_7 rfl (lv_at hl 2 rfl)) ?_
  refine z_get C iX5 1 3 k35 rfl rfl (by decide) rfl rfl dX1_judge_8 rfl ?_
  refine z_callVi C (c_X1_failsShare l T a h0 h1 h2 u1 bit h5 h6 bit s3) [0] rfl (by decide) (fun u2 => [(a, .inr (1, [.int h0, .int h1, .int h2, .int u1, .int bit, .int u2.2.1, .int u2.2.2])), (o, .inr (5, [.int s0, .int s1, .int s2, .int s3]))]) (fun _ => rfl) (fun _ => rfl) (fun _ => rfl) (cwV 2 hts gX1_judge_X1_failsShare rfl rfl rfl (by decide +kernel) ⟨Nat.le_of_ble_eq_true rfl, Nat.le_of_ble_eq_true rfl⟩) 0 rfl rfl rfl (As := [.int bit, .int s3]) (rest := []) rfl rfl (Nat.le_of_ble_eq_true rfl) dX1_judge_11 rfl ⟨Nat.zero_le _, Nat.zero_le _⟩ (fun u2 eu2 bu2 => ?_)
  refine Z.sto (pc' := 15) (lv' := [(3, .int u2.1), (0, .ref a), (1, .int bit), (2, .ref o)]) (fun _ _ _ hl => lv_istore_n (lv' := [(3, .int u2.1), (0, .ref a), (1, .int bit), (2, .ref o)]) hx hb dX1_judge_14 rfl hl (by decide) rfl) ?_
  refine Z.of (pc' := 16) (fun _ _ _ hl => lv_aload_n hx hb dX1_judge_15 rfl (lv_at hl 1 rfl)) ?_
  refine z_get C iX1 0 3 k19 rfl rfl (by decide) rfl rfl dX1_judge_16 rfl ?_
  refine Z.of (pc' := 20) (fun _ _ _ hl => lv_aload_n hx hb dX1_judge_19 rfl (lv_at hl 3 rfl)) ?_
  refine z_get C iX5 1 2 k44 rfl rfl (by decide) rfl rfl dX1_judge_20 rfl ?_
  refine Z.two (pt := 34) (pf := 26) (fun _ _ _ _ => lv_icmp_le hx hb dX1_judge_23 (by decide)) (fun c3 => ?_) (fun c3 => ?_)
  · refine Z.of (pc' := 35) (fun _ _ _ hl => lv_iload_n hx hb dX1_judge_34 rfl (lv_at hl 0 rfl)) ?_
    refine Z.two (pt := 46) (pf := 38) (fun _ _ _ _ => lv_if_eq hx hb dX1_judge_35 (by decide)) (fun c4 => ?_) (fun c4 => ?_)
    · refine Z.of (pc' := 47) (fun _ _ _ hl => lv_aload_n hx hb dX1_judge_46 rfl (lv_at hl 1 rfl)) ?_
      refine z_get C iX1 0 0 k9 rfl rfl (by decide) rfl rfl dX1_judge_47 rfl ?_
      refine Z.two' (pt := 57) (pf := 53) (fun _ _ _ _ => lv_if_ne hx hb dX1_judge_50 (by decide)) (fun c5 => ?_) (fun c5 => ?_)
      · exact E (h0, h1, h2, u1, u2.2.1, u2.2.2) _ _ _ dX1_judge_57  rfl (by subst eu1; subst eu2; exact (if_pos c3).trans ((if_pos c4).trans (if_neg c5)))
      · refine Z.of (pc' := 54) (fun _ _ _ hl => lv_aload_n hx hb dX1_judge_53 rfl (lv_at hl 1 rfl)) ?_
        refine z_callVv C (c_X1_countInStartUp l T a h0 h1 h2 u1 bit u2.2.1 u2.2.2) [0] rfl (by decide) (fun u6 => [(a, .inr (1, [.int u6, .int h1, .int (h2 + 1), .int u1, .int bit, .int u2.2.1, .int u2.2.2])), (o, .inr (5, [.int s0, .int s1, .int s2, .int s3]))]) (fun _ => rfl) (fun _ => rfl) (fun _ => rfl) (cwV 0 hts gX1_judge_X1_countInStartUp rfl rfl rfl (by decide +kernel) ⟨Nat.le_of_ble_eq_true rfl, Nat.le_of_ble_eq_true rfl⟩) 0 rfl rfl rfl (As := []) (rest := []) rfl rfl (Nat.le_of_ble_eq_true rfl) dX1_judge_54 rfl ⟨Nat.zero_le _, Nat.zero_le _⟩ (fun u6 eu6 => ?_)
        exact E (u6, h1, h2 + 1, u1, u2.2.1, u2.2.2) _ _ _ dX1_judge_57  rfl (by subst eu1; subst eu2; subst eu6; exact (if_pos c3).trans ((if_pos c4).trans (if_pos c5)))
    · refine Z.of (pc' := 39) (fun _ _ _ hl => lv_aload_n hx hb dX1_judge_38 rfl (lv_at hl 1 rfl)) ?_
      refine Z.of (pc' := 40) (fun _ _ _ _ => lv_iconst (v := 2) hx hb dX1_judge_39 (by decide)) ?_
      refine z_callVv C (c_X1_bringAlarm l T a h0 h1 h2 u1 bit u2.2.1 u2.2.2 2) [0] rfl (by decide) (fun u7 => [(a, .inr (1, [.int 2, .int 2, .int h2, .int u1, .int bit, .int u2.2.1, .int u2.2.2])), (o, .inr (5, [.int s0, .int s1, .int s2, .int s3]))]) (fun _ => rfl) (fun _ => rfl) (fun _ => rfl) (cwV 1 hts gX1_judge_X1_bringAlarm rfl rfl rfl (by decide +kernel) ⟨Nat.le_of_ble_eq_true rfl, Nat.le_of_ble_eq_true rfl⟩) 0 rfl rfl rfl (As := [.int 2]) (rest := []) rfl rfl (Nat.le_of_ble_eq_true rfl) dX1_judge_40 rfl ⟨Nat.zero_le _, Nat.zero_le _⟩ (fun u7 eu7 => ?_)
      refine Z.of (pc' := 57) (fun _ _ _ _ => lv_goto hx hb dX1_judge_43 (by decide)) ?_
      exact E (2, 2, h2, u1, u2.2.1, u2.2.2) _ _ _ dX1_judge_57  rfl (by subst eu1; subst eu2; exact (if_pos c3).trans (if_neg c4))
  · refine Z.of (pc' := 27) (fun _ _ _ hl => lv_aload_n hx hb dX1_judge_26 rfl (lv_at hl 1 rfl)) ?_
    refine Z.of (pc' := 28) (fun _ _ _ _ => lv_iconst (v := 1) hx hb dX1_judge_27 (by decide)) ?_
    refine z_callVv C (c_X1_bringAlarm l T a h0 h1 h2 u1 bit u2.2.1 u2.2.2 1) [0] rfl (by decide) (fun u8 => [(a, .inr (1, [.int 2, .int 1, .int h2, .int u1, .int bit, .int u2.2.1, .int u2.2.2])), (o, .inr (5, [.int s0, .int s1, .int s2, .int s3]))]) (fun _ => rfl) (fun _ => rfl) (fun _ => rfl) (cwV 1 hts gX1_judge_X1_bringAlarm rfl rfl rfl (by decide +kernel) ⟨Nat.le_of_ble_eq_true rfl, Nat.le_of_ble_eq_true rfl⟩) 0 rfl rfl rfl (As := [.int 1]) (rest := []) rfl rfl (Nat.le_of_ble_eq_true rfl) dX1_judge_28 rfl ⟨Nat.zero_le _, Nat.zero_le _⟩ (fun u8 eu8 => ?_)
    refine Z.of (pc' := 57) (fun _ _ _ _ => lv_goto hx hb dX1_judge_31 (by decide)) ?_
    exact E (2, 1, h2, u1, u2.2.1, u2.2.2) _ _ _ dX1_judge_57  rfl (by subst eu1; subst eu2; exact if_neg c3)
abbrev rm_X7_copyFrom : Room := { frames := 0, cells := 0, slots := 0, locals := 0 }
set_option maxHeartbeats 4000000 in
set_option maxRecDepth 100000 in
theorem c_X7_copyFrom (l : Launch) (T : zT) (a : Nat) (o : Nat) (t0 : Int32) (t1 : Int32) (t2 : Int32) (t3 : Int32) (t4 : Int32) (t5 : Int32) (t6 : Int32) (t7 : Int32) (x0 : Int32) (x1 : Int32) (x2 : Int32) (x3 : Int32) (x4 : Int32) (x5 : Int32) (x6 : Int32) (x7 : Int32) : Cv l yX7_copyFrom wsX7_copyFrom rm_X7_copyFrom T [.ref a, .ref o] [(a, .inr (7, [.int t0, .int t1, .int t2, .int t3, .int t4, .int t5, .int t6, .int t7])), (o, .inr (7, [.int x0, .int x1, .int x2, .int x3, .int x4, .int x5, .int x6, .int x7]))] (S := Unit) () (fun u => [(a, .inr (7, [.int x0, .int x1, .int x2, .int x3, .int x4, .int x5, .int x6, .int x7])), (o, .inr (7, [.int x0, .int x1, .int x2, .int x3, .int x4, .int x5, .int x6, .int x7]))]) := by
  refine z_metV (own := RX7) (maxL := 2) rfl (by decide) rfl (Nat.le_of_ble_eq_true rfl) ?_
  intro P0 E0 S0 M0 G0 B0 T0 K0 A Q C E
  have hx := C.1.1
  have hb := C.1.2.1
  have hown := C.1.2.2.2.1
  have hts := C.1.2.2.2.2
  have hn := C.2.1.2
  have iX7 : ∀ w ∈ u_ws RX7 TX7 8, w ∈ wsX7_copyFrom := by decide +kernel
  have k9 := hts (.fieldLink RX7 9 "JudgedBits$Tally" "samples" "I") (by decide +kernel)
  have k15 := hts (.fieldLink RX7 15 "JudgedBits$Tally" "ones" "I") (by decide +kernel)
  have k18 := hts (.fieldLink RX7 18 "JudgedBits$Tally" "leftOut" "I") (by decide +kernel)
  have k21 := hts (.fieldLink RX7 21 "JudgedBits$Tally" "stored" "I") (by decide +kernel)
  have k24 := hts (.fieldLink RX7 24 "JudgedBits$Tally" "lost" "I") (by decide +kernel)
  have k27 := hts (.fieldLink RX7 27 "JudgedBits$Tally" "drawn" "I") (by decide +kernel)
  have k30 := hts (.fieldLink RX7 30 "JudgedBits$Tally" "alarms" "I") (by decide +kernel)
  have k33 := hts (.fieldLink RX7 33 "JudgedBits$Tally" "longestRun" "I") (by decide +kernel)
  change Z P0 l E0 rm_X7_copyFrom S0 M0 G0 B0 T0 K0 2 T A Q 0 0 [(a, .inr (7, [.int t0, .int t1, .int t2, .int t3, .int t4, .int t5, .int t6, .int t7])), (o, .inr (7, [.int x0, .int x1, .int x2, .int x3, .int x4, .int x5, .int x6, .int x7]))] 0 [(0, .ref a), (1, .ref o)] []
  refine Z.of (pc' := 1) (fun _ _ _ hl => lv_aload_n hx hb dX7_copyFrom_0 rfl (lv_at hl 0 rfl)) ?_
  refine Z.of (pc' := 2) (fun _ _ _ hl => lv_aload_n hx hb dX7_copyFrom_1 rfl (lv_at hl 1 rfl)) ?_
  refine z_get C iX7 1 0 k9 rfl rfl (by decide) rfl rfl dX7_copyFrom_2 rfl ?_
  refine z_put C iX7 tyX7_ok nmX7 0 0 k9 rfl rfl (by decide) rfl rfl rfl rfl (Nat.le_of_ble_eq_true rfl) dX7_copyFrom_5 rfl [(a, .inr (7, [.int x0, .int t1, .int t2, .int t3, .int t4, .int t5, .int t6, .int t7])), (o, .inr (7, [.int x0, .int x1, .int x2, .int x3, .int x4, .int x5, .int x6, .int x7]))] rfl ?_
  refine Z.of (pc' := 9) (fun _ _ _ hl => lv_aload_n hx hb dX7_copyFrom_8 rfl (lv_at hl 0 rfl)) ?_
  refine Z.of (pc' := 10) (fun _ _ _ hl => lv_aload_n hx hb dX7_copyFrom_9 rfl (lv_at hl 1 rfl)) ?_
  refine z_get C iX7 1 1 k15 rfl rfl (by decide) rfl rfl dX7_copyFrom_10 rfl ?_
  refine z_put C iX7 tyX7_ok nmX7 0 1 k15 rfl rfl (by decide) rfl rfl rfl rfl (Nat.le_of_ble_eq_true rfl) dX7_copyFrom_13 rfl [(a, .inr (7, [.int x0, .int x1, .int t2, .int t3, .int t4, .int t5, .int t6, .int t7])), (o, .inr (7, [.int x0, .int x1, .int x2, .int x3, .int x4, .int x5, .int x6, .int x7]))] rfl ?_
  refine Z.of (pc' := 17) (fun _ _ _ hl => lv_aload_n hx hb dX7_copyFrom_16 rfl (lv_at hl 0 rfl)) ?_
  refine Z.of (pc' := 18) (fun _ _ _ hl => lv_aload_n hx hb dX7_copyFrom_17 rfl (lv_at hl 1 rfl)) ?_
  refine z_get C iX7 1 2 k18 rfl rfl (by decide) rfl rfl dX7_copyFrom_18 rfl ?_
  refine z_put C iX7 tyX7_ok nmX7 0 2 k18 rfl rfl (by decide) rfl rfl rfl rfl (Nat.le_of_ble_eq_true rfl) dX7_copyFrom_21 rfl [(a, .inr (7, [.int x0, .int x1, .int x2, .int t3, .int t4, .int t5, .int t6, .int t7])), (o, .inr (7, [.int x0, .int x1, .int x2, .int x3, .int x4, .int x5, .int x6, .int x7]))] rfl ?_
  refine Z.of (pc' := 25) (fun _ _ _ hl => lv_aload_n hx hb dX7_copyFrom_24 rfl (lv_at hl 0 rfl)) ?_
  refine Z.of (pc' := 26) (fun _ _ _ hl => lv_aload_n hx hb dX7_copyFrom_25 rfl (lv_at hl 1 rfl)) ?_
  refine z_get C iX7 1 3 k21 rfl rfl (by decide) rfl rfl dX7_copyFrom_26 rfl ?_
  refine z_put C iX7 tyX7_ok nmX7 0 3 k21 rfl rfl (by decide) rfl rfl rfl rfl (Nat.le_of_ble_eq_true rfl) dX7_copyFrom_29 rfl [(a, .inr (7, [.int x0, .int x1, .int x2, .int x3, .int t4, .int t5, .int t6, .int t7])), (o, .inr (7, [.int x0, .int x1, .int x2, .int x3, .int x4, .int x5, .int x6, .int x7]))] rfl ?_
  refine Z.of (pc' := 33) (fun _ _ _ hl => lv_aload_n hx hb dX7_copyFrom_32 rfl (lv_at hl 0 rfl)) ?_
  refine Z.of (pc' := 34) (fun _ _ _ hl => lv_aload_n hx hb dX7_copyFrom_33 rfl (lv_at hl 1 rfl)) ?_
  refine z_get C iX7 1 4 k24 rfl rfl (by decide) rfl rfl dX7_copyFrom_34 rfl ?_
  refine z_put C iX7 tyX7_ok nmX7 0 4 k24 rfl rfl (by decide) rfl rfl rfl rfl (Nat.le_of_ble_eq_true rfl) dX7_copyFrom_37 rfl [(a, .inr (7, [.int x0, .int x1, .int x2, .int x3, .int x4, .int t5, .int t6, .int t7])), (o, .inr (7, [.int x0, .int x1, .int x2, .int x3, .int x4, .int x5, .int x6, .int x7]))] rfl ?_
  refine Z.of (pc' := 41) (fun _ _ _ hl => lv_aload_n hx hb dX7_copyFrom_40 rfl (lv_at hl 0 rfl)) ?_
  refine Z.of (pc' := 42) (fun _ _ _ hl => lv_aload_n hx hb dX7_copyFrom_41 rfl (lv_at hl 1 rfl)) ?_
  refine z_get C iX7 1 5 k27 rfl rfl (by decide) rfl rfl dX7_copyFrom_42 rfl ?_
  refine z_put C iX7 tyX7_ok nmX7 0 5 k27 rfl rfl (by decide) rfl rfl rfl rfl (Nat.le_of_ble_eq_true rfl) dX7_copyFrom_45 rfl [(a, .inr (7, [.int x0, .int x1, .int x2, .int x3, .int x4, .int x5, .int t6, .int t7])), (o, .inr (7, [.int x0, .int x1, .int x2, .int x3, .int x4, .int x5, .int x6, .int x7]))] rfl ?_
  refine Z.of (pc' := 49) (fun _ _ _ hl => lv_aload_n hx hb dX7_copyFrom_48 rfl (lv_at hl 0 rfl)) ?_
  refine Z.of (pc' := 50) (fun _ _ _ hl => lv_aload_n hx hb dX7_copyFrom_49 rfl (lv_at hl 1 rfl)) ?_
  refine z_get C iX7 1 6 k30 rfl rfl (by decide) rfl rfl dX7_copyFrom_50 rfl ?_
  refine z_put C iX7 tyX7_ok nmX7 0 6 k30 rfl rfl (by decide) rfl rfl rfl rfl (Nat.le_of_ble_eq_true rfl) dX7_copyFrom_53 rfl [(a, .inr (7, [.int x0, .int x1, .int x2, .int x3, .int x4, .int x5, .int x6, .int t7])), (o, .inr (7, [.int x0, .int x1, .int x2, .int x3, .int x4, .int x5, .int x6, .int x7]))] rfl ?_
  refine Z.of (pc' := 57) (fun _ _ _ hl => lv_aload_n hx hb dX7_copyFrom_56 rfl (lv_at hl 0 rfl)) ?_
  refine Z.of (pc' := 58) (fun _ _ _ hl => lv_aload_n hx hb dX7_copyFrom_57 rfl (lv_at hl 1 rfl)) ?_
  refine z_get C iX7 1 7 k33 rfl rfl (by decide) rfl rfl dX7_copyFrom_58 rfl ?_
  refine z_put C iX7 tyX7_ok nmX7 0 7 k33 rfl rfl (by decide) rfl rfl rfl rfl (Nat.le_of_ble_eq_true rfl) dX7_copyFrom_61 rfl [(a, .inr (7, [.int x0, .int x1, .int x2, .int x3, .int x4, .int x5, .int x6, .int x7])), (o, .inr (7, [.int x0, .int x1, .int x2, .int x3, .int x4, .int x5, .int x6, .int x7]))] rfl ?_
  exact E () _ _ _ dX7_copyFrom_64  rfl rfl
def f_X7_tell (t0 : Int32) (t1 : Int32) (t2 : Int32) (t3 : Int32) (t4 : Int32) (t5 : Int32) (t6 : Int32) (t7 : Int32) (what : Int32) : Int32 :=
  if what = 0 then
    t0
  else
    if what = 1 then
      t1
    else
      if what = 2 then
        t2
      else
        if what = 3 then
          t3
        else
          if what = 4 then
            t4
          else
            if what = 5 then
              t5
            else
              if what = 6 then
                t6
              else
                if what = 7 then
                  t7
                else
                  (-1000001)
abbrev rm_X7_tell : Room := { frames := 0, cells := 0, slots := 0, locals := 0 }
set_option maxHeartbeats 4000000 in
set_option maxRecDepth 100000 in
theorem c_X7_tell (l : Launch) (T : zT) (a : Nat) (t0 : Int32) (t1 : Int32) (t2 : Int32) (t3 : Int32) (t4 : Int32) (t5 : Int32) (t6 : Int32) (t7 : Int32) (what : Int32) : Ci l yX7_tell wsX7_tell rm_X7_tell T .int [.ref a, .int what] [(a, .inr (7, [.int t0, .int t1, .int t2, .int t3, .int t4, .int t5, .int t6, .int t7]))] (S := Int32) (f_X7_tell t0 t1 t2 t3 t4 t5 t6 t7 what) (fun u => u) (fun u => [(a, .inr (7, [.int t0, .int t1, .int t2, .int t3, .int t4, .int t5, .int t6, .int t7]))]) := by
  refine z_metI (own := RX7) (maxL := 2) rfl (by decide) rfl (Nat.le_of_ble_eq_true rfl) ?_
  intro P0 E0 S0 M0 G0 B0 T0 K0 A Q C E
  have hx := C.1.1
  have hb := C.1.2.1
  have hown := C.1.2.2.2.1
  have hts := C.1.2.2.2.2
  have hn := C.2.1.2
  have iX7 : ∀ w ∈ u_ws RX7 TX7 8, w ∈ wsX7_tell := by decide +kernel
  have k9 := hts (.fieldLink RX7 9 "JudgedBits$Tally" "samples" "I") (by decide +kernel)
  have k15 := hts (.fieldLink RX7 15 "JudgedBits$Tally" "ones" "I") (by decide +kernel)
  have k18 := hts (.fieldLink RX7 18 "JudgedBits$Tally" "leftOut" "I") (by decide +kernel)
  have k21 := hts (.fieldLink RX7 21 "JudgedBits$Tally" "stored" "I") (by decide +kernel)
  have k24 := hts (.fieldLink RX7 24 "JudgedBits$Tally" "lost" "I") (by decide +kernel)
  have k27 := hts (.fieldLink RX7 27 "JudgedBits$Tally" "drawn" "I") (by decide +kernel)
  have k30 := hts (.fieldLink RX7 30 "JudgedBits$Tally" "alarms" "I") (by decide +kernel)
  have k33 := hts (.fieldLink RX7 33 "JudgedBits$Tally" "longestRun" "I") (by decide +kernel)
  change Z P0 l E0 rm_X7_tell S0 M0 G0 B0 T0 K0 2 T A Q 0 0 [(a, .inr (7, [.int t0, .int t1, .int t2, .int t3, .int t4, .int t5, .int t6, .int t7]))] 0 [(0, .ref a), (1, .int what)] []
  refine Z.of (pc' := 1) (fun _ _ _ hl => lv_iload_n hx hb dX7_tell_0 rfl (lv_at hl 1 rfl)) ?_
  by_cases c1 : what = 0
  · refine Z.of (pc' := 48) (fun _ _ _ _ => lv_tableIn (off := 47) hx hb dX7_tell_1 (by rw [c1]; decide) (by rw [c1]; decide) (by rw [c1]; rfl) (by decide)) ?_
    refine Z.of (pc' := 49) (fun _ _ _ hl => lv_aload_n hx hb dX7_tell_48 rfl (lv_at hl 0 rfl)) ?_
    refine z_get C iX7 0 0 k9 rfl rfl (by decide) rfl rfl dX7_tell_49 rfl ?_
    exact E t0 _ _ _ _ dX7_tell_52 rfl rfl rfl (by exact if_pos c1)
  · by_cases c2 : what = 1
    · refine Z.of (pc' := 53) (fun _ _ _ _ => lv_tableIn (off := 52) hx hb dX7_tell_1 (by rw [c2]; decide) (by rw [c2]; decide) (by rw [c2]; rfl) (by decide)) ?_
      refine Z.of (pc' := 54) (fun _ _ _ hl => lv_aload_n hx hb dX7_tell_53 rfl (lv_at hl 0 rfl)) ?_
      refine z_get C iX7 0 1 k15 rfl rfl (by decide) rfl rfl dX7_tell_54 rfl ?_
      exact E t1 _ _ _ _ dX7_tell_57 rfl rfl rfl (by exact (if_neg c1).trans (if_pos c2))
    · by_cases c3 : what = 2
      · refine Z.of (pc' := 58) (fun _ _ _ _ => lv_tableIn (off := 57) hx hb dX7_tell_1 (by rw [c3]; decide) (by rw [c3]; decide) (by rw [c3]; rfl) (by decide)) ?_
        refine Z.of (pc' := 59) (fun _ _ _ hl => lv_aload_n hx hb dX7_tell_58 rfl (lv_at hl 0 rfl)) ?_
        refine z_get C iX7 0 2 k18 rfl rfl (by decide) rfl rfl dX7_tell_59 rfl ?_
        exact E t2 _ _ _ _ dX7_tell_62 rfl rfl rfl (by exact (if_neg c1).trans ((if_neg c2).trans (if_pos c3)))
      · by_cases c4 : what = 3
        · refine Z.of (pc' := 63) (fun _ _ _ _ => lv_tableIn (off := 62) hx hb dX7_tell_1 (by rw [c4]; decide) (by rw [c4]; decide) (by rw [c4]; rfl) (by decide)) ?_
          refine Z.of (pc' := 64) (fun _ _ _ hl => lv_aload_n hx hb dX7_tell_63 rfl (lv_at hl 0 rfl)) ?_
          refine z_get C iX7 0 3 k21 rfl rfl (by decide) rfl rfl dX7_tell_64 rfl ?_
          exact E t3 _ _ _ _ dX7_tell_67 rfl rfl rfl (by exact (if_neg c1).trans ((if_neg c2).trans ((if_neg c3).trans (if_pos c4))))
        · by_cases c5 : what = 4
          · refine Z.of (pc' := 68) (fun _ _ _ _ => lv_tableIn (off := 67) hx hb dX7_tell_1 (by rw [c5]; decide) (by rw [c5]; decide) (by rw [c5]; rfl) (by decide)) ?_
            refine Z.of (pc' := 69) (fun _ _ _ hl => lv_aload_n hx hb dX7_tell_68 rfl (lv_at hl 0 rfl)) ?_
            refine z_get C iX7 0 4 k24 rfl rfl (by decide) rfl rfl dX7_tell_69 rfl ?_
            exact E t4 _ _ _ _ dX7_tell_72 rfl rfl rfl (by exact (if_neg c1).trans ((if_neg c2).trans ((if_neg c3).trans ((if_neg c4).trans (if_pos c5)))))
          · by_cases c6 : what = 5
            · refine Z.of (pc' := 73) (fun _ _ _ _ => lv_tableIn (off := 72) hx hb dX7_tell_1 (by rw [c6]; decide) (by rw [c6]; decide) (by rw [c6]; rfl) (by decide)) ?_
              refine Z.of (pc' := 74) (fun _ _ _ hl => lv_aload_n hx hb dX7_tell_73 rfl (lv_at hl 0 rfl)) ?_
              refine z_get C iX7 0 5 k27 rfl rfl (by decide) rfl rfl dX7_tell_74 rfl ?_
              exact E t5 _ _ _ _ dX7_tell_77 rfl rfl rfl (by exact (if_neg c1).trans ((if_neg c2).trans ((if_neg c3).trans ((if_neg c4).trans ((if_neg c5).trans (if_pos c6))))))
            · by_cases c7 : what = 6
              · refine Z.of (pc' := 78) (fun _ _ _ _ => lv_tableIn (off := 77) hx hb dX7_tell_1 (by rw [c7]; decide) (by rw [c7]; decide) (by rw [c7]; rfl) (by decide)) ?_
                refine Z.of (pc' := 79) (fun _ _ _ hl => lv_aload_n hx hb dX7_tell_78 rfl (lv_at hl 0 rfl)) ?_
                refine z_get C iX7 0 6 k30 rfl rfl (by decide) rfl rfl dX7_tell_79 rfl ?_
                exact E t6 _ _ _ _ dX7_tell_82 rfl rfl rfl (by exact (if_neg c1).trans ((if_neg c2).trans ((if_neg c3).trans ((if_neg c4).trans ((if_neg c5).trans ((if_neg c6).trans (if_pos c7)))))))
              · by_cases c8 : what = 7
                · refine Z.of (pc' := 83) (fun _ _ _ _ => lv_tableIn (off := 82) hx hb dX7_tell_1 (by rw [c8]; decide) (by rw [c8]; decide) (by rw [c8]; rfl) (by decide)) ?_
                  refine Z.of (pc' := 84) (fun _ _ _ hl => lv_aload_n hx hb dX7_tell_83 rfl (lv_at hl 0 rfl)) ?_
                  refine z_get C iX7 0 7 k33 rfl rfl (by decide) rfl rfl dX7_tell_84 rfl ?_
                  exact E t7 _ _ _ _ dX7_tell_87 rfl rfl rfl (by exact (if_neg c1).trans ((if_neg c2).trans ((if_neg c3).trans ((if_neg c4).trans ((if_neg c5).trans ((if_neg c6).trans ((if_neg c7).trans (if_pos c8))))))))
                · refine Z.of (pc' := 88) (fun _ _ _ _ => lv_tableOut hx hb dX7_tell_1 (zsw_out (n := 7) (by decide) (fun k hk => by match k, hk with | 0, _ => exact c1 | 1, _ => exact c2 | 2, _ => exact c3 | 3, _ => exact c4 | 4, _ => exact c5 | 5, _ => exact c6 | 6, _ => exact c7 | 7, _ => exact c8 | k + 8, h => omega)) (by decide)) ?_
                  refine Z.of (pc' := 90) (fun _ _ _ _ => lv_ldc hx hb hown (hts (.constant RX7 36 (-1000001)) (by decide +kernel)) dX7_tell_88) ?_
                  exact E (-1000001) _ _ _ _ dX7_tell_90 rfl rfl rfl (by exact (if_neg c1).trans ((if_neg c2).trans ((if_neg c3).trans ((if_neg c4).trans ((if_neg c5).trans ((if_neg c6).trans ((if_neg c7).trans (if_neg c8))))))))
end
