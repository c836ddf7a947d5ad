section
-- ===== PART A: goes FIRST, ahead of the names: the tables' words, and 'selects' of the private methods out of them =====
/-- a private method of a class that the tables say can be made, by its rows of tables_1 -/
def lw_okq (q : MethodName × Nat) : Prop := (q.1.cls ≠ "java/lang/invoke/MethodHandle" ∧ q.1.cls ≠ "java/lang/invoke/VarHandle") ∧ Cond.instantiable q.1.cls q.2 ∈ tables_1 ∧ Cond.privateMethod q.1 ∈ tables_1 ∧ Cond.instanceMethod q.1 ∈ tables_1
theorem lw_p0 : lw_okq (⟨"VoiceHouse$Shifts", "addPairsOf", "(II)V"⟩, 4) := ⟨⟨by decide +kernel, by decide +kernel⟩, List.mem_of_getElem? (i := 45) (by decide +kernel), List.mem_of_getElem? (i := 273) (by decide +kernel), List.mem_of_getElem? (i := 274) (by decide +kernel)⟩
theorem lw_p1 : lw_okq (⟨"VoiceHouse", "areTwo", "(II)Z"⟩, 10) := ⟨⟨by decide +kernel, by decide +kernel⟩, List.mem_of_getElem? (i := 14) (by decide +kernel), List.mem_of_getElem? (i := 326) (by decide +kernel), List.mem_of_getElem? (i := 327) (by decide +kernel)⟩
theorem lw_p2 : lw_okq (⟨"VoiceHouse", "freshPairs", "()LVoiceHouse$PairBook;"⟩, 10) := ⟨⟨by decide +kernel, by decide +kernel⟩, List.mem_of_getElem? (i := 14) (by decide +kernel), List.mem_of_getElem? (i := 347) (by decide +kernel), List.mem_of_getElem? (i := 348) (by decide +kernel)⟩
theorem lw_p3 : lw_okq (⟨"VoiceHouse$PairBook", "countPairs", "(I)V"⟩, 11) := ⟨⟨by decide +kernel, by decide +kernel⟩, List.mem_of_getElem? (i := 77) (by decide +kernel), List.mem_of_getElem? (i := 355) (by decide +kernel), List.mem_of_getElem? (i := 356) (by decide +kernel)⟩
theorem lw_p4 : lw_okq (⟨"VoiceHouse$PairBook", "countPair", "(II)V"⟩, 11) := ⟨⟨by decide +kernel, by decide +kernel⟩, List.mem_of_getElem? (i := 77) (by decide +kernel), List.mem_of_getElem? (i := 366) (by decide +kernel), List.mem_of_getElem? (i := 367) (by decide +kernel)⟩
theorem lw_p5 : lw_okq (⟨"VoiceHouse$PairBook", "makeBlocks", "()V"⟩, 11) := ⟨⟨by decide +kernel, by decide +kernel⟩, List.mem_of_getElem? (i := 77) (by decide +kernel), List.mem_of_getElem? (i := 378) (by decide +kernel), List.mem_of_getElem? (i := 379) (by decide +kernel)⟩
theorem lw_p6 : lw_okq (⟨"VoiceHouse$PairBook", "isEmptyBand", "(I)Z"⟩, 11) := ⟨⟨by decide +kernel, by decide +kernel⟩, List.mem_of_getElem? (i := 77) (by decide +kernel), List.mem_of_getElem? (i := 382) (by decide +kernel), List.mem_of_getElem? (i := 383) (by decide +kernel)⟩
theorem lw_p7 : lw_okq (⟨"VoiceHouse$PairBook", "putBlocksInOrder", "()V"⟩, 11) := ⟨⟨by decide +kernel, by decide +kernel⟩, List.mem_of_getElem? (i := 77) (by decide +kernel), List.mem_of_getElem? (i := 386) (by decide +kernel), List.mem_of_getElem? (i := 387) (by decide +kernel)⟩
theorem lw_p8 : lw_okq (⟨"VoiceHouse$PairBook", "findOutOfOrder", "()I"⟩, 11) := ⟨⟨by decide +kernel, by decide +kernel⟩, List.mem_of_getElem? (i := 77) (by decide +kernel), List.mem_of_getElem? (i := 390) (by decide +kernel), List.mem_of_getElem? (i := 391) (by decide +kernel)⟩
theorem lw_p9 : lw_okq (⟨"VoiceHouse$PairBook", "isOutOfOrder", "(II)Z"⟩, 11) := ⟨⟨by decide +kernel, by decide +kernel⟩, List.mem_of_getElem? (i := 77) (by decide +kernel), List.mem_of_getElem? (i := 394) (by decide +kernel), List.mem_of_getElem? (i := 395) (by decide +kernel)⟩
theorem lw_p10 : lw_okq (⟨"VoiceHouse$PairBook", "joinWithNext", "(I)V"⟩, 11) := ⟨⟨by decide +kernel, by decide +kernel⟩, List.mem_of_getElem? (i := 77) (by decide +kernel), List.mem_of_getElem? (i := 398) (by decide +kernel), List.mem_of_getElem? (i := 399) (by decide +kernel)⟩
theorem lw_p11 : lw_okq (⟨"VoiceHouse$Segments", "readScores", "()V"⟩, 9) := ⟨⟨by decide +kernel, by decide +kernel⟩, List.mem_of_getElem? (i := 117) (by decide +kernel), List.mem_of_getElem? (i := 487) (by decide +kernel), List.mem_of_getElem? (i := 488) (by decide +kernel)⟩
theorem lw_p12 : lw_okq (⟨"VoiceHouse$Segments", "joinNearestTwo", "(I)Z"⟩, 9) := ⟨⟨by decide +kernel, by decide +kernel⟩, List.mem_of_getElem? (i := 117) (by decide +kernel), List.mem_of_getElem? (i := 492) (by decide +kernel), List.mem_of_getElem? (i := 493) (by decide +kernel)⟩
theorem lw_p13 : lw_okq (⟨"VoiceHouse$Segments", "isVoice", "(I)Z"⟩, 9) := ⟨⟨by decide +kernel, by decide +kernel⟩, List.mem_of_getElem? (i := 117) (by decide +kernel), List.mem_of_getElem? (i := 496) (by decide +kernel), List.mem_of_getElem? (i := 497) (by decide +kernel)⟩
theorem lw_p14 : lw_okq (⟨"VoiceHouse$Segments", "measureCross", "(II)Z"⟩, 9) := ⟨⟨by decide +kernel, by decide +kernel⟩, List.mem_of_getElem? (i := 117) (by decide +kernel), List.mem_of_getElem? (i := 500) (by decide +kernel), List.mem_of_getElem? (i := 501) (by decide +kernel)⟩
theorem lw_p15 : lw_okq (⟨"VoiceHouse$Segments", "putTogether", "(II)V"⟩, 9) := ⟨⟨by decide +kernel, by decide +kernel⟩, List.mem_of_getElem? (i := 117) (by decide +kernel), List.mem_of_getElem? (i := 504) (by decide +kernel), List.mem_of_getElem? (i := 505) (by decide +kernel)⟩
def lw_privs_1 : List (MethodName × Nat) := [(⟨"VoiceHouse$Shifts", "addPairsOf", "(II)V"⟩, 4), (⟨"VoiceHouse", "areTwo", "(II)Z"⟩, 10), (⟨"VoiceHouse", "freshPairs", "()LVoiceHouse$PairBook;"⟩, 10), (⟨"VoiceHouse$PairBook", "countPairs", "(I)V"⟩, 11), (⟨"VoiceHouse$PairBook", "countPair", "(II)V"⟩, 11), (⟨"VoiceHouse$PairBook", "makeBlocks", "()V"⟩, 11), (⟨"VoiceHouse$PairBook", "isEmptyBand", "(I)Z"⟩, 11), (⟨"VoiceHouse$PairBook", "putBlocksInOrder", "()V"⟩, 11), (⟨"VoiceHouse$PairBook", "findOutOfOrder", "()I"⟩, 11), (⟨"VoiceHouse$PairBook", "isOutOfOrder", "(II)Z"⟩, 11), (⟨"VoiceHouse$PairBook", "joinWithNext", "(I)V"⟩, 11), (⟨"VoiceHouse$Segments", "readScores", "()V"⟩, 9), (⟨"VoiceHouse$Segments", "joinNearestTwo", "(I)Z"⟩, 9), (⟨"VoiceHouse$Segments", "isVoice", "(I)Z"⟩, 9), (⟨"VoiceHouse$Segments", "measureCross", "(II)Z"⟩, 9), (⟨"VoiceHouse$Segments", "putTogether", "(II)V"⟩, 9)]
theorem lw_r1 : ∀ q ∈ lw_privs_1, lw_okq q := List.forall_mem_cons.mpr ⟨lw_p0, List.forall_mem_cons.mpr ⟨lw_p1, List.forall_mem_cons.mpr ⟨lw_p2, List.forall_mem_cons.mpr ⟨lw_p3, List.forall_mem_cons.mpr ⟨lw_p4, List.forall_mem_cons.mpr ⟨lw_p5, List.forall_mem_cons.mpr ⟨lw_p6, List.forall_mem_cons.mpr ⟨lw_p7, List.forall_mem_cons.mpr ⟨lw_p8, List.forall_mem_cons.mpr ⟨lw_p9, List.forall_mem_cons.mpr ⟨lw_p10, List.forall_mem_cons.mpr ⟨lw_p11, List.forall_mem_cons.mpr ⟨lw_p12, List.forall_mem_cons.mpr ⟨lw_p13, List.forall_mem_cons.mpr ⟨lw_p14, List.forall_mem_cons.mpr ⟨lw_p15, fun _ h => absurd h List.not_mem_nil⟩⟩⟩⟩⟩⟩⟩⟩⟩⟩⟩⟩⟩⟩⟩⟩
theorem lw_p16 : lw_okq (⟨"VoiceHouse$Segments", "sumWithin", "(I)I"⟩, 9) := ⟨⟨by decide +kernel, by decide +kernel⟩, List.mem_of_getElem? (i := 117) (by decide +kernel), List.mem_of_getElem? (i := 528) (by decide +kernel), List.mem_of_getElem? (i := 529) (by decide +kernel)⟩
theorem lw_p17 : lw_okq (⟨"VoiceHouse$Segments", "leastOf", "(II)I"⟩, 9) := ⟨⟨by decide +kernel, by decide +kernel⟩, List.mem_of_getElem? (i := 117) (by decide +kernel), List.mem_of_getElem? (i := 536) (by decide +kernel), List.mem_of_getElem? (i := 537) (by decide +kernel)⟩
theorem lw_p18 : lw_okq (⟨"VoiceHouse$LineUp", "insert", "(II)V"⟩, 5) := ⟨⟨by decide +kernel, by decide +kernel⟩, List.mem_of_getElem? (i := 151) (by decide +kernel), List.mem_of_getElem? (i := 552) (by decide +kernel), List.mem_of_getElem? (i := 553) (by decide +kernel)⟩
theorem lw_p19 : lw_okq (⟨"VoiceHouse", "toneTold", "(II)I"⟩, 10) := ⟨⟨by decide +kernel, by decide +kernel⟩, List.mem_of_getElem? (i := 14) (by decide +kernel), List.mem_of_getElem? (i := 607) (by decide +kernel), List.mem_of_getElem? (i := 608) (by decide +kernel)⟩
theorem lw_p20 : lw_okq (⟨"VoiceHouseModel", "isRecording", "(I)Z"⟩, 20) := ⟨⟨by decide +kernel, by decide +kernel⟩, List.mem_of_getElem? (i := 621) (by decide +kernel), List.mem_of_getElem? (i := 699) (by decide +kernel), List.mem_of_getElem? (i := 700) (by decide +kernel)⟩
theorem lw_p21 : lw_okq (⟨"VoiceHouseModel", "shiftOf", "(II)I"⟩, 20) := ⟨⟨by decide +kernel, by decide +kernel⟩, List.mem_of_getElem? (i := 621) (by decide +kernel), List.mem_of_getElem? (i := 719) (by decide +kernel), List.mem_of_getElem? (i := 720) (by decide +kernel)⟩
theorem lw_p22 : lw_okq (⟨"VoiceHouseModel", "shiftPairs", "(II)I"⟩, 20) := ⟨⟨by decide +kernel, by decide +kernel⟩, List.mem_of_getElem? (i := 621) (by decide +kernel), List.mem_of_getElem? (i := 723) (by decide +kernel), List.mem_of_getElem? (i := 724) (by decide +kernel)⟩
theorem lw_p23 : lw_okq (⟨"VoiceHouseModel", "reckons", "()V"⟩, 20) := ⟨⟨by decide +kernel, by decide +kernel⟩, List.mem_of_getElem? (i := 621) (by decide +kernel), List.mem_of_getElem? (i := 736) (by decide +kernel), List.mem_of_getElem? (i := 737) (by decide +kernel)⟩
theorem lw_p24 : lw_okq (⟨"VoiceHouseModel", "scoreOf", "(II)I"⟩, 20) := ⟨⟨by decide +kernel, by decide +kernel⟩, List.mem_of_getElem? (i := 621) (by decide +kernel), List.mem_of_getElem? (i := 740) (by decide +kernel), List.mem_of_getElem? (i := 741) (by decide +kernel)⟩
theorem lw_p25 : lw_okq (⟨"VoiceHouseModel", "counts", "()V"⟩, 20) := ⟨⟨by decide +kernel, by decide +kernel⟩, List.mem_of_getElem? (i := 621) (by decide +kernel), List.mem_of_getElem? (i := 748) (by decide +kernel), List.mem_of_getElem? (i := 749) (by decide +kernel)⟩
theorem lw_p26 : lw_okq (⟨"VoiceHouseModel", "isOf", "(I)Z"⟩, 20) := ⟨⟨by decide +kernel, by decide +kernel⟩, List.mem_of_getElem? (i := 621) (by decide +kernel), List.mem_of_getElem? (i := 752) (by decide +kernel), List.mem_of_getElem? (i := 753) (by decide +kernel)⟩
theorem lw_p27 : lw_okq (⟨"VoiceHouseModel", "blocks", "()V"⟩, 20) := ⟨⟨by decide +kernel, by decide +kernel⟩, List.mem_of_getElem? (i := 621) (by decide +kernel), List.mem_of_getElem? (i := 763) (by decide +kernel), List.mem_of_getElem? (i := 764) (by decide +kernel)⟩
theorem lw_p28 : lw_okq (⟨"VoiceHouseModel", "nextBlock", "(I)I"⟩, 20) := ⟨⟨by decide +kernel, by decide +kernel⟩, List.mem_of_getElem? (i := 621) (by decide +kernel), List.mem_of_getElem? (i := 767) (by decide +kernel), List.mem_of_getElem? (i := 768) (by decide +kernel)⟩
theorem lw_p29 : lw_okq (⟨"VoiceHouseModel", "isOut", "(II)Z"⟩, 20) := ⟨⟨by decide +kernel, by decide +kernel⟩, List.mem_of_getElem? (i := 621) (by decide +kernel), List.mem_of_getElem? (i := 771) (by decide +kernel), List.mem_of_getElem? (i := 772) (by decide +kernel)⟩
theorem lw_p30 : lw_okq (⟨"VoiceHouseModel", "sumOf", "(IZ)I"⟩, 20) := ⟨⟨by decide +kernel, by decide +kernel⟩, List.mem_of_getElem? (i := 621) (by decide +kernel), List.mem_of_getElem? (i := 775) (by decide +kernel), List.mem_of_getElem? (i := 776) (by decide +kernel)⟩
theorem lw_p31 : lw_okq (⟨"VoiceHouseModel", "joins", "()V"⟩, 20) := ⟨⟨by decide +kernel, by decide +kernel⟩, List.mem_of_getElem? (i := 621) (by decide +kernel), List.mem_of_getElem? (i := 798) (by decide +kernel), List.mem_of_getElem? (i := 799) (by decide +kernel)⟩
def lw_privs_2 : List (MethodName × Nat) := [(⟨"VoiceHouse$Segments", "sumWithin", "(I)I"⟩, 9), (⟨"VoiceHouse$Segments", "leastOf", "(II)I"⟩, 9), (⟨"VoiceHouse$LineUp", "insert", "(II)V"⟩, 5), (⟨"VoiceHouse", "toneTold", "(II)I"⟩, 10), (⟨"VoiceHouseModel", "isRecording", "(I)Z"⟩, 20), (⟨"VoiceHouseModel", "shiftOf", "(II)I"⟩, 20), (⟨"VoiceHouseModel", "shiftPairs", "(II)I"⟩, 20), (⟨"VoiceHouseModel", "reckons", "()V"⟩, 20), (⟨"VoiceHouseModel", "scoreOf", "(II)I"⟩, 20), (⟨"VoiceHouseModel", "counts", "()V"⟩, 20), (⟨"VoiceHouseModel", "isOf", "(I)Z"⟩, 20), (⟨"VoiceHouseModel", "blocks", "()V"⟩, 20), (⟨"VoiceHouseModel", "nextBlock", "(I)I"⟩, 20), (⟨"VoiceHouseModel", "isOut", "(II)Z"⟩, 20), (⟨"VoiceHouseModel", "sumOf", "(IZ)I"⟩, 20), (⟨"VoiceHouseModel", "joins", "()V"⟩, 20)]
theorem lw_r2 : ∀ q ∈ lw_privs_2, lw_okq q := List.forall_mem_cons.mpr ⟨lw_p16, List.forall_mem_cons.mpr ⟨lw_p17, List.forall_mem_cons.mpr ⟨lw_p18, List.forall_mem_cons.mpr ⟨lw_p19, List.forall_mem_cons.mpr ⟨lw_p20, List.forall_mem_cons.mpr ⟨lw_p21, List.forall_mem_cons.mpr ⟨lw_p22, List.forall_mem_cons.mpr ⟨lw_p23, List.forall_mem_cons.mpr ⟨lw_p24, List.forall_mem_cons.mpr ⟨lw_p25, List.forall_mem_cons.mpr ⟨lw_p26, List.forall_mem_cons.mpr ⟨lw_p27, List.forall_mem_cons.mpr ⟨lw_p28, List.forall_mem_cons.mpr ⟨lw_p29, List.forall_mem_cons.mpr ⟨lw_p30, List.forall_mem_cons.mpr ⟨lw_p31, fun _ h => absurd h List.not_mem_nil⟩⟩⟩⟩⟩⟩⟩⟩⟩⟩⟩⟩⟩⟩⟩⟩
theorem lw_p32 : lw_okq (⟨"VoiceHouseModel", "scoresAll", "()V"⟩, 20) := ⟨⟨by decide +kernel, by decide +kernel⟩, List.mem_of_getElem? (i := 621) (by decide +kernel), List.mem_of_getElem? (i := 802) (by decide +kernel), List.mem_of_getElem? (i := 803) (by decide +kernel)⟩
theorem lw_p33 : lw_okq (⟨"VoiceHouseModel", "between", "(II)I"⟩, 20) := ⟨⟨by decide +kernel, by decide +kernel⟩, List.mem_of_getElem? (i := 621) (by decide +kernel), List.mem_of_getElem? (i := 806) (by decide +kernel), List.mem_of_getElem? (i := 807) (by decide +kernel)⟩
theorem lw_p34 : lw_okq (⟨"VoiceHouseModel", "costOf", "(I)I"⟩, 20) := ⟨⟨by decide +kernel, by decide +kernel⟩, List.mem_of_getElem? (i := 621) (by decide +kernel), List.mem_of_getElem? (i := 818) (by decide +kernel), List.mem_of_getElem? (i := 819) (by decide +kernel)⟩
theorem lw_p35 : lw_okq (⟨"VoiceHouseModel", "lines", "(I)I"⟩, 20) := ⟨⟨by decide +kernel, by decide +kernel⟩, List.mem_of_getElem? (i := 621) (by decide +kernel), List.mem_of_getElem? (i := 826) (by decide +kernel), List.mem_of_getElem? (i := 827) (by decide +kernel)⟩
def lw_privs_3 : List (MethodName × Nat) := [(⟨"VoiceHouseModel", "scoresAll", "()V"⟩, 20), (⟨"VoiceHouseModel", "between", "(II)I"⟩, 20), (⟨"VoiceHouseModel", "costOf", "(I)I"⟩, 20), (⟨"VoiceHouseModel", "lines", "(I)I"⟩, 20)]
theorem lw_r3 : ∀ q ∈ lw_privs_3, lw_okq q := List.forall_mem_cons.mpr ⟨lw_p32, List.forall_mem_cons.mpr ⟨lw_p33, List.forall_mem_cons.mpr ⟨lw_p34, List.forall_mem_cons.mpr ⟨lw_p35, fun _ h => absurd h List.not_mem_nil⟩⟩⟩⟩
def lw_privs : List (MethodName × Nat) := lw_privs_1 ++ (lw_privs_2 ++ (lw_privs_3))
def lw_tbl : List Cond := k2_sels lw_privs ++ tables_1
theorem lw_privs_ok : ∀ q ∈ lw_privs, lw_okq q := by
  show ∀ q ∈ lw_privs_1 ++ (lw_privs_2 ++ (lw_privs_3)), lw_okq q
  exact List.forall_mem_append.mpr ⟨lw_r1, List.forall_mem_append.mpr ⟨lw_r2, lw_r3⟩⟩
end
section
def RX0 : String := "VoiceHouse$Archive"
def TX0 : u_T := fun k => match k with
  | 0 => ("VoiceHouse$Archive", "channels", "[I", true)
  | 1 => ("VoiceHouse$Archive", "speakers", "[I", true)
  | 2 => ("VoiceHouse$Archive", "tones", "[I", true)
  | _ => ("VoiceHouse$Archive", "size", "I", false)
def tyX0 : Nat → FieldType := fun k => match k with
  | 0 => .array .int
  | 1 => .array .int
  | 2 => .array .int
  | _ => .int
abbrev wsX00 : List Cond := u_ws RX0 TX0 4
theorem nmX0 : ∀ a, a < 4 → ∀ b, b < 4 → a ≠ b → (TX0 a).2.1 ≠ (TX0 b).2.1 := by decide +kernel
theorem tyX0_ok : ∀ k, k < 4 → parseFieldDescriptor (TX0 k).2.2.1 = some (tyX0 k) := by decide +kernel
abbrev cX0_init : ByteArray := prog_2_method_1_code
def yX0_init : MethodName := ⟨RX0, "<init>", "()V"⟩
abbrev cX0_size : ByteArray := prog_2_method_2_code
def yX0_size : MethodName := ⟨RX0, "size", "()I"⟩
abbrev cX0_isFull : ByteArray := prog_2_method_3_code
def yX0_isFull : MethodName := ⟨RX0, "isFull", "()Z"⟩
abbrev cX0_has : ByteArray := prog_2_method_4_code
def yX0_has : MethodName := ⟨RX0, "has", "(I)Z"⟩
abbrev cX0_add : ByteArray := prog_2_method_5_code
def yX0_add : MethodName := ⟨RX0, "add", "(II)I"⟩
abbrev cX0_putTone : ByteArray := prog_2_method_6_code
def yX0_putTone : MethodName := ⟨RX0, "putTone", "(III)V"⟩
abbrev cX0_putSpeaker : ByteArray := prog_2_method_7_code
def yX0_putSpeaker : MethodName := ⟨RX0, "putSpeaker", "(II)V"⟩
abbrev cX0_channelOf : ByteArray := prog_2_method_8_code
def yX0_channelOf : MethodName := ⟨RX0, "channelOf", "(I)I"⟩
abbrev cX0_speakerOf : ByteArray := prog_2_method_9_code
def yX0_speakerOf : MethodName := ⟨RX0, "speakerOf", "(I)I"⟩
abbrev cX0_isKnown : ByteArray := prog_2_method_10_code
def yX0_isKnown : MethodName := ⟨RX0, "isKnown", "(I)Z"⟩
abbrev cX0_isOfSet : ByteArray := prog_2_method_11_code
def yX0_isOfSet : MethodName := ⟨RX0, "isOfSet", "(II)Z"⟩
abbrev cX0_toneAt : ByteArray := prog_2_method_12_code
def yX0_toneAt : MethodName := ⟨RX0, "toneAt", "(II)I"⟩
abbrev cX0_countTones : ByteArray := prog_2_method_13_code
def yX0_countTones : MethodName := ⟨RX0, "countTones", "(I)I"⟩
def RX1 : String := "VoiceHouse$BlindTests"
def TX1 : u_T := fun k => match k with
  | 0 => ("VoiceHouse$BlindTests", "outcomes", "[I", true)
  | _ => ("VoiceHouse$BlindTests", "putSoFar", "I", false)
def tyX1 : Nat → FieldType := fun k => match k with
  | 0 => .array .int
  | _ => .int
abbrev wsX10 : List Cond := u_ws RX1 TX1 2
theorem nmX1 : ∀ a, a < 2 → ∀ b, b < 2 → a ≠ b → (TX1 a).2.1 ≠ (TX1 b).2.1 := by decide +kernel
theorem tyX1_ok : ∀ k, k < 2 → parseFieldDescriptor (TX1 k).2.2.1 = some (tyX1 k) := by decide +kernel
abbrev cX1_init : ByteArray := prog_3_method_1_code
def yX1_init : MethodName := ⟨RX1, "<init>", "()V"⟩
abbrev cX1_areOver : ByteArray := prog_3_method_2_code
def yX1_areOver : MethodName := ⟨RX1, "areOver", "()Z"⟩
abbrev cX1_put : ByteArray := prog_3_method_3_code
def yX1_put : MethodName := ⟨RX1, "put", "(IIZ)I"⟩
abbrev cX1_outcome : ByteArray := prog_3_method_4_code
def yX1_outcome : MethodName := ⟨RX1, "outcome", "(I)I"⟩
def RX2 : String := "VoiceHouse$LineUp"
def TX2 : u_T := fun k => match k with
  | 0 => ("VoiceHouse$LineUp", "archive", "LVoiceHouse$Archive;", true)
  | 1 => ("VoiceHouse$LineUp", "scores", "LVoiceHouse$Scores;", true)
  | 2 => ("VoiceHouse$LineUp", "recordings", "[I", true)
  | 3 => ("VoiceHouse$LineUp", "distances", "[I", true)
  | _ => ("VoiceHouse$LineUp", "size", "I", false)
def tyX2 : Nat → FieldType := fun k => match k with
  | 0 => .object "VoiceHouse$Archive"
  | 1 => .object "VoiceHouse$Scores"
  | 2 => .array .int
  | 3 => .array .int
  | _ => .int
abbrev wsX20 : List Cond := u_ws RX2 TX2 5
theorem nmX2 : ∀ a, a < 5 → ∀ b, b < 5 → a ≠ b → (TX2 a).2.1 ≠ (TX2 b).2.1 := by decide +kernel
theorem tyX2_ok : ∀ k, k < 5 → parseFieldDescriptor (TX2 k).2.2.1 = some (tyX2 k) := by decide +kernel
abbrev cX2_init : ByteArray := prog_4_method_1_code
def yX2_init : MethodName := ⟨RX2, "<init>", "(LVoiceHouse$Archive;LVoiceHouse$Scores;)V"⟩
abbrev cX2_callFor : ByteArray := prog_4_method_2_code
def yX2_callFor : MethodName := ⟨RX2, "callFor", "(II)V"⟩
abbrev cX2_insert : ByteArray := prog_4_method_3_code
def yX2_insert : MethodName := ⟨RX2, "insert", "(II)V"⟩
abbrev cX2_at : ByteArray := prog_4_method_4_code
def yX2_at : MethodName := ⟨RX2, "at", "(I)I"⟩
abbrev cX2_speakersAhead : ByteArray := prog_4_method_5_code
def yX2_speakersAhead : MethodName := ⟨RX2, "speakersAhead", "(I)I"⟩
def RX3 : String := "VoiceHouse$PairBook"
def TX3 : u_T := fun k => match k with
  | 0 => ("VoiceHouse$PairBook", "archive", "LVoiceHouse$Archive;", true)
  | 1 => ("VoiceHouse$PairBook", "scores", "LVoiceHouse$Scores;", true)
  | 2 => ("VoiceHouse$PairBook", "bandSame", "[I", true)
  | 3 => ("VoiceHouse$PairBook", "bandOther", "[I", true)
  | 4 => ("VoiceHouse$PairBook", "blockFirst", "[I", true)
  | 5 => ("VoiceHouse$PairBook", "blockLast", "[I", true)
  | 6 => ("VoiceHouse$PairBook", "blockSame", "[I", true)
  | 7 => ("VoiceHouse$PairBook", "blockOther", "[I", true)
  | 8 => ("VoiceHouse$PairBook", "blocks", "I", false)
  | 9 => ("VoiceHouse$PairBook", "sumSame", "I", false)
  | _ => ("VoiceHouse$PairBook", "sumOther", "I", false)
def tyX3 : Nat → FieldType := fun k => match k with
  | 0 => .object "VoiceHouse$Archive"
  | 1 => .object "VoiceHouse$Scores"
  | 2 => .array .int
  | 3 => .array .int
  | 4 => .array .int
  | 5 => .array .int
  | 6 => .array .int
  | 7 => .array .int
  | 8 => .int
  | 9 => .int
  | _ => .int
abbrev wsX30 : List Cond := u_ws RX3 TX3 11
theorem nmX3 : ∀ a, a < 11 → ∀ b, b < 11 → a ≠ b → (TX3 a).2.1 ≠ (TX3 b).2.1 := by decide +kernel
theorem tyX3_ok : ∀ k, k < 11 → parseFieldDescriptor (TX3 k).2.2.1 = some (tyX3 k) := by decide +kernel
abbrev cX3_init : ByteArray := prog_5_method_1_code
def yX3_init : MethodName := ⟨RX3, "<init>", "(LVoiceHouse$Archive;LVoiceHouse$Scores;)V"⟩
abbrev cX3_fillFor : ByteArray := prog_5_method_2_code
def yX3_fillFor : MethodName := ⟨RX3, "fillFor", "(I)V"⟩
abbrev cX3_countPairs : ByteArray := prog_5_method_3_code
def yX3_countPairs : MethodName := ⟨RX3, "countPairs", "(I)V"⟩
abbrev cX3_countPair : ByteArray := prog_5_method_4_code
def yX3_countPair : MethodName := ⟨RX3, "countPair", "(II)V"⟩
abbrev cX3_makeBlocks : ByteArray := prog_5_method_5_code
def yX3_makeBlocks : MethodName := ⟨RX3, "makeBlocks", "()V"⟩
abbrev cX3_putBlocksInOrder : ByteArray := prog_5_method_6_code
def yX3_putBlocksInOrder : MethodName := ⟨RX3, "putBlocksInOrder", "()V"⟩
abbrev cX3_findOutOfOrder : ByteArray := prog_5_method_7_code
def yX3_findOutOfOrder : MethodName := ⟨RX3, "findOutOfOrder", "()I"⟩
abbrev cX3_isOutOfOrder : ByteArray := prog_5_method_8_code
def yX3_isOutOfOrder : MethodName := ⟨RX3, "isOutOfOrder", "(II)Z"⟩
abbrev cX3_joinWithNext : ByteArray := prog_5_method_9_code
def yX3_joinWithNext : MethodName := ⟨RX3, "joinWithNext", "(I)V"⟩
abbrev cX3_findBlock : ByteArray := prog_5_method_10_code
def yX3_findBlock : MethodName := ⟨RX3, "findBlock", "(I)I"⟩
abbrev cX3_isEmptyBand : ByteArray := prog_5_method_11_code
def yX3_isEmptyBand : MethodName := ⟨RX3, "isEmptyBand", "(I)Z"⟩
abbrev cX3_sameIn : ByteArray := prog_5_method_12_code
def yX3_sameIn : MethodName := ⟨RX3, "sameIn", "(I)I"⟩
abbrev cX3_otherIn : ByteArray := prog_5_method_13_code
def yX3_otherIn : MethodName := ⟨RX3, "otherIn", "(I)I"⟩
abbrev cX3_firstBandOf : ByteArray := prog_5_method_14_code
def yX3_firstBandOf : MethodName := ⟨RX3, "firstBandOf", "(I)I"⟩
abbrev cX3_lastBandOf : ByteArray := prog_5_method_15_code
def yX3_lastBandOf : MethodName := ⟨RX3, "lastBandOf", "(I)I"⟩
abbrev cX3_sameOf : ByteArray := prog_5_method_16_code
def yX3_sameOf : MethodName := ⟨RX3, "sameOf", "(I)I"⟩
abbrev cX3_otherOf : ByteArray := prog_5_method_17_code
def yX3_otherOf : MethodName := ⟨RX3, "otherOf", "(I)I"⟩
abbrev cX3_reaches : ByteArray := prog_5_method_18_code
def yX3_reaches : MethodName := ⟨RX3, "reaches", "(I)Z"⟩
abbrev cX3_allSame : ByteArray := prog_5_method_19_code
def yX3_allSame : MethodName := ⟨RX3, "allSame", "()I"⟩
abbrev cX3_allOther : ByteArray := prog_5_method_20_code
def yX3_allOther : MethodName := ⟨RX3, "allOther", "()I"⟩
abbrev cX3_countBlocks : ByteArray := prog_5_method_21_code
def yX3_countBlocks : MethodName := ⟨RX3, "countBlocks", "()I"⟩
def RX4 : String := "VoiceHouse$Scores"
def TX4 : u_T := fun k => match k with
  | 0 => ("VoiceHouse$Scores", "archive", "LVoiceHouse$Archive;", true)
  | _ => ("VoiceHouse$Scores", "shifts", "LVoiceHouse$Shifts;", true)
def tyX4 : Nat → FieldType := fun k => match k with
  | 0 => .object "VoiceHouse$Archive"
  | _ => .object "VoiceHouse$Shifts"
abbrev wsX40 : List Cond := u_ws RX4 TX4 2
theorem nmX4 : ∀ a, a < 2 → ∀ b, b < 2 → a ≠ b → (TX4 a).2.1 ≠ (TX4 b).2.1 := by decide +kernel
theorem tyX4_ok : ∀ k, k < 2 → parseFieldDescriptor (TX4 k).2.2.1 = some (tyX4 k) := by decide +kernel
abbrev cX4_init : ByteArray := prog_6_method_1_code
def yX4_init : MethodName := ⟨RX4, "<init>", "(LVoiceHouse$Archive;LVoiceHouse$Shifts;)V"⟩
abbrev cX4_between : ByteArray := prog_6_method_2_code
def yX4_between : MethodName := ⟨RX4, "between", "(II)I"⟩
def RX5 : String := "VoiceHouse$Segments"
def TX5 : u_T := fun k => match k with
  | 0 => ("VoiceHouse$Segments", "scores", "LVoiceHouse$Scores;", true)
  | 1 => ("VoiceHouse$Segments", "recordings", "[I", true)
  | 2 => ("VoiceHouse$Segments", "table", "[I", true)
  | 3 => ("VoiceHouse$Segments", "voiceOf", "[I", true)
  | 4 => ("VoiceHouse$Segments", "within", "[I", true)
  | 5 => ("VoiceHouse$Segments", "least", "[I", true)
  | 6 => ("VoiceHouse$Segments", "size", "I", false)
  | 7 => ("VoiceHouse$Segments", "crossSum", "I", false)
  | _ => ("VoiceHouse$Segments", "crossPairs", "I", false)
def tyX5 : Nat → FieldType := fun k => match k with
  | 0 => .object "VoiceHouse$Scores"
  | 1 => .array .int
  | 2 => .array .int
  | 3 => .array .int
  | 4 => .array .int
  | 5 => .array .int
  | 6 => .int
  | 7 => .int
  | _ => .int
abbrev wsX50 : List Cond := u_ws RX5 TX5 9
theorem nmX5 : ∀ a, a < 9 → ∀ b, b < 9 → a ≠ b → (TX5 a).2.1 ≠ (TX5 b).2.1 := by decide +kernel
theorem tyX5_ok : ∀ k, k < 9 → parseFieldDescriptor (TX5 k).2.2.1 = some (tyX5 k) := by decide +kernel
abbrev cX5_init : ByteArray := prog_7_method_1_code
def yX5_init : MethodName := ⟨RX5, "<init>", "(LVoiceHouse$Scores;)V"⟩
abbrev cX5_size : ByteArray := prog_7_method_2_code
def yX5_size : MethodName := ⟨RX5, "size", "()I"⟩
abbrev cX5_isFull : ByteArray := prog_7_method_3_code
def yX5_isFull : MethodName := ⟨RX5, "isFull", "()Z"⟩
abbrev cX5_isListed : ByteArray := prog_7_method_4_code
def yX5_isListed : MethodName := ⟨RX5, "isListed", "(I)Z"⟩
abbrev cX5_add : ByteArray := prog_7_method_5_code
def yX5_add : MethodName := ⟨RX5, "add", "(I)V"⟩
abbrev cX5_empty : ByteArray := prog_7_method_6_code
def yX5_empty : MethodName := ⟨RX5, "empty", "()I"⟩
abbrev cX5_readScores : ByteArray := prog_7_method_7_code
def yX5_readScores : MethodName := ⟨RX5, "readScores", "()V"⟩
abbrev cX5_join : ByteArray := prog_7_method_8_code
def yX5_join : MethodName := ⟨RX5, "join", "(I)V"⟩
abbrev cX5_joinNearestTwo : ByteArray := prog_7_method_9_code
def yX5_joinNearestTwo : MethodName := ⟨RX5, "joinNearestTwo", "(I)Z"⟩
abbrev cX5_isVoice : ByteArray := prog_7_method_10_code
def yX5_isVoice : MethodName := ⟨RX5, "isVoice", "(I)Z"⟩
abbrev cX5_measureCross : ByteArray := prog_7_method_11_code
def yX5_measureCross : MethodName := ⟨RX5, "measureCross", "(II)Z"⟩
abbrev cX5_putTogether : ByteArray := prog_7_method_12_code
def yX5_putTogether : MethodName := ⟨RX5, "putTogether", "(II)V"⟩
abbrev cX5_voiceAt : ByteArray := prog_7_method_13_code
def yX5_voiceAt : MethodName := ⟨RX5, "voiceAt", "(I)I"⟩
abbrev cX5_countVoices : ByteArray := prog_7_method_14_code
def yX5_countVoices : MethodName := ⟨RX5, "countVoices", "()I"⟩
abbrev cX5_leastCost : ByteArray := prog_7_method_15_code
def yX5_leastCost : MethodName := ⟨RX5, "leastCost", "(I)I"⟩
abbrev cX5_sumWithin : ByteArray := prog_7_method_16_code
def yX5_sumWithin : MethodName := ⟨RX5, "sumWithin", "(I)I"⟩
abbrev cX5_leastOf : ByteArray := prog_7_method_17_code
def yX5_leastOf : MethodName := ⟨RX5, "leastOf", "(II)I"⟩
def RX6 : String := "VoiceHouse$Shifts"
def TX6 : u_T := fun k => match k with
  | 0 => ("VoiceHouse$Shifts", "archive", "LVoiceHouse$Archive;", true)
  | 1 => ("VoiceHouse$Shifts", "sums", "[I", true)
  | 2 => ("VoiceHouse$Shifts", "pairs", "[I", true)
  | _ => ("VoiceHouse$Shifts", "means", "[I", true)
def tyX6 : Nat → FieldType := fun k => match k with
  | 0 => .object "VoiceHouse$Archive"
  | 1 => .array .int
  | 2 => .array .int
  | _ => .array .int
abbrev wsX60 : List Cond := u_ws RX6 TX6 4
theorem nmX6 : ∀ a, a < 4 → ∀ b, b < 4 → a ≠ b → (TX6 a).2.1 ≠ (TX6 b).2.1 := by decide +kernel
theorem tyX6_ok : ∀ k, k < 4 → parseFieldDescriptor (TX6 k).2.2.1 = some (tyX6 k) := by decide +kernel
abbrev cX6_init : ByteArray := prog_8_method_1_code
def yX6_init : MethodName := ⟨RX6, "<init>", "(LVoiceHouse$Archive;)V"⟩
abbrev cX6_measureAll : ByteArray := prog_8_method_2_code
def yX6_measureAll : MethodName := ⟨RX6, "measureAll", "()V"⟩
abbrev cX6_measure : ByteArray := prog_8_method_3_code
def yX6_measure : MethodName := ⟨RX6, "measure", "(I)V"⟩
abbrev cX6_addPairsOf : ByteArray := prog_8_method_4_code
def yX6_addPairsOf : MethodName := ⟨RX6, "addPairsOf", "(II)V"⟩
abbrev cX6_at : ByteArray := prog_8_method_5_code
def yX6_at : MethodName := ⟨RX6, "at", "(II)I"⟩
abbrev cX6_isUnheard : ByteArray := prog_8_method_6_code
def yX6_isUnheard : MethodName := ⟨RX6, "isUnheard", "(II)Z"⟩
def RX7 : String := "VoiceHouse"
def TX7 : u_T := fun k => match k with
  | 0 => ("VoiceHouse", "archive", "LVoiceHouse$Archive;", true)
  | 1 => ("VoiceHouse", "shifts", "LVoiceHouse$Shifts;", true)
  | 2 => ("VoiceHouse", "scores", "LVoiceHouse$Scores;", true)
  | 3 => ("VoiceHouse", "pairBook", "LVoiceHouse$PairBook;", true)
  | 4 => ("VoiceHouse", "segments", "LVoiceHouse$Segments;", true)
  | 5 => ("VoiceHouse", "lineUp", "LVoiceHouse$LineUp;", true)
  | 6 => ("VoiceHouse", "blindTests", "LVoiceHouse$BlindTests;", true)
  | 7 => ("VoiceHouse", "speakersInSet", "I", false)
  | 8 => ("VoiceHouse", "limitNow", "I", false)
  | _ => ("VoiceHouse", "pairsAreOld", "Z", false)
def tyX7 : Nat → FieldType := fun k => match k with
  | 0 => .object "VoiceHouse$Archive"
  | 1 => .object "VoiceHouse$Shifts"
  | 2 => .object "VoiceHouse$Scores"
  | 3 => .object "VoiceHouse$PairBook"
  | 4 => .object "VoiceHouse$Segments"
  | 5 => .object "VoiceHouse$LineUp"
  | 6 => .object "VoiceHouse$BlindTests"
  | 7 => .int
  | 8 => .int
  | _ => .boolean
abbrev wsX70 : List Cond := u_ws RX7 TX7 10
theorem nmX7 : ∀ a, a < 10 → ∀ b, b < 10 → a ≠ b → (TX7 a).2.1 ≠ (TX7 b).2.1 := by decide +kernel
theorem tyX7_ok : ∀ k, k < 10 → parseFieldDescriptor (TX7 k).2.2.1 = some (tyX7 k) := by decide +kernel
abbrev cX7_init : ByteArray := prog_1_method_1_code
def yX7_init : MethodName := ⟨RX7, "<init>", "()V"⟩
abbrev cX7_record : ByteArray := prog_1_method_2_code
def yX7_record : MethodName := ⟨RX7, "record", "(II)I"⟩
abbrev cX7_tone : ByteArray := prog_1_method_3_code
def yX7_tone : MethodName := ⟨RX7, "tone", "(III)Z"⟩
abbrev cX7_know : ByteArray := prog_1_method_4_code
def yX7_know : MethodName := ⟨RX7, "know", "(II)Z"⟩
abbrev cX7_set : ByteArray := prog_1_method_5_code
def yX7_set : MethodName := ⟨RX7, "set", "(I)Z"⟩
abbrev cX7_limit : ByteArray := prog_1_method_6_code
def yX7_limit : MethodName := ⟨RX7, "limit", "(I)Z"⟩
abbrev cX7_shift : ByteArray := prog_1_method_7_code
def yX7_shift : MethodName := ⟨RX7, "shift", "(II)I"⟩
abbrev cX7_hidden : ByteArray := prog_1_method_8_code
def yX7_hidden : MethodName := ⟨RX7, "hidden", "(II)Z"⟩
abbrev cX7_score : ByteArray := prog_1_method_9_code
def yX7_score : MethodName := ⟨RX7, "score", "(II)I"⟩
abbrev cX7_band : ByteArray := prog_1_method_10_code
def yX7_band : MethodName := ⟨RX7, "band", "(II)I"⟩
abbrev cX7_block : ByteArray := prog_1_method_11_code
def yX7_block : MethodName := ⟨RX7, "block", "(II)I"⟩
abbrev cX7_odds : ByteArray := prog_1_method_12_code
def yX7_odds : MethodName := ⟨RX7, "odds", "(II)I"⟩
abbrev cX7_segment : ByteArray := prog_1_method_13_code
def yX7_segment : MethodName := ⟨RX7, "segment", "(I)I"⟩
abbrev cX7_clear : ByteArray := prog_1_method_14_code
def yX7_clear : MethodName := ⟨RX7, "clear", "()I"⟩
abbrev cX7_voice : ByteArray := prog_1_method_15_code
def yX7_voice : MethodName := ⟨RX7, "voice", "(I)I"⟩
abbrev cX7_voices : ByteArray := prog_1_method_16_code
def yX7_voices : MethodName := ⟨RX7, "voices", "()I"⟩
abbrev cX7_spare : ByteArray := prog_1_method_17_code
def yX7_spare : MethodName := ⟨RX7, "spare", "()I"⟩
abbrev cX7_lined : ByteArray := prog_1_method_18_code
def yX7_lined : MethodName := ⟨RX7, "lined", "(II)I"⟩
abbrev cX7_rank : ByteArray := prog_1_method_19_code
def yX7_rank : MethodName := ⟨RX7, "rank", "(II)I"⟩
abbrev cX7_test : ByteArray := prog_1_method_20_code
def yX7_test : MethodName := ⟨RX7, "test", "(II)I"⟩
abbrev cX7_right : ByteArray := prog_1_method_21_code
def yX7_right : MethodName := ⟨RX7, "right", "(I)I"⟩
abbrev cX7_told : ByteArray := prog_1_method_22_code
def yX7_told : MethodName := ⟨RX7, "told", "(II)I"⟩
abbrev cX7_count : ByteArray := prog_1_method_23_code
def yX7_count : MethodName := ⟨RX7, "count", "(I)I"⟩
abbrev cX7_toneTold : ByteArray := prog_1_method_24_code
def yX7_toneTold : MethodName := ⟨RX7, "toneTold", "(II)I"⟩
abbrev cX7_freshPairs : ByteArray := prog_1_method_25_code
def yX7_freshPairs : MethodName := ⟨RX7, "freshPairs", "()LVoiceHouse$PairBook;"⟩
abbrev cX7_areTwo : ByteArray := prog_1_method_26_code
def yX7_areTwo : MethodName := ⟨RX7, "areTwo", "(II)Z"⟩
abbrev cX7_isChannel : ByteArray := prog_1_method_27_code
def yX7_isChannel : MethodName := ⟨RX7, "isChannel", "(I)Z"⟩
abbrev cX7_isPlace : ByteArray := prog_1_method_28_code
def yX7_isPlace : MethodName := ⟨RX7, "isPlace", "(I)Z"⟩
abbrev cX7_isSpeaker : ByteArray := prog_1_method_29_code
def yX7_isSpeaker : MethodName := ⟨RX7, "isSpeaker", "(I)Z"⟩
abbrev cX7_isSpeakerOrNobody : ByteArray := prog_1_method_30_code
def yX7_isSpeakerOrNobody : MethodName := ⟨RX7, "isSpeakerOrNobody", "(I)Z"⟩
abbrev cX7_isBand : ByteArray := prog_1_method_31_code
def yX7_isBand : MethodName := ⟨RX7, "isBand", "(I)Z"⟩
abbrev cX7_bandOf : ByteArray := prog_1_method_32_code
def yX7_bandOf : MethodName := ⟨RX7, "bandOf", "(I)I"⟩
def RX8 : String := "VoiceHouseModel"
def TX8 : u_T := fun k => match k with
  | 0 => ("VoiceHouseModel", "recordings", "I", false)
  | 1 => ("VoiceHouseModel", "tone", "[I", true)
  | 2 => ("VoiceHouseModel", "channel", "[I", true)
  | 3 => ("VoiceHouseModel", "speaker", "[I", true)
  | 4 => ("VoiceHouseModel", "set", "I", false)
  | 5 => ("VoiceHouseModel", "limit", "I", false)
  | 6 => ("VoiceHouseModel", "segments", "I", false)
  | 7 => ("VoiceHouseModel", "segment", "[I", true)
  | 8 => ("VoiceHouseModel", "tests", "I", false)
  | 9 => ("VoiceHouseModel", "right", "[I", true)
  | 10 => ("VoiceHouseModel", "shiftSum", "I", false)
  | 11 => ("VoiceHouseModel", "shifts", "[I", true)
  | 12 => ("VoiceHouseModel", "same", "[I", true)
  | 13 => ("VoiceHouseModel", "other", "[I", true)
  | 14 => ("VoiceHouseModel", "first", "[I", true)
  | 15 => ("VoiceHouseModel", "scores", "[I", true)
  | 16 => ("VoiceHouseModel", "voice", "[I", true)
  | 17 => ("VoiceHouseModel", "pairs", "I", false)
  | 18 => ("VoiceHouseModel", "least", "[I", true)
  | _ => ("VoiceHouseModel", "line", "[I", true)
def tyX8 : Nat → FieldType := fun k => match k with
  | 0 => .int
  | 1 => .array .int
  | 2 => .array .int
  | 3 => .array .int
  | 4 => .int
  | 5 => .int
  | 6 => .int
  | 7 => .array .int
  | 8 => .int
  | 9 => .array .int
  | 10 => .int
  | 11 => .array .int
  | 12 => .array .int
  | 13 => .array .int
  | 14 => .array .int
  | 15 => .array .int
  | 16 => .array .int
  | 17 => .int
  | 18 => .array .int
  | _ => .array .int
abbrev wsX80 : List Cond := u_ws RX8 TX8 20
theorem nmX8 : ∀ a, a < 20 → ∀ b, b < 20 → a ≠ b → (TX8 a).2.1 ≠ (TX8 b).2.1 := by decide +kernel
theorem tyX8_ok : ∀ k, k < 20 → parseFieldDescriptor (TX8 k).2.2.1 = some (tyX8 k) := by decide +kernel
abbrev cX8_init : ByteArray := prog_10_method_1_code
def yX8_init : MethodName := ⟨RX8, "<init>", "()V"⟩
abbrev cX8_in : ByteArray := prog_10_method_2_code
def yX8_in : MethodName := ⟨RX8, "in", "(III)Z"⟩
abbrev cX8_isRecording : ByteArray := prog_10_method_3_code
def yX8_isRecording : MethodName := ⟨RX8, "isRecording", "(I)Z"⟩
abbrev cX8_record : ByteArray := prog_10_method_4_code
def yX8_record : MethodName := ⟨RX8, "record", "(II)I"⟩
abbrev cX8_tone : ByteArray := prog_10_method_5_code
def yX8_tone : MethodName := ⟨RX8, "tone", "(III)Z"⟩
abbrev cX8_know : ByteArray := prog_10_method_6_code
def yX8_know : MethodName := ⟨RX8, "know", "(II)Z"⟩
abbrev cX8_set : ByteArray := prog_10_method_7_code
def yX8_set : MethodName := ⟨RX8, "set", "(I)Z"⟩
abbrev cX8_limit : ByteArray := prog_10_method_8_code
def yX8_limit : MethodName := ⟨RX8, "limit", "(I)Z"⟩
abbrev cX8_shiftPairs : ByteArray := prog_10_method_9_code
def yX8_shiftPairs : MethodName := ⟨RX8, "shiftPairs", "(II)I"⟩
abbrev cX8_shiftOf : ByteArray := prog_10_method_10_code
def yX8_shiftOf : MethodName := ⟨RX8, "shiftOf", "(II)I"⟩
abbrev cX8_shift : ByteArray := prog_10_method_11_code
def yX8_shift : MethodName := ⟨RX8, "shift", "(II)I"⟩
abbrev cX8_hidden : ByteArray := prog_10_method_12_code
def yX8_hidden : MethodName := ⟨RX8, "hidden", "(II)Z"⟩
abbrev cX8_reckons : ByteArray := prog_10_method_13_code
def yX8_reckons : MethodName := ⟨RX8, "reckons", "()V"⟩
abbrev cX8_scoreOf : ByteArray := prog_10_method_14_code
def yX8_scoreOf : MethodName := ⟨RX8, "scoreOf", "(II)I"⟩
abbrev cX8_score : ByteArray := prog_10_method_15_code
def yX8_score : MethodName := ⟨RX8, "score", "(II)I"⟩
abbrev cX8_isOf : ByteArray := prog_10_method_16_code
def yX8_isOf : MethodName := ⟨RX8, "isOf", "(I)Z"⟩
abbrev cX8_bandOf : ByteArray := prog_10_method_17_code
def yX8_bandOf : MethodName := ⟨RX8, "bandOf", "(I)I"⟩
abbrev cX8_counts : ByteArray := prog_10_method_18_code
def yX8_counts : MethodName := ⟨RX8, "counts", "()V"⟩
abbrev cX8_sumOf : ByteArray := prog_10_method_19_code
def yX8_sumOf : MethodName := ⟨RX8, "sumOf", "(IZ)I"⟩
abbrev cX8_nextBlock : ByteArray := prog_10_method_20_code
def yX8_nextBlock : MethodName := ⟨RX8, "nextBlock", "(I)I"⟩
abbrev cX8_isOut : ByteArray := prog_10_method_21_code
def yX8_isOut : MethodName := ⟨RX8, "isOut", "(II)Z"⟩
abbrev cX8_blocks : ByteArray := prog_10_method_22_code
def yX8_blocks : MethodName := ⟨RX8, "blocks", "()V"⟩
abbrev cX8_band : ByteArray := prog_10_method_23_code
def yX8_band : MethodName := ⟨RX8, "band", "(II)I"⟩
abbrev cX8_block : ByteArray := prog_10_method_24_code
def yX8_block : MethodName := ⟨RX8, "block", "(II)I"⟩
abbrev cX8_all : ByteArray := prog_10_method_25_code
def yX8_all : MethodName := ⟨RX8, "all", "([I)I"⟩
abbrev cX8_odds : ByteArray := prog_10_method_26_code
def yX8_odds : MethodName := ⟨RX8, "odds", "(II)I"⟩
abbrev cX8_segment : ByteArray := prog_10_method_27_code
def yX8_segment : MethodName := ⟨RX8, "segment", "(I)I"⟩
abbrev cX8_clear : ByteArray := prog_10_method_28_code
def yX8_clear : MethodName := ⟨RX8, "clear", "()I"⟩
abbrev cX8_scoresAll : ByteArray := prog_10_method_29_code
def yX8_scoresAll : MethodName := ⟨RX8, "scoresAll", "()V"⟩
abbrev cX8_between : ByteArray := prog_10_method_30_code
def yX8_between : MethodName := ⟨RX8, "between", "(II)I"⟩
abbrev cX8_joins : ByteArray := prog_10_method_31_code
def yX8_joins : MethodName := ⟨RX8, "joins", "()V"⟩
abbrev cX8_voice : ByteArray := prog_10_method_32_code
def yX8_voice : MethodName := ⟨RX8, "voice", "(I)I"⟩
abbrev cX8_voices : ByteArray := prog_10_method_33_code
def yX8_voices : MethodName := ⟨RX8, "voices", "()I"⟩
abbrev cX8_costOf : ByteArray := prog_10_method_34_code
def yX8_costOf : MethodName := ⟨RX8, "costOf", "(I)I"⟩
abbrev cX8_spare : ByteArray := prog_10_method_35_code
def yX8_spare : MethodName := ⟨RX8, "spare", "()I"⟩
abbrev cX8_lines : ByteArray := prog_10_method_36_code
def yX8_lines : MethodName := ⟨RX8, "lines", "(I)I"⟩
abbrev cX8_lined : ByteArray := prog_10_method_37_code
def yX8_lined : MethodName := ⟨RX8, "lined", "(II)I"⟩
abbrev cX8_rank : ByteArray := prog_10_method_38_code
def yX8_rank : MethodName := ⟨RX8, "rank", "(II)I"⟩
abbrev cX8_test : ByteArray := prog_10_method_39_code
def yX8_test : MethodName := ⟨RX8, "test", "(II)I"⟩
abbrev cX8_right : ByteArray := prog_10_method_40_code
def yX8_right : MethodName := ⟨RX8, "right", "(I)I"⟩
abbrev cX8_told : ByteArray := prog_10_method_41_code
def yX8_told : MethodName := ⟨RX8, "told", "(II)I"⟩
abbrev cX8_count : ByteArray := prog_10_method_42_code
def yX8_count : MethodName := ⟨RX8, "count", "(I)I"⟩
def RJ6 : String := "java/lang/Integer"
def TJ6 : u_T := fun k => match k with
  | _ => ("", "", "", false)
def tyJ6 : Nat → FieldType := fun k => match k with
  | _ => .int
abbrev wsJ60 : List Cond := u_ws RJ6 TJ6 0
theorem nmJ6 : ∀ a, a < 0 → ∀ b, b < 0 → a ≠ b → (TJ6 a).2.1 ≠ (TJ6 b).2.1 := by decide +kernel
theorem tyJ6_ok : ∀ k, k < 0 → parseFieldDescriptor (TJ6 k).2.2.1 = some (tyJ6 k) := by decide +kernel
abbrev cJ6_numberOfTrailingZeros_0f7a4 : ByteArray := prog_11_method_48_code
def yJ6_numberOfTrailingZeros_0f7a4 : MethodName := ⟨RJ6, "numberOfTrailingZeros", "(I)I"⟩
abbrev cJ6_bitCount_0f7a4 : ByteArray := prog_11_method_49_code
def yJ6_bitCount_0f7a4 : MethodName := ⟨RJ6, "bitCount", "(I)I"⟩
def RJ9 : String := "java/lang/Math"
def TJ9 : u_T := fun k => match k with
  | _ => ("", "", "", false)
def tyJ9 : Nat → FieldType := fun k => match k with
  | _ => .int
abbrev wsJ90 : List Cond := u_ws RJ9 TJ9 0
theorem nmJ9 : ∀ a, a < 0 → ∀ b, b < 0 → a ≠ b → (TJ9 a).2.1 ≠ (TJ9 b).2.1 := by decide +kernel
theorem tyJ9_ok : ∀ k, k < 0 → parseFieldDescriptor (TJ9 k).2.2.1 = some (tyJ9 k) := by decide +kernel
abbrev cJ9_floorDiv_7cf53 : ByteArray := prog_12_method_47_code
def yJ9_floorDiv_7cf53 : MethodName := ⟨RJ9, "floorDiv", "(II)I"⟩
abbrev cJ9_abs_0f7a4 : ByteArray := prog_12_method_59_code
def yJ9_abs_0f7a4 : MethodName := ⟨RJ9, "abs", "(I)I"⟩
abbrev cJ9_min_7cf53 : ByteArray := prog_12_method_69_code
def yJ9_min_7cf53 : MethodName := ⟨RJ9, "min", "(II)I"⟩
def RJ7 : String := "java/util/Arrays"
def TJ7 : u_T := fun k => match k with
  | _ => ("", "", "", false)
def tyJ7 : Nat → FieldType := fun k => match k with
  | _ => .int
abbrev wsJ70 : List Cond := u_ws RJ7 TJ7 0
theorem nmJ7 : ∀ a, a < 0 → ∀ b, b < 0 → a ≠ b → (TJ7 a).2.1 ≠ (TJ7 b).2.1 := by decide +kernel
theorem tyJ7_ok : ∀ k, k < 0 → parseFieldDescriptor (TJ7 k).2.2.1 = some (tyJ7 k) := by decide +kernel
abbrev cJ7_fill_53178 : ByteArray := prog_13_method_103_code
def yJ7_fill_53178 : MethodName := ⟨RJ7, "fill", "([II)V"⟩
def RL : String := "VoiceHouseLaw"
abbrev cL_law : ByteArray := code
def yL_law : MethodName := ⟨RL, "law", "([I)Z"⟩
end
section
theorem dX0_init_0 : decode cX0_init 0 = .ok (.aload_n 0, 1) := by decide +kernel
theorem dX0_init_1 : decode cX0_init 1 = .ok (.invokespecial 3, 3) := by decide +kernel
theorem dX0_init_4 : decode cX0_init 4 = .ok (.aload_n 0, 1) := by decide +kernel
theorem dX0_init_5 : decode cX0_init 5 = .ok (.bipush 30, 2) := by decide +kernel
theorem dX0_init_7 : decode cX0_init 7 = .ok (.newarray .int, 2) := by decide +kernel
theorem dX0_init_9 : decode cX0_init 9 = .ok (.putfield 9, 3) := by decide +kernel
theorem dX0_init_12 : decode cX0_init 12 = .ok (.aload_n 0, 1) := by decide +kernel
theorem dX0_init_13 : decode cX0_init 13 = .ok (.bipush 30, 2) := by decide +kernel
theorem dX0_init_15 : decode cX0_init 15 = .ok (.newarray .int, 2) := by decide +kernel
theorem dX0_init_17 : decode cX0_init 17 = .ok (.putfield 15, 3) := by decide +kernel
theorem dX0_init_20 : decode cX0_init 20 = .ok (.aload_n 0, 1) := by decide +kernel
theorem dX0_init_21 : decode cX0_init 21 = .ok (.sipush 180, 3) := by decide +kernel
theorem dX0_init_24 : decode cX0_init 24 = .ok (.newarray .int, 2) := by decide +kernel
theorem dX0_init_26 : decode cX0_init 26 = .ok (.putfield 18, 3) := by decide +kernel
theorem dX0_init_29 : decode cX0_init 29 = .ok (.aload_n 0, 1) := by decide +kernel
theorem dX0_init_30 : decode cX0_init 30 = .ok (.getfield 18, 3) := by decide +kernel
theorem dX0_init_33 : decode cX0_init 33 = .ok (.iconst (-1), 1) := by decide +kernel
theorem dX0_init_34 : decode cX0_init 34 = .ok (.invokestatic 21, 3) := by decide +kernel
theorem dX0_init_37 : decode cX0_init 37 = .ok (.aload_n 0, 1) := by decide +kernel
theorem dX0_init_38 : decode cX0_init 38 = .ok (.iconst 0, 1) := by decide +kernel
theorem dX0_init_39 : decode cX0_init 39 = .ok (.putfield 27, 3) := by decide +kernel
theorem dX0_init_42 : decode cX0_init 42 = .ok (.return_, 1) := by decide +kernel
theorem dX0_size_0 : decode cX0_size 0 = .ok (.aload_n 0, 1) := by decide +kernel
theorem dX0_size_1 : decode cX0_size 1 = .ok (.getfield 27, 3) := by decide +kernel
theorem dX0_size_4 : decode cX0_size 4 = .ok (.ireturn, 1) := by decide +kernel
theorem dX0_isFull_0 : decode cX0_isFull 0 = .ok (.aload_n 0, 1) := by decide +kernel
theorem dX0_isFull_1 : decode cX0_isFull 1 = .ok (.getfield 27, 3) := by decide +kernel
theorem dX0_isFull_4 : decode cX0_isFull 4 = .ok (.bipush 30, 2) := by decide +kernel
theorem dX0_isFull_6 : decode cX0_isFull 6 = .ok (.if_icmp .lt 7, 3) := by decide +kernel
theorem dX0_isFull_9 : decode cX0_isFull 9 = .ok (.iconst 1, 1) := by decide +kernel
theorem dX0_isFull_10 : decode cX0_isFull 10 = .ok (.goto 4, 3) := by decide +kernel
theorem dX0_isFull_13 : decode cX0_isFull 13 = .ok (.iconst 0, 1) := by decide +kernel
theorem dX0_isFull_14 : decode cX0_isFull 14 = .ok (.ireturn, 1) := by decide +kernel
theorem dX0_has_0 : decode cX0_has 0 = .ok (.iload_n 1, 1) := by decide +kernel
theorem dX0_has_1 : decode cX0_has 1 = .ok (.ifCond .lt 15, 3) := by decide +kernel
theorem dX0_has_4 : decode cX0_has 4 = .ok (.iload_n 1, 1) := by decide +kernel
theorem dX0_has_5 : decode cX0_has 5 = .ok (.aload_n 0, 1) := by decide +kernel
theorem dX0_has_6 : decode cX0_has 6 = .ok (.getfield 27, 3) := by decide +kernel
theorem dX0_has_9 : decode cX0_has 9 = .ok (.if_icmp .ge 7, 3) := by decide +kernel
theorem dX0_has_12 : decode cX0_has 12 = .ok (.iconst 1, 1) := by decide +kernel
theorem dX0_has_13 : decode cX0_has 13 = .ok (.goto 4, 3) := by decide +kernel
theorem dX0_has_16 : decode cX0_has 16 = .ok (.iconst 0, 1) := by decide +kernel
theorem dX0_has_17 : decode cX0_has 17 = .ok (.ireturn, 1) := by decide +kernel
theorem dX0_add_0 : decode cX0_add 0 = .ok (.aload_n 0, 1) := by decide +kernel
theorem dX0_add_1 : decode cX0_add 1 = .ok (.getfield 27, 3) := by decide +kernel
theorem dX0_add_4 : decode cX0_add 4 = .ok (.istore_n 3, 1) := by decide +kernel
theorem dX0_add_5 : decode cX0_add 5 = .ok (.aload_n 0, 1) := by decide +kernel
theorem dX0_add_6 : decode cX0_add 6 = .ok (.getfield 9, 3) := by decide +kernel
theorem dX0_add_9 : decode cX0_add 9 = .ok (.iload_n 3, 1) := by decide +kernel
theorem dX0_add_10 : decode cX0_add 10 = .ok (.iload_n 1, 1) := by decide +kernel
theorem dX0_add_11 : decode cX0_add 11 = .ok (.iastore, 1) := by decide +kernel
theorem dX0_add_12 : decode cX0_add 12 = .ok (.aload_n 0, 1) := by decide +kernel
theorem dX0_add_13 : decode cX0_add 13 = .ok (.getfield 15, 3) := by decide +kernel
theorem dX0_add_16 : decode cX0_add 16 = .ok (.iload_n 3, 1) := by decide +kernel
theorem dX0_add_17 : decode cX0_add 17 = .ok (.iload_n 2, 1) := by decide +kernel
theorem dX0_add_18 : decode cX0_add 18 = .ok (.iastore, 1) := by decide +kernel
theorem dX0_add_19 : decode cX0_add 19 = .ok (.aload_n 0, 1) := by decide +kernel
theorem dX0_add_20 : decode cX0_add 20 = .ok (.dup, 1) := by decide +kernel
theorem dX0_add_21 : decode cX0_add 21 = .ok (.getfield 27, 3) := by decide +kernel
theorem dX0_add_24 : decode cX0_add 24 = .ok (.iconst 1, 1) := by decide +kernel
theorem dX0_add_25 : decode cX0_add 25 = .ok (.iadd, 1) := by decide +kernel
theorem dX0_add_26 : decode cX0_add 26 = .ok (.putfield 27, 3) := by decide +kernel
theorem dX0_add_29 : decode cX0_add 29 = .ok (.iload_n 3, 1) := by decide +kernel
theorem dX0_add_30 : decode cX0_add 30 = .ok (.ireturn, 1) := by decide +kernel
theorem dX0_putTone_0 : decode cX0_putTone 0 = .ok (.aload_n 0, 1) := by decide +kernel
theorem dX0_putTone_1 : decode cX0_putTone 1 = .ok (.getfield 18, 3) := by decide +kernel
theorem dX0_putTone_4 : decode cX0_putTone 4 = .ok (.iload_n 1, 1) := by decide +kernel
theorem dX0_putTone_5 : decode cX0_putTone 5 = .ok (.bipush 6, 2) := by decide +kernel
theorem dX0_putTone_7 : decode cX0_putTone 7 = .ok (.imul, 1) := by decide +kernel
theorem dX0_putTone_8 : decode cX0_putTone 8 = .ok (.iload_n 2, 1) := by decide +kernel
theorem dX0_putTone_9 : decode cX0_putTone 9 = .ok (.iadd, 1) := by decide +kernel
theorem dX0_putTone_10 : decode cX0_putTone 10 = .ok (.iload_n 3, 1) := by decide +kernel
theorem dX0_putTone_11 : decode cX0_putTone 11 = .ok (.iastore, 1) := by decide +kernel
theorem dX0_putTone_12 : decode cX0_putTone 12 = .ok (.return_, 1) := by decide +kernel
theorem dX0_putSpeaker_0 : decode cX0_putSpeaker 0 = .ok (.aload_n 0, 1) := by decide +kernel
theorem dX0_putSpeaker_1 : decode cX0_putSpeaker 1 = .ok (.getfield 15, 3) := by decide +kernel
theorem dX0_putSpeaker_4 : decode cX0_putSpeaker 4 = .ok (.iload_n 1, 1) := by decide +kernel
theorem dX0_putSpeaker_5 : decode cX0_putSpeaker 5 = .ok (.iload_n 2, 1) := by decide +kernel
theorem dX0_putSpeaker_6 : decode cX0_putSpeaker 6 = .ok (.iastore, 1) := by decide +kernel
theorem dX0_putSpeaker_7 : decode cX0_putSpeaker 7 = .ok (.return_, 1) := by decide +kernel
theorem dX0_channelOf_0 : decode cX0_channelOf 0 = .ok (.aload_n 0, 1) := by decide +kernel
theorem dX0_channelOf_1 : decode cX0_channelOf 1 = .ok (.getfield 9, 3) := by decide +kernel
theorem dX0_channelOf_4 : decode cX0_channelOf 4 = .ok (.iload_n 1, 1) := by decide +kernel
theorem dX0_channelOf_5 : decode cX0_channelOf 5 = .ok (.iaload, 1) := by decide +kernel
theorem dX0_channelOf_6 : decode cX0_channelOf 6 = .ok (.ireturn, 1) := by decide +kernel
theorem dX0_speakerOf_0 : decode cX0_speakerOf 0 = .ok (.aload_n 0, 1) := by decide +kernel
theorem dX0_speakerOf_1 : decode cX0_speakerOf 1 = .ok (.getfield 15, 3) := by decide +kernel
theorem dX0_speakerOf_4 : decode cX0_speakerOf 4 = .ok (.iload_n 1, 1) := by decide +kernel
theorem dX0_speakerOf_5 : decode cX0_speakerOf 5 = .ok (.iaload, 1) := by decide +kernel
theorem dX0_speakerOf_6 : decode cX0_speakerOf 6 = .ok (.ireturn, 1) := by decide +kernel
theorem dX0_isKnown_0 : decode cX0_isKnown 0 = .ok (.aload_n 0, 1) := by decide +kernel
theorem dX0_isKnown_1 : decode cX0_isKnown 1 = .ok (.getfield 15, 3) := by decide +kernel
theorem dX0_isKnown_4 : decode cX0_isKnown 4 = .ok (.iload_n 1, 1) := by decide +kernel
theorem dX0_isKnown_5 : decode cX0_isKnown 5 = .ok (.iaload, 1) := by decide +kernel
theorem dX0_isKnown_6 : decode cX0_isKnown 6 = .ok (.iconst (-1), 1) := by decide +kernel
theorem dX0_isKnown_7 : decode cX0_isKnown 7 = .ok (.if_icmp .eq 7, 3) := by decide +kernel
theorem dX0_isKnown_10 : decode cX0_isKnown 10 = .ok (.iconst 1, 1) := by decide +kernel
theorem dX0_isKnown_11 : decode cX0_isKnown 11 = .ok (.goto 4, 3) := by decide +kernel
theorem dX0_isKnown_14 : decode cX0_isKnown 14 = .ok (.iconst 0, 1) := by decide +kernel
theorem dX0_isKnown_15 : decode cX0_isKnown 15 = .ok (.ireturn, 1) := by decide +kernel
theorem dX0_isOfSet_0 : decode cX0_isOfSet 0 = .ok (.aload_n 0, 1) := by decide +kernel
theorem dX0_isOfSet_1 : decode cX0_isOfSet 1 = .ok (.iload_n 1, 1) := by decide +kernel
theorem dX0_isOfSet_2 : decode cX0_isOfSet 2 = .ok (.invokevirtual 31, 3) := by decide +kernel
theorem dX0_isOfSet_5 : decode cX0_isOfSet 5 = .ok (.ifCond .eq 21, 3) := by decide +kernel
theorem dX0_isOfSet_8 : decode cX0_isOfSet 8 = .ok (.iload_n 2, 1) := by decide +kernel
theorem dX0_isOfSet_9 : decode cX0_isOfSet 9 = .ok (.aload_n 0, 1) := by decide +kernel
theorem dX0_isOfSet_10 : decode cX0_isOfSet 10 = .ok (.getfield 15, 3) := by decide +kernel
theorem dX0_isOfSet_13 : decode cX0_isOfSet 13 = .ok (.iload_n 1, 1) := by decide +kernel
theorem dX0_isOfSet_14 : decode cX0_isOfSet 14 = .ok (.iaload, 1) := by decide +kernel
theorem dX0_isOfSet_15 : decode cX0_isOfSet 15 = .ok (.ishr, 1) := by decide +kernel
theorem dX0_isOfSet_16 : decode cX0_isOfSet 16 = .ok (.iconst 1, 1) := by decide +kernel
theorem dX0_isOfSet_17 : decode cX0_isOfSet 17 = .ok (.iand, 1) := by decide +kernel
theorem dX0_isOfSet_18 : decode cX0_isOfSet 18 = .ok (.iconst 1, 1) := by decide +kernel
theorem dX0_isOfSet_19 : decode cX0_isOfSet 19 = .ok (.if_icmp .ne 7, 3) := by decide +kernel
theorem dX0_isOfSet_22 : decode cX0_isOfSet 22 = .ok (.iconst 1, 1) := by decide +kernel
theorem dX0_isOfSet_23 : decode cX0_isOfSet 23 = .ok (.goto 4, 3) := by decide +kernel
theorem dX0_isOfSet_26 : decode cX0_isOfSet 26 = .ok (.iconst 0, 1) := by decide +kernel
theorem dX0_isOfSet_27 : decode cX0_isOfSet 27 = .ok (.ireturn, 1) := by decide +kernel
theorem dX0_toneAt_0 : decode cX0_toneAt 0 = .ok (.aload_n 0, 1) := by decide +kernel
theorem dX0_toneAt_1 : decode cX0_toneAt 1 = .ok (.getfield 18, 3) := by decide +kernel
theorem dX0_toneAt_4 : decode cX0_toneAt 4 = .ok (.iload_n 1, 1) := by decide +kernel
theorem dX0_toneAt_5 : decode cX0_toneAt 5 = .ok (.bipush 6, 2) := by decide +kernel
theorem dX0_toneAt_7 : decode cX0_toneAt 7 = .ok (.imul, 1) := by decide +kernel
theorem dX0_toneAt_8 : decode cX0_toneAt 8 = .ok (.iload_n 2, 1) := by decide +kernel
theorem dX0_toneAt_9 : decode cX0_toneAt 9 = .ok (.iadd, 1) := by decide +kernel
theorem dX0_toneAt_10 : decode cX0_toneAt 10 = .ok (.iaload, 1) := by decide +kernel
theorem dX0_toneAt_11 : decode cX0_toneAt 11 = .ok (.ireturn, 1) := by decide +kernel
theorem dX0_countTones_0 : decode cX0_countTones 0 = .ok (.iconst 0, 1) := by decide +kernel
theorem dX0_countTones_1 : decode cX0_countTones 1 = .ok (.istore_n 2, 1) := by decide +kernel
theorem dX0_countTones_2 : decode cX0_countTones 2 = .ok (.iconst 0, 1) := by decide +kernel
theorem dX0_countTones_3 : decode cX0_countTones 3 = .ok (.istore_n 3, 1) := by decide +kernel
theorem dX0_countTones_4 : decode cX0_countTones 4 = .ok (.iload_n 3, 1) := by decide +kernel
theorem dX0_countTones_5 : decode cX0_countTones 5 = .ok (.bipush 6, 2) := by decide +kernel
theorem dX0_countTones_7 : decode cX0_countTones 7 = .ok (.if_icmp .ge 22, 3) := by decide +kernel
theorem dX0_countTones_10 : decode cX0_countTones 10 = .ok (.aload_n 0, 1) := by decide +kernel
theorem dX0_countTones_11 : decode cX0_countTones 11 = .ok (.iload_n 1, 1) := by decide +kernel
theorem dX0_countTones_12 : decode cX0_countTones 12 = .ok (.iload_n 3, 1) := by decide +kernel
theorem dX0_countTones_13 : decode cX0_countTones 13 = .ok (.invokevirtual 35, 3) := by decide +kernel
theorem dX0_countTones_16 : decode cX0_countTones 16 = .ok (.iconst (-1), 1) := by decide +kernel
theorem dX0_countTones_17 : decode cX0_countTones 17 = .ok (.if_icmp .eq 6, 3) := by decide +kernel
theorem dX0_countTones_20 : decode cX0_countTones 20 = .ok (.iinc 2 1, 3) := by decide +kernel
theorem dX0_countTones_23 : decode cX0_countTones 23 = .ok (.iinc 3 1, 3) := by decide +kernel
theorem dX0_countTones_26 : decode cX0_countTones 26 = .ok (.goto (-22), 3) := by decide +kernel
theorem dX0_countTones_29 : decode cX0_countTones 29 = .ok (.iload_n 2, 1) := by decide +kernel
theorem dX0_countTones_30 : decode cX0_countTones 30 = .ok (.ireturn, 1) := by decide +kernel
theorem dX1_init_0 : decode cX1_init 0 = .ok (.aload_n 0, 1) := by decide +kernel
theorem dX1_init_1 : decode cX1_init 1 = .ok (.invokespecial 3, 3) := by decide +kernel
theorem dX1_init_4 : decode cX1_init 4 = .ok (.aload_n 0, 1) := by decide +kernel
theorem dX1_init_5 : decode cX1_init 5 = .ok (.iconst 5, 1) := by decide +kernel
theorem dX1_init_6 : decode cX1_init 6 = .ok (.newarray .int, 2) := by decide +kernel
theorem dX1_init_8 : decode cX1_init 8 = .ok (.putfield 9, 3) := by decide +kernel
theorem dX1_init_11 : decode cX1_init 11 = .ok (.aload_n 0, 1) := by decide +kernel
theorem dX1_init_12 : decode cX1_init 12 = .ok (.iconst 0, 1) := by decide +kernel
theorem dX1_init_13 : decode cX1_init 13 = .ok (.putfield 15, 3) := by decide +kernel
theorem dX1_init_16 : decode cX1_init 16 = .ok (.return_, 1) := by decide +kernel
theorem dX1_areOver_0 : decode cX1_areOver 0 = .ok (.aload_n 0, 1) := by decide +kernel
theorem dX1_areOver_1 : decode cX1_areOver 1 = .ok (.getfield 15, 3) := by decide +kernel
theorem dX1_areOver_4 : decode cX1_areOver 4 = .ok (.bipush 60, 2) := by decide +kernel
theorem dX1_areOver_6 : decode cX1_areOver 6 = .ok (.if_icmp .lt 7, 3) := by decide +kernel
theorem dX1_areOver_9 : decode cX1_areOver 9 = .ok (.iconst 1, 1) := by decide +kernel
theorem dX1_areOver_10 : decode cX1_areOver 10 = .ok (.goto 4, 3) := by decide +kernel
theorem dX1_areOver_13 : decode cX1_areOver 13 = .ok (.iconst 0, 1) := by decide +kernel
theorem dX1_areOver_14 : decode cX1_areOver 14 = .ok (.ireturn, 1) := by decide +kernel
theorem dX1_put_0 : decode cX1_put 0 = .ok (.aload_n 0, 1) := by decide +kernel
theorem dX1_put_1 : decode cX1_put 1 = .ok (.dup, 1) := by decide +kernel
theorem dX1_put_2 : decode cX1_put 2 = .ok (.getfield 15, 3) := by decide +kernel
theorem dX1_put_5 : decode cX1_put 5 = .ok (.iconst 1, 1) := by decide +kernel
theorem dX1_put_6 : decode cX1_put 6 = .ok (.iadd, 1) := by decide +kernel
theorem dX1_put_7 : decode cX1_put 7 = .ok (.putfield 15, 3) := by decide +kernel
theorem dX1_put_10 : decode cX1_put 10 = .ok (.iload_n 1, 1) := by decide +kernel
theorem dX1_put_11 : decode cX1_put 11 = .ok (.iconst (-1), 1) := by decide +kernel
theorem dX1_put_12 : decode cX1_put 12 = .ok (.if_icmp .ne 15, 3) := by decide +kernel
theorem dX1_put_15 : decode cX1_put 15 = .ok (.aload_n 0, 1) := by decide +kernel
theorem dX1_put_16 : decode cX1_put 16 = .ok (.getfield 9, 3) := by decide +kernel
theorem dX1_put_19 : decode cX1_put 19 = .ok (.iconst 4, 1) := by decide +kernel
theorem dX1_put_20 : decode cX1_put 20 = .ok (.dup2, 1) := by decide +kernel
theorem dX1_put_21 : decode cX1_put 21 = .ok (.iaload, 1) := by decide +kernel
theorem dX1_put_22 : decode cX1_put 22 = .ok (.iconst 1, 1) := by decide +kernel
theorem dX1_put_23 : decode cX1_put 23 = .ok (.iadd, 1) := by decide +kernel
theorem dX1_put_24 : decode cX1_put 24 = .ok (.iastore, 1) := by decide +kernel
theorem dX1_put_25 : decode cX1_put 25 = .ok (.iconst 2, 1) := by decide +kernel
theorem dX1_put_26 : decode cX1_put 26 = .ok (.ireturn, 1) := by decide +kernel
theorem dX1_put_27 : decode cX1_put 27 = .ok (.iload_n 1, 1) := by decide +kernel
theorem dX1_put_28 : decode cX1_put 28 = .ok (.iload_n 2, 1) := by decide +kernel
theorem dX1_put_29 : decode cX1_put 29 = .ok (.if_icmp .gt 23, 3) := by decide +kernel
theorem dX1_put_32 : decode cX1_put 32 = .ok (.aload_n 0, 1) := by decide +kernel
theorem dX1_put_33 : decode cX1_put 33 = .ok (.getfield 9, 3) := by decide +kernel
theorem dX1_put_36 : decode cX1_put 36 = .ok (.iload_n 3, 1) := by decide +kernel
theorem dX1_put_37 : decode cX1_put 37 = .ok (.ifCond .eq 7, 3) := by decide +kernel
theorem dX1_put_40 : decode cX1_put 40 = .ok (.iconst 0, 1) := by decide +kernel
theorem dX1_put_41 : decode cX1_put 41 = .ok (.goto 4, 3) := by decide +kernel
theorem dX1_put_44 : decode cX1_put 44 = .ok (.iconst 1, 1) := by decide +kernel
theorem dX1_put_45 : decode cX1_put 45 = .ok (.dup2, 1) := by decide +kernel
theorem dX1_put_46 : decode cX1_put 46 = .ok (.iaload, 1) := by decide +kernel
theorem dX1_put_47 : decode cX1_put 47 = .ok (.iconst 1, 1) := by decide +kernel
theorem dX1_put_48 : decode cX1_put 48 = .ok (.iadd, 1) := by decide +kernel
theorem dX1_put_49 : decode cX1_put 49 = .ok (.iastore, 1) := by decide +kernel
theorem dX1_put_50 : decode cX1_put 50 = .ok (.iconst 1, 1) := by decide +kernel
theorem dX1_put_51 : decode cX1_put 51 = .ok (.ireturn, 1) := by decide +kernel
theorem dX1_put_52 : decode cX1_put 52 = .ok (.aload_n 0, 1) := by decide +kernel
theorem dX1_put_53 : decode cX1_put 53 = .ok (.getfield 9, 3) := by decide +kernel
theorem dX1_put_56 : decode cX1_put 56 = .ok (.iload_n 3, 1) := by decide +kernel
theorem dX1_put_57 : decode cX1_put 57 = .ok (.ifCond .eq 7, 3) := by decide +kernel
theorem dX1_put_60 : decode cX1_put 60 = .ok (.iconst 3, 1) := by decide +kernel
theorem dX1_put_61 : decode cX1_put 61 = .ok (.goto 4, 3) := by decide +kernel
theorem dX1_put_64 : decode cX1_put 64 = .ok (.iconst 2, 1) := by decide +kernel
theorem dX1_put_65 : decode cX1_put 65 = .ok (.dup2, 1) := by decide +kernel
theorem dX1_put_66 : decode cX1_put 66 = .ok (.iaload, 1) := by decide +kernel
theorem dX1_put_67 : decode cX1_put 67 = .ok (.iconst 1, 1) := by decide +kernel
theorem dX1_put_68 : decode cX1_put 68 = .ok (.iadd, 1) := by decide +kernel
theorem dX1_put_69 : decode cX1_put 69 = .ok (.iastore, 1) := by decide +kernel
theorem dX1_put_70 : decode cX1_put 70 = .ok (.iconst 0, 1) := by decide +kernel
theorem dX1_put_71 : decode cX1_put 71 = .ok (.ireturn, 1) := by decide +kernel
theorem dX1_outcome_0 : decode cX1_outcome 0 = .ok (.aload_n 0, 1) := by decide +kernel
theorem dX1_outcome_1 : decode cX1_outcome 1 = .ok (.getfield 9, 3) := by decide +kernel
theorem dX1_outcome_4 : decode cX1_outcome 4 = .ok (.iload_n 1, 1) := by decide +kernel
theorem dX1_outcome_5 : decode cX1_outcome 5 = .ok (.iaload, 1) := by decide +kernel
theorem dX1_outcome_6 : decode cX1_outcome 6 = .ok (.ireturn, 1) := by decide +kernel
theorem dX2_init_0 : decode cX2_init 0 = .ok (.aload_n 0, 1) := by decide +kernel
theorem dX2_init_1 : decode cX2_init 1 = .ok (.invokespecial 3, 3) := by decide +kernel
theorem dX2_init_4 : decode cX2_init 4 = .ok (.aload_n 0, 1) := by decide +kernel
theorem dX2_init_5 : decode cX2_init 5 = .ok (.aload_n 1, 1) := by decide +kernel
theorem dX2_init_6 : decode cX2_init 6 = .ok (.putfield 9, 3) := by decide +kernel
theorem dX2_init_9 : decode cX2_init 9 = .ok (.aload_n 0, 1) := by decide +kernel
theorem dX2_init_10 : decode cX2_init 10 = .ok (.aload_n 2, 1) := by decide +kernel
theorem dX2_init_11 : decode cX2_init 11 = .ok (.putfield 15, 3) := by decide +kernel
theorem dX2_init_14 : decode cX2_init 14 = .ok (.aload_n 0, 1) := by decide +kernel
theorem dX2_init_15 : decode cX2_init 15 = .ok (.bipush 30, 2) := by decide +kernel
theorem dX2_init_17 : decode cX2_init 17 = .ok (.newarray .int, 2) := by decide +kernel
theorem dX2_init_19 : decode cX2_init 19 = .ok (.putfield 19, 3) := by decide +kernel
theorem dX2_init_22 : decode cX2_init 22 = .ok (.aload_n 0, 1) := by decide +kernel
theorem dX2_init_23 : decode cX2_init 23 = .ok (.bipush 30, 2) := by decide +kernel
theorem dX2_init_25 : decode cX2_init 25 = .ok (.newarray .int, 2) := by decide +kernel
theorem dX2_init_27 : decode cX2_init 27 = .ok (.putfield 23, 3) := by decide +kernel
theorem dX2_init_30 : decode cX2_init 30 = .ok (.aload_n 0, 1) := by decide +kernel
theorem dX2_init_31 : decode cX2_init 31 = .ok (.iconst 0, 1) := by decide +kernel
theorem dX2_init_32 : decode cX2_init 32 = .ok (.putfield 26, 3) := by decide +kernel
theorem dX2_init_35 : decode cX2_init 35 = .ok (.return_, 1) := by decide +kernel
theorem dX2_callFor_0 : decode cX2_callFor 0 = .ok (.aload_n 0, 1) := by decide +kernel
theorem dX2_callFor_1 : decode cX2_callFor 1 = .ok (.iconst 0, 1) := by decide +kernel
theorem dX2_callFor_2 : decode cX2_callFor 2 = .ok (.putfield 26, 3) := by decide +kernel
theorem dX2_callFor_5 : decode cX2_callFor 5 = .ok (.iconst 0, 1) := by decide +kernel
theorem dX2_callFor_6 : decode cX2_callFor 6 = .ok (.istore_n 3, 1) := by decide +kernel
theorem dX2_callFor_7 : decode cX2_callFor 7 = .ok (.iload_n 3, 1) := by decide +kernel
theorem dX2_callFor_8 : decode cX2_callFor 8 = .ok (.aload_n 0, 1) := by decide +kernel
theorem dX2_callFor_9 : decode cX2_callFor 9 = .ok (.getfield 9, 3) := by decide +kernel
theorem dX2_callFor_12 : decode cX2_callFor 12 = .ok (.invokevirtual 30, 3) := by decide +kernel
theorem dX2_callFor_15 : decode cX2_callFor 15 = .ok (.if_icmp .ge 50, 3) := by decide +kernel
theorem dX2_callFor_18 : decode cX2_callFor 18 = .ok (.iload_n 3, 1) := by decide +kernel
theorem dX2_callFor_19 : decode cX2_callFor 19 = .ok (.iload_n 1, 1) := by decide +kernel
theorem dX2_callFor_20 : decode cX2_callFor 20 = .ok (.if_icmp .eq 39, 3) := by decide +kernel
theorem dX2_callFor_23 : decode cX2_callFor 23 = .ok (.aload_n 0, 1) := by decide +kernel
theorem dX2_callFor_24 : decode cX2_callFor 24 = .ok (.getfield 9, 3) := by decide +kernel
theorem dX2_callFor_27 : decode cX2_callFor 27 = .ok (.iload_n 3, 1) := by decide +kernel
theorem dX2_callFor_28 : decode cX2_callFor 28 = .ok (.iload_n 2, 1) := by decide +kernel
theorem dX2_callFor_29 : decode cX2_callFor 29 = .ok (.invokevirtual 35, 3) := by decide +kernel
theorem dX2_callFor_32 : decode cX2_callFor 32 = .ok (.ifCond .eq 27, 3) := by decide +kernel
theorem dX2_callFor_35 : decode cX2_callFor 35 = .ok (.aload_n 0, 1) := by decide +kernel
theorem dX2_callFor_36 : decode cX2_callFor 36 = .ok (.getfield 15, 3) := by decide +kernel
theorem dX2_callFor_39 : decode cX2_callFor 39 = .ok (.iload_n 1, 1) := by decide +kernel
theorem dX2_callFor_40 : decode cX2_callFor 40 = .ok (.iload_n 3, 1) := by decide +kernel
theorem dX2_callFor_41 : decode cX2_callFor 41 = .ok (.invokevirtual 39, 3) := by decide +kernel
theorem dX2_callFor_44 : decode cX2_callFor 44 = .ok (.istore 4, 2) := by decide +kernel
theorem dX2_callFor_46 : decode cX2_callFor 46 = .ok (.iload 4, 2) := by decide +kernel
theorem dX2_callFor_48 : decode cX2_callFor 48 = .ok (.iconst (-1), 1) := by decide +kernel
theorem dX2_callFor_49 : decode cX2_callFor 49 = .ok (.if_icmp .eq 10, 3) := by decide +kernel
theorem dX2_callFor_52 : decode cX2_callFor 52 = .ok (.aload_n 0, 1) := by decide +kernel
theorem dX2_callFor_53 : decode cX2_callFor 53 = .ok (.iload_n 3, 1) := by decide +kernel
theorem dX2_callFor_54 : decode cX2_callFor 54 = .ok (.iload 4, 2) := by decide +kernel
theorem dX2_callFor_56 : decode cX2_callFor 56 = .ok (.invokevirtual 45, 3) := by decide +kernel
theorem dX2_callFor_59 : decode cX2_callFor 59 = .ok (.iinc 3 1, 3) := by decide +kernel
theorem dX2_callFor_62 : decode cX2_callFor 62 = .ok (.goto (-55), 3) := by decide +kernel
theorem dX2_callFor_65 : decode cX2_callFor 65 = .ok (.return_, 1) := by decide +kernel
theorem dX2_insert_0 : decode cX2_insert 0 = .ok (.aload_n 0, 1) := by decide +kernel
theorem dX2_insert_1 : decode cX2_insert 1 = .ok (.getfield 26, 3) := by decide +kernel
theorem dX2_insert_4 : decode cX2_insert 4 = .ok (.istore_n 3, 1) := by decide +kernel
theorem dX2_insert_5 : decode cX2_insert 5 = .ok (.iload_n 3, 1) := by decide +kernel
theorem dX2_insert_6 : decode cX2_insert 6 = .ok (.ifCond .le 49, 3) := by decide +kernel
theorem dX2_insert_9 : decode cX2_insert 9 = .ok (.aload_n 0, 1) := by decide +kernel
theorem dX2_insert_10 : decode cX2_insert 10 = .ok (.getfield 23, 3) := by decide +kernel
theorem dX2_insert_13 : decode cX2_insert 13 = .ok (.iload_n 3, 1) := by decide +kernel
theorem dX2_insert_14 : decode cX2_insert 14 = .ok (.iconst 1, 1) := by decide +kernel
theorem dX2_insert_15 : decode cX2_insert 15 = .ok (.isub, 1) := by decide +kernel
theorem dX2_insert_16 : decode cX2_insert 16 = .ok (.iaload, 1) := by decide +kernel
theorem dX2_insert_17 : decode cX2_insert 17 = .ok (.iload_n 2, 1) := by decide +kernel
theorem dX2_insert_18 : decode cX2_insert 18 = .ok (.if_icmp .le 37, 3) := by decide +kernel
theorem dX2_insert_21 : decode cX2_insert 21 = .ok (.aload_n 0, 1) := by decide +kernel
theorem dX2_insert_22 : decode cX2_insert 22 = .ok (.getfield 19, 3) := by decide +kernel
theorem dX2_insert_25 : decode cX2_insert 25 = .ok (.iload_n 3, 1) := by decide +kernel
theorem dX2_insert_26 : decode cX2_insert 26 = .ok (.aload_n 0, 1) := by decide +kernel
theorem dX2_insert_27 : decode cX2_insert 27 = .ok (.getfield 19, 3) := by decide +kernel
theorem dX2_insert_30 : decode cX2_insert 30 = .ok (.iload_n 3, 1) := by decide +kernel
theorem dX2_insert_31 : decode cX2_insert 31 = .ok (.iconst 1, 1) := by decide +kernel
theorem dX2_insert_32 : decode cX2_insert 32 = .ok (.isub, 1) := by decide +kernel
theorem dX2_insert_33 : decode cX2_insert 33 = .ok (.iaload, 1) := by decide +kernel
theorem dX2_insert_34 : decode cX2_insert 34 = .ok (.iastore, 1) := by decide +kernel
theorem dX2_insert_35 : decode cX2_insert 35 = .ok (.aload_n 0, 1) := by decide +kernel
theorem dX2_insert_36 : decode cX2_insert 36 = .ok (.getfield 23, 3) := by decide +kernel
theorem dX2_insert_39 : decode cX2_insert 39 = .ok (.iload_n 3, 1) := by decide +kernel
theorem dX2_insert_40 : decode cX2_insert 40 = .ok (.aload_n 0, 1) := by decide +kernel
theorem dX2_insert_41 : decode cX2_insert 41 = .ok (.getfield 23, 3) := by decide +kernel
theorem dX2_insert_44 : decode cX2_insert 44 = .ok (.iload_n 3, 1) := by decide +kernel
theorem dX2_insert_45 : decode cX2_insert 45 = .ok (.iconst 1, 1) := by decide +kernel
theorem dX2_insert_46 : decode cX2_insert 46 = .ok (.isub, 1) := by decide +kernel
theorem dX2_insert_47 : decode cX2_insert 47 = .ok (.iaload, 1) := by decide +kernel
theorem dX2_insert_48 : decode cX2_insert 48 = .ok (.iastore, 1) := by decide +kernel
theorem dX2_insert_49 : decode cX2_insert 49 = .ok (.iinc 3 (-1), 3) := by decide +kernel
theorem dX2_insert_52 : decode cX2_insert 52 = .ok (.goto (-47), 3) := by decide +kernel
theorem dX2_insert_55 : decode cX2_insert 55 = .ok (.aload_n 0, 1) := by decide +kernel
theorem dX2_insert_56 : decode cX2_insert 56 = .ok (.getfield 19, 3) := by decide +kernel
theorem dX2_insert_59 : decode cX2_insert 59 = .ok (.iload_n 3, 1) := by decide +kernel
theorem dX2_insert_60 : decode cX2_insert 60 = .ok (.iload_n 1, 1) := by decide +kernel
theorem dX2_insert_61 : decode cX2_insert 61 = .ok (.iastore, 1) := by decide +kernel
theorem dX2_insert_62 : decode cX2_insert 62 = .ok (.aload_n 0, 1) := by decide +kernel
theorem dX2_insert_63 : decode cX2_insert 63 = .ok (.getfield 23, 3) := by decide +kernel
theorem dX2_insert_66 : decode cX2_insert 66 = .ok (.iload_n 3, 1) := by decide +kernel
theorem dX2_insert_67 : decode cX2_insert 67 = .ok (.iload_n 2, 1) := by decide +kernel
theorem dX2_insert_68 : decode cX2_insert 68 = .ok (.iastore, 1) := by decide +kernel
theorem dX2_insert_69 : decode cX2_insert 69 = .ok (.aload_n 0, 1) := by decide +kernel
theorem dX2_insert_70 : decode cX2_insert 70 = .ok (.dup, 1) := by decide +kernel
theorem dX2_insert_71 : decode cX2_insert 71 = .ok (.getfield 26, 3) := by decide +kernel
theorem dX2_insert_74 : decode cX2_insert 74 = .ok (.iconst 1, 1) := by decide +kernel
theorem dX2_insert_75 : decode cX2_insert 75 = .ok (.iadd, 1) := by decide +kernel
theorem dX2_insert_76 : decode cX2_insert 76 = .ok (.putfield 26, 3) := by decide +kernel
theorem dX2_insert_79 : decode cX2_insert 79 = .ok (.return_, 1) := by decide +kernel
theorem dX2_at_0 : decode cX2_at 0 = .ok (.iload_n 1, 1) := by decide +kernel
theorem dX2_at_1 : decode cX2_at 1 = .ok (.ifCond .lt 20, 3) := by decide +kernel
theorem dX2_at_4 : decode cX2_at 4 = .ok (.iload_n 1, 1) := by decide +kernel
theorem dX2_at_5 : decode cX2_at 5 = .ok (.aload_n 0, 1) := by decide +kernel
theorem dX2_at_6 : decode cX2_at 6 = .ok (.getfield 26, 3) := by decide +kernel
theorem dX2_at_9 : decode cX2_at 9 = .ok (.if_icmp .ge 12, 3) := by decide +kernel
theorem dX2_at_12 : decode cX2_at 12 = .ok (.aload_n 0, 1) := by decide +kernel
theorem dX2_at_13 : decode cX2_at 13 = .ok (.getfield 19, 3) := by decide +kernel
theorem dX2_at_16 : decode cX2_at 16 = .ok (.iload_n 1, 1) := by decide +kernel
theorem dX2_at_17 : decode cX2_at 17 = .ok (.iaload, 1) := by decide +kernel
theorem dX2_at_18 : decode cX2_at 18 = .ok (.goto 4, 3) := by decide +kernel
theorem dX2_at_21 : decode cX2_at 21 = .ok (.iconst (-1), 1) := by decide +kernel
theorem dX2_at_22 : decode cX2_at 22 = .ok (.ireturn, 1) := by decide +kernel
theorem dX2_speakersAhead_0 : decode cX2_speakersAhead 0 = .ok (.iconst 0, 1) := by decide +kernel
theorem dX2_speakersAhead_1 : decode cX2_speakersAhead 1 = .ok (.istore_n 2, 1) := by decide +kernel
theorem dX2_speakersAhead_2 : decode cX2_speakersAhead 2 = .ok (.iconst 0, 1) := by decide +kernel
theorem dX2_speakersAhead_3 : decode cX2_speakersAhead 3 = .ok (.istore_n 3, 1) := by decide +kernel
theorem dX2_speakersAhead_4 : decode cX2_speakersAhead 4 = .ok (.iload_n 3, 1) := by decide +kernel
theorem dX2_speakersAhead_5 : decode cX2_speakersAhead 5 = .ok (.aload_n 0, 1) := by decide +kernel
theorem dX2_speakersAhead_6 : decode cX2_speakersAhead 6 = .ok (.getfield 26, 3) := by decide +kernel
theorem dX2_speakersAhead_9 : decode cX2_speakersAhead 9 = .ok (.if_icmp .ge 42, 3) := by decide +kernel
theorem dX2_speakersAhead_12 : decode cX2_speakersAhead 12 = .ok (.aload_n 0, 1) := by decide +kernel
theorem dX2_speakersAhead_13 : decode cX2_speakersAhead 13 = .ok (.getfield 9, 3) := by decide +kernel
theorem dX2_speakersAhead_16 : decode cX2_speakersAhead 16 = .ok (.aload_n 0, 1) := by decide +kernel
theorem dX2_speakersAhead_17 : decode cX2_speakersAhead 17 = .ok (.getfield 19, 3) := by decide +kernel
theorem dX2_speakersAhead_20 : decode cX2_speakersAhead 20 = .ok (.iload_n 3, 1) := by decide +kernel
theorem dX2_speakersAhead_21 : decode cX2_speakersAhead 21 = .ok (.iaload, 1) := by decide +kernel
theorem dX2_speakersAhead_22 : decode cX2_speakersAhead 22 = .ok (.invokevirtual 49, 3) := by decide +kernel
theorem dX2_speakersAhead_25 : decode cX2_speakersAhead 25 = .ok (.istore 4, 2) := by decide +kernel
theorem dX2_speakersAhead_27 : decode cX2_speakersAhead 27 = .ok (.iload 4, 2) := by decide +kernel
theorem dX2_speakersAhead_29 : decode cX2_speakersAhead 29 = .ok (.iload_n 1, 1) := by decide +kernel
theorem dX2_speakersAhead_30 : decode cX2_speakersAhead 30 = .ok (.if_icmp .ne 8, 3) := by decide +kernel
theorem dX2_speakersAhead_33 : decode cX2_speakersAhead 33 = .ok (.iload_n 2, 1) := by decide +kernel
theorem dX2_speakersAhead_34 : decode cX2_speakersAhead 34 = .ok (.invokestatic 53, 3) := by decide +kernel
theorem dX2_speakersAhead_37 : decode cX2_speakersAhead 37 = .ok (.ireturn, 1) := by decide +kernel
theorem dX2_speakersAhead_38 : decode cX2_speakersAhead 38 = .ok (.iload_n 2, 1) := by decide +kernel
theorem dX2_speakersAhead_39 : decode cX2_speakersAhead 39 = .ok (.iconst 1, 1) := by decide +kernel
theorem dX2_speakersAhead_40 : decode cX2_speakersAhead 40 = .ok (.iload 4, 2) := by decide +kernel
theorem dX2_speakersAhead_42 : decode cX2_speakersAhead 42 = .ok (.ishl, 1) := by decide +kernel
theorem dX2_speakersAhead_43 : decode cX2_speakersAhead 43 = .ok (.ior, 1) := by decide +kernel
theorem dX2_speakersAhead_44 : decode cX2_speakersAhead 44 = .ok (.istore_n 2, 1) := by decide +kernel
theorem dX2_speakersAhead_45 : decode cX2_speakersAhead 45 = .ok (.iinc 3 1, 3) := by decide +kernel
theorem dX2_speakersAhead_48 : decode cX2_speakersAhead 48 = .ok (.goto (-44), 3) := by decide +kernel
theorem dX2_speakersAhead_51 : decode cX2_speakersAhead 51 = .ok (.iconst (-1), 1) := by decide +kernel
theorem dX2_speakersAhead_52 : decode cX2_speakersAhead 52 = .ok (.ireturn, 1) := by decide +kernel
theorem dX3_init_0 : decode cX3_init 0 = .ok (.aload_n 0, 1) := by decide +kernel
theorem dX3_init_1 : decode cX3_init 1 = .ok (.invokespecial 3, 3) := by decide +kernel
theorem dX3_init_4 : decode cX3_init 4 = .ok (.aload_n 0, 1) := by decide +kernel
theorem dX3_init_5 : decode cX3_init 5 = .ok (.aload_n 1, 1) := by decide +kernel
theorem dX3_init_6 : decode cX3_init 6 = .ok (.putfield 9, 3) := by decide +kernel
theorem dX3_init_9 : decode cX3_init 9 = .ok (.aload_n 0, 1) := by decide +kernel
theorem dX3_init_10 : decode cX3_init 10 = .ok (.aload_n 2, 1) := by decide +kernel
theorem dX3_init_11 : decode cX3_init 11 = .ok (.putfield 15, 3) := by decide +kernel
theorem dX3_init_14 : decode cX3_init 14 = .ok (.aload_n 0, 1) := by decide +kernel
theorem dX3_init_15 : decode cX3_init 15 = .ok (.bipush 10, 2) := by decide +kernel
theorem dX3_init_17 : decode cX3_init 17 = .ok (.newarray .int, 2) := by decide +kernel
theorem dX3_init_19 : decode cX3_init 19 = .ok (.putfield 19, 3) := by decide +kernel
theorem dX3_init_22 : decode cX3_init 22 = .ok (.aload_n 0, 1) := by decide +kernel
theorem dX3_init_23 : decode cX3_init 23 = .ok (.bipush 10, 2) := by decide +kernel
theorem dX3_init_25 : decode cX3_init 25 = .ok (.newarray .int, 2) := by decide +kernel
theorem dX3_init_27 : decode cX3_init 27 = .ok (.putfield 23, 3) := by decide +kernel
theorem dX3_init_30 : decode cX3_init 30 = .ok (.aload_n 0, 1) := by decide +kernel
theorem dX3_init_31 : decode cX3_init 31 = .ok (.bipush 10, 2) := by decide +kernel
theorem dX3_init_33 : decode cX3_init 33 = .ok (.newarray .int, 2) := by decide +kernel
theorem dX3_init_35 : decode cX3_init 35 = .ok (.putfield 26, 3) := by decide +kernel
theorem dX3_init_38 : decode cX3_init 38 = .ok (.aload_n 0, 1) := by decide +kernel
theorem dX3_init_39 : decode cX3_init 39 = .ok (.bipush 10, 2) := by decide +kernel
theorem dX3_init_41 : decode cX3_init 41 = .ok (.newarray .int, 2) := by decide +kernel
theorem dX3_init_43 : decode cX3_init 43 = .ok (.putfield 29, 3) := by decide +kernel
theorem dX3_init_46 : decode cX3_init 46 = .ok (.aload_n 0, 1) := by decide +kernel
theorem dX3_init_47 : decode cX3_init 47 = .ok (.bipush 10, 2) := by decide +kernel
theorem dX3_init_49 : decode cX3_init 49 = .ok (.newarray .int, 2) := by decide +kernel
theorem dX3_init_51 : decode cX3_init 51 = .ok (.putfield 32, 3) := by decide +kernel
theorem dX3_init_54 : decode cX3_init 54 = .ok (.aload_n 0, 1) := by decide +kernel
theorem dX3_init_55 : decode cX3_init 55 = .ok (.bipush 10, 2) := by decide +kernel
theorem dX3_init_57 : decode cX3_init 57 = .ok (.newarray .int, 2) := by decide +kernel
theorem dX3_init_59 : decode cX3_init 59 = .ok (.putfield 35, 3) := by decide +kernel
theorem dX3_init_62 : decode cX3_init 62 = .ok (.aload_n 0, 1) := by decide +kernel
theorem dX3_init_63 : decode cX3_init 63 = .ok (.iconst 0, 1) := by decide +kernel
theorem dX3_init_64 : decode cX3_init 64 = .ok (.putfield 38, 3) := by decide +kernel
theorem dX3_init_67 : decode cX3_init 67 = .ok (.aload_n 0, 1) := by decide +kernel
theorem dX3_init_68 : decode cX3_init 68 = .ok (.iconst 0, 1) := by decide +kernel
theorem dX3_init_69 : decode cX3_init 69 = .ok (.putfield 42, 3) := by decide +kernel
theorem dX3_init_72 : decode cX3_init 72 = .ok (.aload_n 0, 1) := by decide +kernel
theorem dX3_init_73 : decode cX3_init 73 = .ok (.iconst 0, 1) := by decide +kernel
theorem dX3_init_74 : decode cX3_init 74 = .ok (.putfield 45, 3) := by decide +kernel
theorem dX3_init_77 : decode cX3_init 77 = .ok (.return_, 1) := by decide +kernel
theorem dX3_fillFor_0 : decode cX3_fillFor 0 = .ok (.aload_n 0, 1) := by decide +kernel
theorem dX3_fillFor_1 : decode cX3_fillFor 1 = .ok (.iload_n 1, 1) := by decide +kernel
theorem dX3_fillFor_2 : decode cX3_fillFor 2 = .ok (.invokevirtual 48, 3) := by decide +kernel
theorem dX3_fillFor_5 : decode cX3_fillFor 5 = .ok (.aload_n 0, 1) := by decide +kernel
theorem dX3_fillFor_6 : decode cX3_fillFor 6 = .ok (.invokevirtual 52, 3) := by decide +kernel
theorem dX3_fillFor_9 : decode cX3_fillFor 9 = .ok (.aload_n 0, 1) := by decide +kernel
theorem dX3_fillFor_10 : decode cX3_fillFor 10 = .ok (.invokevirtual 55, 3) := by decide +kernel
theorem dX3_fillFor_13 : decode cX3_fillFor 13 = .ok (.return_, 1) := by decide +kernel
theorem dX3_countPairs_0 : decode cX3_countPairs 0 = .ok (.aload_n 0, 1) := by decide +kernel
theorem dX3_countPairs_1 : decode cX3_countPairs 1 = .ok (.getfield 19, 3) := by decide +kernel
theorem dX3_countPairs_4 : decode cX3_countPairs 4 = .ok (.iconst 0, 1) := by decide +kernel
theorem dX3_countPairs_5 : decode cX3_countPairs 5 = .ok (.invokestatic 58, 3) := by decide +kernel
theorem dX3_countPairs_8 : decode cX3_countPairs 8 = .ok (.aload_n 0, 1) := by decide +kernel
theorem dX3_countPairs_9 : decode cX3_countPairs 9 = .ok (.getfield 23, 3) := by decide +kernel
theorem dX3_countPairs_12 : decode cX3_countPairs 12 = .ok (.iconst 0, 1) := by decide +kernel
theorem dX3_countPairs_13 : decode cX3_countPairs 13 = .ok (.invokestatic 58, 3) := by decide +kernel
theorem dX3_countPairs_16 : decode cX3_countPairs 16 = .ok (.aload_n 0, 1) := by decide +kernel
theorem dX3_countPairs_17 : decode cX3_countPairs 17 = .ok (.iconst 0, 1) := by decide +kernel
theorem dX3_countPairs_18 : decode cX3_countPairs 18 = .ok (.putfield 42, 3) := by decide +kernel
theorem dX3_countPairs_21 : decode cX3_countPairs 21 = .ok (.aload_n 0, 1) := by decide +kernel
theorem dX3_countPairs_22 : decode cX3_countPairs 22 = .ok (.iconst 0, 1) := by decide +kernel
theorem dX3_countPairs_23 : decode cX3_countPairs 23 = .ok (.putfield 45, 3) := by decide +kernel
theorem dX3_countPairs_26 : decode cX3_countPairs 26 = .ok (.iconst 1, 1) := by decide +kernel
theorem dX3_countPairs_27 : decode cX3_countPairs 27 = .ok (.istore_n 2, 1) := by decide +kernel
theorem dX3_countPairs_28 : decode cX3_countPairs 28 = .ok (.iload_n 2, 1) := by decide +kernel
theorem dX3_countPairs_29 : decode cX3_countPairs 29 = .ok (.aload_n 0, 1) := by decide +kernel
theorem dX3_countPairs_30 : decode cX3_countPairs 30 = .ok (.getfield 9, 3) := by decide +kernel
theorem dX3_countPairs_33 : decode cX3_countPairs 33 = .ok (.invokevirtual 64, 3) := by decide +kernel
theorem dX3_countPairs_36 : decode cX3_countPairs 36 = .ok (.if_icmp .ge 52, 3) := by decide +kernel
theorem dX3_countPairs_39 : decode cX3_countPairs 39 = .ok (.iconst 0, 1) := by decide +kernel
theorem dX3_countPairs_40 : decode cX3_countPairs 40 = .ok (.istore_n 3, 1) := by decide +kernel
theorem dX3_countPairs_41 : decode cX3_countPairs 41 = .ok (.iload_n 3, 1) := by decide +kernel
theorem dX3_countPairs_42 : decode cX3_countPairs 42 = .ok (.iload_n 2, 1) := by decide +kernel
theorem dX3_countPairs_43 : decode cX3_countPairs 43 = .ok (.if_icmp .ge 39, 3) := by decide +kernel
theorem dX3_countPairs_46 : decode cX3_countPairs 46 = .ok (.aload_n 0, 1) := by decide +kernel
theorem dX3_countPairs_47 : decode cX3_countPairs 47 = .ok (.getfield 9, 3) := by decide +kernel
theorem dX3_countPairs_50 : decode cX3_countPairs 50 = .ok (.iload_n 3, 1) := by decide +kernel
theorem dX3_countPairs_51 : decode cX3_countPairs 51 = .ok (.iload_n 1, 1) := by decide +kernel
theorem dX3_countPairs_52 : decode cX3_countPairs 52 = .ok (.invokevirtual 70, 3) := by decide +kernel
theorem dX3_countPairs_55 : decode cX3_countPairs 55 = .ok (.ifCond .eq 21, 3) := by decide +kernel
theorem dX3_countPairs_58 : decode cX3_countPairs 58 = .ok (.aload_n 0, 1) := by decide +kernel
theorem dX3_countPairs_59 : decode cX3_countPairs 59 = .ok (.getfield 9, 3) := by decide +kernel
theorem dX3_countPairs_62 : decode cX3_countPairs 62 = .ok (.iload_n 2, 1) := by decide +kernel
theorem dX3_countPairs_63 : decode cX3_countPairs 63 = .ok (.iload_n 1, 1) := by decide +kernel
theorem dX3_countPairs_64 : decode cX3_countPairs 64 = .ok (.invokevirtual 70, 3) := by decide +kernel
theorem dX3_countPairs_67 : decode cX3_countPairs 67 = .ok (.ifCond .eq 9, 3) := by decide +kernel
theorem dX3_countPairs_70 : decode cX3_countPairs 70 = .ok (.aload_n 0, 1) := by decide +kernel
theorem dX3_countPairs_71 : decode cX3_countPairs 71 = .ok (.iload_n 3, 1) := by decide +kernel
theorem dX3_countPairs_72 : decode cX3_countPairs 72 = .ok (.iload_n 2, 1) := by decide +kernel
theorem dX3_countPairs_73 : decode cX3_countPairs 73 = .ok (.invokevirtual 74, 3) := by decide +kernel
theorem dX3_countPairs_76 : decode cX3_countPairs 76 = .ok (.iinc 3 1, 3) := by decide +kernel
theorem dX3_countPairs_79 : decode cX3_countPairs 79 = .ok (.goto (-38), 3) := by decide +kernel
theorem dX3_countPairs_82 : decode cX3_countPairs 82 = .ok (.iinc 2 1, 3) := by decide +kernel
theorem dX3_countPairs_85 : decode cX3_countPairs 85 = .ok (.goto (-57), 3) := by decide +kernel
theorem dX3_countPairs_88 : decode cX3_countPairs 88 = .ok (.return_, 1) := by decide +kernel
theorem dX3_countPair_0 : decode cX3_countPair 0 = .ok (.aload_n 0, 1) := by decide +kernel
theorem dX3_countPair_1 : decode cX3_countPair 1 = .ok (.getfield 15, 3) := by decide +kernel
theorem dX3_countPair_4 : decode cX3_countPair 4 = .ok (.iload_n 1, 1) := by decide +kernel
theorem dX3_countPair_5 : decode cX3_countPair 5 = .ok (.iload_n 2, 1) := by decide +kernel
theorem dX3_countPair_6 : decode cX3_countPair 6 = .ok (.invokevirtual 78, 3) := by decide +kernel
theorem dX3_countPair_9 : decode cX3_countPair 9 = .ok (.istore_n 3, 1) := by decide +kernel
theorem dX3_countPair_10 : decode cX3_countPair 10 = .ok (.iload_n 3, 1) := by decide +kernel
theorem dX3_countPair_11 : decode cX3_countPair 11 = .ok (.iconst (-1), 1) := by decide +kernel
theorem dX3_countPair_12 : decode cX3_countPair 12 = .ok (.if_icmp .ne 4, 3) := by decide +kernel
theorem dX3_countPair_15 : decode cX3_countPair 15 = .ok (.return_, 1) := by decide +kernel
theorem dX3_countPair_16 : decode cX3_countPair 16 = .ok (.aload_n 0, 1) := by decide +kernel
theorem dX3_countPair_17 : decode cX3_countPair 17 = .ok (.getfield 9, 3) := by decide +kernel
theorem dX3_countPair_20 : decode cX3_countPair 20 = .ok (.iload_n 1, 1) := by decide +kernel
theorem dX3_countPair_21 : decode cX3_countPair 21 = .ok (.invokevirtual 84, 3) := by decide +kernel
theorem dX3_countPair_24 : decode cX3_countPair 24 = .ok (.aload_n 0, 1) := by decide +kernel
theorem dX3_countPair_25 : decode cX3_countPair 25 = .ok (.getfield 9, 3) := by decide +kernel
theorem dX3_countPair_28 : decode cX3_countPair 28 = .ok (.iload_n 2, 1) := by decide +kernel
theorem dX3_countPair_29 : decode cX3_countPair 29 = .ok (.invokevirtual 84, 3) := by decide +kernel
theorem dX3_countPair_32 : decode cX3_countPair 32 = .ok (.if_icmp .ne 29, 3) := by decide +kernel
theorem dX3_countPair_35 : decode cX3_countPair 35 = .ok (.aload_n 0, 1) := by decide +kernel
theorem dX3_countPair_36 : decode cX3_countPair 36 = .ok (.getfield 19, 3) := by decide +kernel
theorem dX3_countPair_39 : decode cX3_countPair 39 = .ok (.iload_n 3, 1) := by decide +kernel
theorem dX3_countPair_40 : decode cX3_countPair 40 = .ok (.invokestatic 88, 3) := by decide +kernel
theorem dX3_countPair_43 : decode cX3_countPair 43 = .ok (.dup2, 1) := by decide +kernel
theorem dX3_countPair_44 : decode cX3_countPair 44 = .ok (.iaload, 1) := by decide +kernel
theorem dX3_countPair_45 : decode cX3_countPair 45 = .ok (.iconst 1, 1) := by decide +kernel
theorem dX3_countPair_46 : decode cX3_countPair 46 = .ok (.iadd, 1) := by decide +kernel
theorem dX3_countPair_47 : decode cX3_countPair 47 = .ok (.iastore, 1) := by decide +kernel
theorem dX3_countPair_48 : decode cX3_countPair 48 = .ok (.aload_n 0, 1) := by decide +kernel
theorem dX3_countPair_49 : decode cX3_countPair 49 = .ok (.dup, 1) := by decide +kernel
theorem dX3_countPair_50 : decode cX3_countPair 50 = .ok (.getfield 42, 3) := by decide +kernel
theorem dX3_countPair_53 : decode cX3_countPair 53 = .ok (.iconst 1, 1) := by decide +kernel
theorem dX3_countPair_54 : decode cX3_countPair 54 = .ok (.iadd, 1) := by decide +kernel
theorem dX3_countPair_55 : decode cX3_countPair 55 = .ok (.putfield 42, 3) := by decide +kernel
theorem dX3_countPair_58 : decode cX3_countPair 58 = .ok (.goto 26, 3) := by decide +kernel
theorem dX3_countPair_61 : decode cX3_countPair 61 = .ok (.aload_n 0, 1) := by decide +kernel
theorem dX3_countPair_62 : decode cX3_countPair 62 = .ok (.getfield 23, 3) := by decide +kernel
theorem dX3_countPair_65 : decode cX3_countPair 65 = .ok (.iload_n 3, 1) := by decide +kernel
theorem dX3_countPair_66 : decode cX3_countPair 66 = .ok (.invokestatic 88, 3) := by decide +kernel
theorem dX3_countPair_69 : decode cX3_countPair 69 = .ok (.dup2, 1) := by decide +kernel
theorem dX3_countPair_70 : decode cX3_countPair 70 = .ok (.iaload, 1) := by decide +kernel
theorem dX3_countPair_71 : decode cX3_countPair 71 = .ok (.iconst 1, 1) := by decide +kernel
theorem dX3_countPair_72 : decode cX3_countPair 72 = .ok (.iadd, 1) := by decide +kernel
theorem dX3_countPair_73 : decode cX3_countPair 73 = .ok (.iastore, 1) := by decide +kernel
theorem dX3_countPair_74 : decode cX3_countPair 74 = .ok (.aload_n 0, 1) := by decide +kernel
theorem dX3_countPair_75 : decode cX3_countPair 75 = .ok (.dup, 1) := by decide +kernel
theorem dX3_countPair_76 : decode cX3_countPair 76 = .ok (.getfield 45, 3) := by decide +kernel
theorem dX3_countPair_79 : decode cX3_countPair 79 = .ok (.iconst 1, 1) := by decide +kernel
theorem dX3_countPair_80 : decode cX3_countPair 80 = .ok (.iadd, 1) := by decide +kernel
theorem dX3_countPair_81 : decode cX3_countPair 81 = .ok (.putfield 45, 3) := by decide +kernel
theorem dX3_countPair_84 : decode cX3_countPair 84 = .ok (.return_, 1) := by decide +kernel
theorem dX3_makeBlocks_0 : decode cX3_makeBlocks 0 = .ok (.aload_n 0, 1) := by decide +kernel
theorem dX3_makeBlocks_1 : decode cX3_makeBlocks 1 = .ok (.iconst 0, 1) := by decide +kernel
theorem dX3_makeBlocks_2 : decode cX3_makeBlocks 2 = .ok (.putfield 38, 3) := by decide +kernel
theorem dX3_makeBlocks_5 : decode cX3_makeBlocks 5 = .ok (.iconst 0, 1) := by decide +kernel
theorem dX3_makeBlocks_6 : decode cX3_makeBlocks 6 = .ok (.istore_n 1, 1) := by decide +kernel
theorem dX3_makeBlocks_7 : decode cX3_makeBlocks 7 = .ok (.iload_n 1, 1) := by decide +kernel
theorem dX3_makeBlocks_8 : decode cX3_makeBlocks 8 = .ok (.bipush 10, 2) := by decide +kernel
theorem dX3_makeBlocks_10 : decode cX3_makeBlocks 10 = .ok (.if_icmp .ge 77, 3) := by decide +kernel
theorem dX3_makeBlocks_13 : decode cX3_makeBlocks 13 = .ok (.aload_n 0, 1) := by decide +kernel
theorem dX3_makeBlocks_14 : decode cX3_makeBlocks 14 = .ok (.iload_n 1, 1) := by decide +kernel
theorem dX3_makeBlocks_15 : decode cX3_makeBlocks 15 = .ok (.invokevirtual 91, 3) := by decide +kernel
theorem dX3_makeBlocks_18 : decode cX3_makeBlocks 18 = .ok (.ifCond .ne 63, 3) := by decide +kernel
theorem dX3_makeBlocks_21 : decode cX3_makeBlocks 21 = .ok (.aload_n 0, 1) := by decide +kernel
theorem dX3_makeBlocks_22 : decode cX3_makeBlocks 22 = .ok (.getfield 26, 3) := by decide +kernel
theorem dX3_makeBlocks_25 : decode cX3_makeBlocks 25 = .ok (.aload_n 0, 1) := by decide +kernel
theorem dX3_makeBlocks_26 : decode cX3_makeBlocks 26 = .ok (.getfield 38, 3) := by decide +kernel
theorem dX3_makeBlocks_29 : decode cX3_makeBlocks 29 = .ok (.iload_n 1, 1) := by decide +kernel
theorem dX3_makeBlocks_30 : decode cX3_makeBlocks 30 = .ok (.iastore, 1) := by decide +kernel
theorem dX3_makeBlocks_31 : decode cX3_makeBlocks 31 = .ok (.aload_n 0, 1) := by decide +kernel
theorem dX3_makeBlocks_32 : decode cX3_makeBlocks 32 = .ok (.getfield 29, 3) := by decide +kernel
theorem dX3_makeBlocks_35 : decode cX3_makeBlocks 35 = .ok (.aload_n 0, 1) := by decide +kernel
theorem dX3_makeBlocks_36 : decode cX3_makeBlocks 36 = .ok (.getfield 38, 3) := by decide +kernel
theorem dX3_makeBlocks_39 : decode cX3_makeBlocks 39 = .ok (.iload_n 1, 1) := by decide +kernel
theorem dX3_makeBlocks_40 : decode cX3_makeBlocks 40 = .ok (.iastore, 1) := by decide +kernel
theorem dX3_makeBlocks_41 : decode cX3_makeBlocks 41 = .ok (.aload_n 0, 1) := by decide +kernel
theorem dX3_makeBlocks_42 : decode cX3_makeBlocks 42 = .ok (.getfield 32, 3) := by decide +kernel
theorem dX3_makeBlocks_45 : decode cX3_makeBlocks 45 = .ok (.aload_n 0, 1) := by decide +kernel
theorem dX3_makeBlocks_46 : decode cX3_makeBlocks 46 = .ok (.getfield 38, 3) := by decide +kernel
theorem dX3_makeBlocks_49 : decode cX3_makeBlocks 49 = .ok (.aload_n 0, 1) := by decide +kernel
theorem dX3_makeBlocks_50 : decode cX3_makeBlocks 50 = .ok (.getfield 19, 3) := by decide +kernel
theorem dX3_makeBlocks_53 : decode cX3_makeBlocks 53 = .ok (.iload_n 1, 1) := by decide +kernel
theorem dX3_makeBlocks_54 : decode cX3_makeBlocks 54 = .ok (.iaload, 1) := by decide +kernel
theorem dX3_makeBlocks_55 : decode cX3_makeBlocks 55 = .ok (.iastore, 1) := by decide +kernel
theorem dX3_makeBlocks_56 : decode cX3_makeBlocks 56 = .ok (.aload_n 0, 1) := by decide +kernel
theorem dX3_makeBlocks_57 : decode cX3_makeBlocks 57 = .ok (.getfield 35, 3) := by decide +kernel
theorem dX3_makeBlocks_60 : decode cX3_makeBlocks 60 = .ok (.aload_n 0, 1) := by decide +kernel
theorem dX3_makeBlocks_61 : decode cX3_makeBlocks 61 = .ok (.getfield 38, 3) := by decide +kernel
theorem dX3_makeBlocks_64 : decode cX3_makeBlocks 64 = .ok (.aload_n 0, 1) := by decide +kernel
theorem dX3_makeBlocks_65 : decode cX3_makeBlocks 65 = .ok (.getfield 23, 3) := by decide +kernel
theorem dX3_makeBlocks_68 : decode cX3_makeBlocks 68 = .ok (.iload_n 1, 1) := by decide +kernel
theorem dX3_makeBlocks_69 : decode cX3_makeBlocks 69 = .ok (.iaload, 1) := by decide +kernel
theorem dX3_makeBlocks_70 : decode cX3_makeBlocks 70 = .ok (.iastore, 1) := by decide +kernel
theorem dX3_makeBlocks_71 : decode cX3_makeBlocks 71 = .ok (.aload_n 0, 1) := by decide +kernel
theorem dX3_makeBlocks_72 : decode cX3_makeBlocks 72 = .ok (.dup, 1) := by decide +kernel
theorem dX3_makeBlocks_73 : decode cX3_makeBlocks 73 = .ok (.getfield 38, 3) := by decide +kernel
theorem dX3_makeBlocks_76 : decode cX3_makeBlocks 76 = .ok (.iconst 1, 1) := by decide +kernel
theorem dX3_makeBlocks_77 : decode cX3_makeBlocks 77 = .ok (.iadd, 1) := by decide +kernel
theorem dX3_makeBlocks_78 : decode cX3_makeBlocks 78 = .ok (.putfield 38, 3) := by decide +kernel
theorem dX3_makeBlocks_81 : decode cX3_makeBlocks 81 = .ok (.iinc 1 1, 3) := by decide +kernel
theorem dX3_makeBlocks_84 : decode cX3_makeBlocks 84 = .ok (.goto (-77), 3) := by decide +kernel
theorem dX3_makeBlocks_87 : decode cX3_makeBlocks 87 = .ok (.return_, 1) := by decide +kernel
theorem dX3_putBlocksInOrder_0 : decode cX3_putBlocksInOrder 0 = .ok (.iconst 0, 1) := by decide +kernel
theorem dX3_putBlocksInOrder_1 : decode cX3_putBlocksInOrder 1 = .ok (.istore_n 1, 1) := by decide +kernel
theorem dX3_putBlocksInOrder_2 : decode cX3_putBlocksInOrder 2 = .ok (.iload_n 1, 1) := by decide +kernel
theorem dX3_putBlocksInOrder_3 : decode cX3_putBlocksInOrder 3 = .ok (.bipush 10, 2) := by decide +kernel
theorem dX3_putBlocksInOrder_5 : decode cX3_putBlocksInOrder 5 = .ok (.if_icmp .ge 25, 3) := by decide +kernel
theorem dX3_putBlocksInOrder_8 : decode cX3_putBlocksInOrder 8 = .ok (.aload_n 0, 1) := by decide +kernel
theorem dX3_putBlocksInOrder_9 : decode cX3_putBlocksInOrder 9 = .ok (.invokevirtual 95, 3) := by decide +kernel
theorem dX3_putBlocksInOrder_12 : decode cX3_putBlocksInOrder 12 = .ok (.istore_n 2, 1) := by decide +kernel
theorem dX3_putBlocksInOrder_13 : decode cX3_putBlocksInOrder 13 = .ok (.iload_n 2, 1) := by decide +kernel
theorem dX3_putBlocksInOrder_14 : decode cX3_putBlocksInOrder 14 = .ok (.iconst (-1), 1) := by decide +kernel
theorem dX3_putBlocksInOrder_15 : decode cX3_putBlocksInOrder 15 = .ok (.if_icmp .ne 4, 3) := by decide +kernel
theorem dX3_putBlocksInOrder_18 : decode cX3_putBlocksInOrder 18 = .ok (.return_, 1) := by decide +kernel
theorem dX3_putBlocksInOrder_19 : decode cX3_putBlocksInOrder 19 = .ok (.aload_n 0, 1) := by decide +kernel
theorem dX3_putBlocksInOrder_20 : decode cX3_putBlocksInOrder 20 = .ok (.iload_n 2, 1) := by decide +kernel
theorem dX3_putBlocksInOrder_21 : decode cX3_putBlocksInOrder 21 = .ok (.invokevirtual 98, 3) := by decide +kernel
theorem dX3_putBlocksInOrder_24 : decode cX3_putBlocksInOrder 24 = .ok (.iinc 1 1, 3) := by decide +kernel
theorem dX3_putBlocksInOrder_27 : decode cX3_putBlocksInOrder 27 = .ok (.goto (-25), 3) := by decide +kernel
theorem dX3_putBlocksInOrder_30 : decode cX3_putBlocksInOrder 30 = .ok (.return_, 1) := by decide +kernel
theorem dX3_findOutOfOrder_0 : decode cX3_findOutOfOrder 0 = .ok (.iconst 0, 1) := by decide +kernel
theorem dX3_findOutOfOrder_1 : decode cX3_findOutOfOrder 1 = .ok (.istore_n 1, 1) := by decide +kernel
theorem dX3_findOutOfOrder_2 : decode cX3_findOutOfOrder 2 = .ok (.iload_n 1, 1) := by decide +kernel
theorem dX3_findOutOfOrder_3 : decode cX3_findOutOfOrder 3 = .ok (.iconst 1, 1) := by decide +kernel
theorem dX3_findOutOfOrder_4 : decode cX3_findOutOfOrder 4 = .ok (.iadd, 1) := by decide +kernel
theorem dX3_findOutOfOrder_5 : decode cX3_findOutOfOrder 5 = .ok (.aload_n 0, 1) := by decide +kernel
theorem dX3_findOutOfOrder_6 : decode cX3_findOutOfOrder 6 = .ok (.getfield 38, 3) := by decide +kernel
theorem dX3_findOutOfOrder_9 : decode cX3_findOutOfOrder 9 = .ok (.if_icmp .ge 22, 3) := by decide +kernel
theorem dX3_findOutOfOrder_12 : decode cX3_findOutOfOrder 12 = .ok (.aload_n 0, 1) := by decide +kernel
theorem dX3_findOutOfOrder_13 : decode cX3_findOutOfOrder 13 = .ok (.iload_n 1, 1) := by decide +kernel
theorem dX3_findOutOfOrder_14 : decode cX3_findOutOfOrder 14 = .ok (.iload_n 1, 1) := by decide +kernel
theorem dX3_findOutOfOrder_15 : decode cX3_findOutOfOrder 15 = .ok (.iconst 1, 1) := by decide +kernel
theorem dX3_findOutOfOrder_16 : decode cX3_findOutOfOrder 16 = .ok (.iadd, 1) := by decide +kernel
theorem dX3_findOutOfOrder_17 : decode cX3_findOutOfOrder 17 = .ok (.invokevirtual 101, 3) := by decide +kernel
theorem dX3_findOutOfOrder_20 : decode cX3_findOutOfOrder 20 = .ok (.ifCond .eq 5, 3) := by decide +kernel
theorem dX3_findOutOfOrder_23 : decode cX3_findOutOfOrder 23 = .ok (.iload_n 1, 1) := by decide +kernel
theorem dX3_findOutOfOrder_24 : decode cX3_findOutOfOrder 24 = .ok (.ireturn, 1) := by decide +kernel
theorem dX3_findOutOfOrder_25 : decode cX3_findOutOfOrder 25 = .ok (.iinc 1 1, 3) := by decide +kernel
theorem dX3_findOutOfOrder_28 : decode cX3_findOutOfOrder 28 = .ok (.goto (-26), 3) := by decide +kernel
theorem dX3_findOutOfOrder_31 : decode cX3_findOutOfOrder 31 = .ok (.iconst (-1), 1) := by decide +kernel
theorem dX3_findOutOfOrder_32 : decode cX3_findOutOfOrder 32 = .ok (.ireturn, 1) := by decide +kernel
theorem dX3_isOutOfOrder_0 : decode cX3_isOutOfOrder 0 = .ok (.aload_n 0, 1) := by decide +kernel
theorem dX3_isOutOfOrder_1 : decode cX3_isOutOfOrder 1 = .ok (.getfield 32, 3) := by decide +kernel
theorem dX3_isOutOfOrder_4 : decode cX3_isOutOfOrder 4 = .ok (.iload_n 1, 1) := by decide +kernel
theorem dX3_isOutOfOrder_5 : decode cX3_isOutOfOrder 5 = .ok (.iaload, 1) := by decide +kernel
theorem dX3_isOutOfOrder_6 : decode cX3_isOutOfOrder 6 = .ok (.aload_n 0, 1) := by decide +kernel
theorem dX3_isOutOfOrder_7 : decode cX3_isOutOfOrder 7 = .ok (.getfield 35, 3) := by decide +kernel
theorem dX3_isOutOfOrder_10 : decode cX3_isOutOfOrder 10 = .ok (.iload_n 1, 1) := by decide +kernel
theorem dX3_isOutOfOrder_11 : decode cX3_isOutOfOrder 11 = .ok (.iaload, 1) := by decide +kernel
theorem dX3_isOutOfOrder_12 : decode cX3_isOutOfOrder 12 = .ok (.iadd, 1) := by decide +kernel
theorem dX3_isOutOfOrder_13 : decode cX3_isOutOfOrder 13 = .ok (.istore_n 3, 1) := by decide +kernel
theorem dX3_isOutOfOrder_14 : decode cX3_isOutOfOrder 14 = .ok (.aload_n 0, 1) := by decide +kernel
theorem dX3_isOutOfOrder_15 : decode cX3_isOutOfOrder 15 = .ok (.getfield 32, 3) := by decide +kernel
theorem dX3_isOutOfOrder_18 : decode cX3_isOutOfOrder 18 = .ok (.iload_n 2, 1) := by decide +kernel
theorem dX3_isOutOfOrder_19 : decode cX3_isOutOfOrder 19 = .ok (.iaload, 1) := by decide +kernel
theorem dX3_isOutOfOrder_20 : decode cX3_isOutOfOrder 20 = .ok (.aload_n 0, 1) := by decide +kernel
theorem dX3_isOutOfOrder_21 : decode cX3_isOutOfOrder 21 = .ok (.getfield 35, 3) := by decide +kernel
theorem dX3_isOutOfOrder_24 : decode cX3_isOutOfOrder 24 = .ok (.iload_n 2, 1) := by decide +kernel
theorem dX3_isOutOfOrder_25 : decode cX3_isOutOfOrder 25 = .ok (.iaload, 1) := by decide +kernel
theorem dX3_isOutOfOrder_26 : decode cX3_isOutOfOrder 26 = .ok (.iadd, 1) := by decide +kernel
theorem dX3_isOutOfOrder_27 : decode cX3_isOutOfOrder 27 = .ok (.istore 4, 2) := by decide +kernel
theorem dX3_isOutOfOrder_29 : decode cX3_isOutOfOrder 29 = .ok (.aload_n 0, 1) := by decide +kernel
theorem dX3_isOutOfOrder_30 : decode cX3_isOutOfOrder 30 = .ok (.getfield 32, 3) := by decide +kernel
theorem dX3_isOutOfOrder_33 : decode cX3_isOutOfOrder 33 = .ok (.iload_n 2, 1) := by decide +kernel
theorem dX3_isOutOfOrder_34 : decode cX3_isOutOfOrder 34 = .ok (.iaload, 1) := by decide +kernel
theorem dX3_isOutOfOrder_35 : decode cX3_isOutOfOrder 35 = .ok (.iload_n 3, 1) := by decide +kernel
theorem dX3_isOutOfOrder_36 : decode cX3_isOutOfOrder 36 = .ok (.imul, 1) := by decide +kernel
theorem dX3_isOutOfOrder_37 : decode cX3_isOutOfOrder 37 = .ok (.aload_n 0, 1) := by decide +kernel
theorem dX3_isOutOfOrder_38 : decode cX3_isOutOfOrder 38 = .ok (.getfield 32, 3) := by decide +kernel
theorem dX3_isOutOfOrder_41 : decode cX3_isOutOfOrder 41 = .ok (.iload_n 1, 1) := by decide +kernel
theorem dX3_isOutOfOrder_42 : decode cX3_isOutOfOrder 42 = .ok (.iaload, 1) := by decide +kernel
theorem dX3_isOutOfOrder_43 : decode cX3_isOutOfOrder 43 = .ok (.iload 4, 2) := by decide +kernel
theorem dX3_isOutOfOrder_45 : decode cX3_isOutOfOrder 45 = .ok (.imul, 1) := by decide +kernel
theorem dX3_isOutOfOrder_46 : decode cX3_isOutOfOrder 46 = .ok (.if_icmp .lt 7, 3) := by decide +kernel
theorem dX3_isOutOfOrder_49 : decode cX3_isOutOfOrder 49 = .ok (.iconst 1, 1) := by decide +kernel
theorem dX3_isOutOfOrder_50 : decode cX3_isOutOfOrder 50 = .ok (.goto 4, 3) := by decide +kernel
theorem dX3_isOutOfOrder_53 : decode cX3_isOutOfOrder 53 = .ok (.iconst 0, 1) := by decide +kernel
theorem dX3_isOutOfOrder_54 : decode cX3_isOutOfOrder 54 = .ok (.ireturn, 1) := by decide +kernel
theorem dX3_joinWithNext_0 : decode cX3_joinWithNext 0 = .ok (.aload_n 0, 1) := by decide +kernel
theorem dX3_joinWithNext_1 : decode cX3_joinWithNext 1 = .ok (.getfield 29, 3) := by decide +kernel
theorem dX3_joinWithNext_4 : decode cX3_joinWithNext 4 = .ok (.iload_n 1, 1) := by decide +kernel
theorem dX3_joinWithNext_5 : decode cX3_joinWithNext 5 = .ok (.aload_n 0, 1) := by decide +kernel
theorem dX3_joinWithNext_6 : decode cX3_joinWithNext 6 = .ok (.getfield 29, 3) := by decide +kernel
theorem dX3_joinWithNext_9 : decode cX3_joinWithNext 9 = .ok (.iload_n 1, 1) := by decide +kernel
theorem dX3_joinWithNext_10 : decode cX3_joinWithNext 10 = .ok (.iconst 1, 1) := by decide +kernel
theorem dX3_joinWithNext_11 : decode cX3_joinWithNext 11 = .ok (.iadd, 1) := by decide +kernel
theorem dX3_joinWithNext_12 : decode cX3_joinWithNext 12 = .ok (.iaload, 1) := by decide +kernel
theorem dX3_joinWithNext_13 : decode cX3_joinWithNext 13 = .ok (.iastore, 1) := by decide +kernel
theorem dX3_joinWithNext_14 : decode cX3_joinWithNext 14 = .ok (.aload_n 0, 1) := by decide +kernel
theorem dX3_joinWithNext_15 : decode cX3_joinWithNext 15 = .ok (.getfield 32, 3) := by decide +kernel
theorem dX3_joinWithNext_18 : decode cX3_joinWithNext 18 = .ok (.iload_n 1, 1) := by decide +kernel
theorem dX3_joinWithNext_19 : decode cX3_joinWithNext 19 = .ok (.dup2, 1) := by decide +kernel
theorem dX3_joinWithNext_20 : decode cX3_joinWithNext 20 = .ok (.iaload, 1) := by decide +kernel
theorem dX3_joinWithNext_21 : decode cX3_joinWithNext 21 = .ok (.aload_n 0, 1) := by decide +kernel
theorem dX3_joinWithNext_22 : decode cX3_joinWithNext 22 = .ok (.getfield 32, 3) := by decide +kernel
theorem dX3_joinWithNext_25 : decode cX3_joinWithNext 25 = .ok (.iload_n 1, 1) := by decide +kernel
theorem dX3_joinWithNext_26 : decode cX3_joinWithNext 26 = .ok (.iconst 1, 1) := by decide +kernel
theorem dX3_joinWithNext_27 : decode cX3_joinWithNext 27 = .ok (.iadd, 1) := by decide +kernel
theorem dX3_joinWithNext_28 : decode cX3_joinWithNext 28 = .ok (.iaload, 1) := by decide +kernel
theorem dX3_joinWithNext_29 : decode cX3_joinWithNext 29 = .ok (.iadd, 1) := by decide +kernel
theorem dX3_joinWithNext_30 : decode cX3_joinWithNext 30 = .ok (.iastore, 1) := by decide +kernel
theorem dX3_joinWithNext_31 : decode cX3_joinWithNext 31 = .ok (.aload_n 0, 1) := by decide +kernel
theorem dX3_joinWithNext_32 : decode cX3_joinWithNext 32 = .ok (.getfield 35, 3) := by decide +kernel
theorem dX3_joinWithNext_35 : decode cX3_joinWithNext 35 = .ok (.iload_n 1, 1) := by decide +kernel
theorem dX3_joinWithNext_36 : decode cX3_joinWithNext 36 = .ok (.dup2, 1) := by decide +kernel
theorem dX3_joinWithNext_37 : decode cX3_joinWithNext 37 = .ok (.iaload, 1) := by decide +kernel
theorem dX3_joinWithNext_38 : decode cX3_joinWithNext 38 = .ok (.aload_n 0, 1) := by decide +kernel
theorem dX3_joinWithNext_39 : decode cX3_joinWithNext 39 = .ok (.getfield 35, 3) := by decide +kernel
theorem dX3_joinWithNext_42 : decode cX3_joinWithNext 42 = .ok (.iload_n 1, 1) := by decide +kernel
theorem dX3_joinWithNext_43 : decode cX3_joinWithNext 43 = .ok (.iconst 1, 1) := by decide +kernel
theorem dX3_joinWithNext_44 : decode cX3_joinWithNext 44 = .ok (.iadd, 1) := by decide +kernel
theorem dX3_joinWithNext_45 : decode cX3_joinWithNext 45 = .ok (.iaload, 1) := by decide +kernel
theorem dX3_joinWithNext_46 : decode cX3_joinWithNext 46 = .ok (.iadd, 1) := by decide +kernel
theorem dX3_joinWithNext_47 : decode cX3_joinWithNext 47 = .ok (.iastore, 1) := by decide +kernel
theorem dX3_joinWithNext_48 : decode cX3_joinWithNext 48 = .ok (.iload_n 1, 1) := by decide +kernel
theorem dX3_joinWithNext_49 : decode cX3_joinWithNext 49 = .ok (.iconst 1, 1) := by decide +kernel
theorem dX3_joinWithNext_50 : decode cX3_joinWithNext 50 = .ok (.iadd, 1) := by decide +kernel
theorem dX3_joinWithNext_51 : decode cX3_joinWithNext 51 = .ok (.istore_n 2, 1) := by decide +kernel
theorem dX3_joinWithNext_52 : decode cX3_joinWithNext 52 = .ok (.iload_n 2, 1) := by decide +kernel
theorem dX3_joinWithNext_53 : decode cX3_joinWithNext 53 = .ok (.iconst 1, 1) := by decide +kernel
theorem dX3_joinWithNext_54 : decode cX3_joinWithNext 54 = .ok (.iadd, 1) := by decide +kernel
theorem dX3_joinWithNext_55 : decode cX3_joinWithNext 55 = .ok (.aload_n 0, 1) := by decide +kernel
theorem dX3_joinWithNext_56 : decode cX3_joinWithNext 56 = .ok (.getfield 38, 3) := by decide +kernel
theorem dX3_joinWithNext_59 : decode cX3_joinWithNext 59 = .ok (.if_icmp .ge 65, 3) := by decide +kernel
theorem dX3_joinWithNext_62 : decode cX3_joinWithNext 62 = .ok (.aload_n 0, 1) := by decide +kernel
theorem dX3_joinWithNext_63 : decode cX3_joinWithNext 63 = .ok (.getfield 26, 3) := by decide +kernel
theorem dX3_joinWithNext_66 : decode cX3_joinWithNext 66 = .ok (.iload_n 2, 1) := by decide +kernel
theorem dX3_joinWithNext_67 : decode cX3_joinWithNext 67 = .ok (.aload_n 0, 1) := by decide +kernel
theorem dX3_joinWithNext_68 : decode cX3_joinWithNext 68 = .ok (.getfield 26, 3) := by decide +kernel
theorem dX3_joinWithNext_71 : decode cX3_joinWithNext 71 = .ok (.iload_n 2, 1) := by decide +kernel
theorem dX3_joinWithNext_72 : decode cX3_joinWithNext 72 = .ok (.iconst 1, 1) := by decide +kernel
theorem dX3_joinWithNext_73 : decode cX3_joinWithNext 73 = .ok (.iadd, 1) := by decide +kernel
theorem dX3_joinWithNext_74 : decode cX3_joinWithNext 74 = .ok (.iaload, 1) := by decide +kernel
theorem dX3_joinWithNext_75 : decode cX3_joinWithNext 75 = .ok (.iastore, 1) := by decide +kernel
theorem dX3_joinWithNext_76 : decode cX3_joinWithNext 76 = .ok (.aload_n 0, 1) := by decide +kernel
theorem dX3_joinWithNext_77 : decode cX3_joinWithNext 77 = .ok (.getfield 29, 3) := by decide +kernel
theorem dX3_joinWithNext_80 : decode cX3_joinWithNext 80 = .ok (.iload_n 2, 1) := by decide +kernel
theorem dX3_joinWithNext_81 : decode cX3_joinWithNext 81 = .ok (.aload_n 0, 1) := by decide +kernel
theorem dX3_joinWithNext_82 : decode cX3_joinWithNext 82 = .ok (.getfield 29, 3) := by decide +kernel
theorem dX3_joinWithNext_85 : decode cX3_joinWithNext 85 = .ok (.iload_n 2, 1) := by decide +kernel
theorem dX3_joinWithNext_86 : decode cX3_joinWithNext 86 = .ok (.iconst 1, 1) := by decide +kernel
theorem dX3_joinWithNext_87 : decode cX3_joinWithNext 87 = .ok (.iadd, 1) := by decide +kernel
theorem dX3_joinWithNext_88 : decode cX3_joinWithNext 88 = .ok (.iaload, 1) := by decide +kernel
theorem dX3_joinWithNext_89 : decode cX3_joinWithNext 89 = .ok (.iastore, 1) := by decide +kernel
theorem dX3_joinWithNext_90 : decode cX3_joinWithNext 90 = .ok (.aload_n 0, 1) := by decide +kernel
theorem dX3_joinWithNext_91 : decode cX3_joinWithNext 91 = .ok (.getfield 32, 3) := by decide +kernel
theorem dX3_joinWithNext_94 : decode cX3_joinWithNext 94 = .ok (.iload_n 2, 1) := by decide +kernel
theorem dX3_joinWithNext_95 : decode cX3_joinWithNext 95 = .ok (.aload_n 0, 1) := by decide +kernel
theorem dX3_joinWithNext_96 : decode cX3_joinWithNext 96 = .ok (.getfield 32, 3) := by decide +kernel
theorem dX3_joinWithNext_99 : decode cX3_joinWithNext 99 = .ok (.iload_n 2, 1) := by decide +kernel
theorem dX3_joinWithNext_100 : decode cX3_joinWithNext 100 = .ok (.iconst 1, 1) := by decide +kernel
theorem dX3_joinWithNext_101 : decode cX3_joinWithNext 101 = .ok (.iadd, 1) := by decide +kernel
theorem dX3_joinWithNext_102 : decode cX3_joinWithNext 102 = .ok (.iaload, 1) := by decide +kernel
theorem dX3_joinWithNext_103 : decode cX3_joinWithNext 103 = .ok (.iastore, 1) := by decide +kernel
theorem dX3_joinWithNext_104 : decode cX3_joinWithNext 104 = .ok (.aload_n 0, 1) := by decide +kernel
theorem dX3_joinWithNext_105 : decode cX3_joinWithNext 105 = .ok (.getfield 35, 3) := by decide +kernel
theorem dX3_joinWithNext_108 : decode cX3_joinWithNext 108 = .ok (.iload_n 2, 1) := by decide +kernel
theorem dX3_joinWithNext_109 : decode cX3_joinWithNext 109 = .ok (.aload_n 0, 1) := by decide +kernel
theorem dX3_joinWithNext_110 : decode cX3_joinWithNext 110 = .ok (.getfield 35, 3) := by decide +kernel
theorem dX3_joinWithNext_113 : decode cX3_joinWithNext 113 = .ok (.iload_n 2, 1) := by decide +kernel
theorem dX3_joinWithNext_114 : decode cX3_joinWithNext 114 = .ok (.iconst 1, 1) := by decide +kernel
theorem dX3_joinWithNext_115 : decode cX3_joinWithNext 115 = .ok (.iadd, 1) := by decide +kernel
theorem dX3_joinWithNext_116 : decode cX3_joinWithNext 116 = .ok (.iaload, 1) := by decide +kernel
theorem dX3_joinWithNext_117 : decode cX3_joinWithNext 117 = .ok (.iastore, 1) := by decide +kernel
theorem dX3_joinWithNext_118 : decode cX3_joinWithNext 118 = .ok (.iinc 2 1, 3) := by decide +kernel
theorem dX3_joinWithNext_121 : decode cX3_joinWithNext 121 = .ok (.goto (-69), 3) := by decide +kernel
theorem dX3_joinWithNext_124 : decode cX3_joinWithNext 124 = .ok (.aload_n 0, 1) := by decide +kernel
theorem dX3_joinWithNext_125 : decode cX3_joinWithNext 125 = .ok (.dup, 1) := by decide +kernel
theorem dX3_joinWithNext_126 : decode cX3_joinWithNext 126 = .ok (.getfield 38, 3) := by decide +kernel
theorem dX3_joinWithNext_129 : decode cX3_joinWithNext 129 = .ok (.iconst 1, 1) := by decide +kernel
theorem dX3_joinWithNext_130 : decode cX3_joinWithNext 130 = .ok (.isub, 1) := by decide +kernel
theorem dX3_joinWithNext_131 : decode cX3_joinWithNext 131 = .ok (.putfield 38, 3) := by decide +kernel
theorem dX3_joinWithNext_134 : decode cX3_joinWithNext 134 = .ok (.return_, 1) := by decide +kernel
theorem dX3_findBlock_0 : decode cX3_findBlock 0 = .ok (.aload_n 0, 1) := by decide +kernel
theorem dX3_findBlock_1 : decode cX3_findBlock 1 = .ok (.iload_n 1, 1) := by decide +kernel
theorem dX3_findBlock_2 : decode cX3_findBlock 2 = .ok (.invokevirtual 91, 3) := by decide +kernel
theorem dX3_findBlock_5 : decode cX3_findBlock 5 = .ok (.ifCond .eq 5, 3) := by decide +kernel
theorem dX3_findBlock_8 : decode cX3_findBlock 8 = .ok (.iconst (-1), 1) := by decide +kernel
theorem dX3_findBlock_9 : decode cX3_findBlock 9 = .ok (.ireturn, 1) := by decide +kernel
theorem dX3_findBlock_10 : decode cX3_findBlock 10 = .ok (.iconst 0, 1) := by decide +kernel
theorem dX3_findBlock_11 : decode cX3_findBlock 11 = .ok (.istore_n 2, 1) := by decide +kernel
theorem dX3_findBlock_12 : decode cX3_findBlock 12 = .ok (.iload_n 2, 1) := by decide +kernel
theorem dX3_findBlock_13 : decode cX3_findBlock 13 = .ok (.aload_n 0, 1) := by decide +kernel
theorem dX3_findBlock_14 : decode cX3_findBlock 14 = .ok (.getfield 38, 3) := by decide +kernel
theorem dX3_findBlock_17 : decode cX3_findBlock 17 = .ok (.if_icmp .ge 21, 3) := by decide +kernel
theorem dX3_findBlock_20 : decode cX3_findBlock 20 = .ok (.iload_n 1, 1) := by decide +kernel
theorem dX3_findBlock_21 : decode cX3_findBlock 21 = .ok (.aload_n 0, 1) := by decide +kernel
theorem dX3_findBlock_22 : decode cX3_findBlock 22 = .ok (.getfield 29, 3) := by decide +kernel
theorem dX3_findBlock_25 : decode cX3_findBlock 25 = .ok (.iload_n 2, 1) := by decide +kernel
theorem dX3_findBlock_26 : decode cX3_findBlock 26 = .ok (.iaload, 1) := by decide +kernel
theorem dX3_findBlock_27 : decode cX3_findBlock 27 = .ok (.if_icmp .gt 5, 3) := by decide +kernel
theorem dX3_findBlock_30 : decode cX3_findBlock 30 = .ok (.iload_n 2, 1) := by decide +kernel
theorem dX3_findBlock_31 : decode cX3_findBlock 31 = .ok (.ireturn, 1) := by decide +kernel
theorem dX3_findBlock_32 : decode cX3_findBlock 32 = .ok (.iinc 2 1, 3) := by decide +kernel
theorem dX3_findBlock_35 : decode cX3_findBlock 35 = .ok (.goto (-23), 3) := by decide +kernel
theorem dX3_findBlock_38 : decode cX3_findBlock 38 = .ok (.iconst (-1), 1) := by decide +kernel
theorem dX3_findBlock_39 : decode cX3_findBlock 39 = .ok (.ireturn, 1) := by decide +kernel
theorem dX3_isEmptyBand_0 : decode cX3_isEmptyBand 0 = .ok (.aload_n 0, 1) := by decide +kernel
theorem dX3_isEmptyBand_1 : decode cX3_isEmptyBand 1 = .ok (.getfield 19, 3) := by decide +kernel
theorem dX3_isEmptyBand_4 : decode cX3_isEmptyBand 4 = .ok (.iload_n 1, 1) := by decide +kernel
theorem dX3_isEmptyBand_5 : decode cX3_isEmptyBand 5 = .ok (.iaload, 1) := by decide +kernel
theorem dX3_isEmptyBand_6 : decode cX3_isEmptyBand 6 = .ok (.aload_n 0, 1) := by decide +kernel
theorem dX3_isEmptyBand_7 : decode cX3_isEmptyBand 7 = .ok (.getfield 23, 3) := by decide +kernel
theorem dX3_isEmptyBand_10 : decode cX3_isEmptyBand 10 = .ok (.iload_n 1, 1) := by decide +kernel
theorem dX3_isEmptyBand_11 : decode cX3_isEmptyBand 11 = .ok (.iaload, 1) := by decide +kernel
theorem dX3_isEmptyBand_12 : decode cX3_isEmptyBand 12 = .ok (.iadd, 1) := by decide +kernel
theorem dX3_isEmptyBand_13 : decode cX3_isEmptyBand 13 = .ok (.ifCond .ne 7, 3) := by decide +kernel
theorem dX3_isEmptyBand_16 : decode cX3_isEmptyBand 16 = .ok (.iconst 1, 1) := by decide +kernel
theorem dX3_isEmptyBand_17 : decode cX3_isEmptyBand 17 = .ok (.goto 4, 3) := by decide +kernel
theorem dX3_isEmptyBand_20 : decode cX3_isEmptyBand 20 = .ok (.iconst 0, 1) := by decide +kernel
theorem dX3_isEmptyBand_21 : decode cX3_isEmptyBand 21 = .ok (.ireturn, 1) := by decide +kernel
theorem dX3_sameIn_0 : decode cX3_sameIn 0 = .ok (.aload_n 0, 1) := by decide +kernel
theorem dX3_sameIn_1 : decode cX3_sameIn 1 = .ok (.getfield 19, 3) := by decide +kernel
theorem dX3_sameIn_4 : decode cX3_sameIn 4 = .ok (.iload_n 1, 1) := by decide +kernel
theorem dX3_sameIn_5 : decode cX3_sameIn 5 = .ok (.iaload, 1) := by decide +kernel
theorem dX3_sameIn_6 : decode cX3_sameIn 6 = .ok (.ireturn, 1) := by decide +kernel
theorem dX3_otherIn_0 : decode cX3_otherIn 0 = .ok (.aload_n 0, 1) := by decide +kernel
theorem dX3_otherIn_1 : decode cX3_otherIn 1 = .ok (.getfield 23, 3) := by decide +kernel
theorem dX3_otherIn_4 : decode cX3_otherIn 4 = .ok (.iload_n 1, 1) := by decide +kernel
theorem dX3_otherIn_5 : decode cX3_otherIn 5 = .ok (.iaload, 1) := by decide +kernel
theorem dX3_otherIn_6 : decode cX3_otherIn 6 = .ok (.ireturn, 1) := by decide +kernel
theorem dX3_firstBandOf_0 : decode cX3_firstBandOf 0 = .ok (.aload_n 0, 1) := by decide +kernel
theorem dX3_firstBandOf_1 : decode cX3_firstBandOf 1 = .ok (.getfield 26, 3) := by decide +kernel
theorem dX3_firstBandOf_4 : decode cX3_firstBandOf 4 = .ok (.iload_n 1, 1) := by decide +kernel
theorem dX3_firstBandOf_5 : decode cX3_firstBandOf 5 = .ok (.iaload, 1) := by decide +kernel
theorem dX3_firstBandOf_6 : decode cX3_firstBandOf 6 = .ok (.ireturn, 1) := by decide +kernel
theorem dX3_lastBandOf_0 : decode cX3_lastBandOf 0 = .ok (.aload_n 0, 1) := by decide +kernel
theorem dX3_lastBandOf_1 : decode cX3_lastBandOf 1 = .ok (.getfield 29, 3) := by decide +kernel
theorem dX3_lastBandOf_4 : decode cX3_lastBandOf 4 = .ok (.iload_n 1, 1) := by decide +kernel
theorem dX3_lastBandOf_5 : decode cX3_lastBandOf 5 = .ok (.iaload, 1) := by decide +kernel
theorem dX3_lastBandOf_6 : decode cX3_lastBandOf 6 = .ok (.ireturn, 1) := by decide +kernel
theorem dX3_sameOf_0 : decode cX3_sameOf 0 = .ok (.aload_n 0, 1) := by decide +kernel
theorem dX3_sameOf_1 : decode cX3_sameOf 1 = .ok (.getfield 32, 3) := by decide +kernel
theorem dX3_sameOf_4 : decode cX3_sameOf 4 = .ok (.iload_n 1, 1) := by decide +kernel
theorem dX3_sameOf_5 : decode cX3_sameOf 5 = .ok (.iaload, 1) := by decide +kernel
theorem dX3_sameOf_6 : decode cX3_sameOf 6 = .ok (.ireturn, 1) := by decide +kernel
theorem dX3_otherOf_0 : decode cX3_otherOf 0 = .ok (.aload_n 0, 1) := by decide +kernel
theorem dX3_otherOf_1 : decode cX3_otherOf 1 = .ok (.getfield 35, 3) := by decide +kernel
theorem dX3_otherOf_4 : decode cX3_otherOf 4 = .ok (.iload_n 1, 1) := by decide +kernel
theorem dX3_otherOf_5 : decode cX3_otherOf 5 = .ok (.iaload, 1) := by decide +kernel
theorem dX3_otherOf_6 : decode cX3_otherOf 6 = .ok (.ireturn, 1) := by decide +kernel
theorem dX3_reaches_0 : decode cX3_reaches 0 = .ok (.aload_n 0, 1) := by decide +kernel
theorem dX3_reaches_1 : decode cX3_reaches 1 = .ok (.getfield 32, 3) := by decide +kernel
theorem dX3_reaches_4 : decode cX3_reaches 4 = .ok (.iload_n 1, 1) := by decide +kernel
theorem dX3_reaches_5 : decode cX3_reaches 5 = .ok (.iaload, 1) := by decide +kernel
theorem dX3_reaches_6 : decode cX3_reaches 6 = .ok (.ifCond .eq 16, 3) := by decide +kernel
theorem dX3_reaches_9 : decode cX3_reaches 9 = .ok (.aload_n 0, 1) := by decide +kernel
theorem dX3_reaches_10 : decode cX3_reaches 10 = .ok (.getfield 35, 3) := by decide +kernel
theorem dX3_reaches_13 : decode cX3_reaches 13 = .ok (.iload_n 1, 1) := by decide +kernel
theorem dX3_reaches_14 : decode cX3_reaches 14 = .ok (.iaload, 1) := by decide +kernel
theorem dX3_reaches_15 : decode cX3_reaches 15 = .ok (.ifCond .eq 7, 3) := by decide +kernel
theorem dX3_reaches_18 : decode cX3_reaches 18 = .ok (.iconst 1, 1) := by decide +kernel
theorem dX3_reaches_19 : decode cX3_reaches 19 = .ok (.goto 4, 3) := by decide +kernel
theorem dX3_reaches_22 : decode cX3_reaches 22 = .ok (.iconst 0, 1) := by decide +kernel
theorem dX3_reaches_23 : decode cX3_reaches 23 = .ok (.ireturn, 1) := by decide +kernel
theorem dX3_allSame_0 : decode cX3_allSame 0 = .ok (.aload_n 0, 1) := by decide +kernel
theorem dX3_allSame_1 : decode cX3_allSame 1 = .ok (.getfield 42, 3) := by decide +kernel
theorem dX3_allSame_4 : decode cX3_allSame 4 = .ok (.ireturn, 1) := by decide +kernel
theorem dX3_allOther_0 : decode cX3_allOther 0 = .ok (.aload_n 0, 1) := by decide +kernel
theorem dX3_allOther_1 : decode cX3_allOther 1 = .ok (.getfield 45, 3) := by decide +kernel
theorem dX3_allOther_4 : decode cX3_allOther 4 = .ok (.ireturn, 1) := by decide +kernel
theorem dX3_countBlocks_0 : decode cX3_countBlocks 0 = .ok (.aload_n 0, 1) := by decide +kernel
theorem dX3_countBlocks_1 : decode cX3_countBlocks 1 = .ok (.getfield 38, 3) := by decide +kernel
theorem dX3_countBlocks_4 : decode cX3_countBlocks 4 = .ok (.ireturn, 1) := by decide +kernel
theorem dX4_init_0 : decode cX4_init 0 = .ok (.aload_n 0, 1) := by decide +kernel
theorem dX4_init_1 : decode cX4_init 1 = .ok (.invokespecial 3, 3) := by decide +kernel
theorem dX4_init_4 : decode cX4_init 4 = .ok (.aload_n 0, 1) := by decide +kernel
theorem dX4_init_5 : decode cX4_init 5 = .ok (.aload_n 1, 1) := by decide +kernel
theorem dX4_init_6 : decode cX4_init 6 = .ok (.putfield 9, 3) := by decide +kernel
theorem dX4_init_9 : decode cX4_init 9 = .ok (.aload_n 0, 1) := by decide +kernel
theorem dX4_init_10 : decode cX4_init 10 = .ok (.aload_n 2, 1) := by decide +kernel
theorem dX4_init_11 : decode cX4_init 11 = .ok (.putfield 15, 3) := by decide +kernel
theorem dX4_init_14 : decode cX4_init 14 = .ok (.return_, 1) := by decide +kernel
theorem dX4_between_0 : decode cX4_between 0 = .ok (.iconst 0, 1) := by decide +kernel
theorem dX4_between_1 : decode cX4_between 1 = .ok (.istore_n 3, 1) := by decide +kernel
theorem dX4_between_2 : decode cX4_between 2 = .ok (.iconst 0, 1) := by decide +kernel
theorem dX4_between_3 : decode cX4_between 3 = .ok (.istore 4, 2) := by decide +kernel
theorem dX4_between_5 : decode cX4_between 5 = .ok (.iconst 0, 1) := by decide +kernel
theorem dX4_between_6 : decode cX4_between 6 = .ok (.istore 5, 2) := by decide +kernel
theorem dX4_between_8 : decode cX4_between 8 = .ok (.iload 5, 2) := by decide +kernel
theorem dX4_between_10 : decode cX4_between 10 = .ok (.bipush 6, 2) := by decide +kernel
theorem dX4_between_12 : decode cX4_between 12 = .ok (.if_icmp .ge 103, 3) := by decide +kernel
theorem dX4_between_15 : decode cX4_between 15 = .ok (.aload_n 0, 1) := by decide +kernel
theorem dX4_between_16 : decode cX4_between 16 = .ok (.getfield 9, 3) := by decide +kernel
theorem dX4_between_19 : decode cX4_between 19 = .ok (.iload_n 1, 1) := by decide +kernel
theorem dX4_between_20 : decode cX4_between 20 = .ok (.iload 5, 2) := by decide +kernel
theorem dX4_between_22 : decode cX4_between 22 = .ok (.invokevirtual 19, 3) := by decide +kernel
theorem dX4_between_25 : decode cX4_between 25 = .ok (.istore 6, 2) := by decide +kernel
theorem dX4_between_27 : decode cX4_between 27 = .ok (.aload_n 0, 1) := by decide +kernel
theorem dX4_between_28 : decode cX4_between 28 = .ok (.getfield 9, 3) := by decide +kernel
theorem dX4_between_31 : decode cX4_between 31 = .ok (.iload_n 2, 1) := by decide +kernel
theorem dX4_between_32 : decode cX4_between 32 = .ok (.iload 5, 2) := by decide +kernel
theorem dX4_between_34 : decode cX4_between 34 = .ok (.invokevirtual 19, 3) := by decide +kernel
theorem dX4_between_37 : decode cX4_between 37 = .ok (.istore 7, 2) := by decide +kernel
theorem dX4_between_39 : decode cX4_between 39 = .ok (.iload 6, 2) := by decide +kernel
theorem dX4_between_41 : decode cX4_between 41 = .ok (.iconst (-1), 1) := by decide +kernel
theorem dX4_between_42 : decode cX4_between 42 = .ok (.if_icmp .eq 67, 3) := by decide +kernel
theorem dX4_between_45 : decode cX4_between 45 = .ok (.iload 7, 2) := by decide +kernel
theorem dX4_between_47 : decode cX4_between 47 = .ok (.iconst (-1), 1) := by decide +kernel
theorem dX4_between_48 : decode cX4_between 48 = .ok (.if_icmp .eq 61, 3) := by decide +kernel
theorem dX4_between_51 : decode cX4_between 51 = .ok (.iload 6, 2) := by decide +kernel
theorem dX4_between_53 : decode cX4_between 53 = .ok (.aload_n 0, 1) := by decide +kernel
theorem dX4_between_54 : decode cX4_between 54 = .ok (.getfield 15, 3) := by decide +kernel
theorem dX4_between_57 : decode cX4_between 57 = .ok (.aload_n 0, 1) := by decide +kernel
theorem dX4_between_58 : decode cX4_between 58 = .ok (.getfield 9, 3) := by decide +kernel
theorem dX4_between_61 : decode cX4_between 61 = .ok (.iload_n 1, 1) := by decide +kernel
theorem dX4_between_62 : decode cX4_between 62 = .ok (.invokevirtual 25, 3) := by decide +kernel
theorem dX4_between_65 : decode cX4_between 65 = .ok (.iload 5, 2) := by decide +kernel
theorem dX4_between_67 : decode cX4_between 67 = .ok (.invokevirtual 29, 3) := by decide +kernel
theorem dX4_between_70 : decode cX4_between 70 = .ok (.isub, 1) := by decide +kernel
theorem dX4_between_71 : decode cX4_between 71 = .ok (.istore 8, 2) := by decide +kernel
theorem dX4_between_73 : decode cX4_between 73 = .ok (.iload 7, 2) := by decide +kernel
theorem dX4_between_75 : decode cX4_between 75 = .ok (.aload_n 0, 1) := by decide +kernel
theorem dX4_between_76 : decode cX4_between 76 = .ok (.getfield 15, 3) := by decide +kernel
theorem dX4_between_79 : decode cX4_between 79 = .ok (.aload_n 0, 1) := by decide +kernel
theorem dX4_between_80 : decode cX4_between 80 = .ok (.getfield 9, 3) := by decide +kernel
theorem dX4_between_83 : decode cX4_between 83 = .ok (.iload_n 2, 1) := by decide +kernel
theorem dX4_between_84 : decode cX4_between 84 = .ok (.invokevirtual 25, 3) := by decide +kernel
theorem dX4_between_87 : decode cX4_between 87 = .ok (.iload 5, 2) := by decide +kernel
theorem dX4_between_89 : decode cX4_between 89 = .ok (.invokevirtual 29, 3) := by decide +kernel
theorem dX4_between_92 : decode cX4_between 92 = .ok (.isub, 1) := by decide +kernel
theorem dX4_between_93 : decode cX4_between 93 = .ok (.istore 9, 2) := by decide +kernel
theorem dX4_between_95 : decode cX4_between 95 = .ok (.iload_n 3, 1) := by decide +kernel
theorem dX4_between_96 : decode cX4_between 96 = .ok (.iload 8, 2) := by decide +kernel
theorem dX4_between_98 : decode cX4_between 98 = .ok (.iload 9, 2) := by decide +kernel
theorem dX4_between_100 : decode cX4_between 100 = .ok (.isub, 1) := by decide +kernel
theorem dX4_between_101 : decode cX4_between 101 = .ok (.invokestatic 34, 3) := by decide +kernel
theorem dX4_between_104 : decode cX4_between 104 = .ok (.iadd, 1) := by decide +kernel
theorem dX4_between_105 : decode cX4_between 105 = .ok (.istore_n 3, 1) := by decide +kernel
theorem dX4_between_106 : decode cX4_between 106 = .ok (.iinc 4 1, 3) := by decide +kernel
theorem dX4_between_109 : decode cX4_between 109 = .ok (.iinc 5 1, 3) := by decide +kernel
theorem dX4_between_112 : decode cX4_between 112 = .ok (.goto (-104), 3) := by decide +kernel
theorem dX4_between_115 : decode cX4_between 115 = .ok (.iload 4, 2) := by decide +kernel
theorem dX4_between_117 : decode cX4_between 117 = .ok (.iconst 3, 1) := by decide +kernel
theorem dX4_between_118 : decode cX4_between 118 = .ok (.if_icmp .ge 7, 3) := by decide +kernel
theorem dX4_between_121 : decode cX4_between 121 = .ok (.iconst (-1), 1) := by decide +kernel
theorem dX4_between_122 : decode cX4_between 122 = .ok (.goto 10, 3) := by decide +kernel
theorem dX4_between_125 : decode cX4_between 125 = .ok (.iload_n 3, 1) := by decide +kernel
theorem dX4_between_126 : decode cX4_between 126 = .ok (.bipush 6, 2) := by decide +kernel
theorem dX4_between_128 : decode cX4_between 128 = .ok (.imul, 1) := by decide +kernel
theorem dX4_between_129 : decode cX4_between 129 = .ok (.iload 4, 2) := by decide +kernel
theorem dX4_between_131 : decode cX4_between 131 = .ok (.idiv, 1) := by decide +kernel
theorem dX4_between_132 : decode cX4_between 132 = .ok (.ireturn, 1) := by decide +kernel
theorem dX5_init_0 : decode cX5_init 0 = .ok (.aload_n 0, 1) := by decide +kernel
theorem dX5_init_1 : decode cX5_init 1 = .ok (.invokespecial 3, 3) := by decide +kernel
theorem dX5_init_4 : decode cX5_init 4 = .ok (.aload_n 0, 1) := by decide +kernel
theorem dX5_init_5 : decode cX5_init 5 = .ok (.aload_n 1, 1) := by decide +kernel
theorem dX5_init_6 : decode cX5_init 6 = .ok (.putfield 9, 3) := by decide +kernel
theorem dX5_init_9 : decode cX5_init 9 = .ok (.aload_n 0, 1) := by decide +kernel
theorem dX5_init_10 : decode cX5_init 10 = .ok (.bipush 8, 2) := by decide +kernel
theorem dX5_init_12 : decode cX5_init 12 = .ok (.newarray .int, 2) := by decide +kernel
theorem dX5_init_14 : decode cX5_init 14 = .ok (.putfield 15, 3) := by decide +kernel
theorem dX5_init_17 : decode cX5_init 17 = .ok (.aload_n 0, 1) := by decide +kernel
theorem dX5_init_18 : decode cX5_init 18 = .ok (.bipush 64, 2) := by decide +kernel
theorem dX5_init_20 : decode cX5_init 20 = .ok (.newarray .int, 2) := by decide +kernel
theorem dX5_init_22 : decode cX5_init 22 = .ok (.putfield 19, 3) := by decide +kernel
theorem dX5_init_25 : decode cX5_init 25 = .ok (.aload_n 0, 1) := by decide +kernel
theorem dX5_init_26 : decode cX5_init 26 = .ok (.bipush 8, 2) := by decide +kernel
theorem dX5_init_28 : decode cX5_init 28 = .ok (.newarray .int, 2) := by decide +kernel
theorem dX5_init_30 : decode cX5_init 30 = .ok (.putfield 22, 3) := by decide +kernel
theorem dX5_init_33 : decode cX5_init 33 = .ok (.aload_n 0, 1) := by decide +kernel
theorem dX5_init_34 : decode cX5_init 34 = .ok (.sipush 256, 3) := by decide +kernel
theorem dX5_init_37 : decode cX5_init 37 = .ok (.newarray .int, 2) := by decide +kernel
theorem dX5_init_39 : decode cX5_init 39 = .ok (.putfield 25, 3) := by decide +kernel
theorem dX5_init_42 : decode cX5_init 42 = .ok (.aload_n 0, 1) := by decide +kernel
theorem dX5_init_43 : decode cX5_init 43 = .ok (.sipush 256, 3) := by decide +kernel
theorem dX5_init_46 : decode cX5_init 46 = .ok (.newarray .int, 2) := by decide +kernel
theorem dX5_init_48 : decode cX5_init 48 = .ok (.putfield 28, 3) := by decide +kernel
theorem dX5_init_51 : decode cX5_init 51 = .ok (.aload_n 0, 1) := by decide +kernel
theorem dX5_init_52 : decode cX5_init 52 = .ok (.iconst 0, 1) := by decide +kernel
theorem dX5_init_53 : decode cX5_init 53 = .ok (.putfield 31, 3) := by decide +kernel
theorem dX5_init_56 : decode cX5_init 56 = .ok (.aload_n 0, 1) := by decide +kernel
theorem dX5_init_57 : decode cX5_init 57 = .ok (.iconst 0, 1) := by decide +kernel
theorem dX5_init_58 : decode cX5_init 58 = .ok (.putfield 35, 3) := by decide +kernel
theorem dX5_init_61 : decode cX5_init 61 = .ok (.aload_n 0, 1) := by decide +kernel
theorem dX5_init_62 : decode cX5_init 62 = .ok (.iconst 0, 1) := by decide +kernel
theorem dX5_init_63 : decode cX5_init 63 = .ok (.putfield 38, 3) := by decide +kernel
theorem dX5_init_66 : decode cX5_init 66 = .ok (.return_, 1) := by decide +kernel
theorem dX5_size_0 : decode cX5_size 0 = .ok (.aload_n 0, 1) := by decide +kernel
theorem dX5_size_1 : decode cX5_size 1 = .ok (.getfield 31, 3) := by decide +kernel
theorem dX5_size_4 : decode cX5_size 4 = .ok (.ireturn, 1) := by decide +kernel
theorem dX5_isFull_0 : decode cX5_isFull 0 = .ok (.aload_n 0, 1) := by decide +kernel
theorem dX5_isFull_1 : decode cX5_isFull 1 = .ok (.getfield 31, 3) := by decide +kernel
theorem dX5_isFull_4 : decode cX5_isFull 4 = .ok (.bipush 8, 2) := by decide +kernel
theorem dX5_isFull_6 : decode cX5_isFull 6 = .ok (.if_icmp .lt 7, 3) := by decide +kernel
theorem dX5_isFull_9 : decode cX5_isFull 9 = .ok (.iconst 1, 1) := by decide +kernel
theorem dX5_isFull_10 : decode cX5_isFull 10 = .ok (.goto 4, 3) := by decide +kernel
theorem dX5_isFull_13 : decode cX5_isFull 13 = .ok (.iconst 0, 1) := by decide +kernel
theorem dX5_isFull_14 : decode cX5_isFull 14 = .ok (.ireturn, 1) := by decide +kernel
theorem dX5_isListed_0 : decode cX5_isListed 0 = .ok (.iconst 0, 1) := by decide +kernel
theorem dX5_isListed_1 : decode cX5_isListed 1 = .ok (.istore_n 2, 1) := by decide +kernel
theorem dX5_isListed_2 : decode cX5_isListed 2 = .ok (.iload_n 2, 1) := by decide +kernel
theorem dX5_isListed_3 : decode cX5_isListed 3 = .ok (.aload_n 0, 1) := by decide +kernel
theorem dX5_isListed_4 : decode cX5_isListed 4 = .ok (.getfield 31, 3) := by decide +kernel
theorem dX5_isListed_7 : decode cX5_isListed 7 = .ok (.if_icmp .ge 21, 3) := by decide +kernel
theorem dX5_isListed_10 : decode cX5_isListed 10 = .ok (.aload_n 0, 1) := by decide +kernel
theorem dX5_isListed_11 : decode cX5_isListed 11 = .ok (.getfield 15, 3) := by decide +kernel
theorem dX5_isListed_14 : decode cX5_isListed 14 = .ok (.iload_n 2, 1) := by decide +kernel
theorem dX5_isListed_15 : decode cX5_isListed 15 = .ok (.iaload, 1) := by decide +kernel
theorem dX5_isListed_16 : decode cX5_isListed 16 = .ok (.iload_n 1, 1) := by decide +kernel
theorem dX5_isListed_17 : decode cX5_isListed 17 = .ok (.if_icmp .ne 5, 3) := by decide +kernel
theorem dX5_isListed_20 : decode cX5_isListed 20 = .ok (.iconst 1, 1) := by decide +kernel
theorem dX5_isListed_21 : decode cX5_isListed 21 = .ok (.ireturn, 1) := by decide +kernel
theorem dX5_isListed_22 : decode cX5_isListed 22 = .ok (.iinc 2 1, 3) := by decide +kernel
theorem dX5_isListed_25 : decode cX5_isListed 25 = .ok (.goto (-23), 3) := by decide +kernel
theorem dX5_isListed_28 : decode cX5_isListed 28 = .ok (.iconst 0, 1) := by decide +kernel
theorem dX5_isListed_29 : decode cX5_isListed 29 = .ok (.ireturn, 1) := by decide +kernel
theorem dX5_add_0 : decode cX5_add 0 = .ok (.aload_n 0, 1) := by decide +kernel
theorem dX5_add_1 : decode cX5_add 1 = .ok (.getfield 15, 3) := by decide +kernel
theorem dX5_add_4 : decode cX5_add 4 = .ok (.aload_n 0, 1) := by decide +kernel
theorem dX5_add_5 : decode cX5_add 5 = .ok (.getfield 31, 3) := by decide +kernel
theorem dX5_add_8 : decode cX5_add 8 = .ok (.iload_n 1, 1) := by decide +kernel
theorem dX5_add_9 : decode cX5_add 9 = .ok (.iastore, 1) := by decide +kernel
theorem dX5_add_10 : decode cX5_add 10 = .ok (.aload_n 0, 1) := by decide +kernel
theorem dX5_add_11 : decode cX5_add 11 = .ok (.dup, 1) := by decide +kernel
theorem dX5_add_12 : decode cX5_add 12 = .ok (.getfield 31, 3) := by decide +kernel
theorem dX5_add_15 : decode cX5_add 15 = .ok (.iconst 1, 1) := by decide +kernel
theorem dX5_add_16 : decode cX5_add 16 = .ok (.iadd, 1) := by decide +kernel
theorem dX5_add_17 : decode cX5_add 17 = .ok (.putfield 31, 3) := by decide +kernel
theorem dX5_add_20 : decode cX5_add 20 = .ok (.return_, 1) := by decide +kernel
theorem dX5_empty_0 : decode cX5_empty 0 = .ok (.aload_n 0, 1) := by decide +kernel
theorem dX5_empty_1 : decode cX5_empty 1 = .ok (.getfield 31, 3) := by decide +kernel
theorem dX5_empty_4 : decode cX5_empty 4 = .ok (.istore_n 1, 1) := by decide +kernel
theorem dX5_empty_5 : decode cX5_empty 5 = .ok (.aload_n 0, 1) := by decide +kernel
theorem dX5_empty_6 : decode cX5_empty 6 = .ok (.iconst 0, 1) := by decide +kernel
theorem dX5_empty_7 : decode cX5_empty 7 = .ok (.putfield 31, 3) := by decide +kernel
theorem dX5_empty_10 : decode cX5_empty 10 = .ok (.iload_n 1, 1) := by decide +kernel
theorem dX5_empty_11 : decode cX5_empty 11 = .ok (.ireturn, 1) := by decide +kernel
theorem dX5_readScores_0 : decode cX5_readScores 0 = .ok (.iconst 0, 1) := by decide +kernel
theorem dX5_readScores_1 : decode cX5_readScores 1 = .ok (.istore_n 1, 1) := by decide +kernel
theorem dX5_readScores_2 : decode cX5_readScores 2 = .ok (.iload_n 1, 1) := by decide +kernel
theorem dX5_readScores_3 : decode cX5_readScores 3 = .ok (.aload_n 0, 1) := by decide +kernel
theorem dX5_readScores_4 : decode cX5_readScores 4 = .ok (.getfield 31, 3) := by decide +kernel
theorem dX5_readScores_7 : decode cX5_readScores 7 = .ok (.if_icmp .ge 66, 3) := by decide +kernel
theorem dX5_readScores_10 : decode cX5_readScores 10 = .ok (.iconst 0, 1) := by decide +kernel
theorem dX5_readScores_11 : decode cX5_readScores 11 = .ok (.istore_n 2, 1) := by decide +kernel
theorem dX5_readScores_12 : decode cX5_readScores 12 = .ok (.iload_n 2, 1) := by decide +kernel
theorem dX5_readScores_13 : decode cX5_readScores 13 = .ok (.iload_n 1, 1) := by decide +kernel
theorem dX5_readScores_14 : decode cX5_readScores 14 = .ok (.if_icmp .ge 53, 3) := by decide +kernel
theorem dX5_readScores_17 : decode cX5_readScores 17 = .ok (.aload_n 0, 1) := by decide +kernel
theorem dX5_readScores_18 : decode cX5_readScores 18 = .ok (.getfield 9, 3) := by decide +kernel
theorem dX5_readScores_21 : decode cX5_readScores 21 = .ok (.aload_n 0, 1) := by decide +kernel
theorem dX5_readScores_22 : decode cX5_readScores 22 = .ok (.getfield 15, 3) := by decide +kernel
theorem dX5_readScores_25 : decode cX5_readScores 25 = .ok (.iload_n 2, 1) := by decide +kernel
theorem dX5_readScores_26 : decode cX5_readScores 26 = .ok (.iaload, 1) := by decide +kernel
theorem dX5_readScores_27 : decode cX5_readScores 27 = .ok (.aload_n 0, 1) := by decide +kernel
theorem dX5_readScores_28 : decode cX5_readScores 28 = .ok (.getfield 15, 3) := by decide +kernel
theorem dX5_readScores_31 : decode cX5_readScores 31 = .ok (.iload_n 1, 1) := by decide +kernel
theorem dX5_readScores_32 : decode cX5_readScores 32 = .ok (.iaload, 1) := by decide +kernel
theorem dX5_readScores_33 : decode cX5_readScores 33 = .ok (.invokevirtual 41, 3) := by decide +kernel
theorem dX5_readScores_36 : decode cX5_readScores 36 = .ok (.istore_n 3, 1) := by decide +kernel
theorem dX5_readScores_37 : decode cX5_readScores 37 = .ok (.aload_n 0, 1) := by decide +kernel
theorem dX5_readScores_38 : decode cX5_readScores 38 = .ok (.getfield 19, 3) := by decide +kernel
theorem dX5_readScores_41 : decode cX5_readScores 41 = .ok (.iload_n 2, 1) := by decide +kernel
theorem dX5_readScores_42 : decode cX5_readScores 42 = .ok (.bipush 8, 2) := by decide +kernel
theorem dX5_readScores_44 : decode cX5_readScores 44 = .ok (.imul, 1) := by decide +kernel
theorem dX5_readScores_45 : decode cX5_readScores 45 = .ok (.iload_n 1, 1) := by decide +kernel
theorem dX5_readScores_46 : decode cX5_readScores 46 = .ok (.iadd, 1) := by decide +kernel
theorem dX5_readScores_47 : decode cX5_readScores 47 = .ok (.iload_n 3, 1) := by decide +kernel
theorem dX5_readScores_48 : decode cX5_readScores 48 = .ok (.iastore, 1) := by decide +kernel
theorem dX5_readScores_49 : decode cX5_readScores 49 = .ok (.aload_n 0, 1) := by decide +kernel
theorem dX5_readScores_50 : decode cX5_readScores 50 = .ok (.getfield 19, 3) := by decide +kernel
theorem dX5_readScores_53 : decode cX5_readScores 53 = .ok (.iload_n 1, 1) := by decide +kernel
theorem dX5_readScores_54 : decode cX5_readScores 54 = .ok (.bipush 8, 2) := by decide +kernel
theorem dX5_readScores_56 : decode cX5_readScores 56 = .ok (.imul, 1) := by decide +kernel
theorem dX5_readScores_57 : decode cX5_readScores 57 = .ok (.iload_n 2, 1) := by decide +kernel
theorem dX5_readScores_58 : decode cX5_readScores 58 = .ok (.iadd, 1) := by decide +kernel
theorem dX5_readScores_59 : decode cX5_readScores 59 = .ok (.iload_n 3, 1) := by decide +kernel
theorem dX5_readScores_60 : decode cX5_readScores 60 = .ok (.iastore, 1) := by decide +kernel
theorem dX5_readScores_61 : decode cX5_readScores 61 = .ok (.iinc 2 1, 3) := by decide +kernel
theorem dX5_readScores_64 : decode cX5_readScores 64 = .ok (.goto (-52), 3) := by decide +kernel
theorem dX5_readScores_67 : decode cX5_readScores 67 = .ok (.iinc 1 1, 3) := by decide +kernel
theorem dX5_readScores_70 : decode cX5_readScores 70 = .ok (.goto (-68), 3) := by decide +kernel
theorem dX5_readScores_73 : decode cX5_readScores 73 = .ok (.return_, 1) := by decide +kernel
theorem dX5_join_0 : decode cX5_join 0 = .ok (.aload_n 0, 1) := by decide +kernel
theorem dX5_join_1 : decode cX5_join 1 = .ok (.invokevirtual 47, 3) := by decide +kernel
theorem dX5_join_4 : decode cX5_join 4 = .ok (.iconst 0, 1) := by decide +kernel
theorem dX5_join_5 : decode cX5_join 5 = .ok (.istore_n 2, 1) := by decide +kernel
theorem dX5_join_6 : decode cX5_join 6 = .ok (.iload_n 2, 1) := by decide +kernel
theorem dX5_join_7 : decode cX5_join 7 = .ok (.aload_n 0, 1) := by decide +kernel
theorem dX5_join_8 : decode cX5_join 8 = .ok (.getfield 31, 3) := by decide +kernel
theorem dX5_join_11 : decode cX5_join 11 = .ok (.if_icmp .ge 16, 3) := by decide +kernel
theorem dX5_join_14 : decode cX5_join 14 = .ok (.aload_n 0, 1) := by decide +kernel
theorem dX5_join_15 : decode cX5_join 15 = .ok (.getfield 22, 3) := by decide +kernel
theorem dX5_join_18 : decode cX5_join 18 = .ok (.iload_n 2, 1) := by decide +kernel
theorem dX5_join_19 : decode cX5_join 19 = .ok (.iload_n 2, 1) := by decide +kernel
theorem dX5_join_20 : decode cX5_join 20 = .ok (.iastore, 1) := by decide +kernel
theorem dX5_join_21 : decode cX5_join 21 = .ok (.iinc 2 1, 3) := by decide +kernel
theorem dX5_join_24 : decode cX5_join 24 = .ok (.goto (-18), 3) := by decide +kernel
theorem dX5_join_27 : decode cX5_join 27 = .ok (.iconst 1, 1) := by decide +kernel
theorem dX5_join_28 : decode cX5_join 28 = .ok (.istore_n 2, 1) := by decide +kernel
theorem dX5_join_29 : decode cX5_join 29 = .ok (.iload_n 2, 1) := by decide +kernel
theorem dX5_join_30 : decode cX5_join 30 = .ok (.aload_n 0, 1) := by decide +kernel
theorem dX5_join_31 : decode cX5_join 31 = .ok (.getfield 31, 3) := by decide +kernel
theorem dX5_join_34 : decode cX5_join 34 = .ok (.if_icmp .ge 18, 3) := by decide +kernel
theorem dX5_join_37 : decode cX5_join 37 = .ok (.aload_n 0, 1) := by decide +kernel
theorem dX5_join_38 : decode cX5_join 38 = .ok (.iload_n 1, 1) := by decide +kernel
theorem dX5_join_39 : decode cX5_join 39 = .ok (.invokevirtual 50, 3) := by decide +kernel
theorem dX5_join_42 : decode cX5_join 42 = .ok (.ifCond .ne 4, 3) := by decide +kernel
theorem dX5_join_45 : decode cX5_join 45 = .ok (.return_, 1) := by decide +kernel
theorem dX5_join_46 : decode cX5_join 46 = .ok (.iinc 2 1, 3) := by decide +kernel
theorem dX5_join_49 : decode cX5_join 49 = .ok (.goto (-20), 3) := by decide +kernel
theorem dX5_join_52 : decode cX5_join 52 = .ok (.return_, 1) := by decide +kernel
theorem dX5_joinNearestTwo_0 : decode cX5_joinNearestTwo 0 = .ok (.iconst (-1), 1) := by decide +kernel
theorem dX5_joinNearestTwo_1 : decode cX5_joinNearestTwo 1 = .ok (.istore_n 2, 1) := by decide +kernel
theorem dX5_joinNearestTwo_2 : decode cX5_joinNearestTwo 2 = .ok (.iconst (-1), 1) := by decide +kernel
theorem dX5_joinNearestTwo_3 : decode cX5_joinNearestTwo 3 = .ok (.istore_n 3, 1) := by decide +kernel
theorem dX5_joinNearestTwo_4 : decode cX5_joinNearestTwo 4 = .ok (.iconst 0, 1) := by decide +kernel
theorem dX5_joinNearestTwo_5 : decode cX5_joinNearestTwo 5 = .ok (.istore 4, 2) := by decide +kernel
theorem dX5_joinNearestTwo_7 : decode cX5_joinNearestTwo 7 = .ok (.iconst 0, 1) := by decide +kernel
theorem dX5_joinNearestTwo_8 : decode cX5_joinNearestTwo 8 = .ok (.istore 5, 2) := by decide +kernel
theorem dX5_joinNearestTwo_10 : decode cX5_joinNearestTwo 10 = .ok (.iconst 0, 1) := by decide +kernel
theorem dX5_joinNearestTwo_11 : decode cX5_joinNearestTwo 11 = .ok (.istore 6, 2) := by decide +kernel
theorem dX5_joinNearestTwo_13 : decode cX5_joinNearestTwo 13 = .ok (.iload 6, 2) := by decide +kernel
theorem dX5_joinNearestTwo_15 : decode cX5_joinNearestTwo 15 = .ok (.aload_n 0, 1) := by decide +kernel
theorem dX5_joinNearestTwo_16 : decode cX5_joinNearestTwo 16 = .ok (.getfield 31, 3) := by decide +kernel
theorem dX5_joinNearestTwo_19 : decode cX5_joinNearestTwo 19 = .ok (.if_icmp .ge 135, 3) := by decide +kernel
theorem dX5_joinNearestTwo_22 : decode cX5_joinNearestTwo 22 = .ok (.iload 6, 2) := by decide +kernel
theorem dX5_joinNearestTwo_24 : decode cX5_joinNearestTwo 24 = .ok (.iconst 1, 1) := by decide +kernel
theorem dX5_joinNearestTwo_25 : decode cX5_joinNearestTwo 25 = .ok (.iadd, 1) := by decide +kernel
theorem dX5_joinNearestTwo_26 : decode cX5_joinNearestTwo 26 = .ok (.istore 7, 2) := by decide +kernel
theorem dX5_joinNearestTwo_28 : decode cX5_joinNearestTwo 28 = .ok (.iload 7, 2) := by decide +kernel
theorem dX5_joinNearestTwo_30 : decode cX5_joinNearestTwo 30 = .ok (.aload_n 0, 1) := by decide +kernel
theorem dX5_joinNearestTwo_31 : decode cX5_joinNearestTwo 31 = .ok (.getfield 31, 3) := by decide +kernel
theorem dX5_joinNearestTwo_34 : decode cX5_joinNearestTwo 34 = .ok (.if_icmp .ge 114, 3) := by decide +kernel
theorem dX5_joinNearestTwo_37 : decode cX5_joinNearestTwo 37 = .ok (.aload_n 0, 1) := by decide +kernel
theorem dX5_joinNearestTwo_38 : decode cX5_joinNearestTwo 38 = .ok (.iload 6, 2) := by decide +kernel
theorem dX5_joinNearestTwo_40 : decode cX5_joinNearestTwo 40 = .ok (.invokevirtual 54, 3) := by decide +kernel
theorem dX5_joinNearestTwo_43 : decode cX5_joinNearestTwo 43 = .ok (.ifCond .eq 99, 3) := by decide +kernel
theorem dX5_joinNearestTwo_46 : decode cX5_joinNearestTwo 46 = .ok (.aload_n 0, 1) := by decide +kernel
theorem dX5_joinNearestTwo_47 : decode cX5_joinNearestTwo 47 = .ok (.iload 7, 2) := by decide +kernel
theorem dX5_joinNearestTwo_49 : decode cX5_joinNearestTwo 49 = .ok (.invokevirtual 54, 3) := by decide +kernel
theorem dX5_joinNearestTwo_52 : decode cX5_joinNearestTwo 52 = .ok (.ifCond .eq 90, 3) := by decide +kernel
theorem dX5_joinNearestTwo_55 : decode cX5_joinNearestTwo 55 = .ok (.aload_n 0, 1) := by decide +kernel
theorem dX5_joinNearestTwo_56 : decode cX5_joinNearestTwo 56 = .ok (.iload 6, 2) := by decide +kernel
theorem dX5_joinNearestTwo_58 : decode cX5_joinNearestTwo 58 = .ok (.iload 7, 2) := by decide +kernel
theorem dX5_joinNearestTwo_60 : decode cX5_joinNearestTwo 60 = .ok (.invokevirtual 57, 3) := by decide +kernel
theorem dX5_joinNearestTwo_63 : decode cX5_joinNearestTwo 63 = .ok (.ifCond .ne 6, 3) := by decide +kernel
theorem dX5_joinNearestTwo_66 : decode cX5_joinNearestTwo 66 = .ok (.goto 76, 3) := by decide +kernel
theorem dX5_joinNearestTwo_69 : decode cX5_joinNearestTwo 69 = .ok (.iload_n 2, 1) := by decide +kernel
theorem dX5_joinNearestTwo_70 : decode cX5_joinNearestTwo 70 = .ok (.iconst (-1), 1) := by decide +kernel
theorem dX5_joinNearestTwo_71 : decode cX5_joinNearestTwo 71 = .ok (.if_icmp .ne 24, 3) := by decide +kernel
theorem dX5_joinNearestTwo_74 : decode cX5_joinNearestTwo 74 = .ok (.aload_n 0, 1) := by decide +kernel
theorem dX5_joinNearestTwo_75 : decode cX5_joinNearestTwo 75 = .ok (.getfield 35, 3) := by decide +kernel
theorem dX5_joinNearestTwo_78 : decode cX5_joinNearestTwo 78 = .ok (.iload_n 1, 1) := by decide +kernel
theorem dX5_joinNearestTwo_79 : decode cX5_joinNearestTwo 79 = .ok (.aload_n 0, 1) := by decide +kernel
theorem dX5_joinNearestTwo_80 : decode cX5_joinNearestTwo 80 = .ok (.getfield 38, 3) := by decide +kernel
theorem dX5_joinNearestTwo_83 : decode cX5_joinNearestTwo 83 = .ok (.imul, 1) := by decide +kernel
theorem dX5_joinNearestTwo_84 : decode cX5_joinNearestTwo 84 = .ok (.if_icmp .gt 7, 3) := by decide +kernel
theorem dX5_joinNearestTwo_87 : decode cX5_joinNearestTwo 87 = .ok (.iconst 1, 1) := by decide +kernel
theorem dX5_joinNearestTwo_88 : decode cX5_joinNearestTwo 88 = .ok (.goto 29, 3) := by decide +kernel
theorem dX5_joinNearestTwo_91 : decode cX5_joinNearestTwo 91 = .ok (.iconst 0, 1) := by decide +kernel
theorem dX5_joinNearestTwo_92 : decode cX5_joinNearestTwo 92 = .ok (.goto 25, 3) := by decide +kernel
theorem dX5_joinNearestTwo_95 : decode cX5_joinNearestTwo 95 = .ok (.aload_n 0, 1) := by decide +kernel
theorem dX5_joinNearestTwo_96 : decode cX5_joinNearestTwo 96 = .ok (.getfield 35, 3) := by decide +kernel
theorem dX5_joinNearestTwo_99 : decode cX5_joinNearestTwo 99 = .ok (.iload 5, 2) := by decide +kernel
theorem dX5_joinNearestTwo_101 : decode cX5_joinNearestTwo 101 = .ok (.imul, 1) := by decide +kernel
theorem dX5_joinNearestTwo_102 : decode cX5_joinNearestTwo 102 = .ok (.iload 4, 2) := by decide +kernel
theorem dX5_joinNearestTwo_104 : decode cX5_joinNearestTwo 104 = .ok (.aload_n 0, 1) := by decide +kernel
theorem dX5_joinNearestTwo_105 : decode cX5_joinNearestTwo 105 = .ok (.getfield 38, 3) := by decide +kernel
theorem dX5_joinNearestTwo_108 : decode cX5_joinNearestTwo 108 = .ok (.imul, 1) := by decide +kernel
theorem dX5_joinNearestTwo_109 : decode cX5_joinNearestTwo 109 = .ok (.if_icmp .ge 7, 3) := by decide +kernel
theorem dX5_joinNearestTwo_112 : decode cX5_joinNearestTwo 112 = .ok (.iconst 1, 1) := by decide +kernel
theorem dX5_joinNearestTwo_113 : decode cX5_joinNearestTwo 113 = .ok (.goto 4, 3) := by decide +kernel
theorem dX5_joinNearestTwo_116 : decode cX5_joinNearestTwo 116 = .ok (.iconst 0, 1) := by decide +kernel
theorem dX5_joinNearestTwo_117 : decode cX5_joinNearestTwo 117 = .ok (.istore 8, 2) := by decide +kernel
theorem dX5_joinNearestTwo_119 : decode cX5_joinNearestTwo 119 = .ok (.iload 8, 2) := by decide +kernel
theorem dX5_joinNearestTwo_121 : decode cX5_joinNearestTwo 121 = .ok (.ifCond .eq 21, 3) := by decide +kernel
theorem dX5_joinNearestTwo_124 : decode cX5_joinNearestTwo 124 = .ok (.iload 6, 2) := by decide +kernel
theorem dX5_joinNearestTwo_126 : decode cX5_joinNearestTwo 126 = .ok (.istore_n 2, 1) := by decide +kernel
theorem dX5_joinNearestTwo_127 : decode cX5_joinNearestTwo 127 = .ok (.iload 7, 2) := by decide +kernel
theorem dX5_joinNearestTwo_129 : decode cX5_joinNearestTwo 129 = .ok (.istore_n 3, 1) := by decide +kernel
theorem dX5_joinNearestTwo_130 : decode cX5_joinNearestTwo 130 = .ok (.aload_n 0, 1) := by decide +kernel
theorem dX5_joinNearestTwo_131 : decode cX5_joinNearestTwo 131 = .ok (.getfield 35, 3) := by decide +kernel
theorem dX5_joinNearestTwo_134 : decode cX5_joinNearestTwo 134 = .ok (.istore 4, 2) := by decide +kernel
theorem dX5_joinNearestTwo_136 : decode cX5_joinNearestTwo 136 = .ok (.aload_n 0, 1) := by decide +kernel
theorem dX5_joinNearestTwo_137 : decode cX5_joinNearestTwo 137 = .ok (.getfield 38, 3) := by decide +kernel
theorem dX5_joinNearestTwo_140 : decode cX5_joinNearestTwo 140 = .ok (.istore 5, 2) := by decide +kernel
theorem dX5_joinNearestTwo_142 : decode cX5_joinNearestTwo 142 = .ok (.iinc 7 1, 3) := by decide +kernel
theorem dX5_joinNearestTwo_145 : decode cX5_joinNearestTwo 145 = .ok (.goto (-117), 3) := by decide +kernel
theorem dX5_joinNearestTwo_148 : decode cX5_joinNearestTwo 148 = .ok (.iinc 6 1, 3) := by decide +kernel
theorem dX5_joinNearestTwo_151 : decode cX5_joinNearestTwo 151 = .ok (.goto (-138), 3) := by decide +kernel
theorem dX5_joinNearestTwo_154 : decode cX5_joinNearestTwo 154 = .ok (.iload_n 2, 1) := by decide +kernel
theorem dX5_joinNearestTwo_155 : decode cX5_joinNearestTwo 155 = .ok (.iconst (-1), 1) := by decide +kernel
theorem dX5_joinNearestTwo_156 : decode cX5_joinNearestTwo 156 = .ok (.if_icmp .ne 5, 3) := by decide +kernel
theorem dX5_joinNearestTwo_159 : decode cX5_joinNearestTwo 159 = .ok (.iconst 0, 1) := by decide +kernel
theorem dX5_joinNearestTwo_160 : decode cX5_joinNearestTwo 160 = .ok (.ireturn, 1) := by decide +kernel
theorem dX5_joinNearestTwo_161 : decode cX5_joinNearestTwo 161 = .ok (.aload_n 0, 1) := by decide +kernel
theorem dX5_joinNearestTwo_162 : decode cX5_joinNearestTwo 162 = .ok (.iload_n 2, 1) := by decide +kernel
theorem dX5_joinNearestTwo_163 : decode cX5_joinNearestTwo 163 = .ok (.iload_n 3, 1) := by decide +kernel
theorem dX5_joinNearestTwo_164 : decode cX5_joinNearestTwo 164 = .ok (.invokevirtual 61, 3) := by decide +kernel
theorem dX5_joinNearestTwo_167 : decode cX5_joinNearestTwo 167 = .ok (.iconst 1, 1) := by decide +kernel
theorem dX5_joinNearestTwo_168 : decode cX5_joinNearestTwo 168 = .ok (.ireturn, 1) := by decide +kernel
theorem dX5_isVoice_0 : decode cX5_isVoice 0 = .ok (.aload_n 0, 1) := by decide +kernel
theorem dX5_isVoice_1 : decode cX5_isVoice 1 = .ok (.getfield 22, 3) := by decide +kernel
theorem dX5_isVoice_4 : decode cX5_isVoice 4 = .ok (.iload_n 1, 1) := by decide +kernel
theorem dX5_isVoice_5 : decode cX5_isVoice 5 = .ok (.iaload, 1) := by decide +kernel
theorem dX5_isVoice_6 : decode cX5_isVoice 6 = .ok (.iload_n 1, 1) := by decide +kernel
theorem dX5_isVoice_7 : decode cX5_isVoice 7 = .ok (.if_icmp .ne 7, 3) := by decide +kernel
theorem dX5_isVoice_10 : decode cX5_isVoice 10 = .ok (.iconst 1, 1) := by decide +kernel
theorem dX5_isVoice_11 : decode cX5_isVoice 11 = .ok (.goto 4, 3) := by decide +kernel
theorem dX5_isVoice_14 : decode cX5_isVoice 14 = .ok (.iconst 0, 1) := by decide +kernel
theorem dX5_isVoice_15 : decode cX5_isVoice 15 = .ok (.ireturn, 1) := by decide +kernel
theorem dX5_measureCross_0 : decode cX5_measureCross 0 = .ok (.aload_n 0, 1) := by decide +kernel
theorem dX5_measureCross_1 : decode cX5_measureCross 1 = .ok (.iconst 0, 1) := by decide +kernel
theorem dX5_measureCross_2 : decode cX5_measureCross 2 = .ok (.putfield 35, 3) := by decide +kernel
theorem dX5_measureCross_5 : decode cX5_measureCross 5 = .ok (.aload_n 0, 1) := by decide +kernel
theorem dX5_measureCross_6 : decode cX5_measureCross 6 = .ok (.iconst 0, 1) := by decide +kernel
theorem dX5_measureCross_7 : decode cX5_measureCross 7 = .ok (.putfield 38, 3) := by decide +kernel
theorem dX5_measureCross_10 : decode cX5_measureCross 10 = .ok (.iconst 0, 1) := by decide +kernel
theorem dX5_measureCross_11 : decode cX5_measureCross 11 = .ok (.istore_n 3, 1) := by decide +kernel
theorem dX5_measureCross_12 : decode cX5_measureCross 12 = .ok (.iload_n 3, 1) := by decide +kernel
theorem dX5_measureCross_13 : decode cX5_measureCross 13 = .ok (.aload_n 0, 1) := by decide +kernel
theorem dX5_measureCross_14 : decode cX5_measureCross 14 = .ok (.getfield 31, 3) := by decide +kernel
theorem dX5_measureCross_17 : decode cX5_measureCross 17 = .ok (.if_icmp .ge 91, 3) := by decide +kernel
theorem dX5_measureCross_20 : decode cX5_measureCross 20 = .ok (.iconst 0, 1) := by decide +kernel
theorem dX5_measureCross_21 : decode cX5_measureCross 21 = .ok (.istore 4, 2) := by decide +kernel
theorem dX5_measureCross_23 : decode cX5_measureCross 23 = .ok (.iload 4, 2) := by decide +kernel
theorem dX5_measureCross_25 : decode cX5_measureCross 25 = .ok (.aload_n 0, 1) := by decide +kernel
theorem dX5_measureCross_26 : decode cX5_measureCross 26 = .ok (.getfield 31, 3) := by decide +kernel
theorem dX5_measureCross_29 : decode cX5_measureCross 29 = .ok (.if_icmp .ge 73, 3) := by decide +kernel
theorem dX5_measureCross_32 : decode cX5_measureCross 32 = .ok (.aload_n 0, 1) := by decide +kernel
theorem dX5_measureCross_33 : decode cX5_measureCross 33 = .ok (.getfield 22, 3) := by decide +kernel
theorem dX5_measureCross_36 : decode cX5_measureCross 36 = .ok (.iload_n 3, 1) := by decide +kernel
theorem dX5_measureCross_37 : decode cX5_measureCross 37 = .ok (.iaload, 1) := by decide +kernel
theorem dX5_measureCross_38 : decode cX5_measureCross 38 = .ok (.iload_n 1, 1) := by decide +kernel
theorem dX5_measureCross_39 : decode cX5_measureCross 39 = .ok (.if_icmp .ne 57, 3) := by decide +kernel
theorem dX5_measureCross_42 : decode cX5_measureCross 42 = .ok (.aload_n 0, 1) := by decide +kernel
theorem dX5_measureCross_43 : decode cX5_measureCross 43 = .ok (.getfield 22, 3) := by decide +kernel
theorem dX5_measureCross_46 : decode cX5_measureCross 46 = .ok (.iload 4, 2) := by decide +kernel
theorem dX5_measureCross_48 : decode cX5_measureCross 48 = .ok (.iaload, 1) := by decide +kernel
theorem dX5_measureCross_49 : decode cX5_measureCross 49 = .ok (.iload_n 2, 1) := by decide +kernel
theorem dX5_measureCross_50 : decode cX5_measureCross 50 = .ok (.if_icmp .ne 46, 3) := by decide +kernel
theorem dX5_measureCross_53 : decode cX5_measureCross 53 = .ok (.aload_n 0, 1) := by decide +kernel
theorem dX5_measureCross_54 : decode cX5_measureCross 54 = .ok (.getfield 19, 3) := by decide +kernel
theorem dX5_measureCross_57 : decode cX5_measureCross 57 = .ok (.iload_n 3, 1) := by decide +kernel
theorem dX5_measureCross_58 : decode cX5_measureCross 58 = .ok (.bipush 8, 2) := by decide +kernel
theorem dX5_measureCross_60 : decode cX5_measureCross 60 = .ok (.imul, 1) := by decide +kernel
theorem dX5_measureCross_61 : decode cX5_measureCross 61 = .ok (.iload 4, 2) := by decide +kernel
theorem dX5_measureCross_63 : decode cX5_measureCross 63 = .ok (.iadd, 1) := by decide +kernel
theorem dX5_measureCross_64 : decode cX5_measureCross 64 = .ok (.iaload, 1) := by decide +kernel
theorem dX5_measureCross_65 : decode cX5_measureCross 65 = .ok (.istore 5, 2) := by decide +kernel
theorem dX5_measureCross_67 : decode cX5_measureCross 67 = .ok (.iload 5, 2) := by decide +kernel
theorem dX5_measureCross_69 : decode cX5_measureCross 69 = .ok (.iconst (-1), 1) := by decide +kernel
theorem dX5_measureCross_70 : decode cX5_measureCross 70 = .ok (.if_icmp .ne 5, 3) := by decide +kernel
theorem dX5_measureCross_73 : decode cX5_measureCross 73 = .ok (.iconst 0, 1) := by decide +kernel
theorem dX5_measureCross_74 : decode cX5_measureCross 74 = .ok (.ireturn, 1) := by decide +kernel
theorem dX5_measureCross_75 : decode cX5_measureCross 75 = .ok (.aload_n 0, 1) := by decide +kernel
theorem dX5_measureCross_76 : decode cX5_measureCross 76 = .ok (.dup, 1) := by decide +kernel
theorem dX5_measureCross_77 : decode cX5_measureCross 77 = .ok (.getfield 35, 3) := by decide +kernel
theorem dX5_measureCross_80 : decode cX5_measureCross 80 = .ok (.iload 5, 2) := by decide +kernel
theorem dX5_measureCross_82 : decode cX5_measureCross 82 = .ok (.iadd, 1) := by decide +kernel
theorem dX5_measureCross_83 : decode cX5_measureCross 83 = .ok (.putfield 35, 3) := by decide +kernel
theorem dX5_measureCross_86 : decode cX5_measureCross 86 = .ok (.aload_n 0, 1) := by decide +kernel
theorem dX5_measureCross_87 : decode cX5_measureCross 87 = .ok (.dup, 1) := by decide +kernel
theorem dX5_measureCross_88 : decode cX5_measureCross 88 = .ok (.getfield 38, 3) := by decide +kernel
theorem dX5_measureCross_91 : decode cX5_measureCross 91 = .ok (.iconst 1, 1) := by decide +kernel
theorem dX5_measureCross_92 : decode cX5_measureCross 92 = .ok (.iadd, 1) := by decide +kernel
theorem dX5_measureCross_93 : decode cX5_measureCross 93 = .ok (.putfield 38, 3) := by decide +kernel
theorem dX5_measureCross_96 : decode cX5_measureCross 96 = .ok (.iinc 4 1, 3) := by decide +kernel
theorem dX5_measureCross_99 : decode cX5_measureCross 99 = .ok (.goto (-76), 3) := by decide +kernel
theorem dX5_measureCross_102 : decode cX5_measureCross 102 = .ok (.iinc 3 1, 3) := by decide +kernel
theorem dX5_measureCross_105 : decode cX5_measureCross 105 = .ok (.goto (-93), 3) := by decide +kernel
theorem dX5_measureCross_108 : decode cX5_measureCross 108 = .ok (.iconst 1, 1) := by decide +kernel
theorem dX5_measureCross_109 : decode cX5_measureCross 109 = .ok (.ireturn, 1) := by decide +kernel
theorem dX5_putTogether_0 : decode cX5_putTogether 0 = .ok (.iconst 0, 1) := by decide +kernel
theorem dX5_putTogether_1 : decode cX5_putTogether 1 = .ok (.istore_n 3, 1) := by decide +kernel
theorem dX5_putTogether_2 : decode cX5_putTogether 2 = .ok (.iload_n 3, 1) := by decide +kernel
theorem dX5_putTogether_3 : decode cX5_putTogether 3 = .ok (.aload_n 0, 1) := by decide +kernel
theorem dX5_putTogether_4 : decode cX5_putTogether 4 = .ok (.getfield 31, 3) := by decide +kernel
theorem dX5_putTogether_7 : decode cX5_putTogether 7 = .ok (.if_icmp .ge 26, 3) := by decide +kernel
theorem dX5_putTogether_10 : decode cX5_putTogether 10 = .ok (.aload_n 0, 1) := by decide +kernel
theorem dX5_putTogether_11 : decode cX5_putTogether 11 = .ok (.getfield 22, 3) := by decide +kernel
theorem dX5_putTogether_14 : decode cX5_putTogether 14 = .ok (.iload_n 3, 1) := by decide +kernel
theorem dX5_putTogether_15 : decode cX5_putTogether 15 = .ok (.iaload, 1) := by decide +kernel
theorem dX5_putTogether_16 : decode cX5_putTogether 16 = .ok (.iload_n 2, 1) := by decide +kernel
theorem dX5_putTogether_17 : decode cX5_putTogether 17 = .ok (.if_icmp .ne 10, 3) := by decide +kernel
theorem dX5_putTogether_20 : decode cX5_putTogether 20 = .ok (.aload_n 0, 1) := by decide +kernel
theorem dX5_putTogether_21 : decode cX5_putTogether 21 = .ok (.getfield 22, 3) := by decide +kernel
theorem dX5_putTogether_24 : decode cX5_putTogether 24 = .ok (.iload_n 3, 1) := by decide +kernel
theorem dX5_putTogether_25 : decode cX5_putTogether 25 = .ok (.iload_n 1, 1) := by decide +kernel
theorem dX5_putTogether_26 : decode cX5_putTogether 26 = .ok (.iastore, 1) := by decide +kernel
theorem dX5_putTogether_27 : decode cX5_putTogether 27 = .ok (.iinc 3 1, 3) := by decide +kernel
theorem dX5_putTogether_30 : decode cX5_putTogether 30 = .ok (.goto (-28), 3) := by decide +kernel
theorem dX5_putTogether_33 : decode cX5_putTogether 33 = .ok (.return_, 1) := by decide +kernel
theorem dX5_voiceAt_0 : decode cX5_voiceAt 0 = .ok (.aload_n 0, 1) := by decide +kernel
theorem dX5_voiceAt_1 : decode cX5_voiceAt 1 = .ok (.getfield 22, 3) := by decide +kernel
theorem dX5_voiceAt_4 : decode cX5_voiceAt 4 = .ok (.iload_n 1, 1) := by decide +kernel
theorem dX5_voiceAt_5 : decode cX5_voiceAt 5 = .ok (.iaload, 1) := by decide +kernel
theorem dX5_voiceAt_6 : decode cX5_voiceAt 6 = .ok (.ireturn, 1) := by decide +kernel
theorem dX5_countVoices_0 : decode cX5_countVoices 0 = .ok (.iconst 0, 1) := by decide +kernel
theorem dX5_countVoices_1 : decode cX5_countVoices 1 = .ok (.istore_n 1, 1) := by decide +kernel
theorem dX5_countVoices_2 : decode cX5_countVoices 2 = .ok (.iconst 0, 1) := by decide +kernel
theorem dX5_countVoices_3 : decode cX5_countVoices 3 = .ok (.istore_n 2, 1) := by decide +kernel
theorem dX5_countVoices_4 : decode cX5_countVoices 4 = .ok (.iload_n 2, 1) := by decide +kernel
theorem dX5_countVoices_5 : decode cX5_countVoices 5 = .ok (.aload_n 0, 1) := by decide +kernel
theorem dX5_countVoices_6 : decode cX5_countVoices 6 = .ok (.getfield 31, 3) := by decide +kernel
theorem dX5_countVoices_9 : decode cX5_countVoices 9 = .ok (.if_icmp .ge 20, 3) := by decide +kernel
theorem dX5_countVoices_12 : decode cX5_countVoices 12 = .ok (.aload_n 0, 1) := by decide +kernel
theorem dX5_countVoices_13 : decode cX5_countVoices 13 = .ok (.iload_n 2, 1) := by decide +kernel
theorem dX5_countVoices_14 : decode cX5_countVoices 14 = .ok (.invokevirtual 54, 3) := by decide +kernel
theorem dX5_countVoices_17 : decode cX5_countVoices 17 = .ok (.ifCond .eq 6, 3) := by decide +kernel
theorem dX5_countVoices_20 : decode cX5_countVoices 20 = .ok (.iinc 1 1, 3) := by decide +kernel
theorem dX5_countVoices_23 : decode cX5_countVoices 23 = .ok (.iinc 2 1, 3) := by decide +kernel
theorem dX5_countVoices_26 : decode cX5_countVoices 26 = .ok (.goto (-22), 3) := by decide +kernel
theorem dX5_countVoices_29 : decode cX5_countVoices 29 = .ok (.iload_n 1, 1) := by decide +kernel
theorem dX5_countVoices_30 : decode cX5_countVoices 30 = .ok (.ireturn, 1) := by decide +kernel
theorem dX5_leastCost_0 : decode cX5_leastCost 0 = .ok (.aload_n 0, 1) := by decide +kernel
theorem dX5_leastCost_1 : decode cX5_leastCost 1 = .ok (.invokevirtual 47, 3) := by decide +kernel
theorem dX5_leastCost_4 : decode cX5_leastCost 4 = .ok (.aload_n 0, 1) := by decide +kernel
theorem dX5_leastCost_5 : decode cX5_leastCost 5 = .ok (.getfield 25, 3) := by decide +kernel
theorem dX5_leastCost_8 : decode cX5_leastCost 8 = .ok (.iconst 0, 1) := by decide +kernel
theorem dX5_leastCost_9 : decode cX5_leastCost 9 = .ok (.iconst 0, 1) := by decide +kernel
theorem dX5_leastCost_10 : decode cX5_leastCost 10 = .ok (.iastore, 1) := by decide +kernel
theorem dX5_leastCost_11 : decode cX5_leastCost 11 = .ok (.aload_n 0, 1) := by decide +kernel
theorem dX5_leastCost_12 : decode cX5_leastCost 12 = .ok (.getfield 28, 3) := by decide +kernel
theorem dX5_leastCost_15 : decode cX5_leastCost 15 = .ok (.iconst 0, 1) := by decide +kernel
theorem dX5_leastCost_16 : decode cX5_leastCost 16 = .ok (.iconst 0, 1) := by decide +kernel
theorem dX5_leastCost_17 : decode cX5_leastCost 17 = .ok (.iastore, 1) := by decide +kernel
theorem dX5_leastCost_18 : decode cX5_leastCost 18 = .ok (.iconst 1, 1) := by decide +kernel
theorem dX5_leastCost_19 : decode cX5_leastCost 19 = .ok (.aload_n 0, 1) := by decide +kernel
theorem dX5_leastCost_20 : decode cX5_leastCost 20 = .ok (.getfield 31, 3) := by decide +kernel
theorem dX5_leastCost_23 : decode cX5_leastCost 23 = .ok (.ishl, 1) := by decide +kernel
theorem dX5_leastCost_24 : decode cX5_leastCost 24 = .ok (.iconst 1, 1) := by decide +kernel
theorem dX5_leastCost_25 : decode cX5_leastCost 25 = .ok (.isub, 1) := by decide +kernel
theorem dX5_leastCost_26 : decode cX5_leastCost 26 = .ok (.istore_n 2, 1) := by decide +kernel
theorem dX5_leastCost_27 : decode cX5_leastCost 27 = .ok (.iconst 1, 1) := by decide +kernel
theorem dX5_leastCost_28 : decode cX5_leastCost 28 = .ok (.istore_n 3, 1) := by decide +kernel
theorem dX5_leastCost_29 : decode cX5_leastCost 29 = .ok (.iload_n 3, 1) := by decide +kernel
theorem dX5_leastCost_30 : decode cX5_leastCost 30 = .ok (.iload_n 2, 1) := by decide +kernel
theorem dX5_leastCost_31 : decode cX5_leastCost 31 = .ok (.if_icmp .gt 32, 3) := by decide +kernel
theorem dX5_leastCost_34 : decode cX5_leastCost 34 = .ok (.aload_n 0, 1) := by decide +kernel
theorem dX5_leastCost_35 : decode cX5_leastCost 35 = .ok (.getfield 25, 3) := by decide +kernel
theorem dX5_leastCost_38 : decode cX5_leastCost 38 = .ok (.iload_n 3, 1) := by decide +kernel
theorem dX5_leastCost_39 : decode cX5_leastCost 39 = .ok (.aload_n 0, 1) := by decide +kernel
theorem dX5_leastCost_40 : decode cX5_leastCost 40 = .ok (.iload_n 3, 1) := by decide +kernel
theorem dX5_leastCost_41 : decode cX5_leastCost 41 = .ok (.invokevirtual 65, 3) := by decide +kernel
theorem dX5_leastCost_44 : decode cX5_leastCost 44 = .ok (.iastore, 1) := by decide +kernel
theorem dX5_leastCost_45 : decode cX5_leastCost 45 = .ok (.aload_n 0, 1) := by decide +kernel
theorem dX5_leastCost_46 : decode cX5_leastCost 46 = .ok (.getfield 28, 3) := by decide +kernel
theorem dX5_leastCost_49 : decode cX5_leastCost 49 = .ok (.iload_n 3, 1) := by decide +kernel
theorem dX5_leastCost_50 : decode cX5_leastCost 50 = .ok (.aload_n 0, 1) := by decide +kernel
theorem dX5_leastCost_51 : decode cX5_leastCost 51 = .ok (.iload_n 3, 1) := by decide +kernel
theorem dX5_leastCost_52 : decode cX5_leastCost 52 = .ok (.iload_n 1, 1) := by decide +kernel
theorem dX5_leastCost_53 : decode cX5_leastCost 53 = .ok (.invokevirtual 69, 3) := by decide +kernel
theorem dX5_leastCost_56 : decode cX5_leastCost 56 = .ok (.iastore, 1) := by decide +kernel
theorem dX5_leastCost_57 : decode cX5_leastCost 57 = .ok (.iinc 3 1, 3) := by decide +kernel
theorem dX5_leastCost_60 : decode cX5_leastCost 60 = .ok (.goto (-31), 3) := by decide +kernel
theorem dX5_leastCost_63 : decode cX5_leastCost 63 = .ok (.aload_n 0, 1) := by decide +kernel
theorem dX5_leastCost_64 : decode cX5_leastCost 64 = .ok (.getfield 28, 3) := by decide +kernel
theorem dX5_leastCost_67 : decode cX5_leastCost 67 = .ok (.iload_n 2, 1) := by decide +kernel
theorem dX5_leastCost_68 : decode cX5_leastCost 68 = .ok (.iaload, 1) := by decide +kernel
theorem dX5_leastCost_69 : decode cX5_leastCost 69 = .ok (.ireturn, 1) := by decide +kernel
theorem dX5_sumWithin_0 : decode cX5_sumWithin 0 = .ok (.iload_n 1, 1) := by decide +kernel
theorem dX5_sumWithin_1 : decode cX5_sumWithin 1 = .ok (.iload_n 1, 1) := by decide +kernel
theorem dX5_sumWithin_2 : decode cX5_sumWithin 2 = .ok (.iconst 1, 1) := by decide +kernel
theorem dX5_sumWithin_3 : decode cX5_sumWithin 3 = .ok (.isub, 1) := by decide +kernel
theorem dX5_sumWithin_4 : decode cX5_sumWithin 4 = .ok (.iand, 1) := by decide +kernel
theorem dX5_sumWithin_5 : decode cX5_sumWithin 5 = .ok (.istore_n 2, 1) := by decide +kernel
theorem dX5_sumWithin_6 : decode cX5_sumWithin 6 = .ok (.iload_n 1, 1) := by decide +kernel
theorem dX5_sumWithin_7 : decode cX5_sumWithin 7 = .ok (.invokestatic 72, 3) := by decide +kernel
theorem dX5_sumWithin_10 : decode cX5_sumWithin 10 = .ok (.istore_n 3, 1) := by decide +kernel
theorem dX5_sumWithin_11 : decode cX5_sumWithin 11 = .ok (.aload_n 0, 1) := by decide +kernel
theorem dX5_sumWithin_12 : decode cX5_sumWithin 12 = .ok (.getfield 25, 3) := by decide +kernel
theorem dX5_sumWithin_15 : decode cX5_sumWithin 15 = .ok (.iload_n 2, 1) := by decide +kernel
theorem dX5_sumWithin_16 : decode cX5_sumWithin 16 = .ok (.iaload, 1) := by decide +kernel
theorem dX5_sumWithin_17 : decode cX5_sumWithin 17 = .ok (.istore 4, 2) := by decide +kernel
theorem dX5_sumWithin_19 : decode cX5_sumWithin 19 = .ok (.iload 4, 2) := by decide +kernel
theorem dX5_sumWithin_21 : decode cX5_sumWithin 21 = .ok (.iconst (-1), 1) := by decide +kernel
theorem dX5_sumWithin_22 : decode cX5_sumWithin 22 = .ok (.if_icmp .ne 5, 3) := by decide +kernel
theorem dX5_sumWithin_25 : decode cX5_sumWithin 25 = .ok (.iconst (-1), 1) := by decide +kernel
theorem dX5_sumWithin_26 : decode cX5_sumWithin 26 = .ok (.ireturn, 1) := by decide +kernel
theorem dX5_sumWithin_27 : decode cX5_sumWithin 27 = .ok (.iload_n 3, 1) := by decide +kernel
theorem dX5_sumWithin_28 : decode cX5_sumWithin 28 = .ok (.iconst 1, 1) := by decide +kernel
theorem dX5_sumWithin_29 : decode cX5_sumWithin 29 = .ok (.iadd, 1) := by decide +kernel
theorem dX5_sumWithin_30 : decode cX5_sumWithin 30 = .ok (.istore 5, 2) := by decide +kernel
theorem dX5_sumWithin_32 : decode cX5_sumWithin 32 = .ok (.iload 5, 2) := by decide +kernel
theorem dX5_sumWithin_34 : decode cX5_sumWithin 34 = .ok (.aload_n 0, 1) := by decide +kernel
theorem dX5_sumWithin_35 : decode cX5_sumWithin 35 = .ok (.getfield 31, 3) := by decide +kernel
theorem dX5_sumWithin_38 : decode cX5_sumWithin 38 = .ok (.if_icmp .ge 48, 3) := by decide +kernel
theorem dX5_sumWithin_41 : decode cX5_sumWithin 41 = .ok (.iload_n 2, 1) := by decide +kernel
theorem dX5_sumWithin_42 : decode cX5_sumWithin 42 = .ok (.iload 5, 2) := by decide +kernel
theorem dX5_sumWithin_44 : decode cX5_sumWithin 44 = .ok (.ishr, 1) := by decide +kernel
theorem dX5_sumWithin_45 : decode cX5_sumWithin 45 = .ok (.iconst 1, 1) := by decide +kernel
theorem dX5_sumWithin_46 : decode cX5_sumWithin 46 = .ok (.iand, 1) := by decide +kernel
theorem dX5_sumWithin_47 : decode cX5_sumWithin 47 = .ok (.iconst 1, 1) := by decide +kernel
theorem dX5_sumWithin_48 : decode cX5_sumWithin 48 = .ok (.if_icmp .ne 32, 3) := by decide +kernel
theorem dX5_sumWithin_51 : decode cX5_sumWithin 51 = .ok (.aload_n 0, 1) := by decide +kernel
theorem dX5_sumWithin_52 : decode cX5_sumWithin 52 = .ok (.getfield 19, 3) := by decide +kernel
theorem dX5_sumWithin_55 : decode cX5_sumWithin 55 = .ok (.iload_n 3, 1) := by decide +kernel
theorem dX5_sumWithin_56 : decode cX5_sumWithin 56 = .ok (.bipush 8, 2) := by decide +kernel
theorem dX5_sumWithin_58 : decode cX5_sumWithin 58 = .ok (.imul, 1) := by decide +kernel
theorem dX5_sumWithin_59 : decode cX5_sumWithin 59 = .ok (.iload 5, 2) := by decide +kernel
theorem dX5_sumWithin_61 : decode cX5_sumWithin 61 = .ok (.iadd, 1) := by decide +kernel
theorem dX5_sumWithin_62 : decode cX5_sumWithin 62 = .ok (.iaload, 1) := by decide +kernel
theorem dX5_sumWithin_63 : decode cX5_sumWithin 63 = .ok (.istore 6, 2) := by decide +kernel
theorem dX5_sumWithin_65 : decode cX5_sumWithin 65 = .ok (.iload 6, 2) := by decide +kernel
theorem dX5_sumWithin_67 : decode cX5_sumWithin 67 = .ok (.iconst (-1), 1) := by decide +kernel
theorem dX5_sumWithin_68 : decode cX5_sumWithin 68 = .ok (.if_icmp .ne 5, 3) := by decide +kernel
theorem dX5_sumWithin_71 : decode cX5_sumWithin 71 = .ok (.iconst (-1), 1) := by decide +kernel
theorem dX5_sumWithin_72 : decode cX5_sumWithin 72 = .ok (.ireturn, 1) := by decide +kernel
theorem dX5_sumWithin_73 : decode cX5_sumWithin 73 = .ok (.iload 4, 2) := by decide +kernel
theorem dX5_sumWithin_75 : decode cX5_sumWithin 75 = .ok (.iload 6, 2) := by decide +kernel
theorem dX5_sumWithin_77 : decode cX5_sumWithin 77 = .ok (.iadd, 1) := by decide +kernel
theorem dX5_sumWithin_78 : decode cX5_sumWithin 78 = .ok (.istore 4, 2) := by decide +kernel
theorem dX5_sumWithin_80 : decode cX5_sumWithin 80 = .ok (.iinc 5 1, 3) := by decide +kernel
theorem dX5_sumWithin_83 : decode cX5_sumWithin 83 = .ok (.goto (-51), 3) := by decide +kernel
theorem dX5_sumWithin_86 : decode cX5_sumWithin 86 = .ok (.iload 4, 2) := by decide +kernel
theorem dX5_sumWithin_88 : decode cX5_sumWithin 88 = .ok (.ireturn, 1) := by decide +kernel
theorem dX5_leastOf_0 : decode cX5_leastOf 0 = .ok (.iload_n 1, 1) := by decide +kernel
theorem dX5_leastOf_1 : decode cX5_leastOf 1 = .ok (.iload_n 1, 1) := by decide +kernel
theorem dX5_leastOf_2 : decode cX5_leastOf 2 = .ok (.iconst 1, 1) := by decide +kernel
theorem dX5_leastOf_3 : decode cX5_leastOf 3 = .ok (.isub, 1) := by decide +kernel
theorem dX5_leastOf_4 : decode cX5_leastOf 4 = .ok (.iand, 1) := by decide +kernel
theorem dX5_leastOf_5 : decode cX5_leastOf 5 = .ok (.istore_n 3, 1) := by decide +kernel
theorem dX5_leastOf_6 : decode cX5_leastOf 6 = .ok (.iload_n 1, 1) := by decide +kernel
theorem dX5_leastOf_7 : decode cX5_leastOf 7 = .ok (.iload_n 3, 1) := by decide +kernel
theorem dX5_leastOf_8 : decode cX5_leastOf 8 = .ok (.ixor, 1) := by decide +kernel
theorem dX5_leastOf_9 : decode cX5_leastOf 9 = .ok (.istore 4, 2) := by decide +kernel
theorem dX5_leastOf_11 : decode cX5_leastOf 11 = .ok (.iload_n 2, 1) := by decide +kernel
theorem dX5_leastOf_12 : decode cX5_leastOf 12 = .ok (.aload_n 0, 1) := by decide +kernel
theorem dX5_leastOf_13 : decode cX5_leastOf 13 = .ok (.getfield 28, 3) := by decide +kernel
theorem dX5_leastOf_16 : decode cX5_leastOf 16 = .ok (.iload_n 3, 1) := by decide +kernel
theorem dX5_leastOf_17 : decode cX5_leastOf 17 = .ok (.iaload, 1) := by decide +kernel
theorem dX5_leastOf_18 : decode cX5_leastOf 18 = .ok (.iadd, 1) := by decide +kernel
theorem dX5_leastOf_19 : decode cX5_leastOf 19 = .ok (.istore 5, 2) := by decide +kernel
theorem dX5_leastOf_21 : decode cX5_leastOf 21 = .ok (.iload_n 3, 1) := by decide +kernel
theorem dX5_leastOf_22 : decode cX5_leastOf 22 = .ok (.istore 6, 2) := by decide +kernel
theorem dX5_leastOf_24 : decode cX5_leastOf 24 = .ok (.iload 6, 2) := by decide +kernel
theorem dX5_leastOf_26 : decode cX5_leastOf 26 = .ok (.ifCond .le 53, 3) := by decide +kernel
theorem dX5_leastOf_29 : decode cX5_leastOf 29 = .ok (.aload_n 0, 1) := by decide +kernel
theorem dX5_leastOf_30 : decode cX5_leastOf 30 = .ok (.getfield 25, 3) := by decide +kernel
theorem dX5_leastOf_33 : decode cX5_leastOf 33 = .ok (.iload 6, 2) := by decide +kernel
theorem dX5_leastOf_35 : decode cX5_leastOf 35 = .ok (.iload 4, 2) := by decide +kernel
theorem dX5_leastOf_37 : decode cX5_leastOf 37 = .ok (.ior, 1) := by decide +kernel
theorem dX5_leastOf_38 : decode cX5_leastOf 38 = .ok (.iaload, 1) := by decide +kernel
theorem dX5_leastOf_39 : decode cX5_leastOf 39 = .ok (.istore 7, 2) := by decide +kernel
theorem dX5_leastOf_41 : decode cX5_leastOf 41 = .ok (.iload 7, 2) := by decide +kernel
theorem dX5_leastOf_43 : decode cX5_leastOf 43 = .ok (.iconst (-1), 1) := by decide +kernel
theorem dX5_leastOf_44 : decode cX5_leastOf 44 = .ok (.if_icmp .eq 24, 3) := by decide +kernel
theorem dX5_leastOf_47 : decode cX5_leastOf 47 = .ok (.iload 5, 2) := by decide +kernel
theorem dX5_leastOf_49 : decode cX5_leastOf 49 = .ok (.iload 7, 2) := by decide +kernel
theorem dX5_leastOf_51 : decode cX5_leastOf 51 = .ok (.iload_n 2, 1) := by decide +kernel
theorem dX5_leastOf_52 : decode cX5_leastOf 52 = .ok (.iadd, 1) := by decide +kernel
theorem dX5_leastOf_53 : decode cX5_leastOf 53 = .ok (.aload_n 0, 1) := by decide +kernel
theorem dX5_leastOf_54 : decode cX5_leastOf 54 = .ok (.getfield 28, 3) := by decide +kernel
theorem dX5_leastOf_57 : decode cX5_leastOf 57 = .ok (.iload_n 3, 1) := by decide +kernel
theorem dX5_leastOf_58 : decode cX5_leastOf 58 = .ok (.iload 6, 2) := by decide +kernel
theorem dX5_leastOf_60 : decode cX5_leastOf 60 = .ok (.ixor, 1) := by decide +kernel
theorem dX5_leastOf_61 : decode cX5_leastOf 61 = .ok (.iaload, 1) := by decide +kernel
theorem dX5_leastOf_62 : decode cX5_leastOf 62 = .ok (.iadd, 1) := by decide +kernel
theorem dX5_leastOf_63 : decode cX5_leastOf 63 = .ok (.invokestatic 77, 3) := by decide +kernel
theorem dX5_leastOf_66 : decode cX5_leastOf 66 = .ok (.istore 5, 2) := by decide +kernel
theorem dX5_leastOf_68 : decode cX5_leastOf 68 = .ok (.iload 6, 2) := by decide +kernel
theorem dX5_leastOf_70 : decode cX5_leastOf 70 = .ok (.iconst 1, 1) := by decide +kernel
theorem dX5_leastOf_71 : decode cX5_leastOf 71 = .ok (.isub, 1) := by decide +kernel
theorem dX5_leastOf_72 : decode cX5_leastOf 72 = .ok (.iload_n 3, 1) := by decide +kernel
theorem dX5_leastOf_73 : decode cX5_leastOf 73 = .ok (.iand, 1) := by decide +kernel
theorem dX5_leastOf_74 : decode cX5_leastOf 74 = .ok (.istore 6, 2) := by decide +kernel
theorem dX5_leastOf_76 : decode cX5_leastOf 76 = .ok (.goto (-52), 3) := by decide +kernel
theorem dX5_leastOf_79 : decode cX5_leastOf 79 = .ok (.iload 5, 2) := by decide +kernel
theorem dX5_leastOf_81 : decode cX5_leastOf 81 = .ok (.ireturn, 1) := by decide +kernel
theorem dX6_init_0 : decode cX6_init 0 = .ok (.aload_n 0, 1) := by decide +kernel
theorem dX6_init_1 : decode cX6_init 1 = .ok (.invokespecial 3, 3) := by decide +kernel
theorem dX6_init_4 : decode cX6_init 4 = .ok (.aload_n 0, 1) := by decide +kernel
theorem dX6_init_5 : decode cX6_init 5 = .ok (.aload_n 1, 1) := by decide +kernel
theorem dX6_init_6 : decode cX6_init 6 = .ok (.putfield 9, 3) := by decide +kernel
theorem dX6_init_9 : decode cX6_init 9 = .ok (.aload_n 0, 1) := by decide +kernel
theorem dX6_init_10 : decode cX6_init 10 = .ok (.bipush 24, 2) := by decide +kernel
theorem dX6_init_12 : decode cX6_init 12 = .ok (.newarray .int, 2) := by decide +kernel
theorem dX6_init_14 : decode cX6_init 14 = .ok (.putfield 15, 3) := by decide +kernel
theorem dX6_init_17 : decode cX6_init 17 = .ok (.aload_n 0, 1) := by decide +kernel
theorem dX6_init_18 : decode cX6_init 18 = .ok (.bipush 24, 2) := by decide +kernel
theorem dX6_init_20 : decode cX6_init 20 = .ok (.newarray .int, 2) := by decide +kernel
theorem dX6_init_22 : decode cX6_init 22 = .ok (.putfield 19, 3) := by decide +kernel
theorem dX6_init_25 : decode cX6_init 25 = .ok (.aload_n 0, 1) := by decide +kernel
theorem dX6_init_26 : decode cX6_init 26 = .ok (.bipush 24, 2) := by decide +kernel
theorem dX6_init_28 : decode cX6_init 28 = .ok (.newarray .int, 2) := by decide +kernel
theorem dX6_init_30 : decode cX6_init 30 = .ok (.putfield 22, 3) := by decide +kernel
theorem dX6_init_33 : decode cX6_init 33 = .ok (.return_, 1) := by decide +kernel
theorem dX6_measureAll_0 : decode cX6_measureAll 0 = .ok (.iconst 0, 1) := by decide +kernel
theorem dX6_measureAll_1 : decode cX6_measureAll 1 = .ok (.istore_n 1, 1) := by decide +kernel
theorem dX6_measureAll_2 : decode cX6_measureAll 2 = .ok (.iload_n 1, 1) := by decide +kernel
theorem dX6_measureAll_3 : decode cX6_measureAll 3 = .ok (.bipush 6, 2) := by decide +kernel
theorem dX6_measureAll_5 : decode cX6_measureAll 5 = .ok (.if_icmp .ge 14, 3) := by decide +kernel
theorem dX6_measureAll_8 : decode cX6_measureAll 8 = .ok (.aload_n 0, 1) := by decide +kernel
theorem dX6_measureAll_9 : decode cX6_measureAll 9 = .ok (.iload_n 1, 1) := by decide +kernel
theorem dX6_measureAll_10 : decode cX6_measureAll 10 = .ok (.invokevirtual 25, 3) := by decide +kernel
theorem dX6_measureAll_13 : decode cX6_measureAll 13 = .ok (.iinc 1 1, 3) := by decide +kernel
theorem dX6_measureAll_16 : decode cX6_measureAll 16 = .ok (.goto (-14), 3) := by decide +kernel
theorem dX6_measureAll_19 : decode cX6_measureAll 19 = .ok (.return_, 1) := by decide +kernel
theorem dX6_measure_0 : decode cX6_measure 0 = .ok (.iconst 1, 1) := by decide +kernel
theorem dX6_measure_1 : decode cX6_measure 1 = .ok (.istore_n 2, 1) := by decide +kernel
theorem dX6_measure_2 : decode cX6_measure 2 = .ok (.iload_n 2, 1) := by decide +kernel
theorem dX6_measure_3 : decode cX6_measure 3 = .ok (.iconst 4, 1) := by decide +kernel
theorem dX6_measure_4 : decode cX6_measure 4 = .ok (.if_icmp .ge 33, 3) := by decide +kernel
theorem dX6_measure_7 : decode cX6_measure 7 = .ok (.aload_n 0, 1) := by decide +kernel
theorem dX6_measure_8 : decode cX6_measure 8 = .ok (.getfield 15, 3) := by decide +kernel
theorem dX6_measure_11 : decode cX6_measure 11 = .ok (.iload_n 2, 1) := by decide +kernel
theorem dX6_measure_12 : decode cX6_measure 12 = .ok (.bipush 6, 2) := by decide +kernel
theorem dX6_measure_14 : decode cX6_measure 14 = .ok (.imul, 1) := by decide +kernel
theorem dX6_measure_15 : decode cX6_measure 15 = .ok (.iload_n 1, 1) := by decide +kernel
theorem dX6_measure_16 : decode cX6_measure 16 = .ok (.iadd, 1) := by decide +kernel
theorem dX6_measure_17 : decode cX6_measure 17 = .ok (.iconst 0, 1) := by decide +kernel
theorem dX6_measure_18 : decode cX6_measure 18 = .ok (.iastore, 1) := by decide +kernel
theorem dX6_measure_19 : decode cX6_measure 19 = .ok (.aload_n 0, 1) := by decide +kernel
theorem dX6_measure_20 : decode cX6_measure 20 = .ok (.getfield 19, 3) := by decide +kernel
theorem dX6_measure_23 : decode cX6_measure 23 = .ok (.iload_n 2, 1) := by decide +kernel
theorem dX6_measure_24 : decode cX6_measure 24 = .ok (.bipush 6, 2) := by decide +kernel
theorem dX6_measure_26 : decode cX6_measure 26 = .ok (.imul, 1) := by decide +kernel
theorem dX6_measure_27 : decode cX6_measure 27 = .ok (.iload_n 1, 1) := by decide +kernel
theorem dX6_measure_28 : decode cX6_measure 28 = .ok (.iadd, 1) := by decide +kernel
theorem dX6_measure_29 : decode cX6_measure 29 = .ok (.iconst 0, 1) := by decide +kernel
theorem dX6_measure_30 : decode cX6_measure 30 = .ok (.iastore, 1) := by decide +kernel
theorem dX6_measure_31 : decode cX6_measure 31 = .ok (.iinc 2 1, 3) := by decide +kernel
theorem dX6_measure_34 : decode cX6_measure 34 = .ok (.goto (-32), 3) := by decide +kernel
theorem dX6_measure_37 : decode cX6_measure 37 = .ok (.iconst 0, 1) := by decide +kernel
theorem dX6_measure_38 : decode cX6_measure 38 = .ok (.istore_n 2, 1) := by decide +kernel
theorem dX6_measure_39 : decode cX6_measure 39 = .ok (.iload_n 2, 1) := by decide +kernel
theorem dX6_measure_40 : decode cX6_measure 40 = .ok (.aload_n 0, 1) := by decide +kernel
theorem dX6_measure_41 : decode cX6_measure 41 = .ok (.getfield 9, 3) := by decide +kernel
theorem dX6_measure_44 : decode cX6_measure 44 = .ok (.invokevirtual 29, 3) := by decide +kernel
theorem dX6_measure_47 : decode cX6_measure 47 = .ok (.if_icmp .ge 50, 3) := by decide +kernel
theorem dX6_measure_50 : decode cX6_measure 50 = .ok (.aload_n 0, 1) := by decide +kernel
theorem dX6_measure_51 : decode cX6_measure 51 = .ok (.getfield 9, 3) := by decide +kernel
theorem dX6_measure_54 : decode cX6_measure 54 = .ok (.iload_n 2, 1) := by decide +kernel
theorem dX6_measure_55 : decode cX6_measure 55 = .ok (.invokevirtual 35, 3) := by decide +kernel
theorem dX6_measure_58 : decode cX6_measure 58 = .ok (.ifCond .eq 33, 3) := by decide +kernel
theorem dX6_measure_61 : decode cX6_measure 61 = .ok (.aload_n 0, 1) := by decide +kernel
theorem dX6_measure_62 : decode cX6_measure 62 = .ok (.getfield 9, 3) := by decide +kernel
theorem dX6_measure_65 : decode cX6_measure 65 = .ok (.iload_n 2, 1) := by decide +kernel
theorem dX6_measure_66 : decode cX6_measure 66 = .ok (.invokevirtual 39, 3) := by decide +kernel
theorem dX6_measure_69 : decode cX6_measure 69 = .ok (.ifCond .eq 22, 3) := by decide +kernel
theorem dX6_measure_72 : decode cX6_measure 72 = .ok (.aload_n 0, 1) := by decide +kernel
theorem dX6_measure_73 : decode cX6_measure 73 = .ok (.getfield 9, 3) := by decide +kernel
theorem dX6_measure_76 : decode cX6_measure 76 = .ok (.iload_n 2, 1) := by decide +kernel
theorem dX6_measure_77 : decode cX6_measure 77 = .ok (.iload_n 1, 1) := by decide +kernel
theorem dX6_measure_78 : decode cX6_measure 78 = .ok (.invokevirtual 43, 3) := by decide +kernel
theorem dX6_measure_81 : decode cX6_measure 81 = .ok (.iconst (-1), 1) := by decide +kernel
theorem dX6_measure_82 : decode cX6_measure 82 = .ok (.if_icmp .eq 9, 3) := by decide +kernel
theorem dX6_measure_85 : decode cX6_measure 85 = .ok (.aload_n 0, 1) := by decide +kernel
theorem dX6_measure_86 : decode cX6_measure 86 = .ok (.iload_n 2, 1) := by decide +kernel
theorem dX6_measure_87 : decode cX6_measure 87 = .ok (.iload_n 1, 1) := by decide +kernel
theorem dX6_measure_88 : decode cX6_measure 88 = .ok (.invokevirtual 47, 3) := by decide +kernel
theorem dX6_measure_91 : decode cX6_measure 91 = .ok (.iinc 2 1, 3) := by decide +kernel
theorem dX6_measure_94 : decode cX6_measure 94 = .ok (.goto (-55), 3) := by decide +kernel
theorem dX6_measure_97 : decode cX6_measure 97 = .ok (.iconst 1, 1) := by decide +kernel
theorem dX6_measure_98 : decode cX6_measure 98 = .ok (.istore_n 2, 1) := by decide +kernel
theorem dX6_measure_99 : decode cX6_measure 99 = .ok (.iload_n 2, 1) := by decide +kernel
theorem dX6_measure_100 : decode cX6_measure 100 = .ok (.iconst 4, 1) := by decide +kernel
theorem dX6_measure_101 : decode cX6_measure 101 = .ok (.if_icmp .ge 50, 3) := by decide +kernel
theorem dX6_measure_104 : decode cX6_measure 104 = .ok (.iload_n 2, 1) := by decide +kernel
theorem dX6_measure_105 : decode cX6_measure 105 = .ok (.bipush 6, 2) := by decide +kernel
theorem dX6_measure_107 : decode cX6_measure 107 = .ok (.imul, 1) := by decide +kernel
theorem dX6_measure_108 : decode cX6_measure 108 = .ok (.iload_n 1, 1) := by decide +kernel
theorem dX6_measure_109 : decode cX6_measure 109 = .ok (.iadd, 1) := by decide +kernel
theorem dX6_measure_110 : decode cX6_measure 110 = .ok (.istore_n 3, 1) := by decide +kernel
theorem dX6_measure_111 : decode cX6_measure 111 = .ok (.aload_n 0, 1) := by decide +kernel
theorem dX6_measure_112 : decode cX6_measure 112 = .ok (.getfield 22, 3) := by decide +kernel
theorem dX6_measure_115 : decode cX6_measure 115 = .ok (.iload_n 3, 1) := by decide +kernel
theorem dX6_measure_116 : decode cX6_measure 116 = .ok (.aload_n 0, 1) := by decide +kernel
theorem dX6_measure_117 : decode cX6_measure 117 = .ok (.getfield 19, 3) := by decide +kernel
theorem dX6_measure_120 : decode cX6_measure 120 = .ok (.iload_n 3, 1) := by decide +kernel
theorem dX6_measure_121 : decode cX6_measure 121 = .ok (.iaload, 1) := by decide +kernel
theorem dX6_measure_122 : decode cX6_measure 122 = .ok (.ifCond .ne 7, 3) := by decide +kernel
theorem dX6_measure_125 : decode cX6_measure 125 = .ok (.iconst 0, 1) := by decide +kernel
theorem dX6_measure_126 : decode cX6_measure 126 = .ok (.goto 18, 3) := by decide +kernel
theorem dX6_measure_129 : decode cX6_measure 129 = .ok (.aload_n 0, 1) := by decide +kernel
theorem dX6_measure_130 : decode cX6_measure 130 = .ok (.getfield 15, 3) := by decide +kernel
theorem dX6_measure_133 : decode cX6_measure 133 = .ok (.iload_n 3, 1) := by decide +kernel
theorem dX6_measure_134 : decode cX6_measure 134 = .ok (.iaload, 1) := by decide +kernel
theorem dX6_measure_135 : decode cX6_measure 135 = .ok (.aload_n 0, 1) := by decide +kernel
theorem dX6_measure_136 : decode cX6_measure 136 = .ok (.getfield 19, 3) := by decide +kernel
theorem dX6_measure_139 : decode cX6_measure 139 = .ok (.iload_n 3, 1) := by decide +kernel
theorem dX6_measure_140 : decode cX6_measure 140 = .ok (.iaload, 1) := by decide +kernel
theorem dX6_measure_141 : decode cX6_measure 141 = .ok (.invokestatic 51, 3) := by decide +kernel
theorem dX6_measure_144 : decode cX6_measure 144 = .ok (.iastore, 1) := by decide +kernel
theorem dX6_measure_145 : decode cX6_measure 145 = .ok (.iinc 2 1, 3) := by decide +kernel
theorem dX6_measure_148 : decode cX6_measure 148 = .ok (.goto (-49), 3) := by decide +kernel
theorem dX6_measure_151 : decode cX6_measure 151 = .ok (.return_, 1) := by decide +kernel
theorem dX6_addPairsOf_0 : decode cX6_addPairsOf 0 = .ok (.aload_n 0, 1) := by decide +kernel
theorem dX6_addPairsOf_1 : decode cX6_addPairsOf 1 = .ok (.getfield 9, 3) := by decide +kernel
theorem dX6_addPairsOf_4 : decode cX6_addPairsOf 4 = .ok (.iload_n 1, 1) := by decide +kernel
theorem dX6_addPairsOf_5 : decode cX6_addPairsOf 5 = .ok (.invokevirtual 35, 3) := by decide +kernel
theorem dX6_addPairsOf_8 : decode cX6_addPairsOf 8 = .ok (.bipush 6, 2) := by decide +kernel
theorem dX6_addPairsOf_10 : decode cX6_addPairsOf 10 = .ok (.imul, 1) := by decide +kernel
theorem dX6_addPairsOf_11 : decode cX6_addPairsOf 11 = .ok (.iload_n 2, 1) := by decide +kernel
theorem dX6_addPairsOf_12 : decode cX6_addPairsOf 12 = .ok (.iadd, 1) := by decide +kernel
theorem dX6_addPairsOf_13 : decode cX6_addPairsOf 13 = .ok (.istore_n 3, 1) := by decide +kernel
theorem dX6_addPairsOf_14 : decode cX6_addPairsOf 14 = .ok (.iconst 0, 1) := by decide +kernel
theorem dX6_addPairsOf_15 : decode cX6_addPairsOf 15 = .ok (.istore 4, 2) := by decide +kernel
theorem dX6_addPairsOf_17 : decode cX6_addPairsOf 17 = .ok (.iload 4, 2) := by decide +kernel
theorem dX6_addPairsOf_19 : decode cX6_addPairsOf 19 = .ok (.aload_n 0, 1) := by decide +kernel
theorem dX6_addPairsOf_20 : decode cX6_addPairsOf 20 = .ok (.getfield 9, 3) := by decide +kernel
theorem dX6_addPairsOf_23 : decode cX6_addPairsOf 23 = .ok (.invokevirtual 29, 3) := by decide +kernel
theorem dX6_addPairsOf_26 : decode cX6_addPairsOf 26 = .ok (.if_icmp .ge 106, 3) := by decide +kernel
theorem dX6_addPairsOf_29 : decode cX6_addPairsOf 29 = .ok (.aload_n 0, 1) := by decide +kernel
theorem dX6_addPairsOf_30 : decode cX6_addPairsOf 30 = .ok (.getfield 9, 3) := by decide +kernel
theorem dX6_addPairsOf_33 : decode cX6_addPairsOf 33 = .ok (.iload 4, 2) := by decide +kernel
theorem dX6_addPairsOf_35 : decode cX6_addPairsOf 35 = .ok (.invokevirtual 35, 3) := by decide +kernel
theorem dX6_addPairsOf_38 : decode cX6_addPairsOf 38 = .ok (.ifCond .ne 27, 3) := by decide +kernel
theorem dX6_addPairsOf_41 : decode cX6_addPairsOf 41 = .ok (.aload_n 0, 1) := by decide +kernel
theorem dX6_addPairsOf_42 : decode cX6_addPairsOf 42 = .ok (.getfield 9, 3) := by decide +kernel
theorem dX6_addPairsOf_45 : decode cX6_addPairsOf 45 = .ok (.iload 4, 2) := by decide +kernel
theorem dX6_addPairsOf_47 : decode cX6_addPairsOf 47 = .ok (.invokevirtual 56, 3) := by decide +kernel
theorem dX6_addPairsOf_50 : decode cX6_addPairsOf 50 = .ok (.aload_n 0, 1) := by decide +kernel
theorem dX6_addPairsOf_51 : decode cX6_addPairsOf 51 = .ok (.getfield 9, 3) := by decide +kernel
theorem dX6_addPairsOf_54 : decode cX6_addPairsOf 54 = .ok (.iload_n 1, 1) := by decide +kernel
theorem dX6_addPairsOf_55 : decode cX6_addPairsOf 55 = .ok (.invokevirtual 56, 3) := by decide +kernel
theorem dX6_addPairsOf_58 : decode cX6_addPairsOf 58 = .ok (.if_icmp .ne 7, 3) := by decide +kernel
theorem dX6_addPairsOf_61 : decode cX6_addPairsOf 61 = .ok (.iconst 1, 1) := by decide +kernel
theorem dX6_addPairsOf_62 : decode cX6_addPairsOf 62 = .ok (.goto 4, 3) := by decide +kernel
theorem dX6_addPairsOf_65 : decode cX6_addPairsOf 65 = .ok (.iconst 0, 1) := by decide +kernel
theorem dX6_addPairsOf_66 : decode cX6_addPairsOf 66 = .ok (.istore 5, 2) := by decide +kernel
theorem dX6_addPairsOf_68 : decode cX6_addPairsOf 68 = .ok (.iload 5, 2) := by decide +kernel
theorem dX6_addPairsOf_70 : decode cX6_addPairsOf 70 = .ok (.ifCond .eq 56, 3) := by decide +kernel
theorem dX6_addPairsOf_73 : decode cX6_addPairsOf 73 = .ok (.aload_n 0, 1) := by decide +kernel
theorem dX6_addPairsOf_74 : decode cX6_addPairsOf 74 = .ok (.getfield 9, 3) := by decide +kernel
theorem dX6_addPairsOf_77 : decode cX6_addPairsOf 77 = .ok (.iload 4, 2) := by decide +kernel
theorem dX6_addPairsOf_79 : decode cX6_addPairsOf 79 = .ok (.iload_n 2, 1) := by decide +kernel
theorem dX6_addPairsOf_80 : decode cX6_addPairsOf 80 = .ok (.invokevirtual 43, 3) := by decide +kernel
theorem dX6_addPairsOf_83 : decode cX6_addPairsOf 83 = .ok (.iconst (-1), 1) := by decide +kernel
theorem dX6_addPairsOf_84 : decode cX6_addPairsOf 84 = .ok (.if_icmp .eq 42, 3) := by decide +kernel
theorem dX6_addPairsOf_87 : decode cX6_addPairsOf 87 = .ok (.aload_n 0, 1) := by decide +kernel
theorem dX6_addPairsOf_88 : decode cX6_addPairsOf 88 = .ok (.getfield 15, 3) := by decide +kernel
theorem dX6_addPairsOf_91 : decode cX6_addPairsOf 91 = .ok (.iload_n 3, 1) := by decide +kernel
theorem dX6_addPairsOf_92 : decode cX6_addPairsOf 92 = .ok (.dup2, 1) := by decide +kernel
theorem dX6_addPairsOf_93 : decode cX6_addPairsOf 93 = .ok (.iaload, 1) := by decide +kernel
theorem dX6_addPairsOf_94 : decode cX6_addPairsOf 94 = .ok (.aload_n 0, 1) := by decide +kernel
theorem dX6_addPairsOf_95 : decode cX6_addPairsOf 95 = .ok (.getfield 9, 3) := by decide +kernel
theorem dX6_addPairsOf_98 : decode cX6_addPairsOf 98 = .ok (.iload_n 1, 1) := by decide +kernel
theorem dX6_addPairsOf_99 : decode cX6_addPairsOf 99 = .ok (.iload_n 2, 1) := by decide +kernel
theorem dX6_addPairsOf_100 : decode cX6_addPairsOf 100 = .ok (.invokevirtual 43, 3) := by decide +kernel
theorem dX6_addPairsOf_103 : decode cX6_addPairsOf 103 = .ok (.aload_n 0, 1) := by decide +kernel
theorem dX6_addPairsOf_104 : decode cX6_addPairsOf 104 = .ok (.getfield 9, 3) := by decide +kernel
theorem dX6_addPairsOf_107 : decode cX6_addPairsOf 107 = .ok (.iload 4, 2) := by decide +kernel
theorem dX6_addPairsOf_109 : decode cX6_addPairsOf 109 = .ok (.iload_n 2, 1) := by decide +kernel
theorem dX6_addPairsOf_110 : decode cX6_addPairsOf 110 = .ok (.invokevirtual 43, 3) := by decide +kernel
theorem dX6_addPairsOf_113 : decode cX6_addPairsOf 113 = .ok (.isub, 1) := by decide +kernel
theorem dX6_addPairsOf_114 : decode cX6_addPairsOf 114 = .ok (.iadd, 1) := by decide +kernel
theorem dX6_addPairsOf_115 : decode cX6_addPairsOf 115 = .ok (.iastore, 1) := by decide +kernel
theorem dX6_addPairsOf_116 : decode cX6_addPairsOf 116 = .ok (.aload_n 0, 1) := by decide +kernel
theorem dX6_addPairsOf_117 : decode cX6_addPairsOf 117 = .ok (.getfield 19, 3) := by decide +kernel
theorem dX6_addPairsOf_120 : decode cX6_addPairsOf 120 = .ok (.iload_n 3, 1) := by decide +kernel
theorem dX6_addPairsOf_121 : decode cX6_addPairsOf 121 = .ok (.dup2, 1) := by decide +kernel
theorem dX6_addPairsOf_122 : decode cX6_addPairsOf 122 = .ok (.iaload, 1) := by decide +kernel
theorem dX6_addPairsOf_123 : decode cX6_addPairsOf 123 = .ok (.iconst 1, 1) := by decide +kernel
theorem dX6_addPairsOf_124 : decode cX6_addPairsOf 124 = .ok (.iadd, 1) := by decide +kernel
theorem dX6_addPairsOf_125 : decode cX6_addPairsOf 125 = .ok (.iastore, 1) := by decide +kernel
theorem dX6_addPairsOf_126 : decode cX6_addPairsOf 126 = .ok (.iinc 4 1, 3) := by decide +kernel
theorem dX6_addPairsOf_129 : decode cX6_addPairsOf 129 = .ok (.goto (-112), 3) := by decide +kernel
theorem dX6_addPairsOf_132 : decode cX6_addPairsOf 132 = .ok (.return_, 1) := by decide +kernel
theorem dX6_at_0 : decode cX6_at 0 = .ok (.aload_n 0, 1) := by decide +kernel
theorem dX6_at_1 : decode cX6_at 1 = .ok (.getfield 22, 3) := by decide +kernel
theorem dX6_at_4 : decode cX6_at 4 = .ok (.iload_n 1, 1) := by decide +kernel
theorem dX6_at_5 : decode cX6_at 5 = .ok (.bipush 6, 2) := by decide +kernel
theorem dX6_at_7 : decode cX6_at 7 = .ok (.imul, 1) := by decide +kernel
theorem dX6_at_8 : decode cX6_at 8 = .ok (.iload_n 2, 1) := by decide +kernel
theorem dX6_at_9 : decode cX6_at 9 = .ok (.iadd, 1) := by decide +kernel
theorem dX6_at_10 : decode cX6_at 10 = .ok (.iaload, 1) := by decide +kernel
theorem dX6_at_11 : decode cX6_at 11 = .ok (.ireturn, 1) := by decide +kernel
theorem dX6_isUnheard_0 : decode cX6_isUnheard 0 = .ok (.iload_n 1, 1) := by decide +kernel
theorem dX6_isUnheard_1 : decode cX6_isUnheard 1 = .ok (.ifCond .eq 21, 3) := by decide +kernel
theorem dX6_isUnheard_4 : decode cX6_isUnheard 4 = .ok (.aload_n 0, 1) := by decide +kernel
theorem dX6_isUnheard_5 : decode cX6_isUnheard 5 = .ok (.getfield 19, 3) := by decide +kernel
theorem dX6_isUnheard_8 : decode cX6_isUnheard 8 = .ok (.iload_n 1, 1) := by decide +kernel
theorem dX6_isUnheard_9 : decode cX6_isUnheard 9 = .ok (.bipush 6, 2) := by decide +kernel
theorem dX6_isUnheard_11 : decode cX6_isUnheard 11 = .ok (.imul, 1) := by decide +kernel
theorem dX6_isUnheard_12 : decode cX6_isUnheard 12 = .ok (.iload_n 2, 1) := by decide +kernel
theorem dX6_isUnheard_13 : decode cX6_isUnheard 13 = .ok (.iadd, 1) := by decide +kernel
theorem dX6_isUnheard_14 : decode cX6_isUnheard 14 = .ok (.iaload, 1) := by decide +kernel
theorem dX6_isUnheard_15 : decode cX6_isUnheard 15 = .ok (.ifCond .ne 7, 3) := by decide +kernel
theorem dX6_isUnheard_18 : decode cX6_isUnheard 18 = .ok (.iconst 1, 1) := by decide +kernel
theorem dX6_isUnheard_19 : decode cX6_isUnheard 19 = .ok (.goto 4, 3) := by decide +kernel
theorem dX6_isUnheard_22 : decode cX6_isUnheard 22 = .ok (.iconst 0, 1) := by decide +kernel
theorem dX6_isUnheard_23 : decode cX6_isUnheard 23 = .ok (.ireturn, 1) := by decide +kernel
theorem dJ6_numberOfTrailingZeros_0f7a4_0 : decode cJ6_numberOfTrailingZeros_0f7a4 0 = .ok (.iload_n 0, 1) := by decide +kernel
theorem dJ6_numberOfTrailingZeros_0f7a4_1 : decode cJ6_numberOfTrailingZeros_0f7a4 1 = .ok (.iconst (-1), 1) := by decide +kernel
theorem dJ6_numberOfTrailingZeros_0f7a4_2 : decode cJ6_numberOfTrailingZeros_0f7a4 2 = .ok (.ixor, 1) := by decide +kernel
theorem dJ6_numberOfTrailingZeros_0f7a4_3 : decode cJ6_numberOfTrailingZeros_0f7a4 3 = .ok (.iload_n 0, 1) := by decide +kernel
theorem dJ6_numberOfTrailingZeros_0f7a4_4 : decode cJ6_numberOfTrailingZeros_0f7a4 4 = .ok (.iconst 1, 1) := by decide +kernel
theorem dJ6_numberOfTrailingZeros_0f7a4_5 : decode cJ6_numberOfTrailingZeros_0f7a4 5 = .ok (.isub, 1) := by decide +kernel
theorem dJ6_numberOfTrailingZeros_0f7a4_6 : decode cJ6_numberOfTrailingZeros_0f7a4 6 = .ok (.iand, 1) := by decide +kernel
theorem dJ6_numberOfTrailingZeros_0f7a4_7 : decode cJ6_numberOfTrailingZeros_0f7a4 7 = .ok (.istore_n 0, 1) := by decide +kernel
theorem dJ6_numberOfTrailingZeros_0f7a4_8 : decode cJ6_numberOfTrailingZeros_0f7a4 8 = .ok (.iload_n 0, 1) := by decide +kernel
theorem dJ6_numberOfTrailingZeros_0f7a4_9 : decode cJ6_numberOfTrailingZeros_0f7a4 9 = .ok (.ifCond .gt 8, 3) := by decide +kernel
theorem dJ6_numberOfTrailingZeros_0f7a4_12 : decode cJ6_numberOfTrailingZeros_0f7a4 12 = .ok (.iload_n 0, 1) := by decide +kernel
theorem dJ6_numberOfTrailingZeros_0f7a4_13 : decode cJ6_numberOfTrailingZeros_0f7a4 13 = .ok (.bipush 32, 2) := by decide +kernel
theorem dJ6_numberOfTrailingZeros_0f7a4_15 : decode cJ6_numberOfTrailingZeros_0f7a4 15 = .ok (.iand, 1) := by decide +kernel
theorem dJ6_numberOfTrailingZeros_0f7a4_16 : decode cJ6_numberOfTrailingZeros_0f7a4 16 = .ok (.ireturn, 1) := by decide +kernel
theorem dJ6_numberOfTrailingZeros_0f7a4_17 : decode cJ6_numberOfTrailingZeros_0f7a4 17 = .ok (.iconst 1, 1) := by decide +kernel
theorem dJ6_numberOfTrailingZeros_0f7a4_18 : decode cJ6_numberOfTrailingZeros_0f7a4 18 = .ok (.istore_n 1, 1) := by decide +kernel
theorem dJ6_numberOfTrailingZeros_0f7a4_19 : decode cJ6_numberOfTrailingZeros_0f7a4 19 = .ok (.iload_n 0, 1) := by decide +kernel
theorem dJ6_numberOfTrailingZeros_0f7a4_20 : decode cJ6_numberOfTrailingZeros_0f7a4 20 = .ok (.ldc_w 264, 3) := by decide +kernel
theorem dJ6_numberOfTrailingZeros_0f7a4_23 : decode cJ6_numberOfTrailingZeros_0f7a4 23 = .ok (.if_icmp .le 11, 3) := by decide +kernel
theorem dJ6_numberOfTrailingZeros_0f7a4_26 : decode cJ6_numberOfTrailingZeros_0f7a4 26 = .ok (.iinc 1 16, 3) := by decide +kernel
theorem dJ6_numberOfTrailingZeros_0f7a4_29 : decode cJ6_numberOfTrailingZeros_0f7a4 29 = .ok (.iload_n 0, 1) := by decide +kernel
theorem dJ6_numberOfTrailingZeros_0f7a4_30 : decode cJ6_numberOfTrailingZeros_0f7a4 30 = .ok (.bipush 16, 2) := by decide +kernel
theorem dJ6_numberOfTrailingZeros_0f7a4_32 : decode cJ6_numberOfTrailingZeros_0f7a4 32 = .ok (.iushr, 1) := by decide +kernel
theorem dJ6_numberOfTrailingZeros_0f7a4_33 : decode cJ6_numberOfTrailingZeros_0f7a4 33 = .ok (.istore_n 0, 1) := by decide +kernel
theorem dJ6_numberOfTrailingZeros_0f7a4_34 : decode cJ6_numberOfTrailingZeros_0f7a4 34 = .ok (.iload_n 0, 1) := by decide +kernel
theorem dJ6_numberOfTrailingZeros_0f7a4_35 : decode cJ6_numberOfTrailingZeros_0f7a4 35 = .ok (.sipush 256, 3) := by decide +kernel
theorem dJ6_numberOfTrailingZeros_0f7a4_38 : decode cJ6_numberOfTrailingZeros_0f7a4 38 = .ok (.if_icmp .le 11, 3) := by decide +kernel
theorem dJ6_numberOfTrailingZeros_0f7a4_41 : decode cJ6_numberOfTrailingZeros_0f7a4 41 = .ok (.iinc 1 8, 3) := by decide +kernel
theorem dJ6_numberOfTrailingZeros_0f7a4_44 : decode cJ6_numberOfTrailingZeros_0f7a4 44 = .ok (.iload_n 0, 1) := by decide +kernel
theorem dJ6_numberOfTrailingZeros_0f7a4_45 : decode cJ6_numberOfTrailingZeros_0f7a4 45 = .ok (.bipush 8, 2) := by decide +kernel
theorem dJ6_numberOfTrailingZeros_0f7a4_47 : decode cJ6_numberOfTrailingZeros_0f7a4 47 = .ok (.iushr, 1) := by decide +kernel
theorem dJ6_numberOfTrailingZeros_0f7a4_48 : decode cJ6_numberOfTrailingZeros_0f7a4 48 = .ok (.istore_n 0, 1) := by decide +kernel
theorem dJ6_numberOfTrailingZeros_0f7a4_49 : decode cJ6_numberOfTrailingZeros_0f7a4 49 = .ok (.iload_n 0, 1) := by decide +kernel
theorem dJ6_numberOfTrailingZeros_0f7a4_50 : decode cJ6_numberOfTrailingZeros_0f7a4 50 = .ok (.bipush 16, 2) := by decide +kernel
theorem dJ6_numberOfTrailingZeros_0f7a4_52 : decode cJ6_numberOfTrailingZeros_0f7a4 52 = .ok (.if_icmp .le 10, 3) := by decide +kernel
theorem dJ6_numberOfTrailingZeros_0f7a4_55 : decode cJ6_numberOfTrailingZeros_0f7a4 55 = .ok (.iinc 1 4, 3) := by decide +kernel
theorem dJ6_numberOfTrailingZeros_0f7a4_58 : decode cJ6_numberOfTrailingZeros_0f7a4 58 = .ok (.iload_n 0, 1) := by decide +kernel
theorem dJ6_numberOfTrailingZeros_0f7a4_59 : decode cJ6_numberOfTrailingZeros_0f7a4 59 = .ok (.iconst 4, 1) := by decide +kernel
theorem dJ6_numberOfTrailingZeros_0f7a4_60 : decode cJ6_numberOfTrailingZeros_0f7a4 60 = .ok (.iushr, 1) := by decide +kernel
theorem dJ6_numberOfTrailingZeros_0f7a4_61 : decode cJ6_numberOfTrailingZeros_0f7a4 61 = .ok (.istore_n 0, 1) := by decide +kernel
theorem dJ6_numberOfTrailingZeros_0f7a4_62 : decode cJ6_numberOfTrailingZeros_0f7a4 62 = .ok (.iload_n 0, 1) := by decide +kernel
theorem dJ6_numberOfTrailingZeros_0f7a4_63 : decode cJ6_numberOfTrailingZeros_0f7a4 63 = .ok (.iconst 4, 1) := by decide +kernel
theorem dJ6_numberOfTrailingZeros_0f7a4_64 : decode cJ6_numberOfTrailingZeros_0f7a4 64 = .ok (.if_icmp .le 10, 3) := by decide +kernel
theorem dJ6_numberOfTrailingZeros_0f7a4_67 : decode cJ6_numberOfTrailingZeros_0f7a4 67 = .ok (.iinc 1 2, 3) := by decide +kernel
theorem dJ6_numberOfTrailingZeros_0f7a4_70 : decode cJ6_numberOfTrailingZeros_0f7a4 70 = .ok (.iload_n 0, 1) := by decide +kernel
theorem dJ6_numberOfTrailingZeros_0f7a4_71 : decode cJ6_numberOfTrailingZeros_0f7a4 71 = .ok (.iconst 2, 1) := by decide +kernel
theorem dJ6_numberOfTrailingZeros_0f7a4_72 : decode cJ6_numberOfTrailingZeros_0f7a4 72 = .ok (.iushr, 1) := by decide +kernel
theorem dJ6_numberOfTrailingZeros_0f7a4_73 : decode cJ6_numberOfTrailingZeros_0f7a4 73 = .ok (.istore_n 0, 1) := by decide +kernel
theorem dJ6_numberOfTrailingZeros_0f7a4_74 : decode cJ6_numberOfTrailingZeros_0f7a4 74 = .ok (.iload_n 1, 1) := by decide +kernel
theorem dJ6_numberOfTrailingZeros_0f7a4_75 : decode cJ6_numberOfTrailingZeros_0f7a4 75 = .ok (.iload_n 0, 1) := by decide +kernel
theorem dJ6_numberOfTrailingZeros_0f7a4_76 : decode cJ6_numberOfTrailingZeros_0f7a4 76 = .ok (.iconst 1, 1) := by decide +kernel
theorem dJ6_numberOfTrailingZeros_0f7a4_77 : decode cJ6_numberOfTrailingZeros_0f7a4 77 = .ok (.iushr, 1) := by decide +kernel
theorem dJ6_numberOfTrailingZeros_0f7a4_78 : decode cJ6_numberOfTrailingZeros_0f7a4 78 = .ok (.iadd, 1) := by decide +kernel
theorem dJ6_numberOfTrailingZeros_0f7a4_79 : decode cJ6_numberOfTrailingZeros_0f7a4 79 = .ok (.ireturn, 1) := by decide +kernel
theorem dJ6_bitCount_0f7a4_0 : decode cJ6_bitCount_0f7a4 0 = .ok (.iload_n 0, 1) := by decide +kernel
theorem dJ6_bitCount_0f7a4_1 : decode cJ6_bitCount_0f7a4 1 = .ok (.iload_n 0, 1) := by decide +kernel
theorem dJ6_bitCount_0f7a4_2 : decode cJ6_bitCount_0f7a4 2 = .ok (.iconst 1, 1) := by decide +kernel
theorem dJ6_bitCount_0f7a4_3 : decode cJ6_bitCount_0f7a4 3 = .ok (.iushr, 1) := by decide +kernel
theorem dJ6_bitCount_0f7a4_4 : decode cJ6_bitCount_0f7a4 4 = .ok (.ldc_w 265, 3) := by decide +kernel
theorem dJ6_bitCount_0f7a4_7 : decode cJ6_bitCount_0f7a4 7 = .ok (.iand, 1) := by decide +kernel
theorem dJ6_bitCount_0f7a4_8 : decode cJ6_bitCount_0f7a4 8 = .ok (.isub, 1) := by decide +kernel
theorem dJ6_bitCount_0f7a4_9 : decode cJ6_bitCount_0f7a4 9 = .ok (.istore_n 0, 1) := by decide +kernel
theorem dJ6_bitCount_0f7a4_10 : decode cJ6_bitCount_0f7a4 10 = .ok (.iload_n 0, 1) := by decide +kernel
theorem dJ6_bitCount_0f7a4_11 : decode cJ6_bitCount_0f7a4 11 = .ok (.ldc_w 266, 3) := by decide +kernel
theorem dJ6_bitCount_0f7a4_14 : decode cJ6_bitCount_0f7a4 14 = .ok (.iand, 1) := by decide +kernel
theorem dJ6_bitCount_0f7a4_15 : decode cJ6_bitCount_0f7a4 15 = .ok (.iload_n 0, 1) := by decide +kernel
theorem dJ6_bitCount_0f7a4_16 : decode cJ6_bitCount_0f7a4 16 = .ok (.iconst 2, 1) := by decide +kernel
theorem dJ6_bitCount_0f7a4_17 : decode cJ6_bitCount_0f7a4 17 = .ok (.iushr, 1) := by decide +kernel
theorem dJ6_bitCount_0f7a4_18 : decode cJ6_bitCount_0f7a4 18 = .ok (.ldc_w 266, 3) := by decide +kernel
theorem dJ6_bitCount_0f7a4_21 : decode cJ6_bitCount_0f7a4 21 = .ok (.iand, 1) := by decide +kernel
theorem dJ6_bitCount_0f7a4_22 : decode cJ6_bitCount_0f7a4 22 = .ok (.iadd, 1) := by decide +kernel
theorem dJ6_bitCount_0f7a4_23 : decode cJ6_bitCount_0f7a4 23 = .ok (.istore_n 0, 1) := by decide +kernel
theorem dJ6_bitCount_0f7a4_24 : decode cJ6_bitCount_0f7a4 24 = .ok (.iload_n 0, 1) := by decide +kernel
theorem dJ6_bitCount_0f7a4_25 : decode cJ6_bitCount_0f7a4 25 = .ok (.iload_n 0, 1) := by decide +kernel
theorem dJ6_bitCount_0f7a4_26 : decode cJ6_bitCount_0f7a4 26 = .ok (.iconst 4, 1) := by decide +kernel
theorem dJ6_bitCount_0f7a4_27 : decode cJ6_bitCount_0f7a4 27 = .ok (.iushr, 1) := by decide +kernel
theorem dJ6_bitCount_0f7a4_28 : decode cJ6_bitCount_0f7a4 28 = .ok (.iadd, 1) := by decide +kernel
theorem dJ6_bitCount_0f7a4_29 : decode cJ6_bitCount_0f7a4 29 = .ok (.ldc_w 267, 3) := by decide +kernel
theorem dJ6_bitCount_0f7a4_32 : decode cJ6_bitCount_0f7a4 32 = .ok (.iand, 1) := by decide +kernel
theorem dJ6_bitCount_0f7a4_33 : decode cJ6_bitCount_0f7a4 33 = .ok (.istore_n 0, 1) := by decide +kernel
theorem dJ6_bitCount_0f7a4_34 : decode cJ6_bitCount_0f7a4 34 = .ok (.iload_n 0, 1) := by decide +kernel
theorem dJ6_bitCount_0f7a4_35 : decode cJ6_bitCount_0f7a4 35 = .ok (.iload_n 0, 1) := by decide +kernel
theorem dJ6_bitCount_0f7a4_36 : decode cJ6_bitCount_0f7a4 36 = .ok (.bipush 8, 2) := by decide +kernel
theorem dJ6_bitCount_0f7a4_38 : decode cJ6_bitCount_0f7a4 38 = .ok (.iushr, 1) := by decide +kernel
theorem dJ6_bitCount_0f7a4_39 : decode cJ6_bitCount_0f7a4 39 = .ok (.iadd, 1) := by decide +kernel
theorem dJ6_bitCount_0f7a4_40 : decode cJ6_bitCount_0f7a4 40 = .ok (.istore_n 0, 1) := by decide +kernel
theorem dJ6_bitCount_0f7a4_41 : decode cJ6_bitCount_0f7a4 41 = .ok (.iload_n 0, 1) := by decide +kernel
theorem dJ6_bitCount_0f7a4_42 : decode cJ6_bitCount_0f7a4 42 = .ok (.iload_n 0, 1) := by decide +kernel
theorem dJ6_bitCount_0f7a4_43 : decode cJ6_bitCount_0f7a4 43 = .ok (.bipush 16, 2) := by decide +kernel
theorem dJ6_bitCount_0f7a4_45 : decode cJ6_bitCount_0f7a4 45 = .ok (.iushr, 1) := by decide +kernel
theorem dJ6_bitCount_0f7a4_46 : decode cJ6_bitCount_0f7a4 46 = .ok (.iadd, 1) := by decide +kernel
theorem dJ6_bitCount_0f7a4_47 : decode cJ6_bitCount_0f7a4 47 = .ok (.istore_n 0, 1) := by decide +kernel
theorem dJ6_bitCount_0f7a4_48 : decode cJ6_bitCount_0f7a4 48 = .ok (.iload_n 0, 1) := by decide +kernel
theorem dJ6_bitCount_0f7a4_49 : decode cJ6_bitCount_0f7a4 49 = .ok (.bipush 63, 2) := by decide +kernel
theorem dJ6_bitCount_0f7a4_51 : decode cJ6_bitCount_0f7a4 51 = .ok (.iand, 1) := by decide +kernel
theorem dJ6_bitCount_0f7a4_52 : decode cJ6_bitCount_0f7a4 52 = .ok (.ireturn, 1) := by decide +kernel
theorem dJ9_floorDiv_7cf53_0 : decode cJ9_floorDiv_7cf53 0 = .ok (.iload_n 0, 1) := by decide +kernel
theorem dJ9_floorDiv_7cf53_1 : decode cJ9_floorDiv_7cf53 1 = .ok (.iload_n 1, 1) := by decide +kernel
theorem dJ9_floorDiv_7cf53_2 : decode cJ9_floorDiv_7cf53 2 = .ok (.idiv, 1) := by decide +kernel
theorem dJ9_floorDiv_7cf53_3 : decode cJ9_floorDiv_7cf53 3 = .ok (.istore_n 2, 1) := by decide +kernel
theorem dJ9_floorDiv_7cf53_4 : decode cJ9_floorDiv_7cf53 4 = .ok (.iload_n 0, 1) := by decide +kernel
theorem dJ9_floorDiv_7cf53_5 : decode cJ9_floorDiv_7cf53 5 = .ok (.iload_n 1, 1) := by decide +kernel
theorem dJ9_floorDiv_7cf53_6 : decode cJ9_floorDiv_7cf53 6 = .ok (.ixor, 1) := by decide +kernel
theorem dJ9_floorDiv_7cf53_7 : decode cJ9_floorDiv_7cf53 7 = .ok (.ifCond .ge 14, 3) := by decide +kernel
theorem dJ9_floorDiv_7cf53_10 : decode cJ9_floorDiv_7cf53 10 = .ok (.iload_n 2, 1) := by decide +kernel
theorem dJ9_floorDiv_7cf53_11 : decode cJ9_floorDiv_7cf53 11 = .ok (.iload_n 1, 1) := by decide +kernel
theorem dJ9_floorDiv_7cf53_12 : decode cJ9_floorDiv_7cf53 12 = .ok (.imul, 1) := by decide +kernel
theorem dJ9_floorDiv_7cf53_13 : decode cJ9_floorDiv_7cf53 13 = .ok (.iload_n 0, 1) := by decide +kernel
theorem dJ9_floorDiv_7cf53_14 : decode cJ9_floorDiv_7cf53 14 = .ok (.if_icmp .eq 7, 3) := by decide +kernel
theorem dJ9_floorDiv_7cf53_17 : decode cJ9_floorDiv_7cf53 17 = .ok (.iload_n 2, 1) := by decide +kernel
theorem dJ9_floorDiv_7cf53_18 : decode cJ9_floorDiv_7cf53 18 = .ok (.iconst 1, 1) := by decide +kernel
theorem dJ9_floorDiv_7cf53_19 : decode cJ9_floorDiv_7cf53 19 = .ok (.isub, 1) := by decide +kernel
theorem dJ9_floorDiv_7cf53_20 : decode cJ9_floorDiv_7cf53 20 = .ok (.ireturn, 1) := by decide +kernel
theorem dJ9_floorDiv_7cf53_21 : decode cJ9_floorDiv_7cf53 21 = .ok (.iload_n 2, 1) := by decide +kernel
theorem dJ9_floorDiv_7cf53_22 : decode cJ9_floorDiv_7cf53 22 = .ok (.ireturn, 1) := by decide +kernel
theorem dJ9_abs_0f7a4_0 : decode cJ9_abs_0f7a4 0 = .ok (.iload_n 0, 1) := by decide +kernel
theorem dJ9_abs_0f7a4_1 : decode cJ9_abs_0f7a4 1 = .ok (.ifCond .ge 8, 3) := by decide +kernel
theorem dJ9_abs_0f7a4_4 : decode cJ9_abs_0f7a4 4 = .ok (.iload_n 0, 1) := by decide +kernel
theorem dJ9_abs_0f7a4_5 : decode cJ9_abs_0f7a4 5 = .ok (.ineg, 1) := by decide +kernel
theorem dJ9_abs_0f7a4_6 : decode cJ9_abs_0f7a4 6 = .ok (.goto 4, 3) := by decide +kernel
theorem dJ9_abs_0f7a4_9 : decode cJ9_abs_0f7a4 9 = .ok (.iload_n 0, 1) := by decide +kernel
theorem dJ9_abs_0f7a4_10 : decode cJ9_abs_0f7a4 10 = .ok (.ireturn, 1) := by decide +kernel
theorem dJ9_min_7cf53_0 : decode cJ9_min_7cf53 0 = .ok (.iload_n 0, 1) := by decide +kernel
theorem dJ9_min_7cf53_1 : decode cJ9_min_7cf53 1 = .ok (.iload_n 1, 1) := by decide +kernel
theorem dJ9_min_7cf53_2 : decode cJ9_min_7cf53 2 = .ok (.if_icmp .gt 7, 3) := by decide +kernel
theorem dJ9_min_7cf53_5 : decode cJ9_min_7cf53 5 = .ok (.iload_n 0, 1) := by decide +kernel
theorem dJ9_min_7cf53_6 : decode cJ9_min_7cf53 6 = .ok (.goto 4, 3) := by decide +kernel
theorem dJ9_min_7cf53_9 : decode cJ9_min_7cf53 9 = .ok (.iload_n 1, 1) := by decide +kernel
theorem dJ9_min_7cf53_10 : decode cJ9_min_7cf53 10 = .ok (.ireturn, 1) := by decide +kernel
theorem dJ7_fill_53178_0 : decode cJ7_fill_53178 0 = .ok (.iconst 0, 1) := by decide +kernel
theorem dJ7_fill_53178_1 : decode cJ7_fill_53178 1 = .ok (.istore_n 2, 1) := by decide +kernel
theorem dJ7_fill_53178_2 : decode cJ7_fill_53178 2 = .ok (.aload_n 0, 1) := by decide +kernel
theorem dJ7_fill_53178_3 : decode cJ7_fill_53178 3 = .ok (.arraylength, 1) := by decide +kernel
theorem dJ7_fill_53178_4 : decode cJ7_fill_53178 4 = .ok (.istore_n 3, 1) := by decide +kernel
theorem dJ7_fill_53178_5 : decode cJ7_fill_53178 5 = .ok (.iload_n 2, 1) := by decide +kernel
theorem dJ7_fill_53178_6 : decode cJ7_fill_53178 6 = .ok (.iload_n 3, 1) := by decide +kernel
theorem dJ7_fill_53178_7 : decode cJ7_fill_53178 7 = .ok (.if_icmp .ge 13, 3) := by decide +kernel
theorem dJ7_fill_53178_10 : decode cJ7_fill_53178 10 = .ok (.aload_n 0, 1) := by decide +kernel
theorem dJ7_fill_53178_11 : decode cJ7_fill_53178 11 = .ok (.iload_n 2, 1) := by decide +kernel
theorem dJ7_fill_53178_12 : decode cJ7_fill_53178 12 = .ok (.iload_n 1, 1) := by decide +kernel
theorem dJ7_fill_53178_13 : decode cJ7_fill_53178 13 = .ok (.iastore, 1) := by decide +kernel
theorem dJ7_fill_53178_14 : decode cJ7_fill_53178 14 = .ok (.iinc 2 1, 3) := by decide +kernel
theorem dJ7_fill_53178_17 : decode cJ7_fill_53178 17 = .ok (.goto (-12), 3) := by decide +kernel
theorem dJ7_fill_53178_20 : decode cJ7_fill_53178 20 = .ok (.return_, 1) := by decide +kernel
end
section
theorem dX7_init_0 : decode cX7_init 0 = .ok (.aload_n 0, 1) := by decide +kernel
theorem dX7_init_1 : decode cX7_init 1 = .ok (.invokespecial 1, 3) := by decide +kernel
theorem dX7_init_4 : decode cX7_init 4 = .ok (.aload_n 0, 1) := by decide +kernel
theorem dX7_init_5 : decode cX7_init 5 = .ok (.new 7, 3) := by decide +kernel
theorem dX7_init_8 : decode cX7_init 8 = .ok (.dup, 1) := by decide +kernel
theorem dX7_init_9 : decode cX7_init 9 = .ok (.invokespecial 9, 3) := by decide +kernel
theorem dX7_init_12 : decode cX7_init 12 = .ok (.putfield 10, 3) := by decide +kernel
theorem dX7_init_15 : decode cX7_init 15 = .ok (.aload_n 0, 1) := by decide +kernel
theorem dX7_init_16 : decode cX7_init 16 = .ok (.new 16, 3) := by decide +kernel
theorem dX7_init_19 : decode cX7_init 19 = .ok (.dup, 1) := by decide +kernel
theorem dX7_init_20 : decode cX7_init 20 = .ok (.aload_n 0, 1) := by decide +kernel
theorem dX7_init_21 : decode cX7_init 21 = .ok (.getfield 10, 3) := by decide +kernel
theorem dX7_init_24 : decode cX7_init 24 = .ok (.invokespecial 18, 3) := by decide +kernel
theorem dX7_init_27 : decode cX7_init 27 = .ok (.putfield 21, 3) := by decide +kernel
theorem dX7_init_30 : decode cX7_init 30 = .ok (.aload_n 0, 1) := by decide +kernel
theorem dX7_init_31 : decode cX7_init 31 = .ok (.new 25, 3) := by decide +kernel
theorem dX7_init_34 : decode cX7_init 34 = .ok (.dup, 1) := by decide +kernel
theorem dX7_init_35 : decode cX7_init 35 = .ok (.aload_n 0, 1) := by decide +kernel
theorem dX7_init_36 : decode cX7_init 36 = .ok (.getfield 10, 3) := by decide +kernel
theorem dX7_init_39 : decode cX7_init 39 = .ok (.aload_n 0, 1) := by decide +kernel
theorem dX7_init_40 : decode cX7_init 40 = .ok (.getfield 21, 3) := by decide +kernel
theorem dX7_init_43 : decode cX7_init 43 = .ok (.invokespecial 27, 3) := by decide +kernel
theorem dX7_init_46 : decode cX7_init 46 = .ok (.putfield 30, 3) := by decide +kernel
theorem dX7_init_49 : decode cX7_init 49 = .ok (.aload_n 0, 1) := by decide +kernel
theorem dX7_init_50 : decode cX7_init 50 = .ok (.new 34, 3) := by decide +kernel
theorem dX7_init_53 : decode cX7_init 53 = .ok (.dup, 1) := by decide +kernel
theorem dX7_init_54 : decode cX7_init 54 = .ok (.aload_n 0, 1) := by decide +kernel
theorem dX7_init_55 : decode cX7_init 55 = .ok (.getfield 10, 3) := by decide +kernel
theorem dX7_init_58 : decode cX7_init 58 = .ok (.aload_n 0, 1) := by decide +kernel
theorem dX7_init_59 : decode cX7_init 59 = .ok (.getfield 30, 3) := by decide +kernel
theorem dX7_init_62 : decode cX7_init 62 = .ok (.invokespecial 36, 3) := by decide +kernel
theorem dX7_init_65 : decode cX7_init 65 = .ok (.putfield 39, 3) := by decide +kernel
theorem dX7_init_68 : decode cX7_init 68 = .ok (.aload_n 0, 1) := by decide +kernel
theorem dX7_init_69 : decode cX7_init 69 = .ok (.new 43, 3) := by decide +kernel
theorem dX7_init_72 : decode cX7_init 72 = .ok (.dup, 1) := by decide +kernel
theorem dX7_init_73 : decode cX7_init 73 = .ok (.aload_n 0, 1) := by decide +kernel
theorem dX7_init_74 : decode cX7_init 74 = .ok (.getfield 30, 3) := by decide +kernel
theorem dX7_init_77 : decode cX7_init 77 = .ok (.invokespecial 45, 3) := by decide +kernel
theorem dX7_init_80 : decode cX7_init 80 = .ok (.putfield 48, 3) := by decide +kernel
theorem dX7_init_83 : decode cX7_init 83 = .ok (.aload_n 0, 1) := by decide +kernel
theorem dX7_init_84 : decode cX7_init 84 = .ok (.new 52, 3) := by decide +kernel
theorem dX7_init_87 : decode cX7_init 87 = .ok (.dup, 1) := by decide +kernel
theorem dX7_init_88 : decode cX7_init 88 = .ok (.aload_n 0, 1) := by decide +kernel
theorem dX7_init_89 : decode cX7_init 89 = .ok (.getfield 10, 3) := by decide +kernel
theorem dX7_init_92 : decode cX7_init 92 = .ok (.aload_n 0, 1) := by decide +kernel
theorem dX7_init_93 : decode cX7_init 93 = .ok (.getfield 30, 3) := by decide +kernel
theorem dX7_init_96 : decode cX7_init 96 = .ok (.invokespecial 54, 3) := by decide +kernel
theorem dX7_init_99 : decode cX7_init 99 = .ok (.putfield 55, 3) := by decide +kernel
theorem dX7_init_102 : decode cX7_init 102 = .ok (.aload_n 0, 1) := by decide +kernel
theorem dX7_init_103 : decode cX7_init 103 = .ok (.new 59, 3) := by decide +kernel
theorem dX7_init_106 : decode cX7_init 106 = .ok (.dup, 1) := by decide +kernel
theorem dX7_init_107 : decode cX7_init 107 = .ok (.invokespecial 61, 3) := by decide +kernel
theorem dX7_init_110 : decode cX7_init 110 = .ok (.putfield 62, 3) := by decide +kernel
theorem dX7_init_113 : decode cX7_init 113 = .ok (.aload_n 0, 1) := by decide +kernel
theorem dX7_init_114 : decode cX7_init 114 = .ok (.sipush 1023, 3) := by decide +kernel
theorem dX7_init_117 : decode cX7_init 117 = .ok (.putfield 66, 3) := by decide +kernel
theorem dX7_init_120 : decode cX7_init 120 = .ok (.aload_n 0, 1) := by decide +kernel
theorem dX7_init_121 : decode cX7_init 121 = .ok (.bipush 20, 2) := by decide +kernel
theorem dX7_init_123 : decode cX7_init 123 = .ok (.putfield 70, 3) := by decide +kernel
theorem dX7_init_126 : decode cX7_init 126 = .ok (.aload_n 0, 1) := by decide +kernel
theorem dX7_init_127 : decode cX7_init 127 = .ok (.iconst 0, 1) := by decide +kernel
theorem dX7_init_128 : decode cX7_init 128 = .ok (.putfield 73, 3) := by decide +kernel
theorem dX7_init_131 : decode cX7_init 131 = .ok (.return_, 1) := by decide +kernel
theorem dX7_record_0 : decode cX7_record 0 = .ok (.iload_n 1, 1) := by decide +kernel
theorem dX7_record_1 : decode cX7_record 1 = .ok (.invokestatic 77, 3) := by decide +kernel
theorem dX7_record_4 : decode cX7_record 4 = .ok (.ifCond .eq 20, 3) := by decide +kernel
theorem dX7_record_7 : decode cX7_record 7 = .ok (.iload_n 2, 1) := by decide +kernel
theorem dX7_record_8 : decode cX7_record 8 = .ok (.invokestatic 81, 3) := by decide +kernel
theorem dX7_record_11 : decode cX7_record 11 = .ok (.ifCond .eq 13, 3) := by decide +kernel
theorem dX7_record_14 : decode cX7_record 14 = .ok (.aload_n 0, 1) := by decide +kernel
theorem dX7_record_15 : decode cX7_record 15 = .ok (.getfield 10, 3) := by decide +kernel
theorem dX7_record_18 : decode cX7_record 18 = .ok (.invokevirtual 84, 3) := by decide +kernel
theorem dX7_record_21 : decode cX7_record 21 = .ok (.ifCond .eq 5, 3) := by decide +kernel
theorem dX7_record_24 : decode cX7_record 24 = .ok (.iconst (-1), 1) := by decide +kernel
theorem dX7_record_25 : decode cX7_record 25 = .ok (.ireturn, 1) := by decide +kernel
theorem dX7_record_26 : decode cX7_record 26 = .ok (.aload_n 0, 1) := by decide +kernel
theorem dX7_record_27 : decode cX7_record 27 = .ok (.getfield 10, 3) := by decide +kernel
theorem dX7_record_30 : decode cX7_record 30 = .ok (.iload_n 1, 1) := by decide +kernel
theorem dX7_record_31 : decode cX7_record 31 = .ok (.iload_n 2, 1) := by decide +kernel
theorem dX7_record_32 : decode cX7_record 32 = .ok (.invokevirtual 88, 3) := by decide +kernel
theorem dX7_record_35 : decode cX7_record 35 = .ok (.ireturn, 1) := by decide +kernel
theorem dX7_tone_0 : decode cX7_tone 0 = .ok (.aload_n 0, 1) := by decide +kernel
theorem dX7_tone_1 : decode cX7_tone 1 = .ok (.getfield 10, 3) := by decide +kernel
theorem dX7_tone_4 : decode cX7_tone 4 = .ok (.iload_n 1, 1) := by decide +kernel
theorem dX7_tone_5 : decode cX7_tone 5 = .ok (.invokevirtual 92, 3) := by decide +kernel
theorem dX7_tone_8 : decode cX7_tone 8 = .ok (.ifCond .eq 21, 3) := by decide +kernel
theorem dX7_tone_11 : decode cX7_tone 11 = .ok (.iload_n 2, 1) := by decide +kernel
theorem dX7_tone_12 : decode cX7_tone 12 = .ok (.invokestatic 95, 3) := by decide +kernel
theorem dX7_tone_15 : decode cX7_tone 15 = .ok (.ifCond .eq 14, 3) := by decide +kernel
theorem dX7_tone_18 : decode cX7_tone 18 = .ok (.iload_n 3, 1) := by decide +kernel
theorem dX7_tone_19 : decode cX7_tone 19 = .ok (.iconst (-1), 1) := by decide +kernel
theorem dX7_tone_20 : decode cX7_tone 20 = .ok (.if_icmp .lt 9, 3) := by decide +kernel
theorem dX7_tone_23 : decode cX7_tone 23 = .ok (.iload_n 3, 1) := by decide +kernel
theorem dX7_tone_24 : decode cX7_tone 24 = .ok (.bipush 99, 2) := by decide +kernel
theorem dX7_tone_26 : decode cX7_tone 26 = .ok (.if_icmp .le 5, 3) := by decide +kernel
theorem dX7_tone_29 : decode cX7_tone 29 = .ok (.iconst 0, 1) := by decide +kernel
theorem dX7_tone_30 : decode cX7_tone 30 = .ok (.ireturn, 1) := by decide +kernel
theorem dX7_tone_31 : decode cX7_tone 31 = .ok (.aload_n 0, 1) := by decide +kernel
theorem dX7_tone_32 : decode cX7_tone 32 = .ok (.getfield 10, 3) := by decide +kernel
theorem dX7_tone_35 : decode cX7_tone 35 = .ok (.iload_n 1, 1) := by decide +kernel
theorem dX7_tone_36 : decode cX7_tone 36 = .ok (.iload_n 2, 1) := by decide +kernel
theorem dX7_tone_37 : decode cX7_tone 37 = .ok (.iload_n 3, 1) := by decide +kernel
theorem dX7_tone_38 : decode cX7_tone 38 = .ok (.invokevirtual 98, 3) := by decide +kernel
theorem dX7_tone_41 : decode cX7_tone 41 = .ok (.aload_n 0, 1) := by decide +kernel
theorem dX7_tone_42 : decode cX7_tone 42 = .ok (.getfield 21, 3) := by decide +kernel
theorem dX7_tone_45 : decode cX7_tone 45 = .ok (.iload_n 2, 1) := by decide +kernel
theorem dX7_tone_46 : decode cX7_tone 46 = .ok (.invokevirtual 102, 3) := by decide +kernel
theorem dX7_tone_49 : decode cX7_tone 49 = .ok (.aload_n 0, 1) := by decide +kernel
theorem dX7_tone_50 : decode cX7_tone 50 = .ok (.iconst 1, 1) := by decide +kernel
theorem dX7_tone_51 : decode cX7_tone 51 = .ok (.putfield 73, 3) := by decide +kernel
theorem dX7_tone_54 : decode cX7_tone 54 = .ok (.iconst 1, 1) := by decide +kernel
theorem dX7_tone_55 : decode cX7_tone 55 = .ok (.ireturn, 1) := by decide +kernel
theorem dX7_know_0 : decode cX7_know 0 = .ok (.aload_n 0, 1) := by decide +kernel
theorem dX7_know_1 : decode cX7_know 1 = .ok (.getfield 10, 3) := by decide +kernel
theorem dX7_know_4 : decode cX7_know 4 = .ok (.iload_n 1, 1) := by decide +kernel
theorem dX7_know_5 : decode cX7_know 5 = .ok (.invokevirtual 92, 3) := by decide +kernel
theorem dX7_know_8 : decode cX7_know 8 = .ok (.ifCond .eq 10, 3) := by decide +kernel
theorem dX7_know_11 : decode cX7_know 11 = .ok (.iload_n 2, 1) := by decide +kernel
theorem dX7_know_12 : decode cX7_know 12 = .ok (.invokestatic 81, 3) := by decide +kernel
theorem dX7_know_15 : decode cX7_know 15 = .ok (.ifCond .ne 5, 3) := by decide +kernel
theorem dX7_know_18 : decode cX7_know 18 = .ok (.iconst 0, 1) := by decide +kernel
theorem dX7_know_19 : decode cX7_know 19 = .ok (.ireturn, 1) := by decide +kernel
theorem dX7_know_20 : decode cX7_know 20 = .ok (.aload_n 0, 1) := by decide +kernel
theorem dX7_know_21 : decode cX7_know 21 = .ok (.getfield 10, 3) := by decide +kernel
theorem dX7_know_24 : decode cX7_know 24 = .ok (.iload_n 1, 1) := by decide +kernel
theorem dX7_know_25 : decode cX7_know 25 = .ok (.iload_n 2, 1) := by decide +kernel
theorem dX7_know_26 : decode cX7_know 26 = .ok (.invokevirtual 106, 3) := by decide +kernel
theorem dX7_know_29 : decode cX7_know 29 = .ok (.aload_n 0, 1) := by decide +kernel
theorem dX7_know_30 : decode cX7_know 30 = .ok (.getfield 21, 3) := by decide +kernel
theorem dX7_know_33 : decode cX7_know 33 = .ok (.invokevirtual 110, 3) := by decide +kernel
theorem dX7_know_36 : decode cX7_know 36 = .ok (.aload_n 0, 1) := by decide +kernel
theorem dX7_know_37 : decode cX7_know 37 = .ok (.iconst 1, 1) := by decide +kernel
theorem dX7_know_38 : decode cX7_know 38 = .ok (.putfield 73, 3) := by decide +kernel
theorem dX7_know_41 : decode cX7_know 41 = .ok (.iconst 1, 1) := by decide +kernel
theorem dX7_know_42 : decode cX7_know 42 = .ok (.ireturn, 1) := by decide +kernel
theorem dX7_set_0 : decode cX7_set 0 = .ok (.iload_n 1, 1) := by decide +kernel
theorem dX7_set_1 : decode cX7_set 1 = .ok (.ifCond .lt 10, 3) := by decide +kernel
theorem dX7_set_4 : decode cX7_set 4 = .ok (.iload_n 1, 1) := by decide +kernel
theorem dX7_set_5 : decode cX7_set 5 = .ok (.sipush 1023, 3) := by decide +kernel
theorem dX7_set_8 : decode cX7_set 8 = .ok (.if_icmp .le 5, 3) := by decide +kernel
theorem dX7_set_11 : decode cX7_set 11 = .ok (.iconst 0, 1) := by decide +kernel
theorem dX7_set_12 : decode cX7_set 12 = .ok (.ireturn, 1) := by decide +kernel
theorem dX7_set_13 : decode cX7_set 13 = .ok (.aload_n 0, 1) := by decide +kernel
theorem dX7_set_14 : decode cX7_set 14 = .ok (.iload_n 1, 1) := by decide +kernel
theorem dX7_set_15 : decode cX7_set 15 = .ok (.putfield 66, 3) := by decide +kernel
theorem dX7_set_18 : decode cX7_set 18 = .ok (.aload_n 0, 1) := by decide +kernel
theorem dX7_set_19 : decode cX7_set 19 = .ok (.iconst 1, 1) := by decide +kernel
theorem dX7_set_20 : decode cX7_set 20 = .ok (.putfield 73, 3) := by decide +kernel
theorem dX7_set_23 : decode cX7_set 23 = .ok (.iconst 1, 1) := by decide +kernel
theorem dX7_set_24 : decode cX7_set 24 = .ok (.ireturn, 1) := by decide +kernel
theorem dX7_limit_0 : decode cX7_limit 0 = .ok (.iload_n 1, 1) := by decide +kernel
theorem dX7_limit_1 : decode cX7_limit 1 = .ok (.ifCond .lt 10, 3) := by decide +kernel
theorem dX7_limit_4 : decode cX7_limit 4 = .ok (.iload_n 1, 1) := by decide +kernel
theorem dX7_limit_5 : decode cX7_limit 5 = .ok (.sipush 200, 3) := by decide +kernel
theorem dX7_limit_8 : decode cX7_limit 8 = .ok (.if_icmp .le 5, 3) := by decide +kernel
theorem dX7_limit_11 : decode cX7_limit 11 = .ok (.iconst 0, 1) := by decide +kernel
theorem dX7_limit_12 : decode cX7_limit 12 = .ok (.ireturn, 1) := by decide +kernel
theorem dX7_limit_13 : decode cX7_limit 13 = .ok (.aload_n 0, 1) := by decide +kernel
theorem dX7_limit_14 : decode cX7_limit 14 = .ok (.iload_n 1, 1) := by decide +kernel
theorem dX7_limit_15 : decode cX7_limit 15 = .ok (.putfield 70, 3) := by decide +kernel
theorem dX7_limit_18 : decode cX7_limit 18 = .ok (.iconst 1, 1) := by decide +kernel
theorem dX7_limit_19 : decode cX7_limit 19 = .ok (.ireturn, 1) := by decide +kernel
theorem dX7_shift_0 : decode cX7_shift 0 = .ok (.iload_n 1, 1) := by decide +kernel
theorem dX7_shift_1 : decode cX7_shift 1 = .ok (.invokestatic 77, 3) := by decide +kernel
theorem dX7_shift_4 : decode cX7_shift 4 = .ok (.ifCond .eq 10, 3) := by decide +kernel
theorem dX7_shift_7 : decode cX7_shift 7 = .ok (.iload_n 2, 1) := by decide +kernel
theorem dX7_shift_8 : decode cX7_shift 8 = .ok (.invokestatic 95, 3) := by decide +kernel
theorem dX7_shift_11 : decode cX7_shift 11 = .ok (.ifCond .ne 6, 3) := by decide +kernel
theorem dX7_shift_14 : decode cX7_shift 14 = .ok (.ldc 113, 2) := by decide +kernel
theorem dX7_shift_16 : decode cX7_shift 16 = .ok (.ireturn, 1) := by decide +kernel
theorem dX7_shift_17 : decode cX7_shift 17 = .ok (.aload_n 0, 1) := by decide +kernel
theorem dX7_shift_18 : decode cX7_shift 18 = .ok (.getfield 21, 3) := by decide +kernel
theorem dX7_shift_21 : decode cX7_shift 21 = .ok (.iload_n 1, 1) := by decide +kernel
theorem dX7_shift_22 : decode cX7_shift 22 = .ok (.iload_n 2, 1) := by decide +kernel
theorem dX7_shift_23 : decode cX7_shift 23 = .ok (.invokevirtual 114, 3) := by decide +kernel
theorem dX7_shift_26 : decode cX7_shift 26 = .ok (.ireturn, 1) := by decide +kernel
theorem dX7_hidden_0 : decode cX7_hidden 0 = .ok (.iload_n 1, 1) := by decide +kernel
theorem dX7_hidden_1 : decode cX7_hidden 1 = .ok (.invokestatic 77, 3) := by decide +kernel
theorem dX7_hidden_4 : decode cX7_hidden 4 = .ok (.ifCond .eq 10, 3) := by decide +kernel
theorem dX7_hidden_7 : decode cX7_hidden 7 = .ok (.iload_n 2, 1) := by decide +kernel
theorem dX7_hidden_8 : decode cX7_hidden 8 = .ok (.invokestatic 95, 3) := by decide +kernel
theorem dX7_hidden_11 : decode cX7_hidden 11 = .ok (.ifCond .ne 5, 3) := by decide +kernel
theorem dX7_hidden_14 : decode cX7_hidden 14 = .ok (.iconst 0, 1) := by decide +kernel
theorem dX7_hidden_15 : decode cX7_hidden 15 = .ok (.ireturn, 1) := by decide +kernel
theorem dX7_hidden_16 : decode cX7_hidden 16 = .ok (.aload_n 0, 1) := by decide +kernel
theorem dX7_hidden_17 : decode cX7_hidden 17 = .ok (.getfield 21, 3) := by decide +kernel
theorem dX7_hidden_20 : decode cX7_hidden 20 = .ok (.iload_n 1, 1) := by decide +kernel
theorem dX7_hidden_21 : decode cX7_hidden 21 = .ok (.iload_n 2, 1) := by decide +kernel
theorem dX7_hidden_22 : decode cX7_hidden 22 = .ok (.invokevirtual 117, 3) := by decide +kernel
theorem dX7_hidden_25 : decode cX7_hidden 25 = .ok (.ireturn, 1) := by decide +kernel
theorem dX7_score_0 : decode cX7_score 0 = .ok (.aload_n 0, 1) := by decide +kernel
theorem dX7_score_1 : decode cX7_score 1 = .ok (.iload_n 1, 1) := by decide +kernel
theorem dX7_score_2 : decode cX7_score 2 = .ok (.iload_n 2, 1) := by decide +kernel
theorem dX7_score_3 : decode cX7_score 3 = .ok (.invokevirtual 121, 3) := by decide +kernel
theorem dX7_score_6 : decode cX7_score 6 = .ok (.ifCond .ne 5, 3) := by decide +kernel
theorem dX7_score_9 : decode cX7_score 9 = .ok (.iconst (-1), 1) := by decide +kernel
theorem dX7_score_10 : decode cX7_score 10 = .ok (.ireturn, 1) := by decide +kernel
theorem dX7_score_11 : decode cX7_score 11 = .ok (.aload_n 0, 1) := by decide +kernel
theorem dX7_score_12 : decode cX7_score 12 = .ok (.getfield 30, 3) := by decide +kernel
theorem dX7_score_15 : decode cX7_score 15 = .ok (.iload_n 1, 1) := by decide +kernel
theorem dX7_score_16 : decode cX7_score 16 = .ok (.iload_n 2, 1) := by decide +kernel
theorem dX7_score_17 : decode cX7_score 17 = .ok (.invokevirtual 124, 3) := by decide +kernel
theorem dX7_score_20 : decode cX7_score 20 = .ok (.ireturn, 1) := by decide +kernel
theorem dX7_band_0 : decode cX7_band 0 = .ok (.iload_n 1, 1) := by decide +kernel
theorem dX7_band_1 : decode cX7_band 1 = .ok (.invokestatic 127, 3) := by decide +kernel
theorem dX7_band_4 : decode cX7_band 4 = .ok (.ifCond .ne 5, 3) := by decide +kernel
theorem dX7_band_7 : decode cX7_band 7 = .ok (.iconst (-1), 1) := by decide +kernel
theorem dX7_band_8 : decode cX7_band 8 = .ok (.ireturn, 1) := by decide +kernel
theorem dX7_band_9 : decode cX7_band 9 = .ok (.iload_n 2, 1) := by decide +kernel
theorem dX7_band_10 : decode cX7_band 10 = .ok (.lookupswitch 44 #[(0, 26), (1, 35)], 26) := by decide +kernel
theorem dX7_band_36 : decode cX7_band 36 = .ok (.aload_n 0, 1) := by decide +kernel
theorem dX7_band_37 : decode cX7_band 37 = .ok (.invokevirtual 130, 3) := by decide +kernel
theorem dX7_band_40 : decode cX7_band 40 = .ok (.iload_n 1, 1) := by decide +kernel
theorem dX7_band_41 : decode cX7_band 41 = .ok (.invokevirtual 134, 3) := by decide +kernel
theorem dX7_band_44 : decode cX7_band 44 = .ok (.ireturn, 1) := by decide +kernel
theorem dX7_band_45 : decode cX7_band 45 = .ok (.aload_n 0, 1) := by decide +kernel
theorem dX7_band_46 : decode cX7_band 46 = .ok (.invokevirtual 130, 3) := by decide +kernel
theorem dX7_band_49 : decode cX7_band 49 = .ok (.iload_n 1, 1) := by decide +kernel
theorem dX7_band_50 : decode cX7_band 50 = .ok (.invokevirtual 138, 3) := by decide +kernel
theorem dX7_band_53 : decode cX7_band 53 = .ok (.ireturn, 1) := by decide +kernel
theorem dX7_band_54 : decode cX7_band 54 = .ok (.iconst (-1), 1) := by decide +kernel
theorem dX7_band_55 : decode cX7_band 55 = .ok (.ireturn, 1) := by decide +kernel
theorem dX7_block_0 : decode cX7_block 0 = .ok (.iload_n 1, 1) := by decide +kernel
theorem dX7_block_1 : decode cX7_block 1 = .ok (.invokestatic 127, 3) := by decide +kernel
theorem dX7_block_4 : decode cX7_block 4 = .ok (.ifCond .ne 5, 3) := by decide +kernel
theorem dX7_block_7 : decode cX7_block 7 = .ok (.iconst (-1), 1) := by decide +kernel
theorem dX7_block_8 : decode cX7_block 8 = .ok (.ireturn, 1) := by decide +kernel
theorem dX7_block_9 : decode cX7_block 9 = .ok (.aload_n 0, 1) := by decide +kernel
theorem dX7_block_10 : decode cX7_block 10 = .ok (.invokevirtual 130, 3) := by decide +kernel
theorem dX7_block_13 : decode cX7_block 13 = .ok (.astore_n 3, 1) := by decide +kernel
theorem dX7_block_14 : decode cX7_block 14 = .ok (.aload_n 3, 1) := by decide +kernel
theorem dX7_block_15 : decode cX7_block 15 = .ok (.iload_n 1, 1) := by decide +kernel
theorem dX7_block_16 : decode cX7_block 16 = .ok (.invokevirtual 141, 3) := by decide +kernel
theorem dX7_block_19 : decode cX7_block 19 = .ok (.istore 4, 2) := by decide +kernel
theorem dX7_block_21 : decode cX7_block 21 = .ok (.iload 4, 2) := by decide +kernel
theorem dX7_block_23 : decode cX7_block 23 = .ok (.iconst (-1), 1) := by decide +kernel
theorem dX7_block_24 : decode cX7_block 24 = .ok (.if_icmp .ne 5, 3) := by decide +kernel
theorem dX7_block_27 : decode cX7_block 27 = .ok (.iconst (-1), 1) := by decide +kernel
theorem dX7_block_28 : decode cX7_block 28 = .ok (.ireturn, 1) := by decide +kernel
theorem dX7_block_29 : decode cX7_block 29 = .ok (.iload_n 2, 1) := by decide +kernel
theorem dX7_block_30 : decode cX7_block 30 = .ok (.lookupswitch 40 #[(0, 26), (1, 33)], 26) := by decide +kernel
theorem dX7_block_56 : decode cX7_block 56 = .ok (.aload_n 3, 1) := by decide +kernel
theorem dX7_block_57 : decode cX7_block 57 = .ok (.iload 4, 2) := by decide +kernel
theorem dX7_block_59 : decode cX7_block 59 = .ok (.invokevirtual 144, 3) := by decide +kernel
theorem dX7_block_62 : decode cX7_block 62 = .ok (.ireturn, 1) := by decide +kernel
theorem dX7_block_63 : decode cX7_block 63 = .ok (.aload_n 3, 1) := by decide +kernel
theorem dX7_block_64 : decode cX7_block 64 = .ok (.iload 4, 2) := by decide +kernel
theorem dX7_block_66 : decode cX7_block 66 = .ok (.invokevirtual 147, 3) := by decide +kernel
theorem dX7_block_69 : decode cX7_block 69 = .ok (.ireturn, 1) := by decide +kernel
theorem dX7_block_70 : decode cX7_block 70 = .ok (.iconst (-1), 1) := by decide +kernel
theorem dX7_block_71 : decode cX7_block 71 = .ok (.ireturn, 1) := by decide +kernel
theorem dX7_odds_0 : decode cX7_odds 0 = .ok (.iload_n 1, 1) := by decide +kernel
theorem dX7_odds_1 : decode cX7_odds 1 = .ok (.ifCond .ge 5, 3) := by decide +kernel
theorem dX7_odds_4 : decode cX7_odds 4 = .ok (.iconst (-1), 1) := by decide +kernel
theorem dX7_odds_5 : decode cX7_odds 5 = .ok (.ireturn, 1) := by decide +kernel
theorem dX7_odds_6 : decode cX7_odds 6 = .ok (.aload_n 0, 1) := by decide +kernel
theorem dX7_odds_7 : decode cX7_odds 7 = .ok (.invokevirtual 130, 3) := by decide +kernel
theorem dX7_odds_10 : decode cX7_odds 10 = .ok (.astore_n 3, 1) := by decide +kernel
theorem dX7_odds_11 : decode cX7_odds 11 = .ok (.aload_n 3, 1) := by decide +kernel
theorem dX7_odds_12 : decode cX7_odds 12 = .ok (.iload_n 1, 1) := by decide +kernel
theorem dX7_odds_13 : decode cX7_odds 13 = .ok (.invokestatic 150, 3) := by decide +kernel
theorem dX7_odds_16 : decode cX7_odds 16 = .ok (.invokevirtual 141, 3) := by decide +kernel
theorem dX7_odds_19 : decode cX7_odds 19 = .ok (.istore 4, 2) := by decide +kernel
theorem dX7_odds_21 : decode cX7_odds 21 = .ok (.iload 4, 2) := by decide +kernel
theorem dX7_odds_23 : decode cX7_odds 23 = .ok (.iconst (-1), 1) := by decide +kernel
theorem dX7_odds_24 : decode cX7_odds 24 = .ok (.if_icmp .ne 5, 3) := by decide +kernel
theorem dX7_odds_27 : decode cX7_odds 27 = .ok (.iconst (-1), 1) := by decide +kernel
theorem dX7_odds_28 : decode cX7_odds 28 = .ok (.ireturn, 1) := by decide +kernel
theorem dX7_odds_29 : decode cX7_odds 29 = .ok (.iload_n 2, 1) := by decide +kernel
theorem dX7_odds_30 : decode cX7_odds 30 = .ok (.tableswitch 73 0 4 #[34, 41, 46, 53, 58], 34) := by decide +kernel
theorem dX7_odds_64 : decode cX7_odds 64 = .ok (.aload_n 3, 1) := by decide +kernel
theorem dX7_odds_65 : decode cX7_odds 65 = .ok (.iload 4, 2) := by decide +kernel
theorem dX7_odds_67 : decode cX7_odds 67 = .ok (.invokevirtual 153, 3) := by decide +kernel
theorem dX7_odds_70 : decode cX7_odds 70 = .ok (.ireturn, 1) := by decide +kernel
theorem dX7_odds_71 : decode cX7_odds 71 = .ok (.aload_n 3, 1) := by decide +kernel
theorem dX7_odds_72 : decode cX7_odds 72 = .ok (.invokevirtual 156, 3) := by decide +kernel
theorem dX7_odds_75 : decode cX7_odds 75 = .ok (.ireturn, 1) := by decide +kernel
theorem dX7_odds_76 : decode cX7_odds 76 = .ok (.aload_n 3, 1) := by decide +kernel
theorem dX7_odds_77 : decode cX7_odds 77 = .ok (.iload 4, 2) := by decide +kernel
theorem dX7_odds_79 : decode cX7_odds 79 = .ok (.invokevirtual 160, 3) := by decide +kernel
theorem dX7_odds_82 : decode cX7_odds 82 = .ok (.ireturn, 1) := by decide +kernel
theorem dX7_odds_83 : decode cX7_odds 83 = .ok (.aload_n 3, 1) := by decide +kernel
theorem dX7_odds_84 : decode cX7_odds 84 = .ok (.invokevirtual 163, 3) := by decide +kernel
theorem dX7_odds_87 : decode cX7_odds 87 = .ok (.ireturn, 1) := by decide +kernel
theorem dX7_odds_88 : decode cX7_odds 88 = .ok (.aload_n 3, 1) := by decide +kernel
theorem dX7_odds_89 : decode cX7_odds 89 = .ok (.iload 4, 2) := by decide +kernel
theorem dX7_odds_91 : decode cX7_odds 91 = .ok (.invokevirtual 166, 3) := by decide +kernel
theorem dX7_odds_94 : decode cX7_odds 94 = .ok (.ifCond .eq 7, 3) := by decide +kernel
theorem dX7_odds_97 : decode cX7_odds 97 = .ok (.iconst 1, 1) := by decide +kernel
theorem dX7_odds_98 : decode cX7_odds 98 = .ok (.goto 4, 3) := by decide +kernel
theorem dX7_odds_101 : decode cX7_odds 101 = .ok (.iconst 0, 1) := by decide +kernel
theorem dX7_odds_102 : decode cX7_odds 102 = .ok (.ireturn, 1) := by decide +kernel
theorem dX7_odds_103 : decode cX7_odds 103 = .ok (.iconst (-1), 1) := by decide +kernel
theorem dX7_odds_104 : decode cX7_odds 104 = .ok (.ireturn, 1) := by decide +kernel
theorem dX7_segment_0 : decode cX7_segment 0 = .ok (.aload_n 0, 1) := by decide +kernel
theorem dX7_segment_1 : decode cX7_segment 1 = .ok (.getfield 10, 3) := by decide +kernel
theorem dX7_segment_4 : decode cX7_segment 4 = .ok (.iload_n 1, 1) := by decide +kernel
theorem dX7_segment_5 : decode cX7_segment 5 = .ok (.invokevirtual 92, 3) := by decide +kernel
theorem dX7_segment_8 : decode cX7_segment 8 = .ok (.ifCond .eq 24, 3) := by decide +kernel
theorem dX7_segment_11 : decode cX7_segment 11 = .ok (.aload_n 0, 1) := by decide +kernel
theorem dX7_segment_12 : decode cX7_segment 12 = .ok (.getfield 48, 3) := by decide +kernel
theorem dX7_segment_15 : decode cX7_segment 15 = .ok (.invokevirtual 169, 3) := by decide +kernel
theorem dX7_segment_18 : decode cX7_segment 18 = .ok (.ifCond .ne 14, 3) := by decide +kernel
theorem dX7_segment_21 : decode cX7_segment 21 = .ok (.aload_n 0, 1) := by decide +kernel
theorem dX7_segment_22 : decode cX7_segment 22 = .ok (.getfield 48, 3) := by decide +kernel
theorem dX7_segment_25 : decode cX7_segment 25 = .ok (.iload_n 1, 1) := by decide +kernel
theorem dX7_segment_26 : decode cX7_segment 26 = .ok (.invokevirtual 170, 3) := by decide +kernel
theorem dX7_segment_29 : decode cX7_segment 29 = .ok (.ifCond .eq 5, 3) := by decide +kernel
theorem dX7_segment_32 : decode cX7_segment 32 = .ok (.iconst (-1), 1) := by decide +kernel
theorem dX7_segment_33 : decode cX7_segment 33 = .ok (.ireturn, 1) := by decide +kernel
theorem dX7_segment_34 : decode cX7_segment 34 = .ok (.aload_n 0, 1) := by decide +kernel
theorem dX7_segment_35 : decode cX7_segment 35 = .ok (.getfield 48, 3) := by decide +kernel
theorem dX7_segment_38 : decode cX7_segment 38 = .ok (.iload_n 1, 1) := by decide +kernel
theorem dX7_segment_39 : decode cX7_segment 39 = .ok (.invokevirtual 173, 3) := by decide +kernel
theorem dX7_segment_42 : decode cX7_segment 42 = .ok (.aload_n 0, 1) := by decide +kernel
theorem dX7_segment_43 : decode cX7_segment 43 = .ok (.getfield 48, 3) := by decide +kernel
theorem dX7_segment_46 : decode cX7_segment 46 = .ok (.invokevirtual 175, 3) := by decide +kernel
theorem dX7_segment_49 : decode cX7_segment 49 = .ok (.ireturn, 1) := by decide +kernel
theorem dX7_clear_0 : decode cX7_clear 0 = .ok (.aload_n 0, 1) := by decide +kernel
theorem dX7_clear_1 : decode cX7_clear 1 = .ok (.getfield 48, 3) := by decide +kernel
theorem dX7_clear_4 : decode cX7_clear 4 = .ok (.invokevirtual 178, 3) := by decide +kernel
theorem dX7_clear_7 : decode cX7_clear 7 = .ok (.ireturn, 1) := by decide +kernel
theorem dX7_voice_0 : decode cX7_voice 0 = .ok (.iload_n 1, 1) := by decide +kernel
theorem dX7_voice_1 : decode cX7_voice 1 = .ok (.ifCond .lt 14, 3) := by decide +kernel
theorem dX7_voice_4 : decode cX7_voice 4 = .ok (.iload_n 1, 1) := by decide +kernel
theorem dX7_voice_5 : decode cX7_voice 5 = .ok (.aload_n 0, 1) := by decide +kernel
theorem dX7_voice_6 : decode cX7_voice 6 = .ok (.getfield 48, 3) := by decide +kernel
theorem dX7_voice_9 : decode cX7_voice 9 = .ok (.invokevirtual 175, 3) := by decide +kernel
theorem dX7_voice_12 : decode cX7_voice 12 = .ok (.if_icmp .lt 5, 3) := by decide +kernel
theorem dX7_voice_15 : decode cX7_voice 15 = .ok (.iconst (-1), 1) := by decide +kernel
theorem dX7_voice_16 : decode cX7_voice 16 = .ok (.ireturn, 1) := by decide +kernel
theorem dX7_voice_17 : decode cX7_voice 17 = .ok (.aload_n 0, 1) := by decide +kernel
theorem dX7_voice_18 : decode cX7_voice 18 = .ok (.getfield 48, 3) := by decide +kernel
theorem dX7_voice_21 : decode cX7_voice 21 = .ok (.aload_n 0, 1) := by decide +kernel
theorem dX7_voice_22 : decode cX7_voice 22 = .ok (.getfield 70, 3) := by decide +kernel
theorem dX7_voice_25 : decode cX7_voice 25 = .ok (.invokevirtual 181, 3) := by decide +kernel
theorem dX7_voice_28 : decode cX7_voice 28 = .ok (.aload_n 0, 1) := by decide +kernel
theorem dX7_voice_29 : decode cX7_voice 29 = .ok (.getfield 48, 3) := by decide +kernel
theorem dX7_voice_32 : decode cX7_voice 32 = .ok (.iload_n 1, 1) := by decide +kernel
theorem dX7_voice_33 : decode cX7_voice 33 = .ok (.invokevirtual 184, 3) := by decide +kernel
theorem dX7_voice_36 : decode cX7_voice 36 = .ok (.ireturn, 1) := by decide +kernel
theorem dX7_voices_0 : decode cX7_voices 0 = .ok (.aload_n 0, 1) := by decide +kernel
theorem dX7_voices_1 : decode cX7_voices 1 = .ok (.getfield 48, 3) := by decide +kernel
theorem dX7_voices_4 : decode cX7_voices 4 = .ok (.aload_n 0, 1) := by decide +kernel
theorem dX7_voices_5 : decode cX7_voices 5 = .ok (.getfield 70, 3) := by decide +kernel
theorem dX7_voices_8 : decode cX7_voices 8 = .ok (.invokevirtual 181, 3) := by decide +kernel
theorem dX7_voices_11 : decode cX7_voices 11 = .ok (.aload_n 0, 1) := by decide +kernel
theorem dX7_voices_12 : decode cX7_voices 12 = .ok (.getfield 48, 3) := by decide +kernel
theorem dX7_voices_15 : decode cX7_voices 15 = .ok (.invokevirtual 187, 3) := by decide +kernel
theorem dX7_voices_18 : decode cX7_voices 18 = .ok (.ireturn, 1) := by decide +kernel
theorem dX7_spare_0 : decode cX7_spare 0 = .ok (.aload_n 0, 1) := by decide +kernel
theorem dX7_spare_1 : decode cX7_spare 1 = .ok (.getfield 48, 3) := by decide +kernel
theorem dX7_spare_4 : decode cX7_spare 4 = .ok (.aload_n 0, 1) := by decide +kernel
theorem dX7_spare_5 : decode cX7_spare 5 = .ok (.getfield 70, 3) := by decide +kernel
theorem dX7_spare_8 : decode cX7_spare 8 = .ok (.invokevirtual 190, 3) := by decide +kernel
theorem dX7_spare_11 : decode cX7_spare 11 = .ok (.ireturn, 1) := by decide +kernel
theorem dX7_lined_0 : decode cX7_lined 0 = .ok (.aload_n 0, 1) := by decide +kernel
theorem dX7_lined_1 : decode cX7_lined 1 = .ok (.getfield 10, 3) := by decide +kernel
theorem dX7_lined_4 : decode cX7_lined 4 = .ok (.iload_n 1, 1) := by decide +kernel
theorem dX7_lined_5 : decode cX7_lined 5 = .ok (.invokevirtual 92, 3) := by decide +kernel
theorem dX7_lined_8 : decode cX7_lined 8 = .ok (.ifCond .ne 5, 3) := by decide +kernel
theorem dX7_lined_11 : decode cX7_lined 11 = .ok (.iconst (-1), 1) := by decide +kernel
theorem dX7_lined_12 : decode cX7_lined 12 = .ok (.ireturn, 1) := by decide +kernel
theorem dX7_lined_13 : decode cX7_lined 13 = .ok (.aload_n 0, 1) := by decide +kernel
theorem dX7_lined_14 : decode cX7_lined 14 = .ok (.getfield 55, 3) := by decide +kernel
theorem dX7_lined_17 : decode cX7_lined 17 = .ok (.iload_n 1, 1) := by decide +kernel
theorem dX7_lined_18 : decode cX7_lined 18 = .ok (.aload_n 0, 1) := by decide +kernel
theorem dX7_lined_19 : decode cX7_lined 19 = .ok (.getfield 66, 3) := by decide +kernel
theorem dX7_lined_22 : decode cX7_lined 22 = .ok (.invokevirtual 193, 3) := by decide +kernel
theorem dX7_lined_25 : decode cX7_lined 25 = .ok (.aload_n 0, 1) := by decide +kernel
theorem dX7_lined_26 : decode cX7_lined 26 = .ok (.getfield 55, 3) := by decide +kernel
theorem dX7_lined_29 : decode cX7_lined 29 = .ok (.iload_n 2, 1) := by decide +kernel
theorem dX7_lined_30 : decode cX7_lined 30 = .ok (.invokevirtual 196, 3) := by decide +kernel
theorem dX7_lined_33 : decode cX7_lined 33 = .ok (.ireturn, 1) := by decide +kernel
theorem dX7_rank_0 : decode cX7_rank 0 = .ok (.aload_n 0, 1) := by decide +kernel
theorem dX7_rank_1 : decode cX7_rank 1 = .ok (.getfield 10, 3) := by decide +kernel
theorem dX7_rank_4 : decode cX7_rank 4 = .ok (.iload_n 1, 1) := by decide +kernel
theorem dX7_rank_5 : decode cX7_rank 5 = .ok (.invokevirtual 92, 3) := by decide +kernel
theorem dX7_rank_8 : decode cX7_rank 8 = .ok (.ifCond .eq 10, 3) := by decide +kernel
theorem dX7_rank_11 : decode cX7_rank 11 = .ok (.iload_n 2, 1) := by decide +kernel
theorem dX7_rank_12 : decode cX7_rank 12 = .ok (.invokestatic 198, 3) := by decide +kernel
theorem dX7_rank_15 : decode cX7_rank 15 = .ok (.ifCond .ne 5, 3) := by decide +kernel
theorem dX7_rank_18 : decode cX7_rank 18 = .ok (.iconst (-1), 1) := by decide +kernel
theorem dX7_rank_19 : decode cX7_rank 19 = .ok (.ireturn, 1) := by decide +kernel
theorem dX7_rank_20 : decode cX7_rank 20 = .ok (.aload_n 0, 1) := by decide +kernel
theorem dX7_rank_21 : decode cX7_rank 21 = .ok (.getfield 55, 3) := by decide +kernel
theorem dX7_rank_24 : decode cX7_rank 24 = .ok (.iload_n 1, 1) := by decide +kernel
theorem dX7_rank_25 : decode cX7_rank 25 = .ok (.aload_n 0, 1) := by decide +kernel
theorem dX7_rank_26 : decode cX7_rank 26 = .ok (.getfield 66, 3) := by decide +kernel
theorem dX7_rank_29 : decode cX7_rank 29 = .ok (.invokevirtual 193, 3) := by decide +kernel
theorem dX7_rank_32 : decode cX7_rank 32 = .ok (.aload_n 0, 1) := by decide +kernel
theorem dX7_rank_33 : decode cX7_rank 33 = .ok (.getfield 55, 3) := by decide +kernel
theorem dX7_rank_36 : decode cX7_rank 36 = .ok (.iload_n 2, 1) := by decide +kernel
theorem dX7_rank_37 : decode cX7_rank 37 = .ok (.invokevirtual 201, 3) := by decide +kernel
theorem dX7_rank_40 : decode cX7_rank 40 = .ok (.ireturn, 1) := by decide +kernel
theorem dX7_test_0 : decode cX7_test 0 = .ok (.aload_n 0, 1) := by decide +kernel
theorem dX7_test_1 : decode cX7_test 1 = .ok (.iload_n 1, 1) := by decide +kernel
theorem dX7_test_2 : decode cX7_test 2 = .ok (.iload_n 2, 1) := by decide +kernel
theorem dX7_test_3 : decode cX7_test 3 = .ok (.invokevirtual 121, 3) := by decide +kernel
theorem dX7_test_6 : decode cX7_test 6 = .ok (.ifCond .eq 35, 3) := by decide +kernel
theorem dX7_test_9 : decode cX7_test 9 = .ok (.aload_n 0, 1) := by decide +kernel
theorem dX7_test_10 : decode cX7_test 10 = .ok (.getfield 10, 3) := by decide +kernel
theorem dX7_test_13 : decode cX7_test 13 = .ok (.iload_n 1, 1) := by decide +kernel
theorem dX7_test_14 : decode cX7_test 14 = .ok (.invokevirtual 204, 3) := by decide +kernel
theorem dX7_test_17 : decode cX7_test 17 = .ok (.ifCond .eq 24, 3) := by decide +kernel
theorem dX7_test_20 : decode cX7_test 20 = .ok (.aload_n 0, 1) := by decide +kernel
theorem dX7_test_21 : decode cX7_test 21 = .ok (.getfield 10, 3) := by decide +kernel
theorem dX7_test_24 : decode cX7_test 24 = .ok (.iload_n 2, 1) := by decide +kernel
theorem dX7_test_25 : decode cX7_test 25 = .ok (.invokevirtual 204, 3) := by decide +kernel
theorem dX7_test_28 : decode cX7_test 28 = .ok (.ifCond .eq 13, 3) := by decide +kernel
theorem dX7_test_31 : decode cX7_test 31 = .ok (.aload_n 0, 1) := by decide +kernel
theorem dX7_test_32 : decode cX7_test 32 = .ok (.getfield 62, 3) := by decide +kernel
theorem dX7_test_35 : decode cX7_test 35 = .ok (.invokevirtual 207, 3) := by decide +kernel
theorem dX7_test_38 : decode cX7_test 38 = .ok (.ifCond .eq 5, 3) := by decide +kernel
theorem dX7_test_41 : decode cX7_test 41 = .ok (.iconst (-1), 1) := by decide +kernel
theorem dX7_test_42 : decode cX7_test 42 = .ok (.ireturn, 1) := by decide +kernel
theorem dX7_test_43 : decode cX7_test 43 = .ok (.aload_n 0, 1) := by decide +kernel
theorem dX7_test_44 : decode cX7_test 44 = .ok (.getfield 10, 3) := by decide +kernel
theorem dX7_test_47 : decode cX7_test 47 = .ok (.iload_n 1, 1) := by decide +kernel
theorem dX7_test_48 : decode cX7_test 48 = .ok (.invokevirtual 210, 3) := by decide +kernel
theorem dX7_test_51 : decode cX7_test 51 = .ok (.aload_n 0, 1) := by decide +kernel
theorem dX7_test_52 : decode cX7_test 52 = .ok (.getfield 10, 3) := by decide +kernel
theorem dX7_test_55 : decode cX7_test 55 = .ok (.iload_n 2, 1) := by decide +kernel
theorem dX7_test_56 : decode cX7_test 56 = .ok (.invokevirtual 210, 3) := by decide +kernel
theorem dX7_test_59 : decode cX7_test 59 = .ok (.if_icmp .ne 7, 3) := by decide +kernel
theorem dX7_test_62 : decode cX7_test 62 = .ok (.iconst 1, 1) := by decide +kernel
theorem dX7_test_63 : decode cX7_test 63 = .ok (.goto 4, 3) := by decide +kernel
theorem dX7_test_66 : decode cX7_test 66 = .ok (.iconst 0, 1) := by decide +kernel
theorem dX7_test_67 : decode cX7_test 67 = .ok (.istore_n 3, 1) := by decide +kernel
theorem dX7_test_68 : decode cX7_test 68 = .ok (.aload_n 0, 1) := by decide +kernel
theorem dX7_test_69 : decode cX7_test 69 = .ok (.getfield 62, 3) := by decide +kernel
theorem dX7_test_72 : decode cX7_test 72 = .ok (.aload_n 0, 1) := by decide +kernel
theorem dX7_test_73 : decode cX7_test 73 = .ok (.getfield 30, 3) := by decide +kernel
theorem dX7_test_76 : decode cX7_test 76 = .ok (.iload_n 1, 1) := by decide +kernel
theorem dX7_test_77 : decode cX7_test 77 = .ok (.iload_n 2, 1) := by decide +kernel
theorem dX7_test_78 : decode cX7_test 78 = .ok (.invokevirtual 124, 3) := by decide +kernel
theorem dX7_test_81 : decode cX7_test 81 = .ok (.aload_n 0, 1) := by decide +kernel
theorem dX7_test_82 : decode cX7_test 82 = .ok (.getfield 70, 3) := by decide +kernel
theorem dX7_test_85 : decode cX7_test 85 = .ok (.iload_n 3, 1) := by decide +kernel
theorem dX7_test_86 : decode cX7_test 86 = .ok (.invokevirtual 213, 3) := by decide +kernel
theorem dX7_test_89 : decode cX7_test 89 = .ok (.ireturn, 1) := by decide +kernel
theorem dX7_right_0 : decode cX7_right 0 = .ok (.iload_n 1, 1) := by decide +kernel
theorem dX7_right_1 : decode cX7_right 1 = .ok (.ifCond .lt 8, 3) := by decide +kernel
theorem dX7_right_4 : decode cX7_right 4 = .ok (.iload_n 1, 1) := by decide +kernel
theorem dX7_right_5 : decode cX7_right 5 = .ok (.iconst 5, 1) := by decide +kernel
theorem dX7_right_6 : decode cX7_right 6 = .ok (.if_icmp .lt 5, 3) := by decide +kernel
theorem dX7_right_9 : decode cX7_right 9 = .ok (.iconst (-1), 1) := by decide +kernel
theorem dX7_right_10 : decode cX7_right 10 = .ok (.ireturn, 1) := by decide +kernel
theorem dX7_right_11 : decode cX7_right 11 = .ok (.aload_n 0, 1) := by decide +kernel
theorem dX7_right_12 : decode cX7_right 12 = .ok (.getfield 62, 3) := by decide +kernel
theorem dX7_right_15 : decode cX7_right 15 = .ok (.iload_n 1, 1) := by decide +kernel
theorem dX7_right_16 : decode cX7_right 16 = .ok (.invokevirtual 217, 3) := by decide +kernel
theorem dX7_right_19 : decode cX7_right 19 = .ok (.ireturn, 1) := by decide +kernel
theorem dX7_told_0 : decode cX7_told 0 = .ok (.aload_n 0, 1) := by decide +kernel
theorem dX7_told_1 : decode cX7_told 1 = .ok (.getfield 10, 3) := by decide +kernel
theorem dX7_told_4 : decode cX7_told 4 = .ok (.iload_n 1, 1) := by decide +kernel
theorem dX7_told_5 : decode cX7_told 5 = .ok (.invokevirtual 92, 3) := by decide +kernel
theorem dX7_told_8 : decode cX7_told 8 = .ok (.ifCond .ne 5, 3) := by decide +kernel
theorem dX7_told_11 : decode cX7_told 11 = .ok (.iconst (-1), 1) := by decide +kernel
theorem dX7_told_12 : decode cX7_told 12 = .ok (.ireturn, 1) := by decide +kernel
theorem dX7_told_13 : decode cX7_told 13 = .ok (.iload_n 2, 1) := by decide +kernel
theorem dX7_told_14 : decode cX7_told 14 = .ok (.tableswitch 53 0 2 #[26, 35, 44], 26) := by decide +kernel
theorem dX7_told_40 : decode cX7_told 40 = .ok (.aload_n 0, 1) := by decide +kernel
theorem dX7_told_41 : decode cX7_told 41 = .ok (.getfield 10, 3) := by decide +kernel
theorem dX7_told_44 : decode cX7_told 44 = .ok (.iload_n 1, 1) := by decide +kernel
theorem dX7_told_45 : decode cX7_told 45 = .ok (.invokevirtual 220, 3) := by decide +kernel
theorem dX7_told_48 : decode cX7_told 48 = .ok (.ireturn, 1) := by decide +kernel
theorem dX7_told_49 : decode cX7_told 49 = .ok (.aload_n 0, 1) := by decide +kernel
theorem dX7_told_50 : decode cX7_told 50 = .ok (.getfield 10, 3) := by decide +kernel
theorem dX7_told_53 : decode cX7_told 53 = .ok (.iload_n 1, 1) := by decide +kernel
theorem dX7_told_54 : decode cX7_told 54 = .ok (.invokevirtual 210, 3) := by decide +kernel
theorem dX7_told_57 : decode cX7_told 57 = .ok (.ireturn, 1) := by decide +kernel
theorem dX7_told_58 : decode cX7_told 58 = .ok (.aload_n 0, 1) := by decide +kernel
theorem dX7_told_59 : decode cX7_told 59 = .ok (.getfield 10, 3) := by decide +kernel
theorem dX7_told_62 : decode cX7_told 62 = .ok (.iload_n 1, 1) := by decide +kernel
theorem dX7_told_63 : decode cX7_told 63 = .ok (.invokevirtual 223, 3) := by decide +kernel
theorem dX7_told_66 : decode cX7_told 66 = .ok (.ireturn, 1) := by decide +kernel
theorem dX7_told_67 : decode cX7_told 67 = .ok (.aload_n 0, 1) := by decide +kernel
theorem dX7_told_68 : decode cX7_told 68 = .ok (.iload_n 1, 1) := by decide +kernel
theorem dX7_told_69 : decode cX7_told 69 = .ok (.iload_n 2, 1) := by decide +kernel
theorem dX7_told_70 : decode cX7_told 70 = .ok (.invokevirtual 226, 3) := by decide +kernel
theorem dX7_told_73 : decode cX7_told 73 = .ok (.ireturn, 1) := by decide +kernel
theorem dX7_count_0 : decode cX7_count 0 = .ok (.iload_n 1, 1) := by decide +kernel
theorem dX7_count_1 : decode cX7_count 1 = .ok (.tableswitch 93 0 6 #[43, 51, 59, 67, 75, 83, 88], 43) := by decide +kernel
theorem dX7_count_44 : decode cX7_count 44 = .ok (.aload_n 0, 1) := by decide +kernel
theorem dX7_count_45 : decode cX7_count 45 = .ok (.getfield 10, 3) := by decide +kernel
theorem dX7_count_48 : decode cX7_count 48 = .ok (.invokevirtual 229, 3) := by decide +kernel
theorem dX7_count_51 : decode cX7_count 51 = .ok (.ireturn, 1) := by decide +kernel
theorem dX7_count_52 : decode cX7_count 52 = .ok (.aload_n 0, 1) := by decide +kernel
theorem dX7_count_53 : decode cX7_count 53 = .ok (.invokevirtual 130, 3) := by decide +kernel
theorem dX7_count_56 : decode cX7_count 56 = .ok (.invokevirtual 156, 3) := by decide +kernel
theorem dX7_count_59 : decode cX7_count 59 = .ok (.ireturn, 1) := by decide +kernel
theorem dX7_count_60 : decode cX7_count 60 = .ok (.aload_n 0, 1) := by decide +kernel
theorem dX7_count_61 : decode cX7_count 61 = .ok (.invokevirtual 130, 3) := by decide +kernel
theorem dX7_count_64 : decode cX7_count 64 = .ok (.invokevirtual 163, 3) := by decide +kernel
theorem dX7_count_67 : decode cX7_count 67 = .ok (.ireturn, 1) := by decide +kernel
theorem dX7_count_68 : decode cX7_count 68 = .ok (.aload_n 0, 1) := by decide +kernel
theorem dX7_count_69 : decode cX7_count 69 = .ok (.invokevirtual 130, 3) := by decide +kernel
theorem dX7_count_72 : decode cX7_count 72 = .ok (.invokevirtual 230, 3) := by decide +kernel
theorem dX7_count_75 : decode cX7_count 75 = .ok (.ireturn, 1) := by decide +kernel
theorem dX7_count_76 : decode cX7_count 76 = .ok (.aload_n 0, 1) := by decide +kernel
theorem dX7_count_77 : decode cX7_count 77 = .ok (.getfield 48, 3) := by decide +kernel
theorem dX7_count_80 : decode cX7_count 80 = .ok (.invokevirtual 175, 3) := by decide +kernel
theorem dX7_count_83 : decode cX7_count 83 = .ok (.ireturn, 1) := by decide +kernel
theorem dX7_count_84 : decode cX7_count 84 = .ok (.aload_n 0, 1) := by decide +kernel
theorem dX7_count_85 : decode cX7_count 85 = .ok (.getfield 70, 3) := by decide +kernel
theorem dX7_count_88 : decode cX7_count 88 = .ok (.ireturn, 1) := by decide +kernel
theorem dX7_count_89 : decode cX7_count 89 = .ok (.aload_n 0, 1) := by decide +kernel
theorem dX7_count_90 : decode cX7_count 90 = .ok (.getfield 66, 3) := by decide +kernel
theorem dX7_count_93 : decode cX7_count 93 = .ok (.ireturn, 1) := by decide +kernel
theorem dX7_count_94 : decode cX7_count 94 = .ok (.iconst (-1), 1) := by decide +kernel
theorem dX7_count_95 : decode cX7_count 95 = .ok (.ireturn, 1) := by decide +kernel
theorem dX7_toneTold_0 : decode cX7_toneTold 0 = .ok (.iload_n 2, 1) := by decide +kernel
theorem dX7_toneTold_1 : decode cX7_toneTold 1 = .ok (.bipush 10, 2) := by decide +kernel
theorem dX7_toneTold_3 : decode cX7_toneTold 3 = .ok (.if_icmp .lt 9, 3) := by decide +kernel
theorem dX7_toneTold_6 : decode cX7_toneTold 6 = .ok (.iload_n 2, 1) := by decide +kernel
theorem dX7_toneTold_7 : decode cX7_toneTold 7 = .ok (.bipush 16, 2) := by decide +kernel
theorem dX7_toneTold_9 : decode cX7_toneTold 9 = .ok (.if_icmp .lt 5, 3) := by decide +kernel
theorem dX7_toneTold_12 : decode cX7_toneTold 12 = .ok (.iconst (-1), 1) := by decide +kernel
theorem dX7_toneTold_13 : decode cX7_toneTold 13 = .ok (.ireturn, 1) := by decide +kernel
theorem dX7_toneTold_14 : decode cX7_toneTold 14 = .ok (.aload_n 0, 1) := by decide +kernel
theorem dX7_toneTold_15 : decode cX7_toneTold 15 = .ok (.getfield 10, 3) := by decide +kernel
theorem dX7_toneTold_18 : decode cX7_toneTold 18 = .ok (.iload_n 1, 1) := by decide +kernel
theorem dX7_toneTold_19 : decode cX7_toneTold 19 = .ok (.iload_n 2, 1) := by decide +kernel
theorem dX7_toneTold_20 : decode cX7_toneTold 20 = .ok (.bipush 10, 2) := by decide +kernel
theorem dX7_toneTold_22 : decode cX7_toneTold 22 = .ok (.isub, 1) := by decide +kernel
theorem dX7_toneTold_23 : decode cX7_toneTold 23 = .ok (.invokevirtual 233, 3) := by decide +kernel
theorem dX7_toneTold_26 : decode cX7_toneTold 26 = .ok (.ireturn, 1) := by decide +kernel
theorem dX7_freshPairs_0 : decode cX7_freshPairs 0 = .ok (.aload_n 0, 1) := by decide +kernel
theorem dX7_freshPairs_1 : decode cX7_freshPairs 1 = .ok (.getfield 73, 3) := by decide +kernel
theorem dX7_freshPairs_4 : decode cX7_freshPairs 4 = .ok (.ifCond .eq 19, 3) := by decide +kernel
theorem dX7_freshPairs_7 : decode cX7_freshPairs 7 = .ok (.aload_n 0, 1) := by decide +kernel
theorem dX7_freshPairs_8 : decode cX7_freshPairs 8 = .ok (.getfield 39, 3) := by decide +kernel
theorem dX7_freshPairs_11 : decode cX7_freshPairs 11 = .ok (.aload_n 0, 1) := by decide +kernel
theorem dX7_freshPairs_12 : decode cX7_freshPairs 12 = .ok (.getfield 66, 3) := by decide +kernel
theorem dX7_freshPairs_15 : decode cX7_freshPairs 15 = .ok (.invokevirtual 236, 3) := by decide +kernel
theorem dX7_freshPairs_18 : decode cX7_freshPairs 18 = .ok (.aload_n 0, 1) := by decide +kernel
theorem dX7_freshPairs_19 : decode cX7_freshPairs 19 = .ok (.iconst 0, 1) := by decide +kernel
theorem dX7_freshPairs_20 : decode cX7_freshPairs 20 = .ok (.putfield 73, 3) := by decide +kernel
theorem dX7_freshPairs_23 : decode cX7_freshPairs 23 = .ok (.aload_n 0, 1) := by decide +kernel
theorem dX7_freshPairs_24 : decode cX7_freshPairs 24 = .ok (.getfield 39, 3) := by decide +kernel
theorem dX7_freshPairs_27 : decode cX7_freshPairs 27 = .ok (.areturn, 1) := by decide +kernel
theorem dX7_areTwo_0 : decode cX7_areTwo 0 = .ok (.iload_n 1, 1) := by decide +kernel
theorem dX7_areTwo_1 : decode cX7_areTwo 1 = .ok (.iload_n 2, 1) := by decide +kernel
theorem dX7_areTwo_2 : decode cX7_areTwo 2 = .ok (.if_icmp .eq 29, 3) := by decide +kernel
theorem dX7_areTwo_5 : decode cX7_areTwo 5 = .ok (.aload_n 0, 1) := by decide +kernel
theorem dX7_areTwo_6 : decode cX7_areTwo 6 = .ok (.getfield 10, 3) := by decide +kernel
theorem dX7_areTwo_9 : decode cX7_areTwo 9 = .ok (.iload_n 1, 1) := by decide +kernel
theorem dX7_areTwo_10 : decode cX7_areTwo 10 = .ok (.invokevirtual 92, 3) := by decide +kernel
theorem dX7_areTwo_13 : decode cX7_areTwo 13 = .ok (.ifCond .eq 18, 3) := by decide +kernel
theorem dX7_areTwo_16 : decode cX7_areTwo 16 = .ok (.aload_n 0, 1) := by decide +kernel
theorem dX7_areTwo_17 : decode cX7_areTwo 17 = .ok (.getfield 10, 3) := by decide +kernel
theorem dX7_areTwo_20 : decode cX7_areTwo 20 = .ok (.iload_n 2, 1) := by decide +kernel
theorem dX7_areTwo_21 : decode cX7_areTwo 21 = .ok (.invokevirtual 92, 3) := by decide +kernel
theorem dX7_areTwo_24 : decode cX7_areTwo 24 = .ok (.ifCond .eq 7, 3) := by decide +kernel
theorem dX7_areTwo_27 : decode cX7_areTwo 27 = .ok (.iconst 1, 1) := by decide +kernel
theorem dX7_areTwo_28 : decode cX7_areTwo 28 = .ok (.goto 4, 3) := by decide +kernel
theorem dX7_areTwo_31 : decode cX7_areTwo 31 = .ok (.iconst 0, 1) := by decide +kernel
theorem dX7_areTwo_32 : decode cX7_areTwo 32 = .ok (.ireturn, 1) := by decide +kernel
theorem dX7_isChannel_0 : decode cX7_isChannel 0 = .ok (.iload_n 0, 1) := by decide +kernel
theorem dX7_isChannel_1 : decode cX7_isChannel 1 = .ok (.ifCond .lt 12, 3) := by decide +kernel
theorem dX7_isChannel_4 : decode cX7_isChannel 4 = .ok (.iload_n 0, 1) := by decide +kernel
theorem dX7_isChannel_5 : decode cX7_isChannel 5 = .ok (.iconst 4, 1) := by decide +kernel
theorem dX7_isChannel_6 : decode cX7_isChannel 6 = .ok (.if_icmp .ge 7, 3) := by decide +kernel
theorem dX7_isChannel_9 : decode cX7_isChannel 9 = .ok (.iconst 1, 1) := by decide +kernel
theorem dX7_isChannel_10 : decode cX7_isChannel 10 = .ok (.goto 4, 3) := by decide +kernel
theorem dX7_isChannel_13 : decode cX7_isChannel 13 = .ok (.iconst 0, 1) := by decide +kernel
theorem dX7_isChannel_14 : decode cX7_isChannel 14 = .ok (.ireturn, 1) := by decide +kernel
theorem dX7_isPlace_0 : decode cX7_isPlace 0 = .ok (.iload_n 0, 1) := by decide +kernel
theorem dX7_isPlace_1 : decode cX7_isPlace 1 = .ok (.ifCond .lt 13, 3) := by decide +kernel
theorem dX7_isPlace_4 : decode cX7_isPlace 4 = .ok (.iload_n 0, 1) := by decide +kernel
theorem dX7_isPlace_5 : decode cX7_isPlace 5 = .ok (.bipush 6, 2) := by decide +kernel
theorem dX7_isPlace_7 : decode cX7_isPlace 7 = .ok (.if_icmp .ge 7, 3) := by decide +kernel
theorem dX7_isPlace_10 : decode cX7_isPlace 10 = .ok (.iconst 1, 1) := by decide +kernel
theorem dX7_isPlace_11 : decode cX7_isPlace 11 = .ok (.goto 4, 3) := by decide +kernel
theorem dX7_isPlace_14 : decode cX7_isPlace 14 = .ok (.iconst 0, 1) := by decide +kernel
theorem dX7_isPlace_15 : decode cX7_isPlace 15 = .ok (.ireturn, 1) := by decide +kernel
theorem dX7_isSpeaker_0 : decode cX7_isSpeaker 0 = .ok (.iload_n 0, 1) := by decide +kernel
theorem dX7_isSpeaker_1 : decode cX7_isSpeaker 1 = .ok (.ifCond .lt 13, 3) := by decide +kernel
theorem dX7_isSpeaker_4 : decode cX7_isSpeaker 4 = .ok (.iload_n 0, 1) := by decide +kernel
theorem dX7_isSpeaker_5 : decode cX7_isSpeaker 5 = .ok (.bipush 10, 2) := by decide +kernel
theorem dX7_isSpeaker_7 : decode cX7_isSpeaker 7 = .ok (.if_icmp .ge 7, 3) := by decide +kernel
theorem dX7_isSpeaker_10 : decode cX7_isSpeaker 10 = .ok (.iconst 1, 1) := by decide +kernel
theorem dX7_isSpeaker_11 : decode cX7_isSpeaker 11 = .ok (.goto 4, 3) := by decide +kernel
theorem dX7_isSpeaker_14 : decode cX7_isSpeaker 14 = .ok (.iconst 0, 1) := by decide +kernel
theorem dX7_isSpeaker_15 : decode cX7_isSpeaker 15 = .ok (.ireturn, 1) := by decide +kernel
theorem dX7_isSpeakerOrNobody_0 : decode cX7_isSpeakerOrNobody 0 = .ok (.iload_n 0, 1) := by decide +kernel
theorem dX7_isSpeakerOrNobody_1 : decode cX7_isSpeakerOrNobody 1 = .ok (.iconst (-1), 1) := by decide +kernel
theorem dX7_isSpeakerOrNobody_2 : decode cX7_isSpeakerOrNobody 2 = .ok (.if_icmp .eq 10, 3) := by decide +kernel
theorem dX7_isSpeakerOrNobody_5 : decode cX7_isSpeakerOrNobody 5 = .ok (.iload_n 0, 1) := by decide +kernel
theorem dX7_isSpeakerOrNobody_6 : decode cX7_isSpeakerOrNobody 6 = .ok (.invokestatic 198, 3) := by decide +kernel
theorem dX7_isSpeakerOrNobody_9 : decode cX7_isSpeakerOrNobody 9 = .ok (.ifCond .eq 7, 3) := by decide +kernel
theorem dX7_isSpeakerOrNobody_12 : decode cX7_isSpeakerOrNobody 12 = .ok (.iconst 1, 1) := by decide +kernel
theorem dX7_isSpeakerOrNobody_13 : decode cX7_isSpeakerOrNobody 13 = .ok (.goto 4, 3) := by decide +kernel
theorem dX7_isSpeakerOrNobody_16 : decode cX7_isSpeakerOrNobody 16 = .ok (.iconst 0, 1) := by decide +kernel
theorem dX7_isSpeakerOrNobody_17 : decode cX7_isSpeakerOrNobody 17 = .ok (.ireturn, 1) := by decide +kernel
theorem dX7_isBand_0 : decode cX7_isBand 0 = .ok (.iload_n 0, 1) := by decide +kernel
theorem dX7_isBand_1 : decode cX7_isBand 1 = .ok (.ifCond .lt 13, 3) := by decide +kernel
theorem dX7_isBand_4 : decode cX7_isBand 4 = .ok (.iload_n 0, 1) := by decide +kernel
theorem dX7_isBand_5 : decode cX7_isBand 5 = .ok (.bipush 10, 2) := by decide +kernel
theorem dX7_isBand_7 : decode cX7_isBand 7 = .ok (.if_icmp .ge 7, 3) := by decide +kernel
theorem dX7_isBand_10 : decode cX7_isBand 10 = .ok (.iconst 1, 1) := by decide +kernel
theorem dX7_isBand_11 : decode cX7_isBand 11 = .ok (.goto 4, 3) := by decide +kernel
theorem dX7_isBand_14 : decode cX7_isBand 14 = .ok (.iconst 0, 1) := by decide +kernel
theorem dX7_isBand_15 : decode cX7_isBand 15 = .ok (.ireturn, 1) := by decide +kernel
theorem dX7_bandOf_0 : decode cX7_bandOf 0 = .ok (.iload_n 0, 1) := by decide +kernel
theorem dX7_bandOf_1 : decode cX7_bandOf 1 = .ok (.bipush 10, 2) := by decide +kernel
theorem dX7_bandOf_3 : decode cX7_bandOf 3 = .ok (.idiv, 1) := by decide +kernel
theorem dX7_bandOf_4 : decode cX7_bandOf 4 = .ok (.bipush 9, 2) := by decide +kernel
theorem dX7_bandOf_6 : decode cX7_bandOf 6 = .ok (.invokestatic 239, 3) := by decide +kernel
theorem dX7_bandOf_9 : decode cX7_bandOf 9 = .ok (.ireturn, 1) := by decide +kernel
end
section
theorem dX8_init_0 : decode cX8_init 0 = .ok (.aload_n 0, 1) := by decide +kernel
theorem dX8_init_1 : decode cX8_init 1 = .ok (.invokespecial 1, 3) := by decide +kernel
theorem dX8_init_4 : decode cX8_init 4 = .ok (.aload_n 0, 1) := by decide +kernel
theorem dX8_init_5 : decode cX8_init 5 = .ok (.sipush 180, 3) := by decide +kernel
theorem dX8_init_8 : decode cX8_init 8 = .ok (.newarray .int, 2) := by decide +kernel
theorem dX8_init_10 : decode cX8_init 10 = .ok (.putfield 9, 3) := by decide +kernel
theorem dX8_init_13 : decode cX8_init 13 = .ok (.aload_n 0, 1) := by decide +kernel
theorem dX8_init_14 : decode cX8_init 14 = .ok (.bipush 30, 2) := by decide +kernel
theorem dX8_init_16 : decode cX8_init 16 = .ok (.newarray .int, 2) := by decide +kernel
theorem dX8_init_18 : decode cX8_init 18 = .ok (.putfield 13, 3) := by decide +kernel
theorem dX8_init_21 : decode cX8_init 21 = .ok (.aload_n 0, 1) := by decide +kernel
theorem dX8_init_22 : decode cX8_init 22 = .ok (.bipush 30, 2) := by decide +kernel
theorem dX8_init_24 : decode cX8_init 24 = .ok (.newarray .int, 2) := by decide +kernel
theorem dX8_init_26 : decode cX8_init 26 = .ok (.putfield 16, 3) := by decide +kernel
theorem dX8_init_29 : decode cX8_init 29 = .ok (.aload_n 0, 1) := by decide +kernel
theorem dX8_init_30 : decode cX8_init 30 = .ok (.sipush 1023, 3) := by decide +kernel
theorem dX8_init_33 : decode cX8_init 33 = .ok (.putfield 19, 3) := by decide +kernel
theorem dX8_init_36 : decode cX8_init 36 = .ok (.aload_n 0, 1) := by decide +kernel
theorem dX8_init_37 : decode cX8_init 37 = .ok (.bipush 20, 2) := by decide +kernel
theorem dX8_init_39 : decode cX8_init 39 = .ok (.putfield 23, 3) := by decide +kernel
theorem dX8_init_42 : decode cX8_init 42 = .ok (.aload_n 0, 1) := by decide +kernel
theorem dX8_init_43 : decode cX8_init 43 = .ok (.bipush 8, 2) := by decide +kernel
theorem dX8_init_45 : decode cX8_init 45 = .ok (.newarray .int, 2) := by decide +kernel
theorem dX8_init_47 : decode cX8_init 47 = .ok (.putfield 26, 3) := by decide +kernel
theorem dX8_init_50 : decode cX8_init 50 = .ok (.aload_n 0, 1) := by decide +kernel
theorem dX8_init_51 : decode cX8_init 51 = .ok (.iconst 5, 1) := by decide +kernel
theorem dX8_init_52 : decode cX8_init 52 = .ok (.newarray .int, 2) := by decide +kernel
theorem dX8_init_54 : decode cX8_init 54 = .ok (.putfield 29, 3) := by decide +kernel
theorem dX8_init_57 : decode cX8_init 57 = .ok (.aload_n 0, 1) := by decide +kernel
theorem dX8_init_58 : decode cX8_init 58 = .ok (.bipush 24, 2) := by decide +kernel
theorem dX8_init_60 : decode cX8_init 60 = .ok (.newarray .int, 2) := by decide +kernel
theorem dX8_init_62 : decode cX8_init 62 = .ok (.putfield 32, 3) := by decide +kernel
theorem dX8_init_65 : decode cX8_init 65 = .ok (.aload_n 0, 1) := by decide +kernel
theorem dX8_init_66 : decode cX8_init 66 = .ok (.bipush 10, 2) := by decide +kernel
theorem dX8_init_68 : decode cX8_init 68 = .ok (.newarray .int, 2) := by decide +kernel
theorem dX8_init_70 : decode cX8_init 70 = .ok (.putfield 35, 3) := by decide +kernel
theorem dX8_init_73 : decode cX8_init 73 = .ok (.aload_n 0, 1) := by decide +kernel
theorem dX8_init_74 : decode cX8_init 74 = .ok (.bipush 10, 2) := by decide +kernel
theorem dX8_init_76 : decode cX8_init 76 = .ok (.newarray .int, 2) := by decide +kernel
theorem dX8_init_78 : decode cX8_init 78 = .ok (.putfield 38, 3) := by decide +kernel
theorem dX8_init_81 : decode cX8_init 81 = .ok (.aload_n 0, 1) := by decide +kernel
theorem dX8_init_82 : decode cX8_init 82 = .ok (.bipush 10, 2) := by decide +kernel
theorem dX8_init_84 : decode cX8_init 84 = .ok (.newarray .int, 2) := by decide +kernel
theorem dX8_init_86 : decode cX8_init 86 = .ok (.putfield 41, 3) := by decide +kernel
theorem dX8_init_89 : decode cX8_init 89 = .ok (.aload_n 0, 1) := by decide +kernel
theorem dX8_init_90 : decode cX8_init 90 = .ok (.bipush 64, 2) := by decide +kernel
theorem dX8_init_92 : decode cX8_init 92 = .ok (.newarray .int, 2) := by decide +kernel
theorem dX8_init_94 : decode cX8_init 94 = .ok (.putfield 44, 3) := by decide +kernel
theorem dX8_init_97 : decode cX8_init 97 = .ok (.aload_n 0, 1) := by decide +kernel
theorem dX8_init_98 : decode cX8_init 98 = .ok (.bipush 8, 2) := by decide +kernel
theorem dX8_init_100 : decode cX8_init 100 = .ok (.newarray .int, 2) := by decide +kernel
theorem dX8_init_102 : decode cX8_init 102 = .ok (.putfield 47, 3) := by decide +kernel
theorem dX8_init_105 : decode cX8_init 105 = .ok (.aload_n 0, 1) := by decide +kernel
theorem dX8_init_106 : decode cX8_init 106 = .ok (.sipush 256, 3) := by decide +kernel
theorem dX8_init_109 : decode cX8_init 109 = .ok (.newarray .int, 2) := by decide +kernel
theorem dX8_init_111 : decode cX8_init 111 = .ok (.putfield 50, 3) := by decide +kernel
theorem dX8_init_114 : decode cX8_init 114 = .ok (.aload_n 0, 1) := by decide +kernel
theorem dX8_init_115 : decode cX8_init 115 = .ok (.bipush 30, 2) := by decide +kernel
theorem dX8_init_117 : decode cX8_init 117 = .ok (.newarray .int, 2) := by decide +kernel
theorem dX8_init_119 : decode cX8_init 119 = .ok (.putfield 53, 3) := by decide +kernel
theorem dX8_init_122 : decode cX8_init 122 = .ok (.return_, 1) := by decide +kernel
theorem dX8_in_0 : decode cX8_in 0 = .ok (.iload_n 0, 1) := by decide +kernel
theorem dX8_in_1 : decode cX8_in 1 = .ok (.iload_n 1, 1) := by decide +kernel
theorem dX8_in_2 : decode cX8_in 2 = .ok (.if_icmp .lt 12, 3) := by decide +kernel
theorem dX8_in_5 : decode cX8_in 5 = .ok (.iload_n 0, 1) := by decide +kernel
theorem dX8_in_6 : decode cX8_in 6 = .ok (.iload_n 2, 1) := by decide +kernel
theorem dX8_in_7 : decode cX8_in 7 = .ok (.if_icmp .gt 7, 3) := by decide +kernel
theorem dX8_in_10 : decode cX8_in 10 = .ok (.iconst 1, 1) := by decide +kernel
theorem dX8_in_11 : decode cX8_in 11 = .ok (.goto 4, 3) := by decide +kernel
theorem dX8_in_14 : decode cX8_in 14 = .ok (.iconst 0, 1) := by decide +kernel
theorem dX8_in_15 : decode cX8_in 15 = .ok (.ireturn, 1) := by decide +kernel
theorem dX8_isRecording_0 : decode cX8_isRecording 0 = .ok (.iload_n 1, 1) := by decide +kernel
theorem dX8_isRecording_1 : decode cX8_isRecording 1 = .ok (.iconst 0, 1) := by decide +kernel
theorem dX8_isRecording_2 : decode cX8_isRecording 2 = .ok (.aload_n 0, 1) := by decide +kernel
theorem dX8_isRecording_3 : decode cX8_isRecording 3 = .ok (.getfield 56, 3) := by decide +kernel
theorem dX8_isRecording_6 : decode cX8_isRecording 6 = .ok (.iconst 1, 1) := by decide +kernel
theorem dX8_isRecording_7 : decode cX8_isRecording 7 = .ok (.isub, 1) := by decide +kernel
theorem dX8_isRecording_8 : decode cX8_isRecording 8 = .ok (.invokestatic 59, 3) := by decide +kernel
theorem dX8_isRecording_11 : decode cX8_isRecording 11 = .ok (.ireturn, 1) := by decide +kernel
theorem dX8_record_0 : decode cX8_record 0 = .ok (.iload_n 1, 1) := by decide +kernel
theorem dX8_record_1 : decode cX8_record 1 = .ok (.iconst 0, 1) := by decide +kernel
theorem dX8_record_2 : decode cX8_record 2 = .ok (.iconst 3, 1) := by decide +kernel
theorem dX8_record_3 : decode cX8_record 3 = .ok (.invokestatic 59, 3) := by decide +kernel
theorem dX8_record_6 : decode cX8_record 6 = .ok (.ifCond .eq 22, 3) := by decide +kernel
theorem dX8_record_9 : decode cX8_record 9 = .ok (.iload_n 2, 1) := by decide +kernel
theorem dX8_record_10 : decode cX8_record 10 = .ok (.iconst (-1), 1) := by decide +kernel
theorem dX8_record_11 : decode cX8_record 11 = .ok (.bipush 9, 2) := by decide +kernel
theorem dX8_record_13 : decode cX8_record 13 = .ok (.invokestatic 59, 3) := by decide +kernel
theorem dX8_record_16 : decode cX8_record 16 = .ok (.ifCond .eq 12, 3) := by decide +kernel
theorem dX8_record_19 : decode cX8_record 19 = .ok (.aload_n 0, 1) := by decide +kernel
theorem dX8_record_20 : decode cX8_record 20 = .ok (.getfield 56, 3) := by decide +kernel
theorem dX8_record_23 : decode cX8_record 23 = .ok (.bipush 30, 2) := by decide +kernel
theorem dX8_record_25 : decode cX8_record 25 = .ok (.if_icmp .ne 5, 3) := by decide +kernel
theorem dX8_record_28 : decode cX8_record 28 = .ok (.iconst (-1), 1) := by decide +kernel
theorem dX8_record_29 : decode cX8_record 29 = .ok (.ireturn, 1) := by decide +kernel
theorem dX8_record_30 : decode cX8_record 30 = .ok (.aload_n 0, 1) := by decide +kernel
theorem dX8_record_31 : decode cX8_record 31 = .ok (.getfield 13, 3) := by decide +kernel
theorem dX8_record_34 : decode cX8_record 34 = .ok (.aload_n 0, 1) := by decide +kernel
theorem dX8_record_35 : decode cX8_record 35 = .ok (.getfield 56, 3) := by decide +kernel
theorem dX8_record_38 : decode cX8_record 38 = .ok (.iload_n 1, 1) := by decide +kernel
theorem dX8_record_39 : decode cX8_record 39 = .ok (.iastore, 1) := by decide +kernel
theorem dX8_record_40 : decode cX8_record 40 = .ok (.aload_n 0, 1) := by decide +kernel
theorem dX8_record_41 : decode cX8_record 41 = .ok (.getfield 16, 3) := by decide +kernel
theorem dX8_record_44 : decode cX8_record 44 = .ok (.aload_n 0, 1) := by decide +kernel
theorem dX8_record_45 : decode cX8_record 45 = .ok (.getfield 56, 3) := by decide +kernel
theorem dX8_record_48 : decode cX8_record 48 = .ok (.iload_n 2, 1) := by decide +kernel
theorem dX8_record_49 : decode cX8_record 49 = .ok (.iastore, 1) := by decide +kernel
theorem dX8_record_50 : decode cX8_record 50 = .ok (.iconst 0, 1) := by decide +kernel
theorem dX8_record_51 : decode cX8_record 51 = .ok (.istore_n 3, 1) := by decide +kernel
theorem dX8_record_52 : decode cX8_record 52 = .ok (.iload_n 3, 1) := by decide +kernel
theorem dX8_record_53 : decode cX8_record 53 = .ok (.bipush 6, 2) := by decide +kernel
theorem dX8_record_55 : decode cX8_record 55 = .ok (.if_icmp .ge 24, 3) := by decide +kernel
theorem dX8_record_58 : decode cX8_record 58 = .ok (.aload_n 0, 1) := by decide +kernel
theorem dX8_record_59 : decode cX8_record 59 = .ok (.getfield 9, 3) := by decide +kernel
theorem dX8_record_62 : decode cX8_record 62 = .ok (.bipush 6, 2) := by decide +kernel
theorem dX8_record_64 : decode cX8_record 64 = .ok (.aload_n 0, 1) := by decide +kernel
theorem dX8_record_65 : decode cX8_record 65 = .ok (.getfield 56, 3) := by decide +kernel
theorem dX8_record_68 : decode cX8_record 68 = .ok (.imul, 1) := by decide +kernel
theorem dX8_record_69 : decode cX8_record 69 = .ok (.iload_n 3, 1) := by decide +kernel
theorem dX8_record_70 : decode cX8_record 70 = .ok (.iadd, 1) := by decide +kernel
theorem dX8_record_71 : decode cX8_record 71 = .ok (.iconst (-1), 1) := by decide +kernel
theorem dX8_record_72 : decode cX8_record 72 = .ok (.iastore, 1) := by decide +kernel
theorem dX8_record_73 : decode cX8_record 73 = .ok (.iinc 3 1, 3) := by decide +kernel
theorem dX8_record_76 : decode cX8_record 76 = .ok (.goto (-24), 3) := by decide +kernel
theorem dX8_record_79 : decode cX8_record 79 = .ok (.aload_n 0, 1) := by decide +kernel
theorem dX8_record_80 : decode cX8_record 80 = .ok (.dup, 1) := by decide +kernel
theorem dX8_record_81 : decode cX8_record 81 = .ok (.getfield 56, 3) := by decide +kernel
theorem dX8_record_84 : decode cX8_record 84 = .ok (.iconst 1, 1) := by decide +kernel
theorem dX8_record_85 : decode cX8_record 85 = .ok (.iadd, 1) := by decide +kernel
theorem dX8_record_86 : decode cX8_record 86 = .ok (.putfield 56, 3) := by decide +kernel
theorem dX8_record_89 : decode cX8_record 89 = .ok (.aload_n 0, 1) := by decide +kernel
theorem dX8_record_90 : decode cX8_record 90 = .ok (.getfield 56, 3) := by decide +kernel
theorem dX8_record_93 : decode cX8_record 93 = .ok (.iconst 1, 1) := by decide +kernel
theorem dX8_record_94 : decode cX8_record 94 = .ok (.isub, 1) := by decide +kernel
theorem dX8_record_95 : decode cX8_record 95 = .ok (.ireturn, 1) := by decide +kernel
theorem dX8_tone_0 : decode cX8_tone 0 = .ok (.aload_n 0, 1) := by decide +kernel
theorem dX8_tone_1 : decode cX8_tone 1 = .ok (.iload_n 1, 1) := by decide +kernel
theorem dX8_tone_2 : decode cX8_tone 2 = .ok (.invokevirtual 63, 3) := by decide +kernel
theorem dX8_tone_5 : decode cX8_tone 5 = .ok (.ifCond .eq 22, 3) := by decide +kernel
theorem dX8_tone_8 : decode cX8_tone 8 = .ok (.iload_n 2, 1) := by decide +kernel
theorem dX8_tone_9 : decode cX8_tone 9 = .ok (.iconst 0, 1) := by decide +kernel
theorem dX8_tone_10 : decode cX8_tone 10 = .ok (.iconst 5, 1) := by decide +kernel
theorem dX8_tone_11 : decode cX8_tone 11 = .ok (.invokestatic 59, 3) := by decide +kernel
theorem dX8_tone_14 : decode cX8_tone 14 = .ok (.ifCond .eq 13, 3) := by decide +kernel
theorem dX8_tone_17 : decode cX8_tone 17 = .ok (.iload_n 3, 1) := by decide +kernel
theorem dX8_tone_18 : decode cX8_tone 18 = .ok (.iconst (-1), 1) := by decide +kernel
theorem dX8_tone_19 : decode cX8_tone 19 = .ok (.bipush 99, 2) := by decide +kernel
theorem dX8_tone_21 : decode cX8_tone 21 = .ok (.invokestatic 59, 3) := by decide +kernel
theorem dX8_tone_24 : decode cX8_tone 24 = .ok (.ifCond .ne 5, 3) := by decide +kernel
theorem dX8_tone_27 : decode cX8_tone 27 = .ok (.iconst 0, 1) := by decide +kernel
theorem dX8_tone_28 : decode cX8_tone 28 = .ok (.ireturn, 1) := by decide +kernel
theorem dX8_tone_29 : decode cX8_tone 29 = .ok (.aload_n 0, 1) := by decide +kernel
theorem dX8_tone_30 : decode cX8_tone 30 = .ok (.getfield 9, 3) := by decide +kernel
theorem dX8_tone_33 : decode cX8_tone 33 = .ok (.bipush 6, 2) := by decide +kernel
theorem dX8_tone_35 : decode cX8_tone 35 = .ok (.iload_n 1, 1) := by decide +kernel
theorem dX8_tone_36 : decode cX8_tone 36 = .ok (.imul, 1) := by decide +kernel
theorem dX8_tone_37 : decode cX8_tone 37 = .ok (.iload_n 2, 1) := by decide +kernel
theorem dX8_tone_38 : decode cX8_tone 38 = .ok (.iadd, 1) := by decide +kernel
theorem dX8_tone_39 : decode cX8_tone 39 = .ok (.iload_n 3, 1) := by decide +kernel
theorem dX8_tone_40 : decode cX8_tone 40 = .ok (.iastore, 1) := by decide +kernel
theorem dX8_tone_41 : decode cX8_tone 41 = .ok (.iconst 1, 1) := by decide +kernel
theorem dX8_tone_42 : decode cX8_tone 42 = .ok (.ireturn, 1) := by decide +kernel
theorem dX8_know_0 : decode cX8_know 0 = .ok (.aload_n 0, 1) := by decide +kernel
theorem dX8_know_1 : decode cX8_know 1 = .ok (.iload_n 1, 1) := by decide +kernel
theorem dX8_know_2 : decode cX8_know 2 = .ok (.invokevirtual 63, 3) := by decide +kernel
theorem dX8_know_5 : decode cX8_know 5 = .ok (.ifCond .eq 13, 3) := by decide +kernel
theorem dX8_know_8 : decode cX8_know 8 = .ok (.iload_n 2, 1) := by decide +kernel
theorem dX8_know_9 : decode cX8_know 9 = .ok (.iconst (-1), 1) := by decide +kernel
theorem dX8_know_10 : decode cX8_know 10 = .ok (.bipush 9, 2) := by decide +kernel
theorem dX8_know_12 : decode cX8_know 12 = .ok (.invokestatic 59, 3) := by decide +kernel
theorem dX8_know_15 : decode cX8_know 15 = .ok (.ifCond .ne 5, 3) := by decide +kernel
theorem dX8_know_18 : decode cX8_know 18 = .ok (.iconst 0, 1) := by decide +kernel
theorem dX8_know_19 : decode cX8_know 19 = .ok (.ireturn, 1) := by decide +kernel
theorem dX8_know_20 : decode cX8_know 20 = .ok (.aload_n 0, 1) := by decide +kernel
theorem dX8_know_21 : decode cX8_know 21 = .ok (.getfield 16, 3) := by decide +kernel
theorem dX8_know_24 : decode cX8_know 24 = .ok (.iload_n 1, 1) := by decide +kernel
theorem dX8_know_25 : decode cX8_know 25 = .ok (.iload_n 2, 1) := by decide +kernel
theorem dX8_know_26 : decode cX8_know 26 = .ok (.iastore, 1) := by decide +kernel
theorem dX8_know_27 : decode cX8_know 27 = .ok (.iconst 1, 1) := by decide +kernel
theorem dX8_know_28 : decode cX8_know 28 = .ok (.ireturn, 1) := by decide +kernel
theorem dX8_set_0 : decode cX8_set 0 = .ok (.iload_n 1, 1) := by decide +kernel
theorem dX8_set_1 : decode cX8_set 1 = .ok (.iconst 0, 1) := by decide +kernel
theorem dX8_set_2 : decode cX8_set 2 = .ok (.sipush 1023, 3) := by decide +kernel
theorem dX8_set_5 : decode cX8_set 5 = .ok (.invokestatic 59, 3) := by decide +kernel
theorem dX8_set_8 : decode cX8_set 8 = .ok (.ifCond .ne 5, 3) := by decide +kernel
theorem dX8_set_11 : decode cX8_set 11 = .ok (.iconst 0, 1) := by decide +kernel
theorem dX8_set_12 : decode cX8_set 12 = .ok (.ireturn, 1) := by decide +kernel
theorem dX8_set_13 : decode cX8_set 13 = .ok (.aload_n 0, 1) := by decide +kernel
theorem dX8_set_14 : decode cX8_set 14 = .ok (.iload_n 1, 1) := by decide +kernel
theorem dX8_set_15 : decode cX8_set 15 = .ok (.putfield 19, 3) := by decide +kernel
theorem dX8_set_18 : decode cX8_set 18 = .ok (.iconst 1, 1) := by decide +kernel
theorem dX8_set_19 : decode cX8_set 19 = .ok (.ireturn, 1) := by decide +kernel
theorem dX8_limit_0 : decode cX8_limit 0 = .ok (.iload_n 1, 1) := by decide +kernel
theorem dX8_limit_1 : decode cX8_limit 1 = .ok (.iconst 0, 1) := by decide +kernel
theorem dX8_limit_2 : decode cX8_limit 2 = .ok (.sipush 200, 3) := by decide +kernel
theorem dX8_limit_5 : decode cX8_limit 5 = .ok (.invokestatic 59, 3) := by decide +kernel
theorem dX8_limit_8 : decode cX8_limit 8 = .ok (.ifCond .ne 5, 3) := by decide +kernel
theorem dX8_limit_11 : decode cX8_limit 11 = .ok (.iconst 0, 1) := by decide +kernel
theorem dX8_limit_12 : decode cX8_limit 12 = .ok (.ireturn, 1) := by decide +kernel
theorem dX8_limit_13 : decode cX8_limit 13 = .ok (.aload_n 0, 1) := by decide +kernel
theorem dX8_limit_14 : decode cX8_limit 14 = .ok (.iload_n 1, 1) := by decide +kernel
theorem dX8_limit_15 : decode cX8_limit 15 = .ok (.putfield 23, 3) := by decide +kernel
theorem dX8_limit_18 : decode cX8_limit 18 = .ok (.iconst 1, 1) := by decide +kernel
theorem dX8_limit_19 : decode cX8_limit 19 = .ok (.ireturn, 1) := by decide +kernel
theorem dX8_shiftPairs_0 : decode cX8_shiftPairs 0 = .ok (.iconst 0, 1) := by decide +kernel
theorem dX8_shiftPairs_1 : decode cX8_shiftPairs 1 = .ok (.istore_n 3, 1) := by decide +kernel
theorem dX8_shiftPairs_2 : decode cX8_shiftPairs 2 = .ok (.aload_n 0, 1) := by decide +kernel
theorem dX8_shiftPairs_3 : decode cX8_shiftPairs 3 = .ok (.iconst 0, 1) := by decide +kernel
theorem dX8_shiftPairs_4 : decode cX8_shiftPairs 4 = .ok (.putfield 67, 3) := by decide +kernel
theorem dX8_shiftPairs_7 : decode cX8_shiftPairs 7 = .ok (.iconst 0, 1) := by decide +kernel
theorem dX8_shiftPairs_8 : decode cX8_shiftPairs 8 = .ok (.istore 4, 2) := by decide +kernel
theorem dX8_shiftPairs_10 : decode cX8_shiftPairs 10 = .ok (.iload 4, 2) := by decide +kernel
theorem dX8_shiftPairs_12 : decode cX8_shiftPairs 12 = .ok (.aload_n 0, 1) := by decide +kernel
theorem dX8_shiftPairs_13 : decode cX8_shiftPairs 13 = .ok (.getfield 56, 3) := by decide +kernel
theorem dX8_shiftPairs_16 : decode cX8_shiftPairs 16 = .ok (.if_icmp .ge 143, 3) := by decide +kernel
theorem dX8_shiftPairs_19 : decode cX8_shiftPairs 19 = .ok (.iload_n 1, 1) := by decide +kernel
theorem dX8_shiftPairs_20 : decode cX8_shiftPairs 20 = .ok (.ifCond .le 139, 3) := by decide +kernel
theorem dX8_shiftPairs_23 : decode cX8_shiftPairs 23 = .ok (.aload_n 0, 1) := by decide +kernel
theorem dX8_shiftPairs_24 : decode cX8_shiftPairs 24 = .ok (.getfield 9, 3) := by decide +kernel
theorem dX8_shiftPairs_27 : decode cX8_shiftPairs 27 = .ok (.bipush 6, 2) := by decide +kernel
theorem dX8_shiftPairs_29 : decode cX8_shiftPairs 29 = .ok (.iload 4, 2) := by decide +kernel
theorem dX8_shiftPairs_31 : decode cX8_shiftPairs 31 = .ok (.imul, 1) := by decide +kernel
theorem dX8_shiftPairs_32 : decode cX8_shiftPairs 32 = .ok (.iload_n 2, 1) := by decide +kernel
theorem dX8_shiftPairs_33 : decode cX8_shiftPairs 33 = .ok (.iadd, 1) := by decide +kernel
theorem dX8_shiftPairs_34 : decode cX8_shiftPairs 34 = .ok (.iaload, 1) := by decide +kernel
theorem dX8_shiftPairs_35 : decode cX8_shiftPairs 35 = .ok (.istore 5, 2) := by decide +kernel
theorem dX8_shiftPairs_37 : decode cX8_shiftPairs 37 = .ok (.aload_n 0, 1) := by decide +kernel
theorem dX8_shiftPairs_38 : decode cX8_shiftPairs 38 = .ok (.getfield 13, 3) := by decide +kernel
theorem dX8_shiftPairs_41 : decode cX8_shiftPairs 41 = .ok (.iload 4, 2) := by decide +kernel
theorem dX8_shiftPairs_43 : decode cX8_shiftPairs 43 = .ok (.iaload, 1) := by decide +kernel
theorem dX8_shiftPairs_44 : decode cX8_shiftPairs 44 = .ok (.iload_n 1, 1) := by decide +kernel
theorem dX8_shiftPairs_45 : decode cX8_shiftPairs 45 = .ok (.if_icmp .ne 108, 3) := by decide +kernel
theorem dX8_shiftPairs_48 : decode cX8_shiftPairs 48 = .ok (.aload_n 0, 1) := by decide +kernel
theorem dX8_shiftPairs_49 : decode cX8_shiftPairs 49 = .ok (.getfield 16, 3) := by decide +kernel
theorem dX8_shiftPairs_52 : decode cX8_shiftPairs 52 = .ok (.iload 4, 2) := by decide +kernel
theorem dX8_shiftPairs_54 : decode cX8_shiftPairs 54 = .ok (.iaload, 1) := by decide +kernel
theorem dX8_shiftPairs_55 : decode cX8_shiftPairs 55 = .ok (.iconst (-1), 1) := by decide +kernel
theorem dX8_shiftPairs_56 : decode cX8_shiftPairs 56 = .ok (.if_icmp .eq 97, 3) := by decide +kernel
theorem dX8_shiftPairs_59 : decode cX8_shiftPairs 59 = .ok (.iload 5, 2) := by decide +kernel
theorem dX8_shiftPairs_61 : decode cX8_shiftPairs 61 = .ok (.iconst (-1), 1) := by decide +kernel
theorem dX8_shiftPairs_62 : decode cX8_shiftPairs 62 = .ok (.if_icmp .ne 6, 3) := by decide +kernel
theorem dX8_shiftPairs_65 : decode cX8_shiftPairs 65 = .ok (.goto 88, 3) := by decide +kernel
theorem dX8_shiftPairs_68 : decode cX8_shiftPairs 68 = .ok (.iconst 0, 1) := by decide +kernel
theorem dX8_shiftPairs_69 : decode cX8_shiftPairs 69 = .ok (.istore 6, 2) := by decide +kernel
theorem dX8_shiftPairs_71 : decode cX8_shiftPairs 71 = .ok (.iload 6, 2) := by decide +kernel
theorem dX8_shiftPairs_73 : decode cX8_shiftPairs 73 = .ok (.aload_n 0, 1) := by decide +kernel
theorem dX8_shiftPairs_74 : decode cX8_shiftPairs 74 = .ok (.getfield 56, 3) := by decide +kernel
theorem dX8_shiftPairs_77 : decode cX8_shiftPairs 77 = .ok (.if_icmp .ge 76, 3) := by decide +kernel
theorem dX8_shiftPairs_80 : decode cX8_shiftPairs 80 = .ok (.aload_n 0, 1) := by decide +kernel
theorem dX8_shiftPairs_81 : decode cX8_shiftPairs 81 = .ok (.getfield 9, 3) := by decide +kernel
theorem dX8_shiftPairs_84 : decode cX8_shiftPairs 84 = .ok (.bipush 6, 2) := by decide +kernel
theorem dX8_shiftPairs_86 : decode cX8_shiftPairs 86 = .ok (.iload 6, 2) := by decide +kernel
theorem dX8_shiftPairs_88 : decode cX8_shiftPairs 88 = .ok (.imul, 1) := by decide +kernel
theorem dX8_shiftPairs_89 : decode cX8_shiftPairs 89 = .ok (.iload_n 2, 1) := by decide +kernel
theorem dX8_shiftPairs_90 : decode cX8_shiftPairs 90 = .ok (.iadd, 1) := by decide +kernel
theorem dX8_shiftPairs_91 : decode cX8_shiftPairs 91 = .ok (.iaload, 1) := by decide +kernel
theorem dX8_shiftPairs_92 : decode cX8_shiftPairs 92 = .ok (.istore 7, 2) := by decide +kernel
theorem dX8_shiftPairs_94 : decode cX8_shiftPairs 94 = .ok (.aload_n 0, 1) := by decide +kernel
theorem dX8_shiftPairs_95 : decode cX8_shiftPairs 95 = .ok (.getfield 13, 3) := by decide +kernel
theorem dX8_shiftPairs_98 : decode cX8_shiftPairs 98 = .ok (.iload 6, 2) := by decide +kernel
theorem dX8_shiftPairs_100 : decode cX8_shiftPairs 100 = .ok (.iaload, 1) := by decide +kernel
theorem dX8_shiftPairs_101 : decode cX8_shiftPairs 101 = .ok (.ifCond .ne 46, 3) := by decide +kernel
theorem dX8_shiftPairs_104 : decode cX8_shiftPairs 104 = .ok (.aload_n 0, 1) := by decide +kernel
theorem dX8_shiftPairs_105 : decode cX8_shiftPairs 105 = .ok (.getfield 16, 3) := by decide +kernel
theorem dX8_shiftPairs_108 : decode cX8_shiftPairs 108 = .ok (.iload 6, 2) := by decide +kernel
theorem dX8_shiftPairs_110 : decode cX8_shiftPairs 110 = .ok (.iaload, 1) := by decide +kernel
theorem dX8_shiftPairs_111 : decode cX8_shiftPairs 111 = .ok (.aload_n 0, 1) := by decide +kernel
theorem dX8_shiftPairs_112 : decode cX8_shiftPairs 112 = .ok (.getfield 16, 3) := by decide +kernel
theorem dX8_shiftPairs_115 : decode cX8_shiftPairs 115 = .ok (.iload 4, 2) := by decide +kernel
theorem dX8_shiftPairs_117 : decode cX8_shiftPairs 117 = .ok (.iaload, 1) := by decide +kernel
theorem dX8_shiftPairs_118 : decode cX8_shiftPairs 118 = .ok (.if_icmp .ne 29, 3) := by decide +kernel
theorem dX8_shiftPairs_121 : decode cX8_shiftPairs 121 = .ok (.iload 7, 2) := by decide +kernel
theorem dX8_shiftPairs_123 : decode cX8_shiftPairs 123 = .ok (.iconst (-1), 1) := by decide +kernel
theorem dX8_shiftPairs_124 : decode cX8_shiftPairs 124 = .ok (.if_icmp .ne 6, 3) := by decide +kernel
theorem dX8_shiftPairs_127 : decode cX8_shiftPairs 127 = .ok (.goto 20, 3) := by decide +kernel
theorem dX8_shiftPairs_130 : decode cX8_shiftPairs 130 = .ok (.iinc 3 1, 3) := by decide +kernel
theorem dX8_shiftPairs_133 : decode cX8_shiftPairs 133 = .ok (.aload_n 0, 1) := by decide +kernel
theorem dX8_shiftPairs_134 : decode cX8_shiftPairs 134 = .ok (.dup, 1) := by decide +kernel
theorem dX8_shiftPairs_135 : decode cX8_shiftPairs 135 = .ok (.getfield 67, 3) := by decide +kernel
theorem dX8_shiftPairs_138 : decode cX8_shiftPairs 138 = .ok (.iload 5, 2) := by decide +kernel
theorem dX8_shiftPairs_140 : decode cX8_shiftPairs 140 = .ok (.iload 7, 2) := by decide +kernel
theorem dX8_shiftPairs_142 : decode cX8_shiftPairs 142 = .ok (.isub, 1) := by decide +kernel
theorem dX8_shiftPairs_143 : decode cX8_shiftPairs 143 = .ok (.iadd, 1) := by decide +kernel
theorem dX8_shiftPairs_144 : decode cX8_shiftPairs 144 = .ok (.putfield 67, 3) := by decide +kernel
theorem dX8_shiftPairs_147 : decode cX8_shiftPairs 147 = .ok (.iinc 6 1, 3) := by decide +kernel
theorem dX8_shiftPairs_150 : decode cX8_shiftPairs 150 = .ok (.goto (-79), 3) := by decide +kernel
theorem dX8_shiftPairs_153 : decode cX8_shiftPairs 153 = .ok (.iinc 4 1, 3) := by decide +kernel
theorem dX8_shiftPairs_156 : decode cX8_shiftPairs 156 = .ok (.goto (-146), 3) := by decide +kernel
theorem dX8_shiftPairs_159 : decode cX8_shiftPairs 159 = .ok (.iload_n 3, 1) := by decide +kernel
theorem dX8_shiftPairs_160 : decode cX8_shiftPairs 160 = .ok (.ireturn, 1) := by decide +kernel
theorem dX8_shiftOf_0 : decode cX8_shiftOf 0 = .ok (.aload_n 0, 1) := by decide +kernel
theorem dX8_shiftOf_1 : decode cX8_shiftOf 1 = .ok (.iload_n 1, 1) := by decide +kernel
theorem dX8_shiftOf_2 : decode cX8_shiftOf 2 = .ok (.iload_n 2, 1) := by decide +kernel
theorem dX8_shiftOf_3 : decode cX8_shiftOf 3 = .ok (.invokevirtual 70, 3) := by decide +kernel
theorem dX8_shiftOf_6 : decode cX8_shiftOf 6 = .ok (.istore_n 3, 1) := by decide +kernel
theorem dX8_shiftOf_7 : decode cX8_shiftOf 7 = .ok (.iload_n 3, 1) := by decide +kernel
theorem dX8_shiftOf_8 : decode cX8_shiftOf 8 = .ok (.ifCond .ne 5, 3) := by decide +kernel
theorem dX8_shiftOf_11 : decode cX8_shiftOf 11 = .ok (.iconst 0, 1) := by decide +kernel
theorem dX8_shiftOf_12 : decode cX8_shiftOf 12 = .ok (.ireturn, 1) := by decide +kernel
theorem dX8_shiftOf_13 : decode cX8_shiftOf 13 = .ok (.aload_n 0, 1) := by decide +kernel
theorem dX8_shiftOf_14 : decode cX8_shiftOf 14 = .ok (.getfield 67, 3) := by decide +kernel
theorem dX8_shiftOf_17 : decode cX8_shiftOf 17 = .ok (.ifCond .lt 12, 3) := by decide +kernel
theorem dX8_shiftOf_20 : decode cX8_shiftOf 20 = .ok (.aload_n 0, 1) := by decide +kernel
theorem dX8_shiftOf_21 : decode cX8_shiftOf 21 = .ok (.getfield 67, 3) := by decide +kernel
theorem dX8_shiftOf_24 : decode cX8_shiftOf 24 = .ok (.iload_n 3, 1) := by decide +kernel
theorem dX8_shiftOf_25 : decode cX8_shiftOf 25 = .ok (.idiv, 1) := by decide +kernel
theorem dX8_shiftOf_26 : decode cX8_shiftOf 26 = .ok (.goto 14, 3) := by decide +kernel
theorem dX8_shiftOf_29 : decode cX8_shiftOf 29 = .ok (.iload_n 3, 1) := by decide +kernel
theorem dX8_shiftOf_30 : decode cX8_shiftOf 30 = .ok (.iconst 1, 1) := by decide +kernel
theorem dX8_shiftOf_31 : decode cX8_shiftOf 31 = .ok (.isub, 1) := by decide +kernel
theorem dX8_shiftOf_32 : decode cX8_shiftOf 32 = .ok (.aload_n 0, 1) := by decide +kernel
theorem dX8_shiftOf_33 : decode cX8_shiftOf 33 = .ok (.getfield 67, 3) := by decide +kernel
theorem dX8_shiftOf_36 : decode cX8_shiftOf 36 = .ok (.isub, 1) := by decide +kernel
theorem dX8_shiftOf_37 : decode cX8_shiftOf 37 = .ok (.iload_n 3, 1) := by decide +kernel
theorem dX8_shiftOf_38 : decode cX8_shiftOf 38 = .ok (.idiv, 1) := by decide +kernel
theorem dX8_shiftOf_39 : decode cX8_shiftOf 39 = .ok (.ineg, 1) := by decide +kernel
theorem dX8_shiftOf_40 : decode cX8_shiftOf 40 = .ok (.ireturn, 1) := by decide +kernel
theorem dX8_shift_0 : decode cX8_shift 0 = .ok (.iload_n 1, 1) := by decide +kernel
theorem dX8_shift_1 : decode cX8_shift 1 = .ok (.iconst 0, 1) := by decide +kernel
theorem dX8_shift_2 : decode cX8_shift 2 = .ok (.iconst 3, 1) := by decide +kernel
theorem dX8_shift_3 : decode cX8_shift 3 = .ok (.invokestatic 59, 3) := by decide +kernel
theorem dX8_shift_6 : decode cX8_shift 6 = .ok (.ifCond .eq 21, 3) := by decide +kernel
theorem dX8_shift_9 : decode cX8_shift 9 = .ok (.iload_n 2, 1) := by decide +kernel
theorem dX8_shift_10 : decode cX8_shift 10 = .ok (.iconst 0, 1) := by decide +kernel
theorem dX8_shift_11 : decode cX8_shift 11 = .ok (.iconst 5, 1) := by decide +kernel
theorem dX8_shift_12 : decode cX8_shift 12 = .ok (.invokestatic 59, 3) := by decide +kernel
theorem dX8_shift_15 : decode cX8_shift 15 = .ok (.ifCond .eq 12, 3) := by decide +kernel
theorem dX8_shift_18 : decode cX8_shift 18 = .ok (.aload_n 0, 1) := by decide +kernel
theorem dX8_shift_19 : decode cX8_shift 19 = .ok (.iload_n 1, 1) := by decide +kernel
theorem dX8_shift_20 : decode cX8_shift 20 = .ok (.iload_n 2, 1) := by decide +kernel
theorem dX8_shift_21 : decode cX8_shift 21 = .ok (.invokevirtual 74, 3) := by decide +kernel
theorem dX8_shift_24 : decode cX8_shift 24 = .ok (.goto 5, 3) := by decide +kernel
theorem dX8_shift_27 : decode cX8_shift 27 = .ok (.ldc 77, 2) := by decide +kernel
theorem dX8_shift_29 : decode cX8_shift 29 = .ok (.ireturn, 1) := by decide +kernel
theorem dX8_hidden_0 : decode cX8_hidden 0 = .ok (.iload_n 1, 1) := by decide +kernel
theorem dX8_hidden_1 : decode cX8_hidden 1 = .ok (.iconst 1, 1) := by decide +kernel
theorem dX8_hidden_2 : decode cX8_hidden 2 = .ok (.iconst 3, 1) := by decide +kernel
theorem dX8_hidden_3 : decode cX8_hidden 3 = .ok (.invokestatic 59, 3) := by decide +kernel
theorem dX8_hidden_6 : decode cX8_hidden 6 = .ok (.ifCond .eq 25, 3) := by decide +kernel
theorem dX8_hidden_9 : decode cX8_hidden 9 = .ok (.iload_n 2, 1) := by decide +kernel
theorem dX8_hidden_10 : decode cX8_hidden 10 = .ok (.iconst 0, 1) := by decide +kernel
theorem dX8_hidden_11 : decode cX8_hidden 11 = .ok (.iconst 5, 1) := by decide +kernel
theorem dX8_hidden_12 : decode cX8_hidden 12 = .ok (.invokestatic 59, 3) := by decide +kernel
theorem dX8_hidden_15 : decode cX8_hidden 15 = .ok (.ifCond .eq 16, 3) := by decide +kernel
theorem dX8_hidden_18 : decode cX8_hidden 18 = .ok (.aload_n 0, 1) := by decide +kernel
theorem dX8_hidden_19 : decode cX8_hidden 19 = .ok (.iload_n 1, 1) := by decide +kernel
theorem dX8_hidden_20 : decode cX8_hidden 20 = .ok (.iload_n 2, 1) := by decide +kernel
theorem dX8_hidden_21 : decode cX8_hidden 21 = .ok (.invokevirtual 70, 3) := by decide +kernel
theorem dX8_hidden_24 : decode cX8_hidden 24 = .ok (.ifCond .ne 7, 3) := by decide +kernel
theorem dX8_hidden_27 : decode cX8_hidden 27 = .ok (.iconst 1, 1) := by decide +kernel
theorem dX8_hidden_28 : decode cX8_hidden 28 = .ok (.goto 4, 3) := by decide +kernel
theorem dX8_hidden_31 : decode cX8_hidden 31 = .ok (.iconst 0, 1) := by decide +kernel
theorem dX8_hidden_32 : decode cX8_hidden 32 = .ok (.ireturn, 1) := by decide +kernel
theorem dX8_reckons_0 : decode cX8_reckons 0 = .ok (.iconst 0, 1) := by decide +kernel
theorem dX8_reckons_1 : decode cX8_reckons 1 = .ok (.istore_n 1, 1) := by decide +kernel
theorem dX8_reckons_2 : decode cX8_reckons 2 = .ok (.iload_n 1, 1) := by decide +kernel
theorem dX8_reckons_3 : decode cX8_reckons 3 = .ok (.iconst 4, 1) := by decide +kernel
theorem dX8_reckons_4 : decode cX8_reckons 4 = .ok (.if_icmp .ge 40, 3) := by decide +kernel
theorem dX8_reckons_7 : decode cX8_reckons 7 = .ok (.iconst 0, 1) := by decide +kernel
theorem dX8_reckons_8 : decode cX8_reckons 8 = .ok (.istore_n 2, 1) := by decide +kernel
theorem dX8_reckons_9 : decode cX8_reckons 9 = .ok (.iload_n 2, 1) := by decide +kernel
theorem dX8_reckons_10 : decode cX8_reckons 10 = .ok (.bipush 6, 2) := by decide +kernel
theorem dX8_reckons_12 : decode cX8_reckons 12 = .ok (.if_icmp .ge 26, 3) := by decide +kernel
theorem dX8_reckons_15 : decode cX8_reckons 15 = .ok (.aload_n 0, 1) := by decide +kernel
theorem dX8_reckons_16 : decode cX8_reckons 16 = .ok (.getfield 32, 3) := by decide +kernel
theorem dX8_reckons_19 : decode cX8_reckons 19 = .ok (.bipush 6, 2) := by decide +kernel
theorem dX8_reckons_21 : decode cX8_reckons 21 = .ok (.iload_n 1, 1) := by decide +kernel
theorem dX8_reckons_22 : decode cX8_reckons 22 = .ok (.imul, 1) := by decide +kernel
theorem dX8_reckons_23 : decode cX8_reckons 23 = .ok (.iload_n 2, 1) := by decide +kernel
theorem dX8_reckons_24 : decode cX8_reckons 24 = .ok (.iadd, 1) := by decide +kernel
theorem dX8_reckons_25 : decode cX8_reckons 25 = .ok (.aload_n 0, 1) := by decide +kernel
theorem dX8_reckons_26 : decode cX8_reckons 26 = .ok (.iload_n 1, 1) := by decide +kernel
theorem dX8_reckons_27 : decode cX8_reckons 27 = .ok (.iload_n 2, 1) := by decide +kernel
theorem dX8_reckons_28 : decode cX8_reckons 28 = .ok (.invokevirtual 74, 3) := by decide +kernel
theorem dX8_reckons_31 : decode cX8_reckons 31 = .ok (.iastore, 1) := by decide +kernel
theorem dX8_reckons_32 : decode cX8_reckons 32 = .ok (.iinc 2 1, 3) := by decide +kernel
theorem dX8_reckons_35 : decode cX8_reckons 35 = .ok (.goto (-26), 3) := by decide +kernel
theorem dX8_reckons_38 : decode cX8_reckons 38 = .ok (.iinc 1 1, 3) := by decide +kernel
theorem dX8_reckons_41 : decode cX8_reckons 41 = .ok (.goto (-39), 3) := by decide +kernel
theorem dX8_reckons_44 : decode cX8_reckons 44 = .ok (.return_, 1) := by decide +kernel
theorem dX8_scoreOf_0 : decode cX8_scoreOf 0 = .ok (.iconst 0, 1) := by decide +kernel
theorem dX8_scoreOf_1 : decode cX8_scoreOf 1 = .ok (.istore_n 3, 1) := by decide +kernel
theorem dX8_scoreOf_2 : decode cX8_scoreOf 2 = .ok (.iconst 0, 1) := by decide +kernel
theorem dX8_scoreOf_3 : decode cX8_scoreOf 3 = .ok (.istore 4, 2) := by decide +kernel
theorem dX8_scoreOf_5 : decode cX8_scoreOf 5 = .ok (.iconst 0, 1) := by decide +kernel
theorem dX8_scoreOf_6 : decode cX8_scoreOf 6 = .ok (.istore 5, 2) := by decide +kernel
theorem dX8_scoreOf_8 : decode cX8_scoreOf 8 = .ok (.iload 5, 2) := by decide +kernel
theorem dX8_scoreOf_10 : decode cX8_scoreOf 10 = .ok (.bipush 6, 2) := by decide +kernel
theorem dX8_scoreOf_12 : decode cX8_scoreOf 12 = .ok (.if_icmp .ge 116, 3) := by decide +kernel
theorem dX8_scoreOf_15 : decode cX8_scoreOf 15 = .ok (.aload_n 0, 1) := by decide +kernel
theorem dX8_scoreOf_16 : decode cX8_scoreOf 16 = .ok (.getfield 9, 3) := by decide +kernel
theorem dX8_scoreOf_19 : decode cX8_scoreOf 19 = .ok (.bipush 6, 2) := by decide +kernel
theorem dX8_scoreOf_21 : decode cX8_scoreOf 21 = .ok (.iload_n 1, 1) := by decide +kernel
theorem dX8_scoreOf_22 : decode cX8_scoreOf 22 = .ok (.imul, 1) := by decide +kernel
theorem dX8_scoreOf_23 : decode cX8_scoreOf 23 = .ok (.iload 5, 2) := by decide +kernel
theorem dX8_scoreOf_25 : decode cX8_scoreOf 25 = .ok (.iadd, 1) := by decide +kernel
theorem dX8_scoreOf_26 : decode cX8_scoreOf 26 = .ok (.iaload, 1) := by decide +kernel
theorem dX8_scoreOf_27 : decode cX8_scoreOf 27 = .ok (.istore 6, 2) := by decide +kernel
theorem dX8_scoreOf_29 : decode cX8_scoreOf 29 = .ok (.aload_n 0, 1) := by decide +kernel
theorem dX8_scoreOf_30 : decode cX8_scoreOf 30 = .ok (.getfield 9, 3) := by decide +kernel
theorem dX8_scoreOf_33 : decode cX8_scoreOf 33 = .ok (.bipush 6, 2) := by decide +kernel
theorem dX8_scoreOf_35 : decode cX8_scoreOf 35 = .ok (.iload_n 2, 1) := by decide +kernel
theorem dX8_scoreOf_36 : decode cX8_scoreOf 36 = .ok (.imul, 1) := by decide +kernel
theorem dX8_scoreOf_37 : decode cX8_scoreOf 37 = .ok (.iload 5, 2) := by decide +kernel
theorem dX8_scoreOf_39 : decode cX8_scoreOf 39 = .ok (.iadd, 1) := by decide +kernel
theorem dX8_scoreOf_40 : decode cX8_scoreOf 40 = .ok (.iaload, 1) := by decide +kernel
theorem dX8_scoreOf_41 : decode cX8_scoreOf 41 = .ok (.istore 7, 2) := by decide +kernel
theorem dX8_scoreOf_43 : decode cX8_scoreOf 43 = .ok (.iload 6, 2) := by decide +kernel
theorem dX8_scoreOf_45 : decode cX8_scoreOf 45 = .ok (.iconst (-1), 1) := by decide +kernel
theorem dX8_scoreOf_46 : decode cX8_scoreOf 46 = .ok (.if_icmp .eq 76, 3) := by decide +kernel
theorem dX8_scoreOf_49 : decode cX8_scoreOf 49 = .ok (.iload 7, 2) := by decide +kernel
theorem dX8_scoreOf_51 : decode cX8_scoreOf 51 = .ok (.iconst (-1), 1) := by decide +kernel
theorem dX8_scoreOf_52 : decode cX8_scoreOf 52 = .ok (.if_icmp .ne 6, 3) := by decide +kernel
theorem dX8_scoreOf_55 : decode cX8_scoreOf 55 = .ok (.goto 67, 3) := by decide +kernel
theorem dX8_scoreOf_58 : decode cX8_scoreOf 58 = .ok (.iload 6, 2) := by decide +kernel
theorem dX8_scoreOf_60 : decode cX8_scoreOf 60 = .ok (.aload_n 0, 1) := by decide +kernel
theorem dX8_scoreOf_61 : decode cX8_scoreOf 61 = .ok (.getfield 32, 3) := by decide +kernel
theorem dX8_scoreOf_64 : decode cX8_scoreOf 64 = .ok (.bipush 6, 2) := by decide +kernel
theorem dX8_scoreOf_66 : decode cX8_scoreOf 66 = .ok (.aload_n 0, 1) := by decide +kernel
theorem dX8_scoreOf_67 : decode cX8_scoreOf 67 = .ok (.getfield 13, 3) := by decide +kernel
theorem dX8_scoreOf_70 : decode cX8_scoreOf 70 = .ok (.iload_n 1, 1) := by decide +kernel
theorem dX8_scoreOf_71 : decode cX8_scoreOf 71 = .ok (.iaload, 1) := by decide +kernel
theorem dX8_scoreOf_72 : decode cX8_scoreOf 72 = .ok (.imul, 1) := by decide +kernel
theorem dX8_scoreOf_73 : decode cX8_scoreOf 73 = .ok (.iload 5, 2) := by decide +kernel
theorem dX8_scoreOf_75 : decode cX8_scoreOf 75 = .ok (.iadd, 1) := by decide +kernel
theorem dX8_scoreOf_76 : decode cX8_scoreOf 76 = .ok (.iaload, 1) := by decide +kernel
theorem dX8_scoreOf_77 : decode cX8_scoreOf 77 = .ok (.isub, 1) := by decide +kernel
theorem dX8_scoreOf_78 : decode cX8_scoreOf 78 = .ok (.iload 7, 2) := by decide +kernel
theorem dX8_scoreOf_80 : decode cX8_scoreOf 80 = .ok (.isub, 1) := by decide +kernel
theorem dX8_scoreOf_81 : decode cX8_scoreOf 81 = .ok (.aload_n 0, 1) := by decide +kernel
theorem dX8_scoreOf_82 : decode cX8_scoreOf 82 = .ok (.getfield 32, 3) := by decide +kernel
theorem dX8_scoreOf_85 : decode cX8_scoreOf 85 = .ok (.bipush 6, 2) := by decide +kernel
theorem dX8_scoreOf_87 : decode cX8_scoreOf 87 = .ok (.aload_n 0, 1) := by decide +kernel
theorem dX8_scoreOf_88 : decode cX8_scoreOf 88 = .ok (.getfield 13, 3) := by decide +kernel
theorem dX8_scoreOf_91 : decode cX8_scoreOf 91 = .ok (.iload_n 2, 1) := by decide +kernel
theorem dX8_scoreOf_92 : decode cX8_scoreOf 92 = .ok (.iaload, 1) := by decide +kernel
theorem dX8_scoreOf_93 : decode cX8_scoreOf 93 = .ok (.imul, 1) := by decide +kernel
theorem dX8_scoreOf_94 : decode cX8_scoreOf 94 = .ok (.iload 5, 2) := by decide +kernel
theorem dX8_scoreOf_96 : decode cX8_scoreOf 96 = .ok (.iadd, 1) := by decide +kernel
theorem dX8_scoreOf_97 : decode cX8_scoreOf 97 = .ok (.iaload, 1) := by decide +kernel
theorem dX8_scoreOf_98 : decode cX8_scoreOf 98 = .ok (.iadd, 1) := by decide +kernel
theorem dX8_scoreOf_99 : decode cX8_scoreOf 99 = .ok (.istore 8, 2) := by decide +kernel
theorem dX8_scoreOf_101 : decode cX8_scoreOf 101 = .ok (.iinc 3 1, 3) := by decide +kernel
theorem dX8_scoreOf_104 : decode cX8_scoreOf 104 = .ok (.iload 4, 2) := by decide +kernel
theorem dX8_scoreOf_106 : decode cX8_scoreOf 106 = .ok (.iload 8, 2) := by decide +kernel
theorem dX8_scoreOf_108 : decode cX8_scoreOf 108 = .ok (.ifCond .ge 9, 3) := by decide +kernel
theorem dX8_scoreOf_111 : decode cX8_scoreOf 111 = .ok (.iload 8, 2) := by decide +kernel
theorem dX8_scoreOf_113 : decode cX8_scoreOf 113 = .ok (.ineg, 1) := by decide +kernel
theorem dX8_scoreOf_114 : decode cX8_scoreOf 114 = .ok (.goto 5, 3) := by decide +kernel
theorem dX8_scoreOf_117 : decode cX8_scoreOf 117 = .ok (.iload 8, 2) := by decide +kernel
theorem dX8_scoreOf_119 : decode cX8_scoreOf 119 = .ok (.iadd, 1) := by decide +kernel
theorem dX8_scoreOf_120 : decode cX8_scoreOf 120 = .ok (.istore 4, 2) := by decide +kernel
theorem dX8_scoreOf_122 : decode cX8_scoreOf 122 = .ok (.iinc 5 1, 3) := by decide +kernel
theorem dX8_scoreOf_125 : decode cX8_scoreOf 125 = .ok (.goto (-117), 3) := by decide +kernel
theorem dX8_scoreOf_128 : decode cX8_scoreOf 128 = .ok (.iload_n 3, 1) := by decide +kernel
theorem dX8_scoreOf_129 : decode cX8_scoreOf 129 = .ok (.iconst 3, 1) := by decide +kernel
theorem dX8_scoreOf_130 : decode cX8_scoreOf 130 = .ok (.if_icmp .ge 7, 3) := by decide +kernel
theorem dX8_scoreOf_133 : decode cX8_scoreOf 133 = .ok (.iconst (-1), 1) := by decide +kernel
theorem dX8_scoreOf_134 : decode cX8_scoreOf 134 = .ok (.goto 10, 3) := by decide +kernel
theorem dX8_scoreOf_137 : decode cX8_scoreOf 137 = .ok (.bipush 6, 2) := by decide +kernel
theorem dX8_scoreOf_139 : decode cX8_scoreOf 139 = .ok (.iload 4, 2) := by decide +kernel
theorem dX8_scoreOf_141 : decode cX8_scoreOf 141 = .ok (.imul, 1) := by decide +kernel
theorem dX8_scoreOf_142 : decode cX8_scoreOf 142 = .ok (.iload_n 3, 1) := by decide +kernel
theorem dX8_scoreOf_143 : decode cX8_scoreOf 143 = .ok (.idiv, 1) := by decide +kernel
theorem dX8_scoreOf_144 : decode cX8_scoreOf 144 = .ok (.ireturn, 1) := by decide +kernel
theorem dX8_score_0 : decode cX8_score 0 = .ok (.aload_n 0, 1) := by decide +kernel
theorem dX8_score_1 : decode cX8_score 1 = .ok (.iload_n 1, 1) := by decide +kernel
theorem dX8_score_2 : decode cX8_score 2 = .ok (.invokevirtual 63, 3) := by decide +kernel
theorem dX8_score_5 : decode cX8_score 5 = .ok (.ifCond .eq 16, 3) := by decide +kernel
theorem dX8_score_8 : decode cX8_score 8 = .ok (.aload_n 0, 1) := by decide +kernel
theorem dX8_score_9 : decode cX8_score 9 = .ok (.iload_n 2, 1) := by decide +kernel
theorem dX8_score_10 : decode cX8_score 10 = .ok (.invokevirtual 63, 3) := by decide +kernel
theorem dX8_score_13 : decode cX8_score 13 = .ok (.ifCond .eq 8, 3) := by decide +kernel
theorem dX8_score_16 : decode cX8_score 16 = .ok (.iload_n 1, 1) := by decide +kernel
theorem dX8_score_17 : decode cX8_score 17 = .ok (.iload_n 2, 1) := by decide +kernel
theorem dX8_score_18 : decode cX8_score 18 = .ok (.if_icmp .ne 5, 3) := by decide +kernel
theorem dX8_score_21 : decode cX8_score 21 = .ok (.iconst (-1), 1) := by decide +kernel
theorem dX8_score_22 : decode cX8_score 22 = .ok (.ireturn, 1) := by decide +kernel
theorem dX8_score_23 : decode cX8_score 23 = .ok (.aload_n 0, 1) := by decide +kernel
theorem dX8_score_24 : decode cX8_score 24 = .ok (.invokevirtual 78, 3) := by decide +kernel
theorem dX8_score_27 : decode cX8_score 27 = .ok (.aload_n 0, 1) := by decide +kernel
theorem dX8_score_28 : decode cX8_score 28 = .ok (.iload_n 1, 1) := by decide +kernel
theorem dX8_score_29 : decode cX8_score 29 = .ok (.iload_n 2, 1) := by decide +kernel
theorem dX8_score_30 : decode cX8_score 30 = .ok (.invokevirtual 81, 3) := by decide +kernel
theorem dX8_score_33 : decode cX8_score 33 = .ok (.ireturn, 1) := by decide +kernel
theorem dX8_isOf_0 : decode cX8_isOf 0 = .ok (.aload_n 0, 1) := by decide +kernel
theorem dX8_isOf_1 : decode cX8_isOf 1 = .ok (.getfield 16, 3) := by decide +kernel
theorem dX8_isOf_4 : decode cX8_isOf 4 = .ok (.iload_n 1, 1) := by decide +kernel
theorem dX8_isOf_5 : decode cX8_isOf 5 = .ok (.iaload, 1) := by decide +kernel
theorem dX8_isOf_6 : decode cX8_isOf 6 = .ok (.iconst (-1), 1) := by decide +kernel
theorem dX8_isOf_7 : decode cX8_isOf 7 = .ok (.if_icmp .eq 24, 3) := by decide +kernel
theorem dX8_isOf_10 : decode cX8_isOf 10 = .ok (.aload_n 0, 1) := by decide +kernel
theorem dX8_isOf_11 : decode cX8_isOf 11 = .ok (.getfield 19, 3) := by decide +kernel
theorem dX8_isOf_14 : decode cX8_isOf 14 = .ok (.aload_n 0, 1) := by decide +kernel
theorem dX8_isOf_15 : decode cX8_isOf 15 = .ok (.getfield 16, 3) := by decide +kernel
theorem dX8_isOf_18 : decode cX8_isOf 18 = .ok (.iload_n 1, 1) := by decide +kernel
theorem dX8_isOf_19 : decode cX8_isOf 19 = .ok (.iaload, 1) := by decide +kernel
theorem dX8_isOf_20 : decode cX8_isOf 20 = .ok (.ishr, 1) := by decide +kernel
theorem dX8_isOf_21 : decode cX8_isOf 21 = .ok (.iconst 1, 1) := by decide +kernel
theorem dX8_isOf_22 : decode cX8_isOf 22 = .ok (.iand, 1) := by decide +kernel
theorem dX8_isOf_23 : decode cX8_isOf 23 = .ok (.iconst 1, 1) := by decide +kernel
theorem dX8_isOf_24 : decode cX8_isOf 24 = .ok (.if_icmp .ne 7, 3) := by decide +kernel
theorem dX8_isOf_27 : decode cX8_isOf 27 = .ok (.iconst 1, 1) := by decide +kernel
theorem dX8_isOf_28 : decode cX8_isOf 28 = .ok (.goto 4, 3) := by decide +kernel
theorem dX8_isOf_31 : decode cX8_isOf 31 = .ok (.iconst 0, 1) := by decide +kernel
theorem dX8_isOf_32 : decode cX8_isOf 32 = .ok (.ireturn, 1) := by decide +kernel
theorem dX8_bandOf_0 : decode cX8_bandOf 0 = .ok (.iload_n 0, 1) := by decide +kernel
theorem dX8_bandOf_1 : decode cX8_bandOf 1 = .ok (.bipush 10, 2) := by decide +kernel
theorem dX8_bandOf_3 : decode cX8_bandOf 3 = .ok (.idiv, 1) := by decide +kernel
theorem dX8_bandOf_4 : decode cX8_bandOf 4 = .ok (.bipush 9, 2) := by decide +kernel
theorem dX8_bandOf_6 : decode cX8_bandOf 6 = .ok (.if_icmp .le 8, 3) := by decide +kernel
theorem dX8_bandOf_9 : decode cX8_bandOf 9 = .ok (.bipush 9, 2) := by decide +kernel
theorem dX8_bandOf_11 : decode cX8_bandOf 11 = .ok (.goto 7, 3) := by decide +kernel
theorem dX8_bandOf_14 : decode cX8_bandOf 14 = .ok (.iload_n 0, 1) := by decide +kernel
theorem dX8_bandOf_15 : decode cX8_bandOf 15 = .ok (.bipush 10, 2) := by decide +kernel
theorem dX8_bandOf_17 : decode cX8_bandOf 17 = .ok (.idiv, 1) := by decide +kernel
theorem dX8_bandOf_18 : decode cX8_bandOf 18 = .ok (.ireturn, 1) := by decide +kernel
theorem dX8_counts_0 : decode cX8_counts 0 = .ok (.aload_n 0, 1) := by decide +kernel
theorem dX8_counts_1 : decode cX8_counts 1 = .ok (.invokevirtual 78, 3) := by decide +kernel
theorem dX8_counts_4 : decode cX8_counts 4 = .ok (.iconst 0, 1) := by decide +kernel
theorem dX8_counts_5 : decode cX8_counts 5 = .ok (.istore_n 1, 1) := by decide +kernel
theorem dX8_counts_6 : decode cX8_counts 6 = .ok (.iload_n 1, 1) := by decide +kernel
theorem dX8_counts_7 : decode cX8_counts 7 = .ok (.bipush 10, 2) := by decide +kernel
theorem dX8_counts_9 : decode cX8_counts 9 = .ok (.if_icmp .ge 23, 3) := by decide +kernel
theorem dX8_counts_12 : decode cX8_counts 12 = .ok (.aload_n 0, 1) := by decide +kernel
theorem dX8_counts_13 : decode cX8_counts 13 = .ok (.getfield 35, 3) := by decide +kernel
theorem dX8_counts_16 : decode cX8_counts 16 = .ok (.iload_n 1, 1) := by decide +kernel
theorem dX8_counts_17 : decode cX8_counts 17 = .ok (.iconst 0, 1) := by decide +kernel
theorem dX8_counts_18 : decode cX8_counts 18 = .ok (.iastore, 1) := by decide +kernel
theorem dX8_counts_19 : decode cX8_counts 19 = .ok (.aload_n 0, 1) := by decide +kernel
theorem dX8_counts_20 : decode cX8_counts 20 = .ok (.getfield 38, 3) := by decide +kernel
theorem dX8_counts_23 : decode cX8_counts 23 = .ok (.iload_n 1, 1) := by decide +kernel
theorem dX8_counts_24 : decode cX8_counts 24 = .ok (.iconst 0, 1) := by decide +kernel
theorem dX8_counts_25 : decode cX8_counts 25 = .ok (.iastore, 1) := by decide +kernel
theorem dX8_counts_26 : decode cX8_counts 26 = .ok (.iinc 1 1, 3) := by decide +kernel
theorem dX8_counts_29 : decode cX8_counts 29 = .ok (.goto (-23), 3) := by decide +kernel
theorem dX8_counts_32 : decode cX8_counts 32 = .ok (.iconst 0, 1) := by decide +kernel
theorem dX8_counts_33 : decode cX8_counts 33 = .ok (.istore_n 1, 1) := by decide +kernel
theorem dX8_counts_34 : decode cX8_counts 34 = .ok (.iload_n 1, 1) := by decide +kernel
theorem dX8_counts_35 : decode cX8_counts 35 = .ok (.aload_n 0, 1) := by decide +kernel
theorem dX8_counts_36 : decode cX8_counts 36 = .ok (.getfield 56, 3) := by decide +kernel
theorem dX8_counts_39 : decode cX8_counts 39 = .ok (.if_icmp .ge 101, 3) := by decide +kernel
theorem dX8_counts_42 : decode cX8_counts 42 = .ok (.iconst 0, 1) := by decide +kernel
theorem dX8_counts_43 : decode cX8_counts 43 = .ok (.istore_n 2, 1) := by decide +kernel
theorem dX8_counts_44 : decode cX8_counts 44 = .ok (.iload_n 2, 1) := by decide +kernel
theorem dX8_counts_45 : decode cX8_counts 45 = .ok (.iload_n 1, 1) := by decide +kernel
theorem dX8_counts_46 : decode cX8_counts 46 = .ok (.if_icmp .ge 88, 3) := by decide +kernel
theorem dX8_counts_49 : decode cX8_counts 49 = .ok (.aload_n 0, 1) := by decide +kernel
theorem dX8_counts_50 : decode cX8_counts 50 = .ok (.iload_n 1, 1) := by decide +kernel
theorem dX8_counts_51 : decode cX8_counts 51 = .ok (.invokevirtual 84, 3) := by decide +kernel
theorem dX8_counts_54 : decode cX8_counts 54 = .ok (.ifCond .eq 20, 3) := by decide +kernel
theorem dX8_counts_57 : decode cX8_counts 57 = .ok (.aload_n 0, 1) := by decide +kernel
theorem dX8_counts_58 : decode cX8_counts 58 = .ok (.iload_n 2, 1) := by decide +kernel
theorem dX8_counts_59 : decode cX8_counts 59 = .ok (.invokevirtual 84, 3) := by decide +kernel
theorem dX8_counts_62 : decode cX8_counts 62 = .ok (.ifCond .eq 12, 3) := by decide +kernel
theorem dX8_counts_65 : decode cX8_counts 65 = .ok (.aload_n 0, 1) := by decide +kernel
theorem dX8_counts_66 : decode cX8_counts 66 = .ok (.iload_n 1, 1) := by decide +kernel
theorem dX8_counts_67 : decode cX8_counts 67 = .ok (.iload_n 2, 1) := by decide +kernel
theorem dX8_counts_68 : decode cX8_counts 68 = .ok (.invokevirtual 81, 3) := by decide +kernel
theorem dX8_counts_71 : decode cX8_counts 71 = .ok (.goto 4, 3) := by decide +kernel
theorem dX8_counts_74 : decode cX8_counts 74 = .ok (.iconst (-1), 1) := by decide +kernel
theorem dX8_counts_75 : decode cX8_counts 75 = .ok (.istore_n 3, 1) := by decide +kernel
theorem dX8_counts_76 : decode cX8_counts 76 = .ok (.iload_n 3, 1) := by decide +kernel
theorem dX8_counts_77 : decode cX8_counts 77 = .ok (.iconst (-1), 1) := by decide +kernel
theorem dX8_counts_78 : decode cX8_counts 78 = .ok (.if_icmp .ne 6, 3) := by decide +kernel
theorem dX8_counts_81 : decode cX8_counts 81 = .ok (.goto 47, 3) := by decide +kernel
theorem dX8_counts_84 : decode cX8_counts 84 = .ok (.aload_n 0, 1) := by decide +kernel
theorem dX8_counts_85 : decode cX8_counts 85 = .ok (.getfield 16, 3) := by decide +kernel
theorem dX8_counts_88 : decode cX8_counts 88 = .ok (.iload_n 1, 1) := by decide +kernel
theorem dX8_counts_89 : decode cX8_counts 89 = .ok (.iaload, 1) := by decide +kernel
theorem dX8_counts_90 : decode cX8_counts 90 = .ok (.aload_n 0, 1) := by decide +kernel
theorem dX8_counts_91 : decode cX8_counts 91 = .ok (.getfield 16, 3) := by decide +kernel
theorem dX8_counts_94 : decode cX8_counts 94 = .ok (.iload_n 2, 1) := by decide +kernel
theorem dX8_counts_95 : decode cX8_counts 95 = .ok (.iaload, 1) := by decide +kernel
theorem dX8_counts_96 : decode cX8_counts 96 = .ok (.if_icmp .ne 19, 3) := by decide +kernel
theorem dX8_counts_99 : decode cX8_counts 99 = .ok (.aload_n 0, 1) := by decide +kernel
theorem dX8_counts_100 : decode cX8_counts 100 = .ok (.getfield 35, 3) := by decide +kernel
theorem dX8_counts_103 : decode cX8_counts 103 = .ok (.iload_n 3, 1) := by decide +kernel
theorem dX8_counts_104 : decode cX8_counts 104 = .ok (.invokestatic 87, 3) := by decide +kernel
theorem dX8_counts_107 : decode cX8_counts 107 = .ok (.dup2, 1) := by decide +kernel
theorem dX8_counts_108 : decode cX8_counts 108 = .ok (.iaload, 1) := by decide +kernel
theorem dX8_counts_109 : decode cX8_counts 109 = .ok (.iconst 1, 1) := by decide +kernel
theorem dX8_counts_110 : decode cX8_counts 110 = .ok (.iadd, 1) := by decide +kernel
theorem dX8_counts_111 : decode cX8_counts 111 = .ok (.iastore, 1) := by decide +kernel
theorem dX8_counts_112 : decode cX8_counts 112 = .ok (.goto 16, 3) := by decide +kernel
theorem dX8_counts_115 : decode cX8_counts 115 = .ok (.aload_n 0, 1) := by decide +kernel
theorem dX8_counts_116 : decode cX8_counts 116 = .ok (.getfield 38, 3) := by decide +kernel
theorem dX8_counts_119 : decode cX8_counts 119 = .ok (.iload_n 3, 1) := by decide +kernel
theorem dX8_counts_120 : decode cX8_counts 120 = .ok (.invokestatic 87, 3) := by decide +kernel
theorem dX8_counts_123 : decode cX8_counts 123 = .ok (.dup2, 1) := by decide +kernel
theorem dX8_counts_124 : decode cX8_counts 124 = .ok (.iaload, 1) := by decide +kernel
theorem dX8_counts_125 : decode cX8_counts 125 = .ok (.iconst 1, 1) := by decide +kernel
theorem dX8_counts_126 : decode cX8_counts 126 = .ok (.iadd, 1) := by decide +kernel
theorem dX8_counts_127 : decode cX8_counts 127 = .ok (.iastore, 1) := by decide +kernel
theorem dX8_counts_128 : decode cX8_counts 128 = .ok (.iinc 2 1, 3) := by decide +kernel
theorem dX8_counts_131 : decode cX8_counts 131 = .ok (.goto (-87), 3) := by decide +kernel
theorem dX8_counts_134 : decode cX8_counts 134 = .ok (.iinc 1 1, 3) := by decide +kernel
theorem dX8_counts_137 : decode cX8_counts 137 = .ok (.goto (-103), 3) := by decide +kernel
theorem dX8_counts_140 : decode cX8_counts 140 = .ok (.return_, 1) := by decide +kernel
theorem dX8_sumOf_0 : decode cX8_sumOf 0 = .ok (.iconst 0, 1) := by decide +kernel
theorem dX8_sumOf_1 : decode cX8_sumOf 1 = .ok (.istore_n 3, 1) := by decide +kernel
theorem dX8_sumOf_2 : decode cX8_sumOf 2 = .ok (.iconst 0, 1) := by decide +kernel
theorem dX8_sumOf_3 : decode cX8_sumOf 3 = .ok (.istore 4, 2) := by decide +kernel
theorem dX8_sumOf_5 : decode cX8_sumOf 5 = .ok (.iload 4, 2) := by decide +kernel
theorem dX8_sumOf_7 : decode cX8_sumOf 7 = .ok (.bipush 10, 2) := by decide +kernel
theorem dX8_sumOf_9 : decode cX8_sumOf 9 = .ok (.if_icmp .ge 44, 3) := by decide +kernel
theorem dX8_sumOf_12 : decode cX8_sumOf 12 = .ok (.aload_n 0, 1) := by decide +kernel
theorem dX8_sumOf_13 : decode cX8_sumOf 13 = .ok (.getfield 41, 3) := by decide +kernel
theorem dX8_sumOf_16 : decode cX8_sumOf 16 = .ok (.iload 4, 2) := by decide +kernel
theorem dX8_sumOf_18 : decode cX8_sumOf 18 = .ok (.iaload, 1) := by decide +kernel
theorem dX8_sumOf_19 : decode cX8_sumOf 19 = .ok (.iload_n 1, 1) := by decide +kernel
theorem dX8_sumOf_20 : decode cX8_sumOf 20 = .ok (.if_icmp .ne 27, 3) := by decide +kernel
theorem dX8_sumOf_23 : decode cX8_sumOf 23 = .ok (.iload_n 3, 1) := by decide +kernel
theorem dX8_sumOf_24 : decode cX8_sumOf 24 = .ok (.iload_n 2, 1) := by decide +kernel
theorem dX8_sumOf_25 : decode cX8_sumOf 25 = .ok (.ifCond .eq 13, 3) := by decide +kernel
theorem dX8_sumOf_28 : decode cX8_sumOf 28 = .ok (.aload_n 0, 1) := by decide +kernel
theorem dX8_sumOf_29 : decode cX8_sumOf 29 = .ok (.getfield 35, 3) := by decide +kernel
theorem dX8_sumOf_32 : decode cX8_sumOf 32 = .ok (.iload 4, 2) := by decide +kernel
theorem dX8_sumOf_34 : decode cX8_sumOf 34 = .ok (.iaload, 1) := by decide +kernel
theorem dX8_sumOf_35 : decode cX8_sumOf 35 = .ok (.goto 10, 3) := by decide +kernel
theorem dX8_sumOf_38 : decode cX8_sumOf 38 = .ok (.aload_n 0, 1) := by decide +kernel
theorem dX8_sumOf_39 : decode cX8_sumOf 39 = .ok (.getfield 38, 3) := by decide +kernel
theorem dX8_sumOf_42 : decode cX8_sumOf 42 = .ok (.iload 4, 2) := by decide +kernel
theorem dX8_sumOf_44 : decode cX8_sumOf 44 = .ok (.iaload, 1) := by decide +kernel
theorem dX8_sumOf_45 : decode cX8_sumOf 45 = .ok (.iadd, 1) := by decide +kernel
theorem dX8_sumOf_46 : decode cX8_sumOf 46 = .ok (.istore_n 3, 1) := by decide +kernel
theorem dX8_sumOf_47 : decode cX8_sumOf 47 = .ok (.iinc 4 1, 3) := by decide +kernel
theorem dX8_sumOf_50 : decode cX8_sumOf 50 = .ok (.goto (-45), 3) := by decide +kernel
theorem dX8_sumOf_53 : decode cX8_sumOf 53 = .ok (.iload_n 3, 1) := by decide +kernel
theorem dX8_sumOf_54 : decode cX8_sumOf 54 = .ok (.ireturn, 1) := by decide +kernel
theorem dX8_nextBlock_0 : decode cX8_nextBlock 0 = .ok (.iload_n 1, 1) := by decide +kernel
theorem dX8_nextBlock_1 : decode cX8_nextBlock 1 = .ok (.iconst 1, 1) := by decide +kernel
theorem dX8_nextBlock_2 : decode cX8_nextBlock 2 = .ok (.iadd, 1) := by decide +kernel
theorem dX8_nextBlock_3 : decode cX8_nextBlock 3 = .ok (.istore_n 2, 1) := by decide +kernel
theorem dX8_nextBlock_4 : decode cX8_nextBlock 4 = .ok (.iload_n 2, 1) := by decide +kernel
theorem dX8_nextBlock_5 : decode cX8_nextBlock 5 = .ok (.bipush 10, 2) := by decide +kernel
theorem dX8_nextBlock_7 : decode cX8_nextBlock 7 = .ok (.if_icmp .ge 21, 3) := by decide +kernel
theorem dX8_nextBlock_10 : decode cX8_nextBlock 10 = .ok (.aload_n 0, 1) := by decide +kernel
theorem dX8_nextBlock_11 : decode cX8_nextBlock 11 = .ok (.getfield 41, 3) := by decide +kernel
theorem dX8_nextBlock_14 : decode cX8_nextBlock 14 = .ok (.iload_n 2, 1) := by decide +kernel
theorem dX8_nextBlock_15 : decode cX8_nextBlock 15 = .ok (.iaload, 1) := by decide +kernel
theorem dX8_nextBlock_16 : decode cX8_nextBlock 16 = .ok (.iload_n 2, 1) := by decide +kernel
theorem dX8_nextBlock_17 : decode cX8_nextBlock 17 = .ok (.if_icmp .ne 5, 3) := by decide +kernel
theorem dX8_nextBlock_20 : decode cX8_nextBlock 20 = .ok (.iload_n 2, 1) := by decide +kernel
theorem dX8_nextBlock_21 : decode cX8_nextBlock 21 = .ok (.ireturn, 1) := by decide +kernel
theorem dX8_nextBlock_22 : decode cX8_nextBlock 22 = .ok (.iinc 2 1, 3) := by decide +kernel
theorem dX8_nextBlock_25 : decode cX8_nextBlock 25 = .ok (.goto (-21), 3) := by decide +kernel
theorem dX8_nextBlock_28 : decode cX8_nextBlock 28 = .ok (.iconst (-1), 1) := by decide +kernel
theorem dX8_nextBlock_29 : decode cX8_nextBlock 29 = .ok (.ireturn, 1) := by decide +kernel
theorem dX8_isOut_0 : decode cX8_isOut 0 = .ok (.aload_n 0, 1) := by decide +kernel
theorem dX8_isOut_1 : decode cX8_isOut 1 = .ok (.iload_n 1, 1) := by decide +kernel
theorem dX8_isOut_2 : decode cX8_isOut 2 = .ok (.iconst 1, 1) := by decide +kernel
theorem dX8_isOut_3 : decode cX8_isOut 3 = .ok (.invokevirtual 91, 3) := by decide +kernel
theorem dX8_isOut_6 : decode cX8_isOut 6 = .ok (.istore_n 3, 1) := by decide +kernel
theorem dX8_isOut_7 : decode cX8_isOut 7 = .ok (.aload_n 0, 1) := by decide +kernel
theorem dX8_isOut_8 : decode cX8_isOut 8 = .ok (.iload_n 2, 1) := by decide +kernel
theorem dX8_isOut_9 : decode cX8_isOut 9 = .ok (.iconst 1, 1) := by decide +kernel
theorem dX8_isOut_10 : decode cX8_isOut 10 = .ok (.invokevirtual 91, 3) := by decide +kernel
theorem dX8_isOut_13 : decode cX8_isOut 13 = .ok (.istore 4, 2) := by decide +kernel
theorem dX8_isOut_15 : decode cX8_isOut 15 = .ok (.iload 4, 2) := by decide +kernel
theorem dX8_isOut_17 : decode cX8_isOut 17 = .ok (.iload_n 3, 1) := by decide +kernel
theorem dX8_isOut_18 : decode cX8_isOut 18 = .ok (.aload_n 0, 1) := by decide +kernel
theorem dX8_isOut_19 : decode cX8_isOut 19 = .ok (.iload_n 1, 1) := by decide +kernel
theorem dX8_isOut_20 : decode cX8_isOut 20 = .ok (.iconst 0, 1) := by decide +kernel
theorem dX8_isOut_21 : decode cX8_isOut 21 = .ok (.invokevirtual 91, 3) := by decide +kernel
theorem dX8_isOut_24 : decode cX8_isOut 24 = .ok (.iadd, 1) := by decide +kernel
theorem dX8_isOut_25 : decode cX8_isOut 25 = .ok (.imul, 1) := by decide +kernel
theorem dX8_isOut_26 : decode cX8_isOut 26 = .ok (.iload_n 3, 1) := by decide +kernel
theorem dX8_isOut_27 : decode cX8_isOut 27 = .ok (.iload 4, 2) := by decide +kernel
theorem dX8_isOut_29 : decode cX8_isOut 29 = .ok (.aload_n 0, 1) := by decide +kernel
theorem dX8_isOut_30 : decode cX8_isOut 30 = .ok (.iload_n 2, 1) := by decide +kernel
theorem dX8_isOut_31 : decode cX8_isOut 31 = .ok (.iconst 0, 1) := by decide +kernel
theorem dX8_isOut_32 : decode cX8_isOut 32 = .ok (.invokevirtual 91, 3) := by decide +kernel
theorem dX8_isOut_35 : decode cX8_isOut 35 = .ok (.iadd, 1) := by decide +kernel
theorem dX8_isOut_36 : decode cX8_isOut 36 = .ok (.imul, 1) := by decide +kernel
theorem dX8_isOut_37 : decode cX8_isOut 37 = .ok (.if_icmp .lt 7, 3) := by decide +kernel
theorem dX8_isOut_40 : decode cX8_isOut 40 = .ok (.iconst 1, 1) := by decide +kernel
theorem dX8_isOut_41 : decode cX8_isOut 41 = .ok (.goto 4, 3) := by decide +kernel
theorem dX8_isOut_44 : decode cX8_isOut 44 = .ok (.iconst 0, 1) := by decide +kernel
theorem dX8_isOut_45 : decode cX8_isOut 45 = .ok (.ireturn, 1) := by decide +kernel
theorem dX8_blocks_0 : decode cX8_blocks 0 = .ok (.aload_n 0, 1) := by decide +kernel
theorem dX8_blocks_1 : decode cX8_blocks 1 = .ok (.invokevirtual 95, 3) := by decide +kernel
theorem dX8_blocks_4 : decode cX8_blocks 4 = .ok (.iconst 0, 1) := by decide +kernel
theorem dX8_blocks_5 : decode cX8_blocks 5 = .ok (.istore_n 1, 1) := by decide +kernel
theorem dX8_blocks_6 : decode cX8_blocks 6 = .ok (.iload_n 1, 1) := by decide +kernel
theorem dX8_blocks_7 : decode cX8_blocks 7 = .ok (.bipush 10, 2) := by decide +kernel
theorem dX8_blocks_9 : decode cX8_blocks 9 = .ok (.if_icmp .ge 36, 3) := by decide +kernel
theorem dX8_blocks_12 : decode cX8_blocks 12 = .ok (.aload_n 0, 1) := by decide +kernel
theorem dX8_blocks_13 : decode cX8_blocks 13 = .ok (.getfield 41, 3) := by decide +kernel
theorem dX8_blocks_16 : decode cX8_blocks 16 = .ok (.iload_n 1, 1) := by decide +kernel
theorem dX8_blocks_17 : decode cX8_blocks 17 = .ok (.aload_n 0, 1) := by decide +kernel
theorem dX8_blocks_18 : decode cX8_blocks 18 = .ok (.getfield 35, 3) := by decide +kernel
theorem dX8_blocks_21 : decode cX8_blocks 21 = .ok (.iload_n 1, 1) := by decide +kernel
theorem dX8_blocks_22 : decode cX8_blocks 22 = .ok (.iaload, 1) := by decide +kernel
theorem dX8_blocks_23 : decode cX8_blocks 23 = .ok (.aload_n 0, 1) := by decide +kernel
theorem dX8_blocks_24 : decode cX8_blocks 24 = .ok (.getfield 38, 3) := by decide +kernel
theorem dX8_blocks_27 : decode cX8_blocks 27 = .ok (.iload_n 1, 1) := by decide +kernel
theorem dX8_blocks_28 : decode cX8_blocks 28 = .ok (.iaload, 1) := by decide +kernel
theorem dX8_blocks_29 : decode cX8_blocks 29 = .ok (.iadd, 1) := by decide +kernel
theorem dX8_blocks_30 : decode cX8_blocks 30 = .ok (.ifCond .le 7, 3) := by decide +kernel
theorem dX8_blocks_33 : decode cX8_blocks 33 = .ok (.iload_n 1, 1) := by decide +kernel
theorem dX8_blocks_34 : decode cX8_blocks 34 = .ok (.goto 4, 3) := by decide +kernel
theorem dX8_blocks_37 : decode cX8_blocks 37 = .ok (.iconst (-1), 1) := by decide +kernel
theorem dX8_blocks_38 : decode cX8_blocks 38 = .ok (.iastore, 1) := by decide +kernel
theorem dX8_blocks_39 : decode cX8_blocks 39 = .ok (.iinc 1 1, 3) := by decide +kernel
theorem dX8_blocks_42 : decode cX8_blocks 42 = .ok (.goto (-36), 3) := by decide +kernel
theorem dX8_blocks_45 : decode cX8_blocks 45 = .ok (.iconst 1, 1) := by decide +kernel
theorem dX8_blocks_46 : decode cX8_blocks 46 = .ok (.istore_n 1, 1) := by decide +kernel
theorem dX8_blocks_47 : decode cX8_blocks 47 = .ok (.iload_n 1, 1) := by decide +kernel
theorem dX8_blocks_48 : decode cX8_blocks 48 = .ok (.ifCond .eq 100, 3) := by decide +kernel
theorem dX8_blocks_51 : decode cX8_blocks 51 = .ok (.iconst 0, 1) := by decide +kernel
theorem dX8_blocks_52 : decode cX8_blocks 52 = .ok (.istore_n 1, 1) := by decide +kernel
theorem dX8_blocks_53 : decode cX8_blocks 53 = .ok (.iconst 0, 1) := by decide +kernel
theorem dX8_blocks_54 : decode cX8_blocks 54 = .ok (.istore_n 2, 1) := by decide +kernel
theorem dX8_blocks_55 : decode cX8_blocks 55 = .ok (.iload_n 2, 1) := by decide +kernel
theorem dX8_blocks_56 : decode cX8_blocks 56 = .ok (.bipush 10, 2) := by decide +kernel
theorem dX8_blocks_58 : decode cX8_blocks 58 = .ok (.if_icmp .ge 87, 3) := by decide +kernel
theorem dX8_blocks_61 : decode cX8_blocks 61 = .ok (.iload_n 1, 1) := by decide +kernel
theorem dX8_blocks_62 : decode cX8_blocks 62 = .ok (.ifCond .ne 83, 3) := by decide +kernel
theorem dX8_blocks_65 : decode cX8_blocks 65 = .ok (.aload_n 0, 1) := by decide +kernel
theorem dX8_blocks_66 : decode cX8_blocks 66 = .ok (.getfield 41, 3) := by decide +kernel
theorem dX8_blocks_69 : decode cX8_blocks 69 = .ok (.iload_n 2, 1) := by decide +kernel
theorem dX8_blocks_70 : decode cX8_blocks 70 = .ok (.iaload, 1) := by decide +kernel
theorem dX8_blocks_71 : decode cX8_blocks 71 = .ok (.iload_n 2, 1) := by decide +kernel
theorem dX8_blocks_72 : decode cX8_blocks 72 = .ok (.if_icmp .ne 11, 3) := by decide +kernel
theorem dX8_blocks_75 : decode cX8_blocks 75 = .ok (.aload_n 0, 1) := by decide +kernel
theorem dX8_blocks_76 : decode cX8_blocks 76 = .ok (.iload_n 2, 1) := by decide +kernel
theorem dX8_blocks_77 : decode cX8_blocks 77 = .ok (.invokevirtual 98, 3) := by decide +kernel
theorem dX8_blocks_80 : decode cX8_blocks 80 = .ok (.goto 4, 3) := by decide +kernel
theorem dX8_blocks_83 : decode cX8_blocks 83 = .ok (.iconst (-1), 1) := by decide +kernel
theorem dX8_blocks_84 : decode cX8_blocks 84 = .ok (.istore_n 3, 1) := by decide +kernel
theorem dX8_blocks_85 : decode cX8_blocks 85 = .ok (.iload_n 3, 1) := by decide +kernel
theorem dX8_blocks_86 : decode cX8_blocks 86 = .ok (.iconst (-1), 1) := by decide +kernel
theorem dX8_blocks_87 : decode cX8_blocks 87 = .ok (.if_icmp .eq 52, 3) := by decide +kernel
theorem dX8_blocks_90 : decode cX8_blocks 90 = .ok (.aload_n 0, 1) := by decide +kernel
theorem dX8_blocks_91 : decode cX8_blocks 91 = .ok (.iload_n 2, 1) := by decide +kernel
theorem dX8_blocks_92 : decode cX8_blocks 92 = .ok (.iload_n 3, 1) := by decide +kernel
theorem dX8_blocks_93 : decode cX8_blocks 93 = .ok (.invokevirtual 101, 3) := by decide +kernel
theorem dX8_blocks_96 : decode cX8_blocks 96 = .ok (.ifCond .ne 6, 3) := by decide +kernel
theorem dX8_blocks_99 : decode cX8_blocks 99 = .ok (.goto 40, 3) := by decide +kernel
theorem dX8_blocks_102 : decode cX8_blocks 102 = .ok (.iconst 0, 1) := by decide +kernel
theorem dX8_blocks_103 : decode cX8_blocks 103 = .ok (.istore 4, 2) := by decide +kernel
theorem dX8_blocks_105 : decode cX8_blocks 105 = .ok (.iload 4, 2) := by decide +kernel
theorem dX8_blocks_107 : decode cX8_blocks 107 = .ok (.bipush 10, 2) := by decide +kernel
theorem dX8_blocks_109 : decode cX8_blocks 109 = .ok (.if_icmp .ge 28, 3) := by decide +kernel
theorem dX8_blocks_112 : decode cX8_blocks 112 = .ok (.aload_n 0, 1) := by decide +kernel
theorem dX8_blocks_113 : decode cX8_blocks 113 = .ok (.getfield 41, 3) := by decide +kernel
theorem dX8_blocks_116 : decode cX8_blocks 116 = .ok (.iload 4, 2) := by decide +kernel
theorem dX8_blocks_118 : decode cX8_blocks 118 = .ok (.iaload, 1) := by decide +kernel
theorem dX8_blocks_119 : decode cX8_blocks 119 = .ok (.iload_n 3, 1) := by decide +kernel
theorem dX8_blocks_120 : decode cX8_blocks 120 = .ok (.if_icmp .ne 11, 3) := by decide +kernel
theorem dX8_blocks_123 : decode cX8_blocks 123 = .ok (.aload_n 0, 1) := by decide +kernel
theorem dX8_blocks_124 : decode cX8_blocks 124 = .ok (.getfield 41, 3) := by decide +kernel
theorem dX8_blocks_127 : decode cX8_blocks 127 = .ok (.iload 4, 2) := by decide +kernel
theorem dX8_blocks_129 : decode cX8_blocks 129 = .ok (.iload_n 2, 1) := by decide +kernel
theorem dX8_blocks_130 : decode cX8_blocks 130 = .ok (.iastore, 1) := by decide +kernel
theorem dX8_blocks_131 : decode cX8_blocks 131 = .ok (.iinc 4 1, 3) := by decide +kernel
theorem dX8_blocks_134 : decode cX8_blocks 134 = .ok (.goto (-29), 3) := by decide +kernel
theorem dX8_blocks_137 : decode cX8_blocks 137 = .ok (.iconst 1, 1) := by decide +kernel
theorem dX8_blocks_138 : decode cX8_blocks 138 = .ok (.istore_n 1, 1) := by decide +kernel
theorem dX8_blocks_139 : decode cX8_blocks 139 = .ok (.iinc 2 1, 3) := by decide +kernel
theorem dX8_blocks_142 : decode cX8_blocks 142 = .ok (.goto (-87), 3) := by decide +kernel
theorem dX8_blocks_145 : decode cX8_blocks 145 = .ok (.goto (-98), 3) := by decide +kernel
theorem dX8_blocks_148 : decode cX8_blocks 148 = .ok (.return_, 1) := by decide +kernel
theorem dX8_band_0 : decode cX8_band 0 = .ok (.iload_n 1, 1) := by decide +kernel
theorem dX8_band_1 : decode cX8_band 1 = .ok (.iconst 0, 1) := by decide +kernel
theorem dX8_band_2 : decode cX8_band 2 = .ok (.bipush 9, 2) := by decide +kernel
theorem dX8_band_4 : decode cX8_band 4 = .ok (.invokestatic 59, 3) := by decide +kernel
theorem dX8_band_7 : decode cX8_band 7 = .ok (.ifCond .eq 12, 3) := by decide +kernel
theorem dX8_band_10 : decode cX8_band 10 = .ok (.iload_n 2, 1) := by decide +kernel
theorem dX8_band_11 : decode cX8_band 11 = .ok (.iconst 0, 1) := by decide +kernel
theorem dX8_band_12 : decode cX8_band 12 = .ok (.iconst 1, 1) := by decide +kernel
theorem dX8_band_13 : decode cX8_band 13 = .ok (.invokestatic 59, 3) := by decide +kernel
theorem dX8_band_16 : decode cX8_band 16 = .ok (.ifCond .ne 5, 3) := by decide +kernel
theorem dX8_band_19 : decode cX8_band 19 = .ok (.iconst (-1), 1) := by decide +kernel
theorem dX8_band_20 : decode cX8_band 20 = .ok (.ireturn, 1) := by decide +kernel
theorem dX8_band_21 : decode cX8_band 21 = .ok (.aload_n 0, 1) := by decide +kernel
theorem dX8_band_22 : decode cX8_band 22 = .ok (.invokevirtual 95, 3) := by decide +kernel
theorem dX8_band_25 : decode cX8_band 25 = .ok (.iload_n 2, 1) := by decide +kernel
theorem dX8_band_26 : decode cX8_band 26 = .ok (.ifCond .ne 12, 3) := by decide +kernel
theorem dX8_band_29 : decode cX8_band 29 = .ok (.aload_n 0, 1) := by decide +kernel
theorem dX8_band_30 : decode cX8_band 30 = .ok (.getfield 35, 3) := by decide +kernel
theorem dX8_band_33 : decode cX8_band 33 = .ok (.iload_n 1, 1) := by decide +kernel
theorem dX8_band_34 : decode cX8_band 34 = .ok (.iaload, 1) := by decide +kernel
theorem dX8_band_35 : decode cX8_band 35 = .ok (.goto 9, 3) := by decide +kernel
theorem dX8_band_38 : decode cX8_band 38 = .ok (.aload_n 0, 1) := by decide +kernel
theorem dX8_band_39 : decode cX8_band 39 = .ok (.getfield 38, 3) := by decide +kernel
theorem dX8_band_42 : decode cX8_band 42 = .ok (.iload_n 1, 1) := by decide +kernel
theorem dX8_band_43 : decode cX8_band 43 = .ok (.iaload, 1) := by decide +kernel
theorem dX8_band_44 : decode cX8_band 44 = .ok (.ireturn, 1) := by decide +kernel
theorem dX8_block_0 : decode cX8_block 0 = .ok (.iload_n 1, 1) := by decide +kernel
theorem dX8_block_1 : decode cX8_block 1 = .ok (.iconst 0, 1) := by decide +kernel
theorem dX8_block_2 : decode cX8_block 2 = .ok (.bipush 9, 2) := by decide +kernel
theorem dX8_block_4 : decode cX8_block 4 = .ok (.invokestatic 59, 3) := by decide +kernel
theorem dX8_block_7 : decode cX8_block 7 = .ok (.ifCond .eq 12, 3) := by decide +kernel
theorem dX8_block_10 : decode cX8_block 10 = .ok (.iload_n 2, 1) := by decide +kernel
theorem dX8_block_11 : decode cX8_block 11 = .ok (.iconst 0, 1) := by decide +kernel
theorem dX8_block_12 : decode cX8_block 12 = .ok (.iconst 1, 1) := by decide +kernel
theorem dX8_block_13 : decode cX8_block 13 = .ok (.invokestatic 59, 3) := by decide +kernel
theorem dX8_block_16 : decode cX8_block 16 = .ok (.ifCond .ne 5, 3) := by decide +kernel
theorem dX8_block_19 : decode cX8_block 19 = .ok (.iconst (-1), 1) := by decide +kernel
theorem dX8_block_20 : decode cX8_block 20 = .ok (.ireturn, 1) := by decide +kernel
theorem dX8_block_21 : decode cX8_block 21 = .ok (.aload_n 0, 1) := by decide +kernel
theorem dX8_block_22 : decode cX8_block 22 = .ok (.invokevirtual 105, 3) := by decide +kernel
theorem dX8_block_25 : decode cX8_block 25 = .ok (.iload_n 2, 1) := by decide +kernel
theorem dX8_block_26 : decode cX8_block 26 = .ok (.ifCond .eq 13, 3) := by decide +kernel
theorem dX8_block_29 : decode cX8_block 29 = .ok (.aload_n 0, 1) := by decide +kernel
theorem dX8_block_30 : decode cX8_block 30 = .ok (.getfield 41, 3) := by decide +kernel
theorem dX8_block_33 : decode cX8_block 33 = .ok (.iload_n 1, 1) := by decide +kernel
theorem dX8_block_34 : decode cX8_block 34 = .ok (.iaload, 1) := by decide +kernel
theorem dX8_block_35 : decode cX8_block 35 = .ok (.iconst (-1), 1) := by decide +kernel
theorem dX8_block_36 : decode cX8_block 36 = .ok (.if_icmp .ne 10, 3) := by decide +kernel
theorem dX8_block_39 : decode cX8_block 39 = .ok (.aload_n 0, 1) := by decide +kernel
theorem dX8_block_40 : decode cX8_block 40 = .ok (.getfield 41, 3) := by decide +kernel
theorem dX8_block_43 : decode cX8_block 43 = .ok (.iload_n 1, 1) := by decide +kernel
theorem dX8_block_44 : decode cX8_block 44 = .ok (.iaload, 1) := by decide +kernel
theorem dX8_block_45 : decode cX8_block 45 = .ok (.ireturn, 1) := by decide +kernel
theorem dX8_block_46 : decode cX8_block 46 = .ok (.iload_n 1, 1) := by decide +kernel
theorem dX8_block_47 : decode cX8_block 47 = .ok (.istore_n 3, 1) := by decide +kernel
theorem dX8_block_48 : decode cX8_block 48 = .ok (.iload_n 1, 1) := by decide +kernel
theorem dX8_block_49 : decode cX8_block 49 = .ok (.istore 4, 2) := by decide +kernel
theorem dX8_block_51 : decode cX8_block 51 = .ok (.iload 4, 2) := by decide +kernel
theorem dX8_block_53 : decode cX8_block 53 = .ok (.bipush 10, 2) := by decide +kernel
theorem dX8_block_55 : decode cX8_block 55 = .ok (.if_icmp .ge 28, 3) := by decide +kernel
theorem dX8_block_58 : decode cX8_block 58 = .ok (.aload_n 0, 1) := by decide +kernel
theorem dX8_block_59 : decode cX8_block 59 = .ok (.getfield 41, 3) := by decide +kernel
theorem dX8_block_62 : decode cX8_block 62 = .ok (.iload 4, 2) := by decide +kernel
theorem dX8_block_64 : decode cX8_block 64 = .ok (.iaload, 1) := by decide +kernel
theorem dX8_block_65 : decode cX8_block 65 = .ok (.aload_n 0, 1) := by decide +kernel
theorem dX8_block_66 : decode cX8_block 66 = .ok (.getfield 41, 3) := by decide +kernel
theorem dX8_block_69 : decode cX8_block 69 = .ok (.iload_n 1, 1) := by decide +kernel
theorem dX8_block_70 : decode cX8_block 70 = .ok (.iaload, 1) := by decide +kernel
theorem dX8_block_71 : decode cX8_block 71 = .ok (.if_icmp .ne 6, 3) := by decide +kernel
theorem dX8_block_74 : decode cX8_block 74 = .ok (.iload 4, 2) := by decide +kernel
theorem dX8_block_76 : decode cX8_block 76 = .ok (.istore_n 3, 1) := by decide +kernel
theorem dX8_block_77 : decode cX8_block 77 = .ok (.iinc 4 1, 3) := by decide +kernel
theorem dX8_block_80 : decode cX8_block 80 = .ok (.goto (-29), 3) := by decide +kernel
theorem dX8_block_83 : decode cX8_block 83 = .ok (.iload_n 3, 1) := by decide +kernel
theorem dX8_block_84 : decode cX8_block 84 = .ok (.ireturn, 1) := by decide +kernel
theorem dX8_all_0 : decode cX8_all 0 = .ok (.iconst 0, 1) := by decide +kernel
theorem dX8_all_1 : decode cX8_all 1 = .ok (.istore_n 1, 1) := by decide +kernel
theorem dX8_all_2 : decode cX8_all 2 = .ok (.iconst 0, 1) := by decide +kernel
theorem dX8_all_3 : decode cX8_all 3 = .ok (.istore_n 2, 1) := by decide +kernel
theorem dX8_all_4 : decode cX8_all 4 = .ok (.iload_n 2, 1) := by decide +kernel
theorem dX8_all_5 : decode cX8_all 5 = .ok (.bipush 10, 2) := by decide +kernel
theorem dX8_all_7 : decode cX8_all 7 = .ok (.if_icmp .ge 15, 3) := by decide +kernel
theorem dX8_all_10 : decode cX8_all 10 = .ok (.iload_n 1, 1) := by decide +kernel
theorem dX8_all_11 : decode cX8_all 11 = .ok (.aload_n 0, 1) := by decide +kernel
theorem dX8_all_12 : decode cX8_all 12 = .ok (.iload_n 2, 1) := by decide +kernel
theorem dX8_all_13 : decode cX8_all 13 = .ok (.iaload, 1) := by decide +kernel
theorem dX8_all_14 : decode cX8_all 14 = .ok (.iadd, 1) := by decide +kernel
theorem dX8_all_15 : decode cX8_all 15 = .ok (.istore_n 1, 1) := by decide +kernel
theorem dX8_all_16 : decode cX8_all 16 = .ok (.iinc 2 1, 3) := by decide +kernel
theorem dX8_all_19 : decode cX8_all 19 = .ok (.goto (-15), 3) := by decide +kernel
theorem dX8_all_22 : decode cX8_all 22 = .ok (.iload_n 1, 1) := by decide +kernel
theorem dX8_all_23 : decode cX8_all 23 = .ok (.ireturn, 1) := by decide +kernel
theorem dX8_odds_0 : decode cX8_odds 0 = .ok (.iload_n 1, 1) := by decide +kernel
theorem dX8_odds_1 : decode cX8_odds 1 = .ok (.ifCond .ge 5, 3) := by decide +kernel
theorem dX8_odds_4 : decode cX8_odds 4 = .ok (.iconst (-1), 1) := by decide +kernel
theorem dX8_odds_5 : decode cX8_odds 5 = .ok (.ireturn, 1) := by decide +kernel
theorem dX8_odds_6 : decode cX8_odds 6 = .ok (.aload_n 0, 1) := by decide +kernel
theorem dX8_odds_7 : decode cX8_odds 7 = .ok (.invokevirtual 105, 3) := by decide +kernel
theorem dX8_odds_10 : decode cX8_odds 10 = .ok (.aload_n 0, 1) := by decide +kernel
theorem dX8_odds_11 : decode cX8_odds 11 = .ok (.getfield 41, 3) := by decide +kernel
theorem dX8_odds_14 : decode cX8_odds 14 = .ok (.iload_n 1, 1) := by decide +kernel
theorem dX8_odds_15 : decode cX8_odds 15 = .ok (.invokestatic 87, 3) := by decide +kernel
theorem dX8_odds_18 : decode cX8_odds 18 = .ok (.iaload, 1) := by decide +kernel
theorem dX8_odds_19 : decode cX8_odds 19 = .ok (.istore_n 3, 1) := by decide +kernel
theorem dX8_odds_20 : decode cX8_odds 20 = .ok (.iload_n 3, 1) := by decide +kernel
theorem dX8_odds_21 : decode cX8_odds 21 = .ok (.iconst (-1), 1) := by decide +kernel
theorem dX8_odds_22 : decode cX8_odds 22 = .ok (.if_icmp .ne 5, 3) := by decide +kernel
theorem dX8_odds_25 : decode cX8_odds 25 = .ok (.iconst (-1), 1) := by decide +kernel
theorem dX8_odds_26 : decode cX8_odds 26 = .ok (.ireturn, 1) := by decide +kernel
theorem dX8_odds_27 : decode cX8_odds 27 = .ok (.iload_n 2, 1) := by decide +kernel
theorem dX8_odds_28 : decode cX8_odds 28 = .ok (.tableswitch 90 0 4 #[36, 43, 51, 58, 66], 36) := by decide +kernel
theorem dX8_odds_64 : decode cX8_odds 64 = .ok (.aload_n 0, 1) := by decide +kernel
theorem dX8_odds_65 : decode cX8_odds 65 = .ok (.iload_n 3, 1) := by decide +kernel
theorem dX8_odds_66 : decode cX8_odds 66 = .ok (.iconst 1, 1) := by decide +kernel
theorem dX8_odds_67 : decode cX8_odds 67 = .ok (.invokevirtual 91, 3) := by decide +kernel
theorem dX8_odds_70 : decode cX8_odds 70 = .ok (.ireturn, 1) := by decide +kernel
theorem dX8_odds_71 : decode cX8_odds 71 = .ok (.aload_n 0, 1) := by decide +kernel
theorem dX8_odds_72 : decode cX8_odds 72 = .ok (.getfield 35, 3) := by decide +kernel
theorem dX8_odds_75 : decode cX8_odds 75 = .ok (.invokestatic 108, 3) := by decide +kernel
theorem dX8_odds_78 : decode cX8_odds 78 = .ok (.ireturn, 1) := by decide +kernel
theorem dX8_odds_79 : decode cX8_odds 79 = .ok (.aload_n 0, 1) := by decide +kernel
theorem dX8_odds_80 : decode cX8_odds 80 = .ok (.iload_n 3, 1) := by decide +kernel
theorem dX8_odds_81 : decode cX8_odds 81 = .ok (.iconst 0, 1) := by decide +kernel
theorem dX8_odds_82 : decode cX8_odds 82 = .ok (.invokevirtual 91, 3) := by decide +kernel
theorem dX8_odds_85 : decode cX8_odds 85 = .ok (.ireturn, 1) := by decide +kernel
theorem dX8_odds_86 : decode cX8_odds 86 = .ok (.aload_n 0, 1) := by decide +kernel
theorem dX8_odds_87 : decode cX8_odds 87 = .ok (.getfield 38, 3) := by decide +kernel
theorem dX8_odds_90 : decode cX8_odds 90 = .ok (.invokestatic 108, 3) := by decide +kernel
theorem dX8_odds_93 : decode cX8_odds 93 = .ok (.ireturn, 1) := by decide +kernel
theorem dX8_odds_94 : decode cX8_odds 94 = .ok (.aload_n 0, 1) := by decide +kernel
theorem dX8_odds_95 : decode cX8_odds 95 = .ok (.iload_n 3, 1) := by decide +kernel
theorem dX8_odds_96 : decode cX8_odds 96 = .ok (.iconst 1, 1) := by decide +kernel
theorem dX8_odds_97 : decode cX8_odds 97 = .ok (.invokevirtual 91, 3) := by decide +kernel
theorem dX8_odds_100 : decode cX8_odds 100 = .ok (.ifCond .le 16, 3) := by decide +kernel
theorem dX8_odds_103 : decode cX8_odds 103 = .ok (.aload_n 0, 1) := by decide +kernel
theorem dX8_odds_104 : decode cX8_odds 104 = .ok (.iload_n 3, 1) := by decide +kernel
theorem dX8_odds_105 : decode cX8_odds 105 = .ok (.iconst 0, 1) := by decide +kernel
theorem dX8_odds_106 : decode cX8_odds 106 = .ok (.invokevirtual 91, 3) := by decide +kernel
theorem dX8_odds_109 : decode cX8_odds 109 = .ok (.ifCond .le 7, 3) := by decide +kernel
theorem dX8_odds_112 : decode cX8_odds 112 = .ok (.iconst 1, 1) := by decide +kernel
theorem dX8_odds_113 : decode cX8_odds 113 = .ok (.goto 4, 3) := by decide +kernel
theorem dX8_odds_116 : decode cX8_odds 116 = .ok (.iconst 0, 1) := by decide +kernel
theorem dX8_odds_117 : decode cX8_odds 117 = .ok (.ireturn, 1) := by decide +kernel
theorem dX8_odds_118 : decode cX8_odds 118 = .ok (.iconst (-1), 1) := by decide +kernel
theorem dX8_odds_119 : decode cX8_odds 119 = .ok (.ireturn, 1) := by decide +kernel
theorem dX8_segment_0 : decode cX8_segment 0 = .ok (.aload_n 0, 1) := by decide +kernel
theorem dX8_segment_1 : decode cX8_segment 1 = .ok (.iload_n 1, 1) := by decide +kernel
theorem dX8_segment_2 : decode cX8_segment 2 = .ok (.invokevirtual 63, 3) := by decide +kernel
theorem dX8_segment_5 : decode cX8_segment 5 = .ok (.ifCond .eq 12, 3) := by decide +kernel
theorem dX8_segment_8 : decode cX8_segment 8 = .ok (.aload_n 0, 1) := by decide +kernel
theorem dX8_segment_9 : decode cX8_segment 9 = .ok (.getfield 112, 3) := by decide +kernel
theorem dX8_segment_12 : decode cX8_segment 12 = .ok (.bipush 8, 2) := by decide +kernel
theorem dX8_segment_14 : decode cX8_segment 14 = .ok (.if_icmp .ne 5, 3) := by decide +kernel
theorem dX8_segment_17 : decode cX8_segment 17 = .ok (.iconst (-1), 1) := by decide +kernel
theorem dX8_segment_18 : decode cX8_segment 18 = .ok (.ireturn, 1) := by decide +kernel
theorem dX8_segment_19 : decode cX8_segment 19 = .ok (.iconst 0, 1) := by decide +kernel
theorem dX8_segment_20 : decode cX8_segment 20 = .ok (.istore_n 2, 1) := by decide +kernel
theorem dX8_segment_21 : decode cX8_segment 21 = .ok (.iload_n 2, 1) := by decide +kernel
theorem dX8_segment_22 : decode cX8_segment 22 = .ok (.aload_n 0, 1) := by decide +kernel
theorem dX8_segment_23 : decode cX8_segment 23 = .ok (.getfield 112, 3) := by decide +kernel
theorem dX8_segment_26 : decode cX8_segment 26 = .ok (.if_icmp .ge 21, 3) := by decide +kernel
theorem dX8_segment_29 : decode cX8_segment 29 = .ok (.aload_n 0, 1) := by decide +kernel
theorem dX8_segment_30 : decode cX8_segment 30 = .ok (.getfield 26, 3) := by decide +kernel
theorem dX8_segment_33 : decode cX8_segment 33 = .ok (.iload_n 2, 1) := by decide +kernel
theorem dX8_segment_34 : decode cX8_segment 34 = .ok (.iaload, 1) := by decide +kernel
theorem dX8_segment_35 : decode cX8_segment 35 = .ok (.iload_n 1, 1) := by decide +kernel
theorem dX8_segment_36 : decode cX8_segment 36 = .ok (.if_icmp .ne 5, 3) := by decide +kernel
theorem dX8_segment_39 : decode cX8_segment 39 = .ok (.iconst (-1), 1) := by decide +kernel
theorem dX8_segment_40 : decode cX8_segment 40 = .ok (.ireturn, 1) := by decide +kernel
theorem dX8_segment_41 : decode cX8_segment 41 = .ok (.iinc 2 1, 3) := by decide +kernel
theorem dX8_segment_44 : decode cX8_segment 44 = .ok (.goto (-23), 3) := by decide +kernel
theorem dX8_segment_47 : decode cX8_segment 47 = .ok (.aload_n 0, 1) := by decide +kernel
theorem dX8_segment_48 : decode cX8_segment 48 = .ok (.getfield 26, 3) := by decide +kernel
theorem dX8_segment_51 : decode cX8_segment 51 = .ok (.aload_n 0, 1) := by decide +kernel
theorem dX8_segment_52 : decode cX8_segment 52 = .ok (.getfield 112, 3) := by decide +kernel
theorem dX8_segment_55 : decode cX8_segment 55 = .ok (.iload_n 1, 1) := by decide +kernel
theorem dX8_segment_56 : decode cX8_segment 56 = .ok (.iastore, 1) := by decide +kernel
theorem dX8_segment_57 : decode cX8_segment 57 = .ok (.aload_n 0, 1) := by decide +kernel
theorem dX8_segment_58 : decode cX8_segment 58 = .ok (.dup, 1) := by decide +kernel
theorem dX8_segment_59 : decode cX8_segment 59 = .ok (.getfield 112, 3) := by decide +kernel
theorem dX8_segment_62 : decode cX8_segment 62 = .ok (.iconst 1, 1) := by decide +kernel
theorem dX8_segment_63 : decode cX8_segment 63 = .ok (.iadd, 1) := by decide +kernel
theorem dX8_segment_64 : decode cX8_segment 64 = .ok (.putfield 112, 3) := by decide +kernel
theorem dX8_segment_67 : decode cX8_segment 67 = .ok (.aload_n 0, 1) := by decide +kernel
theorem dX8_segment_68 : decode cX8_segment 68 = .ok (.getfield 112, 3) := by decide +kernel
theorem dX8_segment_71 : decode cX8_segment 71 = .ok (.ireturn, 1) := by decide +kernel
theorem dX8_clear_0 : decode cX8_clear 0 = .ok (.aload_n 0, 1) := by decide +kernel
theorem dX8_clear_1 : decode cX8_clear 1 = .ok (.getfield 112, 3) := by decide +kernel
theorem dX8_clear_4 : decode cX8_clear 4 = .ok (.istore_n 1, 1) := by decide +kernel
theorem dX8_clear_5 : decode cX8_clear 5 = .ok (.aload_n 0, 1) := by decide +kernel
theorem dX8_clear_6 : decode cX8_clear 6 = .ok (.iconst 0, 1) := by decide +kernel
theorem dX8_clear_7 : decode cX8_clear 7 = .ok (.putfield 112, 3) := by decide +kernel
theorem dX8_clear_10 : decode cX8_clear 10 = .ok (.iload_n 1, 1) := by decide +kernel
theorem dX8_clear_11 : decode cX8_clear 11 = .ok (.ireturn, 1) := by decide +kernel
theorem dX8_scoresAll_0 : decode cX8_scoresAll 0 = .ok (.aload_n 0, 1) := by decide +kernel
theorem dX8_scoresAll_1 : decode cX8_scoresAll 1 = .ok (.invokevirtual 78, 3) := by decide +kernel
theorem dX8_scoresAll_4 : decode cX8_scoresAll 4 = .ok (.iconst 0, 1) := by decide +kernel
theorem dX8_scoresAll_5 : decode cX8_scoresAll 5 = .ok (.istore_n 1, 1) := by decide +kernel
theorem dX8_scoresAll_6 : decode cX8_scoresAll 6 = .ok (.iload_n 1, 1) := by decide +kernel
theorem dX8_scoresAll_7 : decode cX8_scoresAll 7 = .ok (.aload_n 0, 1) := by decide +kernel
theorem dX8_scoresAll_8 : decode cX8_scoresAll 8 = .ok (.getfield 112, 3) := by decide +kernel
theorem dX8_scoresAll_11 : decode cX8_scoresAll 11 = .ok (.if_icmp .ge 61, 3) := by decide +kernel
theorem dX8_scoresAll_14 : decode cX8_scoresAll 14 = .ok (.iconst 0, 1) := by decide +kernel
theorem dX8_scoresAll_15 : decode cX8_scoresAll 15 = .ok (.istore_n 2, 1) := by decide +kernel
theorem dX8_scoresAll_16 : decode cX8_scoresAll 16 = .ok (.iload_n 2, 1) := by decide +kernel
theorem dX8_scoresAll_17 : decode cX8_scoresAll 17 = .ok (.aload_n 0, 1) := by decide +kernel
theorem dX8_scoresAll_18 : decode cX8_scoresAll 18 = .ok (.getfield 112, 3) := by decide +kernel
theorem dX8_scoresAll_21 : decode cX8_scoresAll 21 = .ok (.if_icmp .ge 45, 3) := by decide +kernel
theorem dX8_scoresAll_24 : decode cX8_scoresAll 24 = .ok (.aload_n 0, 1) := by decide +kernel
theorem dX8_scoresAll_25 : decode cX8_scoresAll 25 = .ok (.getfield 44, 3) := by decide +kernel
theorem dX8_scoresAll_28 : decode cX8_scoresAll 28 = .ok (.bipush 8, 2) := by decide +kernel
theorem dX8_scoresAll_30 : decode cX8_scoresAll 30 = .ok (.iload_n 1, 1) := by decide +kernel
theorem dX8_scoresAll_31 : decode cX8_scoresAll 31 = .ok (.imul, 1) := by decide +kernel
theorem dX8_scoresAll_32 : decode cX8_scoresAll 32 = .ok (.iload_n 2, 1) := by decide +kernel
theorem dX8_scoresAll_33 : decode cX8_scoresAll 33 = .ok (.iadd, 1) := by decide +kernel
theorem dX8_scoresAll_34 : decode cX8_scoresAll 34 = .ok (.iload_n 1, 1) := by decide +kernel
theorem dX8_scoresAll_35 : decode cX8_scoresAll 35 = .ok (.iload_n 2, 1) := by decide +kernel
theorem dX8_scoresAll_36 : decode cX8_scoresAll 36 = .ok (.if_icmp .ne 7, 3) := by decide +kernel
theorem dX8_scoresAll_39 : decode cX8_scoresAll 39 = .ok (.iconst (-1), 1) := by decide +kernel
theorem dX8_scoresAll_40 : decode cX8_scoresAll 40 = .ok (.goto 19, 3) := by decide +kernel
theorem dX8_scoresAll_43 : decode cX8_scoresAll 43 = .ok (.aload_n 0, 1) := by decide +kernel
theorem dX8_scoresAll_44 : decode cX8_scoresAll 44 = .ok (.aload_n 0, 1) := by decide +kernel
theorem dX8_scoresAll_45 : decode cX8_scoresAll 45 = .ok (.getfield 26, 3) := by decide +kernel
theorem dX8_scoresAll_48 : decode cX8_scoresAll 48 = .ok (.iload_n 1, 1) := by decide +kernel
theorem dX8_scoresAll_49 : decode cX8_scoresAll 49 = .ok (.iaload, 1) := by decide +kernel
theorem dX8_scoresAll_50 : decode cX8_scoresAll 50 = .ok (.aload_n 0, 1) := by decide +kernel
theorem dX8_scoresAll_51 : decode cX8_scoresAll 51 = .ok (.getfield 26, 3) := by decide +kernel
theorem dX8_scoresAll_54 : decode cX8_scoresAll 54 = .ok (.iload_n 2, 1) := by decide +kernel
theorem dX8_scoresAll_55 : decode cX8_scoresAll 55 = .ok (.iaload, 1) := by decide +kernel
theorem dX8_scoresAll_56 : decode cX8_scoresAll 56 = .ok (.invokevirtual 81, 3) := by decide +kernel
theorem dX8_scoresAll_59 : decode cX8_scoresAll 59 = .ok (.iastore, 1) := by decide +kernel
theorem dX8_scoresAll_60 : decode cX8_scoresAll 60 = .ok (.iinc 2 1, 3) := by decide +kernel
theorem dX8_scoresAll_63 : decode cX8_scoresAll 63 = .ok (.goto (-47), 3) := by decide +kernel
theorem dX8_scoresAll_66 : decode cX8_scoresAll 66 = .ok (.iinc 1 1, 3) := by decide +kernel
theorem dX8_scoresAll_69 : decode cX8_scoresAll 69 = .ok (.goto (-63), 3) := by decide +kernel
theorem dX8_scoresAll_72 : decode cX8_scoresAll 72 = .ok (.return_, 1) := by decide +kernel
theorem dX8_between_0 : decode cX8_between 0 = .ok (.iconst 0, 1) := by decide +kernel
theorem dX8_between_1 : decode cX8_between 1 = .ok (.istore_n 3, 1) := by decide +kernel
theorem dX8_between_2 : decode cX8_between 2 = .ok (.aload_n 0, 1) := by decide +kernel
theorem dX8_between_3 : decode cX8_between 3 = .ok (.iconst 0, 1) := by decide +kernel
theorem dX8_between_4 : decode cX8_between 4 = .ok (.putfield 115, 3) := by decide +kernel
theorem dX8_between_7 : decode cX8_between 7 = .ok (.iconst 0, 1) := by decide +kernel
theorem dX8_between_8 : decode cX8_between 8 = .ok (.istore 4, 2) := by decide +kernel
theorem dX8_between_10 : decode cX8_between 10 = .ok (.iload 4, 2) := by decide +kernel
theorem dX8_between_12 : decode cX8_between 12 = .ok (.aload_n 0, 1) := by decide +kernel
theorem dX8_between_13 : decode cX8_between 13 = .ok (.getfield 112, 3) := by decide +kernel
theorem dX8_between_16 : decode cX8_between 16 = .ok (.if_icmp .ge 97, 3) := by decide +kernel
theorem dX8_between_19 : decode cX8_between 19 = .ok (.iconst 0, 1) := by decide +kernel
theorem dX8_between_20 : decode cX8_between 20 = .ok (.istore 5, 2) := by decide +kernel
theorem dX8_between_22 : decode cX8_between 22 = .ok (.iload 5, 2) := by decide +kernel
theorem dX8_between_24 : decode cX8_between 24 = .ok (.aload_n 0, 1) := by decide +kernel
theorem dX8_between_25 : decode cX8_between 25 = .ok (.getfield 112, 3) := by decide +kernel
theorem dX8_between_28 : decode cX8_between 28 = .ok (.if_icmp .ge 79, 3) := by decide +kernel
theorem dX8_between_31 : decode cX8_between 31 = .ok (.aload_n 0, 1) := by decide +kernel
theorem dX8_between_32 : decode cX8_between 32 = .ok (.getfield 47, 3) := by decide +kernel
theorem dX8_between_35 : decode cX8_between 35 = .ok (.iload 4, 2) := by decide +kernel
theorem dX8_between_37 : decode cX8_between 37 = .ok (.iaload, 1) := by decide +kernel
theorem dX8_between_38 : decode cX8_between 38 = .ok (.iload_n 1, 1) := by decide +kernel
theorem dX8_between_39 : decode cX8_between 39 = .ok (.if_icmp .ne 62, 3) := by decide +kernel
theorem dX8_between_42 : decode cX8_between 42 = .ok (.aload_n 0, 1) := by decide +kernel
theorem dX8_between_43 : decode cX8_between 43 = .ok (.getfield 47, 3) := by decide +kernel
theorem dX8_between_46 : decode cX8_between 46 = .ok (.iload 5, 2) := by decide +kernel
theorem dX8_between_48 : decode cX8_between 48 = .ok (.iaload, 1) := by decide +kernel
theorem dX8_between_49 : decode cX8_between 49 = .ok (.iload_n 2, 1) := by decide +kernel
theorem dX8_between_50 : decode cX8_between 50 = .ok (.if_icmp .eq 6, 3) := by decide +kernel
theorem dX8_between_53 : decode cX8_between 53 = .ok (.goto 48, 3) := by decide +kernel
theorem dX8_between_56 : decode cX8_between 56 = .ok (.aload_n 0, 1) := by decide +kernel
theorem dX8_between_57 : decode cX8_between 57 = .ok (.getfield 44, 3) := by decide +kernel
theorem dX8_between_60 : decode cX8_between 60 = .ok (.bipush 8, 2) := by decide +kernel
theorem dX8_between_62 : decode cX8_between 62 = .ok (.iload 4, 2) := by decide +kernel
theorem dX8_between_64 : decode cX8_between 64 = .ok (.imul, 1) := by decide +kernel
theorem dX8_between_65 : decode cX8_between 65 = .ok (.iload 5, 2) := by decide +kernel
theorem dX8_between_67 : decode cX8_between 67 = .ok (.iadd, 1) := by decide +kernel
theorem dX8_between_68 : decode cX8_between 68 = .ok (.iaload, 1) := by decide +kernel
theorem dX8_between_69 : decode cX8_between 69 = .ok (.iconst (-1), 1) := by decide +kernel
theorem dX8_between_70 : decode cX8_between 70 = .ok (.if_icmp .ne 5, 3) := by decide +kernel
theorem dX8_between_73 : decode cX8_between 73 = .ok (.iconst (-1), 1) := by decide +kernel
theorem dX8_between_74 : decode cX8_between 74 = .ok (.ireturn, 1) := by decide +kernel
theorem dX8_between_75 : decode cX8_between 75 = .ok (.iload_n 3, 1) := by decide +kernel
theorem dX8_between_76 : decode cX8_between 76 = .ok (.aload_n 0, 1) := by decide +kernel
theorem dX8_between_77 : decode cX8_between 77 = .ok (.getfield 44, 3) := by decide +kernel
theorem dX8_between_80 : decode cX8_between 80 = .ok (.bipush 8, 2) := by decide +kernel
theorem dX8_between_82 : decode cX8_between 82 = .ok (.iload 4, 2) := by decide +kernel
theorem dX8_between_84 : decode cX8_between 84 = .ok (.imul, 1) := by decide +kernel
theorem dX8_between_85 : decode cX8_between 85 = .ok (.iload 5, 2) := by decide +kernel
theorem dX8_between_87 : decode cX8_between 87 = .ok (.iadd, 1) := by decide +kernel
theorem dX8_between_88 : decode cX8_between 88 = .ok (.iaload, 1) := by decide +kernel
theorem dX8_between_89 : decode cX8_between 89 = .ok (.iadd, 1) := by decide +kernel
theorem dX8_between_90 : decode cX8_between 90 = .ok (.istore_n 3, 1) := by decide +kernel
theorem dX8_between_91 : decode cX8_between 91 = .ok (.aload_n 0, 1) := by decide +kernel
theorem dX8_between_92 : decode cX8_between 92 = .ok (.dup, 1) := by decide +kernel
theorem dX8_between_93 : decode cX8_between 93 = .ok (.getfield 115, 3) := by decide +kernel
theorem dX8_between_96 : decode cX8_between 96 = .ok (.iconst 1, 1) := by decide +kernel
theorem dX8_between_97 : decode cX8_between 97 = .ok (.iadd, 1) := by decide +kernel
theorem dX8_between_98 : decode cX8_between 98 = .ok (.putfield 115, 3) := by decide +kernel
theorem dX8_between_101 : decode cX8_between 101 = .ok (.iinc 5 1, 3) := by decide +kernel
theorem dX8_between_104 : decode cX8_between 104 = .ok (.goto (-82), 3) := by decide +kernel
theorem dX8_between_107 : decode cX8_between 107 = .ok (.iinc 4 1, 3) := by decide +kernel
theorem dX8_between_110 : decode cX8_between 110 = .ok (.goto (-100), 3) := by decide +kernel
theorem dX8_between_113 : decode cX8_between 113 = .ok (.iload_n 3, 1) := by decide +kernel
theorem dX8_between_114 : decode cX8_between 114 = .ok (.ireturn, 1) := by decide +kernel
theorem dX8_joins_0 : decode cX8_joins 0 = .ok (.aload_n 0, 1) := by decide +kernel
theorem dX8_joins_1 : decode cX8_joins 1 = .ok (.invokevirtual 118, 3) := by decide +kernel
theorem dX8_joins_4 : decode cX8_joins 4 = .ok (.iconst 0, 1) := by decide +kernel
theorem dX8_joins_5 : decode cX8_joins 5 = .ok (.istore_n 1, 1) := by decide +kernel
theorem dX8_joins_6 : decode cX8_joins 6 = .ok (.iload_n 1, 1) := by decide +kernel
theorem dX8_joins_7 : decode cX8_joins 7 = .ok (.aload_n 0, 1) := by decide +kernel
theorem dX8_joins_8 : decode cX8_joins 8 = .ok (.getfield 112, 3) := by decide +kernel
theorem dX8_joins_11 : decode cX8_joins 11 = .ok (.if_icmp .ge 16, 3) := by decide +kernel
theorem dX8_joins_14 : decode cX8_joins 14 = .ok (.aload_n 0, 1) := by decide +kernel
theorem dX8_joins_15 : decode cX8_joins 15 = .ok (.getfield 47, 3) := by decide +kernel
theorem dX8_joins_18 : decode cX8_joins 18 = .ok (.iload_n 1, 1) := by decide +kernel
theorem dX8_joins_19 : decode cX8_joins 19 = .ok (.iload_n 1, 1) := by decide +kernel
theorem dX8_joins_20 : decode cX8_joins 20 = .ok (.iastore, 1) := by decide +kernel
theorem dX8_joins_21 : decode cX8_joins 21 = .ok (.iinc 1 1, 3) := by decide +kernel
theorem dX8_joins_24 : decode cX8_joins 24 = .ok (.goto (-18), 3) := by decide +kernel
theorem dX8_joins_27 : decode cX8_joins 27 = .ok (.iconst 1, 1) := by decide +kernel
theorem dX8_joins_28 : decode cX8_joins 28 = .ok (.istore_n 1, 1) := by decide +kernel
theorem dX8_joins_29 : decode cX8_joins 29 = .ok (.iload_n 1, 1) := by decide +kernel
theorem dX8_joins_30 : decode cX8_joins 30 = .ok (.ifCond .eq 207, 3) := by decide +kernel
theorem dX8_joins_33 : decode cX8_joins 33 = .ok (.iconst (-1), 1) := by decide +kernel
theorem dX8_joins_34 : decode cX8_joins 34 = .ok (.istore_n 2, 1) := by decide +kernel
theorem dX8_joins_35 : decode cX8_joins 35 = .ok (.iconst 0, 1) := by decide +kernel
theorem dX8_joins_36 : decode cX8_joins 36 = .ok (.istore_n 3, 1) := by decide +kernel
theorem dX8_joins_37 : decode cX8_joins 37 = .ok (.iconst 0, 1) := by decide +kernel
theorem dX8_joins_38 : decode cX8_joins 38 = .ok (.istore 4, 2) := by decide +kernel
theorem dX8_joins_40 : decode cX8_joins 40 = .ok (.iconst 1, 1) := by decide +kernel
theorem dX8_joins_41 : decode cX8_joins 41 = .ok (.istore 5, 2) := by decide +kernel
theorem dX8_joins_43 : decode cX8_joins 43 = .ok (.iconst 0, 1) := by decide +kernel
theorem dX8_joins_44 : decode cX8_joins 44 = .ok (.istore 6, 2) := by decide +kernel
theorem dX8_joins_46 : decode cX8_joins 46 = .ok (.iload 6, 2) := by decide +kernel
theorem dX8_joins_48 : decode cX8_joins 48 = .ok (.aload_n 0, 1) := by decide +kernel
theorem dX8_joins_49 : decode cX8_joins 49 = .ok (.getfield 112, 3) := by decide +kernel
theorem dX8_joins_52 : decode cX8_joins 52 = .ok (.if_icmp .ge 130, 3) := by decide +kernel
theorem dX8_joins_55 : decode cX8_joins 55 = .ok (.iload 6, 2) := by decide +kernel
theorem dX8_joins_57 : decode cX8_joins 57 = .ok (.iconst 1, 1) := by decide +kernel
theorem dX8_joins_58 : decode cX8_joins 58 = .ok (.iadd, 1) := by decide +kernel
theorem dX8_joins_59 : decode cX8_joins 59 = .ok (.istore 7, 2) := by decide +kernel
theorem dX8_joins_61 : decode cX8_joins 61 = .ok (.iload 7, 2) := by decide +kernel
theorem dX8_joins_63 : decode cX8_joins 63 = .ok (.aload_n 0, 1) := by decide +kernel
theorem dX8_joins_64 : decode cX8_joins 64 = .ok (.getfield 112, 3) := by decide +kernel
theorem dX8_joins_67 : decode cX8_joins 67 = .ok (.if_icmp .ge 109, 3) := by decide +kernel
theorem dX8_joins_70 : decode cX8_joins 70 = .ok (.aload_n 0, 1) := by decide +kernel
theorem dX8_joins_71 : decode cX8_joins 71 = .ok (.getfield 47, 3) := by decide +kernel
theorem dX8_joins_74 : decode cX8_joins 74 = .ok (.iload 6, 2) := by decide +kernel
theorem dX8_joins_76 : decode cX8_joins 76 = .ok (.iaload, 1) := by decide +kernel
theorem dX8_joins_77 : decode cX8_joins 77 = .ok (.iload 6, 2) := by decide +kernel
theorem dX8_joins_79 : decode cX8_joins 79 = .ok (.if_icmp .ne 26, 3) := by decide +kernel
theorem dX8_joins_82 : decode cX8_joins 82 = .ok (.aload_n 0, 1) := by decide +kernel
theorem dX8_joins_83 : decode cX8_joins 83 = .ok (.getfield 47, 3) := by decide +kernel
theorem dX8_joins_86 : decode cX8_joins 86 = .ok (.iload 7, 2) := by decide +kernel
theorem dX8_joins_88 : decode cX8_joins 88 = .ok (.iaload, 1) := by decide +kernel
theorem dX8_joins_89 : decode cX8_joins 89 = .ok (.iload 7, 2) := by decide +kernel
theorem dX8_joins_91 : decode cX8_joins 91 = .ok (.if_icmp .ne 14, 3) := by decide +kernel
theorem dX8_joins_94 : decode cX8_joins 94 = .ok (.aload_n 0, 1) := by decide +kernel
theorem dX8_joins_95 : decode cX8_joins 95 = .ok (.iload 6, 2) := by decide +kernel
theorem dX8_joins_97 : decode cX8_joins 97 = .ok (.iload 7, 2) := by decide +kernel
theorem dX8_joins_99 : decode cX8_joins 99 = .ok (.invokevirtual 121, 3) := by decide +kernel
theorem dX8_joins_102 : decode cX8_joins 102 = .ok (.goto 4, 3) := by decide +kernel
theorem dX8_joins_105 : decode cX8_joins 105 = .ok (.iconst (-1), 1) := by decide +kernel
theorem dX8_joins_106 : decode cX8_joins 106 = .ok (.istore 8, 2) := by decide +kernel
theorem dX8_joins_108 : decode cX8_joins 108 = .ok (.iload 8, 2) := by decide +kernel
theorem dX8_joins_110 : decode cX8_joins 110 = .ok (.iconst (-1), 1) := by decide +kernel
theorem dX8_joins_111 : decode cX8_joins 111 = .ok (.if_icmp .eq 59, 3) := by decide +kernel
theorem dX8_joins_114 : decode cX8_joins 114 = .ok (.iload 8, 2) := by decide +kernel
theorem dX8_joins_116 : decode cX8_joins 116 = .ok (.aload_n 0, 1) := by decide +kernel
theorem dX8_joins_117 : decode cX8_joins 117 = .ok (.getfield 23, 3) := by decide +kernel
theorem dX8_joins_120 : decode cX8_joins 120 = .ok (.aload_n 0, 1) := by decide +kernel
theorem dX8_joins_121 : decode cX8_joins 121 = .ok (.getfield 115, 3) := by decide +kernel
theorem dX8_joins_124 : decode cX8_joins 124 = .ok (.imul, 1) := by decide +kernel
theorem dX8_joins_125 : decode cX8_joins 125 = .ok (.if_icmp .le 6, 3) := by decide +kernel
theorem dX8_joins_128 : decode cX8_joins 128 = .ok (.goto 42, 3) := by decide +kernel
theorem dX8_joins_131 : decode cX8_joins 131 = .ok (.iload_n 2, 1) := by decide +kernel
theorem dX8_joins_132 : decode cX8_joins 132 = .ok (.iconst (-1), 1) := by decide +kernel
theorem dX8_joins_133 : decode cX8_joins 133 = .ok (.if_icmp .eq 21, 3) := by decide +kernel
theorem dX8_joins_136 : decode cX8_joins 136 = .ok (.iload 8, 2) := by decide +kernel
theorem dX8_joins_138 : decode cX8_joins 138 = .ok (.iload 5, 2) := by decide +kernel
theorem dX8_joins_140 : decode cX8_joins 140 = .ok (.imul, 1) := by decide +kernel
theorem dX8_joins_141 : decode cX8_joins 141 = .ok (.iload 4, 2) := by decide +kernel
theorem dX8_joins_143 : decode cX8_joins 143 = .ok (.aload_n 0, 1) := by decide +kernel
theorem dX8_joins_144 : decode cX8_joins 144 = .ok (.getfield 115, 3) := by decide +kernel
theorem dX8_joins_147 : decode cX8_joins 147 = .ok (.imul, 1) := by decide +kernel
theorem dX8_joins_148 : decode cX8_joins 148 = .ok (.if_icmp .lt 6, 3) := by decide +kernel
theorem dX8_joins_151 : decode cX8_joins 151 = .ok (.goto 19, 3) := by decide +kernel
theorem dX8_joins_154 : decode cX8_joins 154 = .ok (.iload 6, 2) := by decide +kernel
theorem dX8_joins_156 : decode cX8_joins 156 = .ok (.istore_n 2, 1) := by decide +kernel
theorem dX8_joins_157 : decode cX8_joins 157 = .ok (.iload 7, 2) := by decide +kernel
theorem dX8_joins_159 : decode cX8_joins 159 = .ok (.istore_n 3, 1) := by decide +kernel
theorem dX8_joins_160 : decode cX8_joins 160 = .ok (.iload 8, 2) := by decide +kernel
theorem dX8_joins_162 : decode cX8_joins 162 = .ok (.istore 4, 2) := by decide +kernel
theorem dX8_joins_164 : decode cX8_joins 164 = .ok (.aload_n 0, 1) := by decide +kernel
theorem dX8_joins_165 : decode cX8_joins 165 = .ok (.getfield 115, 3) := by decide +kernel
theorem dX8_joins_168 : decode cX8_joins 168 = .ok (.istore 5, 2) := by decide +kernel
theorem dX8_joins_170 : decode cX8_joins 170 = .ok (.iinc 7 1, 3) := by decide +kernel
theorem dX8_joins_173 : decode cX8_joins 173 = .ok (.goto (-112), 3) := by decide +kernel
theorem dX8_joins_176 : decode cX8_joins 176 = .ok (.iinc 6 1, 3) := by decide +kernel
theorem dX8_joins_179 : decode cX8_joins 179 = .ok (.goto (-133), 3) := by decide +kernel
theorem dX8_joins_182 : decode cX8_joins 182 = .ok (.iload_n 2, 1) := by decide +kernel
theorem dX8_joins_183 : decode cX8_joins 183 = .ok (.iconst (-1), 1) := by decide +kernel
theorem dX8_joins_184 : decode cX8_joins 184 = .ok (.if_icmp .eq 7, 3) := by decide +kernel
theorem dX8_joins_187 : decode cX8_joins 187 = .ok (.iconst 1, 1) := by decide +kernel
theorem dX8_joins_188 : decode cX8_joins 188 = .ok (.goto 4, 3) := by decide +kernel
theorem dX8_joins_191 : decode cX8_joins 191 = .ok (.iconst 0, 1) := by decide +kernel
theorem dX8_joins_192 : decode cX8_joins 192 = .ok (.istore_n 1, 1) := by decide +kernel
theorem dX8_joins_193 : decode cX8_joins 193 = .ok (.iconst 0, 1) := by decide +kernel
theorem dX8_joins_194 : decode cX8_joins 194 = .ok (.istore 6, 2) := by decide +kernel
theorem dX8_joins_196 : decode cX8_joins 196 = .ok (.iload 6, 2) := by decide +kernel
theorem dX8_joins_198 : decode cX8_joins 198 = .ok (.aload_n 0, 1) := by decide +kernel
theorem dX8_joins_199 : decode cX8_joins 199 = .ok (.getfield 112, 3) := by decide +kernel
theorem dX8_joins_202 : decode cX8_joins 202 = .ok (.if_icmp .ge 32, 3) := by decide +kernel
theorem dX8_joins_205 : decode cX8_joins 205 = .ok (.iload_n 1, 1) := by decide +kernel
theorem dX8_joins_206 : decode cX8_joins 206 = .ok (.ifCond .eq 28, 3) := by decide +kernel
theorem dX8_joins_209 : decode cX8_joins 209 = .ok (.aload_n 0, 1) := by decide +kernel
theorem dX8_joins_210 : decode cX8_joins 210 = .ok (.getfield 47, 3) := by decide +kernel
theorem dX8_joins_213 : decode cX8_joins 213 = .ok (.iload 6, 2) := by decide +kernel
theorem dX8_joins_215 : decode cX8_joins 215 = .ok (.iaload, 1) := by decide +kernel
theorem dX8_joins_216 : decode cX8_joins 216 = .ok (.iload_n 3, 1) := by decide +kernel
theorem dX8_joins_217 : decode cX8_joins 217 = .ok (.if_icmp .ne 11, 3) := by decide +kernel
theorem dX8_joins_220 : decode cX8_joins 220 = .ok (.aload_n 0, 1) := by decide +kernel
theorem dX8_joins_221 : decode cX8_joins 221 = .ok (.getfield 47, 3) := by decide +kernel
theorem dX8_joins_224 : decode cX8_joins 224 = .ok (.iload 6, 2) := by decide +kernel
theorem dX8_joins_226 : decode cX8_joins 226 = .ok (.iload_n 2, 1) := by decide +kernel
theorem dX8_joins_227 : decode cX8_joins 227 = .ok (.iastore, 1) := by decide +kernel
theorem dX8_joins_228 : decode cX8_joins 228 = .ok (.iinc 6 1, 3) := by decide +kernel
theorem dX8_joins_231 : decode cX8_joins 231 = .ok (.goto (-35), 3) := by decide +kernel
theorem dX8_joins_234 : decode cX8_joins 234 = .ok (.goto (-205), 3) := by decide +kernel
theorem dX8_joins_237 : decode cX8_joins 237 = .ok (.return_, 1) := by decide +kernel
theorem dX8_voice_0 : decode cX8_voice 0 = .ok (.iload_n 1, 1) := by decide +kernel
theorem dX8_voice_1 : decode cX8_voice 1 = .ok (.iconst 0, 1) := by decide +kernel
theorem dX8_voice_2 : decode cX8_voice 2 = .ok (.aload_n 0, 1) := by decide +kernel
theorem dX8_voice_3 : decode cX8_voice 3 = .ok (.getfield 112, 3) := by decide +kernel
theorem dX8_voice_6 : decode cX8_voice 6 = .ok (.iconst 1, 1) := by decide +kernel
theorem dX8_voice_7 : decode cX8_voice 7 = .ok (.isub, 1) := by decide +kernel
theorem dX8_voice_8 : decode cX8_voice 8 = .ok (.invokestatic 59, 3) := by decide +kernel
theorem dX8_voice_11 : decode cX8_voice 11 = .ok (.ifCond .ne 5, 3) := by decide +kernel
theorem dX8_voice_14 : decode cX8_voice 14 = .ok (.iconst (-1), 1) := by decide +kernel
theorem dX8_voice_15 : decode cX8_voice 15 = .ok (.ireturn, 1) := by decide +kernel
theorem dX8_voice_16 : decode cX8_voice 16 = .ok (.aload_n 0, 1) := by decide +kernel
theorem dX8_voice_17 : decode cX8_voice 17 = .ok (.invokevirtual 124, 3) := by decide +kernel
theorem dX8_voice_20 : decode cX8_voice 20 = .ok (.aload_n 0, 1) := by decide +kernel
theorem dX8_voice_21 : decode cX8_voice 21 = .ok (.getfield 47, 3) := by decide +kernel
theorem dX8_voice_24 : decode cX8_voice 24 = .ok (.iload_n 1, 1) := by decide +kernel
theorem dX8_voice_25 : decode cX8_voice 25 = .ok (.iaload, 1) := by decide +kernel
theorem dX8_voice_26 : decode cX8_voice 26 = .ok (.ireturn, 1) := by decide +kernel
theorem dX8_voices_0 : decode cX8_voices 0 = .ok (.aload_n 0, 1) := by decide +kernel
theorem dX8_voices_1 : decode cX8_voices 1 = .ok (.invokevirtual 124, 3) := by decide +kernel
theorem dX8_voices_4 : decode cX8_voices 4 = .ok (.iconst 0, 1) := by decide +kernel
theorem dX8_voices_5 : decode cX8_voices 5 = .ok (.istore_n 1, 1) := by decide +kernel
theorem dX8_voices_6 : decode cX8_voices 6 = .ok (.iconst 0, 1) := by decide +kernel
theorem dX8_voices_7 : decode cX8_voices 7 = .ok (.istore_n 2, 1) := by decide +kernel
theorem dX8_voices_8 : decode cX8_voices 8 = .ok (.iload_n 2, 1) := by decide +kernel
theorem dX8_voices_9 : decode cX8_voices 9 = .ok (.aload_n 0, 1) := by decide +kernel
theorem dX8_voices_10 : decode cX8_voices 10 = .ok (.getfield 112, 3) := by decide +kernel
theorem dX8_voices_13 : decode cX8_voices 13 = .ok (.if_icmp .ge 27, 3) := by decide +kernel
theorem dX8_voices_16 : decode cX8_voices 16 = .ok (.iload_n 1, 1) := by decide +kernel
theorem dX8_voices_17 : decode cX8_voices 17 = .ok (.aload_n 0, 1) := by decide +kernel
theorem dX8_voices_18 : decode cX8_voices 18 = .ok (.getfield 47, 3) := by decide +kernel
theorem dX8_voices_21 : decode cX8_voices 21 = .ok (.iload_n 2, 1) := by decide +kernel
theorem dX8_voices_22 : decode cX8_voices 22 = .ok (.iaload, 1) := by decide +kernel
theorem dX8_voices_23 : decode cX8_voices 23 = .ok (.iload_n 2, 1) := by decide +kernel
theorem dX8_voices_24 : decode cX8_voices 24 = .ok (.if_icmp .ne 7, 3) := by decide +kernel
theorem dX8_voices_27 : decode cX8_voices 27 = .ok (.iconst 1, 1) := by decide +kernel
theorem dX8_voices_28 : decode cX8_voices 28 = .ok (.goto 4, 3) := by decide +kernel
theorem dX8_voices_31 : decode cX8_voices 31 = .ok (.iconst 0, 1) := by decide +kernel
theorem dX8_voices_32 : decode cX8_voices 32 = .ok (.iadd, 1) := by decide +kernel
theorem dX8_voices_33 : decode cX8_voices 33 = .ok (.istore_n 1, 1) := by decide +kernel
theorem dX8_voices_34 : decode cX8_voices 34 = .ok (.iinc 2 1, 3) := by decide +kernel
theorem dX8_voices_37 : decode cX8_voices 37 = .ok (.goto (-29), 3) := by decide +kernel
theorem dX8_voices_40 : decode cX8_voices 40 = .ok (.iload_n 1, 1) := by decide +kernel
theorem dX8_voices_41 : decode cX8_voices 41 = .ok (.ireturn, 1) := by decide +kernel
theorem dX8_costOf_0 : decode cX8_costOf 0 = .ok (.aload_n 0, 1) := by decide +kernel
theorem dX8_costOf_1 : decode cX8_costOf 1 = .ok (.getfield 23, 3) := by decide +kernel
theorem dX8_costOf_4 : decode cX8_costOf 4 = .ok (.istore_n 2, 1) := by decide +kernel
theorem dX8_costOf_5 : decode cX8_costOf 5 = .ok (.iconst 0, 1) := by decide +kernel
theorem dX8_costOf_6 : decode cX8_costOf 6 = .ok (.istore_n 3, 1) := by decide +kernel
theorem dX8_costOf_7 : decode cX8_costOf 7 = .ok (.iload_n 3, 1) := by decide +kernel
theorem dX8_costOf_8 : decode cX8_costOf 8 = .ok (.aload_n 0, 1) := by decide +kernel
theorem dX8_costOf_9 : decode cX8_costOf 9 = .ok (.getfield 112, 3) := by decide +kernel
theorem dX8_costOf_12 : decode cX8_costOf 12 = .ok (.if_icmp .ge 77, 3) := by decide +kernel
theorem dX8_costOf_15 : decode cX8_costOf 15 = .ok (.iconst 0, 1) := by decide +kernel
theorem dX8_costOf_16 : decode cX8_costOf 16 = .ok (.istore 4, 2) := by decide +kernel
theorem dX8_costOf_18 : decode cX8_costOf 18 = .ok (.iload 4, 2) := by decide +kernel
theorem dX8_costOf_20 : decode cX8_costOf 20 = .ok (.iload_n 3, 1) := by decide +kernel
theorem dX8_costOf_21 : decode cX8_costOf 21 = .ok (.if_icmp .ge 62, 3) := by decide +kernel
theorem dX8_costOf_24 : decode cX8_costOf 24 = .ok (.iload_n 1, 1) := by decide +kernel
theorem dX8_costOf_25 : decode cX8_costOf 25 = .ok (.iload_n 3, 1) := by decide +kernel
theorem dX8_costOf_26 : decode cX8_costOf 26 = .ok (.ishr, 1) := by decide +kernel
theorem dX8_costOf_27 : decode cX8_costOf 27 = .ok (.iconst 1, 1) := by decide +kernel
theorem dX8_costOf_28 : decode cX8_costOf 28 = .ok (.iand, 1) := by decide +kernel
theorem dX8_costOf_29 : decode cX8_costOf 29 = .ok (.ifCond .eq 48, 3) := by decide +kernel
theorem dX8_costOf_32 : decode cX8_costOf 32 = .ok (.iload_n 1, 1) := by decide +kernel
theorem dX8_costOf_33 : decode cX8_costOf 33 = .ok (.iload 4, 2) := by decide +kernel
theorem dX8_costOf_35 : decode cX8_costOf 35 = .ok (.ishr, 1) := by decide +kernel
theorem dX8_costOf_36 : decode cX8_costOf 36 = .ok (.iconst 1, 1) := by decide +kernel
theorem dX8_costOf_37 : decode cX8_costOf 37 = .ok (.iand, 1) := by decide +kernel
theorem dX8_costOf_38 : decode cX8_costOf 38 = .ok (.ifCond .ne 6, 3) := by decide +kernel
theorem dX8_costOf_41 : decode cX8_costOf 41 = .ok (.goto 36, 3) := by decide +kernel
theorem dX8_costOf_44 : decode cX8_costOf 44 = .ok (.aload_n 0, 1) := by decide +kernel
theorem dX8_costOf_45 : decode cX8_costOf 45 = .ok (.getfield 44, 3) := by decide +kernel
theorem dX8_costOf_48 : decode cX8_costOf 48 = .ok (.bipush 8, 2) := by decide +kernel
theorem dX8_costOf_50 : decode cX8_costOf 50 = .ok (.iload_n 3, 1) := by decide +kernel
theorem dX8_costOf_51 : decode cX8_costOf 51 = .ok (.imul, 1) := by decide +kernel
theorem dX8_costOf_52 : decode cX8_costOf 52 = .ok (.iload 4, 2) := by decide +kernel
theorem dX8_costOf_54 : decode cX8_costOf 54 = .ok (.iadd, 1) := by decide +kernel
theorem dX8_costOf_55 : decode cX8_costOf 55 = .ok (.iaload, 1) := by decide +kernel
theorem dX8_costOf_56 : decode cX8_costOf 56 = .ok (.iconst (-1), 1) := by decide +kernel
theorem dX8_costOf_57 : decode cX8_costOf 57 = .ok (.if_icmp .ne 5, 3) := by decide +kernel
theorem dX8_costOf_60 : decode cX8_costOf 60 = .ok (.iconst (-1), 1) := by decide +kernel
theorem dX8_costOf_61 : decode cX8_costOf 61 = .ok (.ireturn, 1) := by decide +kernel
theorem dX8_costOf_62 : decode cX8_costOf 62 = .ok (.iload_n 2, 1) := by decide +kernel
theorem dX8_costOf_63 : decode cX8_costOf 63 = .ok (.aload_n 0, 1) := by decide +kernel
theorem dX8_costOf_64 : decode cX8_costOf 64 = .ok (.getfield 44, 3) := by decide +kernel
theorem dX8_costOf_67 : decode cX8_costOf 67 = .ok (.bipush 8, 2) := by decide +kernel
theorem dX8_costOf_69 : decode cX8_costOf 69 = .ok (.iload_n 3, 1) := by decide +kernel
theorem dX8_costOf_70 : decode cX8_costOf 70 = .ok (.imul, 1) := by decide +kernel
theorem dX8_costOf_71 : decode cX8_costOf 71 = .ok (.iload 4, 2) := by decide +kernel
theorem dX8_costOf_73 : decode cX8_costOf 73 = .ok (.iadd, 1) := by decide +kernel
theorem dX8_costOf_74 : decode cX8_costOf 74 = .ok (.iaload, 1) := by decide +kernel
theorem dX8_costOf_75 : decode cX8_costOf 75 = .ok (.iadd, 1) := by decide +kernel
theorem dX8_costOf_76 : decode cX8_costOf 76 = .ok (.istore_n 2, 1) := by decide +kernel
theorem dX8_costOf_77 : decode cX8_costOf 77 = .ok (.iinc 4 1, 3) := by decide +kernel
theorem dX8_costOf_80 : decode cX8_costOf 80 = .ok (.goto (-62), 3) := by decide +kernel
theorem dX8_costOf_83 : decode cX8_costOf 83 = .ok (.iinc 3 1, 3) := by decide +kernel
theorem dX8_costOf_86 : decode cX8_costOf 86 = .ok (.goto (-79), 3) := by decide +kernel
theorem dX8_costOf_89 : decode cX8_costOf 89 = .ok (.iload_n 2, 1) := by decide +kernel
theorem dX8_costOf_90 : decode cX8_costOf 90 = .ok (.ireturn, 1) := by decide +kernel
theorem dX8_spare_0 : decode cX8_spare 0 = .ok (.aload_n 0, 1) := by decide +kernel
theorem dX8_spare_1 : decode cX8_spare 1 = .ok (.invokevirtual 118, 3) := by decide +kernel
theorem dX8_spare_4 : decode cX8_spare 4 = .ok (.aload_n 0, 1) := by decide +kernel
theorem dX8_spare_5 : decode cX8_spare 5 = .ok (.getfield 50, 3) := by decide +kernel
theorem dX8_spare_8 : decode cX8_spare 8 = .ok (.iconst 0, 1) := by decide +kernel
theorem dX8_spare_9 : decode cX8_spare 9 = .ok (.iconst 0, 1) := by decide +kernel
theorem dX8_spare_10 : decode cX8_spare 10 = .ok (.iastore, 1) := by decide +kernel
theorem dX8_spare_11 : decode cX8_spare 11 = .ok (.iconst 1, 1) := by decide +kernel
theorem dX8_spare_12 : decode cX8_spare 12 = .ok (.istore_n 1, 1) := by decide +kernel
theorem dX8_spare_13 : decode cX8_spare 13 = .ok (.iload_n 1, 1) := by decide +kernel
theorem dX8_spare_14 : decode cX8_spare 14 = .ok (.iconst 1, 1) := by decide +kernel
theorem dX8_spare_15 : decode cX8_spare 15 = .ok (.aload_n 0, 1) := by decide +kernel
theorem dX8_spare_16 : decode cX8_spare 16 = .ok (.getfield 112, 3) := by decide +kernel
theorem dX8_spare_19 : decode cX8_spare 19 = .ok (.ishl, 1) := by decide +kernel
theorem dX8_spare_20 : decode cX8_spare 20 = .ok (.if_icmp .ge 99, 3) := by decide +kernel
theorem dX8_spare_23 : decode cX8_spare 23 = .ok (.aload_n 0, 1) := by decide +kernel
theorem dX8_spare_24 : decode cX8_spare 24 = .ok (.getfield 50, 3) := by decide +kernel
theorem dX8_spare_27 : decode cX8_spare 27 = .ok (.iload_n 1, 1) := by decide +kernel
theorem dX8_spare_28 : decode cX8_spare 28 = .ok (.iconst (-1), 1) := by decide +kernel
theorem dX8_spare_29 : decode cX8_spare 29 = .ok (.iastore, 1) := by decide +kernel
theorem dX8_spare_30 : decode cX8_spare 30 = .ok (.iload_n 1, 1) := by decide +kernel
theorem dX8_spare_31 : decode cX8_spare 31 = .ok (.istore_n 2, 1) := by decide +kernel
theorem dX8_spare_32 : decode cX8_spare 32 = .ok (.iload_n 2, 1) := by decide +kernel
theorem dX8_spare_33 : decode cX8_spare 33 = .ok (.ifCond .le 80, 3) := by decide +kernel
theorem dX8_spare_36 : decode cX8_spare 36 = .ok (.iconst 2, 1) := by decide +kernel
theorem dX8_spare_37 : decode cX8_spare 37 = .ok (.iload_n 2, 1) := by decide +kernel
theorem dX8_spare_38 : decode cX8_spare 38 = .ok (.imul, 1) := by decide +kernel
theorem dX8_spare_39 : decode cX8_spare 39 = .ok (.iload_n 1, 1) := by decide +kernel
theorem dX8_spare_40 : decode cX8_spare 40 = .ok (.if_icmp .le 11, 3) := by decide +kernel
theorem dX8_spare_43 : decode cX8_spare 43 = .ok (.aload_n 0, 1) := by decide +kernel
theorem dX8_spare_44 : decode cX8_spare 44 = .ok (.iload_n 2, 1) := by decide +kernel
theorem dX8_spare_45 : decode cX8_spare 45 = .ok (.invokevirtual 127, 3) := by decide +kernel
theorem dX8_spare_48 : decode cX8_spare 48 = .ok (.goto 4, 3) := by decide +kernel
theorem dX8_spare_51 : decode cX8_spare 51 = .ok (.iconst (-1), 1) := by decide +kernel
theorem dX8_spare_52 : decode cX8_spare 52 = .ok (.istore_n 3, 1) := by decide +kernel
theorem dX8_spare_53 : decode cX8_spare 53 = .ok (.iload_n 3, 1) := by decide +kernel
theorem dX8_spare_54 : decode cX8_spare 54 = .ok (.iconst (-1), 1) := by decide +kernel
theorem dX8_spare_55 : decode cX8_spare 55 = .ok (.if_icmp .ne 6, 3) := by decide +kernel
theorem dX8_spare_58 : decode cX8_spare 58 = .ok (.goto 46, 3) := by decide +kernel
theorem dX8_spare_61 : decode cX8_spare 61 = .ok (.iload_n 3, 1) := by decide +kernel
theorem dX8_spare_62 : decode cX8_spare 62 = .ok (.aload_n 0, 1) := by decide +kernel
theorem dX8_spare_63 : decode cX8_spare 63 = .ok (.getfield 50, 3) := by decide +kernel
theorem dX8_spare_66 : decode cX8_spare 66 = .ok (.iload_n 1, 1) := by decide +kernel
theorem dX8_spare_67 : decode cX8_spare 67 = .ok (.iload_n 2, 1) := by decide +kernel
theorem dX8_spare_68 : decode cX8_spare 68 = .ok (.iconst (-1), 1) := by decide +kernel
theorem dX8_spare_69 : decode cX8_spare 69 = .ok (.ixor, 1) := by decide +kernel
theorem dX8_spare_70 : decode cX8_spare 70 = .ok (.iand, 1) := by decide +kernel
theorem dX8_spare_71 : decode cX8_spare 71 = .ok (.iaload, 1) := by decide +kernel
theorem dX8_spare_72 : decode cX8_spare 72 = .ok (.iadd, 1) := by decide +kernel
theorem dX8_spare_73 : decode cX8_spare 73 = .ok (.istore 4, 2) := by decide +kernel
theorem dX8_spare_75 : decode cX8_spare 75 = .ok (.aload_n 0, 1) := by decide +kernel
theorem dX8_spare_76 : decode cX8_spare 76 = .ok (.getfield 50, 3) := by decide +kernel
theorem dX8_spare_79 : decode cX8_spare 79 = .ok (.iload_n 1, 1) := by decide +kernel
theorem dX8_spare_80 : decode cX8_spare 80 = .ok (.iaload, 1) := by decide +kernel
theorem dX8_spare_81 : decode cX8_spare 81 = .ok (.iconst (-1), 1) := by decide +kernel
theorem dX8_spare_82 : decode cX8_spare 82 = .ok (.if_icmp .eq 14, 3) := by decide +kernel
theorem dX8_spare_85 : decode cX8_spare 85 = .ok (.iload 4, 2) := by decide +kernel
theorem dX8_spare_87 : decode cX8_spare 87 = .ok (.aload_n 0, 1) := by decide +kernel
theorem dX8_spare_88 : decode cX8_spare 88 = .ok (.getfield 50, 3) := by decide +kernel
theorem dX8_spare_91 : decode cX8_spare 91 = .ok (.iload_n 1, 1) := by decide +kernel
theorem dX8_spare_92 : decode cX8_spare 92 = .ok (.iaload, 1) := by decide +kernel
theorem dX8_spare_93 : decode cX8_spare 93 = .ok (.if_icmp .ge 11, 3) := by decide +kernel
theorem dX8_spare_96 : decode cX8_spare 96 = .ok (.aload_n 0, 1) := by decide +kernel
theorem dX8_spare_97 : decode cX8_spare 97 = .ok (.getfield 50, 3) := by decide +kernel
theorem dX8_spare_100 : decode cX8_spare 100 = .ok (.iload_n 1, 1) := by decide +kernel
theorem dX8_spare_101 : decode cX8_spare 101 = .ok (.iload 4, 2) := by decide +kernel
theorem dX8_spare_103 : decode cX8_spare 103 = .ok (.iastore, 1) := by decide +kernel
theorem dX8_spare_104 : decode cX8_spare 104 = .ok (.iload_n 2, 1) := by decide +kernel
theorem dX8_spare_105 : decode cX8_spare 105 = .ok (.iconst 1, 1) := by decide +kernel
theorem dX8_spare_106 : decode cX8_spare 106 = .ok (.isub, 1) := by decide +kernel
theorem dX8_spare_107 : decode cX8_spare 107 = .ok (.iload_n 1, 1) := by decide +kernel
theorem dX8_spare_108 : decode cX8_spare 108 = .ok (.iand, 1) := by decide +kernel
theorem dX8_spare_109 : decode cX8_spare 109 = .ok (.istore_n 2, 1) := by decide +kernel
theorem dX8_spare_110 : decode cX8_spare 110 = .ok (.goto (-78), 3) := by decide +kernel
theorem dX8_spare_113 : decode cX8_spare 113 = .ok (.iinc 1 1, 3) := by decide +kernel
theorem dX8_spare_116 : decode cX8_spare 116 = .ok (.goto (-103), 3) := by decide +kernel
theorem dX8_spare_119 : decode cX8_spare 119 = .ok (.aload_n 0, 1) := by decide +kernel
theorem dX8_spare_120 : decode cX8_spare 120 = .ok (.getfield 50, 3) := by decide +kernel
theorem dX8_spare_123 : decode cX8_spare 123 = .ok (.iconst 1, 1) := by decide +kernel
theorem dX8_spare_124 : decode cX8_spare 124 = .ok (.aload_n 0, 1) := by decide +kernel
theorem dX8_spare_125 : decode cX8_spare 125 = .ok (.getfield 112, 3) := by decide +kernel
theorem dX8_spare_128 : decode cX8_spare 128 = .ok (.ishl, 1) := by decide +kernel
theorem dX8_spare_129 : decode cX8_spare 129 = .ok (.iconst 1, 1) := by decide +kernel
theorem dX8_spare_130 : decode cX8_spare 130 = .ok (.isub, 1) := by decide +kernel
theorem dX8_spare_131 : decode cX8_spare 131 = .ok (.iaload, 1) := by decide +kernel
theorem dX8_spare_132 : decode cX8_spare 132 = .ok (.ireturn, 1) := by decide +kernel
theorem dX8_lines_0 : decode cX8_lines 0 = .ok (.aload_n 0, 1) := by decide +kernel
theorem dX8_lines_1 : decode cX8_lines 1 = .ok (.invokevirtual 78, 3) := by decide +kernel
theorem dX8_lines_4 : decode cX8_lines 4 = .ok (.iconst 0, 1) := by decide +kernel
theorem dX8_lines_5 : decode cX8_lines 5 = .ok (.istore_n 2, 1) := by decide +kernel
theorem dX8_lines_6 : decode cX8_lines 6 = .ok (.iconst 0, 1) := by decide +kernel
theorem dX8_lines_7 : decode cX8_lines 7 = .ok (.istore_n 3, 1) := by decide +kernel
theorem dX8_lines_8 : decode cX8_lines 8 = .ok (.iload_n 3, 1) := by decide +kernel
theorem dX8_lines_9 : decode cX8_lines 9 = .ok (.aload_n 0, 1) := by decide +kernel
theorem dX8_lines_10 : decode cX8_lines 10 = .ok (.getfield 56, 3) := by decide +kernel
theorem dX8_lines_13 : decode cX8_lines 13 = .ok (.if_icmp .ge 103, 3) := by decide +kernel
theorem dX8_lines_16 : decode cX8_lines 16 = .ok (.iload_n 3, 1) := by decide +kernel
theorem dX8_lines_17 : decode cX8_lines 17 = .ok (.iload_n 1, 1) := by decide +kernel
theorem dX8_lines_18 : decode cX8_lines 18 = .ok (.if_icmp .eq 20, 3) := by decide +kernel
theorem dX8_lines_21 : decode cX8_lines 21 = .ok (.aload_n 0, 1) := by decide +kernel
theorem dX8_lines_22 : decode cX8_lines 22 = .ok (.iload_n 3, 1) := by decide +kernel
theorem dX8_lines_23 : decode cX8_lines 23 = .ok (.invokevirtual 84, 3) := by decide +kernel
theorem dX8_lines_26 : decode cX8_lines 26 = .ok (.ifCond .eq 12, 3) := by decide +kernel
theorem dX8_lines_29 : decode cX8_lines 29 = .ok (.aload_n 0, 1) := by decide +kernel
theorem dX8_lines_30 : decode cX8_lines 30 = .ok (.iload_n 1, 1) := by decide +kernel
theorem dX8_lines_31 : decode cX8_lines 31 = .ok (.iload_n 3, 1) := by decide +kernel
theorem dX8_lines_32 : decode cX8_lines 32 = .ok (.invokevirtual 81, 3) := by decide +kernel
theorem dX8_lines_35 : decode cX8_lines 35 = .ok (.goto 4, 3) := by decide +kernel
theorem dX8_lines_38 : decode cX8_lines 38 = .ok (.iconst (-1), 1) := by decide +kernel
theorem dX8_lines_39 : decode cX8_lines 39 = .ok (.istore 4, 2) := by decide +kernel
theorem dX8_lines_41 : decode cX8_lines 41 = .ok (.iload 4, 2) := by decide +kernel
theorem dX8_lines_43 : decode cX8_lines 43 = .ok (.iconst (-1), 1) := by decide +kernel
theorem dX8_lines_44 : decode cX8_lines 44 = .ok (.if_icmp .ne 6, 3) := by decide +kernel
theorem dX8_lines_47 : decode cX8_lines 47 = .ok (.goto 63, 3) := by decide +kernel
theorem dX8_lines_50 : decode cX8_lines 50 = .ok (.iload_n 2, 1) := by decide +kernel
theorem dX8_lines_51 : decode cX8_lines 51 = .ok (.istore 5, 2) := by decide +kernel
theorem dX8_lines_53 : decode cX8_lines 53 = .ok (.iload 5, 2) := by decide +kernel
theorem dX8_lines_55 : decode cX8_lines 55 = .ok (.ifCond .le 44, 3) := by decide +kernel
theorem dX8_lines_58 : decode cX8_lines 58 = .ok (.aload_n 0, 1) := by decide +kernel
theorem dX8_lines_59 : decode cX8_lines 59 = .ok (.iload_n 1, 1) := by decide +kernel
theorem dX8_lines_60 : decode cX8_lines 60 = .ok (.aload_n 0, 1) := by decide +kernel
theorem dX8_lines_61 : decode cX8_lines 61 = .ok (.getfield 53, 3) := by decide +kernel
theorem dX8_lines_64 : decode cX8_lines 64 = .ok (.iload 5, 2) := by decide +kernel
theorem dX8_lines_66 : decode cX8_lines 66 = .ok (.iconst 1, 1) := by decide +kernel
theorem dX8_lines_67 : decode cX8_lines 67 = .ok (.isub, 1) := by decide +kernel
theorem dX8_lines_68 : decode cX8_lines 68 = .ok (.iaload, 1) := by decide +kernel
theorem dX8_lines_69 : decode cX8_lines 69 = .ok (.invokevirtual 81, 3) := by decide +kernel
theorem dX8_lines_72 : decode cX8_lines 72 = .ok (.iload 4, 2) := by decide +kernel
theorem dX8_lines_74 : decode cX8_lines 74 = .ok (.if_icmp .le 25, 3) := by decide +kernel
theorem dX8_lines_77 : decode cX8_lines 77 = .ok (.aload_n 0, 1) := by decide +kernel
theorem dX8_lines_78 : decode cX8_lines 78 = .ok (.getfield 53, 3) := by decide +kernel
theorem dX8_lines_81 : decode cX8_lines 81 = .ok (.iload 5, 2) := by decide +kernel
theorem dX8_lines_83 : decode cX8_lines 83 = .ok (.aload_n 0, 1) := by decide +kernel
theorem dX8_lines_84 : decode cX8_lines 84 = .ok (.getfield 53, 3) := by decide +kernel
theorem dX8_lines_87 : decode cX8_lines 87 = .ok (.iload 5, 2) := by decide +kernel
theorem dX8_lines_89 : decode cX8_lines 89 = .ok (.iconst 1, 1) := by decide +kernel
theorem dX8_lines_90 : decode cX8_lines 90 = .ok (.isub, 1) := by decide +kernel
theorem dX8_lines_91 : decode cX8_lines 91 = .ok (.iaload, 1) := by decide +kernel
theorem dX8_lines_92 : decode cX8_lines 92 = .ok (.iastore, 1) := by decide +kernel
theorem dX8_lines_93 : decode cX8_lines 93 = .ok (.iinc 5 (-1), 3) := by decide +kernel
theorem dX8_lines_96 : decode cX8_lines 96 = .ok (.goto (-43), 3) := by decide +kernel
theorem dX8_lines_99 : decode cX8_lines 99 = .ok (.aload_n 0, 1) := by decide +kernel
theorem dX8_lines_100 : decode cX8_lines 100 = .ok (.getfield 53, 3) := by decide +kernel
theorem dX8_lines_103 : decode cX8_lines 103 = .ok (.iload 5, 2) := by decide +kernel
theorem dX8_lines_105 : decode cX8_lines 105 = .ok (.iload_n 3, 1) := by decide +kernel
theorem dX8_lines_106 : decode cX8_lines 106 = .ok (.iastore, 1) := by decide +kernel
theorem dX8_lines_107 : decode cX8_lines 107 = .ok (.iinc 2 1, 3) := by decide +kernel
theorem dX8_lines_110 : decode cX8_lines 110 = .ok (.iinc 3 1, 3) := by decide +kernel
theorem dX8_lines_113 : decode cX8_lines 113 = .ok (.goto (-105), 3) := by decide +kernel
theorem dX8_lines_116 : decode cX8_lines 116 = .ok (.iload_n 2, 1) := by decide +kernel
theorem dX8_lines_117 : decode cX8_lines 117 = .ok (.ireturn, 1) := by decide +kernel
theorem dX8_lined_0 : decode cX8_lined 0 = .ok (.aload_n 0, 1) := by decide +kernel
theorem dX8_lined_1 : decode cX8_lined 1 = .ok (.iload_n 1, 1) := by decide +kernel
theorem dX8_lined_2 : decode cX8_lined 2 = .ok (.invokevirtual 63, 3) := by decide +kernel
theorem dX8_lined_5 : decode cX8_lined 5 = .ok (.ifCond .eq 27, 3) := by decide +kernel
theorem dX8_lined_8 : decode cX8_lined 8 = .ok (.iload_n 2, 1) := by decide +kernel
theorem dX8_lined_9 : decode cX8_lined 9 = .ok (.iconst 0, 1) := by decide +kernel
theorem dX8_lined_10 : decode cX8_lined 10 = .ok (.aload_n 0, 1) := by decide +kernel
theorem dX8_lined_11 : decode cX8_lined 11 = .ok (.iload_n 1, 1) := by decide +kernel
theorem dX8_lined_12 : decode cX8_lined 12 = .ok (.invokevirtual 130, 3) := by decide +kernel
theorem dX8_lined_15 : decode cX8_lined 15 = .ok (.iconst 1, 1) := by decide +kernel
theorem dX8_lined_16 : decode cX8_lined 16 = .ok (.isub, 1) := by decide +kernel
theorem dX8_lined_17 : decode cX8_lined 17 = .ok (.invokestatic 59, 3) := by decide +kernel
theorem dX8_lined_20 : decode cX8_lined 20 = .ok (.ifCond .eq 12, 3) := by decide +kernel
theorem dX8_lined_23 : decode cX8_lined 23 = .ok (.aload_n 0, 1) := by decide +kernel
theorem dX8_lined_24 : decode cX8_lined 24 = .ok (.getfield 53, 3) := by decide +kernel
theorem dX8_lined_27 : decode cX8_lined 27 = .ok (.iload_n 2, 1) := by decide +kernel
theorem dX8_lined_28 : decode cX8_lined 28 = .ok (.iaload, 1) := by decide +kernel
theorem dX8_lined_29 : decode cX8_lined 29 = .ok (.goto 4, 3) := by decide +kernel
theorem dX8_lined_32 : decode cX8_lined 32 = .ok (.iconst (-1), 1) := by decide +kernel
theorem dX8_lined_33 : decode cX8_lined 33 = .ok (.ireturn, 1) := by decide +kernel
theorem dX8_rank_0 : decode cX8_rank 0 = .ok (.aload_n 0, 1) := by decide +kernel
theorem dX8_rank_1 : decode cX8_rank 1 = .ok (.iload_n 1, 1) := by decide +kernel
theorem dX8_rank_2 : decode cX8_rank 2 = .ok (.invokevirtual 63, 3) := by decide +kernel
theorem dX8_rank_5 : decode cX8_rank 5 = .ok (.ifCond .eq 13, 3) := by decide +kernel
theorem dX8_rank_8 : decode cX8_rank 8 = .ok (.iload_n 2, 1) := by decide +kernel
theorem dX8_rank_9 : decode cX8_rank 9 = .ok (.iconst 0, 1) := by decide +kernel
theorem dX8_rank_10 : decode cX8_rank 10 = .ok (.bipush 9, 2) := by decide +kernel
theorem dX8_rank_12 : decode cX8_rank 12 = .ok (.invokestatic 59, 3) := by decide +kernel
theorem dX8_rank_15 : decode cX8_rank 15 = .ok (.ifCond .ne 5, 3) := by decide +kernel
theorem dX8_rank_18 : decode cX8_rank 18 = .ok (.iconst (-1), 1) := by decide +kernel
theorem dX8_rank_19 : decode cX8_rank 19 = .ok (.ireturn, 1) := by decide +kernel
theorem dX8_rank_20 : decode cX8_rank 20 = .ok (.aload_n 0, 1) := by decide +kernel
theorem dX8_rank_21 : decode cX8_rank 21 = .ok (.iload_n 1, 1) := by decide +kernel
theorem dX8_rank_22 : decode cX8_rank 22 = .ok (.invokevirtual 130, 3) := by decide +kernel
theorem dX8_rank_25 : decode cX8_rank 25 = .ok (.istore_n 3, 1) := by decide +kernel
theorem dX8_rank_26 : decode cX8_rank 26 = .ok (.iconst 0, 1) := by decide +kernel
theorem dX8_rank_27 : decode cX8_rank 27 = .ok (.istore 4, 2) := by decide +kernel
theorem dX8_rank_29 : decode cX8_rank 29 = .ok (.iconst 0, 1) := by decide +kernel
theorem dX8_rank_30 : decode cX8_rank 30 = .ok (.istore 5, 2) := by decide +kernel
theorem dX8_rank_32 : decode cX8_rank 32 = .ok (.iconst 0, 1) := by decide +kernel
theorem dX8_rank_33 : decode cX8_rank 33 = .ok (.istore 6, 2) := by decide +kernel
theorem dX8_rank_35 : decode cX8_rank 35 = .ok (.iload 6, 2) := by decide +kernel
theorem dX8_rank_37 : decode cX8_rank 37 = .ok (.iload_n 3, 1) := by decide +kernel
theorem dX8_rank_38 : decode cX8_rank 38 = .ok (.if_icmp .ge 61, 3) := by decide +kernel
theorem dX8_rank_41 : decode cX8_rank 41 = .ok (.aload_n 0, 1) := by decide +kernel
theorem dX8_rank_42 : decode cX8_rank 42 = .ok (.getfield 16, 3) := by decide +kernel
theorem dX8_rank_45 : decode cX8_rank 45 = .ok (.aload_n 0, 1) := by decide +kernel
theorem dX8_rank_46 : decode cX8_rank 46 = .ok (.getfield 53, 3) := by decide +kernel
theorem dX8_rank_49 : decode cX8_rank 49 = .ok (.iload 6, 2) := by decide +kernel
theorem dX8_rank_51 : decode cX8_rank 51 = .ok (.iaload, 1) := by decide +kernel
theorem dX8_rank_52 : decode cX8_rank 52 = .ok (.iaload, 1) := by decide +kernel
theorem dX8_rank_53 : decode cX8_rank 53 = .ok (.istore 7, 2) := by decide +kernel
theorem dX8_rank_55 : decode cX8_rank 55 = .ok (.iload 7, 2) := by decide +kernel
theorem dX8_rank_57 : decode cX8_rank 57 = .ok (.iload_n 2, 1) := by decide +kernel
theorem dX8_rank_58 : decode cX8_rank 58 = .ok (.if_icmp .ne 6, 3) := by decide +kernel
theorem dX8_rank_61 : decode cX8_rank 61 = .ok (.iload 5, 2) := by decide +kernel
theorem dX8_rank_63 : decode cX8_rank 63 = .ok (.ireturn, 1) := by decide +kernel
theorem dX8_rank_64 : decode cX8_rank 64 = .ok (.iload 5, 2) := by decide +kernel
theorem dX8_rank_66 : decode cX8_rank 66 = .ok (.iload 4, 2) := by decide +kernel
theorem dX8_rank_68 : decode cX8_rank 68 = .ok (.iload 7, 2) := by decide +kernel
theorem dX8_rank_70 : decode cX8_rank 70 = .ok (.ishr, 1) := by decide +kernel
theorem dX8_rank_71 : decode cX8_rank 71 = .ok (.iconst 1, 1) := by decide +kernel
theorem dX8_rank_72 : decode cX8_rank 72 = .ok (.iand, 1) := by decide +kernel
theorem dX8_rank_73 : decode cX8_rank 73 = .ok (.ifCond .ne 7, 3) := by decide +kernel
theorem dX8_rank_76 : decode cX8_rank 76 = .ok (.iconst 1, 1) := by decide +kernel
theorem dX8_rank_77 : decode cX8_rank 77 = .ok (.goto 4, 3) := by decide +kernel
theorem dX8_rank_80 : decode cX8_rank 80 = .ok (.iconst 0, 1) := by decide +kernel
theorem dX8_rank_81 : decode cX8_rank 81 = .ok (.iadd, 1) := by decide +kernel
theorem dX8_rank_82 : decode cX8_rank 82 = .ok (.istore 5, 2) := by decide +kernel
theorem dX8_rank_84 : decode cX8_rank 84 = .ok (.iload 4, 2) := by decide +kernel
theorem dX8_rank_86 : decode cX8_rank 86 = .ok (.iconst 1, 1) := by decide +kernel
theorem dX8_rank_87 : decode cX8_rank 87 = .ok (.iload 7, 2) := by decide +kernel
theorem dX8_rank_89 : decode cX8_rank 89 = .ok (.ishl, 1) := by decide +kernel
theorem dX8_rank_90 : decode cX8_rank 90 = .ok (.ior, 1) := by decide +kernel
theorem dX8_rank_91 : decode cX8_rank 91 = .ok (.istore 4, 2) := by decide +kernel
theorem dX8_rank_93 : decode cX8_rank 93 = .ok (.iinc 6 1, 3) := by decide +kernel
theorem dX8_rank_96 : decode cX8_rank 96 = .ok (.goto (-61), 3) := by decide +kernel
theorem dX8_rank_99 : decode cX8_rank 99 = .ok (.iconst (-1), 1) := by decide +kernel
theorem dX8_rank_100 : decode cX8_rank 100 = .ok (.ireturn, 1) := by decide +kernel
theorem dX8_test_0 : decode cX8_test 0 = .ok (.aload_n 0, 1) := by decide +kernel
theorem dX8_test_1 : decode cX8_test 1 = .ok (.iload_n 1, 1) := by decide +kernel
theorem dX8_test_2 : decode cX8_test 2 = .ok (.invokevirtual 63, 3) := by decide +kernel
theorem dX8_test_5 : decode cX8_test 5 = .ok (.ifCond .eq 45, 3) := by decide +kernel
theorem dX8_test_8 : decode cX8_test 8 = .ok (.aload_n 0, 1) := by decide +kernel
theorem dX8_test_9 : decode cX8_test 9 = .ok (.iload_n 2, 1) := by decide +kernel
theorem dX8_test_10 : decode cX8_test 10 = .ok (.invokevirtual 63, 3) := by decide +kernel
theorem dX8_test_13 : decode cX8_test 13 = .ok (.ifCond .eq 37, 3) := by decide +kernel
theorem dX8_test_16 : decode cX8_test 16 = .ok (.iload_n 1, 1) := by decide +kernel
theorem dX8_test_17 : decode cX8_test 17 = .ok (.iload_n 2, 1) := by decide +kernel
theorem dX8_test_18 : decode cX8_test 18 = .ok (.if_icmp .eq 32, 3) := by decide +kernel
theorem dX8_test_21 : decode cX8_test 21 = .ok (.aload_n 0, 1) := by decide +kernel
theorem dX8_test_22 : decode cX8_test 22 = .ok (.getfield 16, 3) := by decide +kernel
theorem dX8_test_25 : decode cX8_test 25 = .ok (.iload_n 1, 1) := by decide +kernel
theorem dX8_test_26 : decode cX8_test 26 = .ok (.iaload, 1) := by decide +kernel
theorem dX8_test_27 : decode cX8_test 27 = .ok (.iconst (-1), 1) := by decide +kernel
theorem dX8_test_28 : decode cX8_test 28 = .ok (.if_icmp .eq 22, 3) := by decide +kernel
theorem dX8_test_31 : decode cX8_test 31 = .ok (.aload_n 0, 1) := by decide +kernel
theorem dX8_test_32 : decode cX8_test 32 = .ok (.getfield 16, 3) := by decide +kernel
theorem dX8_test_35 : decode cX8_test 35 = .ok (.iload_n 2, 1) := by decide +kernel
theorem dX8_test_36 : decode cX8_test 36 = .ok (.iaload, 1) := by decide +kernel
theorem dX8_test_37 : decode cX8_test 37 = .ok (.iconst (-1), 1) := by decide +kernel
theorem dX8_test_38 : decode cX8_test 38 = .ok (.if_icmp .eq 12, 3) := by decide +kernel
theorem dX8_test_41 : decode cX8_test 41 = .ok (.aload_n 0, 1) := by decide +kernel
theorem dX8_test_42 : decode cX8_test 42 = .ok (.getfield 133, 3) := by decide +kernel
theorem dX8_test_45 : decode cX8_test 45 = .ok (.bipush 60, 2) := by decide +kernel
theorem dX8_test_47 : decode cX8_test 47 = .ok (.if_icmp .ne 5, 3) := by decide +kernel
theorem dX8_test_50 : decode cX8_test 50 = .ok (.iconst (-1), 1) := by decide +kernel
theorem dX8_test_51 : decode cX8_test 51 = .ok (.ireturn, 1) := by decide +kernel
theorem dX8_test_52 : decode cX8_test 52 = .ok (.aload_n 0, 1) := by decide +kernel
theorem dX8_test_53 : decode cX8_test 53 = .ok (.iload_n 1, 1) := by decide +kernel
theorem dX8_test_54 : decode cX8_test 54 = .ok (.iload_n 2, 1) := by decide +kernel
theorem dX8_test_55 : decode cX8_test 55 = .ok (.invokevirtual 136, 3) := by decide +kernel
theorem dX8_test_58 : decode cX8_test 58 = .ok (.istore_n 3, 1) := by decide +kernel
theorem dX8_test_59 : decode cX8_test 59 = .ok (.iload_n 3, 1) := by decide +kernel
theorem dX8_test_60 : decode cX8_test 60 = .ok (.iconst (-1), 1) := by decide +kernel
theorem dX8_test_61 : decode cX8_test 61 = .ok (.if_icmp .ne 7, 3) := by decide +kernel
theorem dX8_test_64 : decode cX8_test 64 = .ok (.iconst 2, 1) := by decide +kernel
theorem dX8_test_65 : decode cX8_test 65 = .ok (.goto 16, 3) := by decide +kernel
theorem dX8_test_68 : decode cX8_test 68 = .ok (.iload_n 3, 1) := by decide +kernel
theorem dX8_test_69 : decode cX8_test 69 = .ok (.aload_n 0, 1) := by decide +kernel
theorem dX8_test_70 : decode cX8_test 70 = .ok (.getfield 23, 3) := by decide +kernel
theorem dX8_test_73 : decode cX8_test 73 = .ok (.if_icmp .gt 7, 3) := by decide +kernel
theorem dX8_test_76 : decode cX8_test 76 = .ok (.iconst 1, 1) := by decide +kernel
theorem dX8_test_77 : decode cX8_test 77 = .ok (.goto 4, 3) := by decide +kernel
theorem dX8_test_80 : decode cX8_test 80 = .ok (.iconst 0, 1) := by decide +kernel
theorem dX8_test_81 : decode cX8_test 81 = .ok (.istore 4, 2) := by decide +kernel
theorem dX8_test_83 : decode cX8_test 83 = .ok (.aload_n 0, 1) := by decide +kernel
theorem dX8_test_84 : decode cX8_test 84 = .ok (.getfield 16, 3) := by decide +kernel
theorem dX8_test_87 : decode cX8_test 87 = .ok (.iload_n 1, 1) := by decide +kernel
theorem dX8_test_88 : decode cX8_test 88 = .ok (.iaload, 1) := by decide +kernel
theorem dX8_test_89 : decode cX8_test 89 = .ok (.aload_n 0, 1) := by decide +kernel
theorem dX8_test_90 : decode cX8_test 90 = .ok (.getfield 16, 3) := by decide +kernel
theorem dX8_test_93 : decode cX8_test 93 = .ok (.iload_n 2, 1) := by decide +kernel
theorem dX8_test_94 : decode cX8_test 94 = .ok (.iaload, 1) := by decide +kernel
theorem dX8_test_95 : decode cX8_test 95 = .ok (.if_icmp .ne 7, 3) := by decide +kernel
theorem dX8_test_98 : decode cX8_test 98 = .ok (.iconst 1, 1) := by decide +kernel
theorem dX8_test_99 : decode cX8_test 99 = .ok (.goto 4, 3) := by decide +kernel
theorem dX8_test_102 : decode cX8_test 102 = .ok (.iconst 0, 1) := by decide +kernel
theorem dX8_test_103 : decode cX8_test 103 = .ok (.istore 5, 2) := by decide +kernel
theorem dX8_test_105 : decode cX8_test 105 = .ok (.aload_n 0, 1) := by decide +kernel
theorem dX8_test_106 : decode cX8_test 106 = .ok (.dup, 1) := by decide +kernel
theorem dX8_test_107 : decode cX8_test 107 = .ok (.getfield 133, 3) := by decide +kernel
theorem dX8_test_110 : decode cX8_test 110 = .ok (.iconst 1, 1) := by decide +kernel
theorem dX8_test_111 : decode cX8_test 111 = .ok (.iadd, 1) := by decide +kernel
theorem dX8_test_112 : decode cX8_test 112 = .ok (.putfield 133, 3) := by decide +kernel
theorem dX8_test_115 : decode cX8_test 115 = .ok (.aload_n 0, 1) := by decide +kernel
theorem dX8_test_116 : decode cX8_test 116 = .ok (.getfield 29, 3) := by decide +kernel
theorem dX8_test_119 : decode cX8_test 119 = .ok (.iload 4, 2) := by decide +kernel
theorem dX8_test_121 : decode cX8_test 121 = .ok (.iconst 2, 1) := by decide +kernel
theorem dX8_test_122 : decode cX8_test 122 = .ok (.if_icmp .ne 7, 3) := by decide +kernel
theorem dX8_test_125 : decode cX8_test 125 = .ok (.iconst 4, 1) := by decide +kernel
theorem dX8_test_126 : decode cX8_test 126 = .ok (.goto 32, 3) := by decide +kernel
theorem dX8_test_129 : decode cX8_test 129 = .ok (.iload 4, 2) := by decide +kernel
theorem dX8_test_131 : decode cX8_test 131 = .ok (.iconst 1, 1) := by decide +kernel
theorem dX8_test_132 : decode cX8_test 132 = .ok (.if_icmp .ne 16, 3) := by decide +kernel
theorem dX8_test_135 : decode cX8_test 135 = .ok (.iload 5, 2) := by decide +kernel
theorem dX8_test_137 : decode cX8_test 137 = .ok (.ifCond .eq 7, 3) := by decide +kernel
theorem dX8_test_140 : decode cX8_test 140 = .ok (.iconst 0, 1) := by decide +kernel
theorem dX8_test_141 : decode cX8_test 141 = .ok (.goto 17, 3) := by decide +kernel
theorem dX8_test_144 : decode cX8_test 144 = .ok (.iconst 1, 1) := by decide +kernel
theorem dX8_test_145 : decode cX8_test 145 = .ok (.goto 13, 3) := by decide +kernel
theorem dX8_test_148 : decode cX8_test 148 = .ok (.iload 5, 2) := by decide +kernel
theorem dX8_test_150 : decode cX8_test 150 = .ok (.ifCond .eq 7, 3) := by decide +kernel
theorem dX8_test_153 : decode cX8_test 153 = .ok (.iconst 3, 1) := by decide +kernel
theorem dX8_test_154 : decode cX8_test 154 = .ok (.goto 4, 3) := by decide +kernel
theorem dX8_test_157 : decode cX8_test 157 = .ok (.iconst 2, 1) := by decide +kernel
theorem dX8_test_158 : decode cX8_test 158 = .ok (.dup2, 1) := by decide +kernel
theorem dX8_test_159 : decode cX8_test 159 = .ok (.iaload, 1) := by decide +kernel
theorem dX8_test_160 : decode cX8_test 160 = .ok (.iconst 1, 1) := by decide +kernel
theorem dX8_test_161 : decode cX8_test 161 = .ok (.iadd, 1) := by decide +kernel
theorem dX8_test_162 : decode cX8_test 162 = .ok (.iastore, 1) := by decide +kernel
theorem dX8_test_163 : decode cX8_test 163 = .ok (.iload 4, 2) := by decide +kernel
theorem dX8_test_165 : decode cX8_test 165 = .ok (.ireturn, 1) := by decide +kernel
theorem dX8_right_0 : decode cX8_right 0 = .ok (.iload_n 1, 1) := by decide +kernel
theorem dX8_right_1 : decode cX8_right 1 = .ok (.iconst 0, 1) := by decide +kernel
theorem dX8_right_2 : decode cX8_right 2 = .ok (.iconst 4, 1) := by decide +kernel
theorem dX8_right_3 : decode cX8_right 3 = .ok (.invokestatic 59, 3) := by decide +kernel
theorem dX8_right_6 : decode cX8_right 6 = .ok (.ifCond .eq 12, 3) := by decide +kernel
theorem dX8_right_9 : decode cX8_right 9 = .ok (.aload_n 0, 1) := by decide +kernel
theorem dX8_right_10 : decode cX8_right 10 = .ok (.getfield 29, 3) := by decide +kernel
theorem dX8_right_13 : decode cX8_right 13 = .ok (.iload_n 1, 1) := by decide +kernel
theorem dX8_right_14 : decode cX8_right 14 = .ok (.iaload, 1) := by decide +kernel
theorem dX8_right_15 : decode cX8_right 15 = .ok (.goto 4, 3) := by decide +kernel
theorem dX8_right_18 : decode cX8_right 18 = .ok (.iconst (-1), 1) := by decide +kernel
theorem dX8_right_19 : decode cX8_right 19 = .ok (.ireturn, 1) := by decide +kernel
theorem dX8_told_0 : decode cX8_told 0 = .ok (.aload_n 0, 1) := by decide +kernel
theorem dX8_told_1 : decode cX8_told 1 = .ok (.iload_n 1, 1) := by decide +kernel
theorem dX8_told_2 : decode cX8_told 2 = .ok (.invokevirtual 63, 3) := by decide +kernel
theorem dX8_told_5 : decode cX8_told 5 = .ok (.ifCond .ne 5, 3) := by decide +kernel
theorem dX8_told_8 : decode cX8_told 8 = .ok (.iconst (-1), 1) := by decide +kernel
theorem dX8_told_9 : decode cX8_told 9 = .ok (.ireturn, 1) := by decide +kernel
theorem dX8_told_10 : decode cX8_told 10 = .ok (.iload_n 2, 1) := by decide +kernel
theorem dX8_told_11 : decode cX8_told 11 = .ok (.bipush 10, 2) := by decide +kernel
theorem dX8_told_13 : decode cX8_told 13 = .ok (.bipush 15, 2) := by decide +kernel
theorem dX8_told_15 : decode cX8_told 15 = .ok (.invokestatic 59, 3) := by decide +kernel
theorem dX8_told_18 : decode cX8_told 18 = .ok (.ifCond .eq 18, 3) := by decide +kernel
theorem dX8_told_21 : decode cX8_told 21 = .ok (.aload_n 0, 1) := by decide +kernel
theorem dX8_told_22 : decode cX8_told 22 = .ok (.getfield 9, 3) := by decide +kernel
theorem dX8_told_25 : decode cX8_told 25 = .ok (.bipush 6, 2) := by decide +kernel
theorem dX8_told_27 : decode cX8_told 27 = .ok (.iload_n 1, 1) := by decide +kernel
theorem dX8_told_28 : decode cX8_told 28 = .ok (.imul, 1) := by decide +kernel
theorem dX8_told_29 : decode cX8_told 29 = .ok (.iload_n 2, 1) := by decide +kernel
theorem dX8_told_30 : decode cX8_told 30 = .ok (.iadd, 1) := by decide +kernel
theorem dX8_told_31 : decode cX8_told 31 = .ok (.bipush 10, 2) := by decide +kernel
theorem dX8_told_33 : decode cX8_told 33 = .ok (.isub, 1) := by decide +kernel
theorem dX8_told_34 : decode cX8_told 34 = .ok (.iaload, 1) := by decide +kernel
theorem dX8_told_35 : decode cX8_told 35 = .ok (.ireturn, 1) := by decide +kernel
theorem dX8_told_36 : decode cX8_told 36 = .ok (.iconst 0, 1) := by decide +kernel
theorem dX8_told_37 : decode cX8_told 37 = .ok (.istore_n 3, 1) := by decide +kernel
theorem dX8_told_38 : decode cX8_told 38 = .ok (.iload_n 2, 1) := by decide +kernel
theorem dX8_told_39 : decode cX8_told 39 = .ok (.tableswitch 81 0 2 #[25, 32, 39], 25) := by decide +kernel
theorem dX8_told_64 : decode cX8_told 64 = .ok (.aload_n 0, 1) := by decide +kernel
theorem dX8_told_65 : decode cX8_told 65 = .ok (.getfield 13, 3) := by decide +kernel
theorem dX8_told_68 : decode cX8_told 68 = .ok (.iload_n 1, 1) := by decide +kernel
theorem dX8_told_69 : decode cX8_told 69 = .ok (.iaload, 1) := by decide +kernel
theorem dX8_told_70 : decode cX8_told 70 = .ok (.ireturn, 1) := by decide +kernel
theorem dX8_told_71 : decode cX8_told 71 = .ok (.aload_n 0, 1) := by decide +kernel
theorem dX8_told_72 : decode cX8_told 72 = .ok (.getfield 16, 3) := by decide +kernel
theorem dX8_told_75 : decode cX8_told 75 = .ok (.iload_n 1, 1) := by decide +kernel
theorem dX8_told_76 : decode cX8_told 76 = .ok (.iaload, 1) := by decide +kernel
theorem dX8_told_77 : decode cX8_told 77 = .ok (.ireturn, 1) := by decide +kernel
theorem dX8_told_78 : decode cX8_told 78 = .ok (.iconst 0, 1) := by decide +kernel
theorem dX8_told_79 : decode cX8_told 79 = .ok (.istore 4, 2) := by decide +kernel
theorem dX8_told_81 : decode cX8_told 81 = .ok (.iload 4, 2) := by decide +kernel
theorem dX8_told_83 : decode cX8_told 83 = .ok (.bipush 6, 2) := by decide +kernel
theorem dX8_told_85 : decode cX8_told 85 = .ok (.if_icmp .ge 33, 3) := by decide +kernel
theorem dX8_told_88 : decode cX8_told 88 = .ok (.iload_n 3, 1) := by decide +kernel
theorem dX8_told_89 : decode cX8_told 89 = .ok (.aload_n 0, 1) := by decide +kernel
theorem dX8_told_90 : decode cX8_told 90 = .ok (.getfield 9, 3) := by decide +kernel
theorem dX8_told_93 : decode cX8_told 93 = .ok (.bipush 6, 2) := by decide +kernel
theorem dX8_told_95 : decode cX8_told 95 = .ok (.iload_n 1, 1) := by decide +kernel
theorem dX8_told_96 : decode cX8_told 96 = .ok (.imul, 1) := by decide +kernel
theorem dX8_told_97 : decode cX8_told 97 = .ok (.iload 4, 2) := by decide +kernel
theorem dX8_told_99 : decode cX8_told 99 = .ok (.iadd, 1) := by decide +kernel
theorem dX8_told_100 : decode cX8_told 100 = .ok (.iaload, 1) := by decide +kernel
theorem dX8_told_101 : decode cX8_told 101 = .ok (.iconst (-1), 1) := by decide +kernel
theorem dX8_told_102 : decode cX8_told 102 = .ok (.if_icmp .eq 7, 3) := by decide +kernel
theorem dX8_told_105 : decode cX8_told 105 = .ok (.iconst 1, 1) := by decide +kernel
theorem dX8_told_106 : decode cX8_told 106 = .ok (.goto 4, 3) := by decide +kernel
theorem dX8_told_109 : decode cX8_told 109 = .ok (.iconst 0, 1) := by decide +kernel
theorem dX8_told_110 : decode cX8_told 110 = .ok (.iadd, 1) := by decide +kernel
theorem dX8_told_111 : decode cX8_told 111 = .ok (.istore_n 3, 1) := by decide +kernel
theorem dX8_told_112 : decode cX8_told 112 = .ok (.iinc 4 1, 3) := by decide +kernel
theorem dX8_told_115 : decode cX8_told 115 = .ok (.goto (-34), 3) := by decide +kernel
theorem dX8_told_118 : decode cX8_told 118 = .ok (.iload_n 3, 1) := by decide +kernel
theorem dX8_told_119 : decode cX8_told 119 = .ok (.ireturn, 1) := by decide +kernel
theorem dX8_told_120 : decode cX8_told 120 = .ok (.iconst (-1), 1) := by decide +kernel
theorem dX8_told_121 : decode cX8_told 121 = .ok (.ireturn, 1) := by decide +kernel
theorem dX8_count_0 : decode cX8_count 0 = .ok (.iconst 0, 1) := by decide +kernel
theorem dX8_count_1 : decode cX8_count 1 = .ok (.istore_n 2, 1) := by decide +kernel
theorem dX8_count_2 : decode cX8_count 2 = .ok (.iload_n 1, 1) := by decide +kernel
theorem dX8_count_3 : decode cX8_count 3 = .ok (.tableswitch 123 0 6 #[41, 46, 58, 70, 108, 113, 118], 41) := by decide +kernel
theorem dX8_count_44 : decode cX8_count 44 = .ok (.aload_n 0, 1) := by decide +kernel
theorem dX8_count_45 : decode cX8_count 45 = .ok (.getfield 56, 3) := by decide +kernel
theorem dX8_count_48 : decode cX8_count 48 = .ok (.ireturn, 1) := by decide +kernel
theorem dX8_count_49 : decode cX8_count 49 = .ok (.aload_n 0, 1) := by decide +kernel
theorem dX8_count_50 : decode cX8_count 50 = .ok (.invokevirtual 95, 3) := by decide +kernel
theorem dX8_count_53 : decode cX8_count 53 = .ok (.aload_n 0, 1) := by decide +kernel
theorem dX8_count_54 : decode cX8_count 54 = .ok (.getfield 35, 3) := by decide +kernel
theorem dX8_count_57 : decode cX8_count 57 = .ok (.invokestatic 108, 3) := by decide +kernel
theorem dX8_count_60 : decode cX8_count 60 = .ok (.ireturn, 1) := by decide +kernel
theorem dX8_count_61 : decode cX8_count 61 = .ok (.aload_n 0, 1) := by decide +kernel
theorem dX8_count_62 : decode cX8_count 62 = .ok (.invokevirtual 95, 3) := by decide +kernel
theorem dX8_count_65 : decode cX8_count 65 = .ok (.aload_n 0, 1) := by decide +kernel
theorem dX8_count_66 : decode cX8_count 66 = .ok (.getfield 38, 3) := by decide +kernel
theorem dX8_count_69 : decode cX8_count 69 = .ok (.invokestatic 108, 3) := by decide +kernel
theorem dX8_count_72 : decode cX8_count 72 = .ok (.ireturn, 1) := by decide +kernel
theorem dX8_count_73 : decode cX8_count 73 = .ok (.aload_n 0, 1) := by decide +kernel
theorem dX8_count_74 : decode cX8_count 74 = .ok (.invokevirtual 105, 3) := by decide +kernel
theorem dX8_count_77 : decode cX8_count 77 = .ok (.iconst 0, 1) := by decide +kernel
theorem dX8_count_78 : decode cX8_count 78 = .ok (.istore_n 3, 1) := by decide +kernel
theorem dX8_count_79 : decode cX8_count 79 = .ok (.iload_n 3, 1) := by decide +kernel
theorem dX8_count_80 : decode cX8_count 80 = .ok (.bipush 10, 2) := by decide +kernel
theorem dX8_count_82 : decode cX8_count 82 = .ok (.if_icmp .ge 27, 3) := by decide +kernel
theorem dX8_count_85 : decode cX8_count 85 = .ok (.iload_n 2, 1) := by decide +kernel
theorem dX8_count_86 : decode cX8_count 86 = .ok (.aload_n 0, 1) := by decide +kernel
theorem dX8_count_87 : decode cX8_count 87 = .ok (.getfield 41, 3) := by decide +kernel
theorem dX8_count_90 : decode cX8_count 90 = .ok (.iload_n 3, 1) := by decide +kernel
theorem dX8_count_91 : decode cX8_count 91 = .ok (.iaload, 1) := by decide +kernel
theorem dX8_count_92 : decode cX8_count 92 = .ok (.iload_n 3, 1) := by decide +kernel
theorem dX8_count_93 : decode cX8_count 93 = .ok (.if_icmp .ne 7, 3) := by decide +kernel
theorem dX8_count_96 : decode cX8_count 96 = .ok (.iconst 1, 1) := by decide +kernel
theorem dX8_count_97 : decode cX8_count 97 = .ok (.goto 4, 3) := by decide +kernel
theorem dX8_count_100 : decode cX8_count 100 = .ok (.iconst 0, 1) := by decide +kernel
theorem dX8_count_101 : decode cX8_count 101 = .ok (.iadd, 1) := by decide +kernel
theorem dX8_count_102 : decode cX8_count 102 = .ok (.istore_n 2, 1) := by decide +kernel
theorem dX8_count_103 : decode cX8_count 103 = .ok (.iinc 3 1, 3) := by decide +kernel
theorem dX8_count_106 : decode cX8_count 106 = .ok (.goto (-27), 3) := by decide +kernel
theorem dX8_count_109 : decode cX8_count 109 = .ok (.iload_n 2, 1) := by decide +kernel
theorem dX8_count_110 : decode cX8_count 110 = .ok (.ireturn, 1) := by decide +kernel
theorem dX8_count_111 : decode cX8_count 111 = .ok (.aload_n 0, 1) := by decide +kernel
theorem dX8_count_112 : decode cX8_count 112 = .ok (.getfield 112, 3) := by decide +kernel
theorem dX8_count_115 : decode cX8_count 115 = .ok (.ireturn, 1) := by decide +kernel
theorem dX8_count_116 : decode cX8_count 116 = .ok (.aload_n 0, 1) := by decide +kernel
theorem dX8_count_117 : decode cX8_count 117 = .ok (.getfield 23, 3) := by decide +kernel
theorem dX8_count_120 : decode cX8_count 120 = .ok (.ireturn, 1) := by decide +kernel
theorem dX8_count_121 : decode cX8_count 121 = .ok (.aload_n 0, 1) := by decide +kernel
theorem dX8_count_122 : decode cX8_count 122 = .ok (.getfield 19, 3) := by decide +kernel
theorem dX8_count_125 : decode cX8_count 125 = .ok (.ireturn, 1) := by decide +kernel
theorem dX8_count_126 : decode cX8_count 126 = .ok (.iconst (-1), 1) := by decide +kernel
theorem dX8_count_127 : decode cX8_count 127 = .ok (.ireturn, 1) := by decide +kernel
end
section
theorem dL_law_0 : decode cL_law 0 = .ok (.new 7, 3) := by decide +kernel
theorem dL_law_3 : decode cL_law 3 = .ok (.dup, 1) := by decide +kernel
theorem dL_law_4 : decode cL_law 4 = .ok (.invokespecial 9, 3) := by decide +kernel
theorem dL_law_7 : decode cL_law 7 = .ok (.astore_n 1, 1) := by decide +kernel
theorem dL_law_8 : decode cL_law 8 = .ok (.new 10, 3) := by decide +kernel
theorem dL_law_11 : decode cL_law 11 = .ok (.dup, 1) := by decide +kernel
theorem dL_law_12 : decode cL_law 12 = .ok (.invokespecial 12, 3) := by decide +kernel
theorem dL_law_15 : decode cL_law 15 = .ok (.astore_n 2, 1) := by decide +kernel
theorem dL_law_16 : decode cL_law 16 = .ok (.iconst 0, 1) := by decide +kernel
theorem dL_law_17 : decode cL_law 17 = .ok (.istore_n 3, 1) := by decide +kernel
theorem dL_law_18 : decode cL_law 18 = .ok (.iload_n 3, 1) := by decide +kernel
theorem dL_law_19 : decode cL_law 19 = .ok (.aload_n 0, 1) := by decide +kernel
theorem dL_law_20 : decode cL_law 20 = .ok (.arraylength, 1) := by decide +kernel
theorem dL_law_21 : decode cL_law 21 = .ok (.iconst 4, 1) := by decide +kernel
theorem dL_law_22 : decode cL_law 22 = .ok (.isub, 1) := by decide +kernel
theorem dL_law_23 : decode cL_law 23 = .ok (.if_icmp .gt 735, 3) := by decide +kernel
theorem dL_law_26 : decode cL_law 26 = .ok (.aload_n 0, 1) := by decide +kernel
theorem dL_law_27 : decode cL_law 27 = .ok (.iload_n 3, 1) := by decide +kernel
theorem dL_law_28 : decode cL_law 28 = .ok (.iaload, 1) := by decide +kernel
theorem dL_law_29 : decode cL_law 29 = .ok (.bipush 31, 2) := by decide +kernel
theorem dL_law_31 : decode cL_law 31 = .ok (.iand, 1) := by decide +kernel
theorem dL_law_32 : decode cL_law 32 = .ok (.tableswitch 720 0 21 #[104, 137, 180, 213, 236, 259, 292, 325, 358, 391, 424, 457, 480, 493, 516, 529, 542, 575, 608, 641, 664, 697], 104) := by decide +kernel
theorem dL_law_136 : decode cL_law 136 = .ok (.aload_n 1, 1) := by decide +kernel
theorem dL_law_137 : decode cL_law 137 = .ok (.aload_n 0, 1) := by decide +kernel
theorem dL_law_138 : decode cL_law 138 = .ok (.iload_n 3, 1) := by decide +kernel
theorem dL_law_139 : decode cL_law 139 = .ok (.iconst 1, 1) := by decide +kernel
theorem dL_law_140 : decode cL_law 140 = .ok (.iadd, 1) := by decide +kernel
theorem dL_law_141 : decode cL_law 141 = .ok (.iaload, 1) := by decide +kernel
theorem dL_law_142 : decode cL_law 142 = .ok (.aload_n 0, 1) := by decide +kernel
theorem dL_law_143 : decode cL_law 143 = .ok (.iload_n 3, 1) := by decide +kernel
theorem dL_law_144 : decode cL_law 144 = .ok (.iconst 2, 1) := by decide +kernel
theorem dL_law_145 : decode cL_law 145 = .ok (.iadd, 1) := by decide +kernel
theorem dL_law_146 : decode cL_law 146 = .ok (.iaload, 1) := by decide +kernel
theorem dL_law_147 : decode cL_law 147 = .ok (.invokevirtual 13, 3) := by decide +kernel
theorem dL_law_150 : decode cL_law 150 = .ok (.aload_n 2, 1) := by decide +kernel
theorem dL_law_151 : decode cL_law 151 = .ok (.aload_n 0, 1) := by decide +kernel
theorem dL_law_152 : decode cL_law 152 = .ok (.iload_n 3, 1) := by decide +kernel
theorem dL_law_153 : decode cL_law 153 = .ok (.iconst 1, 1) := by decide +kernel
theorem dL_law_154 : decode cL_law 154 = .ok (.iadd, 1) := by decide +kernel
theorem dL_law_155 : decode cL_law 155 = .ok (.iaload, 1) := by decide +kernel
theorem dL_law_156 : decode cL_law 156 = .ok (.aload_n 0, 1) := by decide +kernel
theorem dL_law_157 : decode cL_law 157 = .ok (.iload_n 3, 1) := by decide +kernel
theorem dL_law_158 : decode cL_law 158 = .ok (.iconst 2, 1) := by decide +kernel
theorem dL_law_159 : decode cL_law 159 = .ok (.iadd, 1) := by decide +kernel
theorem dL_law_160 : decode cL_law 160 = .ok (.iaload, 1) := by decide +kernel
theorem dL_law_161 : decode cL_law 161 = .ok (.invokevirtual 17, 3) := by decide +kernel
theorem dL_law_164 : decode cL_law 164 = .ok (.if_icmp .eq 588, 3) := by decide +kernel
theorem dL_law_167 : decode cL_law 167 = .ok (.iconst 0, 1) := by decide +kernel
theorem dL_law_168 : decode cL_law 168 = .ok (.ireturn, 1) := by decide +kernel
theorem dL_law_169 : decode cL_law 169 = .ok (.aload_n 1, 1) := by decide +kernel
theorem dL_law_170 : decode cL_law 170 = .ok (.aload_n 0, 1) := by decide +kernel
theorem dL_law_171 : decode cL_law 171 = .ok (.iload_n 3, 1) := by decide +kernel
theorem dL_law_172 : decode cL_law 172 = .ok (.iconst 1, 1) := by decide +kernel
theorem dL_law_173 : decode cL_law 173 = .ok (.iadd, 1) := by decide +kernel
theorem dL_law_174 : decode cL_law 174 = .ok (.iaload, 1) := by decide +kernel
theorem dL_law_175 : decode cL_law 175 = .ok (.aload_n 0, 1) := by decide +kernel
theorem dL_law_176 : decode cL_law 176 = .ok (.iload_n 3, 1) := by decide +kernel
theorem dL_law_177 : decode cL_law 177 = .ok (.iconst 2, 1) := by decide +kernel
theorem dL_law_178 : decode cL_law 178 = .ok (.iadd, 1) := by decide +kernel
theorem dL_law_179 : decode cL_law 179 = .ok (.iaload, 1) := by decide +kernel
theorem dL_law_180 : decode cL_law 180 = .ok (.aload_n 0, 1) := by decide +kernel
theorem dL_law_181 : decode cL_law 181 = .ok (.iload_n 3, 1) := by decide +kernel
theorem dL_law_182 : decode cL_law 182 = .ok (.iconst 3, 1) := by decide +kernel
theorem dL_law_183 : decode cL_law 183 = .ok (.iadd, 1) := by decide +kernel
theorem dL_law_184 : decode cL_law 184 = .ok (.iaload, 1) := by decide +kernel
theorem dL_law_185 : decode cL_law 185 = .ok (.invokevirtual 18, 3) := by decide +kernel
theorem dL_law_188 : decode cL_law 188 = .ok (.aload_n 2, 1) := by decide +kernel
theorem dL_law_189 : decode cL_law 189 = .ok (.aload_n 0, 1) := by decide +kernel
theorem dL_law_190 : decode cL_law 190 = .ok (.iload_n 3, 1) := by decide +kernel
theorem dL_law_191 : decode cL_law 191 = .ok (.iconst 1, 1) := by decide +kernel
theorem dL_law_192 : decode cL_law 192 = .ok (.iadd, 1) := by decide +kernel
theorem dL_law_193 : decode cL_law 193 = .ok (.iaload, 1) := by decide +kernel
theorem dL_law_194 : decode cL_law 194 = .ok (.aload_n 0, 1) := by decide +kernel
theorem dL_law_195 : decode cL_law 195 = .ok (.iload_n 3, 1) := by decide +kernel
theorem dL_law_196 : decode cL_law 196 = .ok (.iconst 2, 1) := by decide +kernel
theorem dL_law_197 : decode cL_law 197 = .ok (.iadd, 1) := by decide +kernel
theorem dL_law_198 : decode cL_law 198 = .ok (.iaload, 1) := by decide +kernel
theorem dL_law_199 : decode cL_law 199 = .ok (.aload_n 0, 1) := by decide +kernel
theorem dL_law_200 : decode cL_law 200 = .ok (.iload_n 3, 1) := by decide +kernel
theorem dL_law_201 : decode cL_law 201 = .ok (.iconst 3, 1) := by decide +kernel
theorem dL_law_202 : decode cL_law 202 = .ok (.iadd, 1) := by decide +kernel
theorem dL_law_203 : decode cL_law 203 = .ok (.iaload, 1) := by decide +kernel
theorem dL_law_204 : decode cL_law 204 = .ok (.invokevirtual 22, 3) := by decide +kernel
theorem dL_law_207 : decode cL_law 207 = .ok (.if_icmp .eq 545, 3) := by decide +kernel
theorem dL_law_210 : decode cL_law 210 = .ok (.iconst 0, 1) := by decide +kernel
theorem dL_law_211 : decode cL_law 211 = .ok (.ireturn, 1) := by decide +kernel
theorem dL_law_212 : decode cL_law 212 = .ok (.aload_n 1, 1) := by decide +kernel
theorem dL_law_213 : decode cL_law 213 = .ok (.aload_n 0, 1) := by decide +kernel
theorem dL_law_214 : decode cL_law 214 = .ok (.iload_n 3, 1) := by decide +kernel
theorem dL_law_215 : decode cL_law 215 = .ok (.iconst 1, 1) := by decide +kernel
theorem dL_law_216 : decode cL_law 216 = .ok (.iadd, 1) := by decide +kernel
theorem dL_law_217 : decode cL_law 217 = .ok (.iaload, 1) := by decide +kernel
theorem dL_law_218 : decode cL_law 218 = .ok (.aload_n 0, 1) := by decide +kernel
theorem dL_law_219 : decode cL_law 219 = .ok (.iload_n 3, 1) := by decide +kernel
theorem dL_law_220 : decode cL_law 220 = .ok (.iconst 2, 1) := by decide +kernel
theorem dL_law_221 : decode cL_law 221 = .ok (.iadd, 1) := by decide +kernel
theorem dL_law_222 : decode cL_law 222 = .ok (.iaload, 1) := by decide +kernel
theorem dL_law_223 : decode cL_law 223 = .ok (.invokevirtual 23, 3) := by decide +kernel
theorem dL_law_226 : decode cL_law 226 = .ok (.aload_n 2, 1) := by decide +kernel
theorem dL_law_227 : decode cL_law 227 = .ok (.aload_n 0, 1) := by decide +kernel
theorem dL_law_228 : decode cL_law 228 = .ok (.iload_n 3, 1) := by decide +kernel
theorem dL_law_229 : decode cL_law 229 = .ok (.iconst 1, 1) := by decide +kernel
theorem dL_law_230 : decode cL_law 230 = .ok (.iadd, 1) := by decide +kernel
theorem dL_law_231 : decode cL_law 231 = .ok (.iaload, 1) := by decide +kernel
theorem dL_law_232 : decode cL_law 232 = .ok (.aload_n 0, 1) := by decide +kernel
theorem dL_law_233 : decode cL_law 233 = .ok (.iload_n 3, 1) := by decide +kernel
theorem dL_law_234 : decode cL_law 234 = .ok (.iconst 2, 1) := by decide +kernel
theorem dL_law_235 : decode cL_law 235 = .ok (.iadd, 1) := by decide +kernel
theorem dL_law_236 : decode cL_law 236 = .ok (.iaload, 1) := by decide +kernel
theorem dL_law_237 : decode cL_law 237 = .ok (.invokevirtual 27, 3) := by decide +kernel
theorem dL_law_240 : decode cL_law 240 = .ok (.if_icmp .eq 512, 3) := by decide +kernel
theorem dL_law_243 : decode cL_law 243 = .ok (.iconst 0, 1) := by decide +kernel
theorem dL_law_244 : decode cL_law 244 = .ok (.ireturn, 1) := by decide +kernel
theorem dL_law_245 : decode cL_law 245 = .ok (.aload_n 1, 1) := by decide +kernel
theorem dL_law_246 : decode cL_law 246 = .ok (.aload_n 0, 1) := by decide +kernel
theorem dL_law_247 : decode cL_law 247 = .ok (.iload_n 3, 1) := by decide +kernel
theorem dL_law_248 : decode cL_law 248 = .ok (.iconst 1, 1) := by decide +kernel
theorem dL_law_249 : decode cL_law 249 = .ok (.iadd, 1) := by decide +kernel
theorem dL_law_250 : decode cL_law 250 = .ok (.iaload, 1) := by decide +kernel
theorem dL_law_251 : decode cL_law 251 = .ok (.invokevirtual 28, 3) := by decide +kernel
theorem dL_law_254 : decode cL_law 254 = .ok (.aload_n 2, 1) := by decide +kernel
theorem dL_law_255 : decode cL_law 255 = .ok (.aload_n 0, 1) := by decide +kernel
theorem dL_law_256 : decode cL_law 256 = .ok (.iload_n 3, 1) := by decide +kernel
theorem dL_law_257 : decode cL_law 257 = .ok (.iconst 1, 1) := by decide +kernel
theorem dL_law_258 : decode cL_law 258 = .ok (.iadd, 1) := by decide +kernel
theorem dL_law_259 : decode cL_law 259 = .ok (.iaload, 1) := by decide +kernel
theorem dL_law_260 : decode cL_law 260 = .ok (.invokevirtual 32, 3) := by decide +kernel
theorem dL_law_263 : decode cL_law 263 = .ok (.if_icmp .eq 489, 3) := by decide +kernel
theorem dL_law_266 : decode cL_law 266 = .ok (.iconst 0, 1) := by decide +kernel
theorem dL_law_267 : decode cL_law 267 = .ok (.ireturn, 1) := by decide +kernel
theorem dL_law_268 : decode cL_law 268 = .ok (.aload_n 1, 1) := by decide +kernel
theorem dL_law_269 : decode cL_law 269 = .ok (.aload_n 0, 1) := by decide +kernel
theorem dL_law_270 : decode cL_law 270 = .ok (.iload_n 3, 1) := by decide +kernel
theorem dL_law_271 : decode cL_law 271 = .ok (.iconst 1, 1) := by decide +kernel
theorem dL_law_272 : decode cL_law 272 = .ok (.iadd, 1) := by decide +kernel
theorem dL_law_273 : decode cL_law 273 = .ok (.iaload, 1) := by decide +kernel
theorem dL_law_274 : decode cL_law 274 = .ok (.invokevirtual 33, 3) := by decide +kernel
theorem dL_law_277 : decode cL_law 277 = .ok (.aload_n 2, 1) := by decide +kernel
theorem dL_law_278 : decode cL_law 278 = .ok (.aload_n 0, 1) := by decide +kernel
theorem dL_law_279 : decode cL_law 279 = .ok (.iload_n 3, 1) := by decide +kernel
theorem dL_law_280 : decode cL_law 280 = .ok (.iconst 1, 1) := by decide +kernel
theorem dL_law_281 : decode cL_law 281 = .ok (.iadd, 1) := by decide +kernel
theorem dL_law_282 : decode cL_law 282 = .ok (.iaload, 1) := by decide +kernel
theorem dL_law_283 : decode cL_law 283 = .ok (.invokevirtual 36, 3) := by decide +kernel
theorem dL_law_286 : decode cL_law 286 = .ok (.if_icmp .eq 466, 3) := by decide +kernel
theorem dL_law_289 : decode cL_law 289 = .ok (.iconst 0, 1) := by decide +kernel
theorem dL_law_290 : decode cL_law 290 = .ok (.ireturn, 1) := by decide +kernel
theorem dL_law_291 : decode cL_law 291 = .ok (.aload_n 1, 1) := by decide +kernel
theorem dL_law_292 : decode cL_law 292 = .ok (.aload_n 0, 1) := by decide +kernel
theorem dL_law_293 : decode cL_law 293 = .ok (.iload_n 3, 1) := by decide +kernel
theorem dL_law_294 : decode cL_law 294 = .ok (.iconst 1, 1) := by decide +kernel
theorem dL_law_295 : decode cL_law 295 = .ok (.iadd, 1) := by decide +kernel
theorem dL_law_296 : decode cL_law 296 = .ok (.iaload, 1) := by decide +kernel
theorem dL_law_297 : decode cL_law 297 = .ok (.aload_n 0, 1) := by decide +kernel
theorem dL_law_298 : decode cL_law 298 = .ok (.iload_n 3, 1) := by decide +kernel
theorem dL_law_299 : decode cL_law 299 = .ok (.iconst 2, 1) := by decide +kernel
theorem dL_law_300 : decode cL_law 300 = .ok (.iadd, 1) := by decide +kernel
theorem dL_law_301 : decode cL_law 301 = .ok (.iaload, 1) := by decide +kernel
theorem dL_law_302 : decode cL_law 302 = .ok (.invokevirtual 37, 3) := by decide +kernel
theorem dL_law_305 : decode cL_law 305 = .ok (.aload_n 2, 1) := by decide +kernel
theorem dL_law_306 : decode cL_law 306 = .ok (.aload_n 0, 1) := by decide +kernel
theorem dL_law_307 : decode cL_law 307 = .ok (.iload_n 3, 1) := by decide +kernel
theorem dL_law_308 : decode cL_law 308 = .ok (.iconst 1, 1) := by decide +kernel
theorem dL_law_309 : decode cL_law 309 = .ok (.iadd, 1) := by decide +kernel
theorem dL_law_310 : decode cL_law 310 = .ok (.iaload, 1) := by decide +kernel
theorem dL_law_311 : decode cL_law 311 = .ok (.aload_n 0, 1) := by decide +kernel
theorem dL_law_312 : decode cL_law 312 = .ok (.iload_n 3, 1) := by decide +kernel
theorem dL_law_313 : decode cL_law 313 = .ok (.iconst 2, 1) := by decide +kernel
theorem dL_law_314 : decode cL_law 314 = .ok (.iadd, 1) := by decide +kernel
theorem dL_law_315 : decode cL_law 315 = .ok (.iaload, 1) := by decide +kernel
theorem dL_law_316 : decode cL_law 316 = .ok (.invokevirtual 40, 3) := by decide +kernel
theorem dL_law_319 : decode cL_law 319 = .ok (.if_icmp .eq 433, 3) := by decide +kernel
theorem dL_law_322 : decode cL_law 322 = .ok (.iconst 0, 1) := by decide +kernel
theorem dL_law_323 : decode cL_law 323 = .ok (.ireturn, 1) := by decide +kernel
theorem dL_law_324 : decode cL_law 324 = .ok (.aload_n 1, 1) := by decide +kernel
theorem dL_law_325 : decode cL_law 325 = .ok (.aload_n 0, 1) := by decide +kernel
theorem dL_law_326 : decode cL_law 326 = .ok (.iload_n 3, 1) := by decide +kernel
theorem dL_law_327 : decode cL_law 327 = .ok (.iconst 1, 1) := by decide +kernel
theorem dL_law_328 : decode cL_law 328 = .ok (.iadd, 1) := by decide +kernel
theorem dL_law_329 : decode cL_law 329 = .ok (.iaload, 1) := by decide +kernel
theorem dL_law_330 : decode cL_law 330 = .ok (.aload_n 0, 1) := by decide +kernel
theorem dL_law_331 : decode cL_law 331 = .ok (.iload_n 3, 1) := by decide +kernel
theorem dL_law_332 : decode cL_law 332 = .ok (.iconst 2, 1) := by decide +kernel
theorem dL_law_333 : decode cL_law 333 = .ok (.iadd, 1) := by decide +kernel
theorem dL_law_334 : decode cL_law 334 = .ok (.iaload, 1) := by decide +kernel
theorem dL_law_335 : decode cL_law 335 = .ok (.invokevirtual 41, 3) := by decide +kernel
theorem dL_law_338 : decode cL_law 338 = .ok (.aload_n 2, 1) := by decide +kernel
theorem dL_law_339 : decode cL_law 339 = .ok (.aload_n 0, 1) := by decide +kernel
theorem dL_law_340 : decode cL_law 340 = .ok (.iload_n 3, 1) := by decide +kernel
theorem dL_law_341 : decode cL_law 341 = .ok (.iconst 1, 1) := by decide +kernel
theorem dL_law_342 : decode cL_law 342 = .ok (.iadd, 1) := by decide +kernel
theorem dL_law_343 : decode cL_law 343 = .ok (.iaload, 1) := by decide +kernel
theorem dL_law_344 : decode cL_law 344 = .ok (.aload_n 0, 1) := by decide +kernel
theorem dL_law_345 : decode cL_law 345 = .ok (.iload_n 3, 1) := by decide +kernel
theorem dL_law_346 : decode cL_law 346 = .ok (.iconst 2, 1) := by decide +kernel
theorem dL_law_347 : decode cL_law 347 = .ok (.iadd, 1) := by decide +kernel
theorem dL_law_348 : decode cL_law 348 = .ok (.iaload, 1) := by decide +kernel
theorem dL_law_349 : decode cL_law 349 = .ok (.invokevirtual 44, 3) := by decide +kernel
theorem dL_law_352 : decode cL_law 352 = .ok (.if_icmp .eq 400, 3) := by decide +kernel
theorem dL_law_355 : decode cL_law 355 = .ok (.iconst 0, 1) := by decide +kernel
theorem dL_law_356 : decode cL_law 356 = .ok (.ireturn, 1) := by decide +kernel
theorem dL_law_357 : decode cL_law 357 = .ok (.aload_n 1, 1) := by decide +kernel
theorem dL_law_358 : decode cL_law 358 = .ok (.aload_n 0, 1) := by decide +kernel
theorem dL_law_359 : decode cL_law 359 = .ok (.iload_n 3, 1) := by decide +kernel
theorem dL_law_360 : decode cL_law 360 = .ok (.iconst 1, 1) := by decide +kernel
theorem dL_law_361 : decode cL_law 361 = .ok (.iadd, 1) := by decide +kernel
theorem dL_law_362 : decode cL_law 362 = .ok (.iaload, 1) := by decide +kernel
theorem dL_law_363 : decode cL_law 363 = .ok (.aload_n 0, 1) := by decide +kernel
theorem dL_law_364 : decode cL_law 364 = .ok (.iload_n 3, 1) := by decide +kernel
theorem dL_law_365 : decode cL_law 365 = .ok (.iconst 2, 1) := by decide +kernel
theorem dL_law_366 : decode cL_law 366 = .ok (.iadd, 1) := by decide +kernel
theorem dL_law_367 : decode cL_law 367 = .ok (.iaload, 1) := by decide +kernel
theorem dL_law_368 : decode cL_law 368 = .ok (.invokevirtual 45, 3) := by decide +kernel
theorem dL_law_371 : decode cL_law 371 = .ok (.aload_n 2, 1) := by decide +kernel
theorem dL_law_372 : decode cL_law 372 = .ok (.aload_n 0, 1) := by decide +kernel
theorem dL_law_373 : decode cL_law 373 = .ok (.iload_n 3, 1) := by decide +kernel
theorem dL_law_374 : decode cL_law 374 = .ok (.iconst 1, 1) := by decide +kernel
theorem dL_law_375 : decode cL_law 375 = .ok (.iadd, 1) := by decide +kernel
theorem dL_law_376 : decode cL_law 376 = .ok (.iaload, 1) := by decide +kernel
theorem dL_law_377 : decode cL_law 377 = .ok (.aload_n 0, 1) := by decide +kernel
theorem dL_law_378 : decode cL_law 378 = .ok (.iload_n 3, 1) := by decide +kernel
theorem dL_law_379 : decode cL_law 379 = .ok (.iconst 2, 1) := by decide +kernel
theorem dL_law_380 : decode cL_law 380 = .ok (.iadd, 1) := by decide +kernel
theorem dL_law_381 : decode cL_law 381 = .ok (.iaload, 1) := by decide +kernel
theorem dL_law_382 : decode cL_law 382 = .ok (.invokevirtual 48, 3) := by decide +kernel
theorem dL_law_385 : decode cL_law 385 = .ok (.if_icmp .eq 367, 3) := by decide +kernel
theorem dL_law_388 : decode cL_law 388 = .ok (.iconst 0, 1) := by decide +kernel
theorem dL_law_389 : decode cL_law 389 = .ok (.ireturn, 1) := by decide +kernel
theorem dL_law_390 : decode cL_law 390 = .ok (.aload_n 1, 1) := by decide +kernel
theorem dL_law_391 : decode cL_law 391 = .ok (.aload_n 0, 1) := by decide +kernel
theorem dL_law_392 : decode cL_law 392 = .ok (.iload_n 3, 1) := by decide +kernel
theorem dL_law_393 : decode cL_law 393 = .ok (.iconst 1, 1) := by decide +kernel
theorem dL_law_394 : decode cL_law 394 = .ok (.iadd, 1) := by decide +kernel
theorem dL_law_395 : decode cL_law 395 = .ok (.iaload, 1) := by decide +kernel
theorem dL_law_396 : decode cL_law 396 = .ok (.aload_n 0, 1) := by decide +kernel
theorem dL_law_397 : decode cL_law 397 = .ok (.iload_n 3, 1) := by decide +kernel
theorem dL_law_398 : decode cL_law 398 = .ok (.iconst 2, 1) := by decide +kernel
theorem dL_law_399 : decode cL_law 399 = .ok (.iadd, 1) := by decide +kernel
theorem dL_law_400 : decode cL_law 400 = .ok (.iaload, 1) := by decide +kernel
theorem dL_law_401 : decode cL_law 401 = .ok (.invokevirtual 49, 3) := by decide +kernel
theorem dL_law_404 : decode cL_law 404 = .ok (.aload_n 2, 1) := by decide +kernel
theorem dL_law_405 : decode cL_law 405 = .ok (.aload_n 0, 1) := by decide +kernel
theorem dL_law_406 : decode cL_law 406 = .ok (.iload_n 3, 1) := by decide +kernel
theorem dL_law_407 : decode cL_law 407 = .ok (.iconst 1, 1) := by decide +kernel
theorem dL_law_408 : decode cL_law 408 = .ok (.iadd, 1) := by decide +kernel
theorem dL_law_409 : decode cL_law 409 = .ok (.iaload, 1) := by decide +kernel
theorem dL_law_410 : decode cL_law 410 = .ok (.aload_n 0, 1) := by decide +kernel
theorem dL_law_411 : decode cL_law 411 = .ok (.iload_n 3, 1) := by decide +kernel
theorem dL_law_412 : decode cL_law 412 = .ok (.iconst 2, 1) := by decide +kernel
theorem dL_law_413 : decode cL_law 413 = .ok (.iadd, 1) := by decide +kernel
theorem dL_law_414 : decode cL_law 414 = .ok (.iaload, 1) := by decide +kernel
theorem dL_law_415 : decode cL_law 415 = .ok (.invokevirtual 52, 3) := by decide +kernel
theorem dL_law_418 : decode cL_law 418 = .ok (.if_icmp .eq 334, 3) := by decide +kernel
theorem dL_law_421 : decode cL_law 421 = .ok (.iconst 0, 1) := by decide +kernel
theorem dL_law_422 : decode cL_law 422 = .ok (.ireturn, 1) := by decide +kernel
theorem dL_law_423 : decode cL_law 423 = .ok (.aload_n 1, 1) := by decide +kernel
theorem dL_law_424 : decode cL_law 424 = .ok (.aload_n 0, 1) := by decide +kernel
theorem dL_law_425 : decode cL_law 425 = .ok (.iload_n 3, 1) := by decide +kernel
theorem dL_law_426 : decode cL_law 426 = .ok (.iconst 1, 1) := by decide +kernel
theorem dL_law_427 : decode cL_law 427 = .ok (.iadd, 1) := by decide +kernel
theorem dL_law_428 : decode cL_law 428 = .ok (.iaload, 1) := by decide +kernel
theorem dL_law_429 : decode cL_law 429 = .ok (.aload_n 0, 1) := by decide +kernel
theorem dL_law_430 : decode cL_law 430 = .ok (.iload_n 3, 1) := by decide +kernel
theorem dL_law_431 : decode cL_law 431 = .ok (.iconst 2, 1) := by decide +kernel
theorem dL_law_432 : decode cL_law 432 = .ok (.iadd, 1) := by decide +kernel
theorem dL_law_433 : decode cL_law 433 = .ok (.iaload, 1) := by decide +kernel
theorem dL_law_434 : decode cL_law 434 = .ok (.invokevirtual 53, 3) := by decide +kernel
theorem dL_law_437 : decode cL_law 437 = .ok (.aload_n 2, 1) := by decide +kernel
theorem dL_law_438 : decode cL_law 438 = .ok (.aload_n 0, 1) := by decide +kernel
theorem dL_law_439 : decode cL_law 439 = .ok (.iload_n 3, 1) := by decide +kernel
theorem dL_law_440 : decode cL_law 440 = .ok (.iconst 1, 1) := by decide +kernel
theorem dL_law_441 : decode cL_law 441 = .ok (.iadd, 1) := by decide +kernel
theorem dL_law_442 : decode cL_law 442 = .ok (.iaload, 1) := by decide +kernel
theorem dL_law_443 : decode cL_law 443 = .ok (.aload_n 0, 1) := by decide +kernel
theorem dL_law_444 : decode cL_law 444 = .ok (.iload_n 3, 1) := by decide +kernel
theorem dL_law_445 : decode cL_law 445 = .ok (.iconst 2, 1) := by decide +kernel
theorem dL_law_446 : decode cL_law 446 = .ok (.iadd, 1) := by decide +kernel
theorem dL_law_447 : decode cL_law 447 = .ok (.iaload, 1) := by decide +kernel
theorem dL_law_448 : decode cL_law 448 = .ok (.invokevirtual 56, 3) := by decide +kernel
theorem dL_law_451 : decode cL_law 451 = .ok (.if_icmp .eq 301, 3) := by decide +kernel
theorem dL_law_454 : decode cL_law 454 = .ok (.iconst 0, 1) := by decide +kernel
theorem dL_law_455 : decode cL_law 455 = .ok (.ireturn, 1) := by decide +kernel
theorem dL_law_456 : decode cL_law 456 = .ok (.aload_n 1, 1) := by decide +kernel
theorem dL_law_457 : decode cL_law 457 = .ok (.aload_n 0, 1) := by decide +kernel
theorem dL_law_458 : decode cL_law 458 = .ok (.iload_n 3, 1) := by decide +kernel
theorem dL_law_459 : decode cL_law 459 = .ok (.iconst 1, 1) := by decide +kernel
theorem dL_law_460 : decode cL_law 460 = .ok (.iadd, 1) := by decide +kernel
theorem dL_law_461 : decode cL_law 461 = .ok (.iaload, 1) := by decide +kernel
theorem dL_law_462 : decode cL_law 462 = .ok (.aload_n 0, 1) := by decide +kernel
theorem dL_law_463 : decode cL_law 463 = .ok (.iload_n 3, 1) := by decide +kernel
theorem dL_law_464 : decode cL_law 464 = .ok (.iconst 2, 1) := by decide +kernel
theorem dL_law_465 : decode cL_law 465 = .ok (.iadd, 1) := by decide +kernel
theorem dL_law_466 : decode cL_law 466 = .ok (.iaload, 1) := by decide +kernel
theorem dL_law_467 : decode cL_law 467 = .ok (.invokevirtual 57, 3) := by decide +kernel
theorem dL_law_470 : decode cL_law 470 = .ok (.aload_n 2, 1) := by decide +kernel
theorem dL_law_471 : decode cL_law 471 = .ok (.aload_n 0, 1) := by decide +kernel
theorem dL_law_472 : decode cL_law 472 = .ok (.iload_n 3, 1) := by decide +kernel
theorem dL_law_473 : decode cL_law 473 = .ok (.iconst 1, 1) := by decide +kernel
theorem dL_law_474 : decode cL_law 474 = .ok (.iadd, 1) := by decide +kernel
theorem dL_law_475 : decode cL_law 475 = .ok (.iaload, 1) := by decide +kernel
theorem dL_law_476 : decode cL_law 476 = .ok (.aload_n 0, 1) := by decide +kernel
theorem dL_law_477 : decode cL_law 477 = .ok (.iload_n 3, 1) := by decide +kernel
theorem dL_law_478 : decode cL_law 478 = .ok (.iconst 2, 1) := by decide +kernel
theorem dL_law_479 : decode cL_law 479 = .ok (.iadd, 1) := by decide +kernel
theorem dL_law_480 : decode cL_law 480 = .ok (.iaload, 1) := by decide +kernel
theorem dL_law_481 : decode cL_law 481 = .ok (.invokevirtual 60, 3) := by decide +kernel
theorem dL_law_484 : decode cL_law 484 = .ok (.if_icmp .eq 268, 3) := by decide +kernel
theorem dL_law_487 : decode cL_law 487 = .ok (.iconst 0, 1) := by decide +kernel
theorem dL_law_488 : decode cL_law 488 = .ok (.ireturn, 1) := by decide +kernel
theorem dL_law_489 : decode cL_law 489 = .ok (.aload_n 1, 1) := by decide +kernel
theorem dL_law_490 : decode cL_law 490 = .ok (.aload_n 0, 1) := by decide +kernel
theorem dL_law_491 : decode cL_law 491 = .ok (.iload_n 3, 1) := by decide +kernel
theorem dL_law_492 : decode cL_law 492 = .ok (.iconst 1, 1) := by decide +kernel
theorem dL_law_493 : decode cL_law 493 = .ok (.iadd, 1) := by decide +kernel
theorem dL_law_494 : decode cL_law 494 = .ok (.iaload, 1) := by decide +kernel
theorem dL_law_495 : decode cL_law 495 = .ok (.invokevirtual 61, 3) := by decide +kernel
theorem dL_law_498 : decode cL_law 498 = .ok (.aload_n 2, 1) := by decide +kernel
theorem dL_law_499 : decode cL_law 499 = .ok (.aload_n 0, 1) := by decide +kernel
theorem dL_law_500 : decode cL_law 500 = .ok (.iload_n 3, 1) := by decide +kernel
theorem dL_law_501 : decode cL_law 501 = .ok (.iconst 1, 1) := by decide +kernel
theorem dL_law_502 : decode cL_law 502 = .ok (.iadd, 1) := by decide +kernel
theorem dL_law_503 : decode cL_law 503 = .ok (.iaload, 1) := by decide +kernel
theorem dL_law_504 : decode cL_law 504 = .ok (.invokevirtual 65, 3) := by decide +kernel
theorem dL_law_507 : decode cL_law 507 = .ok (.if_icmp .eq 245, 3) := by decide +kernel
theorem dL_law_510 : decode cL_law 510 = .ok (.iconst 0, 1) := by decide +kernel
theorem dL_law_511 : decode cL_law 511 = .ok (.ireturn, 1) := by decide +kernel
theorem dL_law_512 : decode cL_law 512 = .ok (.aload_n 1, 1) := by decide +kernel
theorem dL_law_513 : decode cL_law 513 = .ok (.invokevirtual 66, 3) := by decide +kernel
theorem dL_law_516 : decode cL_law 516 = .ok (.aload_n 2, 1) := by decide +kernel
theorem dL_law_517 : decode cL_law 517 = .ok (.invokevirtual 70, 3) := by decide +kernel
theorem dL_law_520 : decode cL_law 520 = .ok (.if_icmp .eq 232, 3) := by decide +kernel
theorem dL_law_523 : decode cL_law 523 = .ok (.iconst 0, 1) := by decide +kernel
theorem dL_law_524 : decode cL_law 524 = .ok (.ireturn, 1) := by decide +kernel
theorem dL_law_525 : decode cL_law 525 = .ok (.aload_n 1, 1) := by decide +kernel
theorem dL_law_526 : decode cL_law 526 = .ok (.aload_n 0, 1) := by decide +kernel
theorem dL_law_527 : decode cL_law 527 = .ok (.iload_n 3, 1) := by decide +kernel
theorem dL_law_528 : decode cL_law 528 = .ok (.iconst 1, 1) := by decide +kernel
theorem dL_law_529 : decode cL_law 529 = .ok (.iadd, 1) := by decide +kernel
theorem dL_law_530 : decode cL_law 530 = .ok (.iaload, 1) := by decide +kernel
theorem dL_law_531 : decode cL_law 531 = .ok (.invokevirtual 71, 3) := by decide +kernel
theorem dL_law_534 : decode cL_law 534 = .ok (.aload_n 2, 1) := by decide +kernel
theorem dL_law_535 : decode cL_law 535 = .ok (.aload_n 0, 1) := by decide +kernel
theorem dL_law_536 : decode cL_law 536 = .ok (.iload_n 3, 1) := by decide +kernel
theorem dL_law_537 : decode cL_law 537 = .ok (.iconst 1, 1) := by decide +kernel
theorem dL_law_538 : decode cL_law 538 = .ok (.iadd, 1) := by decide +kernel
theorem dL_law_539 : decode cL_law 539 = .ok (.iaload, 1) := by decide +kernel
theorem dL_law_540 : decode cL_law 540 = .ok (.invokevirtual 74, 3) := by decide +kernel
theorem dL_law_543 : decode cL_law 543 = .ok (.if_icmp .eq 209, 3) := by decide +kernel
theorem dL_law_546 : decode cL_law 546 = .ok (.iconst 0, 1) := by decide +kernel
theorem dL_law_547 : decode cL_law 547 = .ok (.ireturn, 1) := by decide +kernel
theorem dL_law_548 : decode cL_law 548 = .ok (.aload_n 1, 1) := by decide +kernel
theorem dL_law_549 : decode cL_law 549 = .ok (.invokevirtual 75, 3) := by decide +kernel
theorem dL_law_552 : decode cL_law 552 = .ok (.aload_n 2, 1) := by decide +kernel
theorem dL_law_553 : decode cL_law 553 = .ok (.invokevirtual 78, 3) := by decide +kernel
theorem dL_law_556 : decode cL_law 556 = .ok (.if_icmp .eq 196, 3) := by decide +kernel
theorem dL_law_559 : decode cL_law 559 = .ok (.iconst 0, 1) := by decide +kernel
theorem dL_law_560 : decode cL_law 560 = .ok (.ireturn, 1) := by decide +kernel
theorem dL_law_561 : decode cL_law 561 = .ok (.aload_n 1, 1) := by decide +kernel
theorem dL_law_562 : decode cL_law 562 = .ok (.invokevirtual 79, 3) := by decide +kernel
theorem dL_law_565 : decode cL_law 565 = .ok (.aload_n 2, 1) := by decide +kernel
theorem dL_law_566 : decode cL_law 566 = .ok (.invokevirtual 82, 3) := by decide +kernel
theorem dL_law_569 : decode cL_law 569 = .ok (.if_icmp .eq 183, 3) := by decide +kernel
theorem dL_law_572 : decode cL_law 572 = .ok (.iconst 0, 1) := by decide +kernel
theorem dL_law_573 : decode cL_law 573 = .ok (.ireturn, 1) := by decide +kernel
theorem dL_law_574 : decode cL_law 574 = .ok (.aload_n 1, 1) := by decide +kernel
theorem dL_law_575 : decode cL_law 575 = .ok (.aload_n 0, 1) := by decide +kernel
theorem dL_law_576 : decode cL_law 576 = .ok (.iload_n 3, 1) := by decide +kernel
theorem dL_law_577 : decode cL_law 577 = .ok (.iconst 1, 1) := by decide +kernel
theorem dL_law_578 : decode cL_law 578 = .ok (.iadd, 1) := by decide +kernel
theorem dL_law_579 : decode cL_law 579 = .ok (.iaload, 1) := by decide +kernel
theorem dL_law_580 : decode cL_law 580 = .ok (.aload_n 0, 1) := by decide +kernel
theorem dL_law_581 : decode cL_law 581 = .ok (.iload_n 3, 1) := by decide +kernel
theorem dL_law_582 : decode cL_law 582 = .ok (.iconst 2, 1) := by decide +kernel
theorem dL_law_583 : decode cL_law 583 = .ok (.iadd, 1) := by decide +kernel
theorem dL_law_584 : decode cL_law 584 = .ok (.iaload, 1) := by decide +kernel
theorem dL_law_585 : decode cL_law 585 = .ok (.invokevirtual 83, 3) := by decide +kernel
theorem dL_law_588 : decode cL_law 588 = .ok (.aload_n 2, 1) := by decide +kernel
theorem dL_law_589 : decode cL_law 589 = .ok (.aload_n 0, 1) := by decide +kernel
theorem dL_law_590 : decode cL_law 590 = .ok (.iload_n 3, 1) := by decide +kernel
theorem dL_law_591 : decode cL_law 591 = .ok (.iconst 1, 1) := by decide +kernel
theorem dL_law_592 : decode cL_law 592 = .ok (.iadd, 1) := by decide +kernel
theorem dL_law_593 : decode cL_law 593 = .ok (.iaload, 1) := by decide +kernel
theorem dL_law_594 : decode cL_law 594 = .ok (.aload_n 0, 1) := by decide +kernel
theorem dL_law_595 : decode cL_law 595 = .ok (.iload_n 3, 1) := by decide +kernel
theorem dL_law_596 : decode cL_law 596 = .ok (.iconst 2, 1) := by decide +kernel
theorem dL_law_597 : decode cL_law 597 = .ok (.iadd, 1) := by decide +kernel
theorem dL_law_598 : decode cL_law 598 = .ok (.iaload, 1) := by decide +kernel
theorem dL_law_599 : decode cL_law 599 = .ok (.invokevirtual 86, 3) := by decide +kernel
theorem dL_law_602 : decode cL_law 602 = .ok (.if_icmp .eq 150, 3) := by decide +kernel
theorem dL_law_605 : decode cL_law 605 = .ok (.iconst 0, 1) := by decide +kernel
theorem dL_law_606 : decode cL_law 606 = .ok (.ireturn, 1) := by decide +kernel
theorem dL_law_607 : decode cL_law 607 = .ok (.aload_n 1, 1) := by decide +kernel
theorem dL_law_608 : decode cL_law 608 = .ok (.aload_n 0, 1) := by decide +kernel
theorem dL_law_609 : decode cL_law 609 = .ok (.iload_n 3, 1) := by decide +kernel
theorem dL_law_610 : decode cL_law 610 = .ok (.iconst 1, 1) := by decide +kernel
theorem dL_law_611 : decode cL_law 611 = .ok (.iadd, 1) := by decide +kernel
theorem dL_law_612 : decode cL_law 612 = .ok (.iaload, 1) := by decide +kernel
theorem dL_law_613 : decode cL_law 613 = .ok (.aload_n 0, 1) := by decide +kernel
theorem dL_law_614 : decode cL_law 614 = .ok (.iload_n 3, 1) := by decide +kernel
theorem dL_law_615 : decode cL_law 615 = .ok (.iconst 2, 1) := by decide +kernel
theorem dL_law_616 : decode cL_law 616 = .ok (.iadd, 1) := by decide +kernel
theorem dL_law_617 : decode cL_law 617 = .ok (.iaload, 1) := by decide +kernel
theorem dL_law_618 : decode cL_law 618 = .ok (.invokevirtual 87, 3) := by decide +kernel
theorem dL_law_621 : decode cL_law 621 = .ok (.aload_n 2, 1) := by decide +kernel
theorem dL_law_622 : decode cL_law 622 = .ok (.aload_n 0, 1) := by decide +kernel
theorem dL_law_623 : decode cL_law 623 = .ok (.iload_n 3, 1) := by decide +kernel
theorem dL_law_624 : decode cL_law 624 = .ok (.iconst 1, 1) := by decide +kernel
theorem dL_law_625 : decode cL_law 625 = .ok (.iadd, 1) := by decide +kernel
theorem dL_law_626 : decode cL_law 626 = .ok (.iaload, 1) := by decide +kernel
theorem dL_law_627 : decode cL_law 627 = .ok (.aload_n 0, 1) := by decide +kernel
theorem dL_law_628 : decode cL_law 628 = .ok (.iload_n 3, 1) := by decide +kernel
theorem dL_law_629 : decode cL_law 629 = .ok (.iconst 2, 1) := by decide +kernel
theorem dL_law_630 : decode cL_law 630 = .ok (.iadd, 1) := by decide +kernel
theorem dL_law_631 : decode cL_law 631 = .ok (.iaload, 1) := by decide +kernel
theorem dL_law_632 : decode cL_law 632 = .ok (.invokevirtual 90, 3) := by decide +kernel
theorem dL_law_635 : decode cL_law 635 = .ok (.if_icmp .eq 117, 3) := by decide +kernel
theorem dL_law_638 : decode cL_law 638 = .ok (.iconst 0, 1) := by decide +kernel
theorem dL_law_639 : decode cL_law 639 = .ok (.ireturn, 1) := by decide +kernel
theorem dL_law_640 : decode cL_law 640 = .ok (.aload_n 1, 1) := by decide +kernel
theorem dL_law_641 : decode cL_law 641 = .ok (.aload_n 0, 1) := by decide +kernel
theorem dL_law_642 : decode cL_law 642 = .ok (.iload_n 3, 1) := by decide +kernel
theorem dL_law_643 : decode cL_law 643 = .ok (.iconst 1, 1) := by decide +kernel
theorem dL_law_644 : decode cL_law 644 = .ok (.iadd, 1) := by decide +kernel
theorem dL_law_645 : decode cL_law 645 = .ok (.iaload, 1) := by decide +kernel
theorem dL_law_646 : decode cL_law 646 = .ok (.aload_n 0, 1) := by decide +kernel
theorem dL_law_647 : decode cL_law 647 = .ok (.iload_n 3, 1) := by decide +kernel
theorem dL_law_648 : decode cL_law 648 = .ok (.iconst 2, 1) := by decide +kernel
theorem dL_law_649 : decode cL_law 649 = .ok (.iadd, 1) := by decide +kernel
theorem dL_law_650 : decode cL_law 650 = .ok (.iaload, 1) := by decide +kernel
theorem dL_law_651 : decode cL_law 651 = .ok (.invokevirtual 91, 3) := by decide +kernel
theorem dL_law_654 : decode cL_law 654 = .ok (.aload_n 2, 1) := by decide +kernel
theorem dL_law_655 : decode cL_law 655 = .ok (.aload_n 0, 1) := by decide +kernel
theorem dL_law_656 : decode cL_law 656 = .ok (.iload_n 3, 1) := by decide +kernel
theorem dL_law_657 : decode cL_law 657 = .ok (.iconst 1, 1) := by decide +kernel
theorem dL_law_658 : decode cL_law 658 = .ok (.iadd, 1) := by decide +kernel
theorem dL_law_659 : decode cL_law 659 = .ok (.iaload, 1) := by decide +kernel
theorem dL_law_660 : decode cL_law 660 = .ok (.aload_n 0, 1) := by decide +kernel
theorem dL_law_661 : decode cL_law 661 = .ok (.iload_n 3, 1) := by decide +kernel
theorem dL_law_662 : decode cL_law 662 = .ok (.iconst 2, 1) := by decide +kernel
theorem dL_law_663 : decode cL_law 663 = .ok (.iadd, 1) := by decide +kernel
theorem dL_law_664 : decode cL_law 664 = .ok (.iaload, 1) := by decide +kernel
theorem dL_law_665 : decode cL_law 665 = .ok (.invokevirtual 94, 3) := by decide +kernel
theorem dL_law_668 : decode cL_law 668 = .ok (.if_icmp .eq 84, 3) := by decide +kernel
theorem dL_law_671 : decode cL_law 671 = .ok (.iconst 0, 1) := by decide +kernel
theorem dL_law_672 : decode cL_law 672 = .ok (.ireturn, 1) := by decide +kernel
theorem dL_law_673 : decode cL_law 673 = .ok (.aload_n 1, 1) := by decide +kernel
theorem dL_law_674 : decode cL_law 674 = .ok (.aload_n 0, 1) := by decide +kernel
theorem dL_law_675 : decode cL_law 675 = .ok (.iload_n 3, 1) := by decide +kernel
theorem dL_law_676 : decode cL_law 676 = .ok (.iconst 1, 1) := by decide +kernel
theorem dL_law_677 : decode cL_law 677 = .ok (.iadd, 1) := by decide +kernel
theorem dL_law_678 : decode cL_law 678 = .ok (.iaload, 1) := by decide +kernel
theorem dL_law_679 : decode cL_law 679 = .ok (.invokevirtual 95, 3) := by decide +kernel
theorem dL_law_682 : decode cL_law 682 = .ok (.aload_n 2, 1) := by decide +kernel
theorem dL_law_683 : decode cL_law 683 = .ok (.aload_n 0, 1) := by decide +kernel
theorem dL_law_684 : decode cL_law 684 = .ok (.iload_n 3, 1) := by decide +kernel
theorem dL_law_685 : decode cL_law 685 = .ok (.iconst 1, 1) := by decide +kernel
theorem dL_law_686 : decode cL_law 686 = .ok (.iadd, 1) := by decide +kernel
theorem dL_law_687 : decode cL_law 687 = .ok (.iaload, 1) := by decide +kernel
theorem dL_law_688 : decode cL_law 688 = .ok (.invokevirtual 98, 3) := by decide +kernel
theorem dL_law_691 : decode cL_law 691 = .ok (.if_icmp .eq 61, 3) := by decide +kernel
theorem dL_law_694 : decode cL_law 694 = .ok (.iconst 0, 1) := by decide +kernel
theorem dL_law_695 : decode cL_law 695 = .ok (.ireturn, 1) := by decide +kernel
theorem dL_law_696 : decode cL_law 696 = .ok (.aload_n 1, 1) := by decide +kernel
theorem dL_law_697 : decode cL_law 697 = .ok (.aload_n 0, 1) := by decide +kernel
theorem dL_law_698 : decode cL_law 698 = .ok (.iload_n 3, 1) := by decide +kernel
theorem dL_law_699 : decode cL_law 699 = .ok (.iconst 1, 1) := by decide +kernel
theorem dL_law_700 : decode cL_law 700 = .ok (.iadd, 1) := by decide +kernel
theorem dL_law_701 : decode cL_law 701 = .ok (.iaload, 1) := by decide +kernel
theorem dL_law_702 : decode cL_law 702 = .ok (.aload_n 0, 1) := by decide +kernel
theorem dL_law_703 : decode cL_law 703 = .ok (.iload_n 3, 1) := by decide +kernel
theorem dL_law_704 : decode cL_law 704 = .ok (.iconst 2, 1) := by decide +kernel
theorem dL_law_705 : decode cL_law 705 = .ok (.iadd, 1) := by decide +kernel
theorem dL_law_706 : decode cL_law 706 = .ok (.iaload, 1) := by decide +kernel
theorem dL_law_707 : decode cL_law 707 = .ok (.invokevirtual 99, 3) := by decide +kernel
theorem dL_law_710 : decode cL_law 710 = .ok (.aload_n 2, 1) := by decide +kernel
theorem dL_law_711 : decode cL_law 711 = .ok (.aload_n 0, 1) := by decide +kernel
theorem dL_law_712 : decode cL_law 712 = .ok (.iload_n 3, 1) := by decide +kernel
theorem dL_law_713 : decode cL_law 713 = .ok (.iconst 1, 1) := by decide +kernel
theorem dL_law_714 : decode cL_law 714 = .ok (.iadd, 1) := by decide +kernel
theorem dL_law_715 : decode cL_law 715 = .ok (.iaload, 1) := by decide +kernel
theorem dL_law_716 : decode cL_law 716 = .ok (.aload_n 0, 1) := by decide +kernel
theorem dL_law_717 : decode cL_law 717 = .ok (.iload_n 3, 1) := by decide +kernel
theorem dL_law_718 : decode cL_law 718 = .ok (.iconst 2, 1) := by decide +kernel
theorem dL_law_719 : decode cL_law 719 = .ok (.iadd, 1) := by decide +kernel
theorem dL_law_720 : decode cL_law 720 = .ok (.iaload, 1) := by decide +kernel
theorem dL_law_721 : decode cL_law 721 = .ok (.invokevirtual 102, 3) := by decide +kernel
theorem dL_law_724 : decode cL_law 724 = .ok (.if_icmp .eq 28, 3) := by decide +kernel
theorem dL_law_727 : decode cL_law 727 = .ok (.iconst 0, 1) := by decide +kernel
theorem dL_law_728 : decode cL_law 728 = .ok (.ireturn, 1) := by decide +kernel
theorem dL_law_729 : decode cL_law 729 = .ok (.aload_n 1, 1) := by decide +kernel
theorem dL_law_730 : decode cL_law 730 = .ok (.aload_n 0, 1) := by decide +kernel
theorem dL_law_731 : decode cL_law 731 = .ok (.iload_n 3, 1) := by decide +kernel
theorem dL_law_732 : decode cL_law 732 = .ok (.iconst 1, 1) := by decide +kernel
theorem dL_law_733 : decode cL_law 733 = .ok (.iadd, 1) := by decide +kernel
theorem dL_law_734 : decode cL_law 734 = .ok (.iaload, 1) := by decide +kernel
theorem dL_law_735 : decode cL_law 735 = .ok (.invokevirtual 103, 3) := by decide +kernel
theorem dL_law_738 : decode cL_law 738 = .ok (.aload_n 2, 1) := by decide +kernel
theorem dL_law_739 : decode cL_law 739 = .ok (.aload_n 0, 1) := by decide +kernel
theorem dL_law_740 : decode cL_law 740 = .ok (.iload_n 3, 1) := by decide +kernel
theorem dL_law_741 : decode cL_law 741 = .ok (.iconst 1, 1) := by decide +kernel
theorem dL_law_742 : decode cL_law 742 = .ok (.iadd, 1) := by decide +kernel
theorem dL_law_743 : decode cL_law 743 = .ok (.iaload, 1) := by decide +kernel
theorem dL_law_744 : decode cL_law 744 = .ok (.invokevirtual 106, 3) := by decide +kernel
theorem dL_law_747 : decode cL_law 747 = .ok (.if_icmp .eq 5, 3) := by decide +kernel
theorem dL_law_750 : decode cL_law 750 = .ok (.iconst 0, 1) := by decide +kernel
theorem dL_law_751 : decode cL_law 751 = .ok (.ireturn, 1) := by decide +kernel
theorem dL_law_752 : decode cL_law 752 = .ok (.iinc 3 4, 3) := by decide +kernel
theorem dL_law_755 : decode cL_law 755 = .ok (.goto (-737), 3) := by decide +kernel
theorem dL_law_758 : decode cL_law 758 = .ok (.iconst 1, 1) := by decide +kernel
theorem dL_law_759 : decode cL_law 759 = .ok (.ireturn, 1) := by decide +kernel
end
section
/-! THE COMPACT JUDGEMENT. A world is a function wf of the int fields (iv) and the int arrays (ar); Z pc lv st iv ar says that the machine, at pc with locals lv and stack st in a heap that holds wf iv ar, comes to the method's end with 'post'. -/
abbrev IV : Type := Nat → Int32
abbrev AR : Type := Nat → Nat → Int32
abbrev WF : Type := IV → AR → va_W
abbrev PST : Type := Option Value → IV → AR → Prop
abbrev LV : Type := List (Option Value)
abbrev ZT : Type := Nat → LV → List Value → IV → AR → Prop
abbrev classes : List vw_C := [(RX0, TX0, 4), (RX1, TX1, 2), (RX2, TX2, 5), (RX3, TX3, 11), (RX4, TX4, 2), (RX5, TX5, 9), (RX6, TX6, 4), (RX7, TX7, 10), (RX8, TX8, 20)]
/-- the tables' words that hold in every state behind the start -/
def tG : List Cond := lw_tbl.filter goodWord
theorem mG {w : Cond} (h : w ∈ lw_tbl) (hg : goodWord w = true) : w ∈ tG := List.mem_filter.mpr ⟨h, hg⟩
def adr (wf : WF) : Nat → Prop := fun q => ∃ (k : Nat) (e : va_E), (wf (fun _ => 0) (fun _ _ => 0))[k]? = some (q, e)
def wfOk (wf : WF) : Prop := ∀ iv ar, (wf iv ar).map Prod.fst = (wf (fun _ => 0) (fun _ _ => 0)).map Prod.fst
theorem wfOk.at {wf : WF} (h : wfOk wf) {iv iv2 : IV} {ar ar2 : AR} {k : Nat} {q : Nat × va_E} (hk : (wf iv ar)[k]? = some q) : ∃ e, (wf iv2 ar2)[k]? = some (q.1, e) := by
  have h1 : ((wf iv ar).map Prod.fst)[k]? = some q.1 := by rw [List.getElem?_map, hk]; rfl
  rw [h iv ar, ← h iv2 ar2, List.getElem?_map] at h1
  cases hq : (wf iv2 ar2)[k]? with
  | none => rw [hq] at h1; cases h1
  | some x => rw [hq] at h1; exact ⟨x.2, by rw [← Option.some.inj h1]⟩
theorem wfOk.adr {wf : WF} (h : wfOk wf) {iv : IV} {ar : AR} {k : Nat} {q : Nat × va_E} (hk : (wf iv ar)[k]? = some q) : adr wf q.1 := by
  obtain ⟨e, he⟩ := h.at (iv2 := fun _ => 0) (ar2 := fun _ _ => 0) hk
  exact ⟨k, e, he⟩
theorem wfOk.D {wf : WF} (h : wfOk wf) {A : Nat → Prop} {iv : IV} {ar : AR} (hD : va_D A (wf iv ar)) (iv2 : IV) (ar2 : AR) : va_D (_root_.Jvm.Pilot.CVoiceHouseLaw_law_r7926_d51bb9.adr wf) (wf iv2 ar2) := by
  refine ⟨fun i j p q hi hj e => ?_, fun k q hk => h.adr hk⟩
  obtain ⟨e1, h1⟩ := h.at (iv2 := iv) (ar2 := ar) hi
  obtain ⟨e2, h2⟩ := h.at (iv2 := iv) (ar2 := ar) hj
  exact hD.1 i j _ _ h1 h2 e
/-- the one word on a nest mate's private method -/
def nW (U : State) : Prop := va_Nw (.methodLinkNest RX3 88 yX7_bandOf RX7) U
def Qk (D : va_G) (wf : WF) (post : PST) : Array Value → State → Outcome → State → Prop := fun _ st oc t => (∃ (v : Option Value) (iv : IV) (ar : AR), oc = .returned v ∧ post v iv ar ∧ va_P D classes (wf iv ar) t.heap) ∧ va_F (adr wf) st t
def Bk (D : va_G) (cI : ClassId) (wf : WF) (iv : IV) (ar : AR) (U : State) : Prop := va_P D classes (wf iv ar) U.heap ∧ va_K D classes [(cI, .int)] U ∧ va_D (fun _ => True) (wf iv ar) ∧ nW U
/-- a method's contract -/
def Ct (l : Launch) (D : va_G) (cI : ClassId) (wf : WF) (y : MethodName) (cc : ByteArray) (mL : Nat) (ret : Option FieldType) (fr lo : Nat) (as : List Value) (iv : IV) (ar : AR) (post : PST) : Prop := Met l y (.code y cc mL ret :: tG) { frames := fr, cells := 0, slots := 0, locals := lo } (va_Pc as (Bk D cI wf iv ar)) (Qk D wf post) 0 0 (adr wf)
/-- the locals: what is known of each -/
def asc : Nat → LV → List (Nat × Value)
  | _, [] => []
  | i, none :: r => asc (i + 1) r
  | i, some v :: r => (i, v) :: asc (i + 1) r
theorem asc_mem : ∀ (lv : LV) (i k : Nat) (v : Value), (k, v) ∈ asc i lv ↔ (i ≤ k ∧ lv[k - i]? = some (some v))
  | [], i, k, v => by simp [asc]
  | none :: r, i, k, v => by
    rw [asc, asc_mem r (i + 1) k v]
    constructor
    · rintro ⟨h1, h2⟩
      refine ⟨by omega, ?_⟩
      rw [show k - i = (k - (i + 1)) + 1 by omega]
      exact h2
    · rintro ⟨h1, h2⟩
      rcases Nat.lt_or_ge i k with q | q
      · refine ⟨q, ?_⟩
        rw [show k - i = (k - (i + 1)) + 1 by omega] at h2
        exact h2
      · rw [show k - i = 0 by omega] at h2
        cases h2
  | some u :: r, i, k, v => by
    rw [asc, List.mem_cons, asc_mem r (i + 1) k v]
    constructor
    · rintro (h | ⟨h1, h2⟩)
      · cases h
        refine ⟨Nat.le_refl _, ?_⟩
        rw [Nat.sub_self]
        rfl
      · refine ⟨by omega, ?_⟩
        rw [show k - i = (k - (i + 1)) + 1 by omega]
        exact h2
    · rintro ⟨h1, h2⟩
      rcases Nat.lt_or_ge i k with q | q
      · refine Or.inr ⟨q, ?_⟩
        rw [show k - i = (k - (i + 1)) + 1 by omega] at h2
        exact h2
      · rw [show k - i = 0 by omega] at h2
        have e : k = i := by omega
        subst e
        cases h2
        exact Or.inl rfl
def lh (ls : Array Slot) (mL : Nat) (lv : LV) : Prop := lv_has ls mL (asc 0 lv) ∧ ∀ v, some v ∈ lv → v.category = 1
theorem lh.at {ls : Array Slot} {mL : Nat} {lv : LV} (h : lh ls mL lv) {k : Nat} {v : Value} (hk : lv[k]? = some (some v)) : ls[k]? = some (.val v) := h.1.2.2 (k, v) ((asc_mem lv 0 k v).mpr ⟨Nat.zero_le k, hk⟩)
theorem lh.put {ls ls2 : Array Slot} {mL i : Nat} {lv : LV} {v : Value} (h : lh ls mL lv) (hc : v.category = 1) (h2 : lv_has ls2 mL ((i, v) :: (asc 0 lv).filter (fun q => !(q.1 == i) && !(q.1 + 1 == i && q.2.category == 2)))) (hi : i < lv.length) : lh ls2 mL (lv.set i (some v)) := by
  refine ⟨⟨h2.1, h2.2.1, fun q hq => ?_⟩, fun u hu => ?_⟩
  · obtain ⟨k, u⟩ := q
    have hk := ((asc_mem _ 0 k u).mp hq).2
    rw [Nat.sub_zero, List.getElem?_set] at hk
    refine h2.2.2 (k, u) ?_
    rcases Decidable.em (i = k) with e | e
    · rw [if_pos e, if_pos hi] at hk
      cases hk
      subst e
      exact List.mem_cons_self
    · rw [if_neg e] at hk
      refine List.mem_cons_of_mem _ (List.mem_filter.mpr ⟨(asc_mem _ 0 k u).mpr ⟨Nat.zero_le k, hk⟩, ?_⟩)
      have hc1 : u.category = 1 := h.2 u (List.mem_of_getElem? hk)
      have e2 : ¬ k = i := fun q => e q.symm
      simp [hc1, e2]
  · rcases List.mem_or_eq_of_mem_set hu with h3 | h3
    · exact h.2 u h3
    · cases h3
      exact hc
theorem lh.weak {ls : Array Slot} {mL : Nat} {lv lv2 : LV} (h : lh ls mL lv) (hs : ∀ (k : Nat) (v : Value), lv2[k]? = some (some v) → lv[k]? = some (some v)) : lh ls mL lv2 := by
  refine ⟨⟨h.1.1, h.1.2.1, fun q hq => ?_⟩, fun u hu => ?_⟩
  · obtain ⟨k, u⟩ := q
    have hk := ((asc_mem _ 0 k u).mp hq).2
    exact h.at (hs _ _ hk)
  · obtain ⟨k, hk⟩ := List.getElem?_of_mem hu
    exact h.2 u (List.mem_of_getElem? (hs k u hk))
/-- the frame of a walk: what stays the same through a method -/
def Fx (l : Launch) (D : va_G) (cI : ClassId) (wf : WF) (own : String) (cc : ByteArray) (mL : Nat) (ret : Option FieldType) (fr lo : Nat) (post : PST) (Z : ZT) : Prop :=
  wfOk wf ∧ ∃ (p : Program) (e : Env) (s : State) (m : MethodId) (args : Array Value) (below : List Frame) (meth : Method) (c : Code), p.tables.exec = Jvm.exec ∧ c.code = cc ∧ c.maxLocals = mL ∧ meth.sig.returnType = ret ∧ meth.locks = false ∧ s.vm.findClass own = some m.cls ∧ (∀ w ∈ tG, w.before args s = true) ∧ nW s ∧ va_K D classes [(cI, .int)] s ∧ (∀ iv ar, va_D (adr wf) (wf iv ar)) ∧ Z = (fun pc lv st iv ar => ∀ (H : Heap) (locs : List Loc) (ls : Array Slot), va_P D classes (wf iv ar) H → va_S (adr wf) s.heap H locs → lh ls mL lv → W p l e { frames := fr, cells := 0, slots := 0, locals := lo } s m args below meth c H locs 0 0 (MQ below (Qk D wf post) args s 0 0 (adr wf)) (F0 m pc ls st))
theorem asc_args : ∀ (as : List Value) (i n : Nat), (∀ v ∈ as, v.category = 1) → asc i (as.map some ++ List.replicate n none) = lv_args i as
  | [], i, n, _ => by
    show asc i (List.replicate n none) = []
    induction n generalizing i with
    | zero => rfl
    | succ n ih => exact ih (i + 1)
  | v :: r, i, n, h => by
    have hv : v.category = 1 := h v List.mem_cons_self
    show (i, v) :: asc (i + 1) (r.map some ++ List.replicate n none) = (i, v) :: lv_args (if v.category = 2 then i + 2 else i + 1) r
    rw [asc_args r (i + 1) n (fun u hu => h u (List.mem_cons_of_mem _ hu)), hv]
    rfl
theorem Ct.of {l : Launch} {D : va_G} {cI : ClassId} {wf : WF} {y : MethodName} {cc : ByteArray} {mL : Nat} {ret : Option FieldType} {fr lo : Nat} {as : List Value} {iv : IV} {ar : AR} {post : PST} {lv : LV} (hwf : wfOk wf) (hy : plainFor y = true) (hn : (lg_sl as).length ≤ mL) (n : Nat) (hlv : lv = as.map some ++ List.replicate n none) (hc : as.all (fun v => v.category == 1) = true) (body : ∀ Z, Fx l D cI wf y.cls cc mL ret fr lo post Z → Z 0 lv [] iv ar) : Ct l D cI wf y cc mL ret fr lo as iv ar post := by
  refine va_MetF (cc := cc) (maxL := mL) (ret := ret) hy rfl ?_
  intro p e s m args below meth c s₁ B hml hv
  obtain ⟨rfl, hP, hK, hD, hnw⟩ := hv
  have hts := atoms_spec (ws := .code y cc mL ret :: tG) B.pre
  have hown : s.vm.findClass y.cls = some m.cls := findClass_of_methodNamed B.named
  have hc1 : ∀ v ∈ as, v.category = 1 := fun v hv => by simpa using List.all_eq_true.mp hc v hv
  have hl := lv_entry as (n := mL) hn
  rw [lg_entry_eq]
  refine body _ ⟨hwf, p, e, s, m, _, below, meth, c, B.exec, B.bytes, hml, B.returns, B.notSynchronized, hown, fun w hw => hts w (List.mem_cons_of_mem _ hw), hnw, hK, fun iv2 ar2 => hwf.D hD iv2 ar2, rfl⟩ s.heap [] _ hP va_S.rf ⟨?_, ?_⟩
  · rw [hlv, asc_args as 0 n hc1]
    exact hl
  · intro v hv
    rw [hlv] at hv
    rcases List.mem_append.mp hv with h | h
    · obtain ⟨u, hu, e⟩ := List.mem_map.mp h
      cases e
      exact hc1 v hu
    · have := (List.mem_replicate.mp h).2
      cases this
section KR
variable {l : Launch} {D : va_G} {cI : ClassId} {wf : WF} {own : String} {cc : ByteArray} {mL : Nat} {ret : Option FieldType} {fr lo : Nat} {post : PST} {Z : ZT} {pc : Nat} {lv : LV} {st : List Value} {iv : IV} {ar : AR}

theorem ofInt_nI (n : Nat) : Int32.ofInt (n : Int) = nI n := rfl
theorem k_iconst (F : Fx l D cI wf own cc mL ret fr lo post Z) {n : Int} {v : Int32} (hd : decode cc pc = .ok (.iconst n, 1)) (hv : Int32.ofInt n = v) (k : Z (pc + 1) lv (.int v :: st) iv ar) : Z pc lv st iv ar := by
  obtain ⟨hwf, p, e, s, m, args, below, meth, c, hx, hb, hml, hr, hlk, ho, hts, hnw, hK, hD, rfl⟩ := F
  exact fun H locs ls hP hS hl => lv_iconst hx hb hd hv (k H locs ls hP hS hl)
theorem k_bipush (F : Fx l D cI wf own cc mL ret fr lo post Z) {n : Int} {v : Int32} (hd : decode cc pc = .ok (.bipush n, 2)) (hv : (Int8.ofInt n).toInt32 = v) (k : Z (pc + 2) lv (.int v :: st) iv ar) : Z pc lv st iv ar := by
  obtain ⟨hwf, p, e, s, m, args, below, meth, c, hx, hb, hml, hr, hlk, ho, hts, hnw, hK, hD, rfl⟩ := F
  exact fun H locs ls hP hS hl => lv_bipush hx hb hd hv (k H locs ls hP hS hl)
theorem k_sipush (F : Fx l D cI wf own cc mL ret fr lo post Z) {n : Int} {v : Int32} (hd : decode cc pc = .ok (.sipush n, 3)) (hv : (Int16.ofInt n).toInt32 = v) (k : Z (pc + 3) lv (.int v :: st) iv ar) : Z pc lv st iv ar := by
  obtain ⟨hwf, p, e, s, m, args, below, meth, c, hx, hb, hml, hr, hlk, ho, hts, hnw, hK, hD, rfl⟩ := F
  exact fun H locs ls hP hS hl => lv_sipush hx hb hd hv (k H locs ls hP hS hl)
theorem k_ldc (F : Fx l D cI wf own cc mL ret fr lo post Z) {i : Nat} {v : Int32} (hd : decode cc pc = .ok (.ldc i, 2)) (hm : Cond.constant own i v ∈ tG) (k : Z (pc + 2) lv (.int v :: st) iv ar) : Z pc lv st iv ar := by
  obtain ⟨hwf, p, e, s, m, args, below, meth, c, hx, hb, hml, hr, hlk, ho, hts, hnw, hK, hD, rfl⟩ := F
  exact fun H locs ls hP hS hl => lv_ldc hx hb ho (hts _ hm) hd (k H locs ls hP hS hl)
theorem k_ldcw (F : Fx l D cI wf own cc mL ret fr lo post Z) {i : Nat} {v : Int32} (hd : decode cc pc = .ok (.ldc_w i, 3)) (hm : Cond.constant own i v ∈ tG) (k : Z (pc + 3) lv (.int v :: st) iv ar) : Z pc lv st iv ar := by
  obtain ⟨hwf, p, e, s, m, args, below, meth, c, hx, hb, hml, hr, hlk, ho, hts, hnw, hK, hD, rfl⟩ := F
  exact fun H locs ls hP hS hl => lv_ldcw hx hb ho (hts _ hm) hd (k H locs ls hP hS hl)
theorem k_iload0 (F : Fx l D cI wf own cc mL ret fr lo post Z) {r : LV} {x : Int32} (hd : decode cc pc = .ok (.iload_n 0, 1)) (k : Z (pc + 1) (some (.int x) :: r) (.int x :: st) iv ar) : Z pc (some (.int x) :: r) st iv ar := by
  obtain ⟨hwf, p, e, s, m, args, below, meth, c, hx, hb, hml, hr, hlk, ho, hts, hnw, hK, hD, rfl⟩ := F
  exact fun H locs ls hP hS hl => lv_iload_n hx hb hd rfl (hl.at (k := 0) rfl) (k H locs ls hP hS hl)
theorem k_istore0 (F : Fx l D cI wf own cc mL ret fr lo post Z) {r : LV} {x : Int32} {y : Option Value} (hi : 0 < mL) (hd : decode cc pc = .ok (.istore_n 0, 1)) (k : Z (pc + 1) (some (.int x) :: r) st iv ar) : Z pc (y :: r) (.int x :: st) iv ar := by
  obtain ⟨hwf, p, e, s, m, args, below, meth, c, hx, hb, hml, hr, hlk, ho, hts, hnw, hK, hD, rfl⟩ := F
  exact fun H locs ls hP hS hl => lv_istore_n hx hb hd rfl hl.1 hi rfl (fun ls2 h2 => k H locs ls2 hP hS (hl.put (i := 0) rfl h2 (by simp)))
theorem k_aload0 (F : Fx l D cI wf own cc mL ret fr lo post Z) {r : LV} {x : Nat} (hd : decode cc pc = .ok (.aload_n 0, 1)) (k : Z (pc + 1) (some (.ref x) :: r) (.ref x :: st) iv ar) : Z pc (some (.ref x) :: r) st iv ar := by
  obtain ⟨hwf, p, e, s, m, args, below, meth, c, hx, hb, hml, hr, hlk, ho, hts, hnw, hK, hD, rfl⟩ := F
  exact fun H locs ls hP hS hl => lv_aload_n hx hb hd rfl (hl.at (k := 0) rfl) (k H locs ls hP hS hl)
theorem k_astore0 (F : Fx l D cI wf own cc mL ret fr lo post Z) {r : LV} {x : Nat} {y : Option Value} (hi : 0 < mL) (hd : decode cc pc = .ok (.astore_n 0, 1)) (k : Z (pc + 1) (some (.ref x) :: r) st iv ar) : Z pc (y :: r) (.ref x :: st) iv ar := by
  obtain ⟨hwf, p, e, s, m, args, below, meth, c, hx, hb, hml, hr, hlk, ho, hts, hnw, hK, hD, rfl⟩ := F
  exact fun H locs ls hP hS hl => lv_astore_n hx hb hd rfl hl.1 hi rfl (fun ls2 h2 => k H locs ls2 hP hS (hl.put (i := 0) rfl h2 (by simp)))
theorem k_iinc0 (F : Fx l D cI wf own cc mL ret fr lo post Z) {r : LV} {x v : Int32} {n : Int} (hi : 0 < mL) (hd : decode cc pc = .ok (.iinc 0 n, 3)) (hv : x + Int32.ofInt n = v) (k : Z (pc + 3) (some (.int v) :: r) st iv ar) : Z pc (some (.int x) :: r) st iv ar := by
  obtain ⟨hwf, p, e, s, m, args, below, meth, c, hx, hb, hml, hr, hlk, ho, hts, hnw, hK, hD, rfl⟩ := F
  intro H locs ls hP hS hl
  obtain ⟨q, hq⟩ := List.getElem?_of_mem ((asc_mem (some (.int x) :: r) 0 0 (.int x)).mpr ⟨Nat.zero_le _, rfl⟩)
  exact lv_iinc hx hb hd hl.1 hq hv hi rfl (fun ls2 h2 => k H locs ls2 hP hS (hl.put (i := 0) rfl h2 (by simp)))
theorem k_fg0 (F : Fx l D cI wf own cc mL ret fr lo post Z) {r : LV} {y : Option Value} (k : Z pc (none :: r) st iv ar) : Z pc (y :: r) st iv ar := by
  obtain ⟨hwf, p, e, s, m, args, below, meth, c, hx, hb, hml, hr, hlk, ho, hts, hnw, hK, hD, rfl⟩ := F
  refine fun H locs ls hP hS hl => k H locs ls hP hS (hl.weak (fun q v h => ?_))
  match q, h with
  | 0, h => cases h
  | q + 1, h => exact h
theorem k_iload1 (F : Fx l D cI wf own cc mL ret fr lo post Z) {a0 : Option Value} {r : LV} {x : Int32} (hd : decode cc pc = .ok (.iload_n 1, 1)) (k : Z (pc + 1) (a0 :: some (.int x) :: r) (.int x :: st) iv ar) : Z pc (a0 :: some (.int x) :: r) st iv ar := by
  obtain ⟨hwf, p, e, s, m, args, below, meth, c, hx, hb, hml, hr, hlk, ho, hts, hnw, hK, hD, rfl⟩ := F
  exact fun H locs ls hP hS hl => lv_iload_n hx hb hd rfl (hl.at (k := 1) rfl) (k H locs ls hP hS hl)
theorem k_istore1 (F : Fx l D cI wf own cc mL ret fr lo post Z) {a0 : Option Value} {r : LV} {x : Int32} {y : Option Value} (hi : 1 < mL) (hd : decode cc pc = .ok (.istore_n 1, 1)) (k : Z (pc + 1) (a0 :: some (.int x) :: r) st iv ar) : Z pc (a0 :: y :: r) (.int x :: st) iv ar := by
  obtain ⟨hwf, p, e, s, m, args, below, meth, c, hx, hb, hml, hr, hlk, ho, hts, hnw, hK, hD, rfl⟩ := F
  exact fun H locs ls hP hS hl => lv_istore_n hx hb hd rfl hl.1 hi rfl (fun ls2 h2 => k H locs ls2 hP hS (hl.put (i := 1) rfl h2 (by simp)))
theorem k_aload1 (F : Fx l D cI wf own cc mL ret fr lo post Z) {a0 : Option Value} {r : LV} {x : Nat} (hd : decode cc pc = .ok (.aload_n 1, 1)) (k : Z (pc + 1) (a0 :: some (.ref x) :: r) (.ref x :: st) iv ar) : Z pc (a0 :: some (.ref x) :: r) st iv ar := by
  obtain ⟨hwf, p, e, s, m, args, below, meth, c, hx, hb, hml, hr, hlk, ho, hts, hnw, hK, hD, rfl⟩ := F
  exact fun H locs ls hP hS hl => lv_aload_n hx hb hd rfl (hl.at (k := 1) rfl) (k H locs ls hP hS hl)
theorem k_astore1 (F : Fx l D cI wf own cc mL ret fr lo post Z) {a0 : Option Value} {r : LV} {x : Nat} {y : Option Value} (hi : 1 < mL) (hd : decode cc pc = .ok (.astore_n 1, 1)) (k : Z (pc + 1) (a0 :: some (.ref x) :: r) st iv ar) : Z pc (a0 :: y :: r) (.ref x :: st) iv ar := by
  obtain ⟨hwf, p, e, s, m, args, below, meth, c, hx, hb, hml, hr, hlk, ho, hts, hnw, hK, hD, rfl⟩ := F
  exact fun H locs ls hP hS hl => lv_astore_n hx hb hd rfl hl.1 hi rfl (fun ls2 h2 => k H locs ls2 hP hS (hl.put (i := 1) rfl h2 (by simp)))
theorem k_iinc1 (F : Fx l D cI wf own cc mL ret fr lo post Z) {a0 : Option Value} {r : LV} {x v : Int32} {n : Int} (hi : 1 < mL) (hd : decode cc pc = .ok (.iinc 1 n, 3)) (hv : x + Int32.ofInt n = v) (k : Z (pc + 3) (a0 :: some (.int v) :: r) st iv ar) : Z pc (a0 :: some (.int x) :: r) st iv ar := by
  obtain ⟨hwf, p, e, s, m, args, below, meth, c, hx, hb, hml, hr, hlk, ho, hts, hnw, hK, hD, rfl⟩ := F
  intro H locs ls hP hS hl
  obtain ⟨q, hq⟩ := List.getElem?_of_mem ((asc_mem (a0 :: some (.int x) :: r) 0 1 (.int x)).mpr ⟨Nat.zero_le _, rfl⟩)
  exact lv_iinc hx hb hd hl.1 hq hv hi rfl (fun ls2 h2 => k H locs ls2 hP hS (hl.put (i := 1) rfl h2 (by simp)))
theorem k_fg1 (F : Fx l D cI wf own cc mL ret fr lo post Z) {a0 : Option Value} {r : LV} {y : Option Value} (k : Z pc (a0 :: none :: r) st iv ar) : Z pc (a0 :: y :: r) st iv ar := by
  obtain ⟨hwf, p, e, s, m, args, below, meth, c, hx, hb, hml, hr, hlk, ho, hts, hnw, hK, hD, rfl⟩ := F
  refine fun H locs ls hP hS hl => k H locs ls hP hS (hl.weak (fun q v h => ?_))
  match q, h with
  | 0, h => exact h
  | 1, h => cases h
  | q + 2, h => exact h
theorem k_iload2 (F : Fx l D cI wf own cc mL ret fr lo post Z) {a0 a1 : Option Value} {r : LV} {x : Int32} (hd : decode cc pc = .ok (.iload_n 2, 1)) (k : Z (pc + 1) (a0 :: a1 :: some (.int x) :: r) (.int x :: st) iv ar) : Z pc (a0 :: a1 :: some (.int x) :: r) st iv ar := by
  obtain ⟨hwf, p, e, s, m, args, below, meth, c, hx, hb, hml, hr, hlk, ho, hts, hnw, hK, hD, rfl⟩ := F
  exact fun H locs ls hP hS hl => lv_iload_n hx hb hd rfl (hl.at (k := 2) rfl) (k H locs ls hP hS hl)
theorem k_istore2 (F : Fx l D cI wf own cc mL ret fr lo post Z) {a0 a1 : Option Value} {r : LV} {x : Int32} {y : Option Value} (hi : 2 < mL) (hd : decode cc pc = .ok (.istore_n 2, 1)) (k : Z (pc + 1) (a0 :: a1 :: some (.int x) :: r) st iv ar) : Z pc (a0 :: a1 :: y :: r) (.int x :: st) iv ar := by
  obtain ⟨hwf, p, e, s, m, args, below, meth, c, hx, hb, hml, hr, hlk, ho, hts, hnw, hK, hD, rfl⟩ := F
  exact fun H locs ls hP hS hl => lv_istore_n hx hb hd rfl hl.1 hi rfl (fun ls2 h2 => k H locs ls2 hP hS (hl.put (i := 2) rfl h2 (by simp)))
theorem k_aload2 (F : Fx l D cI wf own cc mL ret fr lo post Z) {a0 a1 : Option Value} {r : LV} {x : Nat} (hd : decode cc pc = .ok (.aload_n 2, 1)) (k : Z (pc + 1) (a0 :: a1 :: some (.ref x) :: r) (.ref x :: st) iv ar) : Z pc (a0 :: a1 :: some (.ref x) :: r) st iv ar := by
  obtain ⟨hwf, p, e, s, m, args, below, meth, c, hx, hb, hml, hr, hlk, ho, hts, hnw, hK, hD, rfl⟩ := F
  exact fun H locs ls hP hS hl => lv_aload_n hx hb hd rfl (hl.at (k := 2) rfl) (k H locs ls hP hS hl)
theorem k_astore2 (F : Fx l D cI wf own cc mL ret fr lo post Z) {a0 a1 : Option Value} {r : LV} {x : Nat} {y : Option Value} (hi : 2 < mL) (hd : decode cc pc = .ok (.astore_n 2, 1)) (k : Z (pc + 1) (a0 :: a1 :: some (.ref x) :: r) st iv ar) : Z pc (a0 :: a1 :: y :: r) (.ref x :: st) iv ar := by
  obtain ⟨hwf, p, e, s, m, args, below, meth, c, hx, hb, hml, hr, hlk, ho, hts, hnw, hK, hD, rfl⟩ := F
  exact fun H locs ls hP hS hl => lv_astore_n hx hb hd rfl hl.1 hi rfl (fun ls2 h2 => k H locs ls2 hP hS (hl.put (i := 2) rfl h2 (by simp)))
theorem k_iinc2 (F : Fx l D cI wf own cc mL ret fr lo post Z) {a0 a1 : Option Value} {r : LV} {x v : Int32} {n : Int} (hi : 2 < mL) (hd : decode cc pc = .ok (.iinc 2 n, 3)) (hv : x + Int32.ofInt n = v) (k : Z (pc + 3) (a0 :: a1 :: some (.int v) :: r) st iv ar) : Z pc (a0 :: a1 :: some (.int x) :: r) st iv ar := by
  obtain ⟨hwf, p, e, s, m, args, below, meth, c, hx, hb, hml, hr, hlk, ho, hts, hnw, hK, hD, rfl⟩ := F
  intro H locs ls hP hS hl
  obtain ⟨q, hq⟩ := List.getElem?_of_mem ((asc_mem (a0 :: a1 :: some (.int x) :: r) 0 2 (.int x)).mpr ⟨Nat.zero_le _, rfl⟩)
  exact lv_iinc hx hb hd hl.1 hq hv hi rfl (fun ls2 h2 => k H locs ls2 hP hS (hl.put (i := 2) rfl h2 (by simp)))
theorem k_fg2 (F : Fx l D cI wf own cc mL ret fr lo post Z) {a0 a1 : Option Value} {r : LV} {y : Option Value} (k : Z pc (a0 :: a1 :: none :: r) st iv ar) : Z pc (a0 :: a1 :: y :: r) st iv ar := by
  obtain ⟨hwf, p, e, s, m, args, below, meth, c, hx, hb, hml, hr, hlk, ho, hts, hnw, hK, hD, rfl⟩ := F
  refine fun H locs ls hP hS hl => k H locs ls hP hS (hl.weak (fun q v h => ?_))
  match q, h with
  | 0, h => exact h
  | 1, h => exact h
  | 2, h => cases h
  | q + 3, h => exact h
theorem k_iload3 (F : Fx l D cI wf own cc mL ret fr lo post Z) {a0 a1 a2 : Option Value} {r : LV} {x : Int32} (hd : decode cc pc = .ok (.iload_n 3, 1)) (k : Z (pc + 1) (a0 :: a1 :: a2 :: some (.int x) :: r) (.int x :: st) iv ar) : Z pc (a0 :: a1 :: a2 :: some (.int x) :: r) st iv ar := by
  obtain ⟨hwf, p, e, s, m, args, below, meth, c, hx, hb, hml, hr, hlk, ho, hts, hnw, hK, hD, rfl⟩ := F
  exact fun H locs ls hP hS hl => lv_iload_n hx hb hd rfl (hl.at (k := 3) rfl) (k H locs ls hP hS hl)
theorem k_istore3 (F : Fx l D cI wf own cc mL ret fr lo post Z) {a0 a1 a2 : Option Value} {r : LV} {x : Int32} {y : Option Value} (hi : 3 < mL) (hd : decode cc pc = .ok (.istore_n 3, 1)) (k : Z (pc + 1) (a0 :: a1 :: a2 :: some (.int x) :: r) st iv ar) : Z pc (a0 :: a1 :: a2 :: y :: r) (.int x :: st) iv ar := by
  obtain ⟨hwf, p, e, s, m, args, below, meth, c, hx, hb, hml, hr, hlk, ho, hts, hnw, hK, hD, rfl⟩ := F
  exact fun H locs ls hP hS hl => lv_istore_n hx hb hd rfl hl.1 hi rfl (fun ls2 h2 => k H locs ls2 hP hS (hl.put (i := 3) rfl h2 (by simp)))
theorem k_aload3 (F : Fx l D cI wf own cc mL ret fr lo post Z) {a0 a1 a2 : Option Value} {r : LV} {x : Nat} (hd : decode cc pc = .ok (.aload_n 3, 1)) (k : Z (pc + 1) (a0 :: a1 :: a2 :: some (.ref x) :: r) (.ref x :: st) iv ar) : Z pc (a0 :: a1 :: a2 :: some (.ref x) :: r) st iv ar := by
  obtain ⟨hwf, p, e, s, m, args, below, meth, c, hx, hb, hml, hr, hlk, ho, hts, hnw, hK, hD, rfl⟩ := F
  exact fun H locs ls hP hS hl => lv_aload_n hx hb hd rfl (hl.at (k := 3) rfl) (k H locs ls hP hS hl)
theorem k_astore3 (F : Fx l D cI wf own cc mL ret fr lo post Z) {a0 a1 a2 : Option Value} {r : LV} {x : Nat} {y : Option Value} (hi : 3 < mL) (hd : decode cc pc = .ok (.astore_n 3, 1)) (k : Z (pc + 1) (a0 :: a1 :: a2 :: some (.ref x) :: r) st iv ar) : Z pc (a0 :: a1 :: a2 :: y :: r) (.ref x :: st) iv ar := by
  obtain ⟨hwf, p, e, s, m, args, below, meth, c, hx, hb, hml, hr, hlk, ho, hts, hnw, hK, hD, rfl⟩ := F
  exact fun H locs ls hP hS hl => lv_astore_n hx hb hd rfl hl.1 hi rfl (fun ls2 h2 => k H locs ls2 hP hS (hl.put (i := 3) rfl h2 (by simp)))
theorem k_iinc3 (F : Fx l D cI wf own cc mL ret fr lo post Z) {a0 a1 a2 : Option Value} {r : LV} {x v : Int32} {n : Int} (hi : 3 < mL) (hd : decode cc pc = .ok (.iinc 3 n, 3)) (hv : x + Int32.ofInt n = v) (k : Z (pc + 3) (a0 :: a1 :: a2 :: some (.int v) :: r) st iv ar) : Z pc (a0 :: a1 :: a2 :: some (.int x) :: r) st iv ar := by
  obtain ⟨hwf, p, e, s, m, args, below, meth, c, hx, hb, hml, hr, hlk, ho, hts, hnw, hK, hD, rfl⟩ := F
  intro H locs ls hP hS hl
  obtain ⟨q, hq⟩ := List.getElem?_of_mem ((asc_mem (a0 :: a1 :: a2 :: some (.int x) :: r) 0 3 (.int x)).mpr ⟨Nat.zero_le _, rfl⟩)
  exact lv_iinc hx hb hd hl.1 hq hv hi rfl (fun ls2 h2 => k H locs ls2 hP hS (hl.put (i := 3) rfl h2 (by simp)))
theorem k_fg3 (F : Fx l D cI wf own cc mL ret fr lo post Z) {a0 a1 a2 : Option Value} {r : LV} {y : Option Value} (k : Z pc (a0 :: a1 :: a2 :: none :: r) st iv ar) : Z pc (a0 :: a1 :: a2 :: y :: r) st iv ar := by
  obtain ⟨hwf, p, e, s, m, args, below, meth, c, hx, hb, hml, hr, hlk, ho, hts, hnw, hK, hD, rfl⟩ := F
  refine fun H locs ls hP hS hl => k H locs ls hP hS (hl.weak (fun q v h => ?_))
  match q, h with
  | 0, h => exact h
  | 1, h => exact h
  | 2, h => exact h
  | 3, h => cases h
  | q + 4, h => exact h
theorem k_iload4 (F : Fx l D cI wf own cc mL ret fr lo post Z) {a0 a1 a2 a3 : Option Value} {r : LV} {x : Int32} (hd : decode cc pc = .ok (.iload 4, 2)) (k : Z (pc + 2) (a0 :: a1 :: a2 :: a3 :: some (.int x) :: r) (.int x :: st) iv ar) : Z pc (a0 :: a1 :: a2 :: a3 :: some (.int x) :: r) st iv ar := by
  obtain ⟨hwf, p, e, s, m, args, below, meth, c, hx, hb, hml, hr, hlk, ho, hts, hnw, hK, hD, rfl⟩ := F
  exact fun H locs ls hP hS hl => lv_iload hx hb hd (hl.at (k := 4) rfl) (k H locs ls hP hS hl)
theorem k_istore4 (F : Fx l D cI wf own cc mL ret fr lo post Z) {a0 a1 a2 a3 : Option Value} {r : LV} {x : Int32} {y : Option Value} (hi : 4 < mL) (hd : decode cc pc = .ok (.istore 4, 2)) (k : Z (pc + 2) (a0 :: a1 :: a2 :: a3 :: some (.int x) :: r) st iv ar) : Z pc (a0 :: a1 :: a2 :: a3 :: y :: r) (.int x :: st) iv ar := by
  obtain ⟨hwf, p, e, s, m, args, below, meth, c, hx, hb, hml, hr, hlk, ho, hts, hnw, hK, hD, rfl⟩ := F
  exact fun H locs ls hP hS hl => lv_istore hx hb hd hl.1 hi rfl (fun ls2 h2 => k H locs ls2 hP hS (hl.put (i := 4) rfl h2 (by simp)))
theorem k_aload4 (F : Fx l D cI wf own cc mL ret fr lo post Z) {a0 a1 a2 a3 : Option Value} {r : LV} {x : Nat} (hd : decode cc pc = .ok (.aload 4, 2)) (k : Z (pc + 2) (a0 :: a1 :: a2 :: a3 :: some (.ref x) :: r) (.ref x :: st) iv ar) : Z pc (a0 :: a1 :: a2 :: a3 :: some (.ref x) :: r) st iv ar := by
  obtain ⟨hwf, p, e, s, m, args, below, meth, c, hx, hb, hml, hr, hlk, ho, hts, hnw, hK, hD, rfl⟩ := F
  exact fun H locs ls hP hS hl => lv_aload hx hb hd (hl.at (k := 4) rfl) (k H locs ls hP hS hl)
theorem k_iinc4 (F : Fx l D cI wf own cc mL ret fr lo post Z) {a0 a1 a2 a3 : Option Value} {r : LV} {x v : Int32} {n : Int} (hi : 4 < mL) (hd : decode cc pc = .ok (.iinc 4 n, 3)) (hv : x + Int32.ofInt n = v) (k : Z (pc + 3) (a0 :: a1 :: a2 :: a3 :: some (.int v) :: r) st iv ar) : Z pc (a0 :: a1 :: a2 :: a3 :: some (.int x) :: r) st iv ar := by
  obtain ⟨hwf, p, e, s, m, args, below, meth, c, hx, hb, hml, hr, hlk, ho, hts, hnw, hK, hD, rfl⟩ := F
  intro H locs ls hP hS hl
  obtain ⟨q, hq⟩ := List.getElem?_of_mem ((asc_mem (a0 :: a1 :: a2 :: a3 :: some (.int x) :: r) 0 4 (.int x)).mpr ⟨Nat.zero_le _, rfl⟩)
  exact lv_iinc hx hb hd hl.1 hq hv hi rfl (fun ls2 h2 => k H locs ls2 hP hS (hl.put (i := 4) rfl h2 (by simp)))
theorem k_fg4 (F : Fx l D cI wf own cc mL ret fr lo post Z) {a0 a1 a2 a3 : Option Value} {r : LV} {y : Option Value} (k : Z pc (a0 :: a1 :: a2 :: a3 :: none :: r) st iv ar) : Z pc (a0 :: a1 :: a2 :: a3 :: y :: r) st iv ar := by
  obtain ⟨hwf, p, e, s, m, args, below, meth, c, hx, hb, hml, hr, hlk, ho, hts, hnw, hK, hD, rfl⟩ := F
  refine fun H locs ls hP hS hl => k H locs ls hP hS (hl.weak (fun q v h => ?_))
  match q, h with
  | 0, h => exact h
  | 1, h => exact h
  | 2, h => exact h
  | 3, h => exact h
  | 4, h => cases h
  | q + 5, h => exact h
theorem k_iload5 (F : Fx l D cI wf own cc mL ret fr lo post Z) {a0 a1 a2 a3 a4 : Option Value} {r : LV} {x : Int32} (hd : decode cc pc = .ok (.iload 5, 2)) (k : Z (pc + 2) (a0 :: a1 :: a2 :: a3 :: a4 :: some (.int x) :: r) (.int x :: st) iv ar) : Z pc (a0 :: a1 :: a2 :: a3 :: a4 :: some (.int x) :: r) st iv ar := by
  obtain ⟨hwf, p, e, s, m, args, below, meth, c, hx, hb, hml, hr, hlk, ho, hts, hnw, hK, hD, rfl⟩ := F
  exact fun H locs ls hP hS hl => lv_iload hx hb hd (hl.at (k := 5) rfl) (k H locs ls hP hS hl)
theorem k_istore5 (F : Fx l D cI wf own cc mL ret fr lo post Z) {a0 a1 a2 a3 a4 : Option Value} {r : LV} {x : Int32} {y : Option Value} (hi : 5 < mL) (hd : decode cc pc = .ok (.istore 5, 2)) (k : Z (pc + 2) (a0 :: a1 :: a2 :: a3 :: a4 :: some (.int x) :: r) st iv ar) : Z pc (a0 :: a1 :: a2 :: a3 :: a4 :: y :: r) (.int x :: st) iv ar := by
  obtain ⟨hwf, p, e, s, m, args, below, meth, c, hx, hb, hml, hr, hlk, ho, hts, hnw, hK, hD, rfl⟩ := F
  exact fun H locs ls hP hS hl => lv_istore hx hb hd hl.1 hi rfl (fun ls2 h2 => k H locs ls2 hP hS (hl.put (i := 5) rfl h2 (by simp)))
theorem k_aload5 (F : Fx l D cI wf own cc mL ret fr lo post Z) {a0 a1 a2 a3 a4 : Option Value} {r : LV} {x : Nat} (hd : decode cc pc = .ok (.aload 5, 2)) (k : Z (pc + 2) (a0 :: a1 :: a2 :: a3 :: a4 :: some (.ref x) :: r) (.ref x :: st) iv ar) : Z pc (a0 :: a1 :: a2 :: a3 :: a4 :: some (.ref x) :: r) st iv ar := by
  obtain ⟨hwf, p, e, s, m, args, below, meth, c, hx, hb, hml, hr, hlk, ho, hts, hnw, hK, hD, rfl⟩ := F
  exact fun H locs ls hP hS hl => lv_aload hx hb hd (hl.at (k := 5) rfl) (k H locs ls hP hS hl)
theorem k_iinc5 (F : Fx l D cI wf own cc mL ret fr lo post Z) {a0 a1 a2 a3 a4 : Option Value} {r : LV} {x v : Int32} {n : Int} (hi : 5 < mL) (hd : decode cc pc = .ok (.iinc 5 n, 3)) (hv : x + Int32.ofInt n = v) (k : Z (pc + 3) (a0 :: a1 :: a2 :: a3 :: a4 :: some (.int v) :: r) st iv ar) : Z pc (a0 :: a1 :: a2 :: a3 :: a4 :: some (.int x) :: r) st iv ar := by
  obtain ⟨hwf, p, e, s, m, args, below, meth, c, hx, hb, hml, hr, hlk, ho, hts, hnw, hK, hD, rfl⟩ := F
  intro H locs ls hP hS hl
  obtain ⟨q, hq⟩ := List.getElem?_of_mem ((asc_mem (a0 :: a1 :: a2 :: a3 :: a4 :: some (.int x) :: r) 0 5 (.int x)).mpr ⟨Nat.zero_le _, rfl⟩)
  exact lv_iinc hx hb hd hl.1 hq hv hi rfl (fun ls2 h2 => k H locs ls2 hP hS (hl.put (i := 5) rfl h2 (by simp)))
theorem k_fg5 (F : Fx l D cI wf own cc mL ret fr lo post Z) {a0 a1 a2 a3 a4 : Option Value} {r : LV} {y : Option Value} (k : Z pc (a0 :: a1 :: a2 :: a3 :: a4 :: none :: r) st iv ar) : Z pc (a0 :: a1 :: a2 :: a3 :: a4 :: y :: r) st iv ar := by
  obtain ⟨hwf, p, e, s, m, args, below, meth, c, hx, hb, hml, hr, hlk, ho, hts, hnw, hK, hD, rfl⟩ := F
  refine fun H locs ls hP hS hl => k H locs ls hP hS (hl.weak (fun q v h => ?_))
  match q, h with
  | 0, h => exact h
  | 1, h => exact h
  | 2, h => exact h
  | 3, h => exact h
  | 4, h => exact h
  | 5, h => cases h
  | q + 6, h => exact h
theorem k_iload6 (F : Fx l D cI wf own cc mL ret fr lo post Z) {a0 a1 a2 a3 a4 a5 : Option Value} {r : LV} {x : Int32} (hd : decode cc pc = .ok (.iload 6, 2)) (k : Z (pc + 2) (a0 :: a1 :: a2 :: a3 :: a4 :: a5 :: some (.int x) :: r) (.int x :: st) iv ar) : Z pc (a0 :: a1 :: a2 :: a3 :: a4 :: a5 :: some (.int x) :: r) st iv ar := by
  obtain ⟨hwf, p, e, s, m, args, below, meth, c, hx, hb, hml, hr, hlk, ho, hts, hnw, hK, hD, rfl⟩ := F
  exact fun H locs ls hP hS hl => lv_iload hx hb hd (hl.at (k := 6) rfl) (k H locs ls hP hS hl)
theorem k_istore6 (F : Fx l D cI wf own cc mL ret fr lo post Z) {a0 a1 a2 a3 a4 a5 : Option Value} {r : LV} {x : Int32} {y : Option Value} (hi : 6 < mL) (hd : decode cc pc = .ok (.istore 6, 2)) (k : Z (pc + 2) (a0 :: a1 :: a2 :: a3 :: a4 :: a5 :: some (.int x) :: r) st iv ar) : Z pc (a0 :: a1 :: a2 :: a3 :: a4 :: a5 :: y :: r) (.int x :: st) iv ar := by
  obtain ⟨hwf, p, e, s, m, args, below, meth, c, hx, hb, hml, hr, hlk, ho, hts, hnw, hK, hD, rfl⟩ := F
  exact fun H locs ls hP hS hl => lv_istore hx hb hd hl.1 hi rfl (fun ls2 h2 => k H locs ls2 hP hS (hl.put (i := 6) rfl h2 (by simp)))
theorem k_aload6 (F : Fx l D cI wf own cc mL ret fr lo post Z) {a0 a1 a2 a3 a4 a5 : Option Value} {r : LV} {x : Nat} (hd : decode cc pc = .ok (.aload 6, 2)) (k : Z (pc + 2) (a0 :: a1 :: a2 :: a3 :: a4 :: a5 :: some (.ref x) :: r) (.ref x :: st) iv ar) : Z pc (a0 :: a1 :: a2 :: a3 :: a4 :: a5 :: some (.ref x) :: r) st iv ar := by
  obtain ⟨hwf, p, e, s, m, args, below, meth, c, hx, hb, hml, hr, hlk, ho, hts, hnw, hK, hD, rfl⟩ := F
  exact fun H locs ls hP hS hl => lv_aload hx hb hd (hl.at (k := 6) rfl) (k H locs ls hP hS hl)
theorem k_iinc6 (F : Fx l D cI wf own cc mL ret fr lo post Z) {a0 a1 a2 a3 a4 a5 : Option Value} {r : LV} {x v : Int32} {n : Int} (hi : 6 < mL) (hd : decode cc pc = .ok (.iinc 6 n, 3)) (hv : x + Int32.ofInt n = v) (k : Z (pc + 3) (a0 :: a1 :: a2 :: a3 :: a4 :: a5 :: some (.int v) :: r) st iv ar) : Z pc (a0 :: a1 :: a2 :: a3 :: a4 :: a5 :: some (.int x) :: r) st iv ar := by
  obtain ⟨hwf, p, e, s, m, args, below, meth, c, hx, hb, hml, hr, hlk, ho, hts, hnw, hK, hD, rfl⟩ := F
  intro H locs ls hP hS hl
  obtain ⟨q, hq⟩ := List.getElem?_of_mem ((asc_mem (a0 :: a1 :: a2 :: a3 :: a4 :: a5 :: some (.int x) :: r) 0 6 (.int x)).mpr ⟨Nat.zero_le _, rfl⟩)
  exact lv_iinc hx hb hd hl.1 hq hv hi rfl (fun ls2 h2 => k H locs ls2 hP hS (hl.put (i := 6) rfl h2 (by simp)))
theorem k_fg6 (F : Fx l D cI wf own cc mL ret fr lo post Z) {a0 a1 a2 a3 a4 a5 : Option Value} {r : LV} {y : Option Value} (k : Z pc (a0 :: a1 :: a2 :: a3 :: a4 :: a5 :: none :: r) st iv ar) : Z pc (a0 :: a1 :: a2 :: a3 :: a4 :: a5 :: y :: r) st iv ar := by
  obtain ⟨hwf, p, e, s, m, args, below, meth, c, hx, hb, hml, hr, hlk, ho, hts, hnw, hK, hD, rfl⟩ := F
  refine fun H locs ls hP hS hl => k H locs ls hP hS (hl.weak (fun q v h => ?_))
  match q, h with
  | 0, h => exact h
  | 1, h => exact h
  | 2, h => exact h
  | 3, h => exact h
  | 4, h => exact h
  | 5, h => exact h
  | 6, h => cases h
  | q + 7, h => exact h
theorem k_iload7 (F : Fx l D cI wf own cc mL ret fr lo post Z) {a0 a1 a2 a3 a4 a5 a6 : Option Value} {r : LV} {x : Int32} (hd : decode cc pc = .ok (.iload 7, 2)) (k : Z (pc + 2) (a0 :: a1 :: a2 :: a3 :: a4 :: a5 :: a6 :: some (.int x) :: r) (.int x :: st) iv ar) : Z pc (a0 :: a1 :: a2 :: a3 :: a4 :: a5 :: a6 :: some (.int x) :: r) st iv ar := by
  obtain ⟨hwf, p, e, s, m, args, below, meth, c, hx, hb, hml, hr, hlk, ho, hts, hnw, hK, hD, rfl⟩ := F
  exact fun H locs ls hP hS hl => lv_iload hx hb hd (hl.at (k := 7) rfl) (k H locs ls hP hS hl)
theorem k_istore7 (F : Fx l D cI wf own cc mL ret fr lo post Z) {a0 a1 a2 a3 a4 a5 a6 : Option Value} {r : LV} {x : Int32} {y : Option Value} (hi : 7 < mL) (hd : decode cc pc = .ok (.istore 7, 2)) (k : Z (pc + 2) (a0 :: a1 :: a2 :: a3 :: a4 :: a5 :: a6 :: some (.int x) :: r) st iv ar) : Z pc (a0 :: a1 :: a2 :: a3 :: a4 :: a5 :: a6 :: y :: r) (.int x :: st) iv ar := by
  obtain ⟨hwf, p, e, s, m, args, below, meth, c, hx, hb, hml, hr, hlk, ho, hts, hnw, hK, hD, rfl⟩ := F
  exact fun H locs ls hP hS hl => lv_istore hx hb hd hl.1 hi rfl (fun ls2 h2 => k H locs ls2 hP hS (hl.put (i := 7) rfl h2 (by simp)))
theorem k_aload7 (F : Fx l D cI wf own cc mL ret fr lo post Z) {a0 a1 a2 a3 a4 a5 a6 : Option Value} {r : LV} {x : Nat} (hd : decode cc pc = .ok (.aload 7, 2)) (k : Z (pc + 2) (a0 :: a1 :: a2 :: a3 :: a4 :: a5 :: a6 :: some (.ref x) :: r) (.ref x :: st) iv ar) : Z pc (a0 :: a1 :: a2 :: a3 :: a4 :: a5 :: a6 :: some (.ref x) :: r) st iv ar := by
  obtain ⟨hwf, p, e, s, m, args, below, meth, c, hx, hb, hml, hr, hlk, ho, hts, hnw, hK, hD, rfl⟩ := F
  exact fun H locs ls hP hS hl => lv_aload hx hb hd (hl.at (k := 7) rfl) (k H locs ls hP hS hl)
theorem k_iinc7 (F : Fx l D cI wf own cc mL ret fr lo post Z) {a0 a1 a2 a3 a4 a5 a6 : Option Value} {r : LV} {x v : Int32} {n : Int} (hi : 7 < mL) (hd : decode cc pc = .ok (.iinc 7 n, 3)) (hv : x + Int32.ofInt n = v) (k : Z (pc + 3) (a0 :: a1 :: a2 :: a3 :: a4 :: a5 :: a6 :: some (.int v) :: r) st iv ar) : Z pc (a0 :: a1 :: a2 :: a3 :: a4 :: a5 :: a6 :: some (.int x) :: r) st iv ar := by
  obtain ⟨hwf, p, e, s, m, args, below, meth, c, hx, hb, hml, hr, hlk, ho, hts, hnw, hK, hD, rfl⟩ := F
  intro H locs ls hP hS hl
  obtain ⟨q, hq⟩ := List.getElem?_of_mem ((asc_mem (a0 :: a1 :: a2 :: a3 :: a4 :: a5 :: a6 :: some (.int x) :: r) 0 7 (.int x)).mpr ⟨Nat.zero_le _, rfl⟩)
  exact lv_iinc hx hb hd hl.1 hq hv hi rfl (fun ls2 h2 => k H locs ls2 hP hS (hl.put (i := 7) rfl h2 (by simp)))
theorem k_fg7 (F : Fx l D cI wf own cc mL ret fr lo post Z) {a0 a1 a2 a3 a4 a5 a6 : Option Value} {r : LV} {y : Option Value} (k : Z pc (a0 :: a1 :: a2 :: a3 :: a4 :: a5 :: a6 :: none :: r) st iv ar) : Z pc (a0 :: a1 :: a2 :: a3 :: a4 :: a5 :: a6 :: y :: r) st iv ar := by
  obtain ⟨hwf, p, e, s, m, args, below, meth, c, hx, hb, hml, hr, hlk, ho, hts, hnw, hK, hD, rfl⟩ := F
  refine fun H locs ls hP hS hl => k H locs ls hP hS (hl.weak (fun q v h => ?_))
  match q, h with
  | 0, h => exact h
  | 1, h => exact h
  | 2, h => exact h
  | 3, h => exact h
  | 4, h => exact h
  | 5, h => exact h
  | 6, h => exact h
  | 7, h => cases h
  | q + 8, h => exact h
theorem k_iload8 (F : Fx l D cI wf own cc mL ret fr lo post Z) {a0 a1 a2 a3 a4 a5 a6 a7 : Option Value} {r : LV} {x : Int32} (hd : decode cc pc = .ok (.iload 8, 2)) (k : Z (pc + 2) (a0 :: a1 :: a2 :: a3 :: a4 :: a5 :: a6 :: a7 :: some (.int x) :: r) (.int x :: st) iv ar) : Z pc (a0 :: a1 :: a2 :: a3 :: a4 :: a5 :: a6 :: a7 :: some (.int x) :: r) st iv ar := by
  obtain ⟨hwf, p, e, s, m, args, below, meth, c, hx, hb, hml, hr, hlk, ho, hts, hnw, hK, hD, rfl⟩ := F
  exact fun H locs ls hP hS hl => lv_iload hx hb hd (hl.at (k := 8) rfl) (k H locs ls hP hS hl)
theorem k_istore8 (F : Fx l D cI wf own cc mL ret fr lo post Z) {a0 a1 a2 a3 a4 a5 a6 a7 : Option Value} {r : LV} {x : Int32} {y : Option Value} (hi : 8 < mL) (hd : decode cc pc = .ok (.istore 8, 2)) (k : Z (pc + 2) (a0 :: a1 :: a2 :: a3 :: a4 :: a5 :: a6 :: a7 :: some (.int x) :: r) st iv ar) : Z pc (a0 :: a1 :: a2 :: a3 :: a4 :: a5 :: a6 :: a7 :: y :: r) (.int x :: st) iv ar := by
  obtain ⟨hwf, p, e, s, m, args, below, meth, c, hx, hb, hml, hr, hlk, ho, hts, hnw, hK, hD, rfl⟩ := F
  exact fun H locs ls hP hS hl => lv_istore hx hb hd hl.1 hi rfl (fun ls2 h2 => k H locs ls2 hP hS (hl.put (i := 8) rfl h2 (by simp)))
theorem k_aload8 (F : Fx l D cI wf own cc mL ret fr lo post Z) {a0 a1 a2 a3 a4 a5 a6 a7 : Option Value} {r : LV} {x : Nat} (hd : decode cc pc = .ok (.aload 8, 2)) (k : Z (pc + 2) (a0 :: a1 :: a2 :: a3 :: a4 :: a5 :: a6 :: a7 :: some (.ref x) :: r) (.ref x :: st) iv ar) : Z pc (a0 :: a1 :: a2 :: a3 :: a4 :: a5 :: a6 :: a7 :: some (.ref x) :: r) st iv ar := by
  obtain ⟨hwf, p, e, s, m, args, below, meth, c, hx, hb, hml, hr, hlk, ho, hts, hnw, hK, hD, rfl⟩ := F
  exact fun H locs ls hP hS hl => lv_aload hx hb hd (hl.at (k := 8) rfl) (k H locs ls hP hS hl)
theorem k_iinc8 (F : Fx l D cI wf own cc mL ret fr lo post Z) {a0 a1 a2 a3 a4 a5 a6 a7 : Option Value} {r : LV} {x v : Int32} {n : Int} (hi : 8 < mL) (hd : decode cc pc = .ok (.iinc 8 n, 3)) (hv : x + Int32.ofInt n = v) (k : Z (pc + 3) (a0 :: a1 :: a2 :: a3 :: a4 :: a5 :: a6 :: a7 :: some (.int v) :: r) st iv ar) : Z pc (a0 :: a1 :: a2 :: a3 :: a4 :: a5 :: a6 :: a7 :: some (.int x) :: r) st iv ar := by
  obtain ⟨hwf, p, e, s, m, args, below, meth, c, hx, hb, hml, hr, hlk, ho, hts, hnw, hK, hD, rfl⟩ := F
  intro H locs ls hP hS hl
  obtain ⟨q, hq⟩ := List.getElem?_of_mem ((asc_mem (a0 :: a1 :: a2 :: a3 :: a4 :: a5 :: a6 :: a7 :: some (.int x) :: r) 0 8 (.int x)).mpr ⟨Nat.zero_le _, rfl⟩)
  exact lv_iinc hx hb hd hl.1 hq hv hi rfl (fun ls2 h2 => k H locs ls2 hP hS (hl.put (i := 8) rfl h2 (by simp)))
theorem k_fg8 (F : Fx l D cI wf own cc mL ret fr lo post Z) {a0 a1 a2 a3 a4 a5 a6 a7 : Option Value} {r : LV} {y : Option Value} (k : Z pc (a0 :: a1 :: a2 :: a3 :: a4 :: a5 :: a6 :: a7 :: none :: r) st iv ar) : Z pc (a0 :: a1 :: a2 :: a3 :: a4 :: a5 :: a6 :: a7 :: y :: r) st iv ar := by
  obtain ⟨hwf, p, e, s, m, args, below, meth, c, hx, hb, hml, hr, hlk, ho, hts, hnw, hK, hD, rfl⟩ := F
  refine fun H locs ls hP hS hl => k H locs ls hP hS (hl.weak (fun q v h => ?_))
  match q, h with
  | 0, h => exact h
  | 1, h => exact h
  | 2, h => exact h
  | 3, h => exact h
  | 4, h => exact h
  | 5, h => exact h
  | 6, h => exact h
  | 7, h => exact h
  | 8, h => cases h
  | q + 9, h => exact h
theorem k_iload9 (F : Fx l D cI wf own cc mL ret fr lo post Z) {a0 a1 a2 a3 a4 a5 a6 a7 a8 : Option Value} {r : LV} {x : Int32} (hd : decode cc pc = .ok (.iload 9, 2)) (k : Z (pc + 2) (a0 :: a1 :: a2 :: a3 :: a4 :: a5 :: a6 :: a7 :: a8 :: some (.int x) :: r) (.int x :: st) iv ar) : Z pc (a0 :: a1 :: a2 :: a3 :: a4 :: a5 :: a6 :: a7 :: a8 :: some (.int x) :: r) st iv ar := by
  obtain ⟨hwf, p, e, s, m, args, below, meth, c, hx, hb, hml, hr, hlk, ho, hts, hnw, hK, hD, rfl⟩ := F
  exact fun H locs ls hP hS hl => lv_iload hx hb hd (hl.at (k := 9) rfl) (k H locs ls hP hS hl)
theorem k_istore9 (F : Fx l D cI wf own cc mL ret fr lo post Z) {a0 a1 a2 a3 a4 a5 a6 a7 a8 : Option Value} {r : LV} {x : Int32} {y : Option Value} (hi : 9 < mL) (hd : decode cc pc = .ok (.istore 9, 2)) (k : Z (pc + 2) (a0 :: a1 :: a2 :: a3 :: a4 :: a5 :: a6 :: a7 :: a8 :: some (.int x) :: r) st iv ar) : Z pc (a0 :: a1 :: a2 :: a3 :: a4 :: a5 :: a6 :: a7 :: a8 :: y :: r) (.int x :: st) iv ar := by
  obtain ⟨hwf, p, e, s, m, args, below, meth, c, hx, hb, hml, hr, hlk, ho, hts, hnw, hK, hD, rfl⟩ := F
  exact fun H locs ls hP hS hl => lv_istore hx hb hd hl.1 hi rfl (fun ls2 h2 => k H locs ls2 hP hS (hl.put (i := 9) rfl h2 (by simp)))
theorem k_aload9 (F : Fx l D cI wf own cc mL ret fr lo post Z) {a0 a1 a2 a3 a4 a5 a6 a7 a8 : Option Value} {r : LV} {x : Nat} (hd : decode cc pc = .ok (.aload 9, 2)) (k : Z (pc + 2) (a0 :: a1 :: a2 :: a3 :: a4 :: a5 :: a6 :: a7 :: a8 :: some (.ref x) :: r) (.ref x :: st) iv ar) : Z pc (a0 :: a1 :: a2 :: a3 :: a4 :: a5 :: a6 :: a7 :: a8 :: some (.ref x) :: r) st iv ar := by
  obtain ⟨hwf, p, e, s, m, args, below, meth, c, hx, hb, hml, hr, hlk, ho, hts, hnw, hK, hD, rfl⟩ := F
  exact fun H locs ls hP hS hl => lv_aload hx hb hd (hl.at (k := 9) rfl) (k H locs ls hP hS hl)
theorem k_iinc9 (F : Fx l D cI wf own cc mL ret fr lo post Z) {a0 a1 a2 a3 a4 a5 a6 a7 a8 : Option Value} {r : LV} {x v : Int32} {n : Int} (hi : 9 < mL) (hd : decode cc pc = .ok (.iinc 9 n, 3)) (hv : x + Int32.ofInt n = v) (k : Z (pc + 3) (a0 :: a1 :: a2 :: a3 :: a4 :: a5 :: a6 :: a7 :: a8 :: some (.int v) :: r) st iv ar) : Z pc (a0 :: a1 :: a2 :: a3 :: a4 :: a5 :: a6 :: a7 :: a8 :: some (.int x) :: r) st iv ar := by
  obtain ⟨hwf, p, e, s, m, args, below, meth, c, hx, hb, hml, hr, hlk, ho, hts, hnw, hK, hD, rfl⟩ := F
  intro H locs ls hP hS hl
  obtain ⟨q, hq⟩ := List.getElem?_of_mem ((asc_mem (a0 :: a1 :: a2 :: a3 :: a4 :: a5 :: a6 :: a7 :: a8 :: some (.int x) :: r) 0 9 (.int x)).mpr ⟨Nat.zero_le _, rfl⟩)
  exact lv_iinc hx hb hd hl.1 hq hv hi rfl (fun ls2 h2 => k H locs ls2 hP hS (hl.put (i := 9) rfl h2 (by simp)))
theorem k_fg9 (F : Fx l D cI wf own cc mL ret fr lo post Z) {a0 a1 a2 a3 a4 a5 a6 a7 a8 : Option Value} {r : LV} {y : Option Value} (k : Z pc (a0 :: a1 :: a2 :: a3 :: a4 :: a5 :: a6 :: a7 :: a8 :: none :: r) st iv ar) : Z pc (a0 :: a1 :: a2 :: a3 :: a4 :: a5 :: a6 :: a7 :: a8 :: y :: r) st iv ar := by
  obtain ⟨hwf, p, e, s, m, args, below, meth, c, hx, hb, hml, hr, hlk, ho, hts, hnw, hK, hD, rfl⟩ := F
  refine fun H locs ls hP hS hl => k H locs ls hP hS (hl.weak (fun q v h => ?_))
  match q, h with
  | 0, h => exact h
  | 1, h => exact h
  | 2, h => exact h
  | 3, h => exact h
  | 4, h => exact h
  | 5, h => exact h
  | 6, h => exact h
  | 7, h => exact h
  | 8, h => exact h
  | 9, h => cases h
  | q + 10, h => exact h
theorem k_iadd (F : Fx l D cI wf own cc mL ret fr lo post Z) {x y : Int32} (hd : decode cc pc = .ok (.iadd, 1)) (k : Z (pc + 1) lv (.int (x + y) :: st) iv ar) : Z pc lv (.int y :: .int x :: st) iv ar := by
  obtain ⟨hwf, p, e, s, m, args, below, meth, c, hx, hb, hml, hr, hlk, ho, hts, hnw, hK, hD, rfl⟩ := F
  exact fun H locs ls hP hS hl => lv_iadd hx hb hd (k H locs ls hP hS hl)
theorem k_isub (F : Fx l D cI wf own cc mL ret fr lo post Z) {x y : Int32} (hd : decode cc pc = .ok (.isub, 1)) (k : Z (pc + 1) lv (.int (x - y) :: st) iv ar) : Z pc lv (.int y :: .int x :: st) iv ar := by
  obtain ⟨hwf, p, e, s, m, args, below, meth, c, hx, hb, hml, hr, hlk, ho, hts, hnw, hK, hD, rfl⟩ := F
  exact fun H locs ls hP hS hl => lv_isub hx hb hd (k H locs ls hP hS hl)
theorem k_imul (F : Fx l D cI wf own cc mL ret fr lo post Z) {x y : Int32} (hd : decode cc pc = .ok (.imul, 1)) (k : Z (pc + 1) lv (.int (x * y) :: st) iv ar) : Z pc lv (.int y :: .int x :: st) iv ar := by
  obtain ⟨hwf, p, e, s, m, args, below, meth, c, hx, hb, hml, hr, hlk, ho, hts, hnw, hK, hD, rfl⟩ := F
  exact fun H locs ls hP hS hl => lv_imul hx hb hd (k H locs ls hP hS hl)
theorem k_iand (F : Fx l D cI wf own cc mL ret fr lo post Z) {x y : Int32} (hd : decode cc pc = .ok (.iand, 1)) (k : Z (pc + 1) lv (.int (x &&& y) :: st) iv ar) : Z pc lv (.int y :: .int x :: st) iv ar := by
  obtain ⟨hwf, p, e, s, m, args, below, meth, c, hx, hb, hml, hr, hlk, ho, hts, hnw, hK, hD, rfl⟩ := F
  exact fun H locs ls hP hS hl => lv_iand hx hb hd (k H locs ls hP hS hl)
theorem k_ior (F : Fx l D cI wf own cc mL ret fr lo post Z) {x y : Int32} (hd : decode cc pc = .ok (.ior, 1)) (k : Z (pc + 1) lv (.int (x ||| y) :: st) iv ar) : Z pc lv (.int y :: .int x :: st) iv ar := by
  obtain ⟨hwf, p, e, s, m, args, below, meth, c, hx, hb, hml, hr, hlk, ho, hts, hnw, hK, hD, rfl⟩ := F
  exact fun H locs ls hP hS hl => lv_ior hx hb hd (k H locs ls hP hS hl)
theorem k_ixor (F : Fx l D cI wf own cc mL ret fr lo post Z) {x y : Int32} (hd : decode cc pc = .ok (.ixor, 1)) (k : Z (pc + 1) lv (.int (x ^^^ y) :: st) iv ar) : Z pc lv (.int y :: .int x :: st) iv ar := by
  obtain ⟨hwf, p, e, s, m, args, below, meth, c, hx, hb, hml, hr, hlk, ho, hts, hnw, hK, hD, rfl⟩ := F
  exact fun H locs ls hP hS hl => lv_ixor hx hb hd (k H locs ls hP hS hl)
theorem k_ishl (F : Fx l D cI wf own cc mL ret fr lo post Z) {x y : Int32} (hd : decode cc pc = .ok (.ishl, 1)) (k : Z (pc + 1) lv (.int (x <<< (y &&& 31)) :: st) iv ar) : Z pc lv (.int y :: .int x :: st) iv ar := by
  obtain ⟨hwf, p, e, s, m, args, below, meth, c, hx, hb, hml, hr, hlk, ho, hts, hnw, hK, hD, rfl⟩ := F
  exact fun H locs ls hP hS hl => lv_ishl hx hb hd (k H locs ls hP hS hl)
theorem k_ishr (F : Fx l D cI wf own cc mL ret fr lo post Z) {x y : Int32} (hd : decode cc pc = .ok (.ishr, 1)) (k : Z (pc + 1) lv (.int (x >>> (y &&& 31)) :: st) iv ar) : Z pc lv (.int y :: .int x :: st) iv ar := by
  obtain ⟨hwf, p, e, s, m, args, below, meth, c, hx, hb, hml, hr, hlk, ho, hts, hnw, hK, hD, rfl⟩ := F
  exact fun H locs ls hP hS hl => lv_ishr hx hb hd (k H locs ls hP hS hl)
theorem k_iushr (F : Fx l D cI wf own cc mL ret fr lo post Z) {x y : Int32} (hd : decode cc pc = .ok (.iushr, 1)) (k : Z (pc + 1) lv (.int ((x.toUInt32 >>> (y.toUInt32 &&& Int32.toUInt32 31)).toInt32) :: st) iv ar) : Z pc lv (.int y :: .int x :: st) iv ar := by
  obtain ⟨hwf, p, e, s, m, args, below, meth, c, hx, hb, hml, hr, hlk, ho, hts, hnw, hK, hD, rfl⟩ := F
  exact fun H locs ls hP hS hl => lv_iushr hx hb hd rfl (k H locs ls hP hS hl)
theorem k_idiv (F : Fx l D cI wf own cc mL ret fr lo post Z) {x y : Int32} (hd : decode cc pc = .ok (.idiv, 1)) (hne : ¬ y = 0) (k : Z (pc + 1) lv (.int (x / y) :: st) iv ar) : Z pc lv (.int y :: .int x :: st) iv ar := by
  obtain ⟨hwf, p, e, s, m, args, below, meth, c, hx, hb, hml, hr, hlk, ho, hts, hnw, hK, hD, rfl⟩ := F
  exact fun H locs ls hP hS hl => lv_idiv hx hb hd hne (k H locs ls hP hS hl)
theorem k_ineg (F : Fx l D cI wf own cc mL ret fr lo post Z) {x : Int32} (hd : decode cc pc = .ok (.ineg, 1)) (k : Z (pc + 1) lv (.int (-x) :: st) iv ar) : Z pc lv (.int x :: st) iv ar := by
  obtain ⟨hwf, p, e, s, m, args, below, meth, c, hx, hb, hml, hr, hlk, ho, hts, hnw, hK, hD, rfl⟩ := F
  exact fun H locs ls hP hS hl => lv_ineg hx hb hd (k H locs ls hP hS hl)
theorem k_iaddN (F : Fx l D cI wf own cc mL ret fr lo post Z) {a b : Nat} (hd : decode cc pc = .ok (.iadd, 1)) (k : Z (pc + 1) lv (.int (nI (a + b)) :: st) iv ar) : Z pc lv (.int (nI b) :: .int (nI a) :: st) iv ar := k_iadd F hd (by rw [nI_add]; exact k)
theorem k_imulN (F : Fx l D cI wf own cc mL ret fr lo post Z) {a b : Nat} (hd : decode cc pc = .ok (.imul, 1)) (k : Z (pc + 1) lv (.int (nI (a * b)) :: st) iv ar) : Z pc lv (.int (nI b) :: .int (nI a) :: st) iv ar := k_imul F hd (by rw [pk_mul]; exact k)
theorem k_isubN (F : Fx l D cI wf own cc mL ret fr lo post Z) {a b : Nat} (hd : decode cc pc = .ok (.isub, 1)) (h : b ≤ a) (k : Z (pc + 1) lv (.int (nI (a - b)) :: st) iv ar) : Z pc lv (.int (nI b) :: .int (nI a) :: st) iv ar := k_isub F hd (by rw [pk_sub h]; exact k)
theorem k_top {x y : Int32} (h : x = y) (k : Z pc lv (.int y :: st) iv ar) : Z pc lv (.int x :: st) iv ar := by rw [h]; exact k
theorem k_top2 {x y : Int32} {v : Value} (h : x = y) (k : Z pc lv (v :: .int y :: st) iv ar) : Z pc lv (v :: .int x :: st) iv ar := by rw [h]; exact k
theorem k_dup (F : Fx l D cI wf own cc mL ret fr lo post Z) {v : Value} (hd : decode cc pc = .ok (.dup, 1)) (hv : v.category = 1) (k : Z (pc + 1) lv (v :: v :: st) iv ar) : Z pc lv (v :: st) iv ar := by
  obtain ⟨hwf, p, e, s, m, args, below, meth, c, hx, hb, hml, hr, hlk, ho, hts, hnw, hK, hD, rfl⟩ := F
  exact fun H locs ls hP hS hl => lv_dup hx hb hd hv (k H locs ls hP hS hl)
theorem k_dup2 (F : Fx l D cI wf own cc mL ret fr lo post Z) {v u : Value} (hd : decode cc pc = .ok (.dup2, 1)) (hv : v.category = 1) (hu : u.category = 1) (k : Z (pc + 1) lv (v :: u :: v :: u :: st) iv ar) : Z pc lv (v :: u :: st) iv ar := by
  obtain ⟨hwf, p, e, s, m, args, below, meth, c, hx, hb, hml, hr, hlk, ho, hts, hnw, hK, hD, rfl⟩ := F
  exact fun H locs ls hP hS hl => lv_dup2_11 hx hb hd hv hu (k H locs ls hP hS hl)
theorem k_dup_x1 (F : Fx l D cI wf own cc mL ret fr lo post Z) {v u : Value} (hd : decode cc pc = .ok (.dup_x1, 1)) (hv : v.category = 1) (hu : u.category = 1) (k : Z (pc + 1) lv (v :: u :: v :: st) iv ar) : Z pc lv (v :: u :: st) iv ar := by
  obtain ⟨hwf, p, e, s, m, args, below, meth, c, hx, hb, hml, hr, hlk, ho, hts, hnw, hK, hD, rfl⟩ := F
  exact fun H locs ls hP hS hl => lv_dup_x1 hx hb hd hv hu (k H locs ls hP hS hl)
theorem k_pop (F : Fx l D cI wf own cc mL ret fr lo post Z) {v : Value} (hd : decode cc pc = .ok (.pop, 1)) (hv : v.category = 1) (k : Z (pc + 1) lv st iv ar) : Z pc lv (v :: st) iv ar := by
  obtain ⟨hwf, p, e, s, m, args, below, meth, c, hx, hb, hml, hr, hlk, ho, hts, hnw, hK, hD, rfl⟩ := F
  exact fun H locs ls hP hS hl => lv_pop hx hb hd hv (k H locs ls hP hS hl)
theorem k_if_eq (F : Fx l D cI wf own cc mL ret fr lo post Z) {x : Int32} {off : Int} {tgt : Nat} (hd : decode cc pc = .ok (.ifCond .eq off, 3)) (ht : (pc : Int) + off = (tgt : Int)) (kt : x = 0 → Z tgt lv st iv ar) (kf : ¬ x = 0 → Z (pc + 3) lv st iv ar) : Z pc lv (.int x :: st) iv ar := by
  obtain ⟨hwf, p, e, s, m, args, below, meth, c, hx, hb, hml, hr, hlk, ho, hts, hnw, hK, hD, rfl⟩ := F
  exact fun H locs ls hP hS hl => lv_if_eq hx hb hd ht (fun h => kt h H locs ls hP hS hl) (fun h => kf h H locs ls hP hS hl)
theorem k_icmp_eq (F : Fx l D cI wf own cc mL ret fr lo post Z) {x y : Int32} {off : Int} {tgt : Nat} (hd : decode cc pc = .ok (.if_icmp .eq off, 3)) (ht : (pc : Int) + off = (tgt : Int)) (kt : x = y → Z tgt lv st iv ar) (kf : ¬ x = y → Z (pc + 3) lv st iv ar) : Z pc lv (.int y :: .int x :: st) iv ar := by
  obtain ⟨hwf, p, e, s, m, args, below, meth, c, hx, hb, hml, hr, hlk, ho, hts, hnw, hK, hD, rfl⟩ := F
  exact fun H locs ls hP hS hl => lv_icmp_eq hx hb hd ht (fun h => kt h H locs ls hP hS hl) (fun h => kf h H locs ls hP hS hl)
theorem k_if_ne (F : Fx l D cI wf own cc mL ret fr lo post Z) {x : Int32} {off : Int} {tgt : Nat} (hd : decode cc pc = .ok (.ifCond .ne off, 3)) (ht : (pc : Int) + off = (tgt : Int)) (kt : ¬ x = 0 → Z tgt lv st iv ar) (kf : x = 0 → Z (pc + 3) lv st iv ar) : Z pc lv (.int x :: st) iv ar := by
  obtain ⟨hwf, p, e, s, m, args, below, meth, c, hx, hb, hml, hr, hlk, ho, hts, hnw, hK, hD, rfl⟩ := F
  exact fun H locs ls hP hS hl => lv_if_ne hx hb hd ht (fun h => kt h H locs ls hP hS hl) (fun h => kf h H locs ls hP hS hl)
theorem k_icmp_ne (F : Fx l D cI wf own cc mL ret fr lo post Z) {x y : Int32} {off : Int} {tgt : Nat} (hd : decode cc pc = .ok (.if_icmp .ne off, 3)) (ht : (pc : Int) + off = (tgt : Int)) (kt : ¬ x = y → Z tgt lv st iv ar) (kf : x = y → Z (pc + 3) lv st iv ar) : Z pc lv (.int y :: .int x :: st) iv ar := by
  obtain ⟨hwf, p, e, s, m, args, below, meth, c, hx, hb, hml, hr, hlk, ho, hts, hnw, hK, hD, rfl⟩ := F
  exact fun H locs ls hP hS hl => lv_icmp_ne hx hb hd ht (fun h => kt h H locs ls hP hS hl) (fun h => kf h H locs ls hP hS hl)
theorem k_if_lt (F : Fx l D cI wf own cc mL ret fr lo post Z) {x : Int32} {off : Int} {tgt : Nat} (hd : decode cc pc = .ok (.ifCond .lt off, 3)) (ht : (pc : Int) + off = (tgt : Int)) (kt : x < 0 → Z tgt lv st iv ar) (kf : ¬ x < 0 → Z (pc + 3) lv st iv ar) : Z pc lv (.int x :: st) iv ar := by
  obtain ⟨hwf, p, e, s, m, args, below, meth, c, hx, hb, hml, hr, hlk, ho, hts, hnw, hK, hD, rfl⟩ := F
  exact fun H locs ls hP hS hl => lv_if_lt hx hb hd ht (fun h => kt h H locs ls hP hS hl) (fun h => kf h H locs ls hP hS hl)
theorem k_icmp_lt (F : Fx l D cI wf own cc mL ret fr lo post Z) {x y : Int32} {off : Int} {tgt : Nat} (hd : decode cc pc = .ok (.if_icmp .lt off, 3)) (ht : (pc : Int) + off = (tgt : Int)) (kt : x < y → Z tgt lv st iv ar) (kf : ¬ x < y → Z (pc + 3) lv st iv ar) : Z pc lv (.int y :: .int x :: st) iv ar := by
  obtain ⟨hwf, p, e, s, m, args, below, meth, c, hx, hb, hml, hr, hlk, ho, hts, hnw, hK, hD, rfl⟩ := F
  exact fun H locs ls hP hS hl => lv_icmp_lt hx hb hd ht (fun h => kt h H locs ls hP hS hl) (fun h => kf h H locs ls hP hS hl)
theorem k_if_ge (F : Fx l D cI wf own cc mL ret fr lo post Z) {x : Int32} {off : Int} {tgt : Nat} (hd : decode cc pc = .ok (.ifCond .ge off, 3)) (ht : (pc : Int) + off = (tgt : Int)) (kt : 0 ≤ x → Z tgt lv st iv ar) (kf : ¬ 0 ≤ x → Z (pc + 3) lv st iv ar) : Z pc lv (.int x :: st) iv ar := by
  obtain ⟨hwf, p, e, s, m, args, below, meth, c, hx, hb, hml, hr, hlk, ho, hts, hnw, hK, hD, rfl⟩ := F
  exact fun H locs ls hP hS hl => lv_if_ge hx hb hd ht (fun h => kt h H locs ls hP hS hl) (fun h => kf h H locs ls hP hS hl)
theorem k_icmp_ge (F : Fx l D cI wf own cc mL ret fr lo post Z) {x y : Int32} {off : Int} {tgt : Nat} (hd : decode cc pc = .ok (.if_icmp .ge off, 3)) (ht : (pc : Int) + off = (tgt : Int)) (kt : y ≤ x → Z tgt lv st iv ar) (kf : ¬ y ≤ x → Z (pc + 3) lv st iv ar) : Z pc lv (.int y :: .int x :: st) iv ar := by
  obtain ⟨hwf, p, e, s, m, args, below, meth, c, hx, hb, hml, hr, hlk, ho, hts, hnw, hK, hD, rfl⟩ := F
  exact fun H locs ls hP hS hl => lv_icmp_ge hx hb hd ht (fun h => kt h H locs ls hP hS hl) (fun h => kf h H locs ls hP hS hl)
theorem k_if_gt (F : Fx l D cI wf own cc mL ret fr lo post Z) {x : Int32} {off : Int} {tgt : Nat} (hd : decode cc pc = .ok (.ifCond .gt off, 3)) (ht : (pc : Int) + off = (tgt : Int)) (kt : 0 < x → Z tgt lv st iv ar) (kf : ¬ 0 < x → Z (pc + 3) lv st iv ar) : Z pc lv (.int x :: st) iv ar := by
  obtain ⟨hwf, p, e, s, m, args, below, meth, c, hx, hb, hml, hr, hlk, ho, hts, hnw, hK, hD, rfl⟩ := F
  exact fun H locs ls hP hS hl => lv_if_gt hx hb hd ht (fun h => kt h H locs ls hP hS hl) (fun h => kf h H locs ls hP hS hl)
theorem k_icmp_gt (F : Fx l D cI wf own cc mL ret fr lo post Z) {x y : Int32} {off : Int} {tgt : Nat} (hd : decode cc pc = .ok (.if_icmp .gt off, 3)) (ht : (pc : Int) + off = (tgt : Int)) (kt : y < x → Z tgt lv st iv ar) (kf : ¬ y < x → Z (pc + 3) lv st iv ar) : Z pc lv (.int y :: .int x :: st) iv ar := by
  obtain ⟨hwf, p, e, s, m, args, below, meth, c, hx, hb, hml, hr, hlk, ho, hts, hnw, hK, hD, rfl⟩ := F
  exact fun H locs ls hP hS hl => lv_icmp_gt hx hb hd ht (fun h => kt h H locs ls hP hS hl) (fun h => kf h H locs ls hP hS hl)
theorem k_if_le (F : Fx l D cI wf own cc mL ret fr lo post Z) {x : Int32} {off : Int} {tgt : Nat} (hd : decode cc pc = .ok (.ifCond .le off, 3)) (ht : (pc : Int) + off = (tgt : Int)) (kt : x ≤ 0 → Z tgt lv st iv ar) (kf : ¬ x ≤ 0 → Z (pc + 3) lv st iv ar) : Z pc lv (.int x :: st) iv ar := by
  obtain ⟨hwf, p, e, s, m, args, below, meth, c, hx, hb, hml, hr, hlk, ho, hts, hnw, hK, hD, rfl⟩ := F
  exact fun H locs ls hP hS hl => lv_if_le hx hb hd ht (fun h => kt h H locs ls hP hS hl) (fun h => kf h H locs ls hP hS hl)
theorem k_icmp_le (F : Fx l D cI wf own cc mL ret fr lo post Z) {x y : Int32} {off : Int} {tgt : Nat} (hd : decode cc pc = .ok (.if_icmp .le off, 3)) (ht : (pc : Int) + off = (tgt : Int)) (kt : x ≤ y → Z tgt lv st iv ar) (kf : ¬ x ≤ y → Z (pc + 3) lv st iv ar) : Z pc lv (.int y :: .int x :: st) iv ar := by
  obtain ⟨hwf, p, e, s, m, args, below, meth, c, hx, hb, hml, hr, hlk, ho, hts, hnw, hK, hD, rfl⟩ := F
  exact fun H locs ls hP hS hl => lv_icmp_le hx hb hd ht (fun h => kt h H locs ls hP hS hl) (fun h => kf h H locs ls hP hS hl)
theorem k_icmp_eqN (F : Fx l D cI wf own cc mL ret fr lo post Z) {a b : Nat} {off : Int} {tgt : Nat} (hd : decode cc pc = .ok (.if_icmp .eq off, 3)) (ht : (pc : Int) + off = (tgt : Int)) (ha : a < 2 ^ 31) (hb : b < 2 ^ 31) (kt : a = b → Z tgt lv st iv ar) (kf : ¬ a = b → Z (pc + 3) lv st iv ar) : Z pc lv (.int (nI b) :: .int (nI a) :: st) iv ar := k_icmp_eq F hd ht (fun h => kt ((nI_eq ha hb).mp h)) (fun h => kf (fun q => h ((nI_eq ha hb).mpr q)))
theorem k_icmp_neN (F : Fx l D cI wf own cc mL ret fr lo post Z) {a b : Nat} {off : Int} {tgt : Nat} (hd : decode cc pc = .ok (.if_icmp .ne off, 3)) (ht : (pc : Int) + off = (tgt : Int)) (ha : a < 2 ^ 31) (hb : b < 2 ^ 31) (kt : ¬ a = b → Z tgt lv st iv ar) (kf : a = b → Z (pc + 3) lv st iv ar) : Z pc lv (.int (nI b) :: .int (nI a) :: st) iv ar := k_icmp_ne F hd ht (fun h => kt (fun q => h ((nI_eq ha hb).mpr q))) (fun h => kf ((nI_eq ha hb).mp h))
theorem k_icmp_ltN (F : Fx l D cI wf own cc mL ret fr lo post Z) {a b : Nat} {off : Int} {tgt : Nat} (hd : decode cc pc = .ok (.if_icmp .lt off, 3)) (ht : (pc : Int) + off = (tgt : Int)) (ha : a < 2 ^ 31) (hb : b < 2 ^ 31) (kt : a < b → Z tgt lv st iv ar) (kf : ¬ a < b → Z (pc + 3) lv st iv ar) : Z pc lv (.int (nI b) :: .int (nI a) :: st) iv ar := k_icmp_lt F hd ht (fun h => kt ((nI_ltI ha hb).mp h)) (fun h => kf (fun q => h ((nI_ltI ha hb).mpr q)))
theorem k_icmp_geN (F : Fx l D cI wf own cc mL ret fr lo post Z) {a b : Nat} {off : Int} {tgt : Nat} (hd : decode cc pc = .ok (.if_icmp .ge off, 3)) (ht : (pc : Int) + off = (tgt : Int)) (ha : a < 2 ^ 31) (hb : b < 2 ^ 31) (kt : b ≤ a → Z tgt lv st iv ar) (kf : ¬ b ≤ a → Z (pc + 3) lv st iv ar) : Z pc lv (.int (nI b) :: .int (nI a) :: st) iv ar := k_icmp_ge F hd ht (fun h => kt ((nI_leI hb ha).mp h)) (fun h => kf (fun q => h ((nI_leI hb ha).mpr q)))
theorem k_icmp_gtN (F : Fx l D cI wf own cc mL ret fr lo post Z) {a b : Nat} {off : Int} {tgt : Nat} (hd : decode cc pc = .ok (.if_icmp .gt off, 3)) (ht : (pc : Int) + off = (tgt : Int)) (ha : a < 2 ^ 31) (hb : b < 2 ^ 31) (kt : b < a → Z tgt lv st iv ar) (kf : ¬ b < a → Z (pc + 3) lv st iv ar) : Z pc lv (.int (nI b) :: .int (nI a) :: st) iv ar := k_icmp_gt F hd ht (fun h => kt ((nI_ltI hb ha).mp h)) (fun h => kf (fun q => h ((nI_ltI hb ha).mpr q)))
theorem k_icmp_leN (F : Fx l D cI wf own cc mL ret fr lo post Z) {a b : Nat} {off : Int} {tgt : Nat} (hd : decode cc pc = .ok (.if_icmp .le off, 3)) (ht : (pc : Int) + off = (tgt : Int)) (ha : a < 2 ^ 31) (hb : b < 2 ^ 31) (kt : a ≤ b → Z tgt lv st iv ar) (kf : ¬ a ≤ b → Z (pc + 3) lv st iv ar) : Z pc lv (.int (nI b) :: .int (nI a) :: st) iv ar := k_icmp_le F hd ht (fun h => kt ((nI_leI ha hb).mp h)) (fun h => kf (fun q => h ((nI_leI ha hb).mpr q)))
/-- a condition as an answer -/
def bI (c : Prop) [Decidable c] : Int32 := if c then 1 else 0
theorem bI_0 {c : Prop} [Decidable c] : bI c = 0 ↔ ¬ c := by unfold bI; by_cases h : c <;> simp [h]
theorem bI_t {c : Prop} [Decidable c] (h : c) : bI c = 1 := if_pos h
theorem bI_f {c : Prop} [Decidable c] (h : ¬ c) : bI c = 0 := if_neg h
theorem k_if_eqB (F : Fx l D cI wf own cc mL ret fr lo post Z) {c : Prop} [Decidable c] {off : Int} {tgt : Nat} (hd : decode cc pc = .ok (.ifCond .eq off, 3)) (ht : (pc : Int) + off = (tgt : Int)) (kt : ¬ c → Z tgt lv st iv ar) (kf : c → Z (pc + 3) lv st iv ar) : Z pc lv (.int (bI c) :: st) iv ar := k_if_eq F hd ht (fun h => kt (bI_0.mp h)) (fun h => kf (Decidable.byContradiction (fun q => h (bI_0.mpr q))))
theorem k_if_neB (F : Fx l D cI wf own cc mL ret fr lo post Z) {c : Prop} [Decidable c] {off : Int} {tgt : Nat} (hd : decode cc pc = .ok (.ifCond .ne off, 3)) (ht : (pc : Int) + off = (tgt : Int)) (kt : c → Z tgt lv st iv ar) (kf : ¬ c → Z (pc + 3) lv st iv ar) : Z pc lv (.int (bI c) :: st) iv ar := k_if_ne F hd ht (fun h => kt (Decidable.byContradiction (fun q => h (bI_0.mpr q)))) (fun h => kf (bI_0.mp h))
theorem k_goto (F : Fx l D cI wf own cc mL ret fr lo post Z) {off : Int} {tgt : Nat} (hd : decode cc pc = .ok (.goto off, 3)) (ht : (pc : Int) + off = (tgt : Int)) (k : Z tgt lv st iv ar) : Z pc lv st iv ar := by
  obtain ⟨hwf, p, e, s, m, args, below, meth, c, hx, hb, hml, hr, hlk, ho, hts, hnw, hK, hD, rfl⟩ := F
  exact fun H locs ls hP hS hl => lv_goto hx hb hd ht (k H locs ls hP hS hl)
theorem k_tin (F : Fx l D cI wf own cc mL ret fr lo post Z) {dflt lo2 hi : Int} {offs : Array Int} {len : Nat} {x : Int32} {off : Int} {tgt : Nat} (hd : decode cc pc = .ok (.tableswitch dflt lo2 hi offs, len)) (h1 : ¬ x.toInt < lo2) (h2 : ¬ hi < x.toInt) (hof : offs[(x.toInt - lo2).toNat]? = some off) (ht : (pc : Int) + off = (tgt : Int)) (k : Z tgt lv st iv ar) : Z pc lv (.int x :: st) iv ar := by
  obtain ⟨hwf, p, e, s, m, args, below, meth, c, hx, hb, hml, hr, hlk, ho, hts, hnw, hK, hD, rfl⟩ := F
  exact fun H locs ls hP hS hl => lv_tableIn hx hb hd h1 h2 hof ht (k H locs ls hP hS hl)
theorem k_tout (F : Fx l D cI wf own cc mL ret fr lo post Z) {dflt lo2 hi : Int} {offs : Array Int} {len : Nat} {x : Int32} {tgt : Nat} (hd : decode cc pc = .ok (.tableswitch dflt lo2 hi offs, len)) (h : x.toInt < lo2 ∨ hi < x.toInt) (ht : (pc : Int) + dflt = (tgt : Int)) (k : Z tgt lv st iv ar) : Z pc lv (.int x :: st) iv ar := by
  obtain ⟨hwf, p, e, s, m, args, below, meth, c, hx, hb, hml, hr, hlk, ho, hts, hnw, hK, hD, rfl⟩ := F
  exact fun H locs ls hP hS hl => lv_tableOut hx hb hd h ht (k H locs ls hP hS hl)
theorem k_lkp (F : Fx l D cI wf own cc mL ret fr lo post Z) {dflt : Int} {ps : Array (Int × Int)} {len : Nat} {x : Int32} {off : Int} {tgt : Nat} (hd : decode cc pc = .ok (.lookupswitch dflt ps, len)) (hp : (ps.toList.zip (ps.toList.drop 1)).all (fun (a, next) => a.1 < next.1) = true) (hof : Op.lookupswitch.offset ps.toList dflt x.toInt = off) (ht : (pc : Int) + off = (tgt : Int)) (k : Z tgt lv st iv ar) : Z pc lv (.int x :: st) iv ar := by
  obtain ⟨hwf, p, e, s, m, args, below, meth, c, hx, hb, hml, hr, hlk, ho, hts, hnw, hK, hD, rfl⟩ := F
  exact fun H locs ls hP hS hl => lv_lookup hx hb hd hp hof ht (k H locs ls hP hS hl)
theorem k_iret (F : Fx l D cI wf own cc mL (some .int) fr lo post Z) {x : Int32} (hd : decode cc pc = .ok (.ireturn, 1)) (hq : post (some (.int x)) iv ar) : Z pc lv [.int x] iv ar := by
  obtain ⟨hwf, p, e, s, m, args, below, meth, c, hx, hb, hml, hr, hlk, ho, hts, hnw, hK, hD, rfl⟩ := F
  exact fun H locs ls hP hS hl => W.iret (v := x) hx hb hr (fun t ht hW => ⟨⟨_, iv, ar, rfl, hq, by rw [ht]; exact hP⟩, hS.F ht⟩) hS.2.2 hd
theorem k_zret (F : Fx l D cI wf own cc mL (some .boolean) fr lo post Z) {x : Int32} (hd : decode cc pc = .ok (.ireturn, 1)) (hn : narrow .boolean (.int x) = .int x) (hq : post (some (.int x)) iv ar) : Z pc lv [.int x] iv ar := by
  obtain ⟨hwf, p, e, s, m, args, below, meth, c, hx, hb, hml, hr, hlk, ho, hts, hnw, hK, hD, rfl⟩ := F
  exact fun H locs ls hP hS hl => W.zret (v := x) hx hb hr hn (fun t ht hW => ⟨⟨_, iv, ar, rfl, hq, by rw [ht]; exact hP⟩, hS.F ht⟩) hS.2.2 hd
theorem k_vret (F : Fx l D cI wf own cc mL none fr lo post Z) (hd : decode cc pc = .ok (.return_, 1)) (hq : post none iv ar) : Z pc lv [] iv ar := by
  obtain ⟨hwf, p, e, s, m, args, below, meth, c, hx, hb, hml, hr, hlk, ho, hts, hnw, hK, hD, rfl⟩ := F
  exact fun H locs ls hP hS hl => W.vret hx hb hr (fun t ht hW => ⟨⟨_, iv, ar, rfl, hq, by rw [ht]; exact hP⟩, hS.F ht⟩) hS.2.2 hd
theorem k_aret {cn : String} (F : Fx l D cI wf own cc mL (some (.object cn)) fr lo post Z) {x : Nat} (hd : decode cc pc = .ok (.areturn, 1)) (hq : post (some (.ref x)) iv ar) : Z pc lv [.ref x] iv ar := by
  obtain ⟨hwf, p, e, s, m, args, below, meth, c, hx, hb, hml, hr, hlk, ho, hts, hnw, hK, hD, rfl⟩ := F
  exact fun H locs ls hP hS hl => W.aret hx hb hr (Or.inl ⟨_, rfl⟩) (Or.inr ⟨_, rfl⟩) (fun t ht hW => ⟨⟨_, iv, ar, rfl, hq, by rw [ht]; exact hP⟩, hS.F ht⟩) hS.2.2 hd
theorem bI_nar {c : Prop} [Decidable c] : narrow .boolean (.int (bI c)) = .int (bI c) := by unfold bI; by_cases h : c <;> simp [h] <;> decide
theorem k_get (F : Fx l D cI wf own cc mL ret fr lo post Z) {ref C : String} {T : u_T} {N ci i q0 a k : Nat} {fs : List Value} {v : Value} (hin : ∀ w ∈ u_ws C T N, w ∈ tG) (he : (wf iv ar)[q0]? = some (a, .inr (ci, fs))) (hc : classes[ci]? = some (C, T, N)) (hk : k < N) (hlink : Cond.fieldLink own i ref (T k).2.1 (T k).2.2.1 ∈ tG) (hsame : (T k).1 = ref) (hv : fs[k]? = some v) (hd : decode cc pc = .ok (.getfield i, 3)) (kk : Z (pc + 3) lv (v :: st) iv ar) : Z pc lv (.ref a :: st) iv ar := by
  obtain ⟨hwf, p, e, s, m, args, below, meth, c, hx, hb, hml, hr, hlk, ho, hts, hnw, hK, hD, rfl⟩ := F
  exact fun H locs ls hP hS hl => va_get hx hb hts hin ho hK hP q0 he hc k hk (hts _ hlink) (fun _ h => by rw [← hsame]; exact h) hv hd (kk H locs ls hP hS hl)
theorem k_put (F : Fx l D cI wf own cc mL ret fr lo post Z) {ref C : String} {T : u_T} {N ci i q0 a k : Nat} {fs : List Value} {v : Value} {ty : FieldType} {iv2 : IV} (ty0 : Nat → FieldType) (hty : ∀ k, k < N → parseFieldDescriptor (T k).2.2.1 = some (ty0 k)) (hnm : ∀ a, a < N → ∀ b, b < N → a ≠ b → (T a).2.1 ≠ (T b).2.1) (hin : ∀ w ∈ u_ws C T N, w ∈ tG) (he : (wf iv ar)[q0]? = some (a, .inr (ci, fs))) (hc : classes[ci]? = some (C, T, N)) (hk : k < N) (hlink : Cond.fieldLink own i ref (T k).2.1 (T k).2.2.1 ∈ tG) (hsame : (T k).1 = ref) (hfin : (T k).2.2.2 = false) (hd0 : parseFieldDescriptor (T k).2.2.1 = some ty) (hn : narrow ty v = v) (hfit : fits ty v = true) (hl0 : k < fs.length) (hset : (wf iv ar).set q0 (a, .inr (ci, fs.set k v)) = wf iv2 ar) (hd : decode cc pc = .ok (.putfield i, 3)) (kk : Z (pc + 3) lv st iv2 ar) : Z pc lv (v :: .ref a :: st) iv ar := by
  obtain ⟨hwf, p, e, s, m, args, below, meth, c, hx, hb, hml, hr, hlk, ho, hts, hnw, hK, hD, rfl⟩ := F
  exact fun H locs ls hP hS hl => va_put hx hb hts hin ty0 hty hnm ho hK hP (hD iv ar) hS q0 he hc k hk (hts _ hlink) (fun _ h => by rw [← hsame]; exact h) hfin hd0 hn hfit hl0 hd (fun H1 locs1 hP1 _ hS1 => kk H1 locs1 ls (by rw [← hset]; exact hP1) hS1 hl)
theorem k_ald (F : Fx l D cI wf own cc mL ret fr lo post Z) {q0 a n N : Nat} {f : Nat → Int32} {v : Int32} (he : (wf iv ar)[q0]? = some (a, .inl (cI, N, .inl f))) (hN : N < 2 ^ 31) (hn : n < N) (hv : f n = v) (hd : decode cc pc = .ok (.iaload, 1)) (kk : Z (pc + 1) lv (.int v :: st) iv ar) : Z pc lv (.int (nI n) :: .ref a :: st) iv ar := by
  obtain ⟨hwf, p, e, s, m, args, below, meth, c, hx, hb, hml, hr, hlk, ho, hts, hnw, hK, hD, rfl⟩ := F
  intro H locs ls hP hS hl
  have h1 := va_iald (args := args) (Q := MQ below (Qk D wf post) args s 0 0 (adr wf)) (rest := st) (locs := locs) (e := e) (l := l) (R := { frames := fr, cells := 0, slots := 0, locals := lo }) (below := below) (meth := meth) (m := m) (ls := ls) (cells := 0) (slots := 0) hx hb hK hP q0 0 he rfl (i := nI n) (vp_in_nI hn hN) hd
  rw [nI_clamp (Nat.lt_trans hn hN), hv] at h1
  exact h1 (kk H locs ls hP hS hl)
theorem k_ast (F : Fx l D cI wf own cc mL ret fr lo post Z) {q0 a n N : Nat} {f : Nat → Int32} {x : Int32} {ar2 : AR} (he : (wf iv ar)[q0]? = some (a, .inl (cI, N, .inl f))) (hN : N < 2 ^ 31) (hset : (wf iv ar).set q0 (a, .inl (cI, N, .inl (upd f n x))) = wf iv ar2) (hn : n < N) (hd : decode cc pc = .ok (.iastore, 1)) (kk : Z (pc + 1) lv st iv ar2) : Z pc lv (.int x :: .int (nI n) :: .ref a :: st) iv ar := by
  obtain ⟨hwf, p, e, s, m, args, below, meth, c, hx, hb, hml, hr, hlk, ho, hts, hnw, hK, hD, rfl⟩ := F
  intro H locs ls hP hS hl
  refine va_iast hx hb hK hP (hD iv ar) hS q0 0 he rfl (vp_in_nI hn hN) hd (fun H1 locs1 hP1 _ hS1 => kk H1 locs1 ls ?_ hS1 hl)
  rw [← hset]
  rw [nI_clamp (Nat.lt_trans hn hN)] at hP1
  exact hP1
theorem k_alen (F : Fx l D cI wf own cc mL ret fr lo post Z) {q0 a N : Nat} {f : Nat → Int32} (he : (wf iv ar)[q0]? = some (a, .inl (cI, N, .inl f))) (hd : decode cc pc = .ok (.arraylength, 1)) (kk : Z (pc + 1) lv (.int (nI N) :: st) iv ar) : Z pc lv (.ref a :: st) iv ar := by
  obtain ⟨hwf, p, e, s, m, args, below, meth, c, hx, hb, hml, hr, hlk, ho, hts, hnw, hK, hD, rfl⟩ := F
  exact fun H locs ls hP hS hl => va_alen hx hb hK hP q0 0 he rfl rfl hd (kk H locs ls hP hS hl)
theorem tblIn {w : Cond} (h : w ∈ tG) : GoodIn tG (w :: tG) := by
  intro u hu
  have hm : u ∈ tG := (List.mem_cons.mp hu).elim (fun e => by rw [e]; exact h) id
  exact ⟨hm, good_of_word (List.mem_filter.mp hm).2⟩
theorem Bk_blind {as : List Value} : FrameBlind (va_Pc as (Bk D cI wf iv ar)) := fun a U g mk q => by
  obtain ⟨q0, qP, qK, qD, qN⟩ := q
  exact ⟨q0, qP, va_K.moved (u := U) (U := U.calling g mk a) (Vm.Alike.refl U.vm) qK, qD, va_Nw.same rfl (u := U) (U := U.calling g mk a) rfl qN⟩
theorem Bk_pre {s : State} {H : Heap} (hnw : nW s) (hK : va_K D classes [(cI, .int)] s) (hP : va_P D classes (wf iv ar) H) (hD : va_D (adr wf) (wf iv ar)) (as : List Value) : ∀ U : State, U.heap = H → s.WarmedH U.vm → va_Pc as (Bk D cI wf iv ar) as.toArray U := fun U hU hW => ⟨rfl, by rw [hU]; exact hP, va_K.moved hW.alike hK, hD.weaken (fun _ _ _ _ => trivial), va_Nw.warmM hW hnw⟩
theorem Z_back {p : Program} {e : Env} {R : Room} {s : State} {m : MethodId} {args : Array Value} {below : List Frame} {meth : Method} {c : Code} {H : Heap} {locs : List Loc} {cells slots : Nat} {Q : State → Prop} {ls : Array Slot} {st0 rest : List Value} {a : Array Value} {post2 : PST} (hr : va_Run p l e R s m args below meth c H locs cells slots 0 0 (F0 m pc ls st0) rest (Qk D wf post2 a) (adr wf)) (hS : va_S (adr wf) s.heap H locs) (kk : ∀ (v : Option Value) (iv2 : IV) (ar2 : AR) (H1 : Heap) (locs1 : List Loc), post2 v iv2 ar2 → va_P D classes (wf iv2 ar2) H1 → va_S (adr wf) s.heap H1 locs1 → W p l e R s m args below meth c H1 locs1 cells slots Q (F0 m (pc + 3) ls (v.toList ++ rest))) : W p l e R s m args below meth c H locs cells slots Q (F0 m pc ls st0) := by
  intro T hT X
  obtain ⟨v, st₀, t, T', L, h0, X', hL, e1, e2, ⟨⟨v2, iv2, ar2, hv, hp, hb⟩, hz, hk⟩, st⟩ := hr T hT X
  cases hv
  rw [h0] at hz hk
  obtain ⟨t2, a1, b1⟩ := kk v iv2 ar2 T'.heap (locs ++ L) hp (by rw [e1]; exact hb)
    ⟨Nat.le_trans hS.1 (by rw [e1]; exact hz), fun q h1 h2 => by rw [e1, hk q (Nat.lt_of_lt_of_le h1 hS.1) h2]; exact hS.2.1 q h1 h2, fun q hq => by
      rcases List.mem_append.mp hq with h | h
      · exact hS.2.2 q h
      · exact hL q h⟩ T' rfl X'
  exact ⟨t2, st t2 a1, b1⟩
variable {y : MethodName} {cc2 : ByteArray} {mL2 : Nat} {ret2 : Option FieldType} {fr2 lo2 : Nat} {post2 : PST} {i n : Nat} {As rest : List Value} {a : Nat}
def okN (y : MethodName) (n : Nat) : Prop := y.cls ≠ "java/lang/invoke/MethodHandle" ∧ y.cls ≠ "java/lang/invoke/VarHandle" ∧ (parseMethodDescriptor y.desc).map (fun d => d.parameters.length) = some n
/-- what the tables must hold for a call of an instance method -/
def okV (own : String) (i : Nat) (y : MethodName) (cc2 : ByteArray) (mL2 : Nat) (ret2 : Option FieldType) (n : Nat) : Prop := okN y n ∧ Cond.code y cc2 mL2 ret2 ∈ tG ∧ Cond.initialized y.cls ∈ tG ∧ Cond.methodLink own i y ∈ tG ∧ Cond.instanceMethod y ∈ tG ∧ Cond.selects y.cls y y ∈ tG
def okS (own : String) (i : Nat) (y : MethodName) (cc2 : ByteArray) (mL2 : Nat) (ret2 : Option FieldType) (n : Nat) : Prop := okN y n ∧ Cond.code y cc2 mL2 ret2 ∈ tG ∧ Cond.initialized y.cls ∈ tG ∧ Cond.methodLink own i y ∈ tG ∧ Cond.static y ∈ tG
def okSN (y : MethodName) (cc2 : ByteArray) (mL2 : Nat) (ret2 : Option FieldType) (n : Nat) : Prop := okN y n ∧ Cond.code y cc2 mL2 ret2 ∈ tG ∧ Cond.initialized y.cls ∈ tG ∧ Cond.static y ∈ tG
theorem k_callV (F : Fx l D cI wf own cc mL ret fr lo post Z) {q0 ci : Nat} {q : vw_C} {fs : List Value} (hM : Ct l D cI wf y cc2 mL2 ret2 fr2 lo2 (.ref a :: As) iv ar post2) (ok : okV own i y cc2 mL2 ret2 n) (he : (wf iv ar)[q0]? = some (a, .inr (ci, fs))) (hc : classes[ci]? = some q) (hq : q.1 = y.cls) (hn : As.length = n) (hst : st = As.reverse ++ .ref a :: rest) (hfr : fr2 + 1 ≤ fr) (hlo : 8 + (mL2 + 11) + lo2 ≤ lo) (hrm : (rest.map fun v => v.category).sum ≤ 8) (hd : decode cc pc = .ok (.invokevirtual i, 3)) (kk : ∀ v iv2 ar2, post2 v iv2 ar2 → Z (pc + 3) lv (v.toList ++ rest) iv2 ar2) : Z pc lv st iv ar := by
  obtain ⟨hwf, p, e, s, m, args, below, meth, c, hx, hb, hml, hr, hlk, ho, hts, hnw, hK, hD, rfl⟩ := F
  obtain ⟨⟨h1, h2, h3⟩, k1, k2, k3, k4, k5⟩ := ok
  intro H locs ls hP hS hl
  have hcb := callB_of (R := { frames := fr, cells := 0, slots := 0, locals := lo }) (rm := { frames := fr2, cells := 0, slots := 0, locals := lo2 }) (mc := 0) (ms := 0) n hts (tblIn k1) rfl rfl rfl (hts _ k2) (hts _ k3) ⟨h1, h2, h3⟩ ⟨hfr, hlo⟩
  have hrv := va_recv hK hP hc he
  rw [hq] at hrv
  exact Z_back (va_runV (C := y.cls) (As := As) (rest := rest) (b := a) ⟨hx, hb, hml, ho, hts⟩ hM ⟨hcb, hts _ k4, hts _ k5⟩ ⟨Bk_blind, hrv, Bk_pre hnw hK hP (hD iv ar) (.ref a :: As)⟩ rfl hn hl.1.1 hst (lv_room hrm) hd ⟨Nat.le_refl 0, Nat.le_refl 0⟩) hS (fun v iv2 ar2 H1 locs1 hp hP1 hS1 => kk v iv2 ar2 hp H1 locs1 ls hP1 hS1 hl)
theorem k_callS (F : Fx l D cI wf own cc mL ret fr lo post Z) (hM : Ct l D cI wf y cc2 mL2 ret2 fr2 lo2 As iv ar post2) (ok : okS own i y cc2 mL2 ret2 n) (hn : As.length = n) (hst : st = As.reverse ++ rest) (hfr : fr2 + 1 ≤ fr) (hlo : 8 + (mL2 + 11) + lo2 ≤ lo) (hrm : (rest.map fun v => v.category).sum ≤ 8) (hd : decode cc pc = .ok (.invokestatic i, 3)) (kk : ∀ v iv2 ar2, post2 v iv2 ar2 → Z (pc + 3) lv (v.toList ++ rest) iv2 ar2) : Z pc lv st iv ar := by
  obtain ⟨hwf, p, e, s, m, args, below, meth, c, hx, hb, hml, hr, hlk, ho, hts, hnw, hK, hD, rfl⟩ := F
  obtain ⟨⟨h1, h2, h3⟩, k1, k2, k3, k4⟩ := ok
  intro H locs ls hP hS hl
  have hcb := callB_of (R := { frames := fr, cells := 0, slots := 0, locals := lo }) (rm := { frames := fr2, cells := 0, slots := 0, locals := lo2 }) (mc := 0) (ms := 0) n hts (tblIn k1) rfl rfl rfl (hts _ k2) (hts _ k3) ⟨h1, h2, h3⟩ ⟨hfr, hlo⟩
  exact Z_back (va_runS (As := As) (rest := rest) ⟨hx, hb, hml, ho, hts⟩ hM ⟨hcb, hts _ k4⟩ ⟨Bk_blind, Bk_pre hnw hK hP (hD iv ar) As⟩ rfl hn hl.1.1 hst (lv_room hrm) hd ⟨Nat.le_refl 0, Nat.le_refl 0⟩) hS (fun v iv2 ar2 H1 locs1 hp hP1 hS1 => kk v iv2 ar2 hp H1 locs1 ls hP1 hS1 hl)
theorem k_callSN (F : Fx l D cI wf RX3 cc mL ret fr lo post Z) (hM : Ct l D cI wf yX7_bandOf cc2 mL2 ret2 fr2 lo2 As iv ar post2) (ok : okSN yX7_bandOf cc2 mL2 ret2 n) (hn : As.length = n) (hst : st = As.reverse ++ rest) (hfr : fr2 + 1 ≤ fr) (hlo : 8 + (mL2 + 11) + lo2 ≤ lo) (hrm : (rest.map fun v => v.category).sum ≤ 8) (hd : decode cc pc = .ok (.invokestatic 88, 3)) (kk : ∀ v iv2 ar2, post2 v iv2 ar2 → Z (pc + 3) lv (v.toList ++ rest) iv2 ar2) : Z pc lv st iv ar := by
  obtain ⟨hwf, p, e, s, m, args, below, meth, c, hx, hb, hml, hr, hlk, ho, hts, hnw, hK, hD, rfl⟩ := F
  obtain ⟨⟨h1, h2, h3⟩, k1, k2, k4⟩ := ok
  intro H locs ls hP hS hl
  have hG := tblIn k1
  have hcn : va_CN { frames := fr, cells := 0, slots := 0, locals := lo } s args RX3 88 yX7_bandOf RX7 cc2 mL2 ret2 (Cond.code yX7_bandOf cc2 mL2 ret2 :: tG) { frames := fr2, cells := 0, slots := 0, locals := lo2 } 0 0 n := by
    refine ⟨⟨rfl, rfl, hfr, hlo, pay_in hts hG, List.mem_cons_self⟩, hts _ k1, hts _ k2, ⟨h1, h2⟩, fun sig h => ?_, va_Nw.use rfl hnw⟩
    have h2 := h3
    rw [h] at h2
    exact (Option.some.inj h2).symm
  exact Z_back (va_runSN (As := As) (rest := rest) ⟨hx, hb, hml, ho, hts⟩ hM ⟨hcn, hts _ k4, trivial⟩ ⟨Bk_blind, Bk_pre hnw hK hP (hD iv ar) As⟩ rfl hn hl.1.1 hst (lv_room hrm) hd ⟨Nat.le_refl 0, Nat.le_refl 0⟩) hS (fun v iv2 ar2 H1 locs1 hp hP1 hS1 => kk v iv2 ar2 hp H1 locs1 ls hP1 hS1 hl)
end KR
/-- an int answer, and the state behind it -/
def rI (x : Int32) (iv1 : IV) (ar1 : AR) : PST := fun v iv2 ar2 => v = some (.int x) ∧ iv2 = iv1 ∧ ar2 = ar1
def rV (iv1 : IV) (ar1 : AR) : PST := fun v iv2 ar2 => v = none ∧ iv2 = iv1 ∧ ar2 = ar1
theorem rI.use {Z : ZT} {pc : Nat} {lv : LV} {rest : List Value} {x : Int32} {iv1 : IV} {ar1 : AR} (k : Z pc lv (.int x :: rest) iv1 ar1) : ∀ v iv2 ar2, rI x iv1 ar1 v iv2 ar2 → Z pc lv (v.toList ++ rest) iv2 ar2 := fun v iv2 ar2 h => by
  obtain ⟨rfl, rfl, rfl⟩ := h
  exact k
theorem rV.use {Z : ZT} {pc : Nat} {lv : LV} {rest : List Value} {iv1 : IV} {ar1 : AR} (k : Z pc lv rest iv1 ar1) : ∀ v iv2 ar2, rV iv1 ar1 v iv2 ar2 → Z pc lv (v.toList ++ rest) iv2 ar2 := fun v iv2 ar2 h => by
  obtain ⟨rfl, rfl, rfl⟩ := h
  exact k
/-- an int answer, or none, with a relation -/
def qI (q : Int32 → IV → AR → Prop) : PST := fun v iv2 ar2 => ∃ x, v = some (.int x) ∧ q x iv2 ar2
def qV (q : IV → AR → Prop) : PST := fun v iv2 ar2 => v = none ∧ q iv2 ar2
theorem qI.use {Z : ZT} {pc : Nat} {lv : LV} {rest : List Value} {q : Int32 → IV → AR → Prop} (k : ∀ x iv2 ar2, q x iv2 ar2 → Z pc lv (.int x :: rest) iv2 ar2) : ∀ v iv2 ar2, qI q v iv2 ar2 → Z pc lv (v.toList ++ rest) iv2 ar2 := fun v iv2 ar2 h => by
  obtain ⟨x, rfl, h⟩ := h
  exact k x iv2 ar2 h
theorem qV.use {Z : ZT} {pc : Nat} {lv : LV} {rest : List Value} {q : IV → AR → Prop} (k : ∀ iv2 ar2, q iv2 ar2 → Z pc lv rest iv2 ar2) : ∀ v iv2 ar2, qV q v iv2 ar2 → Z pc lv (v.toList ++ rest) iv2 ar2 := fun v iv2 ar2 h => by
  obtain ⟨rfl, h⟩ := h
  exact k iv2 ar2 h
end
section
set_option maxRecDepth 20000 in
theorem w_1 : (Jvm.Cond.initialized "VoiceHouse") ∈ tG := mG (List.mem_append_right _ (List.mem_append_left _ (List.mem_of_getElem? (i := 1) rfl))) rfl
set_option maxRecDepth 20000 in
theorem w_2 : (Jvm.Cond.initialized "VoiceHouse$Archive") ∈ tG := mG (List.mem_append_right _ (List.mem_append_left _ (List.mem_of_getElem? (i := 2) rfl))) rfl
set_option maxRecDepth 20000 in
theorem w_3 : (Jvm.Cond.initialized "java/util/Arrays") ∈ tG := mG (List.mem_append_right _ (List.mem_append_left _ (List.mem_of_getElem? (i := 3) rfl))) rfl
set_option maxRecDepth 20000 in
theorem w_4 : (Jvm.Cond.initialized "VoiceHouse$Shifts") ∈ tG := mG (List.mem_append_right _ (List.mem_append_left _ (List.mem_of_getElem? (i := 4) rfl))) rfl
set_option maxRecDepth 20000 in
theorem w_5 : (Jvm.Cond.initialized "VoiceHouse$Scores") ∈ tG := mG (List.mem_append_right _ (List.mem_append_left _ (List.mem_of_getElem? (i := 5) rfl))) rfl
set_option maxRecDepth 20000 in
theorem w_6 : (Jvm.Cond.initialized "VoiceHouse$PairBook") ∈ tG := mG (List.mem_append_right _ (List.mem_append_left _ (List.mem_of_getElem? (i := 6) rfl))) rfl
set_option maxRecDepth 20000 in
theorem w_7 : (Jvm.Cond.initialized "VoiceHouse$Segments") ∈ tG := mG (List.mem_append_right _ (List.mem_append_left _ (List.mem_of_getElem? (i := 7) rfl))) rfl
set_option maxRecDepth 20000 in
theorem w_8 : (Jvm.Cond.initialized "VoiceHouse$LineUp") ∈ tG := mG (List.mem_append_right _ (List.mem_append_left _ (List.mem_of_getElem? (i := 8) rfl))) rfl
set_option maxRecDepth 20000 in
theorem w_9 : (Jvm.Cond.initialized "VoiceHouse$BlindTests") ∈ tG := mG (List.mem_append_right _ (List.mem_append_left _ (List.mem_of_getElem? (i := 9) rfl))) rfl
set_option maxRecDepth 20000 in
theorem w_10 : (Jvm.Cond.initialized "VoiceHouseModel") ∈ tG := mG (List.mem_append_right _ (List.mem_append_left _ (List.mem_of_getElem? (i := 10) rfl))) rfl
set_option maxRecDepth 20000 in
theorem w_11 : (Jvm.Cond.initialized "java/lang/Math") ∈ tG := mG (List.mem_append_right _ (List.mem_append_left _ (List.mem_of_getElem? (i := 11) rfl))) rfl
set_option maxRecDepth 20000 in
theorem w_12 : (Jvm.Cond.initialized "java/lang/Integer") ∈ tG := mG (List.mem_append_right _ (List.mem_append_left _ (List.mem_of_getElem? (i := 12) rfl))) rfl
set_option maxRecDepth 20000 in
theorem w_27 : (Jvm.Cond.methodLink "VoiceHouse$Archive" (21 : Nat) ({ cls := "java/util/Arrays", name := "fill", desc := "([II)V" } : Jvm.MethodName)) ∈ tG := mG (List.mem_append_right _ (List.mem_append_left _ (List.mem_of_getElem? (i := 27) rfl))) rfl
set_option maxRecDepth 20000 in
theorem w_28 : (Jvm.Cond.static ({ cls := "java/util/Arrays", name := "fill", desc := "([II)V" } : Jvm.MethodName)) ∈ tG := mG (List.mem_append_right _ (List.mem_append_left _ (List.mem_of_getElem? (i := 28) rfl))) rfl
set_option maxRecDepth 20000 in
theorem w_29 : (Jvm.Cond.code ({ cls := "java/util/Arrays", name := "fill", desc := "([II)V" } : Jvm.MethodName) prog_13_method_103_code (4 : Nat) (Option.none : Option Jvm.ClassFile.FieldType)) ∈ tG := mG (List.mem_append_right _ (List.mem_append_left _ (List.mem_of_getElem? (i := 29) rfl))) rfl
set_option maxRecDepth 20000 in
theorem w_30 : (Jvm.Cond.fieldLink "VoiceHouse$Archive" (9 : Nat) "VoiceHouse$Archive" "channels" "[I") ∈ tG := mG (List.mem_append_right _ (List.mem_append_left _ (List.mem_of_getElem? (i := 30) rfl))) rfl
set_option maxRecDepth 20000 in
theorem w_31 : (Jvm.Cond.fieldLink "VoiceHouse$Archive" (15 : Nat) "VoiceHouse$Archive" "speakers" "[I") ∈ tG := mG (List.mem_append_right _ (List.mem_append_left _ (List.mem_of_getElem? (i := 31) rfl))) rfl
set_option maxRecDepth 20000 in
theorem w_32 : (Jvm.Cond.fieldLink "VoiceHouse$Archive" (18 : Nat) "VoiceHouse$Archive" "tones" "[I") ∈ tG := mG (List.mem_append_right _ (List.mem_append_left _ (List.mem_of_getElem? (i := 32) rfl))) rfl
set_option maxRecDepth 20000 in
theorem w_33 : (Jvm.Cond.fieldLink "VoiceHouse$Archive" (27 : Nat) "VoiceHouse$Archive" "size" "I") ∈ tG := mG (List.mem_append_right _ (List.mem_append_left _ (List.mem_of_getElem? (i := 33) rfl))) rfl
set_option maxRecDepth 20000 in
theorem w_50 : (Jvm.Cond.fieldLink "VoiceHouse$Shifts" (9 : Nat) "VoiceHouse$Shifts" "archive" "LVoiceHouse$Archive;") ∈ tG := mG (List.mem_append_right _ (List.mem_append_left _ (List.mem_of_getElem? (i := 50) rfl))) rfl
set_option maxRecDepth 20000 in
theorem w_51 : (Jvm.Cond.fieldLink "VoiceHouse$Shifts" (15 : Nat) "VoiceHouse$Shifts" "sums" "[I") ∈ tG := mG (List.mem_append_right _ (List.mem_append_left _ (List.mem_of_getElem? (i := 51) rfl))) rfl
set_option maxRecDepth 20000 in
theorem w_52 : (Jvm.Cond.fieldLink "VoiceHouse$Shifts" (19 : Nat) "VoiceHouse$Shifts" "pairs" "[I") ∈ tG := mG (List.mem_append_right _ (List.mem_append_left _ (List.mem_of_getElem? (i := 52) rfl))) rfl
set_option maxRecDepth 20000 in
theorem w_53 : (Jvm.Cond.fieldLink "VoiceHouse$Shifts" (22 : Nat) "VoiceHouse$Shifts" "means" "[I") ∈ tG := mG (List.mem_append_right _ (List.mem_append_left _ (List.mem_of_getElem? (i := 53) rfl))) rfl
set_option maxRecDepth 20000 in
theorem w_69 : (Jvm.Cond.fieldLink "VoiceHouse$Scores" (9 : Nat) "VoiceHouse$Scores" "archive" "LVoiceHouse$Archive;") ∈ tG := mG (List.mem_append_right _ (List.mem_append_left _ (List.mem_of_getElem? (i := 69) rfl))) rfl
set_option maxRecDepth 20000 in
theorem w_70 : (Jvm.Cond.fieldLink "VoiceHouse$Scores" (15 : Nat) "VoiceHouse$Scores" "shifts" "LVoiceHouse$Shifts;") ∈ tG := mG (List.mem_append_right _ (List.mem_append_left _ (List.mem_of_getElem? (i := 70) rfl))) rfl
set_option maxRecDepth 20000 in
theorem w_82 : (Jvm.Cond.fieldLink "VoiceHouse$PairBook" (9 : Nat) "VoiceHouse$PairBook" "archive" "LVoiceHouse$Archive;") ∈ tG := mG (List.mem_append_right _ (List.mem_append_left _ (List.mem_of_getElem? (i := 82) rfl))) rfl
set_option maxRecDepth 20000 in
theorem w_83 : (Jvm.Cond.fieldLink "VoiceHouse$PairBook" (15 : Nat) "VoiceHouse$PairBook" "scores" "LVoiceHouse$Scores;") ∈ tG := mG (List.mem_append_right _ (List.mem_append_left _ (List.mem_of_getElem? (i := 83) rfl))) rfl
set_option maxRecDepth 20000 in
theorem w_84 : (Jvm.Cond.fieldLink "VoiceHouse$PairBook" (19 : Nat) "VoiceHouse$PairBook" "bandSame" "[I") ∈ tG := mG (List.mem_append_right _ (List.mem_append_left _ (List.mem_of_getElem? (i := 84) rfl))) rfl
set_option maxRecDepth 20000 in
theorem w_85 : (Jvm.Cond.fieldLink "VoiceHouse$PairBook" (23 : Nat) "VoiceHouse$PairBook" "bandOther" "[I") ∈ tG := mG (List.mem_append_right _ (List.mem_append_left _ (List.mem_of_getElem? (i := 85) rfl))) rfl
set_option maxRecDepth 20000 in
theorem w_86 : (Jvm.Cond.fieldLink "VoiceHouse$PairBook" (26 : Nat) "VoiceHouse$PairBook" "blockFirst" "[I") ∈ tG := mG (List.mem_append_right _ (List.mem_append_left _ (List.mem_of_getElem? (i := 86) rfl))) rfl
set_option maxRecDepth 20000 in
theorem w_87 : (Jvm.Cond.fieldLink "VoiceHouse$PairBook" (29 : Nat) "VoiceHouse$PairBook" "blockLast" "[I") ∈ tG := mG (List.mem_append_right _ (List.mem_append_left _ (List.mem_of_getElem? (i := 87) rfl))) rfl
set_option maxRecDepth 20000 in
theorem w_88 : (Jvm.Cond.fieldLink "VoiceHouse$PairBook" (32 : Nat) "VoiceHouse$PairBook" "blockSame" "[I") ∈ tG := mG (List.mem_append_right _ (List.mem_append_left _ (List.mem_of_getElem? (i := 88) rfl))) rfl
set_option maxRecDepth 20000 in
theorem w_89 : (Jvm.Cond.fieldLink "VoiceHouse$PairBook" (35 : Nat) "VoiceHouse$PairBook" "blockOther" "[I") ∈ tG := mG (List.mem_append_right _ (List.mem_append_left _ (List.mem_of_getElem? (i := 89) rfl))) rfl
set_option maxRecDepth 20000 in
theorem w_90 : (Jvm.Cond.fieldLink "VoiceHouse$PairBook" (38 : Nat) "VoiceHouse$PairBook" "blocks" "I") ∈ tG := mG (List.mem_append_right _ (List.mem_append_left _ (List.mem_of_getElem? (i := 90) rfl))) rfl
set_option maxRecDepth 20000 in
theorem w_91 : (Jvm.Cond.fieldLink "VoiceHouse$PairBook" (42 : Nat) "VoiceHouse$PairBook" "sumSame" "I") ∈ tG := mG (List.mem_append_right _ (List.mem_append_left _ (List.mem_of_getElem? (i := 91) rfl))) rfl
set_option maxRecDepth 20000 in
theorem w_92 : (Jvm.Cond.fieldLink "VoiceHouse$PairBook" (45 : Nat) "VoiceHouse$PairBook" "sumOther" "I") ∈ tG := mG (List.mem_append_right _ (List.mem_append_left _ (List.mem_of_getElem? (i := 92) rfl))) rfl
set_option maxRecDepth 20000 in
theorem w_122 : (Jvm.Cond.fieldLink "VoiceHouse$Segments" (9 : Nat) "VoiceHouse$Segments" "scores" "LVoiceHouse$Scores;") ∈ tG := mG (List.mem_append_right _ (List.mem_append_left _ (List.mem_of_getElem? (i := 122) rfl))) rfl
set_option maxRecDepth 20000 in
theorem w_123 : (Jvm.Cond.fieldLink "VoiceHouse$Segments" (15 : Nat) "VoiceHouse$Segments" "recordings" "[I") ∈ tG := mG (List.mem_append_right _ (List.mem_append_left _ (List.mem_of_getElem? (i := 123) rfl))) rfl
set_option maxRecDepth 20000 in
theorem w_124 : (Jvm.Cond.fieldLink "VoiceHouse$Segments" (19 : Nat) "VoiceHouse$Segments" "table" "[I") ∈ tG := mG (List.mem_append_right _ (List.mem_append_left _ (List.mem_of_getElem? (i := 124) rfl))) rfl
set_option maxRecDepth 20000 in
theorem w_125 : (Jvm.Cond.fieldLink "VoiceHouse$Segments" (22 : Nat) "VoiceHouse$Segments" "voiceOf" "[I") ∈ tG := mG (List.mem_append_right _ (List.mem_append_left _ (List.mem_of_getElem? (i := 125) rfl))) rfl
set_option maxRecDepth 20000 in
theorem w_126 : (Jvm.Cond.fieldLink "VoiceHouse$Segments" (25 : Nat) "VoiceHouse$Segments" "within" "[I") ∈ tG := mG (List.mem_append_right _ (List.mem_append_left _ (List.mem_of_getElem? (i := 126) rfl))) rfl
set_option maxRecDepth 20000 in
theorem w_127 : (Jvm.Cond.fieldLink "VoiceHouse$Segments" (28 : Nat) "VoiceHouse$Segments" "least" "[I") ∈ tG := mG (List.mem_append_right _ (List.mem_append_left _ (List.mem_of_getElem? (i := 127) rfl))) rfl
set_option maxRecDepth 20000 in
theorem w_128 : (Jvm.Cond.fieldLink "VoiceHouse$Segments" (31 : Nat) "VoiceHouse$Segments" "size" "I") ∈ tG := mG (List.mem_append_right _ (List.mem_append_left _ (List.mem_of_getElem? (i := 128) rfl))) rfl
set_option maxRecDepth 20000 in
theorem w_129 : (Jvm.Cond.fieldLink "VoiceHouse$Segments" (35 : Nat) "VoiceHouse$Segments" "crossSum" "I") ∈ tG := mG (List.mem_append_right _ (List.mem_append_left _ (List.mem_of_getElem? (i := 129) rfl))) rfl
set_option maxRecDepth 20000 in
theorem w_130 : (Jvm.Cond.fieldLink "VoiceHouse$Segments" (38 : Nat) "VoiceHouse$Segments" "crossPairs" "I") ∈ tG := mG (List.mem_append_right _ (List.mem_append_left _ (List.mem_of_getElem? (i := 130) rfl))) rfl
set_option maxRecDepth 20000 in
theorem w_156 : (Jvm.Cond.fieldLink "VoiceHouse$LineUp" (9 : Nat) "VoiceHouse$LineUp" "archive" "LVoiceHouse$Archive;") ∈ tG := mG (List.mem_append_right _ (List.mem_append_left _ (List.mem_of_getElem? (i := 156) rfl))) rfl
set_option maxRecDepth 20000 in
theorem w_157 : (Jvm.Cond.fieldLink "VoiceHouse$LineUp" (15 : Nat) "VoiceHouse$LineUp" "scores" "LVoiceHouse$Scores;") ∈ tG := mG (List.mem_append_right _ (List.mem_append_left _ (List.mem_of_getElem? (i := 157) rfl))) rfl
set_option maxRecDepth 20000 in
theorem w_158 : (Jvm.Cond.fieldLink "VoiceHouse$LineUp" (19 : Nat) "VoiceHouse$LineUp" "recordings" "[I") ∈ tG := mG (List.mem_append_right _ (List.mem_append_left _ (List.mem_of_getElem? (i := 158) rfl))) rfl
set_option maxRecDepth 20000 in
theorem w_159 : (Jvm.Cond.fieldLink "VoiceHouse$LineUp" (23 : Nat) "VoiceHouse$LineUp" "distances" "[I") ∈ tG := mG (List.mem_append_right _ (List.mem_append_left _ (List.mem_of_getElem? (i := 159) rfl))) rfl
set_option maxRecDepth 20000 in
theorem w_160 : (Jvm.Cond.fieldLink "VoiceHouse$LineUp" (26 : Nat) "VoiceHouse$LineUp" "size" "I") ∈ tG := mG (List.mem_append_right _ (List.mem_append_left _ (List.mem_of_getElem? (i := 160) rfl))) rfl
set_option maxRecDepth 20000 in
theorem w_178 : (Jvm.Cond.fieldLink "VoiceHouse$BlindTests" (9 : Nat) "VoiceHouse$BlindTests" "outcomes" "[I") ∈ tG := mG (List.mem_append_right _ (List.mem_append_left _ (List.mem_of_getElem? (i := 178) rfl))) rfl
set_option maxRecDepth 20000 in
theorem w_179 : (Jvm.Cond.fieldLink "VoiceHouse$BlindTests" (15 : Nat) "VoiceHouse$BlindTests" "putSoFar" "I") ∈ tG := mG (List.mem_append_right _ (List.mem_append_left _ (List.mem_of_getElem? (i := 179) rfl))) rfl
set_option maxRecDepth 20000 in
theorem w_185 : (Jvm.Cond.fieldLink "VoiceHouse" (10 : Nat) "VoiceHouse" "archive" "LVoiceHouse$Archive;") ∈ tG := mG (List.mem_append_right _ (List.mem_append_left _ (List.mem_of_getElem? (i := 185) rfl))) rfl
set_option maxRecDepth 20000 in
theorem w_186 : (Jvm.Cond.fieldLink "VoiceHouse" (21 : Nat) "VoiceHouse" "shifts" "LVoiceHouse$Shifts;") ∈ tG := mG (List.mem_append_right _ (List.mem_append_left _ (List.mem_of_getElem? (i := 186) rfl))) rfl
set_option maxRecDepth 20000 in
theorem w_187 : (Jvm.Cond.fieldLink "VoiceHouse" (30 : Nat) "VoiceHouse" "scores" "LVoiceHouse$Scores;") ∈ tG := mG (List.mem_append_right _ (List.mem_append_left _ (List.mem_of_getElem? (i := 187) rfl))) rfl
set_option maxRecDepth 20000 in
theorem w_188 : (Jvm.Cond.fieldLink "VoiceHouse" (39 : Nat) "VoiceHouse" "pairBook" "LVoiceHouse$PairBook;") ∈ tG := mG (List.mem_append_right _ (List.mem_append_left _ (List.mem_of_getElem? (i := 188) rfl))) rfl
set_option maxRecDepth 20000 in
theorem w_189 : (Jvm.Cond.fieldLink "VoiceHouse" (48 : Nat) "VoiceHouse" "segments" "LVoiceHouse$Segments;") ∈ tG := mG (List.mem_append_right _ (List.mem_append_left _ (List.mem_of_getElem? (i := 189) rfl))) rfl
set_option maxRecDepth 20000 in
theorem w_190 : (Jvm.Cond.fieldLink "VoiceHouse" (55 : Nat) "VoiceHouse" "lineUp" "LVoiceHouse$LineUp;") ∈ tG := mG (List.mem_append_right _ (List.mem_append_left _ (List.mem_of_getElem? (i := 190) rfl))) rfl
set_option maxRecDepth 20000 in
theorem w_191 : (Jvm.Cond.fieldLink "VoiceHouse" (62 : Nat) "VoiceHouse" "blindTests" "LVoiceHouse$BlindTests;") ∈ tG := mG (List.mem_append_right _ (List.mem_append_left _ (List.mem_of_getElem? (i := 191) rfl))) rfl
set_option maxRecDepth 20000 in
theorem w_192 : (Jvm.Cond.fieldLink "VoiceHouse" (66 : Nat) "VoiceHouse" "speakersInSet" "I") ∈ tG := mG (List.mem_append_right _ (List.mem_append_left _ (List.mem_of_getElem? (i := 192) rfl))) rfl
set_option maxRecDepth 20000 in
theorem w_193 : (Jvm.Cond.fieldLink "VoiceHouse" (70 : Nat) "VoiceHouse" "limitNow" "I") ∈ tG := mG (List.mem_append_right _ (List.mem_append_left _ (List.mem_of_getElem? (i := 193) rfl))) rfl
set_option maxRecDepth 20000 in
theorem w_194 : (Jvm.Cond.fieldLink "VoiceHouse" (73 : Nat) "VoiceHouse" "pairsAreOld" "Z") ∈ tG := mG (List.mem_append_right _ (List.mem_append_left _ (List.mem_of_getElem? (i := 194) rfl))) rfl
set_option maxRecDepth 20000 in
theorem w_216 : (Jvm.Cond.methodLink "VoiceHouseLaw" (13 : Nat) ({ cls := "VoiceHouse", name := "record", desc := "(II)I" } : Jvm.MethodName)) ∈ tG := mG (List.mem_append_right _ (List.mem_append_left _ (List.mem_of_getElem? (i := 216) rfl))) rfl
set_option maxRecDepth 20000 in
theorem w_217 : (Jvm.Cond.instanceMethod ({ cls := "VoiceHouse", name := "record", desc := "(II)I" } : Jvm.MethodName)) ∈ tG := mG (List.mem_append_right _ (List.mem_append_left _ (List.mem_of_getElem? (i := 217) rfl))) rfl
set_option maxRecDepth 20000 in
theorem w_218 : (Jvm.Cond.selects "VoiceHouse" ({ cls := "VoiceHouse", name := "record", desc := "(II)I" } : Jvm.MethodName) ({ cls := "VoiceHouse", name := "record", desc := "(II)I" } : Jvm.MethodName)) ∈ tG := mG (List.mem_append_right _ (List.mem_append_left _ (List.mem_of_getElem? (i := 218) rfl))) rfl
set_option maxRecDepth 20000 in
theorem w_219 : (Jvm.Cond.code ({ cls := "VoiceHouse", name := "record", desc := "(II)I" } : Jvm.MethodName) prog_1_method_2_code (3 : Nat) (Option.some Jvm.ClassFile.FieldType.int)) ∈ tG := mG (List.mem_append_right _ (List.mem_append_left _ (List.mem_of_getElem? (i := 219) rfl))) rfl
set_option maxRecDepth 20000 in
theorem w_220 : (Jvm.Cond.methodLink "VoiceHouse" (77 : Nat) ({ cls := "VoiceHouse", name := "isChannel", desc := "(I)Z" } : Jvm.MethodName)) ∈ tG := mG (List.mem_append_right _ (List.mem_append_left _ (List.mem_of_getElem? (i := 220) rfl))) rfl
set_option maxRecDepth 20000 in
theorem w_221 : (Jvm.Cond.static ({ cls := "VoiceHouse", name := "isChannel", desc := "(I)Z" } : Jvm.MethodName)) ∈ tG := mG (List.mem_append_right _ (List.mem_append_left _ (List.mem_of_getElem? (i := 221) rfl))) rfl
set_option maxRecDepth 20000 in
theorem w_222 : (Jvm.Cond.code ({ cls := "VoiceHouse", name := "isChannel", desc := "(I)Z" } : Jvm.MethodName) prog_1_method_27_code (1 : Nat) (Option.some Jvm.ClassFile.FieldType.boolean)) ∈ tG := mG (List.mem_append_right _ (List.mem_append_left _ (List.mem_of_getElem? (i := 222) rfl))) rfl
set_option maxRecDepth 20000 in
theorem w_223 : (Jvm.Cond.methodLink "VoiceHouse" (81 : Nat) ({ cls := "VoiceHouse", name := "isSpeakerOrNobody", desc := "(I)Z" } : Jvm.MethodName)) ∈ tG := mG (List.mem_append_right _ (List.mem_append_left _ (List.mem_of_getElem? (i := 223) rfl))) rfl
set_option maxRecDepth 20000 in
theorem w_224 : (Jvm.Cond.static ({ cls := "VoiceHouse", name := "isSpeakerOrNobody", desc := "(I)Z" } : Jvm.MethodName)) ∈ tG := mG (List.mem_append_right _ (List.mem_append_left _ (List.mem_of_getElem? (i := 224) rfl))) rfl
set_option maxRecDepth 20000 in
theorem w_225 : (Jvm.Cond.code ({ cls := "VoiceHouse", name := "isSpeakerOrNobody", desc := "(I)Z" } : Jvm.MethodName) prog_1_method_30_code (1 : Nat) (Option.some Jvm.ClassFile.FieldType.boolean)) ∈ tG := mG (List.mem_append_right _ (List.mem_append_left _ (List.mem_of_getElem? (i := 225) rfl))) rfl
set_option maxRecDepth 20000 in
theorem w_226 : (Jvm.Cond.methodLink "VoiceHouse" (198 : Nat) ({ cls := "VoiceHouse", name := "isSpeaker", desc := "(I)Z" } : Jvm.MethodName)) ∈ tG := mG (List.mem_append_right _ (List.mem_append_left _ (List.mem_of_getElem? (i := 226) rfl))) rfl
set_option maxRecDepth 20000 in
theorem w_227 : (Jvm.Cond.static ({ cls := "VoiceHouse", name := "isSpeaker", desc := "(I)Z" } : Jvm.MethodName)) ∈ tG := mG (List.mem_append_right _ (List.mem_append_left _ (List.mem_of_getElem? (i := 227) rfl))) rfl
set_option maxRecDepth 20000 in
theorem w_228 : (Jvm.Cond.code ({ cls := "VoiceHouse", name := "isSpeaker", desc := "(I)Z" } : Jvm.MethodName) prog_1_method_29_code (1 : Nat) (Option.some Jvm.ClassFile.FieldType.boolean)) ∈ tG := mG (List.mem_append_right _ (List.mem_append_left _ (List.mem_of_getElem? (i := 228) rfl))) rfl
set_option maxRecDepth 20000 in
theorem w_229 : (Jvm.Cond.methodLink "VoiceHouse" (84 : Nat) ({ cls := "VoiceHouse$Archive", name := "isFull", desc := "()Z" } : Jvm.MethodName)) ∈ tG := mG (List.mem_append_right _ (List.mem_append_left _ (List.mem_of_getElem? (i := 229) rfl))) rfl
set_option maxRecDepth 20000 in
theorem w_230 : (Jvm.Cond.instanceMethod ({ cls := "VoiceHouse$Archive", name := "isFull", desc := "()Z" } : Jvm.MethodName)) ∈ tG := mG (List.mem_append_right _ (List.mem_append_left _ (List.mem_of_getElem? (i := 230) rfl))) rfl
set_option maxRecDepth 20000 in
theorem w_231 : (Jvm.Cond.selects "VoiceHouse$Archive" ({ cls := "VoiceHouse$Archive", name := "isFull", desc := "()Z" } : Jvm.MethodName) ({ cls := "VoiceHouse$Archive", name := "isFull", desc := "()Z" } : Jvm.MethodName)) ∈ tG := mG (List.mem_append_right _ (List.mem_append_left _ (List.mem_of_getElem? (i := 231) rfl))) rfl
set_option maxRecDepth 20000 in
theorem w_232 : (Jvm.Cond.code ({ cls := "VoiceHouse$Archive", name := "isFull", desc := "()Z" } : Jvm.MethodName) prog_2_method_3_code (1 : Nat) (Option.some Jvm.ClassFile.FieldType.boolean)) ∈ tG := mG (List.mem_append_right _ (List.mem_append_left _ (List.mem_of_getElem? (i := 232) rfl))) rfl
set_option maxRecDepth 20000 in
theorem w_233 : (Jvm.Cond.methodLink "VoiceHouse" (88 : Nat) ({ cls := "VoiceHouse$Archive", name := "add", desc := "(II)I" } : Jvm.MethodName)) ∈ tG := mG (List.mem_append_right _ (List.mem_append_left _ (List.mem_of_getElem? (i := 233) rfl))) rfl
set_option maxRecDepth 20000 in
theorem w_234 : (Jvm.Cond.instanceMethod ({ cls := "VoiceHouse$Archive", name := "add", desc := "(II)I" } : Jvm.MethodName)) ∈ tG := mG (List.mem_append_right _ (List.mem_append_left _ (List.mem_of_getElem? (i := 234) rfl))) rfl
set_option maxRecDepth 20000 in
theorem w_235 : (Jvm.Cond.selects "VoiceHouse$Archive" ({ cls := "VoiceHouse$Archive", name := "add", desc := "(II)I" } : Jvm.MethodName) ({ cls := "VoiceHouse$Archive", name := "add", desc := "(II)I" } : Jvm.MethodName)) ∈ tG := mG (List.mem_append_right _ (List.mem_append_left _ (List.mem_of_getElem? (i := 235) rfl))) rfl
set_option maxRecDepth 20000 in
theorem w_236 : (Jvm.Cond.code ({ cls := "VoiceHouse$Archive", name := "add", desc := "(II)I" } : Jvm.MethodName) prog_2_method_5_code (4 : Nat) (Option.some Jvm.ClassFile.FieldType.int)) ∈ tG := mG (List.mem_append_right _ (List.mem_append_left _ (List.mem_of_getElem? (i := 236) rfl))) rfl
set_option maxRecDepth 20000 in
theorem w_237 : (Jvm.Cond.methodLink "VoiceHouseLaw" (18 : Nat) ({ cls := "VoiceHouse", name := "tone", desc := "(III)Z" } : Jvm.MethodName)) ∈ tG := mG (List.mem_append_right _ (List.mem_append_left _ (List.mem_of_getElem? (i := 237) rfl))) rfl
set_option maxRecDepth 20000 in
theorem w_238 : (Jvm.Cond.instanceMethod ({ cls := "VoiceHouse", name := "tone", desc := "(III)Z" } : Jvm.MethodName)) ∈ tG := mG (List.mem_append_right _ (List.mem_append_left _ (List.mem_of_getElem? (i := 238) rfl))) rfl
set_option maxRecDepth 20000 in
theorem w_239 : (Jvm.Cond.selects "VoiceHouse" ({ cls := "VoiceHouse", name := "tone", desc := "(III)Z" } : Jvm.MethodName) ({ cls := "VoiceHouse", name := "tone", desc := "(III)Z" } : Jvm.MethodName)) ∈ tG := mG (List.mem_append_right _ (List.mem_append_left _ (List.mem_of_getElem? (i := 239) rfl))) rfl
set_option maxRecDepth 20000 in
theorem w_240 : (Jvm.Cond.code ({ cls := "VoiceHouse", name := "tone", desc := "(III)Z" } : Jvm.MethodName) prog_1_method_3_code (4 : Nat) (Option.some Jvm.ClassFile.FieldType.boolean)) ∈ tG := mG (List.mem_append_right _ (List.mem_append_right _ (List.mem_append_left _ (List.mem_of_getElem? (i := 0) rfl)))) rfl
set_option maxRecDepth 20000 in
theorem w_241 : (Jvm.Cond.methodLink "VoiceHouse" (92 : Nat) ({ cls := "VoiceHouse$Archive", name := "has", desc := "(I)Z" } : Jvm.MethodName)) ∈ tG := mG (List.mem_append_right _ (List.mem_append_right _ (List.mem_append_left _ (List.mem_of_getElem? (i := 1) rfl)))) rfl
set_option maxRecDepth 20000 in
theorem w_242 : (Jvm.Cond.instanceMethod ({ cls := "VoiceHouse$Archive", name := "has", desc := "(I)Z" } : Jvm.MethodName)) ∈ tG := mG (List.mem_append_right _ (List.mem_append_right _ (List.mem_append_left _ (List.mem_of_getElem? (i := 2) rfl)))) rfl
set_option maxRecDepth 20000 in
theorem w_243 : (Jvm.Cond.selects "VoiceHouse$Archive" ({ cls := "VoiceHouse$Archive", name := "has", desc := "(I)Z" } : Jvm.MethodName) ({ cls := "VoiceHouse$Archive", name := "has", desc := "(I)Z" } : Jvm.MethodName)) ∈ tG := mG (List.mem_append_right _ (List.mem_append_right _ (List.mem_append_left _ (List.mem_of_getElem? (i := 3) rfl)))) rfl
set_option maxRecDepth 20000 in
theorem w_244 : (Jvm.Cond.code ({ cls := "VoiceHouse$Archive", name := "has", desc := "(I)Z" } : Jvm.MethodName) prog_2_method_4_code (2 : Nat) (Option.some Jvm.ClassFile.FieldType.boolean)) ∈ tG := mG (List.mem_append_right _ (List.mem_append_right _ (List.mem_append_left _ (List.mem_of_getElem? (i := 4) rfl)))) rfl
set_option maxRecDepth 20000 in
theorem w_245 : (Jvm.Cond.methodLink "VoiceHouse" (95 : Nat) ({ cls := "VoiceHouse", name := "isPlace", desc := "(I)Z" } : Jvm.MethodName)) ∈ tG := mG (List.mem_append_right _ (List.mem_append_right _ (List.mem_append_left _ (List.mem_of_getElem? (i := 5) rfl)))) rfl
set_option maxRecDepth 20000 in
theorem w_246 : (Jvm.Cond.static ({ cls := "VoiceHouse", name := "isPlace", desc := "(I)Z" } : Jvm.MethodName)) ∈ tG := mG (List.mem_append_right _ (List.mem_append_right _ (List.mem_append_left _ (List.mem_of_getElem? (i := 6) rfl)))) rfl
set_option maxRecDepth 20000 in
theorem w_247 : (Jvm.Cond.code ({ cls := "VoiceHouse", name := "isPlace", desc := "(I)Z" } : Jvm.MethodName) prog_1_method_28_code (1 : Nat) (Option.some Jvm.ClassFile.FieldType.boolean)) ∈ tG := mG (List.mem_append_right _ (List.mem_append_right _ (List.mem_append_left _ (List.mem_of_getElem? (i := 7) rfl)))) rfl
set_option maxRecDepth 20000 in
theorem w_248 : (Jvm.Cond.methodLink "VoiceHouse" (98 : Nat) ({ cls := "VoiceHouse$Archive", name := "putTone", desc := "(III)V" } : Jvm.MethodName)) ∈ tG := mG (List.mem_append_right _ (List.mem_append_right _ (List.mem_append_left _ (List.mem_of_getElem? (i := 8) rfl)))) rfl
set_option maxRecDepth 20000 in
theorem w_249 : (Jvm.Cond.instanceMethod ({ cls := "VoiceHouse$Archive", name := "putTone", desc := "(III)V" } : Jvm.MethodName)) ∈ tG := mG (List.mem_append_right _ (List.mem_append_right _ (List.mem_append_left _ (List.mem_of_getElem? (i := 9) rfl)))) rfl
set_option maxRecDepth 20000 in
theorem w_250 : (Jvm.Cond.selects "VoiceHouse$Archive" ({ cls := "VoiceHouse$Archive", name := "putTone", desc := "(III)V" } : Jvm.MethodName) ({ cls := "VoiceHouse$Archive", name := "putTone", desc := "(III)V" } : Jvm.MethodName)) ∈ tG := mG (List.mem_append_right _ (List.mem_append_right _ (List.mem_append_left _ (List.mem_of_getElem? (i := 10) rfl)))) rfl
set_option maxRecDepth 20000 in
theorem w_251 : (Jvm.Cond.code ({ cls := "VoiceHouse$Archive", name := "putTone", desc := "(III)V" } : Jvm.MethodName) prog_2_method_6_code (4 : Nat) (Option.none : Option Jvm.ClassFile.FieldType)) ∈ tG := mG (List.mem_append_right _ (List.mem_append_right _ (List.mem_append_left _ (List.mem_of_getElem? (i := 11) rfl)))) rfl
set_option maxRecDepth 20000 in
theorem w_252 : (Jvm.Cond.methodLink "VoiceHouse" (102 : Nat) ({ cls := "VoiceHouse$Shifts", name := "measure", desc := "(I)V" } : Jvm.MethodName)) ∈ tG := mG (List.mem_append_right _ (List.mem_append_right _ (List.mem_append_left _ (List.mem_of_getElem? (i := 12) rfl)))) rfl
set_option maxRecDepth 20000 in
theorem w_253 : (Jvm.Cond.instanceMethod ({ cls := "VoiceHouse$Shifts", name := "measure", desc := "(I)V" } : Jvm.MethodName)) ∈ tG := mG (List.mem_append_right _ (List.mem_append_right _ (List.mem_append_left _ (List.mem_of_getElem? (i := 13) rfl)))) rfl
set_option maxRecDepth 20000 in
theorem w_254 : (Jvm.Cond.selects "VoiceHouse$Shifts" ({ cls := "VoiceHouse$Shifts", name := "measure", desc := "(I)V" } : Jvm.MethodName) ({ cls := "VoiceHouse$Shifts", name := "measure", desc := "(I)V" } : Jvm.MethodName)) ∈ tG := mG (List.mem_append_right _ (List.mem_append_right _ (List.mem_append_left _ (List.mem_of_getElem? (i := 14) rfl)))) rfl
set_option maxRecDepth 20000 in
theorem w_255 : (Jvm.Cond.code ({ cls := "VoiceHouse$Shifts", name := "measure", desc := "(I)V" } : Jvm.MethodName) prog_8_method_3_code (4 : Nat) (Option.none : Option Jvm.ClassFile.FieldType)) ∈ tG := mG (List.mem_append_right _ (List.mem_append_right _ (List.mem_append_left _ (List.mem_of_getElem? (i := 15) rfl)))) rfl
set_option maxRecDepth 20000 in
theorem w_256 : (Jvm.Cond.methodLink "VoiceHouse$Shifts" (29 : Nat) ({ cls := "VoiceHouse$Archive", name := "size", desc := "()I" } : Jvm.MethodName)) ∈ tG := mG (List.mem_append_right _ (List.mem_append_right _ (List.mem_append_left _ (List.mem_of_getElem? (i := 16) rfl)))) rfl
set_option maxRecDepth 20000 in
theorem w_257 : (Jvm.Cond.instanceMethod ({ cls := "VoiceHouse$Archive", name := "size", desc := "()I" } : Jvm.MethodName)) ∈ tG := mG (List.mem_append_right _ (List.mem_append_right _ (List.mem_append_left _ (List.mem_of_getElem? (i := 17) rfl)))) rfl
set_option maxRecDepth 20000 in
theorem w_258 : (Jvm.Cond.selects "VoiceHouse$Archive" ({ cls := "VoiceHouse$Archive", name := "size", desc := "()I" } : Jvm.MethodName) ({ cls := "VoiceHouse$Archive", name := "size", desc := "()I" } : Jvm.MethodName)) ∈ tG := mG (List.mem_append_right _ (List.mem_append_right _ (List.mem_append_left _ (List.mem_of_getElem? (i := 18) rfl)))) rfl
set_option maxRecDepth 20000 in
theorem w_259 : (Jvm.Cond.code ({ cls := "VoiceHouse$Archive", name := "size", desc := "()I" } : Jvm.MethodName) prog_2_method_2_code (1 : Nat) (Option.some Jvm.ClassFile.FieldType.int)) ∈ tG := mG (List.mem_append_right _ (List.mem_append_right _ (List.mem_append_left _ (List.mem_of_getElem? (i := 19) rfl)))) rfl
set_option maxRecDepth 20000 in
theorem w_260 : (Jvm.Cond.methodLink "VoiceHouse$Shifts" (35 : Nat) ({ cls := "VoiceHouse$Archive", name := "channelOf", desc := "(I)I" } : Jvm.MethodName)) ∈ tG := mG (List.mem_append_right _ (List.mem_append_right _ (List.mem_append_left _ (List.mem_of_getElem? (i := 20) rfl)))) rfl
set_option maxRecDepth 20000 in
theorem w_261 : (Jvm.Cond.instanceMethod ({ cls := "VoiceHouse$Archive", name := "channelOf", desc := "(I)I" } : Jvm.MethodName)) ∈ tG := mG (List.mem_append_right _ (List.mem_append_right _ (List.mem_append_left _ (List.mem_of_getElem? (i := 21) rfl)))) rfl
set_option maxRecDepth 20000 in
theorem w_262 : (Jvm.Cond.selects "VoiceHouse$Archive" ({ cls := "VoiceHouse$Archive", name := "channelOf", desc := "(I)I" } : Jvm.MethodName) ({ cls := "VoiceHouse$Archive", name := "channelOf", desc := "(I)I" } : Jvm.MethodName)) ∈ tG := mG (List.mem_append_right _ (List.mem_append_right _ (List.mem_append_left _ (List.mem_of_getElem? (i := 22) rfl)))) rfl
set_option maxRecDepth 20000 in
theorem w_263 : (Jvm.Cond.code ({ cls := "VoiceHouse$Archive", name := "channelOf", desc := "(I)I" } : Jvm.MethodName) prog_2_method_8_code (2 : Nat) (Option.some Jvm.ClassFile.FieldType.int)) ∈ tG := mG (List.mem_append_right _ (List.mem_append_right _ (List.mem_append_left _ (List.mem_of_getElem? (i := 23) rfl)))) rfl
set_option maxRecDepth 20000 in
theorem w_264 : (Jvm.Cond.methodLink "VoiceHouse$Shifts" (39 : Nat) ({ cls := "VoiceHouse$Archive", name := "isKnown", desc := "(I)Z" } : Jvm.MethodName)) ∈ tG := mG (List.mem_append_right _ (List.mem_append_right _ (List.mem_append_left _ (List.mem_of_getElem? (i := 24) rfl)))) rfl
set_option maxRecDepth 20000 in
theorem w_265 : (Jvm.Cond.instanceMethod ({ cls := "VoiceHouse$Archive", name := "isKnown", desc := "(I)Z" } : Jvm.MethodName)) ∈ tG := mG (List.mem_append_right _ (List.mem_append_right _ (List.mem_append_left _ (List.mem_of_getElem? (i := 25) rfl)))) rfl
set_option maxRecDepth 20000 in
theorem w_266 : (Jvm.Cond.selects "VoiceHouse$Archive" ({ cls := "VoiceHouse$Archive", name := "isKnown", desc := "(I)Z" } : Jvm.MethodName) ({ cls := "VoiceHouse$Archive", name := "isKnown", desc := "(I)Z" } : Jvm.MethodName)) ∈ tG := mG (List.mem_append_right _ (List.mem_append_right _ (List.mem_append_left _ (List.mem_of_getElem? (i := 26) rfl)))) rfl
set_option maxRecDepth 20000 in
theorem w_267 : (Jvm.Cond.code ({ cls := "VoiceHouse$Archive", name := "isKnown", desc := "(I)Z" } : Jvm.MethodName) prog_2_method_10_code (2 : Nat) (Option.some Jvm.ClassFile.FieldType.boolean)) ∈ tG := mG (List.mem_append_right _ (List.mem_append_right _ (List.mem_append_left _ (List.mem_of_getElem? (i := 27) rfl)))) rfl
set_option maxRecDepth 20000 in
theorem w_268 : (Jvm.Cond.methodLink "VoiceHouse$Shifts" (43 : Nat) ({ cls := "VoiceHouse$Archive", name := "toneAt", desc := "(II)I" } : Jvm.MethodName)) ∈ tG := mG (List.mem_append_right _ (List.mem_append_right _ (List.mem_append_left _ (List.mem_of_getElem? (i := 28) rfl)))) rfl
set_option maxRecDepth 20000 in
theorem w_269 : (Jvm.Cond.instanceMethod ({ cls := "VoiceHouse$Archive", name := "toneAt", desc := "(II)I" } : Jvm.MethodName)) ∈ tG := mG (List.mem_append_right _ (List.mem_append_right _ (List.mem_append_left _ (List.mem_of_getElem? (i := 29) rfl)))) rfl
set_option maxRecDepth 20000 in
theorem w_270 : (Jvm.Cond.selects "VoiceHouse$Archive" ({ cls := "VoiceHouse$Archive", name := "toneAt", desc := "(II)I" } : Jvm.MethodName) ({ cls := "VoiceHouse$Archive", name := "toneAt", desc := "(II)I" } : Jvm.MethodName)) ∈ tG := mG (List.mem_append_right _ (List.mem_append_right _ (List.mem_append_left _ (List.mem_of_getElem? (i := 30) rfl)))) rfl
set_option maxRecDepth 20000 in
theorem w_271 : (Jvm.Cond.code ({ cls := "VoiceHouse$Archive", name := "toneAt", desc := "(II)I" } : Jvm.MethodName) prog_2_method_12_code (3 : Nat) (Option.some Jvm.ClassFile.FieldType.int)) ∈ tG := mG (List.mem_append_right _ (List.mem_append_right _ (List.mem_append_left _ (List.mem_of_getElem? (i := 31) rfl)))) rfl
set_option maxRecDepth 20000 in
theorem w_272 : (Jvm.Cond.methodLink "VoiceHouse$Shifts" (47 : Nat) ({ cls := "VoiceHouse$Shifts", name := "addPairsOf", desc := "(II)V" } : Jvm.MethodName)) ∈ tG := mG (List.mem_append_right _ (List.mem_append_right _ (List.mem_append_left _ (List.mem_of_getElem? (i := 32) rfl)))) rfl
set_option maxRecDepth 20000 in
theorem w_274 : (Jvm.Cond.instanceMethod ({ cls := "VoiceHouse$Shifts", name := "addPairsOf", desc := "(II)V" } : Jvm.MethodName)) ∈ tG := mG (List.mem_append_right _ (List.mem_append_right _ (List.mem_append_left _ (List.mem_of_getElem? (i := 34) rfl)))) rfl
set_option maxRecDepth 20000 in
theorem w_275 : (Jvm.Cond.code ({ cls := "VoiceHouse$Shifts", name := "addPairsOf", desc := "(II)V" } : Jvm.MethodName) prog_8_method_4_code (6 : Nat) (Option.none : Option Jvm.ClassFile.FieldType)) ∈ tG := mG (List.mem_append_right _ (List.mem_append_right _ (List.mem_append_left _ (List.mem_of_getElem? (i := 35) rfl)))) rfl
set_option maxRecDepth 20000 in
theorem w_276 : (Jvm.Cond.methodLink "VoiceHouse$Shifts" (56 : Nat) ({ cls := "VoiceHouse$Archive", name := "speakerOf", desc := "(I)I" } : Jvm.MethodName)) ∈ tG := mG (List.mem_append_right _ (List.mem_append_right _ (List.mem_append_left _ (List.mem_of_getElem? (i := 36) rfl)))) rfl
set_option maxRecDepth 20000 in
theorem w_277 : (Jvm.Cond.instanceMethod ({ cls := "VoiceHouse$Archive", name := "speakerOf", desc := "(I)I" } : Jvm.MethodName)) ∈ tG := mG (List.mem_append_right _ (List.mem_append_right _ (List.mem_append_left _ (List.mem_of_getElem? (i := 37) rfl)))) rfl
set_option maxRecDepth 20000 in
theorem w_278 : (Jvm.Cond.selects "VoiceHouse$Archive" ({ cls := "VoiceHouse$Archive", name := "speakerOf", desc := "(I)I" } : Jvm.MethodName) ({ cls := "VoiceHouse$Archive", name := "speakerOf", desc := "(I)I" } : Jvm.MethodName)) ∈ tG := mG (List.mem_append_right _ (List.mem_append_right _ (List.mem_append_left _ (List.mem_of_getElem? (i := 38) rfl)))) rfl
set_option maxRecDepth 20000 in
theorem w_279 : (Jvm.Cond.code ({ cls := "VoiceHouse$Archive", name := "speakerOf", desc := "(I)I" } : Jvm.MethodName) prog_2_method_9_code (2 : Nat) (Option.some Jvm.ClassFile.FieldType.int)) ∈ tG := mG (List.mem_append_right _ (List.mem_append_right _ (List.mem_append_left _ (List.mem_of_getElem? (i := 39) rfl)))) rfl
set_option maxRecDepth 20000 in
theorem w_280 : (Jvm.Cond.methodLink "VoiceHouse$Shifts" (51 : Nat) ({ cls := "java/lang/Math", name := "floorDiv", desc := "(II)I" } : Jvm.MethodName)) ∈ tG := mG (List.mem_append_right _ (List.mem_append_right _ (List.mem_append_left _ (List.mem_of_getElem? (i := 40) rfl)))) rfl
set_option maxRecDepth 20000 in
theorem w_281 : (Jvm.Cond.static ({ cls := "java/lang/Math", name := "floorDiv", desc := "(II)I" } : Jvm.MethodName)) ∈ tG := mG (List.mem_append_right _ (List.mem_append_right _ (List.mem_append_left _ (List.mem_of_getElem? (i := 41) rfl)))) rfl
set_option maxRecDepth 20000 in
theorem w_282 : (Jvm.Cond.code ({ cls := "java/lang/Math", name := "floorDiv", desc := "(II)I" } : Jvm.MethodName) prog_12_method_47_code (3 : Nat) (Option.some Jvm.ClassFile.FieldType.int)) ∈ tG := mG (List.mem_append_right _ (List.mem_append_right _ (List.mem_append_left _ (List.mem_of_getElem? (i := 42) rfl)))) rfl
set_option maxRecDepth 20000 in
theorem w_283 : (Jvm.Cond.methodLink "VoiceHouseLaw" (23 : Nat) ({ cls := "VoiceHouse", name := "know", desc := "(II)Z" } : Jvm.MethodName)) ∈ tG := mG (List.mem_append_right _ (List.mem_append_right _ (List.mem_append_left _ (List.mem_of_getElem? (i := 43) rfl)))) rfl
set_option maxRecDepth 20000 in
theorem w_284 : (Jvm.Cond.instanceMethod ({ cls := "VoiceHouse", name := "know", desc := "(II)Z" } : Jvm.MethodName)) ∈ tG := mG (List.mem_append_right _ (List.mem_append_right _ (List.mem_append_left _ (List.mem_of_getElem? (i := 44) rfl)))) rfl
set_option maxRecDepth 20000 in
theorem w_285 : (Jvm.Cond.selects "VoiceHouse" ({ cls := "VoiceHouse", name := "know", desc := "(II)Z" } : Jvm.MethodName) ({ cls := "VoiceHouse", name := "know", desc := "(II)Z" } : Jvm.MethodName)) ∈ tG := mG (List.mem_append_right _ (List.mem_append_right _ (List.mem_append_left _ (List.mem_of_getElem? (i := 45) rfl)))) rfl
set_option maxRecDepth 20000 in
theorem w_286 : (Jvm.Cond.code ({ cls := "VoiceHouse", name := "know", desc := "(II)Z" } : Jvm.MethodName) prog_1_method_4_code (3 : Nat) (Option.some Jvm.ClassFile.FieldType.boolean)) ∈ tG := mG (List.mem_append_right _ (List.mem_append_right _ (List.mem_append_left _ (List.mem_of_getElem? (i := 46) rfl)))) rfl
set_option maxRecDepth 20000 in
theorem w_287 : (Jvm.Cond.methodLink "VoiceHouse" (106 : Nat) ({ cls := "VoiceHouse$Archive", name := "putSpeaker", desc := "(II)V" } : Jvm.MethodName)) ∈ tG := mG (List.mem_append_right _ (List.mem_append_right _ (List.mem_append_left _ (List.mem_of_getElem? (i := 47) rfl)))) rfl
set_option maxRecDepth 20000 in
theorem w_288 : (Jvm.Cond.instanceMethod ({ cls := "VoiceHouse$Archive", name := "putSpeaker", desc := "(II)V" } : Jvm.MethodName)) ∈ tG := mG (List.mem_append_right _ (List.mem_append_right _ (List.mem_append_left _ (List.mem_of_getElem? (i := 48) rfl)))) rfl
set_option maxRecDepth 20000 in
theorem w_289 : (Jvm.Cond.selects "VoiceHouse$Archive" ({ cls := "VoiceHouse$Archive", name := "putSpeaker", desc := "(II)V" } : Jvm.MethodName) ({ cls := "VoiceHouse$Archive", name := "putSpeaker", desc := "(II)V" } : Jvm.MethodName)) ∈ tG := mG (List.mem_append_right _ (List.mem_append_right _ (List.mem_append_left _ (List.mem_of_getElem? (i := 49) rfl)))) rfl
set_option maxRecDepth 20000 in
theorem w_290 : (Jvm.Cond.code ({ cls := "VoiceHouse$Archive", name := "putSpeaker", desc := "(II)V" } : Jvm.MethodName) prog_2_method_7_code (3 : Nat) (Option.none : Option Jvm.ClassFile.FieldType)) ∈ tG := mG (List.mem_append_right _ (List.mem_append_right _ (List.mem_append_left _ (List.mem_of_getElem? (i := 50) rfl)))) rfl
set_option maxRecDepth 20000 in
theorem w_291 : (Jvm.Cond.methodLink "VoiceHouse" (110 : Nat) ({ cls := "VoiceHouse$Shifts", name := "measureAll", desc := "()V" } : Jvm.MethodName)) ∈ tG := mG (List.mem_append_right _ (List.mem_append_right _ (List.mem_append_left _ (List.mem_of_getElem? (i := 51) rfl)))) rfl
set_option maxRecDepth 20000 in
theorem w_292 : (Jvm.Cond.instanceMethod ({ cls := "VoiceHouse$Shifts", name := "measureAll", desc := "()V" } : Jvm.MethodName)) ∈ tG := mG (List.mem_append_right _ (List.mem_append_right _ (List.mem_append_left _ (List.mem_of_getElem? (i := 52) rfl)))) rfl
set_option maxRecDepth 20000 in
theorem w_293 : (Jvm.Cond.selects "VoiceHouse$Shifts" ({ cls := "VoiceHouse$Shifts", name := "measureAll", desc := "()V" } : Jvm.MethodName) ({ cls := "VoiceHouse$Shifts", name := "measureAll", desc := "()V" } : Jvm.MethodName)) ∈ tG := mG (List.mem_append_right _ (List.mem_append_right _ (List.mem_append_left _ (List.mem_of_getElem? (i := 53) rfl)))) rfl
set_option maxRecDepth 20000 in
theorem w_294 : (Jvm.Cond.code ({ cls := "VoiceHouse$Shifts", name := "measureAll", desc := "()V" } : Jvm.MethodName) prog_8_method_2_code (2 : Nat) (Option.none : Option Jvm.ClassFile.FieldType)) ∈ tG := mG (List.mem_append_right _ (List.mem_append_right _ (List.mem_append_left _ (List.mem_of_getElem? (i := 54) rfl)))) rfl
set_option maxRecDepth 20000 in
theorem w_295 : (Jvm.Cond.methodLink "VoiceHouse$Shifts" (25 : Nat) ({ cls := "VoiceHouse$Shifts", name := "measure", desc := "(I)V" } : Jvm.MethodName)) ∈ tG := mG (List.mem_append_right _ (List.mem_append_right _ (List.mem_append_left _ (List.mem_of_getElem? (i := 55) rfl)))) rfl
set_option maxRecDepth 20000 in
theorem w_296 : (Jvm.Cond.methodLink "VoiceHouseLaw" (28 : Nat) ({ cls := "VoiceHouse", name := "set", desc := "(I)Z" } : Jvm.MethodName)) ∈ tG := mG (List.mem_append_right _ (List.mem_append_right _ (List.mem_append_left _ (List.mem_of_getElem? (i := 56) rfl)))) rfl
set_option maxRecDepth 20000 in
theorem w_297 : (Jvm.Cond.instanceMethod ({ cls := "VoiceHouse", name := "set", desc := "(I)Z" } : Jvm.MethodName)) ∈ tG := mG (List.mem_append_right _ (List.mem_append_right _ (List.mem_append_left _ (List.mem_of_getElem? (i := 57) rfl)))) rfl
set_option maxRecDepth 20000 in
theorem w_298 : (Jvm.Cond.selects "VoiceHouse" ({ cls := "VoiceHouse", name := "set", desc := "(I)Z" } : Jvm.MethodName) ({ cls := "VoiceHouse", name := "set", desc := "(I)Z" } : Jvm.MethodName)) ∈ tG := mG (List.mem_append_right _ (List.mem_append_right _ (List.mem_append_left _ (List.mem_of_getElem? (i := 58) rfl)))) rfl
set_option maxRecDepth 20000 in
theorem w_299 : (Jvm.Cond.code ({ cls := "VoiceHouse", name := "set", desc := "(I)Z" } : Jvm.MethodName) prog_1_method_5_code (2 : Nat) (Option.some Jvm.ClassFile.FieldType.boolean)) ∈ tG := mG (List.mem_append_right _ (List.mem_append_right _ (List.mem_append_left _ (List.mem_of_getElem? (i := 59) rfl)))) rfl
set_option maxRecDepth 20000 in
theorem w_300 : (Jvm.Cond.methodLink "VoiceHouseLaw" (33 : Nat) ({ cls := "VoiceHouse", name := "limit", desc := "(I)Z" } : Jvm.MethodName)) ∈ tG := mG (List.mem_append_right _ (List.mem_append_right _ (List.mem_append_left _ (List.mem_of_getElem? (i := 60) rfl)))) rfl
set_option maxRecDepth 20000 in
theorem w_301 : (Jvm.Cond.instanceMethod ({ cls := "VoiceHouse", name := "limit", desc := "(I)Z" } : Jvm.MethodName)) ∈ tG := mG (List.mem_append_right _ (List.mem_append_right _ (List.mem_append_left _ (List.mem_of_getElem? (i := 61) rfl)))) rfl
set_option maxRecDepth 20000 in
theorem w_302 : (Jvm.Cond.selects "VoiceHouse" ({ cls := "VoiceHouse", name := "limit", desc := "(I)Z" } : Jvm.MethodName) ({ cls := "VoiceHouse", name := "limit", desc := "(I)Z" } : Jvm.MethodName)) ∈ tG := mG (List.mem_append_right _ (List.mem_append_right _ (List.mem_append_left _ (List.mem_of_getElem? (i := 62) rfl)))) rfl
set_option maxRecDepth 20000 in
theorem w_303 : (Jvm.Cond.code ({ cls := "VoiceHouse", name := "limit", desc := "(I)Z" } : Jvm.MethodName) prog_1_method_6_code (2 : Nat) (Option.some Jvm.ClassFile.FieldType.boolean)) ∈ tG := mG (List.mem_append_right _ (List.mem_append_right _ (List.mem_append_left _ (List.mem_of_getElem? (i := 63) rfl)))) rfl
set_option maxRecDepth 20000 in
theorem w_304 : (Jvm.Cond.methodLink "VoiceHouseLaw" (37 : Nat) ({ cls := "VoiceHouse", name := "shift", desc := "(II)I" } : Jvm.MethodName)) ∈ tG := mG (List.mem_append_right _ (List.mem_append_right _ (List.mem_append_left _ (List.mem_of_getElem? (i := 64) rfl)))) rfl
set_option maxRecDepth 20000 in
theorem w_305 : (Jvm.Cond.instanceMethod ({ cls := "VoiceHouse", name := "shift", desc := "(II)I" } : Jvm.MethodName)) ∈ tG := mG (List.mem_append_right _ (List.mem_append_right _ (List.mem_append_left _ (List.mem_of_getElem? (i := 65) rfl)))) rfl
set_option maxRecDepth 20000 in
theorem w_306 : (Jvm.Cond.selects "VoiceHouse" ({ cls := "VoiceHouse", name := "shift", desc := "(II)I" } : Jvm.MethodName) ({ cls := "VoiceHouse", name := "shift", desc := "(II)I" } : Jvm.MethodName)) ∈ tG := mG (List.mem_append_right _ (List.mem_append_right _ (List.mem_append_left _ (List.mem_of_getElem? (i := 66) rfl)))) rfl
set_option maxRecDepth 20000 in
theorem w_307 : (Jvm.Cond.code ({ cls := "VoiceHouse", name := "shift", desc := "(II)I" } : Jvm.MethodName) prog_1_method_7_code (3 : Nat) (Option.some Jvm.ClassFile.FieldType.int)) ∈ tG := mG (List.mem_append_right _ (List.mem_append_right _ (List.mem_append_left _ (List.mem_of_getElem? (i := 67) rfl)))) rfl
set_option maxRecDepth 20000 in
theorem w_308 : (Jvm.Cond.constant "VoiceHouse" (113 : Nat) (-2147483648 : Int32)) ∈ tG := mG (List.mem_append_right _ (List.mem_append_right _ (List.mem_append_left _ (List.mem_of_getElem? (i := 68) rfl)))) rfl
set_option maxRecDepth 20000 in
theorem w_309 : (Jvm.Cond.methodLink "VoiceHouse" (114 : Nat) ({ cls := "VoiceHouse$Shifts", name := "at", desc := "(II)I" } : Jvm.MethodName)) ∈ tG := mG (List.mem_append_right _ (List.mem_append_right _ (List.mem_append_left _ (List.mem_of_getElem? (i := 69) rfl)))) rfl
set_option maxRecDepth 20000 in
theorem w_310 : (Jvm.Cond.instanceMethod ({ cls := "VoiceHouse$Shifts", name := "at", desc := "(II)I" } : Jvm.MethodName)) ∈ tG := mG (List.mem_append_right _ (List.mem_append_right _ (List.mem_append_left _ (List.mem_of_getElem? (i := 70) rfl)))) rfl
set_option maxRecDepth 20000 in
theorem w_311 : (Jvm.Cond.selects "VoiceHouse$Shifts" ({ cls := "VoiceHouse$Shifts", name := "at", desc := "(II)I" } : Jvm.MethodName) ({ cls := "VoiceHouse$Shifts", name := "at", desc := "(II)I" } : Jvm.MethodName)) ∈ tG := mG (List.mem_append_right _ (List.mem_append_right _ (List.mem_append_left _ (List.mem_of_getElem? (i := 71) rfl)))) rfl
set_option maxRecDepth 20000 in
theorem w_312 : (Jvm.Cond.code ({ cls := "VoiceHouse$Shifts", name := "at", desc := "(II)I" } : Jvm.MethodName) prog_8_method_5_code (3 : Nat) (Option.some Jvm.ClassFile.FieldType.int)) ∈ tG := mG (List.mem_append_right _ (List.mem_append_right _ (List.mem_append_left _ (List.mem_of_getElem? (i := 72) rfl)))) rfl
set_option maxRecDepth 20000 in
theorem w_313 : (Jvm.Cond.methodLink "VoiceHouseLaw" (41 : Nat) ({ cls := "VoiceHouse", name := "hidden", desc := "(II)Z" } : Jvm.MethodName)) ∈ tG := mG (List.mem_append_right _ (List.mem_append_right _ (List.mem_append_left _ (List.mem_of_getElem? (i := 73) rfl)))) rfl
set_option maxRecDepth 20000 in
theorem w_314 : (Jvm.Cond.instanceMethod ({ cls := "VoiceHouse", name := "hidden", desc := "(II)Z" } : Jvm.MethodName)) ∈ tG := mG (List.mem_append_right _ (List.mem_append_right _ (List.mem_append_left _ (List.mem_of_getElem? (i := 74) rfl)))) rfl
set_option maxRecDepth 20000 in
theorem w_315 : (Jvm.Cond.selects "VoiceHouse" ({ cls := "VoiceHouse", name := "hidden", desc := "(II)Z" } : Jvm.MethodName) ({ cls := "VoiceHouse", name := "hidden", desc := "(II)Z" } : Jvm.MethodName)) ∈ tG := mG (List.mem_append_right _ (List.mem_append_right _ (List.mem_append_left _ (List.mem_of_getElem? (i := 75) rfl)))) rfl
set_option maxRecDepth 20000 in
theorem w_316 : (Jvm.Cond.code ({ cls := "VoiceHouse", name := "hidden", desc := "(II)Z" } : Jvm.MethodName) prog_1_method_8_code (3 : Nat) (Option.some Jvm.ClassFile.FieldType.boolean)) ∈ tG := mG (List.mem_append_right _ (List.mem_append_right _ (List.mem_append_left _ (List.mem_of_getElem? (i := 76) rfl)))) rfl
set_option maxRecDepth 20000 in
theorem w_317 : (Jvm.Cond.methodLink "VoiceHouse" (117 : Nat) ({ cls := "VoiceHouse$Shifts", name := "isUnheard", desc := "(II)Z" } : Jvm.MethodName)) ∈ tG := mG (List.mem_append_right _ (List.mem_append_right _ (List.mem_append_left _ (List.mem_of_getElem? (i := 77) rfl)))) rfl
set_option maxRecDepth 20000 in
theorem w_318 : (Jvm.Cond.instanceMethod ({ cls := "VoiceHouse$Shifts", name := "isUnheard", desc := "(II)Z" } : Jvm.MethodName)) ∈ tG := mG (List.mem_append_right _ (List.mem_append_right _ (List.mem_append_left _ (List.mem_of_getElem? (i := 78) rfl)))) rfl
set_option maxRecDepth 20000 in
theorem w_319 : (Jvm.Cond.selects "VoiceHouse$Shifts" ({ cls := "VoiceHouse$Shifts", name := "isUnheard", desc := "(II)Z" } : Jvm.MethodName) ({ cls := "VoiceHouse$Shifts", name := "isUnheard", desc := "(II)Z" } : Jvm.MethodName)) ∈ tG := mG (List.mem_append_right _ (List.mem_append_right _ (List.mem_append_left _ (List.mem_of_getElem? (i := 79) rfl)))) rfl
set_option maxRecDepth 20000 in
theorem w_320 : (Jvm.Cond.code ({ cls := "VoiceHouse$Shifts", name := "isUnheard", desc := "(II)Z" } : Jvm.MethodName) prog_8_method_6_code (3 : Nat) (Option.some Jvm.ClassFile.FieldType.boolean)) ∈ tG := mG (List.mem_append_right _ (List.mem_append_right _ (List.mem_append_left _ (List.mem_of_getElem? (i := 80) rfl)))) rfl
set_option maxRecDepth 20000 in
theorem w_321 : (Jvm.Cond.methodLink "VoiceHouseLaw" (45 : Nat) ({ cls := "VoiceHouse", name := "score", desc := "(II)I" } : Jvm.MethodName)) ∈ tG := mG (List.mem_append_right _ (List.mem_append_right _ (List.mem_append_left _ (List.mem_of_getElem? (i := 81) rfl)))) rfl
set_option maxRecDepth 20000 in
theorem w_322 : (Jvm.Cond.instanceMethod ({ cls := "VoiceHouse", name := "score", desc := "(II)I" } : Jvm.MethodName)) ∈ tG := mG (List.mem_append_right _ (List.mem_append_right _ (List.mem_append_left _ (List.mem_of_getElem? (i := 82) rfl)))) rfl
set_option maxRecDepth 20000 in
theorem w_323 : (Jvm.Cond.selects "VoiceHouse" ({ cls := "VoiceHouse", name := "score", desc := "(II)I" } : Jvm.MethodName) ({ cls := "VoiceHouse", name := "score", desc := "(II)I" } : Jvm.MethodName)) ∈ tG := mG (List.mem_append_right _ (List.mem_append_right _ (List.mem_append_left _ (List.mem_of_getElem? (i := 83) rfl)))) rfl
set_option maxRecDepth 20000 in
theorem w_324 : (Jvm.Cond.code ({ cls := "VoiceHouse", name := "score", desc := "(II)I" } : Jvm.MethodName) prog_1_method_9_code (3 : Nat) (Option.some Jvm.ClassFile.FieldType.int)) ∈ tG := mG (List.mem_append_right _ (List.mem_append_right _ (List.mem_append_left _ (List.mem_of_getElem? (i := 84) rfl)))) rfl
set_option maxRecDepth 20000 in
theorem w_325 : (Jvm.Cond.methodLink "VoiceHouse" (121 : Nat) ({ cls := "VoiceHouse", name := "areTwo", desc := "(II)Z" } : Jvm.MethodName)) ∈ tG := mG (List.mem_append_right _ (List.mem_append_right _ (List.mem_append_left _ (List.mem_of_getElem? (i := 85) rfl)))) rfl
set_option maxRecDepth 20000 in
theorem w_327 : (Jvm.Cond.instanceMethod ({ cls := "VoiceHouse", name := "areTwo", desc := "(II)Z" } : Jvm.MethodName)) ∈ tG := mG (List.mem_append_right _ (List.mem_append_right _ (List.mem_append_left _ (List.mem_of_getElem? (i := 87) rfl)))) rfl
set_option maxRecDepth 20000 in
theorem w_328 : (Jvm.Cond.code ({ cls := "VoiceHouse", name := "areTwo", desc := "(II)Z" } : Jvm.MethodName) prog_1_method_26_code (3 : Nat) (Option.some Jvm.ClassFile.FieldType.boolean)) ∈ tG := mG (List.mem_append_right _ (List.mem_append_right _ (List.mem_append_left _ (List.mem_of_getElem? (i := 88) rfl)))) rfl
set_option maxRecDepth 20000 in
theorem w_329 : (Jvm.Cond.methodLink "VoiceHouse" (124 : Nat) ({ cls := "VoiceHouse$Scores", name := "between", desc := "(II)I" } : Jvm.MethodName)) ∈ tG := mG (List.mem_append_right _ (List.mem_append_right _ (List.mem_append_left _ (List.mem_of_getElem? (i := 89) rfl)))) rfl
set_option maxRecDepth 20000 in
theorem w_330 : (Jvm.Cond.instanceMethod ({ cls := "VoiceHouse$Scores", name := "between", desc := "(II)I" } : Jvm.MethodName)) ∈ tG := mG (List.mem_append_right _ (List.mem_append_right _ (List.mem_append_left _ (List.mem_of_getElem? (i := 90) rfl)))) rfl
set_option maxRecDepth 20000 in
theorem w_331 : (Jvm.Cond.selects "VoiceHouse$Scores" ({ cls := "VoiceHouse$Scores", name := "between", desc := "(II)I" } : Jvm.MethodName) ({ cls := "VoiceHouse$Scores", name := "between", desc := "(II)I" } : Jvm.MethodName)) ∈ tG := mG (List.mem_append_right _ (List.mem_append_right _ (List.mem_append_left _ (List.mem_of_getElem? (i := 91) rfl)))) rfl
set_option maxRecDepth 20000 in
theorem w_332 : (Jvm.Cond.code ({ cls := "VoiceHouse$Scores", name := "between", desc := "(II)I" } : Jvm.MethodName) prog_6_method_2_code (10 : Nat) (Option.some Jvm.ClassFile.FieldType.int)) ∈ tG := mG (List.mem_append_right _ (List.mem_append_right _ (List.mem_append_left _ (List.mem_of_getElem? (i := 92) rfl)))) rfl
set_option maxRecDepth 20000 in
theorem w_333 : (Jvm.Cond.methodLink "VoiceHouse$Scores" (19 : Nat) ({ cls := "VoiceHouse$Archive", name := "toneAt", desc := "(II)I" } : Jvm.MethodName)) ∈ tG := mG (List.mem_append_right _ (List.mem_append_right _ (List.mem_append_left _ (List.mem_of_getElem? (i := 93) rfl)))) rfl
set_option maxRecDepth 20000 in
theorem w_334 : (Jvm.Cond.methodLink "VoiceHouse$Scores" (25 : Nat) ({ cls := "VoiceHouse$Archive", name := "channelOf", desc := "(I)I" } : Jvm.MethodName)) ∈ tG := mG (List.mem_append_right _ (List.mem_append_right _ (List.mem_append_left _ (List.mem_of_getElem? (i := 94) rfl)))) rfl
set_option maxRecDepth 20000 in
theorem w_335 : (Jvm.Cond.methodLink "VoiceHouse$Scores" (29 : Nat) ({ cls := "VoiceHouse$Shifts", name := "at", desc := "(II)I" } : Jvm.MethodName)) ∈ tG := mG (List.mem_append_right _ (List.mem_append_right _ (List.mem_append_left _ (List.mem_of_getElem? (i := 95) rfl)))) rfl
set_option maxRecDepth 20000 in
theorem w_336 : (Jvm.Cond.methodLink "VoiceHouse$Scores" (34 : Nat) ({ cls := "java/lang/Math", name := "abs", desc := "(I)I" } : Jvm.MethodName)) ∈ tG := mG (List.mem_append_right _ (List.mem_append_right _ (List.mem_append_left _ (List.mem_of_getElem? (i := 96) rfl)))) rfl
set_option maxRecDepth 20000 in
theorem w_337 : (Jvm.Cond.static ({ cls := "java/lang/Math", name := "abs", desc := "(I)I" } : Jvm.MethodName)) ∈ tG := mG (List.mem_append_right _ (List.mem_append_right _ (List.mem_append_left _ (List.mem_of_getElem? (i := 97) rfl)))) rfl
set_option maxRecDepth 20000 in
theorem w_338 : (Jvm.Cond.code ({ cls := "java/lang/Math", name := "abs", desc := "(I)I" } : Jvm.MethodName) prog_12_method_59_code (1 : Nat) (Option.some Jvm.ClassFile.FieldType.int)) ∈ tG := mG (List.mem_append_right _ (List.mem_append_right _ (List.mem_append_left _ (List.mem_of_getElem? (i := 98) rfl)))) rfl
set_option maxRecDepth 20000 in
theorem w_339 : (Jvm.Cond.methodLink "VoiceHouseLaw" (49 : Nat) ({ cls := "VoiceHouse", name := "band", desc := "(II)I" } : Jvm.MethodName)) ∈ tG := mG (List.mem_append_right _ (List.mem_append_right _ (List.mem_append_left _ (List.mem_of_getElem? (i := 99) rfl)))) rfl
set_option maxRecDepth 20000 in
theorem w_340 : (Jvm.Cond.instanceMethod ({ cls := "VoiceHouse", name := "band", desc := "(II)I" } : Jvm.MethodName)) ∈ tG := mG (List.mem_append_right _ (List.mem_append_right _ (List.mem_append_left _ (List.mem_of_getElem? (i := 100) rfl)))) rfl
set_option maxRecDepth 20000 in
theorem w_341 : (Jvm.Cond.selects "VoiceHouse" ({ cls := "VoiceHouse", name := "band", desc := "(II)I" } : Jvm.MethodName) ({ cls := "VoiceHouse", name := "band", desc := "(II)I" } : Jvm.MethodName)) ∈ tG := mG (List.mem_append_right _ (List.mem_append_right _ (List.mem_append_left _ (List.mem_of_getElem? (i := 101) rfl)))) rfl
set_option maxRecDepth 20000 in
theorem w_342 : (Jvm.Cond.code ({ cls := "VoiceHouse", name := "band", desc := "(II)I" } : Jvm.MethodName) prog_1_method_10_code (3 : Nat) (Option.some Jvm.ClassFile.FieldType.int)) ∈ tG := mG (List.mem_append_right _ (List.mem_append_right _ (List.mem_append_left _ (List.mem_of_getElem? (i := 102) rfl)))) rfl
set_option maxRecDepth 20000 in
theorem w_343 : (Jvm.Cond.methodLink "VoiceHouse" (127 : Nat) ({ cls := "VoiceHouse", name := "isBand", desc := "(I)Z" } : Jvm.MethodName)) ∈ tG := mG (List.mem_append_right _ (List.mem_append_right _ (List.mem_append_left _ (List.mem_of_getElem? (i := 103) rfl)))) rfl
set_option maxRecDepth 20000 in
theorem w_344 : (Jvm.Cond.static ({ cls := "VoiceHouse", name := "isBand", desc := "(I)Z" } : Jvm.MethodName)) ∈ tG := mG (List.mem_append_right _ (List.mem_append_right _ (List.mem_append_left _ (List.mem_of_getElem? (i := 104) rfl)))) rfl
set_option maxRecDepth 20000 in
theorem w_345 : (Jvm.Cond.code ({ cls := "VoiceHouse", name := "isBand", desc := "(I)Z" } : Jvm.MethodName) prog_1_method_31_code (1 : Nat) (Option.some Jvm.ClassFile.FieldType.boolean)) ∈ tG := mG (List.mem_append_right _ (List.mem_append_right _ (List.mem_append_left _ (List.mem_of_getElem? (i := 105) rfl)))) rfl
set_option maxRecDepth 20000 in
theorem w_346 : (Jvm.Cond.methodLink "VoiceHouse" (130 : Nat) ({ cls := "VoiceHouse", name := "freshPairs", desc := "()LVoiceHouse$PairBook;" } : Jvm.MethodName)) ∈ tG := mG (List.mem_append_right _ (List.mem_append_right _ (List.mem_append_left _ (List.mem_of_getElem? (i := 106) rfl)))) rfl
set_option maxRecDepth 20000 in
theorem w_348 : (Jvm.Cond.instanceMethod ({ cls := "VoiceHouse", name := "freshPairs", desc := "()LVoiceHouse$PairBook;" } : Jvm.MethodName)) ∈ tG := mG (List.mem_append_right _ (List.mem_append_right _ (List.mem_append_left _ (List.mem_of_getElem? (i := 108) rfl)))) rfl
set_option maxRecDepth 20000 in
theorem w_349 : (Jvm.Cond.code ({ cls := "VoiceHouse", name := "freshPairs", desc := "()LVoiceHouse$PairBook;" } : Jvm.MethodName) prog_1_method_25_code (1 : Nat) (Option.some (Jvm.ClassFile.FieldType.object "VoiceHouse$PairBook"))) ∈ tG := mG (List.mem_append_right _ (List.mem_append_right _ (List.mem_append_left _ (List.mem_of_getElem? (i := 109) rfl)))) rfl
set_option maxRecDepth 20000 in
theorem w_350 : (Jvm.Cond.methodLink "VoiceHouse" (236 : Nat) ({ cls := "VoiceHouse$PairBook", name := "fillFor", desc := "(I)V" } : Jvm.MethodName)) ∈ tG := mG (List.mem_append_right _ (List.mem_append_right _ (List.mem_append_left _ (List.mem_of_getElem? (i := 110) rfl)))) rfl
set_option maxRecDepth 20000 in
theorem w_351 : (Jvm.Cond.instanceMethod ({ cls := "VoiceHouse$PairBook", name := "fillFor", desc := "(I)V" } : Jvm.MethodName)) ∈ tG := mG (List.mem_append_right _ (List.mem_append_right _ (List.mem_append_left _ (List.mem_of_getElem? (i := 111) rfl)))) rfl
set_option maxRecDepth 20000 in
theorem w_352 : (Jvm.Cond.selects "VoiceHouse$PairBook" ({ cls := "VoiceHouse$PairBook", name := "fillFor", desc := "(I)V" } : Jvm.MethodName) ({ cls := "VoiceHouse$PairBook", name := "fillFor", desc := "(I)V" } : Jvm.MethodName)) ∈ tG := mG (List.mem_append_right _ (List.mem_append_right _ (List.mem_append_left _ (List.mem_of_getElem? (i := 112) rfl)))) rfl
set_option maxRecDepth 20000 in
theorem w_353 : (Jvm.Cond.code ({ cls := "VoiceHouse$PairBook", name := "fillFor", desc := "(I)V" } : Jvm.MethodName) prog_5_method_2_code (2 : Nat) (Option.none : Option Jvm.ClassFile.FieldType)) ∈ tG := mG (List.mem_append_right _ (List.mem_append_right _ (List.mem_append_left _ (List.mem_of_getElem? (i := 113) rfl)))) rfl
set_option maxRecDepth 20000 in
theorem w_354 : (Jvm.Cond.methodLink "VoiceHouse$PairBook" (48 : Nat) ({ cls := "VoiceHouse$PairBook", name := "countPairs", desc := "(I)V" } : Jvm.MethodName)) ∈ tG := mG (List.mem_append_right _ (List.mem_append_right _ (List.mem_append_left _ (List.mem_of_getElem? (i := 114) rfl)))) rfl
set_option maxRecDepth 20000 in
theorem w_356 : (Jvm.Cond.instanceMethod ({ cls := "VoiceHouse$PairBook", name := "countPairs", desc := "(I)V" } : Jvm.MethodName)) ∈ tG := mG (List.mem_append_right _ (List.mem_append_right _ (List.mem_append_left _ (List.mem_of_getElem? (i := 116) rfl)))) rfl
set_option maxRecDepth 20000 in
theorem w_357 : (Jvm.Cond.code ({ cls := "VoiceHouse$PairBook", name := "countPairs", desc := "(I)V" } : Jvm.MethodName) prog_5_method_3_code (4 : Nat) (Option.none : Option Jvm.ClassFile.FieldType)) ∈ tG := mG (List.mem_append_right _ (List.mem_append_right _ (List.mem_append_left _ (List.mem_of_getElem? (i := 117) rfl)))) rfl
set_option maxRecDepth 20000 in
theorem w_358 : (Jvm.Cond.methodLink "VoiceHouse$PairBook" (58 : Nat) ({ cls := "java/util/Arrays", name := "fill", desc := "([II)V" } : Jvm.MethodName)) ∈ tG := mG (List.mem_append_right _ (List.mem_append_right _ (List.mem_append_left _ (List.mem_of_getElem? (i := 118) rfl)))) rfl
set_option maxRecDepth 20000 in
theorem w_359 : (Jvm.Cond.methodLink "VoiceHouse$PairBook" (64 : Nat) ({ cls := "VoiceHouse$Archive", name := "size", desc := "()I" } : Jvm.MethodName)) ∈ tG := mG (List.mem_append_right _ (List.mem_append_right _ (List.mem_append_left _ (List.mem_of_getElem? (i := 119) rfl)))) rfl
set_option maxRecDepth 20000 in
theorem w_360 : (Jvm.Cond.methodLink "VoiceHouse$PairBook" (70 : Nat) ({ cls := "VoiceHouse$Archive", name := "isOfSet", desc := "(II)Z" } : Jvm.MethodName)) ∈ tG := mG (List.mem_append_right _ (List.mem_append_right _ (List.mem_append_left _ (List.mem_of_getElem? (i := 120) rfl)))) rfl
set_option maxRecDepth 20000 in
theorem w_361 : (Jvm.Cond.instanceMethod ({ cls := "VoiceHouse$Archive", name := "isOfSet", desc := "(II)Z" } : Jvm.MethodName)) ∈ tG := mG (List.mem_append_right _ (List.mem_append_right _ (List.mem_append_left _ (List.mem_of_getElem? (i := 121) rfl)))) rfl
set_option maxRecDepth 20000 in
theorem w_362 : (Jvm.Cond.selects "VoiceHouse$Archive" ({ cls := "VoiceHouse$Archive", name := "isOfSet", desc := "(II)Z" } : Jvm.MethodName) ({ cls := "VoiceHouse$Archive", name := "isOfSet", desc := "(II)Z" } : Jvm.MethodName)) ∈ tG := mG (List.mem_append_right _ (List.mem_append_right _ (List.mem_append_left _ (List.mem_of_getElem? (i := 122) rfl)))) rfl
set_option maxRecDepth 20000 in
theorem w_363 : (Jvm.Cond.code ({ cls := "VoiceHouse$Archive", name := "isOfSet", desc := "(II)Z" } : Jvm.MethodName) prog_2_method_11_code (3 : Nat) (Option.some Jvm.ClassFile.FieldType.boolean)) ∈ tG := mG (List.mem_append_right _ (List.mem_append_right _ (List.mem_append_left _ (List.mem_of_getElem? (i := 123) rfl)))) rfl
set_option maxRecDepth 20000 in
theorem w_364 : (Jvm.Cond.methodLink "VoiceHouse$Archive" (31 : Nat) ({ cls := "VoiceHouse$Archive", name := "isKnown", desc := "(I)Z" } : Jvm.MethodName)) ∈ tG := mG (List.mem_append_right _ (List.mem_append_right _ (List.mem_append_left _ (List.mem_of_getElem? (i := 124) rfl)))) rfl
set_option maxRecDepth 20000 in
theorem w_365 : (Jvm.Cond.methodLink "VoiceHouse$PairBook" (74 : Nat) ({ cls := "VoiceHouse$PairBook", name := "countPair", desc := "(II)V" } : Jvm.MethodName)) ∈ tG := mG (List.mem_append_right _ (List.mem_append_right _ (List.mem_append_left _ (List.mem_of_getElem? (i := 125) rfl)))) rfl
set_option maxRecDepth 20000 in
theorem w_367 : (Jvm.Cond.instanceMethod ({ cls := "VoiceHouse$PairBook", name := "countPair", desc := "(II)V" } : Jvm.MethodName)) ∈ tG := mG (List.mem_append_right _ (List.mem_append_right _ (List.mem_append_left _ (List.mem_of_getElem? (i := 127) rfl)))) rfl
set_option maxRecDepth 20000 in
theorem w_368 : (Jvm.Cond.code ({ cls := "VoiceHouse$PairBook", name := "countPair", desc := "(II)V" } : Jvm.MethodName) prog_5_method_4_code (4 : Nat) (Option.none : Option Jvm.ClassFile.FieldType)) ∈ tG := mG (List.mem_append_right _ (List.mem_append_right _ (List.mem_append_left _ (List.mem_of_getElem? (i := 128) rfl)))) rfl
set_option maxRecDepth 20000 in
theorem w_369 : (Jvm.Cond.methodLink "VoiceHouse$PairBook" (78 : Nat) ({ cls := "VoiceHouse$Scores", name := "between", desc := "(II)I" } : Jvm.MethodName)) ∈ tG := mG (List.mem_append_right _ (List.mem_append_right _ (List.mem_append_left _ (List.mem_of_getElem? (i := 129) rfl)))) rfl
set_option maxRecDepth 20000 in
theorem w_370 : (Jvm.Cond.methodLink "VoiceHouse$PairBook" (84 : Nat) ({ cls := "VoiceHouse$Archive", name := "speakerOf", desc := "(I)I" } : Jvm.MethodName)) ∈ tG := mG (List.mem_append_right _ (List.mem_append_right _ (List.mem_append_left _ (List.mem_of_getElem? (i := 130) rfl)))) rfl
set_option maxRecDepth 20000 in
theorem w_372 : (Jvm.Cond.static ({ cls := "VoiceHouse", name := "bandOf", desc := "(I)I" } : Jvm.MethodName)) ∈ tG := mG (List.mem_append_right _ (List.mem_append_right _ (List.mem_append_left _ (List.mem_of_getElem? (i := 132) rfl)))) rfl
set_option maxRecDepth 20000 in
theorem w_373 : (Jvm.Cond.code ({ cls := "VoiceHouse", name := "bandOf", desc := "(I)I" } : Jvm.MethodName) prog_1_method_32_code (1 : Nat) (Option.some Jvm.ClassFile.FieldType.int)) ∈ tG := mG (List.mem_append_right _ (List.mem_append_right _ (List.mem_append_left _ (List.mem_of_getElem? (i := 133) rfl)))) rfl
set_option maxRecDepth 20000 in
theorem w_374 : (Jvm.Cond.methodLink "VoiceHouse" (239 : Nat) ({ cls := "java/lang/Math", name := "min", desc := "(II)I" } : Jvm.MethodName)) ∈ tG := mG (List.mem_append_right _ (List.mem_append_right _ (List.mem_append_left _ (List.mem_of_getElem? (i := 134) rfl)))) rfl
set_option maxRecDepth 20000 in
theorem w_375 : (Jvm.Cond.static ({ cls := "java/lang/Math", name := "min", desc := "(II)I" } : Jvm.MethodName)) ∈ tG := mG (List.mem_append_right _ (List.mem_append_right _ (List.mem_append_left _ (List.mem_of_getElem? (i := 135) rfl)))) rfl
set_option maxRecDepth 20000 in
theorem w_376 : (Jvm.Cond.code ({ cls := "java/lang/Math", name := "min", desc := "(II)I" } : Jvm.MethodName) prog_12_method_69_code (2 : Nat) (Option.some Jvm.ClassFile.FieldType.int)) ∈ tG := mG (List.mem_append_right _ (List.mem_append_right _ (List.mem_append_left _ (List.mem_of_getElem? (i := 136) rfl)))) rfl
set_option maxRecDepth 20000 in
theorem w_377 : (Jvm.Cond.methodLink "VoiceHouse$PairBook" (52 : Nat) ({ cls := "VoiceHouse$PairBook", name := "makeBlocks", desc := "()V" } : Jvm.MethodName)) ∈ tG := mG (List.mem_append_right _ (List.mem_append_right _ (List.mem_append_left _ (List.mem_of_getElem? (i := 137) rfl)))) rfl
set_option maxRecDepth 20000 in
theorem w_379 : (Jvm.Cond.instanceMethod ({ cls := "VoiceHouse$PairBook", name := "makeBlocks", desc := "()V" } : Jvm.MethodName)) ∈ tG := mG (List.mem_append_right _ (List.mem_append_right _ (List.mem_append_left _ (List.mem_of_getElem? (i := 139) rfl)))) rfl
set_option maxRecDepth 20000 in
theorem w_380 : (Jvm.Cond.code ({ cls := "VoiceHouse$PairBook", name := "makeBlocks", desc := "()V" } : Jvm.MethodName) prog_5_method_5_code (2 : Nat) (Option.none : Option Jvm.ClassFile.FieldType)) ∈ tG := mG (List.mem_append_right _ (List.mem_append_right _ (List.mem_append_left _ (List.mem_of_getElem? (i := 140) rfl)))) rfl
set_option maxRecDepth 20000 in
theorem w_381 : (Jvm.Cond.methodLink "VoiceHouse$PairBook" (91 : Nat) ({ cls := "VoiceHouse$PairBook", name := "isEmptyBand", desc := "(I)Z" } : Jvm.MethodName)) ∈ tG := mG (List.mem_append_right _ (List.mem_append_right _ (List.mem_append_left _ (List.mem_of_getElem? (i := 141) rfl)))) rfl
set_option maxRecDepth 20000 in
theorem w_383 : (Jvm.Cond.instanceMethod ({ cls := "VoiceHouse$PairBook", name := "isEmptyBand", desc := "(I)Z" } : Jvm.MethodName)) ∈ tG := mG (List.mem_append_right _ (List.mem_append_right _ (List.mem_append_left _ (List.mem_of_getElem? (i := 143) rfl)))) rfl
set_option maxRecDepth 20000 in
theorem w_384 : (Jvm.Cond.code ({ cls := "VoiceHouse$PairBook", name := "isEmptyBand", desc := "(I)Z" } : Jvm.MethodName) prog_5_method_11_code (2 : Nat) (Option.some Jvm.ClassFile.FieldType.boolean)) ∈ tG := mG (List.mem_append_right _ (List.mem_append_right _ (List.mem_append_left _ (List.mem_of_getElem? (i := 144) rfl)))) rfl
set_option maxRecDepth 20000 in
theorem w_385 : (Jvm.Cond.methodLink "VoiceHouse$PairBook" (55 : Nat) ({ cls := "VoiceHouse$PairBook", name := "putBlocksInOrder", desc := "()V" } : Jvm.MethodName)) ∈ tG := mG (List.mem_append_right _ (List.mem_append_right _ (List.mem_append_left _ (List.mem_of_getElem? (i := 145) rfl)))) rfl
set_option maxRecDepth 20000 in
theorem w_387 : (Jvm.Cond.instanceMethod ({ cls := "VoiceHouse$PairBook", name := "putBlocksInOrder", desc := "()V" } : Jvm.MethodName)) ∈ tG := mG (List.mem_append_right _ (List.mem_append_right _ (List.mem_append_left _ (List.mem_of_getElem? (i := 147) rfl)))) rfl
set_option maxRecDepth 20000 in
theorem w_388 : (Jvm.Cond.code ({ cls := "VoiceHouse$PairBook", name := "putBlocksInOrder", desc := "()V" } : Jvm.MethodName) prog_5_method_6_code (3 : Nat) (Option.none : Option Jvm.ClassFile.FieldType)) ∈ tG := mG (List.mem_append_right _ (List.mem_append_right _ (List.mem_append_left _ (List.mem_of_getElem? (i := 148) rfl)))) rfl
set_option maxRecDepth 20000 in
theorem w_389 : (Jvm.Cond.methodLink "VoiceHouse$PairBook" (95 : Nat) ({ cls := "VoiceHouse$PairBook", name := "findOutOfOrder", desc := "()I" } : Jvm.MethodName)) ∈ tG := mG (List.mem_append_right _ (List.mem_append_right _ (List.mem_append_left _ (List.mem_of_getElem? (i := 149) rfl)))) rfl
set_option maxRecDepth 20000 in
theorem w_391 : (Jvm.Cond.instanceMethod ({ cls := "VoiceHouse$PairBook", name := "findOutOfOrder", desc := "()I" } : Jvm.MethodName)) ∈ tG := mG (List.mem_append_right _ (List.mem_append_right _ (List.mem_append_left _ (List.mem_of_getElem? (i := 151) rfl)))) rfl
set_option maxRecDepth 20000 in
theorem w_392 : (Jvm.Cond.code ({ cls := "VoiceHouse$PairBook", name := "findOutOfOrder", desc := "()I" } : Jvm.MethodName) prog_5_method_7_code (2 : Nat) (Option.some Jvm.ClassFile.FieldType.int)) ∈ tG := mG (List.mem_append_right _ (List.mem_append_right _ (List.mem_append_left _ (List.mem_of_getElem? (i := 152) rfl)))) rfl
set_option maxRecDepth 20000 in
theorem w_393 : (Jvm.Cond.methodLink "VoiceHouse$PairBook" (101 : Nat) ({ cls := "VoiceHouse$PairBook", name := "isOutOfOrder", desc := "(II)Z" } : Jvm.MethodName)) ∈ tG := mG (List.mem_append_right _ (List.mem_append_right _ (List.mem_append_left _ (List.mem_of_getElem? (i := 153) rfl)))) rfl
set_option maxRecDepth 20000 in
theorem w_395 : (Jvm.Cond.instanceMethod ({ cls := "VoiceHouse$PairBook", name := "isOutOfOrder", desc := "(II)Z" } : Jvm.MethodName)) ∈ tG := mG (List.mem_append_right _ (List.mem_append_right _ (List.mem_append_left _ (List.mem_of_getElem? (i := 155) rfl)))) rfl
set_option maxRecDepth 20000 in
theorem w_396 : (Jvm.Cond.code ({ cls := "VoiceHouse$PairBook", name := "isOutOfOrder", desc := "(II)Z" } : Jvm.MethodName) prog_5_method_8_code (5 : Nat) (Option.some Jvm.ClassFile.FieldType.boolean)) ∈ tG := mG (List.mem_append_right _ (List.mem_append_right _ (List.mem_append_left _ (List.mem_of_getElem? (i := 156) rfl)))) rfl
set_option maxRecDepth 20000 in
theorem w_397 : (Jvm.Cond.methodLink "VoiceHouse$PairBook" (98 : Nat) ({ cls := "VoiceHouse$PairBook", name := "joinWithNext", desc := "(I)V" } : Jvm.MethodName)) ∈ tG := mG (List.mem_append_right _ (List.mem_append_right _ (List.mem_append_left _ (List.mem_of_getElem? (i := 157) rfl)))) rfl
set_option maxRecDepth 20000 in
theorem w_399 : (Jvm.Cond.instanceMethod ({ cls := "VoiceHouse$PairBook", name := "joinWithNext", desc := "(I)V" } : Jvm.MethodName)) ∈ tG := mG (List.mem_append_right _ (List.mem_append_right _ (List.mem_append_left _ (List.mem_of_getElem? (i := 159) rfl)))) rfl
set_option maxRecDepth 20000 in
theorem w_400 : (Jvm.Cond.code ({ cls := "VoiceHouse$PairBook", name := "joinWithNext", desc := "(I)V" } : Jvm.MethodName) prog_5_method_9_code (3 : Nat) (Option.none : Option Jvm.ClassFile.FieldType)) ∈ tG := mG (List.mem_append_right _ (List.mem_append_right _ (List.mem_append_left _ (List.mem_of_getElem? (i := 160) rfl)))) rfl
set_option maxRecDepth 20000 in
theorem w_401 : (Jvm.Cond.methodLink "VoiceHouse" (134 : Nat) ({ cls := "VoiceHouse$PairBook", name := "sameIn", desc := "(I)I" } : Jvm.MethodName)) ∈ tG := mG (List.mem_append_right _ (List.mem_append_right _ (List.mem_append_left _ (List.mem_of_getElem? (i := 161) rfl)))) rfl
set_option maxRecDepth 20000 in
theorem w_402 : (Jvm.Cond.instanceMethod ({ cls := "VoiceHouse$PairBook", name := "sameIn", desc := "(I)I" } : Jvm.MethodName)) ∈ tG := mG (List.mem_append_right _ (List.mem_append_right _ (List.mem_append_left _ (List.mem_of_getElem? (i := 162) rfl)))) rfl
set_option maxRecDepth 20000 in
theorem w_403 : (Jvm.Cond.selects "VoiceHouse$PairBook" ({ cls := "VoiceHouse$PairBook", name := "sameIn", desc := "(I)I" } : Jvm.MethodName) ({ cls := "VoiceHouse$PairBook", name := "sameIn", desc := "(I)I" } : Jvm.MethodName)) ∈ tG := mG (List.mem_append_right _ (List.mem_append_right _ (List.mem_append_left _ (List.mem_of_getElem? (i := 163) rfl)))) rfl
set_option maxRecDepth 20000 in
theorem w_404 : (Jvm.Cond.code ({ cls := "VoiceHouse$PairBook", name := "sameIn", desc := "(I)I" } : Jvm.MethodName) prog_5_method_12_code (2 : Nat) (Option.some Jvm.ClassFile.FieldType.int)) ∈ tG := mG (List.mem_append_right _ (List.mem_append_right _ (List.mem_append_left _ (List.mem_of_getElem? (i := 164) rfl)))) rfl
set_option maxRecDepth 20000 in
theorem w_405 : (Jvm.Cond.methodLink "VoiceHouse" (138 : Nat) ({ cls := "VoiceHouse$PairBook", name := "otherIn", desc := "(I)I" } : Jvm.MethodName)) ∈ tG := mG (List.mem_append_right _ (List.mem_append_right _ (List.mem_append_left _ (List.mem_of_getElem? (i := 165) rfl)))) rfl
set_option maxRecDepth 20000 in
theorem w_406 : (Jvm.Cond.instanceMethod ({ cls := "VoiceHouse$PairBook", name := "otherIn", desc := "(I)I" } : Jvm.MethodName)) ∈ tG := mG (List.mem_append_right _ (List.mem_append_right _ (List.mem_append_left _ (List.mem_of_getElem? (i := 166) rfl)))) rfl
set_option maxRecDepth 20000 in
theorem w_407 : (Jvm.Cond.selects "VoiceHouse$PairBook" ({ cls := "VoiceHouse$PairBook", name := "otherIn", desc := "(I)I" } : Jvm.MethodName) ({ cls := "VoiceHouse$PairBook", name := "otherIn", desc := "(I)I" } : Jvm.MethodName)) ∈ tG := mG (List.mem_append_right _ (List.mem_append_right _ (List.mem_append_left _ (List.mem_of_getElem? (i := 167) rfl)))) rfl
set_option maxRecDepth 20000 in
theorem w_408 : (Jvm.Cond.code ({ cls := "VoiceHouse$PairBook", name := "otherIn", desc := "(I)I" } : Jvm.MethodName) prog_5_method_13_code (2 : Nat) (Option.some Jvm.ClassFile.FieldType.int)) ∈ tG := mG (List.mem_append_right _ (List.mem_append_right _ (List.mem_append_left _ (List.mem_of_getElem? (i := 168) rfl)))) rfl
set_option maxRecDepth 20000 in
theorem w_409 : (Jvm.Cond.methodLink "VoiceHouseLaw" (53 : Nat) ({ cls := "VoiceHouse", name := "block", desc := "(II)I" } : Jvm.MethodName)) ∈ tG := mG (List.mem_append_right _ (List.mem_append_right _ (List.mem_append_left _ (List.mem_of_getElem? (i := 169) rfl)))) rfl
set_option maxRecDepth 20000 in
theorem w_410 : (Jvm.Cond.instanceMethod ({ cls := "VoiceHouse", name := "block", desc := "(II)I" } : Jvm.MethodName)) ∈ tG := mG (List.mem_append_right _ (List.mem_append_right _ (List.mem_append_left _ (List.mem_of_getElem? (i := 170) rfl)))) rfl
set_option maxRecDepth 20000 in
theorem w_411 : (Jvm.Cond.selects "VoiceHouse" ({ cls := "VoiceHouse", name := "block", desc := "(II)I" } : Jvm.MethodName) ({ cls := "VoiceHouse", name := "block", desc := "(II)I" } : Jvm.MethodName)) ∈ tG := mG (List.mem_append_right _ (List.mem_append_right _ (List.mem_append_left _ (List.mem_of_getElem? (i := 171) rfl)))) rfl
set_option maxRecDepth 20000 in
theorem w_412 : (Jvm.Cond.code ({ cls := "VoiceHouse", name := "block", desc := "(II)I" } : Jvm.MethodName) prog_1_method_11_code (5 : Nat) (Option.some Jvm.ClassFile.FieldType.int)) ∈ tG := mG (List.mem_append_right _ (List.mem_append_right _ (List.mem_append_left _ (List.mem_of_getElem? (i := 172) rfl)))) rfl
set_option maxRecDepth 20000 in
theorem w_413 : (Jvm.Cond.methodLink "VoiceHouse" (141 : Nat) ({ cls := "VoiceHouse$PairBook", name := "findBlock", desc := "(I)I" } : Jvm.MethodName)) ∈ tG := mG (List.mem_append_right _ (List.mem_append_right _ (List.mem_append_left _ (List.mem_of_getElem? (i := 173) rfl)))) rfl
set_option maxRecDepth 20000 in
theorem w_414 : (Jvm.Cond.instanceMethod ({ cls := "VoiceHouse$PairBook", name := "findBlock", desc := "(I)I" } : Jvm.MethodName)) ∈ tG := mG (List.mem_append_right _ (List.mem_append_right _ (List.mem_append_left _ (List.mem_of_getElem? (i := 174) rfl)))) rfl
set_option maxRecDepth 20000 in
theorem w_415 : (Jvm.Cond.selects "VoiceHouse$PairBook" ({ cls := "VoiceHouse$PairBook", name := "findBlock", desc := "(I)I" } : Jvm.MethodName) ({ cls := "VoiceHouse$PairBook", name := "findBlock", desc := "(I)I" } : Jvm.MethodName)) ∈ tG := mG (List.mem_append_right _ (List.mem_append_right _ (List.mem_append_left _ (List.mem_of_getElem? (i := 175) rfl)))) rfl
set_option maxRecDepth 20000 in
theorem w_416 : (Jvm.Cond.code ({ cls := "VoiceHouse$PairBook", name := "findBlock", desc := "(I)I" } : Jvm.MethodName) prog_5_method_10_code (3 : Nat) (Option.some Jvm.ClassFile.FieldType.int)) ∈ tG := mG (List.mem_append_right _ (List.mem_append_right _ (List.mem_append_left _ (List.mem_of_getElem? (i := 176) rfl)))) rfl
set_option maxRecDepth 20000 in
theorem w_417 : (Jvm.Cond.methodLink "VoiceHouse" (144 : Nat) ({ cls := "VoiceHouse$PairBook", name := "firstBandOf", desc := "(I)I" } : Jvm.MethodName)) ∈ tG := mG (List.mem_append_right _ (List.mem_append_right _ (List.mem_append_left _ (List.mem_of_getElem? (i := 177) rfl)))) rfl
set_option maxRecDepth 20000 in
theorem w_418 : (Jvm.Cond.instanceMethod ({ cls := "VoiceHouse$PairBook", name := "firstBandOf", desc := "(I)I" } : Jvm.MethodName)) ∈ tG := mG (List.mem_append_right _ (List.mem_append_right _ (List.mem_append_left _ (List.mem_of_getElem? (i := 178) rfl)))) rfl
set_option maxRecDepth 20000 in
theorem w_419 : (Jvm.Cond.selects "VoiceHouse$PairBook" ({ cls := "VoiceHouse$PairBook", name := "firstBandOf", desc := "(I)I" } : Jvm.MethodName) ({ cls := "VoiceHouse$PairBook", name := "firstBandOf", desc := "(I)I" } : Jvm.MethodName)) ∈ tG := mG (List.mem_append_right _ (List.mem_append_right _ (List.mem_append_left _ (List.mem_of_getElem? (i := 179) rfl)))) rfl
set_option maxRecDepth 20000 in
theorem w_420 : (Jvm.Cond.code ({ cls := "VoiceHouse$PairBook", name := "firstBandOf", desc := "(I)I" } : Jvm.MethodName) prog_5_method_14_code (2 : Nat) (Option.some Jvm.ClassFile.FieldType.int)) ∈ tG := mG (List.mem_append_right _ (List.mem_append_right _ (List.mem_append_left _ (List.mem_of_getElem? (i := 180) rfl)))) rfl
set_option maxRecDepth 20000 in
theorem w_421 : (Jvm.Cond.methodLink "VoiceHouse" (147 : Nat) ({ cls := "VoiceHouse$PairBook", name := "lastBandOf", desc := "(I)I" } : Jvm.MethodName)) ∈ tG := mG (List.mem_append_right _ (List.mem_append_right _ (List.mem_append_left _ (List.mem_of_getElem? (i := 181) rfl)))) rfl
set_option maxRecDepth 20000 in
theorem w_422 : (Jvm.Cond.instanceMethod ({ cls := "VoiceHouse$PairBook", name := "lastBandOf", desc := "(I)I" } : Jvm.MethodName)) ∈ tG := mG (List.mem_append_right _ (List.mem_append_right _ (List.mem_append_left _ (List.mem_of_getElem? (i := 182) rfl)))) rfl
set_option maxRecDepth 20000 in
theorem w_423 : (Jvm.Cond.selects "VoiceHouse$PairBook" ({ cls := "VoiceHouse$PairBook", name := "lastBandOf", desc := "(I)I" } : Jvm.MethodName) ({ cls := "VoiceHouse$PairBook", name := "lastBandOf", desc := "(I)I" } : Jvm.MethodName)) ∈ tG := mG (List.mem_append_right _ (List.mem_append_right _ (List.mem_append_left _ (List.mem_of_getElem? (i := 183) rfl)))) rfl
set_option maxRecDepth 20000 in
theorem w_424 : (Jvm.Cond.code ({ cls := "VoiceHouse$PairBook", name := "lastBandOf", desc := "(I)I" } : Jvm.MethodName) prog_5_method_15_code (2 : Nat) (Option.some Jvm.ClassFile.FieldType.int)) ∈ tG := mG (List.mem_append_right _ (List.mem_append_right _ (List.mem_append_left _ (List.mem_of_getElem? (i := 184) rfl)))) rfl
set_option maxRecDepth 20000 in
theorem w_425 : (Jvm.Cond.methodLink "VoiceHouseLaw" (57 : Nat) ({ cls := "VoiceHouse", name := "odds", desc := "(II)I" } : Jvm.MethodName)) ∈ tG := mG (List.mem_append_right _ (List.mem_append_right _ (List.mem_append_left _ (List.mem_of_getElem? (i := 185) rfl)))) rfl
set_option maxRecDepth 20000 in
theorem w_426 : (Jvm.Cond.instanceMethod ({ cls := "VoiceHouse", name := "odds", desc := "(II)I" } : Jvm.MethodName)) ∈ tG := mG (List.mem_append_right _ (List.mem_append_right _ (List.mem_append_left _ (List.mem_of_getElem? (i := 186) rfl)))) rfl
set_option maxRecDepth 20000 in
theorem w_427 : (Jvm.Cond.selects "VoiceHouse" ({ cls := "VoiceHouse", name := "odds", desc := "(II)I" } : Jvm.MethodName) ({ cls := "VoiceHouse", name := "odds", desc := "(II)I" } : Jvm.MethodName)) ∈ tG := mG (List.mem_append_right _ (List.mem_append_right _ (List.mem_append_left _ (List.mem_of_getElem? (i := 187) rfl)))) rfl
set_option maxRecDepth 20000 in
theorem w_428 : (Jvm.Cond.code ({ cls := "VoiceHouse", name := "odds", desc := "(II)I" } : Jvm.MethodName) prog_1_method_12_code (5 : Nat) (Option.some Jvm.ClassFile.FieldType.int)) ∈ tG := mG (List.mem_append_right _ (List.mem_append_right _ (List.mem_append_left _ (List.mem_of_getElem? (i := 188) rfl)))) rfl
set_option maxRecDepth 20000 in
theorem w_429 : (Jvm.Cond.methodLink "VoiceHouse" (150 : Nat) ({ cls := "VoiceHouse", name := "bandOf", desc := "(I)I" } : Jvm.MethodName)) ∈ tG := mG (List.mem_append_right _ (List.mem_append_right _ (List.mem_append_left _ (List.mem_of_getElem? (i := 189) rfl)))) rfl
set_option maxRecDepth 20000 in
theorem w_430 : (Jvm.Cond.methodLink "VoiceHouse" (153 : Nat) ({ cls := "VoiceHouse$PairBook", name := "sameOf", desc := "(I)I" } : Jvm.MethodName)) ∈ tG := mG (List.mem_append_right _ (List.mem_append_right _ (List.mem_append_left _ (List.mem_of_getElem? (i := 190) rfl)))) rfl
set_option maxRecDepth 20000 in
theorem w_431 : (Jvm.Cond.instanceMethod ({ cls := "VoiceHouse$PairBook", name := "sameOf", desc := "(I)I" } : Jvm.MethodName)) ∈ tG := mG (List.mem_append_right _ (List.mem_append_right _ (List.mem_append_left _ (List.mem_of_getElem? (i := 191) rfl)))) rfl
set_option maxRecDepth 20000 in
theorem w_432 : (Jvm.Cond.selects "VoiceHouse$PairBook" ({ cls := "VoiceHouse$PairBook", name := "sameOf", desc := "(I)I" } : Jvm.MethodName) ({ cls := "VoiceHouse$PairBook", name := "sameOf", desc := "(I)I" } : Jvm.MethodName)) ∈ tG := mG (List.mem_append_right _ (List.mem_append_right _ (List.mem_append_left _ (List.mem_of_getElem? (i := 192) rfl)))) rfl
set_option maxRecDepth 20000 in
theorem w_433 : (Jvm.Cond.code ({ cls := "VoiceHouse$PairBook", name := "sameOf", desc := "(I)I" } : Jvm.MethodName) prog_5_method_16_code (2 : Nat) (Option.some Jvm.ClassFile.FieldType.int)) ∈ tG := mG (List.mem_append_right _ (List.mem_append_right _ (List.mem_append_left _ (List.mem_of_getElem? (i := 193) rfl)))) rfl
set_option maxRecDepth 20000 in
theorem w_434 : (Jvm.Cond.methodLink "VoiceHouse" (156 : Nat) ({ cls := "VoiceHouse$PairBook", name := "allSame", desc := "()I" } : Jvm.MethodName)) ∈ tG := mG (List.mem_append_right _ (List.mem_append_right _ (List.mem_append_left _ (List.mem_of_getElem? (i := 194) rfl)))) rfl
set_option maxRecDepth 20000 in
theorem w_435 : (Jvm.Cond.instanceMethod ({ cls := "VoiceHouse$PairBook", name := "allSame", desc := "()I" } : Jvm.MethodName)) ∈ tG := mG (List.mem_append_right _ (List.mem_append_right _ (List.mem_append_left _ (List.mem_of_getElem? (i := 195) rfl)))) rfl
set_option maxRecDepth 20000 in
theorem w_436 : (Jvm.Cond.selects "VoiceHouse$PairBook" ({ cls := "VoiceHouse$PairBook", name := "allSame", desc := "()I" } : Jvm.MethodName) ({ cls := "VoiceHouse$PairBook", name := "allSame", desc := "()I" } : Jvm.MethodName)) ∈ tG := mG (List.mem_append_right _ (List.mem_append_right _ (List.mem_append_left _ (List.mem_of_getElem? (i := 196) rfl)))) rfl
set_option maxRecDepth 20000 in
theorem w_437 : (Jvm.Cond.code ({ cls := "VoiceHouse$PairBook", name := "allSame", desc := "()I" } : Jvm.MethodName) prog_5_method_19_code (1 : Nat) (Option.some Jvm.ClassFile.FieldType.int)) ∈ tG := mG (List.mem_append_right _ (List.mem_append_right _ (List.mem_append_left _ (List.mem_of_getElem? (i := 197) rfl)))) rfl
set_option maxRecDepth 20000 in
theorem w_438 : (Jvm.Cond.methodLink "VoiceHouse" (160 : Nat) ({ cls := "VoiceHouse$PairBook", name := "otherOf", desc := "(I)I" } : Jvm.MethodName)) ∈ tG := mG (List.mem_append_right _ (List.mem_append_right _ (List.mem_append_left _ (List.mem_of_getElem? (i := 198) rfl)))) rfl
set_option maxRecDepth 20000 in
theorem w_439 : (Jvm.Cond.instanceMethod ({ cls := "VoiceHouse$PairBook", name := "otherOf", desc := "(I)I" } : Jvm.MethodName)) ∈ tG := mG (List.mem_append_right _ (List.mem_append_right _ (List.mem_append_left _ (List.mem_of_getElem? (i := 199) rfl)))) rfl
set_option maxRecDepth 20000 in
theorem w_440 : (Jvm.Cond.selects "VoiceHouse$PairBook" ({ cls := "VoiceHouse$PairBook", name := "otherOf", desc := "(I)I" } : Jvm.MethodName) ({ cls := "VoiceHouse$PairBook", name := "otherOf", desc := "(I)I" } : Jvm.MethodName)) ∈ tG := mG (List.mem_append_right _ (List.mem_append_right _ (List.mem_append_left _ (List.mem_of_getElem? (i := 200) rfl)))) rfl
set_option maxRecDepth 20000 in
theorem w_441 : (Jvm.Cond.code ({ cls := "VoiceHouse$PairBook", name := "otherOf", desc := "(I)I" } : Jvm.MethodName) prog_5_method_17_code (2 : Nat) (Option.some Jvm.ClassFile.FieldType.int)) ∈ tG := mG (List.mem_append_right _ (List.mem_append_right _ (List.mem_append_left _ (List.mem_of_getElem? (i := 201) rfl)))) rfl
set_option maxRecDepth 20000 in
theorem w_442 : (Jvm.Cond.methodLink "VoiceHouse" (163 : Nat) ({ cls := "VoiceHouse$PairBook", name := "allOther", desc := "()I" } : Jvm.MethodName)) ∈ tG := mG (List.mem_append_right _ (List.mem_append_right _ (List.mem_append_left _ (List.mem_of_getElem? (i := 202) rfl)))) rfl
set_option maxRecDepth 20000 in
theorem w_443 : (Jvm.Cond.instanceMethod ({ cls := "VoiceHouse$PairBook", name := "allOther", desc := "()I" } : Jvm.MethodName)) ∈ tG := mG (List.mem_append_right _ (List.mem_append_right _ (List.mem_append_left _ (List.mem_of_getElem? (i := 203) rfl)))) rfl
set_option maxRecDepth 20000 in
theorem w_444 : (Jvm.Cond.selects "VoiceHouse$PairBook" ({ cls := "VoiceHouse$PairBook", name := "allOther", desc := "()I" } : Jvm.MethodName) ({ cls := "VoiceHouse$PairBook", name := "allOther", desc := "()I" } : Jvm.MethodName)) ∈ tG := mG (List.mem_append_right _ (List.mem_append_right _ (List.mem_append_left _ (List.mem_of_getElem? (i := 204) rfl)))) rfl
set_option maxRecDepth 20000 in
theorem w_445 : (Jvm.Cond.code ({ cls := "VoiceHouse$PairBook", name := "allOther", desc := "()I" } : Jvm.MethodName) prog_5_method_20_code (1 : Nat) (Option.some Jvm.ClassFile.FieldType.int)) ∈ tG := mG (List.mem_append_right _ (List.mem_append_right _ (List.mem_append_left _ (List.mem_of_getElem? (i := 205) rfl)))) rfl
set_option maxRecDepth 20000 in
theorem w_446 : (Jvm.Cond.methodLink "VoiceHouse" (166 : Nat) ({ cls := "VoiceHouse$PairBook", name := "reaches", desc := "(I)Z" } : Jvm.MethodName)) ∈ tG := mG (List.mem_append_right _ (List.mem_append_right _ (List.mem_append_left _ (List.mem_of_getElem? (i := 206) rfl)))) rfl
set_option maxRecDepth 20000 in
theorem w_447 : (Jvm.Cond.instanceMethod ({ cls := "VoiceHouse$PairBook", name := "reaches", desc := "(I)Z" } : Jvm.MethodName)) ∈ tG := mG (List.mem_append_right _ (List.mem_append_right _ (List.mem_append_left _ (List.mem_of_getElem? (i := 207) rfl)))) rfl
set_option maxRecDepth 20000 in
theorem w_448 : (Jvm.Cond.selects "VoiceHouse$PairBook" ({ cls := "VoiceHouse$PairBook", name := "reaches", desc := "(I)Z" } : Jvm.MethodName) ({ cls := "VoiceHouse$PairBook", name := "reaches", desc := "(I)Z" } : Jvm.MethodName)) ∈ tG := mG (List.mem_append_right _ (List.mem_append_right _ (List.mem_append_left _ (List.mem_of_getElem? (i := 208) rfl)))) rfl
set_option maxRecDepth 20000 in
theorem w_449 : (Jvm.Cond.code ({ cls := "VoiceHouse$PairBook", name := "reaches", desc := "(I)Z" } : Jvm.MethodName) prog_5_method_18_code (2 : Nat) (Option.some Jvm.ClassFile.FieldType.boolean)) ∈ tG := mG (List.mem_append_right _ (List.mem_append_right _ (List.mem_append_left _ (List.mem_of_getElem? (i := 209) rfl)))) rfl
set_option maxRecDepth 20000 in
theorem w_450 : (Jvm.Cond.methodLink "VoiceHouseLaw" (61 : Nat) ({ cls := "VoiceHouse", name := "segment", desc := "(I)I" } : Jvm.MethodName)) ∈ tG := mG (List.mem_append_right _ (List.mem_append_right _ (List.mem_append_left _ (List.mem_of_getElem? (i := 210) rfl)))) rfl
set_option maxRecDepth 20000 in
theorem w_451 : (Jvm.Cond.instanceMethod ({ cls := "VoiceHouse", name := "segment", desc := "(I)I" } : Jvm.MethodName)) ∈ tG := mG (List.mem_append_right _ (List.mem_append_right _ (List.mem_append_left _ (List.mem_of_getElem? (i := 211) rfl)))) rfl
set_option maxRecDepth 20000 in
theorem w_452 : (Jvm.Cond.selects "VoiceHouse" ({ cls := "VoiceHouse", name := "segment", desc := "(I)I" } : Jvm.MethodName) ({ cls := "VoiceHouse", name := "segment", desc := "(I)I" } : Jvm.MethodName)) ∈ tG := mG (List.mem_append_right _ (List.mem_append_right _ (List.mem_append_left _ (List.mem_of_getElem? (i := 212) rfl)))) rfl
set_option maxRecDepth 20000 in
theorem w_453 : (Jvm.Cond.code ({ cls := "VoiceHouse", name := "segment", desc := "(I)I" } : Jvm.MethodName) prog_1_method_13_code (2 : Nat) (Option.some Jvm.ClassFile.FieldType.int)) ∈ tG := mG (List.mem_append_right _ (List.mem_append_right _ (List.mem_append_left _ (List.mem_of_getElem? (i := 213) rfl)))) rfl
set_option maxRecDepth 20000 in
theorem w_454 : (Jvm.Cond.methodLink "VoiceHouse" (169 : Nat) ({ cls := "VoiceHouse$Segments", name := "isFull", desc := "()Z" } : Jvm.MethodName)) ∈ tG := mG (List.mem_append_right _ (List.mem_append_right _ (List.mem_append_left _ (List.mem_of_getElem? (i := 214) rfl)))) rfl
set_option maxRecDepth 20000 in
theorem w_455 : (Jvm.Cond.instanceMethod ({ cls := "VoiceHouse$Segments", name := "isFull", desc := "()Z" } : Jvm.MethodName)) ∈ tG := mG (List.mem_append_right _ (List.mem_append_right _ (List.mem_append_left _ (List.mem_of_getElem? (i := 215) rfl)))) rfl
set_option maxRecDepth 20000 in
theorem w_456 : (Jvm.Cond.selects "VoiceHouse$Segments" ({ cls := "VoiceHouse$Segments", name := "isFull", desc := "()Z" } : Jvm.MethodName) ({ cls := "VoiceHouse$Segments", name := "isFull", desc := "()Z" } : Jvm.MethodName)) ∈ tG := mG (List.mem_append_right _ (List.mem_append_right _ (List.mem_append_left _ (List.mem_of_getElem? (i := 216) rfl)))) rfl
set_option maxRecDepth 20000 in
theorem w_457 : (Jvm.Cond.code ({ cls := "VoiceHouse$Segments", name := "isFull", desc := "()Z" } : Jvm.MethodName) prog_7_method_3_code (1 : Nat) (Option.some Jvm.ClassFile.FieldType.boolean)) ∈ tG := mG (List.mem_append_right _ (List.mem_append_right _ (List.mem_append_left _ (List.mem_of_getElem? (i := 217) rfl)))) rfl
set_option maxRecDepth 20000 in
theorem w_458 : (Jvm.Cond.methodLink "VoiceHouse" (170 : Nat) ({ cls := "VoiceHouse$Segments", name := "isListed", desc := "(I)Z" } : Jvm.MethodName)) ∈ tG := mG (List.mem_append_right _ (List.mem_append_right _ (List.mem_append_left _ (List.mem_of_getElem? (i := 218) rfl)))) rfl
set_option maxRecDepth 20000 in
theorem w_459 : (Jvm.Cond.instanceMethod ({ cls := "VoiceHouse$Segments", name := "isListed", desc := "(I)Z" } : Jvm.MethodName)) ∈ tG := mG (List.mem_append_right _ (List.mem_append_right _ (List.mem_append_left _ (List.mem_of_getElem? (i := 219) rfl)))) rfl
set_option maxRecDepth 20000 in
theorem w_460 : (Jvm.Cond.selects "VoiceHouse$Segments" ({ cls := "VoiceHouse$Segments", name := "isListed", desc := "(I)Z" } : Jvm.MethodName) ({ cls := "VoiceHouse$Segments", name := "isListed", desc := "(I)Z" } : Jvm.MethodName)) ∈ tG := mG (List.mem_append_right _ (List.mem_append_right _ (List.mem_append_left _ (List.mem_of_getElem? (i := 220) rfl)))) rfl
set_option maxRecDepth 20000 in
theorem w_461 : (Jvm.Cond.code ({ cls := "VoiceHouse$Segments", name := "isListed", desc := "(I)Z" } : Jvm.MethodName) prog_7_method_4_code (3 : Nat) (Option.some Jvm.ClassFile.FieldType.boolean)) ∈ tG := mG (List.mem_append_right _ (List.mem_append_right _ (List.mem_append_left _ (List.mem_of_getElem? (i := 221) rfl)))) rfl
set_option maxRecDepth 20000 in
theorem w_462 : (Jvm.Cond.methodLink "VoiceHouse" (173 : Nat) ({ cls := "VoiceHouse$Segments", name := "add", desc := "(I)V" } : Jvm.MethodName)) ∈ tG := mG (List.mem_append_right _ (List.mem_append_right _ (List.mem_append_left _ (List.mem_of_getElem? (i := 222) rfl)))) rfl
set_option maxRecDepth 20000 in
theorem w_463 : (Jvm.Cond.instanceMethod ({ cls := "VoiceHouse$Segments", name := "add", desc := "(I)V" } : Jvm.MethodName)) ∈ tG := mG (List.mem_append_right _ (List.mem_append_right _ (List.mem_append_left _ (List.mem_of_getElem? (i := 223) rfl)))) rfl
set_option maxRecDepth 20000 in
theorem w_464 : (Jvm.Cond.selects "VoiceHouse$Segments" ({ cls := "VoiceHouse$Segments", name := "add", desc := "(I)V" } : Jvm.MethodName) ({ cls := "VoiceHouse$Segments", name := "add", desc := "(I)V" } : Jvm.MethodName)) ∈ tG := mG (List.mem_append_right _ (List.mem_append_right _ (List.mem_append_left _ (List.mem_of_getElem? (i := 224) rfl)))) rfl
set_option maxRecDepth 20000 in
theorem w_465 : (Jvm.Cond.code ({ cls := "VoiceHouse$Segments", name := "add", desc := "(I)V" } : Jvm.MethodName) prog_7_method_5_code (2 : Nat) (Option.none : Option Jvm.ClassFile.FieldType)) ∈ tG := mG (List.mem_append_right _ (List.mem_append_right _ (List.mem_append_left _ (List.mem_of_getElem? (i := 225) rfl)))) rfl
set_option maxRecDepth 20000 in
theorem w_466 : (Jvm.Cond.methodLink "VoiceHouse" (175 : Nat) ({ cls := "VoiceHouse$Segments", name := "size", desc := "()I" } : Jvm.MethodName)) ∈ tG := mG (List.mem_append_right _ (List.mem_append_right _ (List.mem_append_left _ (List.mem_of_getElem? (i := 226) rfl)))) rfl
set_option maxRecDepth 20000 in
theorem w_467 : (Jvm.Cond.instanceMethod ({ cls := "VoiceHouse$Segments", name := "size", desc := "()I" } : Jvm.MethodName)) ∈ tG := mG (List.mem_append_right _ (List.mem_append_right _ (List.mem_append_left _ (List.mem_of_getElem? (i := 227) rfl)))) rfl
set_option maxRecDepth 20000 in
theorem w_468 : (Jvm.Cond.selects "VoiceHouse$Segments" ({ cls := "VoiceHouse$Segments", name := "size", desc := "()I" } : Jvm.MethodName) ({ cls := "VoiceHouse$Segments", name := "size", desc := "()I" } : Jvm.MethodName)) ∈ tG := mG (List.mem_append_right _ (List.mem_append_right _ (List.mem_append_left _ (List.mem_of_getElem? (i := 228) rfl)))) rfl
set_option maxRecDepth 20000 in
theorem w_469 : (Jvm.Cond.code ({ cls := "VoiceHouse$Segments", name := "size", desc := "()I" } : Jvm.MethodName) prog_7_method_2_code (1 : Nat) (Option.some Jvm.ClassFile.FieldType.int)) ∈ tG := mG (List.mem_append_right _ (List.mem_append_right _ (List.mem_append_left _ (List.mem_of_getElem? (i := 229) rfl)))) rfl
set_option maxRecDepth 20000 in
theorem w_470 : (Jvm.Cond.methodLink "VoiceHouseLaw" (66 : Nat) ({ cls := "VoiceHouse", name := "clear", desc := "()I" } : Jvm.MethodName)) ∈ tG := mG (List.mem_append_right _ (List.mem_append_right _ (List.mem_append_left _ (List.mem_of_getElem? (i := 230) rfl)))) rfl
set_option maxRecDepth 20000 in
theorem w_471 : (Jvm.Cond.instanceMethod ({ cls := "VoiceHouse", name := "clear", desc := "()I" } : Jvm.MethodName)) ∈ tG := mG (List.mem_append_right _ (List.mem_append_right _ (List.mem_append_left _ (List.mem_of_getElem? (i := 231) rfl)))) rfl
set_option maxRecDepth 20000 in
theorem w_472 : (Jvm.Cond.selects "VoiceHouse" ({ cls := "VoiceHouse", name := "clear", desc := "()I" } : Jvm.MethodName) ({ cls := "VoiceHouse", name := "clear", desc := "()I" } : Jvm.MethodName)) ∈ tG := mG (List.mem_append_right _ (List.mem_append_right _ (List.mem_append_left _ (List.mem_of_getElem? (i := 232) rfl)))) rfl
set_option maxRecDepth 20000 in
theorem w_473 : (Jvm.Cond.code ({ cls := "VoiceHouse", name := "clear", desc := "()I" } : Jvm.MethodName) prog_1_method_14_code (1 : Nat) (Option.some Jvm.ClassFile.FieldType.int)) ∈ tG := mG (List.mem_append_right _ (List.mem_append_right _ (List.mem_append_left _ (List.mem_of_getElem? (i := 233) rfl)))) rfl
set_option maxRecDepth 20000 in
theorem w_474 : (Jvm.Cond.methodLink "VoiceHouse" (178 : Nat) ({ cls := "VoiceHouse$Segments", name := "empty", desc := "()I" } : Jvm.MethodName)) ∈ tG := mG (List.mem_append_right _ (List.mem_append_right _ (List.mem_append_left _ (List.mem_of_getElem? (i := 234) rfl)))) rfl
set_option maxRecDepth 20000 in
theorem w_475 : (Jvm.Cond.instanceMethod ({ cls := "VoiceHouse$Segments", name := "empty", desc := "()I" } : Jvm.MethodName)) ∈ tG := mG (List.mem_append_right _ (List.mem_append_right _ (List.mem_append_left _ (List.mem_of_getElem? (i := 235) rfl)))) rfl
set_option maxRecDepth 20000 in
theorem w_476 : (Jvm.Cond.selects "VoiceHouse$Segments" ({ cls := "VoiceHouse$Segments", name := "empty", desc := "()I" } : Jvm.MethodName) ({ cls := "VoiceHouse$Segments", name := "empty", desc := "()I" } : Jvm.MethodName)) ∈ tG := mG (List.mem_append_right _ (List.mem_append_right _ (List.mem_append_left _ (List.mem_of_getElem? (i := 236) rfl)))) rfl
set_option maxRecDepth 20000 in
theorem w_477 : (Jvm.Cond.code ({ cls := "VoiceHouse$Segments", name := "empty", desc := "()I" } : Jvm.MethodName) prog_7_method_6_code (2 : Nat) (Option.some Jvm.ClassFile.FieldType.int)) ∈ tG := mG (List.mem_append_right _ (List.mem_append_right _ (List.mem_append_left _ (List.mem_of_getElem? (i := 237) rfl)))) rfl
set_option maxRecDepth 20000 in
theorem w_478 : (Jvm.Cond.methodLink "VoiceHouseLaw" (71 : Nat) ({ cls := "VoiceHouse", name := "voice", desc := "(I)I" } : Jvm.MethodName)) ∈ tG := mG (List.mem_append_right _ (List.mem_append_right _ (List.mem_append_left _ (List.mem_of_getElem? (i := 238) rfl)))) rfl
set_option maxRecDepth 20000 in
theorem w_479 : (Jvm.Cond.instanceMethod ({ cls := "VoiceHouse", name := "voice", desc := "(I)I" } : Jvm.MethodName)) ∈ tG := mG (List.mem_append_right _ (List.mem_append_right _ (List.mem_append_left _ (List.mem_of_getElem? (i := 239) rfl)))) rfl
set_option maxRecDepth 20000 in
theorem w_480 : (Jvm.Cond.selects "VoiceHouse" ({ cls := "VoiceHouse", name := "voice", desc := "(I)I" } : Jvm.MethodName) ({ cls := "VoiceHouse", name := "voice", desc := "(I)I" } : Jvm.MethodName)) ∈ tG := mG (List.mem_append_right _ (List.mem_append_right _ (List.mem_append_right _ (List.mem_append_left _ (List.mem_of_getElem? (i := 0) rfl))))) rfl
set_option maxRecDepth 20000 in
theorem w_481 : (Jvm.Cond.code ({ cls := "VoiceHouse", name := "voice", desc := "(I)I" } : Jvm.MethodName) prog_1_method_15_code (2 : Nat) (Option.some Jvm.ClassFile.FieldType.int)) ∈ tG := mG (List.mem_append_right _ (List.mem_append_right _ (List.mem_append_right _ (List.mem_append_left _ (List.mem_of_getElem? (i := 1) rfl))))) rfl
set_option maxRecDepth 20000 in
theorem w_482 : (Jvm.Cond.methodLink "VoiceHouse" (181 : Nat) ({ cls := "VoiceHouse$Segments", name := "join", desc := "(I)V" } : Jvm.MethodName)) ∈ tG := mG (List.mem_append_right _ (List.mem_append_right _ (List.mem_append_right _ (List.mem_append_left _ (List.mem_of_getElem? (i := 2) rfl))))) rfl
set_option maxRecDepth 20000 in
theorem w_483 : (Jvm.Cond.instanceMethod ({ cls := "VoiceHouse$Segments", name := "join", desc := "(I)V" } : Jvm.MethodName)) ∈ tG := mG (List.mem_append_right _ (List.mem_append_right _ (List.mem_append_right _ (List.mem_append_left _ (List.mem_of_getElem? (i := 3) rfl))))) rfl
set_option maxRecDepth 20000 in
theorem w_484 : (Jvm.Cond.selects "VoiceHouse$Segments" ({ cls := "VoiceHouse$Segments", name := "join", desc := "(I)V" } : Jvm.MethodName) ({ cls := "VoiceHouse$Segments", name := "join", desc := "(I)V" } : Jvm.MethodName)) ∈ tG := mG (List.mem_append_right _ (List.mem_append_right _ (List.mem_append_right _ (List.mem_append_left _ (List.mem_of_getElem? (i := 4) rfl))))) rfl
set_option maxRecDepth 20000 in
theorem w_485 : (Jvm.Cond.code ({ cls := "VoiceHouse$Segments", name := "join", desc := "(I)V" } : Jvm.MethodName) prog_7_method_8_code (3 : Nat) (Option.none : Option Jvm.ClassFile.FieldType)) ∈ tG := mG (List.mem_append_right _ (List.mem_append_right _ (List.mem_append_right _ (List.mem_append_left _ (List.mem_of_getElem? (i := 5) rfl))))) rfl
set_option maxRecDepth 20000 in
theorem w_486 : (Jvm.Cond.methodLink "VoiceHouse$Segments" (47 : Nat) ({ cls := "VoiceHouse$Segments", name := "readScores", desc := "()V" } : Jvm.MethodName)) ∈ tG := mG (List.mem_append_right _ (List.mem_append_right _ (List.mem_append_right _ (List.mem_append_left _ (List.mem_of_getElem? (i := 6) rfl))))) rfl
set_option maxRecDepth 20000 in
theorem w_488 : (Jvm.Cond.instanceMethod ({ cls := "VoiceHouse$Segments", name := "readScores", desc := "()V" } : Jvm.MethodName)) ∈ tG := mG (List.mem_append_right _ (List.mem_append_right _ (List.mem_append_right _ (List.mem_append_left _ (List.mem_of_getElem? (i := 8) rfl))))) rfl
set_option maxRecDepth 20000 in
theorem w_489 : (Jvm.Cond.code ({ cls := "VoiceHouse$Segments", name := "readScores", desc := "()V" } : Jvm.MethodName) prog_7_method_7_code (4 : Nat) (Option.none : Option Jvm.ClassFile.FieldType)) ∈ tG := mG (List.mem_append_right _ (List.mem_append_right _ (List.mem_append_right _ (List.mem_append_left _ (List.mem_of_getElem? (i := 9) rfl))))) rfl
set_option maxRecDepth 20000 in
theorem w_490 : (Jvm.Cond.methodLink "VoiceHouse$Segments" (41 : Nat) ({ cls := "VoiceHouse$Scores", name := "between", desc := "(II)I" } : Jvm.MethodName)) ∈ tG := mG (List.mem_append_right _ (List.mem_append_right _ (List.mem_append_right _ (List.mem_append_left _ (List.mem_of_getElem? (i := 10) rfl))))) rfl
set_option maxRecDepth 20000 in
theorem w_491 : (Jvm.Cond.methodLink "VoiceHouse$Segments" (50 : Nat) ({ cls := "VoiceHouse$Segments", name := "joinNearestTwo", desc := "(I)Z" } : Jvm.MethodName)) ∈ tG := mG (List.mem_append_right _ (List.mem_append_right _ (List.mem_append_right _ (List.mem_append_left _ (List.mem_of_getElem? (i := 11) rfl))))) rfl
set_option maxRecDepth 20000 in
theorem w_493 : (Jvm.Cond.instanceMethod ({ cls := "VoiceHouse$Segments", name := "joinNearestTwo", desc := "(I)Z" } : Jvm.MethodName)) ∈ tG := mG (List.mem_append_right _ (List.mem_append_right _ (List.mem_append_right _ (List.mem_append_left _ (List.mem_of_getElem? (i := 13) rfl))))) rfl
set_option maxRecDepth 20000 in
theorem w_494 : (Jvm.Cond.code ({ cls := "VoiceHouse$Segments", name := "joinNearestTwo", desc := "(I)Z" } : Jvm.MethodName) prog_7_method_9_code (9 : Nat) (Option.some Jvm.ClassFile.FieldType.boolean)) ∈ tG := mG (List.mem_append_right _ (List.mem_append_right _ (List.mem_append_right _ (List.mem_append_left _ (List.mem_of_getElem? (i := 14) rfl))))) rfl
set_option maxRecDepth 20000 in
theorem w_495 : (Jvm.Cond.methodLink "VoiceHouse$Segments" (54 : Nat) ({ cls := "VoiceHouse$Segments", name := "isVoice", desc := "(I)Z" } : Jvm.MethodName)) ∈ tG := mG (List.mem_append_right _ (List.mem_append_right _ (List.mem_append_right _ (List.mem_append_left _ (List.mem_of_getElem? (i := 15) rfl))))) rfl
set_option maxRecDepth 20000 in
theorem w_497 : (Jvm.Cond.instanceMethod ({ cls := "VoiceHouse$Segments", name := "isVoice", desc := "(I)Z" } : Jvm.MethodName)) ∈ tG := mG (List.mem_append_right _ (List.mem_append_right _ (List.mem_append_right _ (List.mem_append_left _ (List.mem_of_getElem? (i := 17) rfl))))) rfl
set_option maxRecDepth 20000 in
theorem w_498 : (Jvm.Cond.code ({ cls := "VoiceHouse$Segments", name := "isVoice", desc := "(I)Z" } : Jvm.MethodName) prog_7_method_10_code (2 : Nat) (Option.some Jvm.ClassFile.FieldType.boolean)) ∈ tG := mG (List.mem_append_right _ (List.mem_append_right _ (List.mem_append_right _ (List.mem_append_left _ (List.mem_of_getElem? (i := 18) rfl))))) rfl
set_option maxRecDepth 20000 in
theorem w_499 : (Jvm.Cond.methodLink "VoiceHouse$Segments" (57 : Nat) ({ cls := "VoiceHouse$Segments", name := "measureCross", desc := "(II)Z" } : Jvm.MethodName)) ∈ tG := mG (List.mem_append_right _ (List.mem_append_right _ (List.mem_append_right _ (List.mem_append_left _ (List.mem_of_getElem? (i := 19) rfl))))) rfl
set_option maxRecDepth 20000 in
theorem w_501 : (Jvm.Cond.instanceMethod ({ cls := "VoiceHouse$Segments", name := "measureCross", desc := "(II)Z" } : Jvm.MethodName)) ∈ tG := mG (List.mem_append_right _ (List.mem_append_right _ (List.mem_append_right _ (List.mem_append_left _ (List.mem_of_getElem? (i := 21) rfl))))) rfl
set_option maxRecDepth 20000 in
theorem w_502 : (Jvm.Cond.code ({ cls := "VoiceHouse$Segments", name := "measureCross", desc := "(II)Z" } : Jvm.MethodName) prog_7_method_11_code (6 : Nat) (Option.some Jvm.ClassFile.FieldType.boolean)) ∈ tG := mG (List.mem_append_right _ (List.mem_append_right _ (List.mem_append_right _ (List.mem_append_left _ (List.mem_of_getElem? (i := 22) rfl))))) rfl
set_option maxRecDepth 20000 in
theorem w_503 : (Jvm.Cond.methodLink "VoiceHouse$Segments" (61 : Nat) ({ cls := "VoiceHouse$Segments", name := "putTogether", desc := "(II)V" } : Jvm.MethodName)) ∈ tG := mG (List.mem_append_right _ (List.mem_append_right _ (List.mem_append_right _ (List.mem_append_left _ (List.mem_of_getElem? (i := 23) rfl))))) rfl
set_option maxRecDepth 20000 in
theorem w_505 : (Jvm.Cond.instanceMethod ({ cls := "VoiceHouse$Segments", name := "putTogether", desc := "(II)V" } : Jvm.MethodName)) ∈ tG := mG (List.mem_append_right _ (List.mem_append_right _ (List.mem_append_right _ (List.mem_append_left _ (List.mem_of_getElem? (i := 25) rfl))))) rfl
set_option maxRecDepth 20000 in
theorem w_506 : (Jvm.Cond.code ({ cls := "VoiceHouse$Segments", name := "putTogether", desc := "(II)V" } : Jvm.MethodName) prog_7_method_12_code (4 : Nat) (Option.none : Option Jvm.ClassFile.FieldType)) ∈ tG := mG (List.mem_append_right _ (List.mem_append_right _ (List.mem_append_right _ (List.mem_append_left _ (List.mem_of_getElem? (i := 26) rfl))))) rfl
set_option maxRecDepth 20000 in
theorem w_507 : (Jvm.Cond.methodLink "VoiceHouse" (184 : Nat) ({ cls := "VoiceHouse$Segments", name := "voiceAt", desc := "(I)I" } : Jvm.MethodName)) ∈ tG := mG (List.mem_append_right _ (List.mem_append_right _ (List.mem_append_right _ (List.mem_append_left _ (List.mem_of_getElem? (i := 27) rfl))))) rfl
set_option maxRecDepth 20000 in
theorem w_508 : (Jvm.Cond.instanceMethod ({ cls := "VoiceHouse$Segments", name := "voiceAt", desc := "(I)I" } : Jvm.MethodName)) ∈ tG := mG (List.mem_append_right _ (List.mem_append_right _ (List.mem_append_right _ (List.mem_append_left _ (List.mem_of_getElem? (i := 28) rfl))))) rfl
set_option maxRecDepth 20000 in
theorem w_509 : (Jvm.Cond.selects "VoiceHouse$Segments" ({ cls := "VoiceHouse$Segments", name := "voiceAt", desc := "(I)I" } : Jvm.MethodName) ({ cls := "VoiceHouse$Segments", name := "voiceAt", desc := "(I)I" } : Jvm.MethodName)) ∈ tG := mG (List.mem_append_right _ (List.mem_append_right _ (List.mem_append_right _ (List.mem_append_left _ (List.mem_of_getElem? (i := 29) rfl))))) rfl
set_option maxRecDepth 20000 in
theorem w_510 : (Jvm.Cond.code ({ cls := "VoiceHouse$Segments", name := "voiceAt", desc := "(I)I" } : Jvm.MethodName) prog_7_method_13_code (2 : Nat) (Option.some Jvm.ClassFile.FieldType.int)) ∈ tG := mG (List.mem_append_right _ (List.mem_append_right _ (List.mem_append_right _ (List.mem_append_left _ (List.mem_of_getElem? (i := 30) rfl))))) rfl
set_option maxRecDepth 20000 in
theorem w_511 : (Jvm.Cond.methodLink "VoiceHouseLaw" (75 : Nat) ({ cls := "VoiceHouse", name := "voices", desc := "()I" } : Jvm.MethodName)) ∈ tG := mG (List.mem_append_right _ (List.mem_append_right _ (List.mem_append_right _ (List.mem_append_left _ (List.mem_of_getElem? (i := 31) rfl))))) rfl
set_option maxRecDepth 20000 in
theorem w_512 : (Jvm.Cond.instanceMethod ({ cls := "VoiceHouse", name := "voices", desc := "()I" } : Jvm.MethodName)) ∈ tG := mG (List.mem_append_right _ (List.mem_append_right _ (List.mem_append_right _ (List.mem_append_left _ (List.mem_of_getElem? (i := 32) rfl))))) rfl
set_option maxRecDepth 20000 in
theorem w_513 : (Jvm.Cond.selects "VoiceHouse" ({ cls := "VoiceHouse", name := "voices", desc := "()I" } : Jvm.MethodName) ({ cls := "VoiceHouse", name := "voices", desc := "()I" } : Jvm.MethodName)) ∈ tG := mG (List.mem_append_right _ (List.mem_append_right _ (List.mem_append_right _ (List.mem_append_left _ (List.mem_of_getElem? (i := 33) rfl))))) rfl
set_option maxRecDepth 20000 in
theorem w_514 : (Jvm.Cond.code ({ cls := "VoiceHouse", name := "voices", desc := "()I" } : Jvm.MethodName) prog_1_method_16_code (1 : Nat) (Option.some Jvm.ClassFile.FieldType.int)) ∈ tG := mG (List.mem_append_right _ (List.mem_append_right _ (List.mem_append_right _ (List.mem_append_left _ (List.mem_of_getElem? (i := 34) rfl))))) rfl
set_option maxRecDepth 20000 in
theorem w_515 : (Jvm.Cond.methodLink "VoiceHouse" (187 : Nat) ({ cls := "VoiceHouse$Segments", name := "countVoices", desc := "()I" } : Jvm.MethodName)) ∈ tG := mG (List.mem_append_right _ (List.mem_append_right _ (List.mem_append_right _ (List.mem_append_left _ (List.mem_of_getElem? (i := 35) rfl))))) rfl
set_option maxRecDepth 20000 in
theorem w_516 : (Jvm.Cond.instanceMethod ({ cls := "VoiceHouse$Segments", name := "countVoices", desc := "()I" } : Jvm.MethodName)) ∈ tG := mG (List.mem_append_right _ (List.mem_append_right _ (List.mem_append_right _ (List.mem_append_left _ (List.mem_of_getElem? (i := 36) rfl))))) rfl
set_option maxRecDepth 20000 in
theorem w_517 : (Jvm.Cond.selects "VoiceHouse$Segments" ({ cls := "VoiceHouse$Segments", name := "countVoices", desc := "()I" } : Jvm.MethodName) ({ cls := "VoiceHouse$Segments", name := "countVoices", desc := "()I" } : Jvm.MethodName)) ∈ tG := mG (List.mem_append_right _ (List.mem_append_right _ (List.mem_append_right _ (List.mem_append_left _ (List.mem_of_getElem? (i := 37) rfl))))) rfl
set_option maxRecDepth 20000 in
theorem w_518 : (Jvm.Cond.code ({ cls := "VoiceHouse$Segments", name := "countVoices", desc := "()I" } : Jvm.MethodName) prog_7_method_14_code (3 : Nat) (Option.some Jvm.ClassFile.FieldType.int)) ∈ tG := mG (List.mem_append_right _ (List.mem_append_right _ (List.mem_append_right _ (List.mem_append_left _ (List.mem_of_getElem? (i := 38) rfl))))) rfl
set_option maxRecDepth 20000 in
theorem w_519 : (Jvm.Cond.methodLink "VoiceHouseLaw" (79 : Nat) ({ cls := "VoiceHouse", name := "spare", desc := "()I" } : Jvm.MethodName)) ∈ tG := mG (List.mem_append_right _ (List.mem_append_right _ (List.mem_append_right _ (List.mem_append_left _ (List.mem_of_getElem? (i := 39) rfl))))) rfl
set_option maxRecDepth 20000 in
theorem w_520 : (Jvm.Cond.instanceMethod ({ cls := "VoiceHouse", name := "spare", desc := "()I" } : Jvm.MethodName)) ∈ tG := mG (List.mem_append_right _ (List.mem_append_right _ (List.mem_append_right _ (List.mem_append_left _ (List.mem_of_getElem? (i := 40) rfl))))) rfl
set_option maxRecDepth 20000 in
theorem w_521 : (Jvm.Cond.selects "VoiceHouse" ({ cls := "VoiceHouse", name := "spare", desc := "()I" } : Jvm.MethodName) ({ cls := "VoiceHouse", name := "spare", desc := "()I" } : Jvm.MethodName)) ∈ tG := mG (List.mem_append_right _ (List.mem_append_right _ (List.mem_append_right _ (List.mem_append_left _ (List.mem_of_getElem? (i := 41) rfl))))) rfl
set_option maxRecDepth 20000 in
theorem w_522 : (Jvm.Cond.code ({ cls := "VoiceHouse", name := "spare", desc := "()I" } : Jvm.MethodName) prog_1_method_17_code (1 : Nat) (Option.some Jvm.ClassFile.FieldType.int)) ∈ tG := mG (List.mem_append_right _ (List.mem_append_right _ (List.mem_append_right _ (List.mem_append_left _ (List.mem_of_getElem? (i := 42) rfl))))) rfl
set_option maxRecDepth 20000 in
theorem w_523 : (Jvm.Cond.methodLink "VoiceHouse" (190 : Nat) ({ cls := "VoiceHouse$Segments", name := "leastCost", desc := "(I)I" } : Jvm.MethodName)) ∈ tG := mG (List.mem_append_right _ (List.mem_append_right _ (List.mem_append_right _ (List.mem_append_left _ (List.mem_of_getElem? (i := 43) rfl))))) rfl
set_option maxRecDepth 20000 in
theorem w_524 : (Jvm.Cond.instanceMethod ({ cls := "VoiceHouse$Segments", name := "leastCost", desc := "(I)I" } : Jvm.MethodName)) ∈ tG := mG (List.mem_append_right _ (List.mem_append_right _ (List.mem_append_right _ (List.mem_append_left _ (List.mem_of_getElem? (i := 44) rfl))))) rfl
set_option maxRecDepth 20000 in
theorem w_525 : (Jvm.Cond.selects "VoiceHouse$Segments" ({ cls := "VoiceHouse$Segments", name := "leastCost", desc := "(I)I" } : Jvm.MethodName) ({ cls := "VoiceHouse$Segments", name := "leastCost", desc := "(I)I" } : Jvm.MethodName)) ∈ tG := mG (List.mem_append_right _ (List.mem_append_right _ (List.mem_append_right _ (List.mem_append_left _ (List.mem_of_getElem? (i := 45) rfl))))) rfl
set_option maxRecDepth 20000 in
theorem w_526 : (Jvm.Cond.code ({ cls := "VoiceHouse$Segments", name := "leastCost", desc := "(I)I" } : Jvm.MethodName) prog_7_method_15_code (4 : Nat) (Option.some Jvm.ClassFile.FieldType.int)) ∈ tG := mG (List.mem_append_right _ (List.mem_append_right _ (List.mem_append_right _ (List.mem_append_left _ (List.mem_of_getElem? (i := 46) rfl))))) rfl
set_option maxRecDepth 20000 in
theorem w_527 : (Jvm.Cond.methodLink "VoiceHouse$Segments" (65 : Nat) ({ cls := "VoiceHouse$Segments", name := "sumWithin", desc := "(I)I" } : Jvm.MethodName)) ∈ tG := mG (List.mem_append_right _ (List.mem_append_right _ (List.mem_append_right _ (List.mem_append_left _ (List.mem_of_getElem? (i := 47) rfl))))) rfl
set_option maxRecDepth 20000 in
theorem w_529 : (Jvm.Cond.instanceMethod ({ cls := "VoiceHouse$Segments", name := "sumWithin", desc := "(I)I" } : Jvm.MethodName)) ∈ tG := mG (List.mem_append_right _ (List.mem_append_right _ (List.mem_append_right _ (List.mem_append_left _ (List.mem_of_getElem? (i := 49) rfl))))) rfl
set_option maxRecDepth 20000 in
theorem w_530 : (Jvm.Cond.code ({ cls := "VoiceHouse$Segments", name := "sumWithin", desc := "(I)I" } : Jvm.MethodName) prog_7_method_16_code (7 : Nat) (Option.some Jvm.ClassFile.FieldType.int)) ∈ tG := mG (List.mem_append_right _ (List.mem_append_right _ (List.mem_append_right _ (List.mem_append_left _ (List.mem_of_getElem? (i := 50) rfl))))) rfl
set_option maxRecDepth 20000 in
theorem w_531 : (Jvm.Cond.methodLink "VoiceHouse$Segments" (72 : Nat) ({ cls := "java/lang/Integer", name := "numberOfTrailingZeros", desc := "(I)I" } : Jvm.MethodName)) ∈ tG := mG (List.mem_append_right _ (List.mem_append_right _ (List.mem_append_right _ (List.mem_append_left _ (List.mem_of_getElem? (i := 51) rfl))))) rfl
set_option maxRecDepth 20000 in
theorem w_532 : (Jvm.Cond.static ({ cls := "java/lang/Integer", name := "numberOfTrailingZeros", desc := "(I)I" } : Jvm.MethodName)) ∈ tG := mG (List.mem_append_right _ (List.mem_append_right _ (List.mem_append_right _ (List.mem_append_left _ (List.mem_of_getElem? (i := 52) rfl))))) rfl
set_option maxRecDepth 20000 in
theorem w_533 : (Jvm.Cond.code ({ cls := "java/lang/Integer", name := "numberOfTrailingZeros", desc := "(I)I" } : Jvm.MethodName) prog_11_method_48_code (2 : Nat) (Option.some Jvm.ClassFile.FieldType.int)) ∈ tG := mG (List.mem_append_right _ (List.mem_append_right _ (List.mem_append_right _ (List.mem_append_left _ (List.mem_of_getElem? (i := 53) rfl))))) rfl
set_option maxRecDepth 20000 in
theorem w_534 : (Jvm.Cond.constant "java/lang/Integer" (264 : Nat) (65536 : Int32)) ∈ tG := mG (List.mem_append_right _ (List.mem_append_right _ (List.mem_append_right _ (List.mem_append_left _ (List.mem_of_getElem? (i := 54) rfl))))) rfl
set_option maxRecDepth 20000 in
theorem w_535 : (Jvm.Cond.methodLink "VoiceHouse$Segments" (69 : Nat) ({ cls := "VoiceHouse$Segments", name := "leastOf", desc := "(II)I" } : Jvm.MethodName)) ∈ tG := mG (List.mem_append_right _ (List.mem_append_right _ (List.mem_append_right _ (List.mem_append_left _ (List.mem_of_getElem? (i := 55) rfl))))) rfl
set_option maxRecDepth 20000 in
theorem w_537 : (Jvm.Cond.instanceMethod ({ cls := "VoiceHouse$Segments", name := "leastOf", desc := "(II)I" } : Jvm.MethodName)) ∈ tG := mG (List.mem_append_right _ (List.mem_append_right _ (List.mem_append_right _ (List.mem_append_left _ (List.mem_of_getElem? (i := 57) rfl))))) rfl
set_option maxRecDepth 20000 in
theorem w_538 : (Jvm.Cond.code ({ cls := "VoiceHouse$Segments", name := "leastOf", desc := "(II)I" } : Jvm.MethodName) prog_7_method_17_code (8 : Nat) (Option.some Jvm.ClassFile.FieldType.int)) ∈ tG := mG (List.mem_append_right _ (List.mem_append_right _ (List.mem_append_right _ (List.mem_append_left _ (List.mem_of_getElem? (i := 58) rfl))))) rfl
set_option maxRecDepth 20000 in
theorem w_539 : (Jvm.Cond.methodLink "VoiceHouse$Segments" (77 : Nat) ({ cls := "java/lang/Math", name := "min", desc := "(II)I" } : Jvm.MethodName)) ∈ tG := mG (List.mem_append_right _ (List.mem_append_right _ (List.mem_append_right _ (List.mem_append_left _ (List.mem_of_getElem? (i := 59) rfl))))) rfl
set_option maxRecDepth 20000 in
theorem w_540 : (Jvm.Cond.methodLink "VoiceHouseLaw" (83 : Nat) ({ cls := "VoiceHouse", name := "lined", desc := "(II)I" } : Jvm.MethodName)) ∈ tG := mG (List.mem_append_right _ (List.mem_append_right _ (List.mem_append_right _ (List.mem_append_left _ (List.mem_of_getElem? (i := 60) rfl))))) rfl
set_option maxRecDepth 20000 in
theorem w_541 : (Jvm.Cond.instanceMethod ({ cls := "VoiceHouse", name := "lined", desc := "(II)I" } : Jvm.MethodName)) ∈ tG := mG (List.mem_append_right _ (List.mem_append_right _ (List.mem_append_right _ (List.mem_append_left _ (List.mem_of_getElem? (i := 61) rfl))))) rfl
set_option maxRecDepth 20000 in
theorem w_542 : (Jvm.Cond.selects "VoiceHouse" ({ cls := "VoiceHouse", name := "lined", desc := "(II)I" } : Jvm.MethodName) ({ cls := "VoiceHouse", name := "lined", desc := "(II)I" } : Jvm.MethodName)) ∈ tG := mG (List.mem_append_right _ (List.mem_append_right _ (List.mem_append_right _ (List.mem_append_left _ (List.mem_of_getElem? (i := 62) rfl))))) rfl
set_option maxRecDepth 20000 in
theorem w_543 : (Jvm.Cond.code ({ cls := "VoiceHouse", name := "lined", desc := "(II)I" } : Jvm.MethodName) prog_1_method_18_code (3 : Nat) (Option.some Jvm.ClassFile.FieldType.int)) ∈ tG := mG (List.mem_append_right _ (List.mem_append_right _ (List.mem_append_right _ (List.mem_append_left _ (List.mem_of_getElem? (i := 63) rfl))))) rfl
set_option maxRecDepth 20000 in
theorem w_544 : (Jvm.Cond.methodLink "VoiceHouse" (193 : Nat) ({ cls := "VoiceHouse$LineUp", name := "callFor", desc := "(II)V" } : Jvm.MethodName)) ∈ tG := mG (List.mem_append_right _ (List.mem_append_right _ (List.mem_append_right _ (List.mem_append_left _ (List.mem_of_getElem? (i := 64) rfl))))) rfl
set_option maxRecDepth 20000 in
theorem w_545 : (Jvm.Cond.instanceMethod ({ cls := "VoiceHouse$LineUp", name := "callFor", desc := "(II)V" } : Jvm.MethodName)) ∈ tG := mG (List.mem_append_right _ (List.mem_append_right _ (List.mem_append_right _ (List.mem_append_left _ (List.mem_of_getElem? (i := 65) rfl))))) rfl
set_option maxRecDepth 20000 in
theorem w_546 : (Jvm.Cond.selects "VoiceHouse$LineUp" ({ cls := "VoiceHouse$LineUp", name := "callFor", desc := "(II)V" } : Jvm.MethodName) ({ cls := "VoiceHouse$LineUp", name := "callFor", desc := "(II)V" } : Jvm.MethodName)) ∈ tG := mG (List.mem_append_right _ (List.mem_append_right _ (List.mem_append_right _ (List.mem_append_left _ (List.mem_of_getElem? (i := 66) rfl))))) rfl
set_option maxRecDepth 20000 in
theorem w_547 : (Jvm.Cond.code ({ cls := "VoiceHouse$LineUp", name := "callFor", desc := "(II)V" } : Jvm.MethodName) prog_4_method_2_code (5 : Nat) (Option.none : Option Jvm.ClassFile.FieldType)) ∈ tG := mG (List.mem_append_right _ (List.mem_append_right _ (List.mem_append_right _ (List.mem_append_left _ (List.mem_of_getElem? (i := 67) rfl))))) rfl
set_option maxRecDepth 20000 in
theorem w_548 : (Jvm.Cond.methodLink "VoiceHouse$LineUp" (30 : Nat) ({ cls := "VoiceHouse$Archive", name := "size", desc := "()I" } : Jvm.MethodName)) ∈ tG := mG (List.mem_append_right _ (List.mem_append_right _ (List.mem_append_right _ (List.mem_append_left _ (List.mem_of_getElem? (i := 68) rfl))))) rfl
set_option maxRecDepth 20000 in
theorem w_549 : (Jvm.Cond.methodLink "VoiceHouse$LineUp" (35 : Nat) ({ cls := "VoiceHouse$Archive", name := "isOfSet", desc := "(II)Z" } : Jvm.MethodName)) ∈ tG := mG (List.mem_append_right _ (List.mem_append_right _ (List.mem_append_right _ (List.mem_append_left _ (List.mem_of_getElem? (i := 69) rfl))))) rfl
set_option maxRecDepth 20000 in
theorem w_550 : (Jvm.Cond.methodLink "VoiceHouse$LineUp" (39 : Nat) ({ cls := "VoiceHouse$Scores", name := "between", desc := "(II)I" } : Jvm.MethodName)) ∈ tG := mG (List.mem_append_right _ (List.mem_append_right _ (List.mem_append_right _ (List.mem_append_left _ (List.mem_of_getElem? (i := 70) rfl))))) rfl
set_option maxRecDepth 20000 in
theorem w_551 : (Jvm.Cond.methodLink "VoiceHouse$LineUp" (45 : Nat) ({ cls := "VoiceHouse$LineUp", name := "insert", desc := "(II)V" } : Jvm.MethodName)) ∈ tG := mG (List.mem_append_right _ (List.mem_append_right _ (List.mem_append_right _ (List.mem_append_left _ (List.mem_of_getElem? (i := 71) rfl))))) rfl
set_option maxRecDepth 20000 in
theorem w_553 : (Jvm.Cond.instanceMethod ({ cls := "VoiceHouse$LineUp", name := "insert", desc := "(II)V" } : Jvm.MethodName)) ∈ tG := mG (List.mem_append_right _ (List.mem_append_right _ (List.mem_append_right _ (List.mem_append_left _ (List.mem_of_getElem? (i := 73) rfl))))) rfl
set_option maxRecDepth 20000 in
theorem w_554 : (Jvm.Cond.code ({ cls := "VoiceHouse$LineUp", name := "insert", desc := "(II)V" } : Jvm.MethodName) prog_4_method_3_code (4 : Nat) (Option.none : Option Jvm.ClassFile.FieldType)) ∈ tG := mG (List.mem_append_right _ (List.mem_append_right _ (List.mem_append_right _ (List.mem_append_left _ (List.mem_of_getElem? (i := 74) rfl))))) rfl
set_option maxRecDepth 20000 in
theorem w_555 : (Jvm.Cond.methodLink "VoiceHouse" (196 : Nat) ({ cls := "VoiceHouse$LineUp", name := "at", desc := "(I)I" } : Jvm.MethodName)) ∈ tG := mG (List.mem_append_right _ (List.mem_append_right _ (List.mem_append_right _ (List.mem_append_left _ (List.mem_of_getElem? (i := 75) rfl))))) rfl
set_option maxRecDepth 20000 in
theorem w_556 : (Jvm.Cond.instanceMethod ({ cls := "VoiceHouse$LineUp", name := "at", desc := "(I)I" } : Jvm.MethodName)) ∈ tG := mG (List.mem_append_right _ (List.mem_append_right _ (List.mem_append_right _ (List.mem_append_left _ (List.mem_of_getElem? (i := 76) rfl))))) rfl
set_option maxRecDepth 20000 in
theorem w_557 : (Jvm.Cond.selects "VoiceHouse$LineUp" ({ cls := "VoiceHouse$LineUp", name := "at", desc := "(I)I" } : Jvm.MethodName) ({ cls := "VoiceHouse$LineUp", name := "at", desc := "(I)I" } : Jvm.MethodName)) ∈ tG := mG (List.mem_append_right _ (List.mem_append_right _ (List.mem_append_right _ (List.mem_append_left _ (List.mem_of_getElem? (i := 77) rfl))))) rfl
set_option maxRecDepth 20000 in
theorem w_558 : (Jvm.Cond.code ({ cls := "VoiceHouse$LineUp", name := "at", desc := "(I)I" } : Jvm.MethodName) prog_4_method_4_code (2 : Nat) (Option.some Jvm.ClassFile.FieldType.int)) ∈ tG := mG (List.mem_append_right _ (List.mem_append_right _ (List.mem_append_right _ (List.mem_append_left _ (List.mem_of_getElem? (i := 78) rfl))))) rfl
set_option maxRecDepth 20000 in
theorem w_559 : (Jvm.Cond.methodLink "VoiceHouseLaw" (87 : Nat) ({ cls := "VoiceHouse", name := "rank", desc := "(II)I" } : Jvm.MethodName)) ∈ tG := mG (List.mem_append_right _ (List.mem_append_right _ (List.mem_append_right _ (List.mem_append_left _ (List.mem_of_getElem? (i := 79) rfl))))) rfl
set_option maxRecDepth 20000 in
theorem w_560 : (Jvm.Cond.instanceMethod ({ cls := "VoiceHouse", name := "rank", desc := "(II)I" } : Jvm.MethodName)) ∈ tG := mG (List.mem_append_right _ (List.mem_append_right _ (List.mem_append_right _ (List.mem_append_left _ (List.mem_of_getElem? (i := 80) rfl))))) rfl
set_option maxRecDepth 20000 in
theorem w_561 : (Jvm.Cond.selects "VoiceHouse" ({ cls := "VoiceHouse", name := "rank", desc := "(II)I" } : Jvm.MethodName) ({ cls := "VoiceHouse", name := "rank", desc := "(II)I" } : Jvm.MethodName)) ∈ tG := mG (List.mem_append_right _ (List.mem_append_right _ (List.mem_append_right _ (List.mem_append_left _ (List.mem_of_getElem? (i := 81) rfl))))) rfl
set_option maxRecDepth 20000 in
theorem w_562 : (Jvm.Cond.code ({ cls := "VoiceHouse", name := "rank", desc := "(II)I" } : Jvm.MethodName) prog_1_method_19_code (3 : Nat) (Option.some Jvm.ClassFile.FieldType.int)) ∈ tG := mG (List.mem_append_right _ (List.mem_append_right _ (List.mem_append_right _ (List.mem_append_left _ (List.mem_of_getElem? (i := 82) rfl))))) rfl
set_option maxRecDepth 20000 in
theorem w_563 : (Jvm.Cond.methodLink "VoiceHouse" (201 : Nat) ({ cls := "VoiceHouse$LineUp", name := "speakersAhead", desc := "(I)I" } : Jvm.MethodName)) ∈ tG := mG (List.mem_append_right _ (List.mem_append_right _ (List.mem_append_right _ (List.mem_append_left _ (List.mem_of_getElem? (i := 83) rfl))))) rfl
set_option maxRecDepth 20000 in
theorem w_564 : (Jvm.Cond.instanceMethod ({ cls := "VoiceHouse$LineUp", name := "speakersAhead", desc := "(I)I" } : Jvm.MethodName)) ∈ tG := mG (List.mem_append_right _ (List.mem_append_right _ (List.mem_append_right _ (List.mem_append_left _ (List.mem_of_getElem? (i := 84) rfl))))) rfl
set_option maxRecDepth 20000 in
theorem w_565 : (Jvm.Cond.selects "VoiceHouse$LineUp" ({ cls := "VoiceHouse$LineUp", name := "speakersAhead", desc := "(I)I" } : Jvm.MethodName) ({ cls := "VoiceHouse$LineUp", name := "speakersAhead", desc := "(I)I" } : Jvm.MethodName)) ∈ tG := mG (List.mem_append_right _ (List.mem_append_right _ (List.mem_append_right _ (List.mem_append_left _ (List.mem_of_getElem? (i := 85) rfl))))) rfl
set_option maxRecDepth 20000 in
theorem w_566 : (Jvm.Cond.code ({ cls := "VoiceHouse$LineUp", name := "speakersAhead", desc := "(I)I" } : Jvm.MethodName) prog_4_method_5_code (5 : Nat) (Option.some Jvm.ClassFile.FieldType.int)) ∈ tG := mG (List.mem_append_right _ (List.mem_append_right _ (List.mem_append_right _ (List.mem_append_left _ (List.mem_of_getElem? (i := 86) rfl))))) rfl
set_option maxRecDepth 20000 in
theorem w_567 : (Jvm.Cond.methodLink "VoiceHouse$LineUp" (49 : Nat) ({ cls := "VoiceHouse$Archive", name := "speakerOf", desc := "(I)I" } : Jvm.MethodName)) ∈ tG := mG (List.mem_append_right _ (List.mem_append_right _ (List.mem_append_right _ (List.mem_append_left _ (List.mem_of_getElem? (i := 87) rfl))))) rfl
set_option maxRecDepth 20000 in
theorem w_568 : (Jvm.Cond.methodLink "VoiceHouse$LineUp" (53 : Nat) ({ cls := "java/lang/Integer", name := "bitCount", desc := "(I)I" } : Jvm.MethodName)) ∈ tG := mG (List.mem_append_right _ (List.mem_append_right _ (List.mem_append_right _ (List.mem_append_left _ (List.mem_of_getElem? (i := 88) rfl))))) rfl
set_option maxRecDepth 20000 in
theorem w_569 : (Jvm.Cond.static ({ cls := "java/lang/Integer", name := "bitCount", desc := "(I)I" } : Jvm.MethodName)) ∈ tG := mG (List.mem_append_right _ (List.mem_append_right _ (List.mem_append_right _ (List.mem_append_left _ (List.mem_of_getElem? (i := 89) rfl))))) rfl
set_option maxRecDepth 20000 in
theorem w_570 : (Jvm.Cond.code ({ cls := "java/lang/Integer", name := "bitCount", desc := "(I)I" } : Jvm.MethodName) prog_11_method_49_code (1 : Nat) (Option.some Jvm.ClassFile.FieldType.int)) ∈ tG := mG (List.mem_append_right _ (List.mem_append_right _ (List.mem_append_right _ (List.mem_append_left _ (List.mem_of_getElem? (i := 90) rfl))))) rfl
set_option maxRecDepth 20000 in
theorem w_571 : (Jvm.Cond.constant "java/lang/Integer" (265 : Nat) (1431655765 : Int32)) ∈ tG := mG (List.mem_append_right _ (List.mem_append_right _ (List.mem_append_right _ (List.mem_append_left _ (List.mem_of_getElem? (i := 91) rfl))))) rfl
set_option maxRecDepth 20000 in
theorem w_572 : (Jvm.Cond.constant "java/lang/Integer" (266 : Nat) (858993459 : Int32)) ∈ tG := mG (List.mem_append_right _ (List.mem_append_right _ (List.mem_append_right _ (List.mem_append_left _ (List.mem_of_getElem? (i := 92) rfl))))) rfl
set_option maxRecDepth 20000 in
theorem w_573 : (Jvm.Cond.constant "java/lang/Integer" (267 : Nat) (252645135 : Int32)) ∈ tG := mG (List.mem_append_right _ (List.mem_append_right _ (List.mem_append_right _ (List.mem_append_left _ (List.mem_of_getElem? (i := 93) rfl))))) rfl
set_option maxRecDepth 20000 in
theorem w_574 : (Jvm.Cond.methodLink "VoiceHouseLaw" (91 : Nat) ({ cls := "VoiceHouse", name := "test", desc := "(II)I" } : Jvm.MethodName)) ∈ tG := mG (List.mem_append_right _ (List.mem_append_right _ (List.mem_append_right _ (List.mem_append_left _ (List.mem_of_getElem? (i := 94) rfl))))) rfl
set_option maxRecDepth 20000 in
theorem w_575 : (Jvm.Cond.instanceMethod ({ cls := "VoiceHouse", name := "test", desc := "(II)I" } : Jvm.MethodName)) ∈ tG := mG (List.mem_append_right _ (List.mem_append_right _ (List.mem_append_right _ (List.mem_append_left _ (List.mem_of_getElem? (i := 95) rfl))))) rfl
set_option maxRecDepth 20000 in
theorem w_576 : (Jvm.Cond.selects "VoiceHouse" ({ cls := "VoiceHouse", name := "test", desc := "(II)I" } : Jvm.MethodName) ({ cls := "VoiceHouse", name := "test", desc := "(II)I" } : Jvm.MethodName)) ∈ tG := mG (List.mem_append_right _ (List.mem_append_right _ (List.mem_append_right _ (List.mem_append_left _ (List.mem_of_getElem? (i := 96) rfl))))) rfl
set_option maxRecDepth 20000 in
theorem w_577 : (Jvm.Cond.code ({ cls := "VoiceHouse", name := "test", desc := "(II)I" } : Jvm.MethodName) prog_1_method_20_code (4 : Nat) (Option.some Jvm.ClassFile.FieldType.int)) ∈ tG := mG (List.mem_append_right _ (List.mem_append_right _ (List.mem_append_right _ (List.mem_append_left _ (List.mem_of_getElem? (i := 97) rfl))))) rfl
set_option maxRecDepth 20000 in
theorem w_578 : (Jvm.Cond.methodLink "VoiceHouse" (204 : Nat) ({ cls := "VoiceHouse$Archive", name := "isKnown", desc := "(I)Z" } : Jvm.MethodName)) ∈ tG := mG (List.mem_append_right _ (List.mem_append_right _ (List.mem_append_right _ (List.mem_append_left _ (List.mem_of_getElem? (i := 98) rfl))))) rfl
set_option maxRecDepth 20000 in
theorem w_579 : (Jvm.Cond.methodLink "VoiceHouse" (207 : Nat) ({ cls := "VoiceHouse$BlindTests", name := "areOver", desc := "()Z" } : Jvm.MethodName)) ∈ tG := mG (List.mem_append_right _ (List.mem_append_right _ (List.mem_append_right _ (List.mem_append_left _ (List.mem_of_getElem? (i := 99) rfl))))) rfl
set_option maxRecDepth 20000 in
theorem w_580 : (Jvm.Cond.instanceMethod ({ cls := "VoiceHouse$BlindTests", name := "areOver", desc := "()Z" } : Jvm.MethodName)) ∈ tG := mG (List.mem_append_right _ (List.mem_append_right _ (List.mem_append_right _ (List.mem_append_left _ (List.mem_of_getElem? (i := 100) rfl))))) rfl
set_option maxRecDepth 20000 in
theorem w_581 : (Jvm.Cond.selects "VoiceHouse$BlindTests" ({ cls := "VoiceHouse$BlindTests", name := "areOver", desc := "()Z" } : Jvm.MethodName) ({ cls := "VoiceHouse$BlindTests", name := "areOver", desc := "()Z" } : Jvm.MethodName)) ∈ tG := mG (List.mem_append_right _ (List.mem_append_right _ (List.mem_append_right _ (List.mem_append_left _ (List.mem_of_getElem? (i := 101) rfl))))) rfl
set_option maxRecDepth 20000 in
theorem w_582 : (Jvm.Cond.code ({ cls := "VoiceHouse$BlindTests", name := "areOver", desc := "()Z" } : Jvm.MethodName) prog_3_method_2_code (1 : Nat) (Option.some Jvm.ClassFile.FieldType.boolean)) ∈ tG := mG (List.mem_append_right _ (List.mem_append_right _ (List.mem_append_right _ (List.mem_append_left _ (List.mem_of_getElem? (i := 102) rfl))))) rfl
set_option maxRecDepth 20000 in
theorem w_583 : (Jvm.Cond.methodLink "VoiceHouse" (210 : Nat) ({ cls := "VoiceHouse$Archive", name := "speakerOf", desc := "(I)I" } : Jvm.MethodName)) ∈ tG := mG (List.mem_append_right _ (List.mem_append_right _ (List.mem_append_right _ (List.mem_append_left _ (List.mem_of_getElem? (i := 103) rfl))))) rfl
set_option maxRecDepth 20000 in
theorem w_584 : (Jvm.Cond.methodLink "VoiceHouse" (213 : Nat) ({ cls := "VoiceHouse$BlindTests", name := "put", desc := "(IIZ)I" } : Jvm.MethodName)) ∈ tG := mG (List.mem_append_right _ (List.mem_append_right _ (List.mem_append_right _ (List.mem_append_left _ (List.mem_of_getElem? (i := 104) rfl))))) rfl
set_option maxRecDepth 20000 in
theorem w_585 : (Jvm.Cond.instanceMethod ({ cls := "VoiceHouse$BlindTests", name := "put", desc := "(IIZ)I" } : Jvm.MethodName)) ∈ tG := mG (List.mem_append_right _ (List.mem_append_right _ (List.mem_append_right _ (List.mem_append_left _ (List.mem_of_getElem? (i := 105) rfl))))) rfl
set_option maxRecDepth 20000 in
theorem w_586 : (Jvm.Cond.selects "VoiceHouse$BlindTests" ({ cls := "VoiceHouse$BlindTests", name := "put", desc := "(IIZ)I" } : Jvm.MethodName) ({ cls := "VoiceHouse$BlindTests", name := "put", desc := "(IIZ)I" } : Jvm.MethodName)) ∈ tG := mG (List.mem_append_right _ (List.mem_append_right _ (List.mem_append_right _ (List.mem_append_left _ (List.mem_of_getElem? (i := 106) rfl))))) rfl
set_option maxRecDepth 20000 in
theorem w_587 : (Jvm.Cond.code ({ cls := "VoiceHouse$BlindTests", name := "put", desc := "(IIZ)I" } : Jvm.MethodName) prog_3_method_3_code (4 : Nat) (Option.some Jvm.ClassFile.FieldType.int)) ∈ tG := mG (List.mem_append_right _ (List.mem_append_right _ (List.mem_append_right _ (List.mem_append_left _ (List.mem_of_getElem? (i := 107) rfl))))) rfl
set_option maxRecDepth 20000 in
theorem w_588 : (Jvm.Cond.methodLink "VoiceHouseLaw" (95 : Nat) ({ cls := "VoiceHouse", name := "right", desc := "(I)I" } : Jvm.MethodName)) ∈ tG := mG (List.mem_append_right _ (List.mem_append_right _ (List.mem_append_right _ (List.mem_append_left _ (List.mem_of_getElem? (i := 108) rfl))))) rfl
set_option maxRecDepth 20000 in
theorem w_589 : (Jvm.Cond.instanceMethod ({ cls := "VoiceHouse", name := "right", desc := "(I)I" } : Jvm.MethodName)) ∈ tG := mG (List.mem_append_right _ (List.mem_append_right _ (List.mem_append_right _ (List.mem_append_left _ (List.mem_of_getElem? (i := 109) rfl))))) rfl
set_option maxRecDepth 20000 in
theorem w_590 : (Jvm.Cond.selects "VoiceHouse" ({ cls := "VoiceHouse", name := "right", desc := "(I)I" } : Jvm.MethodName) ({ cls := "VoiceHouse", name := "right", desc := "(I)I" } : Jvm.MethodName)) ∈ tG := mG (List.mem_append_right _ (List.mem_append_right _ (List.mem_append_right _ (List.mem_append_left _ (List.mem_of_getElem? (i := 110) rfl))))) rfl
set_option maxRecDepth 20000 in
theorem w_591 : (Jvm.Cond.code ({ cls := "VoiceHouse", name := "right", desc := "(I)I" } : Jvm.MethodName) prog_1_method_21_code (2 : Nat) (Option.some Jvm.ClassFile.FieldType.int)) ∈ tG := mG (List.mem_append_right _ (List.mem_append_right _ (List.mem_append_right _ (List.mem_append_left _ (List.mem_of_getElem? (i := 111) rfl))))) rfl
set_option maxRecDepth 20000 in
theorem w_592 : (Jvm.Cond.methodLink "VoiceHouse" (217 : Nat) ({ cls := "VoiceHouse$BlindTests", name := "outcome", desc := "(I)I" } : Jvm.MethodName)) ∈ tG := mG (List.mem_append_right _ (List.mem_append_right _ (List.mem_append_right _ (List.mem_append_left _ (List.mem_of_getElem? (i := 112) rfl))))) rfl
set_option maxRecDepth 20000 in
theorem w_593 : (Jvm.Cond.instanceMethod ({ cls := "VoiceHouse$BlindTests", name := "outcome", desc := "(I)I" } : Jvm.MethodName)) ∈ tG := mG (List.mem_append_right _ (List.mem_append_right _ (List.mem_append_right _ (List.mem_append_left _ (List.mem_of_getElem? (i := 113) rfl))))) rfl
set_option maxRecDepth 20000 in
theorem w_594 : (Jvm.Cond.selects "VoiceHouse$BlindTests" ({ cls := "VoiceHouse$BlindTests", name := "outcome", desc := "(I)I" } : Jvm.MethodName) ({ cls := "VoiceHouse$BlindTests", name := "outcome", desc := "(I)I" } : Jvm.MethodName)) ∈ tG := mG (List.mem_append_right _ (List.mem_append_right _ (List.mem_append_right _ (List.mem_append_left _ (List.mem_of_getElem? (i := 114) rfl))))) rfl
set_option maxRecDepth 20000 in
theorem w_595 : (Jvm.Cond.code ({ cls := "VoiceHouse$BlindTests", name := "outcome", desc := "(I)I" } : Jvm.MethodName) prog_3_method_4_code (2 : Nat) (Option.some Jvm.ClassFile.FieldType.int)) ∈ tG := mG (List.mem_append_right _ (List.mem_append_right _ (List.mem_append_right _ (List.mem_append_left _ (List.mem_of_getElem? (i := 115) rfl))))) rfl
set_option maxRecDepth 20000 in
theorem w_596 : (Jvm.Cond.methodLink "VoiceHouseLaw" (99 : Nat) ({ cls := "VoiceHouse", name := "told", desc := "(II)I" } : Jvm.MethodName)) ∈ tG := mG (List.mem_append_right _ (List.mem_append_right _ (List.mem_append_right _ (List.mem_append_left _ (List.mem_of_getElem? (i := 116) rfl))))) rfl
set_option maxRecDepth 20000 in
theorem w_597 : (Jvm.Cond.instanceMethod ({ cls := "VoiceHouse", name := "told", desc := "(II)I" } : Jvm.MethodName)) ∈ tG := mG (List.mem_append_right _ (List.mem_append_right _ (List.mem_append_right _ (List.mem_append_left _ (List.mem_of_getElem? (i := 117) rfl))))) rfl
set_option maxRecDepth 20000 in
theorem w_598 : (Jvm.Cond.selects "VoiceHouse" ({ cls := "VoiceHouse", name := "told", desc := "(II)I" } : Jvm.MethodName) ({ cls := "VoiceHouse", name := "told", desc := "(II)I" } : Jvm.MethodName)) ∈ tG := mG (List.mem_append_right _ (List.mem_append_right _ (List.mem_append_right _ (List.mem_append_left _ (List.mem_of_getElem? (i := 118) rfl))))) rfl
set_option maxRecDepth 20000 in
theorem w_599 : (Jvm.Cond.code ({ cls := "VoiceHouse", name := "told", desc := "(II)I" } : Jvm.MethodName) prog_1_method_22_code (3 : Nat) (Option.some Jvm.ClassFile.FieldType.int)) ∈ tG := mG (List.mem_append_right _ (List.mem_append_right _ (List.mem_append_right _ (List.mem_append_left _ (List.mem_of_getElem? (i := 119) rfl))))) rfl
set_option maxRecDepth 20000 in
theorem w_600 : (Jvm.Cond.methodLink "VoiceHouse" (220 : Nat) ({ cls := "VoiceHouse$Archive", name := "channelOf", desc := "(I)I" } : Jvm.MethodName)) ∈ tG := mG (List.mem_append_right _ (List.mem_append_right _ (List.mem_append_right _ (List.mem_append_left _ (List.mem_of_getElem? (i := 120) rfl))))) rfl
set_option maxRecDepth 20000 in
theorem w_601 : (Jvm.Cond.methodLink "VoiceHouse" (223 : Nat) ({ cls := "VoiceHouse$Archive", name := "countTones", desc := "(I)I" } : Jvm.MethodName)) ∈ tG := mG (List.mem_append_right _ (List.mem_append_right _ (List.mem_append_right _ (List.mem_append_left _ (List.mem_of_getElem? (i := 121) rfl))))) rfl
set_option maxRecDepth 20000 in
theorem w_602 : (Jvm.Cond.instanceMethod ({ cls := "VoiceHouse$Archive", name := "countTones", desc := "(I)I" } : Jvm.MethodName)) ∈ tG := mG (List.mem_append_right _ (List.mem_append_right _ (List.mem_append_right _ (List.mem_append_left _ (List.mem_of_getElem? (i := 122) rfl))))) rfl
set_option maxRecDepth 20000 in
theorem w_603 : (Jvm.Cond.selects "VoiceHouse$Archive" ({ cls := "VoiceHouse$Archive", name := "countTones", desc := "(I)I" } : Jvm.MethodName) ({ cls := "VoiceHouse$Archive", name := "countTones", desc := "(I)I" } : Jvm.MethodName)) ∈ tG := mG (List.mem_append_right _ (List.mem_append_right _ (List.mem_append_right _ (List.mem_append_left _ (List.mem_of_getElem? (i := 123) rfl))))) rfl
set_option maxRecDepth 20000 in
theorem w_604 : (Jvm.Cond.code ({ cls := "VoiceHouse$Archive", name := "countTones", desc := "(I)I" } : Jvm.MethodName) prog_2_method_13_code (4 : Nat) (Option.some Jvm.ClassFile.FieldType.int)) ∈ tG := mG (List.mem_append_right _ (List.mem_append_right _ (List.mem_append_right _ (List.mem_append_left _ (List.mem_of_getElem? (i := 124) rfl))))) rfl
set_option maxRecDepth 20000 in
theorem w_605 : (Jvm.Cond.methodLink "VoiceHouse$Archive" (35 : Nat) ({ cls := "VoiceHouse$Archive", name := "toneAt", desc := "(II)I" } : Jvm.MethodName)) ∈ tG := mG (List.mem_append_right _ (List.mem_append_right _ (List.mem_append_right _ (List.mem_append_left _ (List.mem_of_getElem? (i := 125) rfl))))) rfl
set_option maxRecDepth 20000 in
theorem w_606 : (Jvm.Cond.methodLink "VoiceHouse" (226 : Nat) ({ cls := "VoiceHouse", name := "toneTold", desc := "(II)I" } : Jvm.MethodName)) ∈ tG := mG (List.mem_append_right _ (List.mem_append_right _ (List.mem_append_right _ (List.mem_append_left _ (List.mem_of_getElem? (i := 126) rfl))))) rfl
set_option maxRecDepth 20000 in
theorem w_608 : (Jvm.Cond.instanceMethod ({ cls := "VoiceHouse", name := "toneTold", desc := "(II)I" } : Jvm.MethodName)) ∈ tG := mG (List.mem_append_right _ (List.mem_append_right _ (List.mem_append_right _ (List.mem_append_left _ (List.mem_of_getElem? (i := 128) rfl))))) rfl
set_option maxRecDepth 20000 in
theorem w_609 : (Jvm.Cond.code ({ cls := "VoiceHouse", name := "toneTold", desc := "(II)I" } : Jvm.MethodName) prog_1_method_24_code (3 : Nat) (Option.some Jvm.ClassFile.FieldType.int)) ∈ tG := mG (List.mem_append_right _ (List.mem_append_right _ (List.mem_append_right _ (List.mem_append_left _ (List.mem_of_getElem? (i := 129) rfl))))) rfl
set_option maxRecDepth 20000 in
theorem w_610 : (Jvm.Cond.methodLink "VoiceHouse" (233 : Nat) ({ cls := "VoiceHouse$Archive", name := "toneAt", desc := "(II)I" } : Jvm.MethodName)) ∈ tG := mG (List.mem_append_right _ (List.mem_append_right _ (List.mem_append_right _ (List.mem_append_left _ (List.mem_of_getElem? (i := 130) rfl))))) rfl
set_option maxRecDepth 20000 in
theorem w_611 : (Jvm.Cond.methodLink "VoiceHouseLaw" (103 : Nat) ({ cls := "VoiceHouse", name := "count", desc := "(I)I" } : Jvm.MethodName)) ∈ tG := mG (List.mem_append_right _ (List.mem_append_right _ (List.mem_append_right _ (List.mem_append_left _ (List.mem_of_getElem? (i := 131) rfl))))) rfl
set_option maxRecDepth 20000 in
theorem w_612 : (Jvm.Cond.instanceMethod ({ cls := "VoiceHouse", name := "count", desc := "(I)I" } : Jvm.MethodName)) ∈ tG := mG (List.mem_append_right _ (List.mem_append_right _ (List.mem_append_right _ (List.mem_append_left _ (List.mem_of_getElem? (i := 132) rfl))))) rfl
set_option maxRecDepth 20000 in
theorem w_613 : (Jvm.Cond.selects "VoiceHouse" ({ cls := "VoiceHouse", name := "count", desc := "(I)I" } : Jvm.MethodName) ({ cls := "VoiceHouse", name := "count", desc := "(I)I" } : Jvm.MethodName)) ∈ tG := mG (List.mem_append_right _ (List.mem_append_right _ (List.mem_append_right _ (List.mem_append_left _ (List.mem_of_getElem? (i := 133) rfl))))) rfl
set_option maxRecDepth 20000 in
theorem w_614 : (Jvm.Cond.code ({ cls := "VoiceHouse", name := "count", desc := "(I)I" } : Jvm.MethodName) prog_1_method_23_code (2 : Nat) (Option.some Jvm.ClassFile.FieldType.int)) ∈ tG := mG (List.mem_append_right _ (List.mem_append_right _ (List.mem_append_right _ (List.mem_append_left _ (List.mem_of_getElem? (i := 134) rfl))))) rfl
set_option maxRecDepth 20000 in
theorem w_615 : (Jvm.Cond.methodLink "VoiceHouse" (229 : Nat) ({ cls := "VoiceHouse$Archive", name := "size", desc := "()I" } : Jvm.MethodName)) ∈ tG := mG (List.mem_append_right _ (List.mem_append_right _ (List.mem_append_right _ (List.mem_append_left _ (List.mem_of_getElem? (i := 135) rfl))))) rfl
set_option maxRecDepth 20000 in
theorem w_616 : (Jvm.Cond.methodLink "VoiceHouse" (230 : Nat) ({ cls := "VoiceHouse$PairBook", name := "countBlocks", desc := "()I" } : Jvm.MethodName)) ∈ tG := mG (List.mem_append_right _ (List.mem_append_right _ (List.mem_append_right _ (List.mem_append_left _ (List.mem_of_getElem? (i := 136) rfl))))) rfl
set_option maxRecDepth 20000 in
theorem w_617 : (Jvm.Cond.instanceMethod ({ cls := "VoiceHouse$PairBook", name := "countBlocks", desc := "()I" } : Jvm.MethodName)) ∈ tG := mG (List.mem_append_right _ (List.mem_append_right _ (List.mem_append_right _ (List.mem_append_left _ (List.mem_of_getElem? (i := 137) rfl))))) rfl
set_option maxRecDepth 20000 in
theorem w_618 : (Jvm.Cond.selects "VoiceHouse$PairBook" ({ cls := "VoiceHouse$PairBook", name := "countBlocks", desc := "()I" } : Jvm.MethodName) ({ cls := "VoiceHouse$PairBook", name := "countBlocks", desc := "()I" } : Jvm.MethodName)) ∈ tG := mG (List.mem_append_right _ (List.mem_append_right _ (List.mem_append_right _ (List.mem_append_left _ (List.mem_of_getElem? (i := 138) rfl))))) rfl
set_option maxRecDepth 20000 in
theorem w_619 : (Jvm.Cond.code ({ cls := "VoiceHouse$PairBook", name := "countBlocks", desc := "()I" } : Jvm.MethodName) prog_5_method_21_code (1 : Nat) (Option.some Jvm.ClassFile.FieldType.int)) ∈ tG := mG (List.mem_append_right _ (List.mem_append_right _ (List.mem_append_right _ (List.mem_append_left _ (List.mem_of_getElem? (i := 139) rfl))))) rfl
set_option maxRecDepth 20000 in
theorem w_626 : (Jvm.Cond.fieldLink "VoiceHouseModel" (56 : Nat) "VoiceHouseModel" "recordings" "I") ∈ tG := mG (List.mem_append_right _ (List.mem_append_right _ (List.mem_append_right _ (List.mem_append_left _ (List.mem_of_getElem? (i := 146) rfl))))) rfl
set_option maxRecDepth 20000 in
theorem w_627 : (Jvm.Cond.fieldLink "VoiceHouseModel" (9 : Nat) "VoiceHouseModel" "tone" "[I") ∈ tG := mG (List.mem_append_right _ (List.mem_append_right _ (List.mem_append_right _ (List.mem_append_left _ (List.mem_of_getElem? (i := 147) rfl))))) rfl
set_option maxRecDepth 20000 in
theorem w_628 : (Jvm.Cond.fieldLink "VoiceHouseModel" (13 : Nat) "VoiceHouseModel" "channel" "[I") ∈ tG := mG (List.mem_append_right _ (List.mem_append_right _ (List.mem_append_right _ (List.mem_append_left _ (List.mem_of_getElem? (i := 148) rfl))))) rfl
set_option maxRecDepth 20000 in
theorem w_629 : (Jvm.Cond.fieldLink "VoiceHouseModel" (16 : Nat) "VoiceHouseModel" "speaker" "[I") ∈ tG := mG (List.mem_append_right _ (List.mem_append_right _ (List.mem_append_right _ (List.mem_append_left _ (List.mem_of_getElem? (i := 149) rfl))))) rfl
set_option maxRecDepth 20000 in
theorem w_630 : (Jvm.Cond.fieldLink "VoiceHouseModel" (19 : Nat) "VoiceHouseModel" "set" "I") ∈ tG := mG (List.mem_append_right _ (List.mem_append_right _ (List.mem_append_right _ (List.mem_append_left _ (List.mem_of_getElem? (i := 150) rfl))))) rfl
set_option maxRecDepth 20000 in
theorem w_631 : (Jvm.Cond.fieldLink "VoiceHouseModel" (23 : Nat) "VoiceHouseModel" "limit" "I") ∈ tG := mG (List.mem_append_right _ (List.mem_append_right _ (List.mem_append_right _ (List.mem_append_left _ (List.mem_of_getElem? (i := 151) rfl))))) rfl
set_option maxRecDepth 20000 in
theorem w_632 : (Jvm.Cond.fieldLink "VoiceHouseModel" (112 : Nat) "VoiceHouseModel" "segments" "I") ∈ tG := mG (List.mem_append_right _ (List.mem_append_right _ (List.mem_append_right _ (List.mem_append_left _ (List.mem_of_getElem? (i := 152) rfl))))) rfl
set_option maxRecDepth 20000 in
theorem w_633 : (Jvm.Cond.fieldLink "VoiceHouseModel" (26 : Nat) "VoiceHouseModel" "segment" "[I") ∈ tG := mG (List.mem_append_right _ (List.mem_append_right _ (List.mem_append_right _ (List.mem_append_left _ (List.mem_of_getElem? (i := 153) rfl))))) rfl
set_option maxRecDepth 20000 in
theorem w_634 : (Jvm.Cond.fieldLink "VoiceHouseModel" (133 : Nat) "VoiceHouseModel" "tests" "I") ∈ tG := mG (List.mem_append_right _ (List.mem_append_right _ (List.mem_append_right _ (List.mem_append_left _ (List.mem_of_getElem? (i := 154) rfl))))) rfl
set_option maxRecDepth 20000 in
theorem w_635 : (Jvm.Cond.fieldLink "VoiceHouseModel" (29 : Nat) "VoiceHouseModel" "right" "[I") ∈ tG := mG (List.mem_append_right _ (List.mem_append_right _ (List.mem_append_right _ (List.mem_append_left _ (List.mem_of_getElem? (i := 155) rfl))))) rfl
set_option maxRecDepth 20000 in
theorem w_636 : (Jvm.Cond.fieldLink "VoiceHouseModel" (67 : Nat) "VoiceHouseModel" "shiftSum" "I") ∈ tG := mG (List.mem_append_right _ (List.mem_append_right _ (List.mem_append_right _ (List.mem_append_left _ (List.mem_of_getElem? (i := 156) rfl))))) rfl
set_option maxRecDepth 20000 in
theorem w_637 : (Jvm.Cond.fieldLink "VoiceHouseModel" (32 : Nat) "VoiceHouseModel" "shifts" "[I") ∈ tG := mG (List.mem_append_right _ (List.mem_append_right _ (List.mem_append_right _ (List.mem_append_left _ (List.mem_of_getElem? (i := 157) rfl))))) rfl
set_option maxRecDepth 20000 in
theorem w_638 : (Jvm.Cond.fieldLink "VoiceHouseModel" (35 : Nat) "VoiceHouseModel" "same" "[I") ∈ tG := mG (List.mem_append_right _ (List.mem_append_right _ (List.mem_append_right _ (List.mem_append_left _ (List.mem_of_getElem? (i := 158) rfl))))) rfl
set_option maxRecDepth 20000 in
theorem w_639 : (Jvm.Cond.fieldLink "VoiceHouseModel" (38 : Nat) "VoiceHouseModel" "other" "[I") ∈ tG := mG (List.mem_append_right _ (List.mem_append_right _ (List.mem_append_right _ (List.mem_append_left _ (List.mem_of_getElem? (i := 159) rfl))))) rfl
set_option maxRecDepth 20000 in
theorem w_640 : (Jvm.Cond.fieldLink "VoiceHouseModel" (41 : Nat) "VoiceHouseModel" "first" "[I") ∈ tG := mG (List.mem_append_right _ (List.mem_append_right _ (List.mem_append_right _ (List.mem_append_left _ (List.mem_of_getElem? (i := 160) rfl))))) rfl
set_option maxRecDepth 20000 in
theorem w_641 : (Jvm.Cond.fieldLink "VoiceHouseModel" (44 : Nat) "VoiceHouseModel" "scores" "[I") ∈ tG := mG (List.mem_append_right _ (List.mem_append_right _ (List.mem_append_right _ (List.mem_append_left _ (List.mem_of_getElem? (i := 161) rfl))))) rfl
set_option maxRecDepth 20000 in
theorem w_642 : (Jvm.Cond.fieldLink "VoiceHouseModel" (47 : Nat) "VoiceHouseModel" "voice" "[I") ∈ tG := mG (List.mem_append_right _ (List.mem_append_right _ (List.mem_append_right _ (List.mem_append_left _ (List.mem_of_getElem? (i := 162) rfl))))) rfl
set_option maxRecDepth 20000 in
theorem w_643 : (Jvm.Cond.fieldLink "VoiceHouseModel" (115 : Nat) "VoiceHouseModel" "pairs" "I") ∈ tG := mG (List.mem_append_right _ (List.mem_append_right _ (List.mem_append_right _ (List.mem_append_left _ (List.mem_of_getElem? (i := 163) rfl))))) rfl
set_option maxRecDepth 20000 in
theorem w_644 : (Jvm.Cond.fieldLink "VoiceHouseModel" (50 : Nat) "VoiceHouseModel" "least" "[I") ∈ tG := mG (List.mem_append_right _ (List.mem_append_right _ (List.mem_append_right _ (List.mem_append_left _ (List.mem_of_getElem? (i := 164) rfl))))) rfl
set_option maxRecDepth 20000 in
theorem w_645 : (Jvm.Cond.fieldLink "VoiceHouseModel" (53 : Nat) "VoiceHouseModel" "line" "[I") ∈ tG := mG (List.mem_append_right _ (List.mem_append_right _ (List.mem_append_right _ (List.mem_append_left _ (List.mem_of_getElem? (i := 165) rfl))))) rfl
set_option maxRecDepth 20000 in
theorem w_687 : (Jvm.Cond.methodLink "VoiceHouseLaw" (17 : Nat) ({ cls := "VoiceHouseModel", name := "record", desc := "(II)I" } : Jvm.MethodName)) ∈ tG := mG (List.mem_append_right _ (List.mem_append_right _ (List.mem_append_right _ (List.mem_append_left _ (List.mem_of_getElem? (i := 207) rfl))))) rfl
set_option maxRecDepth 20000 in
theorem w_688 : (Jvm.Cond.instanceMethod ({ cls := "VoiceHouseModel", name := "record", desc := "(II)I" } : Jvm.MethodName)) ∈ tG := mG (List.mem_append_right _ (List.mem_append_right _ (List.mem_append_right _ (List.mem_append_left _ (List.mem_of_getElem? (i := 208) rfl))))) rfl
set_option maxRecDepth 20000 in
theorem w_689 : (Jvm.Cond.selects "VoiceHouseModel" ({ cls := "VoiceHouseModel", name := "record", desc := "(II)I" } : Jvm.MethodName) ({ cls := "VoiceHouseModel", name := "record", desc := "(II)I" } : Jvm.MethodName)) ∈ tG := mG (List.mem_append_right _ (List.mem_append_right _ (List.mem_append_right _ (List.mem_append_left _ (List.mem_of_getElem? (i := 209) rfl))))) rfl
set_option maxRecDepth 20000 in
theorem w_690 : (Jvm.Cond.code ({ cls := "VoiceHouseModel", name := "record", desc := "(II)I" } : Jvm.MethodName) prog_10_method_4_code (4 : Nat) (Option.some Jvm.ClassFile.FieldType.int)) ∈ tG := mG (List.mem_append_right _ (List.mem_append_right _ (List.mem_append_right _ (List.mem_append_left _ (List.mem_of_getElem? (i := 210) rfl))))) rfl
set_option maxRecDepth 20000 in
theorem w_691 : (Jvm.Cond.methodLink "VoiceHouseModel" (59 : Nat) ({ cls := "VoiceHouseModel", name := "in", desc := "(III)Z" } : Jvm.MethodName)) ∈ tG := mG (List.mem_append_right _ (List.mem_append_right _ (List.mem_append_right _ (List.mem_append_left _ (List.mem_of_getElem? (i := 211) rfl))))) rfl
set_option maxRecDepth 20000 in
theorem w_692 : (Jvm.Cond.static ({ cls := "VoiceHouseModel", name := "in", desc := "(III)Z" } : Jvm.MethodName)) ∈ tG := mG (List.mem_append_right _ (List.mem_append_right _ (List.mem_append_right _ (List.mem_append_left _ (List.mem_of_getElem? (i := 212) rfl))))) rfl
set_option maxRecDepth 20000 in
theorem w_693 : (Jvm.Cond.code ({ cls := "VoiceHouseModel", name := "in", desc := "(III)Z" } : Jvm.MethodName) prog_10_method_2_code (3 : Nat) (Option.some Jvm.ClassFile.FieldType.boolean)) ∈ tG := mG (List.mem_append_right _ (List.mem_append_right _ (List.mem_append_right _ (List.mem_append_left _ (List.mem_of_getElem? (i := 213) rfl))))) rfl
set_option maxRecDepth 20000 in
theorem w_694 : (Jvm.Cond.methodLink "VoiceHouseLaw" (22 : Nat) ({ cls := "VoiceHouseModel", name := "tone", desc := "(III)Z" } : Jvm.MethodName)) ∈ tG := mG (List.mem_append_right _ (List.mem_append_right _ (List.mem_append_right _ (List.mem_append_left _ (List.mem_of_getElem? (i := 214) rfl))))) rfl
set_option maxRecDepth 20000 in
theorem w_695 : (Jvm.Cond.instanceMethod ({ cls := "VoiceHouseModel", name := "tone", desc := "(III)Z" } : Jvm.MethodName)) ∈ tG := mG (List.mem_append_right _ (List.mem_append_right _ (List.mem_append_right _ (List.mem_append_left _ (List.mem_of_getElem? (i := 215) rfl))))) rfl
set_option maxRecDepth 20000 in
theorem w_696 : (Jvm.Cond.selects "VoiceHouseModel" ({ cls := "VoiceHouseModel", name := "tone", desc := "(III)Z" } : Jvm.MethodName) ({ cls := "VoiceHouseModel", name := "tone", desc := "(III)Z" } : Jvm.MethodName)) ∈ tG := mG (List.mem_append_right _ (List.mem_append_right _ (List.mem_append_right _ (List.mem_append_left _ (List.mem_of_getElem? (i := 216) rfl))))) rfl
set_option maxRecDepth 20000 in
theorem w_697 : (Jvm.Cond.code ({ cls := "VoiceHouseModel", name := "tone", desc := "(III)Z" } : Jvm.MethodName) prog_10_method_5_code (4 : Nat) (Option.some Jvm.ClassFile.FieldType.boolean)) ∈ tG := mG (List.mem_append_right _ (List.mem_append_right _ (List.mem_append_right _ (List.mem_append_left _ (List.mem_of_getElem? (i := 217) rfl))))) rfl
set_option maxRecDepth 20000 in
theorem w_698 : (Jvm.Cond.methodLink "VoiceHouseModel" (63 : Nat) ({ cls := "VoiceHouseModel", name := "isRecording", desc := "(I)Z" } : Jvm.MethodName)) ∈ tG := mG (List.mem_append_right _ (List.mem_append_right _ (List.mem_append_right _ (List.mem_append_left _ (List.mem_of_getElem? (i := 218) rfl))))) rfl
set_option maxRecDepth 20000 in
theorem w_700 : (Jvm.Cond.instanceMethod ({ cls := "VoiceHouseModel", name := "isRecording", desc := "(I)Z" } : Jvm.MethodName)) ∈ tG := mG (List.mem_append_right _ (List.mem_append_right _ (List.mem_append_right _ (List.mem_append_left _ (List.mem_of_getElem? (i := 220) rfl))))) rfl
set_option maxRecDepth 20000 in
theorem w_701 : (Jvm.Cond.code ({ cls := "VoiceHouseModel", name := "isRecording", desc := "(I)Z" } : Jvm.MethodName) prog_10_method_3_code (2 : Nat) (Option.some Jvm.ClassFile.FieldType.boolean)) ∈ tG := mG (List.mem_append_right _ (List.mem_append_right _ (List.mem_append_right _ (List.mem_append_left _ (List.mem_of_getElem? (i := 221) rfl))))) rfl
set_option maxRecDepth 20000 in
theorem w_702 : (Jvm.Cond.methodLink "VoiceHouseLaw" (27 : Nat) ({ cls := "VoiceHouseModel", name := "know", desc := "(II)Z" } : Jvm.MethodName)) ∈ tG := mG (List.mem_append_right _ (List.mem_append_right _ (List.mem_append_right _ (List.mem_append_left _ (List.mem_of_getElem? (i := 222) rfl))))) rfl
set_option maxRecDepth 20000 in
theorem w_703 : (Jvm.Cond.instanceMethod ({ cls := "VoiceHouseModel", name := "know", desc := "(II)Z" } : Jvm.MethodName)) ∈ tG := mG (List.mem_append_right _ (List.mem_append_right _ (List.mem_append_right _ (List.mem_append_left _ (List.mem_of_getElem? (i := 223) rfl))))) rfl
set_option maxRecDepth 20000 in
theorem w_704 : (Jvm.Cond.selects "VoiceHouseModel" ({ cls := "VoiceHouseModel", name := "know", desc := "(II)Z" } : Jvm.MethodName) ({ cls := "VoiceHouseModel", name := "know", desc := "(II)Z" } : Jvm.MethodName)) ∈ tG := mG (List.mem_append_right _ (List.mem_append_right _ (List.mem_append_right _ (List.mem_append_left _ (List.mem_of_getElem? (i := 224) rfl))))) rfl
set_option maxRecDepth 20000 in
theorem w_705 : (Jvm.Cond.code ({ cls := "VoiceHouseModel", name := "know", desc := "(II)Z" } : Jvm.MethodName) prog_10_method_6_code (3 : Nat) (Option.some Jvm.ClassFile.FieldType.boolean)) ∈ tG := mG (List.mem_append_right _ (List.mem_append_right _ (List.mem_append_right _ (List.mem_append_left _ (List.mem_of_getElem? (i := 225) rfl))))) rfl
set_option maxRecDepth 20000 in
theorem w_706 : (Jvm.Cond.methodLink "VoiceHouseLaw" (32 : Nat) ({ cls := "VoiceHouseModel", name := "set", desc := "(I)Z" } : Jvm.MethodName)) ∈ tG := mG (List.mem_append_right _ (List.mem_append_right _ (List.mem_append_right _ (List.mem_append_left _ (List.mem_of_getElem? (i := 226) rfl))))) rfl
set_option maxRecDepth 20000 in
theorem w_707 : (Jvm.Cond.instanceMethod ({ cls := "VoiceHouseModel", name := "set", desc := "(I)Z" } : Jvm.MethodName)) ∈ tG := mG (List.mem_append_right _ (List.mem_append_right _ (List.mem_append_right _ (List.mem_append_left _ (List.mem_of_getElem? (i := 227) rfl))))) rfl
set_option maxRecDepth 20000 in
theorem w_708 : (Jvm.Cond.selects "VoiceHouseModel" ({ cls := "VoiceHouseModel", name := "set", desc := "(I)Z" } : Jvm.MethodName) ({ cls := "VoiceHouseModel", name := "set", desc := "(I)Z" } : Jvm.MethodName)) ∈ tG := mG (List.mem_append_right _ (List.mem_append_right _ (List.mem_append_right _ (List.mem_append_left _ (List.mem_of_getElem? (i := 228) rfl))))) rfl
set_option maxRecDepth 20000 in
theorem w_709 : (Jvm.Cond.code ({ cls := "VoiceHouseModel", name := "set", desc := "(I)Z" } : Jvm.MethodName) prog_10_method_7_code (2 : Nat) (Option.some Jvm.ClassFile.FieldType.boolean)) ∈ tG := mG (List.mem_append_right _ (List.mem_append_right _ (List.mem_append_right _ (List.mem_append_left _ (List.mem_of_getElem? (i := 229) rfl))))) rfl
set_option maxRecDepth 20000 in
theorem w_710 : (Jvm.Cond.methodLink "VoiceHouseLaw" (36 : Nat) ({ cls := "VoiceHouseModel", name := "limit", desc := "(I)Z" } : Jvm.MethodName)) ∈ tG := mG (List.mem_append_right _ (List.mem_append_right _ (List.mem_append_right _ (List.mem_append_left _ (List.mem_of_getElem? (i := 230) rfl))))) rfl
set_option maxRecDepth 20000 in
theorem w_711 : (Jvm.Cond.instanceMethod ({ cls := "VoiceHouseModel", name := "limit", desc := "(I)Z" } : Jvm.MethodName)) ∈ tG := mG (List.mem_append_right _ (List.mem_append_right _ (List.mem_append_right _ (List.mem_append_left _ (List.mem_of_getElem? (i := 231) rfl))))) rfl
set_option maxRecDepth 20000 in
theorem w_712 : (Jvm.Cond.selects "VoiceHouseModel" ({ cls := "VoiceHouseModel", name := "limit", desc := "(I)Z" } : Jvm.MethodName) ({ cls := "VoiceHouseModel", name := "limit", desc := "(I)Z" } : Jvm.MethodName)) ∈ tG := mG (List.mem_append_right _ (List.mem_append_right _ (List.mem_append_right _ (List.mem_append_left _ (List.mem_of_getElem? (i := 232) rfl))))) rfl
set_option maxRecDepth 20000 in
theorem w_713 : (Jvm.Cond.code ({ cls := "VoiceHouseModel", name := "limit", desc := "(I)Z" } : Jvm.MethodName) prog_10_method_8_code (2 : Nat) (Option.some Jvm.ClassFile.FieldType.boolean)) ∈ tG := mG (List.mem_append_right _ (List.mem_append_right _ (List.mem_append_right _ (List.mem_append_left _ (List.mem_of_getElem? (i := 233) rfl))))) rfl
set_option maxRecDepth 20000 in
theorem w_714 : (Jvm.Cond.methodLink "VoiceHouseLaw" (40 : Nat) ({ cls := "VoiceHouseModel", name := "shift", desc := "(II)I" } : Jvm.MethodName)) ∈ tG := mG (List.mem_append_right _ (List.mem_append_right _ (List.mem_append_right _ (List.mem_append_left _ (List.mem_of_getElem? (i := 234) rfl))))) rfl
set_option maxRecDepth 20000 in
theorem w_715 : (Jvm.Cond.instanceMethod ({ cls := "VoiceHouseModel", name := "shift", desc := "(II)I" } : Jvm.MethodName)) ∈ tG := mG (List.mem_append_right _ (List.mem_append_right _ (List.mem_append_right _ (List.mem_append_left _ (List.mem_of_getElem? (i := 235) rfl))))) rfl
set_option maxRecDepth 20000 in
theorem w_716 : (Jvm.Cond.selects "VoiceHouseModel" ({ cls := "VoiceHouseModel", name := "shift", desc := "(II)I" } : Jvm.MethodName) ({ cls := "VoiceHouseModel", name := "shift", desc := "(II)I" } : Jvm.MethodName)) ∈ tG := mG (List.mem_append_right _ (List.mem_append_right _ (List.mem_append_right _ (List.mem_append_left _ (List.mem_of_getElem? (i := 236) rfl))))) rfl
set_option maxRecDepth 20000 in
theorem w_717 : (Jvm.Cond.code ({ cls := "VoiceHouseModel", name := "shift", desc := "(II)I" } : Jvm.MethodName) prog_10_method_11_code (3 : Nat) (Option.some Jvm.ClassFile.FieldType.int)) ∈ tG := mG (List.mem_append_right _ (List.mem_append_right _ (List.mem_append_right _ (List.mem_append_left _ (List.mem_of_getElem? (i := 237) rfl))))) rfl
set_option maxRecDepth 20000 in
theorem w_718 : (Jvm.Cond.methodLink "VoiceHouseModel" (74 : Nat) ({ cls := "VoiceHouseModel", name := "shiftOf", desc := "(II)I" } : Jvm.MethodName)) ∈ tG := mG (List.mem_append_right _ (List.mem_append_right _ (List.mem_append_right _ (List.mem_append_left _ (List.mem_of_getElem? (i := 238) rfl))))) rfl
set_option maxRecDepth 20000 in
theorem w_720 : (Jvm.Cond.instanceMethod ({ cls := "VoiceHouseModel", name := "shiftOf", desc := "(II)I" } : Jvm.MethodName)) ∈ tG := mG (List.mem_append_right _ (List.mem_append_right _ (List.mem_append_right _ (List.mem_append_right _ (List.mem_of_getElem? (i := 0) rfl))))) rfl
set_option maxRecDepth 20000 in
theorem w_721 : (Jvm.Cond.code ({ cls := "VoiceHouseModel", name := "shiftOf", desc := "(II)I" } : Jvm.MethodName) prog_10_method_10_code (4 : Nat) (Option.some Jvm.ClassFile.FieldType.int)) ∈ tG := mG (List.mem_append_right _ (List.mem_append_right _ (List.mem_append_right _ (List.mem_append_right _ (List.mem_of_getElem? (i := 1) rfl))))) rfl
set_option maxRecDepth 20000 in
theorem w_722 : (Jvm.Cond.methodLink "VoiceHouseModel" (70 : Nat) ({ cls := "VoiceHouseModel", name := "shiftPairs", desc := "(II)I" } : Jvm.MethodName)) ∈ tG := mG (List.mem_append_right _ (List.mem_append_right _ (List.mem_append_right _ (List.mem_append_right _ (List.mem_of_getElem? (i := 2) rfl))))) rfl
set_option maxRecDepth 20000 in
theorem w_724 : (Jvm.Cond.instanceMethod ({ cls := "VoiceHouseModel", name := "shiftPairs", desc := "(II)I" } : Jvm.MethodName)) ∈ tG := mG (List.mem_append_right _ (List.mem_append_right _ (List.mem_append_right _ (List.mem_append_right _ (List.mem_of_getElem? (i := 4) rfl))))) rfl
set_option maxRecDepth 20000 in
theorem w_725 : (Jvm.Cond.code ({ cls := "VoiceHouseModel", name := "shiftPairs", desc := "(II)I" } : Jvm.MethodName) prog_10_method_9_code (8 : Nat) (Option.some Jvm.ClassFile.FieldType.int)) ∈ tG := mG (List.mem_append_right _ (List.mem_append_right _ (List.mem_append_right _ (List.mem_append_right _ (List.mem_of_getElem? (i := 5) rfl))))) rfl
set_option maxRecDepth 20000 in
theorem w_726 : (Jvm.Cond.constant "VoiceHouseModel" (77 : Nat) (-2147483648 : Int32)) ∈ tG := mG (List.mem_append_right _ (List.mem_append_right _ (List.mem_append_right _ (List.mem_append_right _ (List.mem_of_getElem? (i := 6) rfl))))) rfl
set_option maxRecDepth 20000 in
theorem w_727 : (Jvm.Cond.methodLink "VoiceHouseLaw" (44 : Nat) ({ cls := "VoiceHouseModel", name := "hidden", desc := "(II)Z" } : Jvm.MethodName)) ∈ tG := mG (List.mem_append_right _ (List.mem_append_right _ (List.mem_append_right _ (List.mem_append_right _ (List.mem_of_getElem? (i := 7) rfl))))) rfl
set_option maxRecDepth 20000 in
theorem w_728 : (Jvm.Cond.instanceMethod ({ cls := "VoiceHouseModel", name := "hidden", desc := "(II)Z" } : Jvm.MethodName)) ∈ tG := mG (List.mem_append_right _ (List.mem_append_right _ (List.mem_append_right _ (List.mem_append_right _ (List.mem_of_getElem? (i := 8) rfl))))) rfl
set_option maxRecDepth 20000 in
theorem w_729 : (Jvm.Cond.selects "VoiceHouseModel" ({ cls := "VoiceHouseModel", name := "hidden", desc := "(II)Z" } : Jvm.MethodName) ({ cls := "VoiceHouseModel", name := "hidden", desc := "(II)Z" } : Jvm.MethodName)) ∈ tG := mG (List.mem_append_right _ (List.mem_append_right _ (List.mem_append_right _ (List.mem_append_right _ (List.mem_of_getElem? (i := 9) rfl))))) rfl
set_option maxRecDepth 20000 in
theorem w_730 : (Jvm.Cond.code ({ cls := "VoiceHouseModel", name := "hidden", desc := "(II)Z" } : Jvm.MethodName) prog_10_method_12_code (3 : Nat) (Option.some Jvm.ClassFile.FieldType.boolean)) ∈ tG := mG (List.mem_append_right _ (List.mem_append_right _ (List.mem_append_right _ (List.mem_append_right _ (List.mem_of_getElem? (i := 10) rfl))))) rfl
set_option maxRecDepth 20000 in
theorem w_731 : (Jvm.Cond.methodLink "VoiceHouseLaw" (48 : Nat) ({ cls := "VoiceHouseModel", name := "score", desc := "(II)I" } : Jvm.MethodName)) ∈ tG := mG (List.mem_append_right _ (List.mem_append_right _ (List.mem_append_right _ (List.mem_append_right _ (List.mem_of_getElem? (i := 11) rfl))))) rfl
set_option maxRecDepth 20000 in
theorem w_732 : (Jvm.Cond.instanceMethod ({ cls := "VoiceHouseModel", name := "score", desc := "(II)I" } : Jvm.MethodName)) ∈ tG := mG (List.mem_append_right _ (List.mem_append_right _ (List.mem_append_right _ (List.mem_append_right _ (List.mem_of_getElem? (i := 12) rfl))))) rfl
set_option maxRecDepth 20000 in
theorem w_733 : (Jvm.Cond.selects "VoiceHouseModel" ({ cls := "VoiceHouseModel", name := "score", desc := "(II)I" } : Jvm.MethodName) ({ cls := "VoiceHouseModel", name := "score", desc := "(II)I" } : Jvm.MethodName)) ∈ tG := mG (List.mem_append_right _ (List.mem_append_right _ (List.mem_append_right _ (List.mem_append_right _ (List.mem_of_getElem? (i := 13) rfl))))) rfl
set_option maxRecDepth 20000 in
theorem w_734 : (Jvm.Cond.code ({ cls := "VoiceHouseModel", name := "score", desc := "(II)I" } : Jvm.MethodName) prog_10_method_15_code (3 : Nat) (Option.some Jvm.ClassFile.FieldType.int)) ∈ tG := mG (List.mem_append_right _ (List.mem_append_right _ (List.mem_append_right _ (List.mem_append_right _ (List.mem_of_getElem? (i := 14) rfl))))) rfl
set_option maxRecDepth 20000 in
theorem w_735 : (Jvm.Cond.methodLink "VoiceHouseModel" (78 : Nat) ({ cls := "VoiceHouseModel", name := "reckons", desc := "()V" } : Jvm.MethodName)) ∈ tG := mG (List.mem_append_right _ (List.mem_append_right _ (List.mem_append_right _ (List.mem_append_right _ (List.mem_of_getElem? (i := 15) rfl))))) rfl
set_option maxRecDepth 20000 in
theorem w_737 : (Jvm.Cond.instanceMethod ({ cls := "VoiceHouseModel", name := "reckons", desc := "()V" } : Jvm.MethodName)) ∈ tG := mG (List.mem_append_right _ (List.mem_append_right _ (List.mem_append_right _ (List.mem_append_right _ (List.mem_of_getElem? (i := 17) rfl))))) rfl
set_option maxRecDepth 20000 in
theorem w_738 : (Jvm.Cond.code ({ cls := "VoiceHouseModel", name := "reckons", desc := "()V" } : Jvm.MethodName) prog_10_method_13_code (3 : Nat) (Option.none : Option Jvm.ClassFile.FieldType)) ∈ tG := mG (List.mem_append_right _ (List.mem_append_right _ (List.mem_append_right _ (List.mem_append_right _ (List.mem_of_getElem? (i := 18) rfl))))) rfl
set_option maxRecDepth 20000 in
theorem w_739 : (Jvm.Cond.methodLink "VoiceHouseModel" (81 : Nat) ({ cls := "VoiceHouseModel", name := "scoreOf", desc := "(II)I" } : Jvm.MethodName)) ∈ tG := mG (List.mem_append_right _ (List.mem_append_right _ (List.mem_append_right _ (List.mem_append_right _ (List.mem_of_getElem? (i := 19) rfl))))) rfl
set_option maxRecDepth 20000 in
theorem w_741 : (Jvm.Cond.instanceMethod ({ cls := "VoiceHouseModel", name := "scoreOf", desc := "(II)I" } : Jvm.MethodName)) ∈ tG := mG (List.mem_append_right _ (List.mem_append_right _ (List.mem_append_right _ (List.mem_append_right _ (List.mem_of_getElem? (i := 21) rfl))))) rfl
set_option maxRecDepth 20000 in
theorem w_742 : (Jvm.Cond.code ({ cls := "VoiceHouseModel", name := "scoreOf", desc := "(II)I" } : Jvm.MethodName) prog_10_method_14_code (9 : Nat) (Option.some Jvm.ClassFile.FieldType.int)) ∈ tG := mG (List.mem_append_right _ (List.mem_append_right _ (List.mem_append_right _ (List.mem_append_right _ (List.mem_of_getElem? (i := 22) rfl))))) rfl
set_option maxRecDepth 20000 in
theorem w_743 : (Jvm.Cond.methodLink "VoiceHouseLaw" (52 : Nat) ({ cls := "VoiceHouseModel", name := "band", desc := "(II)I" } : Jvm.MethodName)) ∈ tG := mG (List.mem_append_right _ (List.mem_append_right _ (List.mem_append_right _ (List.mem_append_right _ (List.mem_of_getElem? (i := 23) rfl))))) rfl
set_option maxRecDepth 20000 in
theorem w_744 : (Jvm.Cond.instanceMethod ({ cls := "VoiceHouseModel", name := "band", desc := "(II)I" } : Jvm.MethodName)) ∈ tG := mG (List.mem_append_right _ (List.mem_append_right _ (List.mem_append_right _ (List.mem_append_right _ (List.mem_of_getElem? (i := 24) rfl))))) rfl
set_option maxRecDepth 20000 in
theorem w_745 : (Jvm.Cond.selects "VoiceHouseModel" ({ cls := "VoiceHouseModel", name := "band", desc := "(II)I" } : Jvm.MethodName) ({ cls := "VoiceHouseModel", name := "band", desc := "(II)I" } : Jvm.MethodName)) ∈ tG := mG (List.mem_append_right _ (List.mem_append_right _ (List.mem_append_right _ (List.mem_append_right _ (List.mem_of_getElem? (i := 25) rfl))))) rfl
set_option maxRecDepth 20000 in
theorem w_746 : (Jvm.Cond.code ({ cls := "VoiceHouseModel", name := "band", desc := "(II)I" } : Jvm.MethodName) prog_10_method_23_code (3 : Nat) (Option.some Jvm.ClassFile.FieldType.int)) ∈ tG := mG (List.mem_append_right _ (List.mem_append_right _ (List.mem_append_right _ (List.mem_append_right _ (List.mem_of_getElem? (i := 26) rfl))))) rfl
set_option maxRecDepth 20000 in
theorem w_747 : (Jvm.Cond.methodLink "VoiceHouseModel" (95 : Nat) ({ cls := "VoiceHouseModel", name := "counts", desc := "()V" } : Jvm.MethodName)) ∈ tG := mG (List.mem_append_right _ (List.mem_append_right _ (List.mem_append_right _ (List.mem_append_right _ (List.mem_of_getElem? (i := 27) rfl))))) rfl
set_option maxRecDepth 20000 in
theorem w_749 : (Jvm.Cond.instanceMethod ({ cls := "VoiceHouseModel", name := "counts", desc := "()V" } : Jvm.MethodName)) ∈ tG := mG (List.mem_append_right _ (List.mem_append_right _ (List.mem_append_right _ (List.mem_append_right _ (List.mem_of_getElem? (i := 29) rfl))))) rfl
set_option maxRecDepth 20000 in
theorem w_750 : (Jvm.Cond.code ({ cls := "VoiceHouseModel", name := "counts", desc := "()V" } : Jvm.MethodName) prog_10_method_18_code (4 : Nat) (Option.none : Option Jvm.ClassFile.FieldType)) ∈ tG := mG (List.mem_append_right _ (List.mem_append_right _ (List.mem_append_right _ (List.mem_append_right _ (List.mem_of_getElem? (i := 30) rfl))))) rfl
set_option maxRecDepth 20000 in
theorem w_751 : (Jvm.Cond.methodLink "VoiceHouseModel" (84 : Nat) ({ cls := "VoiceHouseModel", name := "isOf", desc := "(I)Z" } : Jvm.MethodName)) ∈ tG := mG (List.mem_append_right _ (List.mem_append_right _ (List.mem_append_right _ (List.mem_append_right _ (List.mem_of_getElem? (i := 31) rfl))))) rfl
set_option maxRecDepth 20000 in
theorem w_753 : (Jvm.Cond.instanceMethod ({ cls := "VoiceHouseModel", name := "isOf", desc := "(I)Z" } : Jvm.MethodName)) ∈ tG := mG (List.mem_append_right _ (List.mem_append_right _ (List.mem_append_right _ (List.mem_append_right _ (List.mem_of_getElem? (i := 33) rfl))))) rfl
set_option maxRecDepth 20000 in
theorem w_754 : (Jvm.Cond.code ({ cls := "VoiceHouseModel", name := "isOf", desc := "(I)Z" } : Jvm.MethodName) prog_10_method_16_code (2 : Nat) (Option.some Jvm.ClassFile.FieldType.boolean)) ∈ tG := mG (List.mem_append_right _ (List.mem_append_right _ (List.mem_append_right _ (List.mem_append_right _ (List.mem_of_getElem? (i := 34) rfl))))) rfl
set_option maxRecDepth 20000 in
theorem w_755 : (Jvm.Cond.methodLink "VoiceHouseModel" (87 : Nat) ({ cls := "VoiceHouseModel", name := "bandOf", desc := "(I)I" } : Jvm.MethodName)) ∈ tG := mG (List.mem_append_right _ (List.mem_append_right _ (List.mem_append_right _ (List.mem_append_right _ (List.mem_of_getElem? (i := 35) rfl))))) rfl
set_option maxRecDepth 20000 in
theorem w_756 : (Jvm.Cond.static ({ cls := "VoiceHouseModel", name := "bandOf", desc := "(I)I" } : Jvm.MethodName)) ∈ tG := mG (List.mem_append_right _ (List.mem_append_right _ (List.mem_append_right _ (List.mem_append_right _ (List.mem_of_getElem? (i := 36) rfl))))) rfl
set_option maxRecDepth 20000 in
theorem w_757 : (Jvm.Cond.code ({ cls := "VoiceHouseModel", name := "bandOf", desc := "(I)I" } : Jvm.MethodName) prog_10_method_17_code (1 : Nat) (Option.some Jvm.ClassFile.FieldType.int)) ∈ tG := mG (List.mem_append_right _ (List.mem_append_right _ (List.mem_append_right _ (List.mem_append_right _ (List.mem_of_getElem? (i := 37) rfl))))) rfl
set_option maxRecDepth 20000 in
theorem w_758 : (Jvm.Cond.methodLink "VoiceHouseLaw" (56 : Nat) ({ cls := "VoiceHouseModel", name := "block", desc := "(II)I" } : Jvm.MethodName)) ∈ tG := mG (List.mem_append_right _ (List.mem_append_right _ (List.mem_append_right _ (List.mem_append_right _ (List.mem_of_getElem? (i := 38) rfl))))) rfl
set_option maxRecDepth 20000 in
theorem w_759 : (Jvm.Cond.instanceMethod ({ cls := "VoiceHouseModel", name := "block", desc := "(II)I" } : Jvm.MethodName)) ∈ tG := mG (List.mem_append_right _ (List.mem_append_right _ (List.mem_append_right _ (List.mem_append_right _ (List.mem_of_getElem? (i := 39) rfl))))) rfl
set_option maxRecDepth 20000 in
theorem w_760 : (Jvm.Cond.selects "VoiceHouseModel" ({ cls := "VoiceHouseModel", name := "block", desc := "(II)I" } : Jvm.MethodName) ({ cls := "VoiceHouseModel", name := "block", desc := "(II)I" } : Jvm.MethodName)) ∈ tG := mG (List.mem_append_right _ (List.mem_append_right _ (List.mem_append_right _ (List.mem_append_right _ (List.mem_of_getElem? (i := 40) rfl))))) rfl
set_option maxRecDepth 20000 in
theorem w_761 : (Jvm.Cond.code ({ cls := "VoiceHouseModel", name := "block", desc := "(II)I" } : Jvm.MethodName) prog_10_method_24_code (5 : Nat) (Option.some Jvm.ClassFile.FieldType.int)) ∈ tG := mG (List.mem_append_right _ (List.mem_append_right _ (List.mem_append_right _ (List.mem_append_right _ (List.mem_of_getElem? (i := 41) rfl))))) rfl
set_option maxRecDepth 20000 in
theorem w_762 : (Jvm.Cond.methodLink "VoiceHouseModel" (105 : Nat) ({ cls := "VoiceHouseModel", name := "blocks", desc := "()V" } : Jvm.MethodName)) ∈ tG := mG (List.mem_append_right _ (List.mem_append_right _ (List.mem_append_right _ (List.mem_append_right _ (List.mem_of_getElem? (i := 42) rfl))))) rfl
set_option maxRecDepth 20000 in
theorem w_764 : (Jvm.Cond.instanceMethod ({ cls := "VoiceHouseModel", name := "blocks", desc := "()V" } : Jvm.MethodName)) ∈ tG := mG (List.mem_append_right _ (List.mem_append_right _ (List.mem_append_right _ (List.mem_append_right _ (List.mem_of_getElem? (i := 44) rfl))))) rfl
set_option maxRecDepth 20000 in
theorem w_765 : (Jvm.Cond.code ({ cls := "VoiceHouseModel", name := "blocks", desc := "()V" } : Jvm.MethodName) prog_10_method_22_code (5 : Nat) (Option.none : Option Jvm.ClassFile.FieldType)) ∈ tG := mG (List.mem_append_right _ (List.mem_append_right _ (List.mem_append_right _ (List.mem_append_right _ (List.mem_of_getElem? (i := 45) rfl))))) rfl
set_option maxRecDepth 20000 in
theorem w_766 : (Jvm.Cond.methodLink "VoiceHouseModel" (98 : Nat) ({ cls := "VoiceHouseModel", name := "nextBlock", desc := "(I)I" } : Jvm.MethodName)) ∈ tG := mG (List.mem_append_right _ (List.mem_append_right _ (List.mem_append_right _ (List.mem_append_right _ (List.mem_of_getElem? (i := 46) rfl))))) rfl
set_option maxRecDepth 20000 in
theorem w_768 : (Jvm.Cond.instanceMethod ({ cls := "VoiceHouseModel", name := "nextBlock", desc := "(I)I" } : Jvm.MethodName)) ∈ tG := mG (List.mem_append_right _ (List.mem_append_right _ (List.mem_append_right _ (List.mem_append_right _ (List.mem_of_getElem? (i := 48) rfl))))) rfl
set_option maxRecDepth 20000 in
theorem w_769 : (Jvm.Cond.code ({ cls := "VoiceHouseModel", name := "nextBlock", desc := "(I)I" } : Jvm.MethodName) prog_10_method_20_code (3 : Nat) (Option.some Jvm.ClassFile.FieldType.int)) ∈ tG := mG (List.mem_append_right _ (List.mem_append_right _ (List.mem_append_right _ (List.mem_append_right _ (List.mem_of_getElem? (i := 49) rfl))))) rfl
set_option maxRecDepth 20000 in
theorem w_770 : (Jvm.Cond.methodLink "VoiceHouseModel" (101 : Nat) ({ cls := "VoiceHouseModel", name := "isOut", desc := "(II)Z" } : Jvm.MethodName)) ∈ tG := mG (List.mem_append_right _ (List.mem_append_right _ (List.mem_append_right _ (List.mem_append_right _ (List.mem_of_getElem? (i := 50) rfl))))) rfl
set_option maxRecDepth 20000 in
theorem w_772 : (Jvm.Cond.instanceMethod ({ cls := "VoiceHouseModel", name := "isOut", desc := "(II)Z" } : Jvm.MethodName)) ∈ tG := mG (List.mem_append_right _ (List.mem_append_right _ (List.mem_append_right _ (List.mem_append_right _ (List.mem_of_getElem? (i := 52) rfl))))) rfl
set_option maxRecDepth 20000 in
theorem w_773 : (Jvm.Cond.code ({ cls := "VoiceHouseModel", name := "isOut", desc := "(II)Z" } : Jvm.MethodName) prog_10_method_21_code (5 : Nat) (Option.some Jvm.ClassFile.FieldType.boolean)) ∈ tG := mG (List.mem_append_right _ (List.mem_append_right _ (List.mem_append_right _ (List.mem_append_right _ (List.mem_of_getElem? (i := 53) rfl))))) rfl
set_option maxRecDepth 20000 in
theorem w_774 : (Jvm.Cond.methodLink "VoiceHouseModel" (91 : Nat) ({ cls := "VoiceHouseModel", name := "sumOf", desc := "(IZ)I" } : Jvm.MethodName)) ∈ tG := mG (List.mem_append_right _ (List.mem_append_right _ (List.mem_append_right _ (List.mem_append_right _ (List.mem_of_getElem? (i := 54) rfl))))) rfl
set_option maxRecDepth 20000 in
theorem w_776 : (Jvm.Cond.instanceMethod ({ cls := "VoiceHouseModel", name := "sumOf", desc := "(IZ)I" } : Jvm.MethodName)) ∈ tG := mG (List.mem_append_right _ (List.mem_append_right _ (List.mem_append_right _ (List.mem_append_right _ (List.mem_of_getElem? (i := 56) rfl))))) rfl
set_option maxRecDepth 20000 in
theorem w_777 : (Jvm.Cond.code ({ cls := "VoiceHouseModel", name := "sumOf", desc := "(IZ)I" } : Jvm.MethodName) prog_10_method_19_code (5 : Nat) (Option.some Jvm.ClassFile.FieldType.int)) ∈ tG := mG (List.mem_append_right _ (List.mem_append_right _ (List.mem_append_right _ (List.mem_append_right _ (List.mem_of_getElem? (i := 57) rfl))))) rfl
set_option maxRecDepth 20000 in
theorem w_778 : (Jvm.Cond.methodLink "VoiceHouseLaw" (60 : Nat) ({ cls := "VoiceHouseModel", name := "odds", desc := "(II)I" } : Jvm.MethodName)) ∈ tG := mG (List.mem_append_right _ (List.mem_append_right _ (List.mem_append_right _ (List.mem_append_right _ (List.mem_of_getElem? (i := 58) rfl))))) rfl
set_option maxRecDepth 20000 in
theorem w_779 : (Jvm.Cond.instanceMethod ({ cls := "VoiceHouseModel", name := "odds", desc := "(II)I" } : Jvm.MethodName)) ∈ tG := mG (List.mem_append_right _ (List.mem_append_right _ (List.mem_append_right _ (List.mem_append_right _ (List.mem_of_getElem? (i := 59) rfl))))) rfl
set_option maxRecDepth 20000 in
theorem w_780 : (Jvm.Cond.selects "VoiceHouseModel" ({ cls := "VoiceHouseModel", name := "odds", desc := "(II)I" } : Jvm.MethodName) ({ cls := "VoiceHouseModel", name := "odds", desc := "(II)I" } : Jvm.MethodName)) ∈ tG := mG (List.mem_append_right _ (List.mem_append_right _ (List.mem_append_right _ (List.mem_append_right _ (List.mem_of_getElem? (i := 60) rfl))))) rfl
set_option maxRecDepth 20000 in
theorem w_781 : (Jvm.Cond.code ({ cls := "VoiceHouseModel", name := "odds", desc := "(II)I" } : Jvm.MethodName) prog_10_method_26_code (4 : Nat) (Option.some Jvm.ClassFile.FieldType.int)) ∈ tG := mG (List.mem_append_right _ (List.mem_append_right _ (List.mem_append_right _ (List.mem_append_right _ (List.mem_of_getElem? (i := 61) rfl))))) rfl
set_option maxRecDepth 20000 in
theorem w_782 : (Jvm.Cond.methodLink "VoiceHouseModel" (108 : Nat) ({ cls := "VoiceHouseModel", name := "all", desc := "([I)I" } : Jvm.MethodName)) ∈ tG := mG (List.mem_append_right _ (List.mem_append_right _ (List.mem_append_right _ (List.mem_append_right _ (List.mem_of_getElem? (i := 62) rfl))))) rfl
set_option maxRecDepth 20000 in
theorem w_783 : (Jvm.Cond.static ({ cls := "VoiceHouseModel", name := "all", desc := "([I)I" } : Jvm.MethodName)) ∈ tG := mG (List.mem_append_right _ (List.mem_append_right _ (List.mem_append_right _ (List.mem_append_right _ (List.mem_of_getElem? (i := 63) rfl))))) rfl
set_option maxRecDepth 20000 in
theorem w_784 : (Jvm.Cond.code ({ cls := "VoiceHouseModel", name := "all", desc := "([I)I" } : Jvm.MethodName) prog_10_method_25_code (3 : Nat) (Option.some Jvm.ClassFile.FieldType.int)) ∈ tG := mG (List.mem_append_right _ (List.mem_append_right _ (List.mem_append_right _ (List.mem_append_right _ (List.mem_of_getElem? (i := 64) rfl))))) rfl
set_option maxRecDepth 20000 in
theorem w_785 : (Jvm.Cond.methodLink "VoiceHouseLaw" (65 : Nat) ({ cls := "VoiceHouseModel", name := "segment", desc := "(I)I" } : Jvm.MethodName)) ∈ tG := mG (List.mem_append_right _ (List.mem_append_right _ (List.mem_append_right _ (List.mem_append_right _ (List.mem_of_getElem? (i := 65) rfl))))) rfl
set_option maxRecDepth 20000 in
theorem w_786 : (Jvm.Cond.instanceMethod ({ cls := "VoiceHouseModel", name := "segment", desc := "(I)I" } : Jvm.MethodName)) ∈ tG := mG (List.mem_append_right _ (List.mem_append_right _ (List.mem_append_right _ (List.mem_append_right _ (List.mem_of_getElem? (i := 66) rfl))))) rfl
set_option maxRecDepth 20000 in
theorem w_787 : (Jvm.Cond.selects "VoiceHouseModel" ({ cls := "VoiceHouseModel", name := "segment", desc := "(I)I" } : Jvm.MethodName) ({ cls := "VoiceHouseModel", name := "segment", desc := "(I)I" } : Jvm.MethodName)) ∈ tG := mG (List.mem_append_right _ (List.mem_append_right _ (List.mem_append_right _ (List.mem_append_right _ (List.mem_of_getElem? (i := 67) rfl))))) rfl
set_option maxRecDepth 20000 in
theorem w_788 : (Jvm.Cond.code ({ cls := "VoiceHouseModel", name := "segment", desc := "(I)I" } : Jvm.MethodName) prog_10_method_27_code (3 : Nat) (Option.some Jvm.ClassFile.FieldType.int)) ∈ tG := mG (List.mem_append_right _ (List.mem_append_right _ (List.mem_append_right _ (List.mem_append_right _ (List.mem_of_getElem? (i := 68) rfl))))) rfl
set_option maxRecDepth 20000 in
theorem w_789 : (Jvm.Cond.methodLink "VoiceHouseLaw" (70 : Nat) ({ cls := "VoiceHouseModel", name := "clear", desc := "()I" } : Jvm.MethodName)) ∈ tG := mG (List.mem_append_right _ (List.mem_append_right _ (List.mem_append_right _ (List.mem_append_right _ (List.mem_of_getElem? (i := 69) rfl))))) rfl
set_option maxRecDepth 20000 in
theorem w_790 : (Jvm.Cond.instanceMethod ({ cls := "VoiceHouseModel", name := "clear", desc := "()I" } : Jvm.MethodName)) ∈ tG := mG (List.mem_append_right _ (List.mem_append_right _ (List.mem_append_right _ (List.mem_append_right _ (List.mem_of_getElem? (i := 70) rfl))))) rfl
set_option maxRecDepth 20000 in
theorem w_791 : (Jvm.Cond.selects "VoiceHouseModel" ({ cls := "VoiceHouseModel", name := "clear", desc := "()I" } : Jvm.MethodName) ({ cls := "VoiceHouseModel", name := "clear", desc := "()I" } : Jvm.MethodName)) ∈ tG := mG (List.mem_append_right _ (List.mem_append_right _ (List.mem_append_right _ (List.mem_append_right _ (List.mem_of_getElem? (i := 71) rfl))))) rfl
set_option maxRecDepth 20000 in
theorem w_792 : (Jvm.Cond.code ({ cls := "VoiceHouseModel", name := "clear", desc := "()I" } : Jvm.MethodName) prog_10_method_28_code (2 : Nat) (Option.some Jvm.ClassFile.FieldType.int)) ∈ tG := mG (List.mem_append_right _ (List.mem_append_right _ (List.mem_append_right _ (List.mem_append_right _ (List.mem_of_getElem? (i := 72) rfl))))) rfl
set_option maxRecDepth 20000 in
theorem w_793 : (Jvm.Cond.methodLink "VoiceHouseLaw" (74 : Nat) ({ cls := "VoiceHouseModel", name := "voice", desc := "(I)I" } : Jvm.MethodName)) ∈ tG := mG (List.mem_append_right _ (List.mem_append_right _ (List.mem_append_right _ (List.mem_append_right _ (List.mem_of_getElem? (i := 73) rfl))))) rfl
set_option maxRecDepth 20000 in
theorem w_794 : (Jvm.Cond.instanceMethod ({ cls := "VoiceHouseModel", name := "voice", desc := "(I)I" } : Jvm.MethodName)) ∈ tG := mG (List.mem_append_right _ (List.mem_append_right _ (List.mem_append_right _ (List.mem_append_right _ (List.mem_of_getElem? (i := 74) rfl))))) rfl
set_option maxRecDepth 20000 in
theorem w_795 : (Jvm.Cond.selects "VoiceHouseModel" ({ cls := "VoiceHouseModel", name := "voice", desc := "(I)I" } : Jvm.MethodName) ({ cls := "VoiceHouseModel", name := "voice", desc := "(I)I" } : Jvm.MethodName)) ∈ tG := mG (List.mem_append_right _ (List.mem_append_right _ (List.mem_append_right _ (List.mem_append_right _ (List.mem_of_getElem? (i := 75) rfl))))) rfl
set_option maxRecDepth 20000 in
theorem w_796 : (Jvm.Cond.code ({ cls := "VoiceHouseModel", name := "voice", desc := "(I)I" } : Jvm.MethodName) prog_10_method_32_code (2 : Nat) (Option.some Jvm.ClassFile.FieldType.int)) ∈ tG := mG (List.mem_append_right _ (List.mem_append_right _ (List.mem_append_right _ (List.mem_append_right _ (List.mem_of_getElem? (i := 76) rfl))))) rfl
set_option maxRecDepth 20000 in
theorem w_797 : (Jvm.Cond.methodLink "VoiceHouseModel" (124 : Nat) ({ cls := "VoiceHouseModel", name := "joins", desc := "()V" } : Jvm.MethodName)) ∈ tG := mG (List.mem_append_right _ (List.mem_append_right _ (List.mem_append_right _ (List.mem_append_right _ (List.mem_of_getElem? (i := 77) rfl))))) rfl
set_option maxRecDepth 20000 in
theorem w_799 : (Jvm.Cond.instanceMethod ({ cls := "VoiceHouseModel", name := "joins", desc := "()V" } : Jvm.MethodName)) ∈ tG := mG (List.mem_append_right _ (List.mem_append_right _ (List.mem_append_right _ (List.mem_append_right _ (List.mem_of_getElem? (i := 79) rfl))))) rfl
set_option maxRecDepth 20000 in
theorem w_800 : (Jvm.Cond.code ({ cls := "VoiceHouseModel", name := "joins", desc := "()V" } : Jvm.MethodName) prog_10_method_31_code (9 : Nat) (Option.none : Option Jvm.ClassFile.FieldType)) ∈ tG := mG (List.mem_append_right _ (List.mem_append_right _ (List.mem_append_right _ (List.mem_append_right _ (List.mem_of_getElem? (i := 80) rfl))))) rfl
set_option maxRecDepth 20000 in
theorem w_801 : (Jvm.Cond.methodLink "VoiceHouseModel" (118 : Nat) ({ cls := "VoiceHouseModel", name := "scoresAll", desc := "()V" } : Jvm.MethodName)) ∈ tG := mG (List.mem_append_right _ (List.mem_append_right _ (List.mem_append_right _ (List.mem_append_right _ (List.mem_of_getElem? (i := 81) rfl))))) rfl
set_option maxRecDepth 20000 in
theorem w_803 : (Jvm.Cond.instanceMethod ({ cls := "VoiceHouseModel", name := "scoresAll", desc := "()V" } : Jvm.MethodName)) ∈ tG := mG (List.mem_append_right _ (List.mem_append_right _ (List.mem_append_right _ (List.mem_append_right _ (List.mem_of_getElem? (i := 83) rfl))))) rfl
set_option maxRecDepth 20000 in
theorem w_804 : (Jvm.Cond.code ({ cls := "VoiceHouseModel", name := "scoresAll", desc := "()V" } : Jvm.MethodName) prog_10_method_29_code (3 : Nat) (Option.none : Option Jvm.ClassFile.FieldType)) ∈ tG := mG (List.mem_append_right _ (List.mem_append_right _ (List.mem_append_right _ (List.mem_append_right _ (List.mem_of_getElem? (i := 84) rfl))))) rfl
set_option maxRecDepth 20000 in
theorem w_805 : (Jvm.Cond.methodLink "VoiceHouseModel" (121 : Nat) ({ cls := "VoiceHouseModel", name := "between", desc := "(II)I" } : Jvm.MethodName)) ∈ tG := mG (List.mem_append_right _ (List.mem_append_right _ (List.mem_append_right _ (List.mem_append_right _ (List.mem_of_getElem? (i := 85) rfl))))) rfl
set_option maxRecDepth 20000 in
theorem w_807 : (Jvm.Cond.instanceMethod ({ cls := "VoiceHouseModel", name := "between", desc := "(II)I" } : Jvm.MethodName)) ∈ tG := mG (List.mem_append_right _ (List.mem_append_right _ (List.mem_append_right _ (List.mem_append_right _ (List.mem_of_getElem? (i := 87) rfl))))) rfl
set_option maxRecDepth 20000 in
theorem w_808 : (Jvm.Cond.code ({ cls := "VoiceHouseModel", name := "between", desc := "(II)I" } : Jvm.MethodName) prog_10_method_30_code (6 : Nat) (Option.some Jvm.ClassFile.FieldType.int)) ∈ tG := mG (List.mem_append_right _ (List.mem_append_right _ (List.mem_append_right _ (List.mem_append_right _ (List.mem_of_getElem? (i := 88) rfl))))) rfl
set_option maxRecDepth 20000 in
theorem w_809 : (Jvm.Cond.methodLink "VoiceHouseLaw" (78 : Nat) ({ cls := "VoiceHouseModel", name := "voices", desc := "()I" } : Jvm.MethodName)) ∈ tG := mG (List.mem_append_right _ (List.mem_append_right _ (List.mem_append_right _ (List.mem_append_right _ (List.mem_of_getElem? (i := 89) rfl))))) rfl
set_option maxRecDepth 20000 in
theorem w_810 : (Jvm.Cond.instanceMethod ({ cls := "VoiceHouseModel", name := "voices", desc := "()I" } : Jvm.MethodName)) ∈ tG := mG (List.mem_append_right _ (List.mem_append_right _ (List.mem_append_right _ (List.mem_append_right _ (List.mem_of_getElem? (i := 90) rfl))))) rfl
set_option maxRecDepth 20000 in
theorem w_811 : (Jvm.Cond.selects "VoiceHouseModel" ({ cls := "VoiceHouseModel", name := "voices", desc := "()I" } : Jvm.MethodName) ({ cls := "VoiceHouseModel", name := "voices", desc := "()I" } : Jvm.MethodName)) ∈ tG := mG (List.mem_append_right _ (List.mem_append_right _ (List.mem_append_right _ (List.mem_append_right _ (List.mem_of_getElem? (i := 91) rfl))))) rfl
set_option maxRecDepth 20000 in
theorem w_812 : (Jvm.Cond.code ({ cls := "VoiceHouseModel", name := "voices", desc := "()I" } : Jvm.MethodName) prog_10_method_33_code (3 : Nat) (Option.some Jvm.ClassFile.FieldType.int)) ∈ tG := mG (List.mem_append_right _ (List.mem_append_right _ (List.mem_append_right _ (List.mem_append_right _ (List.mem_of_getElem? (i := 92) rfl))))) rfl
set_option maxRecDepth 20000 in
theorem w_813 : (Jvm.Cond.methodLink "VoiceHouseLaw" (82 : Nat) ({ cls := "VoiceHouseModel", name := "spare", desc := "()I" } : Jvm.MethodName)) ∈ tG := mG (List.mem_append_right _ (List.mem_append_right _ (List.mem_append_right _ (List.mem_append_right _ (List.mem_of_getElem? (i := 93) rfl))))) rfl
set_option maxRecDepth 20000 in
theorem w_814 : (Jvm.Cond.instanceMethod ({ cls := "VoiceHouseModel", name := "spare", desc := "()I" } : Jvm.MethodName)) ∈ tG := mG (List.mem_append_right _ (List.mem_append_right _ (List.mem_append_right _ (List.mem_append_right _ (List.mem_of_getElem? (i := 94) rfl))))) rfl
set_option maxRecDepth 20000 in
theorem w_815 : (Jvm.Cond.selects "VoiceHouseModel" ({ cls := "VoiceHouseModel", name := "spare", desc := "()I" } : Jvm.MethodName) ({ cls := "VoiceHouseModel", name := "spare", desc := "()I" } : Jvm.MethodName)) ∈ tG := mG (List.mem_append_right _ (List.mem_append_right _ (List.mem_append_right _ (List.mem_append_right _ (List.mem_of_getElem? (i := 95) rfl))))) rfl
set_option maxRecDepth 20000 in
theorem w_816 : (Jvm.Cond.code ({ cls := "VoiceHouseModel", name := "spare", desc := "()I" } : Jvm.MethodName) prog_10_method_35_code (5 : Nat) (Option.some Jvm.ClassFile.FieldType.int)) ∈ tG := mG (List.mem_append_right _ (List.mem_append_right _ (List.mem_append_right _ (List.mem_append_right _ (List.mem_of_getElem? (i := 96) rfl))))) rfl
set_option maxRecDepth 20000 in
theorem w_817 : (Jvm.Cond.methodLink "VoiceHouseModel" (127 : Nat) ({ cls := "VoiceHouseModel", name := "costOf", desc := "(I)I" } : Jvm.MethodName)) ∈ tG := mG (List.mem_append_right _ (List.mem_append_right _ (List.mem_append_right _ (List.mem_append_right _ (List.mem_of_getElem? (i := 97) rfl))))) rfl
set_option maxRecDepth 20000 in
theorem w_819 : (Jvm.Cond.instanceMethod ({ cls := "VoiceHouseModel", name := "costOf", desc := "(I)I" } : Jvm.MethodName)) ∈ tG := mG (List.mem_append_right _ (List.mem_append_right _ (List.mem_append_right _ (List.mem_append_right _ (List.mem_of_getElem? (i := 99) rfl))))) rfl
set_option maxRecDepth 20000 in
theorem w_820 : (Jvm.Cond.code ({ cls := "VoiceHouseModel", name := "costOf", desc := "(I)I" } : Jvm.MethodName) prog_10_method_34_code (5 : Nat) (Option.some Jvm.ClassFile.FieldType.int)) ∈ tG := mG (List.mem_append_right _ (List.mem_append_right _ (List.mem_append_right _ (List.mem_append_right _ (List.mem_of_getElem? (i := 100) rfl))))) rfl
set_option maxRecDepth 20000 in
theorem w_821 : (Jvm.Cond.methodLink "VoiceHouseLaw" (86 : Nat) ({ cls := "VoiceHouseModel", name := "lined", desc := "(II)I" } : Jvm.MethodName)) ∈ tG := mG (List.mem_append_right _ (List.mem_append_right _ (List.mem_append_right _ (List.mem_append_right _ (List.mem_of_getElem? (i := 101) rfl))))) rfl
set_option maxRecDepth 20000 in
theorem w_822 : (Jvm.Cond.instanceMethod ({ cls := "VoiceHouseModel", name := "lined", desc := "(II)I" } : Jvm.MethodName)) ∈ tG := mG (List.mem_append_right _ (List.mem_append_right _ (List.mem_append_right _ (List.mem_append_right _ (List.mem_of_getElem? (i := 102) rfl))))) rfl
set_option maxRecDepth 20000 in
theorem w_823 : (Jvm.Cond.selects "VoiceHouseModel" ({ cls := "VoiceHouseModel", name := "lined", desc := "(II)I" } : Jvm.MethodName) ({ cls := "VoiceHouseModel", name := "lined", desc := "(II)I" } : Jvm.MethodName)) ∈ tG := mG (List.mem_append_right _ (List.mem_append_right _ (List.mem_append_right _ (List.mem_append_right _ (List.mem_of_getElem? (i := 103) rfl))))) rfl
set_option maxRecDepth 20000 in
theorem w_824 : (Jvm.Cond.code ({ cls := "VoiceHouseModel", name := "lined", desc := "(II)I" } : Jvm.MethodName) prog_10_method_37_code (3 : Nat) (Option.some Jvm.ClassFile.FieldType.int)) ∈ tG := mG (List.mem_append_right _ (List.mem_append_right _ (List.mem_append_right _ (List.mem_append_right _ (List.mem_of_getElem? (i := 104) rfl))))) rfl
set_option maxRecDepth 20000 in
theorem w_825 : (Jvm.Cond.methodLink "VoiceHouseModel" (130 : Nat) ({ cls := "VoiceHouseModel", name := "lines", desc := "(I)I" } : Jvm.MethodName)) ∈ tG := mG (List.mem_append_right _ (List.mem_append_right _ (List.mem_append_right _ (List.mem_append_right _ (List.mem_of_getElem? (i := 105) rfl))))) rfl
set_option maxRecDepth 20000 in
theorem w_827 : (Jvm.Cond.instanceMethod ({ cls := "VoiceHouseModel", name := "lines", desc := "(I)I" } : Jvm.MethodName)) ∈ tG := mG (List.mem_append_right _ (List.mem_append_right _ (List.mem_append_right _ (List.mem_append_right _ (List.mem_of_getElem? (i := 107) rfl))))) rfl
set_option maxRecDepth 20000 in
theorem w_828 : (Jvm.Cond.code ({ cls := "VoiceHouseModel", name := "lines", desc := "(I)I" } : Jvm.MethodName) prog_10_method_36_code (6 : Nat) (Option.some Jvm.ClassFile.FieldType.int)) ∈ tG := mG (List.mem_append_right _ (List.mem_append_right _ (List.mem_append_right _ (List.mem_append_right _ (List.mem_of_getElem? (i := 108) rfl))))) rfl
set_option maxRecDepth 20000 in
theorem w_829 : (Jvm.Cond.methodLink "VoiceHouseLaw" (90 : Nat) ({ cls := "VoiceHouseModel", name := "rank", desc := "(II)I" } : Jvm.MethodName)) ∈ tG := mG (List.mem_append_right _ (List.mem_append_right _ (List.mem_append_right _ (List.mem_append_right _ (List.mem_of_getElem? (i := 109) rfl))))) rfl
set_option maxRecDepth 20000 in
theorem w_830 : (Jvm.Cond.instanceMethod ({ cls := "VoiceHouseModel", name := "rank", desc := "(II)I" } : Jvm.MethodName)) ∈ tG := mG (List.mem_append_right _ (List.mem_append_right _ (List.mem_append_right _ (List.mem_append_right _ (List.mem_of_getElem? (i := 110) rfl))))) rfl
set_option maxRecDepth 20000 in
theorem w_831 : (Jvm.Cond.selects "VoiceHouseModel" ({ cls := "VoiceHouseModel", name := "rank", desc := "(II)I" } : Jvm.MethodName) ({ cls := "VoiceHouseModel", name := "rank", desc := "(II)I" } : Jvm.MethodName)) ∈ tG := mG (List.mem_append_right _ (List.mem_append_right _ (List.mem_append_right _ (List.mem_append_right _ (List.mem_of_getElem? (i := 111) rfl))))) rfl
set_option maxRecDepth 20000 in
theorem w_832 : (Jvm.Cond.code ({ cls := "VoiceHouseModel", name := "rank", desc := "(II)I" } : Jvm.MethodName) prog_10_method_38_code (8 : Nat) (Option.some Jvm.ClassFile.FieldType.int)) ∈ tG := mG (List.mem_append_right _ (List.mem_append_right _ (List.mem_append_right _ (List.mem_append_right _ (List.mem_of_getElem? (i := 112) rfl))))) rfl
set_option maxRecDepth 20000 in
theorem w_833 : (Jvm.Cond.methodLink "VoiceHouseLaw" (94 : Nat) ({ cls := "VoiceHouseModel", name := "test", desc := "(II)I" } : Jvm.MethodName)) ∈ tG := mG (List.mem_append_right _ (List.mem_append_right _ (List.mem_append_right _ (List.mem_append_right _ (List.mem_of_getElem? (i := 113) rfl))))) rfl
set_option maxRecDepth 20000 in
theorem w_834 : (Jvm.Cond.instanceMethod ({ cls := "VoiceHouseModel", name := "test", desc := "(II)I" } : Jvm.MethodName)) ∈ tG := mG (List.mem_append_right _ (List.mem_append_right _ (List.mem_append_right _ (List.mem_append_right _ (List.mem_of_getElem? (i := 114) rfl))))) rfl
set_option maxRecDepth 20000 in
theorem w_835 : (Jvm.Cond.selects "VoiceHouseModel" ({ cls := "VoiceHouseModel", name := "test", desc := "(II)I" } : Jvm.MethodName) ({ cls := "VoiceHouseModel", name := "test", desc := "(II)I" } : Jvm.MethodName)) ∈ tG := mG (List.mem_append_right _ (List.mem_append_right _ (List.mem_append_right _ (List.mem_append_right _ (List.mem_of_getElem? (i := 115) rfl))))) rfl
set_option maxRecDepth 20000 in
theorem w_836 : (Jvm.Cond.code ({ cls := "VoiceHouseModel", name := "test", desc := "(II)I" } : Jvm.MethodName) prog_10_method_39_code (6 : Nat) (Option.some Jvm.ClassFile.FieldType.int)) ∈ tG := mG (List.mem_append_right _ (List.mem_append_right _ (List.mem_append_right _ (List.mem_append_right _ (List.mem_of_getElem? (i := 116) rfl))))) rfl
set_option maxRecDepth 20000 in
theorem w_837 : (Jvm.Cond.methodLink "VoiceHouseModel" (136 : Nat) ({ cls := "VoiceHouseModel", name := "score", desc := "(II)I" } : Jvm.MethodName)) ∈ tG := mG (List.mem_append_right _ (List.mem_append_right _ (List.mem_append_right _ (List.mem_append_right _ (List.mem_of_getElem? (i := 117) rfl))))) rfl
set_option maxRecDepth 20000 in
theorem w_838 : (Jvm.Cond.methodLink "VoiceHouseLaw" (98 : Nat) ({ cls := "VoiceHouseModel", name := "right", desc := "(I)I" } : Jvm.MethodName)) ∈ tG := mG (List.mem_append_right _ (List.mem_append_right _ (List.mem_append_right _ (List.mem_append_right _ (List.mem_of_getElem? (i := 118) rfl))))) rfl
set_option maxRecDepth 20000 in
theorem w_839 : (Jvm.Cond.instanceMethod ({ cls := "VoiceHouseModel", name := "right", desc := "(I)I" } : Jvm.MethodName)) ∈ tG := mG (List.mem_append_right _ (List.mem_append_right _ (List.mem_append_right _ (List.mem_append_right _ (List.mem_of_getElem? (i := 119) rfl))))) rfl
set_option maxRecDepth 20000 in
theorem w_840 : (Jvm.Cond.selects "VoiceHouseModel" ({ cls := "VoiceHouseModel", name := "right", desc := "(I)I" } : Jvm.MethodName) ({ cls := "VoiceHouseModel", name := "right", desc := "(I)I" } : Jvm.MethodName)) ∈ tG := mG (List.mem_append_right _ (List.mem_append_right _ (List.mem_append_right _ (List.mem_append_right _ (List.mem_of_getElem? (i := 120) rfl))))) rfl
set_option maxRecDepth 20000 in
theorem w_841 : (Jvm.Cond.code ({ cls := "VoiceHouseModel", name := "right", desc := "(I)I" } : Jvm.MethodName) prog_10_method_40_code (2 : Nat) (Option.some Jvm.ClassFile.FieldType.int)) ∈ tG := mG (List.mem_append_right _ (List.mem_append_right _ (List.mem_append_right _ (List.mem_append_right _ (List.mem_of_getElem? (i := 121) rfl))))) rfl
set_option maxRecDepth 20000 in
theorem w_842 : (Jvm.Cond.methodLink "VoiceHouseLaw" (102 : Nat) ({ cls := "VoiceHouseModel", name := "told", desc := "(II)I" } : Jvm.MethodName)) ∈ tG := mG (List.mem_append_right _ (List.mem_append_right _ (List.mem_append_right _ (List.mem_append_right _ (List.mem_of_getElem? (i := 122) rfl))))) rfl
set_option maxRecDepth 20000 in
theorem w_843 : (Jvm.Cond.instanceMethod ({ cls := "VoiceHouseModel", name := "told", desc := "(II)I" } : Jvm.MethodName)) ∈ tG := mG (List.mem_append_right _ (List.mem_append_right _ (List.mem_append_right _ (List.mem_append_right _ (List.mem_of_getElem? (i := 123) rfl))))) rfl
set_option maxRecDepth 20000 in
theorem w_844 : (Jvm.Cond.selects "VoiceHouseModel" ({ cls := "VoiceHouseModel", name := "told", desc := "(II)I" } : Jvm.MethodName) ({ cls := "VoiceHouseModel", name := "told", desc := "(II)I" } : Jvm.MethodName)) ∈ tG := mG (List.mem_append_right _ (List.mem_append_right _ (List.mem_append_right _ (List.mem_append_right _ (List.mem_of_getElem? (i := 124) rfl))))) rfl
set_option maxRecDepth 20000 in
theorem w_845 : (Jvm.Cond.code ({ cls := "VoiceHouseModel", name := "told", desc := "(II)I" } : Jvm.MethodName) prog_10_method_41_code (5 : Nat) (Option.some Jvm.ClassFile.FieldType.int)) ∈ tG := mG (List.mem_append_right _ (List.mem_append_right _ (List.mem_append_right _ (List.mem_append_right _ (List.mem_of_getElem? (i := 125) rfl))))) rfl
set_option maxRecDepth 20000 in
theorem w_846 : (Jvm.Cond.methodLink "VoiceHouseLaw" (106 : Nat) ({ cls := "VoiceHouseModel", name := "count", desc := "(I)I" } : Jvm.MethodName)) ∈ tG := mG (List.mem_append_right _ (List.mem_append_right _ (List.mem_append_right _ (List.mem_append_right _ (List.mem_of_getElem? (i := 126) rfl))))) rfl
set_option maxRecDepth 20000 in
theorem w_847 : (Jvm.Cond.instanceMethod ({ cls := "VoiceHouseModel", name := "count", desc := "(I)I" } : Jvm.MethodName)) ∈ tG := mG (List.mem_append_right _ (List.mem_append_right _ (List.mem_append_right _ (List.mem_append_right _ (List.mem_of_getElem? (i := 127) rfl))))) rfl
set_option maxRecDepth 20000 in
theorem w_848 : (Jvm.Cond.selects "VoiceHouseModel" ({ cls := "VoiceHouseModel", name := "count", desc := "(I)I" } : Jvm.MethodName) ({ cls := "VoiceHouseModel", name := "count", desc := "(I)I" } : Jvm.MethodName)) ∈ tG := mG (List.mem_append_right _ (List.mem_append_right _ (List.mem_append_right _ (List.mem_append_right _ (List.mem_of_getElem? (i := 128) rfl))))) rfl
set_option maxRecDepth 20000 in
theorem w_849 : (Jvm.Cond.code ({ cls := "VoiceHouseModel", name := "count", desc := "(I)I" } : Jvm.MethodName) prog_10_method_42_code (4 : Nat) (Option.some Jvm.ClassFile.FieldType.int)) ∈ tG := mG (List.mem_append_right _ (List.mem_append_right _ (List.mem_append_right _ (List.mem_append_right _ (List.mem_of_getElem? (i := 129) rfl))))) rfl
theorem s_1_2 : Cond.selects yX2_insert.cls yX2_insert yX2_insert ∈ tG := mG (List.mem_append_left _ (List.mem_map.mpr ⟨(yX2_insert, 5), List.mem_append_right _ (List.mem_append_left _ (List.mem_of_getElem? (i := 2) rfl)), rfl⟩)) rfl
theorem s_0_3 : Cond.selects yX3_countPairs.cls yX3_countPairs yX3_countPairs ∈ tG := mG (List.mem_append_left _ (List.mem_map.mpr ⟨(yX3_countPairs, 11), List.mem_append_left _ (List.mem_of_getElem? (i := 3) rfl), rfl⟩)) rfl
theorem s_0_5 : Cond.selects yX3_makeBlocks.cls yX3_makeBlocks yX3_makeBlocks ∈ tG := mG (List.mem_append_left _ (List.mem_map.mpr ⟨(yX3_makeBlocks, 11), List.mem_append_left _ (List.mem_of_getElem? (i := 5) rfl), rfl⟩)) rfl
theorem s_0_7 : Cond.selects yX3_putBlocksInOrder.cls yX3_putBlocksInOrder yX3_putBlocksInOrder ∈ tG := mG (List.mem_append_left _ (List.mem_map.mpr ⟨(yX3_putBlocksInOrder, 11), List.mem_append_left _ (List.mem_of_getElem? (i := 7) rfl), rfl⟩)) rfl
theorem s_0_4 : Cond.selects yX3_countPair.cls yX3_countPair yX3_countPair ∈ tG := mG (List.mem_append_left _ (List.mem_map.mpr ⟨(yX3_countPair, 11), List.mem_append_left _ (List.mem_of_getElem? (i := 4) rfl), rfl⟩)) rfl
theorem s_0_6 : Cond.selects yX3_isEmptyBand.cls yX3_isEmptyBand yX3_isEmptyBand ∈ tG := mG (List.mem_append_left _ (List.mem_map.mpr ⟨(yX3_isEmptyBand, 11), List.mem_append_left _ (List.mem_of_getElem? (i := 6) rfl), rfl⟩)) rfl
theorem s_0_8 : Cond.selects yX3_findOutOfOrder.cls yX3_findOutOfOrder yX3_findOutOfOrder ∈ tG := mG (List.mem_append_left _ (List.mem_map.mpr ⟨(yX3_findOutOfOrder, 11), List.mem_append_left _ (List.mem_of_getElem? (i := 8) rfl), rfl⟩)) rfl
theorem s_0_10 : Cond.selects yX3_joinWithNext.cls yX3_joinWithNext yX3_joinWithNext ∈ tG := mG (List.mem_append_left _ (List.mem_map.mpr ⟨(yX3_joinWithNext, 11), List.mem_append_left _ (List.mem_of_getElem? (i := 10) rfl), rfl⟩)) rfl
theorem s_0_9 : Cond.selects yX3_isOutOfOrder.cls yX3_isOutOfOrder yX3_isOutOfOrder ∈ tG := mG (List.mem_append_left _ (List.mem_map.mpr ⟨(yX3_isOutOfOrder, 11), List.mem_append_left _ (List.mem_of_getElem? (i := 9) rfl), rfl⟩)) rfl
theorem s_0_11 : Cond.selects yX5_readScores.cls yX5_readScores yX5_readScores ∈ tG := mG (List.mem_append_left _ (List.mem_map.mpr ⟨(yX5_readScores, 9), List.mem_append_left _ (List.mem_of_getElem? (i := 11) rfl), rfl⟩)) rfl
theorem s_0_12 : Cond.selects yX5_joinNearestTwo.cls yX5_joinNearestTwo yX5_joinNearestTwo ∈ tG := mG (List.mem_append_left _ (List.mem_map.mpr ⟨(yX5_joinNearestTwo, 9), List.mem_append_left _ (List.mem_of_getElem? (i := 12) rfl), rfl⟩)) rfl
theorem s_0_13 : Cond.selects yX5_isVoice.cls yX5_isVoice yX5_isVoice ∈ tG := mG (List.mem_append_left _ (List.mem_map.mpr ⟨(yX5_isVoice, 9), List.mem_append_left _ (List.mem_of_getElem? (i := 13) rfl), rfl⟩)) rfl
theorem s_0_14 : Cond.selects yX5_measureCross.cls yX5_measureCross yX5_measureCross ∈ tG := mG (List.mem_append_left _ (List.mem_map.mpr ⟨(yX5_measureCross, 9), List.mem_append_left _ (List.mem_of_getElem? (i := 14) rfl), rfl⟩)) rfl
theorem s_0_15 : Cond.selects yX5_putTogether.cls yX5_putTogether yX5_putTogether ∈ tG := mG (List.mem_append_left _ (List.mem_map.mpr ⟨(yX5_putTogether, 9), List.mem_append_left _ (List.mem_of_getElem? (i := 15) rfl), rfl⟩)) rfl
theorem s_1_0 : Cond.selects yX5_sumWithin.cls yX5_sumWithin yX5_sumWithin ∈ tG := mG (List.mem_append_left _ (List.mem_map.mpr ⟨(yX5_sumWithin, 9), List.mem_append_right _ (List.mem_append_left _ (List.mem_of_getElem? (i := 0) rfl)), rfl⟩)) rfl
theorem s_1_1 : Cond.selects yX5_leastOf.cls yX5_leastOf yX5_leastOf ∈ tG := mG (List.mem_append_left _ (List.mem_map.mpr ⟨(yX5_leastOf, 9), List.mem_append_right _ (List.mem_append_left _ (List.mem_of_getElem? (i := 1) rfl)), rfl⟩)) rfl
theorem s_0_0 : Cond.selects yX6_addPairsOf.cls yX6_addPairsOf yX6_addPairsOf ∈ tG := mG (List.mem_append_left _ (List.mem_map.mpr ⟨(yX6_addPairsOf, 4), List.mem_append_left _ (List.mem_of_getElem? (i := 0) rfl), rfl⟩)) rfl
theorem s_0_1 : Cond.selects yX7_areTwo.cls yX7_areTwo yX7_areTwo ∈ tG := mG (List.mem_append_left _ (List.mem_map.mpr ⟨(yX7_areTwo, 10), List.mem_append_left _ (List.mem_of_getElem? (i := 1) rfl), rfl⟩)) rfl
theorem s_0_2 : Cond.selects yX7_freshPairs.cls yX7_freshPairs yX7_freshPairs ∈ tG := mG (List.mem_append_left _ (List.mem_map.mpr ⟨(yX7_freshPairs, 10), List.mem_append_left _ (List.mem_of_getElem? (i := 2) rfl), rfl⟩)) rfl
theorem s_1_3 : Cond.selects yX7_toneTold.cls yX7_toneTold yX7_toneTold ∈ tG := mG (List.mem_append_left _ (List.mem_map.mpr ⟨(yX7_toneTold, 10), List.mem_append_right _ (List.mem_append_left _ (List.mem_of_getElem? (i := 3) rfl)), rfl⟩)) rfl
theorem s_1_4 : Cond.selects yX8_isRecording.cls yX8_isRecording yX8_isRecording ∈ tG := mG (List.mem_append_left _ (List.mem_map.mpr ⟨(yX8_isRecording, 20), List.mem_append_right _ (List.mem_append_left _ (List.mem_of_getElem? (i := 4) rfl)), rfl⟩)) rfl
theorem s_1_6 : Cond.selects yX8_shiftPairs.cls yX8_shiftPairs yX8_shiftPairs ∈ tG := mG (List.mem_append_left _ (List.mem_map.mpr ⟨(yX8_shiftPairs, 20), List.mem_append_right _ (List.mem_append_left _ (List.mem_of_getElem? (i := 6) rfl)), rfl⟩)) rfl
theorem s_1_5 : Cond.selects yX8_shiftOf.cls yX8_shiftOf yX8_shiftOf ∈ tG := mG (List.mem_append_left _ (List.mem_map.mpr ⟨(yX8_shiftOf, 20), List.mem_append_right _ (List.mem_append_left _ (List.mem_of_getElem? (i := 5) rfl)), rfl⟩)) rfl
theorem s_1_7 : Cond.selects yX8_reckons.cls yX8_reckons yX8_reckons ∈ tG := mG (List.mem_append_left _ (List.mem_map.mpr ⟨(yX8_reckons, 20), List.mem_append_right _ (List.mem_append_left _ (List.mem_of_getElem? (i := 7) rfl)), rfl⟩)) rfl
theorem s_1_8 : Cond.selects yX8_scoreOf.cls yX8_scoreOf yX8_scoreOf ∈ tG := mG (List.mem_append_left _ (List.mem_map.mpr ⟨(yX8_scoreOf, 20), List.mem_append_right _ (List.mem_append_left _ (List.mem_of_getElem? (i := 8) rfl)), rfl⟩)) rfl
theorem s_1_10 : Cond.selects yX8_isOf.cls yX8_isOf yX8_isOf ∈ tG := mG (List.mem_append_left _ (List.mem_map.mpr ⟨(yX8_isOf, 20), List.mem_append_right _ (List.mem_append_left _ (List.mem_of_getElem? (i := 10) rfl)), rfl⟩)) rfl
theorem s_1_14 : Cond.selects yX8_sumOf.cls yX8_sumOf yX8_sumOf ∈ tG := mG (List.mem_append_left _ (List.mem_map.mpr ⟨(yX8_sumOf, 20), List.mem_append_right _ (List.mem_append_left _ (List.mem_of_getElem? (i := 14) rfl)), rfl⟩)) rfl
theorem s_1_9 : Cond.selects yX8_counts.cls yX8_counts yX8_counts ∈ tG := mG (List.mem_append_left _ (List.mem_map.mpr ⟨(yX8_counts, 20), List.mem_append_right _ (List.mem_append_left _ (List.mem_of_getElem? (i := 9) rfl)), rfl⟩)) rfl
theorem s_1_12 : Cond.selects yX8_nextBlock.cls yX8_nextBlock yX8_nextBlock ∈ tG := mG (List.mem_append_left _ (List.mem_map.mpr ⟨(yX8_nextBlock, 20), List.mem_append_right _ (List.mem_append_left _ (List.mem_of_getElem? (i := 12) rfl)), rfl⟩)) rfl
theorem s_1_13 : Cond.selects yX8_isOut.cls yX8_isOut yX8_isOut ∈ tG := mG (List.mem_append_left _ (List.mem_map.mpr ⟨(yX8_isOut, 20), List.mem_append_right _ (List.mem_append_left _ (List.mem_of_getElem? (i := 13) rfl)), rfl⟩)) rfl
theorem s_1_11 : Cond.selects yX8_blocks.cls yX8_blocks yX8_blocks ∈ tG := mG (List.mem_append_left _ (List.mem_map.mpr ⟨(yX8_blocks, 20), List.mem_append_right _ (List.mem_append_left _ (List.mem_of_getElem? (i := 11) rfl)), rfl⟩)) rfl
theorem s_2_0 : Cond.selects yX8_scoresAll.cls yX8_scoresAll yX8_scoresAll ∈ tG := mG (List.mem_append_left _ (List.mem_map.mpr ⟨(yX8_scoresAll, 20), List.mem_append_right _ (List.mem_append_right _ (List.mem_of_getElem? (i := 0) rfl)), rfl⟩)) rfl
theorem s_2_1 : Cond.selects yX8_between.cls yX8_between yX8_between ∈ tG := mG (List.mem_append_left _ (List.mem_map.mpr ⟨(yX8_between, 20), List.mem_append_right _ (List.mem_append_right _ (List.mem_of_getElem? (i := 1) rfl)), rfl⟩)) rfl
theorem s_1_15 : Cond.selects yX8_joins.cls yX8_joins yX8_joins ∈ tG := mG (List.mem_append_left _ (List.mem_map.mpr ⟨(yX8_joins, 20), List.mem_append_right _ (List.mem_append_left _ (List.mem_of_getElem? (i := 15) rfl)), rfl⟩)) rfl
theorem s_2_2 : Cond.selects yX8_costOf.cls yX8_costOf yX8_costOf ∈ tG := mG (List.mem_append_left _ (List.mem_map.mpr ⟨(yX8_costOf, 20), List.mem_append_right _ (List.mem_append_right _ (List.mem_of_getElem? (i := 2) rfl)), rfl⟩)) rfl
theorem s_2_3 : Cond.selects yX8_lines.cls yX8_lines yX8_lines ∈ tG := mG (List.mem_append_left _ (List.mem_map.mpr ⟨(yX8_lines, 20), List.mem_append_right _ (List.mem_append_right _ (List.mem_of_getElem? (i := 3) rfl)), rfl⟩)) rfl
end
section
/-- the class's world: VoiceHouse, Archive, Shifts, Scores, PairBook, Segments, LineUp, BlindTests, their int arrays -/
def cw (cI : ClassId) (ad : Nat → Nat) : WF := fun iv ar => [(ad 0, .inr (7, [.ref (ad 1), .ref (ad 2), .ref (ad 3), .ref (ad 4), .ref (ad 5), .ref (ad 6), .ref (ad 7), .int (iv 0), .int (iv 1), .int (iv 2)])), (ad 1, .inr (0, [.ref (ad 8), .ref (ad 9), .ref (ad 10), .int (iv 3)])), (ad 2, .inr (6, [.ref (ad 1), .ref (ad 11), .ref (ad 12), .ref (ad 13)])), (ad 3, .inr (4, [.ref (ad 1), .ref (ad 2)])), (ad 4, .inr (3, [.ref (ad 1), .ref (ad 3), .ref (ad 14), .ref (ad 15), .ref (ad 16), .ref (ad 17), .ref (ad 18), .ref (ad 19), .int (iv 4), .int (iv 5), .int (iv 6)])), (ad 5, .inr (5, [.ref (ad 3), .ref (ad 20), .ref (ad 21), .ref (ad 22), .ref (ad 23), .ref (ad 24), .int (iv 7), .int (iv 8), .int (iv 9)])), (ad 6, .inr (2, [.ref (ad 1), .ref (ad 3), .ref (ad 25), .ref (ad 26), .int (iv 10)])), (ad 7, .inr (1, [.ref (ad 27), .int (iv 11)])), (ad 8, .inl (cI, 30, .inl (ar 0))), (ad 9, .inl (cI, 30, .inl (ar 1))), (ad 10, .inl (cI, 180, .inl (ar 2))), (ad 11, .inl (cI, 24, .inl (ar 3))), (ad 12, .inl (cI, 24, .inl (ar 4))), (ad 13, .inl (cI, 24, .inl (ar 5))), (ad 14, .inl (cI, 10, .inl (ar 6))), (ad 15, .inl (cI, 10, .inl (ar 7))), (ad 16, .inl (cI, 10, .inl (ar 8))), (ad 17, .inl (cI, 10, .inl (ar 9))), (ad 18, .inl (cI, 10, .inl (ar 10))), (ad 19, .inl (cI, 10, .inl (ar 11))), (ad 20, .inl (cI, 8, .inl (ar 12))), (ad 21, .inl (cI, 64, .inl (ar 13))), (ad 22, .inl (cI, 8, .inl (ar 14))), (ad 23, .inl (cI, 256, .inl (ar 15))), (ad 24, .inl (cI, 256, .inl (ar 16))), (ad 25, .inl (cI, 30, .inl (ar 17))), (ad 26, .inl (cI, 30, .inl (ar 18))), (ad 27, .inl (cI, 5, .inl (ar 19)))]
theorem cw_ok {cI : ClassId} {ad : Nat → Nat} : wfOk (cw cI ad) := fun _ _ => rfl
/-- the reference's world -/
def mw (cI : ClassId) (ad : Nat → Nat) : WF := fun iv ar => [(ad 0, .inr (8, [.int (iv 0), .ref (ad 1), .ref (ad 2), .ref (ad 3), .int (iv 1), .int (iv 2), .int (iv 3), .ref (ad 4), .int (iv 4), .ref (ad 5), .int (iv 5), .ref (ad 6), .ref (ad 7), .ref (ad 8), .ref (ad 9), .ref (ad 10), .ref (ad 11), .int (iv 6), .ref (ad 12), .ref (ad 13)])), (ad 1, .inl (cI, 180, .inl (ar 0))), (ad 2, .inl (cI, 30, .inl (ar 1))), (ad 3, .inl (cI, 30, .inl (ar 2))), (ad 4, .inl (cI, 8, .inl (ar 3))), (ad 5, .inl (cI, 5, .inl (ar 4))), (ad 6, .inl (cI, 24, .inl (ar 5))), (ad 7, .inl (cI, 10, .inl (ar 6))), (ad 8, .inl (cI, 10, .inl (ar 7))), (ad 9, .inl (cI, 10, .inl (ar 8))), (ad 10, .inl (cI, 64, .inl (ar 9))), (ad 11, .inl (cI, 8, .inl (ar 10))), (ad 12, .inl (cI, 256, .inl (ar 11))), (ad 13, .inl (cI, 30, .inl (ar 12)))]
theorem mw_ok {cI : ClassId} {ad : Nat → Nat} : wfOk (mw cI ad) := fun _ _ => rfl
theorem in_X0 : ∀ w ∈ u_ws RX0 TX0 4, w ∈ tG := by decide +kernel
theorem in_X1 : ∀ w ∈ u_ws RX1 TX1 2, w ∈ tG := by decide +kernel
theorem in_X2 : ∀ w ∈ u_ws RX2 TX2 5, w ∈ tG := by decide +kernel
theorem in_X3 : ∀ w ∈ u_ws RX3 TX3 11, w ∈ tG := by decide +kernel
theorem in_X4 : ∀ w ∈ u_ws RX4 TX4 2, w ∈ tG := by decide +kernel
theorem in_X5 : ∀ w ∈ u_ws RX5 TX5 9, w ∈ tG := by decide +kernel
theorem in_X6 : ∀ w ∈ u_ws RX6 TX6 4, w ∈ tG := by decide +kernel
theorem in_X7 : ∀ w ∈ u_ws RX7 TX7 10, w ∈ tG := by decide +kernel
theorem in_X8 : ∀ w ∈ u_ws RX8 TX8 20, w ∈ tG := by decide +kernel
section WR
variable {l : Launch} {D : va_G} {cI : ClassId} {ad : Nat → Nat} {cc : ByteArray} {mL : Nat} {ret : Option FieldType} {fr lo : Nat} {post : PST} {Z : ZT} {pc : Nat} {lv : LV} {st : List Value} {iv : IV} {ar : AR}
theorem g_X7_archive (F : Fx l D cI (cw cI ad) RX7 cc mL ret fr lo post Z) (hd : decode cc pc = .ok (.getfield 10, 3)) (kk : Z (pc + 3) lv (.ref (ad 1) :: st) iv ar) : Z pc lv (.ref (ad 0) :: st) iv ar := k_get F (q0 := 0) (ci := 7) (k := 0) (ref := RX7) in_X7 rfl rfl (by decide) w_185 rfl rfl hd kk
theorem g_X7_shifts (F : Fx l D cI (cw cI ad) RX7 cc mL ret fr lo post Z) (hd : decode cc pc = .ok (.getfield 21, 3)) (kk : Z (pc + 3) lv (.ref (ad 2) :: st) iv ar) : Z pc lv (.ref (ad 0) :: st) iv ar := k_get F (q0 := 0) (ci := 7) (k := 1) (ref := RX7) in_X7 rfl rfl (by decide) w_186 rfl rfl hd kk
theorem g_X7_scores (F : Fx l D cI (cw cI ad) RX7 cc mL ret fr lo post Z) (hd : decode cc pc = .ok (.getfield 30, 3)) (kk : Z (pc + 3) lv (.ref (ad 3) :: st) iv ar) : Z pc lv (.ref (ad 0) :: st) iv ar := k_get F (q0 := 0) (ci := 7) (k := 2) (ref := RX7) in_X7 rfl rfl (by decide) w_187 rfl rfl hd kk
theorem g_X7_pairBook (F : Fx l D cI (cw cI ad) RX7 cc mL ret fr lo post Z) (hd : decode cc pc = .ok (.getfield 39, 3)) (kk : Z (pc + 3) lv (.ref (ad 4) :: st) iv ar) : Z pc lv (.ref (ad 0) :: st) iv ar := k_get F (q0 := 0) (ci := 7) (k := 3) (ref := RX7) in_X7 rfl rfl (by decide) w_188 rfl rfl hd kk
theorem g_X7_segments (F : Fx l D cI (cw cI ad) RX7 cc mL ret fr lo post Z) (hd : decode cc pc = .ok (.getfield 48, 3)) (kk : Z (pc + 3) lv (.ref (ad 5) :: st) iv ar) : Z pc lv (.ref (ad 0) :: st) iv ar := k_get F (q0 := 0) (ci := 7) (k := 4) (ref := RX7) in_X7 rfl rfl (by decide) w_189 rfl rfl hd kk
theorem g_X7_lineUp (F : Fx l D cI (cw cI ad) RX7 cc mL ret fr lo post Z) (hd : decode cc pc = .ok (.getfield 55, 3)) (kk : Z (pc + 3) lv (.ref (ad 6) :: st) iv ar) : Z pc lv (.ref (ad 0) :: st) iv ar := k_get F (q0 := 0) (ci := 7) (k := 5) (ref := RX7) in_X7 rfl rfl (by decide) w_190 rfl rfl hd kk
theorem g_X7_blindTests (F : Fx l D cI (cw cI ad) RX7 cc mL ret fr lo post Z) (hd : decode cc pc = .ok (.getfield 62, 3)) (kk : Z (pc + 3) lv (.ref (ad 7) :: st) iv ar) : Z pc lv (.ref (ad 0) :: st) iv ar := k_get F (q0 := 0) (ci := 7) (k := 6) (ref := RX7) in_X7 rfl rfl (by decide) w_191 rfl rfl hd kk
theorem g_X7_speakersInSet (F : Fx l D cI (cw cI ad) RX7 cc mL ret fr lo post Z) {v : Int32} (hv : iv 0 = v) (hd : decode cc pc = .ok (.getfield 66, 3)) (kk : Z (pc + 3) lv (.int v :: st) iv ar) : Z pc lv (.ref (ad 0) :: st) iv ar := k_get F (q0 := 0) (ci := 7) (k := 7) (ref := RX7) in_X7 rfl rfl (by decide) w_192 rfl (by rw [← hv]; rfl) hd kk
theorem p_X7_speakersInSet (F : Fx l D cI (cw cI ad) RX7 cc mL ret fr lo post Z) {x : Int32} (hd : decode cc pc = .ok (.putfield 66, 3)) (kk : Z (pc + 3) lv st (va_up iv 0 x) ar) : Z pc lv (.int x :: .ref (ad 0) :: st) iv ar := k_put F (q0 := 0) (ci := 7) (k := 7) (ref := RX7) (ty := .int) tyX7 tyX7_ok nmX7 in_X7 rfl rfl (by decide) w_192 rfl rfl (by decide +kernel) rfl rfl (Nat.le_of_ble_eq_true rfl) rfl hd kk
theorem g_X7_limitNow (F : Fx l D cI (cw cI ad) RX7 cc mL ret fr lo post Z) {v : Int32} (hv : iv 1 = v) (hd : decode cc pc = .ok (.getfield 70, 3)) (kk : Z (pc + 3) lv (.int v :: st) iv ar) : Z pc lv (.ref (ad 0) :: st) iv ar := k_get F (q0 := 0) (ci := 7) (k := 8) (ref := RX7) in_X7 rfl rfl (by decide) w_193 rfl (by rw [← hv]; rfl) hd kk
theorem p_X7_limitNow (F : Fx l D cI (cw cI ad) RX7 cc mL ret fr lo post Z) {x : Int32} (hd : decode cc pc = .ok (.putfield 70, 3)) (kk : Z (pc + 3) lv st (va_up iv 1 x) ar) : Z pc lv (.int x :: .ref (ad 0) :: st) iv ar := k_put F (q0 := 0) (ci := 7) (k := 8) (ref := RX7) (ty := .int) tyX7 tyX7_ok nmX7 in_X7 rfl rfl (by decide) w_193 rfl rfl (by decide +kernel) rfl rfl (Nat.le_of_ble_eq_true rfl) rfl hd kk
theorem g_X7_pairsAreOld (F : Fx l D cI (cw cI ad) RX7 cc mL ret fr lo post Z) {v : Int32} (hv : iv 2 = v) (hd : decode cc pc = .ok (.getfield 73, 3)) (kk : Z (pc + 3) lv (.int v :: st) iv ar) : Z pc lv (.ref (ad 0) :: st) iv ar := k_get F (q0 := 0) (ci := 7) (k := 9) (ref := RX7) in_X7 rfl rfl (by decide) w_194 rfl (by rw [← hv]; rfl) hd kk
theorem p_X7_pairsAreOld (F : Fx l D cI (cw cI ad) RX7 cc mL ret fr lo post Z) {x : Int32} (hn : narrow .boolean (.int x) = .int x) (hf : fits .boolean (.int x) = true) (hd : decode cc pc = .ok (.putfield 73, 3)) (kk : Z (pc + 3) lv st (va_up iv 2 x) ar) : Z pc lv (.int x :: .ref (ad 0) :: st) iv ar := k_put F (q0 := 0) (ci := 7) (k := 9) (ref := RX7) (ty := .boolean) tyX7 tyX7_ok nmX7 in_X7 rfl rfl (by decide) w_194 rfl rfl (by decide +kernel) hn hf (Nat.le_of_ble_eq_true rfl) rfl hd kk
theorem g_X0_channels (F : Fx l D cI (cw cI ad) RX0 cc mL ret fr lo post Z) (hd : decode cc pc = .ok (.getfield 9, 3)) (kk : Z (pc + 3) lv (.ref (ad 8) :: st) iv ar) : Z pc lv (.ref (ad 1) :: st) iv ar := k_get F (q0 := 1) (ci := 0) (k := 0) (ref := RX0) in_X0 rfl rfl (by decide) w_30 rfl rfl hd kk
theorem g_X0_speakers (F : Fx l D cI (cw cI ad) RX0 cc mL ret fr lo post Z) (hd : decode cc pc = .ok (.getfield 15, 3)) (kk : Z (pc + 3) lv (.ref (ad 9) :: st) iv ar) : Z pc lv (.ref (ad 1) :: st) iv ar := k_get F (q0 := 1) (ci := 0) (k := 1) (ref := RX0) in_X0 rfl rfl (by decide) w_31 rfl rfl hd kk
theorem g_X0_tones (F : Fx l D cI (cw cI ad) RX0 cc mL ret fr lo post Z) (hd : decode cc pc = .ok (.getfield 18, 3)) (kk : Z (pc + 3) lv (.ref (ad 10) :: st) iv ar) : Z pc lv (.ref (ad 1) :: st) iv ar := k_get F (q0 := 1) (ci := 0) (k := 2) (ref := RX0) in_X0 rfl rfl (by decide) w_32 rfl rfl hd kk
theorem g_X0_size (F : Fx l D cI (cw cI ad) RX0 cc mL ret fr lo post Z) {v : Int32} (hv : iv 3 = v) (hd : decode cc pc = .ok (.getfield 27, 3)) (kk : Z (pc + 3) lv (.int v :: st) iv ar) : Z pc lv (.ref (ad 1) :: st) iv ar := k_get F (q0 := 1) (ci := 0) (k := 3) (ref := RX0) in_X0 rfl rfl (by decide) w_33 rfl (by rw [← hv]; rfl) hd kk
theorem p_X0_size (F : Fx l D cI (cw cI ad) RX0 cc mL ret fr lo post Z) {x : Int32} (hd : decode cc pc = .ok (.putfield 27, 3)) (kk : Z (pc + 3) lv st (va_up iv 3 x) ar) : Z pc lv (.int x :: .ref (ad 1) :: st) iv ar := k_put F (q0 := 1) (ci := 0) (k := 3) (ref := RX0) (ty := .int) tyX0 tyX0_ok nmX0 in_X0 rfl rfl (by decide) w_33 rfl rfl (by decide +kernel) rfl rfl (Nat.le_of_ble_eq_true rfl) rfl hd kk
theorem g_X1_outcomes (F : Fx l D cI (cw cI ad) RX1 cc mL ret fr lo post Z) (hd : decode cc pc = .ok (.getfield 9, 3)) (kk : Z (pc + 3) lv (.ref (ad 27) :: st) iv ar) : Z pc lv (.ref (ad 7) :: st) iv ar := k_get F (q0 := 7) (ci := 1) (k := 0) (ref := RX1) in_X1 rfl rfl (by decide) w_178 rfl rfl hd kk
theorem g_X1_putSoFar (F : Fx l D cI (cw cI ad) RX1 cc mL ret fr lo post Z) {v : Int32} (hv : iv 11 = v) (hd : decode cc pc = .ok (.getfield 15, 3)) (kk : Z (pc + 3) lv (.int v :: st) iv ar) : Z pc lv (.ref (ad 7) :: st) iv ar := k_get F (q0 := 7) (ci := 1) (k := 1) (ref := RX1) in_X1 rfl rfl (by decide) w_179 rfl (by rw [← hv]; rfl) hd kk
theorem p_X1_putSoFar (F : Fx l D cI (cw cI ad) RX1 cc mL ret fr lo post Z) {x : Int32} (hd : decode cc pc = .ok (.putfield 15, 3)) (kk : Z (pc + 3) lv st (va_up iv 11 x) ar) : Z pc lv (.int x :: .ref (ad 7) :: st) iv ar := k_put F (q0 := 7) (ci := 1) (k := 1) (ref := RX1) (ty := .int) tyX1 tyX1_ok nmX1 in_X1 rfl rfl (by decide) w_179 rfl rfl (by decide +kernel) rfl rfl (Nat.le_of_ble_eq_true rfl) rfl hd kk
theorem g_X2_archive (F : Fx l D cI (cw cI ad) RX2 cc mL ret fr lo post Z) (hd : decode cc pc = .ok (.getfield 9, 3)) (kk : Z (pc + 3) lv (.ref (ad 1) :: st) iv ar) : Z pc lv (.ref (ad 6) :: st) iv ar := k_get F (q0 := 6) (ci := 2) (k := 0) (ref := RX2) in_X2 rfl rfl (by decide) w_156 rfl rfl hd kk
theorem g_X2_scores (F : Fx l D cI (cw cI ad) RX2 cc mL ret fr lo post Z) (hd : decode cc pc = .ok (.getfield 15, 3)) (kk : Z (pc + 3) lv (.ref (ad 3) :: st) iv ar) : Z pc lv (.ref (ad 6) :: st) iv ar := k_get F (q0 := 6) (ci := 2) (k := 1) (ref := RX2) in_X2 rfl rfl (by decide) w_157 rfl rfl hd kk
theorem g_X2_recordings (F : Fx l D cI (cw cI ad) RX2 cc mL ret fr lo post Z) (hd : decode cc pc = .ok (.getfield 19, 3)) (kk : Z (pc + 3) lv (.ref (ad 25) :: st) iv ar) : Z pc lv (.ref (ad 6) :: st) iv ar := k_get F (q0 := 6) (ci := 2) (k := 2) (ref := RX2) in_X2 rfl rfl (by decide) w_158 rfl rfl hd kk
theorem g_X2_distances (F : Fx l D cI (cw cI ad) RX2 cc mL ret fr lo post Z) (hd : decode cc pc = .ok (.getfield 23, 3)) (kk : Z (pc + 3) lv (.ref (ad 26) :: st) iv ar) : Z pc lv (.ref (ad 6) :: st) iv ar := k_get F (q0 := 6) (ci := 2) (k := 3) (ref := RX2) in_X2 rfl rfl (by decide) w_159 rfl rfl hd kk
theorem g_X2_size (F : Fx l D cI (cw cI ad) RX2 cc mL ret fr lo post Z) {v : Int32} (hv : iv 10 = v) (hd : decode cc pc = .ok (.getfield 26, 3)) (kk : Z (pc + 3) lv (.int v :: st) iv ar) : Z pc lv (.ref (ad 6) :: st) iv ar := k_get F (q0 := 6) (ci := 2) (k := 4) (ref := RX2) in_X2 rfl rfl (by decide) w_160 rfl (by rw [← hv]; rfl) hd kk
theorem p_X2_size (F : Fx l D cI (cw cI ad) RX2 cc mL ret fr lo post Z) {x : Int32} (hd : decode cc pc = .ok (.putfield 26, 3)) (kk : Z (pc + 3) lv st (va_up iv 10 x) ar) : Z pc lv (.int x :: .ref (ad 6) :: st) iv ar := k_put F (q0 := 6) (ci := 2) (k := 4) (ref := RX2) (ty := .int) tyX2 tyX2_ok nmX2 in_X2 rfl rfl (by decide) w_160 rfl rfl (by decide +kernel) rfl rfl (Nat.le_of_ble_eq_true rfl) rfl hd kk
theorem g_X3_archive (F : Fx l D cI (cw cI ad) RX3 cc mL ret fr lo post Z) (hd : decode cc pc = .ok (.getfield 9, 3)) (kk : Z (pc + 3) lv (.ref (ad 1) :: st) iv ar) : Z pc lv (.ref (ad 4) :: st) iv ar := k_get F (q0 := 4) (ci := 3) (k := 0) (ref := RX3) in_X3 rfl rfl (by decide) w_82 rfl rfl hd kk
theorem g_X3_scores (F : Fx l D cI (cw cI ad) RX3 cc mL ret fr lo post Z) (hd : decode cc pc = .ok (.getfield 15, 3)) (kk : Z (pc + 3) lv (.ref (ad 3) :: st) iv ar) : Z pc lv (.ref (ad 4) :: st) iv ar := k_get F (q0 := 4) (ci := 3) (k := 1) (ref := RX3) in_X3 rfl rfl (by decide) w_83 rfl rfl hd kk
theorem g_X3_bandSame (F : Fx l D cI (cw cI ad) RX3 cc mL ret fr lo post Z) (hd : decode cc pc = .ok (.getfield 19, 3)) (kk : Z (pc + 3) lv (.ref (ad 14) :: st) iv ar) : Z pc lv (.ref (ad 4) :: st) iv ar := k_get F (q0 := 4) (ci := 3) (k := 2) (ref := RX3) in_X3 rfl rfl (by decide) w_84 rfl rfl hd kk
theorem g_X3_bandOther (F : Fx l D cI (cw cI ad) RX3 cc mL ret fr lo post Z) (hd : decode cc pc = .ok (.getfield 23, 3)) (kk : Z (pc + 3) lv (.ref (ad 15) :: st) iv ar) : Z pc lv (.ref (ad 4) :: st) iv ar := k_get F (q0 := 4) (ci := 3) (k := 3) (ref := RX3) in_X3 rfl rfl (by decide) w_85 rfl rfl hd kk
theorem g_X3_blockFirst (F : Fx l D cI (cw cI ad) RX3 cc mL ret fr lo post Z) (hd : decode cc pc = .ok (.getfield 26, 3)) (kk : Z (pc + 3) lv (.ref (ad 16) :: st) iv ar) : Z pc lv (.ref (ad 4) :: st) iv ar := k_get F (q0 := 4) (ci := 3) (k := 4) (ref := RX3) in_X3 rfl rfl (by decide) w_86 rfl rfl hd kk
theorem g_X3_blockLast (F : Fx l D cI (cw cI ad) RX3 cc mL ret fr lo post Z) (hd : decode cc pc = .ok (.getfield 29, 3)) (kk : Z (pc + 3) lv (.ref (ad 17) :: st) iv ar) : Z pc lv (.ref (ad 4) :: st) iv ar := k_get F (q0 := 4) (ci := 3) (k := 5) (ref := RX3) in_X3 rfl rfl (by decide) w_87 rfl rfl hd kk
theorem g_X3_blockSame (F : Fx l D cI (cw cI ad) RX3 cc mL ret fr lo post Z) (hd : decode cc pc = .ok (.getfield 32, 3)) (kk : Z (pc + 3) lv (.ref (ad 18) :: st) iv ar) : Z pc lv (.ref (ad 4) :: st) iv ar := k_get F (q0 := 4) (ci := 3) (k := 6) (ref := RX3) in_X3 rfl rfl (by decide) w_88 rfl rfl hd kk
theorem g_X3_blockOther (F : Fx l D cI (cw cI ad) RX3 cc mL ret fr lo post Z) (hd : decode cc pc = .ok (.getfield 35, 3)) (kk : Z (pc + 3) lv (.ref (ad 19) :: st) iv ar) : Z pc lv (.ref (ad 4) :: st) iv ar := k_get F (q0 := 4) (ci := 3) (k := 7) (ref := RX3) in_X3 rfl rfl (by decide) w_89 rfl rfl hd kk
theorem g_X3_blocks (F : Fx l D cI (cw cI ad) RX3 cc mL ret fr lo post Z) {v : Int32} (hv : iv 4 = v) (hd : decode cc pc = .ok (.getfield 38, 3)) (kk : Z (pc + 3) lv (.int v :: st) iv ar) : Z pc lv (.ref (ad 4) :: st) iv ar := k_get F (q0 := 4) (ci := 3) (k := 8) (ref := RX3) in_X3 rfl rfl (by decide) w_90 rfl (by rw [← hv]; rfl) hd kk
theorem p_X3_blocks (F : Fx l D cI (cw cI ad) RX3 cc mL ret fr lo post Z) {x : Int32} (hd : decode cc pc = .ok (.putfield 38, 3)) (kk : Z (pc + 3) lv st (va_up iv 4 x) ar) : Z pc lv (.int x :: .ref (ad 4) :: st) iv ar := k_put F (q0 := 4) (ci := 3) (k := 8) (ref := RX3) (ty := .int) tyX3 tyX3_ok nmX3 in_X3 rfl rfl (by decide) w_90 rfl rfl (by decide +kernel) rfl rfl (Nat.le_of_ble_eq_true rfl) rfl hd kk
theorem g_X3_sumSame (F : Fx l D cI (cw cI ad) RX3 cc mL ret fr lo post Z) {v : Int32} (hv : iv 5 = v) (hd : decode cc pc = .ok (.getfield 42, 3)) (kk : Z (pc + 3) lv (.int v :: st) iv ar) : Z pc lv (.ref (ad 4) :: st) iv ar := k_get F (q0 := 4) (ci := 3) (k := 9) (ref := RX3) in_X3 rfl rfl (by decide) w_91 rfl (by rw [← hv]; rfl) hd kk
theorem p_X3_sumSame (F : Fx l D cI (cw cI ad) RX3 cc mL ret fr lo post Z) {x : Int32} (hd : decode cc pc = .ok (.putfield 42, 3)) (kk : Z (pc + 3) lv st (va_up iv 5 x) ar) : Z pc lv (.int x :: .ref (ad 4) :: st) iv ar := k_put F (q0 := 4) (ci := 3) (k := 9) (ref := RX3) (ty := .int) tyX3 tyX3_ok nmX3 in_X3 rfl rfl (by decide) w_91 rfl rfl (by decide +kernel) rfl rfl (Nat.le_of_ble_eq_true rfl) rfl hd kk
theorem g_X3_sumOther (F : Fx l D cI (cw cI ad) RX3 cc mL ret fr lo post Z) {v : Int32} (hv : iv 6 = v) (hd : decode cc pc = .ok (.getfield 45, 3)) (kk : Z (pc + 3) lv (.int v :: st) iv ar) : Z pc lv (.ref (ad 4) :: st) iv ar := k_get F (q0 := 4) (ci := 3) (k := 10) (ref := RX3) in_X3 rfl rfl (by decide) w_92 rfl (by rw [← hv]; rfl) hd kk
theorem p_X3_sumOther (F : Fx l D cI (cw cI ad) RX3 cc mL ret fr lo post Z) {x : Int32} (hd : decode cc pc = .ok (.putfield 45, 3)) (kk : Z (pc + 3) lv st (va_up iv 6 x) ar) : Z pc lv (.int x :: .ref (ad 4) :: st) iv ar := k_put F (q0 := 4) (ci := 3) (k := 10) (ref := RX3) (ty := .int) tyX3 tyX3_ok nmX3 in_X3 rfl rfl (by decide) w_92 rfl rfl (by decide +kernel) rfl rfl (Nat.le_of_ble_eq_true rfl) rfl hd kk
theorem g_X4_archive (F : Fx l D cI (cw cI ad) RX4 cc mL ret fr lo post Z) (hd : decode cc pc = .ok (.getfield 9, 3)) (kk : Z (pc + 3) lv (.ref (ad 1) :: st) iv ar) : Z pc lv (.ref (ad 3) :: st) iv ar := k_get F (q0 := 3) (ci := 4) (k := 0) (ref := RX4) in_X4 rfl rfl (by decide) w_69 rfl rfl hd kk
theorem g_X4_shifts (F : Fx l D cI (cw cI ad) RX4 cc mL ret fr lo post Z) (hd : decode cc pc = .ok (.getfield 15, 3)) (kk : Z (pc + 3) lv (.ref (ad 2) :: st) iv ar) : Z pc lv (.ref (ad 3) :: st) iv ar := k_get F (q0 := 3) (ci := 4) (k := 1) (ref := RX4) in_X4 rfl rfl (by decide) w_70 rfl rfl hd kk
theorem g_X5_scores (F : Fx l D cI (cw cI ad) RX5 cc mL ret fr lo post Z) (hd : decode cc pc = .ok (.getfield 9, 3)) (kk : Z (pc + 3) lv (.ref (ad 3) :: st) iv ar) : Z pc lv (.ref (ad 5) :: st) iv ar := k_get F (q0 := 5) (ci := 5) (k := 0) (ref := RX5) in_X5 rfl rfl (by decide) w_122 rfl rfl hd kk
theorem g_X5_recordings (F : Fx l D cI (cw cI ad) RX5 cc mL ret fr lo post Z) (hd : decode cc pc = .ok (.getfield 15, 3)) (kk : Z (pc + 3) lv (.ref (ad 20) :: st) iv ar) : Z pc lv (.ref (ad 5) :: st) iv ar := k_get F (q0 := 5) (ci := 5) (k := 1) (ref := RX5) in_X5 rfl rfl (by decide) w_123 rfl rfl hd kk
theorem g_X5_table (F : Fx l D cI (cw cI ad) RX5 cc mL ret fr lo post Z) (hd : decode cc pc = .ok (.getfield 19, 3)) (kk : Z (pc + 3) lv (.ref (ad 21) :: st) iv ar) : Z pc lv (.ref (ad 5) :: st) iv ar := k_get F (q0 := 5) (ci := 5) (k := 2) (ref := RX5) in_X5 rfl rfl (by decide) w_124 rfl rfl hd kk
theorem g_X5_voiceOf (F : Fx l D cI (cw cI ad) RX5 cc mL ret fr lo post Z) (hd : decode cc pc = .ok (.getfield 22, 3)) (kk : Z (pc + 3) lv (.ref (ad 22) :: st) iv ar) : Z pc lv (.ref (ad 5) :: st) iv ar := k_get F (q0 := 5) (ci := 5) (k := 3) (ref := RX5) in_X5 rfl rfl (by decide) w_125 rfl rfl hd kk
theorem g_X5_within (F : Fx l D cI (cw cI ad) RX5 cc mL ret fr lo post Z) (hd : decode cc pc = .ok (.getfield 25, 3)) (kk : Z (pc + 3) lv (.ref (ad 23) :: st) iv ar) : Z pc lv (.ref (ad 5) :: st) iv ar := k_get F (q0 := 5) (ci := 5) (k := 4) (ref := RX5) in_X5 rfl rfl (by decide) w_126 rfl rfl hd kk
theorem g_X5_least (F : Fx l D cI (cw cI ad) RX5 cc mL ret fr lo post Z) (hd : decode cc pc = .ok (.getfield 28, 3)) (kk : Z (pc + 3) lv (.ref (ad 24) :: st) iv ar) : Z pc lv (.ref (ad 5) :: st) iv ar := k_get F (q0 := 5) (ci := 5) (k := 5) (ref := RX5) in_X5 rfl rfl (by decide) w_127 rfl rfl hd kk
theorem g_X5_size (F : Fx l D cI (cw cI ad) RX5 cc mL ret fr lo post Z) {v : Int32} (hv : iv 7 = v) (hd : decode cc pc = .ok (.getfield 31, 3)) (kk : Z (pc + 3) lv (.int v :: st) iv ar) : Z pc lv (.ref (ad 5) :: st) iv ar := k_get F (q0 := 5) (ci := 5) (k := 6) (ref := RX5) in_X5 rfl rfl (by decide) w_128 rfl (by rw [← hv]; rfl) hd kk
theorem p_X5_size (F : Fx l D cI (cw cI ad) RX5 cc mL ret fr lo post Z) {x : Int32} (hd : decode cc pc = .ok (.putfield 31, 3)) (kk : Z (pc + 3) lv st (va_up iv 7 x) ar) : Z pc lv (.int x :: .ref (ad 5) :: st) iv ar := k_put F (q0 := 5) (ci := 5) (k := 6) (ref := RX5) (ty := .int) tyX5 tyX5_ok nmX5 in_X5 rfl rfl (by decide) w_128 rfl rfl (by decide +kernel) rfl rfl (Nat.le_of_ble_eq_true rfl) rfl hd kk
theorem g_X5_crossSum (F : Fx l D cI (cw cI ad) RX5 cc mL ret fr lo post Z) {v : Int32} (hv : iv 8 = v) (hd : decode cc pc = .ok (.getfield 35, 3)) (kk : Z (pc + 3) lv (.int v :: st) iv ar) : Z pc lv (.ref (ad 5) :: st) iv ar := k_get F (q0 := 5) (ci := 5) (k := 7) (ref := RX5) in_X5 rfl rfl (by decide) w_129 rfl (by rw [← hv]; rfl) hd kk
theorem p_X5_crossSum (F : Fx l D cI (cw cI ad) RX5 cc mL ret fr lo post Z) {x : Int32} (hd : decode cc pc = .ok (.putfield 35, 3)) (kk : Z (pc + 3) lv st (va_up iv 8 x) ar) : Z pc lv (.int x :: .ref (ad 5) :: st) iv ar := k_put F (q0 := 5) (ci := 5) (k := 7) (ref := RX5) (ty := .int) tyX5 tyX5_ok nmX5 in_X5 rfl rfl (by decide) w_129 rfl rfl (by decide +kernel) rfl rfl (Nat.le_of_ble_eq_true rfl) rfl hd kk
theorem g_X5_crossPairs (F : Fx l D cI (cw cI ad) RX5 cc mL ret fr lo post Z) {v : Int32} (hv : iv 9 = v) (hd : decode cc pc = .ok (.getfield 38, 3)) (kk : Z (pc + 3) lv (.int v :: st) iv ar) : Z pc lv (.ref (ad 5) :: st) iv ar := k_get F (q0 := 5) (ci := 5) (k := 8) (ref := RX5) in_X5 rfl rfl (by decide) w_130 rfl (by rw [← hv]; rfl) hd kk
theorem p_X5_crossPairs (F : Fx l D cI (cw cI ad) RX5 cc mL ret fr lo post Z) {x : Int32} (hd : decode cc pc = .ok (.putfield 38, 3)) (kk : Z (pc + 3) lv st (va_up iv 9 x) ar) : Z pc lv (.int x :: .ref (ad 5) :: st) iv ar := k_put F (q0 := 5) (ci := 5) (k := 8) (ref := RX5) (ty := .int) tyX5 tyX5_ok nmX5 in_X5 rfl rfl (by decide) w_130 rfl rfl (by decide +kernel) rfl rfl (Nat.le_of_ble_eq_true rfl) rfl hd kk
theorem g_X6_archive (F : Fx l D cI (cw cI ad) RX6 cc mL ret fr lo post Z) (hd : decode cc pc = .ok (.getfield 9, 3)) (kk : Z (pc + 3) lv (.ref (ad 1) :: st) iv ar) : Z pc lv (.ref (ad 2) :: st) iv ar := k_get F (q0 := 2) (ci := 6) (k := 0) (ref := RX6) in_X6 rfl rfl (by decide) w_50 rfl rfl hd kk
theorem g_X6_sums (F : Fx l D cI (cw cI ad) RX6 cc mL ret fr lo post Z) (hd : decode cc pc = .ok (.getfield 15, 3)) (kk : Z (pc + 3) lv (.ref (ad 11) :: st) iv ar) : Z pc lv (.ref (ad 2) :: st) iv ar := k_get F (q0 := 2) (ci := 6) (k := 1) (ref := RX6) in_X6 rfl rfl (by decide) w_51 rfl rfl hd kk
theorem g_X6_pairs (F : Fx l D cI (cw cI ad) RX6 cc mL ret fr lo post Z) (hd : decode cc pc = .ok (.getfield 19, 3)) (kk : Z (pc + 3) lv (.ref (ad 12) :: st) iv ar) : Z pc lv (.ref (ad 2) :: st) iv ar := k_get F (q0 := 2) (ci := 6) (k := 2) (ref := RX6) in_X6 rfl rfl (by decide) w_52 rfl rfl hd kk
theorem g_X6_means (F : Fx l D cI (cw cI ad) RX6 cc mL ret fr lo post Z) (hd : decode cc pc = .ok (.getfield 22, 3)) (kk : Z (pc + 3) lv (.ref (ad 13) :: st) iv ar) : Z pc lv (.ref (ad 2) :: st) iv ar := k_get F (q0 := 2) (ci := 6) (k := 3) (ref := RX6) in_X6 rfl rfl (by decide) w_53 rfl rfl hd kk
theorem g_X8_tone (F : Fx l D cI (mw cI ad) RX8 cc mL ret fr lo post Z) (hd : decode cc pc = .ok (.getfield 9, 3)) (kk : Z (pc + 3) lv (.ref (ad 1) :: st) iv ar) : Z pc lv (.ref (ad 0) :: st) iv ar := k_get F (q0 := 0) (ci := 8) (k := 1) (ref := RX8) in_X8 rfl rfl (by decide) w_627 rfl rfl hd kk
theorem g_X8_channel (F : Fx l D cI (mw cI ad) RX8 cc mL ret fr lo post Z) (hd : decode cc pc = .ok (.getfield 13, 3)) (kk : Z (pc + 3) lv (.ref (ad 2) :: st) iv ar) : Z pc lv (.ref (ad 0) :: st) iv ar := k_get F (q0 := 0) (ci := 8) (k := 2) (ref := RX8) in_X8 rfl rfl (by decide) w_628 rfl rfl hd kk
theorem g_X8_speaker (F : Fx l D cI (mw cI ad) RX8 cc mL ret fr lo post Z) (hd : decode cc pc = .ok (.getfield 16, 3)) (kk : Z (pc + 3) lv (.ref (ad 3) :: st) iv ar) : Z pc lv (.ref (ad 0) :: st) iv ar := k_get F (q0 := 0) (ci := 8) (k := 3) (ref := RX8) in_X8 rfl rfl (by decide) w_629 rfl rfl hd kk
theorem g_X8_set (F : Fx l D cI (mw cI ad) RX8 cc mL ret fr lo post Z) {v : Int32} (hv : iv 1 = v) (hd : decode cc pc = .ok (.getfield 19, 3)) (kk : Z (pc + 3) lv (.int v :: st) iv ar) : Z pc lv (.ref (ad 0) :: st) iv ar := k_get F (q0 := 0) (ci := 8) (k := 4) (ref := RX8) in_X8 rfl rfl (by decide) w_630 rfl (by rw [← hv]; rfl) hd kk
theorem p_X8_set (F : Fx l D cI (mw cI ad) RX8 cc mL ret fr lo post Z) {x : Int32} (hd : decode cc pc = .ok (.putfield 19, 3)) (kk : Z (pc + 3) lv st (va_up iv 1 x) ar) : Z pc lv (.int x :: .ref (ad 0) :: st) iv ar := k_put F (q0 := 0) (ci := 8) (k := 4) (ref := RX8) (ty := .int) tyX8 tyX8_ok nmX8 in_X8 rfl rfl (by decide) w_630 rfl rfl (by decide +kernel) rfl rfl (Nat.le_of_ble_eq_true rfl) rfl hd kk
theorem g_X8_limit (F : Fx l D cI (mw cI ad) RX8 cc mL ret fr lo post Z) {v : Int32} (hv : iv 2 = v) (hd : decode cc pc = .ok (.getfield 23, 3)) (kk : Z (pc + 3) lv (.int v :: st) iv ar) : Z pc lv (.ref (ad 0) :: st) iv ar := k_get F (q0 := 0) (ci := 8) (k := 5) (ref := RX8) in_X8 rfl rfl (by decide) w_631 rfl (by rw [← hv]; rfl) hd kk
theorem p_X8_limit (F : Fx l D cI (mw cI ad) RX8 cc mL ret fr lo post Z) {x : Int32} (hd : decode cc pc = .ok (.putfield 23, 3)) (kk : Z (pc + 3) lv st (va_up iv 2 x) ar) : Z pc lv (.int x :: .ref (ad 0) :: st) iv ar := k_put F (q0 := 0) (ci := 8) (k := 5) (ref := RX8) (ty := .int) tyX8 tyX8_ok nmX8 in_X8 rfl rfl (by decide) w_631 rfl rfl (by decide +kernel) rfl rfl (Nat.le_of_ble_eq_true rfl) rfl hd kk
theorem g_X8_segment (F : Fx l D cI (mw cI ad) RX8 cc mL ret fr lo post Z) (hd : decode cc pc = .ok (.getfield 26, 3)) (kk : Z (pc + 3) lv (.ref (ad 4) :: st) iv ar) : Z pc lv (.ref (ad 0) :: st) iv ar := k_get F (q0 := 0) (ci := 8) (k := 7) (ref := RX8) in_X8 rfl rfl (by decide) w_633 rfl rfl hd kk
theorem g_X8_right (F : Fx l D cI (mw cI ad) RX8 cc mL ret fr lo post Z) (hd : decode cc pc = .ok (.getfield 29, 3)) (kk : Z (pc + 3) lv (.ref (ad 5) :: st) iv ar) : Z pc lv (.ref (ad 0) :: st) iv ar := k_get F (q0 := 0) (ci := 8) (k := 9) (ref := RX8) in_X8 rfl rfl (by decide) w_635 rfl rfl hd kk
theorem g_X8_shifts (F : Fx l D cI (mw cI ad) RX8 cc mL ret fr lo post Z) (hd : decode cc pc = .ok (.getfield 32, 3)) (kk : Z (pc + 3) lv (.ref (ad 6) :: st) iv ar) : Z pc lv (.ref (ad 0) :: st) iv ar := k_get F (q0 := 0) (ci := 8) (k := 11) (ref := RX8) in_X8 rfl rfl (by decide) w_637 rfl rfl hd kk
theorem g_X8_same (F : Fx l D cI (mw cI ad) RX8 cc mL ret fr lo post Z) (hd : decode cc pc = .ok (.getfield 35, 3)) (kk : Z (pc + 3) lv (.ref (ad 7) :: st) iv ar) : Z pc lv (.ref (ad 0) :: st) iv ar := k_get F (q0 := 0) (ci := 8) (k := 12) (ref := RX8) in_X8 rfl rfl (by decide) w_638 rfl rfl hd kk
theorem g_X8_other (F : Fx l D cI (mw cI ad) RX8 cc mL ret fr lo post Z) (hd : decode cc pc = .ok (.getfield 38, 3)) (kk : Z (pc + 3) lv (.ref (ad 8) :: st) iv ar) : Z pc lv (.ref (ad 0) :: st) iv ar := k_get F (q0 := 0) (ci := 8) (k := 13) (ref := RX8) in_X8 rfl rfl (by decide) w_639 rfl rfl hd kk
theorem g_X8_first (F : Fx l D cI (mw cI ad) RX8 cc mL ret fr lo post Z) (hd : decode cc pc = .ok (.getfield 41, 3)) (kk : Z (pc + 3) lv (.ref (ad 9) :: st) iv ar) : Z pc lv (.ref (ad 0) :: st) iv ar := k_get F (q0 := 0) (ci := 8) (k := 14) (ref := RX8) in_X8 rfl rfl (by decide) w_640 rfl rfl hd kk
theorem g_X8_scores (F : Fx l D cI (mw cI ad) RX8 cc mL ret fr lo post Z) (hd : decode cc pc = .ok (.getfield 44, 3)) (kk : Z (pc + 3) lv (.ref (ad 10) :: st) iv ar) : Z pc lv (.ref (ad 0) :: st) iv ar := k_get F (q0 := 0) (ci := 8) (k := 15) (ref := RX8) in_X8 rfl rfl (by decide) w_641 rfl rfl hd kk
theorem g_X8_voice (F : Fx l D cI (mw cI ad) RX8 cc mL ret fr lo post Z) (hd : decode cc pc = .ok (.getfield 47, 3)) (kk : Z (pc + 3) lv (.ref (ad 11) :: st) iv ar) : Z pc lv (.ref (ad 0) :: st) iv ar := k_get F (q0 := 0) (ci := 8) (k := 16) (ref := RX8) in_X8 rfl rfl (by decide) w_642 rfl rfl hd kk
theorem g_X8_least (F : Fx l D cI (mw cI ad) RX8 cc mL ret fr lo post Z) (hd : decode cc pc = .ok (.getfield 50, 3)) (kk : Z (pc + 3) lv (.ref (ad 12) :: st) iv ar) : Z pc lv (.ref (ad 0) :: st) iv ar := k_get F (q0 := 0) (ci := 8) (k := 18) (ref := RX8) in_X8 rfl rfl (by decide) w_644 rfl rfl hd kk
theorem g_X8_line (F : Fx l D cI (mw cI ad) RX8 cc mL ret fr lo post Z) (hd : decode cc pc = .ok (.getfield 53, 3)) (kk : Z (pc + 3) lv (.ref (ad 13) :: st) iv ar) : Z pc lv (.ref (ad 0) :: st) iv ar := k_get F (q0 := 0) (ci := 8) (k := 19) (ref := RX8) in_X8 rfl rfl (by decide) w_645 rfl rfl hd kk
theorem g_X8_recordings (F : Fx l D cI (mw cI ad) RX8 cc mL ret fr lo post Z) {v : Int32} (hv : iv 0 = v) (hd : decode cc pc = .ok (.getfield 56, 3)) (kk : Z (pc + 3) lv (.int v :: st) iv ar) : Z pc lv (.ref (ad 0) :: st) iv ar := k_get F (q0 := 0) (ci := 8) (k := 0) (ref := RX8) in_X8 rfl rfl (by decide) w_626 rfl (by rw [← hv]; rfl) hd kk
theorem p_X8_recordings (F : Fx l D cI (mw cI ad) RX8 cc mL ret fr lo post Z) {x : Int32} (hd : decode cc pc = .ok (.putfield 56, 3)) (kk : Z (pc + 3) lv st (va_up iv 0 x) ar) : Z pc lv (.int x :: .ref (ad 0) :: st) iv ar := k_put F (q0 := 0) (ci := 8) (k := 0) (ref := RX8) (ty := .int) tyX8 tyX8_ok nmX8 in_X8 rfl rfl (by decide) w_626 rfl rfl (by decide +kernel) rfl rfl (Nat.le_of_ble_eq_true rfl) rfl hd kk
theorem g_X8_shiftSum (F : Fx l D cI (mw cI ad) RX8 cc mL ret fr lo post Z) {v : Int32} (hv : iv 5 = v) (hd : decode cc pc = .ok (.getfield 67, 3)) (kk : Z (pc + 3) lv (.int v :: st) iv ar) : Z pc lv (.ref (ad 0) :: st) iv ar := k_get F (q0 := 0) (ci := 8) (k := 10) (ref := RX8) in_X8 rfl rfl (by decide) w_636 rfl (by rw [← hv]; rfl) hd kk
theorem p_X8_shiftSum (F : Fx l D cI (mw cI ad) RX8 cc mL ret fr lo post Z) {x : Int32} (hd : decode cc pc = .ok (.putfield 67, 3)) (kk : Z (pc + 3) lv st (va_up iv 5 x) ar) : Z pc lv (.int x :: .ref (ad 0) :: st) iv ar := k_put F (q0 := 0) (ci := 8) (k := 10) (ref := RX8) (ty := .int) tyX8 tyX8_ok nmX8 in_X8 rfl rfl (by decide) w_636 rfl rfl (by decide +kernel) rfl rfl (Nat.le_of_ble_eq_true rfl) rfl hd kk
theorem g_X8_segments (F : Fx l D cI (mw cI ad) RX8 cc mL ret fr lo post Z) {v : Int32} (hv : iv 3 = v) (hd : decode cc pc = .ok (.getfield 112, 3)) (kk : Z (pc + 3) lv (.int v :: st) iv ar) : Z pc lv (.ref (ad 0) :: st) iv ar := k_get F (q0 := 0) (ci := 8) (k := 6) (ref := RX8) in_X8 rfl rfl (by decide) w_632 rfl (by rw [← hv]; rfl) hd kk
theorem p_X8_segments (F : Fx l D cI (mw cI ad) RX8 cc mL ret fr lo post Z) {x : Int32} (hd : decode cc pc = .ok (.putfield 112, 3)) (kk : Z (pc + 3) lv st (va_up iv 3 x) ar) : Z pc lv (.int x :: .ref (ad 0) :: st) iv ar := k_put F (q0 := 0) (ci := 8) (k := 6) (ref := RX8) (ty := .int) tyX8 tyX8_ok nmX8 in_X8 rfl rfl (by decide) w_632 rfl rfl (by decide +kernel) rfl rfl (Nat.le_of_ble_eq_true rfl) rfl hd kk
theorem g_X8_pairs (F : Fx l D cI (mw cI ad) RX8 cc mL ret fr lo post Z) {v : Int32} (hv : iv 6 = v) (hd : decode cc pc = .ok (.getfield 115, 3)) (kk : Z (pc + 3) lv (.int v :: st) iv ar) : Z pc lv (.ref (ad 0) :: st) iv ar := k_get F (q0 := 0) (ci := 8) (k := 17) (ref := RX8) in_X8 rfl rfl (by decide) w_643 rfl (by rw [← hv]; rfl) hd kk
theorem p_X8_pairs (F : Fx l D cI (mw cI ad) RX8 cc mL ret fr lo post Z) {x : Int32} (hd : decode cc pc = .ok (.putfield 115, 3)) (kk : Z (pc + 3) lv st (va_up iv 6 x) ar) : Z pc lv (.int x :: .ref (ad 0) :: st) iv ar := k_put F (q0 := 0) (ci := 8) (k := 17) (ref := RX8) (ty := .int) tyX8 tyX8_ok nmX8 in_X8 rfl rfl (by decide) w_643 rfl rfl (by decide +kernel) rfl rfl (Nat.le_of_ble_eq_true rfl) rfl hd kk
theorem g_X8_tests (F : Fx l D cI (mw cI ad) RX8 cc mL ret fr lo post Z) {v : Int32} (hv : iv 4 = v) (hd : decode cc pc = .ok (.getfield 133, 3)) (kk : Z (pc + 3) lv (.int v :: st) iv ar) : Z pc lv (.ref (ad 0) :: st) iv ar := k_get F (q0 := 0) (ci := 8) (k := 8) (ref := RX8) in_X8 rfl rfl (by decide) w_634 rfl (by rw [← hv]; rfl) hd kk
theorem p_X8_tests (F : Fx l D cI (mw cI ad) RX8 cc mL ret fr lo post Z) {x : Int32} (hd : decode cc pc = .ok (.putfield 133, 3)) (kk : Z (pc + 3) lv st (va_up iv 4 x) ar) : Z pc lv (.int x :: .ref (ad 0) :: st) iv ar := k_put F (q0 := 0) (ci := 8) (k := 8) (ref := RX8) (ty := .int) tyX8 tyX8_ok nmX8 in_X8 rfl rfl (by decide) w_634 rfl rfl (by decide +kernel) rfl rfl (Nat.le_of_ble_eq_true rfl) rfl hd kk
theorem l_c0 {own : String} (F : Fx l D cI (cw cI ad) own cc mL ret fr lo post Z) {n : Nat} {v : Int32} (hn : n < 30) (hv : ar 0 n = v) (hd : decode cc pc = .ok (.iaload, 1)) (kk : Z (pc + 1) lv (.int v :: st) iv ar) : Z pc lv (.int (nI n) :: .ref (ad 8) :: st) iv ar := k_ald F (q0 := 8) (N := 30) rfl (by decide) hn hv hd kk
theorem s_c0 {own : String} (F : Fx l D cI (cw cI ad) own cc mL ret fr lo post Z) {n : Nat} {x : Int32} (hn : n < 30) (hd : decode cc pc = .ok (.iastore, 1)) (kk : Z (pc + 1) lv st iv (va_up ar 0 (upd (ar 0) n x))) : Z pc lv (.int x :: .int (nI n) :: .ref (ad 8) :: st) iv ar := k_ast F (q0 := 8) (N := 30) rfl (by decide) rfl hn hd kk
theorem l_c1 {own : String} (F : Fx l D cI (cw cI ad) own cc mL ret fr lo post Z) {n : Nat} {v : Int32} (hn : n < 30) (hv : ar 1 n = v) (hd : decode cc pc = .ok (.iaload, 1)) (kk : Z (pc + 1) lv (.int v :: st) iv ar) : Z pc lv (.int (nI n) :: .ref (ad 9) :: st) iv ar := k_ald F (q0 := 9) (N := 30) rfl (by decide) hn hv hd kk
theorem s_c1 {own : String} (F : Fx l D cI (cw cI ad) own cc mL ret fr lo post Z) {n : Nat} {x : Int32} (hn : n < 30) (hd : decode cc pc = .ok (.iastore, 1)) (kk : Z (pc + 1) lv st iv (va_up ar 1 (upd (ar 1) n x))) : Z pc lv (.int x :: .int (nI n) :: .ref (ad 9) :: st) iv ar := k_ast F (q0 := 9) (N := 30) rfl (by decide) rfl hn hd kk
theorem l_c2 {own : String} (F : Fx l D cI (cw cI ad) own cc mL ret fr lo post Z) {n : Nat} {v : Int32} (hn : n < 180) (hv : ar 2 n = v) (hd : decode cc pc = .ok (.iaload, 1)) (kk : Z (pc + 1) lv (.int v :: st) iv ar) : Z pc lv (.int (nI n) :: .ref (ad 10) :: st) iv ar := k_ald F (q0 := 10) (N := 180) rfl (by decide) hn hv hd kk
theorem s_c2 {own : String} (F : Fx l D cI (cw cI ad) own cc mL ret fr lo post Z) {n : Nat} {x : Int32} (hn : n < 180) (hd : decode cc pc = .ok (.iastore, 1)) (kk : Z (pc + 1) lv st iv (va_up ar 2 (upd (ar 2) n x))) : Z pc lv (.int x :: .int (nI n) :: .ref (ad 10) :: st) iv ar := k_ast F (q0 := 10) (N := 180) rfl (by decide) rfl hn hd kk
theorem l_c3 {own : String} (F : Fx l D cI (cw cI ad) own cc mL ret fr lo post Z) {n : Nat} {v : Int32} (hn : n < 24) (hv : ar 3 n = v) (hd : decode cc pc = .ok (.iaload, 1)) (kk : Z (pc + 1) lv (.int v :: st) iv ar) : Z pc lv (.int (nI n) :: .ref (ad 11) :: st) iv ar := k_ald F (q0 := 11) (N := 24) rfl (by decide) hn hv hd kk
theorem s_c3 {own : String} (F : Fx l D cI (cw cI ad) own cc mL ret fr lo post Z) {n : Nat} {x : Int32} (hn : n < 24) (hd : decode cc pc = .ok (.iastore, 1)) (kk : Z (pc + 1) lv st iv (va_up ar 3 (upd (ar 3) n x))) : Z pc lv (.int x :: .int (nI n) :: .ref (ad 11) :: st) iv ar := k_ast F (q0 := 11) (N := 24) rfl (by decide) rfl hn hd kk
theorem l_c4 {own : String} (F : Fx l D cI (cw cI ad) own cc mL ret fr lo post Z) {n : Nat} {v : Int32} (hn : n < 24) (hv : ar 4 n = v) (hd : decode cc pc = .ok (.iaload, 1)) (kk : Z (pc + 1) lv (.int v :: st) iv ar) : Z pc lv (.int (nI n) :: .ref (ad 12) :: st) iv ar := k_ald F (q0 := 12) (N := 24) rfl (by decide) hn hv hd kk
theorem s_c4 {own : String} (F : Fx l D cI (cw cI ad) own cc mL ret fr lo post Z) {n : Nat} {x : Int32} (hn : n < 24) (hd : decode cc pc = .ok (.iastore, 1)) (kk : Z (pc + 1) lv st iv (va_up ar 4 (upd (ar 4) n x))) : Z pc lv (.int x :: .int (nI n) :: .ref (ad 12) :: st) iv ar := k_ast F (q0 := 12) (N := 24) rfl (by decide) rfl hn hd kk
theorem l_c5 {own : String} (F : Fx l D cI (cw cI ad) own cc mL ret fr lo post Z) {n : Nat} {v : Int32} (hn : n < 24) (hv : ar 5 n = v) (hd : decode cc pc = .ok (.iaload, 1)) (kk : Z (pc + 1) lv (.int v :: st) iv ar) : Z pc lv (.int (nI n) :: .ref (ad 13) :: st) iv ar := k_ald F (q0 := 13) (N := 24) rfl (by decide) hn hv hd kk
theorem s_c5 {own : String} (F : Fx l D cI (cw cI ad) own cc mL ret fr lo post Z) {n : Nat} {x : Int32} (hn : n < 24) (hd : decode cc pc = .ok (.iastore, 1)) (kk : Z (pc + 1) lv st iv (va_up ar 5 (upd (ar 5) n x))) : Z pc lv (.int x :: .int (nI n) :: .ref (ad 13) :: st) iv ar := k_ast F (q0 := 13) (N := 24) rfl (by decide) rfl hn hd kk
theorem l_c6 {own : String} (F : Fx l D cI (cw cI ad) own cc mL ret fr lo post Z) {n : Nat} {v : Int32} (hn : n < 10) (hv : ar 6 n = v) (hd : decode cc pc = .ok (.iaload, 1)) (kk : Z (pc + 1) lv (.int v :: st) iv ar) : Z pc lv (.int (nI n) :: .ref (ad 14) :: st) iv ar := k_ald F (q0 := 14) (N := 10) rfl (by decide) hn hv hd kk
theorem s_c6 {own : String} (F : Fx l D cI (cw cI ad) own cc mL ret fr lo post Z) {n : Nat} {x : Int32} (hn : n < 10) (hd : decode cc pc = .ok (.iastore, 1)) (kk : Z (pc + 1) lv st iv (va_up ar 6 (upd (ar 6) n x))) : Z pc lv (.int x :: .int (nI n) :: .ref (ad 14) :: st) iv ar := k_ast F (q0 := 14) (N := 10) rfl (by decide) rfl hn hd kk
theorem l_c7 {own : String} (F : Fx l D cI (cw cI ad) own cc mL ret fr lo post Z) {n : Nat} {v : Int32} (hn : n < 10) (hv : ar 7 n = v) (hd : decode cc pc = .ok (.iaload, 1)) (kk : Z (pc + 1) lv (.int v :: st) iv ar) : Z pc lv (.int (nI n) :: .ref (ad 15) :: st) iv ar := k_ald F (q0 := 15) (N := 10) rfl (by decide) hn hv hd kk
theorem s_c7 {own : String} (F : Fx l D cI (cw cI ad) own cc mL ret fr lo post Z) {n : Nat} {x : Int32} (hn : n < 10) (hd : decode cc pc = .ok (.iastore, 1)) (kk : Z (pc + 1) lv st iv (va_up ar 7 (upd (ar 7) n x))) : Z pc lv (.int x :: .int (nI n) :: .ref (ad 15) :: st) iv ar := k_ast F (q0 := 15) (N := 10) rfl (by decide) rfl hn hd kk
theorem l_c8 {own : String} (F : Fx l D cI (cw cI ad) own cc mL ret fr lo post Z) {n : Nat} {v : Int32} (hn : n < 10) (hv : ar 8 n = v) (hd : decode cc pc = .ok (.iaload, 1)) (kk : Z (pc + 1) lv (.int v :: st) iv ar) : Z pc lv (.int (nI n) :: .ref (ad 16) :: st) iv ar := k_ald F (q0 := 16) (N := 10) rfl (by decide) hn hv hd kk
theorem s_c8 {own : String} (F : Fx l D cI (cw cI ad) own cc mL ret fr lo post Z) {n : Nat} {x : Int32} (hn : n < 10) (hd : decode cc pc = .ok (.iastore, 1)) (kk : Z (pc + 1) lv st iv (va_up ar 8 (upd (ar 8) n x))) : Z pc lv (.int x :: .int (nI n) :: .ref (ad 16) :: st) iv ar := k_ast F (q0 := 16) (N := 10) rfl (by decide) rfl hn hd kk
theorem l_c9 {own : String} (F : Fx l D cI (cw cI ad) own cc mL ret fr lo post Z) {n : Nat} {v : Int32} (hn : n < 10) (hv : ar 9 n = v) (hd : decode cc pc = .ok (.iaload, 1)) (kk : Z (pc + 1) lv (.int v :: st) iv ar) : Z pc lv (.int (nI n) :: .ref (ad 17) :: st) iv ar := k_ald F (q0 := 17) (N := 10) rfl (by decide) hn hv hd kk
theorem s_c9 {own : String} (F : Fx l D cI (cw cI ad) own cc mL ret fr lo post Z) {n : Nat} {x : Int32} (hn : n < 10) (hd : decode cc pc = .ok (.iastore, 1)) (kk : Z (pc + 1) lv st iv (va_up ar 9 (upd (ar 9) n x))) : Z pc lv (.int x :: .int (nI n) :: .ref (ad 17) :: st) iv ar := k_ast F (q0 := 17) (N := 10) rfl (by decide) rfl hn hd kk
theorem l_c10 {own : String} (F : Fx l D cI (cw cI ad) own cc mL ret fr lo post Z) {n : Nat} {v : Int32} (hn : n < 10) (hv : ar 10 n = v) (hd : decode cc pc = .ok (.iaload, 1)) (kk : Z (pc + 1) lv (.int v :: st) iv ar) : Z pc lv (.int (nI n) :: .ref (ad 18) :: st) iv ar := k_ald F (q0 := 18) (N := 10) rfl (by decide) hn hv hd kk
theorem s_c10 {own : String} (F : Fx l D cI (cw cI ad) own cc mL ret fr lo post Z) {n : Nat} {x : Int32} (hn : n < 10) (hd : decode cc pc = .ok (.iastore, 1)) (kk : Z (pc + 1) lv st iv (va_up ar 10 (upd (ar 10) n x))) : Z pc lv (.int x :: .int (nI n) :: .ref (ad 18) :: st) iv ar := k_ast F (q0 := 18) (N := 10) rfl (by decide) rfl hn hd kk
theorem l_c11 {own : String} (F : Fx l D cI (cw cI ad) own cc mL ret fr lo post Z) {n : Nat} {v : Int32} (hn : n < 10) (hv : ar 11 n = v) (hd : decode cc pc = .ok (.iaload, 1)) (kk : Z (pc + 1) lv (.int v :: st) iv ar) : Z pc lv (.int (nI n) :: .ref (ad 19) :: st) iv ar := k_ald F (q0 := 19) (N := 10) rfl (by decide) hn hv hd kk
theorem s_c11 {own : String} (F : Fx l D cI (cw cI ad) own cc mL ret fr lo post Z) {n : Nat} {x : Int32} (hn : n < 10) (hd : decode cc pc = .ok (.iastore, 1)) (kk : Z (pc + 1) lv st iv (va_up ar 11 (upd (ar 11) n x))) : Z pc lv (.int x :: .int (nI n) :: .ref (ad 19) :: st) iv ar := k_ast F (q0 := 19) (N := 10) rfl (by decide) rfl hn hd kk
theorem l_c12 {own : String} (F : Fx l D cI (cw cI ad) own cc mL ret fr lo post Z) {n : Nat} {v : Int32} (hn : n < 8) (hv : ar 12 n = v) (hd : decode cc pc = .ok (.iaload, 1)) (kk : Z (pc + 1) lv (.int v :: st) iv ar) : Z pc lv (.int (nI n) :: .ref (ad 20) :: st) iv ar := k_ald F (q0 := 20) (N := 8) rfl (by decide) hn hv hd kk
theorem s_c12 {own : String} (F : Fx l D cI (cw cI ad) own cc mL ret fr lo post Z) {n : Nat} {x : Int32} (hn : n < 8) (hd : decode cc pc = .ok (.iastore, 1)) (kk : Z (pc + 1) lv st iv (va_up ar 12 (upd (ar 12) n x))) : Z pc lv (.int x :: .int (nI n) :: .ref (ad 20) :: st) iv ar := k_ast F (q0 := 20) (N := 8) rfl (by decide) rfl hn hd kk
theorem l_c13 {own : String} (F : Fx l D cI (cw cI ad) own cc mL ret fr lo post Z) {n : Nat} {v : Int32} (hn : n < 64) (hv : ar 13 n = v) (hd : decode cc pc = .ok (.iaload, 1)) (kk : Z (pc + 1) lv (.int v :: st) iv ar) : Z pc lv (.int (nI n) :: .ref (ad 21) :: st) iv ar := k_ald F (q0 := 21) (N := 64) rfl (by decide) hn hv hd kk
theorem s_c13 {own : String} (F : Fx l D cI (cw cI ad) own cc mL ret fr lo post Z) {n : Nat} {x : Int32} (hn : n < 64) (hd : decode cc pc = .ok (.iastore, 1)) (kk : Z (pc + 1) lv st iv (va_up ar 13 (upd (ar 13) n x))) : Z pc lv (.int x :: .int (nI n) :: .ref (ad 21) :: st) iv ar := k_ast F (q0 := 21) (N := 64) rfl (by decide) rfl hn hd kk
theorem l_c14 {own : String} (F : Fx l D cI (cw cI ad) own cc mL ret fr lo post Z) {n : Nat} {v : Int32} (hn : n < 8) (hv : ar 14 n = v) (hd : decode cc pc = .ok (.iaload, 1)) (kk : Z (pc + 1) lv (.int v :: st) iv ar) : Z pc lv (.int (nI n) :: .ref (ad 22) :: st) iv ar := k_ald F (q0 := 22) (N := 8) rfl (by decide) hn hv hd kk
theorem s_c14 {own : String} (F : Fx l D cI (cw cI ad) own cc mL ret fr lo post Z) {n : Nat} {x : Int32} (hn : n < 8) (hd : decode cc pc = .ok (.iastore, 1)) (kk : Z (pc + 1) lv st iv (va_up ar 14 (upd (ar 14) n x))) : Z pc lv (.int x :: .int (nI n) :: .ref (ad 22) :: st) iv ar := k_ast F (q0 := 22) (N := 8) rfl (by decide) rfl hn hd kk
theorem l_c15 {own : String} (F : Fx l D cI (cw cI ad) own cc mL ret fr lo post Z) {n : Nat} {v : Int32} (hn : n < 256) (hv : ar 15 n = v) (hd : decode cc pc = .ok (.iaload, 1)) (kk : Z (pc + 1) lv (.int v :: st) iv ar) : Z pc lv (.int (nI n) :: .ref (ad 23) :: st) iv ar := k_ald F (q0 := 23) (N := 256) rfl (by decide) hn hv hd kk
theorem s_c15 {own : String} (F : Fx l D cI (cw cI ad) own cc mL ret fr lo post Z) {n : Nat} {x : Int32} (hn : n < 256) (hd : decode cc pc = .ok (.iastore, 1)) (kk : Z (pc + 1) lv st iv (va_up ar 15 (upd (ar 15) n x))) : Z pc lv (.int x :: .int (nI n) :: .ref (ad 23) :: st) iv ar := k_ast F (q0 := 23) (N := 256) rfl (by decide) rfl hn hd kk
theorem l_c16 {own : String} (F : Fx l D cI (cw cI ad) own cc mL ret fr lo post Z) {n : Nat} {v : Int32} (hn : n < 256) (hv : ar 16 n = v) (hd : decode cc pc = .ok (.iaload, 1)) (kk : Z (pc + 1) lv (.int v :: st) iv ar) : Z pc lv (.int (nI n) :: .ref (ad 24) :: st) iv ar := k_ald F (q0 := 24) (N := 256) rfl (by decide) hn hv hd kk
theorem s_c16 {own : String} (F : Fx l D cI (cw cI ad) own cc mL ret fr lo post Z) {n : Nat} {x : Int32} (hn : n < 256) (hd : decode cc pc = .ok (.iastore, 1)) (kk : Z (pc + 1) lv st iv (va_up ar 16 (upd (ar 16) n x))) : Z pc lv (.int x :: .int (nI n) :: .ref (ad 24) :: st) iv ar := k_ast F (q0 := 24) (N := 256) rfl (by decide) rfl hn hd kk
theorem l_c17 {own : String} (F : Fx l D cI (cw cI ad) own cc mL ret fr lo post Z) {n : Nat} {v : Int32} (hn : n < 30) (hv : ar 17 n = v) (hd : decode cc pc = .ok (.iaload, 1)) (kk : Z (pc + 1) lv (.int v :: st) iv ar) : Z pc lv (.int (nI n) :: .ref (ad 25) :: st) iv ar := k_ald F (q0 := 25) (N := 30) rfl (by decide) hn hv hd kk
theorem s_c17 {own : String} (F : Fx l D cI (cw cI ad) own cc mL ret fr lo post Z) {n : Nat} {x : Int32} (hn : n < 30) (hd : decode cc pc = .ok (.iastore, 1)) (kk : Z (pc + 1) lv st iv (va_up ar 17 (upd (ar 17) n x))) : Z pc lv (.int x :: .int (nI n) :: .ref (ad 25) :: st) iv ar := k_ast F (q0 := 25) (N := 30) rfl (by decide) rfl hn hd kk
theorem l_c18 {own : String} (F : Fx l D cI (cw cI ad) own cc mL ret fr lo post Z) {n : Nat} {v : Int32} (hn : n < 30) (hv : ar 18 n = v) (hd : decode cc pc = .ok (.iaload, 1)) (kk : Z (pc + 1) lv (.int v :: st) iv ar) : Z pc lv (.int (nI n) :: .ref (ad 26) :: st) iv ar := k_ald F (q0 := 26) (N := 30) rfl (by decide) hn hv hd kk
theorem s_c18 {own : String} (F : Fx l D cI (cw cI ad) own cc mL ret fr lo post Z) {n : Nat} {x : Int32} (hn : n < 30) (hd : decode cc pc = .ok (.iastore, 1)) (kk : Z (pc + 1) lv st iv (va_up ar 18 (upd (ar 18) n x))) : Z pc lv (.int x :: .int (nI n) :: .ref (ad 26) :: st) iv ar := k_ast F (q0 := 26) (N := 30) rfl (by decide) rfl hn hd kk
theorem l_c19 {own : String} (F : Fx l D cI (cw cI ad) own cc mL ret fr lo post Z) {n : Nat} {v : Int32} (hn : n < 5) (hv : ar 19 n = v) (hd : decode cc pc = .ok (.iaload, 1)) (kk : Z (pc + 1) lv (.int v :: st) iv ar) : Z pc lv (.int (nI n) :: .ref (ad 27) :: st) iv ar := k_ald F (q0 := 27) (N := 5) rfl (by decide) hn hv hd kk
theorem s_c19 {own : String} (F : Fx l D cI (cw cI ad) own cc mL ret fr lo post Z) {n : Nat} {x : Int32} (hn : n < 5) (hd : decode cc pc = .ok (.iastore, 1)) (kk : Z (pc + 1) lv st iv (va_up ar 19 (upd (ar 19) n x))) : Z pc lv (.int x :: .int (nI n) :: .ref (ad 27) :: st) iv ar := k_ast F (q0 := 27) (N := 5) rfl (by decide) rfl hn hd kk
theorem l_m0 {own : String} (F : Fx l D cI (mw cI ad) own cc mL ret fr lo post Z) {n : Nat} {v : Int32} (hn : n < 180) (hv : ar 0 n = v) (hd : decode cc pc = .ok (.iaload, 1)) (kk : Z (pc + 1) lv (.int v :: st) iv ar) : Z pc lv (.int (nI n) :: .ref (ad 1) :: st) iv ar := k_ald F (q0 := 1) (N := 180) rfl (by decide) hn hv hd kk
theorem s_m0 {own : String} (F : Fx l D cI (mw cI ad) own cc mL ret fr lo post Z) {n : Nat} {x : Int32} (hn : n < 180) (hd : decode cc pc = .ok (.iastore, 1)) (kk : Z (pc + 1) lv st iv (va_up ar 0 (upd (ar 0) n x))) : Z pc lv (.int x :: .int (nI n) :: .ref (ad 1) :: st) iv ar := k_ast F (q0 := 1) (N := 180) rfl (by decide) rfl hn hd kk
theorem l_m1 {own : String} (F : Fx l D cI (mw cI ad) own cc mL ret fr lo post Z) {n : Nat} {v : Int32} (hn : n < 30) (hv : ar 1 n = v) (hd : decode cc pc = .ok (.iaload, 1)) (kk : Z (pc + 1) lv (.int v :: st) iv ar) : Z pc lv (.int (nI n) :: .ref (ad 2) :: st) iv ar := k_ald F (q0 := 2) (N := 30) rfl (by decide) hn hv hd kk
theorem s_m1 {own : String} (F : Fx l D cI (mw cI ad) own cc mL ret fr lo post Z) {n : Nat} {x : Int32} (hn : n < 30) (hd : decode cc pc = .ok (.iastore, 1)) (kk : Z (pc + 1) lv st iv (va_up ar 1 (upd (ar 1) n x))) : Z pc lv (.int x :: .int (nI n) :: .ref (ad 2) :: st) iv ar := k_ast F (q0 := 2) (N := 30) rfl (by decide) rfl hn hd kk
theorem l_m2 {own : String} (F : Fx l D cI (mw cI ad) own cc mL ret fr lo post Z) {n : Nat} {v : Int32} (hn : n < 30) (hv : ar 2 n = v) (hd : decode cc pc = .ok (.iaload, 1)) (kk : Z (pc + 1) lv (.int v :: st) iv ar) : Z pc lv (.int (nI n) :: .ref (ad 3) :: st) iv ar := k_ald F (q0 := 3) (N := 30) rfl (by decide) hn hv hd kk
theorem s_m2 {own : String} (F : Fx l D cI (mw cI ad) own cc mL ret fr lo post Z) {n : Nat} {x : Int32} (hn : n < 30) (hd : decode cc pc = .ok (.iastore, 1)) (kk : Z (pc + 1) lv st iv (va_up ar 2 (upd (ar 2) n x))) : Z pc lv (.int x :: .int (nI n) :: .ref (ad 3) :: st) iv ar := k_ast F (q0 := 3) (N := 30) rfl (by decide) rfl hn hd kk
theorem l_m3 {own : String} (F : Fx l D cI (mw cI ad) own cc mL ret fr lo post Z) {n : Nat} {v : Int32} (hn : n < 8) (hv : ar 3 n = v) (hd : decode cc pc = .ok (.iaload, 1)) (kk : Z (pc + 1) lv (.int v :: st) iv ar) : Z pc lv (.int (nI n) :: .ref (ad 4) :: st) iv ar := k_ald F (q0 := 4) (N := 8) rfl (by decide) hn hv hd kk
theorem s_m3 {own : String} (F : Fx l D cI (mw cI ad) own cc mL ret fr lo post Z) {n : Nat} {x : Int32} (hn : n < 8) (hd : decode cc pc = .ok (.iastore, 1)) (kk : Z (pc + 1) lv st iv (va_up ar 3 (upd (ar 3) n x))) : Z pc lv (.int x :: .int (nI n) :: .ref (ad 4) :: st) iv ar := k_ast F (q0 := 4) (N := 8) rfl (by decide) rfl hn hd kk
theorem l_m4 {own : String} (F : Fx l D cI (mw cI ad) own cc mL ret fr lo post Z) {n : Nat} {v : Int32} (hn : n < 5) (hv : ar 4 n = v) (hd : decode cc pc = .ok (.iaload, 1)) (kk : Z (pc + 1) lv (.int v :: st) iv ar) : Z pc lv (.int (nI n) :: .ref (ad 5) :: st) iv ar := k_ald F (q0 := 5) (N := 5) rfl (by decide) hn hv hd kk
theorem s_m4 {own : String} (F : Fx l D cI (mw cI ad) own cc mL ret fr lo post Z) {n : Nat} {x : Int32} (hn : n < 5) (hd : decode cc pc = .ok (.iastore, 1)) (kk : Z (pc + 1) lv st iv (va_up ar 4 (upd (ar 4) n x))) : Z pc lv (.int x :: .int (nI n) :: .ref (ad 5) :: st) iv ar := k_ast F (q0 := 5) (N := 5) rfl (by decide) rfl hn hd kk
theorem l_m5 {own : String} (F : Fx l D cI (mw cI ad) own cc mL ret fr lo post Z) {n : Nat} {v : Int32} (hn : n < 24) (hv : ar 5 n = v) (hd : decode cc pc = .ok (.iaload, 1)) (kk : Z (pc + 1) lv (.int v :: st) iv ar) : Z pc lv (.int (nI n) :: .ref (ad 6) :: st) iv ar := k_ald F (q0 := 6) (N := 24) rfl (by decide) hn hv hd kk
theorem s_m5 {own : String} (F : Fx l D cI (mw cI ad) own cc mL ret fr lo post Z) {n : Nat} {x : Int32} (hn : n < 24) (hd : decode cc pc = .ok (.iastore, 1)) (kk : Z (pc + 1) lv st iv (va_up ar 5 (upd (ar 5) n x))) : Z pc lv (.int x :: .int (nI n) :: .ref (ad 6) :: st) iv ar := k_ast F (q0 := 6) (N := 24) rfl (by decide) rfl hn hd kk
theorem l_m6 {own : String} (F : Fx l D cI (mw cI ad) own cc mL ret fr lo post Z) {n : Nat} {v : Int32} (hn : n < 10) (hv : ar 6 n = v) (hd : decode cc pc = .ok (.iaload, 1)) (kk : Z (pc + 1) lv (.int v :: st) iv ar) : Z pc lv (.int (nI n) :: .ref (ad 7) :: st) iv ar := k_ald F (q0 := 7) (N := 10) rfl (by decide) hn hv hd kk
theorem s_m6 {own : String} (F : Fx l D cI (mw cI ad) own cc mL ret fr lo post Z) {n : Nat} {x : Int32} (hn : n < 10) (hd : decode cc pc = .ok (.iastore, 1)) (kk : Z (pc + 1) lv st iv (va_up ar 6 (upd (ar 6) n x))) : Z pc lv (.int x :: .int (nI n) :: .ref (ad 7) :: st) iv ar := k_ast F (q0 := 7) (N := 10) rfl (by decide) rfl hn hd kk
theorem l_m7 {own : String} (F : Fx l D cI (mw cI ad) own cc mL ret fr lo post Z) {n : Nat} {v : Int32} (hn : n < 10) (hv : ar 7 n = v) (hd : decode cc pc = .ok (.iaload, 1)) (kk : Z (pc + 1) lv (.int v :: st) iv ar) : Z pc lv (.int (nI n) :: .ref (ad 8) :: st) iv ar := k_ald F (q0 := 8) (N := 10) rfl (by decide) hn hv hd kk
theorem s_m7 {own : String} (F : Fx l D cI (mw cI ad) own cc mL ret fr lo post Z) {n : Nat} {x : Int32} (hn : n < 10) (hd : decode cc pc = .ok (.iastore, 1)) (kk : Z (pc + 1) lv st iv (va_up ar 7 (upd (ar 7) n x))) : Z pc lv (.int x :: .int (nI n) :: .ref (ad 8) :: st) iv ar := k_ast F (q0 := 8) (N := 10) rfl (by decide) rfl hn hd kk
theorem l_m8 {own : String} (F : Fx l D cI (mw cI ad) own cc mL ret fr lo post Z) {n : Nat} {v : Int32} (hn : n < 10) (hv : ar 8 n = v) (hd : decode cc pc = .ok (.iaload, 1)) (kk : Z (pc + 1) lv (.int v :: st) iv ar) : Z pc lv (.int (nI n) :: .ref (ad 9) :: st) iv ar := k_ald F (q0 := 9) (N := 10) rfl (by decide) hn hv hd kk
theorem s_m8 {own : String} (F : Fx l D cI (mw cI ad) own cc mL ret fr lo post Z) {n : Nat} {x : Int32} (hn : n < 10) (hd : decode cc pc = .ok (.iastore, 1)) (kk : Z (pc + 1) lv st iv (va_up ar 8 (upd (ar 8) n x))) : Z pc lv (.int x :: .int (nI n) :: .ref (ad 9) :: st) iv ar := k_ast F (q0 := 9) (N := 10) rfl (by decide) rfl hn hd kk
theorem l_m9 {own : String} (F : Fx l D cI (mw cI ad) own cc mL ret fr lo post Z) {n : Nat} {v : Int32} (hn : n < 64) (hv : ar 9 n = v) (hd : decode cc pc = .ok (.iaload, 1)) (kk : Z (pc + 1) lv (.int v :: st) iv ar) : Z pc lv (.int (nI n) :: .ref (ad 10) :: st) iv ar := k_ald F (q0 := 10) (N := 64) rfl (by decide) hn hv hd kk
theorem s_m9 {own : String} (F : Fx l D cI (mw cI ad) own cc mL ret fr lo post Z) {n : Nat} {x : Int32} (hn : n < 64) (hd : decode cc pc = .ok (.iastore, 1)) (kk : Z (pc + 1) lv st iv (va_up ar 9 (upd (ar 9) n x))) : Z pc lv (.int x :: .int (nI n) :: .ref (ad 10) :: st) iv ar := k_ast F (q0 := 10) (N := 64) rfl (by decide) rfl hn hd kk
theorem l_m10 {own : String} (F : Fx l D cI (mw cI ad) own cc mL ret fr lo post Z) {n : Nat} {v : Int32} (hn : n < 8) (hv : ar 10 n = v) (hd : decode cc pc = .ok (.iaload, 1)) (kk : Z (pc + 1) lv (.int v :: st) iv ar) : Z pc lv (.int (nI n) :: .ref (ad 11) :: st) iv ar := k_ald F (q0 := 11) (N := 8) rfl (by decide) hn hv hd kk
theorem s_m10 {own : String} (F : Fx l D cI (mw cI ad) own cc mL ret fr lo post Z) {n : Nat} {x : Int32} (hn : n < 8) (hd : decode cc pc = .ok (.iastore, 1)) (kk : Z (pc + 1) lv st iv (va_up ar 10 (upd (ar 10) n x))) : Z pc lv (.int x :: .int (nI n) :: .ref (ad 11) :: st) iv ar := k_ast F (q0 := 11) (N := 8) rfl (by decide) rfl hn hd kk
theorem l_m11 {own : String} (F : Fx l D cI (mw cI ad) own cc mL ret fr lo post Z) {n : Nat} {v : Int32} (hn : n < 256) (hv : ar 11 n = v) (hd : decode cc pc = .ok (.iaload, 1)) (kk : Z (pc + 1) lv (.int v :: st) iv ar) : Z pc lv (.int (nI n) :: .ref (ad 12) :: st) iv ar := k_ald F (q0 := 12) (N := 256) rfl (by decide) hn hv hd kk
theorem s_m11 {own : String} (F : Fx l D cI (mw cI ad) own cc mL ret fr lo post Z) {n : Nat} {x : Int32} (hn : n < 256) (hd : decode cc pc = .ok (.iastore, 1)) (kk : Z (pc + 1) lv st iv (va_up ar 11 (upd (ar 11) n x))) : Z pc lv (.int x :: .int (nI n) :: .ref (ad 12) :: st) iv ar := k_ast F (q0 := 12) (N := 256) rfl (by decide) rfl hn hd kk
theorem l_m12 {own : String} (F : Fx l D cI (mw cI ad) own cc mL ret fr lo post Z) {n : Nat} {v : Int32} (hn : n < 30) (hv : ar 12 n = v) (hd : decode cc pc = .ok (.iaload, 1)) (kk : Z (pc + 1) lv (.int v :: st) iv ar) : Z pc lv (.int (nI n) :: .ref (ad 13) :: st) iv ar := k_ald F (q0 := 13) (N := 30) rfl (by decide) hn hv hd kk
theorem s_m12 {own : String} (F : Fx l D cI (mw cI ad) own cc mL ret fr lo post Z) {n : Nat} {x : Int32} (hn : n < 30) (hd : decode cc pc = .ok (.iastore, 1)) (kk : Z (pc + 1) lv st iv (va_up ar 12 (upd (ar 12) n x))) : Z pc lv (.int x :: .int (nI n) :: .ref (ad 13) :: st) iv ar := k_ast F (q0 := 13) (N := 30) rfl (by decide) rfl hn hd kk
end WR
end
section
theorem ok_X0_21 : okS RX0 21 yJ7_fill_53178 cJ7_fill_53178 4 none 2 := ⟨⟨by decide +kernel, by decide +kernel, by decide +kernel⟩, w_29, w_3, w_27, w_28⟩
theorem ok_X0_31 : okV RX0 31 yX0_isKnown cX0_isKnown 2 (some .boolean) 1 := ⟨⟨by decide +kernel, by decide +kernel, by decide +kernel⟩, w_267, w_2, w_364, w_265, w_266⟩
theorem ok_X0_35 : okV RX0 35 yX0_toneAt cX0_toneAt 3 (some .int) 2 := ⟨⟨by decide +kernel, by decide +kernel, by decide +kernel⟩, w_271, w_2, w_605, w_269, w_270⟩
theorem ok_X2_30 : okV RX2 30 yX0_size cX0_size 1 (some .int) 0 := ⟨⟨by decide +kernel, by decide +kernel, by decide +kernel⟩, w_259, w_2, w_548, w_257, w_258⟩
theorem ok_X2_35 : okV RX2 35 yX0_isOfSet cX0_isOfSet 3 (some .boolean) 2 := ⟨⟨by decide +kernel, by decide +kernel, by decide +kernel⟩, w_363, w_2, w_549, w_361, w_362⟩
theorem ok_X2_39 : okV RX2 39 yX4_between cX4_between 10 (some .int) 2 := ⟨⟨by decide +kernel, by decide +kernel, by decide +kernel⟩, w_332, w_5, w_550, w_330, w_331⟩
theorem ok_X2_45 : okV RX2 45 yX2_insert cX2_insert 4 none 2 := ⟨⟨by decide +kernel, by decide +kernel, by decide +kernel⟩, w_554, w_8, w_551, w_553, s_1_2⟩
theorem ok_X2_49 : okV RX2 49 yX0_speakerOf cX0_speakerOf 2 (some .int) 1 := ⟨⟨by decide +kernel, by decide +kernel, by decide +kernel⟩, w_279, w_2, w_567, w_277, w_278⟩
theorem ok_X2_53 : okS RX2 53 yJ6_bitCount_0f7a4 cJ6_bitCount_0f7a4 1 (some .int) 1 := ⟨⟨by decide +kernel, by decide +kernel, by decide +kernel⟩, w_570, w_12, w_568, w_569⟩
theorem ok_X3_48 : okV RX3 48 yX3_countPairs cX3_countPairs 4 none 1 := ⟨⟨by decide +kernel, by decide +kernel, by decide +kernel⟩, w_357, w_6, w_354, w_356, s_0_3⟩
theorem ok_X3_52 : okV RX3 52 yX3_makeBlocks cX3_makeBlocks 2 none 0 := ⟨⟨by decide +kernel, by decide +kernel, by decide +kernel⟩, w_380, w_6, w_377, w_379, s_0_5⟩
theorem ok_X3_55 : okV RX3 55 yX3_putBlocksInOrder cX3_putBlocksInOrder 3 none 0 := ⟨⟨by decide +kernel, by decide +kernel, by decide +kernel⟩, w_388, w_6, w_385, w_387, s_0_7⟩
theorem ok_X3_58 : okS RX3 58 yJ7_fill_53178 cJ7_fill_53178 4 none 2 := ⟨⟨by decide +kernel, by decide +kernel, by decide +kernel⟩, w_29, w_3, w_358, w_28⟩
theorem ok_X3_64 : okV RX3 64 yX0_size cX0_size 1 (some .int) 0 := ⟨⟨by decide +kernel, by decide +kernel, by decide +kernel⟩, w_259, w_2, w_359, w_257, w_258⟩
theorem ok_X3_70 : okV RX3 70 yX0_isOfSet cX0_isOfSet 3 (some .boolean) 2 := ⟨⟨by decide +kernel, by decide +kernel, by decide +kernel⟩, w_363, w_2, w_360, w_361, w_362⟩
theorem ok_X3_74 : okV RX3 74 yX3_countPair cX3_countPair 4 none 2 := ⟨⟨by decide +kernel, by decide +kernel, by decide +kernel⟩, w_368, w_6, w_365, w_367, s_0_4⟩
theorem ok_X3_78 : okV RX3 78 yX4_between cX4_between 10 (some .int) 2 := ⟨⟨by decide +kernel, by decide +kernel, by decide +kernel⟩, w_332, w_5, w_369, w_330, w_331⟩
theorem ok_X3_84 : okV RX3 84 yX0_speakerOf cX0_speakerOf 2 (some .int) 1 := ⟨⟨by decide +kernel, by decide +kernel, by decide +kernel⟩, w_279, w_2, w_370, w_277, w_278⟩
theorem ok_X3_88 : okSN yX7_bandOf cX7_bandOf 1 (some .int) 1 := ⟨⟨by decide +kernel, by decide +kernel, by decide +kernel⟩, w_373, w_1, w_372⟩
theorem ok_X3_91 : okV RX3 91 yX3_isEmptyBand cX3_isEmptyBand 2 (some .boolean) 1 := ⟨⟨by decide +kernel, by decide +kernel, by decide +kernel⟩, w_384, w_6, w_381, w_383, s_0_6⟩
theorem ok_X3_95 : okV RX3 95 yX3_findOutOfOrder cX3_findOutOfOrder 2 (some .int) 0 := ⟨⟨by decide +kernel, by decide +kernel, by decide +kernel⟩, w_392, w_6, w_389, w_391, s_0_8⟩
theorem ok_X3_98 : okV RX3 98 yX3_joinWithNext cX3_joinWithNext 3 none 1 := ⟨⟨by decide +kernel, by decide +kernel, by decide +kernel⟩, w_400, w_6, w_397, w_399, s_0_10⟩
theorem ok_X3_101 : okV RX3 101 yX3_isOutOfOrder cX3_isOutOfOrder 5 (some .boolean) 2 := ⟨⟨by decide +kernel, by decide +kernel, by decide +kernel⟩, w_396, w_6, w_393, w_395, s_0_9⟩
theorem ok_X4_19 : okV RX4 19 yX0_toneAt cX0_toneAt 3 (some .int) 2 := ⟨⟨by decide +kernel, by decide +kernel, by decide +kernel⟩, w_271, w_2, w_333, w_269, w_270⟩
theorem ok_X4_25 : okV RX4 25 yX0_channelOf cX0_channelOf 2 (some .int) 1 := ⟨⟨by decide +kernel, by decide +kernel, by decide +kernel⟩, w_263, w_2, w_334, w_261, w_262⟩
theorem ok_X4_29 : okV RX4 29 yX6_at cX6_at 3 (some .int) 2 := ⟨⟨by decide +kernel, by decide +kernel, by decide +kernel⟩, w_312, w_4, w_335, w_310, w_311⟩
theorem ok_X4_34 : okS RX4 34 yJ9_abs_0f7a4 cJ9_abs_0f7a4 1 (some .int) 1 := ⟨⟨by decide +kernel, by decide +kernel, by decide +kernel⟩, w_338, w_11, w_336, w_337⟩
theorem ok_X5_41 : okV RX5 41 yX4_between cX4_between 10 (some .int) 2 := ⟨⟨by decide +kernel, by decide +kernel, by decide +kernel⟩, w_332, w_5, w_490, w_330, w_331⟩
theorem ok_X5_47 : okV RX5 47 yX5_readScores cX5_readScores 4 none 0 := ⟨⟨by decide +kernel, by decide +kernel, by decide +kernel⟩, w_489, w_7, w_486, w_488, s_0_11⟩
theorem ok_X5_50 : okV RX5 50 yX5_joinNearestTwo cX5_joinNearestTwo 9 (some .boolean) 1 := ⟨⟨by decide +kernel, by decide +kernel, by decide +kernel⟩, w_494, w_7, w_491, w_493, s_0_12⟩
theorem ok_X5_54 : okV RX5 54 yX5_isVoice cX5_isVoice 2 (some .boolean) 1 := ⟨⟨by decide +kernel, by decide +kernel, by decide +kernel⟩, w_498, w_7, w_495, w_497, s_0_13⟩
theorem ok_X5_57 : okV RX5 57 yX5_measureCross cX5_measureCross 6 (some .boolean) 2 := ⟨⟨by decide +kernel, by decide +kernel, by decide +kernel⟩, w_502, w_7, w_499, w_501, s_0_14⟩
theorem ok_X5_61 : okV RX5 61 yX5_putTogether cX5_putTogether 4 none 2 := ⟨⟨by decide +kernel, by decide +kernel, by decide +kernel⟩, w_506, w_7, w_503, w_505, s_0_15⟩
theorem ok_X5_65 : okV RX5 65 yX5_sumWithin cX5_sumWithin 7 (some .int) 1 := ⟨⟨by decide +kernel, by decide +kernel, by decide +kernel⟩, w_530, w_7, w_527, w_529, s_1_0⟩
theorem ok_X5_69 : okV RX5 69 yX5_leastOf cX5_leastOf 8 (some .int) 2 := ⟨⟨by decide +kernel, by decide +kernel, by decide +kernel⟩, w_538, w_7, w_535, w_537, s_1_1⟩
theorem ok_X5_72 : okS RX5 72 yJ6_numberOfTrailingZeros_0f7a4 cJ6_numberOfTrailingZeros_0f7a4 2 (some .int) 1 := ⟨⟨by decide +kernel, by decide +kernel, by decide +kernel⟩, w_533, w_12, w_531, w_532⟩
theorem ok_X5_77 : okS RX5 77 yJ9_min_7cf53 cJ9_min_7cf53 2 (some .int) 2 := ⟨⟨by decide +kernel, by decide +kernel, by decide +kernel⟩, w_376, w_11, w_539, w_375⟩
theorem ok_X6_25 : okV RX6 25 yX6_measure cX6_measure 4 none 1 := ⟨⟨by decide +kernel, by decide +kernel, by decide +kernel⟩, w_255, w_4, w_295, w_253, w_254⟩
theorem ok_X6_29 : okV RX6 29 yX0_size cX0_size 1 (some .int) 0 := ⟨⟨by decide +kernel, by decide +kernel, by decide +kernel⟩, w_259, w_2, w_256, w_257, w_258⟩
theorem ok_X6_35 : okV RX6 35 yX0_channelOf cX0_channelOf 2 (some .int) 1 := ⟨⟨by decide +kernel, by decide +kernel, by decide +kernel⟩, w_263, w_2, w_260, w_261, w_262⟩
theorem ok_X6_39 : okV RX6 39 yX0_isKnown cX0_isKnown 2 (some .boolean) 1 := ⟨⟨by decide +kernel, by decide +kernel, by decide +kernel⟩, w_267, w_2, w_264, w_265, w_266⟩
theorem ok_X6_43 : okV RX6 43 yX0_toneAt cX0_toneAt 3 (some .int) 2 := ⟨⟨by decide +kernel, by decide +kernel, by decide +kernel⟩, w_271, w_2, w_268, w_269, w_270⟩
theorem ok_X6_47 : okV RX6 47 yX6_addPairsOf cX6_addPairsOf 6 none 2 := ⟨⟨by decide +kernel, by decide +kernel, by decide +kernel⟩, w_275, w_4, w_272, w_274, s_0_0⟩
theorem ok_X6_51 : okS RX6 51 yJ9_floorDiv_7cf53 cJ9_floorDiv_7cf53 3 (some .int) 2 := ⟨⟨by decide +kernel, by decide +kernel, by decide +kernel⟩, w_282, w_11, w_280, w_281⟩
theorem ok_X6_56 : okV RX6 56 yX0_speakerOf cX0_speakerOf 2 (some .int) 1 := ⟨⟨by decide +kernel, by decide +kernel, by decide +kernel⟩, w_279, w_2, w_276, w_277, w_278⟩
theorem ok_X7_77 : okS RX7 77 yX7_isChannel cX7_isChannel 1 (some .boolean) 1 := ⟨⟨by decide +kernel, by decide +kernel, by decide +kernel⟩, w_222, w_1, w_220, w_221⟩
theorem ok_X7_81 : okS RX7 81 yX7_isSpeakerOrNobody cX7_isSpeakerOrNobody 1 (some .boolean) 1 := ⟨⟨by decide +kernel, by decide +kernel, by decide +kernel⟩, w_225, w_1, w_223, w_224⟩
theorem ok_X7_84 : okV RX7 84 yX0_isFull cX0_isFull 1 (some .boolean) 0 := ⟨⟨by decide +kernel, by decide +kernel, by decide +kernel⟩, w_232, w_2, w_229, w_230, w_231⟩
theorem ok_X7_88 : okV RX7 88 yX0_add cX0_add 4 (some .int) 2 := ⟨⟨by decide +kernel, by decide +kernel, by decide +kernel⟩, w_236, w_2, w_233, w_234, w_235⟩
theorem ok_X7_92 : okV RX7 92 yX0_has cX0_has 2 (some .boolean) 1 := ⟨⟨by decide +kernel, by decide +kernel, by decide +kernel⟩, w_244, w_2, w_241, w_242, w_243⟩
theorem ok_X7_95 : okS RX7 95 yX7_isPlace cX7_isPlace 1 (some .boolean) 1 := ⟨⟨by decide +kernel, by decide +kernel, by decide +kernel⟩, w_247, w_1, w_245, w_246⟩
theorem ok_X7_98 : okV RX7 98 yX0_putTone cX0_putTone 4 none 3 := ⟨⟨by decide +kernel, by decide +kernel, by decide +kernel⟩, w_251, w_2, w_248, w_249, w_250⟩
theorem ok_X7_102 : okV RX7 102 yX6_measure cX6_measure 4 none 1 := ⟨⟨by decide +kernel, by decide +kernel, by decide +kernel⟩, w_255, w_4, w_252, w_253, w_254⟩
theorem ok_X7_106 : okV RX7 106 yX0_putSpeaker cX0_putSpeaker 3 none 2 := ⟨⟨by decide +kernel, by decide +kernel, by decide +kernel⟩, w_290, w_2, w_287, w_288, w_289⟩
theorem ok_X7_110 : okV RX7 110 yX6_measureAll cX6_measureAll 2 none 0 := ⟨⟨by decide +kernel, by decide +kernel, by decide +kernel⟩, w_294, w_4, w_291, w_292, w_293⟩
theorem ok_X7_114 : okV RX7 114 yX6_at cX6_at 3 (some .int) 2 := ⟨⟨by decide +kernel, by decide +kernel, by decide +kernel⟩, w_312, w_4, w_309, w_310, w_311⟩
theorem ok_X7_117 : okV RX7 117 yX6_isUnheard cX6_isUnheard 3 (some .boolean) 2 := ⟨⟨by decide +kernel, by decide +kernel, by decide +kernel⟩, w_320, w_4, w_317, w_318, w_319⟩
theorem ok_X7_121 : okV RX7 121 yX7_areTwo cX7_areTwo 3 (some .boolean) 2 := ⟨⟨by decide +kernel, by decide +kernel, by decide +kernel⟩, w_328, w_1, w_325, w_327, s_0_1⟩
theorem ok_X7_124 : okV RX7 124 yX4_between cX4_between 10 (some .int) 2 := ⟨⟨by decide +kernel, by decide +kernel, by decide +kernel⟩, w_332, w_5, w_329, w_330, w_331⟩
theorem ok_X7_127 : okS RX7 127 yX7_isBand cX7_isBand 1 (some .boolean) 1 := ⟨⟨by decide +kernel, by decide +kernel, by decide +kernel⟩, w_345, w_1, w_343, w_344⟩
theorem ok_X7_130 : okV RX7 130 yX7_freshPairs cX7_freshPairs 1 (some (.object "VoiceHouse$PairBook")) 0 := ⟨⟨by decide +kernel, by decide +kernel, by decide +kernel⟩, w_349, w_1, w_346, w_348, s_0_2⟩
theorem ok_X7_134 : okV RX7 134 yX3_sameIn cX3_sameIn 2 (some .int) 1 := ⟨⟨by decide +kernel, by decide +kernel, by decide +kernel⟩, w_404, w_6, w_401, w_402, w_403⟩
theorem ok_X7_138 : okV RX7 138 yX3_otherIn cX3_otherIn 2 (some .int) 1 := ⟨⟨by decide +kernel, by decide +kernel, by decide +kernel⟩, w_408, w_6, w_405, w_406, w_407⟩
theorem ok_X7_141 : okV RX7 141 yX3_findBlock cX3_findBlock 3 (some .int) 1 := ⟨⟨by decide +kernel, by decide +kernel, by decide +kernel⟩, w_416, w_6, w_413, w_414, w_415⟩
theorem ok_X7_144 : okV RX7 144 yX3_firstBandOf cX3_firstBandOf 2 (some .int) 1 := ⟨⟨by decide +kernel, by decide +kernel, by decide +kernel⟩, w_420, w_6, w_417, w_418, w_419⟩
theorem ok_X7_147 : okV RX7 147 yX3_lastBandOf cX3_lastBandOf 2 (some .int) 1 := ⟨⟨by decide +kernel, by decide +kernel, by decide +kernel⟩, w_424, w_6, w_421, w_422, w_423⟩
theorem ok_X7_150 : okS RX7 150 yX7_bandOf cX7_bandOf 1 (some .int) 1 := ⟨⟨by decide +kernel, by decide +kernel, by decide +kernel⟩, w_373, w_1, w_429, w_372⟩
theorem ok_X7_153 : okV RX7 153 yX3_sameOf cX3_sameOf 2 (some .int) 1 := ⟨⟨by decide +kernel, by decide +kernel, by decide +kernel⟩, w_433, w_6, w_430, w_431, w_432⟩
theorem ok_X7_156 : okV RX7 156 yX3_allSame cX3_allSame 1 (some .int) 0 := ⟨⟨by decide +kernel, by decide +kernel, by decide +kernel⟩, w_437, w_6, w_434, w_435, w_436⟩
theorem ok_X7_160 : okV RX7 160 yX3_otherOf cX3_otherOf 2 (some .int) 1 := ⟨⟨by decide +kernel, by decide +kernel, by decide +kernel⟩, w_441, w_6, w_438, w_439, w_440⟩
theorem ok_X7_163 : okV RX7 163 yX3_allOther cX3_allOther 1 (some .int) 0 := ⟨⟨by decide +kernel, by decide +kernel, by decide +kernel⟩, w_445, w_6, w_442, w_443, w_444⟩
theorem ok_X7_166 : okV RX7 166 yX3_reaches cX3_reaches 2 (some .boolean) 1 := ⟨⟨by decide +kernel, by decide +kernel, by decide +kernel⟩, w_449, w_6, w_446, w_447, w_448⟩
theorem ok_X7_169 : okV RX7 169 yX5_isFull cX5_isFull 1 (some .boolean) 0 := ⟨⟨by decide +kernel, by decide +kernel, by decide +kernel⟩, w_457, w_7, w_454, w_455, w_456⟩
theorem ok_X7_170 : okV RX7 170 yX5_isListed cX5_isListed 3 (some .boolean) 1 := ⟨⟨by decide +kernel, by decide +kernel, by decide +kernel⟩, w_461, w_7, w_458, w_459, w_460⟩
theorem ok_X7_173 : okV RX7 173 yX5_add cX5_add 2 none 1 := ⟨⟨by decide +kernel, by decide +kernel, by decide +kernel⟩, w_465, w_7, w_462, w_463, w_464⟩
theorem ok_X7_175 : okV RX7 175 yX5_size cX5_size 1 (some .int) 0 := ⟨⟨by decide +kernel, by decide +kernel, by decide +kernel⟩, w_469, w_7, w_466, w_467, w_468⟩
theorem ok_X7_178 : okV RX7 178 yX5_empty cX5_empty 2 (some .int) 0 := ⟨⟨by decide +kernel, by decide +kernel, by decide +kernel⟩, w_477, w_7, w_474, w_475, w_476⟩
theorem ok_X7_181 : okV RX7 181 yX5_join cX5_join 3 none 1 := ⟨⟨by decide +kernel, by decide +kernel, by decide +kernel⟩, w_485, w_7, w_482, w_483, w_484⟩
theorem ok_X7_184 : okV RX7 184 yX5_voiceAt cX5_voiceAt 2 (some .int) 1 := ⟨⟨by decide +kernel, by decide +kernel, by decide +kernel⟩, w_510, w_7, w_507, w_508, w_509⟩
theorem ok_X7_187 : okV RX7 187 yX5_countVoices cX5_countVoices 3 (some .int) 0 := ⟨⟨by decide +kernel, by decide +kernel, by decide +kernel⟩, w_518, w_7, w_515, w_516, w_517⟩
theorem ok_X7_190 : okV RX7 190 yX5_leastCost cX5_leastCost 4 (some .int) 1 := ⟨⟨by decide +kernel, by decide +kernel, by decide +kernel⟩, w_526, w_7, w_523, w_524, w_525⟩
theorem ok_X7_193 : okV RX7 193 yX2_callFor cX2_callFor 5 none 2 := ⟨⟨by decide +kernel, by decide +kernel, by decide +kernel⟩, w_547, w_8, w_544, w_545, w_546⟩
theorem ok_X7_196 : okV RX7 196 yX2_at cX2_at 2 (some .int) 1 := ⟨⟨by decide +kernel, by decide +kernel, by decide +kernel⟩, w_558, w_8, w_555, w_556, w_557⟩
theorem ok_X7_198 : okS RX7 198 yX7_isSpeaker cX7_isSpeaker 1 (some .boolean) 1 := ⟨⟨by decide +kernel, by decide +kernel, by decide +kernel⟩, w_228, w_1, w_226, w_227⟩
theorem ok_X7_201 : okV RX7 201 yX2_speakersAhead cX2_speakersAhead 5 (some .int) 1 := ⟨⟨by decide +kernel, by decide +kernel, by decide +kernel⟩, w_566, w_8, w_563, w_564, w_565⟩
theorem ok_X7_204 : okV RX7 204 yX0_isKnown cX0_isKnown 2 (some .boolean) 1 := ⟨⟨by decide +kernel, by decide +kernel, by decide +kernel⟩, w_267, w_2, w_578, w_265, w_266⟩
theorem ok_X7_207 : okV RX7 207 yX1_areOver cX1_areOver 1 (some .boolean) 0 := ⟨⟨by decide +kernel, by decide +kernel, by decide +kernel⟩, w_582, w_9, w_579, w_580, w_581⟩
theorem ok_X7_210 : okV RX7 210 yX0_speakerOf cX0_speakerOf 2 (some .int) 1 := ⟨⟨by decide +kernel, by decide +kernel, by decide +kernel⟩, w_279, w_2, w_583, w_277, w_278⟩
theorem ok_X7_213 : okV RX7 213 yX1_put cX1_put 4 (some .int) 3 := ⟨⟨by decide +kernel, by decide +kernel, by decide +kernel⟩, w_587, w_9, w_584, w_585, w_586⟩
theorem ok_X7_217 : okV RX7 217 yX1_outcome cX1_outcome 2 (some .int) 1 := ⟨⟨by decide +kernel, by decide +kernel, by decide +kernel⟩, w_595, w_9, w_592, w_593, w_594⟩
theorem ok_X7_220 : okV RX7 220 yX0_channelOf cX0_channelOf 2 (some .int) 1 := ⟨⟨by decide +kernel, by decide +kernel, by decide +kernel⟩, w_263, w_2, w_600, w_261, w_262⟩
theorem ok_X7_223 : okV RX7 223 yX0_countTones cX0_countTones 4 (some .int) 1 := ⟨⟨by decide +kernel, by decide +kernel, by decide +kernel⟩, w_604, w_2, w_601, w_602, w_603⟩
theorem ok_X7_226 : okV RX7 226 yX7_toneTold cX7_toneTold 3 (some .int) 2 := ⟨⟨by decide +kernel, by decide +kernel, by decide +kernel⟩, w_609, w_1, w_606, w_608, s_1_3⟩
theorem ok_X7_229 : okV RX7 229 yX0_size cX0_size 1 (some .int) 0 := ⟨⟨by decide +kernel, by decide +kernel, by decide +kernel⟩, w_259, w_2, w_615, w_257, w_258⟩
theorem ok_X7_230 : okV RX7 230 yX3_countBlocks cX3_countBlocks 1 (some .int) 0 := ⟨⟨by decide +kernel, by decide +kernel, by decide +kernel⟩, w_619, w_6, w_616, w_617, w_618⟩
theorem ok_X7_233 : okV RX7 233 yX0_toneAt cX0_toneAt 3 (some .int) 2 := ⟨⟨by decide +kernel, by decide +kernel, by decide +kernel⟩, w_271, w_2, w_610, w_269, w_270⟩
theorem ok_X7_236 : okV RX7 236 yX3_fillFor cX3_fillFor 2 none 1 := ⟨⟨by decide +kernel, by decide +kernel, by decide +kernel⟩, w_353, w_6, w_350, w_351, w_352⟩
theorem ok_X7_239 : okS RX7 239 yJ9_min_7cf53 cJ9_min_7cf53 2 (some .int) 2 := ⟨⟨by decide +kernel, by decide +kernel, by decide +kernel⟩, w_376, w_11, w_374, w_375⟩
theorem ok_X8_59 : okS RX8 59 yX8_in cX8_in 3 (some .boolean) 3 := ⟨⟨by decide +kernel, by decide +kernel, by decide +kernel⟩, w_693, w_10, w_691, w_692⟩
theorem ok_X8_63 : okV RX8 63 yX8_isRecording cX8_isRecording 2 (some .boolean) 1 := ⟨⟨by decide +kernel, by decide +kernel, by decide +kernel⟩, w_701, w_10, w_698, w_700, s_1_4⟩
theorem ok_X8_70 : okV RX8 70 yX8_shiftPairs cX8_shiftPairs 8 (some .int) 2 := ⟨⟨by decide +kernel, by decide +kernel, by decide +kernel⟩, w_725, w_10, w_722, w_724, s_1_6⟩
theorem ok_X8_74 : okV RX8 74 yX8_shiftOf cX8_shiftOf 4 (some .int) 2 := ⟨⟨by decide +kernel, by decide +kernel, by decide +kernel⟩, w_721, w_10, w_718, w_720, s_1_5⟩
theorem ok_X8_78 : okV RX8 78 yX8_reckons cX8_reckons 3 none 0 := ⟨⟨by decide +kernel, by decide +kernel, by decide +kernel⟩, w_738, w_10, w_735, w_737, s_1_7⟩
theorem ok_X8_81 : okV RX8 81 yX8_scoreOf cX8_scoreOf 9 (some .int) 2 := ⟨⟨by decide +kernel, by decide +kernel, by decide +kernel⟩, w_742, w_10, w_739, w_741, s_1_8⟩
theorem ok_X8_84 : okV RX8 84 yX8_isOf cX8_isOf 2 (some .boolean) 1 := ⟨⟨by decide +kernel, by decide +kernel, by decide +kernel⟩, w_754, w_10, w_751, w_753, s_1_10⟩
theorem ok_X8_87 : okS RX8 87 yX8_bandOf cX8_bandOf 1 (some .int) 1 := ⟨⟨by decide +kernel, by decide +kernel, by decide +kernel⟩, w_757, w_10, w_755, w_756⟩
theorem ok_X8_91 : okV RX8 91 yX8_sumOf cX8_sumOf 5 (some .int) 2 := ⟨⟨by decide +kernel, by decide +kernel, by decide +kernel⟩, w_777, w_10, w_774, w_776, s_1_14⟩
theorem ok_X8_95 : okV RX8 95 yX8_counts cX8_counts 4 none 0 := ⟨⟨by decide +kernel, by decide +kernel, by decide +kernel⟩, w_750, w_10, w_747, w_749, s_1_9⟩
theorem ok_X8_98 : okV RX8 98 yX8_nextBlock cX8_nextBlock 3 (some .int) 1 := ⟨⟨by decide +kernel, by decide +kernel, by decide +kernel⟩, w_769, w_10, w_766, w_768, s_1_12⟩
theorem ok_X8_101 : okV RX8 101 yX8_isOut cX8_isOut 5 (some .boolean) 2 := ⟨⟨by decide +kernel, by decide +kernel, by decide +kernel⟩, w_773, w_10, w_770, w_772, s_1_13⟩
theorem ok_X8_105 : okV RX8 105 yX8_blocks cX8_blocks 5 none 0 := ⟨⟨by decide +kernel, by decide +kernel, by decide +kernel⟩, w_765, w_10, w_762, w_764, s_1_11⟩
theorem ok_X8_108 : okS RX8 108 yX8_all cX8_all 3 (some .int) 1 := ⟨⟨by decide +kernel, by decide +kernel, by decide +kernel⟩, w_784, w_10, w_782, w_783⟩
theorem ok_X8_118 : okV RX8 118 yX8_scoresAll cX8_scoresAll 3 none 0 := ⟨⟨by decide +kernel, by decide +kernel, by decide +kernel⟩, w_804, w_10, w_801, w_803, s_2_0⟩
theorem ok_X8_121 : okV RX8 121 yX8_between cX8_between 6 (some .int) 2 := ⟨⟨by decide +kernel, by decide +kernel, by decide +kernel⟩, w_808, w_10, w_805, w_807, s_2_1⟩
theorem ok_X8_124 : okV RX8 124 yX8_joins cX8_joins 9 none 0 := ⟨⟨by decide +kernel, by decide +kernel, by decide +kernel⟩, w_800, w_10, w_797, w_799, s_1_15⟩
theorem ok_X8_127 : okV RX8 127 yX8_costOf cX8_costOf 5 (some .int) 1 := ⟨⟨by decide +kernel, by decide +kernel, by decide +kernel⟩, w_820, w_10, w_817, w_819, s_2_2⟩
theorem ok_X8_130 : okV RX8 130 yX8_lines cX8_lines 6 (some .int) 1 := ⟨⟨by decide +kernel, by decide +kernel, by decide +kernel⟩, w_828, w_10, w_825, w_827, s_2_3⟩
theorem ok_X8_136 : okV RX8 136 yX8_score cX8_score 3 (some .int) 2 := ⟨⟨by decide +kernel, by decide +kernel, by decide +kernel⟩, w_734, w_10, w_837, w_732, w_733⟩
theorem ok_L_13 : okV RL 13 yX7_record cX7_record 3 (some .int) 2 := ⟨⟨by decide +kernel, by decide +kernel, by decide +kernel⟩, w_219, w_1, w_216, w_217, w_218⟩
theorem ok_L_17 : okV RL 17 yX8_record cX8_record 4 (some .int) 2 := ⟨⟨by decide +kernel, by decide +kernel, by decide +kernel⟩, w_690, w_10, w_687, w_688, w_689⟩
theorem ok_L_18 : okV RL 18 yX7_tone cX7_tone 4 (some .boolean) 3 := ⟨⟨by decide +kernel, by decide +kernel, by decide +kernel⟩, w_240, w_1, w_237, w_238, w_239⟩
theorem ok_L_22 : okV RL 22 yX8_tone cX8_tone 4 (some .boolean) 3 := ⟨⟨by decide +kernel, by decide +kernel, by decide +kernel⟩, w_697, w_10, w_694, w_695, w_696⟩
theorem ok_L_23 : okV RL 23 yX7_know cX7_know 3 (some .boolean) 2 := ⟨⟨by decide +kernel, by decide +kernel, by decide +kernel⟩, w_286, w_1, w_283, w_284, w_285⟩
theorem ok_L_27 : okV RL 27 yX8_know cX8_know 3 (some .boolean) 2 := ⟨⟨by decide +kernel, by decide +kernel, by decide +kernel⟩, w_705, w_10, w_702, w_703, w_704⟩
theorem ok_L_28 : okV RL 28 yX7_set cX7_set 2 (some .boolean) 1 := ⟨⟨by decide +kernel, by decide +kernel, by decide +kernel⟩, w_299, w_1, w_296, w_297, w_298⟩
theorem ok_L_32 : okV RL 32 yX8_set cX8_set 2 (some .boolean) 1 := ⟨⟨by decide +kernel, by decide +kernel, by decide +kernel⟩, w_709, w_10, w_706, w_707, w_708⟩
theorem ok_L_33 : okV RL 33 yX7_limit cX7_limit 2 (some .boolean) 1 := ⟨⟨by decide +kernel, by decide +kernel, by decide +kernel⟩, w_303, w_1, w_300, w_301, w_302⟩
theorem ok_L_36 : okV RL 36 yX8_limit cX8_limit 2 (some .boolean) 1 := ⟨⟨by decide +kernel, by decide +kernel, by decide +kernel⟩, w_713, w_10, w_710, w_711, w_712⟩
theorem ok_L_37 : okV RL 37 yX7_shift cX7_shift 3 (some .int) 2 := ⟨⟨by decide +kernel, by decide +kernel, by decide +kernel⟩, w_307, w_1, w_304, w_305, w_306⟩
theorem ok_L_40 : okV RL 40 yX8_shift cX8_shift 3 (some .int) 2 := ⟨⟨by decide +kernel, by decide +kernel, by decide +kernel⟩, w_717, w_10, w_714, w_715, w_716⟩
theorem ok_L_41 : okV RL 41 yX7_hidden cX7_hidden 3 (some .boolean) 2 := ⟨⟨by decide +kernel, by decide +kernel, by decide +kernel⟩, w_316, w_1, w_313, w_314, w_315⟩
theorem ok_L_44 : okV RL 44 yX8_hidden cX8_hidden 3 (some .boolean) 2 := ⟨⟨by decide +kernel, by decide +kernel, by decide +kernel⟩, w_730, w_10, w_727, w_728, w_729⟩
theorem ok_L_45 : okV RL 45 yX7_score cX7_score 3 (some .int) 2 := ⟨⟨by decide +kernel, by decide +kernel, by decide +kernel⟩, w_324, w_1, w_321, w_322, w_323⟩
theorem ok_L_48 : okV RL 48 yX8_score cX8_score 3 (some .int) 2 := ⟨⟨by decide +kernel, by decide +kernel, by decide +kernel⟩, w_734, w_10, w_731, w_732, w_733⟩
theorem ok_L_49 : okV RL 49 yX7_band cX7_band 3 (some .int) 2 := ⟨⟨by decide +kernel, by decide +kernel, by decide +kernel⟩, w_342, w_1, w_339, w_340, w_341⟩
theorem ok_L_52 : okV RL 52 yX8_band cX8_band 3 (some .int) 2 := ⟨⟨by decide +kernel, by decide +kernel, by decide +kernel⟩, w_746, w_10, w_743, w_744, w_745⟩
theorem ok_L_53 : okV RL 53 yX7_block cX7_block 5 (some .int) 2 := ⟨⟨by decide +kernel, by decide +kernel, by decide +kernel⟩, w_412, w_1, w_409, w_410, w_411⟩
theorem ok_L_56 : okV RL 56 yX8_block cX8_block 5 (some .int) 2 := ⟨⟨by decide +kernel, by decide +kernel, by decide +kernel⟩, w_761, w_10, w_758, w_759, w_760⟩
theorem ok_L_57 : okV RL 57 yX7_odds cX7_odds 5 (some .int) 2 := ⟨⟨by decide +kernel, by decide +kernel, by decide +kernel⟩, w_428, w_1, w_425, w_426, w_427⟩
theorem ok_L_60 : okV RL 60 yX8_odds cX8_odds 4 (some .int) 2 := ⟨⟨by decide +kernel, by decide +kernel, by decide +kernel⟩, w_781, w_10, w_778, w_779, w_780⟩
theorem ok_L_61 : okV RL 61 yX7_segment cX7_segment 2 (some .int) 1 := ⟨⟨by decide +kernel, by decide +kernel, by decide +kernel⟩, w_453, w_1, w_450, w_451, w_452⟩
theorem ok_L_65 : okV RL 65 yX8_segment cX8_segment 3 (some .int) 1 := ⟨⟨by decide +kernel, by decide +kernel, by decide +kernel⟩, w_788, w_10, w_785, w_786, w_787⟩
theorem ok_L_66 : okV RL 66 yX7_clear cX7_clear 1 (some .int) 0 := ⟨⟨by decide +kernel, by decide +kernel, by decide +kernel⟩, w_473, w_1, w_470, w_471, w_472⟩
theorem ok_L_70 : okV RL 70 yX8_clear cX8_clear 2 (some .int) 0 := ⟨⟨by decide +kernel, by decide +kernel, by decide +kernel⟩, w_792, w_10, w_789, w_790, w_791⟩
theorem ok_L_71 : okV RL 71 yX7_voice cX7_voice 2 (some .int) 1 := ⟨⟨by decide +kernel, by decide +kernel, by decide +kernel⟩, w_481, w_1, w_478, w_479, w_480⟩
theorem ok_L_74 : okV RL 74 yX8_voice cX8_voice 2 (some .int) 1 := ⟨⟨by decide +kernel, by decide +kernel, by decide +kernel⟩, w_796, w_10, w_793, w_794, w_795⟩
theorem ok_L_75 : okV RL 75 yX7_voices cX7_voices 1 (some .int) 0 := ⟨⟨by decide +kernel, by decide +kernel, by decide +kernel⟩, w_514, w_1, w_511, w_512, w_513⟩
theorem ok_L_78 : okV RL 78 yX8_voices cX8_voices 3 (some .int) 0 := ⟨⟨by decide +kernel, by decide +kernel, by decide +kernel⟩, w_812, w_10, w_809, w_810, w_811⟩
theorem ok_L_79 : okV RL 79 yX7_spare cX7_spare 1 (some .int) 0 := ⟨⟨by decide +kernel, by decide +kernel, by decide +kernel⟩, w_522, w_1, w_519, w_520, w_521⟩
theorem ok_L_82 : okV RL 82 yX8_spare cX8_spare 5 (some .int) 0 := ⟨⟨by decide +kernel, by decide +kernel, by decide +kernel⟩, w_816, w_10, w_813, w_814, w_815⟩
theorem ok_L_83 : okV RL 83 yX7_lined cX7_lined 3 (some .int) 2 := ⟨⟨by decide +kernel, by decide +kernel, by decide +kernel⟩, w_543, w_1, w_540, w_541, w_542⟩
theorem ok_L_86 : okV RL 86 yX8_lined cX8_lined 3 (some .int) 2 := ⟨⟨by decide +kernel, by decide +kernel, by decide +kernel⟩, w_824, w_10, w_821, w_822, w_823⟩
theorem ok_L_87 : okV RL 87 yX7_rank cX7_rank 3 (some .int) 2 := ⟨⟨by decide +kernel, by decide +kernel, by decide +kernel⟩, w_562, w_1, w_559, w_560, w_561⟩
theorem ok_L_90 : okV RL 90 yX8_rank cX8_rank 8 (some .int) 2 := ⟨⟨by decide +kernel, by decide +kernel, by decide +kernel⟩, w_832, w_10, w_829, w_830, w_831⟩
theorem ok_L_91 : okV RL 91 yX7_test cX7_test 4 (some .int) 2 := ⟨⟨by decide +kernel, by decide +kernel, by decide +kernel⟩, w_577, w_1, w_574, w_575, w_576⟩
theorem ok_L_94 : okV RL 94 yX8_test cX8_test 6 (some .int) 2 := ⟨⟨by decide +kernel, by decide +kernel, by decide +kernel⟩, w_836, w_10, w_833, w_834, w_835⟩
theorem ok_L_95 : okV RL 95 yX7_right cX7_right 2 (some .int) 1 := ⟨⟨by decide +kernel, by decide +kernel, by decide +kernel⟩, w_591, w_1, w_588, w_589, w_590⟩
theorem ok_L_98 : okV RL 98 yX8_right cX8_right 2 (some .int) 1 := ⟨⟨by decide +kernel, by decide +kernel, by decide +kernel⟩, w_841, w_10, w_838, w_839, w_840⟩
theorem ok_L_99 : okV RL 99 yX7_told cX7_told 3 (some .int) 2 := ⟨⟨by decide +kernel, by decide +kernel, by decide +kernel⟩, w_599, w_1, w_596, w_597, w_598⟩
theorem ok_L_102 : okV RL 102 yX8_told cX8_told 5 (some .int) 2 := ⟨⟨by decide +kernel, by decide +kernel, by decide +kernel⟩, w_845, w_10, w_842, w_843, w_844⟩
theorem ok_L_103 : okV RL 103 yX7_count cX7_count 2 (some .int) 1 := ⟨⟨by decide +kernel, by decide +kernel, by decide +kernel⟩, w_614, w_1, w_611, w_612, w_613⟩
theorem ok_L_106 : okV RL 106 yX8_count cX8_count 4 (some .int) 1 := ⟨⟨by decide +kernel, by decide +kernel, by decide +kernel⟩, w_849, w_10, w_846, w_847, w_848⟩
end
section
theorem up_s {α : Type} {f : Nat → α} {k : Nat} {v : α} : va_up f k v k = v := if_pos rfl
theorem up_n {α : Type} {f : Nat → α} {k j : Nat} {v : α} (h : j ≠ k) : va_up f k v j = f j := if_neg h
theorem inc_N (a : Nat) : nI a + Int32.ofInt 1 = nI (a + 1) := nI_1 a
theorem inc_x (x : Int32) : x + Int32.ofInt 1 = x + 1 := rfl
theorem dec_N (a : Nat) (h : 0 < a) : nI a + Int32.ofInt (-1) = nI (a - 1) := sb_m1 h
theorem nI_ne_m1 {a : Nat} (h : a < 2 ^ 31) : ¬ nI a = -1 := fun e => by
  have h1 := nI_toInt h
  rw [e] at h1
  have h2 : (-1 : Int32).toInt = -1 := rfl
  omega
theorem ret1 {c : Prop} [Decidable c] {iv : IV} {ar : AR} (h : c) : rI (bI c) iv ar (some (.int (nI 1))) iv ar := ⟨by rw [bI_t h]; rfl, rfl, rfl⟩
theorem ret0 {c : Prop} [Decidable c] {iv : IV} {ar : AR} (h : ¬ c) : rI (bI c) iv ar (some (.int (nI 0))) iv ar := ⟨by rw [bI_f h]; rfl, rfl, rfl⟩
theorem i_lt (a b : Int32) : a < b ↔ a.toInt < b.toInt := Int32.lt_iff_toInt_lt
theorem i_le (a b : Int32) : a ≤ b ↔ a.toInt ≤ b.toInt := Int32.le_iff_toInt_le
section KN
variable {l : Launch} {D : va_G} {cI : ClassId} {wf : WF} {own : String} {cc : ByteArray} {mL : Nat} {ret : Option FieldType} {fr lo : Nat} {post : PST} {Z : ZT} {pc : Nat} {lv : LV} {st : List Value} {iv : IV} {ar : AR}
theorem k_if_eqN (F : Fx l D cI wf own cc mL ret fr lo post Z) {a : Nat} {off : Int} {tgt : Nat} (hd : decode cc pc = .ok (.ifCond .eq off, 3)) (ht : (pc : Int) + off = (tgt : Int)) (ha : a < 2 ^ 31) (kt : a = 0 → Z tgt lv st iv ar) (kf : ¬ a = 0 → Z (pc + 3) lv st iv ar) : Z pc lv (.int (nI a) :: st) iv ar := k_if_eq F hd ht (fun h => kt ((nI_eq ha (by decide)).mp h)) (fun h => kf (fun q => h (by rw [q]; rfl)))
theorem k_if_neN (F : Fx l D cI wf own cc mL ret fr lo post Z) {a : Nat} {off : Int} {tgt : Nat} (hd : decode cc pc = .ok (.ifCond .ne off, 3)) (ht : (pc : Int) + off = (tgt : Int)) (ha : a < 2 ^ 31) (kt : ¬ a = 0 → Z tgt lv st iv ar) (kf : a = 0 → Z (pc + 3) lv st iv ar) : Z pc lv (.int (nI a) :: st) iv ar := k_if_ne F hd ht (fun h => kt (fun q => h (by rw [q]; rfl))) (fun h => kf ((nI_eq ha (by decide)).mp h))
theorem k_if_leN (F : Fx l D cI wf own cc mL ret fr lo post Z) {a : Nat} {off : Int} {tgt : Nat} (hd : decode cc pc = .ok (.ifCond .le off, 3)) (ht : (pc : Int) + off = (tgt : Int)) (ha : a < 2 ^ 31) (kt : a = 0 → Z tgt lv st iv ar) (kf : 0 < a → Z (pc + 3) lv st iv ar) : Z pc lv (.int (nI a) :: st) iv ar := k_if_le F hd ht (fun h => kt (by have h2 := (nI_leI (b := 0) ha (by decide)).mp h; omega)) (fun h => kf (Nat.pos_of_ne_zero (fun q => h (by rw [q]; decide))))
theorem k_if_gtN (F : Fx l D cI wf own cc mL ret fr lo post Z) {a : Nat} {off : Int} {tgt : Nat} (hd : decode cc pc = .ok (.ifCond .gt off, 3)) (ht : (pc : Int) + off = (tgt : Int)) (ha : a < 2 ^ 31) (kt : 0 < a → Z tgt lv st iv ar) (kf : a = 0 → Z (pc + 3) lv st iv ar) : Z pc lv (.int (nI a) :: st) iv ar := k_if_gt F hd ht (fun h => kt ((nI_ltI (a := 0) (by decide) ha).mp h)) (fun h => kf (by
  rcases Nat.eq_zero_or_pos a with q | q
  · exact q
  · exact absurd ((nI_ltI (a := 0) (by decide) ha).mpr q) h))
end KN
set_option maxHeartbeats 4000000 in
theorem c_X0_size {l : Launch} {D : va_G} {cI : ClassId} {ad : Nat → Nat} {iv : IV} {ar : AR}  : Ct l D cI (cw cI ad) yX0_size cX0_size 1 (some .int) 0 0 [.ref (ad 1)] iv ar (rI (iv 3) iv ar) := by
  refine Ct.of (lv := [some (.ref (ad 1))]) cw_ok (plainFor_of_name (by decide)) (Nat.le_of_ble_eq_true rfl) 0 rfl rfl (fun Z F => ?_)
  refine k_aload0 (pc := 0) F dX0_size_0 ?_
  refine g_X0_size (pc := 1) F (rfl) dX0_size_1 ?_
  refine k_iret (pc := 4) F dX0_size_4 ?_
  exact ⟨rfl, rfl, rfl⟩

set_option maxHeartbeats 4000000 in
theorem c_X5_size {l : Launch} {D : va_G} {cI : ClassId} {ad : Nat → Nat} {iv : IV} {ar : AR}  : Ct l D cI (cw cI ad) yX5_size cX5_size 1 (some .int) 0 0 [.ref (ad 5)] iv ar (rI (iv 7) iv ar) := by
  refine Ct.of (lv := [some (.ref (ad 5))]) cw_ok (plainFor_of_name (by decide)) (Nat.le_of_ble_eq_true rfl) 0 rfl rfl (fun Z F => ?_)
  refine k_aload0 (pc := 0) F dX5_size_0 ?_
  refine g_X5_size (pc := 1) F (rfl) dX5_size_1 ?_
  refine k_iret (pc := 4) F dX5_size_4 ?_
  exact ⟨rfl, rfl, rfl⟩

set_option maxHeartbeats 4000000 in
theorem c_X3_allSame {l : Launch} {D : va_G} {cI : ClassId} {ad : Nat → Nat} {iv : IV} {ar : AR}  : Ct l D cI (cw cI ad) yX3_allSame cX3_allSame 1 (some .int) 0 0 [.ref (ad 4)] iv ar (rI (iv 5) iv ar) := by
  refine Ct.of (lv := [some (.ref (ad 4))]) cw_ok (plainFor_of_name (by decide)) (Nat.le_of_ble_eq_true rfl) 0 rfl rfl (fun Z F => ?_)
  refine k_aload0 (pc := 0) F dX3_allSame_0 ?_
  refine g_X3_sumSame (pc := 1) F (rfl) dX3_allSame_1 ?_
  refine k_iret (pc := 4) F dX3_allSame_4 ?_
  exact ⟨rfl, rfl, rfl⟩

set_option maxHeartbeats 4000000 in
theorem c_X3_allOther {l : Launch} {D : va_G} {cI : ClassId} {ad : Nat → Nat} {iv : IV} {ar : AR}  : Ct l D cI (cw cI ad) yX3_allOther cX3_allOther 1 (some .int) 0 0 [.ref (ad 4)] iv ar (rI (iv 6) iv ar) := by
  refine Ct.of (lv := [some (.ref (ad 4))]) cw_ok (plainFor_of_name (by decide)) (Nat.le_of_ble_eq_true rfl) 0 rfl rfl (fun Z F => ?_)
  refine k_aload0 (pc := 0) F dX3_allOther_0 ?_
  refine g_X3_sumOther (pc := 1) F (rfl) dX3_allOther_1 ?_
  refine k_iret (pc := 4) F dX3_allOther_4 ?_
  exact ⟨rfl, rfl, rfl⟩

set_option maxHeartbeats 4000000 in
theorem c_X3_countBlocks {l : Launch} {D : va_G} {cI : ClassId} {ad : Nat → Nat} {iv : IV} {ar : AR}  : Ct l D cI (cw cI ad) yX3_countBlocks cX3_countBlocks 1 (some .int) 0 0 [.ref (ad 4)] iv ar (rI (iv 4) iv ar) := by
  refine Ct.of (lv := [some (.ref (ad 4))]) cw_ok (plainFor_of_name (by decide)) (Nat.le_of_ble_eq_true rfl) 0 rfl rfl (fun Z F => ?_)
  refine k_aload0 (pc := 0) F dX3_countBlocks_0 ?_
  refine g_X3_blocks (pc := 1) F (rfl) dX3_countBlocks_1 ?_
  refine k_iret (pc := 4) F dX3_countBlocks_4 ?_
  exact ⟨rfl, rfl, rfl⟩

set_option maxHeartbeats 4000000 in
theorem c_X0_channelOf {l : Launch} {D : va_G} {cI : ClassId} {ad : Nat → Nat} {iv : IV} {ar : AR} {k : Nat} (hk : k < 30) : Ct l D cI (cw cI ad) yX0_channelOf cX0_channelOf 2 (some .int) 0 0 [.ref (ad 1), .int (nI k)] iv ar (rI (ar 0 k) iv ar) := by
  refine Ct.of (lv := [some (.ref (ad 1)), some (.int (nI k))]) cw_ok (plainFor_of_name (by decide)) (Nat.le_of_ble_eq_true rfl) 0 rfl rfl (fun Z F => ?_)
  refine k_aload0 (pc := 0) F dX0_channelOf_0 ?_
  refine g_X0_channels (pc := 1) F dX0_channelOf_1 ?_
  refine k_iload1 (pc := 4) F dX0_channelOf_4 ?_
  refine l_c0 (pc := 5) F (by omega) rfl dX0_channelOf_5 ?_
  refine k_iret (pc := 6) F dX0_channelOf_6 ?_
  exact ⟨rfl, rfl, rfl⟩

set_option maxHeartbeats 4000000 in
theorem c_X0_speakerOf {l : Launch} {D : va_G} {cI : ClassId} {ad : Nat → Nat} {iv : IV} {ar : AR} {k : Nat} (hk : k < 30) : Ct l D cI (cw cI ad) yX0_speakerOf cX0_speakerOf 2 (some .int) 0 0 [.ref (ad 1), .int (nI k)] iv ar (rI (ar 1 k) iv ar) := by
  refine Ct.of (lv := [some (.ref (ad 1)), some (.int (nI k))]) cw_ok (plainFor_of_name (by decide)) (Nat.le_of_ble_eq_true rfl) 0 rfl rfl (fun Z F => ?_)
  refine k_aload0 (pc := 0) F dX0_speakerOf_0 ?_
  refine g_X0_speakers (pc := 1) F dX0_speakerOf_1 ?_
  refine k_iload1 (pc := 4) F dX0_speakerOf_4 ?_
  refine l_c1 (pc := 5) F (by omega) rfl dX0_speakerOf_5 ?_
  refine k_iret (pc := 6) F dX0_speakerOf_6 ?_
  exact ⟨rfl, rfl, rfl⟩

set_option maxHeartbeats 4000000 in
theorem c_X3_sameIn {l : Launch} {D : va_G} {cI : ClassId} {ad : Nat → Nat} {iv : IV} {ar : AR} {k : Nat} (hk : k < 10) : Ct l D cI (cw cI ad) yX3_sameIn cX3_sameIn 2 (some .int) 0 0 [.ref (ad 4), .int (nI k)] iv ar (rI (ar 6 k) iv ar) := by
  refine Ct.of (lv := [some (.ref (ad 4)), some (.int (nI k))]) cw_ok (plainFor_of_name (by decide)) (Nat.le_of_ble_eq_true rfl) 0 rfl rfl (fun Z F => ?_)
  refine k_aload0 (pc := 0) F dX3_sameIn_0 ?_
  refine g_X3_bandSame (pc := 1) F dX3_sameIn_1 ?_
  refine k_iload1 (pc := 4) F dX3_sameIn_4 ?_
  refine l_c6 (pc := 5) F (by omega) rfl dX3_sameIn_5 ?_
  refine k_iret (pc := 6) F dX3_sameIn_6 ?_
  exact ⟨rfl, rfl, rfl⟩

set_option maxHeartbeats 4000000 in
theorem c_X3_otherIn {l : Launch} {D : va_G} {cI : ClassId} {ad : Nat → Nat} {iv : IV} {ar : AR} {k : Nat} (hk : k < 10) : Ct l D cI (cw cI ad) yX3_otherIn cX3_otherIn 2 (some .int) 0 0 [.ref (ad 4), .int (nI k)] iv ar (rI (ar 7 k) iv ar) := by
  refine Ct.of (lv := [some (.ref (ad 4)), some (.int (nI k))]) cw_ok (plainFor_of_name (by decide)) (Nat.le_of_ble_eq_true rfl) 0 rfl rfl (fun Z F => ?_)
  refine k_aload0 (pc := 0) F dX3_otherIn_0 ?_
  refine g_X3_bandOther (pc := 1) F dX3_otherIn_1 ?_
  refine k_iload1 (pc := 4) F dX3_otherIn_4 ?_
  refine l_c7 (pc := 5) F (by omega) rfl dX3_otherIn_5 ?_
  refine k_iret (pc := 6) F dX3_otherIn_6 ?_
  exact ⟨rfl, rfl, rfl⟩

set_option maxHeartbeats 4000000 in
theorem c_X3_firstBandOf {l : Launch} {D : va_G} {cI : ClassId} {ad : Nat → Nat} {iv : IV} {ar : AR} {k : Nat} (hk : k < 10) : Ct l D cI (cw cI ad) yX3_firstBandOf cX3_firstBandOf 2 (some .int) 0 0 [.ref (ad 4), .int (nI k)] iv ar (rI (ar 8 k) iv ar) := by
  refine Ct.of (lv := [some (.ref (ad 4)), some (.int (nI k))]) cw_ok (plainFor_of_name (by decide)) (Nat.le_of_ble_eq_true rfl) 0 rfl rfl (fun Z F => ?_)
  refine k_aload0 (pc := 0) F dX3_firstBandOf_0 ?_
  refine g_X3_blockFirst (pc := 1) F dX3_firstBandOf_1 ?_
  refine k_iload1 (pc := 4) F dX3_firstBandOf_4 ?_
  refine l_c8 (pc := 5) F (by omega) rfl dX3_firstBandOf_5 ?_
  refine k_iret (pc := 6) F dX3_firstBandOf_6 ?_
  exact ⟨rfl, rfl, rfl⟩

set_option maxHeartbeats 4000000 in
theorem c_X3_lastBandOf {l : Launch} {D : va_G} {cI : ClassId} {ad : Nat → Nat} {iv : IV} {ar : AR} {k : Nat} (hk : k < 10) : Ct l D cI (cw cI ad) yX3_lastBandOf cX3_lastBandOf 2 (some .int) 0 0 [.ref (ad 4), .int (nI k)] iv ar (rI (ar 9 k) iv ar) := by
  refine Ct.of (lv := [some (.ref (ad 4)), some (.int (nI k))]) cw_ok (plainFor_of_name (by decide)) (Nat.le_of_ble_eq_true rfl) 0 rfl rfl (fun Z F => ?_)
  refine k_aload0 (pc := 0) F dX3_lastBandOf_0 ?_
  refine g_X3_blockLast (pc := 1) F dX3_lastBandOf_1 ?_
  refine k_iload1 (pc := 4) F dX3_lastBandOf_4 ?_
  refine l_c9 (pc := 5) F (by omega) rfl dX3_lastBandOf_5 ?_
  refine k_iret (pc := 6) F dX3_lastBandOf_6 ?_
  exact ⟨rfl, rfl, rfl⟩

set_option maxHeartbeats 4000000 in
theorem c_X3_sameOf {l : Launch} {D : va_G} {cI : ClassId} {ad : Nat → Nat} {iv : IV} {ar : AR} {k : Nat} (hk : k < 10) : Ct l D cI (cw cI ad) yX3_sameOf cX3_sameOf 2 (some .int) 0 0 [.ref (ad 4), .int (nI k)] iv ar (rI (ar 10 k) iv ar) := by
  refine Ct.of (lv := [some (.ref (ad 4)), some (.int (nI k))]) cw_ok (plainFor_of_name (by decide)) (Nat.le_of_ble_eq_true rfl) 0 rfl rfl (fun Z F => ?_)
  refine k_aload0 (pc := 0) F dX3_sameOf_0 ?_
  refine g_X3_blockSame (pc := 1) F dX3_sameOf_1 ?_
  refine k_iload1 (pc := 4) F dX3_sameOf_4 ?_
  refine l_c10 (pc := 5) F (by omega) rfl dX3_sameOf_5 ?_
  refine k_iret (pc := 6) F dX3_sameOf_6 ?_
  exact ⟨rfl, rfl, rfl⟩

set_option maxHeartbeats 4000000 in
theorem c_X3_otherOf {l : Launch} {D : va_G} {cI : ClassId} {ad : Nat → Nat} {iv : IV} {ar : AR} {k : Nat} (hk : k < 10) : Ct l D cI (cw cI ad) yX3_otherOf cX3_otherOf 2 (some .int) 0 0 [.ref (ad 4), .int (nI k)] iv ar (rI (ar 11 k) iv ar) := by
  refine Ct.of (lv := [some (.ref (ad 4)), some (.int (nI k))]) cw_ok (plainFor_of_name (by decide)) (Nat.le_of_ble_eq_true rfl) 0 rfl rfl (fun Z F => ?_)
  refine k_aload0 (pc := 0) F dX3_otherOf_0 ?_
  refine g_X3_blockOther (pc := 1) F dX3_otherOf_1 ?_
  refine k_iload1 (pc := 4) F dX3_otherOf_4 ?_
  refine l_c11 (pc := 5) F (by omega) rfl dX3_otherOf_5 ?_
  refine k_iret (pc := 6) F dX3_otherOf_6 ?_
  exact ⟨rfl, rfl, rfl⟩

set_option maxHeartbeats 4000000 in
theorem c_X5_voiceAt {l : Launch} {D : va_G} {cI : ClassId} {ad : Nat → Nat} {iv : IV} {ar : AR} {k : Nat} (hk : k < 8) : Ct l D cI (cw cI ad) yX5_voiceAt cX5_voiceAt 2 (some .int) 0 0 [.ref (ad 5), .int (nI k)] iv ar (rI (ar 14 k) iv ar) := by
  refine Ct.of (lv := [some (.ref (ad 5)), some (.int (nI k))]) cw_ok (plainFor_of_name (by decide)) (Nat.le_of_ble_eq_true rfl) 0 rfl rfl (fun Z F => ?_)
  refine k_aload0 (pc := 0) F dX5_voiceAt_0 ?_
  refine g_X5_voiceOf (pc := 1) F dX5_voiceAt_1 ?_
  refine k_iload1 (pc := 4) F dX5_voiceAt_4 ?_
  refine l_c14 (pc := 5) F (by omega) rfl dX5_voiceAt_5 ?_
  refine k_iret (pc := 6) F dX5_voiceAt_6 ?_
  exact ⟨rfl, rfl, rfl⟩

set_option maxHeartbeats 4000000 in
theorem c_X1_outcome {l : Launch} {D : va_G} {cI : ClassId} {ad : Nat → Nat} {iv : IV} {ar : AR} {k : Nat} (hk : k < 5) : Ct l D cI (cw cI ad) yX1_outcome cX1_outcome 2 (some .int) 0 0 [.ref (ad 7), .int (nI k)] iv ar (rI (ar 19 k) iv ar) := by
  refine Ct.of (lv := [some (.ref (ad 7)), some (.int (nI k))]) cw_ok (plainFor_of_name (by decide)) (Nat.le_of_ble_eq_true rfl) 0 rfl rfl (fun Z F => ?_)
  refine k_aload0 (pc := 0) F dX1_outcome_0 ?_
  refine g_X1_outcomes (pc := 1) F dX1_outcome_1 ?_
  refine k_iload1 (pc := 4) F dX1_outcome_4 ?_
  refine l_c19 (pc := 5) F (by omega) rfl dX1_outcome_5 ?_
  refine k_iret (pc := 6) F dX1_outcome_6 ?_
  exact ⟨rfl, rfl, rfl⟩

set_option maxHeartbeats 4000000 in
theorem c_X0_toneAt {l : Launch} {D : va_G} {cI : ClassId} {ad : Nat → Nat} {iv : IV} {ar : AR} {r p : Nat} (hk : r * 6 + p < 180) : Ct l D cI (cw cI ad) yX0_toneAt cX0_toneAt 3 (some .int) 0 0 [.ref (ad 1), .int (nI r), .int (nI p)] iv ar (rI (ar 2 (r * 6 + p)) iv ar) := by
  refine Ct.of (lv := [some (.ref (ad 1)), some (.int (nI r)), some (.int (nI p))]) cw_ok (plainFor_of_name (by decide)) (Nat.le_of_ble_eq_true rfl) 0 rfl rfl (fun Z F => ?_)
  refine k_aload0 (pc := 0) F dX0_toneAt_0 ?_
  refine g_X0_tones (pc := 1) F dX0_toneAt_1 ?_
  refine k_iload1 (pc := 4) F dX0_toneAt_4 ?_
  refine k_bipush (pc := 5) (v := nI 6) F dX0_toneAt_5 (by decide) ?_
  refine k_imulN (pc := 7) F dX0_toneAt_7 ?_
  refine k_iload2 (pc := 8) F dX0_toneAt_8 ?_
  refine k_iaddN (pc := 9) F dX0_toneAt_9 ?_
  refine l_c2 (pc := 10) F (by omega) rfl dX0_toneAt_10 ?_
  refine k_iret (pc := 11) F dX0_toneAt_11 ?_
  exact ⟨rfl, rfl, rfl⟩

set_option maxHeartbeats 4000000 in
theorem c_X6_at {l : Launch} {D : va_G} {cI : ClassId} {ad : Nat → Nat} {iv : IV} {ar : AR} {k p : Nat} (hk : k * 6 + p < 24) : Ct l D cI (cw cI ad) yX6_at cX6_at 3 (some .int) 0 0 [.ref (ad 2), .int (nI k), .int (nI p)] iv ar (rI (ar 5 (k * 6 + p)) iv ar) := by
  refine Ct.of (lv := [some (.ref (ad 2)), some (.int (nI k)), some (.int (nI p))]) cw_ok (plainFor_of_name (by decide)) (Nat.le_of_ble_eq_true rfl) 0 rfl rfl (fun Z F => ?_)
  refine k_aload0 (pc := 0) F dX6_at_0 ?_
  refine g_X6_means (pc := 1) F dX6_at_1 ?_
  refine k_iload1 (pc := 4) F dX6_at_4 ?_
  refine k_bipush (pc := 5) (v := nI 6) F dX6_at_5 (by decide) ?_
  refine k_imulN (pc := 7) F dX6_at_7 ?_
  refine k_iload2 (pc := 8) F dX6_at_8 ?_
  refine k_iaddN (pc := 9) F dX6_at_9 ?_
  refine l_c5 (pc := 10) F (by omega) rfl dX6_at_10 ?_
  refine k_iret (pc := 11) F dX6_at_11 ?_
  exact ⟨rfl, rfl, rfl⟩

set_option maxHeartbeats 4000000 in
theorem c_X0_putTone {l : Launch} {D : va_G} {cI : ClassId} {ad : Nat → Nat} {iv : IV} {ar : AR} {r p : Nat} {t : Int32} (hk : r * 6 + p < 180) : Ct l D cI (cw cI ad) yX0_putTone cX0_putTone 4 none 0 0 [.ref (ad 1), .int (nI r), .int (nI p), .int t] iv ar (rV iv (va_up ar 2 (upd (ar 2) (r * 6 + p) t))) := by
  refine Ct.of (lv := [some (.ref (ad 1)), some (.int (nI r)), some (.int (nI p)), some (.int t)]) cw_ok (plainFor_of_name (by decide)) (Nat.le_of_ble_eq_true rfl) 0 rfl rfl (fun Z F => ?_)
  refine k_aload0 (pc := 0) F dX0_putTone_0 ?_
  refine g_X0_tones (pc := 1) F dX0_putTone_1 ?_
  refine k_iload1 (pc := 4) F dX0_putTone_4 ?_
  refine k_bipush (pc := 5) (v := nI 6) F dX0_putTone_5 (by decide) ?_
  refine k_imulN (pc := 7) F dX0_putTone_7 ?_
  refine k_iload2 (pc := 8) F dX0_putTone_8 ?_
  refine k_iaddN (pc := 9) F dX0_putTone_9 ?_
  refine k_iload3 (pc := 10) F dX0_putTone_10 ?_
  refine s_c2 (pc := 11) F (by omega) dX0_putTone_11 ?_
  refine k_vret (pc := 12) F dX0_putTone_12 ?_
  exact ⟨rfl, rfl, rfl⟩

set_option maxHeartbeats 4000000 in
theorem c_X0_putSpeaker {l : Launch} {D : va_G} {cI : ClassId} {ad : Nat → Nat} {iv : IV} {ar : AR} {r : Nat} {t : Int32} (hk : r < 30) : Ct l D cI (cw cI ad) yX0_putSpeaker cX0_putSpeaker 3 none 0 0 [.ref (ad 1), .int (nI r), .int t] iv ar (rV iv (va_up ar 1 (upd (ar 1) r t))) := by
  refine Ct.of (lv := [some (.ref (ad 1)), some (.int (nI r)), some (.int t)]) cw_ok (plainFor_of_name (by decide)) (Nat.le_of_ble_eq_true rfl) 0 rfl rfl (fun Z F => ?_)
  refine k_aload0 (pc := 0) F dX0_putSpeaker_0 ?_
  refine g_X0_speakers (pc := 1) F dX0_putSpeaker_1 ?_
  refine k_iload1 (pc := 4) F dX0_putSpeaker_4 ?_
  refine k_iload2 (pc := 5) F dX0_putSpeaker_5 ?_
  refine s_c1 (pc := 6) F (by omega) dX0_putSpeaker_6 ?_
  refine k_vret (pc := 7) F dX0_putSpeaker_7 ?_
  exact ⟨rfl, rfl, rfl⟩
end
section
/-! Pure words: SHIFT and SCORE, as both programs reckon them. c: channels (numbers), s: speakers, t: tones (recording * 6 + place), n: how many recordings. -/
theorem upd_u (f : Nat → Int32) (i : Nat) (x y : Int32) : upd (upd f i x) i y = upd f i y := by
  funext j
  unfold upd
  split <;> rfl
theorem upd_id (f : Nat → Int32) (i : Nat) : upd f i (f i) = f := by
  funext j
  unfold upd
  split
  · next h => rw [h]
  · rfl
theorem upd_at {f : Nat → Int32} {k : Nat} {x : Int32} : upd f k x k = x := pk_us
theorem upd_ne {f : Nat → Int32} {k j : Nat} {x : Int32} (h : j ≠ k) : upd f k x j = f j := pk_un h
def iabs (x : Int32) : Int32 := if x < 0 then -x else x
/-- Math.floorDiv, as the JDK writes it -/
def fdv (x y : Int32) : Int32 := if x ^^^ y < 0 ∧ ¬ x / y * y = x then x / y - 1 else x / y
def inn (c : Nat → Nat) (s t : Nat → Int32) (p a : Nat) (z : Nat × Int32) : Nat → Nat × Int32
  | 0 => z
  | b + 1 => if c b = 0 ∧ s b = s a ∧ ¬ t (b * 6 + p) = -1 then ((inn c s t p a z b).1 + 1, (inn c s t p a z b).2 + (t (a * 6 + p) - t (b * 6 + p))) else inn c s t p a z b
def oun (c : Nat → Nat) (s t : Nat → Int32) (n p k : Nat) : Nat → Nat × Int32
  | 0 => (0, 0)
  | a + 1 => if c a = k ∧ ¬ s a = -1 ∧ ¬ t (a * 6 + p) = -1 then inn c s t p a (oun c s t n p k a) n else oun c s t n p k a
def mean (w : Nat × Int32) : Int32 := if w.1 = 0 then 0 else fdv w.2 (nI w.1)
def shf (c : Nat → Nat) (s t : Nat → Int32) (n k p : Nat) : Int32 := if k = 0 then 0 else mean (oun c s t n p k n)
/-- the SHIFTS in one row -/
def shA (c : Nat → Nat) (s t : Nat → Int32) (n : Nat) : Nat → Int32 := fun j => shf c s t n (j / 6) (j % 6)
def scw (c : Nat → Nat) (t m : Nat → Int32) (a b : Nat) : Nat → Nat × Int32
  | 0 => (0, 0)
  | p + 1 => if ¬ t (a * 6 + p) = -1 ∧ ¬ t (b * 6 + p) = -1 then ((scw c t m a b p).1 + 1, (scw c t m a b p).2 + iabs ((t (a * 6 + p) - m (c a * 6 + p)) - (t (b * 6 + p) - m (c b * 6 + p)))) else scw c t m a b p
def sco (c : Nat → Nat) (t m : Nat → Int32) (a b : Nat) : Int32 := if (scw c t m a b 6).1 < 3 then -1 else (scw c t m a b 6).2 * nI 6 / nI (scw c t m a b 6).1
theorem scw_le (c : Nat → Nat) (t m : Nat → Int32) (a b : Nat) : ∀ p, (scw c t m a b p).1 ≤ p
  | 0 => Nat.le_refl 0
  | p + 1 => by
    have ih := scw_le c t m a b p
    rw [scw]
    split
    · show (scw c t m a b p).1 + 1 ≤ p + 1
      omega
    · omega
theorem inn_le (c : Nat → Nat) (s t : Nat → Int32) (p a : Nat) (z : Nat × Int32) : ∀ b, (inn c s t p a z b).1 ≤ z.1 + b
  | 0 => Nat.le_refl _
  | b + 1 => by
    have ih := inn_le c s t p a z b
    rw [inn]
    split
    · show (inn c s t p a z b).1 + 1 ≤ z.1 + (b + 1)
      omega
    · omega
theorem oun_le (c : Nat → Nat) (s t : Nat → Int32) (n p k : Nat) : ∀ a, (oun c s t n p k a).1 ≤ a * n
  | 0 => Nat.zero_le _
  | a + 1 => by
    have ih := oun_le c s t n p k a
    have h1 : (a + 1) * n = a * n + n := Nat.succ_mul a n
    rw [oun]
    split
    · have h2 := inn_le c s t p a (oun c s t n p k a) n
      omega
    · omega
/-- heard tones of a recording -/
def cnT (t : Nat → Int32) (r : Nat) : Nat → Nat
  | 0 => 0
  | p + 1 => if ¬ t (r * 6 + p) = -1 then cnT t r p + 1 else cnT t r p
theorem cnT_le (t : Nat → Int32) (r : Nat) : ∀ p, cnT t r p ≤ p
  | 0 => Nat.le_refl 0
  | p + 1 => by
    have ih := cnT_le t r p
    rw [cnT]
    split <;> omega
/-- whether a speaker is of the set -/
abbrev ofS (set v : Int32) : Prop := ¬ v = -1 ∧ (set >>> (v &&& 31)) &&& nI 1 = nI 1
/-- the class's recordings -/
def Arch (n : Nat) (c : Nat → Nat) (s t : Nat → Int32) (iv : IV) (ar : AR) : Prop := iv 3 = nI n ∧ n ≤ 30 ∧ (∀ k, k < n → ar 0 k = nI (c k) ∧ c k < 4) ∧ (∀ k, k < n → ar 1 k = s k) ∧ (∀ j, j < n * 6 → ar 2 j = t j)
theorem Arch.keep {n : Nat} {c : Nat → Nat} {s t : Nat → Int32} {iv iv2 : IV} {ar ar2 : AR} (h : Arch n c s t iv ar) (h3 : iv2 3 = iv 3) (a0 : ar2 0 = ar 0) (a1 : ar2 1 = ar 1) (a2 : ar2 2 = ar 2) : Arch n c s t iv2 ar2 := by
  obtain ⟨h1, h2, h4, h5, h6⟩ := h
  exact ⟨by rw [h3]; exact h1, h2, by rw [a0]; exact h4, by rw [a1]; exact h5, by rw [a2]; exact h6⟩
theorem Arch.le {n : Nat} {c : Nat → Nat} {s t : Nat → Int32} {iv : IV} {ar : AR} (h : Arch n c s t iv ar) : n ≤ 30 := h.2.1
theorem Arch.lt {n : Nat} {c : Nat → Nat} {s t : Nat → Int32} {iv : IV} {ar : AR} (h : Arch n c s t iv ar) {k : Nat} (hk : k < n) : c k < 4 := (h.2.2.1 k hk).2
end
section
set_option maxHeartbeats 4000000 in
theorem c_J9_abs_0f7a4 {l : Launch} {D : va_G} {cI : ClassId} {wf : WF} {iv : IV} {ar : AR} (hwf : wfOk wf) {x : Int32} : Ct l D cI wf yJ9_abs_0f7a4 cJ9_abs_0f7a4 1 (some .int) 0 0 [.int x] iv ar (rI (iabs x) iv ar) := by
  refine Ct.of (lv := [some (.int x)]) hwf (by decide +kernel) (Nat.le_of_ble_eq_true rfl) 0 rfl rfl (fun Z F => ?_)
  refine k_iload0 (pc := 0) F dJ9_abs_0f7a4_0 ?_
  refine k_if_ge (pc := 1) (tgt := 9) F dJ9_abs_0f7a4_1 (by decide) (fun h1 => ?_) (fun h1 => ?_)
  · refine k_iload0 (pc := 9) F dJ9_abs_0f7a4_9 ?_
    refine k_iret (pc := 10) F dJ9_abs_0f7a4_10 ?_
    exact ⟨by first | rw [iabs, if_neg (fun q => absurd (i_le 0 x |>.mp h1) (by have := (i_lt x 0).mp q; omega))] | rw [iabs, if_pos (by rw [i_lt]; rw [i_le] at h1; omega)], rfl, rfl⟩
  · refine k_iload0 (pc := 4) F dJ9_abs_0f7a4_4 ?_
    refine k_ineg (pc := 5) F dJ9_abs_0f7a4_5 ?_
    refine k_goto (pc := 6) (tgt := 10) F dJ9_abs_0f7a4_6 (by decide) ?_
    refine k_iret (pc := 10) F dJ9_abs_0f7a4_10 ?_
    exact ⟨by first | rw [iabs, if_neg (fun q => absurd (i_le 0 x |>.mp h1) (by have := (i_lt x 0).mp q; omega))] | rw [iabs, if_pos (by rw [i_lt]; rw [i_le] at h1; omega)], rfl, rfl⟩

set_option maxHeartbeats 4000000 in
theorem c_J9_min_7cf53 {l : Launch} {D : va_G} {cI : ClassId} {wf : WF} {iv : IV} {ar : AR} (hwf : wfOk wf) {x y : Int32} : Ct l D cI wf yJ9_min_7cf53 cJ9_min_7cf53 2 (some .int) 0 0 [.int x, .int y] iv ar (rI (if y < x then y else x) iv ar) := by
  refine Ct.of (lv := [some (.int x), some (.int y)]) hwf (by decide +kernel) (Nat.le_of_ble_eq_true rfl) 0 rfl rfl (fun Z F => ?_)
  refine k_iload0 (pc := 0) F dJ9_min_7cf53_0 ?_
  refine k_iload1 (pc := 1) F dJ9_min_7cf53_1 ?_
  refine k_icmp_gt (pc := 2) (tgt := 9) F dJ9_min_7cf53_2 (by decide) (fun h2 => ?_) (fun h2 => ?_)
  · refine k_iload1 (pc := 9) F dJ9_min_7cf53_9 ?_
    refine k_iret (pc := 10) F dJ9_min_7cf53_10 ?_
    exact ⟨by first | rw [if_pos h2] | rw [if_neg h2], rfl, rfl⟩
  · refine k_iload0 (pc := 5) F dJ9_min_7cf53_5 ?_
    refine k_goto (pc := 6) (tgt := 10) F dJ9_min_7cf53_6 (by decide) ?_
    refine k_iret (pc := 10) F dJ9_min_7cf53_10 ?_
    exact ⟨by first | rw [if_pos h2] | rw [if_neg h2], rfl, rfl⟩

set_option maxHeartbeats 4000000 in
theorem c_J9_floorDiv_7cf53 {l : Launch} {D : va_G} {cI : ClassId} {wf : WF} {iv : IV} {ar : AR} (hwf : wfOk wf) {x y : Int32} (hy : ¬ y = 0) : Ct l D cI wf yJ9_floorDiv_7cf53 cJ9_floorDiv_7cf53 3 (some .int) 0 0 [.int x, .int y] iv ar (rI (fdv x y) iv ar) := by
  refine Ct.of (lv := [some (.int x), some (.int y), none]) hwf (by decide +kernel) (Nat.le_of_ble_eq_true rfl) 1 rfl rfl (fun Z F => ?_)
  refine k_iload0 (pc := 0) F dJ9_floorDiv_7cf53_0 ?_
  refine k_iload1 (pc := 1) F dJ9_floorDiv_7cf53_1 ?_
  refine k_idiv (pc := 2) F dJ9_floorDiv_7cf53_2 hy ?_
  refine k_istore2 (pc := 3) F (by decide) dJ9_floorDiv_7cf53_3 ?_
  refine k_iload0 (pc := 4) F dJ9_floorDiv_7cf53_4 ?_
  refine k_iload1 (pc := 5) F dJ9_floorDiv_7cf53_5 ?_
  refine k_ixor (pc := 6) F dJ9_floorDiv_7cf53_6 ?_
  refine k_if_ge (pc := 7) (tgt := 21) F dJ9_floorDiv_7cf53_7 (by decide) (fun h7 => ?_) (fun h7 => ?_)
  · refine k_iload2 (pc := 21) F dJ9_floorDiv_7cf53_21 ?_
    refine k_iret (pc := 22) F dJ9_floorDiv_7cf53_22 ?_
    exact ⟨by rw [fdv, if_neg (fun q => by first | exact q.2 h14 | (have q1 := q.1; rw [i_lt] at q1; rw [i_le] at h7; omega))], rfl, rfl⟩
  · refine k_iload2 (pc := 10) F dJ9_floorDiv_7cf53_10 ?_
    refine k_iload1 (pc := 11) F dJ9_floorDiv_7cf53_11 ?_
    refine k_imul (pc := 12) F dJ9_floorDiv_7cf53_12 ?_
    refine k_iload0 (pc := 13) F dJ9_floorDiv_7cf53_13 ?_
    refine k_icmp_eq (pc := 14) (tgt := 21) F dJ9_floorDiv_7cf53_14 (by decide) (fun h14 => ?_) (fun h14 => ?_)
    · refine k_iload2 (pc := 21) F dJ9_floorDiv_7cf53_21 ?_
      refine k_iret (pc := 22) F dJ9_floorDiv_7cf53_22 ?_
      exact ⟨by rw [fdv, if_neg (fun q => by first | exact q.2 h14 | (have q1 := q.1; rw [i_lt] at q1; rw [i_le] at h7; omega))], rfl, rfl⟩
    · refine k_iload2 (pc := 17) F dJ9_floorDiv_7cf53_17 ?_
      refine k_iconst (pc := 18) (v := nI 1) F dJ9_floorDiv_7cf53_18 (by decide) ?_
      refine k_isub (pc := 19) F dJ9_floorDiv_7cf53_19 ?_
      refine k_iret (pc := 20) F dJ9_floorDiv_7cf53_20 ?_
      exact ⟨by rw [fdv, if_pos ⟨by rw [i_lt]; rw [i_le] at h7; omega, h14⟩]; rfl, rfl, rfl⟩

set_option maxHeartbeats 4000000 in
theorem c_X0_isFull {l : Launch} {D : va_G} {cI : ClassId} {ad : Nat → Nat} {iv : IV} {ar : AR} {n : Nat} (hn : iv 3 = nI n) (hle : n ≤ 30) : Ct l D cI (cw cI ad) yX0_isFull cX0_isFull 1 (some .boolean) 0 0 [.ref (ad 1)] iv ar (rI (bI (30 ≤ n)) iv ar) := by
  refine Ct.of (lv := [some (.ref (ad 1))]) cw_ok (plainFor_of_name (by decide)) (Nat.le_of_ble_eq_true rfl) 0 rfl rfl (fun Z F => ?_)
  refine k_aload0 (pc := 0) F dX0_isFull_0 ?_
  refine g_X0_size (pc := 1) F (hn) dX0_isFull_1 ?_
  refine k_bipush (pc := 4) (v := nI 30) F dX0_isFull_4 (by decide) ?_
  refine k_icmp_ltN (pc := 6) (tgt := 13) F dX0_isFull_6 (by decide) (by omega) (by omega) (fun h6 => ?_) (fun h6 => ?_)
  · refine k_iconst (pc := 13) (v := nI 0) F dX0_isFull_13 (by decide) ?_
    refine k_zret (pc := 14) F dX0_isFull_14 (by decide) ?_
    exact ret0 (by omega)
  · refine k_iconst (pc := 9) (v := nI 1) F dX0_isFull_9 (by decide) ?_
    refine k_goto (pc := 10) (tgt := 14) F dX0_isFull_10 (by decide) ?_
    refine k_zret (pc := 14) F dX0_isFull_14 (by decide) ?_
    exact ret1 (by omega)

set_option maxHeartbeats 4000000 in
theorem c_X0_has {l : Launch} {D : va_G} {cI : ClassId} {ad : Nat → Nat} {iv : IV} {ar : AR} {n : Nat} {r : Int32} (hn : iv 3 = nI n) (hle : n ≤ 30) : Ct l D cI (cw cI ad) yX0_has cX0_has 2 (some .boolean) 0 0 [.ref (ad 1), .int r] iv ar (rI (bI (0 ≤ r.toInt ∧ r.toInt < n)) iv ar) := by
  refine Ct.of (lv := [some (.ref (ad 1)), some (.int r)]) cw_ok (plainFor_of_name (by decide)) (Nat.le_of_ble_eq_true rfl) 0 rfl rfl (fun Z F => ?_)
  have zn := nI_toInt (n := n) (by omega)
  have z0 : (0 : Int32).toInt = 0 := rfl
  refine k_iload1 (pc := 0) F dX0_has_0 ?_
  refine k_if_lt (pc := 1) (tgt := 16) F dX0_has_1 (by decide) (fun h1 => ?_) (fun h1 => ?_)
  · refine k_iconst (pc := 16) (v := nI 0) F dX0_has_16 (by decide) ?_
    refine k_zret (pc := 17) F dX0_has_17 (by decide) ?_
    exact ret0 (by (try rw [i_lt] at h1); (try rw [i_le] at h9); omega)
  · refine k_iload1 (pc := 4) F dX0_has_4 ?_
    refine k_aload0 (pc := 5) F dX0_has_5 ?_
    refine g_X0_size (pc := 6) F (hn) dX0_has_6 ?_
    refine k_icmp_ge (pc := 9) (tgt := 16) F dX0_has_9 (by decide) (fun h9 => ?_) (fun h9 => ?_)
    · refine k_iconst (pc := 16) (v := nI 0) F dX0_has_16 (by decide) ?_
      refine k_zret (pc := 17) F dX0_has_17 (by decide) ?_
      exact ret0 (by (try rw [i_lt] at h1); (try rw [i_le] at h9); omega)
    · refine k_iconst (pc := 12) (v := nI 1) F dX0_has_12 (by decide) ?_
      refine k_goto (pc := 13) (tgt := 17) F dX0_has_13 (by decide) ?_
      refine k_zret (pc := 17) F dX0_has_17 (by decide) ?_
      exact ret1 (by (try rw [i_lt] at h1); (try rw [i_le] at h9); omega)

set_option maxHeartbeats 4000000 in
theorem c_X0_add {l : Launch} {D : va_G} {cI : ClassId} {ad : Nat → Nat} {iv : IV} {ar : AR} {n : Nat} {x y : Int32} (hn : iv 3 = nI n) (hle : n < 30) : Ct l D cI (cw cI ad) yX0_add cX0_add 4 (some .int) 0 0 [.ref (ad 1), .int x, .int y] iv ar (rI (nI n) (va_up iv 3 (nI (n + 1))) (va_up (va_up ar 0 (upd (ar 0) n x)) 1 (upd (ar 1) n y))) := by
  refine Ct.of (lv := [some (.ref (ad 1)), some (.int x), some (.int y), none]) cw_ok (plainFor_of_name (by decide)) (Nat.le_of_ble_eq_true rfl) 1 rfl rfl (fun Z F => ?_)
  refine k_aload0 (pc := 0) F dX0_add_0 ?_
  refine g_X0_size (pc := 1) F (hn) dX0_add_1 ?_
  refine k_istore3 (pc := 4) F (by decide) dX0_add_4 ?_
  refine k_aload0 (pc := 5) F dX0_add_5 ?_
  refine g_X0_channels (pc := 6) F dX0_add_6 ?_
  refine k_iload3 (pc := 9) F dX0_add_9 ?_
  refine k_iload1 (pc := 10) F dX0_add_10 ?_
  refine s_c0 (pc := 11) F (by omega) dX0_add_11 ?_
  refine k_aload0 (pc := 12) F dX0_add_12 ?_
  refine g_X0_speakers (pc := 13) F dX0_add_13 ?_
  refine k_iload3 (pc := 16) F dX0_add_16 ?_
  refine k_iload2 (pc := 17) F dX0_add_17 ?_
  refine s_c1 (pc := 18) F (by omega) dX0_add_18 ?_
  refine k_aload0 (pc := 19) F dX0_add_19 ?_
  refine k_dup (pc := 20) F dX0_add_20 rfl ?_
  refine g_X0_size (pc := 21) F (hn) dX0_add_21 ?_
  refine k_iconst (pc := 24) (v := nI 1) F dX0_add_24 (by decide) ?_
  refine k_iaddN (pc := 25) F dX0_add_25 ?_
  refine p_X0_size (pc := 26) F dX0_add_26 ?_
  refine k_iload3 (pc := 29) F dX0_add_29 ?_
  refine k_iret (pc := 30) F dX0_add_30 ?_
  exact ⟨rfl, rfl, rfl⟩

set_option maxHeartbeats 4000000 in
theorem c_X0_isKnown {l : Launch} {D : va_G} {cI : ClassId} {ad : Nat → Nat} {iv : IV} {ar : AR} {k : Nat} (hk : k < 30) : Ct l D cI (cw cI ad) yX0_isKnown cX0_isKnown 2 (some .boolean) 0 0 [.ref (ad 1), .int (nI k)] iv ar (rI (bI (¬ ar 1 k = -1)) iv ar) := by
  refine Ct.of (lv := [some (.ref (ad 1)), some (.int (nI k))]) cw_ok (plainFor_of_name (by decide)) (Nat.le_of_ble_eq_true rfl) 0 rfl rfl (fun Z F => ?_)
  refine k_aload0 (pc := 0) F dX0_isKnown_0 ?_
  refine g_X0_speakers (pc := 1) F dX0_isKnown_1 ?_
  refine k_iload1 (pc := 4) F dX0_isKnown_4 ?_
  refine l_c1 (pc := 5) F (by omega) rfl dX0_isKnown_5 ?_
  refine k_iconst (pc := 6) (v := -1) F dX0_isKnown_6 (by decide) ?_
  refine k_icmp_eq (pc := 7) (tgt := 14) F dX0_isKnown_7 (by decide) (fun h7 => ?_) (fun h7 => ?_)
  · refine k_iconst (pc := 14) (v := nI 0) F dX0_isKnown_14 (by decide) ?_
    refine k_zret (pc := 15) F dX0_isKnown_15 (by decide) ?_
    exact ret0 (by first | exact h7 | exact fun q => q h7)
  · refine k_iconst (pc := 10) (v := nI 1) F dX0_isKnown_10 (by decide) ?_
    refine k_goto (pc := 11) (tgt := 15) F dX0_isKnown_11 (by decide) ?_
    refine k_zret (pc := 15) F dX0_isKnown_15 (by decide) ?_
    exact ret1 (by first | exact h7 | exact fun q => q h7)

set_option maxHeartbeats 4000000 in
theorem c_X0_isOfSet {l : Launch} {D : va_G} {cI : ClassId} {ad : Nat → Nat} {iv : IV} {ar : AR} {k : Nat} {x : Int32} (hk : k < 30) : Ct l D cI (cw cI ad) yX0_isOfSet cX0_isOfSet 3 (some .boolean) 1 21 [.ref (ad 1), .int (nI k), .int x] iv ar (rI (bI (ofS x (ar 1 k))) iv ar) := by
  refine Ct.of (lv := [some (.ref (ad 1)), some (.int (nI k)), some (.int x)]) cw_ok (plainFor_of_name (by decide)) (Nat.le_of_ble_eq_true rfl) 0 rfl rfl (fun Z F => ?_)
  refine k_aload0 (pc := 0) F dX0_isOfSet_0 ?_
  refine k_iload1 (pc := 1) F dX0_isOfSet_1 ?_
  refine k_callV (pc := 2) (q0 := 1) F (c_X0_isKnown (by omega)) ok_X0_31 rfl rfl rfl rfl rfl (by decide) (by decide) (Nat.le_of_ble_eq_true rfl) dX0_isOfSet_2 (rI.use ?_)
  refine k_if_eqB (pc := 5) (tgt := 26) F dX0_isOfSet_5 (by decide) (fun h5 => ?_) (fun h5 => ?_)
  · refine k_iconst (pc := 26) (v := nI 0) F dX0_isOfSet_26 (by decide) ?_
    refine k_zret (pc := 27) F dX0_isOfSet_27 (by decide) ?_
    exact ret0 (by first | exact ⟨h5, h19⟩ | exact fun q => h5 q.1 | exact fun q => h19 q.2)
  · refine k_iload2 (pc := 8) F dX0_isOfSet_8 ?_
    refine k_aload0 (pc := 9) F dX0_isOfSet_9 ?_
    refine g_X0_speakers (pc := 10) F dX0_isOfSet_10 ?_
    refine k_iload1 (pc := 13) F dX0_isOfSet_13 ?_
    refine l_c1 (pc := 14) F (by omega) rfl dX0_isOfSet_14 ?_
    refine k_ishr (pc := 15) F dX0_isOfSet_15 ?_
    refine k_iconst (pc := 16) (v := nI 1) F dX0_isOfSet_16 (by decide) ?_
    refine k_iand (pc := 17) F dX0_isOfSet_17 ?_
    refine k_iconst (pc := 18) (v := nI 1) F dX0_isOfSet_18 (by decide) ?_
    refine k_icmp_ne (pc := 19) (tgt := 26) F dX0_isOfSet_19 (by decide) (fun h19 => ?_) (fun h19 => ?_)
    · refine k_iconst (pc := 26) (v := nI 0) F dX0_isOfSet_26 (by decide) ?_
      refine k_zret (pc := 27) F dX0_isOfSet_27 (by decide) ?_
      exact ret0 (by first | exact ⟨h5, h19⟩ | exact fun q => h5 q.1 | exact fun q => h19 q.2)
    · refine k_iconst (pc := 22) (v := nI 1) F dX0_isOfSet_22 (by decide) ?_
      refine k_goto (pc := 23) (tgt := 27) F dX0_isOfSet_23 (by decide) ?_
      refine k_zret (pc := 27) F dX0_isOfSet_27 (by decide) ?_
      exact ret1 (by first | exact ⟨h5, h19⟩ | exact fun q => h5 q.1 | exact fun q => h19 q.2)

set_option maxHeartbeats 4000000 in
theorem c_X0_countTones {l : Launch} {D : va_G} {cI : ClassId} {ad : Nat → Nat} {iv : IV} {ar : AR} {r : Nat} (hk : r < 30) : Ct l D cI (cw cI ad) yX0_countTones cX0_countTones 4 (some .int) 1 22 [.ref (ad 1), .int (nI r)] iv ar (rI (nI (cnT (ar 2) r 6)) iv ar) := by
  refine Ct.of (lv := [some (.ref (ad 1)), some (.int (nI r)), none, none]) cw_ok (plainFor_of_name (by decide)) (Nat.le_of_ble_eq_true rfl) 2 rfl rfl (fun Z F => ?_)
  refine k_iconst (pc := 0) (v := nI 0) F dX0_countTones_0 (by decide) ?_
  refine k_istore2 (pc := 1) F (by decide) dX0_countTones_1 ?_
  refine k_iconst (pc := 2) (v := nI 0) F dX0_countTones_2 (by decide) ?_
  refine k_istore3 (pc := 3) F (by decide) dX0_countTones_3 ?_
  have L4 : ∀ (fu : Nat) (p : Nat), 6 - p < fu → p ≤ 6 → Z 4 [some (.ref (ad 1)), some (.int (nI r)), some (.int (nI (cnT (ar 2) r p))), some (.int (nI p))] [] iv ar := by
    intro fu
    induction fu with
    | zero => intro p hfu; exact absurd hfu (Nat.not_lt_zero _)
    | succ fu ih =>
      intro p hfu hp
      refine k_iload3 (pc := 4) F dX0_countTones_4 ?_
      refine k_bipush (pc := 5) (v := nI 6) F dX0_countTones_5 (by decide) ?_
      refine k_icmp_geN (pc := 7) (tgt := 29) F dX0_countTones_7 (by decide) (by omega) (by omega) (fun h7 => ?_) (fun h7 => ?_)
      · have e : p = 6 := by omega
        subst e
        refine k_iload2 (pc := 29) F dX0_countTones_29 ?_
        refine k_iret (pc := 30) F dX0_countTones_30 ?_
        exact ⟨rfl, rfl, rfl⟩
      · refine k_aload0 (pc := 10) F dX0_countTones_10 ?_
        refine k_iload1 (pc := 11) F dX0_countTones_11 ?_
        refine k_iload3 (pc := 12) F dX0_countTones_12 ?_
        refine k_callV (pc := 13) (q0 := 1) F (c_X0_toneAt (by omega)) ok_X0_35 rfl rfl rfl rfl rfl (by decide) (by decide) (Nat.le_of_ble_eq_true rfl) dX0_countTones_13 (rI.use ?_)
        refine k_iconst (pc := 16) (v := -1) F dX0_countTones_16 (by decide) ?_
        refine k_icmp_eq (pc := 17) (tgt := 23) F dX0_countTones_17 (by decide) (fun h17 => ?_) (fun h17 => ?_)
        · refine k_iinc3 (pc := 23) F (by decide) dX0_countTones_23 (inc_N _) ?_
          refine k_goto (pc := 26) (tgt := 4) F dX0_countTones_26 (by decide) ?_
          have e : cnT (ar 2) r (p + 1) = cnT (ar 2) r p := if_neg (fun q => q h17)
          have k := ih (p + 1) (by omega) (by omega)
          rw [e] at k
          exact k
        · refine k_iinc2 (pc := 20) F (by decide) dX0_countTones_20 (inc_N _) ?_
          refine k_iinc3 (pc := 23) F (by decide) dX0_countTones_23 (inc_N _) ?_
          refine k_goto (pc := 26) (tgt := 4) F dX0_countTones_26 (by decide) ?_
          have e : cnT (ar 2) r (p + 1) = cnT (ar 2) r p + 1 := if_pos h17
          have k := ih (p + 1) (by omega) (by omega)
          rw [e] at k
          exact k
  exact L4 7 0 (by omega) (by omega)

section AR
variable {l : Launch} {D : va_G} {cI : ClassId} {ad : Nat → Nat} {iv : IV} {ar : AR} {n : Nat} {c : Nat → Nat} {s t : Nat → Int32}
theorem ca_size (hA : Arch n c s t iv ar) : Ct l D cI (cw cI ad) yX0_size cX0_size 1 (some .int) 0 0 [.ref (ad 1)] iv ar (rI (nI n) iv ar) := by
  have h := c_X0_size (l := l) (D := D) (cI := cI) (ad := ad) (iv := iv) (ar := ar)
  rw [hA.1] at h
  exact h
theorem ca_channelOf (hA : Arch n c s t iv ar) {k : Nat} (hk : k < n) : Ct l D cI (cw cI ad) yX0_channelOf cX0_channelOf 2 (some .int) 0 0 [.ref (ad 1), .int (nI k)] iv ar (rI (nI (c k)) iv ar) := by
  have h := c_X0_channelOf (l := l) (D := D) (cI := cI) (ad := ad) (iv := iv) (ar := ar) (k := k) (Nat.lt_of_lt_of_le hk hA.le)
  rw [(hA.2.2.1 k hk).1] at h
  exact h
theorem ca_speakerOf (hA : Arch n c s t iv ar) {k : Nat} (hk : k < n) : Ct l D cI (cw cI ad) yX0_speakerOf cX0_speakerOf 2 (some .int) 0 0 [.ref (ad 1), .int (nI k)] iv ar (rI (s k) iv ar) := by
  have h := c_X0_speakerOf (l := l) (D := D) (cI := cI) (ad := ad) (iv := iv) (ar := ar) (k := k) (Nat.lt_of_lt_of_le hk hA.le)
  rw [hA.2.2.2.1 k hk] at h
  exact h
theorem ca_isKnown (hA : Arch n c s t iv ar) {k : Nat} (hk : k < n) : Ct l D cI (cw cI ad) yX0_isKnown cX0_isKnown 2 (some .boolean) 0 0 [.ref (ad 1), .int (nI k)] iv ar (rI (bI (¬ s k = -1)) iv ar) := by
  have h := c_X0_isKnown (l := l) (D := D) (cI := cI) (ad := ad) (iv := iv) (ar := ar) (k := k) (Nat.lt_of_lt_of_le hk hA.le)
  have e := hA.2.2.2.1 k hk
  have e2 : bI (¬ ar 1 k = -1) = bI (¬ s k = -1) := by simp only [e]
  rw [e2] at h
  exact h
theorem ca_isOfSet (hA : Arch n c s t iv ar) {k : Nat} {x : Int32} (hk : k < n) : Ct l D cI (cw cI ad) yX0_isOfSet cX0_isOfSet 3 (some .boolean) 1 21 [.ref (ad 1), .int (nI k), .int x] iv ar (rI (bI (ofS x (s k))) iv ar) := by
  have h := c_X0_isOfSet (l := l) (D := D) (cI := cI) (ad := ad) (iv := iv) (ar := ar) (k := k) (x := x) (Nat.lt_of_lt_of_le hk hA.le)
  have e := hA.2.2.2.1 k hk
  have e2 : bI (ofS x (ar 1 k)) = bI (ofS x (s k)) := by simp only [e]
  rw [e2] at h
  exact h
theorem ca_toneAt (hA : Arch n c s t iv ar) {k p : Nat} (hk : k < n) (hp : p < 6) : Ct l D cI (cw cI ad) yX0_toneAt cX0_toneAt 3 (some .int) 0 0 [.ref (ad 1), .int (nI k), .int (nI p)] iv ar (rI (t (k * 6 + p)) iv ar) := by
  have hn := hA.le
  have h := c_X0_toneAt (l := l) (D := D) (cI := cI) (ad := ad) (iv := iv) (ar := ar) (r := k) (p := p) (by omega)
  rw [hA.2.2.2.2 (k * 6 + p) (by omega)] at h
  exact h
end AR
set_option maxHeartbeats 4000000 in
theorem c_X6_addPairsOf {l : Launch} {D : va_G} {cI : ClassId} {ad : Nat → Nat} {iv : IV} {ar : AR} {n : Nat} {c : Nat → Nat} {s t : Nat → Int32} (hA : Arch n c s t iv ar) {a p : Nat} (ha : a < n) (hp : p < 6) (z : Nat × Int32) (hz3 : ar 3 (c a * 6 + p) = z.2) (hz4 : ar 4 (c a * 6 + p) = nI z.1) : Ct l D cI (cw cI ad) yX6_addPairsOf cX6_addPairsOf 6 none 1 22 [.ref (ad 2), .int (nI a), .int (nI p)] iv ar (qV (fun iv2 ar2 => iv2 = iv ∧ (∀ k, k ≠ 3 → k ≠ 4 → ar2 k = ar k) ∧ ar2 3 = upd (ar 3) (c a * 6 + p) (inn c s t p a z n).2 ∧ ar2 4 = upd (ar 4) (c a * 6 + p) (nI (inn c s t p a z n).1))) := by
  refine Ct.of (lv := [some (.ref (ad 2)), some (.int (nI a)), some (.int (nI p)), none, none, none]) cw_ok (plainFor_of_name (by decide)) (Nat.le_of_ble_eq_true rfl) 3 rfl rfl (fun Z F => ?_)
  have hn := hA.le
  have hca := hA.lt ha
  refine k_aload0 (pc := 0) F dX6_addPairsOf_0 ?_
  refine g_X6_archive (pc := 1) F dX6_addPairsOf_1 ?_
  refine k_iload1 (pc := 4) F dX6_addPairsOf_4 ?_
  refine k_callV (pc := 5) (q0 := 1) F (ca_channelOf hA (k := a) (by omega)) ok_X6_35 rfl rfl rfl rfl rfl (by decide) (by decide) (Nat.le_of_ble_eq_true rfl) dX6_addPairsOf_5 (rI.use ?_)
  refine k_bipush (pc := 8) (v := nI 6) F dX6_addPairsOf_8 (by decide) ?_
  refine k_imulN (pc := 10) F dX6_addPairsOf_10 ?_
  refine k_iload2 (pc := 11) F dX6_addPairsOf_11 ?_
  refine k_iaddN (pc := 12) F dX6_addPairsOf_12 ?_
  refine k_istore3 (pc := 13) F (by decide) dX6_addPairsOf_13 ?_
  refine k_iconst (pc := 14) (v := nI 0) F dX6_addPairsOf_14 (by decide) ?_
  refine k_istore4 (pc := 15) F (by decide) dX6_addPairsOf_15 ?_
  have L17 : ∀ (fu : Nat) (b : Nat) (ar1 : AR), n - b < fu → b ≤ n → (∀ k, k ≠ 3 → k ≠ 4 → ar1 k = ar k) → ar1 3 = upd (ar 3) (c a * 6 + p) (inn c s t p a z b).2 → ar1 4 = upd (ar 4) (c a * 6 + p) (nI (inn c s t p a z b).1) → Z 17 [some (.ref (ad 2)), some (.int (nI a)), some (.int (nI p)), some (.int (nI (c a * 6 + p))), some (.int (nI b)), none] [] iv ar1 := by
    intro fu
    induction fu with
    | zero => intro b ar1 hfu; exact absurd hfu (Nat.not_lt_zero _)
    | succ fu ih =>
      intro b ar1 hfu hb hfr h3 h4
      have hA1 : Arch n c s t iv ar1 := hA.keep rfl (hfr 0 (by decide) (by decide)) (hfr 1 (by decide) (by decide)) (hfr 2 (by decide) (by decide))
      refine k_iload4 (pc := 17) F dX6_addPairsOf_17 ?_
      refine k_aload0 (pc := 19) F dX6_addPairsOf_19 ?_
      refine g_X6_archive (pc := 20) F dX6_addPairsOf_20 ?_
      refine k_callV (pc := 23) (q0 := 1) F (ca_size hA1) ok_X6_29 rfl rfl rfl rfl rfl (by decide) (by decide) (Nat.le_of_ble_eq_true rfl) dX6_addPairsOf_23 (rI.use ?_)
      refine k_icmp_geN (pc := 26) (tgt := 132) F dX6_addPairsOf_26 (by decide) (by omega) (by omega) (fun h26 => ?_) (fun h26 => ?_)
      · have e : n = b := by omega
        subst e
        refine k_vret (pc := 132) F dX6_addPairsOf_132 ?_
        exact ⟨rfl, rfl, hfr, h3, h4⟩
      · have hcb := hA.lt (show b < n by omega)
        refine k_aload0 (pc := 29) F dX6_addPairsOf_29 ?_
        refine g_X6_archive (pc := 30) F dX6_addPairsOf_30 ?_
        refine k_iload4 (pc := 33) F dX6_addPairsOf_33 ?_
        refine k_callV (pc := 35) (q0 := 1) F (ca_channelOf hA1 (k := b) (by omega)) ok_X6_35 rfl rfl rfl rfl rfl (by decide) (by decide) (Nat.le_of_ble_eq_true rfl) dX6_addPairsOf_35 (rI.use ?_)
        refine k_if_neN (pc := 38) (tgt := 65) F dX6_addPairsOf_38 (by decide) (by omega) (fun h38 => ?_) (fun h38 => ?_)
        · refine k_iconst (pc := 65) (v := nI 0) F dX6_addPairsOf_65 (by decide) ?_
          refine k_istore5 (pc := 66) F (by decide) dX6_addPairsOf_66 ?_
          refine k_iload5 (pc := 68) F dX6_addPairsOf_68 ?_
          refine k_if_eq (pc := 70) (tgt := 126) F dX6_addPairsOf_70 (by decide) (fun _ => ?_) (fun h => absurd h (by decide))
          refine k_iinc4 (pc := 126) F (by decide) dX6_addPairsOf_126 (inc_N _) ?_
          refine k_goto (pc := 129) (tgt := 17) F dX6_addPairsOf_129 (by decide) ?_
          refine k_fg5 (pc := 17) F ?_
          have e : inn c s t p a z (b + 1) = inn c s t p a z b := if_neg (fun q => by first | exact h38 q.1 | exact h58 q.2.1 | exact q.2.2 h84)
          exact ih (b + 1) ar1 (by omega) (by omega) hfr (by rw [e]; exact h3) (by rw [e]; exact h4)
        · refine k_aload0 (pc := 41) F dX6_addPairsOf_41 ?_
          refine g_X6_archive (pc := 42) F dX6_addPairsOf_42 ?_
          refine k_iload4 (pc := 45) F dX6_addPairsOf_45 ?_
          refine k_callV (pc := 47) (q0 := 1) F (ca_speakerOf hA1 (k := b) (by omega)) ok_X6_56 rfl rfl rfl rfl rfl (by decide) (by decide) (Nat.le_of_ble_eq_true rfl) dX6_addPairsOf_47 (rI.use ?_)
          refine k_aload0 (pc := 50) F dX6_addPairsOf_50 ?_
          refine g_X6_archive (pc := 51) F dX6_addPairsOf_51 ?_
          refine k_iload1 (pc := 54) F dX6_addPairsOf_54 ?_
          refine k_callV (pc := 55) (q0 := 1) F (ca_speakerOf hA1 (k := a) (by omega)) ok_X6_56 rfl rfl rfl rfl rfl (by decide) (by decide) (Nat.le_of_ble_eq_true rfl) dX6_addPairsOf_55 (rI.use ?_)
          refine k_icmp_ne (pc := 58) (tgt := 65) F dX6_addPairsOf_58 (by decide) (fun h58 => ?_) (fun h58 => ?_)
          · refine k_iconst (pc := 65) (v := nI 0) F dX6_addPairsOf_65 (by decide) ?_
            refine k_istore5 (pc := 66) F (by decide) dX6_addPairsOf_66 ?_
            refine k_iload5 (pc := 68) F dX6_addPairsOf_68 ?_
            refine k_if_eq (pc := 70) (tgt := 126) F dX6_addPairsOf_70 (by decide) (fun _ => ?_) (fun h => absurd h (by decide))
            refine k_iinc4 (pc := 126) F (by decide) dX6_addPairsOf_126 (inc_N _) ?_
            refine k_goto (pc := 129) (tgt := 17) F dX6_addPairsOf_129 (by decide) ?_
            refine k_fg5 (pc := 17) F ?_
            have e : inn c s t p a z (b + 1) = inn c s t p a z b := if_neg (fun q => by first | exact h38 q.1 | exact h58 q.2.1 | exact q.2.2 h84)
            exact ih (b + 1) ar1 (by omega) (by omega) hfr (by rw [e]; exact h3) (by rw [e]; exact h4)
          · refine k_iconst (pc := 61) (v := nI 1) F dX6_addPairsOf_61 (by decide) ?_
            refine k_goto (pc := 62) (tgt := 66) F dX6_addPairsOf_62 (by decide) ?_
            refine k_istore5 (pc := 66) F (by decide) dX6_addPairsOf_66 ?_
            refine k_iload5 (pc := 68) F dX6_addPairsOf_68 ?_
            refine k_if_eq (pc := 70) (tgt := 126) F dX6_addPairsOf_70 (by decide) (fun h => absurd h (by decide)) (fun _ => ?_)
            refine k_aload0 (pc := 73) F dX6_addPairsOf_73 ?_
            refine g_X6_archive (pc := 74) F dX6_addPairsOf_74 ?_
            refine k_iload4 (pc := 77) F dX6_addPairsOf_77 ?_
            refine k_iload2 (pc := 79) F dX6_addPairsOf_79 ?_
            refine k_callV (pc := 80) (q0 := 1) F (ca_toneAt hA1 (k := b) (p := p) (by omega) (by omega)) ok_X6_43 rfl rfl rfl rfl rfl (by decide) (by decide) (Nat.le_of_ble_eq_true rfl) dX6_addPairsOf_80 (rI.use ?_)
            refine k_iconst (pc := 83) (v := -1) F dX6_addPairsOf_83 (by decide) ?_
            refine k_icmp_eq (pc := 84) (tgt := 126) F dX6_addPairsOf_84 (by decide) (fun h84 => ?_) (fun h84 => ?_)
            · refine k_iinc4 (pc := 126) F (by decide) dX6_addPairsOf_126 (inc_N _) ?_
              refine k_goto (pc := 129) (tgt := 17) F dX6_addPairsOf_129 (by decide) ?_
              refine k_fg5 (pc := 17) F ?_
              have e : inn c s t p a z (b + 1) = inn c s t p a z b := if_neg (fun q => by first | exact h38 q.1 | exact h58 q.2.1 | exact q.2.2 h84)
              exact ih (b + 1) ar1 (by omega) (by omega) hfr (by rw [e]; exact h3) (by rw [e]; exact h4)
            · refine k_aload0 (pc := 87) F dX6_addPairsOf_87 ?_
              refine g_X6_sums (pc := 88) F dX6_addPairsOf_88 ?_
              refine k_iload3 (pc := 91) F dX6_addPairsOf_91 ?_
              refine k_dup2 (pc := 92) F dX6_addPairsOf_92 rfl rfl ?_
              refine l_c3 (pc := 93) F (by omega) (show ar1 3 (c a * 6 + p) = (inn c s t p a z b).2 from by rw [h3]; exact upd_at) dX6_addPairsOf_93 ?_
              refine k_aload0 (pc := 94) F dX6_addPairsOf_94 ?_
              refine g_X6_archive (pc := 95) F dX6_addPairsOf_95 ?_
              refine k_iload1 (pc := 98) F dX6_addPairsOf_98 ?_
              refine k_iload2 (pc := 99) F dX6_addPairsOf_99 ?_
              refine k_callV (pc := 100) (q0 := 1) F (ca_toneAt hA1 (k := a) (p := p) (by omega) (by omega)) ok_X6_43 rfl rfl rfl rfl rfl (by decide) (by decide) (Nat.le_of_ble_eq_true rfl) dX6_addPairsOf_100 (rI.use ?_)
              refine k_aload0 (pc := 103) F dX6_addPairsOf_103 ?_
              refine g_X6_archive (pc := 104) F dX6_addPairsOf_104 ?_
              refine k_iload4 (pc := 107) F dX6_addPairsOf_107 ?_
              refine k_iload2 (pc := 109) F dX6_addPairsOf_109 ?_
              refine k_callV (pc := 110) (q0 := 1) F (ca_toneAt hA1 (k := b) (p := p) (by omega) (by omega)) ok_X6_43 rfl rfl rfl rfl rfl (by decide) (by decide) (Nat.le_of_ble_eq_true rfl) dX6_addPairsOf_110 (rI.use ?_)
              refine k_isub (pc := 113) F dX6_addPairsOf_113 ?_
              refine k_iadd (pc := 114) F dX6_addPairsOf_114 ?_
              refine s_c3 (pc := 115) F (by omega) dX6_addPairsOf_115 ?_
              refine k_aload0 (pc := 116) F dX6_addPairsOf_116 ?_
              refine g_X6_pairs (pc := 117) F dX6_addPairsOf_117 ?_
              refine k_iload3 (pc := 120) F dX6_addPairsOf_120 ?_
              refine k_dup2 (pc := 121) F dX6_addPairsOf_121 rfl rfl ?_
              refine l_c4 (pc := 122) F (by omega) ((congrFun ((up_n (by decide)).trans (rfl)) _).trans (show ar1 4 (c a * 6 + p) = nI (inn c s t p a z b).1 from by rw [h4]; exact upd_at)) dX6_addPairsOf_122 ?_
              refine k_iconst (pc := 123) (v := nI 1) F dX6_addPairsOf_123 (by decide) ?_
              refine k_iaddN (pc := 124) F dX6_addPairsOf_124 ?_
              refine s_c4 (pc := 125) F (by omega) dX6_addPairsOf_125 ?_
              refine k_iinc4 (pc := 126) F (by decide) dX6_addPairsOf_126 (inc_N _) ?_
              refine k_goto (pc := 129) (tgt := 17) F dX6_addPairsOf_129 (by decide) ?_
              refine k_fg5 (pc := 17) F ?_
              have e : inn c s t p a z (b + 1) = (((inn c s t p a z b).1 + 1), (inn c s t p a z b).2 + (t (a * 6 + p) - t (b * 6 + p))) := if_pos ⟨h38, h58, h84⟩
              refine ih (b + 1) _ (by omega) (by omega) (fun k k3 k4 => ?_) ?_ ?_
              · rw [up_n k4, up_n k3]; exact hfr k k3 k4
              · rw [up_n (by decide), up_s, h3, upd_u, e]
              · rw [up_s, up_n (by decide), h4, upd_u, e]
  exact L17 (n + 1) 0 ar (by omega) (by omega) (fun _ _ _ => rfl) (by show _ = upd (ar 3) (c a * 6 + p) z.2; rw [← hz3, upd_id]) (by show _ = upd (ar 4) (c a * 6 + p) (nI z.1); rw [← hz4, upd_id])

set_option maxHeartbeats 4000000 in
theorem c_X4_between {l : Launch} {D : va_G} {cI : ClassId} {ad : Nat → Nat} {iv : IV} {ar : AR} {n : Nat} {c : Nat → Nat} {s t : Nat → Int32} (hA : Arch n c s t iv ar) {a b : Nat} (ha : a < n) (hb : b < n) : Ct l D cI (cw cI ad) yX4_between cX4_between 10 (some .int) 1 22 [.ref (ad 3), .int (nI a), .int (nI b)] iv ar (rI (sco c t (ar 5) a b) iv ar) := by
  refine Ct.of (lv := [some (.ref (ad 3)), some (.int (nI a)), some (.int (nI b)), none, none, none, none, none, none, none]) cw_ok (plainFor_of_name (by decide)) (Nat.le_of_ble_eq_true rfl) 7 rfl rfl (fun Z F => ?_)
  have hn := hA.le
  have hca := hA.lt ha
  have hcb := hA.lt hb
  refine k_iconst (pc := 0) (v := nI 0) F dX4_between_0 (by decide) ?_
  refine k_istore3 (pc := 1) F (by decide) dX4_between_1 ?_
  refine k_iconst (pc := 2) (v := nI 0) F dX4_between_2 (by decide) ?_
  refine k_istore4 (pc := 3) F (by decide) dX4_between_3 ?_
  refine k_iconst (pc := 5) (v := nI 0) F dX4_between_5 (by decide) ?_
  refine k_istore5 (pc := 6) F (by decide) dX4_between_6 ?_
  have L8 : ∀ (fu : Nat) (p : Nat), 6 - p < fu → p ≤ 6 → Z 8 [some (.ref (ad 3)), some (.int (nI a)), some (.int (nI b)), some (.int (scw c t (ar 5) a b p).2), some (.int (nI (scw c t (ar 5) a b p).1)), some (.int (nI p)), none, none, none, none] [] iv ar := by
    intro fu
    induction fu with
    | zero => intro p hfu; exact absurd hfu (Nat.not_lt_zero _)
    | succ fu ih =>
      intro p hfu hp
      refine k_iload5 (pc := 8) F dX4_between_8 ?_
      refine k_bipush (pc := 10) (v := nI 6) F dX4_between_10 (by decide) ?_
      refine k_icmp_geN (pc := 12) (tgt := 115) F dX4_between_12 (by decide) (by omega) (by omega) (fun h12 => ?_) (fun h12 => ?_)
      · have e : p = 6 := by omega
        subst e
        have hle := scw_le c t (ar 5) a b 6
        refine k_iload4 (pc := 115) F dX4_between_115 ?_
        refine k_iconst (pc := 117) (v := nI 3) F dX4_between_117 (by decide) ?_
        refine k_icmp_geN (pc := 118) (tgt := 125) F dX4_between_118 (by decide) (by omega) (by omega) (fun h118 => ?_) (fun h118 => ?_)
        · refine k_iload3 (pc := 125) F dX4_between_125 ?_
          refine k_bipush (pc := 126) (v := nI 6) F dX4_between_126 (by decide) ?_
          refine k_imul (pc := 128) F dX4_between_128 ?_
          refine k_iload4 (pc := 129) F dX4_between_129 ?_
          refine k_idiv (pc := 131) F dX4_between_131 (nI_ne0 (by omega) (by omega)) ?_
          refine k_iret (pc := 132) F dX4_between_132 ?_
          exact ⟨by first | rw [sco, if_neg (by omega)] | rw [sco, if_pos (by omega)], rfl, rfl⟩
        · refine k_iconst (pc := 121) (v := -1) F dX4_between_121 (by decide) ?_
          refine k_goto (pc := 122) (tgt := 132) F dX4_between_122 (by decide) ?_
          refine k_iret (pc := 132) F dX4_between_132 ?_
          exact ⟨by first | rw [sco, if_neg (by omega)] | rw [sco, if_pos (by omega)], rfl, rfl⟩
      · refine k_aload0 (pc := 15) F dX4_between_15 ?_
        refine g_X4_archive (pc := 16) F dX4_between_16 ?_
        refine k_iload1 (pc := 19) F dX4_between_19 ?_
        refine k_iload5 (pc := 20) F dX4_between_20 ?_
        refine k_callV (pc := 22) (q0 := 1) F (ca_toneAt hA (k := a) (p := p) (by omega) (by omega)) ok_X4_19 rfl rfl rfl rfl rfl (by decide) (by decide) (Nat.le_of_ble_eq_true rfl) dX4_between_22 (rI.use ?_)
        refine k_istore6 (pc := 25) F (by decide) dX4_between_25 ?_
        refine k_aload0 (pc := 27) F dX4_between_27 ?_
        refine g_X4_archive (pc := 28) F dX4_between_28 ?_
        refine k_iload2 (pc := 31) F dX4_between_31 ?_
        refine k_iload5 (pc := 32) F dX4_between_32 ?_
        refine k_callV (pc := 34) (q0 := 1) F (ca_toneAt hA (k := b) (p := p) (by omega) (by omega)) ok_X4_19 rfl rfl rfl rfl rfl (by decide) (by decide) (Nat.le_of_ble_eq_true rfl) dX4_between_34 (rI.use ?_)
        refine k_istore7 (pc := 37) F (by decide) dX4_between_37 ?_
        refine k_iload6 (pc := 39) F dX4_between_39 ?_
        refine k_iconst (pc := 41) (v := -1) F dX4_between_41 (by decide) ?_
        refine k_icmp_eq (pc := 42) (tgt := 109) F dX4_between_42 (by decide) (fun h42 => ?_) (fun h42 => ?_)
        · refine k_iinc5 (pc := 109) F (by decide) dX4_between_109 (inc_N _) ?_
          refine k_goto (pc := 112) (tgt := 8) F dX4_between_112 (by decide) ?_
          refine k_fg6 (pc := 8) F ?_
          refine k_fg7 (pc := 8) F ?_
          have e : scw c t (ar 5) a b (p + 1) = scw c t (ar 5) a b p := if_neg (fun q => by first | exact q.1 h42 | exact q.2 h48)
          have k := ih (p + 1) (by omega) (by omega)
          rw [e] at k
          exact k
        · refine k_iload7 (pc := 45) F dX4_between_45 ?_
          refine k_iconst (pc := 47) (v := -1) F dX4_between_47 (by decide) ?_
          refine k_icmp_eq (pc := 48) (tgt := 109) F dX4_between_48 (by decide) (fun h48 => ?_) (fun h48 => ?_)
          · refine k_iinc5 (pc := 109) F (by decide) dX4_between_109 (inc_N _) ?_
            refine k_goto (pc := 112) (tgt := 8) F dX4_between_112 (by decide) ?_
            refine k_fg6 (pc := 8) F ?_
            refine k_fg7 (pc := 8) F ?_
            have e : scw c t (ar 5) a b (p + 1) = scw c t (ar 5) a b p := if_neg (fun q => by first | exact q.1 h42 | exact q.2 h48)
            have k := ih (p + 1) (by omega) (by omega)
            rw [e] at k
            exact k
          · refine k_iload6 (pc := 51) F dX4_between_51 ?_
            refine k_aload0 (pc := 53) F dX4_between_53 ?_
            refine g_X4_shifts (pc := 54) F dX4_between_54 ?_
            refine k_aload0 (pc := 57) F dX4_between_57 ?_
            refine g_X4_archive (pc := 58) F dX4_between_58 ?_
            refine k_iload1 (pc := 61) F dX4_between_61 ?_
            refine k_callV (pc := 62) (q0 := 1) F (ca_channelOf hA (k := a) (by omega)) ok_X4_25 rfl rfl rfl rfl rfl (by decide) (by decide) (Nat.le_of_ble_eq_true rfl) dX4_between_62 (rI.use ?_)
            refine k_iload5 (pc := 65) F dX4_between_65 ?_
            refine k_callV (pc := 67) (q0 := 2) F (c_X6_at (k := (c a)) (p := p) (by omega)) ok_X4_29 rfl rfl rfl rfl rfl (by decide) (by decide) (Nat.le_of_ble_eq_true rfl) dX4_between_67 (rI.use ?_)
            refine k_isub (pc := 70) F dX4_between_70 ?_
            refine k_istore8 (pc := 71) F (by decide) dX4_between_71 ?_
            refine k_iload7 (pc := 73) F dX4_between_73 ?_
            refine k_aload0 (pc := 75) F dX4_between_75 ?_
            refine g_X4_shifts (pc := 76) F dX4_between_76 ?_
            refine k_aload0 (pc := 79) F dX4_between_79 ?_
            refine g_X4_archive (pc := 80) F dX4_between_80 ?_
            refine k_iload2 (pc := 83) F dX4_between_83 ?_
            refine k_callV (pc := 84) (q0 := 1) F (ca_channelOf hA (k := b) (by omega)) ok_X4_25 rfl rfl rfl rfl rfl (by decide) (by decide) (Nat.le_of_ble_eq_true rfl) dX4_between_84 (rI.use ?_)
            refine k_iload5 (pc := 87) F dX4_between_87 ?_
            refine k_callV (pc := 89) (q0 := 2) F (c_X6_at (k := (c b)) (p := p) (by omega)) ok_X4_29 rfl rfl rfl rfl rfl (by decide) (by decide) (Nat.le_of_ble_eq_true rfl) dX4_between_89 (rI.use ?_)
            refine k_isub (pc := 92) F dX4_between_92 ?_
            refine k_istore9 (pc := 93) F (by decide) dX4_between_93 ?_
            refine k_iload3 (pc := 95) F dX4_between_95 ?_
            refine k_iload8 (pc := 96) F dX4_between_96 ?_
            refine k_iload9 (pc := 98) F dX4_between_98 ?_
            refine k_isub (pc := 100) F dX4_between_100 ?_
            refine k_callS (pc := 101) F (c_J9_abs_0f7a4 cw_ok) ok_X4_34 rfl rfl (by decide) (by decide) (Nat.le_of_ble_eq_true rfl) dX4_between_101 (rI.use ?_)
            refine k_iadd (pc := 104) F dX4_between_104 ?_
            refine k_istore3 (pc := 105) F (by decide) dX4_between_105 ?_
            refine k_iinc4 (pc := 106) F (by decide) dX4_between_106 (inc_N _) ?_
            refine k_iinc5 (pc := 109) F (by decide) dX4_between_109 (inc_N _) ?_
            refine k_goto (pc := 112) (tgt := 8) F dX4_between_112 (by decide) ?_
            refine k_fg6 (pc := 8) F ?_
            refine k_fg7 (pc := 8) F ?_
            refine k_fg8 (pc := 8) F ?_
            refine k_fg9 (pc := 8) F ?_
            have e : scw c t (ar 5) a b (p + 1) = (((scw c t (ar 5) a b p).1 + 1), (scw c t (ar 5) a b p).2 + iabs ((t (a * 6 + p) - ar 5 (c a * 6 + p)) - (t (b * 6 + p) - ar 5 (c b * 6 + p)))) := if_pos ⟨h42, h48⟩
            have k := ih (p + 1) (by omega) (by omega)
            rw [e] at k
            exact k
  exact L8 7 0 (by omega) (by omega)

set_option maxHeartbeats 4000000 in
theorem c_X6_isUnheard {l : Launch} {D : va_G} {cI : ClassId} {ad : Nat → Nat} {iv : IV} {ar : AR} {k p : Nat} (hk : k < 4) (hp : p < 6) : Ct l D cI (cw cI ad) yX6_isUnheard cX6_isUnheard 3 (some .boolean) 0 0 [.ref (ad 2), .int (nI k), .int (nI p)] iv ar (rI (bI (¬ k = 0 ∧ ar 4 (k * 6 + p) = 0)) iv ar) := by
  refine Ct.of (lv := [some (.ref (ad 2)), some (.int (nI k)), some (.int (nI p))]) cw_ok (plainFor_of_name (by decide)) (Nat.le_of_ble_eq_true rfl) 0 rfl rfl (fun Z F => ?_)
  refine k_iload1 (pc := 0) F dX6_isUnheard_0 ?_
  refine k_if_eqN (pc := 1) (tgt := 22) F dX6_isUnheard_1 (by decide) (by omega) (fun h1 => ?_) (fun h1 => ?_)
  · refine k_iconst (pc := 22) (v := nI 0) F dX6_isUnheard_22 (by decide) ?_
    refine k_zret (pc := 23) F dX6_isUnheard_23 (by decide) ?_
    exact ret0 (by first | exact ⟨h1, h15⟩ | exact fun q => q.1 h1 | exact fun q => h15 q.2)
  · refine k_aload0 (pc := 4) F dX6_isUnheard_4 ?_
    refine g_X6_pairs (pc := 5) F dX6_isUnheard_5 ?_
    refine k_iload1 (pc := 8) F dX6_isUnheard_8 ?_
    refine k_bipush (pc := 9) (v := nI 6) F dX6_isUnheard_9 (by decide) ?_
    refine k_imulN (pc := 11) F dX6_isUnheard_11 ?_
    refine k_iload2 (pc := 12) F dX6_isUnheard_12 ?_
    refine k_iaddN (pc := 13) F dX6_isUnheard_13 ?_
    refine l_c4 (pc := 14) F (by omega) rfl dX6_isUnheard_14 ?_
    refine k_if_ne (pc := 15) (tgt := 22) F dX6_isUnheard_15 (by decide) (fun h15 => ?_) (fun h15 => ?_)
    · refine k_iconst (pc := 22) (v := nI 0) F dX6_isUnheard_22 (by decide) ?_
      refine k_zret (pc := 23) F dX6_isUnheard_23 (by decide) ?_
      exact ret0 (by first | exact ⟨h1, h15⟩ | exact fun q => q.1 h1 | exact fun q => h15 q.2)
    · refine k_iconst (pc := 18) (v := nI 1) F dX6_isUnheard_18 (by decide) ?_
      refine k_goto (pc := 19) (tgt := 23) F dX6_isUnheard_19 (by decide) ?_
      refine k_zret (pc := 23) F dX6_isUnheard_23 (by decide) ?_
      exact ret1 (by first | exact ⟨h1, h15⟩ | exact fun q => q.1 h1 | exact fun q => h15 q.2)

set_option maxHeartbeats 4000000 in
theorem c_X6_measure {l : Launch} {D : va_G} {cI : ClassId} {ad : Nat → Nat} {iv : IV} {ar : AR} {n : Nat} {c : Nat → Nat} {s t : Nat → Int32} (hA : Arch n c s t iv ar) {p : Nat} (hp : p < 6) : Ct l D cI (cw cI ad) yX6_measure cX6_measure 4 none 2 47 [.ref (ad 2), .int (nI p)] iv ar (qV (fun iv2 ar2 => iv2 = iv ∧ (∀ k, k ≠ 3 → k ≠ 4 → k ≠ 5 → ar2 k = ar k) ∧ (∀ k, 1 ≤ k → k < 4 → ar2 4 (k * 6 + p) = nI (oun c s t n p k n).1 ∧ ar2 5 (k * 6 + p) = mean (oun c s t n p k n)) ∧ (∀ j, (∀ k, 1 ≤ k → k < 4 → j ≠ k * 6 + p) → ar2 4 j = ar 4 j ∧ ar2 5 j = ar 5 j))) := by
  refine Ct.of (lv := [some (.ref (ad 2)), some (.int (nI p)), none, none]) cw_ok (plainFor_of_name (by decide)) (Nat.le_of_ble_eq_true rfl) 2 rfl rfl (fun Z F => ?_)
  have hn := hA.le
  refine k_iconst (pc := 0) (v := nI 1) F dX6_measure_0 (by decide) ?_
  refine k_istore2 (pc := 1) F (by decide) dX6_measure_1 ?_
  have L2 : ∀ (fu : Nat) (k : Nat) (ar1 : AR), 4 - k < fu → 1 ≤ k → k ≤ 4 → (∀ k, k ≠ 3 → k ≠ 4 → k ≠ 5 → ar1 k = ar k) → (∀ i, 1 ≤ i → i < k → ar1 3 (i * 6 + p) = nI 0 ∧ ar1 4 (i * 6 + p) = nI 0) → (∀ j, (∀ k, 1 ≤ k → k < 4 → j ≠ k * 6 + p) → ar1 4 j = ar 4 j ∧ ar1 5 j = ar 5 j) → Z 2 [some (.ref (ad 2)), some (.int (nI p)), some (.int (nI k)), none] [] iv ar1 := by
    intro fu
    induction fu with
    | zero => intro k ar1 hfu; exact absurd hfu (Nat.not_lt_zero _)
    | succ fu ih =>
      intro k ar1 hfu hk1 hk4 hfr1 hz hno1
      refine k_iload2 (pc := 2) F dX6_measure_2 ?_
      refine k_iconst (pc := 3) (v := nI 4) F dX6_measure_3 (by decide) ?_
      refine k_icmp_geN (pc := 4) (tgt := 37) F dX6_measure_4 (by decide) (by omega) (by omega) (fun h4 => ?_) (fun h4 => ?_)
      · have e : k = 4 := by omega
        subst e
        refine k_iconst (pc := 37) (v := nI 0) F dX6_measure_37 (by decide) ?_
        refine k_istore2 (pc := 38) F (by decide) dX6_measure_38 ?_
        have L39 : ∀ (fu : Nat) (a : Nat) (ar2 : AR), n - a < fu → a ≤ n → (∀ k, k ≠ 3 → k ≠ 4 → k ≠ 5 → ar2 k = ar k) → (∀ k, 1 ≤ k → k < 4 → ar2 3 (k * 6 + p) = (oun c s t n p k a).2 ∧ ar2 4 (k * 6 + p) = nI (oun c s t n p k a).1) → (∀ j, (∀ k, 1 ≤ k → k < 4 → j ≠ k * 6 + p) → ar2 4 j = ar 4 j ∧ ar2 5 j = ar 5 j) → Z 39 [some (.ref (ad 2)), some (.int (nI p)), some (.int (nI a)), none] [] iv ar2 := by
          intro fu
          induction fu with
          | zero => intro a ar2 hfu; exact absurd hfu (Nat.not_lt_zero _)
          | succ fu ih =>
            intro a ar2 hfu han hfr2 hac hno2
            have hA2 : Arch n c s t iv ar2 := hA.keep rfl (hfr2 0 (by decide) (by decide) (by decide)) (hfr2 1 (by decide) (by decide) (by decide)) (hfr2 2 (by decide) (by decide) (by decide))
            refine k_iload2 (pc := 39) F dX6_measure_39 ?_
            refine k_aload0 (pc := 40) F dX6_measure_40 ?_
            refine g_X6_archive (pc := 41) F dX6_measure_41 ?_
            refine k_callV (pc := 44) (q0 := 1) F (ca_size hA2) ok_X6_29 rfl rfl rfl rfl rfl (by decide) (by decide) (Nat.le_of_ble_eq_true rfl) dX6_measure_44 (rI.use ?_)
            refine k_icmp_geN (pc := 47) (tgt := 97) F dX6_measure_47 (by decide) (by omega) (by omega) (fun h47 => ?_) (fun h47 => ?_)
            · have e : n = a := by omega
              subst e
              refine k_iconst (pc := 97) (v := nI 1) F dX6_measure_97 (by decide) ?_
              refine k_istore2 (pc := 98) F (by decide) dX6_measure_98 ?_
              have L99 : ∀ (fu : Nat) (k : Nat) (ar3 : AR), 4 - k < fu → 1 ≤ k → k ≤ 4 → (∀ k, k ≠ 3 → k ≠ 4 → k ≠ 5 → ar3 k = ar k) → (∀ i, 1 ≤ i → i < 4 → ar3 3 (i * 6 + p) = (oun c s t n p i n).2 ∧ ar3 4 (i * 6 + p) = nI (oun c s t n p i n).1) → (∀ i, 1 ≤ i → i < k → ar3 5 (i * 6 + p) = mean (oun c s t n p i n)) → (∀ j, (∀ k, 1 ≤ k → k < 4 → j ≠ k * 6 + p) → ar3 4 j = ar 4 j ∧ ar3 5 j = ar 5 j) → Z 99 [some (.ref (ad 2)), some (.int (nI p)), some (.int (nI k)), none] [] iv ar3 := by
                intro fu
                induction fu with
                | zero => intro k ar3 hfu; exact absurd hfu (Nat.not_lt_zero _)
                | succ fu ih =>
                  intro k ar3 hfu hk1 hk4 hfr3 hac3 hm3 hno3
                  refine k_iload2 (pc := 99) F dX6_measure_99 ?_
                  refine k_iconst (pc := 100) (v := nI 4) F dX6_measure_100 (by decide) ?_
                  refine k_icmp_geN (pc := 101) (tgt := 151) F dX6_measure_101 (by decide) (by omega) (by omega) (fun h101 => ?_) (fun h101 => ?_)
                  · have e : k = 4 := by omega
                    subst e
                    refine k_vret (pc := 151) F dX6_measure_151 ?_
                    exact ⟨rfl, rfl, hfr3, fun k k1 k2 => ⟨(hac3 k k1 k2).2, hm3 k k1 k2⟩, hno3⟩
                  · have hol := oun_le c s t n p k n
                    have hnn : n * n ≤ 30 * 30 := Nat.mul_le_mul hn hn
                    refine k_iload2 (pc := 104) F dX6_measure_104 ?_
                    refine k_bipush (pc := 105) (v := nI 6) F dX6_measure_105 (by decide) ?_
                    refine k_imulN (pc := 107) F dX6_measure_107 ?_
                    refine k_iload1 (pc := 108) F dX6_measure_108 ?_
                    refine k_iaddN (pc := 109) F dX6_measure_109 ?_
                    refine k_istore3 (pc := 110) F (by decide) dX6_measure_110 ?_
                    refine k_aload0 (pc := 111) F dX6_measure_111 ?_
                    refine g_X6_means (pc := 112) F dX6_measure_112 ?_
                    refine k_iload3 (pc := 115) F dX6_measure_115 ?_
                    refine k_aload0 (pc := 116) F dX6_measure_116 ?_
                    refine g_X6_pairs (pc := 117) F dX6_measure_117 ?_
                    refine k_iload3 (pc := 120) F dX6_measure_120 ?_
                    refine l_c4 (pc := 121) F (by omega) ((hac3 k hk1 (by omega)).2) dX6_measure_121 ?_
                    refine k_if_neN (pc := 122) (tgt := 129) F dX6_measure_122 (by decide) (by omega) (fun h122 => ?_) (fun h122 => ?_)
                    · refine k_aload0 (pc := 129) F dX6_measure_129 ?_
                      refine g_X6_sums (pc := 130) F dX6_measure_130 ?_
                      refine k_iload3 (pc := 133) F dX6_measure_133 ?_
                      refine l_c3 (pc := 134) F (by omega) ((hac3 k hk1 (by omega)).1) dX6_measure_134 ?_
                      refine k_aload0 (pc := 135) F dX6_measure_135 ?_
                      refine g_X6_pairs (pc := 136) F dX6_measure_136 ?_
                      refine k_iload3 (pc := 139) F dX6_measure_139 ?_
                      refine l_c4 (pc := 140) F (by omega) ((hac3 k hk1 (by omega)).2) dX6_measure_140 ?_
                      refine k_callS (pc := 141) F (c_J9_floorDiv_7cf53 cw_ok (nI_ne0 (by omega) (by omega))) ok_X6_51 rfl rfl (by decide) (by decide) (Nat.le_of_ble_eq_true rfl) dX6_measure_141 (rI.use ?_)
                      refine s_c5 (pc := 144) F (by omega) dX6_measure_144 ?_
                      refine k_iinc2 (pc := 145) F (by decide) dX6_measure_145 (inc_N _) ?_
                      refine k_goto (pc := 148) (tgt := 99) F dX6_measure_148 (by decide) ?_
                      refine k_fg3 (pc := 99) F ?_
                      refine ih (k + 1) _ (by omega) (by omega) (by omega) (fun q k3 k4 k5 => ?_) (fun i h1 h2 => ?_) (fun i h1 h2 => ?_) (fun j hj => ?_)
                      · rw [up_n k5]; exact hfr3 q k3 k4 k5
                      · rw [up_n (by decide : (3 : Nat) ≠ 5), up_n (by decide : (4 : Nat) ≠ 5)]; exact hac3 i h1 h2
                      · rw [up_s]
                        rcases Decidable.em (i = k) with e | e
                        · subst e
                          rw [upd_at, mean]
                          first | rw [if_pos h122]; rfl | rw [if_neg h122]
                        · rw [upd_ne (by omega)]; exact hm3 i h1 (by omega)
                      · rw [up_n (by decide : (4 : Nat) ≠ 5), up_s, upd_ne (hj k hk1 (by omega))]; exact hno3 j hj
                    · refine k_iconst (pc := 125) (v := nI 0) F dX6_measure_125 (by decide) ?_
                      refine k_goto (pc := 126) (tgt := 144) F dX6_measure_126 (by decide) ?_
                      refine s_c5 (pc := 144) F (by omega) dX6_measure_144 ?_
                      refine k_iinc2 (pc := 145) F (by decide) dX6_measure_145 (inc_N _) ?_
                      refine k_goto (pc := 148) (tgt := 99) F dX6_measure_148 (by decide) ?_
                      refine k_fg3 (pc := 99) F ?_
                      refine ih (k + 1) _ (by omega) (by omega) (by omega) (fun q k3 k4 k5 => ?_) (fun i h1 h2 => ?_) (fun i h1 h2 => ?_) (fun j hj => ?_)
                      · rw [up_n k5]; exact hfr3 q k3 k4 k5
                      · rw [up_n (by decide : (3 : Nat) ≠ 5), up_n (by decide : (4 : Nat) ≠ 5)]; exact hac3 i h1 h2
                      · rw [up_s]
                        rcases Decidable.em (i = k) with e | e
                        · subst e
                          rw [upd_at, mean]
                          first | rw [if_pos h122]; rfl | rw [if_neg h122]
                        · rw [upd_ne (by omega)]; exact hm3 i h1 (by omega)
                      · rw [up_n (by decide : (4 : Nat) ≠ 5), up_s, upd_ne (hj k hk1 (by omega))]; exact hno3 j hj
              exact L99 4 1 ar2 (by omega) (by omega) (by omega) hfr2 hac (fun i h1 h2 => by omega) hno2
            · have hca := hA.lt (show a < n by omega)
              refine k_aload0 (pc := 50) F dX6_measure_50 ?_
              refine g_X6_archive (pc := 51) F dX6_measure_51 ?_
              refine k_iload2 (pc := 54) F dX6_measure_54 ?_
              refine k_callV (pc := 55) (q0 := 1) F (ca_channelOf hA2 (k := a) (by omega)) ok_X6_35 rfl rfl rfl rfl rfl (by decide) (by decide) (Nat.le_of_ble_eq_true rfl) dX6_measure_55 (rI.use ?_)
              refine k_if_eqN (pc := 58) (tgt := 91) F dX6_measure_58 (by decide) (by omega) (fun h58 => ?_) (fun h58 => ?_)
              · refine k_iinc2 (pc := 91) F (by decide) dX6_measure_91 (inc_N _) ?_
                refine k_goto (pc := 94) (tgt := 39) F dX6_measure_94 (by decide) ?_
                refine ih (a + 1) ar2 (by omega) (by omega) hfr2 (fun k k1 k2 => ?_) hno2
                have e2 : oun c s t n p k (a + 1) = oun c s t n p k a := if_neg (fun q => by first | exact absurd (q.1.symm.trans h58) (by omega) | exact h69 q.2.1 | exact q.2.2 h82)
                rw [e2]
                exact hac k k1 k2
              · refine k_aload0 (pc := 61) F dX6_measure_61 ?_
                refine g_X6_archive (pc := 62) F dX6_measure_62 ?_
                refine k_iload2 (pc := 65) F dX6_measure_65 ?_
                refine k_callV (pc := 66) (q0 := 1) F (ca_isKnown hA2 (k := a) (by omega)) ok_X6_39 rfl rfl rfl rfl rfl (by decide) (by decide) (Nat.le_of_ble_eq_true rfl) dX6_measure_66 (rI.use ?_)
                refine k_if_eqB (pc := 69) (tgt := 91) F dX6_measure_69 (by decide) (fun h69 => ?_) (fun h69 => ?_)
                · refine k_iinc2 (pc := 91) F (by decide) dX6_measure_91 (inc_N _) ?_
                  refine k_goto (pc := 94) (tgt := 39) F dX6_measure_94 (by decide) ?_
                  refine ih (a + 1) ar2 (by omega) (by omega) hfr2 (fun k k1 k2 => ?_) hno2
                  have e2 : oun c s t n p k (a + 1) = oun c s t n p k a := if_neg (fun q => by first | exact absurd (q.1.symm.trans h58) (by omega) | exact h69 q.2.1 | exact q.2.2 h82)
                  rw [e2]
                  exact hac k k1 k2
                · refine k_aload0 (pc := 72) F dX6_measure_72 ?_
                  refine g_X6_archive (pc := 73) F dX6_measure_73 ?_
                  refine k_iload2 (pc := 76) F dX6_measure_76 ?_
                  refine k_iload1 (pc := 77) F dX6_measure_77 ?_
                  refine k_callV (pc := 78) (q0 := 1) F (ca_toneAt hA2 (k := a) (p := p) (by omega) (by omega)) ok_X6_43 rfl rfl rfl rfl rfl (by decide) (by decide) (Nat.le_of_ble_eq_true rfl) dX6_measure_78 (rI.use ?_)
                  refine k_iconst (pc := 81) (v := -1) F dX6_measure_81 (by decide) ?_
                  refine k_icmp_eq (pc := 82) (tgt := 91) F dX6_measure_82 (by decide) (fun h82 => ?_) (fun h82 => ?_)
                  · refine k_iinc2 (pc := 91) F (by decide) dX6_measure_91 (inc_N _) ?_
                    refine k_goto (pc := 94) (tgt := 39) F dX6_measure_94 (by decide) ?_
                    refine ih (a + 1) ar2 (by omega) (by omega) hfr2 (fun k k1 k2 => ?_) hno2
                    have e2 : oun c s t n p k (a + 1) = oun c s t n p k a := if_neg (fun q => by first | exact absurd (q.1.symm.trans h58) (by omega) | exact h69 q.2.1 | exact q.2.2 h82)
                    rw [e2]
                    exact hac k k1 k2
                  · refine k_aload0 (pc := 85) F dX6_measure_85 ?_
                    refine k_iload2 (pc := 86) F dX6_measure_86 ?_
                    refine k_iload1 (pc := 87) F dX6_measure_87 ?_
                    refine k_callV (pc := 88) (q0 := 2) F (c_X6_addPairsOf hA2 (by omega) hp (oun c s t n p (c a) a) (hac (c a) (by omega) hca).1 (hac (c a) (by omega) hca).2) ok_X6_47 rfl rfl rfl rfl rfl (by decide) (by decide) (Nat.le_of_ble_eq_true rfl) dX6_measure_88 (qV.use (fun iv88 ar88 h88 => ?_))
                    obtain ⟨rfl, f3, g3, g4⟩ := h88
                    refine k_iinc2 (pc := 91) F (by decide) dX6_measure_91 (inc_N _) ?_
                    refine k_goto (pc := 94) (tgt := 39) F dX6_measure_94 (by decide) ?_
                    refine ih (a + 1) _ (by omega) (by omega) (fun q k3 k4 k5 => ?_) (fun k k1 k2 => ?_) (fun j hj => ?_)
                    · rw [f3 q k3 k4]; exact hfr2 q k3 k4 k5
                    · rw [g3, g4]
                      rcases Decidable.em (c a = k) with e | e
                      · subst e
                        have e2 : oun c s t n p (c a) (a + 1) = inn c s t p a (oun c s t n p (c a) a) n := if_pos ⟨rfl, h69, h82⟩
                        rw [upd_at, upd_at, e2]
                        exact ⟨rfl, rfl⟩
                      · have e2 : oun c s t n p k (a + 1) = oun c s t n p k a := if_neg (fun q => e q.1)
                        rw [upd_ne (by omega), upd_ne (by omega), e2]
                        exact hac k k1 k2
                    · rw [g4, f3 5 (by decide) (by decide), upd_ne (hj (c a) (by omega) hca)]
                      exact hno2 j hj
        exact L39 (n + 1) 0 ar1 (by omega) (by omega) hfr1 (fun i h1 h2 => hz i h1 (by omega)) hno1
      · refine k_aload0 (pc := 7) F dX6_measure_7 ?_
        refine g_X6_sums (pc := 8) F dX6_measure_8 ?_
        refine k_iload2 (pc := 11) F dX6_measure_11 ?_
        refine k_bipush (pc := 12) (v := nI 6) F dX6_measure_12 (by decide) ?_
        refine k_imulN (pc := 14) F dX6_measure_14 ?_
        refine k_iload1 (pc := 15) F dX6_measure_15 ?_
        refine k_iaddN (pc := 16) F dX6_measure_16 ?_
        refine k_iconst (pc := 17) (v := nI 0) F dX6_measure_17 (by decide) ?_
        refine s_c3 (pc := 18) F (by omega) dX6_measure_18 ?_
        refine k_aload0 (pc := 19) F dX6_measure_19 ?_
        refine g_X6_pairs (pc := 20) F dX6_measure_20 ?_
        refine k_iload2 (pc := 23) F dX6_measure_23 ?_
        refine k_bipush (pc := 24) (v := nI 6) F dX6_measure_24 (by decide) ?_
        refine k_imulN (pc := 26) F dX6_measure_26 ?_
        refine k_iload1 (pc := 27) F dX6_measure_27 ?_
        refine k_iaddN (pc := 28) F dX6_measure_28 ?_
        refine k_iconst (pc := 29) (v := nI 0) F dX6_measure_29 (by decide) ?_
        refine s_c4 (pc := 30) F (by omega) dX6_measure_30 ?_
        refine k_iinc2 (pc := 31) F (by decide) dX6_measure_31 (inc_N _) ?_
        refine k_goto (pc := 34) (tgt := 2) F dX6_measure_34 (by decide) ?_
        refine ih (k + 1) _ (by omega) (by omega) (by omega) (fun q k3 k4 k5 => ?_) (fun i h1 h2 => ?_) (fun j hj => ?_)
        · rw [up_n k4, up_n k3]; exact hfr1 q k3 k4 k5
        · rw [up_n (by decide : (3 : Nat) ≠ 4), up_s, up_s, up_n (by decide : (4 : Nat) ≠ 3)]
          rcases Decidable.em (i = k) with e | e
          · subst e; exact ⟨upd_at, upd_at⟩
          · rw [upd_ne (by omega), upd_ne (by omega)]; exact hz i h1 (by omega)
        · rw [up_s, up_n (by decide : (4 : Nat) ≠ 3), up_n (by decide : (5 : Nat) ≠ 4), up_n (by decide : (5 : Nat) ≠ 3), upd_ne (hj k hk1 (by omega))]; exact hno1 j hj
  exact L2 4 1 ar (by omega) (by omega) (by omega) (fun _ _ _ _ => rfl) (fun i h1 h2 => by omega) (fun _ _ => ⟨rfl, rfl⟩)

set_option maxHeartbeats 4000000 in
theorem c_X6_measureAll {l : Launch} {D : va_G} {cI : ClassId} {ad : Nat → Nat} {iv : IV} {ar : AR} {n : Nat} {c : Nat → Nat} {s t : Nat → Int32} (hA : Arch n c s t iv ar) : Ct l D cI (cw cI ad) yX6_measureAll cX6_measureAll 2 none 3 70 [.ref (ad 2)] iv ar (qV (fun iv2 ar2 => iv2 = iv ∧ (∀ k, k ≠ 3 → k ≠ 4 → k ≠ 5 → ar2 k = ar k) ∧ (∀ p, p < 6 → ∀ k, 1 ≤ k → k < 4 → ar2 4 (k * 6 + p) = nI (oun c s t n p k n).1 ∧ ar2 5 (k * 6 + p) = mean (oun c s t n p k n)) ∧ (∀ p, p < 6 → ar2 5 p = ar 5 p))) := by
  refine Ct.of (lv := [some (.ref (ad 2)), none]) cw_ok (plainFor_of_name (by decide)) (Nat.le_of_ble_eq_true rfl) 1 rfl rfl (fun Z F => ?_)
  refine k_iconst (pc := 0) (v := nI 0) F dX6_measureAll_0 (by decide) ?_
  refine k_istore1 (pc := 1) F (by decide) dX6_measureAll_1 ?_
  have L2 : ∀ (fu : Nat) (q : Nat) (ar1 : AR), 6 - q < fu → q ≤ 6 → (∀ k, k ≠ 3 → k ≠ 4 → k ≠ 5 → ar1 k = ar k) → (∀ p, p < q → ∀ k, 1 ≤ k → k < 4 → ar1 4 (k * 6 + p) = nI (oun c s t n p k n).1 ∧ ar1 5 (k * 6 + p) = mean (oun c s t n p k n)) → (∀ p, p < 6 → ar1 5 p = ar 5 p) → Z 2 [some (.ref (ad 2)), some (.int (nI q))] [] iv ar1 := by
    intro fu
    induction fu with
    | zero => intro q ar1 hfu; exact absurd hfu (Nat.not_lt_zero _)
    | succ fu ih =>
      intro q ar1 hfu hq hfr1 hac h0
      have hA1 : Arch n c s t iv ar1 := hA.keep rfl (hfr1 0 (by decide) (by decide) (by decide)) (hfr1 1 (by decide) (by decide) (by decide)) (hfr1 2 (by decide) (by decide) (by decide))
      refine k_iload1 (pc := 2) F dX6_measureAll_2 ?_
      refine k_bipush (pc := 3) (v := nI 6) F dX6_measureAll_3 (by decide) ?_
      refine k_icmp_geN (pc := 5) (tgt := 19) F dX6_measureAll_5 (by decide) (by omega) (by omega) (fun h5 => ?_) (fun h5 => ?_)
      · have e : q = 6 := by omega
        subst e
        refine k_vret (pc := 19) F dX6_measureAll_19 ?_
        exact ⟨rfl, rfl, hfr1, hac, h0⟩
      · refine k_aload0 (pc := 8) F dX6_measureAll_8 ?_
        refine k_iload1 (pc := 9) F dX6_measureAll_9 ?_
        refine k_callV (pc := 10) (q0 := 2) F (c_X6_measure hA1 (by omega)) ok_X6_25 rfl rfl rfl rfl rfl (by decide) (by decide) (Nat.le_of_ble_eq_true rfl) dX6_measureAll_10 (qV.use (fun iv10 ar10 h10 => ?_))
        obtain ⟨rfl, g1, g2, g3⟩ := h10
        refine k_iinc1 (pc := 13) F (by decide) dX6_measureAll_13 (inc_N _) ?_
        refine k_goto (pc := 16) (tgt := 2) F dX6_measureAll_16 (by decide) ?_
        refine ih (q + 1) _ (by omega) (by omega) (fun k k3 k4 k5 => ?_) (fun p hpq k k1 k2 => ?_) (fun p hp => ?_)
        · rw [g1 k k3 k4 k5]; exact hfr1 k k3 k4 k5
        · rcases Decidable.em (p = q) with e | e
          · subst e; exact g2 k k1 k2
          · have z := g3 (k * 6 + p) (fun i i1 i2 => by omega)
            rw [z.1, z.2]; exact hac p (by omega) k k1 k2
        · rw [(g3 p (fun i i1 i2 => by omega)).2]; exact h0 p hp
  exact L2 7 0 ar (by omega) (by omega) (fun _ _ _ _ => rfl) (fun p h => by omega) (fun _ _ => rfl)
end
section
/-! Pure: bounds, and the two ways to cut down to whole. fb_rng .. fb_negI began as kit/laws/COUNTS.to-paste -/
theorem fb_rng (x : Int32) : -2147483648 ≤ x.toInt ∧ x.toInt < 2147483648 := by
  have h1 := Int32.le_toInt x
  have h2 := Int32.toInt_lt x
  omega
theorem fb_bmod {z : Int} (h1 : -2147483648 ≤ z) (h2 : z < 2147483648) : z.bmod (2 ^ 32) = z := by
  rw [Int.bmod_eq_of_le (by omega) (by omega)]
theorem fb_addI {x y : Int32} (h1 : -2147483648 ≤ x.toInt + y.toInt) (h2 : x.toInt + y.toInt < 2147483648) : (x + y).toInt = x.toInt + y.toInt := by
  rw [Int32.toInt_add, fb_bmod h1 h2]
theorem fb_subI {x y : Int32} (h1 : -2147483648 ≤ x.toInt - y.toInt) (h2 : x.toInt - y.toInt < 2147483648) : (x - y).toInt = x.toInt - y.toInt := by
  rw [Int32.toInt_sub, fb_bmod h1 h2]
theorem fb_mulI {x y : Int32} (h1 : -2147483648 ≤ x.toInt * y.toInt) (h2 : x.toInt * y.toInt < 2147483648) : (x * y).toInt = x.toInt * y.toInt := by
  rw [Int32.toInt_mul, fb_bmod h1 h2]
theorem fb_negI {x : Int32} (h : x.toInt ≠ -2147483648) : (-x).toInt = -x.toInt := by
  have := fb_rng x
  rw [Int32.toInt_neg, fb_bmod (by omega) (by omega)]
theorem toInt_0 : (0 : Int32).toInt = 0 := rfl
theorem toInt_m1 : (-1 : Int32).toInt = -1 := rfl
theorem xor_neg {x y : Int32} (hy : 0 ≤ y.toInt) : (x ^^^ y < 0) ↔ x.toInt < 0 := by
  rw [i_lt, toInt_0, ← Int32.toInt_toBitVec, Int32.toBitVec_xor]
  have h1 : (x.toBitVec ^^^ y.toBitVec).msb = (x.toBitVec.msb ^^ y.toBitVec.msb) := BitVec.msb_xor
  rw [BitVec.msb_eq_toInt, BitVec.msb_eq_toInt, BitVec.msb_eq_toInt] at h1
  have h2 : decide (y.toBitVec.toInt < 0) = false := decide_eq_false (by rw [Int32.toInt_toBitVec]; omega)
  rw [h2, Bool.xor_false] at h1
  have h3 := decide_eq_decide.mp h1
  rw [h3, Int32.toInt_toBitVec]
theorem div_I {x : Int32} {m : Nat} (hm2 : m ≤ 1000) : (x / nI m).toInt = x.toInt.tdiv m := by
  rw [Int32.toInt_div_of_ne_right _ _ (nI_ne_m1 (by omega)), nI_toInt (by omega)]
/-- a number below 0 by a positive one, cut: with quotient and rest of its opposite -/
theorem neg_parts {x : Int32} {m : Nat} (hm : 0 < m) (hx : -100000 ≤ x.toInt) (h : x.toInt < 0) : ∃ d r : Int, 0 ≤ d ∧ 0 ≤ r ∧ r < m ∧ m * d + r = -x.toInt ∧ d ≤ 100000 ∧ 0 ≤ m * d ∧ x.toInt.tdiv m = -d := by
  refine ⟨(-x.toInt) / m, (-x.toInt) % m, Int.ediv_nonneg (by omega) (by omega), Int.emod_nonneg _ (by omega), Int.emod_lt_of_pos _ (by omega), Int.mul_ediv_add_emod _ _, ?_, ?_, ?_⟩
  · exact Int.le_trans (Int.ediv_le_self _ (by omega)) (by omega)
  · exact Int.mul_nonneg (by omega) (Int.ediv_nonneg (by omega) (by omega))
  · have h1 := Int.neg_tdiv (-x.toInt) m
    rw [Int.neg_neg] at h1
    rw [h1, Int.tdiv_eq_ediv_of_nonneg (by omega)]
theorem fdv_I {x : Int32} {m : Nat} (hm : 0 < m) (hm2 : m ≤ 1000) (hx : -100000 ≤ x.toInt) : (fdv x (nI m)).toInt = x.toInt / (m : Int) := by
  have hmI := nI_toInt (n := m) (by omega)
  have hq := div_I (x := x) hm2
  rcases Int.lt_or_le x.toInt 0 with h | h
  · obtain ⟨d, r, d0, r0, r1, e, d1, md, ht⟩ := neg_parts hm hx h
    rw [ht] at hq
    have hxr : x ^^^ nI m < 0 := (xor_neg (by omega)).mpr h
    have hp : (x / nI m * nI m).toInt = -(m * d) := by
      have e2 : (x / nI m).toInt * (nI m).toInt = -(m * d) := by rw [hq, hmI, Int.neg_mul, Int.mul_comm]
      rw [fb_mulI (by rw [e2]; omega) (by rw [e2]; omega), e2]
    by_cases hr : r = 0
    · have hxe : x / nI m * nI m = x := Int32.toInt_inj.mp (by rw [hp]; omega)
      rw [fdv, if_neg (fun q => q.2 hxe), hq]
      refine (((Int.ediv_emod_unique (a := x.toInt) (b := m) (r := 0) (q := -d) (by omega)).mpr ⟨?_, by omega, by omega⟩).1).symm
      rw [Int.mul_neg]
      omega
    · have hxe : ¬ x / nI m * nI m = x := fun q => hr (by rw [q] at hp; omega)
      rw [fdv, if_pos ⟨hxr, hxe⟩, fb_subI (by rw [hq]; show _ ≤ _ - (1 : Int); omega) (by rw [hq]; show _ - (1 : Int) < _; omega), hq]
      refine (((Int.ediv_emod_unique (a := x.toInt) (b := m) (r := m - r) (q := -d - 1) (by omega)).mpr ⟨?_, by omega, by omega⟩).1).symm
      rw [Int.mul_sub, Int.mul_neg, Int.mul_one]
      omega
  · have hxr : ¬ x ^^^ nI m < 0 := fun q => by have := (xor_neg (by omega)).mp q; omega
    rw [fdv, if_neg (fun q => hxr q.1), hq, Int.tdiv_eq_ediv_of_nonneg h]
theorem fdv_pos {x : Int32} {m : Nat} (hm2 : m ≤ 1000) (h : ¬ x < 0) : fdv x (nI m) = x / nI m := by
  have hmI := nI_toInt (n := m) (by omega)
  rw [i_lt, toInt_0] at h
  rw [fdv, if_neg (fun q => by have := (xor_neg (by omega)).mp q.1; omega)]
theorem fdv_neg {x : Int32} {m : Nat} (hm : 0 < m) (hm2 : m ≤ 1000) (hx : -100000 ≤ x.toInt) (h : x < 0) : fdv x (nI m) = -((nI (m - 1) - x) / nI m) := by
  rw [i_lt, toInt_0] at h
  apply Int32.toInt_inj.mp
  rw [fdv_I hm hm2 hx]
  obtain ⟨d, r, d0, r0, r1, e, d1, md, ht⟩ := neg_parts hm hx h
  have hm1 := nI_toInt (n := m - 1) (by omega)
  have hs : (nI (m - 1) - x).toInt = m - 1 - x.toInt := by
    rw [fb_subI (by rw [hm1]; omega) (by rw [hm1]; omega), hm1]
    omega
  by_cases hr : r = 0
  · have h1 : (m - 1 - x.toInt : Int) / m = d := ((Int.ediv_emod_unique (a := m - 1 - x.toInt) (b := m) (r := m - 1) (q := d) (by omega)).mpr ⟨by omega, by omega, by omega⟩).1
    have h2 : ((nI (m - 1) - x) / nI m).toInt = d := by rw [div_I hm2, hs, Int.tdiv_eq_ediv_of_nonneg (by omega), h1]
    rw [fb_negI (by omega), h2]
    refine ((Int.ediv_emod_unique (a := x.toInt) (b := m) (r := 0) (q := -d) (by omega)).mpr ⟨?_, by omega, by omega⟩).1
    rw [Int.mul_neg]
    omega
  · have h1 : (m - 1 - x.toInt : Int) / m = d + 1 := ((Int.ediv_emod_unique (a := m - 1 - x.toInt) (b := m) (r := r - 1) (q := d + 1) (by omega)).mpr ⟨by rw [Int.mul_add, Int.mul_one]; omega, by omega, by omega⟩).1
    have h2 : ((nI (m - 1) - x) / nI m).toInt = d + 1 := by rw [div_I hm2, hs, Int.tdiv_eq_ediv_of_nonneg (by omega), h1]
    rw [fb_negI (by omega), h2]
    refine ((Int.ediv_emod_unique (a := x.toInt) (b := m) (r := m - r) (q := -(d + 1)) (by omega)).mpr ⟨?_, by omega, by omega⟩).1
    rw [Int.mul_neg, Int.mul_add, Int.mul_one]
    omega
/-- tones are -1 .. 99 -/
def okT (n : Nat) (t : Nat → Int32) : Prop := ∀ j, j < n * 6 → -1 ≤ (t j).toInt ∧ (t j).toInt ≤ 99
theorem t_pos {x : Int32} (h : -1 ≤ x.toInt) (hne : ¬ x = -1) : 0 ≤ x.toInt := by
  have h1 : x.toInt ≠ -1 := fun q => hne (Int32.toInt_inj.mp (by rw [q, toInt_m1]))
  omega
def bnW (w : Nat × Int32) : Prop := -(99 * (w.1 : Int)) ≤ w.2.toInt ∧ w.2.toInt ≤ 99 * (w.1 : Int)
theorem inn_B {c : Nat → Nat} {s t : Nat → Int32} {n p a : Nat} (hT : okT n t) (ha : a < n) (hp : p < 6) (hta : ¬ t (a * 6 + p) = -1) {z : Nat × Int32} (hz : bnW z) (hz2 : z.1 ≤ 900) (hn : n ≤ 30) : ∀ b, b ≤ n → bnW (inn c s t p a z b)
  | 0, _ => hz
  | b + 1, hb => by
    have ih := inn_B hT ha hp hta hz hz2 hn b (by omega) (c := c) (s := s)
    have hle := inn_le c s t p a z b
    rw [inn]
    split
    · next hq =>
      have h1 := hT (a * 6 + p) (by omega)
      have h2 := hT (b * 6 + p) (by omega)
      have h3 := t_pos h1.1 hta
      have h4 := t_pos h2.1 hq.2.2
      have h5 : (t (a * 6 + p) - t (b * 6 + p)).toInt = (t (a * 6 + p)).toInt - (t (b * 6 + p)).toInt := fb_subI (by omega) (by omega)
      obtain ⟨i1, i2⟩ := ih
      unfold bnW
      dsimp only
      rw [fb_addI (by rw [h5]; omega) (by rw [h5]; omega), h5]
      omega
    · exact ih
theorem oun_B {c : Nat → Nat} {s t : Nat → Int32} {n p k : Nat} (hT : okT n t) (hp : p < 6) (hn : n ≤ 30) : ∀ a, a ≤ n → bnW (oun c s t n p k a)
  | 0, _ => by simp [bnW, oun]
  | a + 1, ha => by
    have ih := oun_B hT hp hn a (by omega) (c := c) (s := s) (k := k)
    have hle := oun_le c s t n p k a
    have h2 : a * n ≤ 30 * 30 := Nat.mul_le_mul (by omega) hn
    rw [oun]
    split
    · next hq => exact inn_B hT (by omega) hp hq.2.2 ih (by omega) hn n (Nat.le_refl n)
    · exact ih
theorem oun_nn {c : Nat → Nat} {s t : Nat → Int32} {n p k : Nat} (hn : n ≤ 30) : (oun c s t n p k n).1 ≤ 900 := by
  have h1 := oun_le c s t n p k n
  have h2 : n * n ≤ 30 * 30 := Nat.mul_le_mul hn hn
  omega
theorem shf_B {c : Nat → Nat} {s t : Nat → Int32} {n k p : Nat} (hT : okT n t) (hp : p < 6) (hn : n ≤ 30) : -99 ≤ (shf c s t n k p).toInt ∧ (shf c s t n k p).toInt ≤ 99 := by
  rw [shf]
  split
  · rw [toInt_0]; omega
  · have hb := oun_B hT hp hn n (Nat.le_refl n) (c := c) (s := s) (k := k)
    have hl := oun_nn hn (c := c) (s := s) (t := t) (p := p) (k := k)
    rw [mean]
    split
    · rw [toInt_0]; omega
    · next hz =>
      obtain ⟨b1, b2⟩ := hb
      rw [fdv_I (by omega) (by omega) (by omega)]
      exact ⟨(Int.le_ediv_iff_mul_le (by omega)).mpr (by omega), Int.ediv_le_of_le_mul (by omega) (by omega)⟩
theorem iabs_neg (u : Int32) : iabs (-u) = iabs u := by
  by_cases hm : u.toInt = -2147483648
  · have e : -u = u := by
      have h1 : u = Int32.ofInt (-2147483648) := Int32.toInt_inj.mp hm
      rw [h1]
      decide
    rw [e]
  · have h1 := fb_negI hm
    unfold iabs
    by_cases h2 : u < 0
    · rw [if_pos h2, if_neg (by rw [i_lt, h1, toInt_0]; rw [i_lt, toInt_0] at h2; omega)]
    · by_cases h3 : u.toInt = 0
      · have e : u = 0 := Int32.toInt_inj.mp h3
        rw [e]
        decide
      · rw [if_neg h2, if_pos (by rw [i_lt, h1, toInt_0]; rw [i_lt, toInt_0] at h2; omega), Int32.neg_neg]
theorem sub_flip (x y : Int32) : y - x = -(x - y) := (Int32.neg_sub).symm
theorem scw_sym (c : Nat → Nat) (t m : Nat → Int32) (a b : Nat) : ∀ p, scw c t m a b p = scw c t m b a p
  | 0 => rfl
  | p + 1 => by
    rw [scw, scw, scw_sym c t m a b p]
    by_cases h : ¬ t (a * 6 + p) = -1 ∧ ¬ t (b * 6 + p) = -1
    · rw [if_pos h, if_pos ⟨h.2, h.1⟩, sub_flip (t (a * 6 + p) - m (c a * 6 + p)) (t (b * 6 + p) - m (c b * 6 + p)), iabs_neg]
    · rw [if_neg h, if_neg (fun q => h ⟨q.2, q.1⟩)]
theorem sco_sym (c : Nat → Nat) (t m : Nat → Int32) (a b : Nat) : sco c t m a b = sco c t m b a := by
  unfold sco
  rw [scw_sym c t m a b]
theorem scw_congr {c : Nat → Nat} {t m m2 : Nat → Int32} {a b : Nat} (ha : c a < 4) (hb : c b < 4) (h : ∀ j, j < 24 → m j = m2 j) : ∀ p, p ≤ 6 → scw c t m a b p = scw c t m2 a b p
  | 0, _ => rfl
  | p + 1, hp => by
    rw [scw, scw, scw_congr ha hb h p (by omega), h (c a * 6 + p) (by omega), h (c b * 6 + p) (by omega)]
theorem sco_congr {c : Nat → Nat} {t m m2 : Nat → Int32} {a b : Nat} (ha : c a < 4) (hb : c b < 4) (h : ∀ j, j < 24 → m j = m2 j) : sco c t m a b = sco c t m2 a b := by
  unfold sco
  rw [scw_congr ha hb h 6 (Nat.le_refl 6)]
theorem iabs_B {u : Int32} {B : Int} (h1 : -B ≤ u.toInt) (h2 : u.toInt ≤ B) (hB : B < 2147483648) : 0 ≤ (iabs u).toInt ∧ (iabs u).toInt ≤ B := by
  unfold iabs
  split
  · next h => rw [i_lt, toInt_0] at h; rw [fb_negI (by omega)]; omega
  · next h => rw [i_lt, toInt_0] at h; omega
/-- the SHIFTS are -99 .. 99 -/
def okM (m : Nat → Int32) : Prop := ∀ j, j < 24 → -99 ≤ (m j).toInt ∧ (m j).toInt ≤ 99
theorem shA_B {c : Nat → Nat} {s t : Nat → Int32} {n : Nat} (hT : okT n t) (hn : n ≤ 30) : okM (shA c s t n) := fun j _ => shf_B hT (Nat.mod_lt _ (by decide)) hn
theorem scw_B {c : Nat → Nat} {t m : Nat → Int32} {n a b : Nat} (hT : okT n t) (hm : okM m) (ha : a < n) (hb : b < n) (hca : c a < 4) (hcb : c b < 4) : ∀ p, p ≤ 6 → 0 ≤ (scw c t m a b p).2.toInt ∧ (scw c t m a b p).2.toInt ≤ 297 * ((scw c t m a b p).1 : Int)
  | 0, _ => by simp [scw]
  | p + 1, hp => by
    have ih := scw_B hT hm ha hb hca hcb p (by omega)
    have hle := scw_le c t m a b p
    rw [scw]
    split
    · next hq =>
      have t1 := hT (a * 6 + p) (by omega)
      have t2 := hT (b * 6 + p) (by omega)
      have t3 := t_pos t1.1 hq.1
      have t4 := t_pos t2.1 hq.2
      have m1 := hm (c a * 6 + p) (by omega)
      have m2 := hm (c b * 6 + p) (by omega)
      have e1 : (t (a * 6 + p) - m (c a * 6 + p)).toInt = _ := fb_subI (by omega) (by omega)
      have e2 : (t (b * 6 + p) - m (c b * 6 + p)).toInt = _ := fb_subI (by omega) (by omega)
      have e3 : (t (a * 6 + p) - m (c a * 6 + p) - (t (b * 6 + p) - m (c b * 6 + p))).toInt = _ := fb_subI (by rw [e1, e2]; omega) (by rw [e1, e2]; omega)
      have hi := iabs_B (u := t (a * 6 + p) - m (c a * 6 + p) - (t (b * 6 + p) - m (c b * 6 + p))) (B := 297) (by rw [e3, e1, e2]; omega) (by rw [e3, e1, e2]; omega) (by omega)
      dsimp only
      rw [fb_addI (by omega) (by omega)]
      omega
    · exact ih
/-- a SCORE is -1, or 0 .. 1782 -/
def okSc (x : Int32) : Prop := x = -1 ∨ ∃ v : Nat, v ≤ 1782 ∧ x = nI v
theorem sco_B {c : Nat → Nat} {t m : Nat → Int32} {n a b : Nat} (hT : okT n t) (hm : okM m) (ha : a < n) (hb : b < n) (hca : c a < 4) (hcb : c b < 4) : okSc (sco c t m a b) := by
  obtain ⟨h1, h2⟩ := scw_B hT hm ha hb hca hcb 6 (Nat.le_refl 6)
  have hle := scw_le c t m a b 6
  unfold sco
  split
  · exact Or.inl rfl
  · next h3 =>
    obtain ⟨v, hv, e⟩ := nI_of (x := (scw c t m a b 6).2) (by rw [i_lt, toInt_0]; omega)
    have e1 := nI_toInt hv
    rw [e] at h2
    refine Or.inr ⟨v * 6 / (scw c t m a b 6).1, ?_, ?_⟩
    · refine Nat.div_le_of_le_mul ?_
      have h4 : (v : Int) ≤ 297 * ((scw c t m a b 6).1 : Int) := by omega
      have h5 : v * 6 ≤ 1782 * (scw c t m a b 6).1 := by omega
      rw [Nat.mul_comm]
      omega
    · rw [e, pk_mul, pk_div (by omega) (by omega) (by omega)]
theorem ring1 (x f y g : Int32) : x - f - y + g = (x - f) - (y - g) := by
  rw [Int32.sub_eq_add_neg (x - f) (y - g), Int32.neg_sub, Int32.sub_eq_add_neg g y, Int32.add_comm g (-y), ← Int32.add_assoc, ← Int32.sub_eq_add_neg]
end
section
theorem bI_iff {c d : Prop} [Decidable c] [Decidable d] (h : c ↔ d) : bI c = bI d := by
  unfold bI
  by_cases q : c
  · rw [if_pos q, if_pos (h.mp q)]
  · rw [if_neg q, if_neg (fun z => q (h.mpr z))]
/-- the reference's recordings -/
def MArc (n : Nat) (c : Nat → Nat) (s t : Nat → Int32) (iv : IV) (ar : AR) : Prop := iv 0 = nI n ∧ n ≤ 30 ∧ (∀ k, k < n → ar 1 k = nI (c k) ∧ c k < 4) ∧ (∀ k, k < n → ar 2 k = s k) ∧ (∀ j, j < n * 6 → ar 0 j = t j)
theorem MArc.keep {n : Nat} {c : Nat → Nat} {s t : Nat → Int32} {iv iv2 : IV} {ar ar2 : AR} (h : MArc n c s t iv ar) (h3 : iv2 0 = iv 0) (a0 : ar2 0 = ar 0) (a1 : ar2 1 = ar 1) (a2 : ar2 2 = ar 2) : MArc n c s t iv2 ar2 := by
  obtain ⟨h1, h2, h4, h5, h6⟩ := h
  exact ⟨by rw [h3]; exact h1, h2, by rw [a1]; exact h4, by rw [a2]; exact h5, by rw [a0]; exact h6⟩
section MA
variable {n : Nat} {c : Nat → Nat} {s t : Nat → Int32} {iv : IV} {ar : AR} (h : MArc n c s t iv ar)
theorem MArc.le (h : MArc n c s t iv ar) : n ≤ 30 := h.2.1
theorem MArc.lt (h : MArc n c s t iv ar) {k : Nat} (hk : k < n) : c k < 4 := (h.2.2.1 k hk).2
theorem MArc.ch (h : MArc n c s t iv ar) {k : Nat} (hk : k < n) : ar 1 k = nI (c k) := (h.2.2.1 k hk).1
theorem MArc.sp (h : MArc n c s t iv ar) {k : Nat} (hk : k < n) : ar 2 k = s k := h.2.2.2.1 k hk
theorem MArc.tn (h : MArc n c s t iv ar) {k p : Nat} (hk : k < n) (hp : p < 6) : ar 0 (6 * k + p) = t (k * 6 + p) := by
  rw [Nat.mul_comm]
  exact h.2.2.2.2 _ (by omega)
end MA
def ounz (c : Nat → Nat) (s t : Nat → Int32) (n p k : Nat) : Nat × Int32 := if k = 0 then (0, 0) else oun c s t n p k n
theorem inn_z (c : Nat → Nat) (s t : Nat → Int32) (p a : Nat) (z : Nat × Int32) : inn c s t p a z 0 = z := rfl
theorem up_u {α : Type} (f : Nat → α) (k : Nat) (v w : α) : va_up (va_up f k v) k w = va_up f k w := bx_uu f k v w
set_option maxHeartbeats 4000000 in
theorem c_X8_in {l : Launch} {D : va_G} {cI : ClassId} {wf : WF} {iv : IV} {ar : AR} (hwf : wfOk wf) {x y z : Int32} : Ct l D cI wf yX8_in cX8_in 3 (some .boolean) 0 0 [.int x, .int y, .int z] iv ar (rI (bI (y.toInt ≤ x.toInt ∧ x.toInt ≤ z.toInt)) iv ar) := by
  refine Ct.of (lv := [some (.int x), some (.int y), some (.int z)]) hwf (plainFor_of_name (by decide)) (Nat.le_of_ble_eq_true rfl) 0 rfl rfl (fun Z F => ?_)
  refine k_iload0 (pc := 0) F dX8_in_0 ?_
  refine k_iload1 (pc := 1) F dX8_in_1 ?_
  refine k_icmp_lt (pc := 2) (tgt := 14) F dX8_in_2 (by decide) (fun h2 => ?_) (fun h2 => ?_)
  · refine k_iconst (pc := 14) (v := nI 0) F dX8_in_14 (by decide) ?_
    refine k_zret (pc := 15) F dX8_in_15 (by decide) ?_
    exact ret0 (by (try rw [i_lt] at h2); (try rw [i_lt] at h7); omega)
  · refine k_iload0 (pc := 5) F dX8_in_5 ?_
    refine k_iload2 (pc := 6) F dX8_in_6 ?_
    refine k_icmp_gt (pc := 7) (tgt := 14) F dX8_in_7 (by decide) (fun h7 => ?_) (fun h7 => ?_)
    · refine k_iconst (pc := 14) (v := nI 0) F dX8_in_14 (by decide) ?_
      refine k_zret (pc := 15) F dX8_in_15 (by decide) ?_
      exact ret0 (by (try rw [i_lt] at h2); (try rw [i_lt] at h7); omega)
    · refine k_iconst (pc := 10) (v := nI 1) F dX8_in_10 (by decide) ?_
      refine k_goto (pc := 11) (tgt := 15) F dX8_in_11 (by decide) ?_
      refine k_zret (pc := 15) F dX8_in_15 (by decide) ?_
      exact ret1 (by (try rw [i_lt] at h2); (try rw [i_lt] at h7); omega)

set_option maxHeartbeats 4000000 in
theorem c_X8_isRecording {l : Launch} {D : va_G} {cI : ClassId} {ad : Nat → Nat} {iv : IV} {ar : AR} {n : Nat} {r : Int32} (hn : iv 0 = nI n) (hle : n ≤ 30) : Ct l D cI (mw cI ad) yX8_isRecording cX8_isRecording 2 (some .boolean) 1 22 [.ref (ad 0), .int r] iv ar (rI (bI (0 ≤ r.toInt ∧ r.toInt < n)) iv ar) := by
  refine Ct.of (lv := [some (.ref (ad 0)), some (.int r)]) mw_ok (plainFor_of_name (by decide)) (Nat.le_of_ble_eq_true rfl) 0 rfl rfl (fun Z F => ?_)
  refine k_iload1 (pc := 0) F dX8_isRecording_0 ?_
  refine k_iconst (pc := 1) (v := nI 0) F dX8_isRecording_1 (by decide) ?_
  refine k_aload0 (pc := 2) F dX8_isRecording_2 ?_
  refine g_X8_recordings (pc := 3) F (hn) dX8_isRecording_3 ?_
  refine k_iconst (pc := 6) (v := nI 1) F dX8_isRecording_6 (by decide) ?_
  refine k_isub (pc := 7) F dX8_isRecording_7 ?_
  refine k_callS (pc := 8) F (c_X8_in mw_ok) ok_X8_59 rfl rfl (by decide) (by decide) (Nat.le_of_ble_eq_true rfl) dX8_isRecording_8 (rI.use ?_)
  refine k_zret (pc := 11) F dX8_isRecording_11 bI_nar ?_
  have e1 := pk_sub_toInt (a := n) (b := 1) (by omega) (by decide)
  have e2 : (nI 0).toInt = 0 := rfl
  exact ⟨by rw [bI_iff (show _ ↔ (0 ≤ r.toInt ∧ r.toInt < n) by rw [e1, e2]; omega)], rfl, rfl⟩

set_option maxHeartbeats 4000000 in
theorem c_X8_shiftPairs {l : Launch} {D : va_G} {cI : ClassId} {ad : Nat → Nat} {iv : IV} {ar : AR} {n : Nat} {c : Nat → Nat} {s t : Nat → Int32} (hA : MArc n c s t iv ar) {k p : Nat} (hk : k < 4) (hp : p < 6) : Ct l D cI (mw cI ad) yX8_shiftPairs cX8_shiftPairs 8 (some .int) 0 0 [.ref (ad 0), .int (nI k), .int (nI p)] iv ar (rI (nI (ounz c s t n p k).1) (va_up iv 5 (ounz c s t n p k).2) ar) := by
  refine Ct.of (lv := [some (.ref (ad 0)), some (.int (nI k)), some (.int (nI p)), none, none, none, none, none]) mw_ok (plainFor_of_name (by decide)) (Nat.le_of_ble_eq_true rfl) 5 rfl rfl (fun Z F => ?_)
  have hn := hA.le
  refine k_iconst (pc := 0) (v := nI 0) F dX8_shiftPairs_0 (by decide) ?_
  refine k_istore3 (pc := 1) F (by decide) dX8_shiftPairs_1 ?_
  refine k_aload0 (pc := 2) F dX8_shiftPairs_2 ?_
  refine k_iconst (pc := 3) (v := nI 0) F dX8_shiftPairs_3 (by decide) ?_
  refine p_X8_shiftSum (pc := 4) F dX8_shiftPairs_4 ?_
  refine k_iconst (pc := 7) (v := nI 0) F dX8_shiftPairs_7 (by decide) ?_
  refine k_istore4 (pc := 8) F (by decide) dX8_shiftPairs_8 ?_
  have L10 : ∀ (fu : Nat) (a : Nat), n - a < fu → a ≤ n → (k = 0 → a = 0) → Z 10 [some (.ref (ad 0)), some (.int (nI k)), some (.int (nI p)), some (.int (nI (oun c s t n p k a).1)), some (.int (nI a)), none, none, none] [] (va_up iv 5 (oun c s t n p k a).2) ar := by
    intro fu
    induction fu with
    | zero => intro a hfu; exact absurd hfu (Nat.not_lt_zero _)
    | succ fu ih =>
      intro a hfu han hk0
      refine k_iload4 (pc := 10) F dX8_shiftPairs_10 ?_
      refine k_aload0 (pc := 12) F dX8_shiftPairs_12 ?_
      refine g_X8_recordings (pc := 13) F ((up_n (by decide)).trans hA.1) dX8_shiftPairs_13 ?_
      refine k_icmp_geN (pc := 16) (tgt := 159) F dX8_shiftPairs_16 (by decide) (by omega) (by omega) (fun h16 => ?_) (fun h16 => ?_)
      · refine k_iload3 (pc := 159) F dX8_shiftPairs_159 ?_
        refine k_iret (pc := 160) F dX8_shiftPairs_160 ?_
        have e : ounz c s t n p k = oun c s t n p k a := by
          unfold ounz
          by_cases q : k = 0
          · rw [if_pos q, hk0 q]; rfl
          · rw [if_neg q, show n = a by omega]
        exact ⟨by rw [e], by rw [e], rfl⟩
      · have hca := hA.lt (show a < n by omega)
        refine k_iload1 (pc := 19) F dX8_shiftPairs_19 ?_
        refine k_if_leN (pc := 20) (tgt := 159) F dX8_shiftPairs_20 (by decide) (by omega) (fun h20 => ?_) (fun h20 => ?_)
        · refine k_iload3 (pc := 159) F dX8_shiftPairs_159 ?_
          refine k_iret (pc := 160) F dX8_shiftPairs_160 ?_
          have e : ounz c s t n p k = oun c s t n p k a := by
            unfold ounz
            by_cases q : k = 0
            · rw [if_pos q, hk0 q]; rfl
            · rw [if_neg q, show n = a by omega]
          exact ⟨by rw [e], by rw [e], rfl⟩
        · refine k_aload0 (pc := 23) F dX8_shiftPairs_23 ?_
          refine g_X8_tone (pc := 24) F dX8_shiftPairs_24 ?_
          refine k_bipush (pc := 27) (v := nI 6) F dX8_shiftPairs_27 (by decide) ?_
          refine k_iload4 (pc := 29) F dX8_shiftPairs_29 ?_
          refine k_imulN (pc := 31) F dX8_shiftPairs_31 ?_
          refine k_iload2 (pc := 32) F dX8_shiftPairs_32 ?_
          refine k_iaddN (pc := 33) F dX8_shiftPairs_33 ?_
          refine l_m0 (pc := 34) F (by omega) (hA.tn (show a < n by omega) hp) dX8_shiftPairs_34 ?_
          refine k_istore5 (pc := 35) F (by decide) dX8_shiftPairs_35 ?_
          refine k_aload0 (pc := 37) F dX8_shiftPairs_37 ?_
          refine g_X8_channel (pc := 38) F dX8_shiftPairs_38 ?_
          refine k_iload4 (pc := 41) F dX8_shiftPairs_41 ?_
          refine l_m1 (pc := 43) F (by omega) (hA.ch (show a < n by omega)) dX8_shiftPairs_43 ?_
          refine k_iload1 (pc := 44) F dX8_shiftPairs_44 ?_
          refine k_icmp_neN (pc := 45) (tgt := 153) F dX8_shiftPairs_45 (by decide) (by omega) (by omega) (fun h45 => ?_) (fun h45 => ?_)
          · refine k_iinc4 (pc := 153) F (by decide) dX8_shiftPairs_153 (inc_N _) ?_
            refine k_goto (pc := 156) (tgt := 10) F dX8_shiftPairs_156 (by decide) ?_
            refine k_fg5 (pc := 10) F ?_
            have e : oun c s t n p k (a + 1) = oun c s t n p k a := if_neg (fun q => by first | exact h45 q.1 | exact q.2.1 h56 | exact q.2.2 h62)
            have kk := ih (a + 1) (by omega) (by omega) (fun q => absurd q (by omega))
            rw [e] at kk
            exact kk
          · refine k_aload0 (pc := 48) F dX8_shiftPairs_48 ?_
            refine g_X8_speaker (pc := 49) F dX8_shiftPairs_49 ?_
            refine k_iload4 (pc := 52) F dX8_shiftPairs_52 ?_
            refine l_m2 (pc := 54) F (by omega) (hA.sp (show a < n by omega)) dX8_shiftPairs_54 ?_
            refine k_iconst (pc := 55) (v := -1) F dX8_shiftPairs_55 (by decide) ?_
            refine k_icmp_eq (pc := 56) (tgt := 153) F dX8_shiftPairs_56 (by decide) (fun h56 => ?_) (fun h56 => ?_)
            · refine k_iinc4 (pc := 153) F (by decide) dX8_shiftPairs_153 (inc_N _) ?_
              refine k_goto (pc := 156) (tgt := 10) F dX8_shiftPairs_156 (by decide) ?_
              refine k_fg5 (pc := 10) F ?_
              have e : oun c s t n p k (a + 1) = oun c s t n p k a := if_neg (fun q => by first | exact h45 q.1 | exact q.2.1 h56 | exact q.2.2 h62)
              have kk := ih (a + 1) (by omega) (by omega) (fun q => absurd q (by omega))
              rw [e] at kk
              exact kk
            · refine k_iload5 (pc := 59) F dX8_shiftPairs_59 ?_
              refine k_iconst (pc := 61) (v := -1) F dX8_shiftPairs_61 (by decide) ?_
              refine k_icmp_ne (pc := 62) (tgt := 68) F dX8_shiftPairs_62 (by decide) (fun h62 => ?_) (fun h62 => ?_)
              · refine k_iconst (pc := 68) (v := nI 0) F dX8_shiftPairs_68 (by decide) ?_
                refine k_istore6 (pc := 69) F (by decide) dX8_shiftPairs_69 ?_
                have L71 : ∀ (fu : Nat) (b : Nat), n - b < fu → b ≤ n → Z 71 [some (.ref (ad 0)), some (.int (nI k)), some (.int (nI p)), some (.int (nI (inn c s t p a (oun c s t n p k a) b).1)), some (.int (nI a)), some (.int (t (a * 6 + p))), some (.int (nI b)), none] [] (va_up iv 5 (inn c s t p a (oun c s t n p k a) b).2) ar := by
                  intro fu
                  induction fu with
                  | zero => intro b hfu; exact absurd hfu (Nat.not_lt_zero _)
                  | succ fu ih2 =>
                    intro b hfu hbn
                    refine k_iload6 (pc := 71) F dX8_shiftPairs_71 ?_
                    refine k_aload0 (pc := 73) F dX8_shiftPairs_73 ?_
                    refine g_X8_recordings (pc := 74) F ((up_n (by decide)).trans hA.1) dX8_shiftPairs_74 ?_
                    refine k_icmp_geN (pc := 77) (tgt := 153) F dX8_shiftPairs_77 (by decide) (by omega) (by omega) (fun h77 => ?_) (fun h77 => ?_)
                    · have e : n = b := by omega
                      subst e
                      refine k_iinc4 (pc := 153) F (by decide) dX8_shiftPairs_153 (inc_N _) ?_
                      refine k_goto (pc := 156) (tgt := 10) F dX8_shiftPairs_156 (by decide) ?_
                      refine k_fg5 (pc := 10) F ?_
                      refine k_fg6 (pc := 10) F ?_
                      have e : oun c s t n p k (a + 1) = inn c s t p a (oun c s t n p k a) n := if_pos ⟨h45, h56, h62⟩
                      have kk := ih (a + 1) (by omega) (by omega) (fun q => absurd q (by omega))
                      rw [e] at kk
                      exact kk
                    · have hcb := hA.lt (show b < n by omega)
                      refine k_aload0 (pc := 80) F dX8_shiftPairs_80 ?_
                      refine g_X8_tone (pc := 81) F dX8_shiftPairs_81 ?_
                      refine k_bipush (pc := 84) (v := nI 6) F dX8_shiftPairs_84 (by decide) ?_
                      refine k_iload6 (pc := 86) F dX8_shiftPairs_86 ?_
                      refine k_imulN (pc := 88) F dX8_shiftPairs_88 ?_
                      refine k_iload2 (pc := 89) F dX8_shiftPairs_89 ?_
                      refine k_iaddN (pc := 90) F dX8_shiftPairs_90 ?_
                      refine l_m0 (pc := 91) F (by omega) (hA.tn (show b < n by omega) hp) dX8_shiftPairs_91 ?_
                      refine k_istore7 (pc := 92) F (by decide) dX8_shiftPairs_92 ?_
                      refine k_aload0 (pc := 94) F dX8_shiftPairs_94 ?_
                      refine g_X8_channel (pc := 95) F dX8_shiftPairs_95 ?_
                      refine k_iload6 (pc := 98) F dX8_shiftPairs_98 ?_
                      refine l_m1 (pc := 100) F (by omega) (hA.ch (show b < n by omega)) dX8_shiftPairs_100 ?_
                      refine k_if_neN (pc := 101) (tgt := 147) F dX8_shiftPairs_101 (by decide) (by omega) (fun h101 => ?_) (fun h101 => ?_)
                      · refine k_iinc6 (pc := 147) F (by decide) dX8_shiftPairs_147 (inc_N _) ?_
                        refine k_goto (pc := 150) (tgt := 71) F dX8_shiftPairs_150 (by decide) ?_
                        refine k_fg7 (pc := 71) F ?_
                        have e : inn c s t p a (oun c s t n p k a) (b + 1) = (inn c s t p a (oun c s t n p k a) b) := if_neg (fun q => by first | exact h101 q.1 | exact h118 q.2.1 | exact q.2.2 h124)
                        have kk := ih2 (b + 1) (by omega) (by omega)
                        rw [e] at kk
                        exact kk
                      · refine k_aload0 (pc := 104) F dX8_shiftPairs_104 ?_
                        refine g_X8_speaker (pc := 105) F dX8_shiftPairs_105 ?_
                        refine k_iload6 (pc := 108) F dX8_shiftPairs_108 ?_
                        refine l_m2 (pc := 110) F (by omega) (hA.sp (show b < n by omega)) dX8_shiftPairs_110 ?_
                        refine k_aload0 (pc := 111) F dX8_shiftPairs_111 ?_
                        refine g_X8_speaker (pc := 112) F dX8_shiftPairs_112 ?_
                        refine k_iload4 (pc := 115) F dX8_shiftPairs_115 ?_
                        refine l_m2 (pc := 117) F (by omega) (hA.sp (show a < n by omega)) dX8_shiftPairs_117 ?_
                        refine k_icmp_ne (pc := 118) (tgt := 147) F dX8_shiftPairs_118 (by decide) (fun h118 => ?_) (fun h118 => ?_)
                        · refine k_iinc6 (pc := 147) F (by decide) dX8_shiftPairs_147 (inc_N _) ?_
                          refine k_goto (pc := 150) (tgt := 71) F dX8_shiftPairs_150 (by decide) ?_
                          refine k_fg7 (pc := 71) F ?_
                          have e : inn c s t p a (oun c s t n p k a) (b + 1) = (inn c s t p a (oun c s t n p k a) b) := if_neg (fun q => by first | exact h101 q.1 | exact h118 q.2.1 | exact q.2.2 h124)
                          have kk := ih2 (b + 1) (by omega) (by omega)
                          rw [e] at kk
                          exact kk
                        · refine k_iload7 (pc := 121) F dX8_shiftPairs_121 ?_
                          refine k_iconst (pc := 123) (v := -1) F dX8_shiftPairs_123 (by decide) ?_
                          refine k_icmp_ne (pc := 124) (tgt := 130) F dX8_shiftPairs_124 (by decide) (fun h124 => ?_) (fun h124 => ?_)
                          · refine k_iinc3 (pc := 130) F (by decide) dX8_shiftPairs_130 (inc_N _) ?_
                            refine k_aload0 (pc := 133) F dX8_shiftPairs_133 ?_
                            refine k_dup (pc := 134) F dX8_shiftPairs_134 rfl ?_
                            refine g_X8_shiftSum (pc := 135) F (up_s) dX8_shiftPairs_135 ?_
                            refine k_iload5 (pc := 138) F dX8_shiftPairs_138 ?_
                            refine k_iload7 (pc := 140) F dX8_shiftPairs_140 ?_
                            refine k_isub (pc := 142) F dX8_shiftPairs_142 ?_
                            refine k_iadd (pc := 143) F dX8_shiftPairs_143 ?_
                            refine p_X8_shiftSum (pc := 144) F dX8_shiftPairs_144 ?_
                            refine k_iinc6 (pc := 147) F (by decide) dX8_shiftPairs_147 (inc_N _) ?_
                            refine k_goto (pc := 150) (tgt := 71) F dX8_shiftPairs_150 (by decide) ?_
                            refine k_fg7 (pc := 71) F ?_
                            have e : inn c s t p a (oun c s t n p k a) (b + 1) = ((inn c s t p a (oun c s t n p k a) b).1 + 1, (inn c s t p a (oun c s t n p k a) b).2 + (t (a * 6 + p) - t (b * 6 + p))) := if_pos ⟨h101, h118, h124⟩
                            rw [up_u]
                            have kk := ih2 (b + 1) (by omega) (by omega)
                            rw [e] at kk
                            exact kk
                          · refine k_goto (pc := 127) (tgt := 147) F dX8_shiftPairs_127 (by decide) ?_
                            refine k_iinc6 (pc := 147) F (by decide) dX8_shiftPairs_147 (inc_N _) ?_
                            refine k_goto (pc := 150) (tgt := 71) F dX8_shiftPairs_150 (by decide) ?_
                            refine k_fg7 (pc := 71) F ?_
                            have e : inn c s t p a (oun c s t n p k a) (b + 1) = (inn c s t p a (oun c s t n p k a) b) := if_neg (fun q => by first | exact h101 q.1 | exact h118 q.2.1 | exact q.2.2 h124)
                            have kk := ih2 (b + 1) (by omega) (by omega)
                            rw [e] at kk
                            exact kk
                exact L71 (n + 1) 0 (by omega) (by omega)
              · refine k_goto (pc := 65) (tgt := 153) F dX8_shiftPairs_65 (by decide) ?_
                refine k_iinc4 (pc := 153) F (by decide) dX8_shiftPairs_153 (inc_N _) ?_
                refine k_goto (pc := 156) (tgt := 10) F dX8_shiftPairs_156 (by decide) ?_
                refine k_fg5 (pc := 10) F ?_
                have e : oun c s t n p k (a + 1) = oun c s t n p k a := if_neg (fun q => by first | exact h45 q.1 | exact q.2.1 h56 | exact q.2.2 h62)
                have kk := ih (a + 1) (by omega) (by omega) (fun q => absurd q (by omega))
                rw [e] at kk
                exact kk
  exact L10 (n + 1) 0 (by omega) (by omega) (fun _ => rfl)

set_option maxHeartbeats 4000000 in
theorem c_X8_shiftOf {l : Launch} {D : va_G} {cI : ClassId} {ad : Nat → Nat} {iv : IV} {ar : AR} {n : Nat} {c : Nat → Nat} {s t : Nat → Int32} (hA : MArc n c s t iv ar) (hT : okT n t) {k p : Nat} (hk : k < 4) (hp : p < 6) : Ct l D cI (mw cI ad) yX8_shiftOf cX8_shiftOf 4 (some .int) 1 27 [.ref (ad 0), .int (nI k), .int (nI p)] iv ar (rI (shf c s t n k p) (va_up iv 5 (ounz c s t n p k).2) ar) := by
  refine Ct.of (lv := [some (.ref (ad 0)), some (.int (nI k)), some (.int (nI p)), none]) mw_ok (plainFor_of_name (by decide)) (Nat.le_of_ble_eq_true rfl) 1 rfl rfl (fun Z F => ?_)
  have hn := hA.le
  have hl : (ounz c s t n p k).1 ≤ 900 := by
    unfold ounz
    split
    · exact Nat.zero_le _
    · exact oun_nn hn
  have hb : bnW (ounz c s t n p k) := by
    unfold ounz
    split
    · simp [bnW]
    · exact oun_B hT hp hn n (Nat.le_refl n)
  have hs : shf c s t n k p = mean (ounz c s t n p k) := by
    unfold shf ounz
    split <;> rfl
  obtain ⟨b1, b2⟩ := hb
  refine k_aload0 (pc := 0) F dX8_shiftOf_0 ?_
  refine k_iload1 (pc := 1) F dX8_shiftOf_1 ?_
  refine k_iload2 (pc := 2) F dX8_shiftOf_2 ?_
  refine k_callV (pc := 3) (q0 := 0) F (c_X8_shiftPairs hA hk hp) ok_X8_70 rfl rfl rfl rfl rfl (by decide) (by decide) (Nat.le_of_ble_eq_true rfl) dX8_shiftOf_3 (rI.use ?_)
  refine k_istore3 (pc := 6) F (by decide) dX8_shiftOf_6 ?_
  refine k_iload3 (pc := 7) F dX8_shiftOf_7 ?_
  refine k_if_neN (pc := 8) (tgt := 13) F dX8_shiftOf_8 (by decide) (by omega) (fun h8 => ?_) (fun h8 => ?_)
  · refine k_aload0 (pc := 13) F dX8_shiftOf_13 ?_
    refine g_X8_shiftSum (pc := 14) F (up_s) dX8_shiftOf_14 ?_
    refine k_if_lt (pc := 17) (tgt := 29) F dX8_shiftOf_17 (by decide) (fun h17 => ?_) (fun h17 => ?_)
    · refine k_iload3 (pc := 29) F dX8_shiftOf_29 ?_
      refine k_iconst (pc := 30) (v := nI 1) F dX8_shiftOf_30 (by decide) ?_
      refine k_isubN (pc := 31) F dX8_shiftOf_31 (by omega) ?_
      refine k_aload0 (pc := 32) F dX8_shiftOf_32 ?_
      refine g_X8_shiftSum (pc := 33) F (up_s) dX8_shiftOf_33 ?_
      refine k_isub (pc := 36) F dX8_shiftOf_36 ?_
      refine k_iload3 (pc := 37) F dX8_shiftOf_37 ?_
      refine k_idiv (pc := 38) F dX8_shiftOf_38 (nI_ne0 (by omega) (by omega)) ?_
      refine k_ineg (pc := 39) F dX8_shiftOf_39 ?_
      refine k_iret (pc := 40) F dX8_shiftOf_40 ?_
      exact ⟨by first | rw [hs, mean, if_neg h8, fdv_neg (by omega) (by omega) (by omega) h17] | rw [hs, mean, if_neg h8, fdv_pos (by omega) h17], rfl, rfl⟩
    · refine k_aload0 (pc := 20) F dX8_shiftOf_20 ?_
      refine g_X8_shiftSum (pc := 21) F (up_s) dX8_shiftOf_21 ?_
      refine k_iload3 (pc := 24) F dX8_shiftOf_24 ?_
      refine k_idiv (pc := 25) F dX8_shiftOf_25 (nI_ne0 (by omega) (by omega)) ?_
      refine k_goto (pc := 26) (tgt := 40) F dX8_shiftOf_26 (by decide) ?_
      refine k_iret (pc := 40) F dX8_shiftOf_40 ?_
      exact ⟨by first | rw [hs, mean, if_neg h8, fdv_neg (by omega) (by omega) (by omega) h17] | rw [hs, mean, if_neg h8, fdv_pos (by omega) h17], rfl, rfl⟩
  · refine k_iconst (pc := 11) (v := nI 0) F dX8_shiftOf_11 (by decide) ?_
    refine k_iret (pc := 12) F dX8_shiftOf_12 ?_
    exact ⟨by rw [hs, mean, if_pos h8]; rfl, rfl, rfl⟩

set_option maxHeartbeats 4000000 in
theorem c_X8_reckons {l : Launch} {D : va_G} {cI : ClassId} {ad : Nat → Nat} {iv : IV} {ar : AR} {n : Nat} {c : Nat → Nat} {s t : Nat → Int32} (hA : MArc n c s t iv ar) (hT : okT n t) : Ct l D cI (mw cI ad) yX8_reckons cX8_reckons 3 none 2 50 [.ref (ad 0)] iv ar (qV (fun iv2 ar2 => (∀ k, k ≠ 5 → iv2 k = iv k) ∧ (∀ k, k ≠ 5 → ar2 k = ar k) ∧ ∀ j, j < 24 → ar2 5 j = shA c s t n j)) := by
  refine Ct.of (lv := [some (.ref (ad 0)), none, none]) mw_ok (plainFor_of_name (by decide)) (Nat.le_of_ble_eq_true rfl) 2 rfl rfl (fun Z F => ?_)
  refine k_iconst (pc := 0) (v := nI 0) F dX8_reckons_0 (by decide) ?_
  refine k_istore1 (pc := 1) F (by decide) dX8_reckons_1 ?_
  have L2 : ∀ (fu : Nat) (k : Nat) (iv1 : IV) (ar1 : AR), 4 - k < fu → k ≤ 4 → (∀ k, k ≠ 5 → iv1 k = iv k) → (∀ k, k ≠ 5 → ar1 k = ar k) → (∀ j, j < 6 * k → ar1 5 j = shA c s t n j) → Z 2 [some (.ref (ad 0)), some (.int (nI k)), none] [] iv1 ar1 := by
    intro fu
    induction fu with
    | zero => intro k iv1 ar1 hfu; exact absurd hfu (Nat.not_lt_zero _)
    | succ fu ih =>
      intro k iv1 ar1 hfu hk f1 f2 hsh
      refine k_iload1 (pc := 2) F dX8_reckons_2 ?_
      refine k_iconst (pc := 3) (v := nI 4) F dX8_reckons_3 (by decide) ?_
      refine k_icmp_geN (pc := 4) (tgt := 44) F dX8_reckons_4 (by decide) (by omega) (by omega) (fun h4 => ?_) (fun h4 => ?_)
      · have e : k = 4 := by omega
        subst e
        refine k_vret (pc := 44) F dX8_reckons_44 ?_
        exact ⟨rfl, f1, f2, hsh⟩
      · refine k_iconst (pc := 7) (v := nI 0) F dX8_reckons_7 (by decide) ?_
        refine k_istore2 (pc := 8) F (by decide) dX8_reckons_8 ?_
        have L9 : ∀ (fu : Nat) (p : Nat) (iv2 : IV) (ar2 : AR), 6 - p < fu → p ≤ 6 → (∀ k, k ≠ 5 → iv2 k = iv k) → (∀ k, k ≠ 5 → ar2 k = ar k) → (∀ j, j < 6 * k + p → ar2 5 j = shA c s t n j) → Z 9 [some (.ref (ad 0)), some (.int (nI k)), some (.int (nI p))] [] iv2 ar2 := by
          intro fu
          induction fu with
          | zero => intro p iv2 ar2 hfu; exact absurd hfu (Nat.not_lt_zero _)
          | succ fu ih2 =>
            intro p iv2 ar2 hfu hp g1 g2 hs2
            have hA2 : MArc n c s t iv2 ar2 := hA.keep (g1 0 (by decide)) (g2 0 (by decide)) (g2 1 (by decide)) (g2 2 (by decide))
            refine k_iload2 (pc := 9) F dX8_reckons_9 ?_
            refine k_bipush (pc := 10) (v := nI 6) F dX8_reckons_10 (by decide) ?_
            refine k_icmp_geN (pc := 12) (tgt := 38) F dX8_reckons_12 (by decide) (by omega) (by omega) (fun h12 => ?_) (fun h12 => ?_)
            · have e : p = 6 := by omega
              subst e
              refine k_iinc1 (pc := 38) F (by decide) dX8_reckons_38 (inc_N _) ?_
              refine k_goto (pc := 41) (tgt := 2) F dX8_reckons_41 (by decide) ?_
              refine k_fg2 (pc := 2) F ?_
              exact ih (k + 1) _ _ (by omega) (by omega) g1 g2 (fun j hj => hs2 j (by omega))
            · refine k_aload0 (pc := 15) F dX8_reckons_15 ?_
              refine g_X8_shifts (pc := 16) F dX8_reckons_16 ?_
              refine k_bipush (pc := 19) (v := nI 6) F dX8_reckons_19 (by decide) ?_
              refine k_iload1 (pc := 21) F dX8_reckons_21 ?_
              refine k_imulN (pc := 22) F dX8_reckons_22 ?_
              refine k_iload2 (pc := 23) F dX8_reckons_23 ?_
              refine k_iaddN (pc := 24) F dX8_reckons_24 ?_
              refine k_aload0 (pc := 25) F dX8_reckons_25 ?_
              refine k_iload1 (pc := 26) F dX8_reckons_26 ?_
              refine k_iload2 (pc := 27) F dX8_reckons_27 ?_
              refine k_callV (pc := 28) (q0 := 0) F (c_X8_shiftOf hA2 hT (by omega) (by omega)) ok_X8_74 rfl rfl rfl rfl rfl (by decide) (by decide) (Nat.le_of_ble_eq_true rfl) dX8_reckons_28 (rI.use ?_)
              refine s_m5 (pc := 31) F (by omega) dX8_reckons_31 ?_
              refine k_iinc2 (pc := 32) F (by decide) dX8_reckons_32 (inc_N _) ?_
              refine k_goto (pc := 35) (tgt := 9) F dX8_reckons_35 (by decide) ?_
              refine ih2 (p + 1) _ _ (by omega) (by omega) (fun q hq => ?_) (fun q hq => ?_) (fun j hj => ?_)
              · rw [up_n hq]; exact g1 q hq
              · rw [up_n hq]; exact g2 q hq
              · rw [up_s]
                by_cases e : j = 6 * k + p
                · subst e
                  rw [upd_at, shA, show (6 * k + p) / 6 = k by omega, show (6 * k + p) % 6 = p by omega]
                · rw [upd_ne e]; exact hs2 j (by omega)
        exact L9 7 0 iv1 ar1 (by omega) (by omega) f1 f2 (fun j hj => hsh j (by omega))
  exact L2 5 0 iv ar (by omega) (by omega) (fun _ _ => rfl) (fun _ _ => rfl) (fun j hj => by omega)

set_option maxHeartbeats 4000000 in
theorem c_X8_scoreOf {l : Launch} {D : va_G} {cI : ClassId} {ad : Nat → Nat} {iv : IV} {ar : AR} {n : Nat} {c : Nat → Nat} {s t : Nat → Int32} (hA : MArc n c s t iv ar) {a b : Nat} (ha : a < n) (hb : b < n) : Ct l D cI (mw cI ad) yX8_scoreOf cX8_scoreOf 9 (some .int) 0 0 [.ref (ad 0), .int (nI a), .int (nI b)] iv ar (rI (sco c t (ar 5) a b) iv ar) := by
  refine Ct.of (lv := [some (.ref (ad 0)), some (.int (nI a)), some (.int (nI b)), none, none, none, none, none, none]) mw_ok (plainFor_of_name (by decide)) (Nat.le_of_ble_eq_true rfl) 6 rfl rfl (fun Z F => ?_)
  have hn := hA.le
  have hca := hA.lt ha
  have hcb := hA.lt hb
  refine k_iconst (pc := 0) (v := nI 0) F dX8_scoreOf_0 (by decide) ?_
  refine k_istore3 (pc := 1) F (by decide) dX8_scoreOf_1 ?_
  refine k_iconst (pc := 2) (v := nI 0) F dX8_scoreOf_2 (by decide) ?_
  refine k_istore4 (pc := 3) F (by decide) dX8_scoreOf_3 ?_
  refine k_iconst (pc := 5) (v := nI 0) F dX8_scoreOf_5 (by decide) ?_
  refine k_istore5 (pc := 6) F (by decide) dX8_scoreOf_6 ?_
  have L8 : ∀ (fu : Nat) (p : Nat), 6 - p < fu → p ≤ 6 → Z 8 [some (.ref (ad 0)), some (.int (nI a)), some (.int (nI b)), some (.int (nI (scw c t (ar 5) a b p).1)), some (.int (scw c t (ar 5) a b p).2), some (.int (nI p)), none, none, none] [] iv ar := by
    intro fu
    induction fu with
    | zero => intro p hfu; exact absurd hfu (Nat.not_lt_zero _)
    | succ fu ih =>
      intro p hfu hp
      refine k_iload5 (pc := 8) F dX8_scoreOf_8 ?_
      refine k_bipush (pc := 10) (v := nI 6) F dX8_scoreOf_10 (by decide) ?_
      refine k_icmp_geN (pc := 12) (tgt := 128) F dX8_scoreOf_12 (by decide) (by omega) (by omega) (fun h12 => ?_) (fun h12 => ?_)
      · have e : p = 6 := by omega
        subst e
        have hle := scw_le c t (ar 5) a b 6
        refine k_iload3 (pc := 128) F dX8_scoreOf_128 ?_
        refine k_iconst (pc := 129) (v := nI 3) F dX8_scoreOf_129 (by decide) ?_
        refine k_icmp_geN (pc := 130) (tgt := 137) F dX8_scoreOf_130 (by decide) (by omega) (by omega) (fun h130 => ?_) (fun h130 => ?_)
        · refine k_bipush (pc := 137) (v := nI 6) F dX8_scoreOf_137 (by decide) ?_
          refine k_iload4 (pc := 139) F dX8_scoreOf_139 ?_
          refine k_imul (pc := 141) F dX8_scoreOf_141 ?_
          refine k_iload3 (pc := 142) F dX8_scoreOf_142 ?_
          refine k_idiv (pc := 143) F dX8_scoreOf_143 (nI_ne0 (by omega) (by omega)) ?_
          refine k_iret (pc := 144) F dX8_scoreOf_144 ?_
          exact ⟨by first | rw [sco, if_neg (by omega), Int32.mul_comm] | rw [sco, if_pos (by omega)], rfl, rfl⟩
        · refine k_iconst (pc := 133) (v := -1) F dX8_scoreOf_133 (by decide) ?_
          refine k_goto (pc := 134) (tgt := 144) F dX8_scoreOf_134 (by decide) ?_
          refine k_iret (pc := 144) F dX8_scoreOf_144 ?_
          exact ⟨by first | rw [sco, if_neg (by omega), Int32.mul_comm] | rw [sco, if_pos (by omega)], rfl, rfl⟩
      · refine k_aload0 (pc := 15) F dX8_scoreOf_15 ?_
        refine g_X8_tone (pc := 16) F dX8_scoreOf_16 ?_
        refine k_bipush (pc := 19) (v := nI 6) F dX8_scoreOf_19 (by decide) ?_
        refine k_iload1 (pc := 21) F dX8_scoreOf_21 ?_
        refine k_imulN (pc := 22) F dX8_scoreOf_22 ?_
        refine k_iload5 (pc := 23) F dX8_scoreOf_23 ?_
        refine k_iaddN (pc := 25) F dX8_scoreOf_25 ?_
        refine l_m0 (pc := 26) F (by omega) (hA.tn ha (by omega)) dX8_scoreOf_26 ?_
        refine k_istore6 (pc := 27) F (by decide) dX8_scoreOf_27 ?_
        refine k_aload0 (pc := 29) F dX8_scoreOf_29 ?_
        refine g_X8_tone (pc := 30) F dX8_scoreOf_30 ?_
        refine k_bipush (pc := 33) (v := nI 6) F dX8_scoreOf_33 (by decide) ?_
        refine k_iload2 (pc := 35) F dX8_scoreOf_35 ?_
        refine k_imulN (pc := 36) F dX8_scoreOf_36 ?_
        refine k_iload5 (pc := 37) F dX8_scoreOf_37 ?_
        refine k_iaddN (pc := 39) F dX8_scoreOf_39 ?_
        refine l_m0 (pc := 40) F (by omega) (hA.tn hb (by omega)) dX8_scoreOf_40 ?_
        refine k_istore7 (pc := 41) F (by decide) dX8_scoreOf_41 ?_
        refine k_iload6 (pc := 43) F dX8_scoreOf_43 ?_
        refine k_iconst (pc := 45) (v := -1) F dX8_scoreOf_45 (by decide) ?_
        refine k_icmp_eq (pc := 46) (tgt := 122) F dX8_scoreOf_46 (by decide) (fun h46 => ?_) (fun h46 => ?_)
        · refine k_iinc5 (pc := 122) F (by decide) dX8_scoreOf_122 (inc_N _) ?_
          refine k_goto (pc := 125) (tgt := 8) F dX8_scoreOf_125 (by decide) ?_
          refine k_fg6 (pc := 8) F ?_
          refine k_fg7 (pc := 8) F ?_
          have e : scw c t (ar 5) a b (p + 1) = scw c t (ar 5) a b p := if_neg (fun q => by first | exact q.1 h46 | exact q.2 h52)
          have k := ih (p + 1) (by omega) (by omega)
          rw [e] at k
          exact k
        · refine k_iload7 (pc := 49) F dX8_scoreOf_49 ?_
          refine k_iconst (pc := 51) (v := -1) F dX8_scoreOf_51 (by decide) ?_
          refine k_icmp_ne (pc := 52) (tgt := 58) F dX8_scoreOf_52 (by decide) (fun h52 => ?_) (fun h52 => ?_)
          · refine k_iload6 (pc := 58) F dX8_scoreOf_58 ?_
            refine k_aload0 (pc := 60) F dX8_scoreOf_60 ?_
            refine g_X8_shifts (pc := 61) F dX8_scoreOf_61 ?_
            refine k_bipush (pc := 64) (v := nI 6) F dX8_scoreOf_64 (by decide) ?_
            refine k_aload0 (pc := 66) F dX8_scoreOf_66 ?_
            refine g_X8_channel (pc := 67) F dX8_scoreOf_67 ?_
            refine k_iload1 (pc := 70) F dX8_scoreOf_70 ?_
            refine l_m1 (pc := 71) F (by omega) (hA.ch ha) dX8_scoreOf_71 ?_
            refine k_imulN (pc := 72) F dX8_scoreOf_72 ?_
            refine k_iload5 (pc := 73) F dX8_scoreOf_73 ?_
            refine k_iaddN (pc := 75) F dX8_scoreOf_75 ?_
            refine l_m5 (pc := 76) F (by omega) (show ar 5 (6 * c a + p) = ar 5 (c a * 6 + p) by rw [Nat.mul_comm]) dX8_scoreOf_76 ?_
            refine k_isub (pc := 77) F dX8_scoreOf_77 ?_
            refine k_iload7 (pc := 78) F dX8_scoreOf_78 ?_
            refine k_isub (pc := 80) F dX8_scoreOf_80 ?_
            refine k_aload0 (pc := 81) F dX8_scoreOf_81 ?_
            refine g_X8_shifts (pc := 82) F dX8_scoreOf_82 ?_
            refine k_bipush (pc := 85) (v := nI 6) F dX8_scoreOf_85 (by decide) ?_
            refine k_aload0 (pc := 87) F dX8_scoreOf_87 ?_
            refine g_X8_channel (pc := 88) F dX8_scoreOf_88 ?_
            refine k_iload2 (pc := 91) F dX8_scoreOf_91 ?_
            refine l_m1 (pc := 92) F (by omega) (hA.ch hb) dX8_scoreOf_92 ?_
            refine k_imulN (pc := 93) F dX8_scoreOf_93 ?_
            refine k_iload5 (pc := 94) F dX8_scoreOf_94 ?_
            refine k_iaddN (pc := 96) F dX8_scoreOf_96 ?_
            refine l_m5 (pc := 97) F (by omega) (show ar 5 (6 * c b + p) = ar 5 (c b * 6 + p) by rw [Nat.mul_comm]) dX8_scoreOf_97 ?_
            refine k_iadd (pc := 98) F dX8_scoreOf_98 ?_
            refine k_istore8 (pc := 99) F (by decide) dX8_scoreOf_99 ?_
            refine k_iinc3 (pc := 101) F (by decide) dX8_scoreOf_101 (inc_N _) ?_
            refine k_iload4 (pc := 104) F dX8_scoreOf_104 ?_
            refine k_iload8 (pc := 106) F dX8_scoreOf_106 ?_
            refine k_if_ge (pc := 108) (tgt := 117) F dX8_scoreOf_108 (by decide) (fun h108 => ?_) (fun h108 => ?_)
            · refine k_iload8 (pc := 117) F dX8_scoreOf_117 ?_
              refine k_iadd (pc := 119) F dX8_scoreOf_119 ?_
              refine k_istore4 (pc := 120) F (by decide) dX8_scoreOf_120 ?_
              refine k_iinc5 (pc := 122) F (by decide) dX8_scoreOf_122 (inc_N _) ?_
              refine k_goto (pc := 125) (tgt := 8) F dX8_scoreOf_125 (by decide) ?_
              refine k_fg6 (pc := 8) F ?_
              refine k_fg7 (pc := 8) F ?_
              refine k_fg8 (pc := 8) F ?_
              have e : scw c t (ar 5) a b (p + 1) = (((scw c t (ar 5) a b p).1 + 1), (scw c t (ar 5) a b p).2 + iabs ((t (a * 6 + p) - ar 5 (c a * 6 + p)) - (t (b * 6 + p) - ar 5 (c b * 6 + p)))) := if_pos ⟨h46, h52⟩
              rw [← ring1] at e
              unfold iabs at e
              have k := ih (p + 1) (by omega) (by omega)
              rw [e] at k
              first | (rw [if_pos (by rw [i_lt, toInt_0]; rw [i_le, toInt_0] at h108; omega)] at k; exact k) | (rw [if_neg (by rw [i_lt, toInt_0]; rw [i_le, toInt_0] at h108; omega)] at k; exact k)
            · refine k_iload8 (pc := 111) F dX8_scoreOf_111 ?_
              refine k_ineg (pc := 113) F dX8_scoreOf_113 ?_
              refine k_goto (pc := 114) (tgt := 119) F dX8_scoreOf_114 (by decide) ?_
              refine k_iadd (pc := 119) F dX8_scoreOf_119 ?_
              refine k_istore4 (pc := 120) F (by decide) dX8_scoreOf_120 ?_
              refine k_iinc5 (pc := 122) F (by decide) dX8_scoreOf_122 (inc_N _) ?_
              refine k_goto (pc := 125) (tgt := 8) F dX8_scoreOf_125 (by decide) ?_
              refine k_fg6 (pc := 8) F ?_
              refine k_fg7 (pc := 8) F ?_
              refine k_fg8 (pc := 8) F ?_
              have e : scw c t (ar 5) a b (p + 1) = (((scw c t (ar 5) a b p).1 + 1), (scw c t (ar 5) a b p).2 + iabs ((t (a * 6 + p) - ar 5 (c a * 6 + p)) - (t (b * 6 + p) - ar 5 (c b * 6 + p)))) := if_pos ⟨h46, h52⟩
              rw [← ring1] at e
              unfold iabs at e
              have k := ih (p + 1) (by omega) (by omega)
              rw [e] at k
              first | (rw [if_pos (by rw [i_lt, toInt_0]; rw [i_le, toInt_0] at h108; omega)] at k; exact k) | (rw [if_neg (by rw [i_lt, toInt_0]; rw [i_le, toInt_0] at h108; omega)] at k; exact k)
          · refine k_goto (pc := 55) (tgt := 122) F dX8_scoreOf_55 (by decide) ?_
            refine k_iinc5 (pc := 122) F (by decide) dX8_scoreOf_122 (inc_N _) ?_
            refine k_goto (pc := 125) (tgt := 8) F dX8_scoreOf_125 (by decide) ?_
            refine k_fg6 (pc := 8) F ?_
            refine k_fg7 (pc := 8) F ?_
            have e : scw c t (ar 5) a b (p + 1) = scw c t (ar 5) a b p := if_neg (fun q => by first | exact q.1 h46 | exact q.2 h52)
            have k := ih (p + 1) (by omega) (by omega)
            rw [e] at k
            exact k
  exact L8 7 0 (by omega) (by omega)

set_option maxHeartbeats 4000000 in
theorem c_X8_isOf {l : Launch} {D : va_G} {cI : ClassId} {ad : Nat → Nat} {iv : IV} {ar : AR} {n : Nat} {c : Nat → Nat} {s t : Nat → Int32} (hA : MArc n c s t iv ar) {k : Nat} (hk : k < n) : Ct l D cI (mw cI ad) yX8_isOf cX8_isOf 2 (some .boolean) 0 0 [.ref (ad 0), .int (nI k)] iv ar (rI (bI (ofS (iv 1) (s k))) iv ar) := by
  refine Ct.of (lv := [some (.ref (ad 0)), some (.int (nI k))]) mw_ok (plainFor_of_name (by decide)) (Nat.le_of_ble_eq_true rfl) 0 rfl rfl (fun Z F => ?_)
  have hn := hA.le
  refine k_aload0 (pc := 0) F dX8_isOf_0 ?_
  refine g_X8_speaker (pc := 1) F dX8_isOf_1 ?_
  refine k_iload1 (pc := 4) F dX8_isOf_4 ?_
  refine l_m2 (pc := 5) F (by omega) (hA.sp hk) dX8_isOf_5 ?_
  refine k_iconst (pc := 6) (v := -1) F dX8_isOf_6 (by decide) ?_
  refine k_icmp_eq (pc := 7) (tgt := 31) F dX8_isOf_7 (by decide) (fun h7 => ?_) (fun h7 => ?_)
  · refine k_iconst (pc := 31) (v := nI 0) F dX8_isOf_31 (by decide) ?_
    refine k_zret (pc := 32) F dX8_isOf_32 (by decide) ?_
    exact ret0 (by first | exact ⟨h7, h24⟩ | exact fun q => q.1 h7 | exact fun q => h24 q.2)
  · refine k_aload0 (pc := 10) F dX8_isOf_10 ?_
    refine g_X8_set (pc := 11) F (rfl) dX8_isOf_11 ?_
    refine k_aload0 (pc := 14) F dX8_isOf_14 ?_
    refine g_X8_speaker (pc := 15) F dX8_isOf_15 ?_
    refine k_iload1 (pc := 18) F dX8_isOf_18 ?_
    refine l_m2 (pc := 19) F (by omega) (hA.sp hk) dX8_isOf_19 ?_
    refine k_ishr (pc := 20) F dX8_isOf_20 ?_
    refine k_iconst (pc := 21) (v := nI 1) F dX8_isOf_21 (by decide) ?_
    refine k_iand (pc := 22) F dX8_isOf_22 ?_
    refine k_iconst (pc := 23) (v := nI 1) F dX8_isOf_23 (by decide) ?_
    refine k_icmp_ne (pc := 24) (tgt := 31) F dX8_isOf_24 (by decide) (fun h24 => ?_) (fun h24 => ?_)
    · refine k_iconst (pc := 31) (v := nI 0) F dX8_isOf_31 (by decide) ?_
      refine k_zret (pc := 32) F dX8_isOf_32 (by decide) ?_
      exact ret0 (by first | exact ⟨h7, h24⟩ | exact fun q => q.1 h7 | exact fun q => h24 q.2)
    · refine k_iconst (pc := 27) (v := nI 1) F dX8_isOf_27 (by decide) ?_
      refine k_goto (pc := 28) (tgt := 32) F dX8_isOf_28 (by decide) ?_
      refine k_zret (pc := 32) F dX8_isOf_32 (by decide) ?_
      exact ret1 (by first | exact ⟨h7, h24⟩ | exact fun q => q.1 h7 | exact fun q => h24 q.2)

/-- the BAND of a score -/
def bnd (v : Nat) : Nat := if 9 < v / 10 then 9 else v / 10
theorem bnd_lt (v : Nat) : bnd v < 10 := by
  unfold bnd
  split <;> omega
set_option maxHeartbeats 4000000 in
theorem c_X8_bandOf {l : Launch} {D : va_G} {cI : ClassId} {wf : WF} {iv : IV} {ar : AR} (hwf : wfOk wf) {v : Nat} (hv : v < 2 ^ 31) : Ct l D cI wf yX8_bandOf cX8_bandOf 1 (some .int) 0 0 [.int (nI v)] iv ar (rI (nI (bnd v)) iv ar) := by
  refine Ct.of (lv := [some (.int (nI v))]) hwf (plainFor_of_name (by decide)) (Nat.le_of_ble_eq_true rfl) 0 rfl rfl (fun Z F => ?_)
  refine k_iload0 (pc := 0) F dX8_bandOf_0 ?_
  refine k_bipush (pc := 1) (v := nI 10) F dX8_bandOf_1 (by decide) ?_
  refine k_idiv (pc := 3) F dX8_bandOf_3 (by decide) ?_
  refine k_top (y := nI (v / 10)) (pk_div hv (by decide) (by decide)) ?_
  refine k_bipush (pc := 4) (v := nI 9) F dX8_bandOf_4 (by decide) ?_
  refine k_icmp_leN (pc := 6) (tgt := 14) F dX8_bandOf_6 (by decide) (by omega) (by omega) (fun h6 => ?_) (fun h6 => ?_)
  · refine k_iload0 (pc := 14) F dX8_bandOf_14 ?_
    refine k_bipush (pc := 15) (v := nI 10) F dX8_bandOf_15 (by decide) ?_
    refine k_idiv (pc := 17) F dX8_bandOf_17 (by decide) ?_
    refine k_top (y := nI (v / 10)) (pk_div hv (by decide) (by decide)) ?_
    refine k_iret (pc := 18) F dX8_bandOf_18 ?_
    exact ⟨by first | rw [bnd, if_pos (by omega)] | rw [bnd, if_neg (by omega)], rfl, rfl⟩
  · refine k_bipush (pc := 9) (v := nI 9) F dX8_bandOf_9 (by decide) ?_
    refine k_goto (pc := 11) (tgt := 18) F dX8_bandOf_11 (by decide) ?_
    refine k_iret (pc := 18) F dX8_bandOf_18 ?_
    exact ⟨by first | rw [bnd, if_pos (by omega)] | rw [bnd, if_neg (by omega)], rfl, rfl⟩

set_option maxHeartbeats 4000000 in
theorem c_X7_bandOf {l : Launch} {D : va_G} {cI : ClassId} {wf : WF} {iv : IV} {ar : AR} (hwf : wfOk wf) {v : Nat} (hv : v < 2 ^ 31) : Ct l D cI wf yX7_bandOf cX7_bandOf 1 (some .int) 1 21 [.int (nI v)] iv ar (rI (nI (bnd v)) iv ar) := by
  refine Ct.of (lv := [some (.int (nI v))]) hwf (plainFor_of_name (by decide)) (Nat.le_of_ble_eq_true rfl) 0 rfl rfl (fun Z F => ?_)
  refine k_iload0 (pc := 0) F dX7_bandOf_0 ?_
  refine k_bipush (pc := 1) (v := nI 10) F dX7_bandOf_1 (by decide) ?_
  refine k_idiv (pc := 3) F dX7_bandOf_3 (by decide) ?_
  refine k_top (y := nI (v / 10)) (pk_div hv (by decide) (by decide)) ?_
  refine k_bipush (pc := 4) (v := nI 9) F dX7_bandOf_4 (by decide) ?_
  refine k_callS (pc := 6) F (c_J9_min_7cf53 hwf) ok_X7_239 rfl rfl (by decide) (by decide) (Nat.le_of_ble_eq_true rfl) dX7_bandOf_6 (rI.use ?_)
  refine k_iret (pc := 9) F dX7_bandOf_9 ?_
  exact ⟨by
    have e : (nI 9 < nI (v / 10)) ↔ 9 < v / 10 := nI_ltI (by decide) (by omega)
    unfold bnd
    by_cases q : 9 < v / 10
    · rw [if_pos q, if_pos (e.mpr q)]
    · rw [if_neg q, if_neg (fun z => q (e.mp z))], rfl, rfl⟩
end
section
/-! Pure: PAIRS by BANDS, BLOCKS. -/
def smN (f : Nat → Nat) : Nat → Nat
  | 0 => 0
  | k + 1 => smN f k + f k
theorem smN_out (f : Nat → Nat) (i v : Nat) : ∀ n, n ≤ i → smN (va_up f i v) n = smN f n
  | 0, _ => rfl
  | n + 1, h => by rw [smN, smN, smN_out f i v n (by omega), up_n (by omega)]
theorem smN_bump (f : Nat → Nat) {i : Nat} : ∀ n, i < n → smN (va_up f i (f i + 1)) n = smN f n + 1
  | 0, h => absurd h (Nat.not_lt_zero i)
  | n + 1, h => by
    rw [smN, smN]
    rcases Nat.lt_or_ge i n with q | q
    · rw [smN_bump f n q, up_n (by omega)]
      omega
    · have e : n = i := by omega
      subst e
      rw [smN_out f n _ n (Nat.le_refl n), up_s]
      omega
theorem smN_congr {f g : Nat → Nat} : ∀ n, (∀ k, k < n → f k = g k) → smN f n = smN g n
  | 0, _ => rfl
  | n + 1, h => by rw [smN, smN, smN_congr n (fun k hk => h k (by omega)), h n (by omega)]
abbrev WT : Type := (Nat → Nat) × (Nat → Nat)
def bS (x : Int32) : Nat := bnd x.toNatClampNeg
theorem bS_nI {v : Nat} (h : v < 2 ^ 31) : bS (nI v) = bnd v := by rw [bS, nI_clamp h]
def cp1 (S : Nat → Nat → Int32) (s : Nat → Int32) (a b : Nat) (w : WT) : WT := if S a b = -1 then w else if s a = s b then (va_up w.1 (bS (S a b)) (w.1 (bS (S a b)) + 1), w.2) else (w.1, va_up w.2 (bS (S a b)) (w.2 (bS (S a b)) + 1))
def cpr (S : Nat → Nat → Int32) (s : Nat → Int32) (set : Int32) (a b : Nat) (w : WT) : WT := if ofS set (s a) ∧ ofS set (s b) then cp1 S s a b w else w
def cin (S : Nat → Nat → Int32) (s : Nat → Int32) (set : Int32) (b : Nat) (z : WT) : Nat → WT
  | 0 => z
  | a + 1 => cpr S s set a b (cin S s set b z a)
def cou (S : Nat → Nat → Int32) (s : Nat → Int32) (set : Int32) : Nat → WT
  | 0 => (fun _ => 0, fun _ => 0)
  | b + 1 => cin S s set b (cou S s set b) b
theorem cp1_le (S : Nat → Nat → Int32) (s : Nat → Int32) (a b : Nat) (w : WT) (k : Nat) : (cp1 S s a b w).1 k ≤ w.1 k + 1 ∧ (cp1 S s a b w).2 k ≤ w.2 k + 1 := by
  unfold cp1
  split
  · exact ⟨by omega, by omega⟩
  · split
    · refine ⟨?_, by dsimp only; omega⟩
      dsimp only [va_up]
      split
      · next h => rw [h]; exact Nat.le_refl _
      · omega
    · refine ⟨by dsimp only; omega, ?_⟩
      dsimp only [va_up]
      split
      · next h => rw [h]; exact Nat.le_refl _
      · omega
theorem cin_le (S : Nat → Nat → Int32) (s : Nat → Int32) (set : Int32) (b : Nat) (z : WT) (k : Nat) : ∀ a, (cin S s set b z a).1 k ≤ z.1 k + a ∧ (cin S s set b z a).2 k ≤ z.2 k + a
  | 0 => ⟨Nat.le_refl _, Nat.le_refl _⟩
  | a + 1 => by
    have ih := cin_le S s set b z k a
    rw [cin, cpr]
    split
    · have h := cp1_le S s a b (cin S s set b z a) k
      omega
    · omega
theorem cou_le (S : Nat → Nat → Int32) (s : Nat → Int32) (set : Int32) (k : Nat) : ∀ b, b ≤ 30 → (cou S s set b).1 k ≤ b * 30 ∧ (cou S s set b).2 k ≤ b * 30
  | 0, _ => ⟨Nat.le_refl _, Nat.le_refl _⟩
  | b + 1, hb => by
    have ih := cou_le S s set k b (by omega)
    have h := cin_le S s set b (cou S s set b) k b
    rw [cou]
    omega
/-- counts are small -/
def okC (w : WT) : Prop := ∀ k, w.1 k ≤ 900 ∧ w.2 k ≤ 900
theorem cou_ok {S : Nat → Nat → Int32} {s : Nat → Int32} {set : Int32} {n : Nat} (hn : n ≤ 30) : okC (cou S s set n) := fun k => by
  have h := cou_le S s set k n hn
  omega
theorem cp1_congr {S S2 : Nat → Nat → Int32} {s s2 : Nat → Int32} {a b : Nat} (h : S a b = S2 a b) (ha : s a = s2 a) (hb : s b = s2 b) (w : WT) : cp1 S s a b w = cp1 S2 s2 a b w := by
  unfold cp1
  rw [h, ha, hb]
theorem cin_congr {S S2 : Nat → Nat → Int32} {s s2 : Nat → Int32} {set : Int32} {b n : Nat} (hS : ∀ a b, a < n → b < n → S a b = S2 a b) (hs : ∀ a, a < n → s a = s2 a) (hb : b < n) (z : WT) : ∀ a, a ≤ n → cin S s set b z a = cin S2 s2 set b z a
  | 0, _ => rfl
  | a + 1, ha => by
    rw [cin, cin, cin_congr hS hs hb z a (by omega), cpr, cpr, cp1_congr (hS a b (by omega) hb) (hs a (by omega)) (hs b hb), hs a (by omega), hs b hb]
theorem cou_congr {S S2 : Nat → Nat → Int32} {s s2 : Nat → Int32} {set : Int32} {n : Nat} (hS : ∀ a b, a < n → b < n → S a b = S2 a b) (hs : ∀ a, a < n → s a = s2 a) : ∀ b, b ≤ n → cou S s set b = cou S2 s2 set b
  | 0, _ => rfl
  | b + 1, hb => by rw [cou, cou, cou_congr hS hs b (by omega), cin_congr hS hs (by omega) _ b (by omega)]
/-! BLOCKS: how many, first BAND, last BAND, SAME, OTHER of each -/
abbrev BT : Type := Nat × (Nat → Nat) × (Nat → Nat) × (Nat → Nat) × (Nat → Nat)
abbrev bm (b : BT) : Nat := b.1
abbrev bf (b : BT) : Nat → Nat := b.2.1
abbrev bl (b : BT) : Nat → Nat := b.2.2.1
abbrev bs (b : BT) : Nat → Nat := b.2.2.2.1
abbrev bo (b : BT) : Nat → Nat := b.2.2.2.2
def mkB (w : WT) : Nat → BT
  | 0 => (0, fun _ => 0, fun _ => 0, fun _ => 0, fun _ => 0)
  | k + 1 => if w.1 k + w.2 k = 0 then mkB w k else (bm (mkB w k) + 1, va_up (bf (mkB w k)) (bm (mkB w k)) k, va_up (bl (mkB w k)) (bm (mkB w k)) k, va_up (bs (mkB w k)) (bm (mkB w k)) (w.1 k), va_up (bo (mkB w k)) (bm (mkB w k)) (w.2 k))
theorem mkB_le (w : WT) : ∀ k, bm (mkB w k) ≤ k
  | 0 => Nat.le_refl 0
  | k + 1 => by
    have ih := mkB_le w k
    rw [mkB]
    split
    · omega
    · show bm (mkB w k) + 1 ≤ k + 1
      omega
/-- two BLOCKS side by side are out of order -/
abbrev oo (b : BT) (i : Nat) : Prop := nI (bs b i * (bs b (i + 1) + bo b (i + 1))) ≤ nI (bs b (i + 1) * (bs b i + bo b i))
def foF (b : BT) : Nat → Nat → Option Nat
  | 0, _ => none
  | f + 1, i => if i + 1 < bm b then (if oo b i then some i else foF b f (i + 1)) else none
/-- the first two out of order, if there are such -/
def foB (b : BT) : Option Nat := foF b 10 0
theorem foF_none {b : BT} : ∀ (f i : Nat), bm b ≤ i + f → (∀ j, i ≤ j → j + 1 < bm b → ¬ oo b j) → foF b f i = none
  | 0, _, _, _ => rfl
  | f + 1, i, hf, h => by
    rw [foF]
    split
    · next h1 => rw [if_neg (h i (Nat.le_refl i) h1)]; exact foF_none f (i + 1) (by omega) (fun j hj => h j (by omega))
    · rfl
theorem foF_some {b : BT} {k : Nat} (hk : k + 1 < bm b) (hok : oo b k) : ∀ (f i : Nat), i ≤ k → k < i + f → (∀ j, i ≤ j → j < k → ¬ oo b j) → foF b f i = some k
  | 0, i, h1, h2, _ => by omega
  | f + 1, i, h1, h2, h => by
    rw [foF, if_pos (by omega)]
    by_cases e : i = k
    · subst e; rw [if_pos hok]
    · rw [if_neg (h i (Nat.le_refl i) (by omega))]
      exact foF_some hk hok f (i + 1) (by omega) (by omega) (fun j hj => h j (by omega))
theorem foF_spec {b : BT} {k : Nat} : ∀ (f i : Nat), foF b f i = some k → i ≤ k ∧ k + 1 < bm b ∧ oo b k
  | 0, i, h => by cases h
  | f + 1, i, h => by
    rw [foF] at h
    split at h
    · next h1 =>
      split at h
      · next h2 => cases h; exact ⟨Nat.le_refl _, h1, h2⟩
      · have := foF_spec f (i + 1) h
        exact ⟨by omega, this.2⟩
    · cases h
theorem foB_none {b : BT} (hm : bm b ≤ 10) (h : ∀ j, j + 1 < bm b → ¬ oo b j) : foB b = none := foF_none 10 0 (by omega) (fun j _ => h j)
theorem foB_some {b : BT} {k : Nat} (hm : bm b ≤ 10) (hk : k + 1 < bm b) (hok : oo b k) (h : ∀ j, j < k → ¬ oo b j) : foB b = some k := foF_some hk hok 10 0 (by omega) (by omega) (fun j _ => h j)
/-- two put together -/
def mrg (b : BT) (i : Nat) : BT := (bm b - 1, fun j => if j ≤ i then bf b j else bf b (j + 1), fun j => if j < i then bl b j else bl b (j + 1), fun j => if j < i then bs b j else if j = i then bs b i + bs b (i + 1) else bs b (j + 1), fun j => if j < i then bo b j else if j = i then bo b i + bo b (i + 1) else bo b (j + 1))
def bfin : Nat → BT → BT
  | 0, b => b
  | f + 1, b => match foB b with
    | none => b
    | some i => bfin f (mrg b i)
theorem bfin_n {f : Nat} {b : BT} (h : foB b = none) : bfin f b = b := by
  cases f with
  | zero => rfl
  | succ f => rw [bfin, h]
theorem bfin_s {f i : Nat} {b : BT} (h : foB b = some i) : bfin (f + 1) b = bfin f (mrg b i) := by rw [bfin, h]
theorem bfin_st : ∀ (f : Nat) (b : BT), bm b ≤ f → bfin (f + 1) b = bfin f b
  | 0, b, h => by
    have h1 : foB b = none := foB_none (by omega) (fun j hj => by omega)
    rw [bfin_n h1, bfin_n h1]
  | f + 1, b, h => by
    cases hq : foB b with
    | none => rw [bfin_n hq, bfin_n hq]
    | some i => rw [bfin_s hq, bfin_s hq, bfin_st f (mrg b i) (by show bm b - 1 ≤ f; omega)]
theorem bfin_ge : ∀ (g f : Nat) (b : BT), bm b ≤ f → bfin (f + g) b = bfin f b
  | 0, f, b, h => rfl
  | g + 1, f, b, h => by rw [show f + (g + 1) = (f + g) + 1 from rfl, bfin_st (f + g) b (by omega), bfin_ge g f b h]
/-- the BLOCKS of a count -/
def blk (w : WT) : BT := bfin 10 (mkB w 10)
theorem bm_bfin : ∀ (f : Nat) (b : BT), bm (bfin f b) ≤ bm b
  | 0, b => Nat.le_refl _
  | f + 1, b => by
    cases hq : foB b with
    | none => rw [bfin_n hq]; exact Nat.le_refl _
    | some i =>
      rw [bfin_s hq]
      have h := bm_bfin f (mrg b i)
      have h2 : bm (mrg b i) = bm b - 1 := rfl
      omega
theorem blk_le (w : WT) : bm (blk w) ≤ 10 := Nat.le_trans (bm_bfin 10 _) (mkB_le w 10)
/-- the BLOCK in which a BAND is: the first whose last BAND isn't ahead of it -/
def fbF (b : BT) (k : Nat) : Nat → Nat → Option Nat
  | 0, _ => none
  | f + 1, i => if i < bm b then (if k ≤ bl b i then some i else fbF b k f (i + 1)) else none
def fbk (w : WT) (k : Nat) : Option Nat := if w.1 k + w.2 k = 0 then none else fbF (blk w) k 11 0
theorem fbF_none {b : BT} {k : Nat} : ∀ (f i : Nat), bm b ≤ i + f → (∀ j, i ≤ j → j < bm b → ¬ k ≤ bl b j) → fbF b k f i = none
  | 0, _, _, _ => rfl
  | f + 1, i, hf, h => by
    rw [fbF]
    split
    · next h1 => rw [if_neg (h i (Nat.le_refl i) h1)]; exact fbF_none f (i + 1) (by omega) (fun j hj => h j (by omega))
    · rfl
theorem fbF_some {b : BT} {k q : Nat} (hq : q < bm b) (hk : k ≤ bl b q) : ∀ (f i : Nat), i ≤ q → q < i + f → (∀ j, i ≤ j → j < q → ¬ k ≤ bl b j) → fbF b k f i = some q
  | 0, i, h1, h2, _ => by omega
  | f + 1, i, h1, h2, h => by
    rw [fbF, if_pos (by omega)]
    by_cases e : i = q
    · subst e; rw [if_pos hk]
    · rw [if_neg (h i (Nat.le_refl i) (by omega))]
      exact fbF_some hq hk f (i + 1) (by omega) (by omega) (fun j hj => h j (by omega))
theorem fbF_lt {b : BT} {k q : Nat} : ∀ (f i : Nat), fbF b k f i = some q → q < bm b
  | 0, i, h => by cases h
  | f + 1, i, h => by
    rw [fbF] at h
    split at h
    · next h1 =>
      split at h
      · cases h; exact h1
      · exact fbF_lt f (i + 1) h
    · cases h
theorem fbk_lt {w : WT} {k q : Nat} (h : fbk w k = some q) : q < bm (blk w) := by
  unfold fbk at h
  split at h
  · cases h
  · exact fbF_lt 11 0 h
end
