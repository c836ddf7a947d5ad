set_option maxRecDepth 20000 in
theorem w_1 : (Jvm.Cond.initialized "VoiceHouse") ∈ tG := mG (List.mem_append_right _ (List.mem_append_left _ (List.mem_of_getElem? (i := 1) rfl))) rfl
set_option maxRecDepth 20000 in
theorem w_2 : (Jvm.Cond.initialized "VoiceHouse$Archive") ∈ tG := mG (List.mem_append_right _ (List.mem_append_left _ (List.mem_of_getElem? (i := 2) rfl))) rfl
set_option maxRecDepth 20000 in
theorem w_3 : (Jvm.Cond.initialized "java/util/Arrays") ∈ tG := mG (List.mem_append_right _ (List.mem_append_left _ (List.mem_of_getElem? (i := 3) rfl))) rfl
set_option maxRecDepth 20000 in
theorem w_4 : (Jvm.Cond.initialized "VoiceHouse$Shifts") ∈ tG := mG (List.mem_append_right _ (List.mem_append_left _ (List.mem_of_getElem? (i := 4) rfl))) rfl
set_option maxRecDepth 20000 in
theorem w_5 : (Jvm.Cond.initialized "VoiceHouse$Scores") ∈ tG := mG (List.mem_append_right _ (List.mem_append_left _ (List.mem_of_getElem? (i := 5) rfl))) rfl
set_option maxRecDepth 20000 in
theorem w_6 : (Jvm.Cond.initialized "VoiceHouse$PairBook") ∈ tG := mG (List.mem_append_right _ (List.mem_append_left _ (List.mem_of_getElem? (i := 6) rfl))) rfl
set_option maxRecDepth 20000 in
theorem w_7 : (Jvm.Cond.initialized "VoiceHouse$Segments") ∈ tG := mG (List.mem_append_right _ (List.mem_append_left _ (List.mem_of_getElem? (i := 7) rfl))) rfl
set_option maxRecDepth 20000 in
theorem w_8 : (Jvm.Cond.initialized "VoiceHouse$LineUp") ∈ tG := mG (List.mem_append_right _ (List.mem_append_left _ (List.mem_of_getElem? (i := 8) rfl))) rfl
set_option maxRecDepth 20000 in
theorem w_9 : (Jvm.Cond.initialized "VoiceHouse$BlindTests") ∈ tG := mG (List.mem_append_right _ (List.mem_append_left _ (List.mem_of_getElem? (i := 9) rfl))) rfl
set_option maxRecDepth 20000 in
theorem w_10 : (Jvm.Cond.initialized "VoiceHouseModel") ∈ tG := mG (List.mem_append_right _ (List.mem_append_left _ (List.mem_of_getElem? (i := 10) rfl))) rfl
set_option maxRecDepth 20000 in
theorem w_11 : (Jvm.Cond.initialized "java/lang/Math") ∈ tG := mG (List.mem_append_right _ (List.mem_append_left _ (List.mem_of_getElem? (i := 11) rfl))) rfl
set_option maxRecDepth 20000 in
theorem w_12 : (Jvm.Cond.initialized "java/lang/Integer") ∈ tG := mG (List.mem_append_right _ (List.mem_append_left _ (List.mem_of_getElem? (i := 12) rfl))) rfl
set_option maxRecDepth 20000 in
theorem w_27 : (Jvm.Cond.methodLink "VoiceHouse$Archive" (21 : Nat) ({ cls := "java/util/Arrays", name := "fill", desc := "([II)V" } : Jvm.MethodName)) ∈ tG := mG (List.mem_append_right _ (List.mem_append_left _ (List.mem_of_getElem? (i := 27) rfl))) rfl
set_option maxRecDepth 20000 in
theorem w_28 : (Jvm.Cond.static ({ cls := "java/util/Arrays", name := "fill", desc := "([II)V" } : Jvm.MethodName)) ∈ tG := mG (List.mem_append_right _ (List.mem_append_left _ (List.mem_of_getElem? (i := 28) rfl))) rfl
set_option maxRecDepth 20000 in
theorem w_29 : (Jvm.Cond.code ({ cls := "java/util/Arrays", name := "fill", desc := "([II)V" } : Jvm.MethodName) prog_13_method_103_code (4 : Nat) (Option.none : Option Jvm.ClassFile.FieldType)) ∈ tG := mG (List.mem_append_right _ (List.mem_append_left _ (List.mem_of_getElem? (i := 29) rfl))) rfl
set_option maxRecDepth 20000 in
theorem w_30 : (Jvm.Cond.fieldLink "VoiceHouse$Archive" (9 : Nat) "VoiceHouse$Archive" "channels" "[I") ∈ tG := mG (List.mem_append_right _ (List.mem_append_left _ (List.mem_of_getElem? (i := 30) rfl))) rfl
set_option maxRecDepth 20000 in
theorem w_31 : (Jvm.Cond.fieldLink "VoiceHouse$Archive" (15 : Nat) "VoiceHouse$Archive" "speakers" "[I") ∈ tG := mG (List.mem_append_right _ (List.mem_append_left _ (List.mem_of_getElem? (i := 31) rfl))) rfl
set_option maxRecDepth 20000 in
theorem w_32 : (Jvm.Cond.fieldLink "VoiceHouse$Archive" (18 : Nat) "VoiceHouse$Archive" "tones" "[I") ∈ tG := mG (List.mem_append_right _ (List.mem_append_left _ (List.mem_of_getElem? (i := 32) rfl))) rfl
set_option maxRecDepth 20000 in
theorem w_33 : (Jvm.Cond.fieldLink "VoiceHouse$Archive" (27 : Nat) "VoiceHouse$Archive" "size" "I") ∈ tG := mG (List.mem_append_right _ (List.mem_append_left _ (List.mem_of_getElem? (i := 33) rfl))) rfl
set_option maxRecDepth 20000 in
theorem w_50 : (Jvm.Cond.fieldLink "VoiceHouse$Shifts" (9 : Nat) "VoiceHouse$Shifts" "archive" "LVoiceHouse$Archive;") ∈ tG := mG (List.mem_append_right _ (List.mem_append_left _ (List.mem_of_getElem? (i := 50) rfl))) rfl
set_option maxRecDepth 20000 in
theorem w_51 : (Jvm.Cond.fieldLink "VoiceHouse$Shifts" (15 : Nat) "VoiceHouse$Shifts" "sums" "[I") ∈ tG := mG (List.mem_append_right _ (List.mem_append_left _ (List.mem_of_getElem? (i := 51) rfl))) rfl
set_option maxRecDepth 20000 in
theorem w_52 : (Jvm.Cond.fieldLink "VoiceHouse$Shifts" (19 : Nat) "VoiceHouse$Shifts" "pairs" "[I") ∈ tG := mG (List.mem_append_right _ (List.mem_append_left _ (List.mem_of_getElem? (i := 52) rfl))) rfl
set_option maxRecDepth 20000 in
theorem w_53 : (Jvm.Cond.fieldLink "VoiceHouse$Shifts" (22 : Nat) "VoiceHouse$Shifts" "means" "[I") ∈ tG := mG (List.mem_append_right _ (List.mem_append_left _ (List.mem_of_getElem? (i := 53) rfl))) rfl
set_option maxRecDepth 20000 in
theorem w_69 : (Jvm.Cond.fieldLink "VoiceHouse$Scores" (9 : Nat) "VoiceHouse$Scores" "archive" "LVoiceHouse$Archive;") ∈ tG := mG (List.mem_append_right _ (List.mem_append_left _ (List.mem_of_getElem? (i := 69) rfl))) rfl
set_option maxRecDepth 20000 in
theorem w_70 : (Jvm.Cond.fieldLink "VoiceHouse$Scores" (15 : Nat) "VoiceHouse$Scores" "shifts" "LVoiceHouse$Shifts;") ∈ tG := mG (List.mem_append_right _ (List.mem_append_left _ (List.mem_of_getElem? (i := 70) rfl))) rfl
set_option maxRecDepth 20000 in
theorem w_82 : (Jvm.Cond.fieldLink "VoiceHouse$PairBook" (9 : Nat) "VoiceHouse$PairBook" "archive" "LVoiceHouse$Archive;") ∈ tG := mG (List.mem_append_right _ (List.mem_append_left _ (List.mem_of_getElem? (i := 82) rfl))) rfl
set_option maxRecDepth 20000 in
theorem w_83 : (Jvm.Cond.fieldLink "VoiceHouse$PairBook" (15 : Nat) "VoiceHouse$PairBook" "scores" "LVoiceHouse$Scores;") ∈ tG := mG (List.mem_append_right _ (List.mem_append_left _ (List.mem_of_getElem? (i := 83) rfl))) rfl
set_option maxRecDepth 20000 in
theorem w_84 : (Jvm.Cond.fieldLink "VoiceHouse$PairBook" (19 : Nat) "VoiceHouse$PairBook" "bandSame" "[I") ∈ tG := mG (List.mem_append_right _ (List.mem_append_left _ (List.mem_of_getElem? (i := 84) rfl))) rfl
set_option maxRecDepth 20000 in
theorem w_85 : (Jvm.Cond.fieldLink "VoiceHouse$PairBook" (23 : Nat) "VoiceHouse$PairBook" "bandOther" "[I") ∈ tG := mG (List.mem_append_right _ (List.mem_append_left _ (List.mem_of_getElem? (i := 85) rfl))) rfl
set_option maxRecDepth 20000 in
theorem w_86 : (Jvm.Cond.fieldLink "VoiceHouse$PairBook" (26 : Nat) "VoiceHouse$PairBook" "blockFirst" "[I") ∈ tG := mG (List.mem_append_right _ (List.mem_append_left _ (List.mem_of_getElem? (i := 86) rfl))) rfl
set_option maxRecDepth 20000 in
theorem w_87 : (Jvm.Cond.fieldLink "VoiceHouse$PairBook" (29 : Nat) "VoiceHouse$PairBook" "blockLast" "[I") ∈ tG := mG (List.mem_append_right _ (List.mem_append_left _ (List.mem_of_getElem? (i := 87) rfl))) rfl
set_option maxRecDepth 20000 in
theorem w_88 : (Jvm.Cond.fieldLink "VoiceHouse$PairBook" (32 : Nat) "VoiceHouse$PairBook" "blockSame" "[I") ∈ tG := mG (List.mem_append_right _ (List.mem_append_left _ (List.mem_of_getElem? (i := 88) rfl))) rfl
set_option maxRecDepth 20000 in
theorem w_89 : (Jvm.Cond.fieldLink "VoiceHouse$PairBook" (35 : Nat) "VoiceHouse$PairBook" "blockOther" "[I") ∈ tG := mG (List.mem_append_right _ (List.mem_append_left _ (List.mem_of_getElem? (i := 89) rfl))) rfl
set_option maxRecDepth 20000 in
theorem w_90 : (Jvm.Cond.fieldLink "VoiceHouse$PairBook" (38 : Nat) "VoiceHouse$PairBook" "blocks" "I") ∈ tG := mG (List.mem_append_right _ (List.mem_append_left _ (List.mem_of_getElem? (i := 90) rfl))) rfl
set_option maxRecDepth 20000 in
theorem w_91 : (Jvm.Cond.fieldLink "VoiceHouse$PairBook" (42 : Nat) "VoiceHouse$PairBook" "sumSame" "I") ∈ tG := mG (List.mem_append_right _ (List.mem_append_left _ (List.mem_of_getElem? (i := 91) rfl))) rfl
set_option maxRecDepth 20000 in
theorem w_92 : (Jvm.Cond.fieldLink "VoiceHouse$PairBook" (45 : Nat) "VoiceHouse$PairBook" "sumOther" "I") ∈ tG := mG (List.mem_append_right _ (List.mem_append_left _ (List.mem_of_getElem? (i := 92) rfl))) rfl
set_option maxRecDepth 20000 in
theorem w_122 : (Jvm.Cond.fieldLink "VoiceHouse$Segments" (9 : Nat) "VoiceHouse$Segments" "scores" "LVoiceHouse$Scores;") ∈ tG := mG (List.mem_append_right _ (List.mem_append_left _ (List.mem_of_getElem? (i := 122) rfl))) rfl
set_option maxRecDepth 20000 in
theorem w_123 : (Jvm.Cond.fieldLink "VoiceHouse$Segments" (15 : Nat) "VoiceHouse$Segments" "recordings" "[I") ∈ tG := mG (List.mem_append_right _ (List.mem_append_left _ (List.mem_of_getElem? (i := 123) rfl))) rfl
set_option maxRecDepth 20000 in
theorem w_124 : (Jvm.Cond.fieldLink "VoiceHouse$Segments" (19 : Nat) "VoiceHouse$Segments" "table" "[I") ∈ tG := mG (List.mem_append_right _ (List.mem_append_left _ (List.mem_of_getElem? (i := 124) rfl))) rfl
set_option maxRecDepth 20000 in
theorem w_125 : (Jvm.Cond.fieldLink "VoiceHouse$Segments" (22 : Nat) "VoiceHouse$Segments" "voiceOf" "[I") ∈ tG := mG (List.mem_append_right _ (List.mem_append_left _ (List.mem_of_getElem? (i := 125) rfl))) rfl
set_option maxRecDepth 20000 in
theorem w_126 : (Jvm.Cond.fieldLink "VoiceHouse$Segments" (25 : Nat) "VoiceHouse$Segments" "within" "[I") ∈ tG := mG (List.mem_append_right _ (List.mem_append_left _ (List.mem_of_getElem? (i := 126) rfl))) rfl
set_option maxRecDepth 20000 in
theorem w_127 : (Jvm.Cond.fieldLink "VoiceHouse$Segments" (28 : Nat) "VoiceHouse$Segments" "least" "[I") ∈ tG := mG (List.mem_append_right _ (List.mem_append_left _ (List.mem_of_getElem? (i := 127) rfl))) rfl
set_option maxRecDepth 20000 in
theorem w_128 : (Jvm.Cond.fieldLink "VoiceHouse$Segments" (31 : Nat) "VoiceHouse$Segments" "size" "I") ∈ tG := mG (List.mem_append_right _ (List.mem_append_left _ (List.mem_of_getElem? (i := 128) rfl))) rfl
set_option maxRecDepth 20000 in
theorem w_129 : (Jvm.Cond.fieldLink "VoiceHouse$Segments" (35 : Nat) "VoiceHouse$Segments" "crossSum" "I") ∈ tG := mG (List.mem_append_right _ (List.mem_append_left _ (List.mem_of_getElem? (i := 129) rfl))) rfl
set_option maxRecDepth 20000 in
theorem w_130 : (Jvm.Cond.fieldLink "VoiceHouse$Segments" (38 : Nat) "VoiceHouse$Segments" "crossPairs" "I") ∈ tG := mG (List.mem_append_right _ (List.mem_append_left _ (List.mem_of_getElem? (i := 130) rfl))) rfl
set_option maxRecDepth 20000 in
theorem w_156 : (Jvm.Cond.fieldLink "VoiceHouse$LineUp" (9 : Nat) "VoiceHouse$LineUp" "archive" "LVoiceHouse$Archive;") ∈ tG := mG (List.mem_append_right _ (List.mem_append_left _ (List.mem_of_getElem? (i := 156) rfl))) rfl
set_option maxRecDepth 20000 in
theorem w_157 : (Jvm.Cond.fieldLink "VoiceHouse$LineUp" (15 : Nat) "VoiceHouse$LineUp" "scores" "LVoiceHouse$Scores;") ∈ tG := mG (List.mem_append_right _ (List.mem_append_left _ (List.mem_of_getElem? (i := 157) rfl))) rfl
set_option maxRecDepth 20000 in
theorem w_158 : (Jvm.Cond.fieldLink "VoiceHouse$LineUp" (19 : Nat) "VoiceHouse$LineUp" "recordings" "[I") ∈ tG := mG (List.mem_append_right _ (List.mem_append_left _ (List.mem_of_getElem? (i := 158) rfl))) rfl
set_option maxRecDepth 20000 in
theorem w_159 : (Jvm.Cond.fieldLink "VoiceHouse$LineUp" (23 : Nat) "VoiceHouse$LineUp" "distances" "[I") ∈ tG := mG (List.mem_append_right _ (List.mem_append_left _ (List.mem_of_getElem? (i := 159) rfl))) rfl
set_option maxRecDepth 20000 in
theorem w_160 : (Jvm.Cond.fieldLink "VoiceHouse$LineUp" (26 : Nat) "VoiceHouse$LineUp" "size" "I") ∈ tG := mG (List.mem_append_right _ (List.mem_append_left _ (List.mem_of_getElem? (i := 160) rfl))) rfl
set_option maxRecDepth 20000 in
theorem w_178 : (Jvm.Cond.fieldLink "VoiceHouse$BlindTests" (9 : Nat) "VoiceHouse$BlindTests" "outcomes" "[I") ∈ tG := mG (List.mem_append_right _ (List.mem_append_left _ (List.mem_of_getElem? (i := 178) rfl))) rfl
set_option maxRecDepth 20000 in
theorem w_179 : (Jvm.Cond.fieldLink "VoiceHouse$BlindTests" (15 : Nat) "VoiceHouse$BlindTests" "putSoFar" "I") ∈ tG := mG (List.mem_append_right _ (List.mem_append_left _ (List.mem_of_getElem? (i := 179) rfl))) rfl
set_option maxRecDepth 20000 in
theorem w_185 : (Jvm.Cond.fieldLink "VoiceHouse" (10 : Nat) "VoiceHouse" "archive" "LVoiceHouse$Archive;") ∈ tG := mG (List.mem_append_right _ (List.mem_append_left _ (List.mem_of_getElem? (i := 185) rfl))) rfl
set_option maxRecDepth 20000 in
theorem w_186 : (Jvm.Cond.fieldLink "VoiceHouse" (21 : Nat) "VoiceHouse" "shifts" "LVoiceHouse$Shifts;") ∈ tG := mG (List.mem_append_right _ (List.mem_append_left _ (List.mem_of_getElem? (i := 186) rfl))) rfl
set_option maxRecDepth 20000 in
theorem w_187 : (Jvm.Cond.fieldLink "VoiceHouse" (30 : Nat) "VoiceHouse" "scores" "LVoiceHouse$Scores;") ∈ tG := mG (List.mem_append_right _ (List.mem_append_left _ (List.mem_of_getElem? (i := 187) rfl))) rfl
set_option maxRecDepth 20000 in
theorem w_188 : (Jvm.Cond.fieldLink "VoiceHouse" (39 : Nat) "VoiceHouse" "pairBook" "LVoiceHouse$PairBook;") ∈ tG := mG (List.mem_append_right _ (List.mem_append_left _ (List.mem_of_getElem? (i := 188) rfl))) rfl
set_option maxRecDepth 20000 in
theorem w_189 : (Jvm.Cond.fieldLink "VoiceHouse" (48 : Nat) "VoiceHouse" "segments" "LVoiceHouse$Segments;") ∈ tG := mG (List.mem_append_right _ (List.mem_append_left _ (List.mem_of_getElem? (i := 189) rfl))) rfl
set_option maxRecDepth 20000 in
theorem w_190 : (Jvm.Cond.fieldLink "VoiceHouse" (55 : Nat) "VoiceHouse" "lineUp" "LVoiceHouse$LineUp;") ∈ tG := mG (List.mem_append_right _ (List.mem_append_left _ (List.mem_of_getElem? (i := 190) rfl))) rfl
set_option maxRecDepth 20000 in
theorem w_191 : (Jvm.Cond.fieldLink "VoiceHouse" (62 : Nat) "VoiceHouse" "blindTests" "LVoiceHouse$BlindTests;") ∈ tG := mG (List.mem_append_right _ (List.mem_append_left _ (List.mem_of_getElem? (i := 191) rfl))) rfl
set_option maxRecDepth 20000 in
theorem w_192 : (Jvm.Cond.fieldLink "VoiceHouse" (66 : Nat) "VoiceHouse" "speakersInSet" "I") ∈ tG := mG (List.mem_append_right _ (List.mem_append_left _ (List.mem_of_getElem? (i := 192) rfl))) rfl
set_option maxRecDepth 20000 in
theorem w_193 : (Jvm.Cond.fieldLink "VoiceHouse" (70 : Nat) "VoiceHouse" "limitNow" "I") ∈ tG := mG (List.mem_append_right _ (List.mem_append_left _ (List.mem_of_getElem? (i := 193) rfl))) rfl
set_option maxRecDepth 20000 in
theorem w_194 : (Jvm.Cond.fieldLink "VoiceHouse" (73 : Nat) "VoiceHouse" "pairsAreOld" "Z") ∈ tG := mG (List.mem_append_right _ (List.mem_append_left _ (List.mem_of_getElem? (i := 194) rfl))) rfl
set_option maxRecDepth 20000 in
theorem w_216 : (Jvm.Cond.methodLink "VoiceHouseLaw" (13 : Nat) ({ cls := "VoiceHouse", name := "record", desc := "(II)I" } : Jvm.MethodName)) ∈ tG := mG (List.mem_append_right _ (List.mem_append_left _ (List.mem_of_getElem? (i := 216) rfl))) rfl
set_option maxRecDepth 20000 in
theorem w_217 : (Jvm.Cond.instanceMethod ({ cls := "VoiceHouse", name := "record", desc := "(II)I" } : Jvm.MethodName)) ∈ tG := mG (List.mem_append_right _ (List.mem_append_left _ (List.mem_of_getElem? (i := 217) rfl))) rfl
set_option maxRecDepth 20000 in
theorem w_218 : (Jvm.Cond.selects "VoiceHouse" ({ cls := "VoiceHouse", name := "record", desc := "(II)I" } : Jvm.MethodName) ({ cls := "VoiceHouse", name := "record", desc := "(II)I" } : Jvm.MethodName)) ∈ tG := mG (List.mem_append_right _ (List.mem_append_left _ (List.mem_of_getElem? (i := 218) rfl))) rfl
set_option maxRecDepth 20000 in
theorem w_219 : (Jvm.Cond.code ({ cls := "VoiceHouse", name := "record", desc := "(II)I" } : Jvm.MethodName) prog_1_method_2_code (3 : Nat) (Option.some Jvm.ClassFile.FieldType.int)) ∈ tG := mG (List.mem_append_right _ (List.mem_append_left _ (List.mem_of_getElem? (i := 219) rfl))) rfl
set_option maxRecDepth 20000 in
theorem w_220 : (Jvm.Cond.methodLink "VoiceHouse" (77 : Nat) ({ cls := "VoiceHouse", name := "isChannel", desc := "(I)Z" } : Jvm.MethodName)) ∈ tG := mG (List.mem_append_right _ (List.mem_append_left _ (List.mem_of_getElem? (i := 220) rfl))) rfl
set_option maxRecDepth 20000 in
theorem w_221 : (Jvm.Cond.static ({ cls := "VoiceHouse", name := "isChannel", desc := "(I)Z" } : Jvm.MethodName)) ∈ tG := mG (List.mem_append_right _ (List.mem_append_left _ (List.mem_of_getElem? (i := 221) rfl))) rfl
set_option maxRecDepth 20000 in
theorem w_222 : (Jvm.Cond.code ({ cls := "VoiceHouse", name := "isChannel", desc := "(I)Z" } : Jvm.MethodName) prog_1_method_27_code (1 : Nat) (Option.some Jvm.ClassFile.FieldType.boolean)) ∈ tG := mG (List.mem_append_right _ (List.mem_append_left _ (List.mem_of_getElem? (i := 222) rfl))) rfl
set_option maxRecDepth 20000 in
theorem w_223 : (Jvm.Cond.methodLink "VoiceHouse" (81 : Nat) ({ cls := "VoiceHouse", name := "isSpeakerOrNobody", desc := "(I)Z" } : Jvm.MethodName)) ∈ tG := mG (List.mem_append_right _ (List.mem_append_left _ (List.mem_of_getElem? (i := 223) rfl))) rfl
set_option maxRecDepth 20000 in
theorem w_224 : (Jvm.Cond.static ({ cls := "VoiceHouse", name := "isSpeakerOrNobody", desc := "(I)Z" } : Jvm.MethodName)) ∈ tG := mG (List.mem_append_right _ (List.mem_append_left _ (List.mem_of_getElem? (i := 224) rfl))) rfl
set_option maxRecDepth 20000 in
theorem w_225 : (Jvm.Cond.code ({ cls := "VoiceHouse", name := "isSpeakerOrNobody", desc := "(I)Z" } : Jvm.MethodName) prog_1_method_30_code (1 : Nat) (Option.some Jvm.ClassFile.FieldType.boolean)) ∈ tG := mG (List.mem_append_right _ (List.mem_append_left _ (List.mem_of_getElem? (i := 225) rfl))) rfl
set_option maxRecDepth 20000 in
theorem w_226 : (Jvm.Cond.methodLink "VoiceHouse" (198 : Nat) ({ cls := "VoiceHouse", name := "isSpeaker", desc := "(I)Z" } : Jvm.MethodName)) ∈ tG := mG (List.mem_append_right _ (List.mem_append_left _ (List.mem_of_getElem? (i := 226) rfl))) rfl
set_option maxRecDepth 20000 in
theorem w_227 : (Jvm.Cond.static ({ cls := "VoiceHouse", name := "isSpeaker", desc := "(I)Z" } : Jvm.MethodName)) ∈ tG := mG (List.mem_append_right _ (List.mem_append_left _ (List.mem_of_getElem? (i := 227) rfl))) rfl
set_option maxRecDepth 20000 in
theorem w_228 : (Jvm.Cond.code ({ cls := "VoiceHouse", name := "isSpeaker", desc := "(I)Z" } : Jvm.MethodName) prog_1_method_29_code (1 : Nat) (Option.some Jvm.ClassFile.FieldType.boolean)) ∈ tG := mG (List.mem_append_right _ (List.mem_append_left _ (List.mem_of_getElem? (i := 228) rfl))) rfl
set_option maxRecDepth 20000 in
theorem w_229 : (Jvm.Cond.methodLink "VoiceHouse" (84 : Nat) ({ cls := "VoiceHouse$Archive", name := "isFull", desc := "()Z" } : Jvm.MethodName)) ∈ tG := mG (List.mem_append_right _ (List.mem_append_left _ (List.mem_of_getElem? (i := 229) rfl))) rfl
set_option maxRecDepth 20000 in
theorem w_230 : (Jvm.Cond.instanceMethod ({ cls := "VoiceHouse$Archive", name := "isFull", desc := "()Z" } : Jvm.MethodName)) ∈ tG := mG (List.mem_append_right _ (List.mem_append_left _ (List.mem_of_getElem? (i := 230) rfl))) rfl
set_option maxRecDepth 20000 in
theorem w_231 : (Jvm.Cond.selects "VoiceHouse$Archive" ({ cls := "VoiceHouse$Archive", name := "isFull", desc := "()Z" } : Jvm.MethodName) ({ cls := "VoiceHouse$Archive", name := "isFull", desc := "()Z" } : Jvm.MethodName)) ∈ tG := mG (List.mem_append_right _ (List.mem_append_left _ (List.mem_of_getElem? (i := 231) rfl))) rfl
set_option maxRecDepth 20000 in
theorem w_232 : (Jvm.Cond.code ({ cls := "VoiceHouse$Archive", name := "isFull", desc := "()Z" } : Jvm.MethodName) prog_2_method_3_code (1 : Nat) (Option.some Jvm.ClassFile.FieldType.boolean)) ∈ tG := mG (List.mem_append_right _ (List.mem_append_left _ (List.mem_of_getElem? (i := 232) rfl))) rfl
set_option maxRecDepth 20000 in
theorem w_233 : (Jvm.Cond.methodLink "VoiceHouse" (88 : Nat) ({ cls := "VoiceHouse$Archive", name := "add", desc := "(II)I" } : Jvm.MethodName)) ∈ tG := mG (List.mem_append_right _ (List.mem_append_left _ (List.mem_of_getElem? (i := 233) rfl))) rfl
set_option maxRecDepth 20000 in
theorem w_234 : (Jvm.Cond.instanceMethod ({ cls := "VoiceHouse$Archive", name := "add", desc := "(II)I" } : Jvm.MethodName)) ∈ tG := mG (List.mem_append_right _ (List.mem_append_left _ (List.mem_of_getElem? (i := 234) rfl))) rfl
set_option maxRecDepth 20000 in
theorem w_235 : (Jvm.Cond.selects "VoiceHouse$Archive" ({ cls := "VoiceHouse$Archive", name := "add", desc := "(II)I" } : Jvm.MethodName) ({ cls := "VoiceHouse$Archive", name := "add", desc := "(II)I" } : Jvm.MethodName)) ∈ tG := mG (List.mem_append_right _ (List.mem_append_left _ (List.mem_of_getElem? (i := 235) rfl))) rfl
set_option maxRecDepth 20000 in
theorem w_236 : (Jvm.Cond.code ({ cls := "VoiceHouse$Archive", name := "add", desc := "(II)I" } : Jvm.MethodName) prog_2_method_5_code (4 : Nat) (Option.some Jvm.ClassFile.FieldType.int)) ∈ tG := mG (List.mem_append_right _ (List.mem_append_left _ (List.mem_of_getElem? (i := 236) rfl))) rfl
set_option maxRecDepth 20000 in
theorem w_237 : (Jvm.Cond.methodLink "VoiceHouseLaw" (18 : Nat) ({ cls := "VoiceHouse", name := "tone", desc := "(III)Z" } : Jvm.MethodName)) ∈ tG := mG (List.mem_append_right _ (List.mem_append_left _ (List.mem_of_getElem? (i := 237) rfl))) rfl
set_option maxRecDepth 20000 in
theorem w_238 : (Jvm.Cond.instanceMethod ({ cls := "VoiceHouse", name := "tone", desc := "(III)Z" } : Jvm.MethodName)) ∈ tG := mG (List.mem_append_right _ (List.mem_append_left _ (List.mem_of_getElem? (i := 238) rfl))) rfl
set_option maxRecDepth 20000 in
theorem w_239 : (Jvm.Cond.selects "VoiceHouse" ({ cls := "VoiceHouse", name := "tone", desc := "(III)Z" } : Jvm.MethodName) ({ cls := "VoiceHouse", name := "tone", desc := "(III)Z" } : Jvm.MethodName)) ∈ tG := mG (List.mem_append_right _ (List.mem_append_left _ (List.mem_of_getElem? (i := 239) rfl))) rfl
set_option maxRecDepth 20000 in
theorem w_240 : (Jvm.Cond.code ({ cls := "VoiceHouse", name := "tone", desc := "(III)Z" } : Jvm.MethodName) prog_1_method_3_code (4 : Nat) (Option.some Jvm.ClassFile.FieldType.boolean)) ∈ tG := mG (List.mem_append_right _ (List.mem_append_right _ (List.mem_append_left _ (List.mem_of_getElem? (i := 0) rfl)))) rfl
set_option maxRecDepth 20000 in
theorem w_241 : (Jvm.Cond.methodLink "VoiceHouse" (92 : Nat) ({ cls := "VoiceHouse$Archive", name := "has", desc := "(I)Z" } : Jvm.MethodName)) ∈ tG := mG (List.mem_append_right _ (List.mem_append_right _ (List.mem_append_left _ (List.mem_of_getElem? (i := 1) rfl)))) rfl
set_option maxRecDepth 20000 in
theorem w_242 : (Jvm.Cond.instanceMethod ({ cls := "VoiceHouse$Archive", name := "has", desc := "(I)Z" } : Jvm.MethodName)) ∈ tG := mG (List.mem_append_right _ (List.mem_append_right _ (List.mem_append_left _ (List.mem_of_getElem? (i := 2) rfl)))) rfl
set_option maxRecDepth 20000 in
theorem w_243 : (Jvm.Cond.selects "VoiceHouse$Archive" ({ cls := "VoiceHouse$Archive", name := "has", desc := "(I)Z" } : Jvm.MethodName) ({ cls := "VoiceHouse$Archive", name := "has", desc := "(I)Z" } : Jvm.MethodName)) ∈ tG := mG (List.mem_append_right _ (List.mem_append_right _ (List.mem_append_left _ (List.mem_of_getElem? (i := 3) rfl)))) rfl
set_option maxRecDepth 20000 in
theorem w_244 : (Jvm.Cond.code ({ cls := "VoiceHouse$Archive", name := "has", desc := "(I)Z" } : Jvm.MethodName) prog_2_method_4_code (2 : Nat) (Option.some Jvm.ClassFile.FieldType.boolean)) ∈ tG := mG (List.mem_append_right _ (List.mem_append_right _ (List.mem_append_left _ (List.mem_of_getElem? (i := 4) rfl)))) rfl
set_option maxRecDepth 20000 in
theorem w_245 : (Jvm.Cond.methodLink "VoiceHouse" (95 : Nat) ({ cls := "VoiceHouse", name := "isPlace", desc := "(I)Z" } : Jvm.MethodName)) ∈ tG := mG (List.mem_append_right _ (List.mem_append_right _ (List.mem_append_left _ (List.mem_of_getElem? (i := 5) rfl)))) rfl
set_option maxRecDepth 20000 in
theorem w_246 : (Jvm.Cond.static ({ cls := "VoiceHouse", name := "isPlace", desc := "(I)Z" } : Jvm.MethodName)) ∈ tG := mG (List.mem_append_right _ (List.mem_append_right _ (List.mem_append_left _ (List.mem_of_getElem? (i := 6) rfl)))) rfl
set_option maxRecDepth 20000 in
theorem w_247 : (Jvm.Cond.code ({ cls := "VoiceHouse", name := "isPlace", desc := "(I)Z" } : Jvm.MethodName) prog_1_method_28_code (1 : Nat) (Option.some Jvm.ClassFile.FieldType.boolean)) ∈ tG := mG (List.mem_append_right _ (List.mem_append_right _ (List.mem_append_left _ (List.mem_of_getElem? (i := 7) rfl)))) rfl
set_option maxRecDepth 20000 in
theorem w_248 : (Jvm.Cond.methodLink "VoiceHouse" (98 : Nat) ({ cls := "VoiceHouse$Archive", name := "putTone", desc := "(III)V" } : Jvm.MethodName)) ∈ tG := mG (List.mem_append_right _ (List.mem_append_right _ (List.mem_append_left _ (List.mem_of_getElem? (i := 8) rfl)))) rfl
set_option maxRecDepth 20000 in
theorem w_249 : (Jvm.Cond.instanceMethod ({ cls := "VoiceHouse$Archive", name := "putTone", desc := "(III)V" } : Jvm.MethodName)) ∈ tG := mG (List.mem_append_right _ (List.mem_append_right _ (List.mem_append_left _ (List.mem_of_getElem? (i := 9) rfl)))) rfl
set_option maxRecDepth 20000 in
theorem w_250 : (Jvm.Cond.selects "VoiceHouse$Archive" ({ cls := "VoiceHouse$Archive", name := "putTone", desc := "(III)V" } : Jvm.MethodName) ({ cls := "VoiceHouse$Archive", name := "putTone", desc := "(III)V" } : Jvm.MethodName)) ∈ tG := mG (List.mem_append_right _ (List.mem_append_right _ (List.mem_append_left _ (List.mem_of_getElem? (i := 10) rfl)))) rfl
set_option maxRecDepth 20000 in
theorem w_251 : (Jvm.Cond.code ({ cls := "VoiceHouse$Archive", name := "putTone", desc := "(III)V" } : Jvm.MethodName) prog_2_method_6_code (4 : Nat) (Option.none : Option Jvm.ClassFile.FieldType)) ∈ tG := mG (List.mem_append_right _ (List.mem_append_right _ (List.mem_append_left _ (List.mem_of_getElem? (i := 11) rfl)))) rfl
set_option maxRecDepth 20000 in
theorem w_252 : (Jvm.Cond.methodLink "VoiceHouse" (102 : Nat) ({ cls := "VoiceHouse$Shifts", name := "measure", desc := "(I)V" } : Jvm.MethodName)) ∈ tG := mG (List.mem_append_right _ (List.mem_append_right _ (List.mem_append_left _ (List.mem_of_getElem? (i := 12) rfl)))) rfl
set_option maxRecDepth 20000 in
theorem w_253 : (Jvm.Cond.instanceMethod ({ cls := "VoiceHouse$Shifts", name := "measure", desc := "(I)V" } : Jvm.MethodName)) ∈ tG := mG (List.mem_append_right _ (List.mem_append_right _ (List.mem_append_left _ (List.mem_of_getElem? (i := 13) rfl)))) rfl
set_option maxRecDepth 20000 in
theorem w_254 : (Jvm.Cond.selects "VoiceHouse$Shifts" ({ cls := "VoiceHouse$Shifts", name := "measure", desc := "(I)V" } : Jvm.MethodName) ({ cls := "VoiceHouse$Shifts", name := "measure", desc := "(I)V" } : Jvm.MethodName)) ∈ tG := mG (List.mem_append_right _ (List.mem_append_right _ (List.mem_append_left _ (List.mem_of_getElem? (i := 14) rfl)))) rfl
set_option maxRecDepth 20000 in
theorem w_255 : (Jvm.Cond.code ({ cls := "VoiceHouse$Shifts", name := "measure", desc := "(I)V" } : Jvm.MethodName) prog_8_method_3_code (4 : Nat) (Option.none : Option Jvm.ClassFile.FieldType)) ∈ tG := mG (List.mem_append_right _ (List.mem_append_right _ (List.mem_append_left _ (List.mem_of_getElem? (i := 15) rfl)))) rfl
set_option maxRecDepth 20000 in
theorem w_256 : (Jvm.Cond.methodLink "VoiceHouse$Shifts" (29 : Nat) ({ cls := "VoiceHouse$Archive", name := "size", desc := "()I" } : Jvm.MethodName)) ∈ tG := mG (List.mem_append_right _ (List.mem_append_right _ (List.mem_append_left _ (List.mem_of_getElem? (i := 16) rfl)))) rfl
set_option maxRecDepth 20000 in
theorem w_257 : (Jvm.Cond.instanceMethod ({ cls := "VoiceHouse$Archive", name := "size", desc := "()I" } : Jvm.MethodName)) ∈ tG := mG (List.mem_append_right _ (List.mem_append_right _ (List.mem_append_left _ (List.mem_of_getElem? (i := 17) rfl)))) rfl
set_option maxRecDepth 20000 in
theorem w_258 : (Jvm.Cond.selects "VoiceHouse$Archive" ({ cls := "VoiceHouse$Archive", name := "size", desc := "()I" } : Jvm.MethodName) ({ cls := "VoiceHouse$Archive", name := "size", desc := "()I" } : Jvm.MethodName)) ∈ tG := mG (List.mem_append_right _ (List.mem_append_right _ (List.mem_append_left _ (List.mem_of_getElem? (i := 18) rfl)))) rfl
set_option maxRecDepth 20000 in
theorem w_259 : (Jvm.Cond.code ({ cls := "VoiceHouse$Archive", name := "size", desc := "()I" } : Jvm.MethodName) prog_2_method_2_code (1 : Nat) (Option.some Jvm.ClassFile.FieldType.int)) ∈ tG := mG (List.mem_append_right _ (List.mem_append_right _ (List.mem_append_left _ (List.mem_of_getElem? (i := 19) rfl)))) rfl
set_option maxRecDepth 20000 in
theorem w_260 : (Jvm.Cond.methodLink "VoiceHouse$Shifts" (35 : Nat) ({ cls := "VoiceHouse$Archive", name := "channelOf", desc := "(I)I" } : Jvm.MethodName)) ∈ tG := mG (List.mem_append_right _ (List.mem_append_right _ (List.mem_append_left _ (List.mem_of_getElem? (i := 20) rfl)))) rfl
set_option maxRecDepth 20000 in
theorem w_261 : (Jvm.Cond.instanceMethod ({ cls := "VoiceHouse$Archive", name := "channelOf", desc := "(I)I" } : Jvm.MethodName)) ∈ tG := mG (List.mem_append_right _ (List.mem_append_right _ (List.mem_append_left _ (List.mem_of_getElem? (i := 21) rfl)))) rfl
set_option maxRecDepth 20000 in
theorem w_262 : (Jvm.Cond.selects "VoiceHouse$Archive" ({ cls := "VoiceHouse$Archive", name := "channelOf", desc := "(I)I" } : Jvm.MethodName) ({ cls := "VoiceHouse$Archive", name := "channelOf", desc := "(I)I" } : Jvm.MethodName)) ∈ tG := mG (List.mem_append_right _ (List.mem_append_right _ (List.mem_append_left _ (List.mem_of_getElem? (i := 22) rfl)))) rfl
set_option maxRecDepth 20000 in
theorem w_263 : (Jvm.Cond.code ({ cls := "VoiceHouse$Archive", name := "channelOf", desc := "(I)I" } : Jvm.MethodName) prog_2_method_8_code (2 : Nat) (Option.some Jvm.ClassFile.FieldType.int)) ∈ tG := mG (List.mem_append_right _ (List.mem_append_right _ (List.mem_append_left _ (List.mem_of_getElem? (i := 23) rfl)))) rfl
set_option maxRecDepth 20000 in
theorem w_264 : (Jvm.Cond.methodLink "VoiceHouse$Shifts" (39 : Nat) ({ cls := "VoiceHouse$Archive", name := "isKnown", desc := "(I)Z" } : Jvm.MethodName)) ∈ tG := mG (List.mem_append_right _ (List.mem_append_right _ (List.mem_append_left _ (List.mem_of_getElem? (i := 24) rfl)))) rfl
set_option maxRecDepth 20000 in
theorem w_265 : (Jvm.Cond.instanceMethod ({ cls := "VoiceHouse$Archive", name := "isKnown", desc := "(I)Z" } : Jvm.MethodName)) ∈ tG := mG (List.mem_append_right _ (List.mem_append_right _ (List.mem_append_left _ (List.mem_of_getElem? (i := 25) rfl)))) rfl
set_option maxRecDepth 20000 in
theorem w_266 : (Jvm.Cond.selects "VoiceHouse$Archive" ({ cls := "VoiceHouse$Archive", name := "isKnown", desc := "(I)Z" } : Jvm.MethodName) ({ cls := "VoiceHouse$Archive", name := "isKnown", desc := "(I)Z" } : Jvm.MethodName)) ∈ tG := mG (List.mem_append_right _ (List.mem_append_right _ (List.mem_append_left _ (List.mem_of_getElem? (i := 26) rfl)))) rfl
set_option maxRecDepth 20000 in
theorem w_267 : (Jvm.Cond.code ({ cls := "VoiceHouse$Archive", name := "isKnown", desc := "(I)Z" } : Jvm.MethodName) prog_2_method_10_code (2 : Nat) (Option.some Jvm.ClassFile.FieldType.boolean)) ∈ tG := mG (List.mem_append_right _ (List.mem_append_right _ (List.mem_append_left _ (List.mem_of_getElem? (i := 27) rfl)))) rfl
set_option maxRecDepth 20000 in
theorem w_268 : (Jvm.Cond.methodLink "VoiceHouse$Shifts" (43 : Nat) ({ cls := "VoiceHouse$Archive", name := "toneAt", desc := "(II)I" } : Jvm.MethodName)) ∈ tG := mG (List.mem_append_right _ (List.mem_append_right _ (List.mem_append_left _ (List.mem_of_getElem? (i := 28) rfl)))) rfl
set_option maxRecDepth 20000 in
theorem w_269 : (Jvm.Cond.instanceMethod ({ cls := "VoiceHouse$Archive", name := "toneAt", desc := "(II)I" } : Jvm.MethodName)) ∈ tG := mG (List.mem_append_right _ (List.mem_append_right _ (List.mem_append_left _ (List.mem_of_getElem? (i := 29) rfl)))) rfl
set_option maxRecDepth 20000 in
theorem w_270 : (Jvm.Cond.selects "VoiceHouse$Archive" ({ cls := "VoiceHouse$Archive", name := "toneAt", desc := "(II)I" } : Jvm.MethodName) ({ cls := "VoiceHouse$Archive", name := "toneAt", desc := "(II)I" } : Jvm.MethodName)) ∈ tG := mG (List.mem_append_right _ (List.mem_append_right _ (List.mem_append_left _ (List.mem_of_getElem? (i := 30) rfl)))) rfl
set_option maxRecDepth 20000 in
theorem w_271 : (Jvm.Cond.code ({ cls := "VoiceHouse$Archive", name := "toneAt", desc := "(II)I" } : Jvm.MethodName) prog_2_method_12_code (3 : Nat) (Option.some Jvm.ClassFile.FieldType.int)) ∈ tG := mG (List.mem_append_right _ (List.mem_append_right _ (List.mem_append_left _ (List.mem_of_getElem? (i := 31) rfl)))) rfl
set_option maxRecDepth 20000 in
theorem w_272 : (Jvm.Cond.methodLink "VoiceHouse$Shifts" (47 : Nat) ({ cls := "VoiceHouse$Shifts", name := "addPairsOf", desc := "(II)V" } : Jvm.MethodName)) ∈ tG := mG (List.mem_append_right _ (List.mem_append_right _ (List.mem_append_left _ (List.mem_of_getElem? (i := 32) rfl)))) rfl
set_option maxRecDepth 20000 in
theorem w_274 : (Jvm.Cond.instanceMethod ({ cls := "VoiceHouse$Shifts", name := "addPairsOf", desc := "(II)V" } : Jvm.MethodName)) ∈ tG := mG (List.mem_append_right _ (List.mem_append_right _ (List.mem_append_left _ (List.mem_of_getElem? (i := 34) rfl)))) rfl
set_option maxRecDepth 20000 in
theorem w_275 : (Jvm.Cond.code ({ cls := "VoiceHouse$Shifts", name := "addPairsOf", desc := "(II)V" } : Jvm.MethodName) prog_8_method_4_code (6 : Nat) (Option.none : Option Jvm.ClassFile.FieldType)) ∈ tG := mG (List.mem_append_right _ (List.mem_append_right _ (List.mem_append_left _ (List.mem_of_getElem? (i := 35) rfl)))) rfl
set_option maxRecDepth 20000 in
theorem w_276 : (Jvm.Cond.methodLink "VoiceHouse$Shifts" (56 : Nat) ({ cls := "VoiceHouse$Archive", name := "speakerOf", desc := "(I)I" } : Jvm.MethodName)) ∈ tG := mG (List.mem_append_right _ (List.mem_append_right _ (List.mem_append_left _ (List.mem_of_getElem? (i := 36) rfl)))) rfl
set_option maxRecDepth 20000 in
theorem w_277 : (Jvm.Cond.instanceMethod ({ cls := "VoiceHouse$Archive", name := "speakerOf", desc := "(I)I" } : Jvm.MethodName)) ∈ tG := mG (List.mem_append_right _ (List.mem_append_right _ (List.mem_append_left _ (List.mem_of_getElem? (i := 37) rfl)))) rfl
set_option maxRecDepth 20000 in
theorem w_278 : (Jvm.Cond.selects "VoiceHouse$Archive" ({ cls := "VoiceHouse$Archive", name := "speakerOf", desc := "(I)I" } : Jvm.MethodName) ({ cls := "VoiceHouse$Archive", name := "speakerOf", desc := "(I)I" } : Jvm.MethodName)) ∈ tG := mG (List.mem_append_right _ (List.mem_append_right _ (List.mem_append_left _ (List.mem_of_getElem? (i := 38) rfl)))) rfl
set_option maxRecDepth 20000 in
theorem w_279 : (Jvm.Cond.code ({ cls := "VoiceHouse$Archive", name := "speakerOf", desc := "(I)I" } : Jvm.MethodName) prog_2_method_9_code (2 : Nat) (Option.some Jvm.ClassFile.FieldType.int)) ∈ tG := mG (List.mem_append_right _ (List.mem_append_right _ (List.mem_append_left _ (List.mem_of_getElem? (i := 39) rfl)))) rfl
set_option maxRecDepth 20000 in
theorem w_280 : (Jvm.Cond.methodLink "VoiceHouse$Shifts" (51 : Nat) ({ cls := "java/lang/Math", name := "floorDiv", desc := "(II)I" } : Jvm.MethodName)) ∈ tG := mG (List.mem_append_right _ (List.mem_append_right _ (List.mem_append_left _ (List.mem_of_getElem? (i := 40) rfl)))) rfl
set_option maxRecDepth 20000 in
theorem w_281 : (Jvm.Cond.static ({ cls := "java/lang/Math", name := "floorDiv", desc := "(II)I" } : Jvm.MethodName)) ∈ tG := mG (List.mem_append_right _ (List.mem_append_right _ (List.mem_append_left _ (List.mem_of_getElem? (i := 41) rfl)))) rfl
set_option maxRecDepth 20000 in
theorem w_282 : (Jvm.Cond.code ({ cls := "java/lang/Math", name := "floorDiv", desc := "(II)I" } : Jvm.MethodName) prog_12_method_47_code (3 : Nat) (Option.some Jvm.ClassFile.FieldType.int)) ∈ tG := mG (List.mem_append_right _ (List.mem_append_right _ (List.mem_append_left _ (List.mem_of_getElem? (i := 42) rfl)))) rfl
set_option maxRecDepth 20000 in
theorem w_283 : (Jvm.Cond.methodLink "VoiceHouseLaw" (23 : Nat) ({ cls := "VoiceHouse", name := "know", desc := "(II)Z" } : Jvm.MethodName)) ∈ tG := mG (List.mem_append_right _ (List.mem_append_right _ (List.mem_append_left _ (List.mem_of_getElem? (i := 43) rfl)))) rfl
set_option maxRecDepth 20000 in
theorem w_284 : (Jvm.Cond.instanceMethod ({ cls := "VoiceHouse", name := "know", desc := "(II)Z" } : Jvm.MethodName)) ∈ tG := mG (List.mem_append_right _ (List.mem_append_right _ (List.mem_append_left _ (List.mem_of_getElem? (i := 44) rfl)))) rfl
set_option maxRecDepth 20000 in
theorem w_285 : (Jvm.Cond.selects "VoiceHouse" ({ cls := "VoiceHouse", name := "know", desc := "(II)Z" } : Jvm.MethodName) ({ cls := "VoiceHouse", name := "know", desc := "(II)Z" } : Jvm.MethodName)) ∈ tG := mG (List.mem_append_right _ (List.mem_append_right _ (List.mem_append_left _ (List.mem_of_getElem? (i := 45) rfl)))) rfl
set_option maxRecDepth 20000 in
theorem w_286 : (Jvm.Cond.code ({ cls := "VoiceHouse", name := "know", desc := "(II)Z" } : Jvm.MethodName) prog_1_method_4_code (3 : Nat) (Option.some Jvm.ClassFile.FieldType.boolean)) ∈ tG := mG (List.mem_append_right _ (List.mem_append_right _ (List.mem_append_left _ (List.mem_of_getElem? (i := 46) rfl)))) rfl
set_option maxRecDepth 20000 in
theorem w_287 : (Jvm.Cond.methodLink "VoiceHouse" (106 : Nat) ({ cls := "VoiceHouse$Archive", name := "putSpeaker", desc := "(II)V" } : Jvm.MethodName)) ∈ tG := mG (List.mem_append_right _ (List.mem_append_right _ (List.mem_append_left _ (List.mem_of_getElem? (i := 47) rfl)))) rfl
set_option maxRecDepth 20000 in
theorem w_288 : (Jvm.Cond.instanceMethod ({ cls := "VoiceHouse$Archive", name := "putSpeaker", desc := "(II)V" } : Jvm.MethodName)) ∈ tG := mG (List.mem_append_right _ (List.mem_append_right _ (List.mem_append_left _ (List.mem_of_getElem? (i := 48) rfl)))) rfl
set_option maxRecDepth 20000 in
theorem w_289 : (Jvm.Cond.selects "VoiceHouse$Archive" ({ cls := "VoiceHouse$Archive", name := "putSpeaker", desc := "(II)V" } : Jvm.MethodName) ({ cls := "VoiceHouse$Archive", name := "putSpeaker", desc := "(II)V" } : Jvm.MethodName)) ∈ tG := mG (List.mem_append_right _ (List.mem_append_right _ (List.mem_append_left _ (List.mem_of_getElem? (i := 49) rfl)))) rfl
set_option maxRecDepth 20000 in
theorem w_290 : (Jvm.Cond.code ({ cls := "VoiceHouse$Archive", name := "putSpeaker", desc := "(II)V" } : Jvm.MethodName) prog_2_method_7_code (3 : Nat) (Option.none : Option Jvm.ClassFile.FieldType)) ∈ tG := mG (List.mem_append_right _ (List.mem_append_right _ (List.mem_append_left _ (List.mem_of_getElem? (i := 50) rfl)))) rfl
set_option maxRecDepth 20000 in
theorem w_291 : (Jvm.Cond.methodLink "VoiceHouse" (110 : Nat) ({ cls := "VoiceHouse$Shifts", name := "measureAll", desc := "()V" } : Jvm.MethodName)) ∈ tG := mG (List.mem_append_right _ (List.mem_append_right _ (List.mem_append_left _ (List.mem_of_getElem? (i := 51) rfl)))) rfl
set_option maxRecDepth 20000 in
theorem w_292 : (Jvm.Cond.instanceMethod ({ cls := "VoiceHouse$Shifts", name := "measureAll", desc := "()V" } : Jvm.MethodName)) ∈ tG := mG (List.mem_append_right _ (List.mem_append_right _ (List.mem_append_left _ (List.mem_of_getElem? (i := 52) rfl)))) rfl
set_option maxRecDepth 20000 in
theorem w_293 : (Jvm.Cond.selects "VoiceHouse$Shifts" ({ cls := "VoiceHouse$Shifts", name := "measureAll", desc := "()V" } : Jvm.MethodName) ({ cls := "VoiceHouse$Shifts", name := "measureAll", desc := "()V" } : Jvm.MethodName)) ∈ tG := mG (List.mem_append_right _ (List.mem_append_right _ (List.mem_append_left _ (List.mem_of_getElem? (i := 53) rfl)))) rfl
set_option maxRecDepth 20000 in
theorem w_294 : (Jvm.Cond.code ({ cls := "VoiceHouse$Shifts", name := "measureAll", desc := "()V" } : Jvm.MethodName) prog_8_method_2_code (2 : Nat) (Option.none : Option Jvm.ClassFile.FieldType)) ∈ tG := mG (List.mem_append_right _ (List.mem_append_right _ (List.mem_append_left _ (List.mem_of_getElem? (i := 54) rfl)))) rfl
set_option maxRecDepth 20000 in
theorem w_295 : (Jvm.Cond.methodLink "VoiceHouse$Shifts" (25 : Nat) ({ cls := "VoiceHouse$Shifts", name := "measure", desc := "(I)V" } : Jvm.MethodName)) ∈ tG := mG (List.mem_append_right _ (List.mem_append_right _ (List.mem_append_left _ (List.mem_of_getElem? (i := 55) rfl)))) rfl
set_option maxRecDepth 20000 in
theorem w_296 : (Jvm.Cond.methodLink "VoiceHouseLaw" (28 : Nat) ({ cls := "VoiceHouse", name := "set", desc := "(I)Z" } : Jvm.MethodName)) ∈ tG := mG (List.mem_append_right _ (List.mem_append_right _ (List.mem_append_left _ (List.mem_of_getElem? (i := 56) rfl)))) rfl
set_option maxRecDepth 20000 in
theorem w_297 : (Jvm.Cond.instanceMethod ({ cls := "VoiceHouse", name := "set", desc := "(I)Z" } : Jvm.MethodName)) ∈ tG := mG (List.mem_append_right _ (List.mem_append_right _ (List.mem_append_left _ (List.mem_of_getElem? (i := 57) rfl)))) rfl
set_option maxRecDepth 20000 in
theorem w_298 : (Jvm.Cond.selects "VoiceHouse" ({ cls := "VoiceHouse", name := "set", desc := "(I)Z" } : Jvm.MethodName) ({ cls := "VoiceHouse", name := "set", desc := "(I)Z" } : Jvm.MethodName)) ∈ tG := mG (List.mem_append_right _ (List.mem_append_right _ (List.mem_append_left _ (List.mem_of_getElem? (i := 58) rfl)))) rfl
set_option maxRecDepth 20000 in
theorem w_299 : (Jvm.Cond.code ({ cls := "VoiceHouse", name := "set", desc := "(I)Z" } : Jvm.MethodName) prog_1_method_5_code (2 : Nat) (Option.some Jvm.ClassFile.FieldType.boolean)) ∈ tG := mG (List.mem_append_right _ (List.mem_append_right _ (List.mem_append_left _ (List.mem_of_getElem? (i := 59) rfl)))) rfl
set_option maxRecDepth 20000 in
theorem w_300 : (Jvm.Cond.methodLink "VoiceHouseLaw" (33 : Nat) ({ cls := "VoiceHouse", name := "limit", desc := "(I)Z" } : Jvm.MethodName)) ∈ tG := mG (List.mem_append_right _ (List.mem_append_right _ (List.mem_append_left _ (List.mem_of_getElem? (i := 60) rfl)))) rfl
set_option maxRecDepth 20000 in
theorem w_301 : (Jvm.Cond.instanceMethod ({ cls := "VoiceHouse", name := "limit", desc := "(I)Z" } : Jvm.MethodName)) ∈ tG := mG (List.mem_append_right _ (List.mem_append_right _ (List.mem_append_left _ (List.mem_of_getElem? (i := 61) rfl)))) rfl
set_option maxRecDepth 20000 in
theorem w_302 : (Jvm.Cond.selects "VoiceHouse" ({ cls := "VoiceHouse", name := "limit", desc := "(I)Z" } : Jvm.MethodName) ({ cls := "VoiceHouse", name := "limit", desc := "(I)Z" } : Jvm.MethodName)) ∈ tG := mG (List.mem_append_right _ (List.mem_append_right _ (List.mem_append_left _ (List.mem_of_getElem? (i := 62) rfl)))) rfl
set_option maxRecDepth 20000 in
theorem w_303 : (Jvm.Cond.code ({ cls := "VoiceHouse", name := "limit", desc := "(I)Z" } : Jvm.MethodName) prog_1_method_6_code (2 : Nat) (Option.some Jvm.ClassFile.FieldType.boolean)) ∈ tG := mG (List.mem_append_right _ (List.mem_append_right _ (List.mem_append_left _ (List.mem_of_getElem? (i := 63) rfl)))) rfl
set_option maxRecDepth 20000 in
theorem w_304 : (Jvm.Cond.methodLink "VoiceHouseLaw" (37 : Nat) ({ cls := "VoiceHouse", name := "shift", desc := "(II)I" } : Jvm.MethodName)) ∈ tG := mG (List.mem_append_right _ (List.mem_append_right _ (List.mem_append_left _ (List.mem_of_getElem? (i := 64) rfl)))) rfl
set_option maxRecDepth 20000 in
theorem w_305 : (Jvm.Cond.instanceMethod ({ cls := "VoiceHouse", name := "shift", desc := "(II)I" } : Jvm.MethodName)) ∈ tG := mG (List.mem_append_right _ (List.mem_append_right _ (List.mem_append_left _ (List.mem_of_getElem? (i := 65) rfl)))) rfl
set_option maxRecDepth 20000 in
theorem w_306 : (Jvm.Cond.selects "VoiceHouse" ({ cls := "VoiceHouse", name := "shift", desc := "(II)I" } : Jvm.MethodName) ({ cls := "VoiceHouse", name := "shift", desc := "(II)I" } : Jvm.MethodName)) ∈ tG := mG (List.mem_append_right _ (List.mem_append_right _ (List.mem_append_left _ (List.mem_of_getElem? (i := 66) rfl)))) rfl
set_option maxRecDepth 20000 in
theorem w_307 : (Jvm.Cond.code ({ cls := "VoiceHouse", name := "shift", desc := "(II)I" } : Jvm.MethodName) prog_1_method_7_code (3 : Nat) (Option.some Jvm.ClassFile.FieldType.int)) ∈ tG := mG (List.mem_append_right _ (List.mem_append_right _ (List.mem_append_left _ (List.mem_of_getElem? (i := 67) rfl)))) rfl
set_option maxRecDepth 20000 in
theorem w_308 : (Jvm.Cond.constant "VoiceHouse" (113 : Nat) (-2147483648 : Int32)) ∈ tG := mG (List.mem_append_right _ (List.mem_append_right _ (List.mem_append_left _ (List.mem_of_getElem? (i := 68) rfl)))) rfl
set_option maxRecDepth 20000 in
theorem w_309 : (Jvm.Cond.methodLink "VoiceHouse" (114 : Nat) ({ cls := "VoiceHouse$Shifts", name := "at", desc := "(II)I" } : Jvm.MethodName)) ∈ tG := mG (List.mem_append_right _ (List.mem_append_right _ (List.mem_append_left _ (List.mem_of_getElem? (i := 69) rfl)))) rfl
set_option maxRecDepth 20000 in
theorem w_310 : (Jvm.Cond.instanceMethod ({ cls := "VoiceHouse$Shifts", name := "at", desc := "(II)I" } : Jvm.MethodName)) ∈ tG := mG (List.mem_append_right _ (List.mem_append_right _ (List.mem_append_left _ (List.mem_of_getElem? (i := 70) rfl)))) rfl
set_option maxRecDepth 20000 in
theorem w_311 : (Jvm.Cond.selects "VoiceHouse$Shifts" ({ cls := "VoiceHouse$Shifts", name := "at", desc := "(II)I" } : Jvm.MethodName) ({ cls := "VoiceHouse$Shifts", name := "at", desc := "(II)I" } : Jvm.MethodName)) ∈ tG := mG (List.mem_append_right _ (List.mem_append_right _ (List.mem_append_left _ (List.mem_of_getElem? (i := 71) rfl)))) rfl
set_option maxRecDepth 20000 in
theorem w_312 : (Jvm.Cond.code ({ cls := "VoiceHouse$Shifts", name := "at", desc := "(II)I" } : Jvm.MethodName) prog_8_method_5_code (3 : Nat) (Option.some Jvm.ClassFile.FieldType.int)) ∈ tG := mG (List.mem_append_right _ (List.mem_append_right _ (List.mem_append_left _ (List.mem_of_getElem? (i := 72) rfl)))) rfl
set_option maxRecDepth 20000 in
theorem w_313 : (Jvm.Cond.methodLink "VoiceHouseLaw" (41 : Nat) ({ cls := "VoiceHouse", name := "hidden", desc := "(II)Z" } : Jvm.MethodName)) ∈ tG := mG (List.mem_append_right _ (List.mem_append_right _ (List.mem_append_left _ (List.mem_of_getElem? (i := 73) rfl)))) rfl
set_option maxRecDepth 20000 in
theorem w_314 : (Jvm.Cond.instanceMethod ({ cls := "VoiceHouse", name := "hidden", desc := "(II)Z" } : Jvm.MethodName)) ∈ tG := mG (List.mem_append_right _ (List.mem_append_right _ (List.mem_append_left _ (List.mem_of_getElem? (i := 74) rfl)))) rfl
set_option maxRecDepth 20000 in
theorem w_315 : (Jvm.Cond.selects "VoiceHouse" ({ cls := "VoiceHouse", name := "hidden", desc := "(II)Z" } : Jvm.MethodName) ({ cls := "VoiceHouse", name := "hidden", desc := "(II)Z" } : Jvm.MethodName)) ∈ tG := mG (List.mem_append_right _ (List.mem_append_right _ (List.mem_append_left _ (List.mem_of_getElem? (i := 75) rfl)))) rfl
set_option maxRecDepth 20000 in
theorem w_316 : (Jvm.Cond.code ({ cls := "VoiceHouse", name := "hidden", desc := "(II)Z" } : Jvm.MethodName) prog_1_method_8_code (3 : Nat) (Option.some Jvm.ClassFile.FieldType.boolean)) ∈ tG := mG (List.mem_append_right _ (List.mem_append_right _ (List.mem_append_left _ (List.mem_of_getElem? (i := 76) rfl)))) rfl
set_option maxRecDepth 20000 in
theorem w_317 : (Jvm.Cond.methodLink "VoiceHouse" (117 : Nat) ({ cls := "VoiceHouse$Shifts", name := "isUnheard", desc := "(II)Z" } : Jvm.MethodName)) ∈ tG := mG (List.mem_append_right _ (List.mem_append_right _ (List.mem_append_left _ (List.mem_of_getElem? (i := 77) rfl)))) rfl
set_option maxRecDepth 20000 in
theorem w_318 : (Jvm.Cond.instanceMethod ({ cls := "VoiceHouse$Shifts", name := "isUnheard", desc := "(II)Z" } : Jvm.MethodName)) ∈ tG := mG (List.mem_append_right _ (List.mem_append_right _ (List.mem_append_left _ (List.mem_of_getElem? (i := 78) rfl)))) rfl
set_option maxRecDepth 20000 in
theorem w_319 : (Jvm.Cond.selects "VoiceHouse$Shifts" ({ cls := "VoiceHouse$Shifts", name := "isUnheard", desc := "(II)Z" } : Jvm.MethodName) ({ cls := "VoiceHouse$Shifts", name := "isUnheard", desc := "(II)Z" } : Jvm.MethodName)) ∈ tG := mG (List.mem_append_right _ (List.mem_append_right _ (List.mem_append_left _ (List.mem_of_getElem? (i := 79) rfl)))) rfl
set_option maxRecDepth 20000 in
theorem w_320 : (Jvm.Cond.code ({ cls := "VoiceHouse$Shifts", name := "isUnheard", desc := "(II)Z" } : Jvm.MethodName) prog_8_method_6_code (3 : Nat) (Option.some Jvm.ClassFile.FieldType.boolean)) ∈ tG := mG (List.mem_append_right _ (List.mem_append_right _ (List.mem_append_left _ (List.mem_of_getElem? (i := 80) rfl)))) rfl
set_option maxRecDepth 20000 in
theorem w_321 : (Jvm.Cond.methodLink "VoiceHouseLaw" (45 : Nat) ({ cls := "VoiceHouse", name := "score", desc := "(II)I" } : Jvm.MethodName)) ∈ tG := mG (List.mem_append_right _ (List.mem_append_right _ (List.mem_append_left _ (List.mem_of_getElem? (i := 81) rfl)))) rfl
set_option maxRecDepth 20000 in
theorem w_322 : (Jvm.Cond.instanceMethod ({ cls := "VoiceHouse", name := "score", desc := "(II)I" } : Jvm.MethodName)) ∈ tG := mG (List.mem_append_right _ (List.mem_append_right _ (List.mem_append_left _ (List.mem_of_getElem? (i := 82) rfl)))) rfl
set_option maxRecDepth 20000 in
theorem w_323 : (Jvm.Cond.selects "VoiceHouse" ({ cls := "VoiceHouse", name := "score", desc := "(II)I" } : Jvm.MethodName) ({ cls := "VoiceHouse", name := "score", desc := "(II)I" } : Jvm.MethodName)) ∈ tG := mG (List.mem_append_right _ (List.mem_append_right _ (List.mem_append_left _ (List.mem_of_getElem? (i := 83) rfl)))) rfl
set_option maxRecDepth 20000 in
theorem w_324 : (Jvm.Cond.code ({ cls := "VoiceHouse", name := "score", desc := "(II)I" } : Jvm.MethodName) prog_1_method_9_code (3 : Nat) (Option.some Jvm.ClassFile.FieldType.int)) ∈ tG := mG (List.mem_append_right _ (List.mem_append_right _ (List.mem_append_left _ (List.mem_of_getElem? (i := 84) rfl)))) rfl
set_option maxRecDepth 20000 in
theorem w_325 : (Jvm.Cond.methodLink "VoiceHouse" (121 : Nat) ({ cls := "VoiceHouse", name := "areTwo", desc := "(II)Z" } : Jvm.MethodName)) ∈ tG := mG (List.mem_append_right _ (List.mem_append_right _ (List.mem_append_left _ (List.mem_of_getElem? (i := 85) rfl)))) rfl
set_option maxRecDepth 20000 in
theorem w_327 : (Jvm.Cond.instanceMethod ({ cls := "VoiceHouse", name := "areTwo", desc := "(II)Z" } : Jvm.MethodName)) ∈ tG := mG (List.mem_append_right _ (List.mem_append_right _ (List.mem_append_left _ (List.mem_of_getElem? (i := 87) rfl)))) rfl
set_option maxRecDepth 20000 in
theorem w_328 : (Jvm.Cond.code ({ cls := "VoiceHouse", name := "areTwo", desc := "(II)Z" } : Jvm.MethodName) prog_1_method_26_code (3 : Nat) (Option.some Jvm.ClassFile.FieldType.boolean)) ∈ tG := mG (List.mem_append_right _ (List.mem_append_right _ (List.mem_append_left _ (List.mem_of_getElem? (i := 88) rfl)))) rfl
set_option maxRecDepth 20000 in
theorem w_329 : (Jvm.Cond.methodLink "VoiceHouse" (124 : Nat) ({ cls := "VoiceHouse$Scores", name := "between", desc := "(II)I" } : Jvm.MethodName)) ∈ tG := mG (List.mem_append_right _ (List.mem_append_right _ (List.mem_append_left _ (List.mem_of_getElem? (i := 89) rfl)))) rfl
set_option maxRecDepth 20000 in
theorem w_330 : (Jvm.Cond.instanceMethod ({ cls := "VoiceHouse$Scores", name := "between", desc := "(II)I" } : Jvm.MethodName)) ∈ tG := mG (List.mem_append_right _ (List.mem_append_right _ (List.mem_append_left _ (List.mem_of_getElem? (i := 90) rfl)))) rfl
set_option maxRecDepth 20000 in
theorem w_331 : (Jvm.Cond.selects "VoiceHouse$Scores" ({ cls := "VoiceHouse$Scores", name := "between", desc := "(II)I" } : Jvm.MethodName) ({ cls := "VoiceHouse$Scores", name := "between", desc := "(II)I" } : Jvm.MethodName)) ∈ tG := mG (List.mem_append_right _ (List.mem_append_right _ (List.mem_append_left _ (List.mem_of_getElem? (i := 91) rfl)))) rfl
set_option maxRecDepth 20000 in
theorem w_332 : (Jvm.Cond.code ({ cls := "VoiceHouse$Scores", name := "between", desc := "(II)I" } : Jvm.MethodName) prog_6_method_2_code (10 : Nat) (Option.some Jvm.ClassFile.FieldType.int)) ∈ tG := mG (List.mem_append_right _ (List.mem_append_right _ (List.mem_append_left _ (List.mem_of_getElem? (i := 92) rfl)))) rfl
set_option maxRecDepth 20000 in
theorem w_333 : (Jvm.Cond.methodLink "VoiceHouse$Scores" (19 : Nat) ({ cls := "VoiceHouse$Archive", name := "toneAt", desc := "(II)I" } : Jvm.MethodName)) ∈ tG := mG (List.mem_append_right _ (List.mem_append_right _ (List.mem_append_left _ (List.mem_of_getElem? (i := 93) rfl)))) rfl
set_option maxRecDepth 20000 in
theorem w_334 : (Jvm.Cond.methodLink "VoiceHouse$Scores" (25 : Nat) ({ cls := "VoiceHouse$Archive", name := "channelOf", desc := "(I)I" } : Jvm.MethodName)) ∈ tG := mG (List.mem_append_right _ (List.mem_append_right _ (List.mem_append_left _ (List.mem_of_getElem? (i := 94) rfl)))) rfl
set_option maxRecDepth 20000 in
theorem w_335 : (Jvm.Cond.methodLink "VoiceHouse$Scores" (29 : Nat) ({ cls := "VoiceHouse$Shifts", name := "at", desc := "(II)I" } : Jvm.MethodName)) ∈ tG := mG (List.mem_append_right _ (List.mem_append_right _ (List.mem_append_left _ (List.mem_of_getElem? (i := 95) rfl)))) rfl
set_option maxRecDepth 20000 in
theorem w_336 : (Jvm.Cond.methodLink "VoiceHouse$Scores" (34 : Nat) ({ cls := "java/lang/Math", name := "abs", desc := "(I)I" } : Jvm.MethodName)) ∈ tG := mG (List.mem_append_right _ (List.mem_append_right _ (List.mem_append_left _ (List.mem_of_getElem? (i := 96) rfl)))) rfl
set_option maxRecDepth 20000 in
theorem w_337 : (Jvm.Cond.static ({ cls := "java/lang/Math", name := "abs", desc := "(I)I" } : Jvm.MethodName)) ∈ tG := mG (List.mem_append_right _ (List.mem_append_right _ (List.mem_append_left _ (List.mem_of_getElem? (i := 97) rfl)))) rfl
set_option maxRecDepth 20000 in
theorem w_338 : (Jvm.Cond.code ({ cls := "java/lang/Math", name := "abs", desc := "(I)I" } : Jvm.MethodName) prog_12_method_59_code (1 : Nat) (Option.some Jvm.ClassFile.FieldType.int)) ∈ tG := mG (List.mem_append_right _ (List.mem_append_right _ (List.mem_append_left _ (List.mem_of_getElem? (i := 98) rfl)))) rfl
set_option maxRecDepth 20000 in
theorem w_339 : (Jvm.Cond.methodLink "VoiceHouseLaw" (49 : Nat) ({ cls := "VoiceHouse", name := "band", desc := "(II)I" } : Jvm.MethodName)) ∈ tG := mG (List.mem_append_right _ (List.mem_append_right _ (List.mem_append_left _ (List.mem_of_getElem? (i := 99) rfl)))) rfl
set_option maxRecDepth 20000 in
theorem w_340 : (Jvm.Cond.instanceMethod ({ cls := "VoiceHouse", name := "band", desc := "(II)I" } : Jvm.MethodName)) ∈ tG := mG (List.mem_append_right _ (List.mem_append_right _ (List.mem_append_left _ (List.mem_of_getElem? (i := 100) rfl)))) rfl
set_option maxRecDepth 20000 in
theorem w_341 : (Jvm.Cond.selects "VoiceHouse" ({ cls := "VoiceHouse", name := "band", desc := "(II)I" } : Jvm.MethodName) ({ cls := "VoiceHouse", name := "band", desc := "(II)I" } : Jvm.MethodName)) ∈ tG := mG (List.mem_append_right _ (List.mem_append_right _ (List.mem_append_left _ (List.mem_of_getElem? (i := 101) rfl)))) rfl
set_option maxRecDepth 20000 in
theorem w_342 : (Jvm.Cond.code ({ cls := "VoiceHouse", name := "band", desc := "(II)I" } : Jvm.MethodName) prog_1_method_10_code (3 : Nat) (Option.some Jvm.ClassFile.FieldType.int)) ∈ tG := mG (List.mem_append_right _ (List.mem_append_right _ (List.mem_append_left _ (List.mem_of_getElem? (i := 102) rfl)))) rfl
set_option maxRecDepth 20000 in
theorem w_343 : (Jvm.Cond.methodLink "VoiceHouse" (127 : Nat) ({ cls := "VoiceHouse", name := "isBand", desc := "(I)Z" } : Jvm.MethodName)) ∈ tG := mG (List.mem_append_right _ (List.mem_append_right _ (List.mem_append_left _ (List.mem_of_getElem? (i := 103) rfl)))) rfl
set_option maxRecDepth 20000 in
theorem w_344 : (Jvm.Cond.static ({ cls := "VoiceHouse", name := "isBand", desc := "(I)Z" } : Jvm.MethodName)) ∈ tG := mG (List.mem_append_right _ (List.mem_append_right _ (List.mem_append_left _ (List.mem_of_getElem? (i := 104) rfl)))) rfl
set_option maxRecDepth 20000 in
theorem w_345 : (Jvm.Cond.code ({ cls := "VoiceHouse", name := "isBand", desc := "(I)Z" } : Jvm.MethodName) prog_1_method_31_code (1 : Nat) (Option.some Jvm.ClassFile.FieldType.boolean)) ∈ tG := mG (List.mem_append_right _ (List.mem_append_right _ (List.mem_append_left _ (List.mem_of_getElem? (i := 105) rfl)))) rfl
set_option maxRecDepth 20000 in
theorem w_346 : (Jvm.Cond.methodLink "VoiceHouse" (130 : Nat) ({ cls := "VoiceHouse", name := "freshPairs", desc := "()LVoiceHouse$PairBook;" } : Jvm.MethodName)) ∈ tG := mG (List.mem_append_right _ (List.mem_append_right _ (List.mem_append_left _ (List.mem_of_getElem? (i := 106) rfl)))) rfl
set_option maxRecDepth 20000 in
theorem w_348 : (Jvm.Cond.instanceMethod ({ cls := "VoiceHouse", name := "freshPairs", desc := "()LVoiceHouse$PairBook;" } : Jvm.MethodName)) ∈ tG := mG (List.mem_append_right _ (List.mem_append_right _ (List.mem_append_left _ (List.mem_of_getElem? (i := 108) rfl)))) rfl
set_option maxRecDepth 20000 in
theorem w_349 : (Jvm.Cond.code ({ cls := "VoiceHouse", name := "freshPairs", desc := "()LVoiceHouse$PairBook;" } : Jvm.MethodName) prog_1_method_25_code (1 : Nat) (Option.some (Jvm.ClassFile.FieldType.object "VoiceHouse$PairBook"))) ∈ tG := mG (List.mem_append_right _ (List.mem_append_right _ (List.mem_append_left _ (List.mem_of_getElem? (i := 109) rfl)))) rfl
set_option maxRecDepth 20000 in
theorem w_350 : (Jvm.Cond.methodLink "VoiceHouse" (236 : Nat) ({ cls := "VoiceHouse$PairBook", name := "fillFor", desc := "(I)V" } : Jvm.MethodName)) ∈ tG := mG (List.mem_append_right _ (List.mem_append_right _ (List.mem_append_left _ (List.mem_of_getElem? (i := 110) rfl)))) rfl
set_option maxRecDepth 20000 in
theorem w_351 : (Jvm.Cond.instanceMethod ({ cls := "VoiceHouse$PairBook", name := "fillFor", desc := "(I)V" } : Jvm.MethodName)) ∈ tG := mG (List.mem_append_right _ (List.mem_append_right _ (List.mem_append_left _ (List.mem_of_getElem? (i := 111) rfl)))) rfl
set_option maxRecDepth 20000 in
theorem w_352 : (Jvm.Cond.selects "VoiceHouse$PairBook" ({ cls := "VoiceHouse$PairBook", name := "fillFor", desc := "(I)V" } : Jvm.MethodName) ({ cls := "VoiceHouse$PairBook", name := "fillFor", desc := "(I)V" } : Jvm.MethodName)) ∈ tG := mG (List.mem_append_right _ (List.mem_append_right _ (List.mem_append_left _ (List.mem_of_getElem? (i := 112) rfl)))) rfl
set_option maxRecDepth 20000 in
theorem w_353 : (Jvm.Cond.code ({ cls := "VoiceHouse$PairBook", name := "fillFor", desc := "(I)V" } : Jvm.MethodName) prog_5_method_2_code (2 : Nat) (Option.none : Option Jvm.ClassFile.FieldType)) ∈ tG := mG (List.mem_append_right _ (List.mem_append_right _ (List.mem_append_left _ (List.mem_of_getElem? (i := 113) rfl)))) rfl
set_option maxRecDepth 20000 in
theorem w_354 : (Jvm.Cond.methodLink "VoiceHouse$PairBook" (48 : Nat) ({ cls := "VoiceHouse$PairBook", name := "countPairs", desc := "(I)V" } : Jvm.MethodName)) ∈ tG := mG (List.mem_append_right _ (List.mem_append_right _ (List.mem_append_left _ (List.mem_of_getElem? (i := 114) rfl)))) rfl
set_option maxRecDepth 20000 in
theorem w_356 : (Jvm.Cond.instanceMethod ({ cls := "VoiceHouse$PairBook", name := "countPairs", desc := "(I)V" } : Jvm.MethodName)) ∈ tG := mG (List.mem_append_right _ (List.mem_append_right _ (List.mem_append_left _ (List.mem_of_getElem? (i := 116) rfl)))) rfl
set_option maxRecDepth 20000 in
theorem w_357 : (Jvm.Cond.code ({ cls := "VoiceHouse$PairBook", name := "countPairs", desc := "(I)V" } : Jvm.MethodName) prog_5_method_3_code (4 : Nat) (Option.none : Option Jvm.ClassFile.FieldType)) ∈ tG := mG (List.mem_append_right _ (List.mem_append_right _ (List.mem_append_left _ (List.mem_of_getElem? (i := 117) rfl)))) rfl
set_option maxRecDepth 20000 in
theorem w_358 : (Jvm.Cond.methodLink "VoiceHouse$PairBook" (58 : Nat) ({ cls := "java/util/Arrays", name := "fill", desc := "([II)V" } : Jvm.MethodName)) ∈ tG := mG (List.mem_append_right _ (List.mem_append_right _ (List.mem_append_left _ (List.mem_of_getElem? (i := 118) rfl)))) rfl
set_option maxRecDepth 20000 in
theorem w_359 : (Jvm.Cond.methodLink "VoiceHouse$PairBook" (64 : Nat) ({ cls := "VoiceHouse$Archive", name := "size", desc := "()I" } : Jvm.MethodName)) ∈ tG := mG (List.mem_append_right _ (List.mem_append_right _ (List.mem_append_left _ (List.mem_of_getElem? (i := 119) rfl)))) rfl
set_option maxRecDepth 20000 in
theorem w_360 : (Jvm.Cond.methodLink "VoiceHouse$PairBook" (70 : Nat) ({ cls := "VoiceHouse$Archive", name := "isOfSet", desc := "(II)Z" } : Jvm.MethodName)) ∈ tG := mG (List.mem_append_right _ (List.mem_append_right _ (List.mem_append_left _ (List.mem_of_getElem? (i := 120) rfl)))) rfl
set_option maxRecDepth 20000 in
theorem w_361 : (Jvm.Cond.instanceMethod ({ cls := "VoiceHouse$Archive", name := "isOfSet", desc := "(II)Z" } : Jvm.MethodName)) ∈ tG := mG (List.mem_append_right _ (List.mem_append_right _ (List.mem_append_left _ (List.mem_of_getElem? (i := 121) rfl)))) rfl
set_option maxRecDepth 20000 in
theorem w_362 : (Jvm.Cond.selects "VoiceHouse$Archive" ({ cls := "VoiceHouse$Archive", name := "isOfSet", desc := "(II)Z" } : Jvm.MethodName) ({ cls := "VoiceHouse$Archive", name := "isOfSet", desc := "(II)Z" } : Jvm.MethodName)) ∈ tG := mG (List.mem_append_right _ (List.mem_append_right _ (List.mem_append_left _ (List.mem_of_getElem? (i := 122) rfl)))) rfl
set_option maxRecDepth 20000 in
theorem w_363 : (Jvm.Cond.code ({ cls := "VoiceHouse$Archive", name := "isOfSet", desc := "(II)Z" } : Jvm.MethodName) prog_2_method_11_code (3 : Nat) (Option.some Jvm.ClassFile.FieldType.boolean)) ∈ tG := mG (List.mem_append_right _ (List.mem_append_right _ (List.mem_append_left _ (List.mem_of_getElem? (i := 123) rfl)))) rfl
set_option maxRecDepth 20000 in
theorem w_364 : (Jvm.Cond.methodLink "VoiceHouse$Archive" (31 : Nat) ({ cls := "VoiceHouse$Archive", name := "isKnown", desc := "(I)Z" } : Jvm.MethodName)) ∈ tG := mG (List.mem_append_right _ (List.mem_append_right _ (List.mem_append_left _ (List.mem_of_getElem? (i := 124) rfl)))) rfl
set_option maxRecDepth 20000 in
theorem w_365 : (Jvm.Cond.methodLink "VoiceHouse$PairBook" (74 : Nat) ({ cls := "VoiceHouse$PairBook", name := "countPair", desc := "(II)V" } : Jvm.MethodName)) ∈ tG := mG (List.mem_append_right _ (List.mem_append_right _ (List.mem_append_left _ (List.mem_of_getElem? (i := 125) rfl)))) rfl
set_option maxRecDepth 20000 in
theorem w_367 : (Jvm.Cond.instanceMethod ({ cls := "VoiceHouse$PairBook", name := "countPair", desc := "(II)V" } : Jvm.MethodName)) ∈ tG := mG (List.mem_append_right _ (List.mem_append_right _ (List.mem_append_left _ (List.mem_of_getElem? (i := 127) rfl)))) rfl
set_option maxRecDepth 20000 in
theorem w_368 : (Jvm.Cond.code ({ cls := "VoiceHouse$PairBook", name := "countPair", desc := "(II)V" } : Jvm.MethodName) prog_5_method_4_code (4 : Nat) (Option.none : Option Jvm.ClassFile.FieldType)) ∈ tG := mG (List.mem_append_right _ (List.mem_append_right _ (List.mem_append_left _ (List.mem_of_getElem? (i := 128) rfl)))) rfl
set_option maxRecDepth 20000 in
theorem w_369 : (Jvm.Cond.methodLink "VoiceHouse$PairBook" (78 : Nat) ({ cls := "VoiceHouse$Scores", name := "between", desc := "(II)I" } : Jvm.MethodName)) ∈ tG := mG (List.mem_append_right _ (List.mem_append_right _ (List.mem_append_left _ (List.mem_of_getElem? (i := 129) rfl)))) rfl
set_option maxRecDepth 20000 in
theorem w_370 : (Jvm.Cond.methodLink "VoiceHouse$PairBook" (84 : Nat) ({ cls := "VoiceHouse$Archive", name := "speakerOf", desc := "(I)I" } : Jvm.MethodName)) ∈ tG := mG (List.mem_append_right _ (List.mem_append_right _ (List.mem_append_left _ (List.mem_of_getElem? (i := 130) rfl)))) rfl
set_option maxRecDepth 20000 in
theorem w_372 : (Jvm.Cond.static ({ cls := "VoiceHouse", name := "bandOf", desc := "(I)I" } : Jvm.MethodName)) ∈ tG := mG (List.mem_append_right _ (List.mem_append_right _ (List.mem_append_left _ (List.mem_of_getElem? (i := 132) rfl)))) rfl
set_option maxRecDepth 20000 in
theorem w_373 : (Jvm.Cond.code ({ cls := "VoiceHouse", name := "bandOf", desc := "(I)I" } : Jvm.MethodName) prog_1_method_32_code (1 : Nat) (Option.some Jvm.ClassFile.FieldType.int)) ∈ tG := mG (List.mem_append_right _ (List.mem_append_right _ (List.mem_append_left _ (List.mem_of_getElem? (i := 133) rfl)))) rfl
set_option maxRecDepth 20000 in
theorem w_374 : (Jvm.Cond.methodLink "VoiceHouse" (239 : Nat) ({ cls := "java/lang/Math", name := "min", desc := "(II)I" } : Jvm.MethodName)) ∈ tG := mG (List.mem_append_right _ (List.mem_append_right _ (List.mem_append_left _ (List.mem_of_getElem? (i := 134) rfl)))) rfl
set_option maxRecDepth 20000 in
theorem w_375 : (Jvm.Cond.static ({ cls := "java/lang/Math", name := "min", desc := "(II)I" } : Jvm.MethodName)) ∈ tG := mG (List.mem_append_right _ (List.mem_append_right _ (List.mem_append_left _ (List.mem_of_getElem? (i := 135) rfl)))) rfl
set_option maxRecDepth 20000 in
theorem w_376 : (Jvm.Cond.code ({ cls := "java/lang/Math", name := "min", desc := "(II)I" } : Jvm.MethodName) prog_12_method_69_code (2 : Nat) (Option.some Jvm.ClassFile.FieldType.int)) ∈ tG := mG (List.mem_append_right _ (List.mem_append_right _ (List.mem_append_left _ (List.mem_of_getElem? (i := 136) rfl)))) rfl
set_option maxRecDepth 20000 in
theorem w_377 : (Jvm.Cond.methodLink "VoiceHouse$PairBook" (52 : Nat) ({ cls := "VoiceHouse$PairBook", name := "makeBlocks", desc := "()V" } : Jvm.MethodName)) ∈ tG := mG (List.mem_append_right _ (List.mem_append_right _ (List.mem_append_left _ (List.mem_of_getElem? (i := 137) rfl)))) rfl
set_option maxRecDepth 20000 in
theorem w_379 : (Jvm.Cond.instanceMethod ({ cls := "VoiceHouse$PairBook", name := "makeBlocks", desc := "()V" } : Jvm.MethodName)) ∈ tG := mG (List.mem_append_right _ (List.mem_append_right _ (List.mem_append_left _ (List.mem_of_getElem? (i := 139) rfl)))) rfl
set_option maxRecDepth 20000 in
theorem w_380 : (Jvm.Cond.code ({ cls := "VoiceHouse$PairBook", name := "makeBlocks", desc := "()V" } : Jvm.MethodName) prog_5_method_5_code (2 : Nat) (Option.none : Option Jvm.ClassFile.FieldType)) ∈ tG := mG (List.mem_append_right _ (List.mem_append_right _ (List.mem_append_left _ (List.mem_of_getElem? (i := 140) rfl)))) rfl
set_option maxRecDepth 20000 in
theorem w_381 : (Jvm.Cond.methodLink "VoiceHouse$PairBook" (91 : Nat) ({ cls := "VoiceHouse$PairBook", name := "isEmptyBand", desc := "(I)Z" } : Jvm.MethodName)) ∈ tG := mG (List.mem_append_right _ (List.mem_append_right _ (List.mem_append_left _ (List.mem_of_getElem? (i := 141) rfl)))) rfl
set_option maxRecDepth 20000 in
theorem w_383 : (Jvm.Cond.instanceMethod ({ cls := "VoiceHouse$PairBook", name := "isEmptyBand", desc := "(I)Z" } : Jvm.MethodName)) ∈ tG := mG (List.mem_append_right _ (List.mem_append_right _ (List.mem_append_left _ (List.mem_of_getElem? (i := 143) rfl)))) rfl
set_option maxRecDepth 20000 in
theorem w_384 : (Jvm.Cond.code ({ cls := "VoiceHouse$PairBook", name := "isEmptyBand", desc := "(I)Z" } : Jvm.MethodName) prog_5_method_11_code (2 : Nat) (Option.some Jvm.ClassFile.FieldType.boolean)) ∈ tG := mG (List.mem_append_right _ (List.mem_append_right _ (List.mem_append_left _ (List.mem_of_getElem? (i := 144) rfl)))) rfl
set_option maxRecDepth 20000 in
theorem w_385 : (Jvm.Cond.methodLink "VoiceHouse$PairBook" (55 : Nat) ({ cls := "VoiceHouse$PairBook", name := "putBlocksInOrder", desc := "()V" } : Jvm.MethodName)) ∈ tG := mG (List.mem_append_right _ (List.mem_append_right _ (List.mem_append_left _ (List.mem_of_getElem? (i := 145) rfl)))) rfl
set_option maxRecDepth 20000 in
theorem w_387 : (Jvm.Cond.instanceMethod ({ cls := "VoiceHouse$PairBook", name := "putBlocksInOrder", desc := "()V" } : Jvm.MethodName)) ∈ tG := mG (List.mem_append_right _ (List.mem_append_right _ (List.mem_append_left _ (List.mem_of_getElem? (i := 147) rfl)))) rfl
set_option maxRecDepth 20000 in
theorem w_388 : (Jvm.Cond.code ({ cls := "VoiceHouse$PairBook", name := "putBlocksInOrder", desc := "()V" } : Jvm.MethodName) prog_5_method_6_code (3 : Nat) (Option.none : Option Jvm.ClassFile.FieldType)) ∈ tG := mG (List.mem_append_right _ (List.mem_append_right _ (List.mem_append_left _ (List.mem_of_getElem? (i := 148) rfl)))) rfl
set_option maxRecDepth 20000 in
theorem w_389 : (Jvm.Cond.methodLink "VoiceHouse$PairBook" (95 : Nat) ({ cls := "VoiceHouse$PairBook", name := "findOutOfOrder", desc := "()I" } : Jvm.MethodName)) ∈ tG := mG (List.mem_append_right _ (List.mem_append_right _ (List.mem_append_left _ (List.mem_of_getElem? (i := 149) rfl)))) rfl
set_option maxRecDepth 20000 in
theorem w_391 : (Jvm.Cond.instanceMethod ({ cls := "VoiceHouse$PairBook", name := "findOutOfOrder", desc := "()I" } : Jvm.MethodName)) ∈ tG := mG (List.mem_append_right _ (List.mem_append_right _ (List.mem_append_left _ (List.mem_of_getElem? (i := 151) rfl)))) rfl
set_option maxRecDepth 20000 in
theorem w_392 : (Jvm.Cond.code ({ cls := "VoiceHouse$PairBook", name := "findOutOfOrder", desc := "()I" } : Jvm.MethodName) prog_5_method_7_code (2 : Nat) (Option.some Jvm.ClassFile.FieldType.int)) ∈ tG := mG (List.mem_append_right _ (List.mem_append_right _ (List.mem_append_left _ (List.mem_of_getElem? (i := 152) rfl)))) rfl
set_option maxRecDepth 20000 in
theorem w_393 : (Jvm.Cond.methodLink "VoiceHouse$PairBook" (101 : Nat) ({ cls := "VoiceHouse$PairBook", name := "isOutOfOrder", desc := "(II)Z" } : Jvm.MethodName)) ∈ tG := mG (List.mem_append_right _ (List.mem_append_right _ (List.mem_append_left _ (List.mem_of_getElem? (i := 153) rfl)))) rfl
set_option maxRecDepth 20000 in
theorem w_395 : (Jvm.Cond.instanceMethod ({ cls := "VoiceHouse$PairBook", name := "isOutOfOrder", desc := "(II)Z" } : Jvm.MethodName)) ∈ tG := mG (List.mem_append_right _ (List.mem_append_right _ (List.mem_append_left _ (List.mem_of_getElem? (i := 155) rfl)))) rfl
set_option maxRecDepth 20000 in
theorem w_396 : (Jvm.Cond.code ({ cls := "VoiceHouse$PairBook", name := "isOutOfOrder", desc := "(II)Z" } : Jvm.MethodName) prog_5_method_8_code (5 : Nat) (Option.some Jvm.ClassFile.FieldType.boolean)) ∈ tG := mG (List.mem_append_right _ (List.mem_append_right _ (List.mem_append_left _ (List.mem_of_getElem? (i := 156) rfl)))) rfl
set_option maxRecDepth 20000 in
theorem w_397 : (Jvm.Cond.methodLink "VoiceHouse$PairBook" (98 : Nat) ({ cls := "VoiceHouse$PairBook", name := "joinWithNext", desc := "(I)V" } : Jvm.MethodName)) ∈ tG := mG (List.mem_append_right _ (List.mem_append_right _ (List.mem_append_left _ (List.mem_of_getElem? (i := 157) rfl)))) rfl
set_option maxRecDepth 20000 in
theorem w_399 : (Jvm.Cond.instanceMethod ({ cls := "VoiceHouse$PairBook", name := "joinWithNext", desc := "(I)V" } : Jvm.MethodName)) ∈ tG := mG (List.mem_append_right _ (List.mem_append_right _ (List.mem_append_left _ (List.mem_of_getElem? (i := 159) rfl)))) rfl
set_option maxRecDepth 20000 in
theorem w_400 : (Jvm.Cond.code ({ cls := "VoiceHouse$PairBook", name := "joinWithNext", desc := "(I)V" } : Jvm.MethodName) prog_5_method_9_code (3 : Nat) (Option.none : Option Jvm.ClassFile.FieldType)) ∈ tG := mG (List.mem_append_right _ (List.mem_append_right _ (List.mem_append_left _ (List.mem_of_getElem? (i := 160) rfl)))) rfl
set_option maxRecDepth 20000 in
theorem w_401 : (Jvm.Cond.methodLink "VoiceHouse" (134 : Nat) ({ cls := "VoiceHouse$PairBook", name := "sameIn", desc := "(I)I" } : Jvm.MethodName)) ∈ tG := mG (List.mem_append_right _ (List.mem_append_right _ (List.mem_append_left _ (List.mem_of_getElem? (i := 161) rfl)))) rfl
set_option maxRecDepth 20000 in
theorem w_402 : (Jvm.Cond.instanceMethod ({ cls := "VoiceHouse$PairBook", name := "sameIn", desc := "(I)I" } : Jvm.MethodName)) ∈ tG := mG (List.mem_append_right _ (List.mem_append_right _ (List.mem_append_left _ (List.mem_of_getElem? (i := 162) rfl)))) rfl
set_option maxRecDepth 20000 in
theorem w_403 : (Jvm.Cond.selects "VoiceHouse$PairBook" ({ cls := "VoiceHouse$PairBook", name := "sameIn", desc := "(I)I" } : Jvm.MethodName) ({ cls := "VoiceHouse$PairBook", name := "sameIn", desc := "(I)I" } : Jvm.MethodName)) ∈ tG := mG (List.mem_append_right _ (List.mem_append_right _ (List.mem_append_left _ (List.mem_of_getElem? (i := 163) rfl)))) rfl
set_option maxRecDepth 20000 in
theorem w_404 : (Jvm.Cond.code ({ cls := "VoiceHouse$PairBook", name := "sameIn", desc := "(I)I" } : Jvm.MethodName) prog_5_method_12_code (2 : Nat) (Option.some Jvm.ClassFile.FieldType.int)) ∈ tG := mG (List.mem_append_right _ (List.mem_append_right _ (List.mem_append_left _ (List.mem_of_getElem? (i := 164) rfl)))) rfl
set_option maxRecDepth 20000 in
theorem w_405 : (Jvm.Cond.methodLink "VoiceHouse" (138 : Nat) ({ cls := "VoiceHouse$PairBook", name := "otherIn", desc := "(I)I" } : Jvm.MethodName)) ∈ tG := mG (List.mem_append_right _ (List.mem_append_right _ (List.mem_append_left _ (List.mem_of_getElem? (i := 165) rfl)))) rfl
set_option maxRecDepth 20000 in
theorem w_406 : (Jvm.Cond.instanceMethod ({ cls := "VoiceHouse$PairBook", name := "otherIn", desc := "(I)I" } : Jvm.MethodName)) ∈ tG := mG (List.mem_append_right _ (List.mem_append_right _ (List.mem_append_left _ (List.mem_of_getElem? (i := 166) rfl)))) rfl
set_option maxRecDepth 20000 in
theorem w_407 : (Jvm.Cond.selects "VoiceHouse$PairBook" ({ cls := "VoiceHouse$PairBook", name := "otherIn", desc := "(I)I" } : Jvm.MethodName) ({ cls := "VoiceHouse$PairBook", name := "otherIn", desc := "(I)I" } : Jvm.MethodName)) ∈ tG := mG (List.mem_append_right _ (List.mem_append_right _ (List.mem_append_left _ (List.mem_of_getElem? (i := 167) rfl)))) rfl
set_option maxRecDepth 20000 in
theorem w_408 : (Jvm.Cond.code ({ cls := "VoiceHouse$PairBook", name := "otherIn", desc := "(I)I" } : Jvm.MethodName) prog_5_method_13_code (2 : Nat) (Option.some Jvm.ClassFile.FieldType.int)) ∈ tG := mG (List.mem_append_right _ (List.mem_append_right _ (List.mem_append_left _ (List.mem_of_getElem? (i := 168) rfl)))) rfl
set_option maxRecDepth 20000 in
theorem w_409 : (Jvm.Cond.methodLink "VoiceHouseLaw" (53 : Nat) ({ cls := "VoiceHouse", name := "block", desc := "(II)I" } : Jvm.MethodName)) ∈ tG := mG (List.mem_append_right _ (List.mem_append_right _ (List.mem_append_left _ (List.mem_of_getElem? (i := 169) rfl)))) rfl
set_option maxRecDepth 20000 in
theorem w_410 : (Jvm.Cond.instanceMethod ({ cls := "VoiceHouse", name := "block", desc := "(II)I" } : Jvm.MethodName)) ∈ tG := mG (List.mem_append_right _ (List.mem_append_right _ (List.mem_append_left _ (List.mem_of_getElem? (i := 170) rfl)))) rfl
set_option maxRecDepth 20000 in
theorem w_411 : (Jvm.Cond.selects "VoiceHouse" ({ cls := "VoiceHouse", name := "block", desc := "(II)I" } : Jvm.MethodName) ({ cls := "VoiceHouse", name := "block", desc := "(II)I" } : Jvm.MethodName)) ∈ tG := mG (List.mem_append_right _ (List.mem_append_right _ (List.mem_append_left _ (List.mem_of_getElem? (i := 171) rfl)))) rfl
set_option maxRecDepth 20000 in
theorem w_412 : (Jvm.Cond.code ({ cls := "VoiceHouse", name := "block", desc := "(II)I" } : Jvm.MethodName) prog_1_method_11_code (5 : Nat) (Option.some Jvm.ClassFile.FieldType.int)) ∈ tG := mG (List.mem_append_right _ (List.mem_append_right _ (List.mem_append_left _ (List.mem_of_getElem? (i := 172) rfl)))) rfl
set_option maxRecDepth 20000 in
theorem w_413 : (Jvm.Cond.methodLink "VoiceHouse" (141 : Nat) ({ cls := "VoiceHouse$PairBook", name := "findBlock", desc := "(I)I" } : Jvm.MethodName)) ∈ tG := mG (List.mem_append_right _ (List.mem_append_right _ (List.mem_append_left _ (List.mem_of_getElem? (i := 173) rfl)))) rfl
set_option maxRecDepth 20000 in
theorem w_414 : (Jvm.Cond.instanceMethod ({ cls := "VoiceHouse$PairBook", name := "findBlock", desc := "(I)I" } : Jvm.MethodName)) ∈ tG := mG (List.mem_append_right _ (List.mem_append_right _ (List.mem_append_left _ (List.mem_of_getElem? (i := 174) rfl)))) rfl
set_option maxRecDepth 20000 in
theorem w_415 : (Jvm.Cond.selects "VoiceHouse$PairBook" ({ cls := "VoiceHouse$PairBook", name := "findBlock", desc := "(I)I" } : Jvm.MethodName) ({ cls := "VoiceHouse$PairBook", name := "findBlock", desc := "(I)I" } : Jvm.MethodName)) ∈ tG := mG (List.mem_append_right _ (List.mem_append_right _ (List.mem_append_left _ (List.mem_of_getElem? (i := 175) rfl)))) rfl
set_option maxRecDepth 20000 in
theorem w_416 : (Jvm.Cond.code ({ cls := "VoiceHouse$PairBook", name := "findBlock", desc := "(I)I" } : Jvm.MethodName) prog_5_method_10_code (3 : Nat) (Option.some Jvm.ClassFile.FieldType.int)) ∈ tG := mG (List.mem_append_right _ (List.mem_append_right _ (List.mem_append_left _ (List.mem_of_getElem? (i := 176) rfl)))) rfl
set_option maxRecDepth 20000 in
theorem w_417 : (Jvm.Cond.methodLink "VoiceHouse" (144 : Nat) ({ cls := "VoiceHouse$PairBook", name := "firstBandOf", desc := "(I)I" } : Jvm.MethodName)) ∈ tG := mG (List.mem_append_right _ (List.mem_append_right _ (List.mem_append_left _ (List.mem_of_getElem? (i := 177) rfl)))) rfl
set_option maxRecDepth 20000 in
theorem w_418 : (Jvm.Cond.instanceMethod ({ cls := "VoiceHouse$PairBook", name := "firstBandOf", desc := "(I)I" } : Jvm.MethodName)) ∈ tG := mG (List.mem_append_right _ (List.mem_append_right _ (List.mem_append_left _ (List.mem_of_getElem? (i := 178) rfl)))) rfl
set_option maxRecDepth 20000 in
theorem w_419 : (Jvm.Cond.selects "VoiceHouse$PairBook" ({ cls := "VoiceHouse$PairBook", name := "firstBandOf", desc := "(I)I" } : Jvm.MethodName) ({ cls := "VoiceHouse$PairBook", name := "firstBandOf", desc := "(I)I" } : Jvm.MethodName)) ∈ tG := mG (List.mem_append_right _ (List.mem_append_right _ (List.mem_append_left _ (List.mem_of_getElem? (i := 179) rfl)))) rfl
set_option maxRecDepth 20000 in
theorem w_420 : (Jvm.Cond.code ({ cls := "VoiceHouse$PairBook", name := "firstBandOf", desc := "(I)I" } : Jvm.MethodName) prog_5_method_14_code (2 : Nat) (Option.some Jvm.ClassFile.FieldType.int)) ∈ tG := mG (List.mem_append_right _ (List.mem_append_right _ (List.mem_append_left _ (List.mem_of_getElem? (i := 180) rfl)))) rfl
set_option maxRecDepth 20000 in
theorem w_421 : (Jvm.Cond.methodLink "VoiceHouse" (147 : Nat) ({ cls := "VoiceHouse$PairBook", name := "lastBandOf", desc := "(I)I" } : Jvm.MethodName)) ∈ tG := mG (List.mem_append_right _ (List.mem_append_right _ (List.mem_append_left _ (List.mem_of_getElem? (i := 181) rfl)))) rfl
set_option maxRecDepth 20000 in
theorem w_422 : (Jvm.Cond.instanceMethod ({ cls := "VoiceHouse$PairBook", name := "lastBandOf", desc := "(I)I" } : Jvm.MethodName)) ∈ tG := mG (List.mem_append_right _ (List.mem_append_right _ (List.mem_append_left _ (List.mem_of_getElem? (i := 182) rfl)))) rfl
set_option maxRecDepth 20000 in
theorem w_423 : (Jvm.Cond.selects "VoiceHouse$PairBook" ({ cls := "VoiceHouse$PairBook", name := "lastBandOf", desc := "(I)I" } : Jvm.MethodName) ({ cls := "VoiceHouse$PairBook", name := "lastBandOf", desc := "(I)I" } : Jvm.MethodName)) ∈ tG := mG (List.mem_append_right _ (List.mem_append_right _ (List.mem_append_left _ (List.mem_of_getElem? (i := 183) rfl)))) rfl
set_option maxRecDepth 20000 in
theorem w_424 : (Jvm.Cond.code ({ cls := "VoiceHouse$PairBook", name := "lastBandOf", desc := "(I)I" } : Jvm.MethodName) prog_5_method_15_code (2 : Nat) (Option.some Jvm.ClassFile.FieldType.int)) ∈ tG := mG (List.mem_append_right _ (List.mem_append_right _ (List.mem_append_left _ (List.mem_of_getElem? (i := 184) rfl)))) rfl
set_option maxRecDepth 20000 in
theorem w_425 : (Jvm.Cond.methodLink "VoiceHouseLaw" (57 : Nat) ({ cls := "VoiceHouse", name := "odds", desc := "(II)I" } : Jvm.MethodName)) ∈ tG := mG (List.mem_append_right _ (List.mem_append_right _ (List.mem_append_left _ (List.mem_of_getElem? (i := 185) rfl)))) rfl
set_option maxRecDepth 20000 in
theorem w_426 : (Jvm.Cond.instanceMethod ({ cls := "VoiceHouse", name := "odds", desc := "(II)I" } : Jvm.MethodName)) ∈ tG := mG (List.mem_append_right _ (List.mem_append_right _ (List.mem_append_left _ (List.mem_of_getElem? (i := 186) rfl)))) rfl
set_option maxRecDepth 20000 in
theorem w_427 : (Jvm.Cond.selects "VoiceHouse" ({ cls := "VoiceHouse", name := "odds", desc := "(II)I" } : Jvm.MethodName) ({ cls := "VoiceHouse", name := "odds", desc := "(II)I" } : Jvm.MethodName)) ∈ tG := mG (List.mem_append_right _ (List.mem_append_right _ (List.mem_append_left _ (List.mem_of_getElem? (i := 187) rfl)))) rfl
set_option maxRecDepth 20000 in
theorem w_428 : (Jvm.Cond.code ({ cls := "VoiceHouse", name := "odds", desc := "(II)I" } : Jvm.MethodName) prog_1_method_12_code (5 : Nat) (Option.some Jvm.ClassFile.FieldType.int)) ∈ tG := mG (List.mem_append_right _ (List.mem_append_right _ (List.mem_append_left _ (List.mem_of_getElem? (i := 188) rfl)))) rfl
set_option maxRecDepth 20000 in
theorem w_429 : (Jvm.Cond.methodLink "VoiceHouse" (150 : Nat) ({ cls := "VoiceHouse", name := "bandOf", desc := "(I)I" } : Jvm.MethodName)) ∈ tG := mG (List.mem_append_right _ (List.mem_append_right _ (List.mem_append_left _ (List.mem_of_getElem? (i := 189) rfl)))) rfl
set_option maxRecDepth 20000 in
theorem w_430 : (Jvm.Cond.methodLink "VoiceHouse" (153 : Nat) ({ cls := "VoiceHouse$PairBook", name := "sameOf", desc := "(I)I" } : Jvm.MethodName)) ∈ tG := mG (List.mem_append_right _ (List.mem_append_right _ (List.mem_append_left _ (List.mem_of_getElem? (i := 190) rfl)))) rfl
set_option maxRecDepth 20000 in
theorem w_431 : (Jvm.Cond.instanceMethod ({ cls := "VoiceHouse$PairBook", name := "sameOf", desc := "(I)I" } : Jvm.MethodName)) ∈ tG := mG (List.mem_append_right _ (List.mem_append_right _ (List.mem_append_left _ (List.mem_of_getElem? (i := 191) rfl)))) rfl
set_option maxRecDepth 20000 in
theorem w_432 : (Jvm.Cond.selects "VoiceHouse$PairBook" ({ cls := "VoiceHouse$PairBook", name := "sameOf", desc := "(I)I" } : Jvm.MethodName) ({ cls := "VoiceHouse$PairBook", name := "sameOf", desc := "(I)I" } : Jvm.MethodName)) ∈ tG := mG (List.mem_append_right _ (List.mem_append_right _ (List.mem_append_left _ (List.mem_of_getElem? (i := 192) rfl)))) rfl
set_option maxRecDepth 20000 in
theorem w_433 : (Jvm.Cond.code ({ cls := "VoiceHouse$PairBook", name := "sameOf", desc := "(I)I" } : Jvm.MethodName) prog_5_method_16_code (2 : Nat) (Option.some Jvm.ClassFile.FieldType.int)) ∈ tG := mG (List.mem_append_right _ (List.mem_append_right _ (List.mem_append_left _ (List.mem_of_getElem? (i := 193) rfl)))) rfl
set_option maxRecDepth 20000 in
theorem w_434 : (Jvm.Cond.methodLink "VoiceHouse" (156 : Nat) ({ cls := "VoiceHouse$PairBook", name := "allSame", desc := "()I" } : Jvm.MethodName)) ∈ tG := mG (List.mem_append_right _ (List.mem_append_right _ (List.mem_append_left _ (List.mem_of_getElem? (i := 194) rfl)))) rfl
set_option maxRecDepth 20000 in
theorem w_435 : (Jvm.Cond.instanceMethod ({ cls := "VoiceHouse$PairBook", name := "allSame", desc := "()I" } : Jvm.MethodName)) ∈ tG := mG (List.mem_append_right _ (List.mem_append_right _ (List.mem_append_left _ (List.mem_of_getElem? (i := 195) rfl)))) rfl
set_option maxRecDepth 20000 in
theorem w_436 : (Jvm.Cond.selects "VoiceHouse$PairBook" ({ cls := "VoiceHouse$PairBook", name := "allSame", desc := "()I" } : Jvm.MethodName) ({ cls := "VoiceHouse$PairBook", name := "allSame", desc := "()I" } : Jvm.MethodName)) ∈ tG := mG (List.mem_append_right _ (List.mem_append_right _ (List.mem_append_left _ (List.mem_of_getElem? (i := 196) rfl)))) rfl
set_option maxRecDepth 20000 in
theorem w_437 : (Jvm.Cond.code ({ cls := "VoiceHouse$PairBook", name := "allSame", desc := "()I" } : Jvm.MethodName) prog_5_method_19_code (1 : Nat) (Option.some Jvm.ClassFile.FieldType.int)) ∈ tG := mG (List.mem_append_right _ (List.mem_append_right _ (List.mem_append_left _ (List.mem_of_getElem? (i := 197) rfl)))) rfl
set_option maxRecDepth 20000 in
theorem w_438 : (Jvm.Cond.methodLink "VoiceHouse" (160 : Nat) ({ cls := "VoiceHouse$PairBook", name := "otherOf", desc := "(I)I" } : Jvm.MethodName)) ∈ tG := mG (List.mem_append_right _ (List.mem_append_right _ (List.mem_append_left _ (List.mem_of_getElem? (i := 198) rfl)))) rfl
set_option maxRecDepth 20000 in
theorem w_439 : (Jvm.Cond.instanceMethod ({ cls := "VoiceHouse$PairBook", name := "otherOf", desc := "(I)I" } : Jvm.MethodName)) ∈ tG := mG (List.mem_append_right _ (List.mem_append_right _ (List.mem_append_left _ (List.mem_of_getElem? (i := 199) rfl)))) rfl
set_option maxRecDepth 20000 in
theorem w_440 : (Jvm.Cond.selects "VoiceHouse$PairBook" ({ cls := "VoiceHouse$PairBook", name := "otherOf", desc := "(I)I" } : Jvm.MethodName) ({ cls := "VoiceHouse$PairBook", name := "otherOf", desc := "(I)I" } : Jvm.MethodName)) ∈ tG := mG (List.mem_append_right _ (List.mem_append_right _ (List.mem_append_left _ (List.mem_of_getElem? (i := 200) rfl)))) rfl
set_option maxRecDepth 20000 in
theorem w_441 : (Jvm.Cond.code ({ cls := "VoiceHouse$PairBook", name := "otherOf", desc := "(I)I" } : Jvm.MethodName) prog_5_method_17_code (2 : Nat) (Option.some Jvm.ClassFile.FieldType.int)) ∈ tG := mG (List.mem_append_right _ (List.mem_append_right _ (List.mem_append_left _ (List.mem_of_getElem? (i := 201) rfl)))) rfl
set_option maxRecDepth 20000 in
theorem w_442 : (Jvm.Cond.methodLink "VoiceHouse" (163 : Nat) ({ cls := "VoiceHouse$PairBook", name := "allOther", desc := "()I" } : Jvm.MethodName)) ∈ tG := mG (List.mem_append_right _ (List.mem_append_right _ (List.mem_append_left _ (List.mem_of_getElem? (i := 202) rfl)))) rfl
set_option maxRecDepth 20000 in
theorem w_443 : (Jvm.Cond.instanceMethod ({ cls := "VoiceHouse$PairBook", name := "allOther", desc := "()I" } : Jvm.MethodName)) ∈ tG := mG (List.mem_append_right _ (List.mem_append_right _ (List.mem_append_left _ (List.mem_of_getElem? (i := 203) rfl)))) rfl
set_option maxRecDepth 20000 in
theorem w_444 : (Jvm.Cond.selects "VoiceHouse$PairBook" ({ cls := "VoiceHouse$PairBook", name := "allOther", desc := "()I" } : Jvm.MethodName) ({ cls := "VoiceHouse$PairBook", name := "allOther", desc := "()I" } : Jvm.MethodName)) ∈ tG := mG (List.mem_append_right _ (List.mem_append_right _ (List.mem_append_left _ (List.mem_of_getElem? (i := 204) rfl)))) rfl
set_option maxRecDepth 20000 in
theorem w_445 : (Jvm.Cond.code ({ cls := "VoiceHouse$PairBook", name := "allOther", desc := "()I" } : Jvm.MethodName) prog_5_method_20_code (1 : Nat) (Option.some Jvm.ClassFile.FieldType.int)) ∈ tG := mG (List.mem_append_right _ (List.mem_append_right _ (List.mem_append_left _ (List.mem_of_getElem? (i := 205) rfl)))) rfl
set_option maxRecDepth 20000 in
theorem w_446 : (Jvm.Cond.methodLink "VoiceHouse" (166 : Nat) ({ cls := "VoiceHouse$PairBook", name := "reaches", desc := "(I)Z" } : Jvm.MethodName)) ∈ tG := mG (List.mem_append_right _ (List.mem_append_right _ (List.mem_append_left _ (List.mem_of_getElem? (i := 206) rfl)))) rfl
set_option maxRecDepth 20000 in
theorem w_447 : (Jvm.Cond.instanceMethod ({ cls := "VoiceHouse$PairBook", name := "reaches", desc := "(I)Z" } : Jvm.MethodName)) ∈ tG := mG (List.mem_append_right _ (List.mem_append_right _ (List.mem_append_left _ (List.mem_of_getElem? (i := 207) rfl)))) rfl
set_option maxRecDepth 20000 in
theorem w_448 : (Jvm.Cond.selects "VoiceHouse$PairBook" ({ cls := "VoiceHouse$PairBook", name := "reaches", desc := "(I)Z" } : Jvm.MethodName) ({ cls := "VoiceHouse$PairBook", name := "reaches", desc := "(I)Z" } : Jvm.MethodName)) ∈ tG := mG (List.mem_append_right _ (List.mem_append_right _ (List.mem_append_left _ (List.mem_of_getElem? (i := 208) rfl)))) rfl
set_option maxRecDepth 20000 in
theorem w_449 : (Jvm.Cond.code ({ cls := "VoiceHouse$PairBook", name := "reaches", desc := "(I)Z" } : Jvm.MethodName) prog_5_method_18_code (2 : Nat) (Option.some Jvm.ClassFile.FieldType.boolean)) ∈ tG := mG (List.mem_append_right _ (List.mem_append_right _ (List.mem_append_left _ (List.mem_of_getElem? (i := 209) rfl)))) rfl
set_option maxRecDepth 20000 in
theorem w_450 : (Jvm.Cond.methodLink "VoiceHouseLaw" (61 : Nat) ({ cls := "VoiceHouse", name := "segment", desc := "(I)I" } : Jvm.MethodName)) ∈ tG := mG (List.mem_append_right _ (List.mem_append_right _ (List.mem_append_left _ (List.mem_of_getElem? (i := 210) rfl)))) rfl
set_option maxRecDepth 20000 in
theorem w_451 : (Jvm.Cond.instanceMethod ({ cls := "VoiceHouse", name := "segment", desc := "(I)I" } : Jvm.MethodName)) ∈ tG := mG (List.mem_append_right _ (List.mem_append_right _ (List.mem_append_left _ (List.mem_of_getElem? (i := 211) rfl)))) rfl
set_option maxRecDepth 20000 in
theorem w_452 : (Jvm.Cond.selects "VoiceHouse" ({ cls := "VoiceHouse", name := "segment", desc := "(I)I" } : Jvm.MethodName) ({ cls := "VoiceHouse", name := "segment", desc := "(I)I" } : Jvm.MethodName)) ∈ tG := mG (List.mem_append_right _ (List.mem_append_right _ (List.mem_append_left _ (List.mem_of_getElem? (i := 212) rfl)))) rfl
set_option maxRecDepth 20000 in
theorem w_453 : (Jvm.Cond.code ({ cls := "VoiceHouse", name := "segment", desc := "(I)I" } : Jvm.MethodName) prog_1_method_13_code (2 : Nat) (Option.some Jvm.ClassFile.FieldType.int)) ∈ tG := mG (List.mem_append_right _ (List.mem_append_right _ (List.mem_append_left _ (List.mem_of_getElem? (i := 213) rfl)))) rfl
set_option maxRecDepth 20000 in
theorem w_454 : (Jvm.Cond.methodLink "VoiceHouse" (169 : Nat) ({ cls := "VoiceHouse$Segments", name := "isFull", desc := "()Z" } : Jvm.MethodName)) ∈ tG := mG (List.mem_append_right _ (List.mem_append_right _ (List.mem_append_left _ (List.mem_of_getElem? (i := 214) rfl)))) rfl
set_option maxRecDepth 20000 in
theorem w_455 : (Jvm.Cond.instanceMethod ({ cls := "VoiceHouse$Segments", name := "isFull", desc := "()Z" } : Jvm.MethodName)) ∈ tG := mG (List.mem_append_right _ (List.mem_append_right _ (List.mem_append_left _ (List.mem_of_getElem? (i := 215) rfl)))) rfl
set_option maxRecDepth 20000 in
theorem w_456 : (Jvm.Cond.selects "VoiceHouse$Segments" ({ cls := "VoiceHouse$Segments", name := "isFull", desc := "()Z" } : Jvm.MethodName) ({ cls := "VoiceHouse$Segments", name := "isFull", desc := "()Z" } : Jvm.MethodName)) ∈ tG := mG (List.mem_append_right _ (List.mem_append_right _ (List.mem_append_left _ (List.mem_of_getElem? (i := 216) rfl)))) rfl
set_option maxRecDepth 20000 in
theorem w_457 : (Jvm.Cond.code ({ cls := "VoiceHouse$Segments", name := "isFull", desc := "()Z" } : Jvm.MethodName) prog_7_method_3_code (1 : Nat) (Option.some Jvm.ClassFile.FieldType.boolean)) ∈ tG := mG (List.mem_append_right _ (List.mem_append_right _ (List.mem_append_left _ (List.mem_of_getElem? (i := 217) rfl)))) rfl
set_option maxRecDepth 20000 in
theorem w_458 : (Jvm.Cond.methodLink "VoiceHouse" (170 : Nat) ({ cls := "VoiceHouse$Segments", name := "isListed", desc := "(I)Z" } : Jvm.MethodName)) ∈ tG := mG (List.mem_append_right _ (List.mem_append_right _ (List.mem_append_left _ (List.mem_of_getElem? (i := 218) rfl)))) rfl
set_option maxRecDepth 20000 in
theorem w_459 : (Jvm.Cond.instanceMethod ({ cls := "VoiceHouse$Segments", name := "isListed", desc := "(I)Z" } : Jvm.MethodName)) ∈ tG := mG (List.mem_append_right _ (List.mem_append_right _ (List.mem_append_left _ (List.mem_of_getElem? (i := 219) rfl)))) rfl
set_option maxRecDepth 20000 in
theorem w_460 : (Jvm.Cond.selects "VoiceHouse$Segments" ({ cls := "VoiceHouse$Segments", name := "isListed", desc := "(I)Z" } : Jvm.MethodName) ({ cls := "VoiceHouse$Segments", name := "isListed", desc := "(I)Z" } : Jvm.MethodName)) ∈ tG := mG (List.mem_append_right _ (List.mem_append_right _ (List.mem_append_left _ (List.mem_of_getElem? (i := 220) rfl)))) rfl
set_option maxRecDepth 20000 in
theorem w_461 : (Jvm.Cond.code ({ cls := "VoiceHouse$Segments", name := "isListed", desc := "(I)Z" } : Jvm.MethodName) prog_7_method_4_code (3 : Nat) (Option.some Jvm.ClassFile.FieldType.boolean)) ∈ tG := mG (List.mem_append_right _ (List.mem_append_right _ (List.mem_append_left _ (List.mem_of_getElem? (i := 221) rfl)))) rfl
set_option maxRecDepth 20000 in
theorem w_462 : (Jvm.Cond.methodLink "VoiceHouse" (173 : Nat) ({ cls := "VoiceHouse$Segments", name := "add", desc := "(I)V" } : Jvm.MethodName)) ∈ tG := mG (List.mem_append_right _ (List.mem_append_right _ (List.mem_append_left _ (List.mem_of_getElem? (i := 222) rfl)))) rfl
set_option maxRecDepth 20000 in
theorem w_463 : (Jvm.Cond.instanceMethod ({ cls := "VoiceHouse$Segments", name := "add", desc := "(I)V" } : Jvm.MethodName)) ∈ tG := mG (List.mem_append_right _ (List.mem_append_right _ (List.mem_append_left _ (List.mem_of_getElem? (i := 223) rfl)))) rfl
set_option maxRecDepth 20000 in
theorem w_464 : (Jvm.Cond.selects "VoiceHouse$Segments" ({ cls := "VoiceHouse$Segments", name := "add", desc := "(I)V" } : Jvm.MethodName) ({ cls := "VoiceHouse$Segments", name := "add", desc := "(I)V" } : Jvm.MethodName)) ∈ tG := mG (List.mem_append_right _ (List.mem_append_right _ (List.mem_append_left _ (List.mem_of_getElem? (i := 224) rfl)))) rfl
set_option maxRecDepth 20000 in
theorem w_465 : (Jvm.Cond.code ({ cls := "VoiceHouse$Segments", name := "add", desc := "(I)V" } : Jvm.MethodName) prog_7_method_5_code (2 : Nat) (Option.none : Option Jvm.ClassFile.FieldType)) ∈ tG := mG (List.mem_append_right _ (List.mem_append_right _ (List.mem_append_left _ (List.mem_of_getElem? (i := 225) rfl)))) rfl
set_option maxRecDepth 20000 in
theorem w_466 : (Jvm.Cond.methodLink "VoiceHouse" (175 : Nat) ({ cls := "VoiceHouse$Segments", name := "size", desc := "()I" } : Jvm.MethodName)) ∈ tG := mG (List.mem_append_right _ (List.mem_append_right _ (List.mem_append_left _ (List.mem_of_getElem? (i := 226) rfl)))) rfl
set_option maxRecDepth 20000 in
theorem w_467 : (Jvm.Cond.instanceMethod ({ cls := "VoiceHouse$Segments", name := "size", desc := "()I" } : Jvm.MethodName)) ∈ tG := mG (List.mem_append_right _ (List.mem_append_right _ (List.mem_append_left _ (List.mem_of_getElem? (i := 227) rfl)))) rfl
set_option maxRecDepth 20000 in
theorem w_468 : (Jvm.Cond.selects "VoiceHouse$Segments" ({ cls := "VoiceHouse$Segments", name := "size", desc := "()I" } : Jvm.MethodName) ({ cls := "VoiceHouse$Segments", name := "size", desc := "()I" } : Jvm.MethodName)) ∈ tG := mG (List.mem_append_right _ (List.mem_append_right _ (List.mem_append_left _ (List.mem_of_getElem? (i := 228) rfl)))) rfl
set_option maxRecDepth 20000 in
theorem w_469 : (Jvm.Cond.code ({ cls := "VoiceHouse$Segments", name := "size", desc := "()I" } : Jvm.MethodName) prog_7_method_2_code (1 : Nat) (Option.some Jvm.ClassFile.FieldType.int)) ∈ tG := mG (List.mem_append_right _ (List.mem_append_right _ (List.mem_append_left _ (List.mem_of_getElem? (i := 229) rfl)))) rfl
set_option maxRecDepth 20000 in
theorem w_470 : (Jvm.Cond.methodLink "VoiceHouseLaw" (66 : Nat) ({ cls := "VoiceHouse", name := "clear", desc := "()I" } : Jvm.MethodName)) ∈ tG := mG (List.mem_append_right _ (List.mem_append_right _ (List.mem_append_left _ (List.mem_of_getElem? (i := 230) rfl)))) rfl
set_option maxRecDepth 20000 in
theorem w_471 : (Jvm.Cond.instanceMethod ({ cls := "VoiceHouse", name := "clear", desc := "()I" } : Jvm.MethodName)) ∈ tG := mG (List.mem_append_right _ (List.mem_append_right _ (List.mem_append_left _ (List.mem_of_getElem? (i := 231) rfl)))) rfl
set_option maxRecDepth 20000 in
theorem w_472 : (Jvm.Cond.selects "VoiceHouse" ({ cls := "VoiceHouse", name := "clear", desc := "()I" } : Jvm.MethodName) ({ cls := "VoiceHouse", name := "clear", desc := "()I" } : Jvm.MethodName)) ∈ tG := mG (List.mem_append_right _ (List.mem_append_right _ (List.mem_append_left _ (List.mem_of_getElem? (i := 232) rfl)))) rfl
set_option maxRecDepth 20000 in
theorem w_473 : (Jvm.Cond.code ({ cls := "VoiceHouse", name := "clear", desc := "()I" } : Jvm.MethodName) prog_1_method_14_code (1 : Nat) (Option.some Jvm.ClassFile.FieldType.int)) ∈ tG := mG (List.mem_append_right _ (List.mem_append_right _ (List.mem_append_left _ (List.mem_of_getElem? (i := 233) rfl)))) rfl
set_option maxRecDepth 20000 in
theorem w_474 : (Jvm.Cond.methodLink "VoiceHouse" (178 : Nat) ({ cls := "VoiceHouse$Segments", name := "empty", desc := "()I" } : Jvm.MethodName)) ∈ tG := mG (List.mem_append_right _ (List.mem_append_right _ (List.mem_append_left _ (List.mem_of_getElem? (i := 234) rfl)))) rfl
set_option maxRecDepth 20000 in
theorem w_475 : (Jvm.Cond.instanceMethod ({ cls := "VoiceHouse$Segments", name := "empty", desc := "()I" } : Jvm.MethodName)) ∈ tG := mG (List.mem_append_right _ (List.mem_append_right _ (List.mem_append_left _ (List.mem_of_getElem? (i := 235) rfl)))) rfl
set_option maxRecDepth 20000 in
theorem w_476 : (Jvm.Cond.selects "VoiceHouse$Segments" ({ cls := "VoiceHouse$Segments", name := "empty", desc := "()I" } : Jvm.MethodName) ({ cls := "VoiceHouse$Segments", name := "empty", desc := "()I" } : Jvm.MethodName)) ∈ tG := mG (List.mem_append_right _ (List.mem_append_right _ (List.mem_append_left _ (List.mem_of_getElem? (i := 236) rfl)))) rfl
set_option maxRecDepth 20000 in
theorem w_477 : (Jvm.Cond.code ({ cls := "VoiceHouse$Segments", name := "empty", desc := "()I" } : Jvm.MethodName) prog_7_method_6_code (2 : Nat) (Option.some Jvm.ClassFile.FieldType.int)) ∈ tG := mG (List.mem_append_right _ (List.mem_append_right _ (List.mem_append_left _ (List.mem_of_getElem? (i := 237) rfl)))) rfl
set_option maxRecDepth 20000 in
theorem w_478 : (Jvm.Cond.methodLink "VoiceHouseLaw" (71 : Nat) ({ cls := "VoiceHouse", name := "voice", desc := "(I)I" } : Jvm.MethodName)) ∈ tG := mG (List.mem_append_right _ (List.mem_append_right _ (List.mem_append_left _ (List.mem_of_getElem? (i := 238) rfl)))) rfl
set_option maxRecDepth 20000 in
theorem w_479 : (Jvm.Cond.instanceMethod ({ cls := "VoiceHouse", name := "voice", desc := "(I)I" } : Jvm.MethodName)) ∈ tG := mG (List.mem_append_right _ (List.mem_append_right _ (List.mem_append_left _ (List.mem_of_getElem? (i := 239) rfl)))) rfl
set_option maxRecDepth 20000 in
theorem w_480 : (Jvm.Cond.selects "VoiceHouse" ({ cls := "VoiceHouse", name := "voice", desc := "(I)I" } : Jvm.MethodName) ({ cls := "VoiceHouse", name := "voice", desc := "(I)I" } : Jvm.MethodName)) ∈ tG := mG (List.mem_append_right _ (List.mem_append_right _ (List.mem_append_right _ (List.mem_append_left _ (List.mem_of_getElem? (i := 0) rfl))))) rfl
set_option maxRecDepth 20000 in
theorem w_481 : (Jvm.Cond.code ({ cls := "VoiceHouse", name := "voice", desc := "(I)I" } : Jvm.MethodName) prog_1_method_15_code (2 : Nat) (Option.some Jvm.ClassFile.FieldType.int)) ∈ tG := mG (List.mem_append_right _ (List.mem_append_right _ (List.mem_append_right _ (List.mem_append_left _ (List.mem_of_getElem? (i := 1) rfl))))) rfl
set_option maxRecDepth 20000 in
theorem w_482 : (Jvm.Cond.methodLink "VoiceHouse" (181 : Nat) ({ cls := "VoiceHouse$Segments", name := "join", desc := "(I)V" } : Jvm.MethodName)) ∈ tG := mG (List.mem_append_right _ (List.mem_append_right _ (List.mem_append_right _ (List.mem_append_left _ (List.mem_of_getElem? (i := 2) rfl))))) rfl
set_option maxRecDepth 20000 in
theorem w_483 : (Jvm.Cond.instanceMethod ({ cls := "VoiceHouse$Segments", name := "join", desc := "(I)V" } : Jvm.MethodName)) ∈ tG := mG (List.mem_append_right _ (List.mem_append_right _ (List.mem_append_right _ (List.mem_append_left _ (List.mem_of_getElem? (i := 3) rfl))))) rfl
set_option maxRecDepth 20000 in
theorem w_484 : (Jvm.Cond.selects "VoiceHouse$Segments" ({ cls := "VoiceHouse$Segments", name := "join", desc := "(I)V" } : Jvm.MethodName) ({ cls := "VoiceHouse$Segments", name := "join", desc := "(I)V" } : Jvm.MethodName)) ∈ tG := mG (List.mem_append_right _ (List.mem_append_right _ (List.mem_append_right _ (List.mem_append_left _ (List.mem_of_getElem? (i := 4) rfl))))) rfl
set_option maxRecDepth 20000 in
theorem w_485 : (Jvm.Cond.code ({ cls := "VoiceHouse$Segments", name := "join", desc := "(I)V" } : Jvm.MethodName) prog_7_method_8_code (3 : Nat) (Option.none : Option Jvm.ClassFile.FieldType)) ∈ tG := mG (List.mem_append_right _ (List.mem_append_right _ (List.mem_append_right _ (List.mem_append_left _ (List.mem_of_getElem? (i := 5) rfl))))) rfl
set_option maxRecDepth 20000 in
theorem w_486 : (Jvm.Cond.methodLink "VoiceHouse$Segments" (47 : Nat) ({ cls := "VoiceHouse$Segments", name := "readScores", desc := "()V" } : Jvm.MethodName)) ∈ tG := mG (List.mem_append_right _ (List.mem_append_right _ (List.mem_append_right _ (List.mem_append_left _ (List.mem_of_getElem? (i := 6) rfl))))) rfl
set_option maxRecDepth 20000 in
theorem w_488 : (Jvm.Cond.instanceMethod ({ cls := "VoiceHouse$Segments", name := "readScores", desc := "()V" } : Jvm.MethodName)) ∈ tG := mG (List.mem_append_right _ (List.mem_append_right _ (List.mem_append_right _ (List.mem_append_left _ (List.mem_of_getElem? (i := 8) rfl))))) rfl
set_option maxRecDepth 20000 in
theorem w_489 : (Jvm.Cond.code ({ cls := "VoiceHouse$Segments", name := "readScores", desc := "()V" } : Jvm.MethodName) prog_7_method_7_code (4 : Nat) (Option.none : Option Jvm.ClassFile.FieldType)) ∈ tG := mG (List.mem_append_right _ (List.mem_append_right _ (List.mem_append_right _ (List.mem_append_left _ (List.mem_of_getElem? (i := 9) rfl))))) rfl
set_option maxRecDepth 20000 in
theorem w_490 : (Jvm.Cond.methodLink "VoiceHouse$Segments" (41 : Nat) ({ cls := "VoiceHouse$Scores", name := "between", desc := "(II)I" } : Jvm.MethodName)) ∈ tG := mG (List.mem_append_right _ (List.mem_append_right _ (List.mem_append_right _ (List.mem_append_left _ (List.mem_of_getElem? (i := 10) rfl))))) rfl
set_option maxRecDepth 20000 in
theorem w_491 : (Jvm.Cond.methodLink "VoiceHouse$Segments" (50 : Nat) ({ cls := "VoiceHouse$Segments", name := "joinNearestTwo", desc := "(I)Z" } : Jvm.MethodName)) ∈ tG := mG (List.mem_append_right _ (List.mem_append_right _ (List.mem_append_right _ (List.mem_append_left _ (List.mem_of_getElem? (i := 11) rfl))))) rfl
set_option maxRecDepth 20000 in
theorem w_493 : (Jvm.Cond.instanceMethod ({ cls := "VoiceHouse$Segments", name := "joinNearestTwo", desc := "(I)Z" } : Jvm.MethodName)) ∈ tG := mG (List.mem_append_right _ (List.mem_append_right _ (List.mem_append_right _ (List.mem_append_left _ (List.mem_of_getElem? (i := 13) rfl))))) rfl
set_option maxRecDepth 20000 in
theorem w_494 : (Jvm.Cond.code ({ cls := "VoiceHouse$Segments", name := "joinNearestTwo", desc := "(I)Z" } : Jvm.MethodName) prog_7_method_9_code (9 : Nat) (Option.some Jvm.ClassFile.FieldType.boolean)) ∈ tG := mG (List.mem_append_right _ (List.mem_append_right _ (List.mem_append_right _ (List.mem_append_left _ (List.mem_of_getElem? (i := 14) rfl))))) rfl
set_option maxRecDepth 20000 in
theorem w_495 : (Jvm.Cond.methodLink "VoiceHouse$Segments" (54 : Nat) ({ cls := "VoiceHouse$Segments", name := "isVoice", desc := "(I)Z" } : Jvm.MethodName)) ∈ tG := mG (List.mem_append_right _ (List.mem_append_right _ (List.mem_append_right _ (List.mem_append_left _ (List.mem_of_getElem? (i := 15) rfl))))) rfl
set_option maxRecDepth 20000 in
theorem w_497 : (Jvm.Cond.instanceMethod ({ cls := "VoiceHouse$Segments", name := "isVoice", desc := "(I)Z" } : Jvm.MethodName)) ∈ tG := mG (List.mem_append_right _ (List.mem_append_right _ (List.mem_append_right _ (List.mem_append_left _ (List.mem_of_getElem? (i := 17) rfl))))) rfl
set_option maxRecDepth 20000 in
theorem w_498 : (Jvm.Cond.code ({ cls := "VoiceHouse$Segments", name := "isVoice", desc := "(I)Z" } : Jvm.MethodName) prog_7_method_10_code (2 : Nat) (Option.some Jvm.ClassFile.FieldType.boolean)) ∈ tG := mG (List.mem_append_right _ (List.mem_append_right _ (List.mem_append_right _ (List.mem_append_left _ (List.mem_of_getElem? (i := 18) rfl))))) rfl
set_option maxRecDepth 20000 in
theorem w_499 : (Jvm.Cond.methodLink "VoiceHouse$Segments" (57 : Nat) ({ cls := "VoiceHouse$Segments", name := "measureCross", desc := "(II)Z" } : Jvm.MethodName)) ∈ tG := mG (List.mem_append_right _ (List.mem_append_right _ (List.mem_append_right _ (List.mem_append_left _ (List.mem_of_getElem? (i := 19) rfl))))) rfl
set_option maxRecDepth 20000 in
theorem w_501 : (Jvm.Cond.instanceMethod ({ cls := "VoiceHouse$Segments", name := "measureCross", desc := "(II)Z" } : Jvm.MethodName)) ∈ tG := mG (List.mem_append_right _ (List.mem_append_right _ (List.mem_append_right _ (List.mem_append_left _ (List.mem_of_getElem? (i := 21) rfl))))) rfl
set_option maxRecDepth 20000 in
theorem w_502 : (Jvm.Cond.code ({ cls := "VoiceHouse$Segments", name := "measureCross", desc := "(II)Z" } : Jvm.MethodName) prog_7_method_11_code (6 : Nat) (Option.some Jvm.ClassFile.FieldType.boolean)) ∈ tG := mG (List.mem_append_right _ (List.mem_append_right _ (List.mem_append_right _ (List.mem_append_left _ (List.mem_of_getElem? (i := 22) rfl))))) rfl
set_option maxRecDepth 20000 in
theorem w_503 : (Jvm.Cond.methodLink "VoiceHouse$Segments" (61 : Nat) ({ cls := "VoiceHouse$Segments", name := "putTogether", desc := "(II)V" } : Jvm.MethodName)) ∈ tG := mG (List.mem_append_right _ (List.mem_append_right _ (List.mem_append_right _ (List.mem_append_left _ (List.mem_of_getElem? (i := 23) rfl))))) rfl
set_option maxRecDepth 20000 in
theorem w_505 : (Jvm.Cond.instanceMethod ({ cls := "VoiceHouse$Segments", name := "putTogether", desc := "(II)V" } : Jvm.MethodName)) ∈ tG := mG (List.mem_append_right _ (List.mem_append_right _ (List.mem_append_right _ (List.mem_append_left _ (List.mem_of_getElem? (i := 25) rfl))))) rfl
set_option maxRecDepth 20000 in
theorem w_506 : (Jvm.Cond.code ({ cls := "VoiceHouse$Segments", name := "putTogether", desc := "(II)V" } : Jvm.MethodName) prog_7_method_12_code (4 : Nat) (Option.none : Option Jvm.ClassFile.FieldType)) ∈ tG := mG (List.mem_append_right _ (List.mem_append_right _ (List.mem_append_right _ (List.mem_append_left _ (List.mem_of_getElem? (i := 26) rfl))))) rfl
set_option maxRecDepth 20000 in
theorem w_507 : (Jvm.Cond.methodLink "VoiceHouse" (184 : Nat) ({ cls := "VoiceHouse$Segments", name := "voiceAt", desc := "(I)I" } : Jvm.MethodName)) ∈ tG := mG (List.mem_append_right _ (List.mem_append_right _ (List.mem_append_right _ (List.mem_append_left _ (List.mem_of_getElem? (i := 27) rfl))))) rfl
set_option maxRecDepth 20000 in
theorem w_508 : (Jvm.Cond.instanceMethod ({ cls := "VoiceHouse$Segments", name := "voiceAt", desc := "(I)I" } : Jvm.MethodName)) ∈ tG := mG (List.mem_append_right _ (List.mem_append_right _ (List.mem_append_right _ (List.mem_append_left _ (List.mem_of_getElem? (i := 28) rfl))))) rfl
set_option maxRecDepth 20000 in
theorem w_509 : (Jvm.Cond.selects "VoiceHouse$Segments" ({ cls := "VoiceHouse$Segments", name := "voiceAt", desc := "(I)I" } : Jvm.MethodName) ({ cls := "VoiceHouse$Segments", name := "voiceAt", desc := "(I)I" } : Jvm.MethodName)) ∈ tG := mG (List.mem_append_right _ (List.mem_append_right _ (List.mem_append_right _ (List.mem_append_left _ (List.mem_of_getElem? (i := 29) rfl))))) rfl
set_option maxRecDepth 20000 in
theorem w_510 : (Jvm.Cond.code ({ cls := "VoiceHouse$Segments", name := "voiceAt", desc := "(I)I" } : Jvm.MethodName) prog_7_method_13_code (2 : Nat) (Option.some Jvm.ClassFile.FieldType.int)) ∈ tG := mG (List.mem_append_right _ (List.mem_append_right _ (List.mem_append_right _ (List.mem_append_left _ (List.mem_of_getElem? (i := 30) rfl))))) rfl
set_option maxRecDepth 20000 in
theorem w_511 : (Jvm.Cond.methodLink "VoiceHouseLaw" (75 : Nat) ({ cls := "VoiceHouse", name := "voices", desc := "()I" } : Jvm.MethodName)) ∈ tG := mG (List.mem_append_right _ (List.mem_append_right _ (List.mem_append_right _ (List.mem_append_left _ (List.mem_of_getElem? (i := 31) rfl))))) rfl
set_option maxRecDepth 20000 in
theorem w_512 : (Jvm.Cond.instanceMethod ({ cls := "VoiceHouse", name := "voices", desc := "()I" } : Jvm.MethodName)) ∈ tG := mG (List.mem_append_right _ (List.mem_append_right _ (List.mem_append_right _ (List.mem_append_left _ (List.mem_of_getElem? (i := 32) rfl))))) rfl
set_option maxRecDepth 20000 in
theorem w_513 : (Jvm.Cond.selects "VoiceHouse" ({ cls := "VoiceHouse", name := "voices", desc := "()I" } : Jvm.MethodName) ({ cls := "VoiceHouse", name := "voices", desc := "()I" } : Jvm.MethodName)) ∈ tG := mG (List.mem_append_right _ (List.mem_append_right _ (List.mem_append_right _ (List.mem_append_left _ (List.mem_of_getElem? (i := 33) rfl))))) rfl
set_option maxRecDepth 20000 in
theorem w_514 : (Jvm.Cond.code ({ cls := "VoiceHouse", name := "voices", desc := "()I" } : Jvm.MethodName) prog_1_method_16_code (1 : Nat) (Option.some Jvm.ClassFile.FieldType.int)) ∈ tG := mG (List.mem_append_right _ (List.mem_append_right _ (List.mem_append_right _ (List.mem_append_left _ (List.mem_of_getElem? (i := 34) rfl))))) rfl
set_option maxRecDepth 20000 in
theorem w_515 : (Jvm.Cond.methodLink "VoiceHouse" (187 : Nat) ({ cls := "VoiceHouse$Segments", name := "countVoices", desc := "()I" } : Jvm.MethodName)) ∈ tG := mG (List.mem_append_right _ (List.mem_append_right _ (List.mem_append_right _ (List.mem_append_left _ (List.mem_of_getElem? (i := 35) rfl))))) rfl
set_option maxRecDepth 20000 in
theorem w_516 : (Jvm.Cond.instanceMethod ({ cls := "VoiceHouse$Segments", name := "countVoices", desc := "()I" } : Jvm.MethodName)) ∈ tG := mG (List.mem_append_right _ (List.mem_append_right _ (List.mem_append_right _ (List.mem_append_left _ (List.mem_of_getElem? (i := 36) rfl))))) rfl
set_option maxRecDepth 20000 in
theorem w_517 : (Jvm.Cond.selects "VoiceHouse$Segments" ({ cls := "VoiceHouse$Segments", name := "countVoices", desc := "()I" } : Jvm.MethodName) ({ cls := "VoiceHouse$Segments", name := "countVoices", desc := "()I" } : Jvm.MethodName)) ∈ tG := mG (List.mem_append_right _ (List.mem_append_right _ (List.mem_append_right _ (List.mem_append_left _ (List.mem_of_getElem? (i := 37) rfl))))) rfl
set_option maxRecDepth 20000 in
theorem w_518 : (Jvm.Cond.code ({ cls := "VoiceHouse$Segments", name := "countVoices", desc := "()I" } : Jvm.MethodName) prog_7_method_14_code (3 : Nat) (Option.some Jvm.ClassFile.FieldType.int)) ∈ tG := mG (List.mem_append_right _ (List.mem_append_right _ (List.mem_append_right _ (List.mem_append_left _ (List.mem_of_getElem? (i := 38) rfl))))) rfl
set_option maxRecDepth 20000 in
theorem w_519 : (Jvm.Cond.methodLink "VoiceHouseLaw" (79 : Nat) ({ cls := "VoiceHouse", name := "spare", desc := "()I" } : Jvm.MethodName)) ∈ tG := mG (List.mem_append_right _ (List.mem_append_right _ (List.mem_append_right _ (List.mem_append_left _ (List.mem_of_getElem? (i := 39) rfl))))) rfl
set_option maxRecDepth 20000 in
theorem w_520 : (Jvm.Cond.instanceMethod ({ cls := "VoiceHouse", name := "spare", desc := "()I" } : Jvm.MethodName)) ∈ tG := mG (List.mem_append_right _ (List.mem_append_right _ (List.mem_append_right _ (List.mem_append_left _ (List.mem_of_getElem? (i := 40) rfl))))) rfl
set_option maxRecDepth 20000 in
theorem w_521 : (Jvm.Cond.selects "VoiceHouse" ({ cls := "VoiceHouse", name := "spare", desc := "()I" } : Jvm.MethodName) ({ cls := "VoiceHouse", name := "spare", desc := "()I" } : Jvm.MethodName)) ∈ tG := mG (List.mem_append_right _ (List.mem_append_right _ (List.mem_append_right _ (List.mem_append_left _ (List.mem_of_getElem? (i := 41) rfl))))) rfl
set_option maxRecDepth 20000 in
theorem w_522 : (Jvm.Cond.code ({ cls := "VoiceHouse", name := "spare", desc := "()I" } : Jvm.MethodName) prog_1_method_17_code (1 : Nat) (Option.some Jvm.ClassFile.FieldType.int)) ∈ tG := mG (List.mem_append_right _ (List.mem_append_right _ (List.mem_append_right _ (List.mem_append_left _ (List.mem_of_getElem? (i := 42) rfl))))) rfl
set_option maxRecDepth 20000 in
theorem w_523 : (Jvm.Cond.methodLink "VoiceHouse" (190 : Nat) ({ cls := "VoiceHouse$Segments", name := "leastCost", desc := "(I)I" } : Jvm.MethodName)) ∈ tG := mG (List.mem_append_right _ (List.mem_append_right _ (List.mem_append_right _ (List.mem_append_left _ (List.mem_of_getElem? (i := 43) rfl))))) rfl
set_option maxRecDepth 20000 in
theorem w_524 : (Jvm.Cond.instanceMethod ({ cls := "VoiceHouse$Segments", name := "leastCost", desc := "(I)I" } : Jvm.MethodName)) ∈ tG := mG (List.mem_append_right _ (List.mem_append_right _ (List.mem_append_right _ (List.mem_append_left _ (List.mem_of_getElem? (i := 44) rfl))))) rfl
set_option maxRecDepth 20000 in
theorem w_525 : (Jvm.Cond.selects "VoiceHouse$Segments" ({ cls := "VoiceHouse$Segments", name := "leastCost", desc := "(I)I" } : Jvm.MethodName) ({ cls := "VoiceHouse$Segments", name := "leastCost", desc := "(I)I" } : Jvm.MethodName)) ∈ tG := mG (List.mem_append_right _ (List.mem_append_right _ (List.mem_append_right _ (List.mem_append_left _ (List.mem_of_getElem? (i := 45) rfl))))) rfl
set_option maxRecDepth 20000 in
theorem w_526 : (Jvm.Cond.code ({ cls := "VoiceHouse$Segments", name := "leastCost", desc := "(I)I" } : Jvm.MethodName) prog_7_method_15_code (4 : Nat) (Option.some Jvm.ClassFile.FieldType.int)) ∈ tG := mG (List.mem_append_right _ (List.mem_append_right _ (List.mem_append_right _ (List.mem_append_left _ (List.mem_of_getElem? (i := 46) rfl))))) rfl
set_option maxRecDepth 20000 in
theorem w_527 : (Jvm.Cond.methodLink "VoiceHouse$Segments" (65 : Nat) ({ cls := "VoiceHouse$Segments", name := "sumWithin", desc := "(I)I" } : Jvm.MethodName)) ∈ tG := mG (List.mem_append_right _ (List.mem_append_right _ (List.mem_append_right _ (List.mem_append_left _ (List.mem_of_getElem? (i := 47) rfl))))) rfl
set_option maxRecDepth 20000 in
theorem w_529 : (Jvm.Cond.instanceMethod ({ cls := "VoiceHouse$Segments", name := "sumWithin", desc := "(I)I" } : Jvm.MethodName)) ∈ tG := mG (List.mem_append_right _ (List.mem_append_right _ (List.mem_append_right _ (List.mem_append_left _ (List.mem_of_getElem? (i := 49) rfl))))) rfl
set_option maxRecDepth 20000 in
theorem w_530 : (Jvm.Cond.code ({ cls := "VoiceHouse$Segments", name := "sumWithin", desc := "(I)I" } : Jvm.MethodName) prog_7_method_16_code (7 : Nat) (Option.some Jvm.ClassFile.FieldType.int)) ∈ tG := mG (List.mem_append_right _ (List.mem_append_right _ (List.mem_append_right _ (List.mem_append_left _ (List.mem_of_getElem? (i := 50) rfl))))) rfl
set_option maxRecDepth 20000 in
theorem w_531 : (Jvm.Cond.methodLink "VoiceHouse$Segments" (72 : Nat) ({ cls := "java/lang/Integer", name := "numberOfTrailingZeros", desc := "(I)I" } : Jvm.MethodName)) ∈ tG := mG (List.mem_append_right _ (List.mem_append_right _ (List.mem_append_right _ (List.mem_append_left _ (List.mem_of_getElem? (i := 51) rfl))))) rfl
set_option maxRecDepth 20000 in
theorem w_532 : (Jvm.Cond.static ({ cls := "java/lang/Integer", name := "numberOfTrailingZeros", desc := "(I)I" } : Jvm.MethodName)) ∈ tG := mG (List.mem_append_right _ (List.mem_append_right _ (List.mem_append_right _ (List.mem_append_left _ (List.mem_of_getElem? (i := 52) rfl))))) rfl
set_option maxRecDepth 20000 in
theorem w_533 : (Jvm.Cond.code ({ cls := "java/lang/Integer", name := "numberOfTrailingZeros", desc := "(I)I" } : Jvm.MethodName) prog_11_method_48_code (2 : Nat) (Option.some Jvm.ClassFile.FieldType.int)) ∈ tG := mG (List.mem_append_right _ (List.mem_append_right _ (List.mem_append_right _ (List.mem_append_left _ (List.mem_of_getElem? (i := 53) rfl))))) rfl
set_option maxRecDepth 20000 in
theorem w_534 : (Jvm.Cond.constant "java/lang/Integer" (264 : Nat) (65536 : Int32)) ∈ tG := mG (List.mem_append_right _ (List.mem_append_right _ (List.mem_append_right _ (List.mem_append_left _ (List.mem_of_getElem? (i := 54) rfl))))) rfl
set_option maxRecDepth 20000 in
theorem w_535 : (Jvm.Cond.methodLink "VoiceHouse$Segments" (69 : Nat) ({ cls := "VoiceHouse$Segments", name := "leastOf", desc := "(II)I" } : Jvm.MethodName)) ∈ tG := mG (List.mem_append_right _ (List.mem_append_right _ (List.mem_append_right _ (List.mem_append_left _ (List.mem_of_getElem? (i := 55) rfl))))) rfl
set_option maxRecDepth 20000 in
theorem w_537 : (Jvm.Cond.instanceMethod ({ cls := "VoiceHouse$Segments", name := "leastOf", desc := "(II)I" } : Jvm.MethodName)) ∈ tG := mG (List.mem_append_right _ (List.mem_append_right _ (List.mem_append_right _ (List.mem_append_left _ (List.mem_of_getElem? (i := 57) rfl))))) rfl
set_option maxRecDepth 20000 in
theorem w_538 : (Jvm.Cond.code ({ cls := "VoiceHouse$Segments", name := "leastOf", desc := "(II)I" } : Jvm.MethodName) prog_7_method_17_code (8 : Nat) (Option.some Jvm.ClassFile.FieldType.int)) ∈ tG := mG (List.mem_append_right _ (List.mem_append_right _ (List.mem_append_right _ (List.mem_append_left _ (List.mem_of_getElem? (i := 58) rfl))))) rfl
set_option maxRecDepth 20000 in
theorem w_539 : (Jvm.Cond.methodLink "VoiceHouse$Segments" (77 : Nat) ({ cls := "java/lang/Math", name := "min", desc := "(II)I" } : Jvm.MethodName)) ∈ tG := mG (List.mem_append_right _ (List.mem_append_right _ (List.mem_append_right _ (List.mem_append_left _ (List.mem_of_getElem? (i := 59) rfl))))) rfl
set_option maxRecDepth 20000 in
theorem w_540 : (Jvm.Cond.methodLink "VoiceHouseLaw" (83 : Nat) ({ cls := "VoiceHouse", name := "lined", desc := "(II)I" } : Jvm.MethodName)) ∈ tG := mG (List.mem_append_right _ (List.mem_append_right _ (List.mem_append_right _ (List.mem_append_left _ (List.mem_of_getElem? (i := 60) rfl))))) rfl
set_option maxRecDepth 20000 in
theorem w_541 : (Jvm.Cond.instanceMethod ({ cls := "VoiceHouse", name := "lined", desc := "(II)I" } : Jvm.MethodName)) ∈ tG := mG (List.mem_append_right _ (List.mem_append_right _ (List.mem_append_right _ (List.mem_append_left _ (List.mem_of_getElem? (i := 61) rfl))))) rfl
set_option maxRecDepth 20000 in
theorem w_542 : (Jvm.Cond.selects "VoiceHouse" ({ cls := "VoiceHouse", name := "lined", desc := "(II)I" } : Jvm.MethodName) ({ cls := "VoiceHouse", name := "lined", desc := "(II)I" } : Jvm.MethodName)) ∈ tG := mG (List.mem_append_right _ (List.mem_append_right _ (List.mem_append_right _ (List.mem_append_left _ (List.mem_of_getElem? (i := 62) rfl))))) rfl
set_option maxRecDepth 20000 in
theorem w_543 : (Jvm.Cond.code ({ cls := "VoiceHouse", name := "lined", desc := "(II)I" } : Jvm.MethodName) prog_1_method_18_code (3 : Nat) (Option.some Jvm.ClassFile.FieldType.int)) ∈ tG := mG (List.mem_append_right _ (List.mem_append_right _ (List.mem_append_right _ (List.mem_append_left _ (List.mem_of_getElem? (i := 63) rfl))))) rfl
set_option maxRecDepth 20000 in
theorem w_544 : (Jvm.Cond.methodLink "VoiceHouse" (193 : Nat) ({ cls := "VoiceHouse$LineUp", name := "callFor", desc := "(II)V" } : Jvm.MethodName)) ∈ tG := mG (List.mem_append_right _ (List.mem_append_right _ (List.mem_append_right _ (List.mem_append_left _ (List.mem_of_getElem? (i := 64) rfl))))) rfl
set_option maxRecDepth 20000 in
theorem w_545 : (Jvm.Cond.instanceMethod ({ cls := "VoiceHouse$LineUp", name := "callFor", desc := "(II)V" } : Jvm.MethodName)) ∈ tG := mG (List.mem_append_right _ (List.mem_append_right _ (List.mem_append_right _ (List.mem_append_left _ (List.mem_of_getElem? (i := 65) rfl))))) rfl
set_option maxRecDepth 20000 in
theorem w_546 : (Jvm.Cond.selects "VoiceHouse$LineUp" ({ cls := "VoiceHouse$LineUp", name := "callFor", desc := "(II)V" } : Jvm.MethodName) ({ cls := "VoiceHouse$LineUp", name := "callFor", desc := "(II)V" } : Jvm.MethodName)) ∈ tG := mG (List.mem_append_right _ (List.mem_append_right _ (List.mem_append_right _ (List.mem_append_left _ (List.mem_of_getElem? (i := 66) rfl))))) rfl
set_option maxRecDepth 20000 in
theorem w_547 : (Jvm.Cond.code ({ cls := "VoiceHouse$LineUp", name := "callFor", desc := "(II)V" } : Jvm.MethodName) prog_4_method_2_code (5 : Nat) (Option.none : Option Jvm.ClassFile.FieldType)) ∈ tG := mG (List.mem_append_right _ (List.mem_append_right _ (List.mem_append_right _ (List.mem_append_left _ (List.mem_of_getElem? (i := 67) rfl))))) rfl
set_option maxRecDepth 20000 in
theorem w_548 : (Jvm.Cond.methodLink "VoiceHouse$LineUp" (30 : Nat) ({ cls := "VoiceHouse$Archive", name := "size", desc := "()I" } : Jvm.MethodName)) ∈ tG := mG (List.mem_append_right _ (List.mem_append_right _ (List.mem_append_right _ (List.mem_append_left _ (List.mem_of_getElem? (i := 68) rfl))))) rfl
set_option maxRecDepth 20000 in
theorem w_549 : (Jvm.Cond.methodLink "VoiceHouse$LineUp" (35 : Nat) ({ cls := "VoiceHouse$Archive", name := "isOfSet", desc := "(II)Z" } : Jvm.MethodName)) ∈ tG := mG (List.mem_append_right _ (List.mem_append_right _ (List.mem_append_right _ (List.mem_append_left _ (List.mem_of_getElem? (i := 69) rfl))))) rfl
set_option maxRecDepth 20000 in
theorem w_550 : (Jvm.Cond.methodLink "VoiceHouse$LineUp" (39 : Nat) ({ cls := "VoiceHouse$Scores", name := "between", desc := "(II)I" } : Jvm.MethodName)) ∈ tG := mG (List.mem_append_right _ (List.mem_append_right _ (List.mem_append_right _ (List.mem_append_left _ (List.mem_of_getElem? (i := 70) rfl))))) rfl
set_option maxRecDepth 20000 in
theorem w_551 : (Jvm.Cond.methodLink "VoiceHouse$LineUp" (45 : Nat) ({ cls := "VoiceHouse$LineUp", name := "insert", desc := "(II)V" } : Jvm.MethodName)) ∈ tG := mG (List.mem_append_right _ (List.mem_append_right _ (List.mem_append_right _ (List.mem_append_left _ (List.mem_of_getElem? (i := 71) rfl))))) rfl
set_option maxRecDepth 20000 in
theorem w_553 : (Jvm.Cond.instanceMethod ({ cls := "VoiceHouse$LineUp", name := "insert", desc := "(II)V" } : Jvm.MethodName)) ∈ tG := mG (List.mem_append_right _ (List.mem_append_right _ (List.mem_append_right _ (List.mem_append_left _ (List.mem_of_getElem? (i := 73) rfl))))) rfl
set_option maxRecDepth 20000 in
theorem w_554 : (Jvm.Cond.code ({ cls := "VoiceHouse$LineUp", name := "insert", desc := "(II)V" } : Jvm.MethodName) prog_4_method_3_code (4 : Nat) (Option.none : Option Jvm.ClassFile.FieldType)) ∈ tG := mG (List.mem_append_right _ (List.mem_append_right _ (List.mem_append_right _ (List.mem_append_left _ (List.mem_of_getElem? (i := 74) rfl))))) rfl
set_option maxRecDepth 20000 in
theorem w_555 : (Jvm.Cond.methodLink "VoiceHouse" (196 : Nat) ({ cls := "VoiceHouse$LineUp", name := "at", desc := "(I)I" } : Jvm.MethodName)) ∈ tG := mG (List.mem_append_right _ (List.mem_append_right _ (List.mem_append_right _ (List.mem_append_left _ (List.mem_of_getElem? (i := 75) rfl))))) rfl
set_option maxRecDepth 20000 in
theorem w_556 : (Jvm.Cond.instanceMethod ({ cls := "VoiceHouse$LineUp", name := "at", desc := "(I)I" } : Jvm.MethodName)) ∈ tG := mG (List.mem_append_right _ (List.mem_append_right _ (List.mem_append_right _ (List.mem_append_left _ (List.mem_of_getElem? (i := 76) rfl))))) rfl
set_option maxRecDepth 20000 in
theorem w_557 : (Jvm.Cond.selects "VoiceHouse$LineUp" ({ cls := "VoiceHouse$LineUp", name := "at", desc := "(I)I" } : Jvm.MethodName) ({ cls := "VoiceHouse$LineUp", name := "at", desc := "(I)I" } : Jvm.MethodName)) ∈ tG := mG (List.mem_append_right _ (List.mem_append_right _ (List.mem_append_right _ (List.mem_append_left _ (List.mem_of_getElem? (i := 77) rfl))))) rfl
set_option maxRecDepth 20000 in
theorem w_558 : (Jvm.Cond.code ({ cls := "VoiceHouse$LineUp", name := "at", desc := "(I)I" } : Jvm.MethodName) prog_4_method_4_code (2 : Nat) (Option.some Jvm.ClassFile.FieldType.int)) ∈ tG := mG (List.mem_append_right _ (List.mem_append_right _ (List.mem_append_right _ (List.mem_append_left _ (List.mem_of_getElem? (i := 78) rfl))))) rfl
set_option maxRecDepth 20000 in
theorem w_559 : (Jvm.Cond.methodLink "VoiceHouseLaw" (87 : Nat) ({ cls := "VoiceHouse", name := "rank", desc := "(II)I" } : Jvm.MethodName)) ∈ tG := mG (List.mem_append_right _ (List.mem_append_right _ (List.mem_append_right _ (List.mem_append_left _ (List.mem_of_getElem? (i := 79) rfl))))) rfl
set_option maxRecDepth 20000 in
theorem w_560 : (Jvm.Cond.instanceMethod ({ cls := "VoiceHouse", name := "rank", desc := "(II)I" } : Jvm.MethodName)) ∈ tG := mG (List.mem_append_right _ (List.mem_append_right _ (List.mem_append_right _ (List.mem_append_left _ (List.mem_of_getElem? (i := 80) rfl))))) rfl
set_option maxRecDepth 20000 in
theorem w_561 : (Jvm.Cond.selects "VoiceHouse" ({ cls := "VoiceHouse", name := "rank", desc := "(II)I" } : Jvm.MethodName) ({ cls := "VoiceHouse", name := "rank", desc := "(II)I" } : Jvm.MethodName)) ∈ tG := mG (List.mem_append_right _ (List.mem_append_right _ (List.mem_append_right _ (List.mem_append_left _ (List.mem_of_getElem? (i := 81) rfl))))) rfl
set_option maxRecDepth 20000 in
theorem w_562 : (Jvm.Cond.code ({ cls := "VoiceHouse", name := "rank", desc := "(II)I" } : Jvm.MethodName) prog_1_method_19_code (3 : Nat) (Option.some Jvm.ClassFile.FieldType.int)) ∈ tG := mG (List.mem_append_right _ (List.mem_append_right _ (List.mem_append_right _ (List.mem_append_left _ (List.mem_of_getElem? (i := 82) rfl))))) rfl
set_option maxRecDepth 20000 in
theorem w_563 : (Jvm.Cond.methodLink "VoiceHouse" (201 : Nat) ({ cls := "VoiceHouse$LineUp", name := "speakersAhead", desc := "(I)I" } : Jvm.MethodName)) ∈ tG := mG (List.mem_append_right _ (List.mem_append_right _ (List.mem_append_right _ (List.mem_append_left _ (List.mem_of_getElem? (i := 83) rfl))))) rfl
set_option maxRecDepth 20000 in
theorem w_564 : (Jvm.Cond.instanceMethod ({ cls := "VoiceHouse$LineUp", name := "speakersAhead", desc := "(I)I" } : Jvm.MethodName)) ∈ tG := mG (List.mem_append_right _ (List.mem_append_right _ (List.mem_append_right _ (List.mem_append_left _ (List.mem_of_getElem? (i := 84) rfl))))) rfl
set_option maxRecDepth 20000 in
theorem w_565 : (Jvm.Cond.selects "VoiceHouse$LineUp" ({ cls := "VoiceHouse$LineUp", name := "speakersAhead", desc := "(I)I" } : Jvm.MethodName) ({ cls := "VoiceHouse$LineUp", name := "speakersAhead", desc := "(I)I" } : Jvm.MethodName)) ∈ tG := mG (List.mem_append_right _ (List.mem_append_right _ (List.mem_append_right _ (List.mem_append_left _ (List.mem_of_getElem? (i := 85) rfl))))) rfl
set_option maxRecDepth 20000 in
theorem w_566 : (Jvm.Cond.code ({ cls := "VoiceHouse$LineUp", name := "speakersAhead", desc := "(I)I" } : Jvm.MethodName) prog_4_method_5_code (5 : Nat) (Option.some Jvm.ClassFile.FieldType.int)) ∈ tG := mG (List.mem_append_right _ (List.mem_append_right _ (List.mem_append_right _ (List.mem_append_left _ (List.mem_of_getElem? (i := 86) rfl))))) rfl
set_option maxRecDepth 20000 in
theorem w_567 : (Jvm.Cond.methodLink "VoiceHouse$LineUp" (49 : Nat) ({ cls := "VoiceHouse$Archive", name := "speakerOf", desc := "(I)I" } : Jvm.MethodName)) ∈ tG := mG (List.mem_append_right _ (List.mem_append_right _ (List.mem_append_right _ (List.mem_append_left _ (List.mem_of_getElem? (i := 87) rfl))))) rfl
set_option maxRecDepth 20000 in
theorem w_568 : (Jvm.Cond.methodLink "VoiceHouse$LineUp" (53 : Nat) ({ cls := "java/lang/Integer", name := "bitCount", desc := "(I)I" } : Jvm.MethodName)) ∈ tG := mG (List.mem_append_right _ (List.mem_append_right _ (List.mem_append_right _ (List.mem_append_left _ (List.mem_of_getElem? (i := 88) rfl))))) rfl
set_option maxRecDepth 20000 in
theorem w_569 : (Jvm.Cond.static ({ cls := "java/lang/Integer", name := "bitCount", desc := "(I)I" } : Jvm.MethodName)) ∈ tG := mG (List.mem_append_right _ (List.mem_append_right _ (List.mem_append_right _ (List.mem_append_left _ (List.mem_of_getElem? (i := 89) rfl))))) rfl
set_option maxRecDepth 20000 in
theorem w_570 : (Jvm.Cond.code ({ cls := "java/lang/Integer", name := "bitCount", desc := "(I)I" } : Jvm.MethodName) prog_11_method_49_code (1 : Nat) (Option.some Jvm.ClassFile.FieldType.int)) ∈ tG := mG (List.mem_append_right _ (List.mem_append_right _ (List.mem_append_right _ (List.mem_append_left _ (List.mem_of_getElem? (i := 90) rfl))))) rfl
set_option maxRecDepth 20000 in
theorem w_571 : (Jvm.Cond.constant "java/lang/Integer" (265 : Nat) (1431655765 : Int32)) ∈ tG := mG (List.mem_append_right _ (List.mem_append_right _ (List.mem_append_right _ (List.mem_append_left _ (List.mem_of_getElem? (i := 91) rfl))))) rfl
set_option maxRecDepth 20000 in
theorem w_572 : (Jvm.Cond.constant "java/lang/Integer" (266 : Nat) (858993459 : Int32)) ∈ tG := mG (List.mem_append_right _ (List.mem_append_right _ (List.mem_append_right _ (List.mem_append_left _ (List.mem_of_getElem? (i := 92) rfl))))) rfl
set_option maxRecDepth 20000 in
theorem w_573 : (Jvm.Cond.constant "java/lang/Integer" (267 : Nat) (252645135 : Int32)) ∈ tG := mG (List.mem_append_right _ (List.mem_append_right _ (List.mem_append_right _ (List.mem_append_left _ (List.mem_of_getElem? (i := 93) rfl))))) rfl
set_option maxRecDepth 20000 in
theorem w_574 : (Jvm.Cond.methodLink "VoiceHouseLaw" (91 : Nat) ({ cls := "VoiceHouse", name := "test", desc := "(II)I" } : Jvm.MethodName)) ∈ tG := mG (List.mem_append_right _ (List.mem_append_right _ (List.mem_append_right _ (List.mem_append_left _ (List.mem_of_getElem? (i := 94) rfl))))) rfl
set_option maxRecDepth 20000 in
theorem w_575 : (Jvm.Cond.instanceMethod ({ cls := "VoiceHouse", name := "test", desc := "(II)I" } : Jvm.MethodName)) ∈ tG := mG (List.mem_append_right _ (List.mem_append_right _ (List.mem_append_right _ (List.mem_append_left _ (List.mem_of_getElem? (i := 95) rfl))))) rfl
set_option maxRecDepth 20000 in
theorem w_576 : (Jvm.Cond.selects "VoiceHouse" ({ cls := "VoiceHouse", name := "test", desc := "(II)I" } : Jvm.MethodName) ({ cls := "VoiceHouse", name := "test", desc := "(II)I" } : Jvm.MethodName)) ∈ tG := mG (List.mem_append_right _ (List.mem_append_right _ (List.mem_append_right _ (List.mem_append_left _ (List.mem_of_getElem? (i := 96) rfl))))) rfl
set_option maxRecDepth 20000 in
theorem w_577 : (Jvm.Cond.code ({ cls := "VoiceHouse", name := "test", desc := "(II)I" } : Jvm.MethodName) prog_1_method_20_code (4 : Nat) (Option.some Jvm.ClassFile.FieldType.int)) ∈ tG := mG (List.mem_append_right _ (List.mem_append_right _ (List.mem_append_right _ (List.mem_append_left _ (List.mem_of_getElem? (i := 97) rfl))))) rfl
set_option maxRecDepth 20000 in
theorem w_578 : (Jvm.Cond.methodLink "VoiceHouse" (204 : Nat) ({ cls := "VoiceHouse$Archive", name := "isKnown", desc := "(I)Z" } : Jvm.MethodName)) ∈ tG := mG (List.mem_append_right _ (List.mem_append_right _ (List.mem_append_right _ (List.mem_append_left _ (List.mem_of_getElem? (i := 98) rfl))))) rfl
set_option maxRecDepth 20000 in
theorem w_579 : (Jvm.Cond.methodLink "VoiceHouse" (207 : Nat) ({ cls := "VoiceHouse$BlindTests", name := "areOver", desc := "()Z" } : Jvm.MethodName)) ∈ tG := mG (List.mem_append_right _ (List.mem_append_right _ (List.mem_append_right _ (List.mem_append_left _ (List.mem_of_getElem? (i := 99) rfl))))) rfl
set_option maxRecDepth 20000 in
theorem w_580 : (Jvm.Cond.instanceMethod ({ cls := "VoiceHouse$BlindTests", name := "areOver", desc := "()Z" } : Jvm.MethodName)) ∈ tG := mG (List.mem_append_right _ (List.mem_append_right _ (List.mem_append_right _ (List.mem_append_left _ (List.mem_of_getElem? (i := 100) rfl))))) rfl
set_option maxRecDepth 20000 in
theorem w_581 : (Jvm.Cond.selects "VoiceHouse$BlindTests" ({ cls := "VoiceHouse$BlindTests", name := "areOver", desc := "()Z" } : Jvm.MethodName) ({ cls := "VoiceHouse$BlindTests", name := "areOver", desc := "()Z" } : Jvm.MethodName)) ∈ tG := mG (List.mem_append_right _ (List.mem_append_right _ (List.mem_append_right _ (List.mem_append_left _ (List.mem_of_getElem? (i := 101) rfl))))) rfl
set_option maxRecDepth 20000 in
theorem w_582 : (Jvm.Cond.code ({ cls := "VoiceHouse$BlindTests", name := "areOver", desc := "()Z" } : Jvm.MethodName) prog_3_method_2_code (1 : Nat) (Option.some Jvm.ClassFile.FieldType.boolean)) ∈ tG := mG (List.mem_append_right _ (List.mem_append_right _ (List.mem_append_right _ (List.mem_append_left _ (List.mem_of_getElem? (i := 102) rfl))))) rfl
set_option maxRecDepth 20000 in
theorem w_583 : (Jvm.Cond.methodLink "VoiceHouse" (210 : Nat) ({ cls := "VoiceHouse$Archive", name := "speakerOf", desc := "(I)I" } : Jvm.MethodName)) ∈ tG := mG (List.mem_append_right _ (List.mem_append_right _ (List.mem_append_right _ (List.mem_append_left _ (List.mem_of_getElem? (i := 103) rfl))))) rfl
set_option maxRecDepth 20000 in
theorem w_584 : (Jvm.Cond.methodLink "VoiceHouse" (213 : Nat) ({ cls := "VoiceHouse$BlindTests", name := "put", desc := "(IIZ)I" } : Jvm.MethodName)) ∈ tG := mG (List.mem_append_right _ (List.mem_append_right _ (List.mem_append_right _ (List.mem_append_left _ (List.mem_of_getElem? (i := 104) rfl))))) rfl
set_option maxRecDepth 20000 in
theorem w_585 : (Jvm.Cond.instanceMethod ({ cls := "VoiceHouse$BlindTests", name := "put", desc := "(IIZ)I" } : Jvm.MethodName)) ∈ tG := mG (List.mem_append_right _ (List.mem_append_right _ (List.mem_append_right _ (List.mem_append_left _ (List.mem_of_getElem? (i := 105) rfl))))) rfl
set_option maxRecDepth 20000 in
theorem w_586 : (Jvm.Cond.selects "VoiceHouse$BlindTests" ({ cls := "VoiceHouse$BlindTests", name := "put", desc := "(IIZ)I" } : Jvm.MethodName) ({ cls := "VoiceHouse$BlindTests", name := "put", desc := "(IIZ)I" } : Jvm.MethodName)) ∈ tG := mG (List.mem_append_right _ (List.mem_append_right _ (List.mem_append_right _ (List.mem_append_left _ (List.mem_of_getElem? (i := 106) rfl))))) rfl
set_option maxRecDepth 20000 in
theorem w_587 : (Jvm.Cond.code ({ cls := "VoiceHouse$BlindTests", name := "put", desc := "(IIZ)I" } : Jvm.MethodName) prog_3_method_3_code (4 : Nat) (Option.some Jvm.ClassFile.FieldType.int)) ∈ tG := mG (List.mem_append_right _ (List.mem_append_right _ (List.mem_append_right _ (List.mem_append_left _ (List.mem_of_getElem? (i := 107) rfl))))) rfl
set_option maxRecDepth 20000 in
theorem w_588 : (Jvm.Cond.methodLink "VoiceHouseLaw" (95 : Nat) ({ cls := "VoiceHouse", name := "right", desc := "(I)I" } : Jvm.MethodName)) ∈ tG := mG (List.mem_append_right _ (List.mem_append_right _ (List.mem_append_right _ (List.mem_append_left _ (List.mem_of_getElem? (i := 108) rfl))))) rfl
set_option maxRecDepth 20000 in
theorem w_589 : (Jvm.Cond.instanceMethod ({ cls := "VoiceHouse", name := "right", desc := "(I)I" } : Jvm.MethodName)) ∈ tG := mG (List.mem_append_right _ (List.mem_append_right _ (List.mem_append_right _ (List.mem_append_left _ (List.mem_of_getElem? (i := 109) rfl))))) rfl
set_option maxRecDepth 20000 in
theorem w_590 : (Jvm.Cond.selects "VoiceHouse" ({ cls := "VoiceHouse", name := "right", desc := "(I)I" } : Jvm.MethodName) ({ cls := "VoiceHouse", name := "right", desc := "(I)I" } : Jvm.MethodName)) ∈ tG := mG (List.mem_append_right _ (List.mem_append_right _ (List.mem_append_right _ (List.mem_append_left _ (List.mem_of_getElem? (i := 110) rfl))))) rfl
set_option maxRecDepth 20000 in
theorem w_591 : (Jvm.Cond.code ({ cls := "VoiceHouse", name := "right", desc := "(I)I" } : Jvm.MethodName) prog_1_method_21_code (2 : Nat) (Option.some Jvm.ClassFile.FieldType.int)) ∈ tG := mG (List.mem_append_right _ (List.mem_append_right _ (List.mem_append_right _ (List.mem_append_left _ (List.mem_of_getElem? (i := 111) rfl))))) rfl
set_option maxRecDepth 20000 in
theorem w_592 : (Jvm.Cond.methodLink "VoiceHouse" (217 : Nat) ({ cls := "VoiceHouse$BlindTests", name := "outcome", desc := "(I)I" } : Jvm.MethodName)) ∈ tG := mG (List.mem_append_right _ (List.mem_append_right _ (List.mem_append_right _ (List.mem_append_left _ (List.mem_of_getElem? (i := 112) rfl))))) rfl
set_option maxRecDepth 20000 in
theorem w_593 : (Jvm.Cond.instanceMethod ({ cls := "VoiceHouse$BlindTests", name := "outcome", desc := "(I)I" } : Jvm.MethodName)) ∈ tG := mG (List.mem_append_right _ (List.mem_append_right _ (List.mem_append_right _ (List.mem_append_left _ (List.mem_of_getElem? (i := 113) rfl))))) rfl
set_option maxRecDepth 20000 in
theorem w_594 : (Jvm.Cond.selects "VoiceHouse$BlindTests" ({ cls := "VoiceHouse$BlindTests", name := "outcome", desc := "(I)I" } : Jvm.MethodName) ({ cls := "VoiceHouse$BlindTests", name := "outcome", desc := "(I)I" } : Jvm.MethodName)) ∈ tG := mG (List.mem_append_right _ (List.mem_append_right _ (List.mem_append_right _ (List.mem_append_left _ (List.mem_of_getElem? (i := 114) rfl))))) rfl
set_option maxRecDepth 20000 in
theorem w_595 : (Jvm.Cond.code ({ cls := "VoiceHouse$BlindTests", name := "outcome", desc := "(I)I" } : Jvm.MethodName) prog_3_method_4_code (2 : Nat) (Option.some Jvm.ClassFile.FieldType.int)) ∈ tG := mG (List.mem_append_right _ (List.mem_append_right _ (List.mem_append_right _ (List.mem_append_left _ (List.mem_of_getElem? (i := 115) rfl))))) rfl
set_option maxRecDepth 20000 in
theorem w_596 : (Jvm.Cond.methodLink "VoiceHouseLaw" (99 : Nat) ({ cls := "VoiceHouse", name := "told", desc := "(II)I" } : Jvm.MethodName)) ∈ tG := mG (List.mem_append_right _ (List.mem_append_right _ (List.mem_append_right _ (List.mem_append_left _ (List.mem_of_getElem? (i := 116) rfl))))) rfl
set_option maxRecDepth 20000 in
theorem w_597 : (Jvm.Cond.instanceMethod ({ cls := "VoiceHouse", name := "told", desc := "(II)I" } : Jvm.MethodName)) ∈ tG := mG (List.mem_append_right _ (List.mem_append_right _ (List.mem_append_right _ (List.mem_append_left _ (List.mem_of_getElem? (i := 117) rfl))))) rfl
set_option maxRecDepth 20000 in
theorem w_598 : (Jvm.Cond.selects "VoiceHouse" ({ cls := "VoiceHouse", name := "told", desc := "(II)I" } : Jvm.MethodName) ({ cls := "VoiceHouse", name := "told", desc := "(II)I" } : Jvm.MethodName)) ∈ tG := mG (List.mem_append_right _ (List.mem_append_right _ (List.mem_append_right _ (List.mem_append_left _ (List.mem_of_getElem? (i := 118) rfl))))) rfl
set_option maxRecDepth 20000 in
theorem w_599 : (Jvm.Cond.code ({ cls := "VoiceHouse", name := "told", desc := "(II)I" } : Jvm.MethodName) prog_1_method_22_code (3 : Nat) (Option.some Jvm.ClassFile.FieldType.int)) ∈ tG := mG (List.mem_append_right _ (List.mem_append_right _ (List.mem_append_right _ (List.mem_append_left _ (List.mem_of_getElem? (i := 119) rfl))))) rfl
set_option maxRecDepth 20000 in
theorem w_600 : (Jvm.Cond.methodLink "VoiceHouse" (220 : Nat) ({ cls := "VoiceHouse$Archive", name := "channelOf", desc := "(I)I" } : Jvm.MethodName)) ∈ tG := mG (List.mem_append_right _ (List.mem_append_right _ (List.mem_append_right _ (List.mem_append_left _ (List.mem_of_getElem? (i := 120) rfl))))) rfl
set_option maxRecDepth 20000 in
theorem w_601 : (Jvm.Cond.methodLink "VoiceHouse" (223 : Nat) ({ cls := "VoiceHouse$Archive", name := "countTones", desc := "(I)I" } : Jvm.MethodName)) ∈ tG := mG (List.mem_append_right _ (List.mem_append_right _ (List.mem_append_right _ (List.mem_append_left _ (List.mem_of_getElem? (i := 121) rfl))))) rfl
set_option maxRecDepth 20000 in
theorem w_602 : (Jvm.Cond.instanceMethod ({ cls := "VoiceHouse$Archive", name := "countTones", desc := "(I)I" } : Jvm.MethodName)) ∈ tG := mG (List.mem_append_right _ (List.mem_append_right _ (List.mem_append_right _ (List.mem_append_left _ (List.mem_of_getElem? (i := 122) rfl))))) rfl
set_option maxRecDepth 20000 in
theorem w_603 : (Jvm.Cond.selects "VoiceHouse$Archive" ({ cls := "VoiceHouse$Archive", name := "countTones", desc := "(I)I" } : Jvm.MethodName) ({ cls := "VoiceHouse$Archive", name := "countTones", desc := "(I)I" } : Jvm.MethodName)) ∈ tG := mG (List.mem_append_right _ (List.mem_append_right _ (List.mem_append_right _ (List.mem_append_left _ (List.mem_of_getElem? (i := 123) rfl))))) rfl
set_option maxRecDepth 20000 in
theorem w_604 : (Jvm.Cond.code ({ cls := "VoiceHouse$Archive", name := "countTones", desc := "(I)I" } : Jvm.MethodName) prog_2_method_13_code (4 : Nat) (Option.some Jvm.ClassFile.FieldType.int)) ∈ tG := mG (List.mem_append_right _ (List.mem_append_right _ (List.mem_append_right _ (List.mem_append_left _ (List.mem_of_getElem? (i := 124) rfl))))) rfl
set_option maxRecDepth 20000 in
theorem w_605 : (Jvm.Cond.methodLink "VoiceHouse$Archive" (35 : Nat) ({ cls := "VoiceHouse$Archive", name := "toneAt", desc := "(II)I" } : Jvm.MethodName)) ∈ tG := mG (List.mem_append_right _ (List.mem_append_right _ (List.mem_append_right _ (List.mem_append_left _ (List.mem_of_getElem? (i := 125) rfl))))) rfl
set_option maxRecDepth 20000 in
theorem w_606 : (Jvm.Cond.methodLink "VoiceHouse" (226 : Nat) ({ cls := "VoiceHouse", name := "toneTold", desc := "(II)I" } : Jvm.MethodName)) ∈ tG := mG (List.mem_append_right _ (List.mem_append_right _ (List.mem_append_right _ (List.mem_append_left _ (List.mem_of_getElem? (i := 126) rfl))))) rfl
set_option maxRecDepth 20000 in
theorem w_608 : (Jvm.Cond.instanceMethod ({ cls := "VoiceHouse", name := "toneTold", desc := "(II)I" } : Jvm.MethodName)) ∈ tG := mG (List.mem_append_right _ (List.mem_append_right _ (List.mem_append_right _ (List.mem_append_left _ (List.mem_of_getElem? (i := 128) rfl))))) rfl
set_option maxRecDepth 20000 in
theorem w_609 : (Jvm.Cond.code ({ cls := "VoiceHouse", name := "toneTold", desc := "(II)I" } : Jvm.MethodName) prog_1_method_24_code (3 : Nat) (Option.some Jvm.ClassFile.FieldType.int)) ∈ tG := mG (List.mem_append_right _ (List.mem_append_right _ (List.mem_append_right _ (List.mem_append_left _ (List.mem_of_getElem? (i := 129) rfl))))) rfl
set_option maxRecDepth 20000 in
theorem w_610 : (Jvm.Cond.methodLink "VoiceHouse" (233 : Nat) ({ cls := "VoiceHouse$Archive", name := "toneAt", desc := "(II)I" } : Jvm.MethodName)) ∈ tG := mG (List.mem_append_right _ (List.mem_append_right _ (List.mem_append_right _ (List.mem_append_left _ (List.mem_of_getElem? (i := 130) rfl))))) rfl
set_option maxRecDepth 20000 in
theorem w_611 : (Jvm.Cond.methodLink "VoiceHouseLaw" (103 : Nat) ({ cls := "VoiceHouse", name := "count", desc := "(I)I" } : Jvm.MethodName)) ∈ tG := mG (List.mem_append_right _ (List.mem_append_right _ (List.mem_append_right _ (List.mem_append_left _ (List.mem_of_getElem? (i := 131) rfl))))) rfl
set_option maxRecDepth 20000 in
theorem w_612 : (Jvm.Cond.instanceMethod ({ cls := "VoiceHouse", name := "count", desc := "(I)I" } : Jvm.MethodName)) ∈ tG := mG (List.mem_append_right _ (List.mem_append_right _ (List.mem_append_right _ (List.mem_append_left _ (List.mem_of_getElem? (i := 132) rfl))))) rfl
set_option maxRecDepth 20000 in
theorem w_613 : (Jvm.Cond.selects "VoiceHouse" ({ cls := "VoiceHouse", name := "count", desc := "(I)I" } : Jvm.MethodName) ({ cls := "VoiceHouse", name := "count", desc := "(I)I" } : Jvm.MethodName)) ∈ tG := mG (List.mem_append_right _ (List.mem_append_right _ (List.mem_append_right _ (List.mem_append_left _ (List.mem_of_getElem? (i := 133) rfl))))) rfl
set_option maxRecDepth 20000 in
theorem w_614 : (Jvm.Cond.code ({ cls := "VoiceHouse", name := "count", desc := "(I)I" } : Jvm.MethodName) prog_1_method_23_code (2 : Nat) (Option.some Jvm.ClassFile.FieldType.int)) ∈ tG := mG (List.mem_append_right _ (List.mem_append_right _ (List.mem_append_right _ (List.mem_append_left _ (List.mem_of_getElem? (i := 134) rfl))))) rfl
set_option maxRecDepth 20000 in
theorem w_615 : (Jvm.Cond.methodLink "VoiceHouse" (229 : Nat) ({ cls := "VoiceHouse$Archive", name := "size", desc := "()I" } : Jvm.MethodName)) ∈ tG := mG (List.mem_append_right _ (List.mem_append_right _ (List.mem_append_right _ (List.mem_append_left _ (List.mem_of_getElem? (i := 135) rfl))))) rfl
set_option maxRecDepth 20000 in
theorem w_616 : (Jvm.Cond.methodLink "VoiceHouse" (230 : Nat) ({ cls := "VoiceHouse$PairBook", name := "countBlocks", desc := "()I" } : Jvm.MethodName)) ∈ tG := mG (List.mem_append_right _ (List.mem_append_right _ (List.mem_append_right _ (List.mem_append_left _ (List.mem_of_getElem? (i := 136) rfl))))) rfl
set_option maxRecDepth 20000 in
theorem w_617 : (Jvm.Cond.instanceMethod ({ cls := "VoiceHouse$PairBook", name := "countBlocks", desc := "()I" } : Jvm.MethodName)) ∈ tG := mG (List.mem_append_right _ (List.mem_append_right _ (List.mem_append_right _ (List.mem_append_left _ (List.mem_of_getElem? (i := 137) rfl))))) rfl
set_option maxRecDepth 20000 in
theorem w_618 : (Jvm.Cond.selects "VoiceHouse$PairBook" ({ cls := "VoiceHouse$PairBook", name := "countBlocks", desc := "()I" } : Jvm.MethodName) ({ cls := "VoiceHouse$PairBook", name := "countBlocks", desc := "()I" } : Jvm.MethodName)) ∈ tG := mG (List.mem_append_right _ (List.mem_append_right _ (List.mem_append_right _ (List.mem_append_left _ (List.mem_of_getElem? (i := 138) rfl))))) rfl
set_option maxRecDepth 20000 in
theorem w_619 : (Jvm.Cond.code ({ cls := "VoiceHouse$PairBook", name := "countBlocks", desc := "()I" } : Jvm.MethodName) prog_5_method_21_code (1 : Nat) (Option.some Jvm.ClassFile.FieldType.int)) ∈ tG := mG (List.mem_append_right _ (List.mem_append_right _ (List.mem_append_right _ (List.mem_append_left _ (List.mem_of_getElem? (i := 139) rfl))))) rfl
set_option maxRecDepth 20000 in
theorem w_626 : (Jvm.Cond.fieldLink "VoiceHouseModel" (56 : Nat) "VoiceHouseModel" "recordings" "I") ∈ tG := mG (List.mem_append_right _ (List.mem_append_right _ (List.mem_append_right _ (List.mem_append_left _ (List.mem_of_getElem? (i := 146) rfl))))) rfl
set_option maxRecDepth 20000 in
theorem w_627 : (Jvm.Cond.fieldLink "VoiceHouseModel" (9 : Nat) "VoiceHouseModel" "tone" "[I") ∈ tG := mG (List.mem_append_right _ (List.mem_append_right _ (List.mem_append_right _ (List.mem_append_left _ (List.mem_of_getElem? (i := 147) rfl))))) rfl
set_option maxRecDepth 20000 in
theorem w_628 : (Jvm.Cond.fieldLink "VoiceHouseModel" (13 : Nat) "VoiceHouseModel" "channel" "[I") ∈ tG := mG (List.mem_append_right _ (List.mem_append_right _ (List.mem_append_right _ (List.mem_append_left _ (List.mem_of_getElem? (i := 148) rfl))))) rfl
set_option maxRecDepth 20000 in
theorem w_629 : (Jvm.Cond.fieldLink "VoiceHouseModel" (16 : Nat) "VoiceHouseModel" "speaker" "[I") ∈ tG := mG (List.mem_append_right _ (List.mem_append_right _ (List.mem_append_right _ (List.mem_append_left _ (List.mem_of_getElem? (i := 149) rfl))))) rfl
set_option maxRecDepth 20000 in
theorem w_630 : (Jvm.Cond.fieldLink "VoiceHouseModel" (19 : Nat) "VoiceHouseModel" "set" "I") ∈ tG := mG (List.mem_append_right _ (List.mem_append_right _ (List.mem_append_right _ (List.mem_append_left _ (List.mem_of_getElem? (i := 150) rfl))))) rfl
set_option maxRecDepth 20000 in
theorem w_631 : (Jvm.Cond.fieldLink "VoiceHouseModel" (23 : Nat) "VoiceHouseModel" "limit" "I") ∈ tG := mG (List.mem_append_right _ (List.mem_append_right _ (List.mem_append_right _ (List.mem_append_left _ (List.mem_of_getElem? (i := 151) rfl))))) rfl
set_option maxRecDepth 20000 in
theorem w_632 : (Jvm.Cond.fieldLink "VoiceHouseModel" (112 : Nat) "VoiceHouseModel" "segments" "I") ∈ tG := mG (List.mem_append_right _ (List.mem_append_right _ (List.mem_append_right _ (List.mem_append_left _ (List.mem_of_getElem? (i := 152) rfl))))) rfl
set_option maxRecDepth 20000 in
theorem w_633 : (Jvm.Cond.fieldLink "VoiceHouseModel" (26 : Nat) "VoiceHouseModel" "segment" "[I") ∈ tG := mG (List.mem_append_right _ (List.mem_append_right _ (List.mem_append_right _ (List.mem_append_left _ (List.mem_of_getElem? (i := 153) rfl))))) rfl
set_option maxRecDepth 20000 in
theorem w_634 : (Jvm.Cond.fieldLink "VoiceHouseModel" (133 : Nat) "VoiceHouseModel" "tests" "I") ∈ tG := mG (List.mem_append_right _ (List.mem_append_right _ (List.mem_append_right _ (List.mem_append_left _ (List.mem_of_getElem? (i := 154) rfl))))) rfl
set_option maxRecDepth 20000 in
theorem w_635 : (Jvm.Cond.fieldLink "VoiceHouseModel" (29 : Nat) "VoiceHouseModel" "right" "[I") ∈ tG := mG (List.mem_append_right _ (List.mem_append_right _ (List.mem_append_right _ (List.mem_append_left _ (List.mem_of_getElem? (i := 155) rfl))))) rfl
set_option maxRecDepth 20000 in
theorem w_636 : (Jvm.Cond.fieldLink "VoiceHouseModel" (67 : Nat) "VoiceHouseModel" "shiftSum" "I") ∈ tG := mG (List.mem_append_right _ (List.mem_append_right _ (List.mem_append_right _ (List.mem_append_left _ (List.mem_of_getElem? (i := 156) rfl))))) rfl
set_option maxRecDepth 20000 in
theorem w_637 : (Jvm.Cond.fieldLink "VoiceHouseModel" (32 : Nat) "VoiceHouseModel" "shifts" "[I") ∈ tG := mG (List.mem_append_right _ (List.mem_append_right _ (List.mem_append_right _ (List.mem_append_left _ (List.mem_of_getElem? (i := 157) rfl))))) rfl
set_option maxRecDepth 20000 in
theorem w_638 : (Jvm.Cond.fieldLink "VoiceHouseModel" (35 : Nat) "VoiceHouseModel" "same" "[I") ∈ tG := mG (List.mem_append_right _ (List.mem_append_right _ (List.mem_append_right _ (List.mem_append_left _ (List.mem_of_getElem? (i := 158) rfl))))) rfl
set_option maxRecDepth 20000 in
theorem w_639 : (Jvm.Cond.fieldLink "VoiceHouseModel" (38 : Nat) "VoiceHouseModel" "other" "[I") ∈ tG := mG (List.mem_append_right _ (List.mem_append_right _ (List.mem_append_right _ (List.mem_append_left _ (List.mem_of_getElem? (i := 159) rfl))))) rfl
set_option maxRecDepth 20000 in
theorem w_640 : (Jvm.Cond.fieldLink "VoiceHouseModel" (41 : Nat) "VoiceHouseModel" "first" "[I") ∈ tG := mG (List.mem_append_right _ (List.mem_append_right _ (List.mem_append_right _ (List.mem_append_left _ (List.mem_of_getElem? (i := 160) rfl))))) rfl
set_option maxRecDepth 20000 in
theorem w_641 : (Jvm.Cond.fieldLink "VoiceHouseModel" (44 : Nat) "VoiceHouseModel" "scores" "[I") ∈ tG := mG (List.mem_append_right _ (List.mem_append_right _ (List.mem_append_right _ (List.mem_append_left _ (List.mem_of_getElem? (i := 161) rfl))))) rfl
set_option maxRecDepth 20000 in
theorem w_642 : (Jvm.Cond.fieldLink "VoiceHouseModel" (47 : Nat) "VoiceHouseModel" "voice" "[I") ∈ tG := mG (List.mem_append_right _ (List.mem_append_right _ (List.mem_append_right _ (List.mem_append_left _ (List.mem_of_getElem? (i := 162) rfl))))) rfl
set_option maxRecDepth 20000 in
theorem w_643 : (Jvm.Cond.fieldLink "VoiceHouseModel" (115 : Nat) "VoiceHouseModel" "pairs" "I") ∈ tG := mG (List.mem_append_right _ (List.mem_append_right _ (List.mem_append_right _ (List.mem_append_left _ (List.mem_of_getElem? (i := 163) rfl))))) rfl
set_option maxRecDepth 20000 in
theorem w_644 : (Jvm.Cond.fieldLink "VoiceHouseModel" (50 : Nat) "VoiceHouseModel" "least" "[I") ∈ tG := mG (List.mem_append_right _ (List.mem_append_right _ (List.mem_append_right _ (List.mem_append_left _ (List.mem_of_getElem? (i := 164) rfl))))) rfl
set_option maxRecDepth 20000 in
theorem w_645 : (Jvm.Cond.fieldLink "VoiceHouseModel" (53 : Nat) "VoiceHouseModel" "line" "[I") ∈ tG := mG (List.mem_append_right _ (List.mem_append_right _ (List.mem_append_right _ (List.mem_append_left _ (List.mem_of_getElem? (i := 165) rfl))))) rfl
set_option maxRecDepth 20000 in
theorem w_687 : (Jvm.Cond.methodLink "VoiceHouseLaw" (17 : Nat) ({ cls := "VoiceHouseModel", name := "record", desc := "(II)I" } : Jvm.MethodName)) ∈ tG := mG (List.mem_append_right _ (List.mem_append_right _ (List.mem_append_right _ (List.mem_append_left _ (List.mem_of_getElem? (i := 207) rfl))))) rfl
set_option maxRecDepth 20000 in
theorem w_688 : (Jvm.Cond.instanceMethod ({ cls := "VoiceHouseModel", name := "record", desc := "(II)I" } : Jvm.MethodName)) ∈ tG := mG (List.mem_append_right _ (List.mem_append_right _ (List.mem_append_right _ (List.mem_append_left _ (List.mem_of_getElem? (i := 208) rfl))))) rfl
set_option maxRecDepth 20000 in
theorem w_689 : (Jvm.Cond.selects "VoiceHouseModel" ({ cls := "VoiceHouseModel", name := "record", desc := "(II)I" } : Jvm.MethodName) ({ cls := "VoiceHouseModel", name := "record", desc := "(II)I" } : Jvm.MethodName)) ∈ tG := mG (List.mem_append_right _ (List.mem_append_right _ (List.mem_append_right _ (List.mem_append_left _ (List.mem_of_getElem? (i := 209) rfl))))) rfl
set_option maxRecDepth 20000 in
theorem w_690 : (Jvm.Cond.code ({ cls := "VoiceHouseModel", name := "record", desc := "(II)I" } : Jvm.MethodName) prog_10_method_4_code (4 : Nat) (Option.some Jvm.ClassFile.FieldType.int)) ∈ tG := mG (List.mem_append_right _ (List.mem_append_right _ (List.mem_append_right _ (List.mem_append_left _ (List.mem_of_getElem? (i := 210) rfl))))) rfl
set_option maxRecDepth 20000 in
theorem w_691 : (Jvm.Cond.methodLink "VoiceHouseModel" (59 : Nat) ({ cls := "VoiceHouseModel", name := "in", desc := "(III)Z" } : Jvm.MethodName)) ∈ tG := mG (List.mem_append_right _ (List.mem_append_right _ (List.mem_append_right _ (List.mem_append_left _ (List.mem_of_getElem? (i := 211) rfl))))) rfl
set_option maxRecDepth 20000 in
theorem w_692 : (Jvm.Cond.static ({ cls := "VoiceHouseModel", name := "in", desc := "(III)Z" } : Jvm.MethodName)) ∈ tG := mG (List.mem_append_right _ (List.mem_append_right _ (List.mem_append_right _ (List.mem_append_left _ (List.mem_of_getElem? (i := 212) rfl))))) rfl
set_option maxRecDepth 20000 in
theorem w_693 : (Jvm.Cond.code ({ cls := "VoiceHouseModel", name := "in", desc := "(III)Z" } : Jvm.MethodName) prog_10_method_2_code (3 : Nat) (Option.some Jvm.ClassFile.FieldType.boolean)) ∈ tG := mG (List.mem_append_right _ (List.mem_append_right _ (List.mem_append_right _ (List.mem_append_left _ (List.mem_of_getElem? (i := 213) rfl))))) rfl
set_option maxRecDepth 20000 in
theorem w_694 : (Jvm.Cond.methodLink "VoiceHouseLaw" (22 : Nat) ({ cls := "VoiceHouseModel", name := "tone", desc := "(III)Z" } : Jvm.MethodName)) ∈ tG := mG (List.mem_append_right _ (List.mem_append_right _ (List.mem_append_right _ (List.mem_append_left _ (List.mem_of_getElem? (i := 214) rfl))))) rfl
set_option maxRecDepth 20000 in
theorem w_695 : (Jvm.Cond.instanceMethod ({ cls := "VoiceHouseModel", name := "tone", desc := "(III)Z" } : Jvm.MethodName)) ∈ tG := mG (List.mem_append_right _ (List.mem_append_right _ (List.mem_append_right _ (List.mem_append_left _ (List.mem_of_getElem? (i := 215) rfl))))) rfl
set_option maxRecDepth 20000 in
theorem w_696 : (Jvm.Cond.selects "VoiceHouseModel" ({ cls := "VoiceHouseModel", name := "tone", desc := "(III)Z" } : Jvm.MethodName) ({ cls := "VoiceHouseModel", name := "tone", desc := "(III)Z" } : Jvm.MethodName)) ∈ tG := mG (List.mem_append_right _ (List.mem_append_right _ (List.mem_append_right _ (List.mem_append_left _ (List.mem_of_getElem? (i := 216) rfl))))) rfl
set_option maxRecDepth 20000 in
theorem w_697 : (Jvm.Cond.code ({ cls := "VoiceHouseModel", name := "tone", desc := "(III)Z" } : Jvm.MethodName) prog_10_method_5_code (4 : Nat) (Option.some Jvm.ClassFile.FieldType.boolean)) ∈ tG := mG (List.mem_append_right _ (List.mem_append_right _ (List.mem_append_right _ (List.mem_append_left _ (List.mem_of_getElem? (i := 217) rfl))))) rfl
set_option maxRecDepth 20000 in
theorem w_698 : (Jvm.Cond.methodLink "VoiceHouseModel" (63 : Nat) ({ cls := "VoiceHouseModel", name := "isRecording", desc := "(I)Z" } : Jvm.MethodName)) ∈ tG := mG (List.mem_append_right _ (List.mem_append_right _ (List.mem_append_right _ (List.mem_append_left _ (List.mem_of_getElem? (i := 218) rfl))))) rfl
set_option maxRecDepth 20000 in
theorem w_700 : (Jvm.Cond.instanceMethod ({ cls := "VoiceHouseModel", name := "isRecording", desc := "(I)Z" } : Jvm.MethodName)) ∈ tG := mG (List.mem_append_right _ (List.mem_append_right _ (List.mem_append_right _ (List.mem_append_left _ (List.mem_of_getElem? (i := 220) rfl))))) rfl
set_option maxRecDepth 20000 in
theorem w_701 : (Jvm.Cond.code ({ cls := "VoiceHouseModel", name := "isRecording", desc := "(I)Z" } : Jvm.MethodName) prog_10_method_3_code (2 : Nat) (Option.some Jvm.ClassFile.FieldType.boolean)) ∈ tG := mG (List.mem_append_right _ (List.mem_append_right _ (List.mem_append_right _ (List.mem_append_left _ (List.mem_of_getElem? (i := 221) rfl))))) rfl
set_option maxRecDepth 20000 in
theorem w_702 : (Jvm.Cond.methodLink "VoiceHouseLaw" (27 : Nat) ({ cls := "VoiceHouseModel", name := "know", desc := "(II)Z" } : Jvm.MethodName)) ∈ tG := mG (List.mem_append_right _ (List.mem_append_right _ (List.mem_append_right _ (List.mem_append_left _ (List.mem_of_getElem? (i := 222) rfl))))) rfl
set_option maxRecDepth 20000 in
theorem w_703 : (Jvm.Cond.instanceMethod ({ cls := "VoiceHouseModel", name := "know", desc := "(II)Z" } : Jvm.MethodName)) ∈ tG := mG (List.mem_append_right _ (List.mem_append_right _ (List.mem_append_right _ (List.mem_append_left _ (List.mem_of_getElem? (i := 223) rfl))))) rfl
set_option maxRecDepth 20000 in
theorem w_704 : (Jvm.Cond.selects "VoiceHouseModel" ({ cls := "VoiceHouseModel", name := "know", desc := "(II)Z" } : Jvm.MethodName) ({ cls := "VoiceHouseModel", name := "know", desc := "(II)Z" } : Jvm.MethodName)) ∈ tG := mG (List.mem_append_right _ (List.mem_append_right _ (List.mem_append_right _ (List.mem_append_left _ (List.mem_of_getElem? (i := 224) rfl))))) rfl
set_option maxRecDepth 20000 in
theorem w_705 : (Jvm.Cond.code ({ cls := "VoiceHouseModel", name := "know", desc := "(II)Z" } : Jvm.MethodName) prog_10_method_6_code (3 : Nat) (Option.some Jvm.ClassFile.FieldType.boolean)) ∈ tG := mG (List.mem_append_right _ (List.mem_append_right _ (List.mem_append_right _ (List.mem_append_left _ (List.mem_of_getElem? (i := 225) rfl))))) rfl
set_option maxRecDepth 20000 in
theorem w_706 : (Jvm.Cond.methodLink "VoiceHouseLaw" (32 : Nat) ({ cls := "VoiceHouseModel", name := "set", desc := "(I)Z" } : Jvm.MethodName)) ∈ tG := mG (List.mem_append_right _ (List.mem_append_right _ (List.mem_append_right _ (List.mem_append_left _ (List.mem_of_getElem? (i := 226) rfl))))) rfl
set_option maxRecDepth 20000 in
theorem w_707 : (Jvm.Cond.instanceMethod ({ cls := "VoiceHouseModel", name := "set", desc := "(I)Z" } : Jvm.MethodName)) ∈ tG := mG (List.mem_append_right _ (List.mem_append_right _ (List.mem_append_right _ (List.mem_append_left _ (List.mem_of_getElem? (i := 227) rfl))))) rfl
set_option maxRecDepth 20000 in
theorem w_708 : (Jvm.Cond.selects "VoiceHouseModel" ({ cls := "VoiceHouseModel", name := "set", desc := "(I)Z" } : Jvm.MethodName) ({ cls := "VoiceHouseModel", name := "set", desc := "(I)Z" } : Jvm.MethodName)) ∈ tG := mG (List.mem_append_right _ (List.mem_append_right _ (List.mem_append_right _ (List.mem_append_left _ (List.mem_of_getElem? (i := 228) rfl))))) rfl
set_option maxRecDepth 20000 in
theorem w_709 : (Jvm.Cond.code ({ cls := "VoiceHouseModel", name := "set", desc := "(I)Z" } : Jvm.MethodName) prog_10_method_7_code (2 : Nat) (Option.some Jvm.ClassFile.FieldType.boolean)) ∈ tG := mG (List.mem_append_right _ (List.mem_append_right _ (List.mem_append_right _ (List.mem_append_left _ (List.mem_of_getElem? (i := 229) rfl))))) rfl
set_option maxRecDepth 20000 in
theorem w_710 : (Jvm.Cond.methodLink "VoiceHouseLaw" (36 : Nat) ({ cls := "VoiceHouseModel", name := "limit", desc := "(I)Z" } : Jvm.MethodName)) ∈ tG := mG (List.mem_append_right _ (List.mem_append_right _ (List.mem_append_right _ (List.mem_append_left _ (List.mem_of_getElem? (i := 230) rfl))))) rfl
set_option maxRecDepth 20000 in
theorem w_711 : (Jvm.Cond.instanceMethod ({ cls := "VoiceHouseModel", name := "limit", desc := "(I)Z" } : Jvm.MethodName)) ∈ tG := mG (List.mem_append_right _ (List.mem_append_right _ (List.mem_append_right _ (List.mem_append_left _ (List.mem_of_getElem? (i := 231) rfl))))) rfl
set_option maxRecDepth 20000 in
theorem w_712 : (Jvm.Cond.selects "VoiceHouseModel" ({ cls := "VoiceHouseModel", name := "limit", desc := "(I)Z" } : Jvm.MethodName) ({ cls := "VoiceHouseModel", name := "limit", desc := "(I)Z" } : Jvm.MethodName)) ∈ tG := mG (List.mem_append_right _ (List.mem_append_right _ (List.mem_append_right _ (List.mem_append_left _ (List.mem_of_getElem? (i := 232) rfl))))) rfl
set_option maxRecDepth 20000 in
theorem w_713 : (Jvm.Cond.code ({ cls := "VoiceHouseModel", name := "limit", desc := "(I)Z" } : Jvm.MethodName) prog_10_method_8_code (2 : Nat) (Option.some Jvm.ClassFile.FieldType.boolean)) ∈ tG := mG (List.mem_append_right _ (List.mem_append_right _ (List.mem_append_right _ (List.mem_append_left _ (List.mem_of_getElem? (i := 233) rfl))))) rfl
set_option maxRecDepth 20000 in
theorem w_714 : (Jvm.Cond.methodLink "VoiceHouseLaw" (40 : Nat) ({ cls := "VoiceHouseModel", name := "shift", desc := "(II)I" } : Jvm.MethodName)) ∈ tG := mG (List.mem_append_right _ (List.mem_append_right _ (List.mem_append_right _ (List.mem_append_left _ (List.mem_of_getElem? (i := 234) rfl))))) rfl
set_option maxRecDepth 20000 in
theorem w_715 : (Jvm.Cond.instanceMethod ({ cls := "VoiceHouseModel", name := "shift", desc := "(II)I" } : Jvm.MethodName)) ∈ tG := mG (List.mem_append_right _ (List.mem_append_right _ (List.mem_append_right _ (List.mem_append_left _ (List.mem_of_getElem? (i := 235) rfl))))) rfl
set_option maxRecDepth 20000 in
theorem w_716 : (Jvm.Cond.selects "VoiceHouseModel" ({ cls := "VoiceHouseModel", name := "shift", desc := "(II)I" } : Jvm.MethodName) ({ cls := "VoiceHouseModel", name := "shift", desc := "(II)I" } : Jvm.MethodName)) ∈ tG := mG (List.mem_append_right _ (List.mem_append_right _ (List.mem_append_right _ (List.mem_append_left _ (List.mem_of_getElem? (i := 236) rfl))))) rfl
set_option maxRecDepth 20000 in
theorem w_717 : (Jvm.Cond.code ({ cls := "VoiceHouseModel", name := "shift", desc := "(II)I" } : Jvm.MethodName) prog_10_method_11_code (3 : Nat) (Option.some Jvm.ClassFile.FieldType.int)) ∈ tG := mG (List.mem_append_right _ (List.mem_append_right _ (List.mem_append_right _ (List.mem_append_left _ (List.mem_of_getElem? (i := 237) rfl))))) rfl
set_option maxRecDepth 20000 in
theorem w_718 : (Jvm.Cond.methodLink "VoiceHouseModel" (74 : Nat) ({ cls := "VoiceHouseModel", name := "shiftOf", desc := "(II)I" } : Jvm.MethodName)) ∈ tG := mG (List.mem_append_right _ (List.mem_append_right _ (List.mem_append_right _ (List.mem_append_left _ (List.mem_of_getElem? (i := 238) rfl))))) rfl
set_option maxRecDepth 20000 in
theorem w_720 : (Jvm.Cond.instanceMethod ({ cls := "VoiceHouseModel", name := "shiftOf", desc := "(II)I" } : Jvm.MethodName)) ∈ tG := mG (List.mem_append_right _ (List.mem_append_right _ (List.mem_append_right _ (List.mem_append_right _ (List.mem_of_getElem? (i := 0) rfl))))) rfl
set_option maxRecDepth 20000 in
theorem w_721 : (Jvm.Cond.code ({ cls := "VoiceHouseModel", name := "shiftOf", desc := "(II)I" } : Jvm.MethodName) prog_10_method_10_code (4 : Nat) (Option.some Jvm.ClassFile.FieldType.int)) ∈ tG := mG (List.mem_append_right _ (List.mem_append_right _ (List.mem_append_right _ (List.mem_append_right _ (List.mem_of_getElem? (i := 1) rfl))))) rfl
set_option maxRecDepth 20000 in
theorem w_722 : (Jvm.Cond.methodLink "VoiceHouseModel" (70 : Nat) ({ cls := "VoiceHouseModel", name := "shiftPairs", desc := "(II)I" } : Jvm.MethodName)) ∈ tG := mG (List.mem_append_right _ (List.mem_append_right _ (List.mem_append_right _ (List.mem_append_right _ (List.mem_of_getElem? (i := 2) rfl))))) rfl
set_option maxRecDepth 20000 in
theorem w_724 : (Jvm.Cond.instanceMethod ({ cls := "VoiceHouseModel", name := "shiftPairs", desc := "(II)I" } : Jvm.MethodName)) ∈ tG := mG (List.mem_append_right _ (List.mem_append_right _ (List.mem_append_right _ (List.mem_append_right _ (List.mem_of_getElem? (i := 4) rfl))))) rfl
set_option maxRecDepth 20000 in
theorem w_725 : (Jvm.Cond.code ({ cls := "VoiceHouseModel", name := "shiftPairs", desc := "(II)I" } : Jvm.MethodName) prog_10_method_9_code (8 : Nat) (Option.some Jvm.ClassFile.FieldType.int)) ∈ tG := mG (List.mem_append_right _ (List.mem_append_right _ (List.mem_append_right _ (List.mem_append_right _ (List.mem_of_getElem? (i := 5) rfl))))) rfl
set_option maxRecDepth 20000 in
theorem w_726 : (Jvm.Cond.constant "VoiceHouseModel" (77 : Nat) (-2147483648 : Int32)) ∈ tG := mG (List.mem_append_right _ (List.mem_append_right _ (List.mem_append_right _ (List.mem_append_right _ (List.mem_of_getElem? (i := 6) rfl))))) rfl
set_option maxRecDepth 20000 in
theorem w_727 : (Jvm.Cond.methodLink "VoiceHouseLaw" (44 : Nat) ({ cls := "VoiceHouseModel", name := "hidden", desc := "(II)Z" } : Jvm.MethodName)) ∈ tG := mG (List.mem_append_right _ (List.mem_append_right _ (List.mem_append_right _ (List.mem_append_right _ (List.mem_of_getElem? (i := 7) rfl))))) rfl
set_option maxRecDepth 20000 in
theorem w_728 : (Jvm.Cond.instanceMethod ({ cls := "VoiceHouseModel", name := "hidden", desc := "(II)Z" } : Jvm.MethodName)) ∈ tG := mG (List.mem_append_right _ (List.mem_append_right _ (List.mem_append_right _ (List.mem_append_right _ (List.mem_of_getElem? (i := 8) rfl))))) rfl
set_option maxRecDepth 20000 in
theorem w_729 : (Jvm.Cond.selects "VoiceHouseModel" ({ cls := "VoiceHouseModel", name := "hidden", desc := "(II)Z" } : Jvm.MethodName) ({ cls := "VoiceHouseModel", name := "hidden", desc := "(II)Z" } : Jvm.MethodName)) ∈ tG := mG (List.mem_append_right _ (List.mem_append_right _ (List.mem_append_right _ (List.mem_append_right _ (List.mem_of_getElem? (i := 9) rfl))))) rfl
set_option maxRecDepth 20000 in
theorem w_730 : (Jvm.Cond.code ({ cls := "VoiceHouseModel", name := "hidden", desc := "(II)Z" } : Jvm.MethodName) prog_10_method_12_code (3 : Nat) (Option.some Jvm.ClassFile.FieldType.boolean)) ∈ tG := mG (List.mem_append_right _ (List.mem_append_right _ (List.mem_append_right _ (List.mem_append_right _ (List.mem_of_getElem? (i := 10) rfl))))) rfl
set_option maxRecDepth 20000 in
theorem w_731 : (Jvm.Cond.methodLink "VoiceHouseLaw" (48 : Nat) ({ cls := "VoiceHouseModel", name := "score", desc := "(II)I" } : Jvm.MethodName)) ∈ tG := mG (List.mem_append_right _ (List.mem_append_right _ (List.mem_append_right _ (List.mem_append_right _ (List.mem_of_getElem? (i := 11) rfl))))) rfl
set_option maxRecDepth 20000 in
theorem w_732 : (Jvm.Cond.instanceMethod ({ cls := "VoiceHouseModel", name := "score", desc := "(II)I" } : Jvm.MethodName)) ∈ tG := mG (List.mem_append_right _ (List.mem_append_right _ (List.mem_append_right _ (List.mem_append_right _ (List.mem_of_getElem? (i := 12) rfl))))) rfl
set_option maxRecDepth 20000 in
theorem w_733 : (Jvm.Cond.selects "VoiceHouseModel" ({ cls := "VoiceHouseModel", name := "score", desc := "(II)I" } : Jvm.MethodName) ({ cls := "VoiceHouseModel", name := "score", desc := "(II)I" } : Jvm.MethodName)) ∈ tG := mG (List.mem_append_right _ (List.mem_append_right _ (List.mem_append_right _ (List.mem_append_right _ (List.mem_of_getElem? (i := 13) rfl))))) rfl
set_option maxRecDepth 20000 in
theorem w_734 : (Jvm.Cond.code ({ cls := "VoiceHouseModel", name := "score", desc := "(II)I" } : Jvm.MethodName) prog_10_method_15_code (3 : Nat) (Option.some Jvm.ClassFile.FieldType.int)) ∈ tG := mG (List.mem_append_right _ (List.mem_append_right _ (List.mem_append_right _ (List.mem_append_right _ (List.mem_of_getElem? (i := 14) rfl))))) rfl
set_option maxRecDepth 20000 in
theorem w_735 : (Jvm.Cond.methodLink "VoiceHouseModel" (78 : Nat) ({ cls := "VoiceHouseModel", name := "reckons", desc := "()V" } : Jvm.MethodName)) ∈ tG := mG (List.mem_append_right _ (List.mem_append_right _ (List.mem_append_right _ (List.mem_append_right _ (List.mem_of_getElem? (i := 15) rfl))))) rfl
set_option maxRecDepth 20000 in
theorem w_737 : (Jvm.Cond.instanceMethod ({ cls := "VoiceHouseModel", name := "reckons", desc := "()V" } : Jvm.MethodName)) ∈ tG := mG (List.mem_append_right _ (List.mem_append_right _ (List.mem_append_right _ (List.mem_append_right _ (List.mem_of_getElem? (i := 17) rfl))))) rfl
set_option maxRecDepth 20000 in
theorem w_738 : (Jvm.Cond.code ({ cls := "VoiceHouseModel", name := "reckons", desc := "()V" } : Jvm.MethodName) prog_10_method_13_code (3 : Nat) (Option.none : Option Jvm.ClassFile.FieldType)) ∈ tG := mG (List.mem_append_right _ (List.mem_append_right _ (List.mem_append_right _ (List.mem_append_right _ (List.mem_of_getElem? (i := 18) rfl))))) rfl
set_option maxRecDepth 20000 in
theorem w_739 : (Jvm.Cond.methodLink "VoiceHouseModel" (81 : Nat) ({ cls := "VoiceHouseModel", name := "scoreOf", desc := "(II)I" } : Jvm.MethodName)) ∈ tG := mG (List.mem_append_right _ (List.mem_append_right _ (List.mem_append_right _ (List.mem_append_right _ (List.mem_of_getElem? (i := 19) rfl))))) rfl
set_option maxRecDepth 20000 in
theorem w_741 : (Jvm.Cond.instanceMethod ({ cls := "VoiceHouseModel", name := "scoreOf", desc := "(II)I" } : Jvm.MethodName)) ∈ tG := mG (List.mem_append_right _ (List.mem_append_right _ (List.mem_append_right _ (List.mem_append_right _ (List.mem_of_getElem? (i := 21) rfl))))) rfl
set_option maxRecDepth 20000 in
theorem w_742 : (Jvm.Cond.code ({ cls := "VoiceHouseModel", name := "scoreOf", desc := "(II)I" } : Jvm.MethodName) prog_10_method_14_code (9 : Nat) (Option.some Jvm.ClassFile.FieldType.int)) ∈ tG := mG (List.mem_append_right _ (List.mem_append_right _ (List.mem_append_right _ (List.mem_append_right _ (List.mem_of_getElem? (i := 22) rfl))))) rfl
set_option maxRecDepth 20000 in
theorem w_743 : (Jvm.Cond.methodLink "VoiceHouseLaw" (52 : Nat) ({ cls := "VoiceHouseModel", name := "band", desc := "(II)I" } : Jvm.MethodName)) ∈ tG := mG (List.mem_append_right _ (List.mem_append_right _ (List.mem_append_right _ (List.mem_append_right _ (List.mem_of_getElem? (i := 23) rfl))))) rfl
set_option maxRecDepth 20000 in
theorem w_744 : (Jvm.Cond.instanceMethod ({ cls := "VoiceHouseModel", name := "band", desc := "(II)I" } : Jvm.MethodName)) ∈ tG := mG (List.mem_append_right _ (List.mem_append_right _ (List.mem_append_right _ (List.mem_append_right _ (List.mem_of_getElem? (i := 24) rfl))))) rfl
set_option maxRecDepth 20000 in
theorem w_745 : (Jvm.Cond.selects "VoiceHouseModel" ({ cls := "VoiceHouseModel", name := "band", desc := "(II)I" } : Jvm.MethodName) ({ cls := "VoiceHouseModel", name := "band", desc := "(II)I" } : Jvm.MethodName)) ∈ tG := mG (List.mem_append_right _ (List.mem_append_right _ (List.mem_append_right _ (List.mem_append_right _ (List.mem_of_getElem? (i := 25) rfl))))) rfl
set_option maxRecDepth 20000 in
theorem w_746 : (Jvm.Cond.code ({ cls := "VoiceHouseModel", name := "band", desc := "(II)I" } : Jvm.MethodName) prog_10_method_23_code (3 : Nat) (Option.some Jvm.ClassFile.FieldType.int)) ∈ tG := mG (List.mem_append_right _ (List.mem_append_right _ (List.mem_append_right _ (List.mem_append_right _ (List.mem_of_getElem? (i := 26) rfl))))) rfl
set_option maxRecDepth 20000 in
theorem w_747 : (Jvm.Cond.methodLink "VoiceHouseModel" (95 : Nat) ({ cls := "VoiceHouseModel", name := "counts", desc := "()V" } : Jvm.MethodName)) ∈ tG := mG (List.mem_append_right _ (List.mem_append_right _ (List.mem_append_right _ (List.mem_append_right _ (List.mem_of_getElem? (i := 27) rfl))))) rfl
set_option maxRecDepth 20000 in
theorem w_749 : (Jvm.Cond.instanceMethod ({ cls := "VoiceHouseModel", name := "counts", desc := "()V" } : Jvm.MethodName)) ∈ tG := mG (List.mem_append_right _ (List.mem_append_right _ (List.mem_append_right _ (List.mem_append_right _ (List.mem_of_getElem? (i := 29) rfl))))) rfl
set_option maxRecDepth 20000 in
theorem w_750 : (Jvm.Cond.code ({ cls := "VoiceHouseModel", name := "counts", desc := "()V" } : Jvm.MethodName) prog_10_method_18_code (4 : Nat) (Option.none : Option Jvm.ClassFile.FieldType)) ∈ tG := mG (List.mem_append_right _ (List.mem_append_right _ (List.mem_append_right _ (List.mem_append_right _ (List.mem_of_getElem? (i := 30) rfl))))) rfl
set_option maxRecDepth 20000 in
theorem w_751 : (Jvm.Cond.methodLink "VoiceHouseModel" (84 : Nat) ({ cls := "VoiceHouseModel", name := "isOf", desc := "(I)Z" } : Jvm.MethodName)) ∈ tG := mG (List.mem_append_right _ (List.mem_append_right _ (List.mem_append_right _ (List.mem_append_right _ (List.mem_of_getElem? (i := 31) rfl))))) rfl
set_option maxRecDepth 20000 in
theorem w_753 : (Jvm.Cond.instanceMethod ({ cls := "VoiceHouseModel", name := "isOf", desc := "(I)Z" } : Jvm.MethodName)) ∈ tG := mG (List.mem_append_right _ (List.mem_append_right _ (List.mem_append_right _ (List.mem_append_right _ (List.mem_of_getElem? (i := 33) rfl))))) rfl
set_option maxRecDepth 20000 in
theorem w_754 : (Jvm.Cond.code ({ cls := "VoiceHouseModel", name := "isOf", desc := "(I)Z" } : Jvm.MethodName) prog_10_method_16_code (2 : Nat) (Option.some Jvm.ClassFile.FieldType.boolean)) ∈ tG := mG (List.mem_append_right _ (List.mem_append_right _ (List.mem_append_right _ (List.mem_append_right _ (List.mem_of_getElem? (i := 34) rfl))))) rfl
set_option maxRecDepth 20000 in
theorem w_755 : (Jvm.Cond.methodLink "VoiceHouseModel" (87 : Nat) ({ cls := "VoiceHouseModel", name := "bandOf", desc := "(I)I" } : Jvm.MethodName)) ∈ tG := mG (List.mem_append_right _ (List.mem_append_right _ (List.mem_append_right _ (List.mem_append_right _ (List.mem_of_getElem? (i := 35) rfl))))) rfl
set_option maxRecDepth 20000 in
theorem w_756 : (Jvm.Cond.static ({ cls := "VoiceHouseModel", name := "bandOf", desc := "(I)I" } : Jvm.MethodName)) ∈ tG := mG (List.mem_append_right _ (List.mem_append_right _ (List.mem_append_right _ (List.mem_append_right _ (List.mem_of_getElem? (i := 36) rfl))))) rfl
set_option maxRecDepth 20000 in
theorem w_757 : (Jvm.Cond.code ({ cls := "VoiceHouseModel", name := "bandOf", desc := "(I)I" } : Jvm.MethodName) prog_10_method_17_code (1 : Nat) (Option.some Jvm.ClassFile.FieldType.int)) ∈ tG := mG (List.mem_append_right _ (List.mem_append_right _ (List.mem_append_right _ (List.mem_append_right _ (List.mem_of_getElem? (i := 37) rfl))))) rfl
set_option maxRecDepth 20000 in
theorem w_758 : (Jvm.Cond.methodLink "VoiceHouseLaw" (56 : Nat) ({ cls := "VoiceHouseModel", name := "block", desc := "(II)I" } : Jvm.MethodName)) ∈ tG := mG (List.mem_append_right _ (List.mem_append_right _ (List.mem_append_right _ (List.mem_append_right _ (List.mem_of_getElem? (i := 38) rfl))))) rfl
set_option maxRecDepth 20000 in
theorem w_759 : (Jvm.Cond.instanceMethod ({ cls := "VoiceHouseModel", name := "block", desc := "(II)I" } : Jvm.MethodName)) ∈ tG := mG (List.mem_append_right _ (List.mem_append_right _ (List.mem_append_right _ (List.mem_append_right _ (List.mem_of_getElem? (i := 39) rfl))))) rfl
set_option maxRecDepth 20000 in
theorem w_760 : (Jvm.Cond.selects "VoiceHouseModel" ({ cls := "VoiceHouseModel", name := "block", desc := "(II)I" } : Jvm.MethodName) ({ cls := "VoiceHouseModel", name := "block", desc := "(II)I" } : Jvm.MethodName)) ∈ tG := mG (List.mem_append_right _ (List.mem_append_right _ (List.mem_append_right _ (List.mem_append_right _ (List.mem_of_getElem? (i := 40) rfl))))) rfl
set_option maxRecDepth 20000 in
theorem w_761 : (Jvm.Cond.code ({ cls := "VoiceHouseModel", name := "block", desc := "(II)I" } : Jvm.MethodName) prog_10_method_24_code (5 : Nat) (Option.some Jvm.ClassFile.FieldType.int)) ∈ tG := mG (List.mem_append_right _ (List.mem_append_right _ (List.mem_append_right _ (List.mem_append_right _ (List.mem_of_getElem? (i := 41) rfl))))) rfl
set_option maxRecDepth 20000 in
theorem w_762 : (Jvm.Cond.methodLink "VoiceHouseModel" (105 : Nat) ({ cls := "VoiceHouseModel", name := "blocks", desc := "()V" } : Jvm.MethodName)) ∈ tG := mG (List.mem_append_right _ (List.mem_append_right _ (List.mem_append_right _ (List.mem_append_right _ (List.mem_of_getElem? (i := 42) rfl))))) rfl
set_option maxRecDepth 20000 in
theorem w_764 : (Jvm.Cond.instanceMethod ({ cls := "VoiceHouseModel", name := "blocks", desc := "()V" } : Jvm.MethodName)) ∈ tG := mG (List.mem_append_right _ (List.mem_append_right _ (List.mem_append_right _ (List.mem_append_right _ (List.mem_of_getElem? (i := 44) rfl))))) rfl
set_option maxRecDepth 20000 in
theorem w_765 : (Jvm.Cond.code ({ cls := "VoiceHouseModel", name := "blocks", desc := "()V" } : Jvm.MethodName) prog_10_method_22_code (5 : Nat) (Option.none : Option Jvm.ClassFile.FieldType)) ∈ tG := mG (List.mem_append_right _ (List.mem_append_right _ (List.mem_append_right _ (List.mem_append_right _ (List.mem_of_getElem? (i := 45) rfl))))) rfl
set_option maxRecDepth 20000 in
theorem w_766 : (Jvm.Cond.methodLink "VoiceHouseModel" (98 : Nat) ({ cls := "VoiceHouseModel", name := "nextBlock", desc := "(I)I" } : Jvm.MethodName)) ∈ tG := mG (List.mem_append_right _ (List.mem_append_right _ (List.mem_append_right _ (List.mem_append_right _ (List.mem_of_getElem? (i := 46) rfl))))) rfl
set_option maxRecDepth 20000 in
theorem w_768 : (Jvm.Cond.instanceMethod ({ cls := "VoiceHouseModel", name := "nextBlock", desc := "(I)I" } : Jvm.MethodName)) ∈ tG := mG (List.mem_append_right _ (List.mem_append_right _ (List.mem_append_right _ (List.mem_append_right _ (List.mem_of_getElem? (i := 48) rfl))))) rfl
set_option maxRecDepth 20000 in
theorem w_769 : (Jvm.Cond.code ({ cls := "VoiceHouseModel", name := "nextBlock", desc := "(I)I" } : Jvm.MethodName) prog_10_method_20_code (3 : Nat) (Option.some Jvm.ClassFile.FieldType.int)) ∈ tG := mG (List.mem_append_right _ (List.mem_append_right _ (List.mem_append_right _ (List.mem_append_right _ (List.mem_of_getElem? (i := 49) rfl))))) rfl
set_option maxRecDepth 20000 in
theorem w_770 : (Jvm.Cond.methodLink "VoiceHouseModel" (101 : Nat) ({ cls := "VoiceHouseModel", name := "isOut", desc := "(II)Z" } : Jvm.MethodName)) ∈ tG := mG (List.mem_append_right _ (List.mem_append_right _ (List.mem_append_right _ (List.mem_append_right _ (List.mem_of_getElem? (i := 50) rfl))))) rfl
set_option maxRecDepth 20000 in
theorem w_772 : (Jvm.Cond.instanceMethod ({ cls := "VoiceHouseModel", name := "isOut", desc := "(II)Z" } : Jvm.MethodName)) ∈ tG := mG (List.mem_append_right _ (List.mem_append_right _ (List.mem_append_right _ (List.mem_append_right _ (List.mem_of_getElem? (i := 52) rfl))))) rfl
set_option maxRecDepth 20000 in
theorem w_773 : (Jvm.Cond.code ({ cls := "VoiceHouseModel", name := "isOut", desc := "(II)Z" } : Jvm.MethodName) prog_10_method_21_code (5 : Nat) (Option.some Jvm.ClassFile.FieldType.boolean)) ∈ tG := mG (List.mem_append_right _ (List.mem_append_right _ (List.mem_append_right _ (List.mem_append_right _ (List.mem_of_getElem? (i := 53) rfl))))) rfl
set_option maxRecDepth 20000 in
theorem w_774 : (Jvm.Cond.methodLink "VoiceHouseModel" (91 : Nat) ({ cls := "VoiceHouseModel", name := "sumOf", desc := "(IZ)I" } : Jvm.MethodName)) ∈ tG := mG (List.mem_append_right _ (List.mem_append_right _ (List.mem_append_right _ (List.mem_append_right _ (List.mem_of_getElem? (i := 54) rfl))))) rfl
set_option maxRecDepth 20000 in
theorem w_776 : (Jvm.Cond.instanceMethod ({ cls := "VoiceHouseModel", name := "sumOf", desc := "(IZ)I" } : Jvm.MethodName)) ∈ tG := mG (List.mem_append_right _ (List.mem_append_right _ (List.mem_append_right _ (List.mem_append_right _ (List.mem_of_getElem? (i := 56) rfl))))) rfl
set_option maxRecDepth 20000 in
theorem w_777 : (Jvm.Cond.code ({ cls := "VoiceHouseModel", name := "sumOf", desc := "(IZ)I" } : Jvm.MethodName) prog_10_method_19_code (5 : Nat) (Option.some Jvm.ClassFile.FieldType.int)) ∈ tG := mG (List.mem_append_right _ (List.mem_append_right _ (List.mem_append_right _ (List.mem_append_right _ (List.mem_of_getElem? (i := 57) rfl))))) rfl
set_option maxRecDepth 20000 in
theorem w_778 : (Jvm.Cond.methodLink "VoiceHouseLaw" (60 : Nat) ({ cls := "VoiceHouseModel", name := "odds", desc := "(II)I" } : Jvm.MethodName)) ∈ tG := mG (List.mem_append_right _ (List.mem_append_right _ (List.mem_append_right _ (List.mem_append_right _ (List.mem_of_getElem? (i := 58) rfl))))) rfl
set_option maxRecDepth 20000 in
theorem w_779 : (Jvm.Cond.instanceMethod ({ cls := "VoiceHouseModel", name := "odds", desc := "(II)I" } : Jvm.MethodName)) ∈ tG := mG (List.mem_append_right _ (List.mem_append_right _ (List.mem_append_right _ (List.mem_append_right _ (List.mem_of_getElem? (i := 59) rfl))))) rfl
set_option maxRecDepth 20000 in
theorem w_780 : (Jvm.Cond.selects "VoiceHouseModel" ({ cls := "VoiceHouseModel", name := "odds", desc := "(II)I" } : Jvm.MethodName) ({ cls := "VoiceHouseModel", name := "odds", desc := "(II)I" } : Jvm.MethodName)) ∈ tG := mG (List.mem_append_right _ (List.mem_append_right _ (List.mem_append_right _ (List.mem_append_right _ (List.mem_of_getElem? (i := 60) rfl))))) rfl
set_option maxRecDepth 20000 in
theorem w_781 : (Jvm.Cond.code ({ cls := "VoiceHouseModel", name := "odds", desc := "(II)I" } : Jvm.MethodName) prog_10_method_26_code (4 : Nat) (Option.some Jvm.ClassFile.FieldType.int)) ∈ tG := mG (List.mem_append_right _ (List.mem_append_right _ (List.mem_append_right _ (List.mem_append_right _ (List.mem_of_getElem? (i := 61) rfl))))) rfl
set_option maxRecDepth 20000 in
theorem w_782 : (Jvm.Cond.methodLink "VoiceHouseModel" (108 : Nat) ({ cls := "VoiceHouseModel", name := "all", desc := "([I)I" } : Jvm.MethodName)) ∈ tG := mG (List.mem_append_right _ (List.mem_append_right _ (List.mem_append_right _ (List.mem_append_right _ (List.mem_of_getElem? (i := 62) rfl))))) rfl
set_option maxRecDepth 20000 in
theorem w_783 : (Jvm.Cond.static ({ cls := "VoiceHouseModel", name := "all", desc := "([I)I" } : Jvm.MethodName)) ∈ tG := mG (List.mem_append_right _ (List.mem_append_right _ (List.mem_append_right _ (List.mem_append_right _ (List.mem_of_getElem? (i := 63) rfl))))) rfl
set_option maxRecDepth 20000 in
theorem w_784 : (Jvm.Cond.code ({ cls := "VoiceHouseModel", name := "all", desc := "([I)I" } : Jvm.MethodName) prog_10_method_25_code (3 : Nat) (Option.some Jvm.ClassFile.FieldType.int)) ∈ tG := mG (List.mem_append_right _ (List.mem_append_right _ (List.mem_append_right _ (List.mem_append_right _ (List.mem_of_getElem? (i := 64) rfl))))) rfl
set_option maxRecDepth 20000 in
theorem w_785 : (Jvm.Cond.methodLink "VoiceHouseLaw" (65 : Nat) ({ cls := "VoiceHouseModel", name := "segment", desc := "(I)I" } : Jvm.MethodName)) ∈ tG := mG (List.mem_append_right _ (List.mem_append_right _ (List.mem_append_right _ (List.mem_append_right _ (List.mem_of_getElem? (i := 65) rfl))))) rfl
set_option maxRecDepth 20000 in
theorem w_786 : (Jvm.Cond.instanceMethod ({ cls := "VoiceHouseModel", name := "segment", desc := "(I)I" } : Jvm.MethodName)) ∈ tG := mG (List.mem_append_right _ (List.mem_append_right _ (List.mem_append_right _ (List.mem_append_right _ (List.mem_of_getElem? (i := 66) rfl))))) rfl
set_option maxRecDepth 20000 in
theorem w_787 : (Jvm.Cond.selects "VoiceHouseModel" ({ cls := "VoiceHouseModel", name := "segment", desc := "(I)I" } : Jvm.MethodName) ({ cls := "VoiceHouseModel", name := "segment", desc := "(I)I" } : Jvm.MethodName)) ∈ tG := mG (List.mem_append_right _ (List.mem_append_right _ (List.mem_append_right _ (List.mem_append_right _ (List.mem_of_getElem? (i := 67) rfl))))) rfl
set_option maxRecDepth 20000 in
theorem w_788 : (Jvm.Cond.code ({ cls := "VoiceHouseModel", name := "segment", desc := "(I)I" } : Jvm.MethodName) prog_10_method_27_code (3 : Nat) (Option.some Jvm.ClassFile.FieldType.int)) ∈ tG := mG (List.mem_append_right _ (List.mem_append_right _ (List.mem_append_right _ (List.mem_append_right _ (List.mem_of_getElem? (i := 68) rfl))))) rfl
set_option maxRecDepth 20000 in
theorem w_789 : (Jvm.Cond.methodLink "VoiceHouseLaw" (70 : Nat) ({ cls := "VoiceHouseModel", name := "clear", desc := "()I" } : Jvm.MethodName)) ∈ tG := mG (List.mem_append_right _ (List.mem_append_right _ (List.mem_append_right _ (List.mem_append_right _ (List.mem_of_getElem? (i := 69) rfl))))) rfl
set_option maxRecDepth 20000 in
theorem w_790 : (Jvm.Cond.instanceMethod ({ cls := "VoiceHouseModel", name := "clear", desc := "()I" } : Jvm.MethodName)) ∈ tG := mG (List.mem_append_right _ (List.mem_append_right _ (List.mem_append_right _ (List.mem_append_right _ (List.mem_of_getElem? (i := 70) rfl))))) rfl
set_option maxRecDepth 20000 in
theorem w_791 : (Jvm.Cond.selects "VoiceHouseModel" ({ cls := "VoiceHouseModel", name := "clear", desc := "()I" } : Jvm.MethodName) ({ cls := "VoiceHouseModel", name := "clear", desc := "()I" } : Jvm.MethodName)) ∈ tG := mG (List.mem_append_right _ (List.mem_append_right _ (List.mem_append_right _ (List.mem_append_right _ (List.mem_of_getElem? (i := 71) rfl))))) rfl
set_option maxRecDepth 20000 in
theorem w_792 : (Jvm.Cond.code ({ cls := "VoiceHouseModel", name := "clear", desc := "()I" } : Jvm.MethodName) prog_10_method_28_code (2 : Nat) (Option.some Jvm.ClassFile.FieldType.int)) ∈ tG := mG (List.mem_append_right _ (List.mem_append_right _ (List.mem_append_right _ (List.mem_append_right _ (List.mem_of_getElem? (i := 72) rfl))))) rfl
set_option maxRecDepth 20000 in
theorem w_793 : (Jvm.Cond.methodLink "VoiceHouseLaw" (74 : Nat) ({ cls := "VoiceHouseModel", name := "voice", desc := "(I)I" } : Jvm.MethodName)) ∈ tG := mG (List.mem_append_right _ (List.mem_append_right _ (List.mem_append_right _ (List.mem_append_right _ (List.mem_of_getElem? (i := 73) rfl))))) rfl
set_option maxRecDepth 20000 in
theorem w_794 : (Jvm.Cond.instanceMethod ({ cls := "VoiceHouseModel", name := "voice", desc := "(I)I" } : Jvm.MethodName)) ∈ tG := mG (List.mem_append_right _ (List.mem_append_right _ (List.mem_append_right _ (List.mem_append_right _ (List.mem_of_getElem? (i := 74) rfl))))) rfl
set_option maxRecDepth 20000 in
theorem w_795 : (Jvm.Cond.selects "VoiceHouseModel" ({ cls := "VoiceHouseModel", name := "voice", desc := "(I)I" } : Jvm.MethodName) ({ cls := "VoiceHouseModel", name := "voice", desc := "(I)I" } : Jvm.MethodName)) ∈ tG := mG (List.mem_append_right _ (List.mem_append_right _ (List.mem_append_right _ (List.mem_append_right _ (List.mem_of_getElem? (i := 75) rfl))))) rfl
set_option maxRecDepth 20000 in
theorem w_796 : (Jvm.Cond.code ({ cls := "VoiceHouseModel", name := "voice", desc := "(I)I" } : Jvm.MethodName) prog_10_method_32_code (2 : Nat) (Option.some Jvm.ClassFile.FieldType.int)) ∈ tG := mG (List.mem_append_right _ (List.mem_append_right _ (List.mem_append_right _ (List.mem_append_right _ (List.mem_of_getElem? (i := 76) rfl))))) rfl
set_option maxRecDepth 20000 in
theorem w_797 : (Jvm.Cond.methodLink "VoiceHouseModel" (124 : Nat) ({ cls := "VoiceHouseModel", name := "joins", desc := "()V" } : Jvm.MethodName)) ∈ tG := mG (List.mem_append_right _ (List.mem_append_right _ (List.mem_append_right _ (List.mem_append_right _ (List.mem_of_getElem? (i := 77) rfl))))) rfl
set_option maxRecDepth 20000 in
theorem w_799 : (Jvm.Cond.instanceMethod ({ cls := "VoiceHouseModel", name := "joins", desc := "()V" } : Jvm.MethodName)) ∈ tG := mG (List.mem_append_right _ (List.mem_append_right _ (List.mem_append_right _ (List.mem_append_right _ (List.mem_of_getElem? (i := 79) rfl))))) rfl
set_option maxRecDepth 20000 in
theorem w_800 : (Jvm.Cond.code ({ cls := "VoiceHouseModel", name := "joins", desc := "()V" } : Jvm.MethodName) prog_10_method_31_code (9 : Nat) (Option.none : Option Jvm.ClassFile.FieldType)) ∈ tG := mG (List.mem_append_right _ (List.mem_append_right _ (List.mem_append_right _ (List.mem_append_right _ (List.mem_of_getElem? (i := 80) rfl))))) rfl
set_option maxRecDepth 20000 in
theorem w_801 : (Jvm.Cond.methodLink "VoiceHouseModel" (118 : Nat) ({ cls := "VoiceHouseModel", name := "scoresAll", desc := "()V" } : Jvm.MethodName)) ∈ tG := mG (List.mem_append_right _ (List.mem_append_right _ (List.mem_append_right _ (List.mem_append_right _ (List.mem_of_getElem? (i := 81) rfl))))) rfl
set_option maxRecDepth 20000 in
theorem w_803 : (Jvm.Cond.instanceMethod ({ cls := "VoiceHouseModel", name := "scoresAll", desc := "()V" } : Jvm.MethodName)) ∈ tG := mG (List.mem_append_right _ (List.mem_append_right _ (List.mem_append_right _ (List.mem_append_right _ (List.mem_of_getElem? (i := 83) rfl))))) rfl
set_option maxRecDepth 20000 in
theorem w_804 : (Jvm.Cond.code ({ cls := "VoiceHouseModel", name := "scoresAll", desc := "()V" } : Jvm.MethodName) prog_10_method_29_code (3 : Nat) (Option.none : Option Jvm.ClassFile.FieldType)) ∈ tG := mG (List.mem_append_right _ (List.mem_append_right _ (List.mem_append_right _ (List.mem_append_right _ (List.mem_of_getElem? (i := 84) rfl))))) rfl
set_option maxRecDepth 20000 in
theorem w_805 : (Jvm.Cond.methodLink "VoiceHouseModel" (121 : Nat) ({ cls := "VoiceHouseModel", name := "between", desc := "(II)I" } : Jvm.MethodName)) ∈ tG := mG (List.mem_append_right _ (List.mem_append_right _ (List.mem_append_right _ (List.mem_append_right _ (List.mem_of_getElem? (i := 85) rfl))))) rfl
set_option maxRecDepth 20000 in
theorem w_807 : (Jvm.Cond.instanceMethod ({ cls := "VoiceHouseModel", name := "between", desc := "(II)I" } : Jvm.MethodName)) ∈ tG := mG (List.mem_append_right _ (List.mem_append_right _ (List.mem_append_right _ (List.mem_append_right _ (List.mem_of_getElem? (i := 87) rfl))))) rfl
set_option maxRecDepth 20000 in
theorem w_808 : (Jvm.Cond.code ({ cls := "VoiceHouseModel", name := "between", desc := "(II)I" } : Jvm.MethodName) prog_10_method_30_code (6 : Nat) (Option.some Jvm.ClassFile.FieldType.int)) ∈ tG := mG (List.mem_append_right _ (List.mem_append_right _ (List.mem_append_right _ (List.mem_append_right _ (List.mem_of_getElem? (i := 88) rfl))))) rfl
set_option maxRecDepth 20000 in
theorem w_809 : (Jvm.Cond.methodLink "VoiceHouseLaw" (78 : Nat) ({ cls := "VoiceHouseModel", name := "voices", desc := "()I" } : Jvm.MethodName)) ∈ tG := mG (List.mem_append_right _ (List.mem_append_right _ (List.mem_append_right _ (List.mem_append_right _ (List.mem_of_getElem? (i := 89) rfl))))) rfl
set_option maxRecDepth 20000 in
theorem w_810 : (Jvm.Cond.instanceMethod ({ cls := "VoiceHouseModel", name := "voices", desc := "()I" } : Jvm.MethodName)) ∈ tG := mG (List.mem_append_right _ (List.mem_append_right _ (List.mem_append_right _ (List.mem_append_right _ (List.mem_of_getElem? (i := 90) rfl))))) rfl
set_option maxRecDepth 20000 in
theorem w_811 : (Jvm.Cond.selects "VoiceHouseModel" ({ cls := "VoiceHouseModel", name := "voices", desc := "()I" } : Jvm.MethodName) ({ cls := "VoiceHouseModel", name := "voices", desc := "()I" } : Jvm.MethodName)) ∈ tG := mG (List.mem_append_right _ (List.mem_append_right _ (List.mem_append_right _ (List.mem_append_right _ (List.mem_of_getElem? (i := 91) rfl))))) rfl
set_option maxRecDepth 20000 in
theorem w_812 : (Jvm.Cond.code ({ cls := "VoiceHouseModel", name := "voices", desc := "()I" } : Jvm.MethodName) prog_10_method_33_code (3 : Nat) (Option.some Jvm.ClassFile.FieldType.int)) ∈ tG := mG (List.mem_append_right _ (List.mem_append_right _ (List.mem_append_right _ (List.mem_append_right _ (List.mem_of_getElem? (i := 92) rfl))))) rfl
set_option maxRecDepth 20000 in
theorem w_813 : (Jvm.Cond.methodLink "VoiceHouseLaw" (82 : Nat) ({ cls := "VoiceHouseModel", name := "spare", desc := "()I" } : Jvm.MethodName)) ∈ tG := mG (List.mem_append_right _ (List.mem_append_right _ (List.mem_append_right _ (List.mem_append_right _ (List.mem_of_getElem? (i := 93) rfl))))) rfl
set_option maxRecDepth 20000 in
theorem w_814 : (Jvm.Cond.instanceMethod ({ cls := "VoiceHouseModel", name := "spare", desc := "()I" } : Jvm.MethodName)) ∈ tG := mG (List.mem_append_right _ (List.mem_append_right _ (List.mem_append_right _ (List.mem_append_right _ (List.mem_of_getElem? (i := 94) rfl))))) rfl
set_option maxRecDepth 20000 in
theorem w_815 : (Jvm.Cond.selects "VoiceHouseModel" ({ cls := "VoiceHouseModel", name := "spare", desc := "()I" } : Jvm.MethodName) ({ cls := "VoiceHouseModel", name := "spare", desc := "()I" } : Jvm.MethodName)) ∈ tG := mG (List.mem_append_right _ (List.mem_append_right _ (List.mem_append_right _ (List.mem_append_right _ (List.mem_of_getElem? (i := 95) rfl))))) rfl
set_option maxRecDepth 20000 in
theorem w_816 : (Jvm.Cond.code ({ cls := "VoiceHouseModel", name := "spare", desc := "()I" } : Jvm.MethodName) prog_10_method_35_code (5 : Nat) (Option.some Jvm.ClassFile.FieldType.int)) ∈ tG := mG (List.mem_append_right _ (List.mem_append_right _ (List.mem_append_right _ (List.mem_append_right _ (List.mem_of_getElem? (i := 96) rfl))))) rfl
set_option maxRecDepth 20000 in
theorem w_817 : (Jvm.Cond.methodLink "VoiceHouseModel" (127 : Nat) ({ cls := "VoiceHouseModel", name := "costOf", desc := "(I)I" } : Jvm.MethodName)) ∈ tG := mG (List.mem_append_right _ (List.mem_append_right _ (List.mem_append_right _ (List.mem_append_right _ (List.mem_of_getElem? (i := 97) rfl))))) rfl
set_option maxRecDepth 20000 in
theorem w_819 : (Jvm.Cond.instanceMethod ({ cls := "VoiceHouseModel", name := "costOf", desc := "(I)I" } : Jvm.MethodName)) ∈ tG := mG (List.mem_append_right _ (List.mem_append_right _ (List.mem_append_right _ (List.mem_append_right _ (List.mem_of_getElem? (i := 99) rfl))))) rfl
set_option maxRecDepth 20000 in
theorem w_820 : (Jvm.Cond.code ({ cls := "VoiceHouseModel", name := "costOf", desc := "(I)I" } : Jvm.MethodName) prog_10_method_34_code (5 : Nat) (Option.some Jvm.ClassFile.FieldType.int)) ∈ tG := mG (List.mem_append_right _ (List.mem_append_right _ (List.mem_append_right _ (List.mem_append_right _ (List.mem_of_getElem? (i := 100) rfl))))) rfl
set_option maxRecDepth 20000 in
theorem w_821 : (Jvm.Cond.methodLink "VoiceHouseLaw" (86 : Nat) ({ cls := "VoiceHouseModel", name := "lined", desc := "(II)I" } : Jvm.MethodName)) ∈ tG := mG (List.mem_append_right _ (List.mem_append_right _ (List.mem_append_right _ (List.mem_append_right _ (List.mem_of_getElem? (i := 101) rfl))))) rfl
set_option maxRecDepth 20000 in
theorem w_822 : (Jvm.Cond.instanceMethod ({ cls := "VoiceHouseModel", name := "lined", desc := "(II)I" } : Jvm.MethodName)) ∈ tG := mG (List.mem_append_right _ (List.mem_append_right _ (List.mem_append_right _ (List.mem_append_right _ (List.mem_of_getElem? (i := 102) rfl))))) rfl
set_option maxRecDepth 20000 in
theorem w_823 : (Jvm.Cond.selects "VoiceHouseModel" ({ cls := "VoiceHouseModel", name := "lined", desc := "(II)I" } : Jvm.MethodName) ({ cls := "VoiceHouseModel", name := "lined", desc := "(II)I" } : Jvm.MethodName)) ∈ tG := mG (List.mem_append_right _ (List.mem_append_right _ (List.mem_append_right _ (List.mem_append_right _ (List.mem_of_getElem? (i := 103) rfl))))) rfl
set_option maxRecDepth 20000 in
theorem w_824 : (Jvm.Cond.code ({ cls := "VoiceHouseModel", name := "lined", desc := "(II)I" } : Jvm.MethodName) prog_10_method_37_code (3 : Nat) (Option.some Jvm.ClassFile.FieldType.int)) ∈ tG := mG (List.mem_append_right _ (List.mem_append_right _ (List.mem_append_right _ (List.mem_append_right _ (List.mem_of_getElem? (i := 104) rfl))))) rfl
set_option maxRecDepth 20000 in
theorem w_825 : (Jvm.Cond.methodLink "VoiceHouseModel" (130 : Nat) ({ cls := "VoiceHouseModel", name := "lines", desc := "(I)I" } : Jvm.MethodName)) ∈ tG := mG (List.mem_append_right _ (List.mem_append_right _ (List.mem_append_right _ (List.mem_append_right _ (List.mem_of_getElem? (i := 105) rfl))))) rfl
set_option maxRecDepth 20000 in
theorem w_827 : (Jvm.Cond.instanceMethod ({ cls := "VoiceHouseModel", name := "lines", desc := "(I)I" } : Jvm.MethodName)) ∈ tG := mG (List.mem_append_right _ (List.mem_append_right _ (List.mem_append_right _ (List.mem_append_right _ (List.mem_of_getElem? (i := 107) rfl))))) rfl
set_option maxRecDepth 20000 in
theorem w_828 : (Jvm.Cond.code ({ cls := "VoiceHouseModel", name := "lines", desc := "(I)I" } : Jvm.MethodName) prog_10_method_36_code (6 : Nat) (Option.some Jvm.ClassFile.FieldType.int)) ∈ tG := mG (List.mem_append_right _ (List.mem_append_right _ (List.mem_append_right _ (List.mem_append_right _ (List.mem_of_getElem? (i := 108) rfl))))) rfl
set_option maxRecDepth 20000 in
theorem w_829 : (Jvm.Cond.methodLink "VoiceHouseLaw" (90 : Nat) ({ cls := "VoiceHouseModel", name := "rank", desc := "(II)I" } : Jvm.MethodName)) ∈ tG := mG (List.mem_append_right _ (List.mem_append_right _ (List.mem_append_right _ (List.mem_append_right _ (List.mem_of_getElem? (i := 109) rfl))))) rfl
set_option maxRecDepth 20000 in
theorem w_830 : (Jvm.Cond.instanceMethod ({ cls := "VoiceHouseModel", name := "rank", desc := "(II)I" } : Jvm.MethodName)) ∈ tG := mG (List.mem_append_right _ (List.mem_append_right _ (List.mem_append_right _ (List.mem_append_right _ (List.mem_of_getElem? (i := 110) rfl))))) rfl
set_option maxRecDepth 20000 in
theorem w_831 : (Jvm.Cond.selects "VoiceHouseModel" ({ cls := "VoiceHouseModel", name := "rank", desc := "(II)I" } : Jvm.MethodName) ({ cls := "VoiceHouseModel", name := "rank", desc := "(II)I" } : Jvm.MethodName)) ∈ tG := mG (List.mem_append_right _ (List.mem_append_right _ (List.mem_append_right _ (List.mem_append_right _ (List.mem_of_getElem? (i := 111) rfl))))) rfl
set_option maxRecDepth 20000 in
theorem w_832 : (Jvm.Cond.code ({ cls := "VoiceHouseModel", name := "rank", desc := "(II)I" } : Jvm.MethodName) prog_10_method_38_code (8 : Nat) (Option.some Jvm.ClassFile.FieldType.int)) ∈ tG := mG (List.mem_append_right _ (List.mem_append_right _ (List.mem_append_right _ (List.mem_append_right _ (List.mem_of_getElem? (i := 112) rfl))))) rfl
set_option maxRecDepth 20000 in
theorem w_833 : (Jvm.Cond.methodLink "VoiceHouseLaw" (94 : Nat) ({ cls := "VoiceHouseModel", name := "test", desc := "(II)I" } : Jvm.MethodName)) ∈ tG := mG (List.mem_append_right _ (List.mem_append_right _ (List.mem_append_right _ (List.mem_append_right _ (List.mem_of_getElem? (i := 113) rfl))))) rfl
set_option maxRecDepth 20000 in
theorem w_834 : (Jvm.Cond.instanceMethod ({ cls := "VoiceHouseModel", name := "test", desc := "(II)I" } : Jvm.MethodName)) ∈ tG := mG (List.mem_append_right _ (List.mem_append_right _ (List.mem_append_right _ (List.mem_append_right _ (List.mem_of_getElem? (i := 114) rfl))))) rfl
set_option maxRecDepth 20000 in
theorem w_835 : (Jvm.Cond.selects "VoiceHouseModel" ({ cls := "VoiceHouseModel", name := "test", desc := "(II)I" } : Jvm.MethodName) ({ cls := "VoiceHouseModel", name := "test", desc := "(II)I" } : Jvm.MethodName)) ∈ tG := mG (List.mem_append_right _ (List.mem_append_right _ (List.mem_append_right _ (List.mem_append_right _ (List.mem_of_getElem? (i := 115) rfl))))) rfl
set_option maxRecDepth 20000 in
theorem w_836 : (Jvm.Cond.code ({ cls := "VoiceHouseModel", name := "test", desc := "(II)I" } : Jvm.MethodName) prog_10_method_39_code (6 : Nat) (Option.some Jvm.ClassFile.FieldType.int)) ∈ tG := mG (List.mem_append_right _ (List.mem_append_right _ (List.mem_append_right _ (List.mem_append_right _ (List.mem_of_getElem? (i := 116) rfl))))) rfl
set_option maxRecDepth 20000 in
theorem w_837 : (Jvm.Cond.methodLink "VoiceHouseModel" (136 : Nat) ({ cls := "VoiceHouseModel", name := "score", desc := "(II)I" } : Jvm.MethodName)) ∈ tG := mG (List.mem_append_right _ (List.mem_append_right _ (List.mem_append_right _ (List.mem_append_right _ (List.mem_of_getElem? (i := 117) rfl))))) rfl
set_option maxRecDepth 20000 in
theorem w_838 : (Jvm.Cond.methodLink "VoiceHouseLaw" (98 : Nat) ({ cls := "VoiceHouseModel", name := "right", desc := "(I)I" } : Jvm.MethodName)) ∈ tG := mG (List.mem_append_right _ (List.mem_append_right _ (List.mem_append_right _ (List.mem_append_right _ (List.mem_of_getElem? (i := 118) rfl))))) rfl
set_option maxRecDepth 20000 in
theorem w_839 : (Jvm.Cond.instanceMethod ({ cls := "VoiceHouseModel", name := "right", desc := "(I)I" } : Jvm.MethodName)) ∈ tG := mG (List.mem_append_right _ (List.mem_append_right _ (List.mem_append_right _ (List.mem_append_right _ (List.mem_of_getElem? (i := 119) rfl))))) rfl
set_option maxRecDepth 20000 in
theorem w_840 : (Jvm.Cond.selects "VoiceHouseModel" ({ cls := "VoiceHouseModel", name := "right", desc := "(I)I" } : Jvm.MethodName) ({ cls := "VoiceHouseModel", name := "right", desc := "(I)I" } : Jvm.MethodName)) ∈ tG := mG (List.mem_append_right _ (List.mem_append_right _ (List.mem_append_right _ (List.mem_append_right _ (List.mem_of_getElem? (i := 120) rfl))))) rfl
set_option maxRecDepth 20000 in
theorem w_841 : (Jvm.Cond.code ({ cls := "VoiceHouseModel", name := "right", desc := "(I)I" } : Jvm.MethodName) prog_10_method_40_code (2 : Nat) (Option.some Jvm.ClassFile.FieldType.int)) ∈ tG := mG (List.mem_append_right _ (List.mem_append_right _ (List.mem_append_right _ (List.mem_append_right _ (List.mem_of_getElem? (i := 121) rfl))))) rfl
set_option maxRecDepth 20000 in
theorem w_842 : (Jvm.Cond.methodLink "VoiceHouseLaw" (102 : Nat) ({ cls := "VoiceHouseModel", name := "told", desc := "(II)I" } : Jvm.MethodName)) ∈ tG := mG (List.mem_append_right _ (List.mem_append_right _ (List.mem_append_right _ (List.mem_append_right _ (List.mem_of_getElem? (i := 122) rfl))))) rfl
set_option maxRecDepth 20000 in
theorem w_843 : (Jvm.Cond.instanceMethod ({ cls := "VoiceHouseModel", name := "told", desc := "(II)I" } : Jvm.MethodName)) ∈ tG := mG (List.mem_append_right _ (List.mem_append_right _ (List.mem_append_right _ (List.mem_append_right _ (List.mem_of_getElem? (i := 123) rfl))))) rfl
set_option maxRecDepth 20000 in
theorem w_844 : (Jvm.Cond.selects "VoiceHouseModel" ({ cls := "VoiceHouseModel", name := "told", desc := "(II)I" } : Jvm.MethodName) ({ cls := "VoiceHouseModel", name := "told", desc := "(II)I" } : Jvm.MethodName)) ∈ tG := mG (List.mem_append_right _ (List.mem_append_right _ (List.mem_append_right _ (List.mem_append_right _ (List.mem_of_getElem? (i := 124) rfl))))) rfl
set_option maxRecDepth 20000 in
theorem w_845 : (Jvm.Cond.code ({ cls := "VoiceHouseModel", name := "told", desc := "(II)I" } : Jvm.MethodName) prog_10_method_41_code (5 : Nat) (Option.some Jvm.ClassFile.FieldType.int)) ∈ tG := mG (List.mem_append_right _ (List.mem_append_right _ (List.mem_append_right _ (List.mem_append_right _ (List.mem_of_getElem? (i := 125) rfl))))) rfl
set_option maxRecDepth 20000 in
theorem w_846 : (Jvm.Cond.methodLink "VoiceHouseLaw" (106 : Nat) ({ cls := "VoiceHouseModel", name := "count", desc := "(I)I" } : Jvm.MethodName)) ∈ tG := mG (List.mem_append_right _ (List.mem_append_right _ (List.mem_append_right _ (List.mem_append_right _ (List.mem_of_getElem? (i := 126) rfl))))) rfl
set_option maxRecDepth 20000 in
theorem w_847 : (Jvm.Cond.instanceMethod ({ cls := "VoiceHouseModel", name := "count", desc := "(I)I" } : Jvm.MethodName)) ∈ tG := mG (List.mem_append_right _ (List.mem_append_right _ (List.mem_append_right _ (List.mem_append_right _ (List.mem_of_getElem? (i := 127) rfl))))) rfl
set_option maxRecDepth 20000 in
theorem w_848 : (Jvm.Cond.selects "VoiceHouseModel" ({ cls := "VoiceHouseModel", name := "count", desc := "(I)I" } : Jvm.MethodName) ({ cls := "VoiceHouseModel", name := "count", desc := "(I)I" } : Jvm.MethodName)) ∈ tG := mG (List.mem_append_right _ (List.mem_append_right _ (List.mem_append_right _ (List.mem_append_right _ (List.mem_of_getElem? (i := 128) rfl))))) rfl
set_option maxRecDepth 20000 in
theorem w_849 : (Jvm.Cond.code ({ cls := "VoiceHouseModel", name := "count", desc := "(I)I" } : Jvm.MethodName) prog_10_method_42_code (4 : Nat) (Option.some Jvm.ClassFile.FieldType.int)) ∈ tG := mG (List.mem_append_right _ (List.mem_append_right _ (List.mem_append_right _ (List.mem_append_right _ (List.mem_of_getElem? (i := 129) rfl))))) rfl
theorem s_1_2 : Cond.selects yX2_insert.cls yX2_insert yX2_insert ∈ tG := mG (List.mem_append_left _ (List.mem_map.mpr ⟨(yX2_insert, 5), List.mem_append_right _ (List.mem_append_left _ (List.mem_of_getElem? (i := 2) rfl)), rfl⟩)) rfl
theorem s_0_3 : Cond.selects yX3_countPairs.cls yX3_countPairs yX3_countPairs ∈ tG := mG (List.mem_append_left _ (List.mem_map.mpr ⟨(yX3_countPairs, 11), List.mem_append_left _ (List.mem_of_getElem? (i := 3) rfl), rfl⟩)) rfl
theorem s_0_5 : Cond.selects yX3_makeBlocks.cls yX3_makeBlocks yX3_makeBlocks ∈ tG := mG (List.mem_append_left _ (List.mem_map.mpr ⟨(yX3_makeBlocks, 11), List.mem_append_left _ (List.mem_of_getElem? (i := 5) rfl), rfl⟩)) rfl
theorem s_0_7 : Cond.selects yX3_putBlocksInOrder.cls yX3_putBlocksInOrder yX3_putBlocksInOrder ∈ tG := mG (List.mem_append_left _ (List.mem_map.mpr ⟨(yX3_putBlocksInOrder, 11), List.mem_append_left _ (List.mem_of_getElem? (i := 7) rfl), rfl⟩)) rfl
theorem s_0_4 : Cond.selects yX3_countPair.cls yX3_countPair yX3_countPair ∈ tG := mG (List.mem_append_left _ (List.mem_map.mpr ⟨(yX3_countPair, 11), List.mem_append_left _ (List.mem_of_getElem? (i := 4) rfl), rfl⟩)) rfl
theorem s_0_6 : Cond.selects yX3_isEmptyBand.cls yX3_isEmptyBand yX3_isEmptyBand ∈ tG := mG (List.mem_append_left _ (List.mem_map.mpr ⟨(yX3_isEmptyBand, 11), List.mem_append_left _ (List.mem_of_getElem? (i := 6) rfl), rfl⟩)) rfl
theorem s_0_8 : Cond.selects yX3_findOutOfOrder.cls yX3_findOutOfOrder yX3_findOutOfOrder ∈ tG := mG (List.mem_append_left _ (List.mem_map.mpr ⟨(yX3_findOutOfOrder, 11), List.mem_append_left _ (List.mem_of_getElem? (i := 8) rfl), rfl⟩)) rfl
theorem s_0_10 : Cond.selects yX3_joinWithNext.cls yX3_joinWithNext yX3_joinWithNext ∈ tG := mG (List.mem_append_left _ (List.mem_map.mpr ⟨(yX3_joinWithNext, 11), List.mem_append_left _ (List.mem_of_getElem? (i := 10) rfl), rfl⟩)) rfl
theorem s_0_9 : Cond.selects yX3_isOutOfOrder.cls yX3_isOutOfOrder yX3_isOutOfOrder ∈ tG := mG (List.mem_append_left _ (List.mem_map.mpr ⟨(yX3_isOutOfOrder, 11), List.mem_append_left _ (List.mem_of_getElem? (i := 9) rfl), rfl⟩)) rfl
theorem s_0_11 : Cond.selects yX5_readScores.cls yX5_readScores yX5_readScores ∈ tG := mG (List.mem_append_left _ (List.mem_map.mpr ⟨(yX5_readScores, 9), List.mem_append_left _ (List.mem_of_getElem? (i := 11) rfl), rfl⟩)) rfl
theorem s_0_12 : Cond.selects yX5_joinNearestTwo.cls yX5_joinNearestTwo yX5_joinNearestTwo ∈ tG := mG (List.mem_append_left _ (List.mem_map.mpr ⟨(yX5_joinNearestTwo, 9), List.mem_append_left _ (List.mem_of_getElem? (i := 12) rfl), rfl⟩)) rfl
theorem s_0_13 : Cond.selects yX5_isVoice.cls yX5_isVoice yX5_isVoice ∈ tG := mG (List.mem_append_left _ (List.mem_map.mpr ⟨(yX5_isVoice, 9), List.mem_append_left _ (List.mem_of_getElem? (i := 13) rfl), rfl⟩)) rfl
theorem s_0_14 : Cond.selects yX5_measureCross.cls yX5_measureCross yX5_measureCross ∈ tG := mG (List.mem_append_left _ (List.mem_map.mpr ⟨(yX5_measureCross, 9), List.mem_append_left _ (List.mem_of_getElem? (i := 14) rfl), rfl⟩)) rfl
theorem s_0_15 : Cond.selects yX5_putTogether.cls yX5_putTogether yX5_putTogether ∈ tG := mG (List.mem_append_left _ (List.mem_map.mpr ⟨(yX5_putTogether, 9), List.mem_append_left _ (List.mem_of_getElem? (i := 15) rfl), rfl⟩)) rfl
theorem s_1_0 : Cond.selects yX5_sumWithin.cls yX5_sumWithin yX5_sumWithin ∈ tG := mG (List.mem_append_left _ (List.mem_map.mpr ⟨(yX5_sumWithin, 9), List.mem_append_right _ (List.mem_append_left _ (List.mem_of_getElem? (i := 0) rfl)), rfl⟩)) rfl
theorem s_1_1 : Cond.selects yX5_leastOf.cls yX5_leastOf yX5_leastOf ∈ tG := mG (List.mem_append_left _ (List.mem_map.mpr ⟨(yX5_leastOf, 9), List.mem_append_right _ (List.mem_append_left _ (List.mem_of_getElem? (i := 1) rfl)), rfl⟩)) rfl
theorem s_0_0 : Cond.selects yX6_addPairsOf.cls yX6_addPairsOf yX6_addPairsOf ∈ tG := mG (List.mem_append_left _ (List.mem_map.mpr ⟨(yX6_addPairsOf, 4), List.mem_append_left _ (List.mem_of_getElem? (i := 0) rfl), rfl⟩)) rfl
theorem s_0_1 : Cond.selects yX7_areTwo.cls yX7_areTwo yX7_areTwo ∈ tG := mG (List.mem_append_left _ (List.mem_map.mpr ⟨(yX7_areTwo, 10), List.mem_append_left _ (List.mem_of_getElem? (i := 1) rfl), rfl⟩)) rfl
theorem s_0_2 : Cond.selects yX7_freshPairs.cls yX7_freshPairs yX7_freshPairs ∈ tG := mG (List.mem_append_left _ (List.mem_map.mpr ⟨(yX7_freshPairs, 10), List.mem_append_left _ (List.mem_of_getElem? (i := 2) rfl), rfl⟩)) rfl
theorem s_1_3 : Cond.selects yX7_toneTold.cls yX7_toneTold yX7_toneTold ∈ tG := mG (List.mem_append_left _ (List.mem_map.mpr ⟨(yX7_toneTold, 10), List.mem_append_right _ (List.mem_append_left _ (List.mem_of_getElem? (i := 3) rfl)), rfl⟩)) rfl
theorem s_1_4 : Cond.selects yX8_isRecording.cls yX8_isRecording yX8_isRecording ∈ tG := mG (List.mem_append_left _ (List.mem_map.mpr ⟨(yX8_isRecording, 20), List.mem_append_right _ (List.mem_append_left _ (List.mem_of_getElem? (i := 4) rfl)), rfl⟩)) rfl
theorem s_1_6 : Cond.selects yX8_shiftPairs.cls yX8_shiftPairs yX8_shiftPairs ∈ tG := mG (List.mem_append_left _ (List.mem_map.mpr ⟨(yX8_shiftPairs, 20), List.mem_append_right _ (List.mem_append_left _ (List.mem_of_getElem? (i := 6) rfl)), rfl⟩)) rfl
theorem s_1_5 : Cond.selects yX8_shiftOf.cls yX8_shiftOf yX8_shiftOf ∈ tG := mG (List.mem_append_left _ (List.mem_map.mpr ⟨(yX8_shiftOf, 20), List.mem_append_right _ (List.mem_append_left _ (List.mem_of_getElem? (i := 5) rfl)), rfl⟩)) rfl
theorem s_1_7 : Cond.selects yX8_reckons.cls yX8_reckons yX8_reckons ∈ tG := mG (List.mem_append_left _ (List.mem_map.mpr ⟨(yX8_reckons, 20), List.mem_append_right _ (List.mem_append_left _ (List.mem_of_getElem? (i := 7) rfl)), rfl⟩)) rfl
theorem s_1_8 : Cond.selects yX8_scoreOf.cls yX8_scoreOf yX8_scoreOf ∈ tG := mG (List.mem_append_left _ (List.mem_map.mpr ⟨(yX8_scoreOf, 20), List.mem_append_right _ (List.mem_append_left _ (List.mem_of_getElem? (i := 8) rfl)), rfl⟩)) rfl
theorem s_1_10 : Cond.selects yX8_isOf.cls yX8_isOf yX8_isOf ∈ tG := mG (List.mem_append_left _ (List.mem_map.mpr ⟨(yX8_isOf, 20), List.mem_append_right _ (List.mem_append_left _ (List.mem_of_getElem? (i := 10) rfl)), rfl⟩)) rfl
theorem s_1_14 : Cond.selects yX8_sumOf.cls yX8_sumOf yX8_sumOf ∈ tG := mG (List.mem_append_left _ (List.mem_map.mpr ⟨(yX8_sumOf, 20), List.mem_append_right _ (List.mem_append_left _ (List.mem_of_getElem? (i := 14) rfl)), rfl⟩)) rfl
theorem s_1_9 : Cond.selects yX8_counts.cls yX8_counts yX8_counts ∈ tG := mG (List.mem_append_left _ (List.mem_map.mpr ⟨(yX8_counts, 20), List.mem_append_right _ (List.mem_append_left _ (List.mem_of_getElem? (i := 9) rfl)), rfl⟩)) rfl
theorem s_1_12 : Cond.selects yX8_nextBlock.cls yX8_nextBlock yX8_nextBlock ∈ tG := mG (List.mem_append_left _ (List.mem_map.mpr ⟨(yX8_nextBlock, 20), List.mem_append_right _ (List.mem_append_left _ (List.mem_of_getElem? (i := 12) rfl)), rfl⟩)) rfl
theorem s_1_13 : Cond.selects yX8_isOut.cls yX8_isOut yX8_isOut ∈ tG := mG (List.mem_append_left _ (List.mem_map.mpr ⟨(yX8_isOut, 20), List.mem_append_right _ (List.mem_append_left _ (List.mem_of_getElem? (i := 13) rfl)), rfl⟩)) rfl
theorem s_1_11 : Cond.selects yX8_blocks.cls yX8_blocks yX8_blocks ∈ tG := mG (List.mem_append_left _ (List.mem_map.mpr ⟨(yX8_blocks, 20), List.mem_append_right _ (List.mem_append_left _ (List.mem_of_getElem? (i := 11) rfl)), rfl⟩)) rfl
theorem s_2_0 : Cond.selects yX8_scoresAll.cls yX8_scoresAll yX8_scoresAll ∈ tG := mG (List.mem_append_left _ (List.mem_map.mpr ⟨(yX8_scoresAll, 20), List.mem_append_right _ (List.mem_append_right _ (List.mem_of_getElem? (i := 0) rfl)), rfl⟩)) rfl
theorem s_2_1 : Cond.selects yX8_between.cls yX8_between yX8_between ∈ tG := mG (List.mem_append_left _ (List.mem_map.mpr ⟨(yX8_between, 20), List.mem_append_right _ (List.mem_append_right _ (List.mem_of_getElem? (i := 1) rfl)), rfl⟩)) rfl
theorem s_1_15 : Cond.selects yX8_joins.cls yX8_joins yX8_joins ∈ tG := mG (List.mem_append_left _ (List.mem_map.mpr ⟨(yX8_joins, 20), List.mem_append_right _ (List.mem_append_left _ (List.mem_of_getElem? (i := 15) rfl)), rfl⟩)) rfl
theorem s_2_2 : Cond.selects yX8_costOf.cls yX8_costOf yX8_costOf ∈ tG := mG (List.mem_append_left _ (List.mem_map.mpr ⟨(yX8_costOf, 20), List.mem_append_right _ (List.mem_append_right _ (List.mem_of_getElem? (i := 2) rfl)), rfl⟩)) rfl
theorem s_2_3 : Cond.selects yX8_lines.cls yX8_lines yX8_lines ∈ tG := mG (List.mem_append_left _ (List.mem_map.mpr ⟨(yX8_lines, 20), List.mem_append_right _ (List.mem_append_right _ (List.mem_of_getElem? (i := 3) rfl)), rfl⟩)) rfl
