/-! THE LAW'S LOOP -/
section LW
variable {l : Launch} {D : va_G} {cI : ClassId} {own : String} {cc : ByteArray} {mL : Nat} {R : Room} {ini : Bool} {Z : ZW} {pc : Nat} {lv : LV} {st : List Value} {k n : Nat}
theorem w_callC (F : Fw l D cI own cc mL R ini Z) {y : MethodName} {cc2 : ByteArray} {mL2 fr2 lo2 a i n0 q0 ci : Nat} {ret2 : Option FieldType} {As rest : List Value} {w3 : va_W} {wf : WF} {iv : IV} {ar : AR} {post2 : PST} {q : vw_C} {fs : List Value} (hwf : wfOk wf) (hM : Ct l D cI wf y cc2 mL2 ret2 fr2 lo2 (.ref a :: As) iv ar post2) (ok : okV own i y cc2 mL2 ret2 n0) (he : (wf iv ar)[q0]? = some (a, .inr (ci, fs))) (hc : classes[ci]? = some q) (hq : q.1 = y.cls) (hn : As.length = n0) (hst : st = As.reverse ++ .ref a :: rest) (hfr : fr2 + 1 ≤ R.frames) (hlo : 8 + (mL2 + 11) + lo2 ≤ R.locals) (hrm : (rest.map fun v => v.category).sum ≤ 8) (hcs : k ≤ R.cells ∧ n ≤ R.slots) (hd : decode cc pc = .ok (.invokevirtual i, 3)) (kk : ∀ v iv2 ar2, post2 v iv2 ar2 → Z (pc + 3) lv (v.toList ++ rest) (wf iv2 ar2 ++ w3) k n) : Z pc lv st (wf iv ar ++ w3) k n := w_callV (w1 := []) F hwf hM ok he hc hq hn hst hfr hlo hrm hcs hd kk
theorem w_callM (F : Fw l D cI own cc mL R ini Z) {y : MethodName} {cc2 : ByteArray} {mL2 fr2 lo2 a i n0 q0 ci : Nat} {ret2 : Option FieldType} {As rest : List Value} {w1 : va_W} {wf : WF} {iv : IV} {ar : AR} {post2 : PST} {q : vw_C} {fs : List Value} (hwf : wfOk wf) (hM : Ct l D cI wf y cc2 mL2 ret2 fr2 lo2 (.ref a :: As) iv ar post2) (ok : okV own i y cc2 mL2 ret2 n0) (he : (wf iv ar)[q0]? = some (a, .inr (ci, fs))) (hc : classes[ci]? = some q) (hq : q.1 = y.cls) (hn : As.length = n0) (hst : st = As.reverse ++ .ref a :: rest) (hfr : fr2 + 1 ≤ R.frames) (hlo : 8 + (mL2 + 11) + lo2 ≤ R.locals) (hrm : (rest.map fun v => v.category).sum ≤ 8) (hcs : k ≤ R.cells ∧ n ≤ R.slots) (hd : decode cc pc = .ok (.invokevirtual i, 3)) (kk : ∀ v iv2 ar2, post2 v iv2 ar2 → Z (pc + 3) lv (v.toList ++ rest) (w1 ++ wf iv2 ar2) k n) : Z pc lv st (w1 ++ wf iv ar) k n := by
  have h := w_callV (w1 := w1) (w3 := []) F hwf hM ok he hc hq hn hst hfr hlo hrm hcs hd (fun v iv2 ar2 h => by rw [List.append_nil]; exact kk v iv2 ar2 h)
  rw [List.append_nil] at h
  exact h
end LW
abbrev lvL (b : Nat) (ad ad2 : Nat → Nat) (i : Nat) : LV := [some (.ref b), some (.ref (ad 0)), some (.ref (ad2 0)), some (.int (nI i))]
/-- where a case of the law goes on -/
def LN (Z : ZW) (cI : ClassId) (b : Nat) (ad ad2 : Nat → Nat) (i : Nat) : Prop := ∀ (n : Nat) (c : Nat → Nat) (s t : Nat → Int32) (set : Int32) (lim m : Nat) (g : Nat → Nat) (tt : Nat) (rt : Nat → Int32) (iv iv2 : IV) (ar ar2 : AR), CI n c s t set lim m g tt rt iv ar → MI n c s t set lim m g tt rt iv2 ar2 → Z 752 (lvL b ad ad2 i) [] (cw cI ad iv ar ++ mw cI ad2 iv2 ar2) 42 1761
/-- what the law's walk has of the script -/
def LX (Z : ZW) (b L : Nat) (xs : Nat → Int32) : Prop := (∀ pc lv st ws k n i, i < L → decode cL_law pc = .ok (.iaload, 1) → Z (pc + 1) lv (.int (xs i) :: st) ws k n → Z pc lv (.int (nI i) :: .ref b :: st) ws k n) ∧ (∀ pc lv st ws k n, decode cL_law pc = .ok (.arraylength, 1) → Z (pc + 1) lv (.int (nI L) :: st) ws k n → Z pc lv (.ref b :: st) ws k n) ∧ (∀ pc lv ws, decode cL_law pc = .ok (.ireturn, 1) → Z pc lv [.int 1] ws 42 1761)
section LC
variable {l : Launch} {D : va_G} {cI : ClassId} {Z : ZW} {b L : Nat} {xs : Nat → Int32} {ad ad2 : Nat → Nat} {n : Nat} {c : Nat → Nat} {s t : Nat → Int32} {set : Int32} {lim m : Nat} {g : Nat → Nat} {tt : Nat} {rt : Nat → Int32} {iv iv2 : IV} {ar ar2 : AR} {i : Nat}
set_option maxHeartbeats 4000000 in
set_option maxRecDepth 20000 in
theorem law_record (F : Fw l D cI RL cL_law 4 room_1 false Z) (X : LX Z b L xs) (hi : i + 3 < L) (hI : CI n c s t set lim m g tt rt iv ar) (hM : MI n c s t set lim m g tt rt iv2 ar2) (next : LN Z cI b ad ad2 i) : Z 136 (lvL b ad ad2 i) [] (cw cI ad iv ar ++ mw cI ad2 iv2 ar2) 42 1761 := by
  refine w_aload1 (pc := 136) F dL_law_136 ?_
  refine w_aload0 (pc := 137) F dL_law_137 ?_
  refine w_iload3 (pc := 138) F dL_law_138 ?_
  refine w_iconst (pc := 139) (v := nI 1) F dL_law_139 (by decide) ?_
  refine w_iadd (pc := 140) (z := nI (i + 1)) F dL_law_140 (nI_add _ _) ?_
  refine X.1 141 _ _ _ _ _ (i + 1) (by omega) dL_law_141 ?_
  refine w_aload0 (pc := 142) F dL_law_142 ?_
  refine w_iload3 (pc := 143) F dL_law_143 ?_
  refine w_iconst (pc := 144) (v := nI 2) F dL_law_144 (by decide) ?_
  refine w_iadd (pc := 145) (z := nI (i + 2)) F dL_law_145 (nI_add _ _) ?_
  refine X.1 146 _ _ _ _ _ (i + 2) (by omega) dL_law_146 ?_
  refine w_callC (pc := 147) (q0 := 0) F cw_ok (c_X7_record hI (x := xs (i + 1)) (y := xs (i + 2))) ok_L_13 rfl rfl rfl rfl rfl (Nat.le_of_ble_eq_true rfl) (Nat.le_of_ble_eq_true rfl) (Nat.le_of_ble_eq_true rfl) ⟨Nat.le_of_ble_eq_true rfl, Nat.le_of_ble_eq_true rfl⟩ dL_law_147 (fun v1 iv3 ar3 h1 => ?_)
  obtain ⟨x1, rfl, h1⟩ := h1
  refine w_aload2 (pc := 150) F dL_law_150 ?_
  refine w_aload0 (pc := 151) F dL_law_151 ?_
  refine w_iload3 (pc := 152) F dL_law_152 ?_
  refine w_iconst (pc := 153) (v := nI 1) F dL_law_153 (by decide) ?_
  refine w_iadd (pc := 154) (z := nI (i + 1)) F dL_law_154 (nI_add _ _) ?_
  refine X.1 155 _ _ _ _ _ (i + 1) (by omega) dL_law_155 ?_
  refine w_aload0 (pc := 156) F dL_law_156 ?_
  refine w_iload3 (pc := 157) F dL_law_157 ?_
  refine w_iconst (pc := 158) (v := nI 2) F dL_law_158 (by decide) ?_
  refine w_iadd (pc := 159) (z := nI (i + 2)) F dL_law_159 (nI_add _ _) ?_
  refine X.1 160 _ _ _ _ _ (i + 2) (by omega) dL_law_160 ?_
  refine w_callM (pc := 161) (q0 := 0) F mw_ok (c_X8_record hM (x := xs (i + 1)) (y := xs (i + 2))) ok_L_17 rfl rfl rfl rfl rfl (Nat.le_of_ble_eq_true rfl) (Nat.le_of_ble_eq_true rfl) (Nat.le_of_ble_eq_true rfl) ⟨Nat.le_of_ble_eq_true rfl, Nat.le_of_ble_eq_true rfl⟩ dL_law_161 (fun v2 iv4 ar4 h2 => ?_)
  obtain ⟨x2, rfl, h2⟩ := h2
  have hs := h1.two h2
  refine w_eq (pc := 164) (tgt := 752) F dL_law_164 (by decide) hs.1 ?_
  rcases hs.2 with ⟨a, b⟩ | ⟨a, b⟩
  · exact next _ _ _ _ _ _ _ _ _ _ _ _ _ _ a b
  · exact next _ _ _ _ _ _ _ _ _ _ _ _ _ _ a b
set_option maxHeartbeats 4000000 in
set_option maxRecDepth 20000 in
theorem law_tone (F : Fw l D cI RL cL_law 4 room_1 false Z) (X : LX Z b L xs) (hi : i + 3 < L) (hI : CI n c s t set lim m g tt rt iv ar) (hM : MI n c s t set lim m g tt rt iv2 ar2) (next : LN Z cI b ad ad2 i) : Z 169 (lvL b ad ad2 i) [] (cw cI ad iv ar ++ mw cI ad2 iv2 ar2) 42 1761 := by
  refine w_aload1 (pc := 169) F dL_law_169 ?_
  refine w_aload0 (pc := 170) F dL_law_170 ?_
  refine w_iload3 (pc := 171) F dL_law_171 ?_
  refine w_iconst (pc := 172) (v := nI 1) F dL_law_172 (by decide) ?_
  refine w_iadd (pc := 173) (z := nI (i + 1)) F dL_law_173 (nI_add _ _) ?_
  refine X.1 174 _ _ _ _ _ (i + 1) (by omega) dL_law_174 ?_
  refine w_aload0 (pc := 175) F dL_law_175 ?_
  refine w_iload3 (pc := 176) F dL_law_176 ?_
  refine w_iconst (pc := 177) (v := nI 2) F dL_law_177 (by decide) ?_
  refine w_iadd (pc := 178) (z := nI (i + 2)) F dL_law_178 (nI_add _ _) ?_
  refine X.1 179 _ _ _ _ _ (i + 2) (by omega) dL_law_179 ?_
  refine w_aload0 (pc := 180) F dL_law_180 ?_
  refine w_iload3 (pc := 181) F dL_law_181 ?_
  refine w_iconst (pc := 182) (v := nI 3) F dL_law_182 (by decide) ?_
  refine w_iadd (pc := 183) (z := nI (i + 3)) F dL_law_183 (nI_add _ _) ?_
  refine X.1 184 _ _ _ _ _ (i + 3) (by omega) dL_law_184 ?_
  refine w_callC (pc := 185) (q0 := 0) F cw_ok (c_X7_tone hI (x := xs (i + 1)) (y := xs (i + 2)) (v := xs (i + 3))) ok_L_18 rfl rfl rfl rfl rfl (Nat.le_of_ble_eq_true rfl) (Nat.le_of_ble_eq_true rfl) (Nat.le_of_ble_eq_true rfl) ⟨Nat.le_of_ble_eq_true rfl, Nat.le_of_ble_eq_true rfl⟩ dL_law_185 (fun v1 iv3 ar3 h1 => ?_)
  obtain ⟨x1, rfl, h1⟩ := h1
  refine w_aload2 (pc := 188) F dL_law_188 ?_
  refine w_aload0 (pc := 189) F dL_law_189 ?_
  refine w_iload3 (pc := 190) F dL_law_190 ?_
  refine w_iconst (pc := 191) (v := nI 1) F dL_law_191 (by decide) ?_
  refine w_iadd (pc := 192) (z := nI (i + 1)) F dL_law_192 (nI_add _ _) ?_
  refine X.1 193 _ _ _ _ _ (i + 1) (by omega) dL_law_193 ?_
  refine w_aload0 (pc := 194) F dL_law_194 ?_
  refine w_iload3 (pc := 195) F dL_law_195 ?_
  refine w_iconst (pc := 196) (v := nI 2) F dL_law_196 (by decide) ?_
  refine w_iadd (pc := 197) (z := nI (i + 2)) F dL_law_197 (nI_add _ _) ?_
  refine X.1 198 _ _ _ _ _ (i + 2) (by omega) dL_law_198 ?_
  refine w_aload0 (pc := 199) F dL_law_199 ?_
  refine w_iload3 (pc := 200) F dL_law_200 ?_
  refine w_iconst (pc := 201) (v := nI 3) F dL_law_201 (by decide) ?_
  refine w_iadd (pc := 202) (z := nI (i + 3)) F dL_law_202 (nI_add _ _) ?_
  refine X.1 203 _ _ _ _ _ (i + 3) (by omega) dL_law_203 ?_
  refine w_callM (pc := 204) (q0 := 0) F mw_ok (c_X8_tone hM (x := xs (i + 1)) (y := xs (i + 2)) (v := xs (i + 3))) ok_L_22 rfl rfl rfl rfl rfl (Nat.le_of_ble_eq_true rfl) (Nat.le_of_ble_eq_true rfl) (Nat.le_of_ble_eq_true rfl) ⟨Nat.le_of_ble_eq_true rfl, Nat.le_of_ble_eq_true rfl⟩ dL_law_204 (fun v2 iv4 ar4 h2 => ?_)
  obtain ⟨x2, rfl, h2⟩ := h2
  have hs := h1.two h2
  refine w_eq (pc := 207) (tgt := 752) F dL_law_207 (by decide) hs.1 ?_
  rcases hs.2 with ⟨a, b⟩ | ⟨a, b⟩
  · exact next _ _ _ _ _ _ _ _ _ _ _ _ _ _ a b
  · exact next _ _ _ _ _ _ _ _ _ _ _ _ _ _ a b
set_option maxHeartbeats 4000000 in
set_option maxRecDepth 20000 in
theorem law_know (F : Fw l D cI RL cL_law 4 room_1 false Z) (X : LX Z b L xs) (hi : i + 3 < L) (hI : CI n c s t set lim m g tt rt iv ar) (hM : MI n c s t set lim m g tt rt iv2 ar2) (next : LN Z cI b ad ad2 i) : Z 212 (lvL b ad ad2 i) [] (cw cI ad iv ar ++ mw cI ad2 iv2 ar2) 42 1761 := by
  refine w_aload1 (pc := 212) F dL_law_212 ?_
  refine w_aload0 (pc := 213) F dL_law_213 ?_
  refine w_iload3 (pc := 214) F dL_law_214 ?_
  refine w_iconst (pc := 215) (v := nI 1) F dL_law_215 (by decide) ?_
  refine w_iadd (pc := 216) (z := nI (i + 1)) F dL_law_216 (nI_add _ _) ?_
  refine X.1 217 _ _ _ _ _ (i + 1) (by omega) dL_law_217 ?_
  refine w_aload0 (pc := 218) F dL_law_218 ?_
  refine w_iload3 (pc := 219) F dL_law_219 ?_
  refine w_iconst (pc := 220) (v := nI 2) F dL_law_220 (by decide) ?_
  refine w_iadd (pc := 221) (z := nI (i + 2)) F dL_law_221 (nI_add _ _) ?_
  refine X.1 222 _ _ _ _ _ (i + 2) (by omega) dL_law_222 ?_
  refine w_callC (pc := 223) (q0 := 0) F cw_ok (c_X7_know hI (x := xs (i + 1)) (y := xs (i + 2))) ok_L_23 rfl rfl rfl rfl rfl (Nat.le_of_ble_eq_true rfl) (Nat.le_of_ble_eq_true rfl) (Nat.le_of_ble_eq_true rfl) ⟨Nat.le_of_ble_eq_true rfl, Nat.le_of_ble_eq_true rfl⟩ dL_law_223 (fun v1 iv3 ar3 h1 => ?_)
  obtain ⟨x1, rfl, h1⟩ := h1
  refine w_aload2 (pc := 226) F dL_law_226 ?_
  refine w_aload0 (pc := 227) F dL_law_227 ?_
  refine w_iload3 (pc := 228) F dL_law_228 ?_
  refine w_iconst (pc := 229) (v := nI 1) F dL_law_229 (by decide) ?_
  refine w_iadd (pc := 230) (z := nI (i + 1)) F dL_law_230 (nI_add _ _) ?_
  refine X.1 231 _ _ _ _ _ (i + 1) (by omega) dL_law_231 ?_
  refine w_aload0 (pc := 232) F dL_law_232 ?_
  refine w_iload3 (pc := 233) F dL_law_233 ?_
  refine w_iconst (pc := 234) (v := nI 2) F dL_law_234 (by decide) ?_
  refine w_iadd (pc := 235) (z := nI (i + 2)) F dL_law_235 (nI_add _ _) ?_
  refine X.1 236 _ _ _ _ _ (i + 2) (by omega) dL_law_236 ?_
  refine w_callM (pc := 237) (q0 := 0) F mw_ok (c_X8_know hM (x := xs (i + 1)) (y := xs (i + 2))) ok_L_27 rfl rfl rfl rfl rfl (Nat.le_of_ble_eq_true rfl) (Nat.le_of_ble_eq_true rfl) (Nat.le_of_ble_eq_true rfl) ⟨Nat.le_of_ble_eq_true rfl, Nat.le_of_ble_eq_true rfl⟩ dL_law_237 (fun v2 iv4 ar4 h2 => ?_)
  obtain ⟨x2, rfl, h2⟩ := h2
  have hs := h1.two h2
  refine w_eq (pc := 240) (tgt := 752) F dL_law_240 (by decide) hs.1 ?_
  rcases hs.2 with ⟨a, b⟩ | ⟨a, b⟩
  · exact next _ _ _ _ _ _ _ _ _ _ _ _ _ _ a b
  · exact next _ _ _ _ _ _ _ _ _ _ _ _ _ _ a b
set_option maxHeartbeats 4000000 in
set_option maxRecDepth 20000 in
theorem law_set (F : Fw l D cI RL cL_law 4 room_1 false Z) (X : LX Z b L xs) (hi : i + 3 < L) (hI : CI n c s t set lim m g tt rt iv ar) (hM : MI n c s t set lim m g tt rt iv2 ar2) (next : LN Z cI b ad ad2 i) : Z 245 (lvL b ad ad2 i) [] (cw cI ad iv ar ++ mw cI ad2 iv2 ar2) 42 1761 := by
  refine w_aload1 (pc := 245) F dL_law_245 ?_
  refine w_aload0 (pc := 246) F dL_law_246 ?_
  refine w_iload3 (pc := 247) F dL_law_247 ?_
  refine w_iconst (pc := 248) (v := nI 1) F dL_law_248 (by decide) ?_
  refine w_iadd (pc := 249) (z := nI (i + 1)) F dL_law_249 (nI_add _ _) ?_
  refine X.1 250 _ _ _ _ _ (i + 1) (by omega) dL_law_250 ?_
  refine w_callC (pc := 251) (q0 := 0) F cw_ok (c_X7_set hI (x := xs (i + 1))) ok_L_28 rfl rfl rfl rfl rfl (Nat.le_of_ble_eq_true rfl) (Nat.le_of_ble_eq_true rfl) (Nat.le_of_ble_eq_true rfl) ⟨Nat.le_of_ble_eq_true rfl, Nat.le_of_ble_eq_true rfl⟩ dL_law_251 (fun v1 iv3 ar3 h1 => ?_)
  obtain ⟨x1, rfl, h1⟩ := h1
  refine w_aload2 (pc := 254) F dL_law_254 ?_
  refine w_aload0 (pc := 255) F dL_law_255 ?_
  refine w_iload3 (pc := 256) F dL_law_256 ?_
  refine w_iconst (pc := 257) (v := nI 1) F dL_law_257 (by decide) ?_
  refine w_iadd (pc := 258) (z := nI (i + 1)) F dL_law_258 (nI_add _ _) ?_
  refine X.1 259 _ _ _ _ _ (i + 1) (by omega) dL_law_259 ?_
  refine w_callM (pc := 260) (q0 := 0) F mw_ok (c_X8_set hM (x := xs (i + 1))) ok_L_32 rfl rfl rfl rfl rfl (Nat.le_of_ble_eq_true rfl) (Nat.le_of_ble_eq_true rfl) (Nat.le_of_ble_eq_true rfl) ⟨Nat.le_of_ble_eq_true rfl, Nat.le_of_ble_eq_true rfl⟩ dL_law_260 (fun v2 iv4 ar4 h2 => ?_)
  obtain ⟨x2, rfl, h2⟩ := h2
  have hs := h1.two h2
  refine w_eq (pc := 263) (tgt := 752) F dL_law_263 (by decide) hs.1 ?_
  rcases hs.2 with ⟨a, b⟩ | ⟨a, b⟩
  · exact next _ _ _ _ _ _ _ _ _ _ _ _ _ _ a b
  · exact next _ _ _ _ _ _ _ _ _ _ _ _ _ _ a b
set_option maxHeartbeats 4000000 in
set_option maxRecDepth 20000 in
theorem law_limit (F : Fw l D cI RL cL_law 4 room_1 false Z) (X : LX Z b L xs) (hi : i + 3 < L) (hI : CI n c s t set lim m g tt rt iv ar) (hM : MI n c s t set lim m g tt rt iv2 ar2) (next : LN Z cI b ad ad2 i) : Z 268 (lvL b ad ad2 i) [] (cw cI ad iv ar ++ mw cI ad2 iv2 ar2) 42 1761 := by
  refine w_aload1 (pc := 268) F dL_law_268 ?_
  refine w_aload0 (pc := 269) F dL_law_269 ?_
  refine w_iload3 (pc := 270) F dL_law_270 ?_
  refine w_iconst (pc := 271) (v := nI 1) F dL_law_271 (by decide) ?_
  refine w_iadd (pc := 272) (z := nI (i + 1)) F dL_law_272 (nI_add _ _) ?_
  refine X.1 273 _ _ _ _ _ (i + 1) (by omega) dL_law_273 ?_
  refine w_callC (pc := 274) (q0 := 0) F cw_ok (c_X7_limit hI (x := xs (i + 1))) ok_L_33 rfl rfl rfl rfl rfl (Nat.le_of_ble_eq_true rfl) (Nat.le_of_ble_eq_true rfl) (Nat.le_of_ble_eq_true rfl) ⟨Nat.le_of_ble_eq_true rfl, Nat.le_of_ble_eq_true rfl⟩ dL_law_274 (fun v1 iv3 ar3 h1 => ?_)
  obtain ⟨x1, rfl, h1⟩ := h1
  refine w_aload2 (pc := 277) F dL_law_277 ?_
  refine w_aload0 (pc := 278) F dL_law_278 ?_
  refine w_iload3 (pc := 279) F dL_law_279 ?_
  refine w_iconst (pc := 280) (v := nI 1) F dL_law_280 (by decide) ?_
  refine w_iadd (pc := 281) (z := nI (i + 1)) F dL_law_281 (nI_add _ _) ?_
  refine X.1 282 _ _ _ _ _ (i + 1) (by omega) dL_law_282 ?_
  refine w_callM (pc := 283) (q0 := 0) F mw_ok (c_X8_limit hM (x := xs (i + 1))) ok_L_36 rfl rfl rfl rfl rfl (Nat.le_of_ble_eq_true rfl) (Nat.le_of_ble_eq_true rfl) (Nat.le_of_ble_eq_true rfl) ⟨Nat.le_of_ble_eq_true rfl, Nat.le_of_ble_eq_true rfl⟩ dL_law_283 (fun v2 iv4 ar4 h2 => ?_)
  obtain ⟨x2, rfl, h2⟩ := h2
  have hs := h1.two h2
  refine w_eq (pc := 286) (tgt := 752) F dL_law_286 (by decide) hs.1 ?_
  rcases hs.2 with ⟨a, b⟩ | ⟨a, b⟩
  · exact next _ _ _ _ _ _ _ _ _ _ _ _ _ _ a b
  · exact next _ _ _ _ _ _ _ _ _ _ _ _ _ _ a b
set_option maxHeartbeats 4000000 in
set_option maxRecDepth 20000 in
theorem law_shift (F : Fw l D cI RL cL_law 4 room_1 false Z) (X : LX Z b L xs) (hi : i + 3 < L) (hI : CI n c s t set lim m g tt rt iv ar) (hM : MI n c s t set lim m g tt rt iv2 ar2) (next : LN Z cI b ad ad2 i) : Z 291 (lvL b ad ad2 i) [] (cw cI ad iv ar ++ mw cI ad2 iv2 ar2) 42 1761 := by
  refine w_aload1 (pc := 291) F dL_law_291 ?_
  refine w_aload0 (pc := 292) F dL_law_292 ?_
  refine w_iload3 (pc := 293) F dL_law_293 ?_
  refine w_iconst (pc := 294) (v := nI 1) F dL_law_294 (by decide) ?_
  refine w_iadd (pc := 295) (z := nI (i + 1)) F dL_law_295 (nI_add _ _) ?_
  refine X.1 296 _ _ _ _ _ (i + 1) (by omega) dL_law_296 ?_
  refine w_aload0 (pc := 297) F dL_law_297 ?_
  refine w_iload3 (pc := 298) F dL_law_298 ?_
  refine w_iconst (pc := 299) (v := nI 2) F dL_law_299 (by decide) ?_
  refine w_iadd (pc := 300) (z := nI (i + 2)) F dL_law_300 (nI_add _ _) ?_
  refine X.1 301 _ _ _ _ _ (i + 2) (by omega) dL_law_301 ?_
  refine w_callC (pc := 302) (q0 := 0) F cw_ok (c_X7_shift hI (x := xs (i + 1)) (y := xs (i + 2))) ok_L_37 rfl rfl rfl rfl rfl (Nat.le_of_ble_eq_true rfl) (Nat.le_of_ble_eq_true rfl) (Nat.le_of_ble_eq_true rfl) ⟨Nat.le_of_ble_eq_true rfl, Nat.le_of_ble_eq_true rfl⟩ dL_law_302 (fun v1 iv3 ar3 h1 => ?_)
  obtain ⟨x1, rfl, h1⟩ := h1
  refine w_aload2 (pc := 305) F dL_law_305 ?_
  refine w_aload0 (pc := 306) F dL_law_306 ?_
  refine w_iload3 (pc := 307) F dL_law_307 ?_
  refine w_iconst (pc := 308) (v := nI 1) F dL_law_308 (by decide) ?_
  refine w_iadd (pc := 309) (z := nI (i + 1)) F dL_law_309 (nI_add _ _) ?_
  refine X.1 310 _ _ _ _ _ (i + 1) (by omega) dL_law_310 ?_
  refine w_aload0 (pc := 311) F dL_law_311 ?_
  refine w_iload3 (pc := 312) F dL_law_312 ?_
  refine w_iconst (pc := 313) (v := nI 2) F dL_law_313 (by decide) ?_
  refine w_iadd (pc := 314) (z := nI (i + 2)) F dL_law_314 (nI_add _ _) ?_
  refine X.1 315 _ _ _ _ _ (i + 2) (by omega) dL_law_315 ?_
  refine w_callM (pc := 316) (q0 := 0) F mw_ok (c_X8_shift hM (x := xs (i + 1)) (y := xs (i + 2))) ok_L_40 rfl rfl rfl rfl rfl (Nat.le_of_ble_eq_true rfl) (Nat.le_of_ble_eq_true rfl) (Nat.le_of_ble_eq_true rfl) ⟨Nat.le_of_ble_eq_true rfl, Nat.le_of_ble_eq_true rfl⟩ dL_law_316 (fun v2 iv4 ar4 h2 => ?_)
  obtain ⟨x2, rfl, h2⟩ := h2
  refine w_eq (pc := 319) (tgt := 752) F dL_law_319 (by decide) (h1.1.trans h2.1.symm) ?_
  exact next _ _ _ _ _ _ _ _ _ _ _ _ _ _ h1.2 h2.2
set_option maxHeartbeats 4000000 in
set_option maxRecDepth 20000 in
theorem law_hidden (F : Fw l D cI RL cL_law 4 room_1 false Z) (X : LX Z b L xs) (hi : i + 3 < L) (hI : CI n c s t set lim m g tt rt iv ar) (hM : MI n c s t set lim m g tt rt iv2 ar2) (next : LN Z cI b ad ad2 i) : Z 324 (lvL b ad ad2 i) [] (cw cI ad iv ar ++ mw cI ad2 iv2 ar2) 42 1761 := by
  refine w_aload1 (pc := 324) F dL_law_324 ?_
  refine w_aload0 (pc := 325) F dL_law_325 ?_
  refine w_iload3 (pc := 326) F dL_law_326 ?_
  refine w_iconst (pc := 327) (v := nI 1) F dL_law_327 (by decide) ?_
  refine w_iadd (pc := 328) (z := nI (i + 1)) F dL_law_328 (nI_add _ _) ?_
  refine X.1 329 _ _ _ _ _ (i + 1) (by omega) dL_law_329 ?_
  refine w_aload0 (pc := 330) F dL_law_330 ?_
  refine w_iload3 (pc := 331) F dL_law_331 ?_
  refine w_iconst (pc := 332) (v := nI 2) F dL_law_332 (by decide) ?_
  refine w_iadd (pc := 333) (z := nI (i + 2)) F dL_law_333 (nI_add _ _) ?_
  refine X.1 334 _ _ _ _ _ (i + 2) (by omega) dL_law_334 ?_
  refine w_callC (pc := 335) (q0 := 0) F cw_ok (c_X7_hidden hI (x := xs (i + 1)) (y := xs (i + 2))) ok_L_41 rfl rfl rfl rfl rfl (Nat.le_of_ble_eq_true rfl) (Nat.le_of_ble_eq_true rfl) (Nat.le_of_ble_eq_true rfl) ⟨Nat.le_of_ble_eq_true rfl, Nat.le_of_ble_eq_true rfl⟩ dL_law_335 (fun v1 iv3 ar3 h1 => ?_)
  obtain ⟨x1, rfl, h1⟩ := h1
  refine w_aload2 (pc := 338) F dL_law_338 ?_
  refine w_aload0 (pc := 339) F dL_law_339 ?_
  refine w_iload3 (pc := 340) F dL_law_340 ?_
  refine w_iconst (pc := 341) (v := nI 1) F dL_law_341 (by decide) ?_
  refine w_iadd (pc := 342) (z := nI (i + 1)) F dL_law_342 (nI_add _ _) ?_
  refine X.1 343 _ _ _ _ _ (i + 1) (by omega) dL_law_343 ?_
  refine w_aload0 (pc := 344) F dL_law_344 ?_
  refine w_iload3 (pc := 345) F dL_law_345 ?_
  refine w_iconst (pc := 346) (v := nI 2) F dL_law_346 (by decide) ?_
  refine w_iadd (pc := 347) (z := nI (i + 2)) F dL_law_347 (nI_add _ _) ?_
  refine X.1 348 _ _ _ _ _ (i + 2) (by omega) dL_law_348 ?_
  refine w_callM (pc := 349) (q0 := 0) F mw_ok (c_X8_hidden hM (x := xs (i + 1)) (y := xs (i + 2))) ok_L_44 rfl rfl rfl rfl rfl (Nat.le_of_ble_eq_true rfl) (Nat.le_of_ble_eq_true rfl) (Nat.le_of_ble_eq_true rfl) ⟨Nat.le_of_ble_eq_true rfl, Nat.le_of_ble_eq_true rfl⟩ dL_law_349 (fun v2 iv4 ar4 h2 => ?_)
  obtain ⟨x2, rfl, h2⟩ := h2
  refine w_eq (pc := 352) (tgt := 752) F dL_law_352 (by decide) (h1.1.trans h2.1.symm) ?_
  exact next _ _ _ _ _ _ _ _ _ _ _ _ _ _ h1.2 h2.2
set_option maxHeartbeats 4000000 in
set_option maxRecDepth 20000 in
theorem law_score (F : Fw l D cI RL cL_law 4 room_1 false Z) (X : LX Z b L xs) (hi : i + 3 < L) (hI : CI n c s t set lim m g tt rt iv ar) (hM : MI n c s t set lim m g tt rt iv2 ar2) (next : LN Z cI b ad ad2 i) : Z 357 (lvL b ad ad2 i) [] (cw cI ad iv ar ++ mw cI ad2 iv2 ar2) 42 1761 := by
  refine w_aload1 (pc := 357) F dL_law_357 ?_
  refine w_aload0 (pc := 358) F dL_law_358 ?_
  refine w_iload3 (pc := 359) F dL_law_359 ?_
  refine w_iconst (pc := 360) (v := nI 1) F dL_law_360 (by decide) ?_
  refine w_iadd (pc := 361) (z := nI (i + 1)) F dL_law_361 (nI_add _ _) ?_
  refine X.1 362 _ _ _ _ _ (i + 1) (by omega) dL_law_362 ?_
  refine w_aload0 (pc := 363) F dL_law_363 ?_
  refine w_iload3 (pc := 364) F dL_law_364 ?_
  refine w_iconst (pc := 365) (v := nI 2) F dL_law_365 (by decide) ?_
  refine w_iadd (pc := 366) (z := nI (i + 2)) F dL_law_366 (nI_add _ _) ?_
  refine X.1 367 _ _ _ _ _ (i + 2) (by omega) dL_law_367 ?_
  refine w_callC (pc := 368) (q0 := 0) F cw_ok (c_X7_score hI (x := xs (i + 1)) (y := xs (i + 2))) ok_L_45 rfl rfl rfl rfl rfl (Nat.le_of_ble_eq_true rfl) (Nat.le_of_ble_eq_true rfl) (Nat.le_of_ble_eq_true rfl) ⟨Nat.le_of_ble_eq_true rfl, Nat.le_of_ble_eq_true rfl⟩ dL_law_368 (fun v1 iv3 ar3 h1 => ?_)
  obtain ⟨x1, rfl, h1⟩ := h1
  refine w_aload2 (pc := 371) F dL_law_371 ?_
  refine w_aload0 (pc := 372) F dL_law_372 ?_
  refine w_iload3 (pc := 373) F dL_law_373 ?_
  refine w_iconst (pc := 374) (v := nI 1) F dL_law_374 (by decide) ?_
  refine w_iadd (pc := 375) (z := nI (i + 1)) F dL_law_375 (nI_add _ _) ?_
  refine X.1 376 _ _ _ _ _ (i + 1) (by omega) dL_law_376 ?_
  refine w_aload0 (pc := 377) F dL_law_377 ?_
  refine w_iload3 (pc := 378) F dL_law_378 ?_
  refine w_iconst (pc := 379) (v := nI 2) F dL_law_379 (by decide) ?_
  refine w_iadd (pc := 380) (z := nI (i + 2)) F dL_law_380 (nI_add _ _) ?_
  refine X.1 381 _ _ _ _ _ (i + 2) (by omega) dL_law_381 ?_
  refine w_callM (pc := 382) (q0 := 0) F mw_ok (c_X8_score hM (x := xs (i + 1)) (y := xs (i + 2))) ok_L_48 rfl rfl rfl rfl rfl (Nat.le_of_ble_eq_true rfl) (Nat.le_of_ble_eq_true rfl) (Nat.le_of_ble_eq_true rfl) ⟨Nat.le_of_ble_eq_true rfl, Nat.le_of_ble_eq_true rfl⟩ dL_law_382 (fun v2 iv4 ar4 h2 => ?_)
  obtain ⟨x2, rfl, h2⟩ := h2
  refine w_eq (pc := 385) (tgt := 752) F dL_law_385 (by decide) (h1.1.trans h2.1.symm) ?_
  exact next _ _ _ _ _ _ _ _ _ _ _ _ _ _ h1.2 h2.2
set_option maxHeartbeats 4000000 in
set_option maxRecDepth 20000 in
theorem law_band (F : Fw l D cI RL cL_law 4 room_1 false Z) (X : LX Z b L xs) (hi : i + 3 < L) (hI : CI n c s t set lim m g tt rt iv ar) (hM : MI n c s t set lim m g tt rt iv2 ar2) (next : LN Z cI b ad ad2 i) : Z 390 (lvL b ad ad2 i) [] (cw cI ad iv ar ++ mw cI ad2 iv2 ar2) 42 1761 := by
  refine w_aload1 (pc := 390) F dL_law_390 ?_
  refine w_aload0 (pc := 391) F dL_law_391 ?_
  refine w_iload3 (pc := 392) F dL_law_392 ?_
  refine w_iconst (pc := 393) (v := nI 1) F dL_law_393 (by decide) ?_
  refine w_iadd (pc := 394) (z := nI (i + 1)) F dL_law_394 (nI_add _ _) ?_
  refine X.1 395 _ _ _ _ _ (i + 1) (by omega) dL_law_395 ?_
  refine w_aload0 (pc := 396) F dL_law_396 ?_
  refine w_iload3 (pc := 397) F dL_law_397 ?_
  refine w_iconst (pc := 398) (v := nI 2) F dL_law_398 (by decide) ?_
  refine w_iadd (pc := 399) (z := nI (i + 2)) F dL_law_399 (nI_add _ _) ?_
  refine X.1 400 _ _ _ _ _ (i + 2) (by omega) dL_law_400 ?_
  refine w_callC (pc := 401) (q0 := 0) F cw_ok (c_X7_band hI (x := xs (i + 1)) (y := xs (i + 2))) ok_L_49 rfl rfl rfl rfl rfl (Nat.le_of_ble_eq_true rfl) (Nat.le_of_ble_eq_true rfl) (Nat.le_of_ble_eq_true rfl) ⟨Nat.le_of_ble_eq_true rfl, Nat.le_of_ble_eq_true rfl⟩ dL_law_401 (fun v1 iv3 ar3 h1 => ?_)
  obtain ⟨x1, rfl, h1⟩ := h1
  refine w_aload2 (pc := 404) F dL_law_404 ?_
  refine w_aload0 (pc := 405) F dL_law_405 ?_
  refine w_iload3 (pc := 406) F dL_law_406 ?_
  refine w_iconst (pc := 407) (v := nI 1) F dL_law_407 (by decide) ?_
  refine w_iadd (pc := 408) (z := nI (i + 1)) F dL_law_408 (nI_add _ _) ?_
  refine X.1 409 _ _ _ _ _ (i + 1) (by omega) dL_law_409 ?_
  refine w_aload0 (pc := 410) F dL_law_410 ?_
  refine w_iload3 (pc := 411) F dL_law_411 ?_
  refine w_iconst (pc := 412) (v := nI 2) F dL_law_412 (by decide) ?_
  refine w_iadd (pc := 413) (z := nI (i + 2)) F dL_law_413 (nI_add _ _) ?_
  refine X.1 414 _ _ _ _ _ (i + 2) (by omega) dL_law_414 ?_
  refine w_callM (pc := 415) (q0 := 0) F mw_ok (c_X8_band hM (x := xs (i + 1)) (y := xs (i + 2))) ok_L_52 rfl rfl rfl rfl rfl (Nat.le_of_ble_eq_true rfl) (Nat.le_of_ble_eq_true rfl) (Nat.le_of_ble_eq_true rfl) ⟨Nat.le_of_ble_eq_true rfl, Nat.le_of_ble_eq_true rfl⟩ dL_law_415 (fun v2 iv4 ar4 h2 => ?_)
  obtain ⟨x2, rfl, h2⟩ := h2
  refine w_eq (pc := 418) (tgt := 752) F dL_law_418 (by decide) (h1.1.trans h2.1.symm) ?_
  exact next _ _ _ _ _ _ _ _ _ _ _ _ _ _ h1.2 h2.2
set_option maxHeartbeats 4000000 in
set_option maxRecDepth 20000 in
theorem law_block (F : Fw l D cI RL cL_law 4 room_1 false Z) (X : LX Z b L xs) (hi : i + 3 < L) (hI : CI n c s t set lim m g tt rt iv ar) (hM : MI n c s t set lim m g tt rt iv2 ar2) (next : LN Z cI b ad ad2 i) : Z 423 (lvL b ad ad2 i) [] (cw cI ad iv ar ++ mw cI ad2 iv2 ar2) 42 1761 := by
  refine w_aload1 (pc := 423) F dL_law_423 ?_
  refine w_aload0 (pc := 424) F dL_law_424 ?_
  refine w_iload3 (pc := 425) F dL_law_425 ?_
  refine w_iconst (pc := 426) (v := nI 1) F dL_law_426 (by decide) ?_
  refine w_iadd (pc := 427) (z := nI (i + 1)) F dL_law_427 (nI_add _ _) ?_
  refine X.1 428 _ _ _ _ _ (i + 1) (by omega) dL_law_428 ?_
  refine w_aload0 (pc := 429) F dL_law_429 ?_
  refine w_iload3 (pc := 430) F dL_law_430 ?_
  refine w_iconst (pc := 431) (v := nI 2) F dL_law_431 (by decide) ?_
  refine w_iadd (pc := 432) (z := nI (i + 2)) F dL_law_432 (nI_add _ _) ?_
  refine X.1 433 _ _ _ _ _ (i + 2) (by omega) dL_law_433 ?_
  refine w_callC (pc := 434) (q0 := 0) F cw_ok (c_X7_block hI (x := xs (i + 1)) (y := xs (i + 2))) ok_L_53 rfl rfl rfl rfl rfl (Nat.le_of_ble_eq_true rfl) (Nat.le_of_ble_eq_true rfl) (Nat.le_of_ble_eq_true rfl) ⟨Nat.le_of_ble_eq_true rfl, Nat.le_of_ble_eq_true rfl⟩ dL_law_434 (fun v1 iv3 ar3 h1 => ?_)
  obtain ⟨x1, rfl, h1⟩ := h1
  refine w_aload2 (pc := 437) F dL_law_437 ?_
  refine w_aload0 (pc := 438) F dL_law_438 ?_
  refine w_iload3 (pc := 439) F dL_law_439 ?_
  refine w_iconst (pc := 440) (v := nI 1) F dL_law_440 (by decide) ?_
  refine w_iadd (pc := 441) (z := nI (i + 1)) F dL_law_441 (nI_add _ _) ?_
  refine X.1 442 _ _ _ _ _ (i + 1) (by omega) dL_law_442 ?_
  refine w_aload0 (pc := 443) F dL_law_443 ?_
  refine w_iload3 (pc := 444) F dL_law_444 ?_
  refine w_iconst (pc := 445) (v := nI 2) F dL_law_445 (by decide) ?_
  refine w_iadd (pc := 446) (z := nI (i + 2)) F dL_law_446 (nI_add _ _) ?_
  refine X.1 447 _ _ _ _ _ (i + 2) (by omega) dL_law_447 ?_
  refine w_callM (pc := 448) (q0 := 0) F mw_ok (c_X8_block hM (x := xs (i + 1)) (y := xs (i + 2))) ok_L_56 rfl rfl rfl rfl rfl (Nat.le_of_ble_eq_true rfl) (Nat.le_of_ble_eq_true rfl) (Nat.le_of_ble_eq_true rfl) ⟨Nat.le_of_ble_eq_true rfl, Nat.le_of_ble_eq_true rfl⟩ dL_law_448 (fun v2 iv4 ar4 h2 => ?_)
  obtain ⟨x2, rfl, h2⟩ := h2
  refine w_eq (pc := 451) (tgt := 752) F dL_law_451 (by decide) (h1.1.trans h2.1.symm) ?_
  exact next _ _ _ _ _ _ _ _ _ _ _ _ _ _ h1.2 h2.2
set_option maxHeartbeats 4000000 in
set_option maxRecDepth 20000 in
theorem law_odds (F : Fw l D cI RL cL_law 4 room_1 false Z) (X : LX Z b L xs) (hi : i + 3 < L) (hI : CI n c s t set lim m g tt rt iv ar) (hM : MI n c s t set lim m g tt rt iv2 ar2) (next : LN Z cI b ad ad2 i) : Z 456 (lvL b ad ad2 i) [] (cw cI ad iv ar ++ mw cI ad2 iv2 ar2) 42 1761 := by
  refine w_aload1 (pc := 456) F dL_law_456 ?_
  refine w_aload0 (pc := 457) F dL_law_457 ?_
  refine w_iload3 (pc := 458) F dL_law_458 ?_
  refine w_iconst (pc := 459) (v := nI 1) F dL_law_459 (by decide) ?_
  refine w_iadd (pc := 460) (z := nI (i + 1)) F dL_law_460 (nI_add _ _) ?_
  refine X.1 461 _ _ _ _ _ (i + 1) (by omega) dL_law_461 ?_
  refine w_aload0 (pc := 462) F dL_law_462 ?_
  refine w_iload3 (pc := 463) F dL_law_463 ?_
  refine w_iconst (pc := 464) (v := nI 2) F dL_law_464 (by decide) ?_
  refine w_iadd (pc := 465) (z := nI (i + 2)) F dL_law_465 (nI_add _ _) ?_
  refine X.1 466 _ _ _ _ _ (i + 2) (by omega) dL_law_466 ?_
  refine w_callC (pc := 467) (q0 := 0) F cw_ok (c_X7_odds hI (x := xs (i + 1)) (y := xs (i + 2))) ok_L_57 rfl rfl rfl rfl rfl (Nat.le_of_ble_eq_true rfl) (Nat.le_of_ble_eq_true rfl) (Nat.le_of_ble_eq_true rfl) ⟨Nat.le_of_ble_eq_true rfl, Nat.le_of_ble_eq_true rfl⟩ dL_law_467 (fun v1 iv3 ar3 h1 => ?_)
  obtain ⟨x1, rfl, h1⟩ := h1
  refine w_aload2 (pc := 470) F dL_law_470 ?_
  refine w_aload0 (pc := 471) F dL_law_471 ?_
  refine w_iload3 (pc := 472) F dL_law_472 ?_
  refine w_iconst (pc := 473) (v := nI 1) F dL_law_473 (by decide) ?_
  refine w_iadd (pc := 474) (z := nI (i + 1)) F dL_law_474 (nI_add _ _) ?_
  refine X.1 475 _ _ _ _ _ (i + 1) (by omega) dL_law_475 ?_
  refine w_aload0 (pc := 476) F dL_law_476 ?_
  refine w_iload3 (pc := 477) F dL_law_477 ?_
  refine w_iconst (pc := 478) (v := nI 2) F dL_law_478 (by decide) ?_
  refine w_iadd (pc := 479) (z := nI (i + 2)) F dL_law_479 (nI_add _ _) ?_
  refine X.1 480 _ _ _ _ _ (i + 2) (by omega) dL_law_480 ?_
  refine w_callM (pc := 481) (q0 := 0) F mw_ok (c_X8_odds hM (x := xs (i + 1)) (y := xs (i + 2))) ok_L_60 rfl rfl rfl rfl rfl (Nat.le_of_ble_eq_true rfl) (Nat.le_of_ble_eq_true rfl) (Nat.le_of_ble_eq_true rfl) ⟨Nat.le_of_ble_eq_true rfl, Nat.le_of_ble_eq_true rfl⟩ dL_law_481 (fun v2 iv4 ar4 h2 => ?_)
  obtain ⟨x2, rfl, h2⟩ := h2
  refine w_eq (pc := 484) (tgt := 752) F dL_law_484 (by decide) (h1.1.trans h2.1.symm) ?_
  exact next _ _ _ _ _ _ _ _ _ _ _ _ _ _ h1.2 h2.2
set_option maxHeartbeats 4000000 in
set_option maxRecDepth 20000 in
theorem law_segment (F : Fw l D cI RL cL_law 4 room_1 false Z) (X : LX Z b L xs) (hi : i + 3 < L) (hI : CI n c s t set lim m g tt rt iv ar) (hM : MI n c s t set lim m g tt rt iv2 ar2) (next : LN Z cI b ad ad2 i) : Z 489 (lvL b ad ad2 i) [] (cw cI ad iv ar ++ mw cI ad2 iv2 ar2) 42 1761 := by
  refine w_aload1 (pc := 489) F dL_law_489 ?_
  refine w_aload0 (pc := 490) F dL_law_490 ?_
  refine w_iload3 (pc := 491) F dL_law_491 ?_
  refine w_iconst (pc := 492) (v := nI 1) F dL_law_492 (by decide) ?_
  refine w_iadd (pc := 493) (z := nI (i + 1)) F dL_law_493 (nI_add _ _) ?_
  refine X.1 494 _ _ _ _ _ (i + 1) (by omega) dL_law_494 ?_
  refine w_callC (pc := 495) (q0 := 0) F cw_ok (c_X7_segment hI (x := xs (i + 1))) ok_L_61 rfl rfl rfl rfl rfl (Nat.le_of_ble_eq_true rfl) (Nat.le_of_ble_eq_true rfl) (Nat.le_of_ble_eq_true rfl) ⟨Nat.le_of_ble_eq_true rfl, Nat.le_of_ble_eq_true rfl⟩ dL_law_495 (fun v1 iv3 ar3 h1 => ?_)
  obtain ⟨x1, rfl, h1⟩ := h1
  refine w_aload2 (pc := 498) F dL_law_498 ?_
  refine w_aload0 (pc := 499) F dL_law_499 ?_
  refine w_iload3 (pc := 500) F dL_law_500 ?_
  refine w_iconst (pc := 501) (v := nI 1) F dL_law_501 (by decide) ?_
  refine w_iadd (pc := 502) (z := nI (i + 1)) F dL_law_502 (nI_add _ _) ?_
  refine X.1 503 _ _ _ _ _ (i + 1) (by omega) dL_law_503 ?_
  refine w_callM (pc := 504) (q0 := 0) F mw_ok (c_X8_segment hM (x := xs (i + 1))) ok_L_65 rfl rfl rfl rfl rfl (Nat.le_of_ble_eq_true rfl) (Nat.le_of_ble_eq_true rfl) (Nat.le_of_ble_eq_true rfl) ⟨Nat.le_of_ble_eq_true rfl, Nat.le_of_ble_eq_true rfl⟩ dL_law_504 (fun v2 iv4 ar4 h2 => ?_)
  obtain ⟨x2, rfl, h2⟩ := h2
  have hs := h1.two h2
  refine w_eq (pc := 507) (tgt := 752) F dL_law_507 (by decide) hs.1 ?_
  rcases hs.2 with ⟨a, b⟩ | ⟨a, b⟩
  · exact next _ _ _ _ _ _ _ _ _ _ _ _ _ _ a b
  · exact next _ _ _ _ _ _ _ _ _ _ _ _ _ _ a b
set_option maxHeartbeats 4000000 in
set_option maxRecDepth 20000 in
theorem law_clear (F : Fw l D cI RL cL_law 4 room_1 false Z) (X : LX Z b L xs) (hi : i + 3 < L) (hI : CI n c s t set lim m g tt rt iv ar) (hM : MI n c s t set lim m g tt rt iv2 ar2) (next : LN Z cI b ad ad2 i) : Z 512 (lvL b ad ad2 i) [] (cw cI ad iv ar ++ mw cI ad2 iv2 ar2) 42 1761 := by
  refine w_aload1 (pc := 512) F dL_law_512 ?_
  refine w_callC (pc := 513) (q0 := 0) F cw_ok (c_X7_clear hI) ok_L_66 rfl rfl rfl rfl rfl (Nat.le_of_ble_eq_true rfl) (Nat.le_of_ble_eq_true rfl) (Nat.le_of_ble_eq_true rfl) ⟨Nat.le_of_ble_eq_true rfl, Nat.le_of_ble_eq_true rfl⟩ dL_law_513 (fun v1 iv3 ar3 h1 => ?_)
  obtain ⟨x1, rfl, h1⟩ := h1
  refine w_aload2 (pc := 516) F dL_law_516 ?_
  refine w_callM (pc := 517) (q0 := 0) F mw_ok (c_X8_clear hM) ok_L_70 rfl rfl rfl rfl rfl (Nat.le_of_ble_eq_true rfl) (Nat.le_of_ble_eq_true rfl) (Nat.le_of_ble_eq_true rfl) ⟨Nat.le_of_ble_eq_true rfl, Nat.le_of_ble_eq_true rfl⟩ dL_law_517 (fun v2 iv4 ar4 h2 => ?_)
  obtain ⟨x2, rfl, h2⟩ := h2
  refine w_eq (pc := 520) (tgt := 752) F dL_law_520 (by decide) (h1.1.trans h2.1.symm) ?_
  exact next _ _ _ _ _ _ _ _ _ _ _ _ _ _ h1.2 h2.2
set_option maxHeartbeats 4000000 in
set_option maxRecDepth 20000 in
theorem law_voice (F : Fw l D cI RL cL_law 4 room_1 false Z) (X : LX Z b L xs) (hi : i + 3 < L) (hI : CI n c s t set lim m g tt rt iv ar) (hM : MI n c s t set lim m g tt rt iv2 ar2) (next : LN Z cI b ad ad2 i) : Z 525 (lvL b ad ad2 i) [] (cw cI ad iv ar ++ mw cI ad2 iv2 ar2) 42 1761 := by
  refine w_aload1 (pc := 525) F dL_law_525 ?_
  refine w_aload0 (pc := 526) F dL_law_526 ?_
  refine w_iload3 (pc := 527) F dL_law_527 ?_
  refine w_iconst (pc := 528) (v := nI 1) F dL_law_528 (by decide) ?_
  refine w_iadd (pc := 529) (z := nI (i + 1)) F dL_law_529 (nI_add _ _) ?_
  refine X.1 530 _ _ _ _ _ (i + 1) (by omega) dL_law_530 ?_
  refine w_callC (pc := 531) (q0 := 0) F cw_ok (c_X7_voice hI (x := xs (i + 1))) ok_L_71 rfl rfl rfl rfl rfl (Nat.le_of_ble_eq_true rfl) (Nat.le_of_ble_eq_true rfl) (Nat.le_of_ble_eq_true rfl) ⟨Nat.le_of_ble_eq_true rfl, Nat.le_of_ble_eq_true rfl⟩ dL_law_531 (fun v1 iv3 ar3 h1 => ?_)
  obtain ⟨x1, rfl, h1⟩ := h1
  refine w_aload2 (pc := 534) F dL_law_534 ?_
  refine w_aload0 (pc := 535) F dL_law_535 ?_
  refine w_iload3 (pc := 536) F dL_law_536 ?_
  refine w_iconst (pc := 537) (v := nI 1) F dL_law_537 (by decide) ?_
  refine w_iadd (pc := 538) (z := nI (i + 1)) F dL_law_538 (nI_add _ _) ?_
  refine X.1 539 _ _ _ _ _ (i + 1) (by omega) dL_law_539 ?_
  refine w_callM (pc := 540) (q0 := 0) F mw_ok (c_X8_voice hM (x := xs (i + 1))) ok_L_74 rfl rfl rfl rfl rfl (Nat.le_of_ble_eq_true rfl) (Nat.le_of_ble_eq_true rfl) (Nat.le_of_ble_eq_true rfl) ⟨Nat.le_of_ble_eq_true rfl, Nat.le_of_ble_eq_true rfl⟩ dL_law_540 (fun v2 iv4 ar4 h2 => ?_)
  obtain ⟨x2, rfl, h2⟩ := h2
  refine w_eq (pc := 543) (tgt := 752) F dL_law_543 (by decide) (h1.1.trans h2.1.symm) ?_
  exact next _ _ _ _ _ _ _ _ _ _ _ _ _ _ h1.2 h2.2
set_option maxHeartbeats 4000000 in
set_option maxRecDepth 20000 in
theorem law_voices (F : Fw l D cI RL cL_law 4 room_1 false Z) (X : LX Z b L xs) (hi : i + 3 < L) (hI : CI n c s t set lim m g tt rt iv ar) (hM : MI n c s t set lim m g tt rt iv2 ar2) (next : LN Z cI b ad ad2 i) : Z 548 (lvL b ad ad2 i) [] (cw cI ad iv ar ++ mw cI ad2 iv2 ar2) 42 1761 := by
  refine w_aload1 (pc := 548) F dL_law_548 ?_
  refine w_callC (pc := 549) (q0 := 0) F cw_ok (c_X7_voices hI) ok_L_75 rfl rfl rfl rfl rfl (Nat.le_of_ble_eq_true rfl) (Nat.le_of_ble_eq_true rfl) (Nat.le_of_ble_eq_true rfl) ⟨Nat.le_of_ble_eq_true rfl, Nat.le_of_ble_eq_true rfl⟩ dL_law_549 (fun v1 iv3 ar3 h1 => ?_)
  obtain ⟨x1, rfl, h1⟩ := h1
  refine w_aload2 (pc := 552) F dL_law_552 ?_
  refine w_callM (pc := 553) (q0 := 0) F mw_ok (c_X8_voices hM) ok_L_78 rfl rfl rfl rfl rfl (Nat.le_of_ble_eq_true rfl) (Nat.le_of_ble_eq_true rfl) (Nat.le_of_ble_eq_true rfl) ⟨Nat.le_of_ble_eq_true rfl, Nat.le_of_ble_eq_true rfl⟩ dL_law_553 (fun v2 iv4 ar4 h2 => ?_)
  obtain ⟨x2, rfl, h2⟩ := h2
  refine w_eq (pc := 556) (tgt := 752) F dL_law_556 (by decide) (h1.1.trans h2.1.symm) ?_
  exact next _ _ _ _ _ _ _ _ _ _ _ _ _ _ h1.2 h2.2
set_option maxHeartbeats 4000000 in
set_option maxRecDepth 20000 in
theorem law_spare (F : Fw l D cI RL cL_law 4 room_1 false Z) (X : LX Z b L xs) (hi : i + 3 < L) (hI : CI n c s t set lim m g tt rt iv ar) (hM : MI n c s t set lim m g tt rt iv2 ar2) (next : LN Z cI b ad ad2 i) : Z 561 (lvL b ad ad2 i) [] (cw cI ad iv ar ++ mw cI ad2 iv2 ar2) 42 1761 := by
  refine w_aload1 (pc := 561) F dL_law_561 ?_
  refine w_callC (pc := 562) (q0 := 0) F cw_ok (c_X7_spare hI) ok_L_79 rfl rfl rfl rfl rfl (Nat.le_of_ble_eq_true rfl) (Nat.le_of_ble_eq_true rfl) (Nat.le_of_ble_eq_true rfl) ⟨Nat.le_of_ble_eq_true rfl, Nat.le_of_ble_eq_true rfl⟩ dL_law_562 (fun v1 iv3 ar3 h1 => ?_)
  obtain ⟨x1, rfl, h1⟩ := h1
  refine w_aload2 (pc := 565) F dL_law_565 ?_
  refine w_callM (pc := 566) (q0 := 0) F mw_ok (c_X8_spare hM.1 hM.2.1 hM.2.2.2.1 hM.2.2.2.2.2.2.1 hM.2.2.2.2.2.1) ok_L_82 rfl rfl rfl rfl rfl (Nat.le_of_ble_eq_true rfl) (Nat.le_of_ble_eq_true rfl) (Nat.le_of_ble_eq_true rfl) ⟨Nat.le_of_ble_eq_true rfl, Nat.le_of_ble_eq_true rfl⟩ dL_law_566 (fun v2 iv4 ar4 h2 => ?_)
  obtain ⟨x2, rfl, h2⟩ := h2
  refine w_eq (pc := 569) (tgt := 752) F dL_law_569 (by decide) (h1.1.trans h2.2.2.symm) ?_
  exact next _ _ _ _ _ _ _ _ _ _ _ _ _ _ h1.2 (hM.scr (fun q hq => h2.1 q (by omega)) (fun q hq => h2.2.1 q (by omega) (by omega) (by omega)))
set_option maxHeartbeats 4000000 in
set_option maxRecDepth 20000 in
theorem law_lined (F : Fw l D cI RL cL_law 4 room_1 false Z) (X : LX Z b L xs) (hi : i + 3 < L) (hI : CI n c s t set lim m g tt rt iv ar) (hM : MI n c s t set lim m g tt rt iv2 ar2) (next : LN Z cI b ad ad2 i) : Z 574 (lvL b ad ad2 i) [] (cw cI ad iv ar ++ mw cI ad2 iv2 ar2) 42 1761 := by
  refine w_aload1 (pc := 574) F dL_law_574 ?_
  refine w_aload0 (pc := 575) F dL_law_575 ?_
  refine w_iload3 (pc := 576) F dL_law_576 ?_
  refine w_iconst (pc := 577) (v := nI 1) F dL_law_577 (by decide) ?_
  refine w_iadd (pc := 578) (z := nI (i + 1)) F dL_law_578 (nI_add _ _) ?_
  refine X.1 579 _ _ _ _ _ (i + 1) (by omega) dL_law_579 ?_
  refine w_aload0 (pc := 580) F dL_law_580 ?_
  refine w_iload3 (pc := 581) F dL_law_581 ?_
  refine w_iconst (pc := 582) (v := nI 2) F dL_law_582 (by decide) ?_
  refine w_iadd (pc := 583) (z := nI (i + 2)) F dL_law_583 (nI_add _ _) ?_
  refine X.1 584 _ _ _ _ _ (i + 2) (by omega) dL_law_584 ?_
  refine w_callC (pc := 585) (q0 := 0) F cw_ok (c_X7_lined hI (x := xs (i + 1)) (y := xs (i + 2))) ok_L_83 rfl rfl rfl rfl rfl (Nat.le_of_ble_eq_true rfl) (Nat.le_of_ble_eq_true rfl) (Nat.le_of_ble_eq_true rfl) ⟨Nat.le_of_ble_eq_true rfl, Nat.le_of_ble_eq_true rfl⟩ dL_law_585 (fun v1 iv3 ar3 h1 => ?_)
  obtain ⟨x1, rfl, h1⟩ := h1
  refine w_aload2 (pc := 588) F dL_law_588 ?_
  refine w_aload0 (pc := 589) F dL_law_589 ?_
  refine w_iload3 (pc := 590) F dL_law_590 ?_
  refine w_iconst (pc := 591) (v := nI 1) F dL_law_591 (by decide) ?_
  refine w_iadd (pc := 592) (z := nI (i + 1)) F dL_law_592 (nI_add _ _) ?_
  refine X.1 593 _ _ _ _ _ (i + 1) (by omega) dL_law_593 ?_
  refine w_aload0 (pc := 594) F dL_law_594 ?_
  refine w_iload3 (pc := 595) F dL_law_595 ?_
  refine w_iconst (pc := 596) (v := nI 2) F dL_law_596 (by decide) ?_
  refine w_iadd (pc := 597) (z := nI (i + 2)) F dL_law_597 (nI_add _ _) ?_
  refine X.1 598 _ _ _ _ _ (i + 2) (by omega) dL_law_598 ?_
  refine w_callM (pc := 599) (q0 := 0) F mw_ok (c_X8_lined hM (x := xs (i + 1)) (y := xs (i + 2))) ok_L_86 rfl rfl rfl rfl rfl (Nat.le_of_ble_eq_true rfl) (Nat.le_of_ble_eq_true rfl) (Nat.le_of_ble_eq_true rfl) ⟨Nat.le_of_ble_eq_true rfl, Nat.le_of_ble_eq_true rfl⟩ dL_law_599 (fun v2 iv4 ar4 h2 => ?_)
  obtain ⟨x2, rfl, h2⟩ := h2
  refine w_eq (pc := 602) (tgt := 752) F dL_law_602 (by decide) (h1.1.trans h2.1.symm) ?_
  exact next _ _ _ _ _ _ _ _ _ _ _ _ _ _ h1.2 h2.2
set_option maxHeartbeats 4000000 in
set_option maxRecDepth 20000 in
theorem law_rank (F : Fw l D cI RL cL_law 4 room_1 false Z) (X : LX Z b L xs) (hi : i + 3 < L) (hI : CI n c s t set lim m g tt rt iv ar) (hM : MI n c s t set lim m g tt rt iv2 ar2) (next : LN Z cI b ad ad2 i) : Z 607 (lvL b ad ad2 i) [] (cw cI ad iv ar ++ mw cI ad2 iv2 ar2) 42 1761 := by
  refine w_aload1 (pc := 607) F dL_law_607 ?_
  refine w_aload0 (pc := 608) F dL_law_608 ?_
  refine w_iload3 (pc := 609) F dL_law_609 ?_
  refine w_iconst (pc := 610) (v := nI 1) F dL_law_610 (by decide) ?_
  refine w_iadd (pc := 611) (z := nI (i + 1)) F dL_law_611 (nI_add _ _) ?_
  refine X.1 612 _ _ _ _ _ (i + 1) (by omega) dL_law_612 ?_
  refine w_aload0 (pc := 613) F dL_law_613 ?_
  refine w_iload3 (pc := 614) F dL_law_614 ?_
  refine w_iconst (pc := 615) (v := nI 2) F dL_law_615 (by decide) ?_
  refine w_iadd (pc := 616) (z := nI (i + 2)) F dL_law_616 (nI_add _ _) ?_
  refine X.1 617 _ _ _ _ _ (i + 2) (by omega) dL_law_617 ?_
  refine w_callC (pc := 618) (q0 := 0) F cw_ok (c_X7_rank hI (x := xs (i + 1)) (y := xs (i + 2))) ok_L_87 rfl rfl rfl rfl rfl (Nat.le_of_ble_eq_true rfl) (Nat.le_of_ble_eq_true rfl) (Nat.le_of_ble_eq_true rfl) ⟨Nat.le_of_ble_eq_true rfl, Nat.le_of_ble_eq_true rfl⟩ dL_law_618 (fun v1 iv3 ar3 h1 => ?_)
  obtain ⟨x1, rfl, h1⟩ := h1
  refine w_aload2 (pc := 621) F dL_law_621 ?_
  refine w_aload0 (pc := 622) F dL_law_622 ?_
  refine w_iload3 (pc := 623) F dL_law_623 ?_
  refine w_iconst (pc := 624) (v := nI 1) F dL_law_624 (by decide) ?_
  refine w_iadd (pc := 625) (z := nI (i + 1)) F dL_law_625 (nI_add _ _) ?_
  refine X.1 626 _ _ _ _ _ (i + 1) (by omega) dL_law_626 ?_
  refine w_aload0 (pc := 627) F dL_law_627 ?_
  refine w_iload3 (pc := 628) F dL_law_628 ?_
  refine w_iconst (pc := 629) (v := nI 2) F dL_law_629 (by decide) ?_
  refine w_iadd (pc := 630) (z := nI (i + 2)) F dL_law_630 (nI_add _ _) ?_
  refine X.1 631 _ _ _ _ _ (i + 2) (by omega) dL_law_631 ?_
  refine w_callM (pc := 632) (q0 := 0) F mw_ok (c_X8_rank hM (x := xs (i + 1)) (y := xs (i + 2))) ok_L_90 rfl rfl rfl rfl rfl (Nat.le_of_ble_eq_true rfl) (Nat.le_of_ble_eq_true rfl) (Nat.le_of_ble_eq_true rfl) ⟨Nat.le_of_ble_eq_true rfl, Nat.le_of_ble_eq_true rfl⟩ dL_law_632 (fun v2 iv4 ar4 h2 => ?_)
  obtain ⟨x2, rfl, h2⟩ := h2
  refine w_eq (pc := 635) (tgt := 752) F dL_law_635 (by decide) (h1.1.trans h2.1.symm) ?_
  exact next _ _ _ _ _ _ _ _ _ _ _ _ _ _ h1.2 h2.2
set_option maxHeartbeats 4000000 in
set_option maxRecDepth 20000 in
theorem law_test (F : Fw l D cI RL cL_law 4 room_1 false Z) (X : LX Z b L xs) (hi : i + 3 < L) (hI : CI n c s t set lim m g tt rt iv ar) (hM : MI n c s t set lim m g tt rt iv2 ar2) (next : LN Z cI b ad ad2 i) : Z 640 (lvL b ad ad2 i) [] (cw cI ad iv ar ++ mw cI ad2 iv2 ar2) 42 1761 := by
  refine w_aload1 (pc := 640) F dL_law_640 ?_
  refine w_aload0 (pc := 641) F dL_law_641 ?_
  refine w_iload3 (pc := 642) F dL_law_642 ?_
  refine w_iconst (pc := 643) (v := nI 1) F dL_law_643 (by decide) ?_
  refine w_iadd (pc := 644) (z := nI (i + 1)) F dL_law_644 (nI_add _ _) ?_
  refine X.1 645 _ _ _ _ _ (i + 1) (by omega) dL_law_645 ?_
  refine w_aload0 (pc := 646) F dL_law_646 ?_
  refine w_iload3 (pc := 647) F dL_law_647 ?_
  refine w_iconst (pc := 648) (v := nI 2) F dL_law_648 (by decide) ?_
  refine w_iadd (pc := 649) (z := nI (i + 2)) F dL_law_649 (nI_add _ _) ?_
  refine X.1 650 _ _ _ _ _ (i + 2) (by omega) dL_law_650 ?_
  refine w_callC (pc := 651) (q0 := 0) F cw_ok (c_X7_test hI (x := xs (i + 1)) (y := xs (i + 2))) ok_L_91 rfl rfl rfl rfl rfl (Nat.le_of_ble_eq_true rfl) (Nat.le_of_ble_eq_true rfl) (Nat.le_of_ble_eq_true rfl) ⟨Nat.le_of_ble_eq_true rfl, Nat.le_of_ble_eq_true rfl⟩ dL_law_651 (fun v1 iv3 ar3 h1 => ?_)
  obtain ⟨x1, rfl, h1⟩ := h1
  refine w_aload2 (pc := 654) F dL_law_654 ?_
  refine w_aload0 (pc := 655) F dL_law_655 ?_
  refine w_iload3 (pc := 656) F dL_law_656 ?_
  refine w_iconst (pc := 657) (v := nI 1) F dL_law_657 (by decide) ?_
  refine w_iadd (pc := 658) (z := nI (i + 1)) F dL_law_658 (nI_add _ _) ?_
  refine X.1 659 _ _ _ _ _ (i + 1) (by omega) dL_law_659 ?_
  refine w_aload0 (pc := 660) F dL_law_660 ?_
  refine w_iload3 (pc := 661) F dL_law_661 ?_
  refine w_iconst (pc := 662) (v := nI 2) F dL_law_662 (by decide) ?_
  refine w_iadd (pc := 663) (z := nI (i + 2)) F dL_law_663 (nI_add _ _) ?_
  refine X.1 664 _ _ _ _ _ (i + 2) (by omega) dL_law_664 ?_
  refine w_callM (pc := 665) (q0 := 0) F mw_ok (c_X8_test hM (x := xs (i + 1)) (y := xs (i + 2))) ok_L_94 rfl rfl rfl rfl rfl (Nat.le_of_ble_eq_true rfl) (Nat.le_of_ble_eq_true rfl) (Nat.le_of_ble_eq_true rfl) ⟨Nat.le_of_ble_eq_true rfl, Nat.le_of_ble_eq_true rfl⟩ dL_law_665 (fun v2 iv4 ar4 h2 => ?_)
  obtain ⟨x2, rfl, h2⟩ := h2
  have hs := h1.two h2
  refine w_eq (pc := 668) (tgt := 752) F dL_law_668 (by decide) hs.1 ?_
  rcases hs.2 with ⟨a, b⟩ | ⟨a, b⟩
  · exact next _ _ _ _ _ _ _ _ _ _ _ _ _ _ a b
  · exact next _ _ _ _ _ _ _ _ _ _ _ _ _ _ a b
set_option maxHeartbeats 4000000 in
set_option maxRecDepth 20000 in
theorem law_right (F : Fw l D cI RL cL_law 4 room_1 false Z) (X : LX Z b L xs) (hi : i + 3 < L) (hI : CI n c s t set lim m g tt rt iv ar) (hM : MI n c s t set lim m g tt rt iv2 ar2) (next : LN Z cI b ad ad2 i) : Z 673 (lvL b ad ad2 i) [] (cw cI ad iv ar ++ mw cI ad2 iv2 ar2) 42 1761 := by
  refine w_aload1 (pc := 673) F dL_law_673 ?_
  refine w_aload0 (pc := 674) F dL_law_674 ?_
  refine w_iload3 (pc := 675) F dL_law_675 ?_
  refine w_iconst (pc := 676) (v := nI 1) F dL_law_676 (by decide) ?_
  refine w_iadd (pc := 677) (z := nI (i + 1)) F dL_law_677 (nI_add _ _) ?_
  refine X.1 678 _ _ _ _ _ (i + 1) (by omega) dL_law_678 ?_
  refine w_callC (pc := 679) (q0 := 0) F cw_ok (c_X7_right hI (x := xs (i + 1))) ok_L_95 rfl rfl rfl rfl rfl (Nat.le_of_ble_eq_true rfl) (Nat.le_of_ble_eq_true rfl) (Nat.le_of_ble_eq_true rfl) ⟨Nat.le_of_ble_eq_true rfl, Nat.le_of_ble_eq_true rfl⟩ dL_law_679 (fun v1 iv3 ar3 h1 => ?_)
  obtain ⟨x1, rfl, h1⟩ := h1
  refine w_aload2 (pc := 682) F dL_law_682 ?_
  refine w_aload0 (pc := 683) F dL_law_683 ?_
  refine w_iload3 (pc := 684) F dL_law_684 ?_
  refine w_iconst (pc := 685) (v := nI 1) F dL_law_685 (by decide) ?_
  refine w_iadd (pc := 686) (z := nI (i + 1)) F dL_law_686 (nI_add _ _) ?_
  refine X.1 687 _ _ _ _ _ (i + 1) (by omega) dL_law_687 ?_
  refine w_callM (pc := 688) (q0 := 0) F mw_ok (c_X8_right hM (x := xs (i + 1))) ok_L_98 rfl rfl rfl rfl rfl (Nat.le_of_ble_eq_true rfl) (Nat.le_of_ble_eq_true rfl) (Nat.le_of_ble_eq_true rfl) ⟨Nat.le_of_ble_eq_true rfl, Nat.le_of_ble_eq_true rfl⟩ dL_law_688 (fun v2 iv4 ar4 h2 => ?_)
  obtain ⟨x2, rfl, h2⟩ := h2
  refine w_eq (pc := 691) (tgt := 752) F dL_law_691 (by decide) (h1.1.trans h2.1.symm) ?_
  exact next _ _ _ _ _ _ _ _ _ _ _ _ _ _ h1.2 h2.2
set_option maxHeartbeats 4000000 in
set_option maxRecDepth 20000 in
theorem law_told (F : Fw l D cI RL cL_law 4 room_1 false Z) (X : LX Z b L xs) (hi : i + 3 < L) (hI : CI n c s t set lim m g tt rt iv ar) (hM : MI n c s t set lim m g tt rt iv2 ar2) (next : LN Z cI b ad ad2 i) : Z 696 (lvL b ad ad2 i) [] (cw cI ad iv ar ++ mw cI ad2 iv2 ar2) 42 1761 := by
  refine w_aload1 (pc := 696) F dL_law_696 ?_
  refine w_aload0 (pc := 697) F dL_law_697 ?_
  refine w_iload3 (pc := 698) F dL_law_698 ?_
  refine w_iconst (pc := 699) (v := nI 1) F dL_law_699 (by decide) ?_
  refine w_iadd (pc := 700) (z := nI (i + 1)) F dL_law_700 (nI_add _ _) ?_
  refine X.1 701 _ _ _ _ _ (i + 1) (by omega) dL_law_701 ?_
  refine w_aload0 (pc := 702) F dL_law_702 ?_
  refine w_iload3 (pc := 703) F dL_law_703 ?_
  refine w_iconst (pc := 704) (v := nI 2) F dL_law_704 (by decide) ?_
  refine w_iadd (pc := 705) (z := nI (i + 2)) F dL_law_705 (nI_add _ _) ?_
  refine X.1 706 _ _ _ _ _ (i + 2) (by omega) dL_law_706 ?_
  refine w_callC (pc := 707) (q0 := 0) F cw_ok (c_X7_told hI (x := xs (i + 1)) (y := xs (i + 2))) ok_L_99 rfl rfl rfl rfl rfl (Nat.le_of_ble_eq_true rfl) (Nat.le_of_ble_eq_true rfl) (Nat.le_of_ble_eq_true rfl) ⟨Nat.le_of_ble_eq_true rfl, Nat.le_of_ble_eq_true rfl⟩ dL_law_707 (fun v1 iv3 ar3 h1 => ?_)
  obtain ⟨x1, rfl, h1⟩ := h1
  refine w_aload2 (pc := 710) F dL_law_710 ?_
  refine w_aload0 (pc := 711) F dL_law_711 ?_
  refine w_iload3 (pc := 712) F dL_law_712 ?_
  refine w_iconst (pc := 713) (v := nI 1) F dL_law_713 (by decide) ?_
  refine w_iadd (pc := 714) (z := nI (i + 1)) F dL_law_714 (nI_add _ _) ?_
  refine X.1 715 _ _ _ _ _ (i + 1) (by omega) dL_law_715 ?_
  refine w_aload0 (pc := 716) F dL_law_716 ?_
  refine w_iload3 (pc := 717) F dL_law_717 ?_
  refine w_iconst (pc := 718) (v := nI 2) F dL_law_718 (by decide) ?_
  refine w_iadd (pc := 719) (z := nI (i + 2)) F dL_law_719 (nI_add _ _) ?_
  refine X.1 720 _ _ _ _ _ (i + 2) (by omega) dL_law_720 ?_
  refine w_callM (pc := 721) (q0 := 0) F mw_ok (c_X8_told hM (x := xs (i + 1)) (y := xs (i + 2))) ok_L_102 rfl rfl rfl rfl rfl (Nat.le_of_ble_eq_true rfl) (Nat.le_of_ble_eq_true rfl) (Nat.le_of_ble_eq_true rfl) ⟨Nat.le_of_ble_eq_true rfl, Nat.le_of_ble_eq_true rfl⟩ dL_law_721 (fun v2 iv4 ar4 h2 => ?_)
  obtain ⟨x2, rfl, h2⟩ := h2
  refine w_eq (pc := 724) (tgt := 752) F dL_law_724 (by decide) (h1.1.trans h2.1.symm) ?_
  exact next _ _ _ _ _ _ _ _ _ _ _ _ _ _ h1.2 h2.2
set_option maxHeartbeats 4000000 in
set_option maxRecDepth 20000 in
theorem law_count (F : Fw l D cI RL cL_law 4 room_1 false Z) (X : LX Z b L xs) (hi : i + 3 < L) (hI : CI n c s t set lim m g tt rt iv ar) (hM : MI n c s t set lim m g tt rt iv2 ar2) (next : LN Z cI b ad ad2 i) : Z 729 (lvL b ad ad2 i) [] (cw cI ad iv ar ++ mw cI ad2 iv2 ar2) 42 1761 := by
  refine w_aload1 (pc := 729) F dL_law_729 ?_
  refine w_aload0 (pc := 730) F dL_law_730 ?_
  refine w_iload3 (pc := 731) F dL_law_731 ?_
  refine w_iconst (pc := 732) (v := nI 1) F dL_law_732 (by decide) ?_
  refine w_iadd (pc := 733) (z := nI (i + 1)) F dL_law_733 (nI_add _ _) ?_
  refine X.1 734 _ _ _ _ _ (i + 1) (by omega) dL_law_734 ?_
  refine w_callC (pc := 735) (q0 := 0) F cw_ok (c_X7_count hI (x := xs (i + 1))) ok_L_103 rfl rfl rfl rfl rfl (Nat.le_of_ble_eq_true rfl) (Nat.le_of_ble_eq_true rfl) (Nat.le_of_ble_eq_true rfl) ⟨Nat.le_of_ble_eq_true rfl, Nat.le_of_ble_eq_true rfl⟩ dL_law_735 (fun v1 iv3 ar3 h1 => ?_)
  obtain ⟨x1, rfl, h1⟩ := h1
  refine w_aload2 (pc := 738) F dL_law_738 ?_
  refine w_aload0 (pc := 739) F dL_law_739 ?_
  refine w_iload3 (pc := 740) F dL_law_740 ?_
  refine w_iconst (pc := 741) (v := nI 1) F dL_law_741 (by decide) ?_
  refine w_iadd (pc := 742) (z := nI (i + 1)) F dL_law_742 (nI_add _ _) ?_
  refine X.1 743 _ _ _ _ _ (i + 1) (by omega) dL_law_743 ?_
  refine w_callM (pc := 744) (q0 := 0) F mw_ok (c_X8_count hM (x := xs (i + 1))) ok_L_106 rfl rfl rfl rfl rfl (Nat.le_of_ble_eq_true rfl) (Nat.le_of_ble_eq_true rfl) (Nat.le_of_ble_eq_true rfl) ⟨Nat.le_of_ble_eq_true rfl, Nat.le_of_ble_eq_true rfl⟩ dL_law_744 (fun v2 iv4 ar4 h2 => ?_)
  obtain ⟨x2, rfl, h2⟩ := h2
  refine w_eq (pc := 747) (tgt := 752) F dL_law_747 (by decide) (h1.1.trans h2.1.symm) ?_
  exact next _ _ _ _ _ _ _ _ _ _ _ _ _ _ h1.2 h2.2
theorem sub4 {L i : Nat} (hL : L ≤ 2048) (hi : i ≤ L) (h : ¬ nI L - nI 4 < nI i) : i + 3 < L := by
  rw [i_lt, nI_toInt (n := i) (by omega)] at h
  rcases Nat.lt_or_ge L 4 with q | q
  · exfalso
    rcases (show L = 0 ∨ L = 1 ∨ L = 2 ∨ L = 3 by omega) with e | e | e | e <;> subst e
    · have z : (nI 0 - nI 4).toInt = -4 := rfl
      rw [z] at h; omega
    · have z : (nI 1 - nI 4).toInt = -3 := rfl
      rw [z] at h; omega
    · have z : (nI 2 - nI 4).toInt = -2 := rfl
      rw [z] at h; omega
    · have z : (nI 3 - nI 4).toInt = -1 := rfl
      rw [z] at h; omega
  · rw [pk_sub q, nI_toInt (by omega)] at h
    omega
set_option maxHeartbeats 4000000 in
set_option maxRecDepth 20000 in
theorem law_loop (F : Fw l D cI RL cL_law 4 room_1 false Z) (X : LX Z b L xs) (hL : L ≤ 2048) : ∀ (fu i : Nat) (n : Nat) (c : Nat → Nat) (s t : Nat → Int32) (set : Int32) (lim m : Nat) (g : Nat → Nat) (tt : Nat) (rt : Nat → Int32) (iv iv2 : IV) (ar ar2 : AR), L - i < fu → i ≤ L → CI n c s t set lim m g tt rt iv ar → MI n c s t set lim m g tt rt iv2 ar2 → Z 18 (lvL b ad ad2 i) [] (cw cI ad iv ar ++ mw cI ad2 iv2 ar2) 42 1761 := by
  intro fu
  induction fu with
  | zero => intro i n c s t set lim m g tt rt iv iv2 ar ar2 hfu; exact absurd hfu (Nat.not_lt_zero _)
  | succ fu ih =>
    intro i n c s t set lim m g tt rt iv iv2 ar ar2 hfu hiL hI hM
    refine w_iload3 (pc := 18) F dL_law_18 ?_
    refine w_aload0 (pc := 19) F dL_law_19 ?_
    refine X.2.1 20 _ _ _ _ _ dL_law_20 ?_
    refine w_iconst (pc := 21) (v := nI 4) F dL_law_21 (by decide) ?_
    refine w_isub (pc := 22) (z := nI L - nI 4) F dL_law_22 rfl ?_
    refine w_gt (pc := 23) (tgt := 758) F dL_law_23 (by decide) (fun h => ?_) (fun h => ?_)
    · refine w_iconst (pc := 758) (v := 1) F dL_law_758 (by decide) ?_
      exact X.2.2 759 _ _ dL_law_759
    · have hi := sub4 hL hiL h
      have next : LN Z cI b ad ad2 i := by
        intro n c s t set lim m g tt rt iv iv2 ar ar2 hI hM
        refine w_iinc3 (pc := 752) (v := nI (i + 4)) F (by decide) dL_law_752 (nI_add i 4) ?_
        refine w_goto (pc := 755) (tgt := 18) F dL_law_755 (by decide) ?_
        exact ih (i + 4) n c s t set lim m g tt rt iv iv2 ar ar2 (by omega) (by omega) hI hM
      refine w_aload0 (pc := 26) F dL_law_26 ?_
      refine w_iload3 (pc := 27) F dL_law_27 ?_
      refine X.1 28 _ _ _ _ _ i (by omega) dL_law_28 ?_
      refine w_bipush (pc := 29) (v := nI 31) F dL_law_29 (by decide) ?_
      refine w_iand (pc := 31) F dL_law_31 ?_
      generalize xs i &&& nI 31 = z
      by_cases s0 : z = 0
      · subst s0
        exact w_tin (pc := 32) (tgt := 136) F dL_law_32 (by decide) (by decide) rfl (by decide) (law_record F X hi hI hM next)
      by_cases s1 : z = 1
      · subst s1
        exact w_tin (pc := 32) (tgt := 169) F dL_law_32 (by decide) (by decide) rfl (by decide) (law_tone F X hi hI hM next)
      by_cases s2 : z = 2
      · subst s2
        exact w_tin (pc := 32) (tgt := 212) F dL_law_32 (by decide) (by decide) rfl (by decide) (law_know F X hi hI hM next)
      by_cases s3 : z = 3
      · subst s3
        exact w_tin (pc := 32) (tgt := 245) F dL_law_32 (by decide) (by decide) rfl (by decide) (law_set F X hi hI hM next)
      by_cases s4 : z = 4
      · subst s4
        exact w_tin (pc := 32) (tgt := 268) F dL_law_32 (by decide) (by decide) rfl (by decide) (law_limit F X hi hI hM next)
      by_cases s5 : z = 5
      · subst s5
        exact w_tin (pc := 32) (tgt := 291) F dL_law_32 (by decide) (by decide) rfl (by decide) (law_shift F X hi hI hM next)
      by_cases s6 : z = 6
      · subst s6
        exact w_tin (pc := 32) (tgt := 324) F dL_law_32 (by decide) (by decide) rfl (by decide) (law_hidden F X hi hI hM next)
      by_cases s7 : z = 7
      · subst s7
        exact w_tin (pc := 32) (tgt := 357) F dL_law_32 (by decide) (by decide) rfl (by decide) (law_score F X hi hI hM next)
      by_cases s8 : z = 8
      · subst s8
        exact w_tin (pc := 32) (tgt := 390) F dL_law_32 (by decide) (by decide) rfl (by decide) (law_band F X hi hI hM next)
      by_cases s9 : z = 9
      · subst s9
        exact w_tin (pc := 32) (tgt := 423) F dL_law_32 (by decide) (by decide) rfl (by decide) (law_block F X hi hI hM next)
      by_cases s10 : z = 10
      · subst s10
        exact w_tin (pc := 32) (tgt := 456) F dL_law_32 (by decide) (by decide) rfl (by decide) (law_odds F X hi hI hM next)
      by_cases s11 : z = 11
      · subst s11
        exact w_tin (pc := 32) (tgt := 489) F dL_law_32 (by decide) (by decide) rfl (by decide) (law_segment F X hi hI hM next)
      by_cases s12 : z = 12
      · subst s12
        exact w_tin (pc := 32) (tgt := 512) F dL_law_32 (by decide) (by decide) rfl (by decide) (law_clear F X hi hI hM next)
      by_cases s13 : z = 13
      · subst s13
        exact w_tin (pc := 32) (tgt := 525) F dL_law_32 (by decide) (by decide) rfl (by decide) (law_voice F X hi hI hM next)
      by_cases s14 : z = 14
      · subst s14
        exact w_tin (pc := 32) (tgt := 548) F dL_law_32 (by decide) (by decide) rfl (by decide) (law_voices F X hi hI hM next)
      by_cases s15 : z = 15
      · subst s15
        exact w_tin (pc := 32) (tgt := 561) F dL_law_32 (by decide) (by decide) rfl (by decide) (law_spare F X hi hI hM next)
      by_cases s16 : z = 16
      · subst s16
        exact w_tin (pc := 32) (tgt := 574) F dL_law_32 (by decide) (by decide) rfl (by decide) (law_lined F X hi hI hM next)
      by_cases s17 : z = 17
      · subst s17
        exact w_tin (pc := 32) (tgt := 607) F dL_law_32 (by decide) (by decide) rfl (by decide) (law_rank F X hi hI hM next)
      by_cases s18 : z = 18
      · subst s18
        exact w_tin (pc := 32) (tgt := 640) F dL_law_32 (by decide) (by decide) rfl (by decide) (law_test F X hi hI hM next)
      by_cases s19 : z = 19
      · subst s19
        exact w_tin (pc := 32) (tgt := 673) F dL_law_32 (by decide) (by decide) rfl (by decide) (law_right F X hi hI hM next)
      by_cases s20 : z = 20
      · subst s20
        exact w_tin (pc := 32) (tgt := 696) F dL_law_32 (by decide) (by decide) rfl (by decide) (law_told F X hi hI hM next)
      by_cases s21 : z = 21
      · subst s21
        exact w_tin (pc := 32) (tgt := 729) F dL_law_32 (by decide) (by decide) rfl (by decide) (law_count F X hi hI hM next)
      have t0 := lv_neT s0 (a := 0) (by decide)
      have t1 := lv_neT s1 (a := 1) (by decide)
      have t2 := lv_neT s2 (a := 2) (by decide)
      have t3 := lv_neT s3 (a := 3) (by decide)
      have t4 := lv_neT s4 (a := 4) (by decide)
      have t5 := lv_neT s5 (a := 5) (by decide)
      have t6 := lv_neT s6 (a := 6) (by decide)
      have t7 := lv_neT s7 (a := 7) (by decide)
      have t8 := lv_neT s8 (a := 8) (by decide)
      have t9 := lv_neT s9 (a := 9) (by decide)
      have t10 := lv_neT s10 (a := 10) (by decide)
      have t11 := lv_neT s11 (a := 11) (by decide)
      have t12 := lv_neT s12 (a := 12) (by decide)
      have t13 := lv_neT s13 (a := 13) (by decide)
      have t14 := lv_neT s14 (a := 14) (by decide)
      have t15 := lv_neT s15 (a := 15) (by decide)
      have t16 := lv_neT s16 (a := 16) (by decide)
      have t17 := lv_neT s17 (a := 17) (by decide)
      have t18 := lv_neT s18 (a := 18) (by decide)
      have t19 := lv_neT s19 (a := 19) (by decide)
      have t20 := lv_neT s20 (a := 20) (by decide)
      have t21 := lv_neT s21 (a := 21) (by decide)
      exact w_tout (pc := 32) (tgt := 752) F dL_law_32 (by omega) (by decide) (next _ _ _ _ _ _ _ _ _ _ _ _ _ _ hI hM)
end LC
theorem CI_0 {f : Nat → Int32} (hf : ∀ j, j < 180 → f j = -1) : CI 0 (fun _ => 0) (fun _ => 0) (fun _ => -1) (nI 1023) 20 0 (fun _ => 0) 0 (fun _ => 0) (fun k => [(nI 1023), (nI 20), (nI 0), (nI 0), (nI 0), (nI 0), (nI 0), (nI 0), (nI 0), (nI 0), (nI 0), (nI 0)].getD k 0) (fun k => if k = 2 then f else fun _ => 0) := by
  refine ⟨⟨rfl, by decide, fun k hk => absurd hk (Nat.not_lt_zero k), fun k hk => absurd hk (Nat.not_lt_zero k), fun j hj => by omega⟩, fun j hj => by omega, fun k hk => absurd hk (Nat.not_lt_zero k), fun j _ hj => hf j hj, fun j hj => ?_, fun k p _ _ _ => rfl, ⟨rfl, by decide, fun k hk => absurd hk (Nat.not_lt_zero k)⟩, rfl, rfl, by decide, Or.inr ⟨rfl, ⟨fun k _ => rfl, fun k _ => rfl, rfl, rfl⟩, ⟨rfl, fun i hi => absurd hi (Nat.not_lt_zero i)⟩⟩, rfl, by decide, fun k _ => rfl⟩
  show (0 : Int32) = shf _ _ _ 0 (j / 6) (j % 6)
  unfold shf
  split <;> rfl
theorem MI_0 : MI 0 (fun _ => 0) (fun _ => 0) (fun _ => -1) (nI 1023) 20 0 (fun _ => 0) 0 (fun _ => 0) (fun k => [0, (nI 1023), (nI 20), 0, 0, 0, 0].getD k 0) (fun _ _ => 0) :=
  ⟨⟨rfl, by decide, fun k hk => absurd hk (Nat.not_lt_zero k), fun k hk => absurd hk (Nat.not_lt_zero k), fun j hj => by omega⟩, fun j hj => by omega, fun k hk => absurd hk (Nat.not_lt_zero k), ⟨rfl, by decide, fun k hk => absurd hk (Nat.not_lt_zero k)⟩, rfl, rfl, by decide, rfl, by decide, fun k _ => rfl⟩
