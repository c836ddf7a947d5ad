/-! fa_and, fa_or, fb_xorI, s_l began as kit/laws -/
theorem fa_and (a b : Nat) : nI a &&& nI b = nI (a &&& b) := by
  apply Int32.toBitVec_inj.1
  show BitVec.ofNat 32 a &&& BitVec.ofNat 32 b = BitVec.ofNat 32 (a &&& b)
  apply BitVec.eq_of_getLsbD_eq
  intro i hi
  simp [hi]
theorem fa_or (a b : Nat) : nI a ||| nI b = nI (a ||| b) := by
  apply Int32.toBitVec_inj.1
  show BitVec.ofNat 32 a ||| BitVec.ofNat 32 b = BitVec.ofNat 32 (a ||| b)
  apply BitVec.eq_of_getLsbD_eq
  intro i hi
  simp [hi]
theorem fb_xorI (a b : Nat) : nI a ^^^ nI b = nI (a ^^^ b) := by
  apply Int32.toBitVec_inj.1
  show BitVec.ofNat 32 a ^^^ BitVec.ofNat 32 b = BitVec.ofNat 32 (a ^^^ b)
  apply BitVec.eq_of_getLsbD_eq
  intro i hi
  simp [hi]
theorem s_l : ∀ n, n < 32 → ((nI n &&& 31).toBitVec.smod 32).toNat = n := by decide +kernel
theorem shr_N {a k : Nat} (ha : a < 2 ^ 31) (hk : k < 32) : nI a >>> (nI k &&& 31) = nI (a / 2 ^ k) := pk_shrN ha _ k (s_l k hk)
theorem shl_N {k : Nat} (hk : k < 32) : nI 1 <<< (nI k &&& 31) = nI (2 ^ k) := by
  have h := pk_shlN (n := 1) (nI k &&& 31) k (s_l k hk) (by rw [Nat.one_mul]; exact Nat.pow_lt_pow_right (by decide) hk)
  rw [Nat.one_mul] at h
  exact h
theorem andnot {S C : Nat} (hs : sb C S) : nI S &&& (nI C ^^^ -1) = nI (S ^^^ C) := by
  apply Int32.toBitVec_inj.1
  show BitVec.ofNat 32 S &&& (BitVec.ofNat 32 C ^^^ BitVec.allOnes 32) = BitVec.ofNat 32 (S ^^^ C)
  apply BitVec.eq_of_getLsbD_eq
  intro i hi
  have h1 : C.testBit i = (C.testBit i && S.testBit i) := by
    have h2 : C &&& S = C := hs
    rw [← Nat.testBit_and, h2]
  rw [BitVec.getLsbD_and, BitVec.getLsbD_xor, BitVec.getLsbD_ofNat, BitVec.getLsbD_ofNat, BitVec.getLsbD_ofNat, BitVec.getLsbD_allOnes, Nat.testBit_xor]
  revert h1
  cases C.testBit i <;> cases S.testBit i <;> simp [hi]
theorem bit1 {a k : Nat} : (a / 2 ^ k) &&& 1 = 1 ↔ a.testBit k = true := by
  rw [Nat.and_one_is_mod, Nat.testBit_eq_decide_div_mod_eq, decide_eq_true_iff]
theorem bit0 {a k : Nat} : (a / 2 ^ k) &&& 1 = 0 ↔ a.testBit k = false := by
  rw [Nat.and_one_is_mod, Nat.testBit_eq_decide_div_mod_eq, decide_eq_false_iff_not]
  omega
theorem bit_le {a k : Nat} : (a / 2 ^ k) &&& 1 ≤ 1 := by
  rw [Nat.and_one_is_mod]
  omega
section KB
variable {l : Launch} {D : va_G} {cI : ClassId} {wf : WF} {own : String} {cc : ByteArray} {mL : Nat} {ret : Option FieldType} {fr lo : Nat} {post : PST} {Z : ZT} {pc : Nat} {lv : LV} {st : List Value} {iv : IV} {ar : AR}
theorem k_iandN (F : Fx l D cI wf own cc mL ret fr lo post Z) {a b : Nat} (hd : decode cc pc = .ok (.iand, 1)) (k : Z (pc + 1) lv (.int (nI (a &&& b)) :: st) iv ar) : Z pc lv (.int (nI b) :: .int (nI a) :: st) iv ar := k_iand F hd (by rw [fa_and]; exact k)
theorem k_iorN (F : Fx l D cI wf own cc mL ret fr lo post Z) {a b : Nat} (hd : decode cc pc = .ok (.ior, 1)) (k : Z (pc + 1) lv (.int (nI (a ||| b)) :: st) iv ar) : Z pc lv (.int (nI b) :: .int (nI a) :: st) iv ar := k_ior F hd (by rw [fa_or]; exact k)
theorem k_ixorN (F : Fx l D cI wf own cc mL ret fr lo post Z) {a b : Nat} (hd : decode cc pc = .ok (.ixor, 1)) (k : Z (pc + 1) lv (.int (nI (a ^^^ b)) :: st) iv ar) : Z pc lv (.int (nI b) :: .int (nI a) :: st) iv ar := k_ixor F hd (by rw [fb_xorI]; exact k)
theorem k_ishrN (F : Fx l D cI wf own cc mL ret fr lo post Z) {a b : Nat} (hd : decode cc pc = .ok (.ishr, 1)) (ha : a < 2 ^ 31) (hb : b < 32) (k : Z (pc + 1) lv (.int (nI (a / 2 ^ b)) :: st) iv ar) : Z pc lv (.int (nI b) :: .int (nI a) :: st) iv ar := k_ishr F hd (by rw [shr_N ha hb]; exact k)
theorem k_ishlN (F : Fx l D cI wf own cc mL ret fr lo post Z) {b : Nat} (hd : decode cc pc = .ok (.ishl, 1)) (hb : b < 32) (k : Z (pc + 1) lv (.int (nI (2 ^ b)) :: st) iv ar) : Z pc lv (.int (nI b) :: .int (nI 1) :: st) iv ar := k_ishl F hd (by rw [shl_N hb]; exact k)
end KB
theorem ntz_low : ∀ S, S < 256 → 0 < S → (nI S ^^^ -1) &&& (nI S - nI 1) = nI (2 ^ tz S - 1) := by decide +kernel
theorem minN {a b : Nat} (ha : a < 2 ^ 31) (hb : b < 2 ^ 31) : (if nI b < nI a then nI b else nI a) = nI (if b < a then b else a) := by
  have e := nI_ltI hb ha
  by_cases q : b < a
  · rw [if_pos q, if_pos (e.mpr q)]
  · rw [if_neg q, if_neg (fun z => q (e.mp z))]
/-- what the class keeps of a part: the sum within, or -1 -/
def wI (T : Nat → Nat → Int32) (m S : Nat) : Int32 := if psF (msT T) S m = 0 then nI (psF (tnT T) S m) else -1
theorem smN_ge {f : Nat → Nat} {k : Nat} : ∀ n, k < n → f k ≤ smN f n
  | 0, h => absurd h (Nat.not_lt_zero k)
  | n + 1, h => by
    rw [smN]
    by_cases e : k = n
    · rw [e]; omega
    · have := smN_ge (f := f) n (by omega : k < n)
      omega
theorem smN_mono {f : Nat → Nat} (a : Nat) : ∀ d, smN f a ≤ smN f (a + d)
  | 0 => Nat.le_refl _
  | d + 1 => by
    have := smN_mono (f := f) a d
    show _ ≤ smN f (a + d) + f (a + d)
    omega
theorem smN_bd {f : Nat → Nat} {K : Nat} : ∀ n, (∀ k, k < n → f k ≤ K) → smN f n ≤ n * K
  | 0, _ => Nat.zero_le _
  | n + 1, h => by
    have h1 := smN_bd n (fun k hk => h k (by omega))
    have h2 := h n (by omega)
    have h3 : (n + 1) * K = n * K + K := Nat.succ_mul n K
    rw [smN]
    omega
theorem psF_bd {h : Nat → Nat → Nat} {m K : Nat} (hm : m ≤ 8) (hh : ∀ i j, i < m → j < i → h i j ≤ K) (S : Nat) : psF h S m ≤ 8 * (8 * K) := by
  have h1 : psF h S m ≤ m * (8 * K) := by
    unfold psF
    refine smN_bd m (fun i hi => ?_)
    have h2 : grw h S i ≤ i * K := smN_bd i (fun j hj => by
      unfold inb
      split
      · exact hh i j hi hj
      · exact Nat.zero_le _)
    have h3 : i * K ≤ 8 * K := Nat.mul_le_mul_right K (by omega)
    unfold inb
    split
    · omega
    · exact Nat.zero_le _
  exact Nat.le_trans h1 (Nat.mul_le_mul_right _ hm)
theorem tn_bd {T : Nat → Nat → Int32} {m : Nat} (hT : okTb m T) {i j : Nat} (hi : i < m) (hj : j < m) (hij : i ≠ j) : tnT T i j ≤ 1782 := by
  unfold tnT
  rcases hT i j hi hj hij with h | ⟨v, hv, h⟩
  · rw [h]; decide
  · rw [h, nI_clamp (by omega)]; exact hv
theorem psT_bd {T : Nat → Nat → Int32} {m : Nat} (hT : okTb m T) (hm : m ≤ 8) (S : Nat) : psF (tnT T) S m ≤ 114048 := psF_bd hm (fun i j hi hj => tn_bd hT hi (by omega) (by omega)) S
theorem wI_m1 {T : Nat → Nat → Int32} {m S : Nat} (hT : okTb m T) (hm : m ≤ 8) : wI T m S = -1 ↔ ¬ psF (msT T) S m = 0 := by
  have hb := psT_bd hT hm S
  unfold wI
  by_cases q : psF (msT T) S m = 0
  · rw [if_pos q]
    exact ⟨fun e => absurd e (nI_ne_m1 (by omega)), fun e => absurd q e⟩
  · rw [if_neg q]
    exact ⟨fun _ => q, fun _ => rfl⟩
theorem tz_lt {S m : Nat} (h0 : 0 < S) (hS : S < 256) (h : S < 2 ^ m) : tz S < m := by
  have h1 := (lx1 S hS h0).2.1
  rcases Nat.lt_or_ge (tz S) m with q | q
  · exact q
  · have h2 : S < 2 ^ tz S := Nat.lt_of_lt_of_le h (Nat.pow_le_pow_right (by decide) q)
    rw [Nat.testBit_lt_two_pow h2] at h1
    cases h1
theorem pow_256 {m : Nat} (hm : m ≤ 8) : 2 ^ m ≤ 256 := Nat.pow_le_pow_right (n := 2) (by decide) hm
def pcN (x : Nat) : Nat → Nat
  | 0 => 0
  | k + 1 => pcN x k + (if x.testBit k = true then 1 else 0)
def usr (x y : Int32) : Int32 := (x.toUInt32 >>> (y.toUInt32 &&& Int32.toUInt32 31)).toInt32
def bc1 (x : Int32) : Int32 := x - (usr x (nI 1) &&& 1431655765)
def bc2 (x : Int32) : Int32 := (x &&& 858993459) + (usr x (nI 2) &&& 858993459)
def bc3 (x : Int32) : Int32 := (x + usr x (nI 4)) &&& 252645135
def bc4 (x : Int32) : Int32 := x + usr x (nI 8)
def bc5 (x : Int32) : Int32 := x + usr x (nI 16)
def bcx (x : Int32) : Int32 := bc5 (bc4 (bc3 (bc2 (bc1 x)))) &&& nI 63
theorem bcx_N : ∀ x, x < 1024 → bcx (nI x) = nI (pcN x 10) := by decide +kernel
set_option maxHeartbeats 4000000 in
theorem c_J6_bitCount_0f7a4 {l : Launch} {D : va_G} {cI : ClassId} {wf : WF} {iv : IV} {ar : AR} (hwf : wfOk wf) {x : Int32} : Ct l D cI wf yJ6_bitCount_0f7a4 cJ6_bitCount_0f7a4 1 (some .int) 0 0 [.int x] iv ar (rI (bcx x) iv ar) := by
  refine Ct.of (lv := [some (.int x)]) hwf (by decide +kernel) (Nat.le_of_ble_eq_true rfl) 0 rfl rfl (fun Z F => ?_)
  refine k_iload0 (pc := 0) F dJ6_bitCount_0f7a4_0 ?_
  refine k_iload0 (pc := 1) F dJ6_bitCount_0f7a4_1 ?_
  refine k_iconst (pc := 2) (v := nI 1) F dJ6_bitCount_0f7a4_2 (by decide) ?_
  refine k_iushr (pc := 3) F dJ6_bitCount_0f7a4_3 ?_
  refine k_ldcw (pc := 4) (v := 1431655765) F dJ6_bitCount_0f7a4_4 w_571 ?_
  refine k_iand (pc := 7) F dJ6_bitCount_0f7a4_7 ?_
  refine k_isub (pc := 8) F dJ6_bitCount_0f7a4_8 ?_
  refine k_istore0 (pc := 9) F (by decide) dJ6_bitCount_0f7a4_9 ?_
  refine k_iload0 (pc := 10) F dJ6_bitCount_0f7a4_10 ?_
  refine k_ldcw (pc := 11) (v := 858993459) F dJ6_bitCount_0f7a4_11 w_572 ?_
  refine k_iand (pc := 14) F dJ6_bitCount_0f7a4_14 ?_
  refine k_iload0 (pc := 15) F dJ6_bitCount_0f7a4_15 ?_
  refine k_iconst (pc := 16) (v := nI 2) F dJ6_bitCount_0f7a4_16 (by decide) ?_
  refine k_iushr (pc := 17) F dJ6_bitCount_0f7a4_17 ?_
  refine k_ldcw (pc := 18) (v := 858993459) F dJ6_bitCount_0f7a4_18 w_572 ?_
  refine k_iand (pc := 21) F dJ6_bitCount_0f7a4_21 ?_
  refine k_iadd (pc := 22) F dJ6_bitCount_0f7a4_22 ?_
  refine k_istore0 (pc := 23) F (by decide) dJ6_bitCount_0f7a4_23 ?_
  refine k_iload0 (pc := 24) F dJ6_bitCount_0f7a4_24 ?_
  refine k_iload0 (pc := 25) F dJ6_bitCount_0f7a4_25 ?_
  refine k_iconst (pc := 26) (v := nI 4) F dJ6_bitCount_0f7a4_26 (by decide) ?_
  refine k_iushr (pc := 27) F dJ6_bitCount_0f7a4_27 ?_
  refine k_iadd (pc := 28) F dJ6_bitCount_0f7a4_28 ?_
  refine k_ldcw (pc := 29) (v := 252645135) F dJ6_bitCount_0f7a4_29 w_573 ?_
  refine k_iand (pc := 32) F dJ6_bitCount_0f7a4_32 ?_
  refine k_istore0 (pc := 33) F (by decide) dJ6_bitCount_0f7a4_33 ?_
  refine k_iload0 (pc := 34) F dJ6_bitCount_0f7a4_34 ?_
  refine k_iload0 (pc := 35) F dJ6_bitCount_0f7a4_35 ?_
  refine k_bipush (pc := 36) (v := nI 8) F dJ6_bitCount_0f7a4_36 (by decide) ?_
  refine k_iushr (pc := 38) F dJ6_bitCount_0f7a4_38 ?_
  refine k_iadd (pc := 39) F dJ6_bitCount_0f7a4_39 ?_
  refine k_istore0 (pc := 40) F (by decide) dJ6_bitCount_0f7a4_40 ?_
  refine k_iload0 (pc := 41) F dJ6_bitCount_0f7a4_41 ?_
  refine k_iload0 (pc := 42) F dJ6_bitCount_0f7a4_42 ?_
  refine k_bipush (pc := 43) (v := nI 16) F dJ6_bitCount_0f7a4_43 (by decide) ?_
  refine k_iushr (pc := 45) F dJ6_bitCount_0f7a4_45 ?_
  refine k_iadd (pc := 46) F dJ6_bitCount_0f7a4_46 ?_
  refine k_istore0 (pc := 47) F (by decide) dJ6_bitCount_0f7a4_47 ?_
  refine k_iload0 (pc := 48) F dJ6_bitCount_0f7a4_48 ?_
  refine k_bipush (pc := 49) (v := nI 63) F dJ6_bitCount_0f7a4_49 (by decide) ?_
  refine k_iand (pc := 51) F dJ6_bitCount_0f7a4_51 ?_
  refine k_iret (pc := 52) F dJ6_bitCount_0f7a4_52 ?_
  exact ⟨rfl, rfl, rfl⟩

set_option maxHeartbeats 4000000 in
theorem c_J6_numberOfTrailingZeros_0f7a4 {l : Launch} {D : va_G} {cI : ClassId} {wf : WF} {iv : IV} {ar : AR} (hwf : wfOk wf) {S : Nat} (h0 : 0 < S) (hS : S < 256) : Ct l D cI wf yJ6_numberOfTrailingZeros_0f7a4 cJ6_numberOfTrailingZeros_0f7a4 2 (some .int) 0 0 [.int (nI S)] iv ar (rI (nI (tz S)) iv ar) := by
  refine Ct.of (lv := [some (.int (nI S)), none]) hwf (by decide +kernel) (Nat.le_of_ble_eq_true rfl) 1 rfl rfl (fun Z F => ?_)
  refine k_iload0 (pc := 0) F dJ6_numberOfTrailingZeros_0f7a4_0 ?_
  refine k_iconst (pc := 1) (v := -1) F dJ6_numberOfTrailingZeros_0f7a4_1 (by decide) ?_
  refine k_ixor (pc := 2) F dJ6_numberOfTrailingZeros_0f7a4_2 ?_
  refine k_iload0 (pc := 3) F dJ6_numberOfTrailingZeros_0f7a4_3 ?_
  refine k_iconst (pc := 4) (v := nI 1) F dJ6_numberOfTrailingZeros_0f7a4_4 (by decide) ?_
  refine k_isub (pc := 5) F dJ6_numberOfTrailingZeros_0f7a4_5 ?_
  refine k_iand (pc := 6) F dJ6_numberOfTrailingZeros_0f7a4_6 ?_
  refine k_top (y := nI (2 ^ tz S - 1)) (ntz_low S hS h0) ?_
  have h8 := (lx1 S hS h0).1
  rcases (show tz S = 0 ∨ tz S = 1 ∨ tz S = 2 ∨ tz S = 3 ∨ tz S = 4 ∨ tz S = 5 ∨ tz S = 6 ∨ tz S = 7 by omega) with e | e | e | e | e | e | e | e
  · rw [e]
    show Z 7 _ [.int (nI 0)] _ _
    refine k_istore0 (pc := 7) F (by decide) dJ6_numberOfTrailingZeros_0f7a4_7 ?_
    refine k_iload0 (pc := 8) F dJ6_numberOfTrailingZeros_0f7a4_8 ?_
    refine k_if_gt (pc := 9) (tgt := 17) F dJ6_numberOfTrailingZeros_0f7a4_9 (by decide) (fun h => absurd h (by decide)) (fun _ => ?_)
    refine k_iload0 (pc := 12) F dJ6_numberOfTrailingZeros_0f7a4_12 ?_
    refine k_bipush (pc := 13) (v := nI 32) F dJ6_numberOfTrailingZeros_0f7a4_13 (by decide) ?_
    refine k_iandN (pc := 15) F dJ6_numberOfTrailingZeros_0f7a4_15 ?_
    refine k_iret (pc := 16) F dJ6_numberOfTrailingZeros_0f7a4_16 ?_
    exact ⟨by first | (rw [e]; rfl) | rw [e], rfl, rfl⟩
  · rw [e]
    show Z 7 _ [.int (nI 1)] _ _
    refine k_istore0 (pc := 7) F (by decide) dJ6_numberOfTrailingZeros_0f7a4_7 ?_
    refine k_iload0 (pc := 8) F dJ6_numberOfTrailingZeros_0f7a4_8 ?_
    refine k_if_gt (pc := 9) (tgt := 17) F dJ6_numberOfTrailingZeros_0f7a4_9 (by decide) (fun _ => ?_) (fun h => absurd h (by decide))
    refine k_iconst (pc := 17) (v := nI 1) F dJ6_numberOfTrailingZeros_0f7a4_17 (by decide) ?_
    refine k_istore1 (pc := 18) F (by decide) dJ6_numberOfTrailingZeros_0f7a4_18 ?_
    refine k_iload0 (pc := 19) F dJ6_numberOfTrailingZeros_0f7a4_19 ?_
    refine k_ldcw (pc := 20) (v := 65536) F dJ6_numberOfTrailingZeros_0f7a4_20 w_534 ?_
    refine k_icmp_le (pc := 23) (tgt := 34) F dJ6_numberOfTrailingZeros_0f7a4_23 (by decide) (fun _ => ?_) (fun h => absurd h (by decide))
    refine k_iload0 (pc := 34) F dJ6_numberOfTrailingZeros_0f7a4_34 ?_
    refine k_sipush (pc := 35) (v := nI 256) F dJ6_numberOfTrailingZeros_0f7a4_35 (by decide) ?_
    refine k_icmp_le (pc := 38) (tgt := 49) F dJ6_numberOfTrailingZeros_0f7a4_38 (by decide) (fun _ => ?_) (fun h => absurd h (by decide))
    refine k_iload0 (pc := 49) F dJ6_numberOfTrailingZeros_0f7a4_49 ?_
    refine k_bipush (pc := 50) (v := nI 16) F dJ6_numberOfTrailingZeros_0f7a4_50 (by decide) ?_
    refine k_icmp_le (pc := 52) (tgt := 62) F dJ6_numberOfTrailingZeros_0f7a4_52 (by decide) (fun _ => ?_) (fun h => absurd h (by decide))
    refine k_iload0 (pc := 62) F dJ6_numberOfTrailingZeros_0f7a4_62 ?_
    refine k_iconst (pc := 63) (v := nI 4) F dJ6_numberOfTrailingZeros_0f7a4_63 (by decide) ?_
    refine k_icmp_le (pc := 64) (tgt := 74) F dJ6_numberOfTrailingZeros_0f7a4_64 (by decide) (fun _ => ?_) (fun h => absurd h (by decide))
    refine k_iload1 (pc := 74) F dJ6_numberOfTrailingZeros_0f7a4_74 ?_
    refine k_iload0 (pc := 75) F dJ6_numberOfTrailingZeros_0f7a4_75 ?_
    refine k_iconst (pc := 76) (v := nI 1) F dJ6_numberOfTrailingZeros_0f7a4_76 (by decide) ?_
    refine k_iushr (pc := 77) F dJ6_numberOfTrailingZeros_0f7a4_77 ?_
    refine k_top (y := nI 0) (by decide) ?_
    refine k_iaddN (pc := 78) F dJ6_numberOfTrailingZeros_0f7a4_78 ?_
    refine k_iret (pc := 79) F dJ6_numberOfTrailingZeros_0f7a4_79 ?_
    exact ⟨by first | (rw [e]; rfl) | rw [e], rfl, rfl⟩
  · rw [e]
    show Z 7 _ [.int (nI 3)] _ _
    refine k_istore0 (pc := 7) F (by decide) dJ6_numberOfTrailingZeros_0f7a4_7 ?_
    refine k_iload0 (pc := 8) F dJ6_numberOfTrailingZeros_0f7a4_8 ?_
    refine k_if_gt (pc := 9) (tgt := 17) F dJ6_numberOfTrailingZeros_0f7a4_9 (by decide) (fun _ => ?_) (fun h => absurd h (by decide))
    refine k_iconst (pc := 17) (v := nI 1) F dJ6_numberOfTrailingZeros_0f7a4_17 (by decide) ?_
    refine k_istore1 (pc := 18) F (by decide) dJ6_numberOfTrailingZeros_0f7a4_18 ?_
    refine k_iload0 (pc := 19) F dJ6_numberOfTrailingZeros_0f7a4_19 ?_
    refine k_ldcw (pc := 20) (v := 65536) F dJ6_numberOfTrailingZeros_0f7a4_20 w_534 ?_
    refine k_icmp_le (pc := 23) (tgt := 34) F dJ6_numberOfTrailingZeros_0f7a4_23 (by decide) (fun _ => ?_) (fun h => absurd h (by decide))
    refine k_iload0 (pc := 34) F dJ6_numberOfTrailingZeros_0f7a4_34 ?_
    refine k_sipush (pc := 35) (v := nI 256) F dJ6_numberOfTrailingZeros_0f7a4_35 (by decide) ?_
    refine k_icmp_le (pc := 38) (tgt := 49) F dJ6_numberOfTrailingZeros_0f7a4_38 (by decide) (fun _ => ?_) (fun h => absurd h (by decide))
    refine k_iload0 (pc := 49) F dJ6_numberOfTrailingZeros_0f7a4_49 ?_
    refine k_bipush (pc := 50) (v := nI 16) F dJ6_numberOfTrailingZeros_0f7a4_50 (by decide) ?_
    refine k_icmp_le (pc := 52) (tgt := 62) F dJ6_numberOfTrailingZeros_0f7a4_52 (by decide) (fun _ => ?_) (fun h => absurd h (by decide))
    refine k_iload0 (pc := 62) F dJ6_numberOfTrailingZeros_0f7a4_62 ?_
    refine k_iconst (pc := 63) (v := nI 4) F dJ6_numberOfTrailingZeros_0f7a4_63 (by decide) ?_
    refine k_icmp_le (pc := 64) (tgt := 74) F dJ6_numberOfTrailingZeros_0f7a4_64 (by decide) (fun _ => ?_) (fun h => absurd h (by decide))
    refine k_iload1 (pc := 74) F dJ6_numberOfTrailingZeros_0f7a4_74 ?_
    refine k_iload0 (pc := 75) F dJ6_numberOfTrailingZeros_0f7a4_75 ?_
    refine k_iconst (pc := 76) (v := nI 1) F dJ6_numberOfTrailingZeros_0f7a4_76 (by decide) ?_
    refine k_iushr (pc := 77) F dJ6_numberOfTrailingZeros_0f7a4_77 ?_
    refine k_top (y := nI 1) (by decide) ?_
    refine k_iaddN (pc := 78) F dJ6_numberOfTrailingZeros_0f7a4_78 ?_
    refine k_iret (pc := 79) F dJ6_numberOfTrailingZeros_0f7a4_79 ?_
    exact ⟨by first | (rw [e]; rfl) | rw [e], rfl, rfl⟩
  · rw [e]
    show Z 7 _ [.int (nI 7)] _ _
    refine k_istore0 (pc := 7) F (by decide) dJ6_numberOfTrailingZeros_0f7a4_7 ?_
    refine k_iload0 (pc := 8) F dJ6_numberOfTrailingZeros_0f7a4_8 ?_
    refine k_if_gt (pc := 9) (tgt := 17) F dJ6_numberOfTrailingZeros_0f7a4_9 (by decide) (fun _ => ?_) (fun h => absurd h (by decide))
    refine k_iconst (pc := 17) (v := nI 1) F dJ6_numberOfTrailingZeros_0f7a4_17 (by decide) ?_
    refine k_istore1 (pc := 18) F (by decide) dJ6_numberOfTrailingZeros_0f7a4_18 ?_
    refine k_iload0 (pc := 19) F dJ6_numberOfTrailingZeros_0f7a4_19 ?_
    refine k_ldcw (pc := 20) (v := 65536) F dJ6_numberOfTrailingZeros_0f7a4_20 w_534 ?_
    refine k_icmp_le (pc := 23) (tgt := 34) F dJ6_numberOfTrailingZeros_0f7a4_23 (by decide) (fun _ => ?_) (fun h => absurd h (by decide))
    refine k_iload0 (pc := 34) F dJ6_numberOfTrailingZeros_0f7a4_34 ?_
    refine k_sipush (pc := 35) (v := nI 256) F dJ6_numberOfTrailingZeros_0f7a4_35 (by decide) ?_
    refine k_icmp_le (pc := 38) (tgt := 49) F dJ6_numberOfTrailingZeros_0f7a4_38 (by decide) (fun _ => ?_) (fun h => absurd h (by decide))
    refine k_iload0 (pc := 49) F dJ6_numberOfTrailingZeros_0f7a4_49 ?_
    refine k_bipush (pc := 50) (v := nI 16) F dJ6_numberOfTrailingZeros_0f7a4_50 (by decide) ?_
    refine k_icmp_le (pc := 52) (tgt := 62) F dJ6_numberOfTrailingZeros_0f7a4_52 (by decide) (fun _ => ?_) (fun h => absurd h (by decide))
    refine k_iload0 (pc := 62) F dJ6_numberOfTrailingZeros_0f7a4_62 ?_
    refine k_iconst (pc := 63) (v := nI 4) F dJ6_numberOfTrailingZeros_0f7a4_63 (by decide) ?_
    refine k_icmp_le (pc := 64) (tgt := 74) F dJ6_numberOfTrailingZeros_0f7a4_64 (by decide) (fun h => absurd h (by decide)) (fun _ => ?_)
    refine k_iinc1 (pc := 67) (v := nI 3) F (by decide) dJ6_numberOfTrailingZeros_0f7a4_67 (by decide) ?_
    refine k_iload0 (pc := 70) F dJ6_numberOfTrailingZeros_0f7a4_70 ?_
    refine k_iconst (pc := 71) (v := nI 2) F dJ6_numberOfTrailingZeros_0f7a4_71 (by decide) ?_
    refine k_iushr (pc := 72) F dJ6_numberOfTrailingZeros_0f7a4_72 ?_
    refine k_top (y := nI 1) (by decide) ?_
    refine k_istore0 (pc := 73) F (by decide) dJ6_numberOfTrailingZeros_0f7a4_73 ?_
    refine k_iload1 (pc := 74) F dJ6_numberOfTrailingZeros_0f7a4_74 ?_
    refine k_iload0 (pc := 75) F dJ6_numberOfTrailingZeros_0f7a4_75 ?_
    refine k_iconst (pc := 76) (v := nI 1) F dJ6_numberOfTrailingZeros_0f7a4_76 (by decide) ?_
    refine k_iushr (pc := 77) F dJ6_numberOfTrailingZeros_0f7a4_77 ?_
    refine k_top (y := nI 0) (by decide) ?_
    refine k_iaddN (pc := 78) F dJ6_numberOfTrailingZeros_0f7a4_78 ?_
    refine k_iret (pc := 79) F dJ6_numberOfTrailingZeros_0f7a4_79 ?_
    exact ⟨by first | (rw [e]; rfl) | rw [e], rfl, rfl⟩
  · rw [e]
    show Z 7 _ [.int (nI 15)] _ _
    refine k_istore0 (pc := 7) F (by decide) dJ6_numberOfTrailingZeros_0f7a4_7 ?_
    refine k_iload0 (pc := 8) F dJ6_numberOfTrailingZeros_0f7a4_8 ?_
    refine k_if_gt (pc := 9) (tgt := 17) F dJ6_numberOfTrailingZeros_0f7a4_9 (by decide) (fun _ => ?_) (fun h => absurd h (by decide))
    refine k_iconst (pc := 17) (v := nI 1) F dJ6_numberOfTrailingZeros_0f7a4_17 (by decide) ?_
    refine k_istore1 (pc := 18) F (by decide) dJ6_numberOfTrailingZeros_0f7a4_18 ?_
    refine k_iload0 (pc := 19) F dJ6_numberOfTrailingZeros_0f7a4_19 ?_
    refine k_ldcw (pc := 20) (v := 65536) F dJ6_numberOfTrailingZeros_0f7a4_20 w_534 ?_
    refine k_icmp_le (pc := 23) (tgt := 34) F dJ6_numberOfTrailingZeros_0f7a4_23 (by decide) (fun _ => ?_) (fun h => absurd h (by decide))
    refine k_iload0 (pc := 34) F dJ6_numberOfTrailingZeros_0f7a4_34 ?_
    refine k_sipush (pc := 35) (v := nI 256) F dJ6_numberOfTrailingZeros_0f7a4_35 (by decide) ?_
    refine k_icmp_le (pc := 38) (tgt := 49) F dJ6_numberOfTrailingZeros_0f7a4_38 (by decide) (fun _ => ?_) (fun h => absurd h (by decide))
    refine k_iload0 (pc := 49) F dJ6_numberOfTrailingZeros_0f7a4_49 ?_
    refine k_bipush (pc := 50) (v := nI 16) F dJ6_numberOfTrailingZeros_0f7a4_50 (by decide) ?_
    refine k_icmp_le (pc := 52) (tgt := 62) F dJ6_numberOfTrailingZeros_0f7a4_52 (by decide) (fun _ => ?_) (fun h => absurd h (by decide))
    refine k_iload0 (pc := 62) F dJ6_numberOfTrailingZeros_0f7a4_62 ?_
    refine k_iconst (pc := 63) (v := nI 4) F dJ6_numberOfTrailingZeros_0f7a4_63 (by decide) ?_
    refine k_icmp_le (pc := 64) (tgt := 74) F dJ6_numberOfTrailingZeros_0f7a4_64 (by decide) (fun h => absurd h (by decide)) (fun _ => ?_)
    refine k_iinc1 (pc := 67) (v := nI 3) F (by decide) dJ6_numberOfTrailingZeros_0f7a4_67 (by decide) ?_
    refine k_iload0 (pc := 70) F dJ6_numberOfTrailingZeros_0f7a4_70 ?_
    refine k_iconst (pc := 71) (v := nI 2) F dJ6_numberOfTrailingZeros_0f7a4_71 (by decide) ?_
    refine k_iushr (pc := 72) F dJ6_numberOfTrailingZeros_0f7a4_72 ?_
    refine k_top (y := nI 3) (by decide) ?_
    refine k_istore0 (pc := 73) F (by decide) dJ6_numberOfTrailingZeros_0f7a4_73 ?_
    refine k_iload1 (pc := 74) F dJ6_numberOfTrailingZeros_0f7a4_74 ?_
    refine k_iload0 (pc := 75) F dJ6_numberOfTrailingZeros_0f7a4_75 ?_
    refine k_iconst (pc := 76) (v := nI 1) F dJ6_numberOfTrailingZeros_0f7a4_76 (by decide) ?_
    refine k_iushr (pc := 77) F dJ6_numberOfTrailingZeros_0f7a4_77 ?_
    refine k_top (y := nI 1) (by decide) ?_
    refine k_iaddN (pc := 78) F dJ6_numberOfTrailingZeros_0f7a4_78 ?_
    refine k_iret (pc := 79) F dJ6_numberOfTrailingZeros_0f7a4_79 ?_
    exact ⟨by first | (rw [e]; rfl) | rw [e], rfl, rfl⟩
  · rw [e]
    show Z 7 _ [.int (nI 31)] _ _
    refine k_istore0 (pc := 7) F (by decide) dJ6_numberOfTrailingZeros_0f7a4_7 ?_
    refine k_iload0 (pc := 8) F dJ6_numberOfTrailingZeros_0f7a4_8 ?_
    refine k_if_gt (pc := 9) (tgt := 17) F dJ6_numberOfTrailingZeros_0f7a4_9 (by decide) (fun _ => ?_) (fun h => absurd h (by decide))
    refine k_iconst (pc := 17) (v := nI 1) F dJ6_numberOfTrailingZeros_0f7a4_17 (by decide) ?_
    refine k_istore1 (pc := 18) F (by decide) dJ6_numberOfTrailingZeros_0f7a4_18 ?_
    refine k_iload0 (pc := 19) F dJ6_numberOfTrailingZeros_0f7a4_19 ?_
    refine k_ldcw (pc := 20) (v := 65536) F dJ6_numberOfTrailingZeros_0f7a4_20 w_534 ?_
    refine k_icmp_le (pc := 23) (tgt := 34) F dJ6_numberOfTrailingZeros_0f7a4_23 (by decide) (fun _ => ?_) (fun h => absurd h (by decide))
    refine k_iload0 (pc := 34) F dJ6_numberOfTrailingZeros_0f7a4_34 ?_
    refine k_sipush (pc := 35) (v := nI 256) F dJ6_numberOfTrailingZeros_0f7a4_35 (by decide) ?_
    refine k_icmp_le (pc := 38) (tgt := 49) F dJ6_numberOfTrailingZeros_0f7a4_38 (by decide) (fun _ => ?_) (fun h => absurd h (by decide))
    refine k_iload0 (pc := 49) F dJ6_numberOfTrailingZeros_0f7a4_49 ?_
    refine k_bipush (pc := 50) (v := nI 16) F dJ6_numberOfTrailingZeros_0f7a4_50 (by decide) ?_
    refine k_icmp_le (pc := 52) (tgt := 62) F dJ6_numberOfTrailingZeros_0f7a4_52 (by decide) (fun h => absurd h (by decide)) (fun _ => ?_)
    refine k_iinc1 (pc := 55) (v := nI 5) F (by decide) dJ6_numberOfTrailingZeros_0f7a4_55 (by decide) ?_
    refine k_iload0 (pc := 58) F dJ6_numberOfTrailingZeros_0f7a4_58 ?_
    refine k_iconst (pc := 59) (v := nI 4) F dJ6_numberOfTrailingZeros_0f7a4_59 (by decide) ?_
    refine k_iushr (pc := 60) F dJ6_numberOfTrailingZeros_0f7a4_60 ?_
    refine k_top (y := nI 1) (by decide) ?_
    refine k_istore0 (pc := 61) F (by decide) dJ6_numberOfTrailingZeros_0f7a4_61 ?_
    refine k_iload0 (pc := 62) F dJ6_numberOfTrailingZeros_0f7a4_62 ?_
    refine k_iconst (pc := 63) (v := nI 4) F dJ6_numberOfTrailingZeros_0f7a4_63 (by decide) ?_
    refine k_icmp_le (pc := 64) (tgt := 74) F dJ6_numberOfTrailingZeros_0f7a4_64 (by decide) (fun _ => ?_) (fun h => absurd h (by decide))
    refine k_iload1 (pc := 74) F dJ6_numberOfTrailingZeros_0f7a4_74 ?_
    refine k_iload0 (pc := 75) F dJ6_numberOfTrailingZeros_0f7a4_75 ?_
    refine k_iconst (pc := 76) (v := nI 1) F dJ6_numberOfTrailingZeros_0f7a4_76 (by decide) ?_
    refine k_iushr (pc := 77) F dJ6_numberOfTrailingZeros_0f7a4_77 ?_
    refine k_top (y := nI 0) (by decide) ?_
    refine k_iaddN (pc := 78) F dJ6_numberOfTrailingZeros_0f7a4_78 ?_
    refine k_iret (pc := 79) F dJ6_numberOfTrailingZeros_0f7a4_79 ?_
    exact ⟨by first | (rw [e]; rfl) | rw [e], rfl, rfl⟩
  · rw [e]
    show Z 7 _ [.int (nI 63)] _ _
    refine k_istore0 (pc := 7) F (by decide) dJ6_numberOfTrailingZeros_0f7a4_7 ?_
    refine k_iload0 (pc := 8) F dJ6_numberOfTrailingZeros_0f7a4_8 ?_
    refine k_if_gt (pc := 9) (tgt := 17) F dJ6_numberOfTrailingZeros_0f7a4_9 (by decide) (fun _ => ?_) (fun h => absurd h (by decide))
    refine k_iconst (pc := 17) (v := nI 1) F dJ6_numberOfTrailingZeros_0f7a4_17 (by decide) ?_
    refine k_istore1 (pc := 18) F (by decide) dJ6_numberOfTrailingZeros_0f7a4_18 ?_
    refine k_iload0 (pc := 19) F dJ6_numberOfTrailingZeros_0f7a4_19 ?_
    refine k_ldcw (pc := 20) (v := 65536) F dJ6_numberOfTrailingZeros_0f7a4_20 w_534 ?_
    refine k_icmp_le (pc := 23) (tgt := 34) F dJ6_numberOfTrailingZeros_0f7a4_23 (by decide) (fun _ => ?_) (fun h => absurd h (by decide))
    refine k_iload0 (pc := 34) F dJ6_numberOfTrailingZeros_0f7a4_34 ?_
    refine k_sipush (pc := 35) (v := nI 256) F dJ6_numberOfTrailingZeros_0f7a4_35 (by decide) ?_
    refine k_icmp_le (pc := 38) (tgt := 49) F dJ6_numberOfTrailingZeros_0f7a4_38 (by decide) (fun _ => ?_) (fun h => absurd h (by decide))
    refine k_iload0 (pc := 49) F dJ6_numberOfTrailingZeros_0f7a4_49 ?_
    refine k_bipush (pc := 50) (v := nI 16) F dJ6_numberOfTrailingZeros_0f7a4_50 (by decide) ?_
    refine k_icmp_le (pc := 52) (tgt := 62) F dJ6_numberOfTrailingZeros_0f7a4_52 (by decide) (fun h => absurd h (by decide)) (fun _ => ?_)
    refine k_iinc1 (pc := 55) (v := nI 5) F (by decide) dJ6_numberOfTrailingZeros_0f7a4_55 (by decide) ?_
    refine k_iload0 (pc := 58) F dJ6_numberOfTrailingZeros_0f7a4_58 ?_
    refine k_iconst (pc := 59) (v := nI 4) F dJ6_numberOfTrailingZeros_0f7a4_59 (by decide) ?_
    refine k_iushr (pc := 60) F dJ6_numberOfTrailingZeros_0f7a4_60 ?_
    refine k_top (y := nI 3) (by decide) ?_
    refine k_istore0 (pc := 61) F (by decide) dJ6_numberOfTrailingZeros_0f7a4_61 ?_
    refine k_iload0 (pc := 62) F dJ6_numberOfTrailingZeros_0f7a4_62 ?_
    refine k_iconst (pc := 63) (v := nI 4) F dJ6_numberOfTrailingZeros_0f7a4_63 (by decide) ?_
    refine k_icmp_le (pc := 64) (tgt := 74) F dJ6_numberOfTrailingZeros_0f7a4_64 (by decide) (fun _ => ?_) (fun h => absurd h (by decide))
    refine k_iload1 (pc := 74) F dJ6_numberOfTrailingZeros_0f7a4_74 ?_
    refine k_iload0 (pc := 75) F dJ6_numberOfTrailingZeros_0f7a4_75 ?_
    refine k_iconst (pc := 76) (v := nI 1) F dJ6_numberOfTrailingZeros_0f7a4_76 (by decide) ?_
    refine k_iushr (pc := 77) F dJ6_numberOfTrailingZeros_0f7a4_77 ?_
    refine k_top (y := nI 1) (by decide) ?_
    refine k_iaddN (pc := 78) F dJ6_numberOfTrailingZeros_0f7a4_78 ?_
    refine k_iret (pc := 79) F dJ6_numberOfTrailingZeros_0f7a4_79 ?_
    exact ⟨by first | (rw [e]; rfl) | rw [e], rfl, rfl⟩
  · rw [e]
    show Z 7 _ [.int (nI 127)] _ _
    refine k_istore0 (pc := 7) F (by decide) dJ6_numberOfTrailingZeros_0f7a4_7 ?_
    refine k_iload0 (pc := 8) F dJ6_numberOfTrailingZeros_0f7a4_8 ?_
    refine k_if_gt (pc := 9) (tgt := 17) F dJ6_numberOfTrailingZeros_0f7a4_9 (by decide) (fun _ => ?_) (fun h => absurd h (by decide))
    refine k_iconst (pc := 17) (v := nI 1) F dJ6_numberOfTrailingZeros_0f7a4_17 (by decide) ?_
    refine k_istore1 (pc := 18) F (by decide) dJ6_numberOfTrailingZeros_0f7a4_18 ?_
    refine k_iload0 (pc := 19) F dJ6_numberOfTrailingZeros_0f7a4_19 ?_
    refine k_ldcw (pc := 20) (v := 65536) F dJ6_numberOfTrailingZeros_0f7a4_20 w_534 ?_
    refine k_icmp_le (pc := 23) (tgt := 34) F dJ6_numberOfTrailingZeros_0f7a4_23 (by decide) (fun _ => ?_) (fun h => absurd h (by decide))
    refine k_iload0 (pc := 34) F dJ6_numberOfTrailingZeros_0f7a4_34 ?_
    refine k_sipush (pc := 35) (v := nI 256) F dJ6_numberOfTrailingZeros_0f7a4_35 (by decide) ?_
    refine k_icmp_le (pc := 38) (tgt := 49) F dJ6_numberOfTrailingZeros_0f7a4_38 (by decide) (fun _ => ?_) (fun h => absurd h (by decide))
    refine k_iload0 (pc := 49) F dJ6_numberOfTrailingZeros_0f7a4_49 ?_
    refine k_bipush (pc := 50) (v := nI 16) F dJ6_numberOfTrailingZeros_0f7a4_50 (by decide) ?_
    refine k_icmp_le (pc := 52) (tgt := 62) F dJ6_numberOfTrailingZeros_0f7a4_52 (by decide) (fun h => absurd h (by decide)) (fun _ => ?_)
    refine k_iinc1 (pc := 55) (v := nI 5) F (by decide) dJ6_numberOfTrailingZeros_0f7a4_55 (by decide) ?_
    refine k_iload0 (pc := 58) F dJ6_numberOfTrailingZeros_0f7a4_58 ?_
    refine k_iconst (pc := 59) (v := nI 4) F dJ6_numberOfTrailingZeros_0f7a4_59 (by decide) ?_
    refine k_iushr (pc := 60) F dJ6_numberOfTrailingZeros_0f7a4_60 ?_
    refine k_top (y := nI 7) (by decide) ?_
    refine k_istore0 (pc := 61) F (by decide) dJ6_numberOfTrailingZeros_0f7a4_61 ?_
    refine k_iload0 (pc := 62) F dJ6_numberOfTrailingZeros_0f7a4_62 ?_
    refine k_iconst (pc := 63) (v := nI 4) F dJ6_numberOfTrailingZeros_0f7a4_63 (by decide) ?_
    refine k_icmp_le (pc := 64) (tgt := 74) F dJ6_numberOfTrailingZeros_0f7a4_64 (by decide) (fun h => absurd h (by decide)) (fun _ => ?_)
    refine k_iinc1 (pc := 67) (v := nI 7) F (by decide) dJ6_numberOfTrailingZeros_0f7a4_67 (by decide) ?_
    refine k_iload0 (pc := 70) F dJ6_numberOfTrailingZeros_0f7a4_70 ?_
    refine k_iconst (pc := 71) (v := nI 2) F dJ6_numberOfTrailingZeros_0f7a4_71 (by decide) ?_
    refine k_iushr (pc := 72) F dJ6_numberOfTrailingZeros_0f7a4_72 ?_
    refine k_top (y := nI 1) (by decide) ?_
    refine k_istore0 (pc := 73) F (by decide) dJ6_numberOfTrailingZeros_0f7a4_73 ?_
    refine k_iload1 (pc := 74) F dJ6_numberOfTrailingZeros_0f7a4_74 ?_
    refine k_iload0 (pc := 75) F dJ6_numberOfTrailingZeros_0f7a4_75 ?_
    refine k_iconst (pc := 76) (v := nI 1) F dJ6_numberOfTrailingZeros_0f7a4_76 (by decide) ?_
    refine k_iushr (pc := 77) F dJ6_numberOfTrailingZeros_0f7a4_77 ?_
    refine k_top (y := nI 0) (by decide) ?_
    refine k_iaddN (pc := 78) F dJ6_numberOfTrailingZeros_0f7a4_78 ?_
    refine k_iret (pc := 79) F dJ6_numberOfTrailingZeros_0f7a4_79 ?_
    exact ⟨by first | (rw [e]; rfl) | rw [e], rfl, rfl⟩

set_option maxHeartbeats 4000000 in
theorem c_X5_sumWithin {l : Launch} {D : va_G} {cI : ClassId} {ad : Nat → Nat} {iv : IV} {ar : AR} {m : Nat} {T : Nat → Nat → Int32} (hn : iv 7 = nI m) (hm : m ≤ 8) (hT : okTb m T) (hB : TBc m T ar) (hY : ∀ i j, T i j = T j i) {S : Nat} (h0 : 0 < S) (hS : S < 2 ^ m) (hW : ar 15 (lo S) = wI T m (lo S)) : Ct l D cI (cw cI ad) yX5_sumWithin cX5_sumWithin 7 (some .int) 1 21 [.ref (ad 5), .int (nI S)] iv ar (rI (wI T m S) iv ar) := by
  refine Ct.of (lv := [some (.ref (ad 5)), some (.int (nI S)), none, none, none, none, none]) cw_ok (plainFor_of_name (by decide)) (Nat.le_of_ble_eq_true rfl) 5 rfl rfl (fun Z F => ?_)
  have hp := pow_256 hm
  have hl := lx1 S (by omega) h0
  have htz := tz_lt h0 (by omega) hS
  have hps : psF (tnT T) S m = _ := psF_lo h0 (by omega) hm (fun i j _ _ => by unfold tnT; rw [hY]) htz
  have hms : psF (msT T) S m = _ := psF_lo h0 (by omega) hm (fun i j _ _ => by unfold msT; rw [hY]) htz
  refine k_iload1 (pc := 0) F dX5_sumWithin_0 ?_
  refine k_iload1 (pc := 1) F dX5_sumWithin_1 ?_
  refine k_iconst (pc := 2) (v := nI 1) F dX5_sumWithin_2 (by decide) ?_
  refine k_isubN (pc := 3) F dX5_sumWithin_3 (by omega) ?_
  refine k_iandN (pc := 4) F dX5_sumWithin_4 ?_
  refine k_top (y := nI (lo S)) rfl ?_
  refine k_istore2 (pc := 5) F (by decide) dX5_sumWithin_5 ?_
  refine k_iload1 (pc := 6) F dX5_sumWithin_6 ?_
  refine k_callS (pc := 7) F (c_J6_numberOfTrailingZeros_0f7a4 cw_ok h0 (by omega)) ok_X5_72 rfl rfl (by decide) (by decide) (Nat.le_of_ble_eq_true rfl) dX5_sumWithin_7 (rI.use ?_)
  refine k_istore3 (pc := 10) F (by decide) dX5_sumWithin_10 ?_
  refine k_aload0 (pc := 11) F dX5_sumWithin_11 ?_
  refine g_X5_within (pc := 12) F dX5_sumWithin_12 ?_
  refine k_iload2 (pc := 15) F dX5_sumWithin_15 ?_
  refine l_c15 (pc := 16) F (by omega) (hW) dX5_sumWithin_16 ?_
  refine k_istore4 (pc := 17) F (by decide) dX5_sumWithin_17 ?_
  refine k_iload4 (pc := 19) F dX5_sumWithin_19 ?_
  refine k_iconst (pc := 21) (v := -1) F dX5_sumWithin_21 (by decide) ?_
  refine k_icmp_ne (pc := 22) (tgt := 27) F dX5_sumWithin_22 (by decide) (fun h22 => ?_) (fun h22 => ?_)
  · have hz : psF (msT T) (lo S) m = 0 := Decidable.byContradiction (fun q => h22 ((wI_m1 hT hm).mpr q))
    have ew : wI T m (lo S) = nI (psF (tnT T) (lo S) m) := if_pos hz
    rw [ew]
    refine k_iload3 (pc := 27) F dX5_sumWithin_27 ?_
    refine k_iconst (pc := 28) (v := nI 1) F dX5_sumWithin_28 (by decide) ?_
    refine k_iaddN (pc := 29) F dX5_sumWithin_29 ?_
    refine k_istore5 (pc := 30) F (by decide) dX5_sumWithin_30 ?_
    have L32 : ∀ (fu : Nat) (k : Nat), m - k < fu → tz S < k → k ≤ m → (smN (fun q => inb (lo S) q (msT T (tz S) q)) k) = 0 → Z 32 [some (.ref (ad 5)), some (.int (nI S)), some (.int (nI (lo S))), some (.int (nI (tz S))), some (.int (nI (psF (tnT T) (lo S) m + (smN (fun q => inb (lo S) q (tnT T (tz S) q)) k)))), some (.int (nI k)), none] [] iv ar := by
      intro fu
      induction fu with
      | zero => intro k hfu; exact absurd hfu (Nat.not_lt_zero _)
      | succ fu ih =>
        intro k hfu hk1 hk hmi
        refine k_iload5 (pc := 32) F dX5_sumWithin_32 ?_
        refine k_aload0 (pc := 34) F dX5_sumWithin_34 ?_
        refine g_X5_size (pc := 35) F (hn) dX5_sumWithin_35 ?_
        refine k_icmp_geN (pc := 38) (tgt := 86) F dX5_sumWithin_38 (by decide) (by omega) (by omega) (fun h38 => ?_) (fun h38 => ?_)
        · have e : m = k := by omega
          subst e
          refine k_iload4 (pc := 86) F dX5_sumWithin_86 ?_
          refine k_iret (pc := 88) F dX5_sumWithin_88 ?_
          exact ⟨by rw [wI, if_pos (by omega), hps], rfl, rfl⟩
        · have hbl := bit_le (a := lo S) (k := k)
          refine k_iload2 (pc := 41) F dX5_sumWithin_41 ?_
          refine k_iload5 (pc := 42) F dX5_sumWithin_42 ?_
          refine k_ishrN (pc := 44) F dX5_sumWithin_44 (by omega) (by omega) ?_
          refine k_iconst (pc := 45) (v := nI 1) F dX5_sumWithin_45 (by decide) ?_
          refine k_iandN (pc := 46) F dX5_sumWithin_46 ?_
          refine k_iconst (pc := 47) (v := nI 1) F dX5_sumWithin_47 (by decide) ?_
          refine k_icmp_neN (pc := 48) (tgt := 80) F dX5_sumWithin_48 (by decide) (by omega) (by omega) (fun h48 => ?_) (fun h48 => ?_)
          · have hbit : ¬ (lo S).testBit k = true := fun q => h48 (bit1.mpr q)
            refine k_iinc5 (pc := 80) F (by decide) dX5_sumWithin_80 (inc_N _) ?_
            refine k_goto (pc := 83) (tgt := 32) F dX5_sumWithin_83 (by decide) ?_
            have e1 : (smN (fun q => inb (lo S) q (tnT T (tz S) q)) (k + 1)) = (smN (fun q => inb (lo S) q (tnT T (tz S) q)) k) := by
              rw [smN]
              unfold inb
              rw [if_neg hbit, Nat.add_zero]
            have e2 : (smN (fun q => inb (lo S) q (msT T (tz S) q)) (k + 1)) = 0 := by
              rw [smN, hmi]
              unfold inb
              rw [if_neg hbit]
            have kk := ih (k + 1) (by omega) (by omega) (by omega) e2
            rw [e1] at kk
            exact kk
          · have hbit := bit1.mp h48
            refine k_aload0 (pc := 51) F dX5_sumWithin_51 ?_
            refine g_X5_table (pc := 52) F dX5_sumWithin_52 ?_
            refine k_iload3 (pc := 55) F dX5_sumWithin_55 ?_
            refine k_bipush (pc := 56) (v := nI 8) F dX5_sumWithin_56 (by decide) ?_
            refine k_imulN (pc := 58) F dX5_sumWithin_58 ?_
            refine k_iload5 (pc := 59) F dX5_sumWithin_59 ?_
            refine k_iaddN (pc := 61) F dX5_sumWithin_61 ?_
            refine l_c13 (pc := 62) F (by omega) (hB (tz S) k htz (by omega) (by omega)) dX5_sumWithin_62 ?_
            refine k_istore6 (pc := 63) F (by decide) dX5_sumWithin_63 ?_
            refine k_iload6 (pc := 65) F dX5_sumWithin_65 ?_
            refine k_iconst (pc := 67) (v := -1) F dX5_sumWithin_67 (by decide) ?_
            refine k_icmp_ne (pc := 68) (tgt := 73) F dX5_sumWithin_68 (by decide) (fun h68 => ?_) (fun h68 => ?_)
            · obtain ⟨x, hx1, ex⟩ := (hT (tz S) k htz (by omega) (by omega)).get h68
              rw [ex]
              refine k_iload4 (pc := 73) F dX5_sumWithin_73 ?_
              refine k_iload6 (pc := 75) F dX5_sumWithin_75 ?_
              refine k_iaddN (pc := 77) F dX5_sumWithin_77 ?_
              refine k_istore4 (pc := 78) F (by decide) dX5_sumWithin_78 ?_
              refine k_iinc5 (pc := 80) F (by decide) dX5_sumWithin_80 (inc_N _) ?_
              refine k_goto (pc := 83) (tgt := 32) F dX5_sumWithin_83 (by decide) ?_
              refine k_fg6 (pc := 32) F ?_
              have e1 : (smN (fun q => inb (lo S) q (tnT T (tz S) q)) (k + 1)) = (smN (fun q => inb (lo S) q (tnT T (tz S) q)) k) + x := by
                rw [smN]
                unfold inb
                rw [if_pos hbit, tnT, ex, nI_clamp (by omega)]
              have e2 : (smN (fun q => inb (lo S) q (msT T (tz S) q)) (k + 1)) = 0 := by
                rw [smN, hmi]
                unfold inb
                rw [if_pos hbit, msT, if_neg h68]
              have kk := ih (k + 1) (by omega) (by omega) (by omega) e2
              rw [e1, ← Nat.add_assoc] at kk
              exact kk
            · refine k_iconst (pc := 71) (v := -1) F dX5_sumWithin_71 (by decide) ?_
              refine k_iret (pc := 72) F dX5_sumWithin_72 ?_
              have hq : 0 < (smN (fun q => inb (lo S) q (msT T (tz S) q)) m) := by
                have h1 := smN_ge (f := fun q => inb (lo S) q (msT T (tz S) q)) m (show k < m by omega)
                have h2 : inb (lo S) k (msT T (tz S) k) = 1 := by
                  unfold inb
                  rw [if_pos hbit, msT, if_pos h68]
                omega
              exact ⟨by rw [(wI_m1 hT hm).mpr (by omega)], rfl, rfl⟩
    have hzero : ∀ h : Nat → Nat, smN (fun q => inb (lo S) q (h q)) (tz S + 1) = 0 := by
      intro h
      refine smN_zero _ (fun q hq => ?_)
      have hb := lx2 S (by omega) h0 q (by omega)
      have hf : (lo S).testBit q = false := by
        rw [hb.1]
        by_cases e : q = tz S
        · simp [e]
        · rw [hb.2 (by omega)]; rfl
      unfold inb
      rw [hf]
      rfl
    have kk := L32 (m + 1) (tz S + 1) (by omega) (by omega) (by omega) (hzero _)
    rw [hzero, Nat.add_zero] at kk
    exact kk
  · refine k_iconst (pc := 25) (v := -1) F dX5_sumWithin_25 (by decide) ?_
    refine k_iret (pc := 26) F dX5_sumWithin_26 ?_
    have hq := (wI_m1 hT hm).mp h22
    exact ⟨by rw [(wI_m1 hT hm).mpr (by omega)], rfl, rfl⟩

set_option maxHeartbeats 4000000 in
theorem c_X5_leastOf {l : Launch} {D : va_G} {cI : ClassId} {ad : Nat → Nat} {iv : IV} {ar : AR} {m : Nat} {T : Nat → Nat → Int32} (hm : m ≤ 8) (hT : okTb m T) {S lim : Nat} (h0 : 0 < S) (hS : S < 2 ^ m) (hl : lim ≤ 200) (hW : ∀ X, X ≤ S → ar 15 X = wI T m X) (hL : ∀ X, X < S → ar 16 X = nI (opt (vl T m lim) X)) : Ct l D cI (cw cI ad) yX5_leastOf cX5_leastOf 8 (some .int) 1 21 [.ref (ad 5), .int (nI S), .int (nI lim)] iv ar (rI (nI (opt (vl T m lim) S)) iv ar) := by
  refine Ct.of (lv := [some (.ref (ad 5)), some (.int (nI S)), some (.int (nI lim)), none, none, none, none, none]) cw_ok (plainFor_of_name (by decide)) (Nat.le_of_ble_eq_true rfl) 5 rfl rfl (fun Z F => ?_)
  have hp := pow_256 hm
  have hl1 := lx1 S (by omega) h0
  have hob : ∀ X, X < 256 → opt (vl T m lim) X ≤ 51200 := fun X hX => Nat.le_trans (opt_B hX) (Nat.mul_le_mul hl (by omega) : lim * X ≤ 200 * 256)
  refine k_iload1 (pc := 0) F dX5_leastOf_0 ?_
  refine k_iload1 (pc := 1) F dX5_leastOf_1 ?_
  refine k_iconst (pc := 2) (v := nI 1) F dX5_leastOf_2 (by decide) ?_
  refine k_isubN (pc := 3) F dX5_leastOf_3 (by omega) ?_
  refine k_iandN (pc := 4) F dX5_leastOf_4 ?_
  refine k_top (y := nI (lo S)) rfl ?_
  refine k_istore3 (pc := 5) F (by decide) dX5_leastOf_5 ?_
  refine k_iload1 (pc := 6) F dX5_leastOf_6 ?_
  refine k_iload3 (pc := 7) F dX5_leastOf_7 ?_
  refine k_ixorN (pc := 8) F dX5_leastOf_8 ?_
  refine k_istore4 (pc := 9) F (by decide) dX5_leastOf_9 ?_
  refine k_iload2 (pc := 11) F dX5_leastOf_11 ?_
  refine k_aload0 (pc := 12) F dX5_leastOf_12 ?_
  refine g_X5_least (pc := 13) F dX5_leastOf_13 ?_
  refine k_iload3 (pc := 16) F dX5_leastOf_16 ?_
  refine l_c16 (pc := 17) F (by omega) (hL (lo S) (by omega)) dX5_leastOf_17 ?_
  refine k_iaddN (pc := 18) F dX5_leastOf_18 ?_
  refine k_istore5 (pc := 19) F (by decide) dX5_leastOf_19 ?_
  refine k_iload3 (pc := 21) F dX5_leastOf_21 ?_
  refine k_istore6 (pc := 22) F (by decide) dX5_leastOf_22 ?_
  have L24 : ∀ (fu : Nat) (C b : Nat), C < fu → sb C (lo S) → C ≤ lo S → opt (vl T m lim) S ≤ b → b ≤ 200 + 51200 → (∀ X, sb X (lo S) → (X = 0 ∨ C < X) → ∀ v, vl T m lim (X ||| (S ^^^ lo S)) = some v → b ≤ v + opt (vl T m lim) (lo S ^^^ X)) → Z 24 [some (.ref (ad 5)), some (.int (nI S)), some (.int (nI lim)), some (.int (nI (lo S))), some (.int (nI (S ^^^ lo S))), some (.int (nI b)), some (.int (nI C)), none] [] iv ar := by
    intro fu
    induction fu with
    | zero => intro C b hfu; exact absurd hfu (Nat.not_lt_zero _)
    | succ fu ih =>
      intro C b hfu hC hCl hob1 hb2 hcan
      refine k_iload6 (pc := 24) F dX5_leastOf_24 ?_
      refine k_if_leN (pc := 26) (tgt := 79) F dX5_leastOf_26 (by decide) (by omega) (fun h26 => ?_) (fun h26 => ?_)
      · refine k_iload5 (pc := 79) F dX5_leastOf_79 ?_
        refine k_iret (pc := 81) F dX5_leastOf_81 ?_
        obtain ⟨B, v, g1, g2, g3, g4, g5, g6⟩ := opt_at (T := T) (m := m) (lim := lim) (S := S) (x := tz S) (by omega) hl1.2.1
        have h4 := lx4 S (by omega) h0 B g3 g4 g1
        have hX : B ^^^ (S ^^^ lo S) < 256 := by
          have h5 : (B ^^^ (S ^^^ lo S)) &&& lo S = B ^^^ (S ^^^ lo S) := h4.1
          have h6 : (B ^^^ (S ^^^ lo S)) &&& lo S ≤ lo S := Nat.and_le_right
          omega
        have h3 := lx3 S (by omega) h0 (B ^^^ (S ^^^ lo S)) hX h4.1
        rw [h4.2] at h3
        have hb := hcan (B ^^^ (S ^^^ lo S)) h4.1 (by omega) v (by rw [h4.2]; exact g5)
        rw [← h3.2.2.2.1] at hb
        exact ⟨by rw [show b = opt (vl T m lim) S by omega], rfl, rfl⟩
      · have hC256 : C < 256 := by omega
        have hx := lx3 S (by omega) h0 C hC256 hC
        have hps := psT_bd hT hm (C ||| (S ^^^ lo S))
        have hoo := hob (lo S ^^^ C) (by omega)
        refine k_aload0 (pc := 29) F dX5_leastOf_29 ?_
        refine g_X5_within (pc := 30) F dX5_leastOf_30 ?_
        refine k_iload6 (pc := 33) F dX5_leastOf_33 ?_
        refine k_iload4 (pc := 35) F dX5_leastOf_35 ?_
        refine k_iorN (pc := 37) F dX5_leastOf_37 ?_
        refine l_c15 (pc := 38) F (by omega) (hW (C ||| (S ^^^ lo S)) hx.2.2.2.2.1) dX5_leastOf_38 ?_
        refine k_istore7 (pc := 39) F (by decide) dX5_leastOf_39 ?_
        refine k_iload7 (pc := 41) F dX5_leastOf_41 ?_
        refine k_iconst (pc := 43) (v := -1) F dX5_leastOf_43 (by decide) ?_
        refine k_icmp_eq (pc := 44) (tgt := 68) F dX5_leastOf_44 (by decide) (fun h44 => ?_) (fun h44 => ?_)
        · have ev : vl T m lim (C ||| (S ^^^ lo S)) = none := if_neg ((wI_m1 hT hm).mp h44)
          refine k_iload6 (pc := 68) F dX5_leastOf_68 ?_
          refine k_iconst (pc := 70) (v := nI 1) F dX5_leastOf_70 (by decide) ?_
          refine k_isubN (pc := 71) F dX5_leastOf_71 (by omega) ?_
          refine k_iload3 (pc := 72) F dX5_leastOf_72 ?_
          refine k_iandN (pc := 73) F dX5_leastOf_73 ?_
          refine k_istore6 (pc := 74) F (by decide) dX5_leastOf_74 ?_
          refine k_goto (pc := 76) (tgt := 24) F dX5_leastOf_76 (by decide) ?_
          refine k_fg7 (pc := 24) F ?_
          have hnx : ∀ X, sb X (lo S) → (X = 0 ∨ (C - 1) &&& lo S < X) → X = 0 ∨ X = C ∨ C < X := by
            intro X hX hX2
            rcases hX2 with q | q
            · exact Or.inl q
            · rcases Nat.lt_trichotomy X C with z | z | z
              · have := sub_next C (lo S) X hC hX z; omega
              · exact Or.inr (Or.inl z)
              · exact Or.inr (Or.inr z)
          have hC2 : sb ((C - 1) &&& lo S) (lo S) := by
            show ((C - 1) &&& lo S) &&& lo S = _
            rw [Nat.and_assoc, Nat.and_self]
          have hC3 : (C - 1) &&& lo S ≤ lo S := Nat.and_le_right
          have hC4 : (C - 1) &&& lo S ≤ C - 1 := Nat.and_le_left
          refine ih ((C - 1) &&& lo S) b (by omega) hC2 hC3 hob1 hb2 (fun X hX hX2 v hv => ?_)
          rcases hnx X hX hX2 with q | q | q
          · exact hcan X hX (Or.inl q) v hv
          · subst q
            rw [ev] at hv
            cases hv
          · exact hcan X hX (Or.inr q) v hv
        · have hz : psF (msT T) (C ||| (S ^^^ lo S)) m = 0 := Decidable.byContradiction (fun q => h44 ((wI_m1 hT hm).mpr q))
          have ew : wI T m (C ||| (S ^^^ lo S)) = nI (psF (tnT T) (C ||| (S ^^^ lo S)) m) := if_pos hz
          have ev : vl T m lim (C ||| (S ^^^ lo S)) = some (lim + psF (tnT T) (C ||| (S ^^^ lo S)) m) := if_pos hz
          rw [ew]
          refine k_iload5 (pc := 47) F dX5_leastOf_47 ?_
          refine k_iload7 (pc := 49) F dX5_leastOf_49 ?_
          refine k_iload2 (pc := 51) F dX5_leastOf_51 ?_
          refine k_iaddN (pc := 52) F dX5_leastOf_52 ?_
          refine k_aload0 (pc := 53) F dX5_leastOf_53 ?_
          refine g_X5_least (pc := 54) F dX5_leastOf_54 ?_
          refine k_iload3 (pc := 57) F dX5_leastOf_57 ?_
          refine k_iload6 (pc := 58) F dX5_leastOf_58 ?_
          refine k_ixorN (pc := 60) F dX5_leastOf_60 ?_
          refine l_c16 (pc := 61) F (by omega) (hL (lo S ^^^ C) hx.2.2.2.2.2) dX5_leastOf_61 ?_
          refine k_iaddN (pc := 62) F dX5_leastOf_62 ?_
          refine k_callS (pc := 63) F (c_J9_min_7cf53 cw_ok) ok_X5_77 rfl rfl (by decide) (by decide) (Nat.le_of_ble_eq_true rfl) dX5_leastOf_63 (rI.use ?_)
          refine k_top (y := nI (if psF (tnT T) (C ||| (S ^^^ lo S)) m + lim + opt (vl T m lim) (lo S ^^^ C) < b then psF (tnT T) (C ||| (S ^^^ lo S)) m + lim + opt (vl T m lim) (lo S ^^^ C) else b)) (minN (by omega) (by omega)) ?_
          refine k_istore5 (pc := 66) F (by decide) dX5_leastOf_66 ?_
          refine k_iload6 (pc := 68) F dX5_leastOf_68 ?_
          refine k_iconst (pc := 70) (v := nI 1) F dX5_leastOf_70 (by decide) ?_
          refine k_isubN (pc := 71) F dX5_leastOf_71 (by omega) ?_
          refine k_iload3 (pc := 72) F dX5_leastOf_72 ?_
          refine k_iandN (pc := 73) F dX5_leastOf_73 ?_
          refine k_istore6 (pc := 74) F (by decide) dX5_leastOf_74 ?_
          refine k_goto (pc := 76) (tgt := 24) F dX5_leastOf_76 (by decide) ?_
          refine k_fg7 (pc := 24) F ?_
          have hnx : ∀ X, sb X (lo S) → (X = 0 ∨ (C - 1) &&& lo S < X) → X = 0 ∨ X = C ∨ C < X := by
            intro X hX hX2
            rcases hX2 with q | q
            · exact Or.inl q
            · rcases Nat.lt_trichotomy X C with z | z | z
              · have := sub_next C (lo S) X hC hX z; omega
              · exact Or.inr (Or.inl z)
              · exact Or.inr (Or.inr z)
          have hC2 : sb ((C - 1) &&& lo S) (lo S) := by
            show ((C - 1) &&& lo S) &&& lo S = _
            rw [Nat.and_assoc, Nat.and_self]
          have hC3 : (C - 1) &&& lo S ≤ lo S := Nat.and_le_right
          have hC4 : (C - 1) &&& lo S ≤ C - 1 := Nat.and_le_left
          have hle := opt_le (T := T) (m := m) (lim := lim) (S := S) (by omega) hx.2.1 hx.2.2.1 hx.1 ev
          rw [hx.2.2.2.1] at hle
          refine ih ((C - 1) &&& lo S) _ (by omega) hC2 hC3 ?_ ?_ (fun X hX hX2 v hv => ?_)
          · split
            · omega
            · exact hob1
          · split <;> omega
          · rcases hnx X hX hX2 with q | q | q
            · have := hcan X hX (Or.inl q) v hv
              split <;> omega
            · subst q
              rw [ev] at hv
              cases hv
              split <;> omega
            · have := hcan X hX (Or.inr q) v hv
              split <;> omega
  refine L24 (lo S + 1) (lo S) (lim + opt (vl T m lim) (lo S)) (by omega) (Nat.and_self _) (Nat.le_refl _) ?_ (by have := hob (lo S) (by omega); omega) (fun X hX hX2 v hv => ?_)
  · have h := opt_le (T := T) (m := m) (lim := lim) (S := S) (B := 2 ^ tz S) (by omega) (by have := Nat.two_pow_pos (tz S); omega) hl1.2.2.2.2.2.2.2 hl1.2.2.2.2.2.1 single_vl
    rw [hl1.2.2.2.2.2.2.1] at h
    exact h
  · rcases hX2 with q | q
    · subst q
      rw [Nat.zero_or, hl1.2.2.1, single_vl] at hv
      cases hv
      rw [Nat.xor_zero]
      exact Nat.le_refl _
    · have h2 : X &&& lo S = X := hX
      have h3 : X &&& lo S ≤ lo S := Nat.and_le_right
      omega

set_option maxHeartbeats 4000000 in
theorem c_X5_leastCost {l : Launch} {D : va_G} {cI : ClassId} {ad : Nat → Nat} {iv : IV} {ar : AR} {n : Nat} {c : Nat → Nat} {s t : Nat → Int32} (hA : Arch n c s t iv ar) (h5 : ∀ j, j < 24 → ar 5 j = shA c s t n j) {m : Nat} {g : Nat → Nat} (hG : SG n m g iv ar) (hT0 : okT n t) {lim : Nat} (hl : lim ≤ 200) : Ct l D cI (cw cI ad) yX5_leastCost cX5_leastCost 4 (some .int) 3 74 [.ref (ad 5), .int (nI lim)] iv ar (qI (fun x iv2 ar2 => iv2 = iv ∧ (∀ q, q ≠ 13 → q ≠ 15 → q ≠ 16 → ar2 q = ar q) ∧ x = nI (opt (vl (Tg c s t n g) m lim) (2 ^ m - 1)))) := by
  refine Ct.of (lv := [some (.ref (ad 5)), some (.int (nI lim)), none, none]) cw_ok (plainFor_of_name (by decide)) (Nat.le_of_ble_eq_true rfl) 2 rfl rfl (fun Z F => ?_)
  have hm := hG.2.1
  have hn := hA.le
  have hp := pow_256 hm
  have hp1 := Nat.two_pow_pos m
  have hT : okTb m (Tg c s t n g) := fun j k hj hk _ => SC_B hT0 hn (hG.2.2 j hj).2 (hG.2.2 k hk).2 (hA.lt (hG.2.2 j hj).2) (hA.lt (hG.2.2 k hk).2)
  have hY : ∀ i j, (Tg c s t n g) i j = (Tg c s t n g) j i := fun i j => SC_sym c s t n _ _
  refine k_aload0 (pc := 0) F dX5_leastCost_0 ?_
  refine k_callV (pc := 1) (q0 := 5) F (c_X5_readScores hA h5 hG) ok_X5_47 rfl rfl rfl rfl rfl (by decide) (by decide) (Nat.le_of_ble_eq_true rfl) dX5_leastCost_1 (qV.use (fun ivS arS hS => ?_))
  obtain ⟨eS, fS, tS⟩ := hS
  subst ivS
  generalize (Tg c s t n g) = TT at tS hT hY F ⊢
  refine k_aload0 (pc := 4) F dX5_leastCost_4 ?_
  refine g_X5_within (pc := 5) F dX5_leastCost_5 ?_
  refine k_iconst (pc := 8) (v := nI 0) F dX5_leastCost_8 (by decide) ?_
  refine k_iconst (pc := 9) (v := nI 0) F dX5_leastCost_9 (by decide) ?_
  refine s_c15 (pc := 10) F (by omega) (rfl) dX5_leastCost_10 ?_
  refine k_aload0 (pc := 11) F dX5_leastCost_11 ?_
  refine g_X5_least (pc := 12) F dX5_leastCost_12 ?_
  refine k_iconst (pc := 15) (v := nI 0) F dX5_leastCost_15 (by decide) ?_
  refine k_iconst (pc := 16) (v := nI 0) F dX5_leastCost_16 (by decide) ?_
  refine s_c16 (pc := 17) F (by omega) ((up_n (by decide)).trans (rfl)) dX5_leastCost_17 ?_
  refine k_iconst (pc := 18) (v := nI 1) F dX5_leastCost_18 (by decide) ?_
  refine k_aload0 (pc := 19) F dX5_leastCost_19 ?_
  refine g_X5_size (pc := 20) F (hG.1) dX5_leastCost_20 ?_
  refine k_ishlN (pc := 23) F dX5_leastCost_23 (by omega) ?_
  refine k_iconst (pc := 24) (v := nI 1) F dX5_leastCost_24 (by decide) ?_
  refine k_isubN (pc := 25) F dX5_leastCost_25 (by omega) ?_
  refine k_istore2 (pc := 26) F (by decide) dX5_leastCost_26 ?_
  refine k_iconst (pc := 27) (v := nI 1) F dX5_leastCost_27 (by decide) ?_
  refine k_istore3 (pc := 28) F (by decide) dX5_leastCost_28 ?_
  have L29 : ∀ (fu : Nat) (S : Nat) (ar1 : AR), 2 ^ m - S < fu → 1 ≤ S → S ≤ 2 ^ m → (∀ q, q ≠ 15 → q ≠ 16 → ar1 q = arS q) → (∀ X, X < S → ar1 15 X = wI TT m X ∧ ar1 16 X = nI (opt (vl TT m lim) X)) → Z 29 [some (.ref (ad 5)), some (.int (nI lim)), some (.int (nI (2 ^ m - 1))), some (.int (nI S))] [] iv ar1 := by
    intro fu
    induction fu with
    | zero => intro S ar1 hfu; exact absurd hfu (Nat.not_lt_zero _)
    | succ fu ih =>
      intro S ar1 hfu hS1 hS f1 hv
      have tb1 : TBc m TT ar1 := by intro a b ha hb hab; rw [f1 13 (by decide) (by decide)]; exact tS a b ha hb hab
      refine k_iload3 (pc := 29) F dX5_leastCost_29 ?_
      refine k_iload2 (pc := 30) F dX5_leastCost_30 ?_
      refine k_icmp_gtN (pc := 31) (tgt := 63) F dX5_leastCost_31 (by decide) (by omega) (by omega) (fun h31 => ?_) (fun h31 => ?_)
      · refine k_aload0 (pc := 63) F dX5_leastCost_63 ?_
        refine g_X5_least (pc := 64) F dX5_leastCost_64 ?_
        refine k_iload2 (pc := 67) F dX5_leastCost_67 ?_
        refine l_c16 (pc := 68) F (by omega) ((hv (2 ^ m - 1) (by omega)).2) dX5_leastCost_68 ?_
        refine k_iret (pc := 69) F dX5_leastCost_69 ?_
        exact ⟨_, rfl, rfl, fun q q3 q5 q6 => (f1 q q5 q6).trans (fS q q3), rfl⟩
      · refine k_aload0 (pc := 34) F dX5_leastCost_34 ?_
        refine g_X5_within (pc := 35) F dX5_leastCost_35 ?_
        refine k_iload3 (pc := 38) F dX5_leastCost_38 ?_
        refine k_aload0 (pc := 39) F dX5_leastCost_39 ?_
        refine k_iload3 (pc := 40) F dX5_leastCost_40 ?_
        refine k_callV (pc := 41) (q0 := 5) F (c_X5_sumWithin hG.1 hm hT tb1 hY (S := S) (by omega) (by omega) (hv (lo S) (by have := lx1 S (by omega) (by omega); omega)).1) ok_X5_65 rfl rfl rfl rfl rfl (by decide) (by decide) (Nat.le_of_ble_eq_true rfl) dX5_leastCost_41 (rI.use ?_)
        refine s_c15 (pc := 44) F (by omega) (rfl) dX5_leastCost_44 ?_
        refine k_aload0 (pc := 45) F dX5_leastCost_45 ?_
        refine g_X5_least (pc := 46) F dX5_leastCost_46 ?_
        refine k_iload3 (pc := 49) F dX5_leastCost_49 ?_
        refine k_aload0 (pc := 50) F dX5_leastCost_50 ?_
        refine k_iload3 (pc := 51) F dX5_leastCost_51 ?_
        refine k_iload1 (pc := 52) F dX5_leastCost_52 ?_
        refine k_callV (pc := 53) (q0 := 5) F (c_X5_leastOf hm hT (S := S) (lim := lim) (by omega) (by omega) hl (fun X hX => by
  rw [up_s]
  by_cases e : X = S
  · subst e; exact upd_at
  · rw [upd_ne e]; exact (hv X (by omega)).1) (fun X hX => by rw [up_n (by decide)]; exact (hv X hX).2)) ok_X5_69 rfl rfl rfl rfl rfl (by decide) (by decide) (Nat.le_of_ble_eq_true rfl) dX5_leastCost_53 (rI.use ?_)
        refine s_c16 (pc := 56) F (by omega) ((up_n (by decide)).trans (rfl)) dX5_leastCost_56 ?_
        refine k_iinc3 (pc := 57) F (by decide) dX5_leastCost_57 (inc_N _) ?_
        refine k_goto (pc := 60) (tgt := 29) F dX5_leastCost_60 (by decide) ?_
        refine ih (S + 1) _ (by omega) (by omega) (by omega) (fun q q5 q6 => ?_) (fun X hX => ?_)
        · rw [up_n q6, up_n q5]; exact f1 q q5 q6
        · rw [up_n (by decide : (15 : Nat) ≠ 16), up_s, up_s]
          by_cases e : X = S
          · subst e; exact ⟨upd_at, upd_at⟩
          · rw [upd_ne e, upd_ne e]; exact hv X (by omega)
  refine L29 (2 ^ m + 1) 1 _ (by omega) (by omega) (by omega) (fun q q5 q6 => ?_) (fun X hX => ?_)
  · rw [up_n q6, up_n q5]
  · have e : X = 0 := by omega
    subst e
    rw [up_n (by decide), up_s, up_s, upd_at, upd_at, opt_0]
    refine ⟨?_, rfl⟩
    have hz : ∀ h : Nat → Nat → Nat, psF h 0 m = 0 := by
      intro h
      unfold psF
      refine smN_zero m (fun i hi => ?_)
      unfold inb
      rw [Nat.zero_testBit]
      rfl
    rw [wI, if_pos (hz _), hz]

