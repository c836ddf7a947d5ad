theorem up_s {α : Type} {f : Nat → α} {k : Nat} {v : α} : va_up f k v k = v := if_pos rfl
theorem up_n {α : Type} {f : Nat → α} {k j : Nat} {v : α} (h : j ≠ k) : va_up f k v j = f j := if_neg h
theorem inc_N (a : Nat) : nI a + Int32.ofInt 1 = nI (a + 1) := nI_1 a
theorem inc_x (x : Int32) : x + Int32.ofInt 1 = x + 1 := rfl
theorem dec_N (a : Nat) (h : 0 < a) : nI a + Int32.ofInt (-1) = nI (a - 1) := sb_m1 h
theorem nI_ne_m1 {a : Nat} (h : a < 2 ^ 31) : ¬ nI a = -1 := fun e => by
  have h1 := nI_toInt h
  rw [e] at h1
  have h2 : (-1 : Int32).toInt = -1 := rfl
  omega
theorem ret1 {c : Prop} [Decidable c] {iv : IV} {ar : AR} (h : c) : rI (bI c) iv ar (some (.int (nI 1))) iv ar := ⟨by rw [bI_t h]; rfl, rfl, rfl⟩
theorem ret0 {c : Prop} [Decidable c] {iv : IV} {ar : AR} (h : ¬ c) : rI (bI c) iv ar (some (.int (nI 0))) iv ar := ⟨by rw [bI_f h]; rfl, rfl, rfl⟩
theorem i_lt (a b : Int32) : a < b ↔ a.toInt < b.toInt := Int32.lt_iff_toInt_lt
theorem i_le (a b : Int32) : a ≤ b ↔ a.toInt ≤ b.toInt := Int32.le_iff_toInt_le
section KN
variable {l : Launch} {D : va_G} {cI : ClassId} {wf : WF} {own : String} {cc : ByteArray} {mL : Nat} {ret : Option FieldType} {fr lo : Nat} {post : PST} {Z : ZT} {pc : Nat} {lv : LV} {st : List Value} {iv : IV} {ar : AR}
theorem k_if_eqN (F : Fx l D cI wf own cc mL ret fr lo post Z) {a : Nat} {off : Int} {tgt : Nat} (hd : decode cc pc = .ok (.ifCond .eq off, 3)) (ht : (pc : Int) + off = (tgt : Int)) (ha : a < 2 ^ 31) (kt : a = 0 → Z tgt lv st iv ar) (kf : ¬ a = 0 → Z (pc + 3) lv st iv ar) : Z pc lv (.int (nI a) :: st) iv ar := k_if_eq F hd ht (fun h => kt ((nI_eq ha (by decide)).mp h)) (fun h => kf (fun q => h (by rw [q]; rfl)))
theorem k_if_neN (F : Fx l D cI wf own cc mL ret fr lo post Z) {a : Nat} {off : Int} {tgt : Nat} (hd : decode cc pc = .ok (.ifCond .ne off, 3)) (ht : (pc : Int) + off = (tgt : Int)) (ha : a < 2 ^ 31) (kt : ¬ a = 0 → Z tgt lv st iv ar) (kf : a = 0 → Z (pc + 3) lv st iv ar) : Z pc lv (.int (nI a) :: st) iv ar := k_if_ne F hd ht (fun h => kt (fun q => h (by rw [q]; rfl))) (fun h => kf ((nI_eq ha (by decide)).mp h))
theorem k_if_leN (F : Fx l D cI wf own cc mL ret fr lo post Z) {a : Nat} {off : Int} {tgt : Nat} (hd : decode cc pc = .ok (.ifCond .le off, 3)) (ht : (pc : Int) + off = (tgt : Int)) (ha : a < 2 ^ 31) (kt : a = 0 → Z tgt lv st iv ar) (kf : 0 < a → Z (pc + 3) lv st iv ar) : Z pc lv (.int (nI a) :: st) iv ar := k_if_le F hd ht (fun h => kt (by have h2 := (nI_leI (b := 0) ha (by decide)).mp h; omega)) (fun h => kf (Nat.pos_of_ne_zero (fun q => h (by rw [q]; decide))))
theorem k_if_gtN (F : Fx l D cI wf own cc mL ret fr lo post Z) {a : Nat} {off : Int} {tgt : Nat} (hd : decode cc pc = .ok (.ifCond .gt off, 3)) (ht : (pc : Int) + off = (tgt : Int)) (ha : a < 2 ^ 31) (kt : 0 < a → Z tgt lv st iv ar) (kf : a = 0 → Z (pc + 3) lv st iv ar) : Z pc lv (.int (nI a) :: st) iv ar := k_if_gt F hd ht (fun h => kt ((nI_ltI (a := 0) (by decide) ha).mp h)) (fun h => kf (by
  rcases Nat.eq_zero_or_pos a with q | q
  · exact q
  · exact absurd ((nI_ltI (a := 0) (by decide) ha).mpr q) h))
end KN
set_option maxHeartbeats 4000000 in
theorem c_X0_size {l : Launch} {D : va_G} {cI : ClassId} {ad : Nat → Nat} {iv : IV} {ar : AR}  : Ct l D cI (cw cI ad) yX0_size cX0_size 1 (some .int) 0 0 [.ref (ad 1)] iv ar (rI (iv 3) iv ar) := by
  refine Ct.of (lv := [some (.ref (ad 1))]) cw_ok (plainFor_of_name (by decide)) (Nat.le_of_ble_eq_true rfl) 0 rfl rfl (fun Z F => ?_)
  refine k_aload0 (pc := 0) F dX0_size_0 ?_
  refine g_X0_size (pc := 1) F (rfl) dX0_size_1 ?_
  refine k_iret (pc := 4) F dX0_size_4 ?_
  exact ⟨rfl, rfl, rfl⟩

set_option maxHeartbeats 4000000 in
theorem c_X5_size {l : Launch} {D : va_G} {cI : ClassId} {ad : Nat → Nat} {iv : IV} {ar : AR}  : Ct l D cI (cw cI ad) yX5_size cX5_size 1 (some .int) 0 0 [.ref (ad 5)] iv ar (rI (iv 7) iv ar) := by
  refine Ct.of (lv := [some (.ref (ad 5))]) cw_ok (plainFor_of_name (by decide)) (Nat.le_of_ble_eq_true rfl) 0 rfl rfl (fun Z F => ?_)
  refine k_aload0 (pc := 0) F dX5_size_0 ?_
  refine g_X5_size (pc := 1) F (rfl) dX5_size_1 ?_
  refine k_iret (pc := 4) F dX5_size_4 ?_
  exact ⟨rfl, rfl, rfl⟩

set_option maxHeartbeats 4000000 in
theorem c_X3_allSame {l : Launch} {D : va_G} {cI : ClassId} {ad : Nat → Nat} {iv : IV} {ar : AR}  : Ct l D cI (cw cI ad) yX3_allSame cX3_allSame 1 (some .int) 0 0 [.ref (ad 4)] iv ar (rI (iv 5) iv ar) := by
  refine Ct.of (lv := [some (.ref (ad 4))]) cw_ok (plainFor_of_name (by decide)) (Nat.le_of_ble_eq_true rfl) 0 rfl rfl (fun Z F => ?_)
  refine k_aload0 (pc := 0) F dX3_allSame_0 ?_
  refine g_X3_sumSame (pc := 1) F (rfl) dX3_allSame_1 ?_
  refine k_iret (pc := 4) F dX3_allSame_4 ?_
  exact ⟨rfl, rfl, rfl⟩

set_option maxHeartbeats 4000000 in
theorem c_X3_allOther {l : Launch} {D : va_G} {cI : ClassId} {ad : Nat → Nat} {iv : IV} {ar : AR}  : Ct l D cI (cw cI ad) yX3_allOther cX3_allOther 1 (some .int) 0 0 [.ref (ad 4)] iv ar (rI (iv 6) iv ar) := by
  refine Ct.of (lv := [some (.ref (ad 4))]) cw_ok (plainFor_of_name (by decide)) (Nat.le_of_ble_eq_true rfl) 0 rfl rfl (fun Z F => ?_)
  refine k_aload0 (pc := 0) F dX3_allOther_0 ?_
  refine g_X3_sumOther (pc := 1) F (rfl) dX3_allOther_1 ?_
  refine k_iret (pc := 4) F dX3_allOther_4 ?_
  exact ⟨rfl, rfl, rfl⟩

set_option maxHeartbeats 4000000 in
theorem c_X3_countBlocks {l : Launch} {D : va_G} {cI : ClassId} {ad : Nat → Nat} {iv : IV} {ar : AR}  : Ct l D cI (cw cI ad) yX3_countBlocks cX3_countBlocks 1 (some .int) 0 0 [.ref (ad 4)] iv ar (rI (iv 4) iv ar) := by
  refine Ct.of (lv := [some (.ref (ad 4))]) cw_ok (plainFor_of_name (by decide)) (Nat.le_of_ble_eq_true rfl) 0 rfl rfl (fun Z F => ?_)
  refine k_aload0 (pc := 0) F dX3_countBlocks_0 ?_
  refine g_X3_blocks (pc := 1) F (rfl) dX3_countBlocks_1 ?_
  refine k_iret (pc := 4) F dX3_countBlocks_4 ?_
  exact ⟨rfl, rfl, rfl⟩

set_option maxHeartbeats 4000000 in
theorem c_X0_channelOf {l : Launch} {D : va_G} {cI : ClassId} {ad : Nat → Nat} {iv : IV} {ar : AR} {k : Nat} (hk : k < 30) : Ct l D cI (cw cI ad) yX0_channelOf cX0_channelOf 2 (some .int) 0 0 [.ref (ad 1), .int (nI k)] iv ar (rI (ar 0 k) iv ar) := by
  refine Ct.of (lv := [some (.ref (ad 1)), some (.int (nI k))]) cw_ok (plainFor_of_name (by decide)) (Nat.le_of_ble_eq_true rfl) 0 rfl rfl (fun Z F => ?_)
  refine k_aload0 (pc := 0) F dX0_channelOf_0 ?_
  refine g_X0_channels (pc := 1) F dX0_channelOf_1 ?_
  refine k_iload1 (pc := 4) F dX0_channelOf_4 ?_
  refine l_c0 (pc := 5) F (by omega) rfl dX0_channelOf_5 ?_
  refine k_iret (pc := 6) F dX0_channelOf_6 ?_
  exact ⟨rfl, rfl, rfl⟩

set_option maxHeartbeats 4000000 in
theorem c_X0_speakerOf {l : Launch} {D : va_G} {cI : ClassId} {ad : Nat → Nat} {iv : IV} {ar : AR} {k : Nat} (hk : k < 30) : Ct l D cI (cw cI ad) yX0_speakerOf cX0_speakerOf 2 (some .int) 0 0 [.ref (ad 1), .int (nI k)] iv ar (rI (ar 1 k) iv ar) := by
  refine Ct.of (lv := [some (.ref (ad 1)), some (.int (nI k))]) cw_ok (plainFor_of_name (by decide)) (Nat.le_of_ble_eq_true rfl) 0 rfl rfl (fun Z F => ?_)
  refine k_aload0 (pc := 0) F dX0_speakerOf_0 ?_
  refine g_X0_speakers (pc := 1) F dX0_speakerOf_1 ?_
  refine k_iload1 (pc := 4) F dX0_speakerOf_4 ?_
  refine l_c1 (pc := 5) F (by omega) rfl dX0_speakerOf_5 ?_
  refine k_iret (pc := 6) F dX0_speakerOf_6 ?_
  exact ⟨rfl, rfl, rfl⟩

set_option maxHeartbeats 4000000 in
theorem c_X3_sameIn {l : Launch} {D : va_G} {cI : ClassId} {ad : Nat → Nat} {iv : IV} {ar : AR} {k : Nat} (hk : k < 10) : Ct l D cI (cw cI ad) yX3_sameIn cX3_sameIn 2 (some .int) 0 0 [.ref (ad 4), .int (nI k)] iv ar (rI (ar 6 k) iv ar) := by
  refine Ct.of (lv := [some (.ref (ad 4)), some (.int (nI k))]) cw_ok (plainFor_of_name (by decide)) (Nat.le_of_ble_eq_true rfl) 0 rfl rfl (fun Z F => ?_)
  refine k_aload0 (pc := 0) F dX3_sameIn_0 ?_
  refine g_X3_bandSame (pc := 1) F dX3_sameIn_1 ?_
  refine k_iload1 (pc := 4) F dX3_sameIn_4 ?_
  refine l_c6 (pc := 5) F (by omega) rfl dX3_sameIn_5 ?_
  refine k_iret (pc := 6) F dX3_sameIn_6 ?_
  exact ⟨rfl, rfl, rfl⟩

set_option maxHeartbeats 4000000 in
theorem c_X3_otherIn {l : Launch} {D : va_G} {cI : ClassId} {ad : Nat → Nat} {iv : IV} {ar : AR} {k : Nat} (hk : k < 10) : Ct l D cI (cw cI ad) yX3_otherIn cX3_otherIn 2 (some .int) 0 0 [.ref (ad 4), .int (nI k)] iv ar (rI (ar 7 k) iv ar) := by
  refine Ct.of (lv := [some (.ref (ad 4)), some (.int (nI k))]) cw_ok (plainFor_of_name (by decide)) (Nat.le_of_ble_eq_true rfl) 0 rfl rfl (fun Z F => ?_)
  refine k_aload0 (pc := 0) F dX3_otherIn_0 ?_
  refine g_X3_bandOther (pc := 1) F dX3_otherIn_1 ?_
  refine k_iload1 (pc := 4) F dX3_otherIn_4 ?_
  refine l_c7 (pc := 5) F (by omega) rfl dX3_otherIn_5 ?_
  refine k_iret (pc := 6) F dX3_otherIn_6 ?_
  exact ⟨rfl, rfl, rfl⟩

set_option maxHeartbeats 4000000 in
theorem c_X3_firstBandOf {l : Launch} {D : va_G} {cI : ClassId} {ad : Nat → Nat} {iv : IV} {ar : AR} {k : Nat} (hk : k < 10) : Ct l D cI (cw cI ad) yX3_firstBandOf cX3_firstBandOf 2 (some .int) 0 0 [.ref (ad 4), .int (nI k)] iv ar (rI (ar 8 k) iv ar) := by
  refine Ct.of (lv := [some (.ref (ad 4)), some (.int (nI k))]) cw_ok (plainFor_of_name (by decide)) (Nat.le_of_ble_eq_true rfl) 0 rfl rfl (fun Z F => ?_)
  refine k_aload0 (pc := 0) F dX3_firstBandOf_0 ?_
  refine g_X3_blockFirst (pc := 1) F dX3_firstBandOf_1 ?_
  refine k_iload1 (pc := 4) F dX3_firstBandOf_4 ?_
  refine l_c8 (pc := 5) F (by omega) rfl dX3_firstBandOf_5 ?_
  refine k_iret (pc := 6) F dX3_firstBandOf_6 ?_
  exact ⟨rfl, rfl, rfl⟩

set_option maxHeartbeats 4000000 in
theorem c_X3_lastBandOf {l : Launch} {D : va_G} {cI : ClassId} {ad : Nat → Nat} {iv : IV} {ar : AR} {k : Nat} (hk : k < 10) : Ct l D cI (cw cI ad) yX3_lastBandOf cX3_lastBandOf 2 (some .int) 0 0 [.ref (ad 4), .int (nI k)] iv ar (rI (ar 9 k) iv ar) := by
  refine Ct.of (lv := [some (.ref (ad 4)), some (.int (nI k))]) cw_ok (plainFor_of_name (by decide)) (Nat.le_of_ble_eq_true rfl) 0 rfl rfl (fun Z F => ?_)
  refine k_aload0 (pc := 0) F dX3_lastBandOf_0 ?_
  refine g_X3_blockLast (pc := 1) F dX3_lastBandOf_1 ?_
  refine k_iload1 (pc := 4) F dX3_lastBandOf_4 ?_
  refine l_c9 (pc := 5) F (by omega) rfl dX3_lastBandOf_5 ?_
  refine k_iret (pc := 6) F dX3_lastBandOf_6 ?_
  exact ⟨rfl, rfl, rfl⟩

set_option maxHeartbeats 4000000 in
theorem c_X3_sameOf {l : Launch} {D : va_G} {cI : ClassId} {ad : Nat → Nat} {iv : IV} {ar : AR} {k : Nat} (hk : k < 10) : Ct l D cI (cw cI ad) yX3_sameOf cX3_sameOf 2 (some .int) 0 0 [.ref (ad 4), .int (nI k)] iv ar (rI (ar 10 k) iv ar) := by
  refine Ct.of (lv := [some (.ref (ad 4)), some (.int (nI k))]) cw_ok (plainFor_of_name (by decide)) (Nat.le_of_ble_eq_true rfl) 0 rfl rfl (fun Z F => ?_)
  refine k_aload0 (pc := 0) F dX3_sameOf_0 ?_
  refine g_X3_blockSame (pc := 1) F dX3_sameOf_1 ?_
  refine k_iload1 (pc := 4) F dX3_sameOf_4 ?_
  refine l_c10 (pc := 5) F (by omega) rfl dX3_sameOf_5 ?_
  refine k_iret (pc := 6) F dX3_sameOf_6 ?_
  exact ⟨rfl, rfl, rfl⟩

set_option maxHeartbeats 4000000 in
theorem c_X3_otherOf {l : Launch} {D : va_G} {cI : ClassId} {ad : Nat → Nat} {iv : IV} {ar : AR} {k : Nat} (hk : k < 10) : Ct l D cI (cw cI ad) yX3_otherOf cX3_otherOf 2 (some .int) 0 0 [.ref (ad 4), .int (nI k)] iv ar (rI (ar 11 k) iv ar) := by
  refine Ct.of (lv := [some (.ref (ad 4)), some (.int (nI k))]) cw_ok (plainFor_of_name (by decide)) (Nat.le_of_ble_eq_true rfl) 0 rfl rfl (fun Z F => ?_)
  refine k_aload0 (pc := 0) F dX3_otherOf_0 ?_
  refine g_X3_blockOther (pc := 1) F dX3_otherOf_1 ?_
  refine k_iload1 (pc := 4) F dX3_otherOf_4 ?_
  refine l_c11 (pc := 5) F (by omega) rfl dX3_otherOf_5 ?_
  refine k_iret (pc := 6) F dX3_otherOf_6 ?_
  exact ⟨rfl, rfl, rfl⟩

set_option maxHeartbeats 4000000 in
theorem c_X5_voiceAt {l : Launch} {D : va_G} {cI : ClassId} {ad : Nat → Nat} {iv : IV} {ar : AR} {k : Nat} (hk : k < 8) : Ct l D cI (cw cI ad) yX5_voiceAt cX5_voiceAt 2 (some .int) 0 0 [.ref (ad 5), .int (nI k)] iv ar (rI (ar 14 k) iv ar) := by
  refine Ct.of (lv := [some (.ref (ad 5)), some (.int (nI k))]) cw_ok (plainFor_of_name (by decide)) (Nat.le_of_ble_eq_true rfl) 0 rfl rfl (fun Z F => ?_)
  refine k_aload0 (pc := 0) F dX5_voiceAt_0 ?_
  refine g_X5_voiceOf (pc := 1) F dX5_voiceAt_1 ?_
  refine k_iload1 (pc := 4) F dX5_voiceAt_4 ?_
  refine l_c14 (pc := 5) F (by omega) rfl dX5_voiceAt_5 ?_
  refine k_iret (pc := 6) F dX5_voiceAt_6 ?_
  exact ⟨rfl, rfl, rfl⟩

set_option maxHeartbeats 4000000 in
theorem c_X1_outcome {l : Launch} {D : va_G} {cI : ClassId} {ad : Nat → Nat} {iv : IV} {ar : AR} {k : Nat} (hk : k < 5) : Ct l D cI (cw cI ad) yX1_outcome cX1_outcome 2 (some .int) 0 0 [.ref (ad 7), .int (nI k)] iv ar (rI (ar 19 k) iv ar) := by
  refine Ct.of (lv := [some (.ref (ad 7)), some (.int (nI k))]) cw_ok (plainFor_of_name (by decide)) (Nat.le_of_ble_eq_true rfl) 0 rfl rfl (fun Z F => ?_)
  refine k_aload0 (pc := 0) F dX1_outcome_0 ?_
  refine g_X1_outcomes (pc := 1) F dX1_outcome_1 ?_
  refine k_iload1 (pc := 4) F dX1_outcome_4 ?_
  refine l_c19 (pc := 5) F (by omega) rfl dX1_outcome_5 ?_
  refine k_iret (pc := 6) F dX1_outcome_6 ?_
  exact ⟨rfl, rfl, rfl⟩

set_option maxHeartbeats 4000000 in
theorem c_X0_toneAt {l : Launch} {D : va_G} {cI : ClassId} {ad : Nat → Nat} {iv : IV} {ar : AR} {r p : Nat} (hk : r * 6 + p < 180) : Ct l D cI (cw cI ad) yX0_toneAt cX0_toneAt 3 (some .int) 0 0 [.ref (ad 1), .int (nI r), .int (nI p)] iv ar (rI (ar 2 (r * 6 + p)) iv ar) := by
  refine Ct.of (lv := [some (.ref (ad 1)), some (.int (nI r)), some (.int (nI p))]) cw_ok (plainFor_of_name (by decide)) (Nat.le_of_ble_eq_true rfl) 0 rfl rfl (fun Z F => ?_)
  refine k_aload0 (pc := 0) F dX0_toneAt_0 ?_
  refine g_X0_tones (pc := 1) F dX0_toneAt_1 ?_
  refine k_iload1 (pc := 4) F dX0_toneAt_4 ?_
  refine k_bipush (pc := 5) (v := nI 6) F dX0_toneAt_5 (by decide) ?_
  refine k_imulN (pc := 7) F dX0_toneAt_7 ?_
  refine k_iload2 (pc := 8) F dX0_toneAt_8 ?_
  refine k_iaddN (pc := 9) F dX0_toneAt_9 ?_
  refine l_c2 (pc := 10) F (by omega) rfl dX0_toneAt_10 ?_
  refine k_iret (pc := 11) F dX0_toneAt_11 ?_
  exact ⟨rfl, rfl, rfl⟩

set_option maxHeartbeats 4000000 in
theorem c_X6_at {l : Launch} {D : va_G} {cI : ClassId} {ad : Nat → Nat} {iv : IV} {ar : AR} {k p : Nat} (hk : k * 6 + p < 24) : Ct l D cI (cw cI ad) yX6_at cX6_at 3 (some .int) 0 0 [.ref (ad 2), .int (nI k), .int (nI p)] iv ar (rI (ar 5 (k * 6 + p)) iv ar) := by
  refine Ct.of (lv := [some (.ref (ad 2)), some (.int (nI k)), some (.int (nI p))]) cw_ok (plainFor_of_name (by decide)) (Nat.le_of_ble_eq_true rfl) 0 rfl rfl (fun Z F => ?_)
  refine k_aload0 (pc := 0) F dX6_at_0 ?_
  refine g_X6_means (pc := 1) F dX6_at_1 ?_
  refine k_iload1 (pc := 4) F dX6_at_4 ?_
  refine k_bipush (pc := 5) (v := nI 6) F dX6_at_5 (by decide) ?_
  refine k_imulN (pc := 7) F dX6_at_7 ?_
  refine k_iload2 (pc := 8) F dX6_at_8 ?_
  refine k_iaddN (pc := 9) F dX6_at_9 ?_
  refine l_c5 (pc := 10) F (by omega) rfl dX6_at_10 ?_
  refine k_iret (pc := 11) F dX6_at_11 ?_
  exact ⟨rfl, rfl, rfl⟩

set_option maxHeartbeats 4000000 in
theorem c_X0_putTone {l : Launch} {D : va_G} {cI : ClassId} {ad : Nat → Nat} {iv : IV} {ar : AR} {r p : Nat} {t : Int32} (hk : r * 6 + p < 180) : Ct l D cI (cw cI ad) yX0_putTone cX0_putTone 4 none 0 0 [.ref (ad 1), .int (nI r), .int (nI p), .int t] iv ar (rV iv (va_up ar 2 (upd (ar 2) (r * 6 + p) t))) := by
  refine Ct.of (lv := [some (.ref (ad 1)), some (.int (nI r)), some (.int (nI p)), some (.int t)]) cw_ok (plainFor_of_name (by decide)) (Nat.le_of_ble_eq_true rfl) 0 rfl rfl (fun Z F => ?_)
  refine k_aload0 (pc := 0) F dX0_putTone_0 ?_
  refine g_X0_tones (pc := 1) F dX0_putTone_1 ?_
  refine k_iload1 (pc := 4) F dX0_putTone_4 ?_
  refine k_bipush (pc := 5) (v := nI 6) F dX0_putTone_5 (by decide) ?_
  refine k_imulN (pc := 7) F dX0_putTone_7 ?_
  refine k_iload2 (pc := 8) F dX0_putTone_8 ?_
  refine k_iaddN (pc := 9) F dX0_putTone_9 ?_
  refine k_iload3 (pc := 10) F dX0_putTone_10 ?_
  refine s_c2 (pc := 11) F (by omega) (rfl) dX0_putTone_11 ?_
  refine k_vret (pc := 12) F dX0_putTone_12 ?_
  exact ⟨rfl, rfl, rfl⟩

set_option maxHeartbeats 4000000 in
theorem c_X0_putSpeaker {l : Launch} {D : va_G} {cI : ClassId} {ad : Nat → Nat} {iv : IV} {ar : AR} {r : Nat} {t : Int32} (hk : r < 30) : Ct l D cI (cw cI ad) yX0_putSpeaker cX0_putSpeaker 3 none 0 0 [.ref (ad 1), .int (nI r), .int t] iv ar (rV iv (va_up ar 1 (upd (ar 1) r t))) := by
  refine Ct.of (lv := [some (.ref (ad 1)), some (.int (nI r)), some (.int t)]) cw_ok (plainFor_of_name (by decide)) (Nat.le_of_ble_eq_true rfl) 0 rfl rfl (fun Z F => ?_)
  refine k_aload0 (pc := 0) F dX0_putSpeaker_0 ?_
  refine g_X0_speakers (pc := 1) F dX0_putSpeaker_1 ?_
  refine k_iload1 (pc := 4) F dX0_putSpeaker_4 ?_
  refine k_iload2 (pc := 5) F dX0_putSpeaker_5 ?_
  refine s_c1 (pc := 6) F (by omega) (rfl) dX0_putSpeaker_6 ?_
  refine k_vret (pc := 7) F dX0_putSpeaker_7 ?_
  exact ⟨rfl, rfl, rfl⟩

