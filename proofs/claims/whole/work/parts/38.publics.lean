set_option maxHeartbeats 4000000 in
theorem c_X7_isChannel {l : Launch} {D : va_G} {cI : ClassId} {wf : WF} {iv : IV} {ar : AR} (hwf : wfOk wf) {x : Int32} : Ct l D cI wf yX7_isChannel cX7_isChannel 1 (some .boolean) 0 0 [.int x] iv ar (rI (bI (inR x 4)) iv ar) := by
  refine Ct.of (lv := [some (.int x)]) hwf (plainFor_of_name (by decide)) (Nat.le_of_ble_eq_true rfl) 0 rfl rfl (fun Z F => ?_)
  have z0 : (0 : Int32).toInt = 0 := rfl
  have zk : (nI 4).toInt = 4 := rfl
  refine k_iload0 (pc := 0) F dX7_isChannel_0 ?_
  refine k_if_lt (pc := 1) (tgt := 13) F dX7_isChannel_1 (by decide) (fun h1 => ?_) (fun h1 => ?_)
  · refine k_iconst (pc := 13) (v := nI 0) F dX7_isChannel_13 (by decide) ?_
    refine k_zret (pc := 14) F dX7_isChannel_14 (by decide) ?_
    exact ret0 (by (try rw [i_lt] at h1); (try rw [i_le] at h6); (try rw [i_le] at h7); omega)
  · refine k_iload0 (pc := 4) F dX7_isChannel_4 ?_
    refine k_iconst (pc := 5) (v := nI 4) F dX7_isChannel_5 (by decide) ?_
    refine k_icmp_ge (pc := 6) (tgt := 13) F dX7_isChannel_6 (by decide) (fun h6 => ?_) (fun h6 => ?_)
    · refine k_iconst (pc := 13) (v := nI 0) F dX7_isChannel_13 (by decide) ?_
      refine k_zret (pc := 14) F dX7_isChannel_14 (by decide) ?_
      exact ret0 (by (try rw [i_lt] at h1); (try rw [i_le] at h6); (try rw [i_le] at h7); omega)
    · refine k_iconst (pc := 9) (v := nI 1) F dX7_isChannel_9 (by decide) ?_
      refine k_goto (pc := 10) (tgt := 14) F dX7_isChannel_10 (by decide) ?_
      refine k_zret (pc := 14) F dX7_isChannel_14 (by decide) ?_
      exact ret1 (by (try rw [i_lt] at h1); (try rw [i_le] at h6); (try rw [i_le] at h7); omega)

set_option maxHeartbeats 4000000 in
theorem c_X7_isPlace {l : Launch} {D : va_G} {cI : ClassId} {wf : WF} {iv : IV} {ar : AR} (hwf : wfOk wf) {x : Int32} : Ct l D cI wf yX7_isPlace cX7_isPlace 1 (some .boolean) 0 0 [.int x] iv ar (rI (bI (inR x 6)) iv ar) := by
  refine Ct.of (lv := [some (.int x)]) hwf (plainFor_of_name (by decide)) (Nat.le_of_ble_eq_true rfl) 0 rfl rfl (fun Z F => ?_)
  have z0 : (0 : Int32).toInt = 0 := rfl
  have zk : (nI 6).toInt = 6 := rfl
  refine k_iload0 (pc := 0) F dX7_isPlace_0 ?_
  refine k_if_lt (pc := 1) (tgt := 14) F dX7_isPlace_1 (by decide) (fun h1 => ?_) (fun h1 => ?_)
  · refine k_iconst (pc := 14) (v := nI 0) F dX7_isPlace_14 (by decide) ?_
    refine k_zret (pc := 15) F dX7_isPlace_15 (by decide) ?_
    exact ret0 (by (try rw [i_lt] at h1); (try rw [i_le] at h6); (try rw [i_le] at h7); omega)
  · refine k_iload0 (pc := 4) F dX7_isPlace_4 ?_
    refine k_bipush (pc := 5) (v := nI 6) F dX7_isPlace_5 (by decide) ?_
    refine k_icmp_ge (pc := 7) (tgt := 14) F dX7_isPlace_7 (by decide) (fun h7 => ?_) (fun h7 => ?_)
    · refine k_iconst (pc := 14) (v := nI 0) F dX7_isPlace_14 (by decide) ?_
      refine k_zret (pc := 15) F dX7_isPlace_15 (by decide) ?_
      exact ret0 (by (try rw [i_lt] at h1); (try rw [i_le] at h6); (try rw [i_le] at h7); omega)
    · refine k_iconst (pc := 10) (v := nI 1) F dX7_isPlace_10 (by decide) ?_
      refine k_goto (pc := 11) (tgt := 15) F dX7_isPlace_11 (by decide) ?_
      refine k_zret (pc := 15) F dX7_isPlace_15 (by decide) ?_
      exact ret1 (by (try rw [i_lt] at h1); (try rw [i_le] at h6); (try rw [i_le] at h7); omega)

set_option maxHeartbeats 4000000 in
theorem c_X7_isSpeaker {l : Launch} {D : va_G} {cI : ClassId} {wf : WF} {iv : IV} {ar : AR} (hwf : wfOk wf) {x : Int32} : Ct l D cI wf yX7_isSpeaker cX7_isSpeaker 1 (some .boolean) 0 0 [.int x] iv ar (rI (bI (inR x 10)) iv ar) := by
  refine Ct.of (lv := [some (.int x)]) hwf (plainFor_of_name (by decide)) (Nat.le_of_ble_eq_true rfl) 0 rfl rfl (fun Z F => ?_)
  have z0 : (0 : Int32).toInt = 0 := rfl
  have zk : (nI 10).toInt = 10 := rfl
  refine k_iload0 (pc := 0) F dX7_isSpeaker_0 ?_
  refine k_if_lt (pc := 1) (tgt := 14) F dX7_isSpeaker_1 (by decide) (fun h1 => ?_) (fun h1 => ?_)
  · refine k_iconst (pc := 14) (v := nI 0) F dX7_isSpeaker_14 (by decide) ?_
    refine k_zret (pc := 15) F dX7_isSpeaker_15 (by decide) ?_
    exact ret0 (by (try rw [i_lt] at h1); (try rw [i_le] at h6); (try rw [i_le] at h7); omega)
  · refine k_iload0 (pc := 4) F dX7_isSpeaker_4 ?_
    refine k_bipush (pc := 5) (v := nI 10) F dX7_isSpeaker_5 (by decide) ?_
    refine k_icmp_ge (pc := 7) (tgt := 14) F dX7_isSpeaker_7 (by decide) (fun h7 => ?_) (fun h7 => ?_)
    · refine k_iconst (pc := 14) (v := nI 0) F dX7_isSpeaker_14 (by decide) ?_
      refine k_zret (pc := 15) F dX7_isSpeaker_15 (by decide) ?_
      exact ret0 (by (try rw [i_lt] at h1); (try rw [i_le] at h6); (try rw [i_le] at h7); omega)
    · refine k_iconst (pc := 10) (v := nI 1) F dX7_isSpeaker_10 (by decide) ?_
      refine k_goto (pc := 11) (tgt := 15) F dX7_isSpeaker_11 (by decide) ?_
      refine k_zret (pc := 15) F dX7_isSpeaker_15 (by decide) ?_
      exact ret1 (by (try rw [i_lt] at h1); (try rw [i_le] at h6); (try rw [i_le] at h7); omega)

set_option maxHeartbeats 4000000 in
theorem c_X7_isBand {l : Launch} {D : va_G} {cI : ClassId} {wf : WF} {iv : IV} {ar : AR} (hwf : wfOk wf) {x : Int32} : Ct l D cI wf yX7_isBand cX7_isBand 1 (some .boolean) 0 0 [.int x] iv ar (rI (bI (inR x 10)) iv ar) := by
  refine Ct.of (lv := [some (.int x)]) hwf (plainFor_of_name (by decide)) (Nat.le_of_ble_eq_true rfl) 0 rfl rfl (fun Z F => ?_)
  have z0 : (0 : Int32).toInt = 0 := rfl
  have zk : (nI 10).toInt = 10 := rfl
  refine k_iload0 (pc := 0) F dX7_isBand_0 ?_
  refine k_if_lt (pc := 1) (tgt := 14) F dX7_isBand_1 (by decide) (fun h1 => ?_) (fun h1 => ?_)
  · refine k_iconst (pc := 14) (v := nI 0) F dX7_isBand_14 (by decide) ?_
    refine k_zret (pc := 15) F dX7_isBand_15 (by decide) ?_
    exact ret0 (by (try rw [i_lt] at h1); (try rw [i_le] at h6); (try rw [i_le] at h7); omega)
  · refine k_iload0 (pc := 4) F dX7_isBand_4 ?_
    refine k_bipush (pc := 5) (v := nI 10) F dX7_isBand_5 (by decide) ?_
    refine k_icmp_ge (pc := 7) (tgt := 14) F dX7_isBand_7 (by decide) (fun h7 => ?_) (fun h7 => ?_)
    · refine k_iconst (pc := 14) (v := nI 0) F dX7_isBand_14 (by decide) ?_
      refine k_zret (pc := 15) F dX7_isBand_15 (by decide) ?_
      exact ret0 (by (try rw [i_lt] at h1); (try rw [i_le] at h6); (try rw [i_le] at h7); omega)
    · refine k_iconst (pc := 10) (v := nI 1) F dX7_isBand_10 (by decide) ?_
      refine k_goto (pc := 11) (tgt := 15) F dX7_isBand_11 (by decide) ?_
      refine k_zret (pc := 15) F dX7_isBand_15 (by decide) ?_
      exact ret1 (by (try rw [i_lt] at h1); (try rw [i_le] at h6); (try rw [i_le] at h7); omega)

set_option maxHeartbeats 4000000 in
theorem c_X7_isSpeakerOrNobody {l : Launch} {D : va_G} {cI : ClassId} {wf : WF} {iv : IV} {ar : AR} (hwf : wfOk wf) {x : Int32} : Ct l D cI wf yX7_isSpeakerOrNobody cX7_isSpeakerOrNobody 1 (some .boolean) 1 20 [.int x] iv ar (rI (bI (spk x)) iv ar) := by
  refine Ct.of (lv := [some (.int x)]) hwf (plainFor_of_name (by decide)) (Nat.le_of_ble_eq_true rfl) 0 rfl rfl (fun Z F => ?_)
  refine k_iload0 (pc := 0) F dX7_isSpeakerOrNobody_0 ?_
  refine k_iconst (pc := 1) (v := -1) F dX7_isSpeakerOrNobody_1 (by decide) ?_
  refine k_icmp_eq (pc := 2) (tgt := 12) F dX7_isSpeakerOrNobody_2 (by decide) (fun h2 => ?_) (fun h2 => ?_)
  · refine k_iconst (pc := 12) (v := nI 1) F dX7_isSpeakerOrNobody_12 (by decide) ?_
    refine k_goto (pc := 13) (tgt := 17) F dX7_isSpeakerOrNobody_13 (by decide) ?_
    refine k_zret (pc := 17) F dX7_isSpeakerOrNobody_17 (by decide) ?_
    exact ret1 (by first | exact Or.inl h2 | exact Or.inr h9 | exact fun q => q.elim h2 h9)
  · refine k_iload0 (pc := 5) F dX7_isSpeakerOrNobody_5 ?_
    refine k_callS (pc := 6) F (c_X7_isSpeaker hwf) ok_X7_198 rfl rfl (by decide) (by decide) (Nat.le_of_ble_eq_true rfl) dX7_isSpeakerOrNobody_6 (rI.use ?_)
    refine k_if_eqB (pc := 9) (tgt := 16) F dX7_isSpeakerOrNobody_9 (by decide) (fun h9 => ?_) (fun h9 => ?_)
    · refine k_iconst (pc := 16) (v := nI 0) F dX7_isSpeakerOrNobody_16 (by decide) ?_
      refine k_zret (pc := 17) F dX7_isSpeakerOrNobody_17 (by decide) ?_
      exact ret0 (by first | exact Or.inl h2 | exact Or.inr h9 | exact fun q => q.elim h2 h9)
    · refine k_iconst (pc := 12) (v := nI 1) F dX7_isSpeakerOrNobody_12 (by decide) ?_
      refine k_goto (pc := 13) (tgt := 17) F dX7_isSpeakerOrNobody_13 (by decide) ?_
      refine k_zret (pc := 17) F dX7_isSpeakerOrNobody_17 (by decide) ?_
      exact ret1 (by first | exact Or.inl h2 | exact Or.inr h9 | exact fun q => q.elim h2 h9)

set_option maxHeartbeats 4000000 in
theorem c_X7_areTwo {l : Launch} {D : va_G} {cI : ClassId} {ad : Nat → Nat} {iv : IV} {ar : AR} {n : Nat} {c : Nat → Nat} {s t : Nat → Int32} (hA : Arch n c s t iv ar) {x y : Int32} : Ct l D cI (cw cI ad) yX7_areTwo cX7_areTwo 3 (some .boolean) 1 21 [.ref (ad 0), .int x, .int y] iv ar (rI (bI (inR x n ∧ inR y n ∧ ¬ x = y)) iv ar) := by
  refine Ct.of (lv := [some (.ref (ad 0)), some (.int x), some (.int y)]) cw_ok (plainFor_of_name (by decide)) (Nat.le_of_ble_eq_true rfl) 0 rfl rfl (fun Z F => ?_)
  refine k_iload1 (pc := 0) F dX7_areTwo_0 ?_
  refine k_iload2 (pc := 1) F dX7_areTwo_1 ?_
  refine k_icmp_eq (pc := 2) (tgt := 31) F dX7_areTwo_2 (by decide) (fun h2 => ?_) (fun h2 => ?_)
  · refine k_iconst (pc := 31) (v := nI 0) F dX7_areTwo_31 (by decide) ?_
    refine k_zret (pc := 32) F dX7_areTwo_32 (by decide) ?_
    exact ret0 (by first | exact ⟨h13, h24, h2⟩ | exact fun q => q.2.2 h2 | exact fun q => h13 q.1 | exact fun q => h24 q.2.1)
  · refine k_aload0 (pc := 5) F dX7_areTwo_5 ?_
    refine g_X7_archive (pc := 6) F dX7_areTwo_6 ?_
    refine k_iload1 (pc := 9) F dX7_areTwo_9 ?_
    refine k_callV (pc := 10) (q0 := 1) F (c_X0_has hA.1 hA.le) ok_X7_92 rfl rfl rfl rfl rfl (by decide) (by decide) (Nat.le_of_ble_eq_true rfl) dX7_areTwo_10 (rI.use ?_)
    refine k_if_eqB (pc := 13) (tgt := 31) F dX7_areTwo_13 (by decide) (fun h13 => ?_) (fun h13 => ?_)
    · refine k_iconst (pc := 31) (v := nI 0) F dX7_areTwo_31 (by decide) ?_
      refine k_zret (pc := 32) F dX7_areTwo_32 (by decide) ?_
      exact ret0 (by first | exact ⟨h13, h24, h2⟩ | exact fun q => q.2.2 h2 | exact fun q => h13 q.1 | exact fun q => h24 q.2.1)
    · refine k_aload0 (pc := 16) F dX7_areTwo_16 ?_
      refine g_X7_archive (pc := 17) F dX7_areTwo_17 ?_
      refine k_iload2 (pc := 20) F dX7_areTwo_20 ?_
      refine k_callV (pc := 21) (q0 := 1) F (c_X0_has hA.1 hA.le) ok_X7_92 rfl rfl rfl rfl rfl (by decide) (by decide) (Nat.le_of_ble_eq_true rfl) dX7_areTwo_21 (rI.use ?_)
      refine k_if_eqB (pc := 24) (tgt := 31) F dX7_areTwo_24 (by decide) (fun h24 => ?_) (fun h24 => ?_)
      · refine k_iconst (pc := 31) (v := nI 0) F dX7_areTwo_31 (by decide) ?_
        refine k_zret (pc := 32) F dX7_areTwo_32 (by decide) ?_
        exact ret0 (by first | exact ⟨h13, h24, h2⟩ | exact fun q => q.2.2 h2 | exact fun q => h13 q.1 | exact fun q => h24 q.2.1)
      · refine k_iconst (pc := 27) (v := nI 1) F dX7_areTwo_27 (by decide) ?_
        refine k_goto (pc := 28) (tgt := 32) F dX7_areTwo_28 (by decide) ?_
        refine k_zret (pc := 32) F dX7_areTwo_32 (by decide) ?_
        exact ret1 (by first | exact ⟨h13, h24, h2⟩ | exact fun q => q.2.2 h2 | exact fun q => h13 q.1 | exact fun q => h24 q.2.1)

set_option maxHeartbeats 4000000 in
theorem c_X7_toneTold {l : Launch} {D : va_G} {cI : ClassId} {ad : Nat → Nat} {iv : IV} {ar : AR} {n : Nat} {c : Nat → Nat} {s t : Nat → Int32} (hA : Arch n c s t iv ar) {k : Nat} (hk : k < n) {y : Int32} : Ct l D cI (cw cI ad) yX7_toneTold cX7_toneTold 3 (some .int) 1 22 [.ref (ad 0), .int (nI k), .int y] iv ar (rI (if 10 ≤ y.toInt ∧ y.toInt < 16 then t (k * 6 + (cN y - 10)) else -1) iv ar) := by
  refine Ct.of (lv := [some (.ref (ad 0)), some (.int (nI k)), some (.int y)]) cw_ok (plainFor_of_name (by decide)) (Nat.le_of_ble_eq_true rfl) 0 rfl rfl (fun Z F => ?_)
  have hn := hA.le
  have z1 : (nI 10).toInt = 10 := rfl
  have z2 : (nI 16).toInt = 16 := rfl
  refine k_iload2 (pc := 0) F dX7_toneTold_0 ?_
  refine k_bipush (pc := 1) (v := nI 10) F dX7_toneTold_1 (by decide) ?_
  refine k_icmp_lt (pc := 3) (tgt := 12) F dX7_toneTold_3 (by decide) (fun h3 => ?_) (fun h3 => ?_)
  · refine k_iconst (pc := 12) (v := -1) F dX7_toneTold_12 (by decide) ?_
    refine k_iret (pc := 13) F dX7_toneTold_13 ?_
    refine ⟨(if_neg ?_).symm ▸ rfl, rfl, rfl⟩
    intro q
    first | (rw [i_lt, z1] at h3; omega) | (rw [i_lt, z2] at h9; omega)
  · refine k_iload2 (pc := 6) F dX7_toneTold_6 ?_
    refine k_bipush (pc := 7) (v := nI 16) F dX7_toneTold_7 (by decide) ?_
    refine k_icmp_lt (pc := 9) (tgt := 14) F dX7_toneTold_9 (by decide) (fun h9 => ?_) (fun h9 => ?_)
    · rw [i_lt, z1] at h3
      rw [i_lt, z2] at h9
      obtain ⟨q, hq, rfl⟩ := nat_of (r := y) (n := 16) ⟨by omega, h9⟩
      have zq := nI_toInt (n := q) (by omega)
      rw [zq] at h3 h9
      refine k_aload0 (pc := 14) F dX7_toneTold_14 ?_
      refine g_X7_archive (pc := 15) F dX7_toneTold_15 ?_
      refine k_iload1 (pc := 18) F dX7_toneTold_18 ?_
      refine k_iload2 (pc := 19) F dX7_toneTold_19 ?_
      refine k_bipush (pc := 20) (v := nI 10) F dX7_toneTold_20 (by decide) ?_
      refine k_isubN (pc := 22) F dX7_toneTold_22 (by omega) ?_
      refine k_callV (pc := 23) (q0 := 1) F (ca_toneAt hA (k := k) (p := (q - 10)) (by omega) (by omega)) ok_X7_233 rfl rfl rfl rfl rfl (by decide) (by decide) (Nat.le_of_ble_eq_true rfl) dX7_toneTold_23 (rI.use ?_)
      refine k_iret (pc := 26) F dX7_toneTold_26 ?_
      refine ⟨?_, rfl, rfl⟩
      rw [if_pos ⟨by rw [zq]; omega, by rw [zq]; omega⟩]
      unfold cN
      rw [nI_clamp (by omega)]
    · refine k_iconst (pc := 12) (v := -1) F dX7_toneTold_12 (by decide) ?_
      refine k_iret (pc := 13) F dX7_toneTold_13 ?_
      refine ⟨(if_neg ?_).symm ▸ rfl, rfl, rfl⟩
      intro q
      first | (rw [i_lt, z1] at h3; omega) | (rw [i_lt, z2] at h9; omega)

set_option maxHeartbeats 4000000 in
theorem c_X1_areOver {l : Launch} {D : va_G} {cI : ClassId} {ad : Nat → Nat} {iv : IV} {ar : AR} {tt : Nat} (htt : iv 11 = nI tt) (ht2 : tt ≤ 60) : Ct l D cI (cw cI ad) yX1_areOver cX1_areOver 1 (some .boolean) 0 0 [.ref (ad 7)] iv ar (rI (bI (60 ≤ tt)) iv ar) := by
  refine Ct.of (lv := [some (.ref (ad 7))]) cw_ok (plainFor_of_name (by decide)) (Nat.le_of_ble_eq_true rfl) 0 rfl rfl (fun Z F => ?_)
  refine k_aload0 (pc := 0) F dX1_areOver_0 ?_
  refine g_X1_putSoFar (pc := 1) F (htt) dX1_areOver_1 ?_
  refine k_bipush (pc := 4) (v := nI 60) F dX1_areOver_4 (by decide) ?_
  refine k_icmp_ltN (pc := 6) (tgt := 13) F dX1_areOver_6 (by decide) (by omega) (by omega) (fun h6 => ?_) (fun h6 => ?_)
  · refine k_iconst (pc := 13) (v := nI 0) F dX1_areOver_13 (by decide) ?_
    refine k_zret (pc := 14) F dX1_areOver_14 (by decide) ?_
    exact ret0 (by omega)
  · refine k_iconst (pc := 9) (v := nI 1) F dX1_areOver_9 (by decide) ?_
    refine k_goto (pc := 10) (tgt := 14) F dX1_areOver_10 (by decide) ?_
    refine k_zret (pc := 14) F dX1_areOver_14 (by decide) ?_
    exact ret1 (by omega)

def spo (v : Int32) (lim : Nat) (b : Int32) : Nat := if v = -1 then 4 else if v ≤ nI lim then (if b = 0 then 1 else 0) else (if b = 0 then 2 else 3)
set_option maxHeartbeats 4000000 in
theorem c_X1_put {l : Launch} {D : va_G} {cI : ClassId} {ad : Nat → Nat} {iv : IV} {ar : AR} {tt : Nat} (htt : iv 11 = nI tt) {v b : Int32} {lim : Nat} : Ct l D cI (cw cI ad) yX1_put cX1_put 4 (some .int) 0 0 [.ref (ad 7), .int v, .int (nI lim), .int b] iv ar (rI (says v lim) (va_up iv 11 (nI (tt + 1))) (va_up ar 19 (upd (ar 19) (spo v lim b) (ar 19 (spo v lim b) + nI 1)))) := by
  refine Ct.of (lv := [some (.ref (ad 7)), some (.int v), some (.int (nI lim)), some (.int b)]) cw_ok (plainFor_of_name (by decide)) (Nat.le_of_ble_eq_true rfl) 0 rfl rfl (fun Z F => ?_)
  refine k_aload0 (pc := 0) F dX1_put_0 ?_
  refine k_dup (pc := 1) F dX1_put_1 rfl ?_
  refine g_X1_putSoFar (pc := 2) F (htt) dX1_put_2 ?_
  refine k_iconst (pc := 5) (v := nI 1) F dX1_put_5 (by decide) ?_
  refine k_iaddN (pc := 6) F dX1_put_6 ?_
  refine p_X1_putSoFar (pc := 7) F dX1_put_7 ?_
  refine k_iload1 (pc := 10) F dX1_put_10 ?_
  refine k_iconst (pc := 11) (v := -1) F dX1_put_11 (by decide) ?_
  refine k_icmp_ne (pc := 12) (tgt := 27) F dX1_put_12 (by decide) (fun h12 => ?_) (fun h12 => ?_)
  · refine k_iload1 (pc := 27) F dX1_put_27 ?_
    refine k_iload2 (pc := 28) F dX1_put_28 ?_
    refine k_icmp_gt (pc := 29) (tgt := 52) F dX1_put_29 (by decide) (fun h29 => ?_) (fun h29 => ?_)
    · refine k_aload0 (pc := 52) F dX1_put_52 ?_
      refine g_X1_outcomes (pc := 53) F dX1_put_53 ?_
      refine k_iload3 (pc := 56) F dX1_put_56 ?_
      refine k_if_eq (pc := 57) (tgt := 64) F dX1_put_57 (by decide) (fun h57 => ?_) (fun h57 => ?_)
      · refine k_iconst (pc := 64) (v := nI 2) F dX1_put_64 (by decide) ?_
        refine k_dup2 (pc := 65) F dX1_put_65 rfl rfl ?_
        refine l_c19 (pc := 66) F (by omega) rfl dX1_put_66 ?_
        refine k_iconst (pc := 67) (v := nI 1) F dX1_put_67 (by decide) ?_
        refine k_iadd (pc := 68) F dX1_put_68 ?_
        refine s_c19 (pc := 69) F (by omega) (rfl) dX1_put_69 ?_
        refine k_iconst (pc := 70) (v := nI 0) F dX1_put_70 (by decide) ?_
        refine k_iret (pc := 71) F dX1_put_71 ?_
        have hle : ¬ v ≤ nI lim := (by rw [i_le]; rw [i_lt] at h29; omega)
        first
        | (have e1 : spo v lim b = 2 := by rw [spo, if_neg h12, if_neg hle, if_pos h57]
           have e2 : says v lim = nI 0 := by rw [says, if_neg h12, if_neg hle]
           rw [e1, e2]
           exact ⟨rfl, rfl, rfl⟩)
        | (have e1 : spo v lim b = 3 := by rw [spo, if_neg h12, if_neg hle, if_neg h57]
           have e2 : says v lim = nI 0 := by rw [says, if_neg h12, if_neg hle]
           rw [e1, e2]
           exact ⟨rfl, rfl, rfl⟩)
      · refine k_iconst (pc := 60) (v := nI 3) F dX1_put_60 (by decide) ?_
        refine k_goto (pc := 61) (tgt := 65) F dX1_put_61 (by decide) ?_
        refine k_dup2 (pc := 65) F dX1_put_65 rfl rfl ?_
        refine l_c19 (pc := 66) F (by omega) rfl dX1_put_66 ?_
        refine k_iconst (pc := 67) (v := nI 1) F dX1_put_67 (by decide) ?_
        refine k_iadd (pc := 68) F dX1_put_68 ?_
        refine s_c19 (pc := 69) F (by omega) (rfl) dX1_put_69 ?_
        refine k_iconst (pc := 70) (v := nI 0) F dX1_put_70 (by decide) ?_
        refine k_iret (pc := 71) F dX1_put_71 ?_
        have hle : ¬ v ≤ nI lim := (by rw [i_le]; rw [i_lt] at h29; omega)
        first
        | (have e1 : spo v lim b = 2 := by rw [spo, if_neg h12, if_neg hle, if_pos h57]
           have e2 : says v lim = nI 0 := by rw [says, if_neg h12, if_neg hle]
           rw [e1, e2]
           exact ⟨rfl, rfl, rfl⟩)
        | (have e1 : spo v lim b = 3 := by rw [spo, if_neg h12, if_neg hle, if_neg h57]
           have e2 : says v lim = nI 0 := by rw [says, if_neg h12, if_neg hle]
           rw [e1, e2]
           exact ⟨rfl, rfl, rfl⟩)
    · refine k_aload0 (pc := 32) F dX1_put_32 ?_
      refine g_X1_outcomes (pc := 33) F dX1_put_33 ?_
      refine k_iload3 (pc := 36) F dX1_put_36 ?_
      refine k_if_eq (pc := 37) (tgt := 44) F dX1_put_37 (by decide) (fun h37 => ?_) (fun h37 => ?_)
      · refine k_iconst (pc := 44) (v := nI 1) F dX1_put_44 (by decide) ?_
        refine k_dup2 (pc := 45) F dX1_put_45 rfl rfl ?_
        refine l_c19 (pc := 46) F (by omega) rfl dX1_put_46 ?_
        refine k_iconst (pc := 47) (v := nI 1) F dX1_put_47 (by decide) ?_
        refine k_iadd (pc := 48) F dX1_put_48 ?_
        refine s_c19 (pc := 49) F (by omega) (rfl) dX1_put_49 ?_
        refine k_iconst (pc := 50) (v := nI 1) F dX1_put_50 (by decide) ?_
        refine k_iret (pc := 51) F dX1_put_51 ?_
        have hle : v ≤ nI lim := (by rw [i_le]; rw [i_lt] at h29; omega)
        first
        | (have e1 : spo v lim b = 1 := by rw [spo, if_neg h12, if_pos hle, if_pos h37]
           have e2 : says v lim = nI 1 := by rw [says, if_neg h12, if_pos hle]
           rw [e1, e2]
           exact ⟨rfl, rfl, rfl⟩)
        | (have e1 : spo v lim b = 0 := by rw [spo, if_neg h12, if_pos hle, if_neg h37]
           have e2 : says v lim = nI 1 := by rw [says, if_neg h12, if_pos hle]
           rw [e1, e2]
           exact ⟨rfl, rfl, rfl⟩)
      · refine k_iconst (pc := 40) (v := nI 0) F dX1_put_40 (by decide) ?_
        refine k_goto (pc := 41) (tgt := 45) F dX1_put_41 (by decide) ?_
        refine k_dup2 (pc := 45) F dX1_put_45 rfl rfl ?_
        refine l_c19 (pc := 46) F (by omega) rfl dX1_put_46 ?_
        refine k_iconst (pc := 47) (v := nI 1) F dX1_put_47 (by decide) ?_
        refine k_iadd (pc := 48) F dX1_put_48 ?_
        refine s_c19 (pc := 49) F (by omega) (rfl) dX1_put_49 ?_
        refine k_iconst (pc := 50) (v := nI 1) F dX1_put_50 (by decide) ?_
        refine k_iret (pc := 51) F dX1_put_51 ?_
        have hle : v ≤ nI lim := (by rw [i_le]; rw [i_lt] at h29; omega)
        first
        | (have e1 : spo v lim b = 1 := by rw [spo, if_neg h12, if_pos hle, if_pos h37]
           have e2 : says v lim = nI 1 := by rw [says, if_neg h12, if_pos hle]
           rw [e1, e2]
           exact ⟨rfl, rfl, rfl⟩)
        | (have e1 : spo v lim b = 0 := by rw [spo, if_neg h12, if_pos hle, if_neg h37]
           have e2 : says v lim = nI 1 := by rw [says, if_neg h12, if_pos hle]
           rw [e1, e2]
           exact ⟨rfl, rfl, rfl⟩)
  · refine k_aload0 (pc := 15) F dX1_put_15 ?_
    refine g_X1_outcomes (pc := 16) F dX1_put_16 ?_
    refine k_iconst (pc := 19) (v := nI 4) F dX1_put_19 (by decide) ?_
    refine k_dup2 (pc := 20) F dX1_put_20 rfl rfl ?_
    refine l_c19 (pc := 21) F (by omega) rfl dX1_put_21 ?_
    refine k_iconst (pc := 22) (v := nI 1) F dX1_put_22 (by decide) ?_
    refine k_iadd (pc := 23) F dX1_put_23 ?_
    refine s_c19 (pc := 24) F (by omega) (rfl) dX1_put_24 ?_
    refine k_iconst (pc := 25) (v := nI 2) F dX1_put_25 (by decide) ?_
    refine k_iret (pc := 26) F dX1_put_26 ?_
    have e1 : spo v lim b = 4 := if_pos h12
    have e2 : says v lim = nI 2 := if_pos h12
    rw [e1, e2]
    exact ⟨rfl, rfl, rfl⟩

set_option maxHeartbeats 4000000 in
theorem c_X3_reaches {l : Launch} {D : va_G} {cI : ClassId} {ad : Nat → Nat} {iv : IV} {ar : AR} {w : WT} (hC : okC w) (hB : BB (blk w) iv ar) {i : Nat} (hi : i < bm (blk w)) : Ct l D cI (cw cI ad) yX3_reaches cX3_reaches 2 (some .boolean) 0 0 [.ref (ad 4), .int (nI i)] iv ar (rI (bI (¬ bs (blk w) i = 0 ∧ ¬ bo (blk w) i = 0)) iv ar) := by
  refine Ct.of (lv := [some (.ref (ad 4)), some (.int (nI i))]) cw_ok (plainFor_of_name (by decide)) (Nat.le_of_ble_eq_true rfl) 0 rfl rfl (fun Z F => ?_)
  have hb := blk_bd hC hi
  have hle := blk_le w
  refine k_aload0 (pc := 0) F dX3_reaches_0 ?_
  refine g_X3_blockSame (pc := 1) F dX3_reaches_1 ?_
  refine k_iload1 (pc := 4) F dX3_reaches_4 ?_
  refine l_c10 (pc := 5) F (by omega) ((hB.2 i hi).2.2.1) dX3_reaches_5 ?_
  refine k_if_eqN (pc := 6) (tgt := 22) F dX3_reaches_6 (by decide) (by omega) (fun h6 => ?_) (fun h6 => ?_)
  · refine k_iconst (pc := 22) (v := nI 0) F dX3_reaches_22 (by decide) ?_
    refine k_zret (pc := 23) F dX3_reaches_23 (by decide) ?_
    exact ret0 (by first | exact ⟨h6, h15⟩ | exact fun q => q.1 h6 | exact fun q => q.2 h15)
  · refine k_aload0 (pc := 9) F dX3_reaches_9 ?_
    refine g_X3_blockOther (pc := 10) F dX3_reaches_10 ?_
    refine k_iload1 (pc := 13) F dX3_reaches_13 ?_
    refine l_c11 (pc := 14) F (by omega) ((hB.2 i hi).2.2.2) dX3_reaches_14 ?_
    refine k_if_eqN (pc := 15) (tgt := 22) F dX3_reaches_15 (by decide) (by omega) (fun h15 => ?_) (fun h15 => ?_)
    · refine k_iconst (pc := 22) (v := nI 0) F dX3_reaches_22 (by decide) ?_
      refine k_zret (pc := 23) F dX3_reaches_23 (by decide) ?_
      exact ret0 (by first | exact ⟨h6, h15⟩ | exact fun q => q.1 h6 | exact fun q => q.2 h15)
    · refine k_iconst (pc := 18) (v := nI 1) F dX3_reaches_18 (by decide) ?_
      refine k_goto (pc := 19) (tgt := 23) F dX3_reaches_19 (by decide) ?_
      refine k_zret (pc := 23) F dX3_reaches_23 (by decide) ?_
      exact ret1 (by first | exact ⟨h6, h15⟩ | exact fun q => q.1 h6 | exact fun q => q.2 h15)

set_option maxHeartbeats 4000000 in
theorem c_X7_freshPairs {l : Launch} {D : va_G} {cI : ClassId} {ad : Nat → Nat} {iv : IV} {ar : AR} {n : Nat} {c : Nat → Nat} {s t : Nat → Int32} {set : Int32} {lim m : Nat} {g : Nat → Nat} {tt : Nat} {rt : Nat → Int32} (hI : CI n c s t set lim m g tt rt iv ar) : Ct l D cI (cw cI ad) yX7_freshPairs cX7_freshPairs 1 (some (.object "VoiceHouse$PairBook")) 5 118 [.ref (ad 0)] iv ar (qR (ad 4) (fun iv2 ar2 => CI n c s t set lim m g tt rt iv2 ar2 ∧ PB (WW c s t n set) iv2 ar2 ∧ BB (blk (WW c s t n set)) iv2 ar2)) := by
  refine Ct.of (lv := [some (.ref (ad 0))]) cw_ok (plainFor_of_name (by decide)) (Nat.le_of_ble_eq_true rfl) 0 rfl rfl (fun Z F => ?_)
  have hI0 := hI
  obtain ⟨hA, hT, hSp, hz, hm5, hm4, hG, hset, hlim, hl2, hp, htt, ht2, hrt⟩ := hI
  have hn := hA.le
  have hm8 := hG.2.1
  rcases hp with e | ⟨e, e2, e3⟩
  · have hM : okM (ar 5) := fun j hj => by rw [hm5 j hj]; exact shA_B hT hn j hj
    refine k_aload0 (pc := 0) F dX7_freshPairs_0 ?_
    refine g_X7_pairsAreOld (pc := 1) F (e) dX7_freshPairs_1 ?_
    refine k_if_eq (pc := 4) (tgt := 23) F dX7_freshPairs_4 (by decide) (fun h => absurd h (by decide)) (fun _ => ?_)
    refine k_aload0 (pc := 7) F dX7_freshPairs_7 ?_
    refine g_X7_pairBook (pc := 8) F dX7_freshPairs_8 ?_
    refine k_aload0 (pc := 11) F dX7_freshPairs_11 ?_
    refine g_X7_speakersInSet (pc := 12) F (hset) dX7_freshPairs_12 ?_
    refine k_callV (pc := 15) (q0 := 4) F (c_X3_fillFor hA hT hM (set := set)) ok_X7_236 rfl rfl rfl rfl rfl (by decide) (by decide) (Nat.le_of_ble_eq_true rfl) dX7_freshPairs_15 (qV.use (fun iv15 ar15 h15 => ?_))
    obtain ⟨f1, f2, f3, f4⟩ := h15
    have ew : cou (Sc c t (ar 5)) s set n = WW c s t n set := cou_congr (fun a b ha hb => sco_congr (hA.lt ha) (hA.lt hb) hm5) (fun _ _ => rfl) n (Nat.le_refl n)
    rw [ew] at f3 f4
    refine k_aload0 (pc := 18) F dX7_freshPairs_18 ?_
    refine k_iconst (pc := 19) (v := nI 0) F dX7_freshPairs_19 (by decide) ?_
    refine p_X7_pairsAreOld (pc := 20) F (by decide) (by decide) dX7_freshPairs_20 ?_
    refine k_aload0 (pc := 23) F dX7_freshPairs_23 ?_
    refine g_X7_pairBook (pc := 24) F dX7_freshPairs_24 ?_
    refine k_aret (pc := 27) F dX7_freshPairs_27 ?_
    have f5 : PB (WW c s t n set) (va_up iv15 2 (nI 0)) ar15 := ⟨f3.1, f3.2.1, f3.2.2.1, f3.2.2.2⟩
    exact ⟨rfl, hI0.fresh (fun q a b c d => (up_n a).trans (f1 q b c d)) f2 up_s f5 ⟨f4.1, f4.2⟩, f5, ⟨f4.1, f4.2⟩⟩
  · have hd : True := trivial
    refine k_aload0 (pc := 0) F dX7_freshPairs_0 ?_
    refine g_X7_pairsAreOld (pc := 1) F (e) dX7_freshPairs_1 ?_
    refine k_if_eq (pc := 4) (tgt := 23) F dX7_freshPairs_4 (by decide) (fun _ => ?_) (fun h => absurd h (by decide))
    refine k_aload0 (pc := 23) F dX7_freshPairs_23 ?_
    refine g_X7_pairBook (pc := 24) F dX7_freshPairs_24 ?_
    refine k_aret (pc := 27) F dX7_freshPairs_27 ?_
    exact ⟨rfl, hI0, e2, e3⟩

set_option maxHeartbeats 4000000 in
theorem c_X7_record {l : Launch} {D : va_G} {cI : ClassId} {ad : Nat → Nat} {iv : IV} {ar : AR} {n : Nat} {c : Nat → Nat} {s t : Nat → Int32} {set : Int32} {lim m : Nat} {g : Nat → Nat} {tt : Nat} {rt : Nat → Int32} (hI : CI n c s t set lim m g tt rt iv ar) {x y : Int32} : Ct l D cI (cw cI ad) yX7_record cX7_record 3 (some .int) 2 40 [.ref (ad 0), .int x, .int y] iv ar (qI (fun x2 iv2 ar2 => Sp (inR x 4 ∧ spk y ∧ n < 30) x2 (nI n) (-1) (CI (n + 1) (va_up c n (cN x)) (upd s n y) (tN t n) set lim m g tt rt iv2 ar2) (CI n c s t set lim m g tt rt iv2 ar2))) := by
  refine Ct.of (lv := [some (.ref (ad 0)), some (.int x), some (.int y)]) cw_ok (plainFor_of_name (by decide)) (Nat.le_of_ble_eq_true rfl) 0 rfl rfl (fun Z F => ?_)
  have hI0 := hI
  obtain ⟨hA, hT, hSp, hz, hm5, hm4, hG, hset, hlim, hl2, hp, htt, ht2, hrt⟩ := hI
  have hn := hA.le
  have hm8 := hG.2.1
  refine k_iload1 (pc := 0) F dX7_record_0 ?_
  refine k_callS (pc := 1) F (c_X7_isChannel cw_ok) ok_X7_77 rfl rfl (by decide) (by decide) (Nat.le_of_ble_eq_true rfl) dX7_record_1 (rI.use ?_)
  refine k_if_eqB (pc := 4) (tgt := 24) F dX7_record_4 (by decide) (fun h4 => ?_) (fun h4 => ?_)
  · refine k_iconst (pc := 24) (v := -1) F dX7_record_24 (by decide) ?_
    refine k_iret (pc := 25) F dX7_record_25 ?_
    exact ⟨_, rfl, Or.inr ⟨fun q => by first | exact h4 q.1 | exact h11 q.2.1 | (have := q.2.2; omega), rfl, hI0⟩⟩
  · refine k_iload2 (pc := 7) F dX7_record_7 ?_
    refine k_callS (pc := 8) F (c_X7_isSpeakerOrNobody cw_ok) ok_X7_81 rfl rfl (by decide) (by decide) (Nat.le_of_ble_eq_true rfl) dX7_record_8 (rI.use ?_)
    refine k_if_eqB (pc := 11) (tgt := 24) F dX7_record_11 (by decide) (fun h11 => ?_) (fun h11 => ?_)
    · refine k_iconst (pc := 24) (v := -1) F dX7_record_24 (by decide) ?_
      refine k_iret (pc := 25) F dX7_record_25 ?_
      exact ⟨_, rfl, Or.inr ⟨fun q => by first | exact h4 q.1 | exact h11 q.2.1 | (have := q.2.2; omega), rfl, hI0⟩⟩
    · refine k_aload0 (pc := 14) F dX7_record_14 ?_
      refine g_X7_archive (pc := 15) F dX7_record_15 ?_
      refine k_callV (pc := 18) (q0 := 1) F (c_X0_isFull hA.1 hA.le) ok_X7_84 rfl rfl rfl rfl rfl (by decide) (by decide) (Nat.le_of_ble_eq_true rfl) dX7_record_18 (rI.use ?_)
      refine k_if_eqB (pc := 21) (tgt := 26) F dX7_record_21 (by decide) (fun h21 => ?_) (fun h21 => ?_)
      · refine k_aload0 (pc := 26) F dX7_record_26 ?_
        refine g_X7_archive (pc := 27) F dX7_record_27 ?_
        refine k_iload1 (pc := 30) F dX7_record_30 ?_
        refine k_iload2 (pc := 31) F dX7_record_31 ?_
        refine k_callV (pc := 32) (q0 := 1) F (c_X0_add (n := n) hA.1 (by omega)) ok_X7_88 rfl rfl rfl rfl rfl (by decide) (by decide) (Nat.le_of_ble_eq_true rfl) dX7_record_32 (rI.use ?_)
        refine k_iret (pc := 35) F dX7_record_35 ?_
        exact ⟨_, rfl, Or.inl ⟨⟨h4, h11, by omega⟩, rfl, hI0.rec_ h4 h11 (by omega)⟩⟩
      · refine k_iconst (pc := 24) (v := -1) F dX7_record_24 (by decide) ?_
        refine k_iret (pc := 25) F dX7_record_25 ?_
        exact ⟨_, rfl, Or.inr ⟨fun q => by first | exact h4 q.1 | exact h11 q.2.1 | (have := q.2.2; omega), rfl, hI0⟩⟩

set_option maxHeartbeats 4000000 in
theorem c_X7_tone {l : Launch} {D : va_G} {cI : ClassId} {ad : Nat → Nat} {iv : IV} {ar : AR} {n : Nat} {c : Nat → Nat} {s t : Nat → Int32} {set : Int32} {lim m : Nat} {g : Nat → Nat} {tt : Nat} {rt : Nat → Int32} (hI : CI n c s t set lim m g tt rt iv ar) {x y v : Int32} : Ct l D cI (cw cI ad) yX7_tone cX7_tone 4 (some .boolean) 3 70 [.ref (ad 0), .int x, .int y, .int v] iv ar (qI (fun x2 iv2 ar2 => Sp (inR x n ∧ inR y 6 ∧ -1 ≤ v.toInt ∧ v.toInt ≤ 99) x2 (nI 1) (nI 0) (CI n c s (upd t (cN x * 6 + cN y) v) set lim m g tt rt iv2 ar2) (CI n c s t set lim m g tt rt iv2 ar2))) := by
  refine Ct.of (lv := [some (.ref (ad 0)), some (.int x), some (.int y), some (.int v)]) cw_ok (plainFor_of_name (by decide)) (Nat.le_of_ble_eq_true rfl) 0 rfl rfl (fun Z F => ?_)
  have hI0 := hI
  obtain ⟨hA, hT, hSp, hz, hm5, hm4, hG, hset, hlim, hl2, hp, htt, ht2, hrt⟩ := hI
  have hn := hA.le
  have hm8 := hG.2.1
  have z1 : (-1 : Int32).toInt = -1 := rfl
  have z2 : (nI 99).toInt = 99 := rfl
  refine k_aload0 (pc := 0) F dX7_tone_0 ?_
  refine g_X7_archive (pc := 1) F dX7_tone_1 ?_
  refine k_iload1 (pc := 4) F dX7_tone_4 ?_
  refine k_callV (pc := 5) (q0 := 1) F (c_X0_has hA.1 hA.le) ok_X7_92 rfl rfl rfl rfl rfl (by decide) (by decide) (Nat.le_of_ble_eq_true rfl) dX7_tone_5 (rI.use ?_)
  refine k_if_eqB (pc := 8) (tgt := 29) F dX7_tone_8 (by decide) (fun h8 => ?_) (fun h8 => ?_)
  · refine k_iconst (pc := 29) (v := nI 0) F dX7_tone_29 (by decide) ?_
    refine k_zret (pc := 30) F dX7_tone_30 (by decide) ?_
    exact ⟨_, rfl, Or.inr ⟨fun q => by first | exact h8 q.1 | exact h15 q.2.1 | (rw [i_lt, z1] at h20; have := q.2.2; omega) | (rw [i_le, z2] at h26; have := q.2.2; omega), rfl, hI0⟩⟩
  · obtain ⟨r, hr, rfl⟩ := nat_of h8
    refine k_iload2 (pc := 11) F dX7_tone_11 ?_
    refine k_callS (pc := 12) F (c_X7_isPlace cw_ok) ok_X7_95 rfl rfl (by decide) (by decide) (Nat.le_of_ble_eq_true rfl) dX7_tone_12 (rI.use ?_)
    refine k_if_eqB (pc := 15) (tgt := 29) F dX7_tone_15 (by decide) (fun h15 => ?_) (fun h15 => ?_)
    · refine k_iconst (pc := 29) (v := nI 0) F dX7_tone_29 (by decide) ?_
      refine k_zret (pc := 30) F dX7_tone_30 (by decide) ?_
      exact ⟨_, rfl, Or.inr ⟨fun q => by first | exact h8 q.1 | exact h15 q.2.1 | (rw [i_lt, z1] at h20; have := q.2.2; omega) | (rw [i_le, z2] at h26; have := q.2.2; omega), rfl, hI0⟩⟩
    · obtain ⟨p, hp6, rfl⟩ := nat_of h15
      refine k_iload3 (pc := 18) F dX7_tone_18 ?_
      refine k_iconst (pc := 19) (v := -1) F dX7_tone_19 (by decide) ?_
      refine k_icmp_lt (pc := 20) (tgt := 29) F dX7_tone_20 (by decide) (fun h20 => ?_) (fun h20 => ?_)
      · refine k_iconst (pc := 29) (v := nI 0) F dX7_tone_29 (by decide) ?_
        refine k_zret (pc := 30) F dX7_tone_30 (by decide) ?_
        exact ⟨_, rfl, Or.inr ⟨fun q => by first | exact h8 q.1 | exact h15 q.2.1 | (rw [i_lt, z1] at h20; have := q.2.2; omega) | (rw [i_le, z2] at h26; have := q.2.2; omega), rfl, hI0⟩⟩
      · refine k_iload3 (pc := 23) F dX7_tone_23 ?_
        refine k_bipush (pc := 24) (v := nI 99) F dX7_tone_24 (by decide) ?_
        refine k_icmp_le (pc := 26) (tgt := 31) F dX7_tone_26 (by decide) (fun h26 => ?_) (fun h26 => ?_)
        · refine k_aload0 (pc := 31) F dX7_tone_31 ?_
          refine g_X7_archive (pc := 32) F dX7_tone_32 ?_
          refine k_iload1 (pc := 35) F dX7_tone_35 ?_
          refine k_iload2 (pc := 36) F dX7_tone_36 ?_
          refine k_iload3 (pc := 37) F dX7_tone_37 ?_
          refine k_callV (pc := 38) (q0 := 1) F (c_X0_putTone (r := r) (p := p) (by omega)) ok_X7_98 rfl rfl rfl rfl rfl (by decide) (by decide) (Nat.le_of_ble_eq_true rfl) dX7_tone_38 (rV.use ?_)
          refine k_aload0 (pc := 41) F dX7_tone_41 ?_
          refine g_X7_shifts (pc := 42) F dX7_tone_42 ?_
          refine k_iload2 (pc := 45) F dX7_tone_45 ?_
          refine k_callV (pc := 46) (q0 := 2) F (c_X6_measure (hA.ton (r := r * 6 + p) (v := v)) (p := p) hp6) ok_X7_102 rfl rfl rfl rfl rfl (by decide) (by decide) (Nat.le_of_ble_eq_true rfl) dX7_tone_46 (qV.use (fun ivM arM hM => ?_))
          obtain ⟨m1, m2, m3, m4⟩ := hM
          subst ivM
          refine k_aload0 (pc := 49) F dX7_tone_49 ?_
          refine k_iconst (pc := 50) (v := nI 1) F dX7_tone_50 (by decide) ?_
          refine p_X7_pairsAreOld (pc := 51) F (by decide) (by decide) dX7_tone_51 ?_
          refine k_iconst (pc := 54) (v := nI 1) F dX7_tone_54 (by decide) ?_
          refine k_zret (pc := 55) F dX7_tone_55 (by decide) ?_
          rw [i_lt, z1] at h20
          rw [i_le, z2] at h26
          refine ⟨_, rfl, Or.inl ⟨⟨h8, h15, by omega, h26⟩, rfl, ?_⟩⟩
          unfold cN
          rw [nI_clamp (by omega), nI_clamp (by omega)]
          exact hI0.ton hr hp6 ⟨by omega, h26⟩ m2 m3 m4
        · refine k_iconst (pc := 29) (v := nI 0) F dX7_tone_29 (by decide) ?_
          refine k_zret (pc := 30) F dX7_tone_30 (by decide) ?_
          exact ⟨_, rfl, Or.inr ⟨fun q => by first | exact h8 q.1 | exact h15 q.2.1 | (rw [i_lt, z1] at h20; have := q.2.2; omega) | (rw [i_le, z2] at h26; have := q.2.2; omega), rfl, hI0⟩⟩

set_option maxHeartbeats 4000000 in
theorem c_X7_know {l : Launch} {D : va_G} {cI : ClassId} {ad : Nat → Nat} {iv : IV} {ar : AR} {n : Nat} {c : Nat → Nat} {s t : Nat → Int32} {set : Int32} {lim m : Nat} {g : Nat → Nat} {tt : Nat} {rt : Nat → Int32} (hI : CI n c s t set lim m g tt rt iv ar) {x y : Int32} : Ct l D cI (cw cI ad) yX7_know cX7_know 3 (some .boolean) 4 91 [.ref (ad 0), .int x, .int y] iv ar (qI (fun x2 iv2 ar2 => Sp (inR x n ∧ spk y) x2 (nI 1) (nI 0) (CI n c (upd s (cN x) y) t set lim m g tt rt iv2 ar2) (CI n c s t set lim m g tt rt iv2 ar2))) := by
  refine Ct.of (lv := [some (.ref (ad 0)), some (.int x), some (.int y)]) cw_ok (plainFor_of_name (by decide)) (Nat.le_of_ble_eq_true rfl) 0 rfl rfl (fun Z F => ?_)
  have hI0 := hI
  obtain ⟨hA, hT, hSp, hz, hm5, hm4, hG, hset, hlim, hl2, hp, htt, ht2, hrt⟩ := hI
  have hn := hA.le
  have hm8 := hG.2.1
  refine k_aload0 (pc := 0) F dX7_know_0 ?_
  refine g_X7_archive (pc := 1) F dX7_know_1 ?_
  refine k_iload1 (pc := 4) F dX7_know_4 ?_
  refine k_callV (pc := 5) (q0 := 1) F (c_X0_has hA.1 hA.le) ok_X7_92 rfl rfl rfl rfl rfl (by decide) (by decide) (Nat.le_of_ble_eq_true rfl) dX7_know_5 (rI.use ?_)
  refine k_if_eqB (pc := 8) (tgt := 18) F dX7_know_8 (by decide) (fun h8 => ?_) (fun h8 => ?_)
  · refine k_iconst (pc := 18) (v := nI 0) F dX7_know_18 (by decide) ?_
    refine k_zret (pc := 19) F dX7_know_19 (by decide) ?_
    exact ⟨_, rfl, Or.inr ⟨fun q => by first | exact h8 q.1 | exact h15 q.2, rfl, hI0⟩⟩
  · obtain ⟨r, hr, rfl⟩ := nat_of h8
    refine k_iload2 (pc := 11) F dX7_know_11 ?_
    refine k_callS (pc := 12) F (c_X7_isSpeakerOrNobody cw_ok) ok_X7_81 rfl rfl (by decide) (by decide) (Nat.le_of_ble_eq_true rfl) dX7_know_12 (rI.use ?_)
    refine k_if_neB (pc := 15) (tgt := 20) F dX7_know_15 (by decide) (fun h15 => ?_) (fun h15 => ?_)
    · refine k_aload0 (pc := 20) F dX7_know_20 ?_
      refine g_X7_archive (pc := 21) F dX7_know_21 ?_
      refine k_iload1 (pc := 24) F dX7_know_24 ?_
      refine k_iload2 (pc := 25) F dX7_know_25 ?_
      refine k_callV (pc := 26) (q0 := 1) F (c_X0_putSpeaker (r := r) (by omega)) ok_X7_106 rfl rfl rfl rfl rfl (by decide) (by decide) (Nat.le_of_ble_eq_true rfl) dX7_know_26 (rV.use ?_)
      refine k_aload0 (pc := 29) F dX7_know_29 ?_
      refine g_X7_shifts (pc := 30) F dX7_know_30 ?_
      refine k_callV (pc := 33) (q0 := 2) F (c_X6_measureAll (hA.kno (r := r) (y := y))) ok_X7_110 rfl rfl rfl rfl rfl (by decide) (by decide) (Nat.le_of_ble_eq_true rfl) dX7_know_33 (qV.use (fun ivM arM hM => ?_))
      obtain ⟨m1, m2, m3, m4⟩ := hM
      subst ivM
      refine k_aload0 (pc := 36) F dX7_know_36 ?_
      refine k_iconst (pc := 37) (v := nI 1) F dX7_know_37 (by decide) ?_
      refine p_X7_pairsAreOld (pc := 38) F (by decide) (by decide) dX7_know_38 ?_
      refine k_iconst (pc := 41) (v := nI 1) F dX7_know_41 (by decide) ?_
      refine k_zret (pc := 42) F dX7_know_42 (by decide) ?_
      refine ⟨_, rfl, Or.inl ⟨⟨h8, h15⟩, rfl, ?_⟩⟩
      unfold cN
      rw [nI_clamp (by omega)]
      exact hI0.kno hr h15 m2 m3 m4
    · refine k_iconst (pc := 18) (v := nI 0) F dX7_know_18 (by decide) ?_
      refine k_zret (pc := 19) F dX7_know_19 (by decide) ?_
      exact ⟨_, rfl, Or.inr ⟨fun q => by first | exact h8 q.1 | exact h15 q.2, rfl, hI0⟩⟩

set_option maxHeartbeats 4000000 in
theorem c_X7_set {l : Launch} {D : va_G} {cI : ClassId} {ad : Nat → Nat} {iv : IV} {ar : AR} {n : Nat} {c : Nat → Nat} {s t : Nat → Int32} {set : Int32} {lim m : Nat} {g : Nat → Nat} {tt : Nat} {rt : Nat → Int32} (hI : CI n c s t set lim m g tt rt iv ar) {x : Int32} : Ct l D cI (cw cI ad) yX7_set cX7_set 2 (some .boolean) 0 0 [.ref (ad 0), .int x] iv ar (qI (fun x2 iv2 ar2 => Sp (0 ≤ x.toInt ∧ x.toInt ≤ 1023) x2 (nI 1) (nI 0) (CI n c s t x lim m g tt rt iv2 ar2) (CI n c s t set lim m g tt rt iv2 ar2))) := by
  refine Ct.of (lv := [some (.ref (ad 0)), some (.int x)]) cw_ok (plainFor_of_name (by decide)) (Nat.le_of_ble_eq_true rfl) 0 rfl rfl (fun Z F => ?_)
  have hI0 := hI
  obtain ⟨hA, hT, hSp, hz, hm5, hm4, hG, hset, hlim, hl2, hp, htt, ht2, hrt⟩ := hI
  have hn := hA.le
  have hm8 := hG.2.1
  have z1 : (nI 1023).toInt = 1023 := rfl
  refine k_iload1 (pc := 0) F dX7_set_0 ?_
  refine k_if_lt (pc := 1) (tgt := 11) F dX7_set_1 (by decide) (fun h1 => ?_) (fun h1 => ?_)
  · refine k_iconst (pc := 11) (v := nI 0) F dX7_set_11 (by decide) ?_
    refine k_zret (pc := 12) F dX7_set_12 (by decide) ?_
    exact ⟨_, rfl, Or.inr ⟨fun q => by first | (rw [i_lt, toInt_0] at h1; omega) | (rw [i_le, z1] at h8; omega), rfl, hI0⟩⟩
  · refine k_iload1 (pc := 4) F dX7_set_4 ?_
    refine k_sipush (pc := 5) (v := nI 1023) F dX7_set_5 (by decide) ?_
    refine k_icmp_le (pc := 8) (tgt := 13) F dX7_set_8 (by decide) (fun h8 => ?_) (fun h8 => ?_)
    · refine k_aload0 (pc := 13) F dX7_set_13 ?_
      refine k_iload1 (pc := 14) F dX7_set_14 ?_
      refine p_X7_speakersInSet (pc := 15) F dX7_set_15 ?_
      refine k_aload0 (pc := 18) F dX7_set_18 ?_
      refine k_iconst (pc := 19) (v := nI 1) F dX7_set_19 (by decide) ?_
      refine p_X7_pairsAreOld (pc := 20) F (by decide) (by decide) dX7_set_20 ?_
      refine k_iconst (pc := 23) (v := nI 1) F dX7_set_23 (by decide) ?_
      refine k_zret (pc := 24) F dX7_set_24 (by decide) ?_
      rw [i_lt, toInt_0] at h1
      rw [i_le, z1] at h8
      exact ⟨_, rfl, Or.inl ⟨⟨by omega, h8⟩, rfl, hI0.set_⟩⟩
    · refine k_iconst (pc := 11) (v := nI 0) F dX7_set_11 (by decide) ?_
      refine k_zret (pc := 12) F dX7_set_12 (by decide) ?_
      exact ⟨_, rfl, Or.inr ⟨fun q => by first | (rw [i_lt, toInt_0] at h1; omega) | (rw [i_le, z1] at h8; omega), rfl, hI0⟩⟩

set_option maxHeartbeats 4000000 in
theorem c_X7_limit {l : Launch} {D : va_G} {cI : ClassId} {ad : Nat → Nat} {iv : IV} {ar : AR} {n : Nat} {c : Nat → Nat} {s t : Nat → Int32} {set : Int32} {lim m : Nat} {g : Nat → Nat} {tt : Nat} {rt : Nat → Int32} (hI : CI n c s t set lim m g tt rt iv ar) {x : Int32} : Ct l D cI (cw cI ad) yX7_limit cX7_limit 2 (some .boolean) 0 0 [.ref (ad 0), .int x] iv ar (qI (fun x2 iv2 ar2 => Sp (0 ≤ x.toInt ∧ x.toInt ≤ 200) x2 (nI 1) (nI 0) (CI n c s t set (cN x) m g tt rt iv2 ar2) (CI n c s t set lim m g tt rt iv2 ar2))) := by
  refine Ct.of (lv := [some (.ref (ad 0)), some (.int x)]) cw_ok (plainFor_of_name (by decide)) (Nat.le_of_ble_eq_true rfl) 0 rfl rfl (fun Z F => ?_)
  have hI0 := hI
  obtain ⟨hA, hT, hSp, hz, hm5, hm4, hG, hset, hlim, hl2, hp, htt, ht2, hrt⟩ := hI
  have hn := hA.le
  have hm8 := hG.2.1
  have z1 : (nI 200).toInt = 200 := rfl
  refine k_iload1 (pc := 0) F dX7_limit_0 ?_
  refine k_if_lt (pc := 1) (tgt := 11) F dX7_limit_1 (by decide) (fun h1 => ?_) (fun h1 => ?_)
  · refine k_iconst (pc := 11) (v := nI 0) F dX7_limit_11 (by decide) ?_
    refine k_zret (pc := 12) F dX7_limit_12 (by decide) ?_
    exact ⟨_, rfl, Or.inr ⟨fun q => by first | (rw [i_lt, toInt_0] at h1; omega) | (rw [i_le, z1] at h8; omega), rfl, hI0⟩⟩
  · refine k_iload1 (pc := 4) F dX7_limit_4 ?_
    refine k_sipush (pc := 5) (v := nI 200) F dX7_limit_5 (by decide) ?_
    refine k_icmp_le (pc := 8) (tgt := 13) F dX7_limit_8 (by decide) (fun h8 => ?_) (fun h8 => ?_)
    · refine k_aload0 (pc := 13) F dX7_limit_13 ?_
      refine k_iload1 (pc := 14) F dX7_limit_14 ?_
      refine p_X7_limitNow (pc := 15) F dX7_limit_15 ?_
      refine k_iconst (pc := 18) (v := nI 1) F dX7_limit_18 (by decide) ?_
      refine k_zret (pc := 19) F dX7_limit_19 (by decide) ?_
      rw [i_lt, toInt_0] at h1
      rw [i_le, z1] at h8
      obtain ⟨k, hk, rfl⟩ := nat_of (r := x) (n := 201) ⟨by omega, by omega⟩
      refine ⟨_, rfl, Or.inl ⟨⟨by omega, h8⟩, rfl, ?_⟩⟩
      unfold cN
      rw [nI_clamp (by omega)]
      exact hI0.lim_ (by omega)
    · refine k_iconst (pc := 11) (v := nI 0) F dX7_limit_11 (by decide) ?_
      refine k_zret (pc := 12) F dX7_limit_12 (by decide) ?_
      exact ⟨_, rfl, Or.inr ⟨fun q => by first | (rw [i_lt, toInt_0] at h1; omega) | (rw [i_le, z1] at h8; omega), rfl, hI0⟩⟩

set_option maxHeartbeats 4000000 in
theorem c_X7_shift {l : Launch} {D : va_G} {cI : ClassId} {ad : Nat → Nat} {iv : IV} {ar : AR} {n : Nat} {c : Nat → Nat} {s t : Nat → Int32} {set : Int32} {lim m : Nat} {g : Nat → Nat} {tt : Nat} {rt : Nat → Int32} (hI : CI n c s t set lim m g tt rt iv ar) {x y : Int32} : Ct l D cI (cw cI ad) yX7_shift cX7_shift 3 (some .int) 1 22 [.ref (ad 0), .int x, .int y] iv ar (qI (fun x2 iv2 ar2 => x2 = aShift n c s t x y ∧ CI n c s t set lim m g tt rt iv2 ar2)) := by
  refine Ct.of (lv := [some (.ref (ad 0)), some (.int x), some (.int y)]) cw_ok (plainFor_of_name (by decide)) (Nat.le_of_ble_eq_true rfl) 0 rfl rfl (fun Z F => ?_)
  have hI0 := hI
  obtain ⟨hA, hT, hSp, hz, hm5, hm4, hG, hset, hlim, hl2, hp, htt, ht2, hrt⟩ := hI
  have hn := hA.le
  have hm8 := hG.2.1
  refine k_iload1 (pc := 0) F dX7_shift_0 ?_
  refine k_callS (pc := 1) F (c_X7_isChannel cw_ok) ok_X7_77 rfl rfl (by decide) (by decide) (Nat.le_of_ble_eq_true rfl) dX7_shift_1 (rI.use ?_)
  refine k_if_eqB (pc := 4) (tgt := 14) F dX7_shift_4 (by decide) (fun h4 => ?_) (fun h4 => ?_)
  · refine k_ldc (pc := 14) (v := -2147483648) F dX7_shift_14 w_308 ?_
    refine k_iret (pc := 16) F dX7_shift_16 ?_
    refine ⟨_, rfl, ?_, hI0⟩
    rw [aShift, if_neg]
    exact fun q => by first | exact h4 q.1 | exact h11 q.2
  · obtain ⟨k, hk, rfl⟩ := nat_of h4
    refine k_iload2 (pc := 7) F dX7_shift_7 ?_
    refine k_callS (pc := 8) F (c_X7_isPlace cw_ok) ok_X7_95 rfl rfl (by decide) (by decide) (Nat.le_of_ble_eq_true rfl) dX7_shift_8 (rI.use ?_)
    refine k_if_neB (pc := 11) (tgt := 17) F dX7_shift_11 (by decide) (fun h11 => ?_) (fun h11 => ?_)
    · obtain ⟨p, hp, rfl⟩ := nat_of h11
      refine k_aload0 (pc := 17) F dX7_shift_17 ?_
      refine g_X7_shifts (pc := 18) F dX7_shift_18 ?_
      refine k_iload1 (pc := 21) F dX7_shift_21 ?_
      refine k_iload2 (pc := 22) F dX7_shift_22 ?_
      refine k_callV (pc := 23) (q0 := 2) F (c_X6_at (k := k) (p := p) (by omega)) ok_X7_114 rfl rfl rfl rfl rfl (by decide) (by decide) (Nat.le_of_ble_eq_true rfl) dX7_shift_23 (rI.use ?_)
      refine k_iret (pc := 26) F dX7_shift_26 ?_
      refine ⟨_, rfl, ?_, hI0⟩
      rw [aShift, if_pos ⟨h4, h11⟩, hm5 _ (by omega)]
      unfold cN
      rw [nI_clamp (by omega), nI_clamp (by omega)]
      show shf c s t n ((k * 6 + p) / 6) ((k * 6 + p) % 6) = _
      rw [show (k * 6 + p) / 6 = k by omega, show (k * 6 + p) % 6 = p by omega]
    · refine k_ldc (pc := 14) (v := -2147483648) F dX7_shift_14 w_308 ?_
      refine k_iret (pc := 16) F dX7_shift_16 ?_
      refine ⟨_, rfl, ?_, hI0⟩
      rw [aShift, if_neg]
      exact fun q => by first | exact h4 q.1 | exact h11 q.2

set_option maxHeartbeats 4000000 in
theorem c_X7_hidden {l : Launch} {D : va_G} {cI : ClassId} {ad : Nat → Nat} {iv : IV} {ar : AR} {n : Nat} {c : Nat → Nat} {s t : Nat → Int32} {set : Int32} {lim m : Nat} {g : Nat → Nat} {tt : Nat} {rt : Nat → Int32} (hI : CI n c s t set lim m g tt rt iv ar) {x y : Int32} : Ct l D cI (cw cI ad) yX7_hidden cX7_hidden 3 (some .boolean) 1 22 [.ref (ad 0), .int x, .int y] iv ar (qI (fun x2 iv2 ar2 => x2 = aHidden n c s t x y ∧ CI n c s t set lim m g tt rt iv2 ar2)) := by
  refine Ct.of (lv := [some (.ref (ad 0)), some (.int x), some (.int y)]) cw_ok (plainFor_of_name (by decide)) (Nat.le_of_ble_eq_true rfl) 0 rfl rfl (fun Z F => ?_)
  have hI0 := hI
  obtain ⟨hA, hT, hSp, hz, hm5, hm4, hG, hset, hlim, hl2, hp, htt, ht2, hrt⟩ := hI
  have hn := hA.le
  have hm8 := hG.2.1
  refine k_iload1 (pc := 0) F dX7_hidden_0 ?_
  refine k_callS (pc := 1) F (c_X7_isChannel cw_ok) ok_X7_77 rfl rfl (by decide) (by decide) (Nat.le_of_ble_eq_true rfl) dX7_hidden_1 (rI.use ?_)
  refine k_if_eqB (pc := 4) (tgt := 14) F dX7_hidden_4 (by decide) (fun h4 => ?_) (fun h4 => ?_)
  · refine k_iconst (pc := 14) (v := nI 0) F dX7_hidden_14 (by decide) ?_
    refine k_zret (pc := 15) F dX7_hidden_15 (by decide) ?_
    refine ⟨_, rfl, ?_, hI0⟩
    rw [aHidden, bI_f]
    · rfl
    · exact fun q => by first | exact h4 q.1 | exact h11 q.2.1
  · obtain ⟨k, hk, rfl⟩ := nat_of h4
    refine k_iload2 (pc := 7) F dX7_hidden_7 ?_
    refine k_callS (pc := 8) F (c_X7_isPlace cw_ok) ok_X7_95 rfl rfl (by decide) (by decide) (Nat.le_of_ble_eq_true rfl) dX7_hidden_8 (rI.use ?_)
    refine k_if_neB (pc := 11) (tgt := 16) F dX7_hidden_11 (by decide) (fun h11 => ?_) (fun h11 => ?_)
    · obtain ⟨p, hp, rfl⟩ := nat_of h11
      refine k_aload0 (pc := 16) F dX7_hidden_16 ?_
      refine g_X7_shifts (pc := 17) F dX7_hidden_17 ?_
      refine k_iload1 (pc := 20) F dX7_hidden_20 ?_
      refine k_iload2 (pc := 21) F dX7_hidden_21 ?_
      refine k_callV (pc := 22) (q0 := 2) F (c_X6_isUnheard (k := k) (p := p) (by omega) (by omega)) ok_X7_117 rfl rfl rfl rfl rfl (by decide) (by decide) (Nat.le_of_ble_eq_true rfl) dX7_hidden_22 (rI.use ?_)
      refine k_zret (pc := 25) F dX7_hidden_25 bI_nar ?_
      refine ⟨_, rfl, ?_, hI0⟩
      rw [aHidden]
      refine bI_iff ?_
      unfold cN
      rw [nI_clamp (by omega), nI_clamp (by omega)]
      constructor
      · intro z
        refine ⟨h4, h11, z.1, ?_⟩
        have z2 := z.2
        rw [hm4 k p (by omega) hk hp] at z2
        have hb := oun_le c s t n p k n
        have hb2 : n * n ≤ 30 * 30 := Nat.mul_le_mul hn hn
        exact (nI_eq (b := 0) (by omega) (by decide)).mp z2
      · intro z
        refine ⟨z.2.2.1, ?_⟩
        rw [hm4 k p (by omega) hk hp, z.2.2.2]
        rfl
    · refine k_iconst (pc := 14) (v := nI 0) F dX7_hidden_14 (by decide) ?_
      refine k_zret (pc := 15) F dX7_hidden_15 (by decide) ?_
      refine ⟨_, rfl, ?_, hI0⟩
      rw [aHidden, bI_f]
      · rfl
      · exact fun q => by first | exact h4 q.1 | exact h11 q.2.1

set_option maxHeartbeats 4000000 in
theorem c_X7_score {l : Launch} {D : va_G} {cI : ClassId} {ad : Nat → Nat} {iv : IV} {ar : AR} {n : Nat} {c : Nat → Nat} {s t : Nat → Int32} {set : Int32} {lim m : Nat} {g : Nat → Nat} {tt : Nat} {rt : Nat → Int32} (hI : CI n c s t set lim m g tt rt iv ar) {x y : Int32} : Ct l D cI (cw cI ad) yX7_score cX7_score 3 (some .int) 2 51 [.ref (ad 0), .int x, .int y] iv ar (qI (fun x2 iv2 ar2 => x2 = aScore n c s t x y ∧ CI n c s t set lim m g tt rt iv2 ar2)) := by
  refine Ct.of (lv := [some (.ref (ad 0)), some (.int x), some (.int y)]) cw_ok (plainFor_of_name (by decide)) (Nat.le_of_ble_eq_true rfl) 0 rfl rfl (fun Z F => ?_)
  have hI0 := hI
  obtain ⟨hA, hT, hSp, hz, hm5, hm4, hG, hset, hlim, hl2, hp, htt, ht2, hrt⟩ := hI
  have hn := hA.le
  have hm8 := hG.2.1
  refine k_aload0 (pc := 0) F dX7_score_0 ?_
  refine k_iload1 (pc := 1) F dX7_score_1 ?_
  refine k_iload2 (pc := 2) F dX7_score_2 ?_
  refine k_callV (pc := 3) (q0 := 0) F (c_X7_areTwo hA) ok_X7_121 rfl rfl rfl rfl rfl (by decide) (by decide) (Nat.le_of_ble_eq_true rfl) dX7_score_3 (rI.use ?_)
  refine k_if_neB (pc := 6) (tgt := 11) F dX7_score_6 (by decide) (fun h6 => ?_) (fun h6 => ?_)
  · obtain ⟨a, ha, rfl⟩ := nat_of h6.1
    obtain ⟨b, hb, rfl⟩ := nat_of h6.2.1
    refine k_aload0 (pc := 11) F dX7_score_11 ?_
    refine g_X7_scores (pc := 12) F dX7_score_12 ?_
    refine k_iload1 (pc := 15) F dX7_score_15 ?_
    refine k_iload2 (pc := 16) F dX7_score_16 ?_
    refine k_callV (pc := 17) (q0 := 3) F (ca_between hA hm5 (a := a) (b := b) ha hb) ok_X7_124 rfl rfl rfl rfl rfl (by decide) (by decide) (Nat.le_of_ble_eq_true rfl) dX7_score_17 (rI.use ?_)
    refine k_iret (pc := 20) F dX7_score_20 ?_
    refine ⟨_, rfl, ?_, hI0⟩
    rw [aScore, if_pos h6]
    unfold cN
    rw [nI_clamp (by omega), nI_clamp (by omega)]
  · refine k_iconst (pc := 9) (v := -1) F dX7_score_9 (by decide) ?_
    refine k_iret (pc := 10) F dX7_score_10 ?_
    exact ⟨_, rfl, (if_neg h6).symm, hI0⟩

set_option maxHeartbeats 4000000 in
theorem c_X7_band {l : Launch} {D : va_G} {cI : ClassId} {ad : Nat → Nat} {iv : IV} {ar : AR} {n : Nat} {c : Nat → Nat} {s t : Nat → Int32} {set : Int32} {lim m : Nat} {g : Nat → Nat} {tt : Nat} {rt : Nat → Int32} (hI : CI n c s t set lim m g tt rt iv ar) {x y : Int32} : Ct l D cI (cw cI ad) yX7_band cX7_band 3 (some .int) 6 138 [.ref (ad 0), .int x, .int y] iv ar (qI (fun x2 iv2 ar2 => x2 = aBand n c s t set x y ∧ CI n c s t set lim m g tt rt iv2 ar2)) := by
  refine Ct.of (lv := [some (.ref (ad 0)), some (.int x), some (.int y)]) cw_ok (plainFor_of_name (by decide)) (Nat.le_of_ble_eq_true rfl) 0 rfl rfl (fun Z F => ?_)
  have hI0 := hI
  obtain ⟨hA, hT, hSp, hz, hm5, hm4, hG, hset, hlim, hl2, hp, htt, ht2, hrt⟩ := hI
  have hn := hA.le
  have hm8 := hG.2.1
  refine k_iload1 (pc := 0) F dX7_band_0 ?_
  refine k_callS (pc := 1) F (c_X7_isBand cw_ok) ok_X7_127 rfl rfl (by decide) (by decide) (Nat.le_of_ble_eq_true rfl) dX7_band_1 (rI.use ?_)
  refine k_if_neB (pc := 4) (tgt := 9) F dX7_band_4 (by decide) (fun h4 => ?_) (fun h4 => ?_)
  · obtain ⟨k, hk, rfl⟩ := nat_of h4
    refine k_iload2 (pc := 9) F dX7_band_9 ?_
    by_cases s10_0 : y = 0
    · subst s10_0
      refine k_lkp (pc := 10) (off := 26) (tgt := 36) F dX7_band_10 (by decide) (by decide) (by decide) ?_
      refine k_aload0 (pc := 36) F dX7_band_36 ?_
      refine k_callV (pc := 37) (q0 := 0) F (c_X7_freshPairs hI0) ok_X7_130 rfl rfl rfl rfl rfl (by decide) (by decide) (Nat.le_of_ble_eq_true rfl) dX7_band_37 (qR.use (fun ivF arF hF => ?_))
      obtain ⟨hIF, hPF, hBF⟩ := hF
      refine k_iload1 (pc := 40) F dX7_band_40 ?_
      refine k_callV (pc := 41) (q0 := 4) F (c_X3_sameIn (k := k) hk) ok_X7_134 rfl rfl rfl rfl rfl (by decide) (by decide) (Nat.le_of_ble_eq_true rfl) dX7_band_41 (rI.use ?_)
      refine k_iret (pc := 44) F dX7_band_44 ?_
      refine ⟨_, rfl, ?_, hIF⟩
      rw [aBand, if_pos h4, if_pos rfl]
      unfold cN
      rw [nI_clamp (by omega)]
      exact hPF.1 k hk
    · by_cases s10_1 : y = 1
      · subst s10_1
        refine k_lkp (pc := 10) (off := 35) (tgt := 45) F dX7_band_10 (by decide) (by decide) (by decide) ?_
        refine k_aload0 (pc := 45) F dX7_band_45 ?_
        refine k_callV (pc := 46) (q0 := 0) F (c_X7_freshPairs hI0) ok_X7_130 rfl rfl rfl rfl rfl (by decide) (by decide) (Nat.le_of_ble_eq_true rfl) dX7_band_46 (qR.use (fun ivF arF hF => ?_))
        obtain ⟨hIF, hPF, hBF⟩ := hF
        refine k_iload1 (pc := 49) F dX7_band_49 ?_
        refine k_callV (pc := 50) (q0 := 4) F (c_X3_otherIn (k := k) hk) ok_X7_138 rfl rfl rfl rfl rfl (by decide) (by decide) (Nat.le_of_ble_eq_true rfl) dX7_band_50 (rI.use ?_)
        refine k_iret (pc := 53) F dX7_band_53 ?_
        refine ⟨_, rfl, ?_, hIF⟩
        rw [aBand, if_pos h4, if_neg (by decide), if_pos rfl]
        unfold cN
        rw [nI_clamp (by omega)]
        exact hPF.2.1 k hk
      · have t10_0 := lv_neT s10_0 (a := 0) (by decide)
        have t10_1 := lv_neT s10_1 (a := 1) (by decide)
        refine k_lkp (pc := 10) (off := 44) (tgt := 54) F dX7_band_10 (by decide) ((lv_osw s10_0 (by decide)).trans ((lv_osw s10_1 (by decide)).trans (rfl))) (by decide) ?_
        refine k_iconst (pc := 54) (v := -1) F dX7_band_54 (by decide) ?_
        refine k_iret (pc := 55) F dX7_band_55 ?_
        refine ⟨_, rfl, ?_, hI0⟩
        rw [aBand, if_pos h4, if_neg s10_0, if_neg s10_1]
  · refine k_iconst (pc := 7) (v := -1) F dX7_band_7 (by decide) ?_
    refine k_iret (pc := 8) F dX7_band_8 ?_
    exact ⟨_, rfl, (if_neg h4).symm, hI0⟩

set_option maxHeartbeats 4000000 in
theorem c_X7_block {l : Launch} {D : va_G} {cI : ClassId} {ad : Nat → Nat} {iv : IV} {ar : AR} {n : Nat} {c : Nat → Nat} {s t : Nat → Int32} {set : Int32} {lim m : Nat} {g : Nat → Nat} {tt : Nat} {rt : Nat → Int32} (hI : CI n c s t set lim m g tt rt iv ar) {x y : Int32} : Ct l D cI (cw cI ad) yX7_block cX7_block 5 (some .int) 6 138 [.ref (ad 0), .int x, .int y] iv ar (qI (fun x2 iv2 ar2 => x2 = aBlock n c s t set x y ∧ CI n c s t set lim m g tt rt iv2 ar2)) := by
  refine Ct.of (lv := [some (.ref (ad 0)), some (.int x), some (.int y), none, none]) cw_ok (plainFor_of_name (by decide)) (Nat.le_of_ble_eq_true rfl) 2 rfl rfl (fun Z F => ?_)
  have hI0 := hI
  obtain ⟨hA, hT, hSp, hz, hm5, hm4, hG, hset, hlim, hl2, hp, htt, ht2, hrt⟩ := hI
  have hn := hA.le
  have hm8 := hG.2.1
  refine k_iload1 (pc := 0) F dX7_block_0 ?_
  refine k_callS (pc := 1) F (c_X7_isBand cw_ok) ok_X7_127 rfl rfl (by decide) (by decide) (Nat.le_of_ble_eq_true rfl) dX7_block_1 (rI.use ?_)
  refine k_if_neB (pc := 4) (tgt := 9) F dX7_block_4 (by decide) (fun h4 => ?_) (fun h4 => ?_)
  · obtain ⟨k, hk, rfl⟩ := nat_of h4
    refine k_aload0 (pc := 9) F dX7_block_9 ?_
    refine k_callV (pc := 10) (q0 := 0) F (c_X7_freshPairs hI0) ok_X7_130 rfl rfl rfl rfl rfl (by decide) (by decide) (Nat.le_of_ble_eq_true rfl) dX7_block_10 (qR.use (fun ivF arF hF => ?_))
    obtain ⟨hIF, hPF, hBF⟩ := hF
    refine k_astore3 (pc := 13) F (by decide) dX7_block_13 ?_
    refine k_aload3 (pc := 14) F dX7_block_14 ?_
    refine k_iload1 (pc := 15) F dX7_block_15 ?_
    refine k_callV (pc := 16) (q0 := 4) F (c_X3_findBlock hPF (cou_ok hn) hBF (k := k) hk) ok_X7_141 rfl rfl rfl rfl rfl (by decide) (by decide) (Nat.le_of_ble_eq_true rfl) dX7_block_16 (qI.use (fun xB ivB arB hB => ?_))
    obtain ⟨e1, e2, h3⟩ := hB
    subst ivB
    subst arB
    rcases hf : fbk (WW c s t n set) (k) with _ | i
    · rw [hf] at h3
      have h3b : xB = -1 := h3
      subst h3b
      refine k_istore4 (pc := 19) F (by decide) dX7_block_19 ?_
      refine k_iload4 (pc := 21) F dX7_block_21 ?_
      refine k_iconst (pc := 23) (v := -1) F dX7_block_23 (by decide) ?_
      refine k_icmp_ne (pc := 24) (tgt := 29) F dX7_block_24 (by decide) (fun h => absurd h (by decide)) (fun _ => ?_)
      refine k_iconst (pc := 27) (v := -1) F dX7_block_27 (by decide) ?_
      refine k_iret (pc := 28) F dX7_block_28 ?_
      refine ⟨_, rfl, ?_, hIF⟩
      rw [aBlock, if_pos h4]
      unfold cN
      rw [nI_clamp (by omega)]
      rw [hf]
    · rw [hf] at h3
      have h3b : xB = nI i := h3
      subst h3b
      have hi := fbk_lt hf
      have hi10 := blk_le (WW c s t n set)
      refine k_istore4 (pc := 19) F (by decide) dX7_block_19 ?_
      refine k_iload4 (pc := 21) F dX7_block_21 ?_
      refine k_iconst (pc := 23) (v := -1) F dX7_block_23 (by decide) ?_
      have z24 : ¬ (nI (i) = -1) := nI_ne_m1 (by omega)
      refine k_icmp_ne (pc := 24) (tgt := 29) F dX7_block_24 (by decide) (fun _ => ?_) (fun h => absurd h z24)
      refine k_iload2 (pc := 29) F dX7_block_29 ?_
      by_cases s30_0 : y = 0
      · subst s30_0
        refine k_lkp (pc := 30) (off := 26) (tgt := 56) F dX7_block_30 (by decide) (by decide) (by decide) ?_
        refine k_aload3 (pc := 56) F dX7_block_56 ?_
        refine k_iload4 (pc := 57) F dX7_block_57 ?_
        refine k_callV (pc := 59) (q0 := 4) F (c_X3_firstBandOf (k := i) (by omega)) ok_X7_144 rfl rfl rfl rfl rfl (by decide) (by decide) (Nat.le_of_ble_eq_true rfl) dX7_block_59 (rI.use ?_)
        refine k_iret (pc := 62) F dX7_block_62 ?_
        refine ⟨_, rfl, ?_, hIF⟩
        rw [aBlock, if_pos h4]
        unfold cN
        rw [nI_clamp (by omega)]
        rw [hf]
        exact (hBF.2 i hi).1
      · by_cases s30_1 : y = 1
        · subst s30_1
          refine k_lkp (pc := 30) (off := 33) (tgt := 63) F dX7_block_30 (by decide) (by decide) (by decide) ?_
          refine k_aload3 (pc := 63) F dX7_block_63 ?_
          refine k_iload4 (pc := 64) F dX7_block_64 ?_
          refine k_callV (pc := 66) (q0 := 4) F (c_X3_lastBandOf (k := i) (by omega)) ok_X7_147 rfl rfl rfl rfl rfl (by decide) (by decide) (Nat.le_of_ble_eq_true rfl) dX7_block_66 (rI.use ?_)
          refine k_iret (pc := 69) F dX7_block_69 ?_
          refine ⟨_, rfl, ?_, hIF⟩
          rw [aBlock, if_pos h4]
          unfold cN
          rw [nI_clamp (by omega)]
          rw [hf]
          exact (hBF.2 i hi).2.1
        · have t30_0 := lv_neT s30_0 (a := 0) (by decide)
          have t30_1 := lv_neT s30_1 (a := 1) (by decide)
          refine k_lkp (pc := 30) (off := 40) (tgt := 70) F dX7_block_30 (by decide) ((lv_osw s30_0 (by decide)).trans ((lv_osw s30_1 (by decide)).trans (rfl))) (by decide) ?_
          refine k_iconst (pc := 70) (v := -1) F dX7_block_70 (by decide) ?_
          refine k_iret (pc := 71) F dX7_block_71 ?_
          refine ⟨_, rfl, ?_, hIF⟩
          rw [aBlock, if_pos h4]
          unfold cN
          rw [nI_clamp (by omega)]
          rw [hf]
          show _ = if y = 0 then _ else if y = 1 then _ else _
          rw [if_neg s30_0, if_neg s30_1]
  · refine k_iconst (pc := 7) (v := -1) F dX7_block_7 (by decide) ?_
    refine k_iret (pc := 8) F dX7_block_8 ?_
    exact ⟨_, rfl, (if_neg h4).symm, hI0⟩

set_option maxHeartbeats 4000000 in
theorem c_X7_odds {l : Launch} {D : va_G} {cI : ClassId} {ad : Nat → Nat} {iv : IV} {ar : AR} {n : Nat} {c : Nat → Nat} {s t : Nat → Int32} {set : Int32} {lim m : Nat} {g : Nat → Nat} {tt : Nat} {rt : Nat → Int32} (hI : CI n c s t set lim m g tt rt iv ar) {x y : Int32} : Ct l D cI (cw cI ad) yX7_odds cX7_odds 5 (some .int) 6 138 [.ref (ad 0), .int x, .int y] iv ar (qI (fun x2 iv2 ar2 => x2 = aOdds n c s t set x y ∧ CI n c s t set lim m g tt rt iv2 ar2)) := by
  refine Ct.of (lv := [some (.ref (ad 0)), some (.int x), some (.int y), none, none]) cw_ok (plainFor_of_name (by decide)) (Nat.le_of_ble_eq_true rfl) 2 rfl rfl (fun Z F => ?_)
  have hI0 := hI
  obtain ⟨hA, hT, hSp, hz, hm5, hm4, hG, hset, hlim, hl2, hp, htt, ht2, hrt⟩ := hI
  have hn := hA.le
  have hm8 := hG.2.1
  refine k_iload1 (pc := 0) F dX7_odds_0 ?_
  refine k_if_ge (pc := 1) (tgt := 6) F dX7_odds_1 (by decide) (fun h1 => ?_) (fun h1 => ?_)
  · have h1b : 0 ≤ x.toInt := by rw [i_le, toInt_0] at h1; exact h1
    obtain ⟨v, hv, rfl⟩ := nI_of (x := x) (by rw [i_lt, toInt_0]; omega)
    have hbv := bnd_lt v
    refine k_aload0 (pc := 6) F dX7_odds_6 ?_
    refine k_callV (pc := 7) (q0 := 0) F (c_X7_freshPairs hI0) ok_X7_130 rfl rfl rfl rfl rfl (by decide) (by decide) (Nat.le_of_ble_eq_true rfl) dX7_odds_7 (qR.use (fun ivF arF hF => ?_))
    obtain ⟨hIF, hPF, hBF⟩ := hF
    refine k_astore3 (pc := 10) F (by decide) dX7_odds_10 ?_
    refine k_aload3 (pc := 11) F dX7_odds_11 ?_
    refine k_iload1 (pc := 12) F dX7_odds_12 ?_
    refine k_callS (pc := 13) F (c_X7_bandOf cw_ok (v := v) hv) ok_X7_150 rfl rfl (by decide) (by decide) (Nat.le_of_ble_eq_true rfl) dX7_odds_13 (rI.use ?_)
    refine k_callV (pc := 16) (q0 := 4) F (c_X3_findBlock hPF (cou_ok hn) hBF (k := bnd v) hbv) ok_X7_141 rfl rfl rfl rfl rfl (by decide) (by decide) (Nat.le_of_ble_eq_true rfl) dX7_odds_16 (qI.use (fun xB ivB arB hB => ?_))
    obtain ⟨e1, e2, h3⟩ := hB
    subst ivB
    subst arB
    rcases hf : fbk (WW c s t n set) (bnd v) with _ | i
    · rw [hf] at h3
      have h3b : xB = -1 := h3
      subst h3b
      refine k_istore4 (pc := 19) F (by decide) dX7_odds_19 ?_
      refine k_iload4 (pc := 21) F dX7_odds_21 ?_
      refine k_iconst (pc := 23) (v := -1) F dX7_odds_23 (by decide) ?_
      refine k_icmp_ne (pc := 24) (tgt := 29) F dX7_odds_24 (by decide) (fun h => absurd h (by decide)) (fun _ => ?_)
      refine k_iconst (pc := 27) (v := -1) F dX7_odds_27 (by decide) ?_
      refine k_iret (pc := 28) F dX7_odds_28 ?_
      refine ⟨_, rfl, ?_, hIF⟩
      rw [aOdds, if_pos h1b]
      unfold cN
      rw [nI_clamp (by omega)]
      rw [hf]
    · rw [hf] at h3
      have h3b : xB = nI i := h3
      subst h3b
      have hi := fbk_lt hf
      have hi10 := blk_le (WW c s t n set)
      refine k_istore4 (pc := 19) F (by decide) dX7_odds_19 ?_
      refine k_iload4 (pc := 21) F dX7_odds_21 ?_
      refine k_iconst (pc := 23) (v := -1) F dX7_odds_23 (by decide) ?_
      have z24 : ¬ (nI (i) = -1) := nI_ne_m1 (by omega)
      refine k_icmp_ne (pc := 24) (tgt := 29) F dX7_odds_24 (by decide) (fun _ => ?_) (fun h => absurd h z24)
      refine k_iload2 (pc := 29) F dX7_odds_29 ?_
      by_cases s30_0 : y = 0
      · subst s30_0
        refine k_tin (pc := 30) (tgt := 64) F dX7_odds_30 (by decide) (by decide) rfl (by decide) ?_
        refine k_aload3 (pc := 64) F dX7_odds_64 ?_
        refine k_iload4 (pc := 65) F dX7_odds_65 ?_
        refine k_callV (pc := 67) (q0 := 4) F (c_X3_sameOf (k := i) (by omega)) ok_X7_153 rfl rfl rfl rfl rfl (by decide) (by decide) (Nat.le_of_ble_eq_true rfl) dX7_odds_67 (rI.use ?_)
        refine k_iret (pc := 70) F dX7_odds_70 ?_
        refine ⟨_, rfl, ?_, hIF⟩
        rw [aOdds, if_pos h1b]
        unfold cN
        rw [nI_clamp (by omega)]
        rw [hf]
        exact (hBF.2 i hi).2.2.1
      · by_cases s30_1 : y = 1
        · subst s30_1
          refine k_tin (pc := 30) (tgt := 71) F dX7_odds_30 (by decide) (by decide) rfl (by decide) ?_
          refine k_aload3 (pc := 71) F dX7_odds_71 ?_
          refine k_callV (pc := 72) (q0 := 4) F (c_X3_allSame) ok_X7_156 rfl rfl rfl rfl rfl (by decide) (by decide) (Nat.le_of_ble_eq_true rfl) dX7_odds_72 (rI.use ?_)
          refine k_iret (pc := 75) F dX7_odds_75 ?_
          refine ⟨_, rfl, ?_, hIF⟩
          rw [aOdds, if_pos h1b]
          unfold cN
          rw [nI_clamp (by omega)]
          rw [hf]
          exact hPF.2.2.1
        · by_cases s30_2 : y = 2
          · subst s30_2
            refine k_tin (pc := 30) (tgt := 76) F dX7_odds_30 (by decide) (by decide) rfl (by decide) ?_
            refine k_aload3 (pc := 76) F dX7_odds_76 ?_
            refine k_iload4 (pc := 77) F dX7_odds_77 ?_
            refine k_callV (pc := 79) (q0 := 4) F (c_X3_otherOf (k := i) (by omega)) ok_X7_160 rfl rfl rfl rfl rfl (by decide) (by decide) (Nat.le_of_ble_eq_true rfl) dX7_odds_79 (rI.use ?_)
            refine k_iret (pc := 82) F dX7_odds_82 ?_
            refine ⟨_, rfl, ?_, hIF⟩
            rw [aOdds, if_pos h1b]
            unfold cN
            rw [nI_clamp (by omega)]
            rw [hf]
            exact (hBF.2 i hi).2.2.2
          · by_cases s30_3 : y = 3
            · subst s30_3
              refine k_tin (pc := 30) (tgt := 83) F dX7_odds_30 (by decide) (by decide) rfl (by decide) ?_
              refine k_aload3 (pc := 83) F dX7_odds_83 ?_
              refine k_callV (pc := 84) (q0 := 4) F (c_X3_allOther) ok_X7_163 rfl rfl rfl rfl rfl (by decide) (by decide) (Nat.le_of_ble_eq_true rfl) dX7_odds_84 (rI.use ?_)
              refine k_iret (pc := 87) F dX7_odds_87 ?_
              refine ⟨_, rfl, ?_, hIF⟩
              rw [aOdds, if_pos h1b]
              unfold cN
              rw [nI_clamp (by omega)]
              rw [hf]
              exact hPF.2.2.2
            · by_cases s30_4 : y = 4
              · subst s30_4
                refine k_tin (pc := 30) (tgt := 88) F dX7_odds_30 (by decide) (by decide) rfl (by decide) ?_
                refine k_aload3 (pc := 88) F dX7_odds_88 ?_
                refine k_iload4 (pc := 89) F dX7_odds_89 ?_
                refine k_callV (pc := 91) (q0 := 4) F (c_X3_reaches (cou_ok hn) hBF hi) ok_X7_166 rfl rfl rfl rfl rfl (by decide) (by decide) (Nat.le_of_ble_eq_true rfl) dX7_odds_91 (rI.use ?_)
                refine k_if_eqB (pc := 94) (tgt := 101) F dX7_odds_94 (by decide) (fun h94 => ?_) (fun h94 => ?_)
                · refine k_iconst (pc := 101) (v := nI 0) F dX7_odds_101 (by decide) ?_
                  refine k_iret (pc := 102) F dX7_odds_102 ?_
                  refine ⟨_, rfl, ?_, hIF⟩
                  rw [aOdds, if_pos h1b]
                  unfold cN
                  rw [nI_clamp (by omega)]
                  rw [hf]
                  exact (bI_f h94).symm
                · refine k_iconst (pc := 97) (v := nI 1) F dX7_odds_97 (by decide) ?_
                  refine k_goto (pc := 98) (tgt := 102) F dX7_odds_98 (by decide) ?_
                  refine k_iret (pc := 102) F dX7_odds_102 ?_
                  refine ⟨_, rfl, ?_, hIF⟩
                  rw [aOdds, if_pos h1b]
                  unfold cN
                  rw [nI_clamp (by omega)]
                  rw [hf]
                  exact (bI_t h94).symm
              · have t30_0 := lv_neT s30_0 (a := 0) (by decide)
                have t30_1 := lv_neT s30_1 (a := 1) (by decide)
                have t30_2 := lv_neT s30_2 (a := 2) (by decide)
                have t30_3 := lv_neT s30_3 (a := 3) (by decide)
                have t30_4 := lv_neT s30_4 (a := 4) (by decide)
                refine k_tout (pc := 30) (tgt := 103) F dX7_odds_30 (by omega) (by decide) ?_
                refine k_iconst (pc := 103) (v := -1) F dX7_odds_103 (by decide) ?_
                refine k_iret (pc := 104) F dX7_odds_104 ?_
                refine ⟨_, rfl, ?_, hIF⟩
                rw [aOdds, if_pos h1b]
                unfold cN
                rw [nI_clamp (by omega)]
                rw [hf]
                show _ = if y = 0 then _ else if y = 1 then _ else if y = 2 then _ else if y = 3 then _ else if y = 4 then _ else _
                rw [if_neg s30_0, if_neg s30_1, if_neg s30_2, if_neg s30_3, if_neg s30_4]
  · refine k_iconst (pc := 4) (v := -1) F dX7_odds_4 (by decide) ?_
    refine k_iret (pc := 5) F dX7_odds_5 ?_
    refine ⟨_, rfl, ?_, hI0⟩
    rw [aOdds, if_neg]
    rw [i_le, toInt_0] at h1
    exact h1

set_option maxHeartbeats 4000000 in
theorem c_X7_segment {l : Launch} {D : va_G} {cI : ClassId} {ad : Nat → Nat} {iv : IV} {ar : AR} {n : Nat} {c : Nat → Nat} {s t : Nat → Int32} {set : Int32} {lim m : Nat} {g : Nat → Nat} {tt : Nat} {rt : Nat → Int32} (hI : CI n c s t set lim m g tt rt iv ar) {x : Int32} : Ct l D cI (cw cI ad) yX7_segment cX7_segment 2 (some .int) 1 22 [.ref (ad 0), .int x] iv ar (qI (fun x2 iv2 ar2 => Sp (inR x n ∧ m < 8 ∧ lsB (fun k => nI (g k)) x m = false) x2 (nI (m + 1)) (-1) (CI n c s t set lim (m + 1) (va_up g m (cN x)) tt rt iv2 ar2) (CI n c s t set lim m g tt rt iv2 ar2))) := by
  refine Ct.of (lv := [some (.ref (ad 0)), some (.int x)]) cw_ok (plainFor_of_name (by decide)) (Nat.le_of_ble_eq_true rfl) 0 rfl rfl (fun Z F => ?_)
  have hI0 := hI
  obtain ⟨hA, hT, hSp, hz, hm5, hm4, hG, hset, hlim, hl2, hp, htt, ht2, hrt⟩ := hI
  have hn := hA.le
  have hm8 := hG.2.1
  have els : lsB (ar 12) x m = lsB (fun k => nI (g k)) x m := lsB_congr m (fun k hk => (hG.2.2 k hk).1)
  refine k_aload0 (pc := 0) F dX7_segment_0 ?_
  refine g_X7_archive (pc := 1) F dX7_segment_1 ?_
  refine k_iload1 (pc := 4) F dX7_segment_4 ?_
  refine k_callV (pc := 5) (q0 := 1) F (c_X0_has hA.1 hA.le) ok_X7_92 rfl rfl rfl rfl rfl (by decide) (by decide) (Nat.le_of_ble_eq_true rfl) dX7_segment_5 (rI.use ?_)
  refine k_if_eqB (pc := 8) (tgt := 32) F dX7_segment_8 (by decide) (fun h8 => ?_) (fun h8 => ?_)
  · refine k_iconst (pc := 32) (v := -1) F dX7_segment_32 (by decide) ?_
    refine k_iret (pc := 33) F dX7_segment_33 ?_
    exact ⟨_, rfl, Or.inr ⟨fun q => by first | exact h8 q.1 | (have := q.2.1; omega) | (rw [els, q.2.2] at h29; cases h29), rfl, hI0⟩⟩
  · refine k_aload0 (pc := 11) F dX7_segment_11 ?_
    refine g_X7_segments (pc := 12) F dX7_segment_12 ?_
    refine k_callV (pc := 15) (q0 := 5) F (c_X5_isFull hG.1 hG.2.1) ok_X7_169 rfl rfl rfl rfl rfl (by decide) (by decide) (Nat.le_of_ble_eq_true rfl) dX7_segment_15 (rI.use ?_)
    refine k_if_neB (pc := 18) (tgt := 32) F dX7_segment_18 (by decide) (fun h18 => ?_) (fun h18 => ?_)
    · refine k_iconst (pc := 32) (v := -1) F dX7_segment_32 (by decide) ?_
      refine k_iret (pc := 33) F dX7_segment_33 ?_
      exact ⟨_, rfl, Or.inr ⟨fun q => by first | exact h8 q.1 | (have := q.2.1; omega) | (rw [els, q.2.2] at h29; cases h29), rfl, hI0⟩⟩
    · refine k_aload0 (pc := 21) F dX7_segment_21 ?_
      refine g_X7_segments (pc := 22) F dX7_segment_22 ?_
      refine k_iload1 (pc := 25) F dX7_segment_25 ?_
      refine k_callV (pc := 26) (q0 := 5) F (c_X5_isListed hG.1 hG.2.1) ok_X7_170 rfl rfl rfl rfl rfl (by decide) (by decide) (Nat.le_of_ble_eq_true rfl) dX7_segment_26 (rI.use ?_)
      refine k_if_eqB (pc := 29) (tgt := 34) F dX7_segment_29 (by decide) (fun h29 => ?_) (fun h29 => ?_)
      · refine k_aload0 (pc := 34) F dX7_segment_34 ?_
        refine g_X7_segments (pc := 35) F dX7_segment_35 ?_
        refine k_iload1 (pc := 38) F dX7_segment_38 ?_
        refine k_callV (pc := 39) (q0 := 5) F (c_X5_add hG.1 (by omega)) ok_X7_173 rfl rfl rfl rfl rfl (by decide) (by decide) (Nat.le_of_ble_eq_true rfl) dX7_segment_39 (rV.use ?_)
        refine k_aload0 (pc := 42) F dX7_segment_42 ?_
        refine g_X7_segments (pc := 43) F dX7_segment_43 ?_
        refine k_callV (pc := 46) (q0 := 5) F (c_X5_size) ok_X7_175 rfl rfl rfl rfl rfl (by decide) (by decide) (Nat.le_of_ble_eq_true rfl) dX7_segment_46 (rI.use ?_)
        refine k_iret (pc := 49) F dX7_segment_49 ?_
        have hl := Bool.eq_false_iff.mpr h29
        rw [els] at hl
        obtain ⟨k, hk, rfl⟩ := nat_of h8
        refine ⟨_, rfl, Or.inl ⟨⟨h8, by omega, hl⟩, up_s, ?_⟩⟩
        unfold cN
        rw [nI_clamp (by omega)]
        exact hI0.seg hk (by omega)
      · refine k_iconst (pc := 32) (v := -1) F dX7_segment_32 (by decide) ?_
        refine k_iret (pc := 33) F dX7_segment_33 ?_
        exact ⟨_, rfl, Or.inr ⟨fun q => by first | exact h8 q.1 | (have := q.2.1; omega) | (rw [els, q.2.2] at h29; cases h29), rfl, hI0⟩⟩

set_option maxHeartbeats 4000000 in
theorem c_X7_clear {l : Launch} {D : va_G} {cI : ClassId} {ad : Nat → Nat} {iv : IV} {ar : AR} {n : Nat} {c : Nat → Nat} {s t : Nat → Int32} {set : Int32} {lim m : Nat} {g : Nat → Nat} {tt : Nat} {rt : Nat → Int32} (hI : CI n c s t set lim m g tt rt iv ar)  : Ct l D cI (cw cI ad) yX7_clear cX7_clear 1 (some .int) 1 21 [.ref (ad 0)] iv ar (qI (fun x2 iv2 ar2 => x2 = nI m ∧ CI n c s t set lim 0 g tt rt iv2 ar2)) := by
  refine Ct.of (lv := [some (.ref (ad 0))]) cw_ok (plainFor_of_name (by decide)) (Nat.le_of_ble_eq_true rfl) 0 rfl rfl (fun Z F => ?_)
  have hI0 := hI
  obtain ⟨hA, hT, hSp, hz, hm5, hm4, hG, hset, hlim, hl2, hp, htt, ht2, hrt⟩ := hI
  have hn := hA.le
  have hm8 := hG.2.1
  refine k_aload0 (pc := 0) F dX7_clear_0 ?_
  refine g_X7_segments (pc := 1) F dX7_clear_1 ?_
  refine k_callV (pc := 4) (q0 := 5) F (c_X5_empty hG.1) ok_X7_178 rfl rfl rfl rfl rfl (by decide) (by decide) (Nat.le_of_ble_eq_true rfl) dX7_clear_4 (rI.use ?_)
  refine k_iret (pc := 7) F dX7_clear_7 ?_
  exact ⟨_, rfl, rfl, hI0.clr⟩

set_option maxHeartbeats 4000000 in
theorem c_X7_voice {l : Launch} {D : va_G} {cI : ClassId} {ad : Nat → Nat} {iv : IV} {ar : AR} {n : Nat} {c : Nat → Nat} {s t : Nat → Int32} {set : Int32} {lim m : Nat} {g : Nat → Nat} {tt : Nat} {rt : Nat → Int32} (hI : CI n c s t set lim m g tt rt iv ar) {x : Int32} : Ct l D cI (cw cI ad) yX7_voice cX7_voice 2 (some .int) 4 96 [.ref (ad 0), .int x] iv ar (qI (fun x2 iv2 ar2 => x2 = aVoice n c s t lim m g x ∧ CI n c s t set lim m g tt rt iv2 ar2)) := by
  refine Ct.of (lv := [some (.ref (ad 0)), some (.int x)]) cw_ok (plainFor_of_name (by decide)) (Nat.le_of_ble_eq_true rfl) 0 rfl rfl (fun Z F => ?_)
  have hI0 := hI
  obtain ⟨hA, hT, hSp, hz, hm5, hm4, hG, hset, hlim, hl2, hp, htt, ht2, hrt⟩ := hI
  have hn := hA.le
  have hm8 := hG.2.1
  have zm := nI_toInt (n := m) (by omega)
  refine k_iload1 (pc := 0) F dX7_voice_0 ?_
  refine k_if_lt (pc := 1) (tgt := 15) F dX7_voice_1 (by decide) (fun h1 => ?_) (fun h1 => ?_)
  · refine k_iconst (pc := 15) (v := -1) F dX7_voice_15 (by decide) ?_
    refine k_iret (pc := 16) F dX7_voice_16 ?_
    refine ⟨_, rfl, ?_, hI0⟩
    rw [aVoice, if_neg]
    intro q
    first | (rw [i_lt, toInt_0] at h1; omega) | (rw [i_lt, zm] at h12; omega)
  · refine k_iload1 (pc := 4) F dX7_voice_4 ?_
    refine k_aload0 (pc := 5) F dX7_voice_5 ?_
    refine g_X7_segments (pc := 6) F dX7_voice_6 ?_
    refine k_callV (pc := 9) (q0 := 5) F (c_X5_size) ok_X7_175 rfl rfl rfl rfl rfl (by decide) (by decide) (Nat.le_of_ble_eq_true rfl) dX7_voice_9 (rI.use ?_)
    refine k_top hG.1 ?_
    refine k_icmp_lt (pc := 12) (tgt := 17) F dX7_voice_12 (by decide) (fun h12 => ?_) (fun h12 => ?_)
    · rw [i_lt, toInt_0] at h1
      rw [i_lt, zm] at h12
      have hx : inR x m := ⟨by omega, h12⟩
      obtain ⟨k, hk, rfl⟩ := nat_of hx
      refine k_aload0 (pc := 17) F dX7_voice_17 ?_
      refine g_X7_segments (pc := 18) F dX7_voice_18 ?_
      refine k_aload0 (pc := 21) F dX7_voice_21 ?_
      refine g_X7_limitNow (pc := 22) F (hlim) dX7_voice_22 ?_
      refine k_callV (pc := 25) (q0 := 5) F (c_X5_join hA hm5 hG hT hl2) ok_X7_181 rfl rfl rfl rfl rfl (by decide) (by decide) (Nat.le_of_ble_eq_true rfl) dX7_voice_25 (qV.use (fun ivJ arJ hJ => ?_))
      obtain ⟨j1, j2, j3, j4⟩ := hJ
      refine k_aload0 (pc := 28) F dX7_voice_28 ?_
      refine g_X7_segments (pc := 29) F dX7_voice_29 ?_
      refine k_iload1 (pc := 32) F dX7_voice_32 ?_
      refine k_callV (pc := 33) (q0 := 5) F (c_X5_voiceAt (k := k) (by omega)) ok_X7_184 rfl rfl rfl rfl rfl (by decide) (by decide) (Nat.le_of_ble_eq_true rfl) dX7_voice_33 (rI.use ?_)
      refine k_iret (pc := 36) F dX7_voice_36 ?_
      refine ⟨_, rfl, ?_, hI0.scr (fun q a b c => j1 q a b) (fun q hq => j2 q (by omega) (by omega))⟩
      rw [aVoice, if_pos hx]
      unfold cN
      rw [nI_clamp (by omega)]
      exact j3 k hk
    · refine k_iconst (pc := 15) (v := -1) F dX7_voice_15 (by decide) ?_
      refine k_iret (pc := 16) F dX7_voice_16 ?_
      refine ⟨_, rfl, ?_, hI0⟩
      rw [aVoice, if_neg]
      intro q
      first | (rw [i_lt, toInt_0] at h1; omega) | (rw [i_lt, zm] at h12; omega)

set_option maxHeartbeats 4000000 in
theorem c_X7_voices {l : Launch} {D : va_G} {cI : ClassId} {ad : Nat → Nat} {iv : IV} {ar : AR} {n : Nat} {c : Nat → Nat} {s t : Nat → Int32} {set : Int32} {lim m : Nat} {g : Nat → Nat} {tt : Nat} {rt : Nat → Int32} (hI : CI n c s t set lim m g tt rt iv ar)  : Ct l D cI (cw cI ad) yX7_voices cX7_voices 1 (some .int) 4 96 [.ref (ad 0)] iv ar (qI (fun x2 iv2 ar2 => x2 = nI (cvN (vcs (Tg c s t n g) m lim) m) ∧ CI n c s t set lim m g tt rt iv2 ar2)) := by
  refine Ct.of (lv := [some (.ref (ad 0))]) cw_ok (plainFor_of_name (by decide)) (Nat.le_of_ble_eq_true rfl) 0 rfl rfl (fun Z F => ?_)
  have hI0 := hI
  obtain ⟨hA, hT, hSp, hz, hm5, hm4, hG, hset, hlim, hl2, hp, htt, ht2, hrt⟩ := hI
  have hn := hA.le
  have hm8 := hG.2.1
  refine k_aload0 (pc := 0) F dX7_voices_0 ?_
  refine g_X7_segments (pc := 1) F dX7_voices_1 ?_
  refine k_aload0 (pc := 4) F dX7_voices_4 ?_
  refine g_X7_limitNow (pc := 5) F (hlim) dX7_voices_5 ?_
  refine k_callV (pc := 8) (q0 := 5) F (c_X5_join hA hm5 hG hT hl2) ok_X7_181 rfl rfl rfl rfl rfl (by decide) (by decide) (Nat.le_of_ble_eq_true rfl) dX7_voices_8 (qV.use (fun ivJ arJ hJ => ?_))
  obtain ⟨j1, j2, j3, j4⟩ := hJ
  refine k_aload0 (pc := 11) F dX7_voices_11 ?_
  refine g_X7_segments (pc := 12) F dX7_voices_12 ?_
  refine k_callV (pc := 15) (q0 := 5) F (c_X5_countVoices ((j1 7 (by decide) (by decide)).trans hG.1) hm8 j3 j4) ok_X7_187 rfl rfl rfl rfl rfl (by decide) (by decide) (Nat.le_of_ble_eq_true rfl) dX7_voices_15 (rI.use ?_)
  refine k_iret (pc := 18) F dX7_voices_18 ?_
  exact ⟨_, rfl, rfl, hI0.scr (fun q a b c => j1 q a b) (fun q hq => j2 q (by omega) (by omega))⟩

set_option maxHeartbeats 4000000 in
theorem c_X7_spare {l : Launch} {D : va_G} {cI : ClassId} {ad : Nat → Nat} {iv : IV} {ar : AR} {n : Nat} {c : Nat → Nat} {s t : Nat → Int32} {set : Int32} {lim m : Nat} {g : Nat → Nat} {tt : Nat} {rt : Nat → Int32} (hI : CI n c s t set lim m g tt rt iv ar)  : Ct l D cI (cw cI ad) yX7_spare cX7_spare 1 (some .int) 4 97 [.ref (ad 0)] iv ar (qI (fun x2 iv2 ar2 => x2 = nI (opt (vl (Tg c s t n g) m lim) (2 ^ m - 1)) ∧ CI n c s t set lim m g tt rt iv2 ar2)) := by
  refine Ct.of (lv := [some (.ref (ad 0))]) cw_ok (plainFor_of_name (by decide)) (Nat.le_of_ble_eq_true rfl) 0 rfl rfl (fun Z F => ?_)
  have hI0 := hI
  obtain ⟨hA, hT, hSp, hz, hm5, hm4, hG, hset, hlim, hl2, hp, htt, ht2, hrt⟩ := hI
  have hn := hA.le
  have hm8 := hG.2.1
  refine k_aload0 (pc := 0) F dX7_spare_0 ?_
  refine g_X7_segments (pc := 1) F dX7_spare_1 ?_
  refine k_aload0 (pc := 4) F dX7_spare_4 ?_
  refine g_X7_limitNow (pc := 5) F (hlim) dX7_spare_5 ?_
  refine k_callV (pc := 8) (q0 := 5) F (c_X5_leastCost hA hm5 hG hT hl2) ok_X7_190 rfl rfl rfl rfl rfl (by decide) (by decide) (Nat.le_of_ble_eq_true rfl) dX7_spare_8 (qI.use (fun xJ ivJ arJ hJ => ?_))
  obtain ⟨j1, j2, j3⟩ := hJ
  subst ivJ
  refine k_iret (pc := 11) F dX7_spare_11 ?_
  exact ⟨_, rfl, j3, hI0.scr (fun q a b c => rfl) (fun q hq => j2 q (by omega) (by omega) (by omega))⟩

set_option maxHeartbeats 4000000 in
theorem c_X7_lined {l : Launch} {D : va_G} {cI : ClassId} {ad : Nat → Nat} {iv : IV} {ar : AR} {n : Nat} {c : Nat → Nat} {s t : Nat → Int32} {set : Int32} {lim m : Nat} {g : Nat → Nat} {tt : Nat} {rt : Nat → Int32} (hI : CI n c s t set lim m g tt rt iv ar) {x y : Int32} : Ct l D cI (cw cI ad) yX7_lined cX7_lined 3 (some .int) 3 75 [.ref (ad 0), .int x, .int y] iv ar (qI (fun x2 iv2 ar2 => x2 = aLined n c s t set x y ∧ CI n c s t set lim m g tt rt iv2 ar2)) := by
  refine Ct.of (lv := [some (.ref (ad 0)), some (.int x), some (.int y)]) cw_ok (plainFor_of_name (by decide)) (Nat.le_of_ble_eq_true rfl) 0 rfl rfl (fun Z F => ?_)
  have hI0 := hI
  obtain ⟨hA, hT, hSp, hz, hm5, hm4, hG, hset, hlim, hl2, hp, htt, ht2, hrt⟩ := hI
  have hn := hA.le
  have hm8 := hG.2.1
  refine k_aload0 (pc := 0) F dX7_lined_0 ?_
  refine g_X7_archive (pc := 1) F dX7_lined_1 ?_
  refine k_iload1 (pc := 4) F dX7_lined_4 ?_
  refine k_callV (pc := 5) (q0 := 1) F (c_X0_has hA.1 hA.le) ok_X7_92 rfl rfl rfl rfl rfl (by decide) (by decide) (Nat.le_of_ble_eq_true rfl) dX7_lined_5 (rI.use ?_)
  refine k_if_neB (pc := 8) (tgt := 13) F dX7_lined_8 (by decide) (fun h8 => ?_) (fun h8 => ?_)
  · obtain ⟨a, ha, rfl⟩ := nat_of h8
    refine k_aload0 (pc := 13) F dX7_lined_13 ?_
    refine g_X7_lineUp (pc := 14) F dX7_lined_14 ?_
    refine k_iload1 (pc := 17) F dX7_lined_17 ?_
    refine k_aload0 (pc := 18) F dX7_lined_18 ?_
    refine g_X7_speakersInSet (pc := 19) F (hset) dX7_lined_19 ?_
    refine k_callV (pc := 22) (q0 := 6) F (c_X2_callFor hA hm5 hT (a := a) ha (set := set)) ok_X7_193 rfl rfl rfl rfl rfl (by decide) (by decide) (Nat.le_of_ble_eq_true rfl) dX7_lined_22 (qV.use (fun ivJ arJ hJ => ?_))
    obtain ⟨j1, j2, j3⟩ := hJ
    have hlin := lin_ok (fun b => SC c s t n a b) s set a n
    refine k_aload0 (pc := 25) F dX7_lined_25 ?_
    refine g_X7_lineUp (pc := 26) F dX7_lined_26 ?_
    refine k_iload2 (pc := 29) F dX7_lined_29 ?_
    refine k_callV (pc := 30) (q0 := 6) F (c_X2_at j3 (by omega)) ok_X7_196 rfl rfl rfl rfl rfl (by decide) (by decide) (Nat.le_of_ble_eq_true rfl) dX7_lined_30 (rI.use ?_)
    refine k_iret (pc := 33) F dX7_lined_33 ?_
    refine ⟨_, rfl, ?_, hI0.scr (fun q a b c => j1 q c) (fun q hq => j2 q (by omega) (by omega))⟩
    rw [aLined, if_pos h8]
    have ec : cN (nI a) = a := nI_clamp (by omega)
    rw [ec]
  · refine k_iconst (pc := 11) (v := -1) F dX7_lined_11 (by decide) ?_
    refine k_iret (pc := 12) F dX7_lined_12 ?_
    exact ⟨_, rfl, (if_neg h8).symm, hI0⟩

set_option maxHeartbeats 4000000 in
theorem c_X7_rank {l : Launch} {D : va_G} {cI : ClassId} {ad : Nat → Nat} {iv : IV} {ar : AR} {n : Nat} {c : Nat → Nat} {s t : Nat → Int32} {set : Int32} {lim m : Nat} {g : Nat → Nat} {tt : Nat} {rt : Nat → Int32} (hI : CI n c s t set lim m g tt rt iv ar) {x y : Int32} : Ct l D cI (cw cI ad) yX7_rank cX7_rank 3 (some .int) 3 75 [.ref (ad 0), .int x, .int y] iv ar (qI (fun x2 iv2 ar2 => x2 = aRank n c s t set x y ∧ CI n c s t set lim m g tt rt iv2 ar2)) := by
  refine Ct.of (lv := [some (.ref (ad 0)), some (.int x), some (.int y)]) cw_ok (plainFor_of_name (by decide)) (Nat.le_of_ble_eq_true rfl) 0 rfl rfl (fun Z F => ?_)
  have hI0 := hI
  obtain ⟨hA, hT, hSp, hz, hm5, hm4, hG, hset, hlim, hl2, hp, htt, ht2, hrt⟩ := hI
  have hn := hA.le
  have hm8 := hG.2.1
  refine k_aload0 (pc := 0) F dX7_rank_0 ?_
  refine g_X7_archive (pc := 1) F dX7_rank_1 ?_
  refine k_iload1 (pc := 4) F dX7_rank_4 ?_
  refine k_callV (pc := 5) (q0 := 1) F (c_X0_has hA.1 hA.le) ok_X7_92 rfl rfl rfl rfl rfl (by decide) (by decide) (Nat.le_of_ble_eq_true rfl) dX7_rank_5 (rI.use ?_)
  refine k_if_eqB (pc := 8) (tgt := 18) F dX7_rank_8 (by decide) (fun h8 => ?_) (fun h8 => ?_)
  · refine k_iconst (pc := 18) (v := -1) F dX7_rank_18 (by decide) ?_
    refine k_iret (pc := 19) F dX7_rank_19 ?_
    refine ⟨_, rfl, ?_, hI0⟩
    rw [aRank, if_neg]
    exact fun q => by first | exact h8 q.1 | exact h15 q.2
  · obtain ⟨a, ha, rfl⟩ := nat_of h8
    refine k_iload2 (pc := 11) F dX7_rank_11 ?_
    refine k_callS (pc := 12) F (c_X7_isSpeaker cw_ok) ok_X7_198 rfl rfl (by decide) (by decide) (Nat.le_of_ble_eq_true rfl) dX7_rank_12 (rI.use ?_)
    refine k_if_neB (pc := 15) (tgt := 20) F dX7_rank_15 (by decide) (fun h15 => ?_) (fun h15 => ?_)
    · refine k_aload0 (pc := 20) F dX7_rank_20 ?_
      refine g_X7_lineUp (pc := 21) F dX7_rank_21 ?_
      refine k_iload1 (pc := 24) F dX7_rank_24 ?_
      refine k_aload0 (pc := 25) F dX7_rank_25 ?_
      refine g_X7_speakersInSet (pc := 26) F (hset) dX7_rank_26 ?_
      refine k_callV (pc := 29) (q0 := 6) F (c_X2_callFor hA hm5 hT (a := a) ha (set := set)) ok_X7_193 rfl rfl rfl rfl rfl (by decide) (by decide) (Nat.le_of_ble_eq_true rfl) dX7_rank_29 (qV.use (fun ivJ arJ hJ => ?_))
      obtain ⟨j1, j2, j3⟩ := hJ
      have hlin := lin_ok (fun b => SC c s t n a b) s set a n
      refine k_aload0 (pc := 32) F dX7_rank_32 ?_
      refine g_X7_lineUp (pc := 33) F dX7_rank_33 ?_
      refine k_iload2 (pc := 36) F dX7_rank_36 ?_
      refine k_callV (pc := 37) (q0 := 6) F (c_X2_speakersAhead (hA.keep (j1 3 (by decide)) (j2 0 (by decide) (by decide)) (j2 1 (by decide) (by decide)) (j2 2 (by decide) (by decide))) j3 (by omega) (fun j hj => ⟨(hlin.2 j hj).1, (hSp _ (hlin.2 j hj).1).elim (fun q => absurd q (hlin.2 j hj).2.1.1) id⟩)) ok_X7_201 rfl rfl rfl rfl rfl (by decide) (by decide) (Nat.le_of_ble_eq_true rfl) dX7_rank_37 (rI.use ?_)
      refine k_iret (pc := 40) F dX7_rank_40 ?_
      refine ⟨_, rfl, ?_, hI0.scr (fun q a b c => j1 q c) (fun q hq => j2 q (by omega) (by omega))⟩
      rw [aRank, if_pos ⟨h8, h15⟩]
      have ec : cN (nI a) = a := nI_clamp (by omega)
      rw [ec]
    · refine k_iconst (pc := 18) (v := -1) F dX7_rank_18 (by decide) ?_
      refine k_iret (pc := 19) F dX7_rank_19 ?_
      refine ⟨_, rfl, ?_, hI0⟩
      rw [aRank, if_neg]
      exact fun q => by first | exact h8 q.1 | exact h15 q.2

theorem spo_1 {v p q : Int32} {lim : Nat} (h : p = q) : spo v lim (nI 1) = spot v lim p q := by
  unfold spo spot
  rw [if_pos h, if_pos h, if_neg (show ¬ nI 1 = 0 by decide), if_neg (show ¬ nI 1 = 0 by decide)]
theorem spo_0 {v p q : Int32} {lim : Nat} (h : ¬ p = q) : spo v lim (nI 0) = spot v lim p q := by
  unfold spo spot
  rw [if_neg h, if_neg h, if_pos (show nI 0 = 0 by decide), if_pos (show nI 0 = 0 by decide)]
theorem spot_lt {v p q : Int32} {lim : Nat} : spot v lim p q < 5 := by
  unfold spot
  repeat' split
  all_goals decide
set_option maxHeartbeats 4000000 in
theorem c_X7_test {l : Launch} {D : va_G} {cI : ClassId} {ad : Nat → Nat} {iv : IV} {ar : AR} {n : Nat} {c : Nat → Nat} {s t : Nat → Int32} {set : Int32} {lim m : Nat} {g : Nat → Nat} {tt : Nat} {rt : Nat → Int32} (hI : CI n c s t set lim m g tt rt iv ar) {x y : Int32} : Ct l D cI (cw cI ad) yX7_test cX7_test 4 (some .int) 2 51 [.ref (ad 0), .int x, .int y] iv ar (qI (fun x2 iv2 ar2 => Sp (inR x n ∧ inR y n ∧ ¬ x = y ∧ ¬ s (cN x) = -1 ∧ ¬ s (cN y) = -1 ∧ tt < 60) x2 (says (SC c s t n (cN x) (cN y)) lim) (-1) (CI n c s t set lim m g (tt + 1) (upd rt (spot (SC c s t n (cN x) (cN y)) lim (s (cN x)) (s (cN y))) (rt (spot (SC c s t n (cN x) (cN y)) lim (s (cN x)) (s (cN y))) + nI 1)) iv2 ar2) (CI n c s t set lim m g tt rt iv2 ar2))) := by
  refine Ct.of (lv := [some (.ref (ad 0)), some (.int x), some (.int y), none]) cw_ok (plainFor_of_name (by decide)) (Nat.le_of_ble_eq_true rfl) 1 rfl rfl (fun Z F => ?_)
  have hI0 := hI
  obtain ⟨hA, hT, hSp, hz, hm5, hm4, hG, hset, hlim, hl2, hp, htt, ht2, hrt⟩ := hI
  have hn := hA.le
  have hm8 := hG.2.1
  refine k_aload0 (pc := 0) F dX7_test_0 ?_
  refine k_iload1 (pc := 1) F dX7_test_1 ?_
  refine k_iload2 (pc := 2) F dX7_test_2 ?_
  refine k_callV (pc := 3) (q0 := 0) F (c_X7_areTwo hA) ok_X7_121 rfl rfl rfl rfl rfl (by decide) (by decide) (Nat.le_of_ble_eq_true rfl) dX7_test_3 (rI.use ?_)
  refine k_if_eqB (pc := 6) (tgt := 41) F dX7_test_6 (by decide) (fun h6 => ?_) (fun h6 => ?_)
  · refine k_iconst (pc := 41) (v := -1) F dX7_test_41 (by decide) ?_
    refine k_iret (pc := 42) F dX7_test_42 ?_
    exact ⟨_, rfl, Or.inr ⟨fun q => by first | exact h6 ⟨q.1, q.2.1, q.2.2.1⟩ | (rw [ea, eb] at q; exact q.2.2.2.1 (Decidable.byContradiction h17)) | (rw [ea, eb] at q; exact h17 q.2.2.2.1) | (rw [ea, eb] at q; exact h28 q.2.2.2.2.1) | (have := q.2.2.2.2.2; omega), rfl, hI0⟩⟩
  · obtain ⟨a, ha, rfl⟩ := nat_of h6.1
    obtain ⟨b, hb, rfl⟩ := nat_of h6.2.1
    have ea : cN (nI a) = a := nI_clamp (by omega)
    have eb : cN (nI b) = b := nI_clamp (by omega)
    refine k_aload0 (pc := 9) F dX7_test_9 ?_
    refine g_X7_archive (pc := 10) F dX7_test_10 ?_
    refine k_iload1 (pc := 13) F dX7_test_13 ?_
    refine k_callV (pc := 14) (q0 := 1) F (ca_isKnown hA (k := a) (by omega)) ok_X7_204 rfl rfl rfl rfl rfl (by decide) (by decide) (Nat.le_of_ble_eq_true rfl) dX7_test_14 (rI.use ?_)
    refine k_if_eqB (pc := 17) (tgt := 41) F dX7_test_17 (by decide) (fun h17 => ?_) (fun h17 => ?_)
    · refine k_iconst (pc := 41) (v := -1) F dX7_test_41 (by decide) ?_
      refine k_iret (pc := 42) F dX7_test_42 ?_
      exact ⟨_, rfl, Or.inr ⟨fun q => by first | exact h6 ⟨q.1, q.2.1, q.2.2.1⟩ | (rw [ea, eb] at q; exact q.2.2.2.1 (Decidable.byContradiction h17)) | (rw [ea, eb] at q; exact h17 q.2.2.2.1) | (rw [ea, eb] at q; exact h28 q.2.2.2.2.1) | (have := q.2.2.2.2.2; omega), rfl, hI0⟩⟩
    · refine k_aload0 (pc := 20) F dX7_test_20 ?_
      refine g_X7_archive (pc := 21) F dX7_test_21 ?_
      refine k_iload2 (pc := 24) F dX7_test_24 ?_
      refine k_callV (pc := 25) (q0 := 1) F (ca_isKnown hA (k := b) (by omega)) ok_X7_204 rfl rfl rfl rfl rfl (by decide) (by decide) (Nat.le_of_ble_eq_true rfl) dX7_test_25 (rI.use ?_)
      refine k_if_eqB (pc := 28) (tgt := 41) F dX7_test_28 (by decide) (fun h28 => ?_) (fun h28 => ?_)
      · refine k_iconst (pc := 41) (v := -1) F dX7_test_41 (by decide) ?_
        refine k_iret (pc := 42) F dX7_test_42 ?_
        exact ⟨_, rfl, Or.inr ⟨fun q => by first | exact h6 ⟨q.1, q.2.1, q.2.2.1⟩ | (rw [ea, eb] at q; exact q.2.2.2.1 (Decidable.byContradiction h17)) | (rw [ea, eb] at q; exact h17 q.2.2.2.1) | (rw [ea, eb] at q; exact h28 q.2.2.2.2.1) | (have := q.2.2.2.2.2; omega), rfl, hI0⟩⟩
      · refine k_aload0 (pc := 31) F dX7_test_31 ?_
        refine g_X7_blindTests (pc := 32) F dX7_test_32 ?_
        refine k_callV (pc := 35) (q0 := 7) F (c_X1_areOver htt ht2) ok_X7_207 rfl rfl rfl rfl rfl (by decide) (by decide) (Nat.le_of_ble_eq_true rfl) dX7_test_35 (rI.use ?_)
        refine k_if_eqB (pc := 38) (tgt := 43) F dX7_test_38 (by decide) (fun h38 => ?_) (fun h38 => ?_)
        · refine k_aload0 (pc := 43) F dX7_test_43 ?_
          refine g_X7_archive (pc := 44) F dX7_test_44 ?_
          refine k_iload1 (pc := 47) F dX7_test_47 ?_
          refine k_callV (pc := 48) (q0 := 1) F (ca_speakerOf hA (k := a) (by omega)) ok_X7_210 rfl rfl rfl rfl rfl (by decide) (by decide) (Nat.le_of_ble_eq_true rfl) dX7_test_48 (rI.use ?_)
          refine k_aload0 (pc := 51) F dX7_test_51 ?_
          refine g_X7_archive (pc := 52) F dX7_test_52 ?_
          refine k_iload2 (pc := 55) F dX7_test_55 ?_
          refine k_callV (pc := 56) (q0 := 1) F (ca_speakerOf hA (k := b) (by omega)) ok_X7_210 rfl rfl rfl rfl rfl (by decide) (by decide) (Nat.le_of_ble_eq_true rfl) dX7_test_56 (rI.use ?_)
          refine k_icmp_ne (pc := 59) (tgt := 66) F dX7_test_59 (by decide) (fun h59 => ?_) (fun h59 => ?_)
          · refine k_iconst (pc := 66) (v := nI 0) F dX7_test_66 (by decide) ?_
            refine k_istore3 (pc := 67) F (by decide) dX7_test_67 ?_
            refine k_aload0 (pc := 68) F dX7_test_68 ?_
            refine g_X7_blindTests (pc := 69) F dX7_test_69 ?_
            refine k_aload0 (pc := 72) F dX7_test_72 ?_
            refine g_X7_scores (pc := 73) F dX7_test_73 ?_
            refine k_iload1 (pc := 76) F dX7_test_76 ?_
            refine k_iload2 (pc := 77) F dX7_test_77 ?_
            refine k_callV (pc := 78) (q0 := 3) F (ca_between hA hm5 (a := a) (b := b) ha hb) ok_X7_124 rfl rfl rfl rfl rfl (by decide) (by decide) (Nat.le_of_ble_eq_true rfl) dX7_test_78 (rI.use ?_)
            refine k_aload0 (pc := 81) F dX7_test_81 ?_
            refine g_X7_limitNow (pc := 82) F (hlim) dX7_test_82 ?_
            refine k_iload3 (pc := 85) F dX7_test_85 ?_
            refine k_callV (pc := 86) (q0 := 7) F (c_X1_put htt) ok_X7_213 rfl rfl rfl rfl rfl (by decide) (by decide) (Nat.le_of_ble_eq_true rfl) dX7_test_86 (rI.use ?_)
            refine k_iret (pc := 89) F dX7_test_89 ?_
            rw [spo_0 h59]
            refine ⟨_, rfl, Or.inl ⟨?_, ?_, ?_⟩⟩
            · rw [ea, eb]; exact ⟨h6.1, h6.2.1, h6.2.2, h17, h28, by omega⟩
            · rw [ea, eb]
            · rw [ea, eb]; exact hI0.tst (by omega) spot_lt
          · refine k_iconst (pc := 62) (v := nI 1) F dX7_test_62 (by decide) ?_
            refine k_goto (pc := 63) (tgt := 67) F dX7_test_63 (by decide) ?_
            refine k_istore3 (pc := 67) F (by decide) dX7_test_67 ?_
            refine k_aload0 (pc := 68) F dX7_test_68 ?_
            refine g_X7_blindTests (pc := 69) F dX7_test_69 ?_
            refine k_aload0 (pc := 72) F dX7_test_72 ?_
            refine g_X7_scores (pc := 73) F dX7_test_73 ?_
            refine k_iload1 (pc := 76) F dX7_test_76 ?_
            refine k_iload2 (pc := 77) F dX7_test_77 ?_
            refine k_callV (pc := 78) (q0 := 3) F (ca_between hA hm5 (a := a) (b := b) ha hb) ok_X7_124 rfl rfl rfl rfl rfl (by decide) (by decide) (Nat.le_of_ble_eq_true rfl) dX7_test_78 (rI.use ?_)
            refine k_aload0 (pc := 81) F dX7_test_81 ?_
            refine g_X7_limitNow (pc := 82) F (hlim) dX7_test_82 ?_
            refine k_iload3 (pc := 85) F dX7_test_85 ?_
            refine k_callV (pc := 86) (q0 := 7) F (c_X1_put htt) ok_X7_213 rfl rfl rfl rfl rfl (by decide) (by decide) (Nat.le_of_ble_eq_true rfl) dX7_test_86 (rI.use ?_)
            refine k_iret (pc := 89) F dX7_test_89 ?_
            rw [spo_1 h59]
            refine ⟨_, rfl, Or.inl ⟨?_, ?_, ?_⟩⟩
            · rw [ea, eb]; exact ⟨h6.1, h6.2.1, h6.2.2, h17, h28, by omega⟩
            · rw [ea, eb]
            · rw [ea, eb]; exact hI0.tst (by omega) spot_lt
        · refine k_iconst (pc := 41) (v := -1) F dX7_test_41 (by decide) ?_
          refine k_iret (pc := 42) F dX7_test_42 ?_
          exact ⟨_, rfl, Or.inr ⟨fun q => by first | exact h6 ⟨q.1, q.2.1, q.2.2.1⟩ | (rw [ea, eb] at q; exact q.2.2.2.1 (Decidable.byContradiction h17)) | (rw [ea, eb] at q; exact h17 q.2.2.2.1) | (rw [ea, eb] at q; exact h28 q.2.2.2.2.1) | (have := q.2.2.2.2.2; omega), rfl, hI0⟩⟩

set_option maxHeartbeats 4000000 in
theorem c_X7_right {l : Launch} {D : va_G} {cI : ClassId} {ad : Nat → Nat} {iv : IV} {ar : AR} {n : Nat} {c : Nat → Nat} {s t : Nat → Int32} {set : Int32} {lim m : Nat} {g : Nat → Nat} {tt : Nat} {rt : Nat → Int32} (hI : CI n c s t set lim m g tt rt iv ar) {x : Int32} : Ct l D cI (cw cI ad) yX7_right cX7_right 2 (some .int) 1 21 [.ref (ad 0), .int x] iv ar (qI (fun x2 iv2 ar2 => x2 = aRight rt x ∧ CI n c s t set lim m g tt rt iv2 ar2)) := by
  refine Ct.of (lv := [some (.ref (ad 0)), some (.int x)]) cw_ok (plainFor_of_name (by decide)) (Nat.le_of_ble_eq_true rfl) 0 rfl rfl (fun Z F => ?_)
  have hI0 := hI
  obtain ⟨hA, hT, hSp, hz, hm5, hm4, hG, hset, hlim, hl2, hp, htt, ht2, hrt⟩ := hI
  have hn := hA.le
  have hm8 := hG.2.1
  have z1 : (nI 5).toInt = 5 := rfl
  refine k_iload1 (pc := 0) F dX7_right_0 ?_
  refine k_if_lt (pc := 1) (tgt := 9) F dX7_right_1 (by decide) (fun h1 => ?_) (fun h1 => ?_)
  · refine k_iconst (pc := 9) (v := -1) F dX7_right_9 (by decide) ?_
    refine k_iret (pc := 10) F dX7_right_10 ?_
    refine ⟨_, rfl, ?_, hI0⟩
    rw [aRight, if_neg]
    intro q
    first | (rw [i_lt, toInt_0] at h1; omega) | (rw [i_lt, z1] at h6; omega)
  · refine k_iload1 (pc := 4) F dX7_right_4 ?_
    refine k_iconst (pc := 5) (v := nI 5) F dX7_right_5 (by decide) ?_
    refine k_icmp_lt (pc := 6) (tgt := 11) F dX7_right_6 (by decide) (fun h6 => ?_) (fun h6 => ?_)
    · rw [i_lt, toInt_0] at h1
      rw [i_lt, z1] at h6
      have hx : inR x 5 := ⟨by omega, h6⟩
      obtain ⟨k, hk, rfl⟩ := nat_of hx
      refine k_aload0 (pc := 11) F dX7_right_11 ?_
      refine g_X7_blindTests (pc := 12) F dX7_right_12 ?_
      refine k_iload1 (pc := 15) F dX7_right_15 ?_
      refine k_callV (pc := 16) (q0 := 7) F (c_X1_outcome (k := k) hk) ok_X7_217 rfl rfl rfl rfl rfl (by decide) (by decide) (Nat.le_of_ble_eq_true rfl) dX7_right_16 (rI.use ?_)
      refine k_iret (pc := 19) F dX7_right_19 ?_
      refine ⟨_, rfl, ?_, hI0⟩
      rw [aRight, if_pos hx]
      unfold cN
      rw [nI_clamp (by omega)]
      exact hrt k hk
    · refine k_iconst (pc := 9) (v := -1) F dX7_right_9 (by decide) ?_
      refine k_iret (pc := 10) F dX7_right_10 ?_
      refine ⟨_, rfl, ?_, hI0⟩
      rw [aRight, if_neg]
      intro q
      first | (rw [i_lt, toInt_0] at h1; omega) | (rw [i_lt, z1] at h6; omega)

set_option maxHeartbeats 4000000 in
theorem c_X7_told {l : Launch} {D : va_G} {cI : ClassId} {ad : Nat → Nat} {iv : IV} {ar : AR} {n : Nat} {c : Nat → Nat} {s t : Nat → Int32} {set : Int32} {lim m : Nat} {g : Nat → Nat} {tt : Nat} {rt : Nat → Int32} (hI : CI n c s t set lim m g tt rt iv ar) {x y : Int32} : Ct l D cI (cw cI ad) yX7_told cX7_told 3 (some .int) 2 45 [.ref (ad 0), .int x, .int y] iv ar (qI (fun x2 iv2 ar2 => x2 = aTold n c s t x y ∧ CI n c s t set lim m g tt rt iv2 ar2)) := by
  refine Ct.of (lv := [some (.ref (ad 0)), some (.int x), some (.int y)]) cw_ok (plainFor_of_name (by decide)) (Nat.le_of_ble_eq_true rfl) 0 rfl rfl (fun Z F => ?_)
  have hI0 := hI
  obtain ⟨hA, hT, hSp, hz, hm5, hm4, hG, hset, hlim, hl2, hp, htt, ht2, hrt⟩ := hI
  have hn := hA.le
  have hm8 := hG.2.1
  refine k_aload0 (pc := 0) F dX7_told_0 ?_
  refine g_X7_archive (pc := 1) F dX7_told_1 ?_
  refine k_iload1 (pc := 4) F dX7_told_4 ?_
  refine k_callV (pc := 5) (q0 := 1) F (c_X0_has hA.1 hA.le) ok_X7_92 rfl rfl rfl rfl rfl (by decide) (by decide) (Nat.le_of_ble_eq_true rfl) dX7_told_5 (rI.use ?_)
  refine k_if_neB (pc := 8) (tgt := 13) F dX7_told_8 (by decide) (fun h8 => ?_) (fun h8 => ?_)
  · obtain ⟨a, ha, rfl⟩ := nat_of h8
    refine k_iload2 (pc := 13) F dX7_told_13 ?_
    by_cases s14_0 : y = 0
    · subst s14_0
      refine k_tin (pc := 14) (tgt := 40) F dX7_told_14 (by decide) (by decide) rfl (by decide) ?_
      refine k_aload0 (pc := 40) F dX7_told_40 ?_
      refine g_X7_archive (pc := 41) F dX7_told_41 ?_
      refine k_iload1 (pc := 44) F dX7_told_44 ?_
      refine k_callV (pc := 45) (q0 := 1) F (ca_channelOf hA (k := a) (by omega)) ok_X7_220 rfl rfl rfl rfl rfl (by decide) (by decide) (Nat.le_of_ble_eq_true rfl) dX7_told_45 (rI.use ?_)
      refine k_iret (pc := 48) F dX7_told_48 ?_
      refine ⟨_, rfl, ?_, hI0⟩
      rw [aTold, if_pos h8]
      unfold cN
      rw [nI_clamp (by omega)]
      rfl
    · by_cases s14_1 : y = 1
      · subst s14_1
        refine k_tin (pc := 14) (tgt := 49) F dX7_told_14 (by decide) (by decide) rfl (by decide) ?_
        refine k_aload0 (pc := 49) F dX7_told_49 ?_
        refine g_X7_archive (pc := 50) F dX7_told_50 ?_
        refine k_iload1 (pc := 53) F dX7_told_53 ?_
        refine k_callV (pc := 54) (q0 := 1) F (ca_speakerOf hA (k := a) (by omega)) ok_X7_210 rfl rfl rfl rfl rfl (by decide) (by decide) (Nat.le_of_ble_eq_true rfl) dX7_told_54 (rI.use ?_)
        refine k_iret (pc := 57) F dX7_told_57 ?_
        refine ⟨_, rfl, ?_, hI0⟩
        rw [aTold, if_pos h8]
        unfold cN
        rw [nI_clamp (by omega)]
        rfl
      · by_cases s14_2 : y = 2
        · subst s14_2
          refine k_tin (pc := 14) (tgt := 58) F dX7_told_14 (by decide) (by decide) rfl (by decide) ?_
          refine k_aload0 (pc := 58) F dX7_told_58 ?_
          refine g_X7_archive (pc := 59) F dX7_told_59 ?_
          refine k_iload1 (pc := 62) F dX7_told_62 ?_
          refine k_callV (pc := 63) (q0 := 1) F (c_X0_countTones (r := a) (by omega)) ok_X7_223 rfl rfl rfl rfl rfl (by decide) (by decide) (Nat.le_of_ble_eq_true rfl) dX7_told_63 (rI.use ?_)
          refine k_iret (pc := 66) F dX7_told_66 ?_
          refine ⟨_, rfl, ?_, hI0⟩
          rw [aTold, if_pos h8]
          unfold cN
          rw [nI_clamp (by omega)]
          rw [cnT_congr 6 (fun q hq => hA.2.2.2.2 (a * 6 + q) (by omega))]
          rfl
        · have t14_0 := lv_neT s14_0 (a := 0) (by decide)
          have t14_1 := lv_neT s14_1 (a := 1) (by decide)
          have t14_2 := lv_neT s14_2 (a := 2) (by decide)
          refine k_tout (pc := 14) (tgt := 67) F dX7_told_14 (by omega) (by decide) ?_
          refine k_aload0 (pc := 67) F dX7_told_67 ?_
          refine k_iload1 (pc := 68) F dX7_told_68 ?_
          refine k_iload2 (pc := 69) F dX7_told_69 ?_
          refine k_callV (pc := 70) (q0 := 0) F (c_X7_toneTold hA (k := a) ha) ok_X7_226 rfl rfl rfl rfl rfl (by decide) (by decide) (Nat.le_of_ble_eq_true rfl) dX7_told_70 (rI.use ?_)
          refine k_iret (pc := 73) F dX7_told_73 ?_
          refine ⟨_, rfl, ?_, hI0⟩
          rw [aTold, if_pos h8, if_neg s14_0, if_neg s14_1, if_neg s14_2]
          have ec : cN (nI a) = a := nI_clamp (by omega)
          rw [ec]
  · refine k_iconst (pc := 11) (v := -1) F dX7_told_11 (by decide) ?_
    refine k_iret (pc := 12) F dX7_told_12 ?_
    exact ⟨_, rfl, (if_neg h8).symm, hI0⟩

set_option maxHeartbeats 4000000 in
theorem c_X7_count {l : Launch} {D : va_G} {cI : ClassId} {ad : Nat → Nat} {iv : IV} {ar : AR} {n : Nat} {c : Nat → Nat} {s t : Nat → Int32} {set : Int32} {lim m : Nat} {g : Nat → Nat} {tt : Nat} {rt : Nat → Int32} (hI : CI n c s t set lim m g tt rt iv ar) {x : Int32} : Ct l D cI (cw cI ad) yX7_count cX7_count 2 (some .int) 6 138 [.ref (ad 0), .int x] iv ar (qI (fun x2 iv2 ar2 => x2 = aCount n c s t set lim m x ∧ CI n c s t set lim m g tt rt iv2 ar2)) := by
  refine Ct.of (lv := [some (.ref (ad 0)), some (.int x)]) cw_ok (plainFor_of_name (by decide)) (Nat.le_of_ble_eq_true rfl) 0 rfl rfl (fun Z F => ?_)
  have hI0 := hI
  obtain ⟨hA, hT, hSp, hz, hm5, hm4, hG, hset, hlim, hl2, hp, htt, ht2, hrt⟩ := hI
  have hn := hA.le
  have hm8 := hG.2.1
  refine k_iload1 (pc := 0) F dX7_count_0 ?_
  by_cases s1_0 : x = 0
  · subst s1_0
    refine k_tin (pc := 1) (tgt := 44) F dX7_count_1 (by decide) (by decide) rfl (by decide) ?_
    refine k_aload0 (pc := 44) F dX7_count_44 ?_
    refine g_X7_archive (pc := 45) F dX7_count_45 ?_
    refine k_callV (pc := 48) (q0 := 1) F (ca_size hA) ok_X7_229 rfl rfl rfl rfl rfl (by decide) (by decide) (Nat.le_of_ble_eq_true rfl) dX7_count_48 (rI.use ?_)
    refine k_iret (pc := 51) F dX7_count_51 ?_
    exact ⟨_, rfl, rfl, hI0⟩
  · by_cases s1_1 : x = 1
    · subst s1_1
      refine k_tin (pc := 1) (tgt := 52) F dX7_count_1 (by decide) (by decide) rfl (by decide) ?_
      refine k_aload0 (pc := 52) F dX7_count_52 ?_
      refine k_callV (pc := 53) (q0 := 0) F (c_X7_freshPairs hI0) ok_X7_130 rfl rfl rfl rfl rfl (by decide) (by decide) (Nat.le_of_ble_eq_true rfl) dX7_count_53 (qR.use (fun ivF arF hF => ?_))
      obtain ⟨hIF, hPF, hBF⟩ := hF
      refine k_callV (pc := 56) (q0 := 4) F (c_X3_allSame) ok_X7_156 rfl rfl rfl rfl rfl (by decide) (by decide) (Nat.le_of_ble_eq_true rfl) dX7_count_56 (rI.use ?_)
      refine k_iret (pc := 59) F dX7_count_59 ?_
      exact ⟨_, rfl, hPF.2.2.1, hIF⟩
    · by_cases s1_2 : x = 2
      · subst s1_2
        refine k_tin (pc := 1) (tgt := 60) F dX7_count_1 (by decide) (by decide) rfl (by decide) ?_
        refine k_aload0 (pc := 60) F dX7_count_60 ?_
        refine k_callV (pc := 61) (q0 := 0) F (c_X7_freshPairs hI0) ok_X7_130 rfl rfl rfl rfl rfl (by decide) (by decide) (Nat.le_of_ble_eq_true rfl) dX7_count_61 (qR.use (fun ivF arF hF => ?_))
        obtain ⟨hIF, hPF, hBF⟩ := hF
        refine k_callV (pc := 64) (q0 := 4) F (c_X3_allOther) ok_X7_163 rfl rfl rfl rfl rfl (by decide) (by decide) (Nat.le_of_ble_eq_true rfl) dX7_count_64 (rI.use ?_)
        refine k_iret (pc := 67) F dX7_count_67 ?_
        exact ⟨_, rfl, hPF.2.2.2, hIF⟩
      · by_cases s1_3 : x = 3
        · subst s1_3
          refine k_tin (pc := 1) (tgt := 68) F dX7_count_1 (by decide) (by decide) rfl (by decide) ?_
          refine k_aload0 (pc := 68) F dX7_count_68 ?_
          refine k_callV (pc := 69) (q0 := 0) F (c_X7_freshPairs hI0) ok_X7_130 rfl rfl rfl rfl rfl (by decide) (by decide) (Nat.le_of_ble_eq_true rfl) dX7_count_69 (qR.use (fun ivF arF hF => ?_))
          obtain ⟨hIF, hPF, hBF⟩ := hF
          refine k_callV (pc := 72) (q0 := 4) F (c_X3_countBlocks) ok_X7_230 rfl rfl rfl rfl rfl (by decide) (by decide) (Nat.le_of_ble_eq_true rfl) dX7_count_72 (rI.use ?_)
          refine k_iret (pc := 75) F dX7_count_75 ?_
          exact ⟨_, rfl, hBF.1, hIF⟩
        · by_cases s1_4 : x = 4
          · subst s1_4
            refine k_tin (pc := 1) (tgt := 76) F dX7_count_1 (by decide) (by decide) rfl (by decide) ?_
            refine k_aload0 (pc := 76) F dX7_count_76 ?_
            refine g_X7_segments (pc := 77) F dX7_count_77 ?_
            refine k_callV (pc := 80) (q0 := 5) F (c_X5_size) ok_X7_175 rfl rfl rfl rfl rfl (by decide) (by decide) (Nat.le_of_ble_eq_true rfl) dX7_count_80 (rI.use ?_)
            refine k_iret (pc := 83) F dX7_count_83 ?_
            exact ⟨_, rfl, hG.1, hI0⟩
          · by_cases s1_5 : x = 5
            · subst s1_5
              refine k_tin (pc := 1) (tgt := 84) F dX7_count_1 (by decide) (by decide) rfl (by decide) ?_
              refine k_aload0 (pc := 84) F dX7_count_84 ?_
              refine g_X7_limitNow (pc := 85) F (hlim) dX7_count_85 ?_
              refine k_iret (pc := 88) F dX7_count_88 ?_
              exact ⟨_, rfl, rfl, hI0⟩
            · by_cases s1_6 : x = 6
              · subst s1_6
                refine k_tin (pc := 1) (tgt := 89) F dX7_count_1 (by decide) (by decide) rfl (by decide) ?_
                refine k_aload0 (pc := 89) F dX7_count_89 ?_
                refine g_X7_speakersInSet (pc := 90) F (hset) dX7_count_90 ?_
                refine k_iret (pc := 93) F dX7_count_93 ?_
                exact ⟨_, rfl, rfl, hI0⟩
              · have t1_0 := lv_neT s1_0 (a := 0) (by decide)
                have t1_1 := lv_neT s1_1 (a := 1) (by decide)
                have t1_2 := lv_neT s1_2 (a := 2) (by decide)
                have t1_3 := lv_neT s1_3 (a := 3) (by decide)
                have t1_4 := lv_neT s1_4 (a := 4) (by decide)
                have t1_5 := lv_neT s1_5 (a := 5) (by decide)
                have t1_6 := lv_neT s1_6 (a := 6) (by decide)
                refine k_tout (pc := 1) (tgt := 94) F dX7_count_1 (by omega) (by decide) ?_
                refine k_iconst (pc := 94) (v := -1) F dX7_count_94 (by decide) ?_
                refine k_iret (pc := 95) F dX7_count_95 ?_
                refine ⟨_, rfl, ?_, hI0⟩
                rw [aCount, if_neg s1_0, if_neg s1_1, if_neg s1_2, if_neg s1_3, if_neg s1_4, if_neg s1_5, if_neg s1_6]

