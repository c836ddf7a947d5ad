set_option maxHeartbeats 4000000 in
theorem c_J9_abs_0f7a4 {l : Launch} {D : va_G} {cI : ClassId} {wf : WF} {iv : IV} {ar : AR} (hwf : wfOk wf) {x : Int32} : Ct l D cI wf yJ9_abs_0f7a4 cJ9_abs_0f7a4 1 (some .int) 0 0 [.int x] iv ar (rI (iabs x) iv ar) := by
  refine Ct.of (lv := [some (.int x)]) hwf (by decide +kernel) (Nat.le_of_ble_eq_true rfl) 0 rfl rfl (fun Z F => ?_)
  refine k_iload0 (pc := 0) F dJ9_abs_0f7a4_0 ?_
  refine k_if_ge (pc := 1) (tgt := 9) F dJ9_abs_0f7a4_1 (by decide) (fun h1 => ?_) (fun h1 => ?_)
  · refine k_iload0 (pc := 9) F dJ9_abs_0f7a4_9 ?_
    refine k_iret (pc := 10) F dJ9_abs_0f7a4_10 ?_
    exact ⟨by first | rw [iabs, if_neg (fun q => absurd (i_le 0 x |>.mp h1) (by have := (i_lt x 0).mp q; omega))] | rw [iabs, if_pos (by rw [i_lt]; rw [i_le] at h1; omega)], rfl, rfl⟩
  · refine k_iload0 (pc := 4) F dJ9_abs_0f7a4_4 ?_
    refine k_ineg (pc := 5) F dJ9_abs_0f7a4_5 ?_
    refine k_goto (pc := 6) (tgt := 10) F dJ9_abs_0f7a4_6 (by decide) ?_
    refine k_iret (pc := 10) F dJ9_abs_0f7a4_10 ?_
    exact ⟨by first | rw [iabs, if_neg (fun q => absurd (i_le 0 x |>.mp h1) (by have := (i_lt x 0).mp q; omega))] | rw [iabs, if_pos (by rw [i_lt]; rw [i_le] at h1; omega)], rfl, rfl⟩

set_option maxHeartbeats 4000000 in
theorem c_J9_min_7cf53 {l : Launch} {D : va_G} {cI : ClassId} {wf : WF} {iv : IV} {ar : AR} (hwf : wfOk wf) {x y : Int32} : Ct l D cI wf yJ9_min_7cf53 cJ9_min_7cf53 2 (some .int) 0 0 [.int x, .int y] iv ar (rI (if y < x then y else x) iv ar) := by
  refine Ct.of (lv := [some (.int x), some (.int y)]) hwf (by decide +kernel) (Nat.le_of_ble_eq_true rfl) 0 rfl rfl (fun Z F => ?_)
  refine k_iload0 (pc := 0) F dJ9_min_7cf53_0 ?_
  refine k_iload1 (pc := 1) F dJ9_min_7cf53_1 ?_
  refine k_icmp_gt (pc := 2) (tgt := 9) F dJ9_min_7cf53_2 (by decide) (fun h2 => ?_) (fun h2 => ?_)
  · refine k_iload1 (pc := 9) F dJ9_min_7cf53_9 ?_
    refine k_iret (pc := 10) F dJ9_min_7cf53_10 ?_
    exact ⟨by first | rw [if_pos h2] | rw [if_neg h2], rfl, rfl⟩
  · refine k_iload0 (pc := 5) F dJ9_min_7cf53_5 ?_
    refine k_goto (pc := 6) (tgt := 10) F dJ9_min_7cf53_6 (by decide) ?_
    refine k_iret (pc := 10) F dJ9_min_7cf53_10 ?_
    exact ⟨by first | rw [if_pos h2] | rw [if_neg h2], rfl, rfl⟩

set_option maxHeartbeats 4000000 in
theorem c_J9_floorDiv_7cf53 {l : Launch} {D : va_G} {cI : ClassId} {wf : WF} {iv : IV} {ar : AR} (hwf : wfOk wf) {x y : Int32} (hy : ¬ y = 0) : Ct l D cI wf yJ9_floorDiv_7cf53 cJ9_floorDiv_7cf53 3 (some .int) 0 0 [.int x, .int y] iv ar (rI (fdv x y) iv ar) := by
  refine Ct.of (lv := [some (.int x), some (.int y), none]) hwf (by decide +kernel) (Nat.le_of_ble_eq_true rfl) 1 rfl rfl (fun Z F => ?_)
  refine k_iload0 (pc := 0) F dJ9_floorDiv_7cf53_0 ?_
  refine k_iload1 (pc := 1) F dJ9_floorDiv_7cf53_1 ?_
  refine k_idiv (pc := 2) F dJ9_floorDiv_7cf53_2 hy ?_
  refine k_istore2 (pc := 3) F (by decide) dJ9_floorDiv_7cf53_3 ?_
  refine k_iload0 (pc := 4) F dJ9_floorDiv_7cf53_4 ?_
  refine k_iload1 (pc := 5) F dJ9_floorDiv_7cf53_5 ?_
  refine k_ixor (pc := 6) F dJ9_floorDiv_7cf53_6 ?_
  refine k_if_ge (pc := 7) (tgt := 21) F dJ9_floorDiv_7cf53_7 (by decide) (fun h7 => ?_) (fun h7 => ?_)
  · refine k_iload2 (pc := 21) F dJ9_floorDiv_7cf53_21 ?_
    refine k_iret (pc := 22) F dJ9_floorDiv_7cf53_22 ?_
    exact ⟨by rw [fdv, if_neg (fun q => by first | exact q.2 h14 | (have q1 := q.1; rw [i_lt] at q1; rw [i_le] at h7; omega))], rfl, rfl⟩
  · refine k_iload2 (pc := 10) F dJ9_floorDiv_7cf53_10 ?_
    refine k_iload1 (pc := 11) F dJ9_floorDiv_7cf53_11 ?_
    refine k_imul (pc := 12) F dJ9_floorDiv_7cf53_12 ?_
    refine k_iload0 (pc := 13) F dJ9_floorDiv_7cf53_13 ?_
    refine k_icmp_eq (pc := 14) (tgt := 21) F dJ9_floorDiv_7cf53_14 (by decide) (fun h14 => ?_) (fun h14 => ?_)
    · refine k_iload2 (pc := 21) F dJ9_floorDiv_7cf53_21 ?_
      refine k_iret (pc := 22) F dJ9_floorDiv_7cf53_22 ?_
      exact ⟨by rw [fdv, if_neg (fun q => by first | exact q.2 h14 | (have q1 := q.1; rw [i_lt] at q1; rw [i_le] at h7; omega))], rfl, rfl⟩
    · refine k_iload2 (pc := 17) F dJ9_floorDiv_7cf53_17 ?_
      refine k_iconst (pc := 18) (v := nI 1) F dJ9_floorDiv_7cf53_18 (by decide) ?_
      refine k_isub (pc := 19) F dJ9_floorDiv_7cf53_19 ?_
      refine k_iret (pc := 20) F dJ9_floorDiv_7cf53_20 ?_
      exact ⟨by rw [fdv, if_pos ⟨by rw [i_lt]; rw [i_le] at h7; omega, h14⟩]; rfl, rfl, rfl⟩

set_option maxHeartbeats 4000000 in
theorem c_X0_isFull {l : Launch} {D : va_G} {cI : ClassId} {ad : Nat → Nat} {iv : IV} {ar : AR} {n : Nat} (hn : iv 3 = nI n) (hle : n ≤ 30) : Ct l D cI (cw cI ad) yX0_isFull cX0_isFull 1 (some .boolean) 0 0 [.ref (ad 1)] iv ar (rI (bI (30 ≤ n)) iv ar) := by
  refine Ct.of (lv := [some (.ref (ad 1))]) cw_ok (plainFor_of_name (by decide)) (Nat.le_of_ble_eq_true rfl) 0 rfl rfl (fun Z F => ?_)
  refine k_aload0 (pc := 0) F dX0_isFull_0 ?_
  refine g_X0_size (pc := 1) F (hn) dX0_isFull_1 ?_
  refine k_bipush (pc := 4) (v := nI 30) F dX0_isFull_4 (by decide) ?_
  refine k_icmp_ltN (pc := 6) (tgt := 13) F dX0_isFull_6 (by decide) (by omega) (by omega) (fun h6 => ?_) (fun h6 => ?_)
  · refine k_iconst (pc := 13) (v := nI 0) F dX0_isFull_13 (by decide) ?_
    refine k_zret (pc := 14) F dX0_isFull_14 (by decide) ?_
    exact ret0 (by omega)
  · refine k_iconst (pc := 9) (v := nI 1) F dX0_isFull_9 (by decide) ?_
    refine k_goto (pc := 10) (tgt := 14) F dX0_isFull_10 (by decide) ?_
    refine k_zret (pc := 14) F dX0_isFull_14 (by decide) ?_
    exact ret1 (by omega)

set_option maxHeartbeats 4000000 in
theorem c_X0_has {l : Launch} {D : va_G} {cI : ClassId} {ad : Nat → Nat} {iv : IV} {ar : AR} {n : Nat} {r : Int32} (hn : iv 3 = nI n) (hle : n ≤ 30) : Ct l D cI (cw cI ad) yX0_has cX0_has 2 (some .boolean) 0 0 [.ref (ad 1), .int r] iv ar (rI (bI (0 ≤ r.toInt ∧ r.toInt < n)) iv ar) := by
  refine Ct.of (lv := [some (.ref (ad 1)), some (.int r)]) cw_ok (plainFor_of_name (by decide)) (Nat.le_of_ble_eq_true rfl) 0 rfl rfl (fun Z F => ?_)
  have zn := nI_toInt (n := n) (by omega)
  have z0 : (0 : Int32).toInt = 0 := rfl
  refine k_iload1 (pc := 0) F dX0_has_0 ?_
  refine k_if_lt (pc := 1) (tgt := 16) F dX0_has_1 (by decide) (fun h1 => ?_) (fun h1 => ?_)
  · refine k_iconst (pc := 16) (v := nI 0) F dX0_has_16 (by decide) ?_
    refine k_zret (pc := 17) F dX0_has_17 (by decide) ?_
    exact ret0 (by (try rw [i_lt] at h1); (try rw [i_le] at h9); omega)
  · refine k_iload1 (pc := 4) F dX0_has_4 ?_
    refine k_aload0 (pc := 5) F dX0_has_5 ?_
    refine g_X0_size (pc := 6) F (hn) dX0_has_6 ?_
    refine k_icmp_ge (pc := 9) (tgt := 16) F dX0_has_9 (by decide) (fun h9 => ?_) (fun h9 => ?_)
    · refine k_iconst (pc := 16) (v := nI 0) F dX0_has_16 (by decide) ?_
      refine k_zret (pc := 17) F dX0_has_17 (by decide) ?_
      exact ret0 (by (try rw [i_lt] at h1); (try rw [i_le] at h9); omega)
    · refine k_iconst (pc := 12) (v := nI 1) F dX0_has_12 (by decide) ?_
      refine k_goto (pc := 13) (tgt := 17) F dX0_has_13 (by decide) ?_
      refine k_zret (pc := 17) F dX0_has_17 (by decide) ?_
      exact ret1 (by (try rw [i_lt] at h1); (try rw [i_le] at h9); omega)

set_option maxHeartbeats 4000000 in
theorem c_X0_add {l : Launch} {D : va_G} {cI : ClassId} {ad : Nat → Nat} {iv : IV} {ar : AR} {n : Nat} {x y : Int32} (hn : iv 3 = nI n) (hle : n < 30) : Ct l D cI (cw cI ad) yX0_add cX0_add 4 (some .int) 0 0 [.ref (ad 1), .int x, .int y] iv ar (rI (nI n) (va_up iv 3 (nI (n + 1))) (va_up (va_up ar 0 (upd (ar 0) n x)) 1 (upd (ar 1) n y))) := by
  refine Ct.of (lv := [some (.ref (ad 1)), some (.int x), some (.int y), none]) cw_ok (plainFor_of_name (by decide)) (Nat.le_of_ble_eq_true rfl) 1 rfl rfl (fun Z F => ?_)
  refine k_aload0 (pc := 0) F dX0_add_0 ?_
  refine g_X0_size (pc := 1) F (hn) dX0_add_1 ?_
  refine k_istore3 (pc := 4) F (by decide) dX0_add_4 ?_
  refine k_aload0 (pc := 5) F dX0_add_5 ?_
  refine g_X0_channels (pc := 6) F dX0_add_6 ?_
  refine k_iload3 (pc := 9) F dX0_add_9 ?_
  refine k_iload1 (pc := 10) F dX0_add_10 ?_
  refine s_c0 (pc := 11) F (by omega) (rfl) dX0_add_11 ?_
  refine k_aload0 (pc := 12) F dX0_add_12 ?_
  refine g_X0_speakers (pc := 13) F dX0_add_13 ?_
  refine k_iload3 (pc := 16) F dX0_add_16 ?_
  refine k_iload2 (pc := 17) F dX0_add_17 ?_
  refine s_c1 (pc := 18) F (by omega) ((up_n (by decide)).trans (rfl)) dX0_add_18 ?_
  refine k_aload0 (pc := 19) F dX0_add_19 ?_
  refine k_dup (pc := 20) F dX0_add_20 rfl ?_
  refine g_X0_size (pc := 21) F (hn) dX0_add_21 ?_
  refine k_iconst (pc := 24) (v := nI 1) F dX0_add_24 (by decide) ?_
  refine k_iaddN (pc := 25) F dX0_add_25 ?_
  refine p_X0_size (pc := 26) F dX0_add_26 ?_
  refine k_iload3 (pc := 29) F dX0_add_29 ?_
  refine k_iret (pc := 30) F dX0_add_30 ?_
  exact ⟨rfl, rfl, rfl⟩

set_option maxHeartbeats 4000000 in
theorem c_X0_isKnown {l : Launch} {D : va_G} {cI : ClassId} {ad : Nat → Nat} {iv : IV} {ar : AR} {k : Nat} (hk : k < 30) : Ct l D cI (cw cI ad) yX0_isKnown cX0_isKnown 2 (some .boolean) 0 0 [.ref (ad 1), .int (nI k)] iv ar (rI (bI (¬ ar 1 k = -1)) iv ar) := by
  refine Ct.of (lv := [some (.ref (ad 1)), some (.int (nI k))]) cw_ok (plainFor_of_name (by decide)) (Nat.le_of_ble_eq_true rfl) 0 rfl rfl (fun Z F => ?_)
  refine k_aload0 (pc := 0) F dX0_isKnown_0 ?_
  refine g_X0_speakers (pc := 1) F dX0_isKnown_1 ?_
  refine k_iload1 (pc := 4) F dX0_isKnown_4 ?_
  refine l_c1 (pc := 5) F (by omega) rfl dX0_isKnown_5 ?_
  refine k_iconst (pc := 6) (v := -1) F dX0_isKnown_6 (by decide) ?_
  refine k_icmp_eq (pc := 7) (tgt := 14) F dX0_isKnown_7 (by decide) (fun h7 => ?_) (fun h7 => ?_)
  · refine k_iconst (pc := 14) (v := nI 0) F dX0_isKnown_14 (by decide) ?_
    refine k_zret (pc := 15) F dX0_isKnown_15 (by decide) ?_
    exact ret0 (by first | exact h7 | exact fun q => q h7)
  · refine k_iconst (pc := 10) (v := nI 1) F dX0_isKnown_10 (by decide) ?_
    refine k_goto (pc := 11) (tgt := 15) F dX0_isKnown_11 (by decide) ?_
    refine k_zret (pc := 15) F dX0_isKnown_15 (by decide) ?_
    exact ret1 (by first | exact h7 | exact fun q => q h7)

set_option maxHeartbeats 4000000 in
theorem c_X0_isOfSet {l : Launch} {D : va_G} {cI : ClassId} {ad : Nat → Nat} {iv : IV} {ar : AR} {k : Nat} {x : Int32} (hk : k < 30) : Ct l D cI (cw cI ad) yX0_isOfSet cX0_isOfSet 3 (some .boolean) 1 21 [.ref (ad 1), .int (nI k), .int x] iv ar (rI (bI (ofS x (ar 1 k))) iv ar) := by
  refine Ct.of (lv := [some (.ref (ad 1)), some (.int (nI k)), some (.int x)]) cw_ok (plainFor_of_name (by decide)) (Nat.le_of_ble_eq_true rfl) 0 rfl rfl (fun Z F => ?_)
  refine k_aload0 (pc := 0) F dX0_isOfSet_0 ?_
  refine k_iload1 (pc := 1) F dX0_isOfSet_1 ?_
  refine k_callV (pc := 2) (q0 := 1) F (c_X0_isKnown (by omega)) ok_X0_31 rfl rfl rfl rfl rfl (by decide) (by decide) (Nat.le_of_ble_eq_true rfl) dX0_isOfSet_2 (rI.use ?_)
  refine k_if_eqB (pc := 5) (tgt := 26) F dX0_isOfSet_5 (by decide) (fun h5 => ?_) (fun h5 => ?_)
  · refine k_iconst (pc := 26) (v := nI 0) F dX0_isOfSet_26 (by decide) ?_
    refine k_zret (pc := 27) F dX0_isOfSet_27 (by decide) ?_
    exact ret0 (by first | exact ⟨h5, h19⟩ | exact fun q => h5 q.1 | exact fun q => h19 q.2)
  · refine k_iload2 (pc := 8) F dX0_isOfSet_8 ?_
    refine k_aload0 (pc := 9) F dX0_isOfSet_9 ?_
    refine g_X0_speakers (pc := 10) F dX0_isOfSet_10 ?_
    refine k_iload1 (pc := 13) F dX0_isOfSet_13 ?_
    refine l_c1 (pc := 14) F (by omega) rfl dX0_isOfSet_14 ?_
    refine k_ishr (pc := 15) F dX0_isOfSet_15 ?_
    refine k_iconst (pc := 16) (v := nI 1) F dX0_isOfSet_16 (by decide) ?_
    refine k_iand (pc := 17) F dX0_isOfSet_17 ?_
    refine k_iconst (pc := 18) (v := nI 1) F dX0_isOfSet_18 (by decide) ?_
    refine k_icmp_ne (pc := 19) (tgt := 26) F dX0_isOfSet_19 (by decide) (fun h19 => ?_) (fun h19 => ?_)
    · refine k_iconst (pc := 26) (v := nI 0) F dX0_isOfSet_26 (by decide) ?_
      refine k_zret (pc := 27) F dX0_isOfSet_27 (by decide) ?_
      exact ret0 (by first | exact ⟨h5, h19⟩ | exact fun q => h5 q.1 | exact fun q => h19 q.2)
    · refine k_iconst (pc := 22) (v := nI 1) F dX0_isOfSet_22 (by decide) ?_
      refine k_goto (pc := 23) (tgt := 27) F dX0_isOfSet_23 (by decide) ?_
      refine k_zret (pc := 27) F dX0_isOfSet_27 (by decide) ?_
      exact ret1 (by first | exact ⟨h5, h19⟩ | exact fun q => h5 q.1 | exact fun q => h19 q.2)

set_option maxHeartbeats 4000000 in
theorem c_X0_countTones {l : Launch} {D : va_G} {cI : ClassId} {ad : Nat → Nat} {iv : IV} {ar : AR} {r : Nat} (hk : r < 30) : Ct l D cI (cw cI ad) yX0_countTones cX0_countTones 4 (some .int) 1 22 [.ref (ad 1), .int (nI r)] iv ar (rI (nI (cnT (ar 2) r 6)) iv ar) := by
  refine Ct.of (lv := [some (.ref (ad 1)), some (.int (nI r)), none, none]) cw_ok (plainFor_of_name (by decide)) (Nat.le_of_ble_eq_true rfl) 2 rfl rfl (fun Z F => ?_)
  refine k_iconst (pc := 0) (v := nI 0) F dX0_countTones_0 (by decide) ?_
  refine k_istore2 (pc := 1) F (by decide) dX0_countTones_1 ?_
  refine k_iconst (pc := 2) (v := nI 0) F dX0_countTones_2 (by decide) ?_
  refine k_istore3 (pc := 3) F (by decide) dX0_countTones_3 ?_
  have L4 : ∀ (fu : Nat) (p : Nat), 6 - p < fu → p ≤ 6 → Z 4 [some (.ref (ad 1)), some (.int (nI r)), some (.int (nI (cnT (ar 2) r p))), some (.int (nI p))] [] iv ar := by
    intro fu
    induction fu with
    | zero => intro p hfu; exact absurd hfu (Nat.not_lt_zero _)
    | succ fu ih =>
      intro p hfu hp
      refine k_iload3 (pc := 4) F dX0_countTones_4 ?_
      refine k_bipush (pc := 5) (v := nI 6) F dX0_countTones_5 (by decide) ?_
      refine k_icmp_geN (pc := 7) (tgt := 29) F dX0_countTones_7 (by decide) (by omega) (by omega) (fun h7 => ?_) (fun h7 => ?_)
      · have e : p = 6 := by omega
        subst e
        refine k_iload2 (pc := 29) F dX0_countTones_29 ?_
        refine k_iret (pc := 30) F dX0_countTones_30 ?_
        exact ⟨rfl, rfl, rfl⟩
      · refine k_aload0 (pc := 10) F dX0_countTones_10 ?_
        refine k_iload1 (pc := 11) F dX0_countTones_11 ?_
        refine k_iload3 (pc := 12) F dX0_countTones_12 ?_
        refine k_callV (pc := 13) (q0 := 1) F (c_X0_toneAt (by omega)) ok_X0_35 rfl rfl rfl rfl rfl (by decide) (by decide) (Nat.le_of_ble_eq_true rfl) dX0_countTones_13 (rI.use ?_)
        refine k_iconst (pc := 16) (v := -1) F dX0_countTones_16 (by decide) ?_
        refine k_icmp_eq (pc := 17) (tgt := 23) F dX0_countTones_17 (by decide) (fun h17 => ?_) (fun h17 => ?_)
        · refine k_iinc3 (pc := 23) F (by decide) dX0_countTones_23 (inc_N _) ?_
          refine k_goto (pc := 26) (tgt := 4) F dX0_countTones_26 (by decide) ?_
          have e : cnT (ar 2) r (p + 1) = cnT (ar 2) r p := if_neg (fun q => q h17)
          have k := ih (p + 1) (by omega) (by omega)
          rw [e] at k
          exact k
        · refine k_iinc2 (pc := 20) F (by decide) dX0_countTones_20 (inc_N _) ?_
          refine k_iinc3 (pc := 23) F (by decide) dX0_countTones_23 (inc_N _) ?_
          refine k_goto (pc := 26) (tgt := 4) F dX0_countTones_26 (by decide) ?_
          have e : cnT (ar 2) r (p + 1) = cnT (ar 2) r p + 1 := if_pos h17
          have k := ih (p + 1) (by omega) (by omega)
          rw [e] at k
          exact k
  exact L4 7 0 (by omega) (by omega)

section AR
variable {l : Launch} {D : va_G} {cI : ClassId} {ad : Nat → Nat} {iv : IV} {ar : AR} {n : Nat} {c : Nat → Nat} {s t : Nat → Int32}
theorem ca_size (hA : Arch n c s t iv ar) : Ct l D cI (cw cI ad) yX0_size cX0_size 1 (some .int) 0 0 [.ref (ad 1)] iv ar (rI (nI n) iv ar) := by
  have h := c_X0_size (l := l) (D := D) (cI := cI) (ad := ad) (iv := iv) (ar := ar)
  rw [hA.1] at h
  exact h
theorem ca_channelOf (hA : Arch n c s t iv ar) {k : Nat} (hk : k < n) : Ct l D cI (cw cI ad) yX0_channelOf cX0_channelOf 2 (some .int) 0 0 [.ref (ad 1), .int (nI k)] iv ar (rI (nI (c k)) iv ar) := by
  have h := c_X0_channelOf (l := l) (D := D) (cI := cI) (ad := ad) (iv := iv) (ar := ar) (k := k) (Nat.lt_of_lt_of_le hk hA.le)
  rw [(hA.2.2.1 k hk).1] at h
  exact h
theorem ca_speakerOf (hA : Arch n c s t iv ar) {k : Nat} (hk : k < n) : Ct l D cI (cw cI ad) yX0_speakerOf cX0_speakerOf 2 (some .int) 0 0 [.ref (ad 1), .int (nI k)] iv ar (rI (s k) iv ar) := by
  have h := c_X0_speakerOf (l := l) (D := D) (cI := cI) (ad := ad) (iv := iv) (ar := ar) (k := k) (Nat.lt_of_lt_of_le hk hA.le)
  rw [hA.2.2.2.1 k hk] at h
  exact h
theorem ca_isKnown (hA : Arch n c s t iv ar) {k : Nat} (hk : k < n) : Ct l D cI (cw cI ad) yX0_isKnown cX0_isKnown 2 (some .boolean) 0 0 [.ref (ad 1), .int (nI k)] iv ar (rI (bI (¬ s k = -1)) iv ar) := by
  have h := c_X0_isKnown (l := l) (D := D) (cI := cI) (ad := ad) (iv := iv) (ar := ar) (k := k) (Nat.lt_of_lt_of_le hk hA.le)
  have e := hA.2.2.2.1 k hk
  have e2 : bI (¬ ar 1 k = -1) = bI (¬ s k = -1) := by simp only [e]
  rw [e2] at h
  exact h
theorem ca_isOfSet (hA : Arch n c s t iv ar) {k : Nat} {x : Int32} (hk : k < n) : Ct l D cI (cw cI ad) yX0_isOfSet cX0_isOfSet 3 (some .boolean) 1 21 [.ref (ad 1), .int (nI k), .int x] iv ar (rI (bI (ofS x (s k))) iv ar) := by
  have h := c_X0_isOfSet (l := l) (D := D) (cI := cI) (ad := ad) (iv := iv) (ar := ar) (k := k) (x := x) (Nat.lt_of_lt_of_le hk hA.le)
  have e := hA.2.2.2.1 k hk
  have e2 : bI (ofS x (ar 1 k)) = bI (ofS x (s k)) := by simp only [e]
  rw [e2] at h
  exact h
theorem ca_toneAt (hA : Arch n c s t iv ar) {k p : Nat} (hk : k < n) (hp : p < 6) : Ct l D cI (cw cI ad) yX0_toneAt cX0_toneAt 3 (some .int) 0 0 [.ref (ad 1), .int (nI k), .int (nI p)] iv ar (rI (t (k * 6 + p)) iv ar) := by
  have hn := hA.le
  have h := c_X0_toneAt (l := l) (D := D) (cI := cI) (ad := ad) (iv := iv) (ar := ar) (r := k) (p := p) (by omega)
  rw [hA.2.2.2.2 (k * 6 + p) (by omega)] at h
  exact h
end AR
set_option maxHeartbeats 4000000 in
theorem c_X6_addPairsOf {l : Launch} {D : va_G} {cI : ClassId} {ad : Nat → Nat} {iv : IV} {ar : AR} {n : Nat} {c : Nat → Nat} {s t : Nat → Int32} (hA : Arch n c s t iv ar) {a p : Nat} (ha : a < n) (hp : p < 6) (z : Nat × Int32) (hz3 : ar 3 (c a * 6 + p) = z.2) (hz4 : ar 4 (c a * 6 + p) = nI z.1) : Ct l D cI (cw cI ad) yX6_addPairsOf cX6_addPairsOf 6 none 1 22 [.ref (ad 2), .int (nI a), .int (nI p)] iv ar (qV (fun iv2 ar2 => iv2 = iv ∧ (∀ k, k ≠ 3 → k ≠ 4 → ar2 k = ar k) ∧ ar2 3 = upd (ar 3) (c a * 6 + p) (inn c s t p a z n).2 ∧ ar2 4 = upd (ar 4) (c a * 6 + p) (nI (inn c s t p a z n).1))) := by
  refine Ct.of (lv := [some (.ref (ad 2)), some (.int (nI a)), some (.int (nI p)), none, none, none]) cw_ok (plainFor_of_name (by decide)) (Nat.le_of_ble_eq_true rfl) 3 rfl rfl (fun Z F => ?_)
  have hn := hA.le
  have hca := hA.lt ha
  refine k_aload0 (pc := 0) F dX6_addPairsOf_0 ?_
  refine g_X6_archive (pc := 1) F dX6_addPairsOf_1 ?_
  refine k_iload1 (pc := 4) F dX6_addPairsOf_4 ?_
  refine k_callV (pc := 5) (q0 := 1) F (ca_channelOf hA (k := a) (by omega)) ok_X6_35 rfl rfl rfl rfl rfl (by decide) (by decide) (Nat.le_of_ble_eq_true rfl) dX6_addPairsOf_5 (rI.use ?_)
  refine k_bipush (pc := 8) (v := nI 6) F dX6_addPairsOf_8 (by decide) ?_
  refine k_imulN (pc := 10) F dX6_addPairsOf_10 ?_
  refine k_iload2 (pc := 11) F dX6_addPairsOf_11 ?_
  refine k_iaddN (pc := 12) F dX6_addPairsOf_12 ?_
  refine k_istore3 (pc := 13) F (by decide) dX6_addPairsOf_13 ?_
  refine k_iconst (pc := 14) (v := nI 0) F dX6_addPairsOf_14 (by decide) ?_
  refine k_istore4 (pc := 15) F (by decide) dX6_addPairsOf_15 ?_
  have L17 : ∀ (fu : Nat) (b : Nat) (ar1 : AR), n - b < fu → b ≤ n → (∀ k, k ≠ 3 → k ≠ 4 → ar1 k = ar k) → ar1 3 = upd (ar 3) (c a * 6 + p) (inn c s t p a z b).2 → ar1 4 = upd (ar 4) (c a * 6 + p) (nI (inn c s t p a z b).1) → Z 17 [some (.ref (ad 2)), some (.int (nI a)), some (.int (nI p)), some (.int (nI (c a * 6 + p))), some (.int (nI b)), none] [] iv ar1 := by
    intro fu
    induction fu with
    | zero => intro b ar1 hfu; exact absurd hfu (Nat.not_lt_zero _)
    | succ fu ih =>
      intro b ar1 hfu hb hfr h3 h4
      have hA1 : Arch n c s t iv ar1 := hA.keep rfl (hfr 0 (by decide) (by decide)) (hfr 1 (by decide) (by decide)) (hfr 2 (by decide) (by decide))
      refine k_iload4 (pc := 17) F dX6_addPairsOf_17 ?_
      refine k_aload0 (pc := 19) F dX6_addPairsOf_19 ?_
      refine g_X6_archive (pc := 20) F dX6_addPairsOf_20 ?_
      refine k_callV (pc := 23) (q0 := 1) F (ca_size hA1) ok_X6_29 rfl rfl rfl rfl rfl (by decide) (by decide) (Nat.le_of_ble_eq_true rfl) dX6_addPairsOf_23 (rI.use ?_)
      refine k_icmp_geN (pc := 26) (tgt := 132) F dX6_addPairsOf_26 (by decide) (by omega) (by omega) (fun h26 => ?_) (fun h26 => ?_)
      · have e : n = b := by omega
        subst e
        refine k_vret (pc := 132) F dX6_addPairsOf_132 ?_
        exact ⟨rfl, rfl, hfr, h3, h4⟩
      · have hcb := hA.lt (show b < n by omega)
        refine k_aload0 (pc := 29) F dX6_addPairsOf_29 ?_
        refine g_X6_archive (pc := 30) F dX6_addPairsOf_30 ?_
        refine k_iload4 (pc := 33) F dX6_addPairsOf_33 ?_
        refine k_callV (pc := 35) (q0 := 1) F (ca_channelOf hA1 (k := b) (by omega)) ok_X6_35 rfl rfl rfl rfl rfl (by decide) (by decide) (Nat.le_of_ble_eq_true rfl) dX6_addPairsOf_35 (rI.use ?_)
        refine k_if_neN (pc := 38) (tgt := 65) F dX6_addPairsOf_38 (by decide) (by omega) (fun h38 => ?_) (fun h38 => ?_)
        · refine k_iconst (pc := 65) (v := nI 0) F dX6_addPairsOf_65 (by decide) ?_
          refine k_istore5 (pc := 66) F (by decide) dX6_addPairsOf_66 ?_
          refine k_iload5 (pc := 68) F dX6_addPairsOf_68 ?_
          refine k_if_eq (pc := 70) (tgt := 126) F dX6_addPairsOf_70 (by decide) (fun _ => ?_) (fun h => absurd h (by decide))
          refine k_iinc4 (pc := 126) F (by decide) dX6_addPairsOf_126 (inc_N _) ?_
          refine k_goto (pc := 129) (tgt := 17) F dX6_addPairsOf_129 (by decide) ?_
          refine k_fg5 (pc := 17) F ?_
          have e : inn c s t p a z (b + 1) = inn c s t p a z b := if_neg (fun q => by first | exact h38 q.1 | exact h58 q.2.1 | exact q.2.2 h84)
          exact ih (b + 1) ar1 (by omega) (by omega) hfr (by rw [e]; exact h3) (by rw [e]; exact h4)
        · refine k_aload0 (pc := 41) F dX6_addPairsOf_41 ?_
          refine g_X6_archive (pc := 42) F dX6_addPairsOf_42 ?_
          refine k_iload4 (pc := 45) F dX6_addPairsOf_45 ?_
          refine k_callV (pc := 47) (q0 := 1) F (ca_speakerOf hA1 (k := b) (by omega)) ok_X6_56 rfl rfl rfl rfl rfl (by decide) (by decide) (Nat.le_of_ble_eq_true rfl) dX6_addPairsOf_47 (rI.use ?_)
          refine k_aload0 (pc := 50) F dX6_addPairsOf_50 ?_
          refine g_X6_archive (pc := 51) F dX6_addPairsOf_51 ?_
          refine k_iload1 (pc := 54) F dX6_addPairsOf_54 ?_
          refine k_callV (pc := 55) (q0 := 1) F (ca_speakerOf hA1 (k := a) (by omega)) ok_X6_56 rfl rfl rfl rfl rfl (by decide) (by decide) (Nat.le_of_ble_eq_true rfl) dX6_addPairsOf_55 (rI.use ?_)
          refine k_icmp_ne (pc := 58) (tgt := 65) F dX6_addPairsOf_58 (by decide) (fun h58 => ?_) (fun h58 => ?_)
          · refine k_iconst (pc := 65) (v := nI 0) F dX6_addPairsOf_65 (by decide) ?_
            refine k_istore5 (pc := 66) F (by decide) dX6_addPairsOf_66 ?_
            refine k_iload5 (pc := 68) F dX6_addPairsOf_68 ?_
            refine k_if_eq (pc := 70) (tgt := 126) F dX6_addPairsOf_70 (by decide) (fun _ => ?_) (fun h => absurd h (by decide))
            refine k_iinc4 (pc := 126) F (by decide) dX6_addPairsOf_126 (inc_N _) ?_
            refine k_goto (pc := 129) (tgt := 17) F dX6_addPairsOf_129 (by decide) ?_
            refine k_fg5 (pc := 17) F ?_
            have e : inn c s t p a z (b + 1) = inn c s t p a z b := if_neg (fun q => by first | exact h38 q.1 | exact h58 q.2.1 | exact q.2.2 h84)
            exact ih (b + 1) ar1 (by omega) (by omega) hfr (by rw [e]; exact h3) (by rw [e]; exact h4)
          · refine k_iconst (pc := 61) (v := nI 1) F dX6_addPairsOf_61 (by decide) ?_
            refine k_goto (pc := 62) (tgt := 66) F dX6_addPairsOf_62 (by decide) ?_
            refine k_istore5 (pc := 66) F (by decide) dX6_addPairsOf_66 ?_
            refine k_iload5 (pc := 68) F dX6_addPairsOf_68 ?_
            refine k_if_eq (pc := 70) (tgt := 126) F dX6_addPairsOf_70 (by decide) (fun h => absurd h (by decide)) (fun _ => ?_)
            refine k_aload0 (pc := 73) F dX6_addPairsOf_73 ?_
            refine g_X6_archive (pc := 74) F dX6_addPairsOf_74 ?_
            refine k_iload4 (pc := 77) F dX6_addPairsOf_77 ?_
            refine k_iload2 (pc := 79) F dX6_addPairsOf_79 ?_
            refine k_callV (pc := 80) (q0 := 1) F (ca_toneAt hA1 (k := b) (p := p) (by omega) (by omega)) ok_X6_43 rfl rfl rfl rfl rfl (by decide) (by decide) (Nat.le_of_ble_eq_true rfl) dX6_addPairsOf_80 (rI.use ?_)
            refine k_iconst (pc := 83) (v := -1) F dX6_addPairsOf_83 (by decide) ?_
            refine k_icmp_eq (pc := 84) (tgt := 126) F dX6_addPairsOf_84 (by decide) (fun h84 => ?_) (fun h84 => ?_)
            · refine k_iinc4 (pc := 126) F (by decide) dX6_addPairsOf_126 (inc_N _) ?_
              refine k_goto (pc := 129) (tgt := 17) F dX6_addPairsOf_129 (by decide) ?_
              refine k_fg5 (pc := 17) F ?_
              have e : inn c s t p a z (b + 1) = inn c s t p a z b := if_neg (fun q => by first | exact h38 q.1 | exact h58 q.2.1 | exact q.2.2 h84)
              exact ih (b + 1) ar1 (by omega) (by omega) hfr (by rw [e]; exact h3) (by rw [e]; exact h4)
            · refine k_aload0 (pc := 87) F dX6_addPairsOf_87 ?_
              refine g_X6_sums (pc := 88) F dX6_addPairsOf_88 ?_
              refine k_iload3 (pc := 91) F dX6_addPairsOf_91 ?_
              refine k_dup2 (pc := 92) F dX6_addPairsOf_92 rfl rfl ?_
              refine l_c3 (pc := 93) F (by omega) (show ar1 3 (c a * 6 + p) = (inn c s t p a z b).2 from by rw [h3]; exact upd_at) dX6_addPairsOf_93 ?_
              refine k_aload0 (pc := 94) F dX6_addPairsOf_94 ?_
              refine g_X6_archive (pc := 95) F dX6_addPairsOf_95 ?_
              refine k_iload1 (pc := 98) F dX6_addPairsOf_98 ?_
              refine k_iload2 (pc := 99) F dX6_addPairsOf_99 ?_
              refine k_callV (pc := 100) (q0 := 1) F (ca_toneAt hA1 (k := a) (p := p) (by omega) (by omega)) ok_X6_43 rfl rfl rfl rfl rfl (by decide) (by decide) (Nat.le_of_ble_eq_true rfl) dX6_addPairsOf_100 (rI.use ?_)
              refine k_aload0 (pc := 103) F dX6_addPairsOf_103 ?_
              refine g_X6_archive (pc := 104) F dX6_addPairsOf_104 ?_
              refine k_iload4 (pc := 107) F dX6_addPairsOf_107 ?_
              refine k_iload2 (pc := 109) F dX6_addPairsOf_109 ?_
              refine k_callV (pc := 110) (q0 := 1) F (ca_toneAt hA1 (k := b) (p := p) (by omega) (by omega)) ok_X6_43 rfl rfl rfl rfl rfl (by decide) (by decide) (Nat.le_of_ble_eq_true rfl) dX6_addPairsOf_110 (rI.use ?_)
              refine k_isub (pc := 113) F dX6_addPairsOf_113 ?_
              refine k_iadd (pc := 114) F dX6_addPairsOf_114 ?_
              refine s_c3 (pc := 115) F (by omega) (rfl) dX6_addPairsOf_115 ?_
              refine k_aload0 (pc := 116) F dX6_addPairsOf_116 ?_
              refine g_X6_pairs (pc := 117) F dX6_addPairsOf_117 ?_
              refine k_iload3 (pc := 120) F dX6_addPairsOf_120 ?_
              refine k_dup2 (pc := 121) F dX6_addPairsOf_121 rfl rfl ?_
              refine l_c4 (pc := 122) F (by omega) ((congrFun ((up_n (by decide)).trans (rfl)) _).trans (show ar1 4 (c a * 6 + p) = nI (inn c s t p a z b).1 from by rw [h4]; exact upd_at)) dX6_addPairsOf_122 ?_
              refine k_iconst (pc := 123) (v := nI 1) F dX6_addPairsOf_123 (by decide) ?_
              refine k_iaddN (pc := 124) F dX6_addPairsOf_124 ?_
              refine s_c4 (pc := 125) F (by omega) ((up_n (by decide)).trans (rfl)) dX6_addPairsOf_125 ?_
              refine k_iinc4 (pc := 126) F (by decide) dX6_addPairsOf_126 (inc_N _) ?_
              refine k_goto (pc := 129) (tgt := 17) F dX6_addPairsOf_129 (by decide) ?_
              refine k_fg5 (pc := 17) F ?_
              have e : inn c s t p a z (b + 1) = (((inn c s t p a z b).1 + 1), (inn c s t p a z b).2 + (t (a * 6 + p) - t (b * 6 + p))) := if_pos ⟨h38, h58, h84⟩
              refine ih (b + 1) _ (by omega) (by omega) (fun k k3 k4 => ?_) ?_ ?_
              · rw [up_n k4, up_n k3]; exact hfr k k3 k4
              · rw [up_n (by decide), up_s, h3, upd_u, e]
              · rw [up_s, h4, upd_u, e]
  exact L17 (n + 1) 0 ar (by omega) (by omega) (fun _ _ _ => rfl) (by show _ = upd (ar 3) (c a * 6 + p) z.2; rw [← hz3, upd_id]) (by show _ = upd (ar 4) (c a * 6 + p) (nI z.1); rw [← hz4, upd_id])

set_option maxHeartbeats 4000000 in
theorem c_X4_between {l : Launch} {D : va_G} {cI : ClassId} {ad : Nat → Nat} {iv : IV} {ar : AR} {n : Nat} {c : Nat → Nat} {s t : Nat → Int32} (hA : Arch n c s t iv ar) {a b : Nat} (ha : a < n) (hb : b < n) : Ct l D cI (cw cI ad) yX4_between cX4_between 10 (some .int) 1 22 [.ref (ad 3), .int (nI a), .int (nI b)] iv ar (rI (sco c t (ar 5) a b) iv ar) := by
  refine Ct.of (lv := [some (.ref (ad 3)), some (.int (nI a)), some (.int (nI b)), none, none, none, none, none, none, none]) cw_ok (plainFor_of_name (by decide)) (Nat.le_of_ble_eq_true rfl) 7 rfl rfl (fun Z F => ?_)
  have hn := hA.le
  have hca := hA.lt ha
  have hcb := hA.lt hb
  refine k_iconst (pc := 0) (v := nI 0) F dX4_between_0 (by decide) ?_
  refine k_istore3 (pc := 1) F (by decide) dX4_between_1 ?_
  refine k_iconst (pc := 2) (v := nI 0) F dX4_between_2 (by decide) ?_
  refine k_istore4 (pc := 3) F (by decide) dX4_between_3 ?_
  refine k_iconst (pc := 5) (v := nI 0) F dX4_between_5 (by decide) ?_
  refine k_istore5 (pc := 6) F (by decide) dX4_between_6 ?_
  have L8 : ∀ (fu : Nat) (p : Nat), 6 - p < fu → p ≤ 6 → Z 8 [some (.ref (ad 3)), some (.int (nI a)), some (.int (nI b)), some (.int (scw c t (ar 5) a b p).2), some (.int (nI (scw c t (ar 5) a b p).1)), some (.int (nI p)), none, none, none, none] [] iv ar := by
    intro fu
    induction fu with
    | zero => intro p hfu; exact absurd hfu (Nat.not_lt_zero _)
    | succ fu ih =>
      intro p hfu hp
      refine k_iload5 (pc := 8) F dX4_between_8 ?_
      refine k_bipush (pc := 10) (v := nI 6) F dX4_between_10 (by decide) ?_
      refine k_icmp_geN (pc := 12) (tgt := 115) F dX4_between_12 (by decide) (by omega) (by omega) (fun h12 => ?_) (fun h12 => ?_)
      · have e : p = 6 := by omega
        subst e
        have hle := scw_le c t (ar 5) a b 6
        refine k_iload4 (pc := 115) F dX4_between_115 ?_
        refine k_iconst (pc := 117) (v := nI 3) F dX4_between_117 (by decide) ?_
        refine k_icmp_geN (pc := 118) (tgt := 125) F dX4_between_118 (by decide) (by omega) (by omega) (fun h118 => ?_) (fun h118 => ?_)
        · refine k_iload3 (pc := 125) F dX4_between_125 ?_
          refine k_bipush (pc := 126) (v := nI 6) F dX4_between_126 (by decide) ?_
          refine k_imul (pc := 128) F dX4_between_128 ?_
          refine k_iload4 (pc := 129) F dX4_between_129 ?_
          refine k_idiv (pc := 131) F dX4_between_131 (nI_ne0 (by omega) (by omega)) ?_
          refine k_iret (pc := 132) F dX4_between_132 ?_
          exact ⟨by first | rw [sco, if_neg (by omega)] | rw [sco, if_pos (by omega)], rfl, rfl⟩
        · refine k_iconst (pc := 121) (v := -1) F dX4_between_121 (by decide) ?_
          refine k_goto (pc := 122) (tgt := 132) F dX4_between_122 (by decide) ?_
          refine k_iret (pc := 132) F dX4_between_132 ?_
          exact ⟨by first | rw [sco, if_neg (by omega)] | rw [sco, if_pos (by omega)], rfl, rfl⟩
      · refine k_aload0 (pc := 15) F dX4_between_15 ?_
        refine g_X4_archive (pc := 16) F dX4_between_16 ?_
        refine k_iload1 (pc := 19) F dX4_between_19 ?_
        refine k_iload5 (pc := 20) F dX4_between_20 ?_
        refine k_callV (pc := 22) (q0 := 1) F (ca_toneAt hA (k := a) (p := p) (by omega) (by omega)) ok_X4_19 rfl rfl rfl rfl rfl (by decide) (by decide) (Nat.le_of_ble_eq_true rfl) dX4_between_22 (rI.use ?_)
        refine k_istore6 (pc := 25) F (by decide) dX4_between_25 ?_
        refine k_aload0 (pc := 27) F dX4_between_27 ?_
        refine g_X4_archive (pc := 28) F dX4_between_28 ?_
        refine k_iload2 (pc := 31) F dX4_between_31 ?_
        refine k_iload5 (pc := 32) F dX4_between_32 ?_
        refine k_callV (pc := 34) (q0 := 1) F (ca_toneAt hA (k := b) (p := p) (by omega) (by omega)) ok_X4_19 rfl rfl rfl rfl rfl (by decide) (by decide) (Nat.le_of_ble_eq_true rfl) dX4_between_34 (rI.use ?_)
        refine k_istore7 (pc := 37) F (by decide) dX4_between_37 ?_
        refine k_iload6 (pc := 39) F dX4_between_39 ?_
        refine k_iconst (pc := 41) (v := -1) F dX4_between_41 (by decide) ?_
        refine k_icmp_eq (pc := 42) (tgt := 109) F dX4_between_42 (by decide) (fun h42 => ?_) (fun h42 => ?_)
        · refine k_iinc5 (pc := 109) F (by decide) dX4_between_109 (inc_N _) ?_
          refine k_goto (pc := 112) (tgt := 8) F dX4_between_112 (by decide) ?_
          refine k_fg6 (pc := 8) F ?_
          refine k_fg7 (pc := 8) F ?_
          have e : scw c t (ar 5) a b (p + 1) = scw c t (ar 5) a b p := if_neg (fun q => by first | exact q.1 h42 | exact q.2 h48)
          have k := ih (p + 1) (by omega) (by omega)
          rw [e] at k
          exact k
        · refine k_iload7 (pc := 45) F dX4_between_45 ?_
          refine k_iconst (pc := 47) (v := -1) F dX4_between_47 (by decide) ?_
          refine k_icmp_eq (pc := 48) (tgt := 109) F dX4_between_48 (by decide) (fun h48 => ?_) (fun h48 => ?_)
          · refine k_iinc5 (pc := 109) F (by decide) dX4_between_109 (inc_N _) ?_
            refine k_goto (pc := 112) (tgt := 8) F dX4_between_112 (by decide) ?_
            refine k_fg6 (pc := 8) F ?_
            refine k_fg7 (pc := 8) F ?_
            have e : scw c t (ar 5) a b (p + 1) = scw c t (ar 5) a b p := if_neg (fun q => by first | exact q.1 h42 | exact q.2 h48)
            have k := ih (p + 1) (by omega) (by omega)
            rw [e] at k
            exact k
          · refine k_iload6 (pc := 51) F dX4_between_51 ?_
            refine k_aload0 (pc := 53) F dX4_between_53 ?_
            refine g_X4_shifts (pc := 54) F dX4_between_54 ?_
            refine k_aload0 (pc := 57) F dX4_between_57 ?_
            refine g_X4_archive (pc := 58) F dX4_between_58 ?_
            refine k_iload1 (pc := 61) F dX4_between_61 ?_
            refine k_callV (pc := 62) (q0 := 1) F (ca_channelOf hA (k := a) (by omega)) ok_X4_25 rfl rfl rfl rfl rfl (by decide) (by decide) (Nat.le_of_ble_eq_true rfl) dX4_between_62 (rI.use ?_)
            refine k_iload5 (pc := 65) F dX4_between_65 ?_
            refine k_callV (pc := 67) (q0 := 2) F (c_X6_at (k := (c a)) (p := p) (by omega)) ok_X4_29 rfl rfl rfl rfl rfl (by decide) (by decide) (Nat.le_of_ble_eq_true rfl) dX4_between_67 (rI.use ?_)
            refine k_isub (pc := 70) F dX4_between_70 ?_
            refine k_istore8 (pc := 71) F (by decide) dX4_between_71 ?_
            refine k_iload7 (pc := 73) F dX4_between_73 ?_
            refine k_aload0 (pc := 75) F dX4_between_75 ?_
            refine g_X4_shifts (pc := 76) F dX4_between_76 ?_
            refine k_aload0 (pc := 79) F dX4_between_79 ?_
            refine g_X4_archive (pc := 80) F dX4_between_80 ?_
            refine k_iload2 (pc := 83) F dX4_between_83 ?_
            refine k_callV (pc := 84) (q0 := 1) F (ca_channelOf hA (k := b) (by omega)) ok_X4_25 rfl rfl rfl rfl rfl (by decide) (by decide) (Nat.le_of_ble_eq_true rfl) dX4_between_84 (rI.use ?_)
            refine k_iload5 (pc := 87) F dX4_between_87 ?_
            refine k_callV (pc := 89) (q0 := 2) F (c_X6_at (k := (c b)) (p := p) (by omega)) ok_X4_29 rfl rfl rfl rfl rfl (by decide) (by decide) (Nat.le_of_ble_eq_true rfl) dX4_between_89 (rI.use ?_)
            refine k_isub (pc := 92) F dX4_between_92 ?_
            refine k_istore9 (pc := 93) F (by decide) dX4_between_93 ?_
            refine k_iload3 (pc := 95) F dX4_between_95 ?_
            refine k_iload8 (pc := 96) F dX4_between_96 ?_
            refine k_iload9 (pc := 98) F dX4_between_98 ?_
            refine k_isub (pc := 100) F dX4_between_100 ?_
            refine k_callS (pc := 101) F (c_J9_abs_0f7a4 cw_ok) ok_X4_34 rfl rfl (by decide) (by decide) (Nat.le_of_ble_eq_true rfl) dX4_between_101 (rI.use ?_)
            refine k_iadd (pc := 104) F dX4_between_104 ?_
            refine k_istore3 (pc := 105) F (by decide) dX4_between_105 ?_
            refine k_iinc4 (pc := 106) F (by decide) dX4_between_106 (inc_N _) ?_
            refine k_iinc5 (pc := 109) F (by decide) dX4_between_109 (inc_N _) ?_
            refine k_goto (pc := 112) (tgt := 8) F dX4_between_112 (by decide) ?_
            refine k_fg6 (pc := 8) F ?_
            refine k_fg7 (pc := 8) F ?_
            refine k_fg8 (pc := 8) F ?_
            refine k_fg9 (pc := 8) F ?_
            have e : scw c t (ar 5) a b (p + 1) = (((scw c t (ar 5) a b p).1 + 1), (scw c t (ar 5) a b p).2 + iabs ((t (a * 6 + p) - ar 5 (c a * 6 + p)) - (t (b * 6 + p) - ar 5 (c b * 6 + p)))) := if_pos ⟨h42, h48⟩
            have k := ih (p + 1) (by omega) (by omega)
            rw [e] at k
            exact k
  exact L8 7 0 (by omega) (by omega)

set_option maxHeartbeats 4000000 in
theorem c_X6_isUnheard {l : Launch} {D : va_G} {cI : ClassId} {ad : Nat → Nat} {iv : IV} {ar : AR} {k p : Nat} (hk : k < 4) (hp : p < 6) : Ct l D cI (cw cI ad) yX6_isUnheard cX6_isUnheard 3 (some .boolean) 0 0 [.ref (ad 2), .int (nI k), .int (nI p)] iv ar (rI (bI (¬ k = 0 ∧ ar 4 (k * 6 + p) = 0)) iv ar) := by
  refine Ct.of (lv := [some (.ref (ad 2)), some (.int (nI k)), some (.int (nI p))]) cw_ok (plainFor_of_name (by decide)) (Nat.le_of_ble_eq_true rfl) 0 rfl rfl (fun Z F => ?_)
  refine k_iload1 (pc := 0) F dX6_isUnheard_0 ?_
  refine k_if_eqN (pc := 1) (tgt := 22) F dX6_isUnheard_1 (by decide) (by omega) (fun h1 => ?_) (fun h1 => ?_)
  · refine k_iconst (pc := 22) (v := nI 0) F dX6_isUnheard_22 (by decide) ?_
    refine k_zret (pc := 23) F dX6_isUnheard_23 (by decide) ?_
    exact ret0 (by first | exact ⟨h1, h15⟩ | exact fun q => q.1 h1 | exact fun q => h15 q.2)
  · refine k_aload0 (pc := 4) F dX6_isUnheard_4 ?_
    refine g_X6_pairs (pc := 5) F dX6_isUnheard_5 ?_
    refine k_iload1 (pc := 8) F dX6_isUnheard_8 ?_
    refine k_bipush (pc := 9) (v := nI 6) F dX6_isUnheard_9 (by decide) ?_
    refine k_imulN (pc := 11) F dX6_isUnheard_11 ?_
    refine k_iload2 (pc := 12) F dX6_isUnheard_12 ?_
    refine k_iaddN (pc := 13) F dX6_isUnheard_13 ?_
    refine l_c4 (pc := 14) F (by omega) rfl dX6_isUnheard_14 ?_
    refine k_if_ne (pc := 15) (tgt := 22) F dX6_isUnheard_15 (by decide) (fun h15 => ?_) (fun h15 => ?_)
    · refine k_iconst (pc := 22) (v := nI 0) F dX6_isUnheard_22 (by decide) ?_
      refine k_zret (pc := 23) F dX6_isUnheard_23 (by decide) ?_
      exact ret0 (by first | exact ⟨h1, h15⟩ | exact fun q => q.1 h1 | exact fun q => h15 q.2)
    · refine k_iconst (pc := 18) (v := nI 1) F dX6_isUnheard_18 (by decide) ?_
      refine k_goto (pc := 19) (tgt := 23) F dX6_isUnheard_19 (by decide) ?_
      refine k_zret (pc := 23) F dX6_isUnheard_23 (by decide) ?_
      exact ret1 (by first | exact ⟨h1, h15⟩ | exact fun q => q.1 h1 | exact fun q => h15 q.2)

set_option maxHeartbeats 4000000 in
theorem c_X6_measure {l : Launch} {D : va_G} {cI : ClassId} {ad : Nat → Nat} {iv : IV} {ar : AR} {n : Nat} {c : Nat → Nat} {s t : Nat → Int32} (hA : Arch n c s t iv ar) {p : Nat} (hp : p < 6) : Ct l D cI (cw cI ad) yX6_measure cX6_measure 4 none 2 47 [.ref (ad 2), .int (nI p)] iv ar (qV (fun iv2 ar2 => iv2 = iv ∧ (∀ k, k ≠ 3 → k ≠ 4 → k ≠ 5 → ar2 k = ar k) ∧ (∀ k, 1 ≤ k → k < 4 → ar2 4 (k * 6 + p) = nI (oun c s t n p k n).1 ∧ ar2 5 (k * 6 + p) = mean (oun c s t n p k n)) ∧ (∀ j, (∀ k, 1 ≤ k → k < 4 → j ≠ k * 6 + p) → ar2 4 j = ar 4 j ∧ ar2 5 j = ar 5 j))) := by
  refine Ct.of (lv := [some (.ref (ad 2)), some (.int (nI p)), none, none]) cw_ok (plainFor_of_name (by decide)) (Nat.le_of_ble_eq_true rfl) 2 rfl rfl (fun Z F => ?_)
  have hn := hA.le
  refine k_iconst (pc := 0) (v := nI 1) F dX6_measure_0 (by decide) ?_
  refine k_istore2 (pc := 1) F (by decide) dX6_measure_1 ?_
  have L2 : ∀ (fu : Nat) (k : Nat) (ar1 : AR), 4 - k < fu → 1 ≤ k → k ≤ 4 → (∀ k, k ≠ 3 → k ≠ 4 → k ≠ 5 → ar1 k = ar k) → (∀ i, 1 ≤ i → i < k → ar1 3 (i * 6 + p) = nI 0 ∧ ar1 4 (i * 6 + p) = nI 0) → (∀ j, (∀ k, 1 ≤ k → k < 4 → j ≠ k * 6 + p) → ar1 4 j = ar 4 j ∧ ar1 5 j = ar 5 j) → Z 2 [some (.ref (ad 2)), some (.int (nI p)), some (.int (nI k)), none] [] iv ar1 := by
    intro fu
    induction fu with
    | zero => intro k ar1 hfu; exact absurd hfu (Nat.not_lt_zero _)
    | succ fu ih =>
      intro k ar1 hfu hk1 hk4 hfr1 hz hno1
      refine k_iload2 (pc := 2) F dX6_measure_2 ?_
      refine k_iconst (pc := 3) (v := nI 4) F dX6_measure_3 (by decide) ?_
      refine k_icmp_geN (pc := 4) (tgt := 37) F dX6_measure_4 (by decide) (by omega) (by omega) (fun h4 => ?_) (fun h4 => ?_)
      · have e : k = 4 := by omega
        subst e
        refine k_iconst (pc := 37) (v := nI 0) F dX6_measure_37 (by decide) ?_
        refine k_istore2 (pc := 38) F (by decide) dX6_measure_38 ?_
        have L39 : ∀ (fu : Nat) (a : Nat) (ar2 : AR), n - a < fu → a ≤ n → (∀ k, k ≠ 3 → k ≠ 4 → k ≠ 5 → ar2 k = ar k) → (∀ k, 1 ≤ k → k < 4 → ar2 3 (k * 6 + p) = (oun c s t n p k a).2 ∧ ar2 4 (k * 6 + p) = nI (oun c s t n p k a).1) → (∀ j, (∀ k, 1 ≤ k → k < 4 → j ≠ k * 6 + p) → ar2 4 j = ar 4 j ∧ ar2 5 j = ar 5 j) → Z 39 [some (.ref (ad 2)), some (.int (nI p)), some (.int (nI a)), none] [] iv ar2 := by
          intro fu
          induction fu with
          | zero => intro a ar2 hfu; exact absurd hfu (Nat.not_lt_zero _)
          | succ fu ih =>
            intro a ar2 hfu han hfr2 hac hno2
            have hA2 : Arch n c s t iv ar2 := hA.keep rfl (hfr2 0 (by decide) (by decide) (by decide)) (hfr2 1 (by decide) (by decide) (by decide)) (hfr2 2 (by decide) (by decide) (by decide))
            refine k_iload2 (pc := 39) F dX6_measure_39 ?_
            refine k_aload0 (pc := 40) F dX6_measure_40 ?_
            refine g_X6_archive (pc := 41) F dX6_measure_41 ?_
            refine k_callV (pc := 44) (q0 := 1) F (ca_size hA2) ok_X6_29 rfl rfl rfl rfl rfl (by decide) (by decide) (Nat.le_of_ble_eq_true rfl) dX6_measure_44 (rI.use ?_)
            refine k_icmp_geN (pc := 47) (tgt := 97) F dX6_measure_47 (by decide) (by omega) (by omega) (fun h47 => ?_) (fun h47 => ?_)
            · have e : n = a := by omega
              subst e
              refine k_iconst (pc := 97) (v := nI 1) F dX6_measure_97 (by decide) ?_
              refine k_istore2 (pc := 98) F (by decide) dX6_measure_98 ?_
              have L99 : ∀ (fu : Nat) (k : Nat) (ar3 : AR), 4 - k < fu → 1 ≤ k → k ≤ 4 → (∀ k, k ≠ 3 → k ≠ 4 → k ≠ 5 → ar3 k = ar k) → (∀ i, 1 ≤ i → i < 4 → ar3 3 (i * 6 + p) = (oun c s t n p i n).2 ∧ ar3 4 (i * 6 + p) = nI (oun c s t n p i n).1) → (∀ i, 1 ≤ i → i < k → ar3 5 (i * 6 + p) = mean (oun c s t n p i n)) → (∀ j, (∀ k, 1 ≤ k → k < 4 → j ≠ k * 6 + p) → ar3 4 j = ar 4 j ∧ ar3 5 j = ar 5 j) → Z 99 [some (.ref (ad 2)), some (.int (nI p)), some (.int (nI k)), none] [] iv ar3 := by
                intro fu
                induction fu with
                | zero => intro k ar3 hfu; exact absurd hfu (Nat.not_lt_zero _)
                | succ fu ih =>
                  intro k ar3 hfu hk1 hk4 hfr3 hac3 hm3 hno3
                  refine k_iload2 (pc := 99) F dX6_measure_99 ?_
                  refine k_iconst (pc := 100) (v := nI 4) F dX6_measure_100 (by decide) ?_
                  refine k_icmp_geN (pc := 101) (tgt := 151) F dX6_measure_101 (by decide) (by omega) (by omega) (fun h101 => ?_) (fun h101 => ?_)
                  · have e : k = 4 := by omega
                    subst e
                    refine k_vret (pc := 151) F dX6_measure_151 ?_
                    exact ⟨rfl, rfl, hfr3, fun k k1 k2 => ⟨(hac3 k k1 k2).2, hm3 k k1 k2⟩, hno3⟩
                  · have hol := oun_le c s t n p k n
                    have hnn : n * n ≤ 30 * 30 := Nat.mul_le_mul hn hn
                    refine k_iload2 (pc := 104) F dX6_measure_104 ?_
                    refine k_bipush (pc := 105) (v := nI 6) F dX6_measure_105 (by decide) ?_
                    refine k_imulN (pc := 107) F dX6_measure_107 ?_
                    refine k_iload1 (pc := 108) F dX6_measure_108 ?_
                    refine k_iaddN (pc := 109) F dX6_measure_109 ?_
                    refine k_istore3 (pc := 110) F (by decide) dX6_measure_110 ?_
                    refine k_aload0 (pc := 111) F dX6_measure_111 ?_
                    refine g_X6_means (pc := 112) F dX6_measure_112 ?_
                    refine k_iload3 (pc := 115) F dX6_measure_115 ?_
                    refine k_aload0 (pc := 116) F dX6_measure_116 ?_
                    refine g_X6_pairs (pc := 117) F dX6_measure_117 ?_
                    refine k_iload3 (pc := 120) F dX6_measure_120 ?_
                    refine l_c4 (pc := 121) F (by omega) ((hac3 k hk1 (by omega)).2) dX6_measure_121 ?_
                    refine k_if_neN (pc := 122) (tgt := 129) F dX6_measure_122 (by decide) (by omega) (fun h122 => ?_) (fun h122 => ?_)
                    · refine k_aload0 (pc := 129) F dX6_measure_129 ?_
                      refine g_X6_sums (pc := 130) F dX6_measure_130 ?_
                      refine k_iload3 (pc := 133) F dX6_measure_133 ?_
                      refine l_c3 (pc := 134) F (by omega) ((hac3 k hk1 (by omega)).1) dX6_measure_134 ?_
                      refine k_aload0 (pc := 135) F dX6_measure_135 ?_
                      refine g_X6_pairs (pc := 136) F dX6_measure_136 ?_
                      refine k_iload3 (pc := 139) F dX6_measure_139 ?_
                      refine l_c4 (pc := 140) F (by omega) ((hac3 k hk1 (by omega)).2) dX6_measure_140 ?_
                      refine k_callS (pc := 141) F (c_J9_floorDiv_7cf53 cw_ok (nI_ne0 (by omega) (by omega))) ok_X6_51 rfl rfl (by decide) (by decide) (Nat.le_of_ble_eq_true rfl) dX6_measure_141 (rI.use ?_)
                      refine s_c5 (pc := 144) F (by omega) (rfl) dX6_measure_144 ?_
                      refine k_iinc2 (pc := 145) F (by decide) dX6_measure_145 (inc_N _) ?_
                      refine k_goto (pc := 148) (tgt := 99) F dX6_measure_148 (by decide) ?_
                      refine k_fg3 (pc := 99) F ?_
                      refine ih (k + 1) _ (by omega) (by omega) (by omega) (fun q k3 k4 k5 => ?_) (fun i h1 h2 => ?_) (fun i h1 h2 => ?_) (fun j hj => ?_)
                      · rw [up_n k5]; exact hfr3 q k3 k4 k5
                      · rw [up_n (by decide : (3 : Nat) ≠ 5), up_n (by decide : (4 : Nat) ≠ 5)]; exact hac3 i h1 h2
                      · rw [up_s]
                        rcases Decidable.em (i = k) with e | e
                        · subst e
                          rw [upd_at, mean]
                          first | rw [if_pos h122]; rfl | rw [if_neg h122]
                        · rw [upd_ne (by omega)]; exact hm3 i h1 (by omega)
                      · rw [up_n (by decide : (4 : Nat) ≠ 5), up_s, upd_ne (hj k hk1 (by omega))]; exact hno3 j hj
                    · refine k_iconst (pc := 125) (v := nI 0) F dX6_measure_125 (by decide) ?_
                      refine k_goto (pc := 126) (tgt := 144) F dX6_measure_126 (by decide) ?_
                      refine s_c5 (pc := 144) F (by omega) (rfl) dX6_measure_144 ?_
                      refine k_iinc2 (pc := 145) F (by decide) dX6_measure_145 (inc_N _) ?_
                      refine k_goto (pc := 148) (tgt := 99) F dX6_measure_148 (by decide) ?_
                      refine k_fg3 (pc := 99) F ?_
                      refine ih (k + 1) _ (by omega) (by omega) (by omega) (fun q k3 k4 k5 => ?_) (fun i h1 h2 => ?_) (fun i h1 h2 => ?_) (fun j hj => ?_)
                      · rw [up_n k5]; exact hfr3 q k3 k4 k5
                      · rw [up_n (by decide : (3 : Nat) ≠ 5), up_n (by decide : (4 : Nat) ≠ 5)]; exact hac3 i h1 h2
                      · rw [up_s]
                        rcases Decidable.em (i = k) with e | e
                        · subst e
                          rw [upd_at, mean]
                          first | rw [if_pos h122]; rfl | rw [if_neg h122]
                        · rw [upd_ne (by omega)]; exact hm3 i h1 (by omega)
                      · rw [up_n (by decide : (4 : Nat) ≠ 5), up_s, upd_ne (hj k hk1 (by omega))]; exact hno3 j hj
              exact L99 4 1 ar2 (by omega) (by omega) (by omega) hfr2 hac (fun i h1 h2 => by omega) hno2
            · have hca := hA.lt (show a < n by omega)
              refine k_aload0 (pc := 50) F dX6_measure_50 ?_
              refine g_X6_archive (pc := 51) F dX6_measure_51 ?_
              refine k_iload2 (pc := 54) F dX6_measure_54 ?_
              refine k_callV (pc := 55) (q0 := 1) F (ca_channelOf hA2 (k := a) (by omega)) ok_X6_35 rfl rfl rfl rfl rfl (by decide) (by decide) (Nat.le_of_ble_eq_true rfl) dX6_measure_55 (rI.use ?_)
              refine k_if_eqN (pc := 58) (tgt := 91) F dX6_measure_58 (by decide) (by omega) (fun h58 => ?_) (fun h58 => ?_)
              · refine k_iinc2 (pc := 91) F (by decide) dX6_measure_91 (inc_N _) ?_
                refine k_goto (pc := 94) (tgt := 39) F dX6_measure_94 (by decide) ?_
                refine ih (a + 1) ar2 (by omega) (by omega) hfr2 (fun k k1 k2 => ?_) hno2
                have e2 : oun c s t n p k (a + 1) = oun c s t n p k a := if_neg (fun q => by first | exact absurd (q.1.symm.trans h58) (by omega) | exact h69 q.2.1 | exact q.2.2 h82)
                rw [e2]
                exact hac k k1 k2
              · refine k_aload0 (pc := 61) F dX6_measure_61 ?_
                refine g_X6_archive (pc := 62) F dX6_measure_62 ?_
                refine k_iload2 (pc := 65) F dX6_measure_65 ?_
                refine k_callV (pc := 66) (q0 := 1) F (ca_isKnown hA2 (k := a) (by omega)) ok_X6_39 rfl rfl rfl rfl rfl (by decide) (by decide) (Nat.le_of_ble_eq_true rfl) dX6_measure_66 (rI.use ?_)
                refine k_if_eqB (pc := 69) (tgt := 91) F dX6_measure_69 (by decide) (fun h69 => ?_) (fun h69 => ?_)
                · refine k_iinc2 (pc := 91) F (by decide) dX6_measure_91 (inc_N _) ?_
                  refine k_goto (pc := 94) (tgt := 39) F dX6_measure_94 (by decide) ?_
                  refine ih (a + 1) ar2 (by omega) (by omega) hfr2 (fun k k1 k2 => ?_) hno2
                  have e2 : oun c s t n p k (a + 1) = oun c s t n p k a := if_neg (fun q => by first | exact absurd (q.1.symm.trans h58) (by omega) | exact h69 q.2.1 | exact q.2.2 h82)
                  rw [e2]
                  exact hac k k1 k2
                · refine k_aload0 (pc := 72) F dX6_measure_72 ?_
                  refine g_X6_archive (pc := 73) F dX6_measure_73 ?_
                  refine k_iload2 (pc := 76) F dX6_measure_76 ?_
                  refine k_iload1 (pc := 77) F dX6_measure_77 ?_
                  refine k_callV (pc := 78) (q0 := 1) F (ca_toneAt hA2 (k := a) (p := p) (by omega) (by omega)) ok_X6_43 rfl rfl rfl rfl rfl (by decide) (by decide) (Nat.le_of_ble_eq_true rfl) dX6_measure_78 (rI.use ?_)
                  refine k_iconst (pc := 81) (v := -1) F dX6_measure_81 (by decide) ?_
                  refine k_icmp_eq (pc := 82) (tgt := 91) F dX6_measure_82 (by decide) (fun h82 => ?_) (fun h82 => ?_)
                  · refine k_iinc2 (pc := 91) F (by decide) dX6_measure_91 (inc_N _) ?_
                    refine k_goto (pc := 94) (tgt := 39) F dX6_measure_94 (by decide) ?_
                    refine ih (a + 1) ar2 (by omega) (by omega) hfr2 (fun k k1 k2 => ?_) hno2
                    have e2 : oun c s t n p k (a + 1) = oun c s t n p k a := if_neg (fun q => by first | exact absurd (q.1.symm.trans h58) (by omega) | exact h69 q.2.1 | exact q.2.2 h82)
                    rw [e2]
                    exact hac k k1 k2
                  · refine k_aload0 (pc := 85) F dX6_measure_85 ?_
                    refine k_iload2 (pc := 86) F dX6_measure_86 ?_
                    refine k_iload1 (pc := 87) F dX6_measure_87 ?_
                    refine k_callV (pc := 88) (q0 := 2) F (c_X6_addPairsOf hA2 (by omega) hp (oun c s t n p (c a) a) (hac (c a) (by omega) hca).1 (hac (c a) (by omega) hca).2) ok_X6_47 rfl rfl rfl rfl rfl (by decide) (by decide) (Nat.le_of_ble_eq_true rfl) dX6_measure_88 (qV.use (fun iv88 ar88 h88 => ?_))
                    obtain ⟨rfl, f3, g3, g4⟩ := h88
                    refine k_iinc2 (pc := 91) F (by decide) dX6_measure_91 (inc_N _) ?_
                    refine k_goto (pc := 94) (tgt := 39) F dX6_measure_94 (by decide) ?_
                    refine ih (a + 1) _ (by omega) (by omega) (fun q k3 k4 k5 => ?_) (fun k k1 k2 => ?_) (fun j hj => ?_)
                    · rw [f3 q k3 k4]; exact hfr2 q k3 k4 k5
                    · rw [g3, g4]
                      rcases Decidable.em (c a = k) with e | e
                      · subst e
                        have e2 : oun c s t n p (c a) (a + 1) = inn c s t p a (oun c s t n p (c a) a) n := if_pos ⟨rfl, h69, h82⟩
                        rw [upd_at, upd_at, e2]
                        exact ⟨rfl, rfl⟩
                      · have e2 : oun c s t n p k (a + 1) = oun c s t n p k a := if_neg (fun q => e q.1)
                        rw [upd_ne (by omega), upd_ne (by omega), e2]
                        exact hac k k1 k2
                    · rw [g4, f3 5 (by decide) (by decide), upd_ne (hj (c a) (by omega) hca)]
                      exact hno2 j hj
        exact L39 (n + 1) 0 ar1 (by omega) (by omega) hfr1 (fun i h1 h2 => hz i h1 (by omega)) hno1
      · refine k_aload0 (pc := 7) F dX6_measure_7 ?_
        refine g_X6_sums (pc := 8) F dX6_measure_8 ?_
        refine k_iload2 (pc := 11) F dX6_measure_11 ?_
        refine k_bipush (pc := 12) (v := nI 6) F dX6_measure_12 (by decide) ?_
        refine k_imulN (pc := 14) F dX6_measure_14 ?_
        refine k_iload1 (pc := 15) F dX6_measure_15 ?_
        refine k_iaddN (pc := 16) F dX6_measure_16 ?_
        refine k_iconst (pc := 17) (v := nI 0) F dX6_measure_17 (by decide) ?_
        refine s_c3 (pc := 18) F (by omega) (rfl) dX6_measure_18 ?_
        refine k_aload0 (pc := 19) F dX6_measure_19 ?_
        refine g_X6_pairs (pc := 20) F dX6_measure_20 ?_
        refine k_iload2 (pc := 23) F dX6_measure_23 ?_
        refine k_bipush (pc := 24) (v := nI 6) F dX6_measure_24 (by decide) ?_
        refine k_imulN (pc := 26) F dX6_measure_26 ?_
        refine k_iload1 (pc := 27) F dX6_measure_27 ?_
        refine k_iaddN (pc := 28) F dX6_measure_28 ?_
        refine k_iconst (pc := 29) (v := nI 0) F dX6_measure_29 (by decide) ?_
        refine s_c4 (pc := 30) F (by omega) ((up_n (by decide)).trans (rfl)) dX6_measure_30 ?_
        refine k_iinc2 (pc := 31) F (by decide) dX6_measure_31 (inc_N _) ?_
        refine k_goto (pc := 34) (tgt := 2) F dX6_measure_34 (by decide) ?_
        refine ih (k + 1) _ (by omega) (by omega) (by omega) (fun q k3 k4 k5 => ?_) (fun i h1 h2 => ?_) (fun j hj => ?_)
        · rw [up_n k4, up_n k3]; exact hfr1 q k3 k4 k5
        · rw [up_n (by decide : (3 : Nat) ≠ 4), up_s, up_s]
          rcases Decidable.em (i = k) with e | e
          · subst e; exact ⟨upd_at, upd_at⟩
          · rw [upd_ne (by omega), upd_ne (by omega)]; exact hz i h1 (by omega)
        · rw [up_s, up_n (by decide : (5 : Nat) ≠ 4), up_n (by decide : (5 : Nat) ≠ 3), upd_ne (hj k hk1 (by omega))]; exact hno1 j hj
  exact L2 4 1 ar (by omega) (by omega) (by omega) (fun _ _ _ _ => rfl) (fun i h1 h2 => by omega) (fun _ _ => ⟨rfl, rfl⟩)

set_option maxHeartbeats 4000000 in
theorem c_X6_measureAll {l : Launch} {D : va_G} {cI : ClassId} {ad : Nat → Nat} {iv : IV} {ar : AR} {n : Nat} {c : Nat → Nat} {s t : Nat → Int32} (hA : Arch n c s t iv ar) : Ct l D cI (cw cI ad) yX6_measureAll cX6_measureAll 2 none 3 70 [.ref (ad 2)] iv ar (qV (fun iv2 ar2 => iv2 = iv ∧ (∀ k, k ≠ 3 → k ≠ 4 → k ≠ 5 → ar2 k = ar k) ∧ (∀ p, p < 6 → ∀ k, 1 ≤ k → k < 4 → ar2 4 (k * 6 + p) = nI (oun c s t n p k n).1 ∧ ar2 5 (k * 6 + p) = mean (oun c s t n p k n)) ∧ (∀ p, p < 6 → ar2 5 p = ar 5 p))) := by
  refine Ct.of (lv := [some (.ref (ad 2)), none]) cw_ok (plainFor_of_name (by decide)) (Nat.le_of_ble_eq_true rfl) 1 rfl rfl (fun Z F => ?_)
  refine k_iconst (pc := 0) (v := nI 0) F dX6_measureAll_0 (by decide) ?_
  refine k_istore1 (pc := 1) F (by decide) dX6_measureAll_1 ?_
  have L2 : ∀ (fu : Nat) (q : Nat) (ar1 : AR), 6 - q < fu → q ≤ 6 → (∀ k, k ≠ 3 → k ≠ 4 → k ≠ 5 → ar1 k = ar k) → (∀ p, p < q → ∀ k, 1 ≤ k → k < 4 → ar1 4 (k * 6 + p) = nI (oun c s t n p k n).1 ∧ ar1 5 (k * 6 + p) = mean (oun c s t n p k n)) → (∀ p, p < 6 → ar1 5 p = ar 5 p) → Z 2 [some (.ref (ad 2)), some (.int (nI q))] [] iv ar1 := by
    intro fu
    induction fu with
    | zero => intro q ar1 hfu; exact absurd hfu (Nat.not_lt_zero _)
    | succ fu ih =>
      intro q ar1 hfu hq hfr1 hac h0
      have hA1 : Arch n c s t iv ar1 := hA.keep rfl (hfr1 0 (by decide) (by decide) (by decide)) (hfr1 1 (by decide) (by decide) (by decide)) (hfr1 2 (by decide) (by decide) (by decide))
      refine k_iload1 (pc := 2) F dX6_measureAll_2 ?_
      refine k_bipush (pc := 3) (v := nI 6) F dX6_measureAll_3 (by decide) ?_
      refine k_icmp_geN (pc := 5) (tgt := 19) F dX6_measureAll_5 (by decide) (by omega) (by omega) (fun h5 => ?_) (fun h5 => ?_)
      · have e : q = 6 := by omega
        subst e
        refine k_vret (pc := 19) F dX6_measureAll_19 ?_
        exact ⟨rfl, rfl, hfr1, hac, h0⟩
      · refine k_aload0 (pc := 8) F dX6_measureAll_8 ?_
        refine k_iload1 (pc := 9) F dX6_measureAll_9 ?_
        refine k_callV (pc := 10) (q0 := 2) F (c_X6_measure hA1 (by omega)) ok_X6_25 rfl rfl rfl rfl rfl (by decide) (by decide) (Nat.le_of_ble_eq_true rfl) dX6_measureAll_10 (qV.use (fun iv10 ar10 h10 => ?_))
        obtain ⟨rfl, g1, g2, g3⟩ := h10
        refine k_iinc1 (pc := 13) F (by decide) dX6_measureAll_13 (inc_N _) ?_
        refine k_goto (pc := 16) (tgt := 2) F dX6_measureAll_16 (by decide) ?_
        refine ih (q + 1) _ (by omega) (by omega) (fun k k3 k4 k5 => ?_) (fun p hpq k k1 k2 => ?_) (fun p hp => ?_)
        · rw [g1 k k3 k4 k5]; exact hfr1 k k3 k4 k5
        · rcases Decidable.em (p = q) with e | e
          · subst e; exact g2 k k1 k2
          · have z := g3 (k * 6 + p) (fun i i1 i2 => by omega)
            rw [z.1, z.2]; exact hac p (by omega) k k1 k2
        · rw [(g3 p (fun i i1 i2 => by omega)).2]; exact h0 p hp
  exact L2 7 0 ar (by omega) (by omega) (fun _ _ _ _ => rfl) (fun p h => by omega) (fun _ _ => rfl)

