/-- the PAIRS in the class's rows -/
def PB (w : WT) (iv : IV) (ar : AR) : Prop := (∀ k, k < 10 → ar 6 k = nI (w.1 k)) ∧ (∀ k, k < 10 → ar 7 k = nI (w.2 k)) ∧ iv 5 = nI (smN w.1 10) ∧ iv 6 = nI (smN w.2 10)
/-- the BLOCKS in the class's rows -/
def BB (b : BT) (iv : IV) (ar : AR) : Prop := iv 4 = nI (bm b) ∧ ∀ i, i < bm b → ar 8 i = nI (bf b i) ∧ ar 9 i = nI (bl b i) ∧ ar 10 i = nI (bs b i) ∧ ar 11 i = nI (bo b i)
abbrev Sc (c : Nat → Nat) (t m : Nat → Int32) : Nat → Nat → Int32 := fun a b => sco c t m a b
theorem okSc.get {x : Int32} (h : okSc x) (hne : ¬ x = -1) : ∃ v : Nat, v ≤ 1782 ∧ x = nI v := h.elim (fun q => absurd q hne) id
theorem row4_8 {ar1 : AR} {a b c d : Nat → Int32} : va_up (va_up (va_up (va_up ar1 8 a) 9 b) 10 c) 11 d 8 = a := rfl
theorem row4_9 {ar1 : AR} {a b c d : Nat → Int32} : va_up (va_up (va_up (va_up ar1 8 a) 9 b) 10 c) 11 d 9 = b := rfl
theorem row4_10 {ar1 : AR} {a b c d : Nat → Int32} : va_up (va_up (va_up (va_up ar1 8 a) 9 b) 10 c) 11 d 10 = c := rfl
theorem row4_11 {ar1 : AR} {a b c d : Nat → Int32} : va_up (va_up (va_up (va_up ar1 8 a) 9 b) 10 c) 11 d 11 = d := rfl
theorem row3_8 {ar1 : AR} {b c d : Nat → Int32} : va_up (va_up (va_up ar1 9 b) 10 c) 11 d 8 = ar1 8 := rfl
theorem row3_9 {ar1 : AR} {b c d : Nat → Int32} : va_up (va_up (va_up ar1 9 b) 10 c) 11 d 9 = b := rfl
theorem row3_10 {ar1 : AR} {b c d : Nat → Int32} : va_up (va_up (va_up ar1 9 b) 10 c) 11 d 10 = c := rfl
theorem row3_11 {ar1 : AR} {b c d : Nat → Int32} : va_up (va_up (va_up ar1 9 b) 10 c) 11 d 11 = d := rfl
theorem mkB_bl (w : WT) : ∀ k i, i < bm (mkB w k) → bl (mkB w k) i < k
  | 0, i, h => absurd h (Nat.not_lt_zero i)
  | k + 1, i, h => by
    have ih := mkB_bl w k i
    rw [mkB] at h ⊢
    split at h
    · next q => rw [if_pos q]; have := ih h; omega
    · next q =>
      rw [if_neg q]
      show va_up (bl (mkB w k)) (bm (mkB w k)) k i < k + 1
      have h2 : i < bm (mkB w k) + 1 := h
      by_cases e : i = bm (mkB w k)
      · rw [e, up_s]; omega
      · rw [up_n e]; have := ih (by omega); omega
theorem bfin_bl : ∀ (f : Nat) (b : BT), (∀ i, i < bm b → bl b i < 10) → ∀ i, i < bm (bfin f b) → bl (bfin f b) i < 10
  | 0, b, h => h
  | f + 1, b, h => by
    cases hq : foB b with
    | none => rw [bfin_n hq]; exact h
    | some i =>
      rw [bfin_s hq]
      refine bfin_bl f (mrg b i) (fun j hj => ?_)
      have hj2 : j < bm b - 1 := hj
      show (if j < i then bl b j else bl b (j + 1)) < 10
      split
      · exact h j (by omega)
      · exact h (j + 1) (by omega)
theorem blk_bl (w : WT) : ∀ i, i < bm (blk w) → bl (blk w) i < 10 := bfin_bl 10 _ (mkB_bl w 10)
set_option maxHeartbeats 4000000 in
theorem c_J7_fill_53178 {l : Launch} {D : va_G} {cI : ClassId} {wf : WF} {iv : IV} {ar : AR} (hwf : wfOk wf) {q0 a j N : Nat} {x : Int32} (he : ∀ ar, (wf iv ar)[q0]? = some (a, .inl (cI, N, .inl (ar j)))) (hset : ∀ ar n x, (wf iv ar).set q0 (a, .inl (cI, N, .inl (upd (ar j) n x))) = wf iv (va_up ar j (upd (ar j) n x))) (hN : N < 2 ^ 31) : Ct l D cI wf yJ7_fill_53178 cJ7_fill_53178 4 none 0 0 [.ref a, .int x] iv ar (qV (fun iv2 ar2 => iv2 = iv ∧ (∀ k, k ≠ j → ar2 k = ar k) ∧ ∀ n, n < N → ar2 j n = x)) := by
  refine Ct.of (lv := [some (.ref a), some (.int x), none, none]) hwf (by decide +kernel) (Nat.le_of_ble_eq_true rfl) 2 rfl rfl (fun Z F => ?_)
  refine k_iconst (pc := 0) (v := nI 0) F dJ7_fill_53178_0 (by decide) ?_
  refine k_istore2 (pc := 1) F (by decide) dJ7_fill_53178_1 ?_
  refine k_aload0 (pc := 2) F dJ7_fill_53178_2 ?_
  refine k_alen (pc := 3) F (he _) dJ7_fill_53178_3 ?_
  refine k_istore3 (pc := 4) F (by decide) dJ7_fill_53178_4 ?_
  have L5 : ∀ (fu : Nat) (i : Nat) (ar1 : AR), N - i < fu → i ≤ N → (∀ k, k ≠ j → ar1 k = ar k) → (∀ n, n < i → ar1 j n = x) → Z 5 [some (.ref a), some (.int x), some (.int (nI i)), some (.int (nI N))] [] iv ar1 := by
    intro fu
    induction fu with
    | zero => intro i ar1 hfu; exact absurd hfu (Nat.not_lt_zero _)
    | succ fu ih =>
      intro i ar1 hfu hi hfr hx
      refine k_iload2 (pc := 5) F dJ7_fill_53178_5 ?_
      refine k_iload3 (pc := 6) F dJ7_fill_53178_6 ?_
      refine k_icmp_geN (pc := 7) (tgt := 20) F dJ7_fill_53178_7 (by decide) (by omega) (by omega) (fun h7 => ?_) (fun h7 => ?_)
      · refine k_vret (pc := 20) F dJ7_fill_53178_20 ?_
        exact ⟨rfl, rfl, hfr, fun n hn => hx n (by omega)⟩
      · refine k_aload0 (pc := 10) F dJ7_fill_53178_10 ?_
        refine k_iload2 (pc := 11) F dJ7_fill_53178_11 ?_
        refine k_iload1 (pc := 12) F dJ7_fill_53178_12 ?_
        refine k_ast (pc := 13) F (he _) hN (hset _ _ _) (by omega) dJ7_fill_53178_13 ?_
        refine k_iinc2 (pc := 14) F (by decide) dJ7_fill_53178_14 (inc_N _) ?_
        refine k_goto (pc := 17) (tgt := 5) F dJ7_fill_53178_17 (by decide) ?_
        refine ih (i + 1) _ (by omega) (by omega) (fun k hk => ?_) (fun n hn => ?_)
        · rw [up_n hk]; exact hfr k hk
        · rw [up_s]
          by_cases e : n = i
          · subst e; exact upd_at
          · rw [upd_ne e]; exact hx n (by omega)
  exact L5 (N + 1) 0 ar (by omega) (by omega) (fun _ _ => rfl) (fun n h => by omega)

set_option maxHeartbeats 4000000 in
theorem c_X3_countPair {l : Launch} {D : va_G} {cI : ClassId} {ad : Nat → Nat} {iv : IV} {ar : AR} {n : Nat} {c : Nat → Nat} {s t : Nat → Int32} (hA : Arch n c s t iv ar) (hT : okT n t) (hM : okM (ar 5)) {a b : Nat} (ha : a < n) (hb : b < n) (w : WT) (hP : PB w iv ar) : Ct l D cI (cw cI ad) yX3_countPair cX3_countPair 4 none 2 51 [.ref (ad 4), .int (nI a), .int (nI b)] iv ar (qV (fun iv2 ar2 => (∀ k, k ≠ 5 → k ≠ 6 → iv2 k = iv k) ∧ (∀ k, k ≠ 6 → k ≠ 7 → ar2 k = ar k) ∧ PB (cp1 (Sc c t (ar 5)) s a b w) iv2 ar2)) := by
  refine Ct.of (lv := [some (.ref (ad 4)), some (.int (nI a)), some (.int (nI b)), none]) cw_ok (plainFor_of_name (by decide)) (Nat.le_of_ble_eq_true rfl) 1 rfl rfl (fun Z F => ?_)
  have hn := hA.le
  obtain ⟨p1, p2, p3, p4⟩ := hP
  have hsc := sco_B hT hM ha hb (hA.lt ha) (hA.lt hb)
  refine k_aload0 (pc := 0) F dX3_countPair_0 ?_
  refine g_X3_scores (pc := 1) F dX3_countPair_1 ?_
  refine k_iload1 (pc := 4) F dX3_countPair_4 ?_
  refine k_iload2 (pc := 5) F dX3_countPair_5 ?_
  refine k_callV (pc := 6) (q0 := 3) F (c_X4_between hA (a := a) (b := b) (by omega) (by omega)) ok_X3_78 rfl rfl rfl rfl rfl (by decide) (by decide) (Nat.le_of_ble_eq_true rfl) dX3_countPair_6 (rI.use ?_)
  refine k_istore3 (pc := 9) F (by decide) dX3_countPair_9 ?_
  refine k_iload3 (pc := 10) F dX3_countPair_10 ?_
  refine k_iconst (pc := 11) (v := -1) F dX3_countPair_11 (by decide) ?_
  refine k_icmp_ne (pc := 12) (tgt := 16) F dX3_countPair_12 (by decide) (fun h12 => ?_) (fun h12 => ?_)
  · obtain ⟨v, hv, e⟩ := hsc.get h12
    have hbv := bnd_lt v
    have eb : bS (sco c t (ar 5) a b) = bnd v := by rw [e]; exact bS_nI (by omega)
    rw [e]
    refine k_aload0 (pc := 16) F dX3_countPair_16 ?_
    refine g_X3_archive (pc := 17) F dX3_countPair_17 ?_
    refine k_iload1 (pc := 20) F dX3_countPair_20 ?_
    refine k_callV (pc := 21) (q0 := 1) F (ca_speakerOf hA (k := a) (by omega)) ok_X3_84 rfl rfl rfl rfl rfl (by decide) (by decide) (Nat.le_of_ble_eq_true rfl) dX3_countPair_21 (rI.use ?_)
    refine k_aload0 (pc := 24) F dX3_countPair_24 ?_
    refine g_X3_archive (pc := 25) F dX3_countPair_25 ?_
    refine k_iload2 (pc := 28) F dX3_countPair_28 ?_
    refine k_callV (pc := 29) (q0 := 1) F (ca_speakerOf hA (k := b) (by omega)) ok_X3_84 rfl rfl rfl rfl rfl (by decide) (by decide) (Nat.le_of_ble_eq_true rfl) dX3_countPair_29 (rI.use ?_)
    refine k_icmp_ne (pc := 32) (tgt := 61) F dX3_countPair_32 (by decide) (fun h32 => ?_) (fun h32 => ?_)
    · refine k_aload0 (pc := 61) F dX3_countPair_61 ?_
      refine g_X3_bandOther (pc := 62) F dX3_countPair_62 ?_
      refine k_iload3 (pc := 65) F dX3_countPair_65 ?_
      refine k_callSN (pc := 66) F (c_X7_bandOf cw_ok (v := v) (by omega)) ok_X3_88 rfl rfl (by decide) (by decide) (Nat.le_of_ble_eq_true rfl) dX3_countPair_66 (rI.use ?_)
      refine k_dup2 (pc := 69) F dX3_countPair_69 rfl rfl ?_
      refine l_c7 (pc := 70) F (by omega) (p2 (bnd v) hbv) dX3_countPair_70 ?_
      refine k_iconst (pc := 71) (v := nI 1) F dX3_countPair_71 (by decide) ?_
      refine k_iaddN (pc := 72) F dX3_countPair_72 ?_
      refine s_c7 (pc := 73) F (by omega) (rfl) dX3_countPair_73 ?_
      refine k_aload0 (pc := 74) F dX3_countPair_74 ?_
      refine k_dup (pc := 75) F dX3_countPair_75 rfl ?_
      refine g_X3_sumOther (pc := 76) F (p4) dX3_countPair_76 ?_
      refine k_iconst (pc := 79) (v := nI 1) F dX3_countPair_79 (by decide) ?_
      refine k_iaddN (pc := 80) F dX3_countPair_80 ?_
      refine p_X3_sumOther (pc := 81) F dX3_countPair_81 ?_
      refine k_vret (pc := 84) F dX3_countPair_84 ?_
      have e1 : cp1 (Sc c t (ar 5)) s a b w = (w.1, va_up w.2 (bnd v) (w.2 (bnd v) + 1)) := by rw [cp1, if_neg h12, if_neg h32, eb]
      refine ⟨rfl, fun k k5 k6 => up_n k6, fun k k6 k7 => up_n k7, ?_⟩
      rw [e1]
      refine ⟨fun k hk => ?_, fun k hk => ?_, ?_, ?_⟩
      · show va_up ar 7 _ 6 k = nI (w.1 k)
        rw [up_n (by decide)]; exact p1 k hk
      · show va_up ar 7 _ 7 k = nI (va_up w.2 _ _ k)
        rw [up_s]
        by_cases q : k = bnd v
        · subst q; rw [upd_at, up_s]
        · rw [upd_ne q, up_n q]; exact p2 k hk
      · show va_up iv 6 _ 5 = nI (smN w.1 10)
        rw [up_n (by decide)]; exact p3
      · show va_up iv 6 _ 6 = nI (smN (va_up w.2 _ _) 10)
        rw [up_s, smN_bump w.2 10 hbv]
    · refine k_aload0 (pc := 35) F dX3_countPair_35 ?_
      refine g_X3_bandSame (pc := 36) F dX3_countPair_36 ?_
      refine k_iload3 (pc := 39) F dX3_countPair_39 ?_
      refine k_callSN (pc := 40) F (c_X7_bandOf cw_ok (v := v) (by omega)) ok_X3_88 rfl rfl (by decide) (by decide) (Nat.le_of_ble_eq_true rfl) dX3_countPair_40 (rI.use ?_)
      refine k_dup2 (pc := 43) F dX3_countPair_43 rfl rfl ?_
      refine l_c6 (pc := 44) F (by omega) (p1 (bnd v) hbv) dX3_countPair_44 ?_
      refine k_iconst (pc := 45) (v := nI 1) F dX3_countPair_45 (by decide) ?_
      refine k_iaddN (pc := 46) F dX3_countPair_46 ?_
      refine s_c6 (pc := 47) F (by omega) (rfl) dX3_countPair_47 ?_
      refine k_aload0 (pc := 48) F dX3_countPair_48 ?_
      refine k_dup (pc := 49) F dX3_countPair_49 rfl ?_
      refine g_X3_sumSame (pc := 50) F (p3) dX3_countPair_50 ?_
      refine k_iconst (pc := 53) (v := nI 1) F dX3_countPair_53 (by decide) ?_
      refine k_iaddN (pc := 54) F dX3_countPair_54 ?_
      refine p_X3_sumSame (pc := 55) F dX3_countPair_55 ?_
      refine k_goto (pc := 58) (tgt := 84) F dX3_countPair_58 (by decide) ?_
      refine k_vret (pc := 84) F dX3_countPair_84 ?_
      have e1 : cp1 (Sc c t (ar 5)) s a b w = (va_up w.1 (bnd v) (w.1 (bnd v) + 1), w.2) := by rw [cp1, if_neg h12, if_pos h32, eb]
      refine ⟨rfl, fun k k5 k6 => up_n k5, fun k k6 k7 => up_n k6, ?_⟩
      rw [e1]
      refine ⟨fun k hk => ?_, fun k hk => ?_, ?_, ?_⟩
      · show va_up ar 6 _ 6 k = nI (va_up w.1 _ _ k)
        rw [up_s]
        by_cases q : k = bnd v
        · subst q; rw [upd_at, up_s]
        · rw [upd_ne q, up_n q]; exact p1 k hk
      · show va_up ar 6 _ 7 k = nI (w.2 k)
        rw [up_n (by decide)]; exact p2 k hk
      · show va_up iv 5 _ 5 = nI (smN (va_up w.1 _ _) 10)
        rw [up_s, smN_bump w.1 10 hbv]
      · show va_up iv 5 _ 6 = nI (smN w.2 10)
        rw [up_n (by decide)]; exact p4
  · refine k_vret (pc := 15) F dX3_countPair_15 ?_
    have e : cp1 (Sc c t (ar 5)) s a b w = w := if_pos h12
    exact ⟨rfl, fun _ _ _ => rfl, fun _ _ _ => rfl, by rw [e]; exact ⟨p1, p2, p3, p4⟩⟩

set_option maxHeartbeats 4000000 in
theorem c_X3_countPairs {l : Launch} {D : va_G} {cI : ClassId} {ad : Nat → Nat} {iv : IV} {ar : AR} {n : Nat} {c : Nat → Nat} {s t : Nat → Int32} (hA : Arch n c s t iv ar) (hT : okT n t) (hM : okM (ar 5)) {set : Int32} : Ct l D cI (cw cI ad) yX3_countPairs cX3_countPairs 4 none 3 74 [.ref (ad 4), .int set] iv ar (qV (fun iv2 ar2 => (∀ k, k ≠ 5 → k ≠ 6 → iv2 k = iv k) ∧ (∀ k, k ≠ 6 → k ≠ 7 → ar2 k = ar k) ∧ PB (cou (Sc c t (ar 5)) s set n) iv2 ar2)) := by
  refine Ct.of (lv := [some (.ref (ad 4)), some (.int set), none, none]) cw_ok (plainFor_of_name (by decide)) (Nat.le_of_ble_eq_true rfl) 2 rfl rfl (fun Z F => ?_)
  have hn := hA.le
  refine k_aload0 (pc := 0) F dX3_countPairs_0 ?_
  refine g_X3_bandSame (pc := 1) F dX3_countPairs_1 ?_
  refine k_iconst (pc := 4) (v := nI 0) F dX3_countPairs_4 (by decide) ?_
  refine k_callS (pc := 5) F (c_J7_fill_53178 cw_ok (q0 := 14) (j := 6) (N := 10) (fun _ => rfl) (fun _ _ _ => rfl) (by decide)) ok_X3_58 rfl rfl (by decide) (by decide) (Nat.le_of_ble_eq_true rfl) dX3_countPairs_5 (qV.use (fun iv5 ar5 h5 => ?_))
  obtain ⟨e5, fa1, fa2⟩ := h5
  subst iv5
  refine k_aload0 (pc := 8) F dX3_countPairs_8 ?_
  refine g_X3_bandOther (pc := 9) F dX3_countPairs_9 ?_
  refine k_iconst (pc := 12) (v := nI 0) F dX3_countPairs_12 (by decide) ?_
  refine k_callS (pc := 13) F (c_J7_fill_53178 cw_ok (q0 := 15) (j := 7) (N := 10) (fun _ => rfl) (fun _ _ _ => rfl) (by decide)) ok_X3_58 rfl rfl (by decide) (by decide) (Nat.le_of_ble_eq_true rfl) dX3_countPairs_13 (qV.use (fun iv13 ar13 h13 => ?_))
  obtain ⟨e13, fb1, fb2⟩ := h13
  subst iv13
  refine k_aload0 (pc := 16) F dX3_countPairs_16 ?_
  refine k_iconst (pc := 17) (v := nI 0) F dX3_countPairs_17 (by decide) ?_
  refine p_X3_sumSame (pc := 18) F dX3_countPairs_18 ?_
  refine k_aload0 (pc := 21) F dX3_countPairs_21 ?_
  refine k_iconst (pc := 22) (v := nI 0) F dX3_countPairs_22 (by decide) ?_
  refine p_X3_sumOther (pc := 23) F dX3_countPairs_23 ?_
  refine k_iconst (pc := 26) (v := nI 1) F dX3_countPairs_26 (by decide) ?_
  refine k_istore2 (pc := 27) F (by decide) dX3_countPairs_27 ?_
  have L28 : ∀ (fu : Nat) (b : Nat) (iv1 : IV) (ar1 : AR), n - b < fu → 1 ≤ b → (∀ k, k ≠ 5 → k ≠ 6 → iv1 k = iv k) → (∀ k, k ≠ 6 → k ≠ 7 → ar1 k = ar k) → PB (cou (Sc c t (ar 5)) s set b) iv1 ar1 → (b ≤ n ∨ b = 1) → Z 28 [some (.ref (ad 4)), some (.int set), some (.int (nI b)), none] [] iv1 ar1 := by
    intro fu
    induction fu with
    | zero => intro b iv1 ar1 hfu; exact absurd hfu (Nat.not_lt_zero _)
    | succ fu ih =>
      intro b iv1 ar1 hfu hb1 f1 g1 hq1 hbn
      have hA1 : Arch n c s t iv1 ar1 := hA.keep (f1 3 (by decide) (by decide)) (g1 0 (by decide) (by decide)) (g1 1 (by decide) (by decide)) (g1 2 (by decide) (by decide))
      have e51 : ar1 5 = ar 5 := g1 5 (by decide) (by decide)
      refine k_iload2 (pc := 28) F dX3_countPairs_28 ?_
      refine k_aload0 (pc := 29) F dX3_countPairs_29 ?_
      refine g_X3_archive (pc := 30) F dX3_countPairs_30 ?_
      refine k_callV (pc := 33) (q0 := 1) F (ca_size hA1) ok_X3_64 rfl rfl rfl rfl rfl (by decide) (by decide) (Nat.le_of_ble_eq_true rfl) dX3_countPairs_33 (rI.use ?_)
      refine k_icmp_geN (pc := 36) (tgt := 88) F dX3_countPairs_36 (by decide) (by omega) (by omega) (fun h36 => ?_) (fun h36 => ?_)
      · refine k_vret (pc := 88) F dX3_countPairs_88 ?_
        refine ⟨rfl, f1, g1, ?_⟩
        by_cases q : n = b
        · rw [q]; exact hq1
        · have e1 : b = 1 := by omega
          have e0 : n = 0 := by omega
          subst e1
          rw [e0]
          exact hq1
      · refine k_iconst (pc := 39) (v := nI 0) F dX3_countPairs_39 (by decide) ?_
        refine k_istore3 (pc := 40) F (by decide) dX3_countPairs_40 ?_
        have L41 : ∀ (fu : Nat) (a : Nat) (iv2 : IV) (ar2 : AR), b - a < fu → a ≤ b → (∀ k, k ≠ 5 → k ≠ 6 → iv2 k = iv k) → (∀ k, k ≠ 6 → k ≠ 7 → ar2 k = ar k) → PB (cin (Sc c t (ar 5)) s set b (cou (Sc c t (ar 5)) s set b) a) iv2 ar2 → Z 41 [some (.ref (ad 4)), some (.int set), some (.int (nI b)), some (.int (nI a))] [] iv2 ar2 := by
          intro fu
          induction fu with
          | zero => intro a iv2 ar2 hfu; exact absurd hfu (Nat.not_lt_zero _)
          | succ fu ih2 =>
            intro a iv2 ar2 hfu hab f2 g2 hq2
            have hA2 : Arch n c s t iv2 ar2 := hA.keep (f2 3 (by decide) (by decide)) (g2 0 (by decide) (by decide)) (g2 1 (by decide) (by decide)) (g2 2 (by decide) (by decide))
            have e52 : ar2 5 = ar 5 := g2 5 (by decide) (by decide)
            refine k_iload3 (pc := 41) F dX3_countPairs_41 ?_
            refine k_iload2 (pc := 42) F dX3_countPairs_42 ?_
            refine k_icmp_geN (pc := 43) (tgt := 82) F dX3_countPairs_43 (by decide) (by omega) (by omega) (fun h43 => ?_) (fun h43 => ?_)
            · have e : b = a := by omega
              subst e
              refine k_iinc2 (pc := 82) F (by decide) dX3_countPairs_82 (inc_N _) ?_
              refine k_goto (pc := 85) (tgt := 28) F dX3_countPairs_85 (by decide) ?_
              refine k_fg3 (pc := 28) F ?_
              exact ih (b + 1) _ _ (by omega) (by omega) f2 g2 hq2 (by omega)
            · refine k_aload0 (pc := 46) F dX3_countPairs_46 ?_
              refine g_X3_archive (pc := 47) F dX3_countPairs_47 ?_
              refine k_iload3 (pc := 50) F dX3_countPairs_50 ?_
              refine k_iload1 (pc := 51) F dX3_countPairs_51 ?_
              refine k_callV (pc := 52) (q0 := 1) F (ca_isOfSet hA2 (k := a) (by omega)) ok_X3_70 rfl rfl rfl rfl rfl (by decide) (by decide) (Nat.le_of_ble_eq_true rfl) dX3_countPairs_52 (rI.use ?_)
              refine k_if_eqB (pc := 55) (tgt := 76) F dX3_countPairs_55 (by decide) (fun h55 => ?_) (fun h55 => ?_)
              · refine k_iinc3 (pc := 76) F (by decide) dX3_countPairs_76 (inc_N _) ?_
                refine k_goto (pc := 79) (tgt := 41) F dX3_countPairs_79 (by decide) ?_
                have e : cin (Sc c t (ar 5)) s set b (cou (Sc c t (ar 5)) s set b) (a + 1) = cin (Sc c t (ar 5)) s set b (cou (Sc c t (ar 5)) s set b) a := if_neg (fun q => by first | exact h55 q.1 | exact h67 q.2)
                exact ih2 (a + 1) iv2 ar2 (by omega) (by omega) f2 g2 (by rw [e]; exact hq2)
              · refine k_aload0 (pc := 58) F dX3_countPairs_58 ?_
                refine g_X3_archive (pc := 59) F dX3_countPairs_59 ?_
                refine k_iload2 (pc := 62) F dX3_countPairs_62 ?_
                refine k_iload1 (pc := 63) F dX3_countPairs_63 ?_
                refine k_callV (pc := 64) (q0 := 1) F (ca_isOfSet hA2 (k := b) (by omega)) ok_X3_70 rfl rfl rfl rfl rfl (by decide) (by decide) (Nat.le_of_ble_eq_true rfl) dX3_countPairs_64 (rI.use ?_)
                refine k_if_eqB (pc := 67) (tgt := 76) F dX3_countPairs_67 (by decide) (fun h67 => ?_) (fun h67 => ?_)
                · refine k_iinc3 (pc := 76) F (by decide) dX3_countPairs_76 (inc_N _) ?_
                  refine k_goto (pc := 79) (tgt := 41) F dX3_countPairs_79 (by decide) ?_
                  have e : cin (Sc c t (ar 5)) s set b (cou (Sc c t (ar 5)) s set b) (a + 1) = cin (Sc c t (ar 5)) s set b (cou (Sc c t (ar 5)) s set b) a := if_neg (fun q => by first | exact h55 q.1 | exact h67 q.2)
                  exact ih2 (a + 1) iv2 ar2 (by omega) (by omega) f2 g2 (by rw [e]; exact hq2)
                · refine k_aload0 (pc := 70) F dX3_countPairs_70 ?_
                  refine k_iload3 (pc := 71) F dX3_countPairs_71 ?_
                  refine k_iload2 (pc := 72) F dX3_countPairs_72 ?_
                  refine k_callV (pc := 73) (q0 := 4) F (c_X3_countPair hA2 hT (by rw [e52]; exact hM) (a := a) (b := b) (by omega) (by omega) _ hq2) ok_X3_74 rfl rfl rfl rfl rfl (by decide) (by decide) (Nat.le_of_ble_eq_true rfl) dX3_countPairs_73 (qV.use (fun iv73 ar73 h73 => ?_))
                  obtain ⟨k1, k2, k3⟩ := h73
                  rw [e52] at k3
                  refine k_iinc3 (pc := 76) F (by decide) dX3_countPairs_76 (inc_N _) ?_
                  refine k_goto (pc := 79) (tgt := 41) F dX3_countPairs_79 (by decide) ?_
                  have e : cin (Sc c t (ar 5)) s set b (cou (Sc c t (ar 5)) s set b) (a + 1) = cp1 (Sc c t (ar 5)) s a b (cin (Sc c t (ar 5)) s set b (cou (Sc c t (ar 5)) s set b) a) := if_pos ⟨h55, h67⟩
                  refine ih2 (a + 1) _ _ (by omega) (by omega) (fun k k5 k6 => ?_) (fun k k6 k7 => ?_) (by rw [e]; exact k3)
                  · rw [k1 k k5 k6]; exact f2 k k5 k6
                  · rw [k2 k k6 k7]; exact g2 k k6 k7
        exact L41 (b + 1) 0 iv1 ar1 (by omega) (by omega) f1 g1 hq1
  refine L28 (n + 1) 1 _ _ (by omega) (by omega) (fun k k5 k6 => ?_) (fun k k6 k7 => ?_) ⟨fun k hk => ?_, fun k hk => ?_, ?_, ?_⟩ (by omega)
  · rw [up_n k6, up_n k5]
  · rw [fb1 k k7, fa1 k k6]
  · rw [fb1 6 (by decide)]; exact fa2 k hk
  · exact fb2 k hk
  · rw [up_n (by decide), up_s]; rfl
  · rw [up_s]; rfl

set_option maxHeartbeats 4000000 in
theorem c_X3_isEmptyBand {l : Launch} {D : va_G} {cI : ClassId} {ad : Nat → Nat} {iv : IV} {ar : AR} {w : WT} (hP : PB w iv ar) (hC : okC w) {k : Nat} (hk : k < 10) : Ct l D cI (cw cI ad) yX3_isEmptyBand cX3_isEmptyBand 2 (some .boolean) 0 0 [.ref (ad 4), .int (nI k)] iv ar (rI (bI (w.1 k + w.2 k = 0)) iv ar) := by
  refine Ct.of (lv := [some (.ref (ad 4)), some (.int (nI k))]) cw_ok (plainFor_of_name (by decide)) (Nat.le_of_ble_eq_true rfl) 0 rfl rfl (fun Z F => ?_)
  have hc := hC k
  refine k_aload0 (pc := 0) F dX3_isEmptyBand_0 ?_
  refine g_X3_bandSame (pc := 1) F dX3_isEmptyBand_1 ?_
  refine k_iload1 (pc := 4) F dX3_isEmptyBand_4 ?_
  refine l_c6 (pc := 5) F (by omega) (hP.1 k hk) dX3_isEmptyBand_5 ?_
  refine k_aload0 (pc := 6) F dX3_isEmptyBand_6 ?_
  refine g_X3_bandOther (pc := 7) F dX3_isEmptyBand_7 ?_
  refine k_iload1 (pc := 10) F dX3_isEmptyBand_10 ?_
  refine l_c7 (pc := 11) F (by omega) (hP.2.1 k hk) dX3_isEmptyBand_11 ?_
  refine k_iaddN (pc := 12) F dX3_isEmptyBand_12 ?_
  refine k_if_neN (pc := 13) (tgt := 20) F dX3_isEmptyBand_13 (by decide) (by omega) (fun h13 => ?_) (fun h13 => ?_)
  · refine k_iconst (pc := 20) (v := nI 0) F dX3_isEmptyBand_20 (by decide) ?_
    refine k_zret (pc := 21) F dX3_isEmptyBand_21 (by decide) ?_
    exact ret0 (by first | exact h13 | omega)
  · refine k_iconst (pc := 16) (v := nI 1) F dX3_isEmptyBand_16 (by decide) ?_
    refine k_goto (pc := 17) (tgt := 21) F dX3_isEmptyBand_17 (by decide) ?_
    refine k_zret (pc := 21) F dX3_isEmptyBand_21 (by decide) ?_
    exact ret1 (by first | exact h13 | omega)

set_option maxHeartbeats 4000000 in
theorem c_X3_makeBlocks {l : Launch} {D : va_G} {cI : ClassId} {ad : Nat → Nat} {iv : IV} {ar : AR} {w : WT} (hP : PB w iv ar) (hC : okC w) : Ct l D cI (cw cI ad) yX3_makeBlocks cX3_makeBlocks 2 none 1 21 [.ref (ad 4)] iv ar (qV (fun iv2 ar2 => (∀ k, k ≠ 4 → iv2 k = iv k) ∧ (∀ k, k < 8 ∨ 12 ≤ k → ar2 k = ar k) ∧ BB (mkB w 10) iv2 ar2)) := by
  refine Ct.of (lv := [some (.ref (ad 4)), none]) cw_ok (plainFor_of_name (by decide)) (Nat.le_of_ble_eq_true rfl) 1 rfl rfl (fun Z F => ?_)
  refine k_aload0 (pc := 0) F dX3_makeBlocks_0 ?_
  refine k_iconst (pc := 1) (v := nI 0) F dX3_makeBlocks_1 (by decide) ?_
  refine p_X3_blocks (pc := 2) F dX3_makeBlocks_2 ?_
  refine k_iconst (pc := 5) (v := nI 0) F dX3_makeBlocks_5 (by decide) ?_
  refine k_istore1 (pc := 6) F (by decide) dX3_makeBlocks_6 ?_
  have L7 : ∀ (fu : Nat) (k : Nat) (iv1 : IV) (ar1 : AR), 10 - k < fu → k ≤ 10 → (∀ k, k ≠ 4 → iv1 k = iv k) → (∀ k, k < 8 ∨ 12 ≤ k → ar1 k = ar k) → BB (mkB w k) iv1 ar1 → Z 7 [some (.ref (ad 4)), some (.int (nI k))] [] iv1 ar1 := by
    intro fu
    induction fu with
    | zero => intro k iv1 ar1 hfu; exact absurd hfu (Nat.not_lt_zero _)
    | succ fu ih =>
      intro k iv1 ar1 hfu hk f1 g1 hb
      have hP1 : PB w iv1 ar1 := ⟨by rw [g1 6 (by decide)]; exact hP.1, by rw [g1 7 (by decide)]; exact hP.2.1, by rw [f1 5 (by decide)]; exact hP.2.2.1, by rw [f1 6 (by decide)]; exact hP.2.2.2⟩
      have hm := mkB_le w k
      refine k_iload1 (pc := 7) F dX3_makeBlocks_7 ?_
      refine k_bipush (pc := 8) (v := nI 10) F dX3_makeBlocks_8 (by decide) ?_
      refine k_icmp_geN (pc := 10) (tgt := 87) F dX3_makeBlocks_10 (by decide) (by omega) (by omega) (fun h10 => ?_) (fun h10 => ?_)
      · have e : k = 10 := by omega
        subst e
        refine k_vret (pc := 87) F dX3_makeBlocks_87 ?_
        exact ⟨rfl, f1, g1, hb⟩
      · refine k_aload0 (pc := 13) F dX3_makeBlocks_13 ?_
        refine k_iload1 (pc := 14) F dX3_makeBlocks_14 ?_
        refine k_callV (pc := 15) (q0 := 4) F (c_X3_isEmptyBand hP1 hC (k := k) (by omega)) ok_X3_91 rfl rfl rfl rfl rfl (by decide) (by decide) (Nat.le_of_ble_eq_true rfl) dX3_makeBlocks_15 (rI.use ?_)
        refine k_if_neB (pc := 18) (tgt := 81) F dX3_makeBlocks_18 (by decide) (fun h18 => ?_) (fun h18 => ?_)
        · refine k_iinc1 (pc := 81) F (by decide) dX3_makeBlocks_81 (inc_N _) ?_
          refine k_goto (pc := 84) (tgt := 7) F dX3_makeBlocks_84 (by decide) ?_
          have e : mkB w (k + 1) = mkB w k := if_pos h18
          exact ih (k + 1) iv1 ar1 (by omega) (by omega) f1 g1 (by rw [e]; exact hb)
        · refine k_aload0 (pc := 21) F dX3_makeBlocks_21 ?_
          refine g_X3_blockFirst (pc := 22) F dX3_makeBlocks_22 ?_
          refine k_aload0 (pc := 25) F dX3_makeBlocks_25 ?_
          refine g_X3_blocks (pc := 26) F (hb.1) dX3_makeBlocks_26 ?_
          refine k_iload1 (pc := 29) F dX3_makeBlocks_29 ?_
          refine s_c8 (pc := 30) F (by omega) (rfl) dX3_makeBlocks_30 ?_
          refine k_aload0 (pc := 31) F dX3_makeBlocks_31 ?_
          refine g_X3_blockLast (pc := 32) F dX3_makeBlocks_32 ?_
          refine k_aload0 (pc := 35) F dX3_makeBlocks_35 ?_
          refine g_X3_blocks (pc := 36) F (hb.1) dX3_makeBlocks_36 ?_
          refine k_iload1 (pc := 39) F dX3_makeBlocks_39 ?_
          refine s_c9 (pc := 40) F (by omega) ((up_n (by decide)).trans (rfl)) dX3_makeBlocks_40 ?_
          refine k_aload0 (pc := 41) F dX3_makeBlocks_41 ?_
          refine g_X3_blockSame (pc := 42) F dX3_makeBlocks_42 ?_
          refine k_aload0 (pc := 45) F dX3_makeBlocks_45 ?_
          refine g_X3_blocks (pc := 46) F (hb.1) dX3_makeBlocks_46 ?_
          refine k_aload0 (pc := 49) F dX3_makeBlocks_49 ?_
          refine g_X3_bandSame (pc := 50) F dX3_makeBlocks_50 ?_
          refine k_iload1 (pc := 53) F dX3_makeBlocks_53 ?_
          refine l_c6 (pc := 54) F (by omega) ((congrFun ((up_n (by decide)).trans ((up_n (by decide)).trans (rfl))) _).trans (hP1.1 k (by omega))) dX3_makeBlocks_54 ?_
          refine s_c10 (pc := 55) F (by omega) ((up_n (by decide)).trans ((up_n (by decide)).trans (rfl))) dX3_makeBlocks_55 ?_
          refine k_aload0 (pc := 56) F dX3_makeBlocks_56 ?_
          refine g_X3_blockOther (pc := 57) F dX3_makeBlocks_57 ?_
          refine k_aload0 (pc := 60) F dX3_makeBlocks_60 ?_
          refine g_X3_blocks (pc := 61) F (hb.1) dX3_makeBlocks_61 ?_
          refine k_aload0 (pc := 64) F dX3_makeBlocks_64 ?_
          refine g_X3_bandOther (pc := 65) F dX3_makeBlocks_65 ?_
          refine k_iload1 (pc := 68) F dX3_makeBlocks_68 ?_
          refine l_c7 (pc := 69) F (by omega) ((congrFun ((up_n (by decide)).trans ((up_n (by decide)).trans ((up_n (by decide)).trans (rfl)))) _).trans (hP1.2.1 k (by omega))) dX3_makeBlocks_69 ?_
          refine s_c11 (pc := 70) F (by omega) ((up_n (by decide)).trans ((up_n (by decide)).trans ((up_n (by decide)).trans (rfl)))) dX3_makeBlocks_70 ?_
          refine k_aload0 (pc := 71) F dX3_makeBlocks_71 ?_
          refine k_dup (pc := 72) F dX3_makeBlocks_72 rfl ?_
          refine g_X3_blocks (pc := 73) F (hb.1) dX3_makeBlocks_73 ?_
          refine k_iconst (pc := 76) (v := nI 1) F dX3_makeBlocks_76 (by decide) ?_
          refine k_iaddN (pc := 77) F dX3_makeBlocks_77 ?_
          refine p_X3_blocks (pc := 78) F dX3_makeBlocks_78 ?_
          refine k_iinc1 (pc := 81) F (by decide) dX3_makeBlocks_81 (inc_N _) ?_
          refine k_goto (pc := 84) (tgt := 7) F dX3_makeBlocks_84 (by decide) ?_
          have e : mkB w (k + 1) = (bm (mkB w k) + 1, va_up (bf (mkB w k)) (bm (mkB w k)) k, va_up (bl (mkB w k)) (bm (mkB w k)) k, va_up (bs (mkB w k)) (bm (mkB w k)) (w.1 k), va_up (bo (mkB w k)) (bm (mkB w k)) (w.2 k)) := if_neg h18
          refine ih (k + 1) _ _ (by omega) (by omega) (fun q hq => ?_) (fun q hq => ?_) (by
            rw [e]
            refine ⟨up_s, fun i hi => ?_⟩
            have hi2 : i < bm (mkB w k) + 1 := hi
            rw [row4_8, row4_9, row4_10, row4_11]
            show upd _ _ _ i = nI (va_up (bf (mkB w k)) (bm (mkB w k)) k i) ∧ upd _ _ _ i = nI (va_up (bl (mkB w k)) (bm (mkB w k)) k i) ∧ upd _ _ _ i = nI (va_up (bs (mkB w k)) (bm (mkB w k)) (w.1 k) i) ∧ upd _ _ _ i = nI (va_up (bo (mkB w k)) (bm (mkB w k)) (w.2 k) i)
            by_cases q : i = bm (mkB w k)
            · subst q
              rw [upd_at, upd_at, upd_at, upd_at, up_s, up_s, up_s, up_s]
              exact ⟨rfl, rfl, rfl, rfl⟩
            · rw [upd_ne q, upd_ne q, upd_ne q, upd_ne q, up_n q, up_n q, up_n q, up_n q]
              exact hb.2 i (by omega))
          · rw [up_n hq]; exact f1 q hq
          · rw [up_n (by omega), up_n (by omega), up_n (by omega), up_n (by omega)]; exact g1 q hq
  refine L7 11 0 _ ar (by omega) (by omega) (fun k hk => ?_) (fun _ _ => rfl) ⟨?_, fun i hi => absurd hi (Nat.not_lt_zero i)⟩
  · exact up_n hk
  · exact up_s

set_option maxHeartbeats 4000000 in
theorem c_X3_isOutOfOrder {l : Launch} {D : va_G} {cI : ClassId} {ad : Nat → Nat} {iv : IV} {ar : AR} {b : BT} (hB : BB b iv ar) (hm : bm b ≤ 10) {i : Nat} (hi : i + 1 < bm b) : Ct l D cI (cw cI ad) yX3_isOutOfOrder cX3_isOutOfOrder 5 (some .boolean) 0 0 [.ref (ad 4), .int (nI i), .int (nI (i + 1))] iv ar (rI (bI (oo b i)) iv ar) := by
  refine Ct.of (lv := [some (.ref (ad 4)), some (.int (nI i)), some (.int (nI (i + 1))), none, none]) cw_ok (plainFor_of_name (by decide)) (Nat.le_of_ble_eq_true rfl) 2 rfl rfl (fun Z F => ?_)
  refine k_aload0 (pc := 0) F dX3_isOutOfOrder_0 ?_
  refine g_X3_blockSame (pc := 1) F dX3_isOutOfOrder_1 ?_
  refine k_iload1 (pc := 4) F dX3_isOutOfOrder_4 ?_
  refine l_c10 (pc := 5) F (by omega) ((hB.2 i (by omega)).2.2.1) dX3_isOutOfOrder_5 ?_
  refine k_aload0 (pc := 6) F dX3_isOutOfOrder_6 ?_
  refine g_X3_blockOther (pc := 7) F dX3_isOutOfOrder_7 ?_
  refine k_iload1 (pc := 10) F dX3_isOutOfOrder_10 ?_
  refine l_c11 (pc := 11) F (by omega) ((hB.2 i (by omega)).2.2.2) dX3_isOutOfOrder_11 ?_
  refine k_iaddN (pc := 12) F dX3_isOutOfOrder_12 ?_
  refine k_istore3 (pc := 13) F (by decide) dX3_isOutOfOrder_13 ?_
  refine k_aload0 (pc := 14) F dX3_isOutOfOrder_14 ?_
  refine g_X3_blockSame (pc := 15) F dX3_isOutOfOrder_15 ?_
  refine k_iload2 (pc := 18) F dX3_isOutOfOrder_18 ?_
  refine l_c10 (pc := 19) F (by omega) ((hB.2 (i + 1) (by omega)).2.2.1) dX3_isOutOfOrder_19 ?_
  refine k_aload0 (pc := 20) F dX3_isOutOfOrder_20 ?_
  refine g_X3_blockOther (pc := 21) F dX3_isOutOfOrder_21 ?_
  refine k_iload2 (pc := 24) F dX3_isOutOfOrder_24 ?_
  refine l_c11 (pc := 25) F (by omega) ((hB.2 (i + 1) (by omega)).2.2.2) dX3_isOutOfOrder_25 ?_
  refine k_iaddN (pc := 26) F dX3_isOutOfOrder_26 ?_
  refine k_istore4 (pc := 27) F (by decide) dX3_isOutOfOrder_27 ?_
  refine k_aload0 (pc := 29) F dX3_isOutOfOrder_29 ?_
  refine g_X3_blockSame (pc := 30) F dX3_isOutOfOrder_30 ?_
  refine k_iload2 (pc := 33) F dX3_isOutOfOrder_33 ?_
  refine l_c10 (pc := 34) F (by omega) ((hB.2 (i + 1) (by omega)).2.2.1) dX3_isOutOfOrder_34 ?_
  refine k_iload3 (pc := 35) F dX3_isOutOfOrder_35 ?_
  refine k_imulN (pc := 36) F dX3_isOutOfOrder_36 ?_
  refine k_aload0 (pc := 37) F dX3_isOutOfOrder_37 ?_
  refine g_X3_blockSame (pc := 38) F dX3_isOutOfOrder_38 ?_
  refine k_iload1 (pc := 41) F dX3_isOutOfOrder_41 ?_
  refine l_c10 (pc := 42) F (by omega) ((hB.2 i (by omega)).2.2.1) dX3_isOutOfOrder_42 ?_
  refine k_iload4 (pc := 43) F dX3_isOutOfOrder_43 ?_
  refine k_imulN (pc := 45) F dX3_isOutOfOrder_45 ?_
  refine k_icmp_lt (pc := 46) (tgt := 53) F dX3_isOutOfOrder_46 (by decide) (fun h46 => ?_) (fun h46 => ?_)
  · refine k_iconst (pc := 53) (v := nI 0) F dX3_isOutOfOrder_53 (by decide) ?_
    refine k_zret (pc := 54) F dX3_isOutOfOrder_54 (by decide) ?_
    exact ret0 (by unfold oo; rw [i_le]; rw [i_lt] at h46; omega)
  · refine k_iconst (pc := 49) (v := nI 1) F dX3_isOutOfOrder_49 (by decide) ?_
    refine k_goto (pc := 50) (tgt := 54) F dX3_isOutOfOrder_50 (by decide) ?_
    refine k_zret (pc := 54) F dX3_isOutOfOrder_54 (by decide) ?_
    exact ret1 (by unfold oo; rw [i_le]; rw [i_lt] at h46; omega)

set_option maxHeartbeats 4000000 in
theorem c_X3_findOutOfOrder {l : Launch} {D : va_G} {cI : ClassId} {ad : Nat → Nat} {iv : IV} {ar : AR} {b : BT} (hB : BB b iv ar) (hm : bm b ≤ 10) : Ct l D cI (cw cI ad) yX3_findOutOfOrder cX3_findOutOfOrder 2 (some .int) 1 24 [.ref (ad 4)] iv ar (qI (fun x iv2 ar2 => iv2 = iv ∧ ar2 = ar ∧ (match foB b with | none => x = -1 | some i => x = nI i))) := by
  refine Ct.of (lv := [some (.ref (ad 4)), none]) cw_ok (plainFor_of_name (by decide)) (Nat.le_of_ble_eq_true rfl) 1 rfl rfl (fun Z F => ?_)
  refine k_iconst (pc := 0) (v := nI 0) F dX3_findOutOfOrder_0 (by decide) ?_
  refine k_istore1 (pc := 1) F (by decide) dX3_findOutOfOrder_1 ?_
  have L2 : ∀ (fu : Nat) (i : Nat), 10 - i < fu → i ≤ 10 → (∀ j, j < i → j + 1 < bm b → ¬ oo b j) → Z 2 [some (.ref (ad 4)), some (.int (nI i))] [] iv ar := by
    intro fu
    induction fu with
    | zero => intro i hfu; exact absurd hfu (Nat.not_lt_zero _)
    | succ fu ih =>
      intro i hfu hi ho
      refine k_iload1 (pc := 2) F dX3_findOutOfOrder_2 ?_
      refine k_iconst (pc := 3) (v := nI 1) F dX3_findOutOfOrder_3 (by decide) ?_
      refine k_iaddN (pc := 4) F dX3_findOutOfOrder_4 ?_
      refine k_aload0 (pc := 5) F dX3_findOutOfOrder_5 ?_
      refine g_X3_blocks (pc := 6) F (hB.1) dX3_findOutOfOrder_6 ?_
      refine k_icmp_geN (pc := 9) (tgt := 31) F dX3_findOutOfOrder_9 (by decide) (by omega) (by omega) (fun h9 => ?_) (fun h9 => ?_)
      · refine k_iconst (pc := 31) (v := -1) F dX3_findOutOfOrder_31 (by decide) ?_
        refine k_iret (pc := 32) F dX3_findOutOfOrder_32 ?_
        refine ⟨_, rfl, rfl, rfl, ?_⟩
        rw [foB_none hm (fun j hj => ho j (by omega) hj)]
      · refine k_aload0 (pc := 12) F dX3_findOutOfOrder_12 ?_
        refine k_iload1 (pc := 13) F dX3_findOutOfOrder_13 ?_
        refine k_iload1 (pc := 14) F dX3_findOutOfOrder_14 ?_
        refine k_iconst (pc := 15) (v := nI 1) F dX3_findOutOfOrder_15 (by decide) ?_
        refine k_iaddN (pc := 16) F dX3_findOutOfOrder_16 ?_
        refine k_callV (pc := 17) (q0 := 4) F (c_X3_isOutOfOrder hB hm (i := i) (by omega)) ok_X3_101 rfl rfl rfl rfl rfl (by decide) (by decide) (Nat.le_of_ble_eq_true rfl) dX3_findOutOfOrder_17 (rI.use ?_)
        refine k_if_eqB (pc := 20) (tgt := 25) F dX3_findOutOfOrder_20 (by decide) (fun h20 => ?_) (fun h20 => ?_)
        · refine k_iinc1 (pc := 25) F (by decide) dX3_findOutOfOrder_25 (inc_N _) ?_
          refine k_goto (pc := 28) (tgt := 2) F dX3_findOutOfOrder_28 (by decide) ?_
          refine ih (i + 1) (by omega) (by omega) (fun j hj hj2 => ?_)
          by_cases e : j = i
          · subst e; exact h20
          · exact ho j (by omega) hj2
        · refine k_iload1 (pc := 23) F dX3_findOutOfOrder_23 ?_
          refine k_iret (pc := 24) F dX3_findOutOfOrder_24 ?_
          refine ⟨_, rfl, rfl, rfl, ?_⟩
          rw [foB_some hm (by omega) h20 (fun j hj => ho j hj (by omega))]
  exact L2 11 0 (by omega) (by omega) (fun j hj => by omega)

set_option maxHeartbeats 4000000 in
theorem c_X3_joinWithNext {l : Launch} {D : va_G} {cI : ClassId} {ad : Nat → Nat} {iv : IV} {ar : AR} {b : BT} (hB : BB b iv ar) (hm : bm b ≤ 10) {i : Nat} (hi : i + 1 < bm b) : Ct l D cI (cw cI ad) yX3_joinWithNext cX3_joinWithNext 3 none 0 0 [.ref (ad 4), .int (nI i)] iv ar (qV (fun iv2 ar2 => (∀ k, k ≠ 4 → iv2 k = iv k) ∧ (∀ k, k < 8 ∨ 12 ≤ k → ar2 k = ar k) ∧ BB (mrg b i) iv2 ar2)) := by
  refine Ct.of (lv := [some (.ref (ad 4)), some (.int (nI i)), none]) cw_ok (plainFor_of_name (by decide)) (Nat.le_of_ble_eq_true rfl) 1 rfl rfl (fun Z F => ?_)
  have hBi := hB.2 i (by omega)
  have hBj := hB.2 (i + 1) (by omega)
  refine k_aload0 (pc := 0) F dX3_joinWithNext_0 ?_
  refine g_X3_blockLast (pc := 1) F dX3_joinWithNext_1 ?_
  refine k_iload1 (pc := 4) F dX3_joinWithNext_4 ?_
  refine k_aload0 (pc := 5) F dX3_joinWithNext_5 ?_
  refine g_X3_blockLast (pc := 6) F dX3_joinWithNext_6 ?_
  refine k_iload1 (pc := 9) F dX3_joinWithNext_9 ?_
  refine k_iconst (pc := 10) (v := nI 1) F dX3_joinWithNext_10 (by decide) ?_
  refine k_iaddN (pc := 11) F dX3_joinWithNext_11 ?_
  refine l_c9 (pc := 12) F (by omega) (hBj.2.1) dX3_joinWithNext_12 ?_
  refine s_c9 (pc := 13) F (by omega) (rfl) dX3_joinWithNext_13 ?_
  refine k_aload0 (pc := 14) F dX3_joinWithNext_14 ?_
  refine g_X3_blockSame (pc := 15) F dX3_joinWithNext_15 ?_
  refine k_iload1 (pc := 18) F dX3_joinWithNext_18 ?_
  refine k_dup2 (pc := 19) F dX3_joinWithNext_19 rfl rfl ?_
  refine l_c10 (pc := 20) F (by omega) ((congrFun ((up_n (by decide)).trans (rfl)) _).trans (hBi.2.2.1)) dX3_joinWithNext_20 ?_
  refine k_aload0 (pc := 21) F dX3_joinWithNext_21 ?_
  refine g_X3_blockSame (pc := 22) F dX3_joinWithNext_22 ?_
  refine k_iload1 (pc := 25) F dX3_joinWithNext_25 ?_
  refine k_iconst (pc := 26) (v := nI 1) F dX3_joinWithNext_26 (by decide) ?_
  refine k_iaddN (pc := 27) F dX3_joinWithNext_27 ?_
  refine l_c10 (pc := 28) F (by omega) ((congrFun ((up_n (by decide)).trans (rfl)) _).trans (hBj.2.2.1)) dX3_joinWithNext_28 ?_
  refine k_iaddN (pc := 29) F dX3_joinWithNext_29 ?_
  refine s_c10 (pc := 30) F (by omega) ((up_n (by decide)).trans (rfl)) dX3_joinWithNext_30 ?_
  refine k_aload0 (pc := 31) F dX3_joinWithNext_31 ?_
  refine g_X3_blockOther (pc := 32) F dX3_joinWithNext_32 ?_
  refine k_iload1 (pc := 35) F dX3_joinWithNext_35 ?_
  refine k_dup2 (pc := 36) F dX3_joinWithNext_36 rfl rfl ?_
  refine l_c11 (pc := 37) F (by omega) ((congrFun ((up_n (by decide)).trans ((up_n (by decide)).trans (rfl))) _).trans (hBi.2.2.2)) dX3_joinWithNext_37 ?_
  refine k_aload0 (pc := 38) F dX3_joinWithNext_38 ?_
  refine g_X3_blockOther (pc := 39) F dX3_joinWithNext_39 ?_
  refine k_iload1 (pc := 42) F dX3_joinWithNext_42 ?_
  refine k_iconst (pc := 43) (v := nI 1) F dX3_joinWithNext_43 (by decide) ?_
  refine k_iaddN (pc := 44) F dX3_joinWithNext_44 ?_
  refine l_c11 (pc := 45) F (by omega) ((congrFun ((up_n (by decide)).trans ((up_n (by decide)).trans (rfl))) _).trans (hBj.2.2.2)) dX3_joinWithNext_45 ?_
  refine k_iaddN (pc := 46) F dX3_joinWithNext_46 ?_
  refine s_c11 (pc := 47) F (by omega) ((up_n (by decide)).trans ((up_n (by decide)).trans (rfl))) dX3_joinWithNext_47 ?_
  refine k_iload1 (pc := 48) F dX3_joinWithNext_48 ?_
  refine k_iconst (pc := 49) (v := nI 1) F dX3_joinWithNext_49 (by decide) ?_
  refine k_iaddN (pc := 50) F dX3_joinWithNext_50 ?_
  refine k_istore2 (pc := 51) F (by decide) dX3_joinWithNext_51 ?_
  have L52 : ∀ (fu : Nat) (k : Nat) (ar1 : AR), bm b - k < fu → i + 1 ≤ k → k < bm b → (∀ q, q < 8 ∨ 12 ≤ q → ar1 q = ar q) → (∀ j, j < bm b - 1 → (j < k → ar1 8 j = nI (bf (mrg b i) j) ∧ ar1 9 j = nI (bl (mrg b i) j) ∧ ar1 10 j = nI (bs (mrg b i) j) ∧ ar1 11 j = nI (bo (mrg b i) j))) → (∀ j, j < bm b → k ≤ j → ar1 8 j = nI (bf b j) ∧ ar1 9 j = nI (bl b j) ∧ ar1 10 j = nI (bs b j) ∧ ar1 11 j = nI (bo b j)) → Z 52 [some (.ref (ad 4)), some (.int (nI i)), some (.int (nI k))] [] iv ar1 := by
    intro fu
    induction fu with
    | zero => intro k ar1 hfu; exact absurd hfu (Nat.not_lt_zero _)
    | succ fu ih =>
      intro k ar1 hfu hik hkb g1 hw hx
      refine k_iload2 (pc := 52) F dX3_joinWithNext_52 ?_
      refine k_iconst (pc := 53) (v := nI 1) F dX3_joinWithNext_53 (by decide) ?_
      refine k_iaddN (pc := 54) F dX3_joinWithNext_54 ?_
      refine k_aload0 (pc := 55) F dX3_joinWithNext_55 ?_
      refine g_X3_blocks (pc := 56) F (hB.1) dX3_joinWithNext_56 ?_
      refine k_icmp_geN (pc := 59) (tgt := 124) F dX3_joinWithNext_59 (by decide) (by omega) (by omega) (fun h59 => ?_) (fun h59 => ?_)
      · refine k_aload0 (pc := 124) F dX3_joinWithNext_124 ?_
        refine k_dup (pc := 125) F dX3_joinWithNext_125 rfl ?_
        refine g_X3_blocks (pc := 126) F (hB.1) dX3_joinWithNext_126 ?_
        refine k_iconst (pc := 129) (v := nI 1) F dX3_joinWithNext_129 (by decide) ?_
        refine k_isubN (pc := 130) F dX3_joinWithNext_130 (by omega) ?_
        refine p_X3_blocks (pc := 131) F dX3_joinWithNext_131 ?_
        refine k_vret (pc := 134) F dX3_joinWithNext_134 ?_
        refine ⟨rfl, fun k hk => up_n hk, g1, up_s, fun j hj => ?_⟩
        have hj2 : j < bm b - 1 := hj
        exact hw j hj2 (by omega)
      · refine k_aload0 (pc := 62) F dX3_joinWithNext_62 ?_
        refine g_X3_blockFirst (pc := 63) F dX3_joinWithNext_63 ?_
        refine k_iload2 (pc := 66) F dX3_joinWithNext_66 ?_
        refine k_aload0 (pc := 67) F dX3_joinWithNext_67 ?_
        refine g_X3_blockFirst (pc := 68) F dX3_joinWithNext_68 ?_
        refine k_iload2 (pc := 71) F dX3_joinWithNext_71 ?_
        refine k_iconst (pc := 72) (v := nI 1) F dX3_joinWithNext_72 (by decide) ?_
        refine k_iaddN (pc := 73) F dX3_joinWithNext_73 ?_
        refine l_c8 (pc := 74) F (by omega) ((hx (k + 1) (by omega) (by omega)).1) dX3_joinWithNext_74 ?_
        refine s_c8 (pc := 75) F (by omega) (rfl) dX3_joinWithNext_75 ?_
        refine k_aload0 (pc := 76) F dX3_joinWithNext_76 ?_
        refine g_X3_blockLast (pc := 77) F dX3_joinWithNext_77 ?_
        refine k_iload2 (pc := 80) F dX3_joinWithNext_80 ?_
        refine k_aload0 (pc := 81) F dX3_joinWithNext_81 ?_
        refine g_X3_blockLast (pc := 82) F dX3_joinWithNext_82 ?_
        refine k_iload2 (pc := 85) F dX3_joinWithNext_85 ?_
        refine k_iconst (pc := 86) (v := nI 1) F dX3_joinWithNext_86 (by decide) ?_
        refine k_iaddN (pc := 87) F dX3_joinWithNext_87 ?_
        refine l_c9 (pc := 88) F (by omega) ((congrFun ((up_n (by decide)).trans (rfl)) _).trans ((hx (k + 1) (by omega) (by omega)).2.1)) dX3_joinWithNext_88 ?_
        refine s_c9 (pc := 89) F (by omega) ((up_n (by decide)).trans (rfl)) dX3_joinWithNext_89 ?_
        refine k_aload0 (pc := 90) F dX3_joinWithNext_90 ?_
        refine g_X3_blockSame (pc := 91) F dX3_joinWithNext_91 ?_
        refine k_iload2 (pc := 94) F dX3_joinWithNext_94 ?_
        refine k_aload0 (pc := 95) F dX3_joinWithNext_95 ?_
        refine g_X3_blockSame (pc := 96) F dX3_joinWithNext_96 ?_
        refine k_iload2 (pc := 99) F dX3_joinWithNext_99 ?_
        refine k_iconst (pc := 100) (v := nI 1) F dX3_joinWithNext_100 (by decide) ?_
        refine k_iaddN (pc := 101) F dX3_joinWithNext_101 ?_
        refine l_c10 (pc := 102) F (by omega) ((congrFun ((up_n (by decide)).trans ((up_n (by decide)).trans (rfl))) _).trans ((hx (k + 1) (by omega) (by omega)).2.2.1)) dX3_joinWithNext_102 ?_
        refine s_c10 (pc := 103) F (by omega) ((up_n (by decide)).trans ((up_n (by decide)).trans (rfl))) dX3_joinWithNext_103 ?_
        refine k_aload0 (pc := 104) F dX3_joinWithNext_104 ?_
        refine g_X3_blockOther (pc := 105) F dX3_joinWithNext_105 ?_
        refine k_iload2 (pc := 108) F dX3_joinWithNext_108 ?_
        refine k_aload0 (pc := 109) F dX3_joinWithNext_109 ?_
        refine g_X3_blockOther (pc := 110) F dX3_joinWithNext_110 ?_
        refine k_iload2 (pc := 113) F dX3_joinWithNext_113 ?_
        refine k_iconst (pc := 114) (v := nI 1) F dX3_joinWithNext_114 (by decide) ?_
        refine k_iaddN (pc := 115) F dX3_joinWithNext_115 ?_
        refine l_c11 (pc := 116) F (by omega) ((congrFun ((up_n (by decide)).trans ((up_n (by decide)).trans ((up_n (by decide)).trans (rfl)))) _).trans ((hx (k + 1) (by omega) (by omega)).2.2.2)) dX3_joinWithNext_116 ?_
        refine s_c11 (pc := 117) F (by omega) ((up_n (by decide)).trans ((up_n (by decide)).trans ((up_n (by decide)).trans (rfl)))) dX3_joinWithNext_117 ?_
        refine k_iinc2 (pc := 118) F (by decide) dX3_joinWithNext_118 (inc_N _) ?_
        refine k_goto (pc := 121) (tgt := 52) F dX3_joinWithNext_121 (by decide) ?_
        refine ih (k + 1) _ (by omega) (by omega) (by omega) (fun q hq => ?_) (fun j hj hj2 => ?_) (fun j hj hj2 => ?_)
        · rw [up_n (by omega), up_n (by omega), up_n (by omega), up_n (by omega)]; exact g1 q hq
        · rw [row4_8, row4_9, row4_10, row4_11]
          by_cases q : j = k
          · subst q
            rw [upd_at, upd_at, upd_at, upd_at]
            show _ = nI (if j ≤ i then bf b j else bf b (j + 1)) ∧ _ = nI (if j < i then bl b j else bl b (j + 1)) ∧ _ = nI (if j < i then bs b j else if j = i then bs b i + bs b (i + 1) else bs b (j + 1)) ∧ _ = nI (if j < i then bo b j else if j = i then bo b i + bo b (i + 1) else bo b (j + 1))
            rw [if_neg (by omega), if_neg (by omega), if_neg (by omega), if_neg (by omega), if_neg (by omega), if_neg (by omega)]
            exact ⟨rfl, rfl, rfl, rfl⟩
          · rw [upd_ne q, upd_ne q, upd_ne q, upd_ne q]
            exact hw j hj (by omega)
        · have q : j ≠ k := by omega
          rw [row4_8, row4_9, row4_10, row4_11, upd_ne q, upd_ne q, upd_ne q, upd_ne q]
          exact hx j hj (by omega)
  refine L52 (bm b + 1) (i + 1) _ (by omega) (by omega) (by omega) (fun q hq => ?_) (fun j hj hj2 => ?_) (fun j hj hj2 => ?_)
  · rw [up_n (by omega), up_n (by omega), up_n (by omega)]
  · have hBq := hB.2 j (by omega)
    rw [row3_8, row3_9, row3_10, row3_11]
    show _ = nI (if j ≤ i then bf b j else bf b (j + 1)) ∧ _ = nI (if j < i then bl b j else bl b (j + 1)) ∧ _ = nI (if j < i then bs b j else if j = i then bs b i + bs b (i + 1) else bs b (j + 1)) ∧ _ = nI (if j < i then bo b j else if j = i then bo b i + bo b (i + 1) else bo b (j + 1))
    rw [if_pos (by omega)]
    by_cases q : j = i
    · subst q
      rw [if_neg (Nat.lt_irrefl j), if_neg (Nat.lt_irrefl j), if_pos rfl, if_neg (Nat.lt_irrefl j), if_pos rfl, upd_at, upd_at, upd_at]
      exact ⟨hBq.1, rfl, rfl, rfl⟩
    · rw [if_pos (by omega), if_pos (by omega), if_pos (by omega), upd_ne q, upd_ne q, upd_ne q]
      exact hBq
  · have hBq := hB.2 j hj
    have q : j ≠ i := by omega
    rw [row3_8, row3_9, row3_10, row3_11]
    rw [upd_ne q, upd_ne q, upd_ne q]
    exact hBq

set_option maxHeartbeats 4000000 in
theorem c_X3_putBlocksInOrder {l : Launch} {D : va_G} {cI : ClassId} {ad : Nat → Nat} {iv : IV} {ar : AR} {b : BT} (hB : BB b iv ar) (hm : bm b ≤ 10) : Ct l D cI (cw cI ad) yX3_putBlocksInOrder cX3_putBlocksInOrder 3 none 2 45 [.ref (ad 4)] iv ar (qV (fun iv2 ar2 => (∀ k, k ≠ 4 → iv2 k = iv k) ∧ (∀ k, k < 8 ∨ 12 ≤ k → ar2 k = ar k) ∧ BB (bfin 10 b) iv2 ar2)) := by
  refine Ct.of (lv := [some (.ref (ad 4)), none, none]) cw_ok (plainFor_of_name (by decide)) (Nat.le_of_ble_eq_true rfl) 2 rfl rfl (fun Z F => ?_)
  refine k_iconst (pc := 0) (v := nI 0) F dX3_putBlocksInOrder_0 (by decide) ?_
  refine k_istore1 (pc := 1) F (by decide) dX3_putBlocksInOrder_1 ?_
  have L2 : ∀ (fu : Nat) (k : Nat) (x : BT) (iv1 : IV) (ar1 : AR), 10 - k < fu → k ≤ 10 → (∀ k, k ≠ 4 → iv1 k = iv k) → (∀ k, k < 8 ∨ 12 ≤ k → ar1 k = ar k) → BB x iv1 ar1 → bm x ≤ 10 → bfin (10 - k) x = bfin 10 b → Z 2 [some (.ref (ad 4)), some (.int (nI k)), none] [] iv1 ar1 := by
    intro fu
    induction fu with
    | zero => intro k x iv1 ar1 hfu; exact absurd hfu (Nat.not_lt_zero _)
    | succ fu ih =>
      intro k x iv1 ar1 hfu hk f1 g1 hx hxm he
      refine k_iload1 (pc := 2) F dX3_putBlocksInOrder_2 ?_
      refine k_bipush (pc := 3) (v := nI 10) F dX3_putBlocksInOrder_3 (by decide) ?_
      refine k_icmp_geN (pc := 5) (tgt := 30) F dX3_putBlocksInOrder_5 (by decide) (by omega) (by omega) (fun h5 => ?_) (fun h5 => ?_)
      · refine k_vret (pc := 30) F dX3_putBlocksInOrder_30 ?_
        have e : 10 - k = 0 := by omega
        rw [e] at he
        exact ⟨rfl, f1, g1, by rw [← he]; exact hx⟩
      · refine k_aload0 (pc := 8) F dX3_putBlocksInOrder_8 ?_
        refine k_callV (pc := 9) (q0 := 4) F (c_X3_findOutOfOrder hx hxm) ok_X3_95 rfl rfl rfl rfl rfl (by decide) (by decide) (Nat.le_of_ble_eq_true rfl) dX3_putBlocksInOrder_9 (qI.use (fun x9 iv9 ar9 h9 => ?_))
        obtain ⟨e9, e9b, hr⟩ := h9
        subst iv9
        subst ar9
        refine k_istore2 (pc := 12) F (by decide) dX3_putBlocksInOrder_12 ?_
        refine k_iload2 (pc := 13) F dX3_putBlocksInOrder_13 ?_
        refine k_iconst (pc := 14) (v := -1) F dX3_putBlocksInOrder_14 (by decide) ?_
        refine k_icmp_ne (pc := 15) (tgt := 19) F dX3_putBlocksInOrder_15 (by decide) (fun h15 => ?_) (fun h15 => ?_)
        · obtain ⟨i, hfo, e⟩ : ∃ i, foB x = some i ∧ x9 = nI i := by
            cases hq : foB x with
            | none => rw [hq] at hr; exact absurd hr h15
            | some i => rw [hq] at hr; exact ⟨i, rfl, hr⟩
          subst e
          have hspec := foF_spec 10 0 hfo
          refine k_aload0 (pc := 19) F dX3_putBlocksInOrder_19 ?_
          refine k_iload2 (pc := 20) F dX3_putBlocksInOrder_20 ?_
          refine k_callV (pc := 21) (q0 := 4) F (c_X3_joinWithNext hx hxm (i := i) hspec.2.1) ok_X3_98 rfl rfl rfl rfl rfl (by decide) (by decide) (Nat.le_of_ble_eq_true rfl) dX3_putBlocksInOrder_21 (qV.use (fun iv21 ar21 h21 => ?_))
          obtain ⟨k1, k2, k3⟩ := h21
          refine k_iinc1 (pc := 24) F (by decide) dX3_putBlocksInOrder_24 (inc_N _) ?_
          refine k_goto (pc := 27) (tgt := 2) F dX3_putBlocksInOrder_27 (by decide) ?_
          refine k_fg2 (pc := 2) F ?_
          refine ih (k + 1) (mrg x i) _ _ (by omega) (by omega) (fun q hq => ?_) (fun q hq => ?_) k3 (by show bm x - 1 ≤ 10; omega) ?_
          · rw [k1 q hq]; exact f1 q hq
          · rw [k2 q hq]; exact g1 q hq
          · rw [← he, show 10 - k = (10 - (k + 1)) + 1 by omega, bfin_s hfo]
        · refine k_vret (pc := 18) F dX3_putBlocksInOrder_18 ?_
          have hfo : foB x = none := by
            cases hq : foB x with
            | none => rfl
            | some i =>
              rw [hq] at hr
              have hsp := foF_spec 10 0 hq
              exact absurd (hr.symm.trans h15) (nI_ne_m1 (by omega))
          rw [bfin_n hfo] at he
          exact ⟨rfl, f1, g1, by rw [← he]; exact hx⟩
  exact L2 11 0 b iv ar (by omega) (by omega) (fun _ _ => rfl) (fun _ _ => rfl) hB hm rfl

set_option maxHeartbeats 4000000 in
theorem c_X3_fillFor {l : Launch} {D : va_G} {cI : ClassId} {ad : Nat → Nat} {iv : IV} {ar : AR} {n : Nat} {c : Nat → Nat} {s t : Nat → Int32} (hA : Arch n c s t iv ar) (hT : okT n t) (hM : okM (ar 5)) {set : Int32} : Ct l D cI (cw cI ad) yX3_fillFor cX3_fillFor 2 none 4 97 [.ref (ad 4), .int set] iv ar (qV (fun iv2 ar2 => (∀ k, k ≠ 4 → k ≠ 5 → k ≠ 6 → iv2 k = iv k) ∧ (∀ k, k < 6 ∨ 12 ≤ k → ar2 k = ar k) ∧ PB (cou (Sc c t (ar 5)) s set n) iv2 ar2 ∧ BB (blk (cou (Sc c t (ar 5)) s set n)) iv2 ar2)) := by
  refine Ct.of (lv := [some (.ref (ad 4)), some (.int set)]) cw_ok (plainFor_of_name (by decide)) (Nat.le_of_ble_eq_true rfl) 0 rfl rfl (fun Z F => ?_)
  have hn := hA.le
  have hC : okC (cou (Sc c t (ar 5)) s set n) := cou_ok hn
  refine k_aload0 (pc := 0) F dX3_fillFor_0 ?_
  refine k_iload1 (pc := 1) F dX3_fillFor_1 ?_
  refine k_callV (pc := 2) (q0 := 4) F (c_X3_countPairs hA hT hM) ok_X3_48 rfl rfl rfl rfl rfl (by decide) (by decide) (Nat.le_of_ble_eq_true rfl) dX3_fillFor_2 (qV.use (fun iv2 ar2 h2 => ?_))
  obtain ⟨a1, a2, a3⟩ := h2
  refine k_aload0 (pc := 5) F dX3_fillFor_5 ?_
  refine k_callV (pc := 6) (q0 := 4) F (c_X3_makeBlocks a3 hC) ok_X3_52 rfl rfl rfl rfl rfl (by decide) (by decide) (Nat.le_of_ble_eq_true rfl) dX3_fillFor_6 (qV.use (fun iv6 ar6 h6 => ?_))
  obtain ⟨b1, b2, b3⟩ := h6
  refine k_aload0 (pc := 9) F dX3_fillFor_9 ?_
  refine k_callV (pc := 10) (q0 := 4) F (c_X3_putBlocksInOrder b3 (mkB_le _ 10)) ok_X3_55 rfl rfl rfl rfl rfl (by decide) (by decide) (Nat.le_of_ble_eq_true rfl) dX3_fillFor_10 (qV.use (fun iv10 ar10 h10 => ?_))
  obtain ⟨c1, c2, c3⟩ := h10
  refine k_vret (pc := 13) F dX3_fillFor_13 ?_
  refine ⟨rfl, fun k k4 k5 k6 => ?_, fun k hk => ?_, ⟨?_, ?_, ?_, ?_⟩, c3⟩
  · rw [c1 k k4, b1 k k4, a1 k k5 k6]
  · rw [c2 k (by omega), b2 k (by omega), a2 k (by omega) (by omega)]
  · rw [c2 6 (by decide), b2 6 (by decide)]; exact a3.1
  · rw [c2 7 (by decide), b2 7 (by decide)]; exact a3.2.1
  · rw [c1 5 (by decide), b1 5 (by decide)]; exact a3.2.2.1
  · rw [c1 6 (by decide), b1 6 (by decide)]; exact a3.2.2.2

set_option maxHeartbeats 4000000 in
theorem c_X3_findBlock {l : Launch} {D : va_G} {cI : ClassId} {ad : Nat → Nat} {iv : IV} {ar : AR} {w : WT} (hP : PB w iv ar) (hC : okC w) (hB : BB (blk w) iv ar) {k : Nat} (hk : k < 10) : Ct l D cI (cw cI ad) yX3_findBlock cX3_findBlock 3 (some .int) 1 21 [.ref (ad 4), .int (nI k)] iv ar (qI (fun x iv2 ar2 => iv2 = iv ∧ ar2 = ar ∧ (match fbk w k with | none => x = -1 | some i => x = nI i))) := by
  refine Ct.of (lv := [some (.ref (ad 4)), some (.int (nI k)), none]) cw_ok (plainFor_of_name (by decide)) (Nat.le_of_ble_eq_true rfl) 1 rfl rfl (fun Z F => ?_)
  have hm := blk_le w
  refine k_aload0 (pc := 0) F dX3_findBlock_0 ?_
  refine k_iload1 (pc := 1) F dX3_findBlock_1 ?_
  refine k_callV (pc := 2) (q0 := 4) F (c_X3_isEmptyBand hP hC (k := k) (by omega)) ok_X3_91 rfl rfl rfl rfl rfl (by decide) (by decide) (Nat.le_of_ble_eq_true rfl) dX3_findBlock_2 (rI.use ?_)
  refine k_if_eqB (pc := 5) (tgt := 10) F dX3_findBlock_5 (by decide) (fun h5 => ?_) (fun h5 => ?_)
  · refine k_iconst (pc := 10) (v := nI 0) F dX3_findBlock_10 (by decide) ?_
    refine k_istore2 (pc := 11) F (by decide) dX3_findBlock_11 ?_
    have L12 : ∀ (fu : Nat) (i : Nat), 10 - i < fu → i ≤ bm (blk w) → (∀ j, j < i → ¬ k ≤ bl (blk w) j) → Z 12 [some (.ref (ad 4)), some (.int (nI k)), some (.int (nI i))] [] iv ar := by
      intro fu
      induction fu with
      | zero => intro i hfu; exact absurd hfu (Nat.not_lt_zero _)
      | succ fu ih =>
        intro i hfu hi ho
        refine k_iload2 (pc := 12) F dX3_findBlock_12 ?_
        refine k_aload0 (pc := 13) F dX3_findBlock_13 ?_
        refine g_X3_blocks (pc := 14) F (hB.1) dX3_findBlock_14 ?_
        refine k_icmp_geN (pc := 17) (tgt := 38) F dX3_findBlock_17 (by decide) (by omega) (by omega) (fun h17 => ?_) (fun h17 => ?_)
        · refine k_iconst (pc := 38) (v := -1) F dX3_findBlock_38 (by decide) ?_
          refine k_iret (pc := 39) F dX3_findBlock_39 ?_
          refine ⟨_, rfl, rfl, rfl, ?_⟩
          rw [fbk, if_neg h5, fbF_none 11 0 (by omega) (fun j _ hj => ho j (by omega))]
        · have hlt : i < bm (blk w) := by omega
          have hbl := blk_bl w i hlt
          refine k_iload1 (pc := 20) F dX3_findBlock_20 ?_
          refine k_aload0 (pc := 21) F dX3_findBlock_21 ?_
          refine g_X3_blockLast (pc := 22) F dX3_findBlock_22 ?_
          refine k_iload2 (pc := 25) F dX3_findBlock_25 ?_
          refine l_c9 (pc := 26) F (by omega) ((hB.2 i (by omega)).2.1) dX3_findBlock_26 ?_
          refine k_icmp_gtN (pc := 27) (tgt := 32) F dX3_findBlock_27 (by decide) (by omega) (by omega) (fun h27 => ?_) (fun h27 => ?_)
          · have hgt : ¬ k ≤ bl (blk w) i := by omega
            refine k_iinc2 (pc := 32) F (by decide) dX3_findBlock_32 (inc_N _) ?_
            refine k_goto (pc := 35) (tgt := 12) F dX3_findBlock_35 (by decide) ?_
            refine ih (i + 1) (by omega) (by omega) (fun j hj => ?_)
            by_cases e : j = i
            · subst e; exact hgt
            · exact ho j (by omega)
          · refine k_iload2 (pc := 30) F dX3_findBlock_30 ?_
            refine k_iret (pc := 31) F dX3_findBlock_31 ?_
            refine ⟨_, rfl, rfl, rfl, ?_⟩
            rw [fbk, if_neg h5, fbF_some hlt (by omega) 11 0 (by omega) (by omega) (fun j _ hj => ho j hj)]
    exact L12 11 0 (by omega) (by omega) (fun j hj => by omega)
  · refine k_iconst (pc := 8) (v := -1) F dX3_findBlock_8 (by decide) ?_
    refine k_iret (pc := 9) F dX3_findBlock_9 ?_
    exact ⟨_, rfl, rfl, rfl, by rw [fbk, if_pos h5]⟩

