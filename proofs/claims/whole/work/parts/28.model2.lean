/-- SCORE of two recordings -/
abbrev SC (c : Nat → Nat) (s t : Nat → Int32) (n : Nat) : Nat → Nat → Int32 := fun a b => sco c t (shA c s t n) a b
def MC (w : WT) (ar : AR) : Prop := (∀ k, k < 10 → ar 6 k = nI (w.1 k)) ∧ (∀ k, k < 10 → ar 7 k = nI (w.2 k))
section MB
variable {l : Launch} {D : va_G} {cI : ClassId} {ad : Nat → Nat} {iv : IV} {ar : AR} {n : Nat} {c : Nat → Nat} {s t : Nat → Int32}
theorem cm_scoreOf (hA : MArc n c s t iv ar) (h5 : ∀ j, j < 24 → ar 5 j = shA c s t n j) {a b : Nat} (ha : a < n) (hb : b < n) : Ct l D cI (mw cI ad) yX8_scoreOf cX8_scoreOf 9 (some .int) 0 0 [.ref (ad 0), .int (nI a), .int (nI b)] iv ar (rI (SC c s t n a b) iv ar) := by
  have h := c_X8_scoreOf (l := l) (D := D) (cI := cI) (ad := ad) hA ha hb
  rw [sco_congr (hA.lt ha) (hA.lt hb) h5] at h
  exact h
theorem cm_isOf (hA : MArc n c s t iv ar) {set : Int32} (hs : iv 1 = set) {k : Nat} (hk : k < n) : Ct l D cI (mw cI ad) yX8_isOf cX8_isOf 2 (some .boolean) 0 0 [.ref (ad 0), .int (nI k)] iv ar (rI (bI (ofS set (s k))) iv ar) := by
  have h := c_X8_isOf (l := l) (D := D) (cI := cI) (ad := ad) hA hk
  subst hs
  exact h
end MB
theorem SC_B {c : Nat → Nat} {s t : Nat → Int32} {n a b : Nat} (hT : okT n t) (hn : n ≤ 30) (ha : a < n) (hb : b < n) (hca : c a < 4) (hcb : c b < 4) : okSc (SC c s t n a b) := sco_B hT (shA_B hT hn) ha hb hca hcb
theorem SC_sym (c : Nat → Nat) (s t : Nat → Int32) (n a b : Nat) : SC c s t n a b = SC c s t n b a := sco_sym c t _ a b
set_option maxHeartbeats 4000000 in
theorem c_X8_counts {l : Launch} {D : va_G} {cI : ClassId} {ad : Nat → Nat} {iv : IV} {ar : AR} {n : Nat} {c : Nat → Nat} {s t : Nat → Int32} (hA : MArc n c s t iv ar) (hT : okT n t) {set : Int32} (hset : iv 1 = set) : Ct l D cI (mw cI ad) yX8_counts cX8_counts 4 none 3 72 [.ref (ad 0)] iv ar (qV (fun iv2 ar2 => (∀ q, q ≠ 5 → iv2 q = iv q) ∧ (∀ q, q < 5 ∨ 8 ≤ q → ar2 q = ar q) ∧ (∀ j, j < 24 → ar2 5 j = shA c s t n j) ∧ MC (cou (SC c s t n) s set n) ar2)) := by
  refine Ct.of (lv := [some (.ref (ad 0)), none, none, none]) mw_ok (plainFor_of_name (by decide)) (Nat.le_of_ble_eq_true rfl) 3 rfl rfl (fun Z F => ?_)
  have hn := hA.le
  refine k_aload0 (pc := 0) F dX8_counts_0 ?_
  refine k_callV (pc := 1) (q0 := 0) F (c_X8_reckons hA hT) ok_X8_78 rfl rfl rfl rfl rfl (by decide) (by decide) (Nat.le_of_ble_eq_true rfl) dX8_counts_1 (qV.use (fun ivR arR hR => ?_))
  obtain ⟨r1, r2, r3⟩ := hR
  have hAR : MArc n c s t ivR arR := hA.keep (r1 0 (by decide)) (r2 0 (by decide)) (r2 1 (by decide)) (r2 2 (by decide))
  have hsR : ivR 1 = set := by rw [r1 1 (by decide)]; exact hset
  refine k_iconst (pc := 4) (v := nI 0) F dX8_counts_4 (by decide) ?_
  refine k_istore1 (pc := 5) F (by decide) dX8_counts_5 ?_
  have L6 : ∀ (fu : Nat) (k : Nat) (ar1 : AR), 10 - k < fu → k ≤ 10 → (∀ q, q ≠ 6 → q ≠ 7 → ar1 q = arR q) → (∀ j, j < k → ar1 6 j = nI 0 ∧ ar1 7 j = nI 0) → Z 6 [some (.ref (ad 0)), some (.int (nI k)), none, none] [] ivR ar1 := by
    intro fu
    induction fu with
    | zero => intro k ar1 hfu; exact absurd hfu (Nat.not_lt_zero _)
    | succ fu ih =>
      intro k ar1 hfu hk g1 hz
      refine k_iload1 (pc := 6) F dX8_counts_6 ?_
      refine k_bipush (pc := 7) (v := nI 10) F dX8_counts_7 (by decide) ?_
      refine k_icmp_geN (pc := 9) (tgt := 32) F dX8_counts_9 (by decide) (by omega) (by omega) (fun h9 => ?_) (fun h9 => ?_)
      · have e : k = 10 := by omega
        subst e
        refine k_iconst (pc := 32) (v := nI 0) F dX8_counts_32 (by decide) ?_
        refine k_istore1 (pc := 33) F (by decide) dX8_counts_33 ?_
        have L34 : ∀ (fu : Nat) (a : Nat) (ar2 : AR), n - a < fu → a ≤ n → (∀ q, q ≠ 6 → q ≠ 7 → ar2 q = arR q) → MC (cou (SC c s t n) s set a) ar2 → Z 34 [some (.ref (ad 0)), some (.int (nI a)), none, none] [] ivR ar2 := by
          intro fu
          induction fu with
          | zero => intro a ar2 hfu; exact absurd hfu (Nat.not_lt_zero _)
          | succ fu ih =>
            intro a ar2 hfu ha g2 hc
            refine k_iload1 (pc := 34) F dX8_counts_34 ?_
            refine k_aload0 (pc := 35) F dX8_counts_35 ?_
            refine g_X8_recordings (pc := 36) F (hAR.1) dX8_counts_36 ?_
            refine k_icmp_geN (pc := 39) (tgt := 140) F dX8_counts_39 (by decide) (by omega) (by omega) (fun h39 => ?_) (fun h39 => ?_)
            · have e : n = a := by omega
              subst e
              refine k_vret (pc := 140) F dX8_counts_140 ?_
              refine ⟨rfl, r1, fun q hq => ?_, ?_, hc⟩
              · rw [g2 q (by omega) (by omega), r2 q (by omega)]
              · rw [g2 5 (by decide) (by decide)]; exact r3
            · refine k_iconst (pc := 42) (v := nI 0) F dX8_counts_42 (by decide) ?_
              refine k_istore2 (pc := 43) F (by decide) dX8_counts_43 ?_
              have L44 : ∀ (fu : Nat) (b : Nat) (ar3 : AR), a - b < fu → b ≤ a → (∀ q, q ≠ 6 → q ≠ 7 → ar3 q = arR q) → MC (cin (SC c s t n) s set a (cou (SC c s t n) s set a) b) ar3 → Z 44 [some (.ref (ad 0)), some (.int (nI a)), some (.int (nI b)), none] [] ivR ar3 := by
                intro fu
                induction fu with
                | zero => intro b ar3 hfu; exact absurd hfu (Nat.not_lt_zero _)
                | succ fu ih2 =>
                  intro b ar3 hfu hb g3 hc3
                  have hA3 : MArc n c s t ivR ar3 := hAR.keep rfl (g3 0 (by decide) (by decide)) (g3 1 (by decide) (by decide)) (g3 2 (by decide) (by decide))
                  have h53 : ∀ j, j < 24 → ar3 5 j = shA c s t n j := by rw [g3 5 (by decide) (by decide)]; exact r3
                  refine k_iload2 (pc := 44) F dX8_counts_44 ?_
                  refine k_iload1 (pc := 45) F dX8_counts_45 ?_
                  refine k_icmp_geN (pc := 46) (tgt := 134) F dX8_counts_46 (by decide) (by omega) (by omega) (fun h46 => ?_) (fun h46 => ?_)
                  · have e : a = b := by omega
                    subst e
                    refine k_iinc1 (pc := 134) F (by decide) dX8_counts_134 (inc_N _) ?_
                    refine k_goto (pc := 137) (tgt := 34) F dX8_counts_137 (by decide) ?_
                    refine k_fg2 (pc := 34) F ?_
                    exact ih (a + 1) _ (by omega) (by omega) g3 hc3
                  · refine k_aload0 (pc := 49) F dX8_counts_49 ?_
                    refine k_iload1 (pc := 50) F dX8_counts_50 ?_
                    refine k_callV (pc := 51) (q0 := 0) F (cm_isOf hA3 hsR (k := a) (by omega)) ok_X8_84 rfl rfl rfl rfl rfl (by decide) (by decide) (Nat.le_of_ble_eq_true rfl) dX8_counts_51 (rI.use ?_)
                    refine k_if_eqB (pc := 54) (tgt := 74) F dX8_counts_54 (by decide) (fun h54 => ?_) (fun h54 => ?_)
                    · refine k_iconst (pc := 74) (v := -1) F dX8_counts_74 (by decide) ?_
                      refine k_istore3 (pc := 75) F (by decide) dX8_counts_75 ?_
                      refine k_iload3 (pc := 76) F dX8_counts_76 ?_
                      refine k_iconst (pc := 77) (v := -1) F dX8_counts_77 (by decide) ?_
                      refine k_icmp_ne (pc := 78) (tgt := 84) F dX8_counts_78 (by decide) (fun h => absurd h (by decide)) (fun _ => ?_)
                      refine k_goto (pc := 81) (tgt := 128) F dX8_counts_81 (by decide) ?_
                      refine k_iinc2 (pc := 128) F (by decide) dX8_counts_128 (inc_N _) ?_
                      refine k_goto (pc := 131) (tgt := 44) F dX8_counts_131 (by decide) ?_
                      refine k_fg3 (pc := 44) F ?_
                      have e : (cin (SC c s t n) s set a (cou (SC c s t n) s set a) (b + 1)) = (cin (SC c s t n) s set a (cou (SC c s t n) s set a) b) := by first | exact if_neg (fun q => h54 q.2) | exact if_neg (fun q => h62 q.1) | exact (if_pos ⟨h62, h54⟩).trans (if_pos ((SC_sym c s t n b a).trans h78))
                      exact ih2 (b + 1) ar3 (by omega) (by omega) g3 (by rw [e]; exact hc3)
                    · refine k_aload0 (pc := 57) F dX8_counts_57 ?_
                      refine k_iload2 (pc := 58) F dX8_counts_58 ?_
                      refine k_callV (pc := 59) (q0 := 0) F (cm_isOf hA3 hsR (k := b) (by omega)) ok_X8_84 rfl rfl rfl rfl rfl (by decide) (by decide) (Nat.le_of_ble_eq_true rfl) dX8_counts_59 (rI.use ?_)
                      refine k_if_eqB (pc := 62) (tgt := 74) F dX8_counts_62 (by decide) (fun h62 => ?_) (fun h62 => ?_)
                      · refine k_iconst (pc := 74) (v := -1) F dX8_counts_74 (by decide) ?_
                        refine k_istore3 (pc := 75) F (by decide) dX8_counts_75 ?_
                        refine k_iload3 (pc := 76) F dX8_counts_76 ?_
                        refine k_iconst (pc := 77) (v := -1) F dX8_counts_77 (by decide) ?_
                        refine k_icmp_ne (pc := 78) (tgt := 84) F dX8_counts_78 (by decide) (fun h => absurd h (by decide)) (fun _ => ?_)
                        refine k_goto (pc := 81) (tgt := 128) F dX8_counts_81 (by decide) ?_
                        refine k_iinc2 (pc := 128) F (by decide) dX8_counts_128 (inc_N _) ?_
                        refine k_goto (pc := 131) (tgt := 44) F dX8_counts_131 (by decide) ?_
                        refine k_fg3 (pc := 44) F ?_
                        have e : (cin (SC c s t n) s set a (cou (SC c s t n) s set a) (b + 1)) = (cin (SC c s t n) s set a (cou (SC c s t n) s set a) b) := by first | exact if_neg (fun q => h54 q.2) | exact if_neg (fun q => h62 q.1) | exact (if_pos ⟨h62, h54⟩).trans (if_pos ((SC_sym c s t n b a).trans h78))
                        exact ih2 (b + 1) ar3 (by omega) (by omega) g3 (by rw [e]; exact hc3)
                      · refine k_aload0 (pc := 65) F dX8_counts_65 ?_
                        refine k_iload1 (pc := 66) F dX8_counts_66 ?_
                        refine k_iload2 (pc := 67) F dX8_counts_67 ?_
                        refine k_callV (pc := 68) (q0 := 0) F (cm_scoreOf hA3 h53 (a := a) (b := b) (by omega) (by omega)) ok_X8_81 rfl rfl rfl rfl rfl (by decide) (by decide) (Nat.le_of_ble_eq_true rfl) dX8_counts_68 (rI.use ?_)
                        refine k_goto (pc := 71) (tgt := 75) F dX8_counts_71 (by decide) ?_
                        refine k_istore3 (pc := 75) F (by decide) dX8_counts_75 ?_
                        refine k_iload3 (pc := 76) F dX8_counts_76 ?_
                        refine k_iconst (pc := 77) (v := -1) F dX8_counts_77 (by decide) ?_
                        refine k_icmp_ne (pc := 78) (tgt := 84) F dX8_counts_78 (by decide) (fun h78 => ?_) (fun h78 => ?_)
                        · obtain ⟨v, hv, ev⟩ := (SC_B hT hn (show a < n by omega) (show b < n by omega) (hA.lt (by omega)) (hA.lt (by omega)) (s := s)).get h78
                          have hbv := bnd_lt v
                          have eb : bS (SC c s t n a b) = bnd v := by rw [ev]; exact bS_nI (by omega)
                          rw [ev]
                          refine k_aload0 (pc := 84) F dX8_counts_84 ?_
                          refine g_X8_speaker (pc := 85) F dX8_counts_85 ?_
                          refine k_iload1 (pc := 88) F dX8_counts_88 ?_
                          refine l_m2 (pc := 89) F (by omega) (hA3.sp (show a < n by omega)) dX8_counts_89 ?_
                          refine k_aload0 (pc := 90) F dX8_counts_90 ?_
                          refine g_X8_speaker (pc := 91) F dX8_counts_91 ?_
                          refine k_iload2 (pc := 94) F dX8_counts_94 ?_
                          refine l_m2 (pc := 95) F (by omega) (hA3.sp (show b < n by omega)) dX8_counts_95 ?_
                          refine k_icmp_ne (pc := 96) (tgt := 115) F dX8_counts_96 (by decide) (fun h96 => ?_) (fun h96 => ?_)
                          · refine k_aload0 (pc := 115) F dX8_counts_115 ?_
                            refine g_X8_other (pc := 116) F dX8_counts_116 ?_
                            refine k_iload3 (pc := 119) F dX8_counts_119 ?_
                            refine k_callS (pc := 120) F (c_X8_bandOf mw_ok (v := v) (by omega)) ok_X8_87 rfl rfl (by decide) (by decide) (Nat.le_of_ble_eq_true rfl) dX8_counts_120 (rI.use ?_)
                            refine k_dup2 (pc := 123) F dX8_counts_123 rfl rfl ?_
                            refine l_m7 (pc := 124) F (by omega) (hc3.2 (bnd v) hbv) dX8_counts_124 ?_
                            refine k_iconst (pc := 125) (v := nI 1) F dX8_counts_125 (by decide) ?_
                            refine k_iaddN (pc := 126) F dX8_counts_126 ?_
                            refine s_m7 (pc := 127) F (by omega) (rfl) dX8_counts_127 ?_
                            refine k_iinc2 (pc := 128) F (by decide) dX8_counts_128 (inc_N _) ?_
                            refine k_goto (pc := 131) (tgt := 44) F dX8_counts_131 (by decide) ?_
                            refine k_fg3 (pc := 44) F ?_
                            have e : (cin (SC c s t n) s set a (cou (SC c s t n) s set a) (b + 1)) = ((cin (SC c s t n) s set a (cou (SC c s t n) s set a) b).1, va_up (cin (SC c s t n) s set a (cou (SC c s t n) s set a) b).2 (bnd v) ((cin (SC c s t n) s set a (cou (SC c s t n) s set a) b).2 (bnd v) + 1)) := (if_pos ⟨h62, h54⟩).trans (by rw [cp1, SC_sym c s t n b a, if_neg h78, if_neg (fun q => h96 q.symm), eb])
                            refine ih2 (b + 1) _ (by omega) (by omega) (fun q q6 q7 => ?_) (by
                              rw [e]
                              refine ⟨fun k hk => ?_, fun k hk => ?_⟩
                              · show va_up ar3 7 _ 6 k = nI ((cin (SC c s t n) s set a (cou (SC c s t n) s set a) b).1 k)
                                rw [up_n (by decide)]; exact hc3.1 k hk
                              · show va_up ar3 7 _ 7 k = nI (va_up _ _ _ k)
                                rw [up_s]
                                by_cases q : k = bnd v
                                · subst q; rw [upd_at, up_s]
                                · rw [upd_ne q, up_n q]; exact hc3.2 k hk)
                            rw [up_n q7]; exact g3 q q6 q7
                          · refine k_aload0 (pc := 99) F dX8_counts_99 ?_
                            refine g_X8_same (pc := 100) F dX8_counts_100 ?_
                            refine k_iload3 (pc := 103) F dX8_counts_103 ?_
                            refine k_callS (pc := 104) F (c_X8_bandOf mw_ok (v := v) (by omega)) ok_X8_87 rfl rfl (by decide) (by decide) (Nat.le_of_ble_eq_true rfl) dX8_counts_104 (rI.use ?_)
                            refine k_dup2 (pc := 107) F dX8_counts_107 rfl rfl ?_
                            refine l_m6 (pc := 108) F (by omega) (hc3.1 (bnd v) hbv) dX8_counts_108 ?_
                            refine k_iconst (pc := 109) (v := nI 1) F dX8_counts_109 (by decide) ?_
                            refine k_iaddN (pc := 110) F dX8_counts_110 ?_
                            refine s_m6 (pc := 111) F (by omega) (rfl) dX8_counts_111 ?_
                            refine k_goto (pc := 112) (tgt := 128) F dX8_counts_112 (by decide) ?_
                            refine k_iinc2 (pc := 128) F (by decide) dX8_counts_128 (inc_N _) ?_
                            refine k_goto (pc := 131) (tgt := 44) F dX8_counts_131 (by decide) ?_
                            refine k_fg3 (pc := 44) F ?_
                            have e : (cin (SC c s t n) s set a (cou (SC c s t n) s set a) (b + 1)) = (va_up (cin (SC c s t n) s set a (cou (SC c s t n) s set a) b).1 (bnd v) ((cin (SC c s t n) s set a (cou (SC c s t n) s set a) b).1 (bnd v) + 1), (cin (SC c s t n) s set a (cou (SC c s t n) s set a) b).2) := (if_pos ⟨h62, h54⟩).trans (by rw [cp1, SC_sym c s t n b a, if_neg h78, if_pos h96.symm, eb])
                            refine ih2 (b + 1) _ (by omega) (by omega) (fun q q6 q7 => ?_) (by
                              rw [e]
                              refine ⟨fun k hk => ?_, fun k hk => ?_⟩
                              · show va_up ar3 6 _ 6 k = nI (va_up _ _ _ k)
                                rw [up_s]
                                by_cases q : k = bnd v
                                · subst q; rw [upd_at, up_s]
                                · rw [upd_ne q, up_n q]; exact hc3.1 k hk
                              · show va_up ar3 6 _ 7 k = nI ((cin (SC c s t n) s set a (cou (SC c s t n) s set a) b).2 k)
                                rw [up_n (by decide)]; exact hc3.2 k hk)
                            rw [up_n q6]; exact g3 q q6 q7
                        · refine k_goto (pc := 81) (tgt := 128) F dX8_counts_81 (by decide) ?_
                          refine k_iinc2 (pc := 128) F (by decide) dX8_counts_128 (inc_N _) ?_
                          refine k_goto (pc := 131) (tgt := 44) F dX8_counts_131 (by decide) ?_
                          refine k_fg3 (pc := 44) F ?_
                          have e : (cin (SC c s t n) s set a (cou (SC c s t n) s set a) (b + 1)) = (cin (SC c s t n) s set a (cou (SC c s t n) s set a) b) := by first | exact if_neg (fun q => h54 q.2) | exact if_neg (fun q => h62 q.1) | exact (if_pos ⟨h62, h54⟩).trans (if_pos ((SC_sym c s t n b a).trans h78))
                          exact ih2 (b + 1) ar3 (by omega) (by omega) g3 (by rw [e]; exact hc3)
              exact L44 (a + 1) 0 ar2 (by omega) (by omega) g2 hc
        exact L34 (n + 1) 0 ar1 (by omega) (by omega) g1 ⟨fun k hk => (hz k (by omega)).1, fun k hk => (hz k (by omega)).2⟩
      · refine k_aload0 (pc := 12) F dX8_counts_12 ?_
        refine g_X8_same (pc := 13) F dX8_counts_13 ?_
        refine k_iload1 (pc := 16) F dX8_counts_16 ?_
        refine k_iconst (pc := 17) (v := nI 0) F dX8_counts_17 (by decide) ?_
        refine s_m6 (pc := 18) F (by omega) (rfl) dX8_counts_18 ?_
        refine k_aload0 (pc := 19) F dX8_counts_19 ?_
        refine g_X8_other (pc := 20) F dX8_counts_20 ?_
        refine k_iload1 (pc := 23) F dX8_counts_23 ?_
        refine k_iconst (pc := 24) (v := nI 0) F dX8_counts_24 (by decide) ?_
        refine s_m7 (pc := 25) F (by omega) ((up_n (by decide)).trans (rfl)) dX8_counts_25 ?_
        refine k_iinc1 (pc := 26) F (by decide) dX8_counts_26 (inc_N _) ?_
        refine k_goto (pc := 29) (tgt := 6) F dX8_counts_29 (by decide) ?_
        refine ih (k + 1) _ (by omega) (by omega) (fun q q6 q7 => ?_) (fun j hj => ?_)
        · rw [up_n q7, up_n q6]; exact g1 q q6 q7
        · rw [up_n (by decide : (6 : Nat) ≠ 7), up_s, up_s]
          by_cases e : j = k
          · subst e; exact ⟨upd_at, upd_at⟩
          · rw [upd_ne e, upd_ne e]; exact hz j (by omega)
  exact L6 11 0 arR (by omega) (by omega) (fun _ _ _ => rfl) (fun j hj => by omega)

set_option maxHeartbeats 4000000 in
theorem c_X8_sumOf1 {l : Launch} {D : va_G} {cI : ClassId} {ad : Nat → Nat} {iv : IV} {ar : AR} {w : WT} (hc : MC w ar) {y : Int32} : Ct l D cI (mw cI ad) yX8_sumOf cX8_sumOf 5 (some .int) 0 0 [.ref (ad 0), .int y, .int (nI 1)] iv ar (rI (nI (smN (fun q => if ar 8 q = y then w.1 q else 0) 10)) iv ar) := by
  refine Ct.of (lv := [some (.ref (ad 0)), some (.int y), some (.int (nI 1)), none, none]) mw_ok (plainFor_of_name (by decide)) (Nat.le_of_ble_eq_true rfl) 2 rfl rfl (fun Z F => ?_)
  refine k_iconst (pc := 0) (v := nI 0) F dX8_sumOf_0 (by decide) ?_
  refine k_istore3 (pc := 1) F (by decide) dX8_sumOf_1 ?_
  refine k_iconst (pc := 2) (v := nI 0) F dX8_sumOf_2 (by decide) ?_
  refine k_istore4 (pc := 3) F (by decide) dX8_sumOf_3 ?_
  have L5 : ∀ (fu : Nat) (k : Nat), 10 - k < fu → k ≤ 10 → Z 5 [some (.ref (ad 0)), some (.int y), some (.int (nI 1)), some (.int (nI (smN (fun q => if ar 8 q = y then w.1 q else 0) k))), some (.int (nI k))] [] iv ar := by
    intro fu
    induction fu with
    | zero => intro k hfu; exact absurd hfu (Nat.not_lt_zero _)
    | succ fu ih =>
      intro k hfu hk
      refine k_iload4 (pc := 5) F dX8_sumOf_5 ?_
      refine k_bipush (pc := 7) (v := nI 10) F dX8_sumOf_7 (by decide) ?_
      refine k_icmp_geN (pc := 9) (tgt := 53) F dX8_sumOf_9 (by decide) (by omega) (by omega) (fun h9 => ?_) (fun h9 => ?_)
      · have e : k = 10 := by omega
        subst e
        refine k_iload3 (pc := 53) F dX8_sumOf_53 ?_
        refine k_iret (pc := 54) F dX8_sumOf_54 ?_
        exact ⟨rfl, rfl, rfl⟩
      · refine k_aload0 (pc := 12) F dX8_sumOf_12 ?_
        refine g_X8_first (pc := 13) F dX8_sumOf_13 ?_
        refine k_iload4 (pc := 16) F dX8_sumOf_16 ?_
        refine l_m8 (pc := 18) F (by omega) rfl dX8_sumOf_18 ?_
        refine k_iload1 (pc := 19) F dX8_sumOf_19 ?_
        refine k_icmp_ne (pc := 20) (tgt := 47) F dX8_sumOf_20 (by decide) (fun h20 => ?_) (fun h20 => ?_)
        · refine k_iinc4 (pc := 47) F (by decide) dX8_sumOf_47 (inc_N _) ?_
          refine k_goto (pc := 50) (tgt := 5) F dX8_sumOf_50 (by decide) ?_
          have e : (smN (fun q => if ar 8 q = y then w.1 q else 0) (k + 1)) = (smN (fun q => if ar 8 q = y then w.1 q else 0) k) := by rw [smN, if_neg h20, Nat.add_zero]
          have kk := ih (k + 1) (by omega) (by omega)
          rw [e] at kk
          exact kk
        · refine k_iload3 (pc := 23) F dX8_sumOf_23 ?_
          refine k_iload2 (pc := 24) F dX8_sumOf_24 ?_
          refine k_if_eq (pc := 25) (tgt := 38) F dX8_sumOf_25 (by decide) (fun h => absurd h (by decide)) (fun _ => ?_)
          refine k_aload0 (pc := 28) F dX8_sumOf_28 ?_
          refine g_X8_same (pc := 29) F dX8_sumOf_29 ?_
          refine k_iload4 (pc := 32) F dX8_sumOf_32 ?_
          refine l_m6 (pc := 34) F (by omega) (hc.1 k (by omega)) dX8_sumOf_34 ?_
          refine k_goto (pc := 35) (tgt := 45) F dX8_sumOf_35 (by decide) ?_
          refine k_iaddN (pc := 45) F dX8_sumOf_45 ?_
          refine k_istore3 (pc := 46) F (by decide) dX8_sumOf_46 ?_
          refine k_iinc4 (pc := 47) F (by decide) dX8_sumOf_47 (inc_N _) ?_
          refine k_goto (pc := 50) (tgt := 5) F dX8_sumOf_50 (by decide) ?_
          have e : (smN (fun q => if ar 8 q = y then w.1 q else 0) (k + 1)) = (smN (fun q => if ar 8 q = y then w.1 q else 0) k) + w.1 k := by rw [smN, if_pos h20]
          have kk := ih (k + 1) (by omega) (by omega)
          rw [e] at kk
          exact kk
  exact L5 11 0 (by omega) (by omega)

set_option maxHeartbeats 4000000 in
theorem c_X8_sumOf0 {l : Launch} {D : va_G} {cI : ClassId} {ad : Nat → Nat} {iv : IV} {ar : AR} {w : WT} (hc : MC w ar) {y : Int32} : Ct l D cI (mw cI ad) yX8_sumOf cX8_sumOf 5 (some .int) 0 0 [.ref (ad 0), .int y, .int (nI 0)] iv ar (rI (nI (smN (fun q => if ar 8 q = y then w.2 q else 0) 10)) iv ar) := by
  refine Ct.of (lv := [some (.ref (ad 0)), some (.int y), some (.int (nI 0)), none, none]) mw_ok (plainFor_of_name (by decide)) (Nat.le_of_ble_eq_true rfl) 2 rfl rfl (fun Z F => ?_)
  refine k_iconst (pc := 0) (v := nI 0) F dX8_sumOf_0 (by decide) ?_
  refine k_istore3 (pc := 1) F (by decide) dX8_sumOf_1 ?_
  refine k_iconst (pc := 2) (v := nI 0) F dX8_sumOf_2 (by decide) ?_
  refine k_istore4 (pc := 3) F (by decide) dX8_sumOf_3 ?_
  have L5 : ∀ (fu : Nat) (k : Nat), 10 - k < fu → k ≤ 10 → Z 5 [some (.ref (ad 0)), some (.int y), some (.int (nI 0)), some (.int (nI (smN (fun q => if ar 8 q = y then w.2 q else 0) k))), some (.int (nI k))] [] iv ar := by
    intro fu
    induction fu with
    | zero => intro k hfu; exact absurd hfu (Nat.not_lt_zero _)
    | succ fu ih =>
      intro k hfu hk
      refine k_iload4 (pc := 5) F dX8_sumOf_5 ?_
      refine k_bipush (pc := 7) (v := nI 10) F dX8_sumOf_7 (by decide) ?_
      refine k_icmp_geN (pc := 9) (tgt := 53) F dX8_sumOf_9 (by decide) (by omega) (by omega) (fun h9 => ?_) (fun h9 => ?_)
      · have e : k = 10 := by omega
        subst e
        refine k_iload3 (pc := 53) F dX8_sumOf_53 ?_
        refine k_iret (pc := 54) F dX8_sumOf_54 ?_
        exact ⟨rfl, rfl, rfl⟩
      · refine k_aload0 (pc := 12) F dX8_sumOf_12 ?_
        refine g_X8_first (pc := 13) F dX8_sumOf_13 ?_
        refine k_iload4 (pc := 16) F dX8_sumOf_16 ?_
        refine l_m8 (pc := 18) F (by omega) rfl dX8_sumOf_18 ?_
        refine k_iload1 (pc := 19) F dX8_sumOf_19 ?_
        refine k_icmp_ne (pc := 20) (tgt := 47) F dX8_sumOf_20 (by decide) (fun h20 => ?_) (fun h20 => ?_)
        · refine k_iinc4 (pc := 47) F (by decide) dX8_sumOf_47 (inc_N _) ?_
          refine k_goto (pc := 50) (tgt := 5) F dX8_sumOf_50 (by decide) ?_
          have e : (smN (fun q => if ar 8 q = y then w.2 q else 0) (k + 1)) = (smN (fun q => if ar 8 q = y then w.2 q else 0) k) := by rw [smN, if_neg h20, Nat.add_zero]
          have kk := ih (k + 1) (by omega) (by omega)
          rw [e] at kk
          exact kk
        · refine k_iload3 (pc := 23) F dX8_sumOf_23 ?_
          refine k_iload2 (pc := 24) F dX8_sumOf_24 ?_
          refine k_if_eq (pc := 25) (tgt := 38) F dX8_sumOf_25 (by decide) (fun _ => ?_) (fun h => absurd h (by decide))
          refine k_aload0 (pc := 38) F dX8_sumOf_38 ?_
          refine g_X8_other (pc := 39) F dX8_sumOf_39 ?_
          refine k_iload4 (pc := 42) F dX8_sumOf_42 ?_
          refine l_m7 (pc := 44) F (by omega) (hc.2 k (by omega)) dX8_sumOf_44 ?_
          refine k_iaddN (pc := 45) F dX8_sumOf_45 ?_
          refine k_istore3 (pc := 46) F (by decide) dX8_sumOf_46 ?_
          refine k_iinc4 (pc := 47) F (by decide) dX8_sumOf_47 (inc_N _) ?_
          refine k_goto (pc := 50) (tgt := 5) F dX8_sumOf_50 (by decide) ?_
          have e : (smN (fun q => if ar 8 q = y then w.2 q else 0) (k + 1)) = (smN (fun q => if ar 8 q = y then w.2 q else 0) k) + w.2 k := by rw [smN, if_pos h20]
          have kk := ih (k + 1) (by omega) (by omega)
          rw [e] at kk
          exact kk
  exact L5 11 0 (by omega) (by omega)

set_option maxHeartbeats 4000000 in
theorem c_X8_nextBlock {l : Launch} {D : va_G} {cI : ClassId} {ad : Nat → Nat} {iv : IV} {ar : AR} {k : Nat} (hk : k < 10) : Ct l D cI (mw cI ad) yX8_nextBlock cX8_nextBlock 3 (some .int) 0 0 [.ref (ad 0), .int (nI k)] iv ar (qI (fun x iv2 ar2 => iv2 = iv ∧ ar2 = ar ∧ ((x = -1 ∧ ∀ j, k < j → j < 10 → ¬ ar 8 j = nI j) ∨ ∃ j, x = nI j ∧ k < j ∧ j < 10 ∧ ar 8 j = nI j ∧ ∀ q, k < q → q < j → ¬ ar 8 q = nI q))) := by
  refine Ct.of (lv := [some (.ref (ad 0)), some (.int (nI k)), none]) mw_ok (plainFor_of_name (by decide)) (Nat.le_of_ble_eq_true rfl) 1 rfl rfl (fun Z F => ?_)
  refine k_iload1 (pc := 0) F dX8_nextBlock_0 ?_
  refine k_iconst (pc := 1) (v := nI 1) F dX8_nextBlock_1 (by decide) ?_
  refine k_iaddN (pc := 2) F dX8_nextBlock_2 ?_
  refine k_istore2 (pc := 3) F (by decide) dX8_nextBlock_3 ?_
  have L4 : ∀ (fu : Nat) (j : Nat), 10 - j < fu → k < j → j ≤ 10 → (∀ q, k < q → q < j → ¬ ar 8 q = nI q) → Z 4 [some (.ref (ad 0)), some (.int (nI k)), some (.int (nI j))] [] iv ar := by
    intro fu
    induction fu with
    | zero => intro j hfu; exact absurd hfu (Nat.not_lt_zero _)
    | succ fu ih =>
      intro j hfu hkj hj ho
      refine k_iload2 (pc := 4) F dX8_nextBlock_4 ?_
      refine k_bipush (pc := 5) (v := nI 10) F dX8_nextBlock_5 (by decide) ?_
      refine k_icmp_geN (pc := 7) (tgt := 28) F dX8_nextBlock_7 (by decide) (by omega) (by omega) (fun h7 => ?_) (fun h7 => ?_)
      · refine k_iconst (pc := 28) (v := -1) F dX8_nextBlock_28 (by decide) ?_
        refine k_iret (pc := 29) F dX8_nextBlock_29 ?_
        exact ⟨_, rfl, rfl, rfl, Or.inl ⟨rfl, fun q h1 h2 => ho q h1 (by omega)⟩⟩
      · refine k_aload0 (pc := 10) F dX8_nextBlock_10 ?_
        refine g_X8_first (pc := 11) F dX8_nextBlock_11 ?_
        refine k_iload2 (pc := 14) F dX8_nextBlock_14 ?_
        refine l_m8 (pc := 15) F (by omega) rfl dX8_nextBlock_15 ?_
        refine k_iload2 (pc := 16) F dX8_nextBlock_16 ?_
        refine k_icmp_ne (pc := 17) (tgt := 22) F dX8_nextBlock_17 (by decide) (fun h17 => ?_) (fun h17 => ?_)
        · refine k_iinc2 (pc := 22) F (by decide) dX8_nextBlock_22 (inc_N _) ?_
          refine k_goto (pc := 25) (tgt := 4) F dX8_nextBlock_25 (by decide) ?_
          refine ih (j + 1) (by omega) (by omega) (by omega) (fun q h1 h2 => ?_)
          by_cases e : q = j
          · subst e; exact h17
          · exact ho q h1 (by omega)
        · refine k_iload2 (pc := 20) F dX8_nextBlock_20 ?_
          refine k_iret (pc := 21) F dX8_nextBlock_21 ?_
          exact ⟨_, rfl, rfl, rfl, Or.inr ⟨j, rfl, hkj, by omega, h17, ho⟩⟩
  exact L4 11 (k + 1) (by omega) (by omega) (by omega) (fun q h1 h2 => by omega)

set_option maxHeartbeats 4000000 in
theorem c_X8_isOut {l : Launch} {D : va_G} {cI : ClassId} {ad : Nat → Nat} {iv : IV} {ar : AR} {w : WT} (hc : MC w ar) {y z : Int32} : Ct l D cI (mw cI ad) yX8_isOut cX8_isOut 5 (some .boolean) 1 24 [.ref (ad 0), .int y, .int z] iv ar (rI (bI (nI ((smN (fun q => if ar 8 q = y then w.1 q else 0) 10) * ((smN (fun q => if ar 8 q = z then w.1 q else 0) 10) + (smN (fun q => if ar 8 q = z then w.2 q else 0) 10))) ≤ nI ((smN (fun q => if ar 8 q = z then w.1 q else 0) 10) * ((smN (fun q => if ar 8 q = y then w.1 q else 0) 10) + (smN (fun q => if ar 8 q = y then w.2 q else 0) 10))))) iv ar) := by
  refine Ct.of (lv := [some (.ref (ad 0)), some (.int y), some (.int z), none, none]) mw_ok (plainFor_of_name (by decide)) (Nat.le_of_ble_eq_true rfl) 2 rfl rfl (fun Z F => ?_)
  refine k_aload0 (pc := 0) F dX8_isOut_0 ?_
  refine k_iload1 (pc := 1) F dX8_isOut_1 ?_
  refine k_iconst (pc := 2) (v := nI 1) F dX8_isOut_2 (by decide) ?_
  refine k_callV (pc := 3) (q0 := 0) F (c_X8_sumOf1 hc (y := y)) ok_X8_91 rfl rfl rfl rfl rfl (by decide) (by decide) (Nat.le_of_ble_eq_true rfl) dX8_isOut_3 (rI.use ?_)
  refine k_istore3 (pc := 6) F (by decide) dX8_isOut_6 ?_
  refine k_aload0 (pc := 7) F dX8_isOut_7 ?_
  refine k_iload2 (pc := 8) F dX8_isOut_8 ?_
  refine k_iconst (pc := 9) (v := nI 1) F dX8_isOut_9 (by decide) ?_
  refine k_callV (pc := 10) (q0 := 0) F (c_X8_sumOf1 hc (y := z)) ok_X8_91 rfl rfl rfl rfl rfl (by decide) (by decide) (Nat.le_of_ble_eq_true rfl) dX8_isOut_10 (rI.use ?_)
  refine k_istore4 (pc := 13) F (by decide) dX8_isOut_13 ?_
  refine k_iload4 (pc := 15) F dX8_isOut_15 ?_
  refine k_iload3 (pc := 17) F dX8_isOut_17 ?_
  refine k_aload0 (pc := 18) F dX8_isOut_18 ?_
  refine k_iload1 (pc := 19) F dX8_isOut_19 ?_
  refine k_iconst (pc := 20) (v := nI 0) F dX8_isOut_20 (by decide) ?_
  refine k_callV (pc := 21) (q0 := 0) F (c_X8_sumOf0 hc (y := y)) ok_X8_91 rfl rfl rfl rfl rfl (by decide) (by decide) (Nat.le_of_ble_eq_true rfl) dX8_isOut_21 (rI.use ?_)
  refine k_iaddN (pc := 24) F dX8_isOut_24 ?_
  refine k_imulN (pc := 25) F dX8_isOut_25 ?_
  refine k_iload3 (pc := 26) F dX8_isOut_26 ?_
  refine k_iload4 (pc := 27) F dX8_isOut_27 ?_
  refine k_aload0 (pc := 29) F dX8_isOut_29 ?_
  refine k_iload2 (pc := 30) F dX8_isOut_30 ?_
  refine k_iconst (pc := 31) (v := nI 0) F dX8_isOut_31 (by decide) ?_
  refine k_callV (pc := 32) (q0 := 0) F (c_X8_sumOf0 hc (y := z)) ok_X8_91 rfl rfl rfl rfl rfl (by decide) (by decide) (Nat.le_of_ble_eq_true rfl) dX8_isOut_32 (rI.use ?_)
  refine k_iaddN (pc := 35) F dX8_isOut_35 ?_
  refine k_imulN (pc := 36) F dX8_isOut_36 ?_
  refine k_icmp_lt (pc := 37) (tgt := 44) F dX8_isOut_37 (by decide) (fun h37 => ?_) (fun h37 => ?_)
  · refine k_iconst (pc := 44) (v := nI 0) F dX8_isOut_44 (by decide) ?_
    refine k_zret (pc := 45) F dX8_isOut_45 (by decide) ?_
    exact ret0 (by rw [i_le]; rw [i_lt] at h37; omega)
  · refine k_iconst (pc := 40) (v := nI 1) F dX8_isOut_40 (by decide) ?_
    refine k_goto (pc := 41) (tgt := 45) F dX8_isOut_41 (by decide) ?_
    refine k_zret (pc := 45) F dX8_isOut_45 (by decide) ?_
    exact ret1 (by rw [i_le]; rw [i_lt] at h37; omega)

set_option maxHeartbeats 4000000 in
theorem c_X8_blocks {l : Launch} {D : va_G} {cI : ClassId} {ad : Nat → Nat} {iv : IV} {ar : AR} {n : Nat} {c : Nat → Nat} {s t : Nat → Int32} (hA : MArc n c s t iv ar) (hT : okT n t) {set : Int32} (hset : iv 1 = set) : Ct l D cI (mw cI ad) yX8_blocks cX8_blocks 5 none 4 95 [.ref (ad 0)] iv ar (qV (fun iv2 ar2 => (∀ q, q ≠ 5 → iv2 q = iv q) ∧ (∀ q, q < 5 ∨ 9 ≤ q → ar2 q = ar q) ∧ (∀ j, j < 24 → ar2 5 j = shA c s t n j) ∧ MC (cou (SC c s t n) s set n) ar2 ∧ Rl 10 (cou (SC c s t n) s set n) (blk (cou (SC c s t n) s set n)) (ar2 8))) := by
  refine Ct.of (lv := [some (.ref (ad 0)), none, none, none, none]) mw_ok (plainFor_of_name (by decide)) (Nat.le_of_ble_eq_true rfl) 4 rfl rfl (fun Z F => ?_)
  have hn := hA.le
  have hOK : okC (cou (SC c s t n) s set n) := cou_ok hn
  refine k_aload0 (pc := 0) F dX8_blocks_0 ?_
  refine k_callV (pc := 1) (q0 := 0) F (c_X8_counts hA hT hset) ok_X8_95 rfl rfl rfl rfl rfl (by decide) (by decide) (Nat.le_of_ble_eq_true rfl) dX8_blocks_1 (qV.use (fun ivC arC hC => ?_))
  obtain ⟨r1, r2, r3, hc⟩ := hC
  generalize hw : (cou (SC c s t n) s set n) = w at hc hOK F ⊢
  refine k_iconst (pc := 4) (v := nI 0) F dX8_blocks_4 (by decide) ?_
  refine k_istore1 (pc := 5) F (by decide) dX8_blocks_5 ?_
  have L6 : ∀ (fu : Nat) (k : Nat) (ar1 : AR), 10 - k < fu → k ≤ 10 → (∀ q, q ≠ 8 → ar1 q = arC q) → (∀ j, j < k → ar1 8 j = fmI w j) → Z 6 [some (.ref (ad 0)), some (.int (nI k)), none, none, none] [] ivC ar1 := by
    intro fu
    induction fu with
    | zero => intro k ar1 hfu; exact absurd hfu (Nat.not_lt_zero _)
    | succ fu ih =>
      intro k ar1 hfu hk g1 hf
      have hc0 : MC w ar1 := ⟨by rw [g1 6 (by decide)]; exact hc.1, by rw [g1 7 (by decide)]; exact hc.2⟩
      have hcw := hOK k
      refine k_iload1 (pc := 6) F dX8_blocks_6 ?_
      refine k_bipush (pc := 7) (v := nI 10) F dX8_blocks_7 (by decide) ?_
      refine k_icmp_geN (pc := 9) (tgt := 45) F dX8_blocks_9 (by decide) (by omega) (by omega) (fun h9 => ?_) (fun h9 => ?_)
      · have e : k = 10 := by omega
        subst e
        refine k_iconst (pc := 45) (v := nI 1) F dX8_blocks_45 (by decide) ?_
        refine k_istore1 (pc := 46) F (by decide) dX8_blocks_46 ?_
        have L47 : ∀ (fu : Nat) (mo : Nat) (x : BT) (ar1 : AR), 2 * bm x + mo < fu → mo ≤ 1 → (∀ q, q ≠ 8 → ar1 q = arC q) → Rl 10 w x (ar1 8) → bfin (bm x) x = blk w → (mo = 0 → foB x = none) → Z 47 [some (.ref (ad 0)), some (.int (nI mo)), none, none, none] [] ivC ar1 := by
          intro fu
          induction fu with
          | zero => intro mo x ar1 hfu; exact absurd hfu (Nat.not_lt_zero _)
          | succ fu ih =>
            intro mo x ar1 hfu hmo g1 hR hfin hm0
            have hc1 : MC w ar1 := ⟨by rw [g1 6 (by decide)]; exact hc.1, by rw [g1 7 (by decide)]; exact hc.2⟩
            have hm10 := hR.1
            refine k_iload1 (pc := 47) F dX8_blocks_47 ?_
            refine k_if_eqN (pc := 48) (tgt := 148) F dX8_blocks_48 (by decide) (by omega) (fun h48 => ?_) (fun h48 => ?_)
            · refine k_vret (pc := 148) F dX8_blocks_148 ?_
              have hno := hm0 h48
              rw [bfin_n hno] at hfin
              subst hfin
              refine ⟨rfl, r1, fun q hq => ?_, ?_, hc1, hR⟩
              · rw [g1 q (by omega), r2 q (by omega)]
              · rw [g1 5 (by decide)]; exact r3
            · have emo : mo = 1 := by omega
              subst emo
              refine k_iconst (pc := 51) (v := nI 0) F dX8_blocks_51 (by decide) ?_
              refine k_istore1 (pc := 52) F (by decide) dX8_blocks_52 ?_
              refine k_iconst (pc := 53) (v := nI 0) F dX8_blocks_53 (by decide) ?_
              refine k_istore2 (pc := 54) F (by decide) dX8_blocks_54 ?_
              have L55 : ∀ (fu : Nat) (k : Nat), 10 - k < fu → k ≤ 10 → (∀ i, i + 1 < bm x → bf x i < k → ¬ oo x i) → Z 55 [some (.ref (ad 0)), some (.int (nI 0)), some (.int (nI k)), none, none] [] ivC ar1 := by
                intro fu
                induction fu with
                | zero => intro k hfu; exact absurd hfu (Nat.not_lt_zero _)
                | succ fu ih2 =>
                  intro k hfu hk ho
                  refine k_iload2 (pc := 55) F dX8_blocks_55 ?_
                  refine k_bipush (pc := 56) (v := nI 10) F dX8_blocks_56 (by decide) ?_
                  refine k_icmp_geN (pc := 58) (tgt := 145) F dX8_blocks_58 (by decide) (by omega) (by omega) (fun h58 => ?_) (fun h58 => ?_)
                  · refine k_goto (pc := 145) (tgt := 47) F dX8_blocks_145 (by decide) ?_
                    refine k_fg2 (pc := 47) F ?_
                    exact ih 0 x ar1 (by omega) (by omega) g1 hR hfin (fun _ => foB_none hm10 (fun j hj => ho j hj (by have := hR.2.1 j (by omega); omega)))
                  · refine k_iload1 (pc := 61) F dX8_blocks_61 ?_
                    refine k_if_ne (pc := 62) (tgt := 145) F dX8_blocks_62 (by decide) (fun h => absurd h (by decide)) (fun _ => ?_)
                    refine k_aload0 (pc := 65) F dX8_blocks_65 ?_
                    refine g_X8_first (pc := 66) F dX8_blocks_66 ?_
                    refine k_iload2 (pc := 69) F dX8_blocks_69 ?_
                    refine l_m8 (pc := 70) F (by omega) rfl dX8_blocks_70 ?_
                    refine k_iload2 (pc := 71) F dX8_blocks_71 ?_
                    refine k_icmp_ne (pc := 72) (tgt := 83) F dX8_blocks_72 (by decide) (fun h72 => ?_) (fun h72 => ?_)
                    · refine k_iconst (pc := 83) (v := -1) F dX8_blocks_83 (by decide) ?_
                      refine k_istore3 (pc := 84) F (by decide) dX8_blocks_84 ?_
                      refine k_iload3 (pc := 85) F dX8_blocks_85 ?_
                      refine k_iconst (pc := 86) (v := -1) F dX8_blocks_86 (by decide) ?_
                      refine k_icmp_eq (pc := 87) (tgt := 139) F dX8_blocks_87 (by decide) (fun _ => ?_) (fun h => absurd h (by decide))
                      refine k_iinc2 (pc := 139) F (by decide) dX8_blocks_139 (inc_N _) ?_
                      refine k_goto (pc := 142) (tgt := 55) F dX8_blocks_142 (by decide) ?_
                      refine k_fg3 (pc := 55) F ?_
                      refine ih2 (k + 1) (by omega) (by omega) (fun i2 hi2 hb2 => ?_)
                      by_cases e : bf x i2 = k
                      · first
                        | exact absurd (by rw [← e]; exact hR.head (by omega)) h72
                        | (have e3 : i2 = i := hR.uniq (k := k) (by omega) hi (by omega) (by have := hR.2.1 i2 (by omega); omega) (by omega) (by have := hR.2.1 i hi; omega)
                           subst e3
                           first
                           | exact absurd hi2 hlast
                           | exact hnoo)
                      · exact ho i2 hi2 (by omega)
                    · obtain ⟨i, hi, ek⟩ := hR.isHead (by decide) (show k < 10 by omega) h72
                      refine k_aload0 (pc := 75) F dX8_blocks_75 ?_
                      refine k_iload2 (pc := 76) F dX8_blocks_76 ?_
                      refine k_callV (pc := 77) (q0 := 0) F (c_X8_nextBlock (k := k) (by omega)) ok_X8_98 rfl rfl rfl rfl rfl (by decide) (by decide) (Nat.le_of_ble_eq_true rfl) dX8_blocks_77 (qI.use (fun xN ivN arN hN => ?_))
                      obtain ⟨eN1, eN2, hN⟩ := hN
                      subst ivN
                      subst arN
                      refine k_goto (pc := 80) (tgt := 84) F dX8_blocks_80 (by decide) ?_
                      refine k_istore3 (pc := 84) F (by decide) dX8_blocks_84 ?_
                      refine k_iload3 (pc := 85) F dX8_blocks_85 ?_
                      refine k_iconst (pc := 86) (v := -1) F dX8_blocks_86 (by decide) ?_
                      refine k_icmp_eq (pc := 87) (tgt := 139) F dX8_blocks_87 (by decide) (fun h87 => ?_) (fun h87 => ?_)
                      · have hlast : ¬ i + 1 < bm x := by
                          intro h
                          rcases hN with ⟨_, hn2⟩ | ⟨j, hj, _⟩
                          · have o1 := hR.2.2.1 i (i + 1) (by omega) h
                            have o2 := hR.2.1 (i + 1) h
                            have o3 := hR.2.1 i hi
                            exact hn2 (bf x (i + 1)) (by omega) (by omega) (hR.head h)
                          · exact nI_ne_m1 (by omega) (hj.symm.trans h87)
                        refine k_iinc2 (pc := 139) F (by decide) dX8_blocks_139 (inc_N _) ?_
                        refine k_goto (pc := 142) (tgt := 55) F dX8_blocks_142 (by decide) ?_
                        refine k_fg3 (pc := 55) F ?_
                        refine ih2 (k + 1) (by omega) (by omega) (fun i2 hi2 hb2 => ?_)
                        by_cases e : bf x i2 = k
                        · first
                          | exact absurd (by rw [← e]; exact hR.head (by omega)) h72
                          | (have e3 : i2 = i := hR.uniq (k := k) (by omega) hi (by omega) (by have := hR.2.1 i2 (by omega); omega) (by omega) (by have := hR.2.1 i hi; omega)
                             subst e3
                             first
                             | exact absurd hi2 hlast
                             | exact hnoo)
                        · exact ho i2 hi2 (by omega)
                      · obtain ⟨y, eN, hy1, hy2, hy3, hy4⟩ : ∃ j, xN = nI j ∧ k < j ∧ j < 10 ∧ ar1 8 j = nI j ∧ ∀ q, k < q → q < j → ¬ ar1 8 q = nI q := by
                          rcases hN with ⟨hn1, _⟩ | h
                          · exact absurd hn1 h87
                          · exact h
                        subst eN
                        obtain ⟨i2, hi2, ey2⟩ := hR.isHead (by decide) hy2 hy3
                        have hr1 := hR.2.1 i hi
                        have hr2 := hR.2.1 i2 hi2
                        have hii : i < i2 := by
                          rcases Nat.lt_trichotomy i i2 with z | z | z
                          · exact z
                          · subst z; omega
                          · have := hR.2.2.1 i2 i z hi; omega
                        have hi1 : i + 1 < bm x := by omega
                        have hr3 := hR.2.1 (i + 1) hi1
                        have ho1 := hR.2.2.1 i (i + 1) (by omega) hi1
                        have e2 : i2 = i + 1 := by
                          rcases Nat.lt_or_ge (i + 1) i2 with z | z
                          · have := hR.2.2.1 (i + 1) i2 z hi2
                            exact absurd (hR.head hi1) (hy4 (bf x (i + 1)) (by omega) (by omega))
                          · omega
                        subst e2
                        have ey : nI y = nI (bf x (i + 1)) := by rw [ey2]
                        have hs1 := hR.sum1 hi
                        have hs2 := hR.sum1 hi1
                        have hs3 := hR.sum2 hi
                        have hs4 := hR.sum2 hi1
                        rw [ek] at hs1 hs3
                        rw [ey2] at hs2 hs4
                        refine k_aload0 (pc := 90) F dX8_blocks_90 ?_
                        refine k_iload2 (pc := 91) F dX8_blocks_91 ?_
                        refine k_iload3 (pc := 92) F dX8_blocks_92 ?_
                        refine k_callV (pc := 93) (q0 := 0) F (c_X8_isOut hc1) ok_X8_101 rfl rfl rfl rfl rfl (by decide) (by decide) (Nat.le_of_ble_eq_true rfl) dX8_blocks_93 (rI.use ?_)
                        refine k_if_neB (pc := 96) (tgt := 102) F dX8_blocks_96 (by decide) (fun h96 => ?_) (fun h96 => ?_)
                        · have hoo : oo x i := by
                            rw [hs1, hs2, hs3, hs4] at h96
                            exact h96
                          have hfo : foB x = some i := foB_some hm10 hi1 hoo (fun j hj => ho j (by omega) (by have := hR.2.2.1 j i hj hi; have := hR.2.1 j (by omega); omega))
                          refine k_iconst (pc := 102) (v := nI 0) F dX8_blocks_102 (by decide) ?_
                          refine k_istore4 (pc := 103) F (by decide) dX8_blocks_103 ?_
                          have L105 : ∀ (fu : Nat) (q : Nat) (ar2 : AR), 10 - q < fu → q ≤ 10 → (∀ p, p ≠ 8 → ar2 p = ar1 p) → (∀ j, j < 10 → ar2 8 j = if j < q ∧ ar1 8 j = nI (bf x (i + 1)) then nI (bf x i) else ar1 8 j) → Z 105 [some (.ref (ad 0)), some (.int (nI 0)), some (.int (nI k)), some (.int (nI y)), some (.int (nI q))] [] ivC ar2 := by
                            intro fu
                            induction fu with
                            | zero => intro q ar2 hfu; exact absurd hfu (Nat.not_lt_zero _)
                            | succ fu ih3 =>
                              intro q ar2 hfu hq g2 hj2
                              refine k_iload4 (pc := 105) F dX8_blocks_105 ?_
                              refine k_bipush (pc := 107) (v := nI 10) F dX8_blocks_107 (by decide) ?_
                              refine k_icmp_geN (pc := 109) (tgt := 137) F dX8_blocks_109 (by decide) (by omega) (by omega) (fun h109 => ?_) (fun h109 => ?_)
                              · have h2 : ∀ j, j < 10 → ar2 8 j = if ar1 8 j = nI (bf x (i + 1)) then nI (bf x i) else ar1 8 j := by
                                  intro j hj
                                  rw [hj2 j hj]
                                  by_cases z : ar1 8 j = nI (bf x (i + 1))
                                  · rw [if_pos ⟨by omega, z⟩, if_pos z]
                                  · rw [if_neg (fun u => z u.2), if_neg z]
                                refine k_iconst (pc := 137) (v := nI 1) F dX8_blocks_137 (by decide) ?_
                                refine k_istore1 (pc := 138) F (by decide) dX8_blocks_138 ?_
                                refine k_iinc2 (pc := 139) F (by decide) dX8_blocks_139 (inc_N _) ?_
                                refine k_goto (pc := 142) (tgt := 55) F dX8_blocks_142 (by decide) ?_
                                refine k_iload2 (pc := 55) F dX8_blocks_55 ?_
                                refine k_bipush (pc := 56) (v := nI 10) F dX8_blocks_56 (by decide) ?_
                                refine k_icmp_geN (pc := 58) (tgt := 145) F dX8_blocks_58 (by decide) (by omega) (by omega) (fun h58 => ?_) (fun h58 => ?_)
                                · refine k_goto (pc := 145) (tgt := 47) F dX8_blocks_145 (by decide) ?_
                                  refine k_fg2 (pc := 47) F ?_
                                  refine k_fg3 (pc := 47) F ?_
                                  refine k_fg4 (pc := 47) F ?_
                                  exact ih 1 (mrg x i) _ (by have e : bm (mrg x i) = bm x - 1 := rfl; omega) (by omega) (fun q hq => by rw [g2 q hq]; exact g1 q hq) (hR.mrg hi1 h2) (by
                                    show bfin (bm x - 1) (mrg x i) = blk w
                                    rw [← hfin]
                                    have e := bfin_s (f := bm x - 1) hfo
                                    rw [show bm x - 1 + 1 = bm x by omega] at e
                                    exact e.symm) (fun h => by omega)
                                · refine k_iload1 (pc := 61) F dX8_blocks_61 ?_
                                  refine k_if_ne (pc := 62) (tgt := 145) F dX8_blocks_62 (by decide) (fun _ => ?_) (fun h => absurd h (by decide))
                                  refine k_goto (pc := 145) (tgt := 47) F dX8_blocks_145 (by decide) ?_
                                  refine k_fg2 (pc := 47) F ?_
                                  refine k_fg3 (pc := 47) F ?_
                                  refine k_fg4 (pc := 47) F ?_
                                  exact ih 1 (mrg x i) _ (by have e : bm (mrg x i) = bm x - 1 := rfl; omega) (by omega) (fun q hq => by rw [g2 q hq]; exact g1 q hq) (hR.mrg hi1 h2) (by
                                    show bfin (bm x - 1) (mrg x i) = blk w
                                    rw [← hfin]
                                    have e := bfin_s (f := bm x - 1) hfo
                                    rw [show bm x - 1 + 1 = bm x by omega] at e
                                    exact e.symm) (fun h => by omega)
                              · refine k_aload0 (pc := 112) F dX8_blocks_112 ?_
                                refine g_X8_first (pc := 113) F dX8_blocks_113 ?_
                                refine k_iload4 (pc := 116) F dX8_blocks_116 ?_
                                refine l_m8 (pc := 118) F (by omega) (show ar2 8 q = ar1 8 q from by rw [hj2 q (by omega), if_neg (by omega)]) dX8_blocks_118 ?_
                                refine k_iload3 (pc := 119) F dX8_blocks_119 ?_
                                refine k_icmp_ne (pc := 120) (tgt := 131) F dX8_blocks_120 (by decide) (fun h120 => ?_) (fun h120 => ?_)
                                · refine k_iinc4 (pc := 131) F (by decide) dX8_blocks_131 (inc_N _) ?_
                                  refine k_goto (pc := 134) (tgt := 105) F dX8_blocks_134 (by decide) ?_
                                  refine ih3 (q + 1) ar2 (by omega) (by omega) g2 (fun j hj => ?_)
                                  rw [hj2 j hj]
                                  by_cases z : ar1 8 j = nI (bf x (i + 1))
                                  · by_cases e : j = q
                                    · subst e; exact absurd (by rw [ey]; exact z) h120
                                    · by_cases z2 : j < q
                                      · rw [if_pos ⟨z2, z⟩, if_pos ⟨by omega, z⟩]
                                      · rw [if_neg (fun u => z2 u.1), if_neg (fun u => by omega)]
                                  · rw [if_neg (fun u => z u.2), if_neg (fun u => z u.2)]
                                · refine k_aload0 (pc := 123) F dX8_blocks_123 ?_
                                  refine g_X8_first (pc := 124) F dX8_blocks_124 ?_
                                  refine k_iload4 (pc := 127) F dX8_blocks_127 ?_
                                  refine k_iload2 (pc := 129) F dX8_blocks_129 ?_
                                  refine s_m8 (pc := 130) F (by omega) (rfl) dX8_blocks_130 ?_
                                  refine k_iinc4 (pc := 131) F (by decide) dX8_blocks_131 (inc_N _) ?_
                                  refine k_goto (pc := 134) (tgt := 105) F dX8_blocks_134 (by decide) ?_
                                  refine ih3 (q + 1) _ (by omega) (by omega) (fun p hp => ?_) (fun j hj => ?_)
                                  · rw [up_n hp]; exact g2 p hp
                                  · rw [up_s]
                                    by_cases e : j = q
                                    · subst e
                                      rw [upd_at, if_pos ⟨by omega, by rw [← ey]; exact h120⟩, ek]
                                    · rw [upd_ne e, hj2 j hj]
                                      by_cases z : ar1 8 j = nI (bf x (i + 1))
                                      · by_cases z2 : j < q
                                        · rw [if_pos ⟨z2, z⟩, if_pos ⟨by omega, z⟩]
                                        · rw [if_neg (fun u => z2 u.1), if_neg (fun u => by omega)]
                                      · rw [if_neg (fun u => z u.2), if_neg (fun u => z u.2)]
                          exact L105 11 0 ar1 (by omega) (by omega) (fun _ _ => rfl) (fun j hj => by rw [if_neg (by omega)])
                        · have hnoo : ¬ oo x i := by
                            rw [hs1, hs2, hs3, hs4] at h96
                            exact h96
                          refine k_goto (pc := 99) (tgt := 139) F dX8_blocks_99 (by decide) ?_
                          refine k_iinc2 (pc := 139) F (by decide) dX8_blocks_139 (inc_N _) ?_
                          refine k_goto (pc := 142) (tgt := 55) F dX8_blocks_142 (by decide) ?_
                          refine k_fg3 (pc := 55) F ?_
                          refine ih2 (k + 1) (by omega) (by omega) (fun i2 hi2 hb2 => ?_)
                          by_cases e : bf x i2 = k
                          · first
                            | exact absurd (by rw [← e]; exact hR.head (by omega)) h72
                            | (have e3 : i2 = i := hR.uniq (k := k) (by omega) hi (by omega) (by have := hR.2.1 i2 (by omega); omega) (by omega) (by have := hR.2.1 i hi; omega)
                               subst e3
                               first
                               | exact absurd hi2 hlast
                               | exact hnoo)
                          · exact ho i2 hi2 (by omega)
              exact L55 11 0 (by omega) (by omega) (fun i _ h => by omega)
        exact L47 (2 * bm (mkB w 10) + 2) 1 (mkB w 10) ar1 (by omega) (by omega) g1 (Rl.init w (fun k hk => hf k (by omega)) 10 (by omega)) (by
          have h := bfin_ge (10 - bm (mkB w 10)) (bm (mkB w 10)) (mkB w 10) (Nat.le_refl _)
          rw [show bm (mkB w 10) + (10 - bm (mkB w 10)) = 10 by have := mkB_le w 10; omega] at h
          exact h.symm) (fun h => by omega)
      · refine k_aload0 (pc := 12) F dX8_blocks_12 ?_
        refine g_X8_first (pc := 13) F dX8_blocks_13 ?_
        refine k_iload1 (pc := 16) F dX8_blocks_16 ?_
        refine k_aload0 (pc := 17) F dX8_blocks_17 ?_
        refine g_X8_same (pc := 18) F dX8_blocks_18 ?_
        refine k_iload1 (pc := 21) F dX8_blocks_21 ?_
        refine l_m6 (pc := 22) F (by omega) (hc0.1 k (by omega)) dX8_blocks_22 ?_
        refine k_aload0 (pc := 23) F dX8_blocks_23 ?_
        refine g_X8_other (pc := 24) F dX8_blocks_24 ?_
        refine k_iload1 (pc := 27) F dX8_blocks_27 ?_
        refine l_m7 (pc := 28) F (by omega) (hc0.2 k (by omega)) dX8_blocks_28 ?_
        refine k_iaddN (pc := 29) F dX8_blocks_29 ?_
        refine k_if_leN (pc := 30) (tgt := 37) F dX8_blocks_30 (by decide) (by omega) (fun h30 => ?_) (fun h30 => ?_)
        · refine k_iconst (pc := 37) (v := -1) F dX8_blocks_37 (by decide) ?_
          refine s_m8 (pc := 38) F (by omega) (rfl) dX8_blocks_38 ?_
          refine k_iinc1 (pc := 39) F (by decide) dX8_blocks_39 (inc_N _) ?_
          refine k_goto (pc := 42) (tgt := 6) F dX8_blocks_42 (by decide) ?_
          refine ih (k + 1) _ (by omega) (by omega) (fun q hq => ?_) (fun j hj => ?_)
          · rw [up_n hq]; exact g1 q hq
          · rw [up_s]
            by_cases e : j = k
            · subst e
              rw [upd_at, fmI]
              first | rw [if_pos (by omega)] | rw [if_neg (by omega)]
            · rw [upd_ne e]; exact hf j (by omega)
        · refine k_iload1 (pc := 33) F dX8_blocks_33 ?_
          refine k_goto (pc := 34) (tgt := 38) F dX8_blocks_34 (by decide) ?_
          refine s_m8 (pc := 38) F (by omega) (rfl) dX8_blocks_38 ?_
          refine k_iinc1 (pc := 39) F (by decide) dX8_blocks_39 (inc_N _) ?_
          refine k_goto (pc := 42) (tgt := 6) F dX8_blocks_42 (by decide) ?_
          refine ih (k + 1) _ (by omega) (by omega) (fun q hq => ?_) (fun j hj => ?_)
          · rw [up_n hq]; exact g1 q hq
          · rw [up_s]
            by_cases e : j = k
            · subst e
              rw [upd_at, fmI]
              first | rw [if_pos (by omega)] | rw [if_neg (by omega)]
            · rw [upd_ne e]; exact hf j (by omega)
  exact L6 11 0 arC (by omega) (by omega) (fun _ _ => rfl) (fun j hj => by omega)

set_option maxHeartbeats 4000000 in
theorem c_X8_all6 {l : Launch} {D : va_G} {cI : ClassId} {ad : Nat → Nat} {iv : IV} {ar : AR} {w : WT} (hc : MC w ar) : Ct l D cI (mw cI ad) yX8_all cX8_all 3 (some .int) 0 0 [.ref (ad 7)] iv ar (rI (nI (smN w.1 10)) iv ar) := by
  refine Ct.of (lv := [some (.ref (ad 7)), none, none]) mw_ok (plainFor_of_name (by decide)) (Nat.le_of_ble_eq_true rfl) 2 rfl rfl (fun Z F => ?_)
  refine k_iconst (pc := 0) (v := nI 0) F dX8_all_0 (by decide) ?_
  refine k_istore1 (pc := 1) F (by decide) dX8_all_1 ?_
  refine k_iconst (pc := 2) (v := nI 0) F dX8_all_2 (by decide) ?_
  refine k_istore2 (pc := 3) F (by decide) dX8_all_3 ?_
  have L4 : ∀ (fu : Nat) (k : Nat), 10 - k < fu → k ≤ 10 → Z 4 [some (.ref (ad 7)), some (.int (nI (smN w.1 k))), some (.int (nI k))] [] iv ar := by
    intro fu
    induction fu with
    | zero => intro k hfu; exact absurd hfu (Nat.not_lt_zero _)
    | succ fu ih =>
      intro k hfu hk
      refine k_iload2 (pc := 4) F dX8_all_4 ?_
      refine k_bipush (pc := 5) (v := nI 10) F dX8_all_5 (by decide) ?_
      refine k_icmp_geN (pc := 7) (tgt := 22) F dX8_all_7 (by decide) (by omega) (by omega) (fun h7 => ?_) (fun h7 => ?_)
      · have e : k = 10 := by omega
        subst e
        refine k_iload1 (pc := 22) F dX8_all_22 ?_
        refine k_iret (pc := 23) F dX8_all_23 ?_
        exact ⟨rfl, rfl, rfl⟩
      · refine k_iload1 (pc := 10) F dX8_all_10 ?_
        refine k_aload0 (pc := 11) F dX8_all_11 ?_
        refine k_iload2 (pc := 12) F dX8_all_12 ?_
        refine l_m6 (pc := 13) F (by omega) (hc.1 k (by omega)) dX8_all_13 ?_
        refine k_iaddN (pc := 14) F dX8_all_14 ?_
        refine k_istore1 (pc := 15) F (by decide) dX8_all_15 ?_
        refine k_iinc2 (pc := 16) F (by decide) dX8_all_16 (inc_N _) ?_
        refine k_goto (pc := 19) (tgt := 4) F dX8_all_19 (by decide) ?_
        exact ih (k + 1) (by omega) (by omega)
  exact L4 11 0 (by omega) (by omega)

set_option maxHeartbeats 4000000 in
theorem c_X8_all7 {l : Launch} {D : va_G} {cI : ClassId} {ad : Nat → Nat} {iv : IV} {ar : AR} {w : WT} (hc : MC w ar) : Ct l D cI (mw cI ad) yX8_all cX8_all 3 (some .int) 0 0 [.ref (ad 8)] iv ar (rI (nI (smN w.2 10)) iv ar) := by
  refine Ct.of (lv := [some (.ref (ad 8)), none, none]) mw_ok (plainFor_of_name (by decide)) (Nat.le_of_ble_eq_true rfl) 2 rfl rfl (fun Z F => ?_)
  refine k_iconst (pc := 0) (v := nI 0) F dX8_all_0 (by decide) ?_
  refine k_istore1 (pc := 1) F (by decide) dX8_all_1 ?_
  refine k_iconst (pc := 2) (v := nI 0) F dX8_all_2 (by decide) ?_
  refine k_istore2 (pc := 3) F (by decide) dX8_all_3 ?_
  have L4 : ∀ (fu : Nat) (k : Nat), 10 - k < fu → k ≤ 10 → Z 4 [some (.ref (ad 8)), some (.int (nI (smN w.2 k))), some (.int (nI k))] [] iv ar := by
    intro fu
    induction fu with
    | zero => intro k hfu; exact absurd hfu (Nat.not_lt_zero _)
    | succ fu ih =>
      intro k hfu hk
      refine k_iload2 (pc := 4) F dX8_all_4 ?_
      refine k_bipush (pc := 5) (v := nI 10) F dX8_all_5 (by decide) ?_
      refine k_icmp_geN (pc := 7) (tgt := 22) F dX8_all_7 (by decide) (by omega) (by omega) (fun h7 => ?_) (fun h7 => ?_)
      · have e : k = 10 := by omega
        subst e
        refine k_iload1 (pc := 22) F dX8_all_22 ?_
        refine k_iret (pc := 23) F dX8_all_23 ?_
        exact ⟨rfl, rfl, rfl⟩
      · refine k_iload1 (pc := 10) F dX8_all_10 ?_
        refine k_aload0 (pc := 11) F dX8_all_11 ?_
        refine k_iload2 (pc := 12) F dX8_all_12 ?_
        refine l_m7 (pc := 13) F (by omega) (hc.2 k (by omega)) dX8_all_13 ?_
        refine k_iaddN (pc := 14) F dX8_all_14 ?_
        refine k_istore1 (pc := 15) F (by decide) dX8_all_15 ?_
        refine k_iinc2 (pc := 16) F (by decide) dX8_all_16 (inc_N _) ?_
        refine k_goto (pc := 19) (tgt := 4) F dX8_all_19 (by decide) ?_
        exact ih (k + 1) (by omega) (by omega)
  exact L4 11 0 (by omega) (by omega)

