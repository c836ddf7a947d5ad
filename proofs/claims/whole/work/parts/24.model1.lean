theorem bI_iff {c d : Prop} [Decidable c] [Decidable d] (h : c ↔ d) : bI c = bI d := by
  unfold bI
  by_cases q : c
  · rw [if_pos q, if_pos (h.mp q)]
  · rw [if_neg q, if_neg (fun z => q (h.mpr z))]
/-- the reference's recordings -/
def MArc (n : Nat) (c : Nat → Nat) (s t : Nat → Int32) (iv : IV) (ar : AR) : Prop := iv 0 = nI n ∧ n ≤ 30 ∧ (∀ k, k < n → ar 1 k = nI (c k) ∧ c k < 4) ∧ (∀ k, k < n → ar 2 k = s k) ∧ (∀ j, j < n * 6 → ar 0 j = t j)
theorem MArc.keep {n : Nat} {c : Nat → Nat} {s t : Nat → Int32} {iv iv2 : IV} {ar ar2 : AR} (h : MArc n c s t iv ar) (h3 : iv2 0 = iv 0) (a0 : ar2 0 = ar 0) (a1 : ar2 1 = ar 1) (a2 : ar2 2 = ar 2) : MArc n c s t iv2 ar2 := by
  obtain ⟨h1, h2, h4, h5, h6⟩ := h
  exact ⟨by rw [h3]; exact h1, h2, by rw [a1]; exact h4, by rw [a2]; exact h5, by rw [a0]; exact h6⟩
section MA
variable {n : Nat} {c : Nat → Nat} {s t : Nat → Int32} {iv : IV} {ar : AR} (h : MArc n c s t iv ar)
theorem MArc.le (h : MArc n c s t iv ar) : n ≤ 30 := h.2.1
theorem MArc.lt (h : MArc n c s t iv ar) {k : Nat} (hk : k < n) : c k < 4 := (h.2.2.1 k hk).2
theorem MArc.ch (h : MArc n c s t iv ar) {k : Nat} (hk : k < n) : ar 1 k = nI (c k) := (h.2.2.1 k hk).1
theorem MArc.sp (h : MArc n c s t iv ar) {k : Nat} (hk : k < n) : ar 2 k = s k := h.2.2.2.1 k hk
theorem MArc.tn (h : MArc n c s t iv ar) {k p : Nat} (hk : k < n) (hp : p < 6) : ar 0 (6 * k + p) = t (k * 6 + p) := by
  rw [Nat.mul_comm]
  exact h.2.2.2.2 _ (by omega)
end MA
def ounz (c : Nat → Nat) (s t : Nat → Int32) (n p k : Nat) : Nat × Int32 := if k = 0 then (0, 0) else oun c s t n p k n
theorem inn_z (c : Nat → Nat) (s t : Nat → Int32) (p a : Nat) (z : Nat × Int32) : inn c s t p a z 0 = z := rfl
theorem up_u {α : Type} (f : Nat → α) (k : Nat) (v w : α) : va_up (va_up f k v) k w = va_up f k w := bx_uu f k v w
set_option maxHeartbeats 4000000 in
theorem c_X8_in {l : Launch} {D : va_G} {cI : ClassId} {wf : WF} {iv : IV} {ar : AR} (hwf : wfOk wf) {x y z : Int32} : Ct l D cI wf yX8_in cX8_in 3 (some .boolean) 0 0 [.int x, .int y, .int z] iv ar (rI (bI (y.toInt ≤ x.toInt ∧ x.toInt ≤ z.toInt)) iv ar) := by
  refine Ct.of (lv := [some (.int x), some (.int y), some (.int z)]) hwf (plainFor_of_name (by decide)) (Nat.le_of_ble_eq_true rfl) 0 rfl rfl (fun Z F => ?_)
  refine k_iload0 (pc := 0) F dX8_in_0 ?_
  refine k_iload1 (pc := 1) F dX8_in_1 ?_
  refine k_icmp_lt (pc := 2) (tgt := 14) F dX8_in_2 (by decide) (fun h2 => ?_) (fun h2 => ?_)
  · refine k_iconst (pc := 14) (v := nI 0) F dX8_in_14 (by decide) ?_
    refine k_zret (pc := 15) F dX8_in_15 (by decide) ?_
    exact ret0 (by (try rw [i_lt] at h2); (try rw [i_lt] at h7); omega)
  · refine k_iload0 (pc := 5) F dX8_in_5 ?_
    refine k_iload2 (pc := 6) F dX8_in_6 ?_
    refine k_icmp_gt (pc := 7) (tgt := 14) F dX8_in_7 (by decide) (fun h7 => ?_) (fun h7 => ?_)
    · refine k_iconst (pc := 14) (v := nI 0) F dX8_in_14 (by decide) ?_
      refine k_zret (pc := 15) F dX8_in_15 (by decide) ?_
      exact ret0 (by (try rw [i_lt] at h2); (try rw [i_lt] at h7); omega)
    · refine k_iconst (pc := 10) (v := nI 1) F dX8_in_10 (by decide) ?_
      refine k_goto (pc := 11) (tgt := 15) F dX8_in_11 (by decide) ?_
      refine k_zret (pc := 15) F dX8_in_15 (by decide) ?_
      exact ret1 (by (try rw [i_lt] at h2); (try rw [i_lt] at h7); omega)

set_option maxHeartbeats 4000000 in
theorem c_X8_isRecording {l : Launch} {D : va_G} {cI : ClassId} {ad : Nat → Nat} {iv : IV} {ar : AR} {n : Nat} {r : Int32} (hn : iv 0 = nI n) (hle : n ≤ 30) : Ct l D cI (mw cI ad) yX8_isRecording cX8_isRecording 2 (some .boolean) 1 22 [.ref (ad 0), .int r] iv ar (rI (bI (0 ≤ r.toInt ∧ r.toInt < n)) iv ar) := by
  refine Ct.of (lv := [some (.ref (ad 0)), some (.int r)]) mw_ok (plainFor_of_name (by decide)) (Nat.le_of_ble_eq_true rfl) 0 rfl rfl (fun Z F => ?_)
  refine k_iload1 (pc := 0) F dX8_isRecording_0 ?_
  refine k_iconst (pc := 1) (v := nI 0) F dX8_isRecording_1 (by decide) ?_
  refine k_aload0 (pc := 2) F dX8_isRecording_2 ?_
  refine g_X8_recordings (pc := 3) F (hn) dX8_isRecording_3 ?_
  refine k_iconst (pc := 6) (v := nI 1) F dX8_isRecording_6 (by decide) ?_
  refine k_isub (pc := 7) F dX8_isRecording_7 ?_
  refine k_callS (pc := 8) F (c_X8_in mw_ok) ok_X8_59 rfl rfl (by decide) (by decide) (Nat.le_of_ble_eq_true rfl) dX8_isRecording_8 (rI.use ?_)
  refine k_zret (pc := 11) F dX8_isRecording_11 bI_nar ?_
  have e1 := pk_sub_toInt (a := n) (b := 1) (by omega) (by decide)
  have e2 : (nI 0).toInt = 0 := rfl
  exact ⟨by rw [bI_iff (show _ ↔ (0 ≤ r.toInt ∧ r.toInt < n) by rw [e1, e2]; omega)], rfl, rfl⟩

set_option maxHeartbeats 4000000 in
theorem c_X8_shiftPairs {l : Launch} {D : va_G} {cI : ClassId} {ad : Nat → Nat} {iv : IV} {ar : AR} {n : Nat} {c : Nat → Nat} {s t : Nat → Int32} (hA : MArc n c s t iv ar) {k p : Nat} (hk : k < 4) (hp : p < 6) : Ct l D cI (mw cI ad) yX8_shiftPairs cX8_shiftPairs 8 (some .int) 0 0 [.ref (ad 0), .int (nI k), .int (nI p)] iv ar (rI (nI (ounz c s t n p k).1) (va_up iv 5 (ounz c s t n p k).2) ar) := by
  refine Ct.of (lv := [some (.ref (ad 0)), some (.int (nI k)), some (.int (nI p)), none, none, none, none, none]) mw_ok (plainFor_of_name (by decide)) (Nat.le_of_ble_eq_true rfl) 5 rfl rfl (fun Z F => ?_)
  have hn := hA.le
  refine k_iconst (pc := 0) (v := nI 0) F dX8_shiftPairs_0 (by decide) ?_
  refine k_istore3 (pc := 1) F (by decide) dX8_shiftPairs_1 ?_
  refine k_aload0 (pc := 2) F dX8_shiftPairs_2 ?_
  refine k_iconst (pc := 3) (v := nI 0) F dX8_shiftPairs_3 (by decide) ?_
  refine p_X8_shiftSum (pc := 4) F dX8_shiftPairs_4 ?_
  refine k_iconst (pc := 7) (v := nI 0) F dX8_shiftPairs_7 (by decide) ?_
  refine k_istore4 (pc := 8) F (by decide) dX8_shiftPairs_8 ?_
  have L10 : ∀ (fu : Nat) (a : Nat), n - a < fu → a ≤ n → (k = 0 → a = 0) → Z 10 [some (.ref (ad 0)), some (.int (nI k)), some (.int (nI p)), some (.int (nI (oun c s t n p k a).1)), some (.int (nI a)), none, none, none] [] (va_up iv 5 (oun c s t n p k a).2) ar := by
    intro fu
    induction fu with
    | zero => intro a hfu; exact absurd hfu (Nat.not_lt_zero _)
    | succ fu ih =>
      intro a hfu han hk0
      refine k_iload4 (pc := 10) F dX8_shiftPairs_10 ?_
      refine k_aload0 (pc := 12) F dX8_shiftPairs_12 ?_
      refine g_X8_recordings (pc := 13) F ((up_n (by decide)).trans hA.1) dX8_shiftPairs_13 ?_
      refine k_icmp_geN (pc := 16) (tgt := 159) F dX8_shiftPairs_16 (by decide) (by omega) (by omega) (fun h16 => ?_) (fun h16 => ?_)
      · refine k_iload3 (pc := 159) F dX8_shiftPairs_159 ?_
        refine k_iret (pc := 160) F dX8_shiftPairs_160 ?_
        have e : ounz c s t n p k = oun c s t n p k a := by
          unfold ounz
          by_cases q : k = 0
          · rw [if_pos q, hk0 q]; rfl
          · rw [if_neg q, show n = a by omega]
        exact ⟨by rw [e], by rw [e], rfl⟩
      · have hca := hA.lt (show a < n by omega)
        refine k_iload1 (pc := 19) F dX8_shiftPairs_19 ?_
        refine k_if_leN (pc := 20) (tgt := 159) F dX8_shiftPairs_20 (by decide) (by omega) (fun h20 => ?_) (fun h20 => ?_)
        · refine k_iload3 (pc := 159) F dX8_shiftPairs_159 ?_
          refine k_iret (pc := 160) F dX8_shiftPairs_160 ?_
          have e : ounz c s t n p k = oun c s t n p k a := by
            unfold ounz
            by_cases q : k = 0
            · rw [if_pos q, hk0 q]; rfl
            · rw [if_neg q, show n = a by omega]
          exact ⟨by rw [e], by rw [e], rfl⟩
        · refine k_aload0 (pc := 23) F dX8_shiftPairs_23 ?_
          refine g_X8_tone (pc := 24) F dX8_shiftPairs_24 ?_
          refine k_bipush (pc := 27) (v := nI 6) F dX8_shiftPairs_27 (by decide) ?_
          refine k_iload4 (pc := 29) F dX8_shiftPairs_29 ?_
          refine k_imulN (pc := 31) F dX8_shiftPairs_31 ?_
          refine k_iload2 (pc := 32) F dX8_shiftPairs_32 ?_
          refine k_iaddN (pc := 33) F dX8_shiftPairs_33 ?_
          refine l_m0 (pc := 34) F (by omega) (hA.tn (show a < n by omega) hp) dX8_shiftPairs_34 ?_
          refine k_istore5 (pc := 35) F (by decide) dX8_shiftPairs_35 ?_
          refine k_aload0 (pc := 37) F dX8_shiftPairs_37 ?_
          refine g_X8_channel (pc := 38) F dX8_shiftPairs_38 ?_
          refine k_iload4 (pc := 41) F dX8_shiftPairs_41 ?_
          refine l_m1 (pc := 43) F (by omega) (hA.ch (show a < n by omega)) dX8_shiftPairs_43 ?_
          refine k_iload1 (pc := 44) F dX8_shiftPairs_44 ?_
          refine k_icmp_neN (pc := 45) (tgt := 153) F dX8_shiftPairs_45 (by decide) (by omega) (by omega) (fun h45 => ?_) (fun h45 => ?_)
          · refine k_iinc4 (pc := 153) F (by decide) dX8_shiftPairs_153 (inc_N _) ?_
            refine k_goto (pc := 156) (tgt := 10) F dX8_shiftPairs_156 (by decide) ?_
            refine k_fg5 (pc := 10) F ?_
            have e : oun c s t n p k (a + 1) = oun c s t n p k a := if_neg (fun q => by first | exact h45 q.1 | exact q.2.1 h56 | exact q.2.2 h62)
            have kk := ih (a + 1) (by omega) (by omega) (fun q => absurd q (by omega))
            rw [e] at kk
            exact kk
          · refine k_aload0 (pc := 48) F dX8_shiftPairs_48 ?_
            refine g_X8_speaker (pc := 49) F dX8_shiftPairs_49 ?_
            refine k_iload4 (pc := 52) F dX8_shiftPairs_52 ?_
            refine l_m2 (pc := 54) F (by omega) (hA.sp (show a < n by omega)) dX8_shiftPairs_54 ?_
            refine k_iconst (pc := 55) (v := -1) F dX8_shiftPairs_55 (by decide) ?_
            refine k_icmp_eq (pc := 56) (tgt := 153) F dX8_shiftPairs_56 (by decide) (fun h56 => ?_) (fun h56 => ?_)
            · refine k_iinc4 (pc := 153) F (by decide) dX8_shiftPairs_153 (inc_N _) ?_
              refine k_goto (pc := 156) (tgt := 10) F dX8_shiftPairs_156 (by decide) ?_
              refine k_fg5 (pc := 10) F ?_
              have e : oun c s t n p k (a + 1) = oun c s t n p k a := if_neg (fun q => by first | exact h45 q.1 | exact q.2.1 h56 | exact q.2.2 h62)
              have kk := ih (a + 1) (by omega) (by omega) (fun q => absurd q (by omega))
              rw [e] at kk
              exact kk
            · refine k_iload5 (pc := 59) F dX8_shiftPairs_59 ?_
              refine k_iconst (pc := 61) (v := -1) F dX8_shiftPairs_61 (by decide) ?_
              refine k_icmp_ne (pc := 62) (tgt := 68) F dX8_shiftPairs_62 (by decide) (fun h62 => ?_) (fun h62 => ?_)
              · refine k_iconst (pc := 68) (v := nI 0) F dX8_shiftPairs_68 (by decide) ?_
                refine k_istore6 (pc := 69) F (by decide) dX8_shiftPairs_69 ?_
                have L71 : ∀ (fu : Nat) (b : Nat), n - b < fu → b ≤ n → Z 71 [some (.ref (ad 0)), some (.int (nI k)), some (.int (nI p)), some (.int (nI (inn c s t p a (oun c s t n p k a) b).1)), some (.int (nI a)), some (.int (t (a * 6 + p))), some (.int (nI b)), none] [] (va_up iv 5 (inn c s t p a (oun c s t n p k a) b).2) ar := by
                  intro fu
                  induction fu with
                  | zero => intro b hfu; exact absurd hfu (Nat.not_lt_zero _)
                  | succ fu ih2 =>
                    intro b hfu hbn
                    refine k_iload6 (pc := 71) F dX8_shiftPairs_71 ?_
                    refine k_aload0 (pc := 73) F dX8_shiftPairs_73 ?_
                    refine g_X8_recordings (pc := 74) F ((up_n (by decide)).trans hA.1) dX8_shiftPairs_74 ?_
                    refine k_icmp_geN (pc := 77) (tgt := 153) F dX8_shiftPairs_77 (by decide) (by omega) (by omega) (fun h77 => ?_) (fun h77 => ?_)
                    · have e : n = b := by omega
                      subst e
                      refine k_iinc4 (pc := 153) F (by decide) dX8_shiftPairs_153 (inc_N _) ?_
                      refine k_goto (pc := 156) (tgt := 10) F dX8_shiftPairs_156 (by decide) ?_
                      refine k_fg5 (pc := 10) F ?_
                      refine k_fg6 (pc := 10) F ?_
                      have e : oun c s t n p k (a + 1) = inn c s t p a (oun c s t n p k a) n := if_pos ⟨h45, h56, h62⟩
                      have kk := ih (a + 1) (by omega) (by omega) (fun q => absurd q (by omega))
                      rw [e] at kk
                      exact kk
                    · have hcb := hA.lt (show b < n by omega)
                      refine k_aload0 (pc := 80) F dX8_shiftPairs_80 ?_
                      refine g_X8_tone (pc := 81) F dX8_shiftPairs_81 ?_
                      refine k_bipush (pc := 84) (v := nI 6) F dX8_shiftPairs_84 (by decide) ?_
                      refine k_iload6 (pc := 86) F dX8_shiftPairs_86 ?_
                      refine k_imulN (pc := 88) F dX8_shiftPairs_88 ?_
                      refine k_iload2 (pc := 89) F dX8_shiftPairs_89 ?_
                      refine k_iaddN (pc := 90) F dX8_shiftPairs_90 ?_
                      refine l_m0 (pc := 91) F (by omega) (hA.tn (show b < n by omega) hp) dX8_shiftPairs_91 ?_
                      refine k_istore7 (pc := 92) F (by decide) dX8_shiftPairs_92 ?_
                      refine k_aload0 (pc := 94) F dX8_shiftPairs_94 ?_
                      refine g_X8_channel (pc := 95) F dX8_shiftPairs_95 ?_
                      refine k_iload6 (pc := 98) F dX8_shiftPairs_98 ?_
                      refine l_m1 (pc := 100) F (by omega) (hA.ch (show b < n by omega)) dX8_shiftPairs_100 ?_
                      refine k_if_neN (pc := 101) (tgt := 147) F dX8_shiftPairs_101 (by decide) (by omega) (fun h101 => ?_) (fun h101 => ?_)
                      · refine k_iinc6 (pc := 147) F (by decide) dX8_shiftPairs_147 (inc_N _) ?_
                        refine k_goto (pc := 150) (tgt := 71) F dX8_shiftPairs_150 (by decide) ?_
                        refine k_fg7 (pc := 71) F ?_
                        have e : inn c s t p a (oun c s t n p k a) (b + 1) = (inn c s t p a (oun c s t n p k a) b) := if_neg (fun q => by first | exact h101 q.1 | exact h118 q.2.1 | exact q.2.2 h124)
                        have kk := ih2 (b + 1) (by omega) (by omega)
                        rw [e] at kk
                        exact kk
                      · refine k_aload0 (pc := 104) F dX8_shiftPairs_104 ?_
                        refine g_X8_speaker (pc := 105) F dX8_shiftPairs_105 ?_
                        refine k_iload6 (pc := 108) F dX8_shiftPairs_108 ?_
                        refine l_m2 (pc := 110) F (by omega) (hA.sp (show b < n by omega)) dX8_shiftPairs_110 ?_
                        refine k_aload0 (pc := 111) F dX8_shiftPairs_111 ?_
                        refine g_X8_speaker (pc := 112) F dX8_shiftPairs_112 ?_
                        refine k_iload4 (pc := 115) F dX8_shiftPairs_115 ?_
                        refine l_m2 (pc := 117) F (by omega) (hA.sp (show a < n by omega)) dX8_shiftPairs_117 ?_
                        refine k_icmp_ne (pc := 118) (tgt := 147) F dX8_shiftPairs_118 (by decide) (fun h118 => ?_) (fun h118 => ?_)
                        · refine k_iinc6 (pc := 147) F (by decide) dX8_shiftPairs_147 (inc_N _) ?_
                          refine k_goto (pc := 150) (tgt := 71) F dX8_shiftPairs_150 (by decide) ?_
                          refine k_fg7 (pc := 71) F ?_
                          have e : inn c s t p a (oun c s t n p k a) (b + 1) = (inn c s t p a (oun c s t n p k a) b) := if_neg (fun q => by first | exact h101 q.1 | exact h118 q.2.1 | exact q.2.2 h124)
                          have kk := ih2 (b + 1) (by omega) (by omega)
                          rw [e] at kk
                          exact kk
                        · refine k_iload7 (pc := 121) F dX8_shiftPairs_121 ?_
                          refine k_iconst (pc := 123) (v := -1) F dX8_shiftPairs_123 (by decide) ?_
                          refine k_icmp_ne (pc := 124) (tgt := 130) F dX8_shiftPairs_124 (by decide) (fun h124 => ?_) (fun h124 => ?_)
                          · refine k_iinc3 (pc := 130) F (by decide) dX8_shiftPairs_130 (inc_N _) ?_
                            refine k_aload0 (pc := 133) F dX8_shiftPairs_133 ?_
                            refine k_dup (pc := 134) F dX8_shiftPairs_134 rfl ?_
                            refine g_X8_shiftSum (pc := 135) F (up_s) dX8_shiftPairs_135 ?_
                            refine k_iload5 (pc := 138) F dX8_shiftPairs_138 ?_
                            refine k_iload7 (pc := 140) F dX8_shiftPairs_140 ?_
                            refine k_isub (pc := 142) F dX8_shiftPairs_142 ?_
                            refine k_iadd (pc := 143) F dX8_shiftPairs_143 ?_
                            refine p_X8_shiftSum (pc := 144) F dX8_shiftPairs_144 ?_
                            refine k_iinc6 (pc := 147) F (by decide) dX8_shiftPairs_147 (inc_N _) ?_
                            refine k_goto (pc := 150) (tgt := 71) F dX8_shiftPairs_150 (by decide) ?_
                            refine k_fg7 (pc := 71) F ?_
                            have e : inn c s t p a (oun c s t n p k a) (b + 1) = ((inn c s t p a (oun c s t n p k a) b).1 + 1, (inn c s t p a (oun c s t n p k a) b).2 + (t (a * 6 + p) - t (b * 6 + p))) := if_pos ⟨h101, h118, h124⟩
                            rw [up_u]
                            have kk := ih2 (b + 1) (by omega) (by omega)
                            rw [e] at kk
                            exact kk
                          · refine k_goto (pc := 127) (tgt := 147) F dX8_shiftPairs_127 (by decide) ?_
                            refine k_iinc6 (pc := 147) F (by decide) dX8_shiftPairs_147 (inc_N _) ?_
                            refine k_goto (pc := 150) (tgt := 71) F dX8_shiftPairs_150 (by decide) ?_
                            refine k_fg7 (pc := 71) F ?_
                            have e : inn c s t p a (oun c s t n p k a) (b + 1) = (inn c s t p a (oun c s t n p k a) b) := if_neg (fun q => by first | exact h101 q.1 | exact h118 q.2.1 | exact q.2.2 h124)
                            have kk := ih2 (b + 1) (by omega) (by omega)
                            rw [e] at kk
                            exact kk
                exact L71 (n + 1) 0 (by omega) (by omega)
              · refine k_goto (pc := 65) (tgt := 153) F dX8_shiftPairs_65 (by decide) ?_
                refine k_iinc4 (pc := 153) F (by decide) dX8_shiftPairs_153 (inc_N _) ?_
                refine k_goto (pc := 156) (tgt := 10) F dX8_shiftPairs_156 (by decide) ?_
                refine k_fg5 (pc := 10) F ?_
                have e : oun c s t n p k (a + 1) = oun c s t n p k a := if_neg (fun q => by first | exact h45 q.1 | exact q.2.1 h56 | exact q.2.2 h62)
                have kk := ih (a + 1) (by omega) (by omega) (fun q => absurd q (by omega))
                rw [e] at kk
                exact kk
  exact L10 (n + 1) 0 (by omega) (by omega) (fun _ => rfl)

set_option maxHeartbeats 4000000 in
theorem c_X8_shiftOf {l : Launch} {D : va_G} {cI : ClassId} {ad : Nat → Nat} {iv : IV} {ar : AR} {n : Nat} {c : Nat → Nat} {s t : Nat → Int32} (hA : MArc n c s t iv ar) (hT : okT n t) {k p : Nat} (hk : k < 4) (hp : p < 6) : Ct l D cI (mw cI ad) yX8_shiftOf cX8_shiftOf 4 (some .int) 1 27 [.ref (ad 0), .int (nI k), .int (nI p)] iv ar (rI (shf c s t n k p) (va_up iv 5 (ounz c s t n p k).2) ar) := by
  refine Ct.of (lv := [some (.ref (ad 0)), some (.int (nI k)), some (.int (nI p)), none]) mw_ok (plainFor_of_name (by decide)) (Nat.le_of_ble_eq_true rfl) 1 rfl rfl (fun Z F => ?_)
  have hn := hA.le
  have hl : (ounz c s t n p k).1 ≤ 900 := by
    unfold ounz
    split
    · exact Nat.zero_le _
    · exact oun_nn hn
  have hb : bnW (ounz c s t n p k) := by
    unfold ounz
    split
    · simp [bnW]
    · exact oun_B hT hp hn n (Nat.le_refl n)
  have hs : shf c s t n k p = mean (ounz c s t n p k) := by
    unfold shf ounz
    split <;> rfl
  obtain ⟨b1, b2⟩ := hb
  refine k_aload0 (pc := 0) F dX8_shiftOf_0 ?_
  refine k_iload1 (pc := 1) F dX8_shiftOf_1 ?_
  refine k_iload2 (pc := 2) F dX8_shiftOf_2 ?_
  refine k_callV (pc := 3) (q0 := 0) F (c_X8_shiftPairs hA hk hp) ok_X8_70 rfl rfl rfl rfl rfl (by decide) (by decide) (Nat.le_of_ble_eq_true rfl) dX8_shiftOf_3 (rI.use ?_)
  refine k_istore3 (pc := 6) F (by decide) dX8_shiftOf_6 ?_
  refine k_iload3 (pc := 7) F dX8_shiftOf_7 ?_
  refine k_if_neN (pc := 8) (tgt := 13) F dX8_shiftOf_8 (by decide) (by omega) (fun h8 => ?_) (fun h8 => ?_)
  · refine k_aload0 (pc := 13) F dX8_shiftOf_13 ?_
    refine g_X8_shiftSum (pc := 14) F (up_s) dX8_shiftOf_14 ?_
    refine k_if_lt (pc := 17) (tgt := 29) F dX8_shiftOf_17 (by decide) (fun h17 => ?_) (fun h17 => ?_)
    · refine k_iload3 (pc := 29) F dX8_shiftOf_29 ?_
      refine k_iconst (pc := 30) (v := nI 1) F dX8_shiftOf_30 (by decide) ?_
      refine k_isubN (pc := 31) F dX8_shiftOf_31 (by omega) ?_
      refine k_aload0 (pc := 32) F dX8_shiftOf_32 ?_
      refine g_X8_shiftSum (pc := 33) F (up_s) dX8_shiftOf_33 ?_
      refine k_isub (pc := 36) F dX8_shiftOf_36 ?_
      refine k_iload3 (pc := 37) F dX8_shiftOf_37 ?_
      refine k_idiv (pc := 38) F dX8_shiftOf_38 (nI_ne0 (by omega) (by omega)) ?_
      refine k_ineg (pc := 39) F dX8_shiftOf_39 ?_
      refine k_iret (pc := 40) F dX8_shiftOf_40 ?_
      exact ⟨by first | rw [hs, mean, if_neg h8, fdv_neg (by omega) (by omega) (by omega) h17] | rw [hs, mean, if_neg h8, fdv_pos (by omega) h17], rfl, rfl⟩
    · refine k_aload0 (pc := 20) F dX8_shiftOf_20 ?_
      refine g_X8_shiftSum (pc := 21) F (up_s) dX8_shiftOf_21 ?_
      refine k_iload3 (pc := 24) F dX8_shiftOf_24 ?_
      refine k_idiv (pc := 25) F dX8_shiftOf_25 (nI_ne0 (by omega) (by omega)) ?_
      refine k_goto (pc := 26) (tgt := 40) F dX8_shiftOf_26 (by decide) ?_
      refine k_iret (pc := 40) F dX8_shiftOf_40 ?_
      exact ⟨by first | rw [hs, mean, if_neg h8, fdv_neg (by omega) (by omega) (by omega) h17] | rw [hs, mean, if_neg h8, fdv_pos (by omega) h17], rfl, rfl⟩
  · refine k_iconst (pc := 11) (v := nI 0) F dX8_shiftOf_11 (by decide) ?_
    refine k_iret (pc := 12) F dX8_shiftOf_12 ?_
    exact ⟨by rw [hs, mean, if_pos h8]; rfl, rfl, rfl⟩

set_option maxHeartbeats 4000000 in
theorem c_X8_reckons {l : Launch} {D : va_G} {cI : ClassId} {ad : Nat → Nat} {iv : IV} {ar : AR} {n : Nat} {c : Nat → Nat} {s t : Nat → Int32} (hA : MArc n c s t iv ar) (hT : okT n t) : Ct l D cI (mw cI ad) yX8_reckons cX8_reckons 3 none 2 50 [.ref (ad 0)] iv ar (qV (fun iv2 ar2 => (∀ k, k ≠ 5 → iv2 k = iv k) ∧ (∀ k, k ≠ 5 → ar2 k = ar k) ∧ ∀ j, j < 24 → ar2 5 j = shA c s t n j)) := by
  refine Ct.of (lv := [some (.ref (ad 0)), none, none]) mw_ok (plainFor_of_name (by decide)) (Nat.le_of_ble_eq_true rfl) 2 rfl rfl (fun Z F => ?_)
  refine k_iconst (pc := 0) (v := nI 0) F dX8_reckons_0 (by decide) ?_
  refine k_istore1 (pc := 1) F (by decide) dX8_reckons_1 ?_
  have L2 : ∀ (fu : Nat) (k : Nat) (iv1 : IV) (ar1 : AR), 4 - k < fu → k ≤ 4 → (∀ k, k ≠ 5 → iv1 k = iv k) → (∀ k, k ≠ 5 → ar1 k = ar k) → (∀ j, j < 6 * k → ar1 5 j = shA c s t n j) → Z 2 [some (.ref (ad 0)), some (.int (nI k)), none] [] iv1 ar1 := by
    intro fu
    induction fu with
    | zero => intro k iv1 ar1 hfu; exact absurd hfu (Nat.not_lt_zero _)
    | succ fu ih =>
      intro k iv1 ar1 hfu hk f1 f2 hsh
      refine k_iload1 (pc := 2) F dX8_reckons_2 ?_
      refine k_iconst (pc := 3) (v := nI 4) F dX8_reckons_3 (by decide) ?_
      refine k_icmp_geN (pc := 4) (tgt := 44) F dX8_reckons_4 (by decide) (by omega) (by omega) (fun h4 => ?_) (fun h4 => ?_)
      · have e : k = 4 := by omega
        subst e
        refine k_vret (pc := 44) F dX8_reckons_44 ?_
        exact ⟨rfl, f1, f2, hsh⟩
      · refine k_iconst (pc := 7) (v := nI 0) F dX8_reckons_7 (by decide) ?_
        refine k_istore2 (pc := 8) F (by decide) dX8_reckons_8 ?_
        have L9 : ∀ (fu : Nat) (p : Nat) (iv2 : IV) (ar2 : AR), 6 - p < fu → p ≤ 6 → (∀ k, k ≠ 5 → iv2 k = iv k) → (∀ k, k ≠ 5 → ar2 k = ar k) → (∀ j, j < 6 * k + p → ar2 5 j = shA c s t n j) → Z 9 [some (.ref (ad 0)), some (.int (nI k)), some (.int (nI p))] [] iv2 ar2 := by
          intro fu
          induction fu with
          | zero => intro p iv2 ar2 hfu; exact absurd hfu (Nat.not_lt_zero _)
          | succ fu ih2 =>
            intro p iv2 ar2 hfu hp g1 g2 hs2
            have hA2 : MArc n c s t iv2 ar2 := hA.keep (g1 0 (by decide)) (g2 0 (by decide)) (g2 1 (by decide)) (g2 2 (by decide))
            refine k_iload2 (pc := 9) F dX8_reckons_9 ?_
            refine k_bipush (pc := 10) (v := nI 6) F dX8_reckons_10 (by decide) ?_
            refine k_icmp_geN (pc := 12) (tgt := 38) F dX8_reckons_12 (by decide) (by omega) (by omega) (fun h12 => ?_) (fun h12 => ?_)
            · have e : p = 6 := by omega
              subst e
              refine k_iinc1 (pc := 38) F (by decide) dX8_reckons_38 (inc_N _) ?_
              refine k_goto (pc := 41) (tgt := 2) F dX8_reckons_41 (by decide) ?_
              refine k_fg2 (pc := 2) F ?_
              exact ih (k + 1) _ _ (by omega) (by omega) g1 g2 (fun j hj => hs2 j (by omega))
            · refine k_aload0 (pc := 15) F dX8_reckons_15 ?_
              refine g_X8_shifts (pc := 16) F dX8_reckons_16 ?_
              refine k_bipush (pc := 19) (v := nI 6) F dX8_reckons_19 (by decide) ?_
              refine k_iload1 (pc := 21) F dX8_reckons_21 ?_
              refine k_imulN (pc := 22) F dX8_reckons_22 ?_
              refine k_iload2 (pc := 23) F dX8_reckons_23 ?_
              refine k_iaddN (pc := 24) F dX8_reckons_24 ?_
              refine k_aload0 (pc := 25) F dX8_reckons_25 ?_
              refine k_iload1 (pc := 26) F dX8_reckons_26 ?_
              refine k_iload2 (pc := 27) F dX8_reckons_27 ?_
              refine k_callV (pc := 28) (q0 := 0) F (c_X8_shiftOf hA2 hT (by omega) (by omega)) ok_X8_74 rfl rfl rfl rfl rfl (by decide) (by decide) (Nat.le_of_ble_eq_true rfl) dX8_reckons_28 (rI.use ?_)
              refine s_m5 (pc := 31) F (by omega) (rfl) dX8_reckons_31 ?_
              refine k_iinc2 (pc := 32) F (by decide) dX8_reckons_32 (inc_N _) ?_
              refine k_goto (pc := 35) (tgt := 9) F dX8_reckons_35 (by decide) ?_
              refine ih2 (p + 1) _ _ (by omega) (by omega) (fun q hq => ?_) (fun q hq => ?_) (fun j hj => ?_)
              · rw [up_n hq]; exact g1 q hq
              · rw [up_n hq]; exact g2 q hq
              · rw [up_s]
                by_cases e : j = 6 * k + p
                · subst e
                  rw [upd_at, shA, show (6 * k + p) / 6 = k by omega, show (6 * k + p) % 6 = p by omega]
                · rw [upd_ne e]; exact hs2 j (by omega)
        exact L9 7 0 iv1 ar1 (by omega) (by omega) f1 f2 (fun j hj => hsh j (by omega))
  exact L2 5 0 iv ar (by omega) (by omega) (fun _ _ => rfl) (fun _ _ => rfl) (fun j hj => by omega)

set_option maxHeartbeats 4000000 in
theorem c_X8_scoreOf {l : Launch} {D : va_G} {cI : ClassId} {ad : Nat → Nat} {iv : IV} {ar : AR} {n : Nat} {c : Nat → Nat} {s t : Nat → Int32} (hA : MArc n c s t iv ar) {a b : Nat} (ha : a < n) (hb : b < n) : Ct l D cI (mw cI ad) yX8_scoreOf cX8_scoreOf 9 (some .int) 0 0 [.ref (ad 0), .int (nI a), .int (nI b)] iv ar (rI (sco c t (ar 5) a b) iv ar) := by
  refine Ct.of (lv := [some (.ref (ad 0)), some (.int (nI a)), some (.int (nI b)), none, none, none, none, none, none]) mw_ok (plainFor_of_name (by decide)) (Nat.le_of_ble_eq_true rfl) 6 rfl rfl (fun Z F => ?_)
  have hn := hA.le
  have hca := hA.lt ha
  have hcb := hA.lt hb
  refine k_iconst (pc := 0) (v := nI 0) F dX8_scoreOf_0 (by decide) ?_
  refine k_istore3 (pc := 1) F (by decide) dX8_scoreOf_1 ?_
  refine k_iconst (pc := 2) (v := nI 0) F dX8_scoreOf_2 (by decide) ?_
  refine k_istore4 (pc := 3) F (by decide) dX8_scoreOf_3 ?_
  refine k_iconst (pc := 5) (v := nI 0) F dX8_scoreOf_5 (by decide) ?_
  refine k_istore5 (pc := 6) F (by decide) dX8_scoreOf_6 ?_
  have L8 : ∀ (fu : Nat) (p : Nat), 6 - p < fu → p ≤ 6 → Z 8 [some (.ref (ad 0)), some (.int (nI a)), some (.int (nI b)), some (.int (nI (scw c t (ar 5) a b p).1)), some (.int (scw c t (ar 5) a b p).2), some (.int (nI p)), none, none, none] [] iv ar := by
    intro fu
    induction fu with
    | zero => intro p hfu; exact absurd hfu (Nat.not_lt_zero _)
    | succ fu ih =>
      intro p hfu hp
      refine k_iload5 (pc := 8) F dX8_scoreOf_8 ?_
      refine k_bipush (pc := 10) (v := nI 6) F dX8_scoreOf_10 (by decide) ?_
      refine k_icmp_geN (pc := 12) (tgt := 128) F dX8_scoreOf_12 (by decide) (by omega) (by omega) (fun h12 => ?_) (fun h12 => ?_)
      · have e : p = 6 := by omega
        subst e
        have hle := scw_le c t (ar 5) a b 6
        refine k_iload3 (pc := 128) F dX8_scoreOf_128 ?_
        refine k_iconst (pc := 129) (v := nI 3) F dX8_scoreOf_129 (by decide) ?_
        refine k_icmp_geN (pc := 130) (tgt := 137) F dX8_scoreOf_130 (by decide) (by omega) (by omega) (fun h130 => ?_) (fun h130 => ?_)
        · refine k_bipush (pc := 137) (v := nI 6) F dX8_scoreOf_137 (by decide) ?_
          refine k_iload4 (pc := 139) F dX8_scoreOf_139 ?_
          refine k_imul (pc := 141) F dX8_scoreOf_141 ?_
          refine k_iload3 (pc := 142) F dX8_scoreOf_142 ?_
          refine k_idiv (pc := 143) F dX8_scoreOf_143 (nI_ne0 (by omega) (by omega)) ?_
          refine k_iret (pc := 144) F dX8_scoreOf_144 ?_
          exact ⟨by first | rw [sco, if_neg (by omega), Int32.mul_comm] | rw [sco, if_pos (by omega)], rfl, rfl⟩
        · refine k_iconst (pc := 133) (v := -1) F dX8_scoreOf_133 (by decide) ?_
          refine k_goto (pc := 134) (tgt := 144) F dX8_scoreOf_134 (by decide) ?_
          refine k_iret (pc := 144) F dX8_scoreOf_144 ?_
          exact ⟨by first | rw [sco, if_neg (by omega), Int32.mul_comm] | rw [sco, if_pos (by omega)], rfl, rfl⟩
      · refine k_aload0 (pc := 15) F dX8_scoreOf_15 ?_
        refine g_X8_tone (pc := 16) F dX8_scoreOf_16 ?_
        refine k_bipush (pc := 19) (v := nI 6) F dX8_scoreOf_19 (by decide) ?_
        refine k_iload1 (pc := 21) F dX8_scoreOf_21 ?_
        refine k_imulN (pc := 22) F dX8_scoreOf_22 ?_
        refine k_iload5 (pc := 23) F dX8_scoreOf_23 ?_
        refine k_iaddN (pc := 25) F dX8_scoreOf_25 ?_
        refine l_m0 (pc := 26) F (by omega) (hA.tn ha (by omega)) dX8_scoreOf_26 ?_
        refine k_istore6 (pc := 27) F (by decide) dX8_scoreOf_27 ?_
        refine k_aload0 (pc := 29) F dX8_scoreOf_29 ?_
        refine g_X8_tone (pc := 30) F dX8_scoreOf_30 ?_
        refine k_bipush (pc := 33) (v := nI 6) F dX8_scoreOf_33 (by decide) ?_
        refine k_iload2 (pc := 35) F dX8_scoreOf_35 ?_
        refine k_imulN (pc := 36) F dX8_scoreOf_36 ?_
        refine k_iload5 (pc := 37) F dX8_scoreOf_37 ?_
        refine k_iaddN (pc := 39) F dX8_scoreOf_39 ?_
        refine l_m0 (pc := 40) F (by omega) (hA.tn hb (by omega)) dX8_scoreOf_40 ?_
        refine k_istore7 (pc := 41) F (by decide) dX8_scoreOf_41 ?_
        refine k_iload6 (pc := 43) F dX8_scoreOf_43 ?_
        refine k_iconst (pc := 45) (v := -1) F dX8_scoreOf_45 (by decide) ?_
        refine k_icmp_eq (pc := 46) (tgt := 122) F dX8_scoreOf_46 (by decide) (fun h46 => ?_) (fun h46 => ?_)
        · refine k_iinc5 (pc := 122) F (by decide) dX8_scoreOf_122 (inc_N _) ?_
          refine k_goto (pc := 125) (tgt := 8) F dX8_scoreOf_125 (by decide) ?_
          refine k_fg6 (pc := 8) F ?_
          refine k_fg7 (pc := 8) F ?_
          have e : scw c t (ar 5) a b (p + 1) = scw c t (ar 5) a b p := if_neg (fun q => by first | exact q.1 h46 | exact q.2 h52)
          have k := ih (p + 1) (by omega) (by omega)
          rw [e] at k
          exact k
        · refine k_iload7 (pc := 49) F dX8_scoreOf_49 ?_
          refine k_iconst (pc := 51) (v := -1) F dX8_scoreOf_51 (by decide) ?_
          refine k_icmp_ne (pc := 52) (tgt := 58) F dX8_scoreOf_52 (by decide) (fun h52 => ?_) (fun h52 => ?_)
          · refine k_iload6 (pc := 58) F dX8_scoreOf_58 ?_
            refine k_aload0 (pc := 60) F dX8_scoreOf_60 ?_
            refine g_X8_shifts (pc := 61) F dX8_scoreOf_61 ?_
            refine k_bipush (pc := 64) (v := nI 6) F dX8_scoreOf_64 (by decide) ?_
            refine k_aload0 (pc := 66) F dX8_scoreOf_66 ?_
            refine g_X8_channel (pc := 67) F dX8_scoreOf_67 ?_
            refine k_iload1 (pc := 70) F dX8_scoreOf_70 ?_
            refine l_m1 (pc := 71) F (by omega) (hA.ch ha) dX8_scoreOf_71 ?_
            refine k_imulN (pc := 72) F dX8_scoreOf_72 ?_
            refine k_iload5 (pc := 73) F dX8_scoreOf_73 ?_
            refine k_iaddN (pc := 75) F dX8_scoreOf_75 ?_
            refine l_m5 (pc := 76) F (by omega) (show ar 5 (6 * c a + p) = ar 5 (c a * 6 + p) by rw [Nat.mul_comm]) dX8_scoreOf_76 ?_
            refine k_isub (pc := 77) F dX8_scoreOf_77 ?_
            refine k_iload7 (pc := 78) F dX8_scoreOf_78 ?_
            refine k_isub (pc := 80) F dX8_scoreOf_80 ?_
            refine k_aload0 (pc := 81) F dX8_scoreOf_81 ?_
            refine g_X8_shifts (pc := 82) F dX8_scoreOf_82 ?_
            refine k_bipush (pc := 85) (v := nI 6) F dX8_scoreOf_85 (by decide) ?_
            refine k_aload0 (pc := 87) F dX8_scoreOf_87 ?_
            refine g_X8_channel (pc := 88) F dX8_scoreOf_88 ?_
            refine k_iload2 (pc := 91) F dX8_scoreOf_91 ?_
            refine l_m1 (pc := 92) F (by omega) (hA.ch hb) dX8_scoreOf_92 ?_
            refine k_imulN (pc := 93) F dX8_scoreOf_93 ?_
            refine k_iload5 (pc := 94) F dX8_scoreOf_94 ?_
            refine k_iaddN (pc := 96) F dX8_scoreOf_96 ?_
            refine l_m5 (pc := 97) F (by omega) (show ar 5 (6 * c b + p) = ar 5 (c b * 6 + p) by rw [Nat.mul_comm]) dX8_scoreOf_97 ?_
            refine k_iadd (pc := 98) F dX8_scoreOf_98 ?_
            refine k_istore8 (pc := 99) F (by decide) dX8_scoreOf_99 ?_
            refine k_iinc3 (pc := 101) F (by decide) dX8_scoreOf_101 (inc_N _) ?_
            refine k_iload4 (pc := 104) F dX8_scoreOf_104 ?_
            refine k_iload8 (pc := 106) F dX8_scoreOf_106 ?_
            refine k_if_ge (pc := 108) (tgt := 117) F dX8_scoreOf_108 (by decide) (fun h108 => ?_) (fun h108 => ?_)
            · refine k_iload8 (pc := 117) F dX8_scoreOf_117 ?_
              refine k_iadd (pc := 119) F dX8_scoreOf_119 ?_
              refine k_istore4 (pc := 120) F (by decide) dX8_scoreOf_120 ?_
              refine k_iinc5 (pc := 122) F (by decide) dX8_scoreOf_122 (inc_N _) ?_
              refine k_goto (pc := 125) (tgt := 8) F dX8_scoreOf_125 (by decide) ?_
              refine k_fg6 (pc := 8) F ?_
              refine k_fg7 (pc := 8) F ?_
              refine k_fg8 (pc := 8) F ?_
              have e : scw c t (ar 5) a b (p + 1) = (((scw c t (ar 5) a b p).1 + 1), (scw c t (ar 5) a b p).2 + iabs ((t (a * 6 + p) - ar 5 (c a * 6 + p)) - (t (b * 6 + p) - ar 5 (c b * 6 + p)))) := if_pos ⟨h46, h52⟩
              rw [← ring1] at e
              unfold iabs at e
              have k := ih (p + 1) (by omega) (by omega)
              rw [e] at k
              first | (rw [if_pos (by rw [i_lt, toInt_0]; rw [i_le, toInt_0] at h108; omega)] at k; exact k) | (rw [if_neg (by rw [i_lt, toInt_0]; rw [i_le, toInt_0] at h108; omega)] at k; exact k)
            · refine k_iload8 (pc := 111) F dX8_scoreOf_111 ?_
              refine k_ineg (pc := 113) F dX8_scoreOf_113 ?_
              refine k_goto (pc := 114) (tgt := 119) F dX8_scoreOf_114 (by decide) ?_
              refine k_iadd (pc := 119) F dX8_scoreOf_119 ?_
              refine k_istore4 (pc := 120) F (by decide) dX8_scoreOf_120 ?_
              refine k_iinc5 (pc := 122) F (by decide) dX8_scoreOf_122 (inc_N _) ?_
              refine k_goto (pc := 125) (tgt := 8) F dX8_scoreOf_125 (by decide) ?_
              refine k_fg6 (pc := 8) F ?_
              refine k_fg7 (pc := 8) F ?_
              refine k_fg8 (pc := 8) F ?_
              have e : scw c t (ar 5) a b (p + 1) = (((scw c t (ar 5) a b p).1 + 1), (scw c t (ar 5) a b p).2 + iabs ((t (a * 6 + p) - ar 5 (c a * 6 + p)) - (t (b * 6 + p) - ar 5 (c b * 6 + p)))) := if_pos ⟨h46, h52⟩
              rw [← ring1] at e
              unfold iabs at e
              have k := ih (p + 1) (by omega) (by omega)
              rw [e] at k
              first | (rw [if_pos (by rw [i_lt, toInt_0]; rw [i_le, toInt_0] at h108; omega)] at k; exact k) | (rw [if_neg (by rw [i_lt, toInt_0]; rw [i_le, toInt_0] at h108; omega)] at k; exact k)
          · refine k_goto (pc := 55) (tgt := 122) F dX8_scoreOf_55 (by decide) ?_
            refine k_iinc5 (pc := 122) F (by decide) dX8_scoreOf_122 (inc_N _) ?_
            refine k_goto (pc := 125) (tgt := 8) F dX8_scoreOf_125 (by decide) ?_
            refine k_fg6 (pc := 8) F ?_
            refine k_fg7 (pc := 8) F ?_
            have e : scw c t (ar 5) a b (p + 1) = scw c t (ar 5) a b p := if_neg (fun q => by first | exact q.1 h46 | exact q.2 h52)
            have k := ih (p + 1) (by omega) (by omega)
            rw [e] at k
            exact k
  exact L8 7 0 (by omega) (by omega)

set_option maxHeartbeats 4000000 in
theorem c_X8_isOf {l : Launch} {D : va_G} {cI : ClassId} {ad : Nat → Nat} {iv : IV} {ar : AR} {n : Nat} {c : Nat → Nat} {s t : Nat → Int32} (hA : MArc n c s t iv ar) {k : Nat} (hk : k < n) : Ct l D cI (mw cI ad) yX8_isOf cX8_isOf 2 (some .boolean) 0 0 [.ref (ad 0), .int (nI k)] iv ar (rI (bI (ofS (iv 1) (s k))) iv ar) := by
  refine Ct.of (lv := [some (.ref (ad 0)), some (.int (nI k))]) mw_ok (plainFor_of_name (by decide)) (Nat.le_of_ble_eq_true rfl) 0 rfl rfl (fun Z F => ?_)
  have hn := hA.le
  refine k_aload0 (pc := 0) F dX8_isOf_0 ?_
  refine g_X8_speaker (pc := 1) F dX8_isOf_1 ?_
  refine k_iload1 (pc := 4) F dX8_isOf_4 ?_
  refine l_m2 (pc := 5) F (by omega) (hA.sp hk) dX8_isOf_5 ?_
  refine k_iconst (pc := 6) (v := -1) F dX8_isOf_6 (by decide) ?_
  refine k_icmp_eq (pc := 7) (tgt := 31) F dX8_isOf_7 (by decide) (fun h7 => ?_) (fun h7 => ?_)
  · refine k_iconst (pc := 31) (v := nI 0) F dX8_isOf_31 (by decide) ?_
    refine k_zret (pc := 32) F dX8_isOf_32 (by decide) ?_
    exact ret0 (by first | exact ⟨h7, h24⟩ | exact fun q => q.1 h7 | exact fun q => h24 q.2)
  · refine k_aload0 (pc := 10) F dX8_isOf_10 ?_
    refine g_X8_set (pc := 11) F (rfl) dX8_isOf_11 ?_
    refine k_aload0 (pc := 14) F dX8_isOf_14 ?_
    refine g_X8_speaker (pc := 15) F dX8_isOf_15 ?_
    refine k_iload1 (pc := 18) F dX8_isOf_18 ?_
    refine l_m2 (pc := 19) F (by omega) (hA.sp hk) dX8_isOf_19 ?_
    refine k_ishr (pc := 20) F dX8_isOf_20 ?_
    refine k_iconst (pc := 21) (v := nI 1) F dX8_isOf_21 (by decide) ?_
    refine k_iand (pc := 22) F dX8_isOf_22 ?_
    refine k_iconst (pc := 23) (v := nI 1) F dX8_isOf_23 (by decide) ?_
    refine k_icmp_ne (pc := 24) (tgt := 31) F dX8_isOf_24 (by decide) (fun h24 => ?_) (fun h24 => ?_)
    · refine k_iconst (pc := 31) (v := nI 0) F dX8_isOf_31 (by decide) ?_
      refine k_zret (pc := 32) F dX8_isOf_32 (by decide) ?_
      exact ret0 (by first | exact ⟨h7, h24⟩ | exact fun q => q.1 h7 | exact fun q => h24 q.2)
    · refine k_iconst (pc := 27) (v := nI 1) F dX8_isOf_27 (by decide) ?_
      refine k_goto (pc := 28) (tgt := 32) F dX8_isOf_28 (by decide) ?_
      refine k_zret (pc := 32) F dX8_isOf_32 (by decide) ?_
      exact ret1 (by first | exact ⟨h7, h24⟩ | exact fun q => q.1 h7 | exact fun q => h24 q.2)

/-- the BAND of a score -/
def bnd (v : Nat) : Nat := if 9 < v / 10 then 9 else v / 10
theorem bnd_lt (v : Nat) : bnd v < 10 := by
  unfold bnd
  split <;> omega
set_option maxHeartbeats 4000000 in
theorem c_X8_bandOf {l : Launch} {D : va_G} {cI : ClassId} {wf : WF} {iv : IV} {ar : AR} (hwf : wfOk wf) {v : Nat} (hv : v < 2 ^ 31) : Ct l D cI wf yX8_bandOf cX8_bandOf 1 (some .int) 0 0 [.int (nI v)] iv ar (rI (nI (bnd v)) iv ar) := by
  refine Ct.of (lv := [some (.int (nI v))]) hwf (plainFor_of_name (by decide)) (Nat.le_of_ble_eq_true rfl) 0 rfl rfl (fun Z F => ?_)
  refine k_iload0 (pc := 0) F dX8_bandOf_0 ?_
  refine k_bipush (pc := 1) (v := nI 10) F dX8_bandOf_1 (by decide) ?_
  refine k_idiv (pc := 3) F dX8_bandOf_3 (by decide) ?_
  refine k_top (y := nI (v / 10)) (pk_div hv (by decide) (by decide)) ?_
  refine k_bipush (pc := 4) (v := nI 9) F dX8_bandOf_4 (by decide) ?_
  refine k_icmp_leN (pc := 6) (tgt := 14) F dX8_bandOf_6 (by decide) (by omega) (by omega) (fun h6 => ?_) (fun h6 => ?_)
  · refine k_iload0 (pc := 14) F dX8_bandOf_14 ?_
    refine k_bipush (pc := 15) (v := nI 10) F dX8_bandOf_15 (by decide) ?_
    refine k_idiv (pc := 17) F dX8_bandOf_17 (by decide) ?_
    refine k_top (y := nI (v / 10)) (pk_div hv (by decide) (by decide)) ?_
    refine k_iret (pc := 18) F dX8_bandOf_18 ?_
    exact ⟨by first | rw [bnd, if_pos (by omega)] | rw [bnd, if_neg (by omega)], rfl, rfl⟩
  · refine k_bipush (pc := 9) (v := nI 9) F dX8_bandOf_9 (by decide) ?_
    refine k_goto (pc := 11) (tgt := 18) F dX8_bandOf_11 (by decide) ?_
    refine k_iret (pc := 18) F dX8_bandOf_18 ?_
    exact ⟨by first | rw [bnd, if_pos (by omega)] | rw [bnd, if_neg (by omega)], rfl, rfl⟩

set_option maxHeartbeats 4000000 in
theorem c_X7_bandOf {l : Launch} {D : va_G} {cI : ClassId} {wf : WF} {iv : IV} {ar : AR} (hwf : wfOk wf) {v : Nat} (hv : v < 2 ^ 31) : Ct l D cI wf yX7_bandOf cX7_bandOf 1 (some .int) 1 21 [.int (nI v)] iv ar (rI (nI (bnd v)) iv ar) := by
  refine Ct.of (lv := [some (.int (nI v))]) hwf (plainFor_of_name (by decide)) (Nat.le_of_ble_eq_true rfl) 0 rfl rfl (fun Z F => ?_)
  refine k_iload0 (pc := 0) F dX7_bandOf_0 ?_
  refine k_bipush (pc := 1) (v := nI 10) F dX7_bandOf_1 (by decide) ?_
  refine k_idiv (pc := 3) F dX7_bandOf_3 (by decide) ?_
  refine k_top (y := nI (v / 10)) (pk_div hv (by decide) (by decide)) ?_
  refine k_bipush (pc := 4) (v := nI 9) F dX7_bandOf_4 (by decide) ?_
  refine k_callS (pc := 6) F (c_J9_min_7cf53 hwf) ok_X7_239 rfl rfl (by decide) (by decide) (Nat.le_of_ble_eq_true rfl) dX7_bandOf_6 (rI.use ?_)
  refine k_iret (pc := 9) F dX7_bandOf_9 ?_
  exact ⟨by
    have e : (nI 9 < nI (v / 10)) ↔ 9 < v / 10 := nI_ltI (by decide) (by omega)
    unfold bnd
    by_cases q : 9 < v / 10
    · rw [if_pos q, if_pos (e.mpr q)]
    · rw [if_neg q, if_neg (fun z => q (e.mp z))], rfl, rfl⟩

