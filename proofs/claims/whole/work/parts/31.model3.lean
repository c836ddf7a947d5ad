/-- the reference's segments, scores, voices -/
def MG (n m : Nat) (g : Nat → Nat) (iv : IV) (ar : AR) : Prop := iv 3 = nI m ∧ m ≤ 8 ∧ ∀ k, k < m → ar 3 k = nI (g k) ∧ g k < n
theorem MG.keep {n m : Nat} {g : Nat → Nat} {iv iv2 : IV} {ar ar2 : AR} (h : MG n m g iv ar) (h7 : iv2 3 = iv 3) (h12 : ar2 3 = ar 3) : MG n m g iv2 ar2 := by
  obtain ⟨h1, h2, h3⟩ := h
  exact ⟨by rw [h7]; exact h1, h2, by rw [h12]; exact h3⟩
def TBm (m : Nat) (T : Nat → Nat → Int32) (ar : AR) : Prop := ∀ j k, j < m → k < m → j ≠ k → ar 9 (8 * j + k) = T j k
def VOm (m : Nat) (v : Nat → Nat) (ar : AR) : Prop := ∀ k, k < m → ar 10 k = nI (v k)
theorem jst_big {T : Nat → Nat → Int32} {v : Nat → Nat} {m lim a b : Nat} {z : Option QT} {w : Nat × Nat} (h : v a = a ∧ v b = b) (hx : xou T v a b m m = some w) (hz : okQ v m lim z) (hl : ¬ w.1 ≤ lim * w.2) : jst T v m lim a b z = z := by
  cases z with
  | none => exact jst_n0 h hx hl
  | some y => exact jst_s0 h hx (fun q => hl (lim_of q (hz y rfl).2.2.2.2.1))
theorem jfi_ge {T : Nat → Nat → Int32} {m lim : Nat} (hT : okTb m T) (hm : m ≤ 8) : ∀ (d f : Nat) (v : Nat → Nat), cvN v m ≤ f + 1 → jfi T m lim (f + d) v = jfi T m lim f v
  | 0, f, v, h => rfl
  | d + 1, f, v, h => by rw [show f + (d + 1) = (f + d) + 1 from rfl, jfi_st hT hm (f + d) v (by omega), jfi_ge hT hm d f v h]
set_option maxHeartbeats 4000000 in
theorem c_X8_scoresAll {l : Launch} {D : va_G} {cI : ClassId} {ad : Nat → Nat} {iv : IV} {ar : AR} {n : Nat} {c : Nat → Nat} {s t : Nat → Int32} (hA : MArc n c s t iv ar) (hT0 : okT n t) {m : Nat} {g : Nat → Nat} (hG : MG n m g iv ar) : Ct l D cI (mw cI ad) yX8_scoresAll cX8_scoresAll 3 none 3 72 [.ref (ad 0)] iv ar (qV (fun iv2 ar2 => (∀ q, q ≠ 5 → iv2 q = iv q) ∧ (∀ q, q ≠ 5 → q ≠ 9 → ar2 q = ar q) ∧ (∀ j, j < 24 → ar2 5 j = shA c s t n j) ∧ TBm m (Tg c s t n g) ar2)) := by
  refine Ct.of (lv := [some (.ref (ad 0)), none, none]) mw_ok (plainFor_of_name (by decide)) (Nat.le_of_ble_eq_true rfl) 2 rfl rfl (fun Z F => ?_)
  have hm := hG.2.1
  have hn := hA.le
  refine k_aload0 (pc := 0) F dX8_scoresAll_0 ?_
  refine k_callV (pc := 1) (q0 := 0) F (c_X8_reckons hA hT0) ok_X8_78 rfl rfl rfl rfl rfl (by decide) (by decide) (Nat.le_of_ble_eq_true rfl) dX8_scoresAll_1 (qV.use (fun ivR arR hR => ?_))
  obtain ⟨r1, r2, r3⟩ := hR
  have hAR : MArc n c s t ivR arR := hA.keep (r1 0 (by decide)) (r2 0 (by decide)) (r2 1 (by decide)) (r2 2 (by decide))
  have hGR : MG n m g ivR arR := hG.keep (r1 3 (by decide)) (r2 3 (by decide))
  refine k_iconst (pc := 4) (v := nI 0) F dX8_scoresAll_4 (by decide) ?_
  refine k_istore1 (pc := 5) F (by decide) dX8_scoresAll_5 ?_
  have L6 : ∀ (fu : Nat) (a : Nat) (ar1 : AR), m - a < fu → a ≤ m → (∀ q, q ≠ 9 → ar1 q = arR q) → (∀ i k, i < a → k < m → i ≠ k → ar1 9 (8 * i + k) = (Tg c s t n g) i k) → Z 6 [some (.ref (ad 0)), some (.int (nI a)), none] [] ivR ar1 := by
    intro fu
    induction fu with
    | zero => intro a ar1 hfu; exact absurd hfu (Nat.not_lt_zero _)
    | succ fu ih =>
      intro a ar1 hfu ha f1 t1
      refine k_iload1 (pc := 6) F dX8_scoresAll_6 ?_
      refine k_aload0 (pc := 7) F dX8_scoresAll_7 ?_
      refine g_X8_segments (pc := 8) F (hGR.1) dX8_scoresAll_8 ?_
      refine k_icmp_geN (pc := 11) (tgt := 72) F dX8_scoresAll_11 (by decide) (by omega) (by omega) (fun h11 => ?_) (fun h11 => ?_)
      · refine k_vret (pc := 72) F dX8_scoresAll_72 ?_
        have e : a = m := by omega
        subst e
        refine ⟨rfl, r1, fun q q5 q9 => (f1 q q9).trans (r2 q q5), ?_, t1⟩
        rw [f1 5 (by decide)]
        exact r3
      · refine k_iconst (pc := 14) (v := nI 0) F dX8_scoresAll_14 (by decide) ?_
        refine k_istore2 (pc := 15) F (by decide) dX8_scoresAll_15 ?_
        have L16 : ∀ (fu : Nat) (b : Nat) (ar2 : AR), m - b < fu → b ≤ m → (∀ q, q ≠ 9 → ar2 q = arR q) → (∀ i k, i < a → k < m → i ≠ k → ar2 9 (8 * i + k) = (Tg c s t n g) i k) → (∀ k, k < b → a ≠ k → ar2 9 (8 * a + k) = (Tg c s t n g) a k) → Z 16 [some (.ref (ad 0)), some (.int (nI a)), some (.int (nI b))] [] ivR ar2 := by
          intro fu
          induction fu with
          | zero => intro b ar2 hfu; exact absurd hfu (Nat.not_lt_zero _)
          | succ fu ih2 =>
            intro b ar2 hfu hb f2 t2 t3
            have hA2 : MArc n c s t ivR ar2 := hAR.keep rfl (f2 0 (by decide)) (f2 1 (by decide)) (f2 2 (by decide))
            have h52 : ∀ j, j < 24 → ar2 5 j = shA c s t n j := by rw [f2 5 (by decide)]; exact r3
            have hG2 := hGR.keep (ar2 := ar2) rfl (f2 3 (by decide))
            refine k_iload2 (pc := 16) F dX8_scoresAll_16 ?_
            refine k_aload0 (pc := 17) F dX8_scoresAll_17 ?_
            refine g_X8_segments (pc := 18) F (hGR.1) dX8_scoresAll_18 ?_
            refine k_icmp_geN (pc := 21) (tgt := 66) F dX8_scoresAll_21 (by decide) (by omega) (by omega) (fun h21 => ?_) (fun h21 => ?_)
            · have e : m = b := by omega
              subst e
              refine k_iinc1 (pc := 66) F (by decide) dX8_scoresAll_66 (inc_N _) ?_
              refine k_goto (pc := 69) (tgt := 6) F dX8_scoresAll_69 (by decide) ?_
              refine k_fg2 (pc := 6) F ?_
              refine ih (a + 1) _ (by omega) (by omega) f2 (fun i k hi hk hik => ?_)
              by_cases e : i = a
              · subst e; exact t3 k hk hik
              · exact t2 i k (by omega) hk hik
            · refine k_aload0 (pc := 24) F dX8_scoresAll_24 ?_
              refine g_X8_scores (pc := 25) F dX8_scoresAll_25 ?_
              refine k_bipush (pc := 28) (v := nI 8) F dX8_scoresAll_28 (by decide) ?_
              refine k_iload1 (pc := 30) F dX8_scoresAll_30 ?_
              refine k_imulN (pc := 31) F dX8_scoresAll_31 ?_
              refine k_iload2 (pc := 32) F dX8_scoresAll_32 ?_
              refine k_iaddN (pc := 33) F dX8_scoresAll_33 ?_
              refine k_iload1 (pc := 34) F dX8_scoresAll_34 ?_
              refine k_iload2 (pc := 35) F dX8_scoresAll_35 ?_
              refine k_icmp_neN (pc := 36) (tgt := 43) F dX8_scoresAll_36 (by decide) (by omega) (by omega) (fun h36 => ?_) (fun h36 => ?_)
              · refine k_aload0 (pc := 43) F dX8_scoresAll_43 ?_
                refine k_aload0 (pc := 44) F dX8_scoresAll_44 ?_
                refine g_X8_segment (pc := 45) F dX8_scoresAll_45 ?_
                refine k_iload1 (pc := 48) F dX8_scoresAll_48 ?_
                refine l_m3 (pc := 49) F (by omega) ((hG2.2.2 a (by omega)).1) dX8_scoresAll_49 ?_
                refine k_aload0 (pc := 50) F dX8_scoresAll_50 ?_
                refine g_X8_segment (pc := 51) F dX8_scoresAll_51 ?_
                refine k_iload2 (pc := 54) F dX8_scoresAll_54 ?_
                refine l_m3 (pc := 55) F (by omega) ((hG2.2.2 b (by omega)).1) dX8_scoresAll_55 ?_
                refine k_callV (pc := 56) (q0 := 0) F (cm_scoreOf hA2 h52 (a := g a) (b := g b) (hG2.2.2 a (by omega)).2 (hG2.2.2 b (by omega)).2) ok_X8_81 rfl rfl rfl rfl rfl (by decide) (by decide) (Nat.le_of_ble_eq_true rfl) dX8_scoresAll_56 (rI.use ?_)
                refine s_m9 (pc := 59) F (by omega) (rfl) dX8_scoresAll_59 ?_
                refine k_iinc2 (pc := 60) F (by decide) dX8_scoresAll_60 (inc_N _) ?_
                refine k_goto (pc := 63) (tgt := 16) F dX8_scoresAll_63 (by decide) ?_
                refine ih2 (b + 1) _ (by omega) (by omega) (fun q hq => ?_) (fun i k hi hk hik => ?_) (fun k hk hak => ?_)
                · rw [up_n hq]; exact f2 q hq
                · rw [up_s, upd_ne (by omega)]; exact t2 i k hi hk hik
                · rw [up_s]
                  by_cases e : k = b
                  · subst e
                    first | exact absurd h36 hak | exact upd_at
                  · rw [upd_ne (by omega)]; exact t3 k (by omega) hak
              · refine k_iconst (pc := 39) (v := -1) F dX8_scoresAll_39 (by decide) ?_
                refine k_goto (pc := 40) (tgt := 59) F dX8_scoresAll_40 (by decide) ?_
                refine s_m9 (pc := 59) F (by omega) (rfl) dX8_scoresAll_59 ?_
                refine k_iinc2 (pc := 60) F (by decide) dX8_scoresAll_60 (inc_N _) ?_
                refine k_goto (pc := 63) (tgt := 16) F dX8_scoresAll_63 (by decide) ?_
                refine ih2 (b + 1) _ (by omega) (by omega) (fun q hq => ?_) (fun i k hi hk hik => ?_) (fun k hk hak => ?_)
                · rw [up_n hq]; exact f2 q hq
                · rw [up_s, upd_ne (by omega)]; exact t2 i k hi hk hik
                · rw [up_s]
                  by_cases e : k = b
                  · subst e
                    first | exact absurd h36 hak | exact upd_at
                  · rw [upd_ne (by omega)]; exact t3 k (by omega) hak
        exact L16 (m + 1) 0 ar1 (by omega) (by omega) f1 t1 (fun k hk => by omega)
  exact L6 (m + 1) 0 arR (by omega) (by omega) (fun _ _ => rfl) (fun i k hi => by omega)

set_option maxHeartbeats 4000000 in
theorem c_X8_between {l : Launch} {D : va_G} {cI : ClassId} {ad : Nat → Nat} {iv : IV} {ar : AR} {m : Nat} {v : Nat → Nat} {T : Nat → Nat → Int32} (hn : iv 3 = nI m) (hm : m ≤ 8) (hT : okTb m T) (hB : TBm m T ar) (hV : VOm m v ar) (hO : okVo m v) {a b : Nat} (ha : a < m) (hb : b < m) (hab : a ≠ b) : Ct l D cI (mw cI ad) yX8_between cX8_between 6 (some .int) 0 0 [.ref (ad 0), .int (nI a), .int (nI b)] iv ar (qI (fun x iv2 ar2 => ar2 = ar ∧ (∀ q, q ≠ 6 → iv2 q = iv q) ∧ (match xou T v a b m m with | none => x = -1 | some w => x = nI w.1 ∧ iv2 6 = nI w.2))) := by
  refine Ct.of (lv := [some (.ref (ad 0)), some (.int (nI a)), some (.int (nI b)), none, none, none]) mw_ok (plainFor_of_name (by decide)) (Nat.le_of_ble_eq_true rfl) 3 rfl rfl (fun Z F => ?_)
  refine k_iconst (pc := 0) (v := nI 0) F dX8_between_0 (by decide) ?_
  refine k_istore3 (pc := 1) F (by decide) dX8_between_1 ?_
  refine k_aload0 (pc := 2) F dX8_between_2 ?_
  refine k_iconst (pc := 3) (v := nI 0) F dX8_between_3 (by decide) ?_
  refine p_X8_pairs (pc := 4) F dX8_between_4 ?_
  refine k_iconst (pc := 7) (v := nI 0) F dX8_between_7 (by decide) ?_
  refine k_istore4 (pc := 8) F (by decide) dX8_between_8 ?_
  have L10 : ∀ (fu : Nat) (j : Nat) (w : Nat × Nat) (iv1 : IV), m - j < fu → j ≤ m → (∀ q, q ≠ 6 → iv1 q = iv q) → xou T v a b m j = some w → iv1 6 = nI w.2 → Z 10 [some (.ref (ad 0)), some (.int (nI a)), some (.int (nI b)), some (.int (nI w.1)), some (.int (nI j)), none] [] iv1 ar := by
    intro fu
    induction fu with
    | zero => intro j w iv1 hfu; exact absurd hfu (Nat.not_lt_zero _)
    | succ fu ih =>
      intro j w iv1 hfu hj f1 hx e9
      refine k_iload4 (pc := 10) F dX8_between_10 ?_
      refine k_aload0 (pc := 12) F dX8_between_12 ?_
      refine g_X8_segments (pc := 13) F ((f1 3 (by decide)).trans hn) dX8_between_13 ?_
      refine k_icmp_geN (pc := 16) (tgt := 113) F dX8_between_16 (by decide) (by omega) (by omega) (fun h16 => ?_) (fun h16 => ?_)
      · refine k_iload3 (pc := 113) F dX8_between_113 ?_
        refine k_iret (pc := 114) F dX8_between_114 ?_
        have e : j = m := by omega
        subst e
        refine ⟨_, rfl, rfl, f1, ?_⟩
        rw [hx]
        exact ⟨rfl, e9⟩
      · refine k_iconst (pc := 19) (v := nI 0) F dX8_between_19 (by decide) ?_
        refine k_istore5 (pc := 20) F (by decide) dX8_between_20 ?_
        have L22 : ∀ (fu : Nat) (k : Nat) (u : Nat × Nat) (iv2 : IV), m - k < fu → k ≤ m → (∀ q, q ≠ 6 → iv2 q = iv q) → xin T v a b j w k = some u → iv2 6 = nI u.2 → Z 22 [some (.ref (ad 0)), some (.int (nI a)), some (.int (nI b)), some (.int (nI u.1)), some (.int (nI j)), some (.int (nI k))] [] iv2 ar := by
          intro fu
          induction fu with
          | zero => intro k u iv2 hfu; exact absurd hfu (Nat.not_lt_zero _)
          | succ fu ih2 =>
            intro k u iv2 hfu hk f2 hy u9
            refine k_iload5 (pc := 22) F dX8_between_22 ?_
            refine k_aload0 (pc := 24) F dX8_between_24 ?_
            refine g_X8_segments (pc := 25) F ((f2 3 (by decide)).trans hn) dX8_between_25 ?_
            refine k_icmp_geN (pc := 28) (tgt := 107) F dX8_between_28 (by decide) (by omega) (by omega) (fun h28 => ?_) (fun h28 => ?_)
            · have e : m = k := by omega
              subst e
              refine k_iinc4 (pc := 107) F (by decide) dX8_between_107 (inc_N _) ?_
              refine k_goto (pc := 110) (tgt := 10) F dX8_between_110 (by decide) ?_
              refine k_fg5 (pc := 10) F ?_
              exact ih (j + 1) u _ (by omega) (by omega) f2 (by rw [xou_step hx]; exact hy) u9
            · have hvj := hO j (by omega)
              have hvk := hO k (by omega)
              refine k_aload0 (pc := 31) F dX8_between_31 ?_
              refine g_X8_voice (pc := 32) F dX8_between_32 ?_
              refine k_iload4 (pc := 35) F dX8_between_35 ?_
              refine l_m10 (pc := 37) F (by omega) (hV j (by omega)) dX8_between_37 ?_
              refine k_iload1 (pc := 38) F dX8_between_38 ?_
              refine k_icmp_neN (pc := 39) (tgt := 101) F dX8_between_39 (by decide) (by omega) (by omega) (fun h39 => ?_) (fun h39 => ?_)
              · refine k_iinc5 (pc := 101) F (by decide) dX8_between_101 (inc_N _) ?_
                refine k_goto (pc := 104) (tgt := 22) F dX8_between_104 (by decide) ?_
                exact ih2 (k + 1) u iv2 (by omega) (by omega) f2 (by rw [xin_step hy, if_neg (fun q => by first | exact h39 q.1 | exact h50 q.2)]) u9
              · refine k_aload0 (pc := 42) F dX8_between_42 ?_
                refine g_X8_voice (pc := 43) F dX8_between_43 ?_
                refine k_iload5 (pc := 46) F dX8_between_46 ?_
                refine l_m10 (pc := 48) F (by omega) (hV k (by omega)) dX8_between_48 ?_
                refine k_iload2 (pc := 49) F dX8_between_49 ?_
                refine k_icmp_eqN (pc := 50) (tgt := 56) F dX8_between_50 (by decide) (by omega) (by omega) (fun h50 => ?_) (fun h50 => ?_)
                · refine k_aload0 (pc := 56) F dX8_between_56 ?_
                  refine g_X8_scores (pc := 57) F dX8_between_57 ?_
                  refine k_bipush (pc := 60) (v := nI 8) F dX8_between_60 (by decide) ?_
                  refine k_iload4 (pc := 62) F dX8_between_62 ?_
                  refine k_imulN (pc := 64) F dX8_between_64 ?_
                  refine k_iload5 (pc := 65) F dX8_between_65 ?_
                  refine k_iaddN (pc := 67) F dX8_between_67 ?_
                  refine l_m9 (pc := 68) F (by omega) (hB j k (by omega) (by omega) (fun q => hab (by rw [← h39, ← h50, q]))) dX8_between_68 ?_
                  refine k_iconst (pc := 69) (v := -1) F dX8_between_69 (by decide) ?_
                  refine k_icmp_ne (pc := 70) (tgt := 75) F dX8_between_70 (by decide) (fun h70 => ?_) (fun h70 => ?_)
                  · obtain ⟨x, hx1, ex⟩ := (hT j k (by omega) (by omega) (fun q => hab (by rw [← h39, ← h50, q]))).get h70
                    refine k_iload3 (pc := 75) F dX8_between_75 ?_
                    refine k_aload0 (pc := 76) F dX8_between_76 ?_
                    refine g_X8_scores (pc := 77) F dX8_between_77 ?_
                    refine k_bipush (pc := 80) (v := nI 8) F dX8_between_80 (by decide) ?_
                    refine k_iload4 (pc := 82) F dX8_between_82 ?_
                    refine k_imulN (pc := 84) F dX8_between_84 ?_
                    refine k_iload5 (pc := 85) F dX8_between_85 ?_
                    refine k_iaddN (pc := 87) F dX8_between_87 ?_
                    refine l_m9 (pc := 88) F (by omega) ((hB j k (by omega) (by omega) (fun q => hab (by rw [← h39, ← h50, q]))).trans ex) dX8_between_88 ?_
                    refine k_iaddN (pc := 89) F dX8_between_89 ?_
                    refine k_istore3 (pc := 90) F (by decide) dX8_between_90 ?_
                    refine k_aload0 (pc := 91) F dX8_between_91 ?_
                    refine k_dup (pc := 92) F dX8_between_92 rfl ?_
                    refine g_X8_pairs (pc := 93) F (u9) dX8_between_93 ?_
                    refine k_iconst (pc := 96) (v := nI 1) F dX8_between_96 (by decide) ?_
                    refine k_iaddN (pc := 97) F dX8_between_97 ?_
                    refine p_X8_pairs (pc := 98) F dX8_between_98 ?_
                    refine k_iinc5 (pc := 101) F (by decide) dX8_between_101 (inc_N _) ?_
                    refine k_goto (pc := 104) (tgt := 22) F dX8_between_104 (by decide) ?_
                    exact ih2 (k + 1) (u.1 + x, u.2 + 1) _ (by omega) (by omega) (fun q hq => by rw [up_n hq]; exact f2 q hq) (by rw [xin_step hy, if_pos ⟨h39, h50⟩, if_neg h70, ex, nI_clamp (by omega)]) up_s
                  · refine k_iconst (pc := 73) (v := -1) F dX8_between_73 (by decide) ?_
                    refine k_iret (pc := 74) F dX8_between_74 ?_
                    refine ⟨_, rfl, rfl, f2, ?_⟩
                    rw [xou_miss (by omega) (by omega) hx hy ⟨h39, h50⟩ h70]
                · refine k_goto (pc := 53) (tgt := 101) F dX8_between_53 (by decide) ?_
                  refine k_iinc5 (pc := 101) F (by decide) dX8_between_101 (inc_N _) ?_
                  refine k_goto (pc := 104) (tgt := 22) F dX8_between_104 (by decide) ?_
                  exact ih2 (k + 1) u iv2 (by omega) (by omega) f2 (by rw [xin_step hy, if_neg (fun q => by first | exact h39 q.1 | exact h50 q.2)]) u9
        exact L22 (m + 1) 0 w iv1 (by omega) (by omega) f1 rfl e9
  exact L10 (m + 1) 0 (0, 0) _ (by omega) (by omega) (fun q hq => up_n hq) rfl up_s

set_option maxHeartbeats 4000000 in
theorem c_X8_joins {l : Launch} {D : va_G} {cI : ClassId} {ad : Nat → Nat} {iv : IV} {ar : AR} {n : Nat} {c : Nat → Nat} {s t : Nat → Int32} (hA : MArc n c s t iv ar) (hT0 : okT n t) {m : Nat} {g : Nat → Nat} (hG : MG n m g iv ar) {lim : Nat} (hl : lim ≤ 200) (hlim : iv 2 = nI lim) : Ct l D cI (mw cI ad) yX8_joins cX8_joins 9 none 4 94 [.ref (ad 0)] iv ar (qV (fun iv2 ar2 => (∀ q, q ≠ 5 → q ≠ 6 → iv2 q = iv q) ∧ (∀ q, q ≠ 5 → q ≠ 9 → q ≠ 10 → ar2 q = ar q) ∧ VOm m (vcs (Tg c s t n g) m lim) ar2 ∧ okVo m (vcs (Tg c s t n g) m lim))) := by
  refine Ct.of (lv := [some (.ref (ad 0)), none, none, none, none, none, none, none, none]) mw_ok (plainFor_of_name (by decide)) (Nat.le_of_ble_eq_true rfl) 8 rfl rfl (fun Z F => ?_)
  have hm := hG.2.1
  have hn := hA.le
  have hT : okTb m (Tg c s t n g) := fun j k hj hk _ => SC_B hT0 hn (hG.2.2 j hj).2 (hG.2.2 k hk).2 (hA.lt (hG.2.2 j hj).2) (hA.lt (hG.2.2 k hk).2)
  refine k_aload0 (pc := 0) F dX8_joins_0 ?_
  refine k_callV (pc := 1) (q0 := 0) F (c_X8_scoresAll hA hT0 hG) ok_X8_118 rfl rfl rfl rfl rfl (by decide) (by decide) (Nat.le_of_ble_eq_true rfl) dX8_joins_1 (qV.use (fun ivS arS hS => ?_))
  obtain ⟨s1, s2, s3, tS⟩ := hS
  generalize hTT : (Tg c s t n g) = TT at tS hT F ⊢
  refine k_iconst (pc := 4) (v := nI 0) F dX8_joins_4 (by decide) ?_
  refine k_istore1 (pc := 5) F (by decide) dX8_joins_5 ?_
  have L6 : ∀ (fu : Nat) (k : Nat) (ar1 : AR), m - k < fu → k ≤ m → (∀ q, q ≠ 10 → ar1 q = arS q) → (∀ i, i < k → ar1 10 i = nI i) → Z 6 [some (.ref (ad 0)), some (.int (nI k)), none, none, none, none, none, none, none] [] ivS ar1 := by
    intro fu
    induction fu with
    | zero => intro k ar1 hfu; exact absurd hfu (Nat.not_lt_zero _)
    | succ fu ih =>
      intro k ar1 hfu hk f1 hi
      refine k_iload1 (pc := 6) F dX8_joins_6 ?_
      refine k_aload0 (pc := 7) F dX8_joins_7 ?_
      refine g_X8_segments (pc := 8) F ((s1 3 (by decide)).trans hG.1) dX8_joins_8 ?_
      refine k_icmp_geN (pc := 11) (tgt := 27) F dX8_joins_11 (by decide) (by omega) (by omega) (fun h11 => ?_) (fun h11 => ?_)
      · refine k_iconst (pc := 27) (v := nI 1) F dX8_joins_27 (by decide) ?_
        refine k_istore1 (pc := 28) F (by decide) dX8_joins_28 ?_
        have L29 : ∀ (fu : Nat) (mo : Nat) (v1 : Nat → Nat) (iv1 : IV) (ar1 : AR), 2 * cvN v1 m + mo < fu → mo ≤ 1 → (∀ q, q ≠ 5 → q ≠ 6 → iv1 q = iv q) → (∀ q, q ≠ 5 → q ≠ 9 → q ≠ 10 → ar1 q = ar q) → TBm m TT ar1 → VOm m v1 ar1 → okVo m v1 → jfi TT m lim (cvN v1 m) v1 = vcs TT m lim → (mo = 0 → jou TT v1 m lim m = none) → Z 29 [some (.ref (ad 0)), some (.int (nI mo)), none, none, none, none, none, none, none] [] iv1 ar1 := by
          intro fu
          induction fu with
          | zero => intro mo v1 iv1 ar1 hfu; exact absurd hfu (Nat.not_lt_zero _)
          | succ fu ih =>
            intro mo v1 iv1 ar1 hfu hmo f1 g1 tb1 vo1 ok1 he hm0
            refine k_iload1 (pc := 29) F dX8_joins_29 ?_
            refine k_if_eqN (pc := 30) (tgt := 237) F dX8_joins_30 (by decide) (by omega) (fun h30 => ?_) (fun h30 => ?_)
            · refine k_vret (pc := 237) F dX8_joins_237 ?_
              have hno := hm0 h30
              rw [jfi_n hno] at he
              exact ⟨rfl, f1, g1, by rw [← he]; exact vo1, by rw [← he]; exact ok1⟩
            · have emo : mo = 1 := by omega
              subst emo
              refine k_iconst (pc := 33) (v := -1) F dX8_joins_33 (by decide) ?_
              refine k_istore2 (pc := 34) F (by decide) dX8_joins_34 ?_
              refine k_iconst (pc := 35) (v := nI 0) F dX8_joins_35 (by decide) ?_
              refine k_istore3 (pc := 36) F (by decide) dX8_joins_36 ?_
              refine k_iconst (pc := 37) (v := nI 0) F dX8_joins_37 (by decide) ?_
              refine k_istore4 (pc := 38) F (by decide) dX8_joins_38 ?_
              refine k_iconst (pc := 40) (v := nI 1) F dX8_joins_40 (by decide) ?_
              refine k_istore5 (pc := 41) F (by decide) dX8_joins_41 ?_
              refine k_iconst (pc := 43) (v := nI 0) F dX8_joins_43 (by decide) ?_
              refine k_istore6 (pc := 44) F (by decide) dX8_joins_44 ?_
              have L46 : ∀ (fu : Nat) (a : Nat) (iv2 : IV), m - a < fu → a ≤ m → (∀ q, q ≠ 5 → q ≠ 6 → iv2 q = iv q) → Z 46 [some (.ref (ad 0)), some (.int (nI 1)), some (.int (l2 (jou TT v1 m lim a))), some (.int (l3 (nI 0) (jou TT v1 m lim a))), some (.int (l4 (jou TT v1 m lim a))), some (.int (l5 (nI 1) (jou TT v1 m lim a))), some (.int (nI a)), none, none] [] iv2 ar1 := by
                intro fu
                induction fu with
                | zero => intro a iv2 hfu; exact absurd hfu (Nat.not_lt_zero _)
                | succ fu ih2 =>
                  intro a iv2 hfu ha f2
                  refine k_iload6 (pc := 46) F dX8_joins_46 ?_
                  refine k_aload0 (pc := 48) F dX8_joins_48 ?_
                  refine g_X8_segments (pc := 49) F ((f2 3 (by decide) (by decide)).trans hG.1) dX8_joins_49 ?_
                  refine k_icmp_geN (pc := 52) (tgt := 182) F dX8_joins_52 (by decide) (by omega) (by omega) (fun h52 => ?_) (fun h52 => ?_)
                  · have e : m = a := by omega
                    subst e
                    have hzz := jou_ok hT hm m (Nat.le_refl m) (lim := lim) (v := v1)
                    refine k_iload2 (pc := 182) F dX8_joins_182 ?_
                    refine k_iconst (pc := 183) (v := -1) F dX8_joins_183 (by decide) ?_
                    refine k_icmp_eq (pc := 184) (tgt := 191) F dX8_joins_184 (by decide) (fun h184 => ?_) (fun h184 => ?_)
                    · have hz := l2_n hzz hm h184
                      refine k_iconst (pc := 191) (v := nI 0) F dX8_joins_191 (by decide) ?_
                      refine k_istore1 (pc := 192) F (by decide) dX8_joins_192 ?_
                      refine k_iconst (pc := 193) (v := nI 0) F dX8_joins_193 (by decide) ?_
                      refine k_istore6 (pc := 194) F (by decide) dX8_joins_194 ?_
                      refine k_iload6 (pc := 196) F dX8_joins_196 ?_
                      refine k_aload0 (pc := 198) F dX8_joins_198 ?_
                      refine g_X8_segments (pc := 199) F ((f2 3 (by decide) (by decide)).trans hG.1) dX8_joins_199 ?_
                      refine k_icmp_geN (pc := 202) (tgt := 234) F dX8_joins_202 (by decide) (by omega) (by omega) (fun h202 => ?_) (fun h202 => ?_)
                      · refine k_goto (pc := 234) (tgt := 29) F dX8_joins_234 (by decide) ?_
                        refine k_fg2 (pc := 29) F ?_
                        refine k_fg3 (pc := 29) F ?_
                        refine k_fg4 (pc := 29) F ?_
                        refine k_fg5 (pc := 29) F ?_
                        refine k_fg6 (pc := 29) F ?_
                        exact ih 0 v1 _ _ (by omega) (by omega) f2 g1 tb1 vo1 ok1 he (fun _ => hz)
                      · refine k_iload1 (pc := 205) F dX8_joins_205 ?_
                        refine k_if_eq (pc := 206) (tgt := 234) F dX8_joins_206 (by decide) (fun _ => ?_) (fun h => absurd h (by decide))
                        refine k_goto (pc := 234) (tgt := 29) F dX8_joins_234 (by decide) ?_
                        refine k_fg2 (pc := 29) F ?_
                        refine k_fg3 (pc := 29) F ?_
                        refine k_fg4 (pc := 29) F ?_
                        refine k_fg5 (pc := 29) F ?_
                        refine k_fg6 (pc := 29) F ?_
                        exact ih 0 v1 _ _ (by omega) (by omega) f2 g1 tb1 vo1 ok1 he (fun _ => hz)
                    · obtain ⟨y, hz⟩ := l2_s h184
                      have hyB := hzz y hz
                      have hd := cvN_jmp hyB.1 hyB.2.1 hyB.2.2.1 hyB.2.2.2.1
                      rw [hz]
                      show Z _ [_, _, some (.int (nI y.1)), some (.int (nI y.2.1)), _, _, _, _, _] _ _ _
                      refine k_iconst (pc := 187) (v := nI 1) F dX8_joins_187 (by decide) ?_
                      refine k_goto (pc := 188) (tgt := 192) F dX8_joins_188 (by decide) ?_
                      refine k_istore1 (pc := 192) F (by decide) dX8_joins_192 ?_
                      refine k_iconst (pc := 193) (v := nI 0) F dX8_joins_193 (by decide) ?_
                      refine k_istore6 (pc := 194) F (by decide) dX8_joins_194 ?_
                      have L196 : ∀ (fu : Nat) (k : Nat) (ar5 : AR), m - k < fu → k ≤ m → (∀ q, q ≠ 10 → ar5 q = ar1 q) → (∀ i, i < m → ar5 10 i = if i < k then nI (jmp v1 y.1 y.2.1 i) else nI (v1 i)) → Z 196 [some (.ref (ad 0)), some (.int (nI 1)), some (.int (nI y.1)), some (.int (nI y.2.1)), none, none, some (.int (nI k)), none, none] [] iv2 ar5 := by
                        intro fu
                        induction fu with
                        | zero => intro k ar5 hfu; exact absurd hfu (Nat.not_lt_zero _)
                        | succ fu ih4 =>
                          intro k ar5 hfu hk g5 hj5a
                          refine k_iload6 (pc := 196) F dX8_joins_196 ?_
                          refine k_aload0 (pc := 198) F dX8_joins_198 ?_
                          refine g_X8_segments (pc := 199) F ((f2 3 (by decide) (by decide)).trans hG.1) dX8_joins_199 ?_
                          refine k_icmp_geN (pc := 202) (tgt := 234) F dX8_joins_202 (by decide) (by omega) (by omega) (fun h202 => ?_) (fun h202 => ?_)
                          · have hj5 : VOm m (jmp v1 y.1 y.2.1) ar5 := fun i hi => by rw [hj5a i hi, if_pos (by omega)]
                            refine k_goto (pc := 234) (tgt := 29) F dX8_joins_234 (by decide) ?_
                            refine k_fg2 (pc := 29) F ?_
                            refine k_fg3 (pc := 29) F ?_
                            refine k_fg6 (pc := 29) F ?_
                            refine ih 1 (jmp v1 y.1 y.2.1) _ _ (by omega) (by omega) f2 (fun q q5 q9 q10 => (g5 q q10).trans (g1 q q5 q9 q10)) (by intro a b ha hb hab; rw [g5 9 (by decide)]; exact tb1 a b ha hb hab) hj5 (jmp_ok ok1 (by omega)) ?_ (fun h => by omega)
                            rw [← he]
                            obtain ⟨d, hd2⟩ : ∃ d, cvN v1 m = cvN (jmp v1 y.1 y.2.1) m + 1 + d := ⟨cvN v1 m - (cvN (jmp v1 y.1 y.2.1) m + 1), by omega⟩
                            rw [hd2, show cvN (jmp v1 y.1 y.2.1) m + 1 + d = (cvN (jmp v1 y.1 y.2.1) m + d) + 1 by omega, jfi_s hz]
                            exact (jfi_ge hT hm d _ _ (by omega)).symm
                          · refine k_iload1 (pc := 205) F dX8_joins_205 ?_
                            refine k_if_eq (pc := 206) (tgt := 234) F dX8_joins_206 (by decide) (fun h => absurd h (by decide)) (fun _ => ?_)
                            have hvk := ok1 k (by omega)
                            refine k_aload0 (pc := 209) F dX8_joins_209 ?_
                            refine g_X8_voice (pc := 210) F dX8_joins_210 ?_
                            refine k_iload6 (pc := 213) F dX8_joins_213 ?_
                            refine l_m10 (pc := 215) F (by omega) (show ar5 10 k = nI (v1 k) from by rw [hj5a k (by omega), if_neg (by omega)]) dX8_joins_215 ?_
                            refine k_iload3 (pc := 216) F dX8_joins_216 ?_
                            refine k_icmp_neN (pc := 217) (tgt := 228) F dX8_joins_217 (by decide) (by omega) (by omega) (fun h217 => ?_) (fun h217 => ?_)
                            · refine k_iinc6 (pc := 228) F (by decide) dX8_joins_228 (inc_N _) ?_
                              refine k_goto (pc := 231) (tgt := 196) F dX8_joins_231 (by decide) ?_
                              refine ih4 (k + 1) ar5 (by omega) (by omega) g5 (fun i hi => ?_)
                              rw [hj5a i hi]
                              by_cases z : i < k
                              · rw [if_pos z, if_pos (by omega)]
                              · rw [if_neg z]
                                by_cases e : i = k
                                · subst e; rw [if_pos (by omega), jmp, if_neg h217]
                                · rw [if_neg (by omega)]
                            · refine k_aload0 (pc := 220) F dX8_joins_220 ?_
                              refine g_X8_voice (pc := 221) F dX8_joins_221 ?_
                              refine k_iload6 (pc := 224) F dX8_joins_224 ?_
                              refine k_iload2 (pc := 226) F dX8_joins_226 ?_
                              refine s_m10 (pc := 227) F (by omega) (rfl) dX8_joins_227 ?_
                              refine k_iinc6 (pc := 228) F (by decide) dX8_joins_228 (inc_N _) ?_
                              refine k_goto (pc := 231) (tgt := 196) F dX8_joins_231 (by decide) ?_
                              refine ih4 (k + 1) _ (by omega) (by omega) (fun q hq => ?_) (fun i hi => ?_)
                              · rw [up_n hq]; exact g5 q hq
                              · rw [up_s]
                                by_cases e : i = k
                                · subst e
                                  rw [upd_at, if_pos (by omega), jmp, if_pos h217]
                                · rw [upd_ne e, hj5a i hi]
                                  by_cases z : i < k
                                  · rw [if_pos z, if_pos (by omega)]
                                  · rw [if_neg z, if_neg (by omega)]
                      refine k_fg4 (pc := 196) F ?_
                      refine k_fg5 (pc := 196) F ?_
                      exact L196 (m + 1) 0 ar1 (by omega) (by omega) (fun _ _ => rfl) (fun i hi => by rw [if_neg (by omega)]; exact vo1 i hi)
                  · refine k_iload6 (pc := 55) F dX8_joins_55 ?_
                    refine k_iconst (pc := 57) (v := nI 1) F dX8_joins_57 (by decide) ?_
                    refine k_iaddN (pc := 58) F dX8_joins_58 ?_
                    refine k_istore7 (pc := 59) F (by decide) dX8_joins_59 ?_
                    have L61 : ∀ (fu : Nat) (i : Nat) (iv3 : IV), m - (a + 1) - i < fu → a + 1 + i ≤ m → (∀ q, q ≠ 5 → q ≠ 6 → iv3 q = iv q) → Z 61 [some (.ref (ad 0)), some (.int (nI 1)), some (.int (l2 (jin TT v1 m lim a (jou TT v1 m lim a) i))), some (.int (l3 (nI 0) (jin TT v1 m lim a (jou TT v1 m lim a) i))), some (.int (l4 (jin TT v1 m lim a (jou TT v1 m lim a) i))), some (.int (l5 (nI 1) (jin TT v1 m lim a (jou TT v1 m lim a) i))), some (.int (nI a)), some (.int (nI (a + 1 + i))), none] [] iv3 ar1 := by
                      intro fu
                      induction fu with
                      | zero => intro i iv3 hfu; exact absurd hfu (Nat.not_lt_zero _)
                      | succ fu ih3 =>
                        intro i iv3 hfu hi f3
                        refine k_iload7 (pc := 61) F dX8_joins_61 ?_
                        refine k_aload0 (pc := 63) F dX8_joins_63 ?_
                        refine g_X8_segments (pc := 64) F ((f3 3 (by decide) (by decide)).trans hG.1) dX8_joins_64 ?_
                        refine k_icmp_geN (pc := 67) (tgt := 176) F dX8_joins_67 (by decide) (by omega) (by omega) (fun h67 => ?_) (fun h67 => ?_)
                        · have e : i = m - (a + 1) := by omega
                          subst e
                          refine k_iinc6 (pc := 176) F (by decide) dX8_joins_176 (inc_N _) ?_
                          refine k_goto (pc := 179) (tgt := 46) F dX8_joins_179 (by decide) ?_
                          refine k_fg7 (pc := 46) F ?_
                          have kk := ih2 (a + 1) _ (by omega) (by omega) f3
                          rw [show jou TT v1 m lim (a + 1) = jin TT v1 m lim a (jou TT v1 m lim a) (m - (a + 1)) from rfl] at kk
                          exact kk
                        · have hva := ok1 a (by omega)
                          have hvb := ok1 (a + 1 + i) (by omega)
                          have hz0 : okQ v1 m lim (jin TT v1 m lim a (jou TT v1 m lim a) i) := jin_ok hT hm (jou_ok hT hm a (by omega)) i (by omega)
                          refine k_aload0 (pc := 70) F dX8_joins_70 ?_
                          refine g_X8_voice (pc := 71) F dX8_joins_71 ?_
                          refine k_iload6 (pc := 74) F dX8_joins_74 ?_
                          refine l_m10 (pc := 76) F (by omega) (vo1 a (by omega)) dX8_joins_76 ?_
                          refine k_iload6 (pc := 77) F dX8_joins_77 ?_
                          refine k_icmp_neN (pc := 79) (tgt := 105) F dX8_joins_79 (by decide) (by omega) (by omega) (fun h79 => ?_) (fun h79 => ?_)
                          · refine k_iconst (pc := 105) (v := -1) F dX8_joins_105 (by decide) ?_
                            refine k_istore8 (pc := 106) F (by decide) dX8_joins_106 ?_
                            refine k_iload8 (pc := 108) F dX8_joins_108 ?_
                            refine k_iconst (pc := 110) (v := -1) F dX8_joins_110 (by decide) ?_
                            refine k_icmp_eq (pc := 111) (tgt := 170) F dX8_joins_111 (by decide) (fun _ => ?_) (fun h => absurd h (by decide))
                            refine k_iinc7 (pc := 170) F (by decide) dX8_joins_170 (inc_N _) ?_
                            refine k_goto (pc := 173) (tgt := 61) F dX8_joins_173 (by decide) ?_
                            refine k_fg8 (pc := 61) F ?_
                            have kk := ih3 (i + 1) _ (by omega) (by omega) f3
                            rw [show jin TT v1 m lim a (jou TT v1 m lim a) (i + 1) = jst TT v1 m lim a (a + 1 + i) (jin TT v1 m lim a (jou TT v1 m lim a) i) from rfl] at kk
                            first
                            | (rw [jst_no (fun q => h79 q.1)] at kk; exact kk)
                            | (rw [jst_no (fun q => h91 q.2)] at kk; exact kk)
                            | (rw [jst_x ⟨h79, h91⟩ hx] at kk; exact kk)
                            | (rw [jst_big ⟨h79, h91⟩ hx hz0 h125] at kk; exact kk)
                            | (rw [hz, jst_s0 ⟨h79, h91⟩ hx (by omega)] at kk; exact kk)
                          · refine k_aload0 (pc := 82) F dX8_joins_82 ?_
                            refine g_X8_voice (pc := 83) F dX8_joins_83 ?_
                            refine k_iload7 (pc := 86) F dX8_joins_86 ?_
                            refine l_m10 (pc := 88) F (by omega) (vo1 (a + 1 + i) (by omega)) dX8_joins_88 ?_
                            refine k_iload7 (pc := 89) F dX8_joins_89 ?_
                            refine k_icmp_neN (pc := 91) (tgt := 105) F dX8_joins_91 (by decide) (by omega) (by omega) (fun h91 => ?_) (fun h91 => ?_)
                            · refine k_iconst (pc := 105) (v := -1) F dX8_joins_105 (by decide) ?_
                              refine k_istore8 (pc := 106) F (by decide) dX8_joins_106 ?_
                              refine k_iload8 (pc := 108) F dX8_joins_108 ?_
                              refine k_iconst (pc := 110) (v := -1) F dX8_joins_110 (by decide) ?_
                              refine k_icmp_eq (pc := 111) (tgt := 170) F dX8_joins_111 (by decide) (fun _ => ?_) (fun h => absurd h (by decide))
                              refine k_iinc7 (pc := 170) F (by decide) dX8_joins_170 (inc_N _) ?_
                              refine k_goto (pc := 173) (tgt := 61) F dX8_joins_173 (by decide) ?_
                              refine k_fg8 (pc := 61) F ?_
                              have kk := ih3 (i + 1) _ (by omega) (by omega) f3
                              rw [show jin TT v1 m lim a (jou TT v1 m lim a) (i + 1) = jst TT v1 m lim a (a + 1 + i) (jin TT v1 m lim a (jou TT v1 m lim a) i) from rfl] at kk
                              first
                              | (rw [jst_no (fun q => h79 q.1)] at kk; exact kk)
                              | (rw [jst_no (fun q => h91 q.2)] at kk; exact kk)
                              | (rw [jst_x ⟨h79, h91⟩ hx] at kk; exact kk)
                              | (rw [jst_big ⟨h79, h91⟩ hx hz0 h125] at kk; exact kk)
                              | (rw [hz, jst_s0 ⟨h79, h91⟩ hx (by omega)] at kk; exact kk)
                            · refine k_aload0 (pc := 94) F dX8_joins_94 ?_
                              refine k_iload6 (pc := 95) F dX8_joins_95 ?_
                              refine k_iload7 (pc := 97) F dX8_joins_97 ?_
                              refine k_callV (pc := 99) (q0 := 0) F (c_X8_between (v := v1) ((f3 3 (by decide) (by decide)).trans hG.1) hm hT tb1 vo1 ok1 (a := a) (b := a + 1 + i) (by omega) (by omega) (by omega)) ok_X8_121 rfl rfl rfl rfl rfl (by decide) (by decide) (Nat.le_of_ble_eq_true rfl) dX8_joins_99 (qI.use (fun x4 iv4 ar4 h4 => ?_))
                              obtain ⟨e4, f4a, hx4⟩ := h4
                              subst ar4
                              have f4 : ∀ q, q ≠ 5 → q ≠ 6 → iv4 q = iv q := fun q q5 q6 => (f4a q q6).trans (f3 q q5 q6)
                              refine k_goto (pc := 102) (tgt := 106) F dX8_joins_102 (by decide) ?_
                              refine k_istore8 (pc := 106) F (by decide) dX8_joins_106 ?_
                              refine k_iload8 (pc := 108) F dX8_joins_108 ?_
                              refine k_iconst (pc := 110) (v := -1) F dX8_joins_110 (by decide) ?_
                              refine k_icmp_eq (pc := 111) (tgt := 170) F dX8_joins_111 (by decide) (fun h111 => ?_) (fun h111 => ?_)
                              · have hx : xou TT v1 a (a + 1 + i) m m = none := by
                                  cases hq : xou TT v1 a (a + 1 + i) m m with
                                  | none => rfl
                                  | some w =>
                                    have hwB := xou_B hT (by omega) hm m (Nat.le_refl m) hq
                                    rw [hq] at hx4
                                    exact absurd (hx4.1.symm.trans h111) (nI_ne_m1 (by omega))
                                refine k_iinc7 (pc := 170) F (by decide) dX8_joins_170 (inc_N _) ?_
                                refine k_goto (pc := 173) (tgt := 61) F dX8_joins_173 (by decide) ?_
                                refine k_fg8 (pc := 61) F ?_
                                have kk := ih3 (i + 1) _ (by omega) (by omega) f4
                                rw [show jin TT v1 m lim a (jou TT v1 m lim a) (i + 1) = jst TT v1 m lim a (a + 1 + i) (jin TT v1 m lim a (jou TT v1 m lim a) i) from rfl] at kk
                                first
                                | (rw [jst_no (fun q => h79 q.1)] at kk; exact kk)
                                | (rw [jst_no (fun q => h91 q.2)] at kk; exact kk)
                                | (rw [jst_x ⟨h79, h91⟩ hx] at kk; exact kk)
                                | (rw [jst_big ⟨h79, h91⟩ hx hz0 h125] at kk; exact kk)
                                | (rw [hz, jst_s0 ⟨h79, h91⟩ hx (by omega)] at kk; exact kk)
                              · obtain ⟨w, hx, hw8, hw9⟩ : ∃ w, xou TT v1 a (a + 1 + i) m m = some w ∧ x4 = nI w.1 ∧ iv4 6 = nI w.2 := by
                                  cases hq : xou TT v1 a (a + 1 + i) m m with
                                  | none => rw [hq] at hx4; exact absurd hx4 h111
                                  | some w => rw [hq] at hx4; exact ⟨w, rfl, hx4⟩
                                subst hw8
                                have hwB := xou_B hT (by omega) hm m (Nat.le_refl m) hx
                                have hq1 : lim * w.2 ≤ 200 * 64 := Nat.mul_le_mul hl (by omega)
                                refine k_iload8 (pc := 114) F dX8_joins_114 ?_
                                refine k_aload0 (pc := 116) F dX8_joins_116 ?_
                                refine g_X8_limit (pc := 117) F ((f4 2 (by decide) (by decide)).trans hlim) dX8_joins_117 ?_
                                refine k_aload0 (pc := 120) F dX8_joins_120 ?_
                                refine g_X8_pairs (pc := 121) F (hw9) dX8_joins_121 ?_
                                refine k_imulN (pc := 124) F dX8_joins_124 ?_
                                refine k_icmp_leN (pc := 125) (tgt := 131) F dX8_joins_125 (by decide) (by omega) (by omega) (fun h125 => ?_) (fun h125 => ?_)
                                · refine k_iload2 (pc := 131) F dX8_joins_131 ?_
                                  refine k_iconst (pc := 132) (v := -1) F dX8_joins_132 (by decide) ?_
                                  refine k_icmp_eq (pc := 133) (tgt := 154) F dX8_joins_133 (by decide) (fun h133 => ?_) (fun h133 => ?_)
                                  · have hz : (jin TT v1 m lim a (jou TT v1 m lim a) i) = none := l2_n hz0 hm h133
                                    refine k_iload6 (pc := 154) F dX8_joins_154 ?_
                                    refine k_istore2 (pc := 156) F (by decide) dX8_joins_156 ?_
                                    refine k_iload7 (pc := 157) F dX8_joins_157 ?_
                                    refine k_istore3 (pc := 159) F (by decide) dX8_joins_159 ?_
                                    refine k_iload8 (pc := 160) F dX8_joins_160 ?_
                                    refine k_istore4 (pc := 162) F (by decide) dX8_joins_162 ?_
                                    refine k_aload0 (pc := 164) F dX8_joins_164 ?_
                                    refine g_X8_pairs (pc := 165) F (hw9) dX8_joins_165 ?_
                                    refine k_istore5 (pc := 168) F (by decide) dX8_joins_168 ?_
                                    refine k_iinc7 (pc := 170) F (by decide) dX8_joins_170 (inc_N _) ?_
                                    refine k_goto (pc := 173) (tgt := 61) F dX8_joins_173 (by decide) ?_
                                    refine k_fg8 (pc := 61) F ?_
                                    have kk := ih3 (i + 1) _ (by omega) (by omega) f4
                                    rw [show jin TT v1 m lim a (jou TT v1 m lim a) (i + 1) = jst TT v1 m lim a (a + 1 + i) (jin TT v1 m lim a (jou TT v1 m lim a) i) from rfl] at kk
                                    first
                                    | (rw [hz, jst_n1 ⟨h79, h91⟩ hx (by omega)] at kk; exact kk)
                                    | (rw [hz, jst_s1 ⟨h79, h91⟩ hx (by omega)] at kk; exact kk)
                                  · obtain ⟨y, hz⟩ := l2_s h133
                                    have hyB := hz0 y hz
                                    have hq2 : w.1 * y.2.2.2 ≤ 114048 * 64 := Nat.mul_le_mul (by omega) (by omega)
                                    have hq3 : y.2.2.1 * w.2 ≤ 114048 * 64 := Nat.mul_le_mul (by omega) (by omega)
                                    rw [hz]
                                    show Z _ [_, _, some (.int (nI y.1)), some (.int (nI y.2.1)), some (.int (nI y.2.2.1)), some (.int (nI y.2.2.2)), _, _, _] _ _ _
                                    refine k_iload8 (pc := 136) F dX8_joins_136 ?_
                                    refine k_iload5 (pc := 138) F dX8_joins_138 ?_
                                    refine k_imulN (pc := 140) F dX8_joins_140 ?_
                                    refine k_iload4 (pc := 141) F dX8_joins_141 ?_
                                    refine k_aload0 (pc := 143) F dX8_joins_143 ?_
                                    refine g_X8_pairs (pc := 144) F (hw9) dX8_joins_144 ?_
                                    refine k_imulN (pc := 147) F dX8_joins_147 ?_
                                    refine k_icmp_ltN (pc := 148) (tgt := 154) F dX8_joins_148 (by decide) (by omega) (by omega) (fun h148 => ?_) (fun h148 => ?_)
                                    · refine k_iload6 (pc := 154) F dX8_joins_154 ?_
                                      refine k_istore2 (pc := 156) F (by decide) dX8_joins_156 ?_
                                      refine k_iload7 (pc := 157) F dX8_joins_157 ?_
                                      refine k_istore3 (pc := 159) F (by decide) dX8_joins_159 ?_
                                      refine k_iload8 (pc := 160) F dX8_joins_160 ?_
                                      refine k_istore4 (pc := 162) F (by decide) dX8_joins_162 ?_
                                      refine k_aload0 (pc := 164) F dX8_joins_164 ?_
                                      refine g_X8_pairs (pc := 165) F (hw9) dX8_joins_165 ?_
                                      refine k_istore5 (pc := 168) F (by decide) dX8_joins_168 ?_
                                      refine k_iinc7 (pc := 170) F (by decide) dX8_joins_170 (inc_N _) ?_
                                      refine k_goto (pc := 173) (tgt := 61) F dX8_joins_173 (by decide) ?_
                                      refine k_fg8 (pc := 61) F ?_
                                      have kk := ih3 (i + 1) _ (by omega) (by omega) f4
                                      rw [show jin TT v1 m lim a (jou TT v1 m lim a) (i + 1) = jst TT v1 m lim a (a + 1 + i) (jin TT v1 m lim a (jou TT v1 m lim a) i) from rfl] at kk
                                      first
                                      | (rw [hz, jst_n1 ⟨h79, h91⟩ hx (by omega)] at kk; exact kk)
                                      | (rw [hz, jst_s1 ⟨h79, h91⟩ hx (by omega)] at kk; exact kk)
                                    · refine k_goto (pc := 151) (tgt := 170) F dX8_joins_151 (by decide) ?_
                                      refine k_iinc7 (pc := 170) F (by decide) dX8_joins_170 (inc_N _) ?_
                                      refine k_goto (pc := 173) (tgt := 61) F dX8_joins_173 (by decide) ?_
                                      refine k_fg8 (pc := 61) F ?_
                                      have kk := ih3 (i + 1) _ (by omega) (by omega) f4
                                      rw [show jin TT v1 m lim a (jou TT v1 m lim a) (i + 1) = jst TT v1 m lim a (a + 1 + i) (jin TT v1 m lim a (jou TT v1 m lim a) i) from rfl] at kk
                                      first
                                      | (rw [jst_no (fun q => h79 q.1)] at kk; exact kk)
                                      | (rw [jst_no (fun q => h91 q.2)] at kk; exact kk)
                                      | (rw [jst_x ⟨h79, h91⟩ hx] at kk; exact kk)
                                      | (rw [jst_big ⟨h79, h91⟩ hx hz0 h125] at kk; exact kk)
                                      | (rw [hz, jst_s0 ⟨h79, h91⟩ hx (by omega)] at kk; exact kk)
                                · refine k_goto (pc := 128) (tgt := 170) F dX8_joins_128 (by decide) ?_
                                  refine k_iinc7 (pc := 170) F (by decide) dX8_joins_170 (inc_N _) ?_
                                  refine k_goto (pc := 173) (tgt := 61) F dX8_joins_173 (by decide) ?_
                                  refine k_fg8 (pc := 61) F ?_
                                  have kk := ih3 (i + 1) _ (by omega) (by omega) f4
                                  rw [show jin TT v1 m lim a (jou TT v1 m lim a) (i + 1) = jst TT v1 m lim a (a + 1 + i) (jin TT v1 m lim a (jou TT v1 m lim a) i) from rfl] at kk
                                  first
                                  | (rw [jst_no (fun q => h79 q.1)] at kk; exact kk)
                                  | (rw [jst_no (fun q => h91 q.2)] at kk; exact kk)
                                  | (rw [jst_x ⟨h79, h91⟩ hx] at kk; exact kk)
                                  | (rw [jst_big ⟨h79, h91⟩ hx hz0 h125] at kk; exact kk)
                                  | (rw [hz, jst_s0 ⟨h79, h91⟩ hx (by omega)] at kk; exact kk)
                    exact L61 (m + 1) 0 iv2 (by omega) (by omega) f2
              exact L46 (m + 1) 0 iv1 (by omega) (by omega) f1
        refine L29 (2 * m + 2) 1 (fun k => k) ivS ar1 (by rw [cvN_id]; omega) (by omega) (fun q q5 q6 => s1 q q5) (fun q q5 q9 q10 => (f1 q q10).trans (s2 q q5 q9)) (by intro a b ha hb hab; rw [f1 9 (by decide)]; exact tS a b ha hb hab) (fun i hi2 => hi i (by omega)) (fun i hi2 => hi2) ?_ (fun h => by omega)
        rw [cvN_id, vcs]
        by_cases e : m = 0
        · rw [e]
        · have := jfi_st hT hm (lim := lim) (m - 1) (fun k => k) (by rw [cvN_id]; omega)
          rw [show m - 1 + 1 = m by omega] at this
          exact this
      · refine k_aload0 (pc := 14) F dX8_joins_14 ?_
        refine g_X8_voice (pc := 15) F dX8_joins_15 ?_
        refine k_iload1 (pc := 18) F dX8_joins_18 ?_
        refine k_iload1 (pc := 19) F dX8_joins_19 ?_
        refine s_m10 (pc := 20) F (by omega) (rfl) dX8_joins_20 ?_
        refine k_iinc1 (pc := 21) F (by decide) dX8_joins_21 (inc_N _) ?_
        refine k_goto (pc := 24) (tgt := 6) F dX8_joins_24 (by decide) ?_
        refine ih (k + 1) _ (by omega) (by omega) (fun q hq => ?_) (fun i hi2 => ?_)
        · rw [up_n hq]; exact f1 q hq
        · rw [up_s]
          by_cases e : i = k
          · subst e; exact upd_at
          · rw [upd_ne e]; exact hi i (by omega)
  exact L6 (m + 1) 0 arS (by omega) (by omega) (fun _ _ => rfl) (fun i hi => by omega)

