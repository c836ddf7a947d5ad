theorem inb_0 (S i : Nat) : inb S i 0 = 0 := by
  unfold inb
  split <;> rfl
theorem psF_ms {T : Nat → Nat → Int32} {m B a b : Nat} (ha : a < m) (hb : b < a) (h1 : B.testBit a = true) (h2 : B.testBit b = true) (ht : T a b = -1) : ¬ psF (msT T) B m = 0 := by
  have g1 : 1 ≤ grw (msT T) B a := by
    have h3 := smN_ge (f := fun j => inb B j (msT T a j)) a hb
    have h4 : inb B b (msT T a b) = 1 := by
      unfold inb
      rw [if_pos h2, msT, if_pos ht]
    unfold grw
    omega
  have g2 := smN_ge (f := fun i => inb B i (grw (msT T) B i)) m ha
  have g3 : inb B a (grw (msT T) B a) = grw (msT T) B a := if_pos h1
  unfold psF
  omega
def oI (z : Option Nat) : Int32 := match z with | none => -1 | some v => nI v
set_option maxHeartbeats 4000000 in
theorem c_X8_costOf {l : Launch} {D : va_G} {cI : ClassId} {ad : Nat → Nat} {iv : IV} {ar : AR} {m : Nat} {T : Nat → Nat → Int32} (hn : iv 3 = nI m) (hm : m ≤ 8) (hT : okTb m T) (hB : TBm m T ar) {lim : Nat} (hlim : iv 2 = nI lim) {B : Nat} (hB2 : B < 2 ^ m) : Ct l D cI (mw cI ad) yX8_costOf cX8_costOf 5 (some .int) 0 0 [.ref (ad 0), .int (nI B)] iv ar (rI (oI (vl T m lim B)) iv ar) := by
  refine Ct.of (lv := [some (.ref (ad 0)), some (.int (nI B)), none, none, none]) mw_ok (plainFor_of_name (by decide)) (Nat.le_of_ble_eq_true rfl) 3 rfl rfl (fun Z F => ?_)
  have hp := pow_256 hm
  refine k_aload0 (pc := 0) F dX8_costOf_0 ?_
  refine g_X8_limit (pc := 1) F (hlim) dX8_costOf_1 ?_
  refine k_istore2 (pc := 4) F (by decide) dX8_costOf_4 ?_
  refine k_iconst (pc := 5) (v := nI 0) F dX8_costOf_5 (by decide) ?_
  refine k_istore3 (pc := 6) F (by decide) dX8_costOf_6 ?_
  have L7 : ∀ (fu : Nat) (a : Nat), m - a < fu → a ≤ m → (smN (fun i => inb B i (grw (msT T) B i)) a) = 0 → Z 7 [some (.ref (ad 0)), some (.int (nI B)), some (.int (nI (lim + (smN (fun i => inb B i (grw (tnT T) B i)) a)))), some (.int (nI a)), none] [] iv ar := by
    intro fu
    induction fu with
    | zero => intro a hfu; exact absurd hfu (Nat.not_lt_zero _)
    | succ fu ih =>
      intro a hfu ha hm0
      refine k_iload3 (pc := 7) F dX8_costOf_7 ?_
      refine k_aload0 (pc := 8) F dX8_costOf_8 ?_
      refine g_X8_segments (pc := 9) F (hn) dX8_costOf_9 ?_
      refine k_icmp_geN (pc := 12) (tgt := 89) F dX8_costOf_12 (by decide) (by omega) (by omega) (fun h12 => ?_) (fun h12 => ?_)
      · have e : m = a := by omega
        subst e
        refine k_iload2 (pc := 89) F dX8_costOf_89 ?_
        refine k_iret (pc := 90) F dX8_costOf_90 ?_
        exact ⟨by rw [vl, if_pos (show psF (msT T) B m = 0 from hm0)]; rfl, rfl, rfl⟩
      · refine k_iconst (pc := 15) (v := nI 0) F dX8_costOf_15 (by decide) ?_
        refine k_istore4 (pc := 16) F (by decide) dX8_costOf_16 ?_
        have L18 : ∀ (fu : Nat) (b : Nat), a - b < fu → b ≤ a → (inb B a (smN (fun j => inb B j (msT T a j)) b)) = 0 → Z 18 [some (.ref (ad 0)), some (.int (nI B)), some (.int (nI (lim + (smN (fun i => inb B i (grw (tnT T) B i)) a) + (inb B a (smN (fun j => inb B j (tnT T a j)) b))))), some (.int (nI a)), some (.int (nI b))] [] iv ar := by
          intro fu
          induction fu with
          | zero => intro b hfu; exact absurd hfu (Nat.not_lt_zero _)
          | succ fu ih2 =>
            intro b hfu hb hm1
            refine k_iload4 (pc := 18) F dX8_costOf_18 ?_
            refine k_iload3 (pc := 20) F dX8_costOf_20 ?_
            refine k_icmp_geN (pc := 21) (tgt := 83) F dX8_costOf_21 (by decide) (by omega) (by omega) (fun h21 => ?_) (fun h21 => ?_)
            · have e : a = b := by omega
              subst e
              refine k_iinc3 (pc := 83) F (by decide) dX8_costOf_83 (inc_N _) ?_
              refine k_goto (pc := 86) (tgt := 7) F dX8_costOf_86 (by decide) ?_
              refine k_fg4 (pc := 7) F ?_
              have e1 : (smN (fun i => inb B i (grw (tnT T) B i)) (a + 1)) = (smN (fun i => inb B i (grw (tnT T) B i)) a) + (inb B a (smN (fun j => inb B j (tnT T a j)) a)) := rfl
              have e2 : (smN (fun i => inb B i (grw (msT T) B i)) (a + 1)) = (smN (fun i => inb B i (grw (msT T) B i)) a) + (inb B a (smN (fun j => inb B j (msT T a j)) a)) := rfl
              have kk := ih (a + 1) (by omega) (by omega) (by omega)
              rw [e1, ← Nat.add_assoc] at kk
              exact kk
            · have b1 := bit_le (a := B) (k := a)
              have b2 := bit_le (a := B) (k := b)
              refine k_iload1 (pc := 24) F dX8_costOf_24 ?_
              refine k_iload3 (pc := 25) F dX8_costOf_25 ?_
              refine k_ishrN (pc := 26) F dX8_costOf_26 (by omega) (by omega) ?_
              refine k_iconst (pc := 27) (v := nI 1) F dX8_costOf_27 (by decide) ?_
              refine k_iandN (pc := 28) F dX8_costOf_28 ?_
              refine k_if_eqN (pc := 29) (tgt := 77) F dX8_costOf_29 (by decide) (by omega) (fun h29 => ?_) (fun h29 => ?_)
              · have ba : ¬ B.testBit a = true := by rw [bit0.mp h29]; decide
                refine k_iinc4 (pc := 77) F (by decide) dX8_costOf_77 (inc_N _) ?_
                refine k_goto (pc := 80) (tgt := 18) F dX8_costOf_80 (by decide) ?_
                have e0 : ∀ h : Nat → Nat → Nat, inb B a (smN (fun j => inb B j (h a j)) (b + 1)) = inb B a (smN (fun j => inb B j (h a j)) b) := by
                  intro h
                  by_cases q : B.testBit a = true
                  · have bb2 : ¬ B.testBit b = true := by first | exact fun z => bb z | exact fun z => absurd q ba
                    rw [smN]
                    rw [show inb B b (h a b) = 0 from if_neg bb2, Nat.add_zero]
                  · rw [show inb B a (smN (fun j => inb B j (h a j)) (b + 1)) = 0 from if_neg q, show inb B a (smN (fun j => inb B j (h a j)) b) = 0 from if_neg q]
                have kk := ih2 (b + 1) (by omega) (by omega) (by rw [e0]; exact hm1)
                rw [e0] at kk
                exact kk
              · have ba : B.testBit a = true := bit1.mp (by omega)
                refine k_iload1 (pc := 32) F dX8_costOf_32 ?_
                refine k_iload4 (pc := 33) F dX8_costOf_33 ?_
                refine k_ishrN (pc := 35) F dX8_costOf_35 (by omega) (by omega) ?_
                refine k_iconst (pc := 36) (v := nI 1) F dX8_costOf_36 (by decide) ?_
                refine k_iandN (pc := 37) F dX8_costOf_37 ?_
                refine k_if_neN (pc := 38) (tgt := 44) F dX8_costOf_38 (by decide) (by omega) (fun h38 => ?_) (fun h38 => ?_)
                · have bb : B.testBit b = true := bit1.mp (by omega)
                  refine k_aload0 (pc := 44) F dX8_costOf_44 ?_
                  refine g_X8_scores (pc := 45) F dX8_costOf_45 ?_
                  refine k_bipush (pc := 48) (v := nI 8) F dX8_costOf_48 (by decide) ?_
                  refine k_iload3 (pc := 50) F dX8_costOf_50 ?_
                  refine k_imulN (pc := 51) F dX8_costOf_51 ?_
                  refine k_iload4 (pc := 52) F dX8_costOf_52 ?_
                  refine k_iaddN (pc := 54) F dX8_costOf_54 ?_
                  refine l_m9 (pc := 55) F (by omega) (hB a b (by omega) (by omega) (by omega)) dX8_costOf_55 ?_
                  refine k_iconst (pc := 56) (v := -1) F dX8_costOf_56 (by decide) ?_
                  refine k_icmp_ne (pc := 57) (tgt := 62) F dX8_costOf_57 (by decide) (fun h57 => ?_) (fun h57 => ?_)
                  · obtain ⟨x, hx1, ex⟩ := (hT a b (by omega) (by omega) (by omega)).get h57
                    refine k_iload2 (pc := 62) F dX8_costOf_62 ?_
                    refine k_aload0 (pc := 63) F dX8_costOf_63 ?_
                    refine g_X8_scores (pc := 64) F dX8_costOf_64 ?_
                    refine k_bipush (pc := 67) (v := nI 8) F dX8_costOf_67 (by decide) ?_
                    refine k_iload3 (pc := 69) F dX8_costOf_69 ?_
                    refine k_imulN (pc := 70) F dX8_costOf_70 ?_
                    refine k_iload4 (pc := 71) F dX8_costOf_71 ?_
                    refine k_iaddN (pc := 73) F dX8_costOf_73 ?_
                    refine l_m9 (pc := 74) F (by omega) ((hB a b (by omega) (by omega) (by omega)).trans ex) dX8_costOf_74 ?_
                    refine k_iaddN (pc := 75) F dX8_costOf_75 ?_
                    refine k_istore2 (pc := 76) F (by decide) dX8_costOf_76 ?_
                    refine k_iinc4 (pc := 77) F (by decide) dX8_costOf_77 (inc_N _) ?_
                    refine k_goto (pc := 80) (tgt := 18) F dX8_costOf_80 (by decide) ?_
                    have e1 : (inb B a (smN (fun j => inb B j (tnT T a j)) (b + 1))) = (inb B a (smN (fun j => inb B j (tnT T a j)) b)) + x := by
                      unfold inb
                      rw [if_pos ba, if_pos ba, smN]
                      rw [if_pos bb, tnT, ex, nI_clamp (by omega)]
                    have e2 : (inb B a (smN (fun j => inb B j (msT T a j)) (b + 1))) = 0 := by
                      rw [← hm1]
                      unfold inb
                      rw [if_pos ba, if_pos ba, smN]
                      rw [if_pos bb, msT, if_neg h57, Nat.add_zero]
                    have kk := ih2 (b + 1) (by omega) (by omega) e2
                    rw [e1, ← Nat.add_assoc] at kk
                    exact kk
                  · refine k_iconst (pc := 60) (v := -1) F dX8_costOf_60 (by decide) ?_
                    refine k_iret (pc := 61) F dX8_costOf_61 ?_
                    exact ⟨by rw [vl, if_neg (psF_ms (by omega) (by omega) ba bb h57)]; rfl, rfl, rfl⟩
                · have bb : ¬ B.testBit b = true := by rw [bit0.mp h38]; decide
                  refine k_goto (pc := 41) (tgt := 77) F dX8_costOf_41 (by decide) ?_
                  refine k_iinc4 (pc := 77) F (by decide) dX8_costOf_77 (inc_N _) ?_
                  refine k_goto (pc := 80) (tgt := 18) F dX8_costOf_80 (by decide) ?_
                  have e0 : ∀ h : Nat → Nat → Nat, inb B a (smN (fun j => inb B j (h a j)) (b + 1)) = inb B a (smN (fun j => inb B j (h a j)) b) := by
                    intro h
                    by_cases q : B.testBit a = true
                    · have bb2 : ¬ B.testBit b = true := by first | exact fun z => bb z | exact fun z => absurd q ba
                      rw [smN]
                      rw [show inb B b (h a b) = 0 from if_neg bb2, Nat.add_zero]
                    · rw [show inb B a (smN (fun j => inb B j (h a j)) (b + 1)) = 0 from if_neg q, show inb B a (smN (fun j => inb B j (h a j)) b) = 0 from if_neg q]
                  have kk := ih2 (b + 1) (by omega) (by omega) (by rw [e0]; exact hm1)
                  rw [e0] at kk
                  exact kk
        have kk := L18 (a + 1) 0 (by omega) (by omega) (inb_0 B a)
        rw [show (inb B a (smN (fun j => inb B j (tnT T a j)) 0)) = 0 from inb_0 B a, Nat.add_zero] at kk
        exact kk
  exact L7 (m + 1) 0 (by omega) (by omega) rfl

set_option maxHeartbeats 4000000 in
theorem c_X8_spare {l : Launch} {D : va_G} {cI : ClassId} {ad : Nat → Nat} {iv : IV} {ar : AR} {n : Nat} {c : Nat → Nat} {s t : Nat → Int32} (hA : MArc n c s t iv ar) (hT0 : okT n t) {m : Nat} {g : Nat → Nat} (hG : MG n m g iv ar) {lim : Nat} (hl : lim ≤ 200) (hlim : iv 2 = nI lim) : Ct l D cI (mw cI ad) yX8_spare cX8_spare 5 (some .int) 4 94 [.ref (ad 0)] iv ar (qI (fun x iv2 ar2 => (∀ q, q ≠ 5 → iv2 q = iv q) ∧ (∀ q, q ≠ 5 → q ≠ 9 → q ≠ 11 → ar2 q = ar q) ∧ x = nI (opt (vl (Tg c s t n g) m lim) (2 ^ m - 1)))) := by
  refine Ct.of (lv := [some (.ref (ad 0)), none, none, none, none]) mw_ok (plainFor_of_name (by decide)) (Nat.le_of_ble_eq_true rfl) 4 rfl rfl (fun Z F => ?_)
  have hm := hG.2.1
  have hn := hA.le
  have hp := pow_256 hm
  have hp1 := Nat.two_pow_pos m
  have hT : okTb m (Tg c s t n g) := fun j k hj hk _ => SC_B hT0 hn (hG.2.2 j hj).2 (hG.2.2 k hk).2 (hA.lt (hG.2.2 j hj).2) (hA.lt (hG.2.2 k hk).2)
  refine k_aload0 (pc := 0) F dX8_spare_0 ?_
  refine k_callV (pc := 1) (q0 := 0) F (c_X8_scoresAll hA hT0 hG) ok_X8_118 rfl rfl rfl rfl rfl (by decide) (by decide) (Nat.le_of_ble_eq_true rfl) dX8_spare_1 (qV.use (fun ivS arS hS => ?_))
  obtain ⟨s1, s2, s3, tS⟩ := hS
  generalize (Tg c s t n g) = TT at tS hT F ⊢
  refine k_aload0 (pc := 4) F dX8_spare_4 ?_
  refine g_X8_least (pc := 5) F dX8_spare_5 ?_
  refine k_iconst (pc := 8) (v := nI 0) F dX8_spare_8 (by decide) ?_
  refine k_iconst (pc := 9) (v := nI 0) F dX8_spare_9 (by decide) ?_
  refine s_m11 (pc := 10) F (by omega) (rfl) dX8_spare_10 ?_
  refine k_iconst (pc := 11) (v := nI 1) F dX8_spare_11 (by decide) ?_
  refine k_istore1 (pc := 12) F (by decide) dX8_spare_12 ?_
  have L13 : ∀ (fu : Nat) (S : Nat) (ar1 : AR), 2 ^ m - S < fu → 1 ≤ S → S ≤ 2 ^ m → (∀ q, q ≠ 11 → ar1 q = arS q) → (∀ X, X < S → ar1 11 X = nI (opt (vl TT m lim) X)) → Z 13 [some (.ref (ad 0)), some (.int (nI S)), none, none, none] [] ivS ar1 := by
    intro fu
    induction fu with
    | zero => intro S ar1 hfu; exact absurd hfu (Nat.not_lt_zero _)
    | succ fu ih =>
      intro S ar1 hfu hS1 hS f1 hv
      refine k_iload1 (pc := 13) F dX8_spare_13 ?_
      refine k_iconst (pc := 14) (v := nI 1) F dX8_spare_14 (by decide) ?_
      refine k_aload0 (pc := 15) F dX8_spare_15 ?_
      refine g_X8_segments (pc := 16) F ((s1 3 (by decide)).trans hG.1) dX8_spare_16 ?_
      refine k_ishlN (pc := 19) F dX8_spare_19 (by omega) ?_
      refine k_icmp_geN (pc := 20) (tgt := 119) F dX8_spare_20 (by decide) (by omega) (by omega) (fun h20 => ?_) (fun h20 => ?_)
      · refine k_aload0 (pc := 119) F dX8_spare_119 ?_
        refine g_X8_least (pc := 120) F dX8_spare_120 ?_
        refine k_iconst (pc := 123) (v := nI 1) F dX8_spare_123 (by decide) ?_
        refine k_aload0 (pc := 124) F dX8_spare_124 ?_
        refine g_X8_segments (pc := 125) F ((s1 3 (by decide)).trans hG.1) dX8_spare_125 ?_
        refine k_ishlN (pc := 128) F dX8_spare_128 (by omega) ?_
        refine k_iconst (pc := 129) (v := nI 1) F dX8_spare_129 (by decide) ?_
        refine k_isubN (pc := 130) F dX8_spare_130 (by omega) ?_
        refine l_m11 (pc := 131) F (by omega) (hv (2 ^ m - 1) (by omega)) dX8_spare_131 ?_
        refine k_iret (pc := 132) F dX8_spare_132 ?_
        exact ⟨_, rfl, s1, fun q q5 q9 q11 => (f1 q q11).trans (s2 q q5 q9), rfl⟩
      · refine k_aload0 (pc := 23) F dX8_spare_23 ?_
        refine g_X8_least (pc := 24) F dX8_spare_24 ?_
        refine k_iload1 (pc := 27) F dX8_spare_27 ?_
        refine k_iconst (pc := 28) (v := -1) F dX8_spare_28 (by decide) ?_
        refine s_m11 (pc := 29) F (by omega) (rfl) dX8_spare_29 ?_
        refine k_iload1 (pc := 30) F dX8_spare_30 ?_
        refine k_istore2 (pc := 31) F (by decide) dX8_spare_31 ?_
        have L32 : ∀ (fu : Nat) (C : Nat) (z : Option Nat) (ar2 : AR), C < fu → sb C S → C ≤ S → (∀ q, q ≠ 11 → ar2 q = arS q) → (∀ X, X < S → ar2 11 X = nI (opt (vl TT m lim) X)) → ar2 11 S = oI z → (∀ b, z = some b → opt (vl TT m lim) S ≤ b ∧ b ≤ 200000) → (∀ X, sb X S → C < X → X.testBit S.log2 = true → ∀ v, vl TT m lim X = some v → ∃ b, z = some b ∧ b ≤ v + opt (vl TT m lim) (S ^^^ X)) → Z 32 [some (.ref (ad 0)), some (.int (nI S)), some (.int (nI C)), none, none] [] ivS ar2 := by
          intro fu
          induction fu with
          | zero => intro C z ar2 hfu; exact absurd hfu (Nat.not_lt_zero _)
          | succ fu ih2 =>
            intro C z ar2 hfu hC hCS f2 hv2 hz hzb hcan
            have tb2 : TBm m TT ar2 := by intro a b ha hb hab; rw [f2 9 (by decide)]; exact tS a b ha hb hab
            refine k_iload2 (pc := 32) F dX8_spare_32 ?_
            refine k_if_leN (pc := 33) (tgt := 113) F dX8_spare_33 (by decide) (by omega) (fun h33 => ?_) (fun h33 => ?_)
            · obtain ⟨tb, tl⟩ := tx1 S (by omega) (by omega)
              obtain ⟨B, v, g1, g2, g3, g4, g5, g6⟩ := opt_at (T := TT) (m := m) (lim := lim) (S := S) (x := S.log2) (by omega) tb
              obtain ⟨b, hb, hb2⟩ := hcan B g4 (by omega) g1 v g5
              have hb3 := hzb b hb
              have hv3 : ∀ X, X < S + 1 → ar2 11 X = nI (opt (vl TT m lim) X) := by
                intro X hX
                by_cases e : X = S
                · subst e
                  rw [hz, hb]
                  show nI b = _
                  rw [show b = opt (vl TT m lim) X by omega]
                · exact hv2 X (by omega)
              refine k_iinc1 (pc := 113) F (by decide) dX8_spare_113 (inc_N _) ?_
              refine k_goto (pc := 116) (tgt := 13) F dX8_spare_116 (by decide) ?_
              refine k_fg2 (pc := 13) F ?_
              exact ih (S + 1) ar2 (by omega) (by omega) (by omega) f2 hv3
            · have hbb := bx1 S (by omega) C (by omega) hC
              refine k_iconst (pc := 36) (v := nI 2) F dX8_spare_36 (by decide) ?_
              refine k_iload2 (pc := 37) F dX8_spare_37 ?_
              refine k_imulN (pc := 38) F dX8_spare_38 ?_
              refine k_iload1 (pc := 39) F dX8_spare_39 ?_
              refine k_icmp_leN (pc := 40) (tgt := 51) F dX8_spare_40 (by decide) (by omega) (by omega) (fun h40 => ?_) (fun h40 => ?_)
              · refine k_iconst (pc := 51) (v := -1) F dX8_spare_51 (by decide) ?_
                refine k_istore3 (pc := 52) F (by decide) dX8_spare_52 ?_
                refine k_iload3 (pc := 53) F dX8_spare_53 ?_
                refine k_iconst (pc := 54) (v := -1) F dX8_spare_54 (by decide) ?_
                refine k_icmp_ne (pc := 55) (tgt := 61) F dX8_spare_55 (by decide) (fun h => absurd h (by decide)) (fun _ => ?_)
                refine k_goto (pc := 58) (tgt := 104) F dX8_spare_58 (by decide) ?_
                refine k_iload2 (pc := 104) F dX8_spare_104 ?_
                refine k_iconst (pc := 105) (v := nI 1) F dX8_spare_105 (by decide) ?_
                refine k_isubN (pc := 106) F dX8_spare_106 (by omega) ?_
                refine k_iload1 (pc := 107) F dX8_spare_107 ?_
                refine k_iandN (pc := 108) F dX8_spare_108 ?_
                refine k_istore2 (pc := 109) F (by decide) dX8_spare_109 ?_
                refine k_goto (pc := 110) (tgt := 32) F dX8_spare_110 (by decide) ?_
                refine k_fg3 (pc := 32) F ?_
                have hnx : ∀ X, sb X S → (C - 1) &&& S < X → X = C ∨ C < X := by
                  intro X hX q
                  rcases Nat.lt_trichotomy X C with z1 | z1 | z1
                  · have := sub_next C S X hC hX z1; omega
                  · exact Or.inl z1
                  · exact Or.inr z1
                have hC2 : sb ((C - 1) &&& S) S := by
                  show ((C - 1) &&& S) &&& S = _
                  rw [Nat.and_assoc, Nat.and_self]
                have hC3 : (C - 1) &&& S ≤ S := Nat.and_le_right
                have hC4 : (C - 1) &&& S ≤ C - 1 := Nat.and_le_left
                refine ih2 ((C - 1) &&& S) z ar2 (by omega) hC2 hC3 f2 hv2 hz hzb (fun X hX hlt ht w hw => ?_)
                rcases hnx X hX hlt with q | q
                · subst q
                  first
                  | exact absurd ((tx2 S (by omega) X (by omega) hC).mpr ht) (by omega)
                  | (rw [ev] at hw; cases hw; done)
                  | (rw [ev] at hw; cases hw; exact ⟨b0, hz0, by omega⟩)
                · exact hcan X hX q ht w hw
              · refine k_aload0 (pc := 43) F dX8_spare_43 ?_
                refine k_iload2 (pc := 44) F dX8_spare_44 ?_
                refine k_callV (pc := 45) (q0 := 0) F (c_X8_costOf ((s1 3 (by decide)).trans hG.1) hm hT tb2 ((s1 2 (by decide)).trans hlim) (B := C) (by omega)) ok_X8_127 rfl rfl rfl rfl rfl (by decide) (by decide) (Nat.le_of_ble_eq_true rfl) dX8_spare_45 (rI.use ?_)
                refine k_goto (pc := 48) (tgt := 52) F dX8_spare_48 (by decide) ?_
                refine k_istore3 (pc := 52) F (by decide) dX8_spare_52 ?_
                refine k_iload3 (pc := 53) F dX8_spare_53 ?_
                refine k_iconst (pc := 54) (v := -1) F dX8_spare_54 (by decide) ?_
                refine k_icmp_ne (pc := 55) (tgt := 61) F dX8_spare_55 (by decide) (fun h55 => ?_) (fun h55 => ?_)
                · obtain ⟨v, ev⟩ : ∃ v, vl TT m lim C = some v := by
                    cases hq : vl TT m lim C with
                    | none => rw [hq] at h55; exact absurd rfl h55
                    | some v => exact ⟨v, rfl⟩
                  have hvv : v ≤ 200 + 114048 := by
                    have hbd := psT_bd hT hm C
                    have hq := ev
                    unfold vl at hq
                    split at hq
                    · cases hq; omega
                    · cases hq
                  have hoo : opt (vl TT m lim) (S ^^^ C) ≤ 200 * 256 := Nat.le_trans (opt_B hbb.1) (Nat.mul_le_mul hl (by omega))
                  have hle := opt_le (T := TT) (m := m) (lim := lim) (S := S) (by omega) (show C ≠ 0 by omega) (by omega) hC ev
                  rw [ev]
                  show Z _ [_, _, _, some (.int (nI v)), _] _ _ _
                  refine k_iload3 (pc := 61) F dX8_spare_61 ?_
                  refine k_aload0 (pc := 62) F dX8_spare_62 ?_
                  refine g_X8_least (pc := 63) F dX8_spare_63 ?_
                  refine k_iload1 (pc := 66) F dX8_spare_66 ?_
                  refine k_iload2 (pc := 67) F dX8_spare_67 ?_
                  refine k_iconst (pc := 68) (v := -1) F dX8_spare_68 (by decide) ?_
                  refine k_ixor (pc := 69) F dX8_spare_69 ?_
                  refine k_iand (pc := 70) F dX8_spare_70 ?_
                  refine k_top (y := nI (S ^^^ C)) (andnot hC) ?_
                  refine l_m11 (pc := 71) F (by omega) (hv2 (S ^^^ C) (hbb.2.2.1 (by omega))) dX8_spare_71 ?_
                  refine k_iaddN (pc := 72) F dX8_spare_72 ?_
                  refine k_istore4 (pc := 73) F (by decide) dX8_spare_73 ?_
                  refine k_aload0 (pc := 75) F dX8_spare_75 ?_
                  refine g_X8_least (pc := 76) F dX8_spare_76 ?_
                  refine k_iload1 (pc := 79) F dX8_spare_79 ?_
                  refine l_m11 (pc := 80) F (by omega) (hz) dX8_spare_80 ?_
                  refine k_iconst (pc := 81) (v := -1) F dX8_spare_81 (by decide) ?_
                  refine k_icmp_eq (pc := 82) (tgt := 96) F dX8_spare_82 (by decide) (fun h82 => ?_) (fun h82 => ?_)
                  · refine k_aload0 (pc := 96) F dX8_spare_96 ?_
                    refine g_X8_least (pc := 97) F dX8_spare_97 ?_
                    refine k_iload1 (pc := 100) F dX8_spare_100 ?_
                    refine k_iload4 (pc := 101) F dX8_spare_101 ?_
                    refine s_m11 (pc := 103) F (by omega) (rfl) dX8_spare_103 ?_
                    refine k_iload2 (pc := 104) F dX8_spare_104 ?_
                    refine k_iconst (pc := 105) (v := nI 1) F dX8_spare_105 (by decide) ?_
                    refine k_isubN (pc := 106) F dX8_spare_106 (by omega) ?_
                    refine k_iload1 (pc := 107) F dX8_spare_107 ?_
                    refine k_iandN (pc := 108) F dX8_spare_108 ?_
                    refine k_istore2 (pc := 109) F (by decide) dX8_spare_109 ?_
                    refine k_goto (pc := 110) (tgt := 32) F dX8_spare_110 (by decide) ?_
                    refine k_fg3 (pc := 32) F ?_
                    refine k_fg4 (pc := 32) F ?_
                    have hnx : ∀ X, sb X S → (C - 1) &&& S < X → X = C ∨ C < X := by
                      intro X hX q
                      rcases Nat.lt_trichotomy X C with z1 | z1 | z1
                      · have := sub_next C S X hC hX z1; omega
                      · exact Or.inl z1
                      · exact Or.inr z1
                    have hC2 : sb ((C - 1) &&& S) S := by
                      show ((C - 1) &&& S) &&& S = _
                      rw [Nat.and_assoc, Nat.and_self]
                    have hC3 : (C - 1) &&& S ≤ S := Nat.and_le_right
                    have hC4 : (C - 1) &&& S ≤ C - 1 := Nat.and_le_left
                    refine ih2 ((C - 1) &&& S) (some (v + opt (vl TT m lim) (S ^^^ C))) _ (by omega) hC2 hC3 (fun q hq => ?_) (fun X hX => ?_) ?_ (fun b hb => ?_) (fun X hX hlt ht w hw => ?_)
                    · rw [up_n hq]; exact f2 q hq
                    · rw [up_s, upd_ne (by omega)]; exact hv2 X hX
                    · rw [up_s, upd_at]; rfl
                    · cases hb; exact ⟨hle, by omega⟩
                    · rcases hnx X hX hlt with q | q
                      · subst q
                        rw [ev] at hw
                        cases hw
                        exact ⟨_, rfl, Nat.le_refl _⟩
                      · obtain ⟨b, hb, hb2⟩ := hcan X hX q ht w hw
                        refine ⟨_, rfl, ?_⟩
                        first
                        | (rw [hb] at h82; exact absurd h82 (nI_ne_m1 (by have := (hzb b hb).2; omega)))
                        | (obtain rfl : b = b0 := Option.some.inj (hb.symm.trans hz0); omega)
                  · obtain ⟨b0, hz0⟩ : ∃ b, z = some b := by
                      cases z with
                      | none => exact absurd rfl h82
                      | some b => exact ⟨b, rfl⟩
                    have hb0 := hzb b0 hz0
                    refine k_iload4 (pc := 85) F dX8_spare_85 ?_
                    refine k_aload0 (pc := 87) F dX8_spare_87 ?_
                    refine g_X8_least (pc := 88) F dX8_spare_88 ?_
                    refine k_iload1 (pc := 91) F dX8_spare_91 ?_
                    refine l_m11 (pc := 92) F (by omega) (show ar2 11 S = nI b0 from hz.trans (congrArg oI hz0)) dX8_spare_92 ?_
                    refine k_icmp_geN (pc := 93) (tgt := 104) F dX8_spare_93 (by decide) (by omega) (by omega) (fun h93 => ?_) (fun h93 => ?_)
                    · refine k_iload2 (pc := 104) F dX8_spare_104 ?_
                      refine k_iconst (pc := 105) (v := nI 1) F dX8_spare_105 (by decide) ?_
                      refine k_isubN (pc := 106) F dX8_spare_106 (by omega) ?_
                      refine k_iload1 (pc := 107) F dX8_spare_107 ?_
                      refine k_iandN (pc := 108) F dX8_spare_108 ?_
                      refine k_istore2 (pc := 109) F (by decide) dX8_spare_109 ?_
                      refine k_goto (pc := 110) (tgt := 32) F dX8_spare_110 (by decide) ?_
                      refine k_fg3 (pc := 32) F ?_
                      refine k_fg4 (pc := 32) F ?_
                      have hnx : ∀ X, sb X S → (C - 1) &&& S < X → X = C ∨ C < X := by
                        intro X hX q
                        rcases Nat.lt_trichotomy X C with z1 | z1 | z1
                        · have := sub_next C S X hC hX z1; omega
                        · exact Or.inl z1
                        · exact Or.inr z1
                      have hC2 : sb ((C - 1) &&& S) S := by
                        show ((C - 1) &&& S) &&& S = _
                        rw [Nat.and_assoc, Nat.and_self]
                      have hC3 : (C - 1) &&& S ≤ S := Nat.and_le_right
                      have hC4 : (C - 1) &&& S ≤ C - 1 := Nat.and_le_left
                      refine ih2 ((C - 1) &&& S) z ar2 (by omega) hC2 hC3 f2 hv2 hz hzb (fun X hX hlt ht w hw => ?_)
                      rcases hnx X hX hlt with q | q
                      · subst q
                        first
                        | exact absurd ((tx2 S (by omega) X (by omega) hC).mpr ht) (by omega)
                        | (rw [ev] at hw; cases hw; done)
                        | (rw [ev] at hw; cases hw; exact ⟨b0, hz0, by omega⟩)
                      · exact hcan X hX q ht w hw
                    · refine k_aload0 (pc := 96) F dX8_spare_96 ?_
                      refine g_X8_least (pc := 97) F dX8_spare_97 ?_
                      refine k_iload1 (pc := 100) F dX8_spare_100 ?_
                      refine k_iload4 (pc := 101) F dX8_spare_101 ?_
                      refine s_m11 (pc := 103) F (by omega) (rfl) dX8_spare_103 ?_
                      refine k_iload2 (pc := 104) F dX8_spare_104 ?_
                      refine k_iconst (pc := 105) (v := nI 1) F dX8_spare_105 (by decide) ?_
                      refine k_isubN (pc := 106) F dX8_spare_106 (by omega) ?_
                      refine k_iload1 (pc := 107) F dX8_spare_107 ?_
                      refine k_iandN (pc := 108) F dX8_spare_108 ?_
                      refine k_istore2 (pc := 109) F (by decide) dX8_spare_109 ?_
                      refine k_goto (pc := 110) (tgt := 32) F dX8_spare_110 (by decide) ?_
                      refine k_fg3 (pc := 32) F ?_
                      refine k_fg4 (pc := 32) F ?_
                      have hnx : ∀ X, sb X S → (C - 1) &&& S < X → X = C ∨ C < X := by
                        intro X hX q
                        rcases Nat.lt_trichotomy X C with z1 | z1 | z1
                        · have := sub_next C S X hC hX z1; omega
                        · exact Or.inl z1
                        · exact Or.inr z1
                      have hC2 : sb ((C - 1) &&& S) S := by
                        show ((C - 1) &&& S) &&& S = _
                        rw [Nat.and_assoc, Nat.and_self]
                      have hC3 : (C - 1) &&& S ≤ S := Nat.and_le_right
                      have hC4 : (C - 1) &&& S ≤ C - 1 := Nat.and_le_left
                      refine ih2 ((C - 1) &&& S) (some (v + opt (vl TT m lim) (S ^^^ C))) _ (by omega) hC2 hC3 (fun q hq => ?_) (fun X hX => ?_) ?_ (fun b hb => ?_) (fun X hX hlt ht w hw => ?_)
                      · rw [up_n hq]; exact f2 q hq
                      · rw [up_s, upd_ne (by omega)]; exact hv2 X hX
                      · rw [up_s, upd_at]; rfl
                      · cases hb; exact ⟨hle, by omega⟩
                      · rcases hnx X hX hlt with q | q
                        · subst q
                          rw [ev] at hw
                          cases hw
                          exact ⟨_, rfl, Nat.le_refl _⟩
                        · obtain ⟨b, hb, hb2⟩ := hcan X hX q ht w hw
                          refine ⟨_, rfl, ?_⟩
                          first
                          | (rw [hb] at h82; exact absurd h82 (nI_ne_m1 (by have := (hzb b hb).2; omega)))
                          | (obtain rfl : b = b0 := Option.some.inj (hb.symm.trans hz0); omega)
                · have ev : vl TT m lim C = none := by
                    cases hq : vl TT m lim C with
                    | none => rfl
                    | some v =>
                      rw [hq] at h55
                      have hvv : v ≤ 200 + 114048 := by
                        have hbd := psT_bd hT hm C
                        unfold vl at hq
                        split at hq
                        · cases hq; omega
                        · cases hq
                      exact absurd h55 (nI_ne_m1 (by omega))
                  refine k_goto (pc := 58) (tgt := 104) F dX8_spare_58 (by decide) ?_
                  refine k_iload2 (pc := 104) F dX8_spare_104 ?_
                  refine k_iconst (pc := 105) (v := nI 1) F dX8_spare_105 (by decide) ?_
                  refine k_isubN (pc := 106) F dX8_spare_106 (by omega) ?_
                  refine k_iload1 (pc := 107) F dX8_spare_107 ?_
                  refine k_iandN (pc := 108) F dX8_spare_108 ?_
                  refine k_istore2 (pc := 109) F (by decide) dX8_spare_109 ?_
                  refine k_goto (pc := 110) (tgt := 32) F dX8_spare_110 (by decide) ?_
                  refine k_fg3 (pc := 32) F ?_
                  have hnx : ∀ X, sb X S → (C - 1) &&& S < X → X = C ∨ C < X := by
                    intro X hX q
                    rcases Nat.lt_trichotomy X C with z1 | z1 | z1
                    · have := sub_next C S X hC hX z1; omega
                    · exact Or.inl z1
                    · exact Or.inr z1
                  have hC2 : sb ((C - 1) &&& S) S := by
                    show ((C - 1) &&& S) &&& S = _
                    rw [Nat.and_assoc, Nat.and_self]
                  have hC3 : (C - 1) &&& S ≤ S := Nat.and_le_right
                  have hC4 : (C - 1) &&& S ≤ C - 1 := Nat.and_le_left
                  refine ih2 ((C - 1) &&& S) z ar2 (by omega) hC2 hC3 f2 hv2 hz hzb (fun X hX hlt ht w hw => ?_)
                  rcases hnx X hX hlt with q | q
                  · subst q
                    first
                    | exact absurd ((tx2 S (by omega) X (by omega) hC).mpr ht) (by omega)
                    | (rw [ev] at hw; cases hw; done)
                    | (rw [ev] at hw; cases hw; exact ⟨b0, hz0, by omega⟩)
                  · exact hcan X hX q ht w hw
        refine L32 (S + 1) S none _ (by omega) (Nat.and_self S) (Nat.le_refl S) (fun q hq => ?_) (fun X hX => ?_) ?_ (fun b hb => by cases hb) (fun X hX hlt => ?_)
        · rw [up_n hq]; exact f1 q hq
        · rw [up_s, upd_ne (by omega)]; exact hv X hX
        · rw [up_s, upd_at]; rfl
        · have h2 : X &&& S = X := hX
          have h3 : X &&& S ≤ S := Nat.and_le_right
          omega
  refine L13 (2 ^ m + 1) 1 _ (by omega) (by omega) (by omega) (fun q hq => up_n hq) (fun X hX => ?_)
  have e : X = 0 := by omega
  subst e
  rw [up_s, upd_at, opt_0]

