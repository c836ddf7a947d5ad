def lsB (f : Nat → Int32) (r : Int32) : Nat → Bool
  | 0 => false
  | k + 1 => lsB f r k || decide (f k = r)
theorem lsB_t {f : Nat → Int32} {r : Int32} {k : Nat} (h : f k = r) : ∀ m, k < m → lsB f r m = true
  | 0, q => absurd q (Nat.not_lt_zero k)
  | m + 1, q => by
    rw [lsB]
    by_cases e : k = m
    · subst e; simp [h]
    · rw [lsB_t h m (by omega)]; rfl
theorem lsB_congr {f g : Nat → Int32} {r : Int32} : ∀ m, (∀ k, k < m → f k = g k) → lsB f r m = lsB g r m
  | 0, _ => rfl
  | m + 1, h => by rw [lsB, lsB, lsB_congr m (fun k hk => h k (by omega)), h m (by omega)]
/-- the class's segments, the table of their scores, their voices -/
def SG (n m : Nat) (g : Nat → Nat) (iv : IV) (ar : AR) : Prop := iv 7 = nI m ∧ m ≤ 8 ∧ ∀ k, k < m → ar 12 k = nI (g k) ∧ g k < n
theorem SG.keep {n m : Nat} {g : Nat → Nat} {iv iv2 : IV} {ar ar2 : AR} (h : SG n m g iv ar) (h7 : iv2 7 = iv 7) (h12 : ar2 12 = ar 12) : SG n m g iv2 ar2 := by
  obtain ⟨h1, h2, h3⟩ := h
  exact ⟨by rw [h7]; exact h1, h2, by rw [h12]; exact h3⟩
def TBc (m : Nat) (T : Nat → Nat → Int32) (ar : AR) : Prop := ∀ j k, j < m → k < m → j ≠ k → ar 13 (j * 8 + k) = T j k
def VOc (m : Nat) (v : Nat → Nat) (ar : AR) : Prop := ∀ k, k < m → ar 14 k = nI (v k)
abbrev Tg (c : Nat → Nat) (s t : Nat → Int32) (n : Nat) (g : Nat → Nat) : Nat → Nat → Int32 := fun j k => SC c s t n (g j) (g k)
section CB
variable {l : Launch} {D : va_G} {cI : ClassId} {ad : Nat → Nat} {iv : IV} {ar : AR} {n : Nat} {c : Nat → Nat} {s t : Nat → Int32}
theorem ca_between (hA : Arch n c s t iv ar) (h5 : ∀ j, j < 24 → ar 5 j = shA c s t n j) {a b : Nat} (ha : a < n) (hb : b < n) : Ct l D cI (cw cI ad) yX4_between cX4_between 10 (some .int) 1 22 [.ref (ad 3), .int (nI a), .int (nI b)] iv ar (rI (SC c s t n a b) iv ar) := by
  have h := c_X4_between (l := l) (D := D) (cI := cI) (ad := ad) hA ha hb
  rw [sco_congr (hA.lt ha) (hA.lt hb) h5] at h
  exact h
end CB
def l2 (z : Option QT) : Int32 := match z with | none => -1 | some y => nI y.1
def l3 (d : Int32) (z : Option QT) : Int32 := match z with | none => d | some y => nI y.2.1
def l4 (z : Option QT) : Int32 := match z with | none => nI 0 | some y => nI y.2.2.1
def l5 (d : Int32) (z : Option QT) : Int32 := match z with | none => d | some y => nI y.2.2.2
theorem l2_n {v : Nat → Nat} {m lim : Nat} {z : Option QT} (hz : okQ v m lim z) (hm : m ≤ 8) (h : l2 z = -1) : z = none := by
  cases z with
  | none => rfl
  | some y =>
    have := hz y rfl
    exact absurd h (nI_ne_m1 (by omega))
theorem l2_s {z : Option QT} (h : ¬ l2 z = -1) : ∃ y, z = some y := by
  cases z with
  | none => exact absurd rfl h
  | some y => exact ⟨y, rfl⟩
section JS
variable {T : Nat → Nat → Int32} {v : Nat → Nat} {m lim a b : Nat} {z : Option QT} {w : Nat × Nat} {y : QT}
theorem jst_no (h : ¬ (v a = a ∧ v b = b)) : jst T v m lim a b z = z := if_neg h
theorem jst_x (h : v a = a ∧ v b = b) (hx : xou T v a b m m = none) : jst T v m lim a b z = z := by rw [jst, if_pos h, hx]
theorem jst_n1 (h : v a = a ∧ v b = b) (hx : xou T v a b m m = some w) (hl : w.1 ≤ lim * w.2) : jst T v m lim a b none = some (a, b, w.1, w.2) := by rw [jst, if_pos h, hx]; exact if_pos hl
theorem jst_n0 (h : v a = a ∧ v b = b) (hx : xou T v a b m m = some w) (hl : ¬ w.1 ≤ lim * w.2) : jst T v m lim a b none = none := by rw [jst, if_pos h, hx]; exact if_neg hl
theorem jst_s1 (h : v a = a ∧ v b = b) (hx : xou T v a b m m = some w) (hl : w.1 * y.2.2.2 < y.2.2.1 * w.2) : jst T v m lim a b (some y) = some (a, b, w.1, w.2) := by rw [jst, if_pos h, hx]; exact if_pos hl
theorem jst_s0 (h : v a = a ∧ v b = b) (hx : xou T v a b m m = some w) (hl : ¬ w.1 * y.2.2.2 < y.2.2.1 * w.2) : jst T v m lim a b (some y) = some y := by rw [jst, if_pos h, hx]; exact if_neg hl
end JS
theorem xou_miss {T : Nat → Nat → Int32} {v : Nat → Nat} {p q m j k : Nat} {w u : Nat × Nat} (hj : j < m) (hk : k < m) (h1 : xou T v p q m j = some w) (h2 : xin T v p q j w k = some u) (hc : v j = p ∧ v k = q) (ht : T j k = -1) : xou T v p q m m = none := by
  have e : xin T v p q j w (k + 1) = none := by rw [xin_step h2, if_pos hc, if_pos ht]
  have e2 := xin_none e (m - (k + 1))
  rw [show k + 1 + (m - (k + 1)) = m by omega] at e2
  have e3 : xou T v p q m (j + 1) = none := by rw [xou_step h1, e2]
  have e4 := xou_none e3 (m - (j + 1))
  rw [show j + 1 + (m - (j + 1)) = m by omega] at e4
  exact e4
set_option maxHeartbeats 4000000 in
theorem c_X5_isFull {l : Launch} {D : va_G} {cI : ClassId} {ad : Nat → Nat} {iv : IV} {ar : AR} {m : Nat} (hn : iv 7 = nI m) (hle : m ≤ 8) : Ct l D cI (cw cI ad) yX5_isFull cX5_isFull 1 (some .boolean) 0 0 [.ref (ad 5)] iv ar (rI (bI (8 ≤ m)) iv ar) := by
  refine Ct.of (lv := [some (.ref (ad 5))]) cw_ok (plainFor_of_name (by decide)) (Nat.le_of_ble_eq_true rfl) 0 rfl rfl (fun Z F => ?_)
  refine k_aload0 (pc := 0) F dX5_isFull_0 ?_
  refine g_X5_size (pc := 1) F (hn) dX5_isFull_1 ?_
  refine k_bipush (pc := 4) (v := nI 8) F dX5_isFull_4 (by decide) ?_
  refine k_icmp_ltN (pc := 6) (tgt := 13) F dX5_isFull_6 (by decide) (by omega) (by omega) (fun h6 => ?_) (fun h6 => ?_)
  · refine k_iconst (pc := 13) (v := nI 0) F dX5_isFull_13 (by decide) ?_
    refine k_zret (pc := 14) F dX5_isFull_14 (by decide) ?_
    exact ret0 (by omega)
  · refine k_iconst (pc := 9) (v := nI 1) F dX5_isFull_9 (by decide) ?_
    refine k_goto (pc := 10) (tgt := 14) F dX5_isFull_10 (by decide) ?_
    refine k_zret (pc := 14) F dX5_isFull_14 (by decide) ?_
    exact ret1 (by omega)

set_option maxHeartbeats 4000000 in
theorem c_X5_isListed {l : Launch} {D : va_G} {cI : ClassId} {ad : Nat → Nat} {iv : IV} {ar : AR} {m : Nat} {r : Int32} (hn : iv 7 = nI m) (hle : m ≤ 8) : Ct l D cI (cw cI ad) yX5_isListed cX5_isListed 3 (some .boolean) 0 0 [.ref (ad 5), .int r] iv ar (rI (bI (lsB (ar 12) r m = true)) iv ar) := by
  refine Ct.of (lv := [some (.ref (ad 5)), some (.int r), none]) cw_ok (plainFor_of_name (by decide)) (Nat.le_of_ble_eq_true rfl) 1 rfl rfl (fun Z F => ?_)
  refine k_iconst (pc := 0) (v := nI 0) F dX5_isListed_0 (by decide) ?_
  refine k_istore2 (pc := 1) F (by decide) dX5_isListed_1 ?_
  have L2 : ∀ (fu : Nat) (k : Nat), m - k < fu → k ≤ m → lsB (ar 12) r k = false → Z 2 [some (.ref (ad 5)), some (.int r), some (.int (nI k))] [] iv ar := by
    intro fu
    induction fu with
    | zero => intro k hfu; exact absurd hfu (Nat.not_lt_zero _)
    | succ fu ih =>
      intro k hfu hk hf
      refine k_iload2 (pc := 2) F dX5_isListed_2 ?_
      refine k_aload0 (pc := 3) F dX5_isListed_3 ?_
      refine g_X5_size (pc := 4) F (hn) dX5_isListed_4 ?_
      refine k_icmp_geN (pc := 7) (tgt := 28) F dX5_isListed_7 (by decide) (by omega) (by omega) (fun h7 => ?_) (fun h7 => ?_)
      · refine k_iconst (pc := 28) (v := nI 0) F dX5_isListed_28 (by decide) ?_
        refine k_zret (pc := 29) F dX5_isListed_29 (by decide) ?_
        have e : k = m := by omega
        subst e
        exact ret0 (by rw [hf]; decide)
      · refine k_aload0 (pc := 10) F dX5_isListed_10 ?_
        refine g_X5_recordings (pc := 11) F dX5_isListed_11 ?_
        refine k_iload2 (pc := 14) F dX5_isListed_14 ?_
        refine l_c12 (pc := 15) F (by omega) rfl dX5_isListed_15 ?_
        refine k_iload1 (pc := 16) F dX5_isListed_16 ?_
        refine k_icmp_ne (pc := 17) (tgt := 22) F dX5_isListed_17 (by decide) (fun h17 => ?_) (fun h17 => ?_)
        · refine k_iinc2 (pc := 22) F (by decide) dX5_isListed_22 (inc_N _) ?_
          refine k_goto (pc := 25) (tgt := 2) F dX5_isListed_25 (by decide) ?_
          exact ih (k + 1) (by omega) (by omega) (by rw [lsB, hf]; simp [h17])
        · refine k_iconst (pc := 20) (v := nI 1) F dX5_isListed_20 (by decide) ?_
          refine k_zret (pc := 21) F dX5_isListed_21 (by decide) ?_
          exact ret1 (lsB_t h17 m (by omega))
  exact L2 (m + 1) 0 (by omega) (by omega) rfl

set_option maxHeartbeats 4000000 in
theorem c_X5_add {l : Launch} {D : va_G} {cI : ClassId} {ad : Nat → Nat} {iv : IV} {ar : AR} {m : Nat} {x : Int32} (hn : iv 7 = nI m) (hle : m < 8) : Ct l D cI (cw cI ad) yX5_add cX5_add 2 none 0 0 [.ref (ad 5), .int x] iv ar (rV (va_up iv 7 (nI (m + 1))) (va_up ar 12 (upd (ar 12) m x))) := by
  refine Ct.of (lv := [some (.ref (ad 5)), some (.int x)]) cw_ok (plainFor_of_name (by decide)) (Nat.le_of_ble_eq_true rfl) 0 rfl rfl (fun Z F => ?_)
  refine k_aload0 (pc := 0) F dX5_add_0 ?_
  refine g_X5_recordings (pc := 1) F dX5_add_1 ?_
  refine k_aload0 (pc := 4) F dX5_add_4 ?_
  refine g_X5_size (pc := 5) F (hn) dX5_add_5 ?_
  refine k_iload1 (pc := 8) F dX5_add_8 ?_
  refine s_c12 (pc := 9) F (by omega) (rfl) dX5_add_9 ?_
  refine k_aload0 (pc := 10) F dX5_add_10 ?_
  refine k_dup (pc := 11) F dX5_add_11 rfl ?_
  refine g_X5_size (pc := 12) F (hn) dX5_add_12 ?_
  refine k_iconst (pc := 15) (v := nI 1) F dX5_add_15 (by decide) ?_
  refine k_iaddN (pc := 16) F dX5_add_16 ?_
  refine p_X5_size (pc := 17) F dX5_add_17 ?_
  refine k_vret (pc := 20) F dX5_add_20 ?_
  exact ⟨rfl, rfl, rfl⟩

set_option maxHeartbeats 4000000 in
theorem c_X5_empty {l : Launch} {D : va_G} {cI : ClassId} {ad : Nat → Nat} {iv : IV} {ar : AR} {m : Nat} (hn : iv 7 = nI m) : Ct l D cI (cw cI ad) yX5_empty cX5_empty 2 (some .int) 0 0 [.ref (ad 5)] iv ar (rI (nI m) (va_up iv 7 (nI 0)) ar) := by
  refine Ct.of (lv := [some (.ref (ad 5)), none]) cw_ok (plainFor_of_name (by decide)) (Nat.le_of_ble_eq_true rfl) 1 rfl rfl (fun Z F => ?_)
  refine k_aload0 (pc := 0) F dX5_empty_0 ?_
  refine g_X5_size (pc := 1) F (hn) dX5_empty_1 ?_
  refine k_istore1 (pc := 4) F (by decide) dX5_empty_4 ?_
  refine k_aload0 (pc := 5) F dX5_empty_5 ?_
  refine k_iconst (pc := 6) (v := nI 0) F dX5_empty_6 (by decide) ?_
  refine p_X5_size (pc := 7) F dX5_empty_7 ?_
  refine k_iload1 (pc := 10) F dX5_empty_10 ?_
  refine k_iret (pc := 11) F dX5_empty_11 ?_
  exact ⟨rfl, rfl, rfl⟩

set_option maxHeartbeats 4000000 in
theorem c_X5_readScores {l : Launch} {D : va_G} {cI : ClassId} {ad : Nat → Nat} {iv : IV} {ar : AR} {n : Nat} {c : Nat → Nat} {s t : Nat → Int32} (hA : Arch n c s t iv ar) (h5 : ∀ j, j < 24 → ar 5 j = shA c s t n j) {m : Nat} {g : Nat → Nat} (hG : SG n m g iv ar) : Ct l D cI (cw cI ad) yX5_readScores cX5_readScores 4 none 2 51 [.ref (ad 5)] iv ar (qV (fun iv2 ar2 => iv2 = iv ∧ (∀ q, q ≠ 13 → ar2 q = ar q) ∧ TBc m (Tg c s t n g) ar2)) := by
  refine Ct.of (lv := [some (.ref (ad 5)), none, none, none]) cw_ok (plainFor_of_name (by decide)) (Nat.le_of_ble_eq_true rfl) 3 rfl rfl (fun Z F => ?_)
  have hm := hG.2.1
  have hn := hA.le
  refine k_iconst (pc := 0) (v := nI 0) F dX5_readScores_0 (by decide) ?_
  refine k_istore1 (pc := 1) F (by decide) dX5_readScores_1 ?_
  have L2 : ∀ (fu : Nat) (k : Nat) (ar1 : AR), m - k < fu → k ≤ m → (∀ q, q ≠ 13 → ar1 q = ar q) → TBc k (Tg c s t n g) ar1 → Z 2 [some (.ref (ad 5)), some (.int (nI k)), none, none] [] iv ar1 := by
    intro fu
    induction fu with
    | zero => intro k ar1 hfu; exact absurd hfu (Nat.not_lt_zero _)
    | succ fu ih =>
      intro k ar1 hfu hk f1 t1
      refine k_iload1 (pc := 2) F dX5_readScores_2 ?_
      refine k_aload0 (pc := 3) F dX5_readScores_3 ?_
      refine g_X5_size (pc := 4) F (hG.1) dX5_readScores_4 ?_
      refine k_icmp_geN (pc := 7) (tgt := 73) F dX5_readScores_7 (by decide) (by omega) (by omega) (fun h7 => ?_) (fun h7 => ?_)
      · refine k_vret (pc := 73) F dX5_readScores_73 ?_
        have e : k = m := by omega
        subst e
        exact ⟨rfl, rfl, f1, t1⟩
      · refine k_iconst (pc := 10) (v := nI 0) F dX5_readScores_10 (by decide) ?_
        refine k_istore2 (pc := 11) F (by decide) dX5_readScores_11 ?_
        have L12 : ∀ (fu : Nat) (j : Nat) (ar2 : AR), k - j < fu → j ≤ k → (∀ q, q ≠ 13 → ar2 q = ar q) → TBc k (Tg c s t n g) ar2 → (∀ i, i < j → ar2 13 (i * 8 + k) = (Tg c s t n g) i k ∧ ar2 13 (k * 8 + i) = (Tg c s t n g) k i) → Z 12 [some (.ref (ad 5)), some (.int (nI k)), some (.int (nI j)), none] [] iv ar2 := by
          intro fu
          induction fu with
          | zero => intro j ar2 hfu; exact absurd hfu (Nat.not_lt_zero _)
          | succ fu ih2 =>
            intro j ar2 hfu hj f2 t2 t3
            have hA2 : Arch n c s t iv ar2 := hA.keep rfl (f2 0 (by decide)) (f2 1 (by decide)) (f2 2 (by decide))
            have h52 : ∀ j, j < 24 → ar2 5 j = shA c s t n j := by rw [f2 5 (by decide)]; exact h5
            have hG2 := hG.keep (ar2 := ar2) rfl (f2 12 (by decide))
            refine k_iload2 (pc := 12) F dX5_readScores_12 ?_
            refine k_iload1 (pc := 13) F dX5_readScores_13 ?_
            refine k_icmp_geN (pc := 14) (tgt := 67) F dX5_readScores_14 (by decide) (by omega) (by omega) (fun h14 => ?_) (fun h14 => ?_)
            · have e : k = j := by omega
              subst e
              refine k_iinc1 (pc := 67) F (by decide) dX5_readScores_67 (inc_N _) ?_
              refine k_goto (pc := 70) (tgt := 2) F dX5_readScores_70 (by decide) ?_
              refine k_fg2 (pc := 2) F ?_
              refine ih (k + 1) _ (by omega) (by omega) f2 (fun a b ha hb hab => ?_)
              by_cases q1 : a < k
              · by_cases q2 : b < k
                · exact t2 a b q1 q2 hab
                · have e : b = k := by omega
                  subst e; exact (t3 a q1).1
              · have e : a = k := by omega
                subst e; exact (t3 b (by omega)).2
            · refine k_aload0 (pc := 17) F dX5_readScores_17 ?_
              refine g_X5_scores (pc := 18) F dX5_readScores_18 ?_
              refine k_aload0 (pc := 21) F dX5_readScores_21 ?_
              refine g_X5_recordings (pc := 22) F dX5_readScores_22 ?_
              refine k_iload2 (pc := 25) F dX5_readScores_25 ?_
              refine l_c12 (pc := 26) F (by omega) ((hG2.2.2 j (by omega)).1) dX5_readScores_26 ?_
              refine k_aload0 (pc := 27) F dX5_readScores_27 ?_
              refine g_X5_recordings (pc := 28) F dX5_readScores_28 ?_
              refine k_iload1 (pc := 31) F dX5_readScores_31 ?_
              refine l_c12 (pc := 32) F (by omega) ((hG2.2.2 k (by omega)).1) dX5_readScores_32 ?_
              refine k_callV (pc := 33) (q0 := 3) F (ca_between hA2 h52 (a := g j) (b := g k) (hG2.2.2 j (by omega)).2 (hG2.2.2 k (by omega)).2) ok_X5_41 rfl rfl rfl rfl rfl (by decide) (by decide) (Nat.le_of_ble_eq_true rfl) dX5_readScores_33 (rI.use ?_)
              refine k_istore3 (pc := 36) F (by decide) dX5_readScores_36 ?_
              refine k_aload0 (pc := 37) F dX5_readScores_37 ?_
              refine g_X5_table (pc := 38) F dX5_readScores_38 ?_
              refine k_iload2 (pc := 41) F dX5_readScores_41 ?_
              refine k_bipush (pc := 42) (v := nI 8) F dX5_readScores_42 (by decide) ?_
              refine k_imulN (pc := 44) F dX5_readScores_44 ?_
              refine k_iload1 (pc := 45) F dX5_readScores_45 ?_
              refine k_iaddN (pc := 46) F dX5_readScores_46 ?_
              refine k_iload3 (pc := 47) F dX5_readScores_47 ?_
              refine s_c13 (pc := 48) F (by omega) (rfl) dX5_readScores_48 ?_
              refine k_aload0 (pc := 49) F dX5_readScores_49 ?_
              refine g_X5_table (pc := 50) F dX5_readScores_50 ?_
              refine k_iload1 (pc := 53) F dX5_readScores_53 ?_
              refine k_bipush (pc := 54) (v := nI 8) F dX5_readScores_54 (by decide) ?_
              refine k_imulN (pc := 56) F dX5_readScores_56 ?_
              refine k_iload2 (pc := 57) F dX5_readScores_57 ?_
              refine k_iaddN (pc := 58) F dX5_readScores_58 ?_
              refine k_iload3 (pc := 59) F dX5_readScores_59 ?_
              refine s_c13 (pc := 60) F (by omega) (up_s) dX5_readScores_60 ?_
              refine k_iinc2 (pc := 61) F (by decide) dX5_readScores_61 (inc_N _) ?_
              refine k_goto (pc := 64) (tgt := 12) F dX5_readScores_64 (by decide) ?_
              refine k_fg3 (pc := 12) F ?_
              refine ih2 (j + 1) _ (by omega) (by omega) (fun q hq => ?_) (fun a b ha hb hab => ?_) (fun i hi => ?_)
              · rw [up_n hq, up_n hq]; exact f2 q hq
              · rw [up_s, upd_ne (by omega), upd_ne (by omega)]; exact t2 a b ha hb hab
              · rw [up_s]
                by_cases e : i = j
                · subst e
                  refine ⟨?_, ?_⟩
                  · rw [upd_ne (by omega), upd_at]
                  · rw [upd_at]; exact SC_sym c s t n _ _
                · refine ⟨?_, ?_⟩
                  · rw [upd_ne (by omega), upd_ne (by omega)]; exact (t3 i (by omega)).1
                  · rw [upd_ne (by omega), upd_ne (by omega)]; exact (t3 i (by omega)).2
        exact L12 (k + 1) 0 ar1 (by omega) (by omega) f1 t1 (fun i hi => by omega)
  exact L2 (m + 1) 0 ar (by omega) (by omega) (fun _ _ => rfl) (fun a b ha => by omega)

set_option maxHeartbeats 4000000 in
theorem c_X5_isVoice {l : Launch} {D : va_G} {cI : ClassId} {ad : Nat → Nat} {iv : IV} {ar : AR} {v : Nat → Nat} {k : Nat} (hk : k < 8) (hv : ar 14 k = nI (v k)) (hv2 : v k < 8) : Ct l D cI (cw cI ad) yX5_isVoice cX5_isVoice 2 (some .boolean) 0 0 [.ref (ad 5), .int (nI k)] iv ar (rI (bI (v k = k)) iv ar) := by
  refine Ct.of (lv := [some (.ref (ad 5)), some (.int (nI k))]) cw_ok (plainFor_of_name (by decide)) (Nat.le_of_ble_eq_true rfl) 0 rfl rfl (fun Z F => ?_)
  refine k_aload0 (pc := 0) F dX5_isVoice_0 ?_
  refine g_X5_voiceOf (pc := 1) F dX5_isVoice_1 ?_
  refine k_iload1 (pc := 4) F dX5_isVoice_4 ?_
  refine l_c14 (pc := 5) F (by omega) (hv) dX5_isVoice_5 ?_
  refine k_iload1 (pc := 6) F dX5_isVoice_6 ?_
  refine k_icmp_neN (pc := 7) (tgt := 14) F dX5_isVoice_7 (by decide) (by omega) (by omega) (fun h7 => ?_) (fun h7 => ?_)
  · refine k_iconst (pc := 14) (v := nI 0) F dX5_isVoice_14 (by decide) ?_
    refine k_zret (pc := 15) F dX5_isVoice_15 (by decide) ?_
    exact ret0 (by first | exact h7 | omega)
  · refine k_iconst (pc := 10) (v := nI 1) F dX5_isVoice_10 (by decide) ?_
    refine k_goto (pc := 11) (tgt := 15) F dX5_isVoice_11 (by decide) ?_
    refine k_zret (pc := 15) F dX5_isVoice_15 (by decide) ?_
    exact ret1 (by first | exact h7 | omega)

set_option maxHeartbeats 4000000 in
theorem c_X5_measureCross {l : Launch} {D : va_G} {cI : ClassId} {ad : Nat → Nat} {iv : IV} {ar : AR} {m : Nat} {v : Nat → Nat} {T : Nat → Nat → Int32} (hn : iv 7 = nI m) (hm : m ≤ 8) (hT : okTb m T) (hB : TBc m T ar) (hV : VOc m v ar) (hO : okVo m v) {a b : Nat} (ha : a < m) (hb : b < m) (hab : a ≠ b) : Ct l D cI (cw cI ad) yX5_measureCross cX5_measureCross 6 (some .boolean) 0 0 [.ref (ad 5), .int (nI a), .int (nI b)] iv ar (qI (fun x iv2 ar2 => ar2 = ar ∧ (∀ q, q ≠ 8 → q ≠ 9 → iv2 q = iv q) ∧ (match xou T v a b m m with | none => x = nI 0 | some w => x = nI 1 ∧ iv2 8 = nI w.1 ∧ iv2 9 = nI w.2))) := by
  refine Ct.of (lv := [some (.ref (ad 5)), some (.int (nI a)), some (.int (nI b)), none, none, none]) cw_ok (plainFor_of_name (by decide)) (Nat.le_of_ble_eq_true rfl) 3 rfl rfl (fun Z F => ?_)
  refine k_aload0 (pc := 0) F dX5_measureCross_0 ?_
  refine k_iconst (pc := 1) (v := nI 0) F dX5_measureCross_1 (by decide) ?_
  refine p_X5_crossSum (pc := 2) F dX5_measureCross_2 ?_
  refine k_aload0 (pc := 5) F dX5_measureCross_5 ?_
  refine k_iconst (pc := 6) (v := nI 0) F dX5_measureCross_6 (by decide) ?_
  refine p_X5_crossPairs (pc := 7) F dX5_measureCross_7 ?_
  refine k_iconst (pc := 10) (v := nI 0) F dX5_measureCross_10 (by decide) ?_
  refine k_istore3 (pc := 11) F (by decide) dX5_measureCross_11 ?_
  have L12 : ∀ (fu : Nat) (j : Nat) (w : Nat × Nat) (iv1 : IV), m - j < fu → j ≤ m → (∀ q, q ≠ 8 → q ≠ 9 → iv1 q = iv q) → xou T v a b m j = some w → iv1 8 = nI w.1 → iv1 9 = nI w.2 → Z 12 [some (.ref (ad 5)), some (.int (nI a)), some (.int (nI b)), some (.int (nI j)), none, none] [] iv1 ar := by
    intro fu
    induction fu with
    | zero => intro j w iv1 hfu; exact absurd hfu (Nat.not_lt_zero _)
    | succ fu ih =>
      intro j w iv1 hfu hj f1 hx e8 e9
      refine k_iload3 (pc := 12) F dX5_measureCross_12 ?_
      refine k_aload0 (pc := 13) F dX5_measureCross_13 ?_
      refine g_X5_size (pc := 14) F ((f1 7 (by decide) (by decide)).trans hn) dX5_measureCross_14 ?_
      refine k_icmp_geN (pc := 17) (tgt := 108) F dX5_measureCross_17 (by decide) (by omega) (by omega) (fun h17 => ?_) (fun h17 => ?_)
      · refine k_iconst (pc := 108) (v := nI 1) F dX5_measureCross_108 (by decide) ?_
        refine k_zret (pc := 109) F dX5_measureCross_109 (by decide) ?_
        have e : j = m := by omega
        subst e
        refine ⟨_, rfl, rfl, f1, ?_⟩
        rw [hx]
        exact ⟨rfl, e8, e9⟩
      · refine k_iconst (pc := 20) (v := nI 0) F dX5_measureCross_20 (by decide) ?_
        refine k_istore4 (pc := 21) F (by decide) dX5_measureCross_21 ?_
        have L23 : ∀ (fu : Nat) (k : Nat) (u : Nat × Nat) (iv2 : IV), m - k < fu → k ≤ m → (∀ q, q ≠ 8 → q ≠ 9 → iv2 q = iv q) → xin T v a b j w k = some u → iv2 8 = nI u.1 → iv2 9 = nI u.2 → Z 23 [some (.ref (ad 5)), some (.int (nI a)), some (.int (nI b)), some (.int (nI j)), some (.int (nI k)), none] [] iv2 ar := by
          intro fu
          induction fu with
          | zero => intro k u iv2 hfu; exact absurd hfu (Nat.not_lt_zero _)
          | succ fu ih2 =>
            intro k u iv2 hfu hk f2 hy u8 u9
            refine k_iload4 (pc := 23) F dX5_measureCross_23 ?_
            refine k_aload0 (pc := 25) F dX5_measureCross_25 ?_
            refine g_X5_size (pc := 26) F ((f2 7 (by decide) (by decide)).trans hn) dX5_measureCross_26 ?_
            refine k_icmp_geN (pc := 29) (tgt := 102) F dX5_measureCross_29 (by decide) (by omega) (by omega) (fun h29 => ?_) (fun h29 => ?_)
            · have e : m = k := by omega
              subst e
              refine k_iinc3 (pc := 102) F (by decide) dX5_measureCross_102 (inc_N _) ?_
              refine k_goto (pc := 105) (tgt := 12) F dX5_measureCross_105 (by decide) ?_
              refine k_fg4 (pc := 12) F ?_
              exact ih (j + 1) u _ (by omega) (by omega) f2 (by rw [xou_step hx]; exact hy) u8 u9
            · have hvj := hO j (by omega)
              have hvk := hO k (by omega)
              refine k_aload0 (pc := 32) F dX5_measureCross_32 ?_
              refine g_X5_voiceOf (pc := 33) F dX5_measureCross_33 ?_
              refine k_iload3 (pc := 36) F dX5_measureCross_36 ?_
              refine l_c14 (pc := 37) F (by omega) (hV j (by omega)) dX5_measureCross_37 ?_
              refine k_iload1 (pc := 38) F dX5_measureCross_38 ?_
              refine k_icmp_neN (pc := 39) (tgt := 96) F dX5_measureCross_39 (by decide) (by omega) (by omega) (fun h39 => ?_) (fun h39 => ?_)
              · refine k_iinc4 (pc := 96) F (by decide) dX5_measureCross_96 (inc_N _) ?_
                refine k_goto (pc := 99) (tgt := 23) F dX5_measureCross_99 (by decide) ?_
                exact ih2 (k + 1) u iv2 (by omega) (by omega) f2 (by rw [xin_step hy, if_neg (fun q => by first | exact h39 q.1 | exact h50 q.2)]) u8 u9
              · refine k_aload0 (pc := 42) F dX5_measureCross_42 ?_
                refine g_X5_voiceOf (pc := 43) F dX5_measureCross_43 ?_
                refine k_iload4 (pc := 46) F dX5_measureCross_46 ?_
                refine l_c14 (pc := 48) F (by omega) (hV k (by omega)) dX5_measureCross_48 ?_
                refine k_iload2 (pc := 49) F dX5_measureCross_49 ?_
                refine k_icmp_neN (pc := 50) (tgt := 96) F dX5_measureCross_50 (by decide) (by omega) (by omega) (fun h50 => ?_) (fun h50 => ?_)
                · refine k_iinc4 (pc := 96) F (by decide) dX5_measureCross_96 (inc_N _) ?_
                  refine k_goto (pc := 99) (tgt := 23) F dX5_measureCross_99 (by decide) ?_
                  exact ih2 (k + 1) u iv2 (by omega) (by omega) f2 (by rw [xin_step hy, if_neg (fun q => by first | exact h39 q.1 | exact h50 q.2)]) u8 u9
                · refine k_aload0 (pc := 53) F dX5_measureCross_53 ?_
                  refine g_X5_table (pc := 54) F dX5_measureCross_54 ?_
                  refine k_iload3 (pc := 57) F dX5_measureCross_57 ?_
                  refine k_bipush (pc := 58) (v := nI 8) F dX5_measureCross_58 (by decide) ?_
                  refine k_imulN (pc := 60) F dX5_measureCross_60 ?_
                  refine k_iload4 (pc := 61) F dX5_measureCross_61 ?_
                  refine k_iaddN (pc := 63) F dX5_measureCross_63 ?_
                  refine l_c13 (pc := 64) F (by omega) (hB j k (by omega) (by omega) (fun q => hab (by rw [← h39, ← h50, q]))) dX5_measureCross_64 ?_
                  refine k_istore5 (pc := 65) F (by decide) dX5_measureCross_65 ?_
                  refine k_iload5 (pc := 67) F dX5_measureCross_67 ?_
                  refine k_iconst (pc := 69) (v := -1) F dX5_measureCross_69 (by decide) ?_
                  refine k_icmp_ne (pc := 70) (tgt := 75) F dX5_measureCross_70 (by decide) (fun h70 => ?_) (fun h70 => ?_)
                  · obtain ⟨x, hx1, ex⟩ := (hT j k (by omega) (by omega) (fun q => hab (by rw [← h39, ← h50, q]))).get h70
                    rw [ex]
                    refine k_aload0 (pc := 75) F dX5_measureCross_75 ?_
                    refine k_dup (pc := 76) F dX5_measureCross_76 rfl ?_
                    refine g_X5_crossSum (pc := 77) F (u8) dX5_measureCross_77 ?_
                    refine k_iload5 (pc := 80) F dX5_measureCross_80 ?_
                    refine k_iaddN (pc := 82) F dX5_measureCross_82 ?_
                    refine p_X5_crossSum (pc := 83) F dX5_measureCross_83 ?_
                    refine k_aload0 (pc := 86) F dX5_measureCross_86 ?_
                    refine k_dup (pc := 87) F dX5_measureCross_87 rfl ?_
                    refine g_X5_crossPairs (pc := 88) F ((up_n (by decide)).trans (u9)) dX5_measureCross_88 ?_
                    refine k_iconst (pc := 91) (v := nI 1) F dX5_measureCross_91 (by decide) ?_
                    refine k_iaddN (pc := 92) F dX5_measureCross_92 ?_
                    refine p_X5_crossPairs (pc := 93) F dX5_measureCross_93 ?_
                    refine k_iinc4 (pc := 96) F (by decide) dX5_measureCross_96 (inc_N _) ?_
                    refine k_goto (pc := 99) (tgt := 23) F dX5_measureCross_99 (by decide) ?_
                    refine k_fg5 (pc := 23) F ?_
                    refine ih2 (k + 1) (u.1 + x, u.2 + 1) _ (by omega) (by omega) (fun q q8 q9 => ?_) (by rw [xin_step hy, if_pos ⟨h39, h50⟩, if_neg h70, ex, nI_clamp (by omega)]) ?_ ?_
                    · rw [up_n q9, up_n q8]; exact f2 q q8 q9
                    · rw [up_n (by decide), up_s]
                    · exact up_s
                  · refine k_iconst (pc := 73) (v := nI 0) F dX5_measureCross_73 (by decide) ?_
                    refine k_zret (pc := 74) F dX5_measureCross_74 (by decide) ?_
                    refine ⟨_, rfl, rfl, f2, ?_⟩
                    rw [xou_miss (by omega) (by omega) hx hy ⟨h39, h50⟩ h70]
        exact L23 (m + 1) 0 w iv1 (by omega) (by omega) f1 rfl e8 e9
  refine L12 (m + 1) 0 (0, 0) _ (by omega) (by omega) (fun q q8 q9 => ?_) rfl ?_ ?_
  · rw [up_n q9, up_n q8]
  · rw [up_n (by decide), up_s]
  · exact up_s

set_option maxHeartbeats 4000000 in
theorem c_X5_putTogether {l : Launch} {D : va_G} {cI : ClassId} {ad : Nat → Nat} {iv : IV} {ar : AR} {m : Nat} {v : Nat → Nat} (hn : iv 7 = nI m) (hm : m ≤ 8) (hV : VOc m v ar) (hO : okVo m v) {a b : Nat} (ha : a < m) (hb : b < m) : Ct l D cI (cw cI ad) yX5_putTogether cX5_putTogether 4 none 0 0 [.ref (ad 5), .int (nI a), .int (nI b)] iv ar (qV (fun iv2 ar2 => iv2 = iv ∧ (∀ q, q ≠ 14 → ar2 q = ar q) ∧ VOc m (jmp v a b) ar2)) := by
  refine Ct.of (lv := [some (.ref (ad 5)), some (.int (nI a)), some (.int (nI b)), none]) cw_ok (plainFor_of_name (by decide)) (Nat.le_of_ble_eq_true rfl) 1 rfl rfl (fun Z F => ?_)
  refine k_iconst (pc := 0) (v := nI 0) F dX5_putTogether_0 (by decide) ?_
  refine k_istore3 (pc := 1) F (by decide) dX5_putTogether_1 ?_
  have L2 : ∀ (fu : Nat) (k : Nat) (ar1 : AR), m - k < fu → k ≤ m → (∀ q, q ≠ 14 → ar1 q = ar q) → (∀ i, i < m → ar1 14 i = if i < k then nI (jmp v a b i) else nI (v i)) → Z 2 [some (.ref (ad 5)), some (.int (nI a)), some (.int (nI b)), some (.int (nI k))] [] iv ar1 := by
    intro fu
    induction fu with
    | zero => intro k ar1 hfu; exact absurd hfu (Nat.not_lt_zero _)
    | succ fu ih =>
      intro k ar1 hfu hk f1 hj
      refine k_iload3 (pc := 2) F dX5_putTogether_2 ?_
      refine k_aload0 (pc := 3) F dX5_putTogether_3 ?_
      refine g_X5_size (pc := 4) F (hn) dX5_putTogether_4 ?_
      refine k_icmp_geN (pc := 7) (tgt := 33) F dX5_putTogether_7 (by decide) (by omega) (by omega) (fun h7 => ?_) (fun h7 => ?_)
      · refine k_vret (pc := 33) F dX5_putTogether_33 ?_
        have e : k = m := by omega
        subst e
        exact ⟨rfl, rfl, f1, fun i hi => by rw [hj i hi, if_pos hi]⟩
      · have hvk := hO k (by omega)
        refine k_aload0 (pc := 10) F dX5_putTogether_10 ?_
        refine g_X5_voiceOf (pc := 11) F dX5_putTogether_11 ?_
        refine k_iload3 (pc := 14) F dX5_putTogether_14 ?_
        refine l_c14 (pc := 15) F (by omega) (show ar1 14 k = nI (v k) from by rw [hj k (by omega), if_neg (by omega)]) dX5_putTogether_15 ?_
        refine k_iload2 (pc := 16) F dX5_putTogether_16 ?_
        refine k_icmp_neN (pc := 17) (tgt := 27) F dX5_putTogether_17 (by decide) (by omega) (by omega) (fun h17 => ?_) (fun h17 => ?_)
        · refine k_iinc3 (pc := 27) F (by decide) dX5_putTogether_27 (inc_N _) ?_
          refine k_goto (pc := 30) (tgt := 2) F dX5_putTogether_30 (by decide) ?_
          refine ih (k + 1) ar1 (by omega) (by omega) f1 (fun i hi => ?_)
          rw [hj i hi]
          by_cases z : i < k
          · rw [if_pos z, if_pos (by omega)]
          · rw [if_neg z]
            by_cases e : i = k
            · subst e; rw [if_pos (by omega), jmp, if_neg h17]
            · rw [if_neg (by omega)]
        · refine k_aload0 (pc := 20) F dX5_putTogether_20 ?_
          refine g_X5_voiceOf (pc := 21) F dX5_putTogether_21 ?_
          refine k_iload3 (pc := 24) F dX5_putTogether_24 ?_
          refine k_iload1 (pc := 25) F dX5_putTogether_25 ?_
          refine s_c14 (pc := 26) F (by omega) (rfl) dX5_putTogether_26 ?_
          refine k_iinc3 (pc := 27) F (by decide) dX5_putTogether_27 (inc_N _) ?_
          refine k_goto (pc := 30) (tgt := 2) F dX5_putTogether_30 (by decide) ?_
          refine ih (k + 1) _ (by omega) (by omega) (fun q hq => ?_) (fun i hi => ?_)
          · rw [up_n hq]; exact f1 q hq
          · rw [up_s]
            by_cases e : i = k
            · subst e
              rw [upd_at, if_pos (by omega), jmp, if_pos h17]
            · rw [upd_ne e, hj i hi]
              by_cases z : i < k
              · rw [if_pos z, if_pos (by omega)]
              · rw [if_neg z, if_neg (by omega)]
  exact L2 (m + 1) 0 ar (by omega) (by omega) (fun _ _ => rfl) (fun i hi => by rw [if_neg (by omega)]; exact hV i hi)

set_option maxHeartbeats 4000000 in
theorem c_X5_countVoices {l : Launch} {D : va_G} {cI : ClassId} {ad : Nat → Nat} {iv : IV} {ar : AR} {m : Nat} {v : Nat → Nat} (hn : iv 7 = nI m) (hm : m ≤ 8) (hV : VOc m v ar) (hO : okVo m v) : Ct l D cI (cw cI ad) yX5_countVoices cX5_countVoices 3 (some .int) 1 21 [.ref (ad 5)] iv ar (rI (nI (cvN v m)) iv ar) := by
  refine Ct.of (lv := [some (.ref (ad 5)), none, none]) cw_ok (plainFor_of_name (by decide)) (Nat.le_of_ble_eq_true rfl) 2 rfl rfl (fun Z F => ?_)
  refine k_iconst (pc := 0) (v := nI 0) F dX5_countVoices_0 (by decide) ?_
  refine k_istore1 (pc := 1) F (by decide) dX5_countVoices_1 ?_
  refine k_iconst (pc := 2) (v := nI 0) F dX5_countVoices_2 (by decide) ?_
  refine k_istore2 (pc := 3) F (by decide) dX5_countVoices_3 ?_
  have L4 : ∀ (fu : Nat) (k : Nat), m - k < fu → k ≤ m → Z 4 [some (.ref (ad 5)), some (.int (nI (cvN v k))), some (.int (nI k))] [] iv ar := by
    intro fu
    induction fu with
    | zero => intro k hfu; exact absurd hfu (Nat.not_lt_zero _)
    | succ fu ih =>
      intro k hfu hk
      refine k_iload2 (pc := 4) F dX5_countVoices_4 ?_
      refine k_aload0 (pc := 5) F dX5_countVoices_5 ?_
      refine g_X5_size (pc := 6) F (hn) dX5_countVoices_6 ?_
      refine k_icmp_geN (pc := 9) (tgt := 29) F dX5_countVoices_9 (by decide) (by omega) (by omega) (fun h9 => ?_) (fun h9 => ?_)
      · have e : m = k := by omega
        subst e
        refine k_iload1 (pc := 29) F dX5_countVoices_29 ?_
        refine k_iret (pc := 30) F dX5_countVoices_30 ?_
        exact ⟨rfl, rfl, rfl⟩
      · refine k_aload0 (pc := 12) F dX5_countVoices_12 ?_
        refine k_iload2 (pc := 13) F dX5_countVoices_13 ?_
        refine k_callV (pc := 14) (q0 := 5) F (c_X5_isVoice (k := k) (by omega) (hV k (by omega)) (by have := hO k (by omega); omega)) ok_X5_54 rfl rfl rfl rfl rfl (by decide) (by decide) (Nat.le_of_ble_eq_true rfl) dX5_countVoices_14 (rI.use ?_)
        refine k_if_eqB (pc := 17) (tgt := 23) F dX5_countVoices_17 (by decide) (fun h17 => ?_) (fun h17 => ?_)
        · refine k_iinc2 (pc := 23) F (by decide) dX5_countVoices_23 (inc_N _) ?_
          refine k_goto (pc := 26) (tgt := 4) F dX5_countVoices_26 (by decide) ?_
          have e : cvN v (k + 1) = cvN v k := if_neg h17
          have kk := ih (k + 1) (by omega) (by omega)
          rw [e] at kk
          exact kk
        · refine k_iinc1 (pc := 20) F (by decide) dX5_countVoices_20 (inc_N _) ?_
          refine k_iinc2 (pc := 23) F (by decide) dX5_countVoices_23 (inc_N _) ?_
          refine k_goto (pc := 26) (tgt := 4) F dX5_countVoices_26 (by decide) ?_
          have e : cvN v (k + 1) = cvN v k + 1 := if_pos h17
          have kk := ih (k + 1) (by omega) (by omega)
          rw [e] at kk
          exact kk
  exact L4 (m + 1) 0 (by omega) (by omega)

set_option maxHeartbeats 4000000 in
theorem c_X5_joinNearestTwo {l : Launch} {D : va_G} {cI : ClassId} {ad : Nat → Nat} {iv : IV} {ar : AR} {m : Nat} {v : Nat → Nat} {T : Nat → Nat → Int32} (hn : iv 7 = nI m) (hm : m ≤ 8) (hT : okTb m T) (hB : TBc m T ar) (hV : VOc m v ar) (hO : okVo m v) {lim : Nat} (hl : lim ≤ 200) : Ct l D cI (cw cI ad) yX5_joinNearestTwo cX5_joinNearestTwo 9 (some .boolean) 1 25 [.ref (ad 5), .int (nI lim)] iv ar (qI (fun x iv2 ar2 => (∀ q, q ≠ 8 → q ≠ 9 → iv2 q = iv q) ∧ (∀ q, q ≠ 14 → ar2 q = ar q) ∧ (match jou T v m lim m with | none => x = nI 0 ∧ ar2 = ar | some y => x = nI 1 ∧ VOc m (jmp v y.1 y.2.1) ar2))) := by
  refine Ct.of (lv := [some (.ref (ad 5)), some (.int (nI lim)), none, none, none, none, none, none, none]) cw_ok (plainFor_of_name (by decide)) (Nat.le_of_ble_eq_true rfl) 7 rfl rfl (fun Z F => ?_)
  refine k_iconst (pc := 0) (v := -1) F dX5_joinNearestTwo_0 (by decide) ?_
  refine k_istore2 (pc := 1) F (by decide) dX5_joinNearestTwo_1 ?_
  refine k_iconst (pc := 2) (v := -1) F dX5_joinNearestTwo_2 (by decide) ?_
  refine k_istore3 (pc := 3) F (by decide) dX5_joinNearestTwo_3 ?_
  refine k_iconst (pc := 4) (v := nI 0) F dX5_joinNearestTwo_4 (by decide) ?_
  refine k_istore4 (pc := 5) F (by decide) dX5_joinNearestTwo_5 ?_
  refine k_iconst (pc := 7) (v := nI 0) F dX5_joinNearestTwo_7 (by decide) ?_
  refine k_istore5 (pc := 8) F (by decide) dX5_joinNearestTwo_8 ?_
  refine k_iconst (pc := 10) (v := nI 0) F dX5_joinNearestTwo_10 (by decide) ?_
  refine k_istore6 (pc := 11) F (by decide) dX5_joinNearestTwo_11 ?_
  have L13 : ∀ (fu : Nat) (a : Nat) (iv1 : IV), m - a < fu → a ≤ m → (∀ q, q ≠ 8 → q ≠ 9 → iv1 q = iv q) → Z 13 [some (.ref (ad 5)), some (.int (nI lim)), some (.int (l2 (jou T v m lim a))), some (.int (l3 (-1) (jou T v m lim a))), some (.int (l4 (jou T v m lim a))), some (.int (l5 (nI 0) (jou T v m lim a))), some (.int (nI a)), none, none] [] iv1 ar := by
    intro fu
    induction fu with
    | zero => intro a iv1 hfu; exact absurd hfu (Nat.not_lt_zero _)
    | succ fu ih =>
      intro a iv1 hfu ha f1
      refine k_iload6 (pc := 13) F dX5_joinNearestTwo_13 ?_
      refine k_aload0 (pc := 15) F dX5_joinNearestTwo_15 ?_
      refine g_X5_size (pc := 16) F ((f1 7 (by decide) (by decide)).trans hn) dX5_joinNearestTwo_16 ?_
      refine k_icmp_geN (pc := 19) (tgt := 154) F dX5_joinNearestTwo_19 (by decide) (by omega) (by omega) (fun h19 => ?_) (fun h19 => ?_)
      · have e : a = m := by omega
        subst e
        have hzz := jou_ok hT hm a (Nat.le_refl a) (lim := lim) (v := v)
        refine k_iload2 (pc := 154) F dX5_joinNearestTwo_154 ?_
        refine k_iconst (pc := 155) (v := -1) F dX5_joinNearestTwo_155 (by decide) ?_
        refine k_icmp_ne (pc := 156) (tgt := 161) F dX5_joinNearestTwo_156 (by decide) (fun h156 => ?_) (fun h156 => ?_)
        · obtain ⟨y, hz⟩ := l2_s h156
          have hyB := hzz y hz
          rw [hz]
          show Z _ [_, _, some (.int (nI y.1)), some (.int (nI y.2.1)), _, _, _, _, _] _ _ _
          refine k_aload0 (pc := 161) F dX5_joinNearestTwo_161 ?_
          refine k_iload2 (pc := 162) F dX5_joinNearestTwo_162 ?_
          refine k_iload3 (pc := 163) F dX5_joinNearestTwo_163 ?_
          refine k_callV (pc := 164) (q0 := 5) F (c_X5_putTogether ((f1 7 (by decide) (by decide)).trans hn) hm hV hO (a := y.1) (b := y.2.1) (by omega) (by omega)) ok_X5_61 rfl rfl rfl rfl rfl (by decide) (by decide) (Nat.le_of_ble_eq_true rfl) dX5_joinNearestTwo_164 (qV.use (fun iv4 ar4 h4 => ?_))
          obtain ⟨e4, g4, h4v⟩ := h4
          subst iv4
          refine k_iconst (pc := 167) (v := nI 1) F dX5_joinNearestTwo_167 (by decide) ?_
          refine k_zret (pc := 168) F dX5_joinNearestTwo_168 (by decide) ?_
          refine ⟨_, rfl, f1, g4, ?_⟩
          rw [hz]
          exact ⟨rfl, h4v⟩
        · refine k_iconst (pc := 159) (v := nI 0) F dX5_joinNearestTwo_159 (by decide) ?_
          refine k_zret (pc := 160) F dX5_joinNearestTwo_160 (by decide) ?_
          have hz := l2_n hzz hm h156
          refine ⟨_, rfl, f1, fun _ _ => rfl, ?_⟩
          rw [hz]
          exact ⟨rfl, rfl⟩
      · refine k_iload6 (pc := 22) F dX5_joinNearestTwo_22 ?_
        refine k_iconst (pc := 24) (v := nI 1) F dX5_joinNearestTwo_24 (by decide) ?_
        refine k_iaddN (pc := 25) F dX5_joinNearestTwo_25 ?_
        refine k_istore7 (pc := 26) F (by decide) dX5_joinNearestTwo_26 ?_
        have L28 : ∀ (fu : Nat) (i : Nat) (iv2 : IV), m - (a + 1) - i < fu → a + 1 + i ≤ m → (∀ q, q ≠ 8 → q ≠ 9 → iv2 q = iv q) → Z 28 [some (.ref (ad 5)), some (.int (nI lim)), some (.int (l2 (jin T v m lim a (jou T v m lim a) i))), some (.int (l3 (-1) (jin T v m lim a (jou T v m lim a) i))), some (.int (l4 (jin T v m lim a (jou T v m lim a) i))), some (.int (l5 (nI 0) (jin T v m lim a (jou T v m lim a) i))), some (.int (nI a)), some (.int (nI (a + 1 + i))), none] [] iv2 ar := by
          intro fu
          induction fu with
          | zero => intro i iv2 hfu; exact absurd hfu (Nat.not_lt_zero _)
          | succ fu ih2 =>
            intro i iv2 hfu hi f2
            refine k_iload7 (pc := 28) F dX5_joinNearestTwo_28 ?_
            refine k_aload0 (pc := 30) F dX5_joinNearestTwo_30 ?_
            refine g_X5_size (pc := 31) F ((f2 7 (by decide) (by decide)).trans hn) dX5_joinNearestTwo_31 ?_
            refine k_icmp_geN (pc := 34) (tgt := 148) F dX5_joinNearestTwo_34 (by decide) (by omega) (by omega) (fun h34 => ?_) (fun h34 => ?_)
            · have e : i = m - (a + 1) := by omega
              subst e
              refine k_iinc6 (pc := 148) F (by decide) dX5_joinNearestTwo_148 (inc_N _) ?_
              refine k_goto (pc := 151) (tgt := 13) F dX5_joinNearestTwo_151 (by decide) ?_
              refine k_fg7 (pc := 13) F ?_
              have kk := ih (a + 1) _ (by omega) (by omega) f2
              rw [show jou T v m lim (a + 1) = jin T v m lim a (jou T v m lim a) (m - (a + 1)) from rfl] at kk
              exact kk
            · have hva := hO a (by omega)
              have hvb := hO (a + 1 + i) (by omega)
              have hz0 : okQ v m lim (jin T v m lim a (jou T v m lim a) i) := jin_ok hT hm (jou_ok hT hm a (by omega)) i (by omega)
              refine k_aload0 (pc := 37) F dX5_joinNearestTwo_37 ?_
              refine k_iload6 (pc := 38) F dX5_joinNearestTwo_38 ?_
              refine k_callV (pc := 40) (q0 := 5) F (c_X5_isVoice (k := a) (by omega) (hV a (by omega)) (by omega)) ok_X5_54 rfl rfl rfl rfl rfl (by decide) (by decide) (Nat.le_of_ble_eq_true rfl) dX5_joinNearestTwo_40 (rI.use ?_)
              refine k_if_eqB (pc := 43) (tgt := 142) F dX5_joinNearestTwo_43 (by decide) (fun h43 => ?_) (fun h43 => ?_)
              · refine k_iinc7 (pc := 142) F (by decide) dX5_joinNearestTwo_142 (inc_N _) ?_
                refine k_goto (pc := 145) (tgt := 28) F dX5_joinNearestTwo_145 (by decide) ?_
                have kk := ih2 (i + 1) _ (by omega) (by omega) f2
                rw [show jin T v m lim a (jou T v m lim a) (i + 1) = jst T v m lim a (a + 1 + i) (jin T v m lim a (jou T v m lim a) i) from rfl] at kk
                first
                | (rw [jst_no (fun q => h43 q.1)] at kk; exact kk)
                | (rw [jst_no (fun q => h52 q.2)] at kk; exact kk)
                | (rw [jst_x ⟨h43, h52⟩ hx] at kk; exact kk)
                | (rw [hz, jst_n0 ⟨h43, h52⟩ hx (by omega)] at kk; rw [hz]; exact kk)
                | (rw [hz, jst_s0 ⟨h43, h52⟩ hx (by omega)] at kk; exact kk)
              · refine k_aload0 (pc := 46) F dX5_joinNearestTwo_46 ?_
                refine k_iload7 (pc := 47) F dX5_joinNearestTwo_47 ?_
                refine k_callV (pc := 49) (q0 := 5) F (c_X5_isVoice (k := a + 1 + i) (by omega) (hV (a + 1 + i) (by omega)) (by omega)) ok_X5_54 rfl rfl rfl rfl rfl (by decide) (by decide) (Nat.le_of_ble_eq_true rfl) dX5_joinNearestTwo_49 (rI.use ?_)
                refine k_if_eqB (pc := 52) (tgt := 142) F dX5_joinNearestTwo_52 (by decide) (fun h52 => ?_) (fun h52 => ?_)
                · refine k_iinc7 (pc := 142) F (by decide) dX5_joinNearestTwo_142 (inc_N _) ?_
                  refine k_goto (pc := 145) (tgt := 28) F dX5_joinNearestTwo_145 (by decide) ?_
                  have kk := ih2 (i + 1) _ (by omega) (by omega) f2
                  rw [show jin T v m lim a (jou T v m lim a) (i + 1) = jst T v m lim a (a + 1 + i) (jin T v m lim a (jou T v m lim a) i) from rfl] at kk
                  first
                  | (rw [jst_no (fun q => h43 q.1)] at kk; exact kk)
                  | (rw [jst_no (fun q => h52 q.2)] at kk; exact kk)
                  | (rw [jst_x ⟨h43, h52⟩ hx] at kk; exact kk)
                  | (rw [hz, jst_n0 ⟨h43, h52⟩ hx (by omega)] at kk; rw [hz]; exact kk)
                  | (rw [hz, jst_s0 ⟨h43, h52⟩ hx (by omega)] at kk; exact kk)
                · refine k_aload0 (pc := 55) F dX5_joinNearestTwo_55 ?_
                  refine k_iload6 (pc := 56) F dX5_joinNearestTwo_56 ?_
                  refine k_iload7 (pc := 58) F dX5_joinNearestTwo_58 ?_
                  refine k_callV (pc := 60) (q0 := 5) F (c_X5_measureCross ((f2 7 (by decide) (by decide)).trans hn) hm hT hB hV hO (a := a) (b := a + 1 + i) (by omega) (by omega) (by omega)) ok_X5_57 rfl rfl rfl rfl rfl (by decide) (by decide) (Nat.le_of_ble_eq_true rfl) dX5_joinNearestTwo_60 (qI.use (fun x3 iv3 ar3 h3 => ?_))
                  obtain ⟨e3, f3a, hx3⟩ := h3
                  subst ar3
                  have f3 : ∀ q, q ≠ 8 → q ≠ 9 → iv3 q = iv q := fun q q8 q9 => (f3a q q8 q9).trans (f2 q q8 q9)
                  refine k_if_ne (pc := 63) (tgt := 69) F dX5_joinNearestTwo_63 (by decide) (fun h63 => ?_) (fun h63 => ?_)
                  · obtain ⟨w, hx, hw8, hw9⟩ : ∃ w, xou T v a (a + 1 + i) m m = some w ∧ iv3 8 = nI w.1 ∧ iv3 9 = nI w.2 := by
                      cases hq : xou T v a (a + 1 + i) m m with
                      | none => rw [hq] at hx3; exact absurd hx3 h63
                      | some w => rw [hq] at hx3; exact ⟨w, rfl, hx3.2⟩
                    have hwB := xou_B hT (by omega) hm m (Nat.le_refl m) hx
                    have hq1 : lim * w.2 ≤ 200 * 64 := Nat.mul_le_mul hl (by omega)
                    refine k_iload2 (pc := 69) F dX5_joinNearestTwo_69 ?_
                    refine k_iconst (pc := 70) (v := -1) F dX5_joinNearestTwo_70 (by decide) ?_
                    refine k_icmp_ne (pc := 71) (tgt := 95) F dX5_joinNearestTwo_71 (by decide) (fun h71 => ?_) (fun h71 => ?_)
                    · obtain ⟨y, hz⟩ := l2_s h71
                      have hyB := hz0 y hz
                      have hq2 : w.1 * y.2.2.2 ≤ 114048 * 64 := Nat.mul_le_mul (by omega) (by omega)
                      have hq3 : y.2.2.1 * w.2 ≤ 114048 * 64 := Nat.mul_le_mul (by omega) (by omega)
                      rw [hz]
                      show Z _ [_, _, some (.int (nI y.1)), some (.int (nI y.2.1)), some (.int (nI y.2.2.1)), some (.int (nI y.2.2.2)), _, _, _] _ _ _
                      refine k_aload0 (pc := 95) F dX5_joinNearestTwo_95 ?_
                      refine g_X5_crossSum (pc := 96) F (hw8) dX5_joinNearestTwo_96 ?_
                      refine k_iload5 (pc := 99) F dX5_joinNearestTwo_99 ?_
                      refine k_imulN (pc := 101) F dX5_joinNearestTwo_101 ?_
                      refine k_iload4 (pc := 102) F dX5_joinNearestTwo_102 ?_
                      refine k_aload0 (pc := 104) F dX5_joinNearestTwo_104 ?_
                      refine g_X5_crossPairs (pc := 105) F (hw9) dX5_joinNearestTwo_105 ?_
                      refine k_imulN (pc := 108) F dX5_joinNearestTwo_108 ?_
                      refine k_icmp_geN (pc := 109) (tgt := 116) F dX5_joinNearestTwo_109 (by decide) (by omega) (by omega) (fun h109 => ?_) (fun h109 => ?_)
                      · refine k_iconst (pc := 116) (v := nI 0) F dX5_joinNearestTwo_116 (by decide) ?_
                        refine k_istore8 (pc := 117) F (by decide) dX5_joinNearestTwo_117 ?_
                        refine k_iload8 (pc := 119) F dX5_joinNearestTwo_119 ?_
                        refine k_if_eq (pc := 121) (tgt := 142) F dX5_joinNearestTwo_121 (by decide) (fun _ => ?_) (fun h => absurd h (by decide))
                        refine k_iinc7 (pc := 142) F (by decide) dX5_joinNearestTwo_142 (inc_N _) ?_
                        refine k_goto (pc := 145) (tgt := 28) F dX5_joinNearestTwo_145 (by decide) ?_
                        refine k_fg8 (pc := 28) F ?_
                        have kk := ih2 (i + 1) _ (by omega) (by omega) f3
                        rw [show jin T v m lim a (jou T v m lim a) (i + 1) = jst T v m lim a (a + 1 + i) (jin T v m lim a (jou T v m lim a) i) from rfl] at kk
                        first
                        | (rw [jst_no (fun q => h43 q.1)] at kk; exact kk)
                        | (rw [jst_no (fun q => h52 q.2)] at kk; exact kk)
                        | (rw [jst_x ⟨h43, h52⟩ hx] at kk; exact kk)
                        | (rw [hz, jst_n0 ⟨h43, h52⟩ hx (by omega)] at kk; rw [hz]; exact kk)
                        | (rw [hz, jst_s0 ⟨h43, h52⟩ hx (by omega)] at kk; exact kk)
                      · refine k_iconst (pc := 112) (v := nI 1) F dX5_joinNearestTwo_112 (by decide) ?_
                        refine k_goto (pc := 113) (tgt := 117) F dX5_joinNearestTwo_113 (by decide) ?_
                        refine k_istore8 (pc := 117) F (by decide) dX5_joinNearestTwo_117 ?_
                        refine k_iload8 (pc := 119) F dX5_joinNearestTwo_119 ?_
                        refine k_if_eq (pc := 121) (tgt := 142) F dX5_joinNearestTwo_121 (by decide) (fun h => absurd h (by decide)) (fun _ => ?_)
                        refine k_iload6 (pc := 124) F dX5_joinNearestTwo_124 ?_
                        refine k_istore2 (pc := 126) F (by decide) dX5_joinNearestTwo_126 ?_
                        refine k_iload7 (pc := 127) F dX5_joinNearestTwo_127 ?_
                        refine k_istore3 (pc := 129) F (by decide) dX5_joinNearestTwo_129 ?_
                        refine k_aload0 (pc := 130) F dX5_joinNearestTwo_130 ?_
                        refine g_X5_crossSum (pc := 131) F (hw8) dX5_joinNearestTwo_131 ?_
                        refine k_istore4 (pc := 134) F (by decide) dX5_joinNearestTwo_134 ?_
                        refine k_aload0 (pc := 136) F dX5_joinNearestTwo_136 ?_
                        refine g_X5_crossPairs (pc := 137) F (hw9) dX5_joinNearestTwo_137 ?_
                        refine k_istore5 (pc := 140) F (by decide) dX5_joinNearestTwo_140 ?_
                        refine k_iinc7 (pc := 142) F (by decide) dX5_joinNearestTwo_142 (inc_N _) ?_
                        refine k_goto (pc := 145) (tgt := 28) F dX5_joinNearestTwo_145 (by decide) ?_
                        refine k_fg8 (pc := 28) F ?_
                        have kk := ih2 (i + 1) _ (by omega) (by omega) f3
                        rw [show jin T v m lim a (jou T v m lim a) (i + 1) = jst T v m lim a (a + 1 + i) (jin T v m lim a (jou T v m lim a) i) from rfl] at kk
                        first
                        | (rw [hz, jst_n1 ⟨h43, h52⟩ hx (by omega)] at kk; exact kk)
                        | (rw [hz, jst_s1 ⟨h43, h52⟩ hx (by omega)] at kk; exact kk)
                    · have hz : (jin T v m lim a (jou T v m lim a) i) = none := l2_n hz0 hm h71
                      refine k_aload0 (pc := 74) F dX5_joinNearestTwo_74 ?_
                      refine g_X5_crossSum (pc := 75) F (hw8) dX5_joinNearestTwo_75 ?_
                      refine k_iload1 (pc := 78) F dX5_joinNearestTwo_78 ?_
                      refine k_aload0 (pc := 79) F dX5_joinNearestTwo_79 ?_
                      refine g_X5_crossPairs (pc := 80) F (hw9) dX5_joinNearestTwo_80 ?_
                      refine k_imulN (pc := 83) F dX5_joinNearestTwo_83 ?_
                      refine k_icmp_gtN (pc := 84) (tgt := 91) F dX5_joinNearestTwo_84 (by decide) (by omega) (by omega) (fun h84 => ?_) (fun h84 => ?_)
                      · refine k_iconst (pc := 91) (v := nI 0) F dX5_joinNearestTwo_91 (by decide) ?_
                        refine k_goto (pc := 92) (tgt := 117) F dX5_joinNearestTwo_92 (by decide) ?_
                        refine k_istore8 (pc := 117) F (by decide) dX5_joinNearestTwo_117 ?_
                        refine k_iload8 (pc := 119) F dX5_joinNearestTwo_119 ?_
                        refine k_if_eq (pc := 121) (tgt := 142) F dX5_joinNearestTwo_121 (by decide) (fun _ => ?_) (fun h => absurd h (by decide))
                        refine k_iinc7 (pc := 142) F (by decide) dX5_joinNearestTwo_142 (inc_N _) ?_
                        refine k_goto (pc := 145) (tgt := 28) F dX5_joinNearestTwo_145 (by decide) ?_
                        refine k_fg8 (pc := 28) F ?_
                        have kk := ih2 (i + 1) _ (by omega) (by omega) f3
                        rw [show jin T v m lim a (jou T v m lim a) (i + 1) = jst T v m lim a (a + 1 + i) (jin T v m lim a (jou T v m lim a) i) from rfl] at kk
                        first
                        | (rw [jst_no (fun q => h43 q.1)] at kk; exact kk)
                        | (rw [jst_no (fun q => h52 q.2)] at kk; exact kk)
                        | (rw [jst_x ⟨h43, h52⟩ hx] at kk; exact kk)
                        | (rw [hz, jst_n0 ⟨h43, h52⟩ hx (by omega)] at kk; rw [hz]; exact kk)
                        | (rw [hz, jst_s0 ⟨h43, h52⟩ hx (by omega)] at kk; exact kk)
                      · refine k_iconst (pc := 87) (v := nI 1) F dX5_joinNearestTwo_87 (by decide) ?_
                        refine k_goto (pc := 88) (tgt := 117) F dX5_joinNearestTwo_88 (by decide) ?_
                        refine k_istore8 (pc := 117) F (by decide) dX5_joinNearestTwo_117 ?_
                        refine k_iload8 (pc := 119) F dX5_joinNearestTwo_119 ?_
                        refine k_if_eq (pc := 121) (tgt := 142) F dX5_joinNearestTwo_121 (by decide) (fun h => absurd h (by decide)) (fun _ => ?_)
                        refine k_iload6 (pc := 124) F dX5_joinNearestTwo_124 ?_
                        refine k_istore2 (pc := 126) F (by decide) dX5_joinNearestTwo_126 ?_
                        refine k_iload7 (pc := 127) F dX5_joinNearestTwo_127 ?_
                        refine k_istore3 (pc := 129) F (by decide) dX5_joinNearestTwo_129 ?_
                        refine k_aload0 (pc := 130) F dX5_joinNearestTwo_130 ?_
                        refine g_X5_crossSum (pc := 131) F (hw8) dX5_joinNearestTwo_131 ?_
                        refine k_istore4 (pc := 134) F (by decide) dX5_joinNearestTwo_134 ?_
                        refine k_aload0 (pc := 136) F dX5_joinNearestTwo_136 ?_
                        refine g_X5_crossPairs (pc := 137) F (hw9) dX5_joinNearestTwo_137 ?_
                        refine k_istore5 (pc := 140) F (by decide) dX5_joinNearestTwo_140 ?_
                        refine k_iinc7 (pc := 142) F (by decide) dX5_joinNearestTwo_142 (inc_N _) ?_
                        refine k_goto (pc := 145) (tgt := 28) F dX5_joinNearestTwo_145 (by decide) ?_
                        refine k_fg8 (pc := 28) F ?_
                        have kk := ih2 (i + 1) _ (by omega) (by omega) f3
                        rw [show jin T v m lim a (jou T v m lim a) (i + 1) = jst T v m lim a (a + 1 + i) (jin T v m lim a (jou T v m lim a) i) from rfl] at kk
                        first
                        | (rw [hz, jst_n1 ⟨h43, h52⟩ hx (by omega)] at kk; exact kk)
                        | (rw [hz, jst_s1 ⟨h43, h52⟩ hx (by omega)] at kk; exact kk)
                  · have hx : xou T v a (a + 1 + i) m m = none := by
                      cases hq : xou T v a (a + 1 + i) m m with
                      | none => rfl
                      | some w => rw [hq] at hx3; rw [hx3.1] at h63; exact absurd h63 (by decide)
                    refine k_goto (pc := 66) (tgt := 142) F dX5_joinNearestTwo_66 (by decide) ?_
                    refine k_iinc7 (pc := 142) F (by decide) dX5_joinNearestTwo_142 (inc_N _) ?_
                    refine k_goto (pc := 145) (tgt := 28) F dX5_joinNearestTwo_145 (by decide) ?_
                    have kk := ih2 (i + 1) _ (by omega) (by omega) f3
                    rw [show jin T v m lim a (jou T v m lim a) (i + 1) = jst T v m lim a (a + 1 + i) (jin T v m lim a (jou T v m lim a) i) from rfl] at kk
                    first
                    | (rw [jst_no (fun q => h43 q.1)] at kk; exact kk)
                    | (rw [jst_no (fun q => h52 q.2)] at kk; exact kk)
                    | (rw [jst_x ⟨h43, h52⟩ hx] at kk; exact kk)
                    | (rw [hz, jst_n0 ⟨h43, h52⟩ hx (by omega)] at kk; rw [hz]; exact kk)
                    | (rw [hz, jst_s0 ⟨h43, h52⟩ hx (by omega)] at kk; exact kk)
        exact L28 (m + 1) 0 iv1 (by omega) (by omega) f1
  exact L13 (m + 1) 0 iv (by omega) (by omega) (fun _ _ _ => rfl)

set_option maxHeartbeats 4000000 in
theorem c_X5_join {l : Launch} {D : va_G} {cI : ClassId} {ad : Nat → Nat} {iv : IV} {ar : AR} {n : Nat} {c : Nat → Nat} {s t : Nat → Int32} (hA : Arch n c s t iv ar) (h5 : ∀ j, j < 24 → ar 5 j = shA c s t n j) {m : Nat} {g : Nat → Nat} (hG : SG n m g iv ar) (hT0 : okT n t) {lim : Nat} (hl : lim ≤ 200) : Ct l D cI (cw cI ad) yX5_join cX5_join 3 none 3 74 [.ref (ad 5), .int (nI lim)] iv ar (qV (fun iv2 ar2 => (∀ q, q ≠ 8 → q ≠ 9 → iv2 q = iv q) ∧ (∀ q, q ≠ 13 → q ≠ 14 → ar2 q = ar q) ∧ VOc m (vcs (Tg c s t n g) m lim) ar2 ∧ okVo m (vcs (Tg c s t n g) m lim))) := by
  refine Ct.of (lv := [some (.ref (ad 5)), some (.int (nI lim)), none]) cw_ok (plainFor_of_name (by decide)) (Nat.le_of_ble_eq_true rfl) 1 rfl rfl (fun Z F => ?_)
  have hm := hG.2.1
  have hn := hA.le
  have hT : okTb m (Tg c s t n g) := fun j k hj hk _ => SC_B hT0 hn (hG.2.2 j hj).2 (hG.2.2 k hk).2 (hA.lt (hG.2.2 j hj).2) (hA.lt (hG.2.2 k hk).2)
  refine k_aload0 (pc := 0) F dX5_join_0 ?_
  refine k_callV (pc := 1) (q0 := 5) F (c_X5_readScores hA h5 hG) ok_X5_47 rfl rfl rfl rfl rfl (by decide) (by decide) (Nat.le_of_ble_eq_true rfl) dX5_join_1 (qV.use (fun ivS arS hS => ?_))
  obtain ⟨eS, fS, tS⟩ := hS
  subst ivS
  refine k_iconst (pc := 4) (v := nI 0) F dX5_join_4 (by decide) ?_
  refine k_istore2 (pc := 5) F (by decide) dX5_join_5 ?_
  have L6 : ∀ (fu : Nat) (k : Nat) (ar1 : AR), m - k < fu → k ≤ m → (∀ q, q ≠ 14 → ar1 q = arS q) → (∀ i, i < k → ar1 14 i = nI i) → Z 6 [some (.ref (ad 5)), some (.int (nI lim)), some (.int (nI k))] [] iv ar1 := by
    intro fu
    induction fu with
    | zero => intro k ar1 hfu; exact absurd hfu (Nat.not_lt_zero _)
    | succ fu ih =>
      intro k ar1 hfu hk f1 hi
      refine k_iload2 (pc := 6) F dX5_join_6 ?_
      refine k_aload0 (pc := 7) F dX5_join_7 ?_
      refine g_X5_size (pc := 8) F (hG.1) dX5_join_8 ?_
      refine k_icmp_geN (pc := 11) (tgt := 27) F dX5_join_11 (by decide) (by omega) (by omega) (fun h11 => ?_) (fun h11 => ?_)
      · refine k_iconst (pc := 27) (v := nI 1) F dX5_join_27 (by decide) ?_
        refine k_istore2 (pc := 28) F (by decide) dX5_join_28 ?_
        have L29 : ∀ (fu : Nat) (k : Nat) (v1 : Nat → Nat) (iv2 : IV) (ar2 : AR), m - k < fu → 1 ≤ k → k ≤ m + 1 → (∀ q, q ≠ 8 → q ≠ 9 → iv2 q = iv q) → (∀ q, q ≠ 13 → q ≠ 14 → ar2 q = ar q) → TBc m (Tg c s t n g) ar2 → VOc m v1 ar2 → okVo m v1 → jfi (Tg c s t n g) m lim (m - k) v1 = vcs (Tg c s t n g) m lim → Z 29 [some (.ref (ad 5)), some (.int (nI lim)), some (.int (nI k))] [] iv2 ar2 := by
          intro fu
          induction fu with
          | zero => intro k v1 iv2 ar2 hfu; exact absurd hfu (Nat.not_lt_zero _)
          | succ fu ih =>
            intro k v1 iv2 ar2 hfu hk1 hk f2 g2 tb2 vo2 ok2 he
            refine k_iload2 (pc := 29) F dX5_join_29 ?_
            refine k_aload0 (pc := 30) F dX5_join_30 ?_
            refine g_X5_size (pc := 31) F ((f2 7 (by decide) (by decide)).trans hG.1) dX5_join_31 ?_
            refine k_icmp_geN (pc := 34) (tgt := 52) F dX5_join_34 (by decide) (by omega) (by omega) (fun h34 => ?_) (fun h34 => ?_)
            · refine k_vret (pc := 52) F dX5_join_52 ?_
              rw [show m - k = 0 by omega] at he
              have e : v1 = vcs (Tg c s t n g) m lim := he
              exact ⟨rfl, f2, g2, by rw [← e]; exact vo2, by rw [← e]; exact ok2⟩
            · refine k_aload0 (pc := 37) F dX5_join_37 ?_
              refine k_iload1 (pc := 38) F dX5_join_38 ?_
              refine k_callV (pc := 39) (q0 := 5) F (c_X5_joinNearestTwo (v := v1) ((f2 7 (by decide) (by decide)).trans hG.1) hm hT tb2 vo2 ok2 hl) ok_X5_50 rfl rfl rfl rfl rfl (by decide) (by decide) (Nat.le_of_ble_eq_true rfl) dX5_join_39 (qI.use (fun xJ ivJ arJ hJ => ?_))
              obtain ⟨j1, j2, j3⟩ := hJ
              refine k_if_ne (pc := 42) (tgt := 46) F dX5_join_42 (by decide) (fun h42 => ?_) (fun h42 => ?_)
              · obtain ⟨y, hy, jv⟩ : ∃ y, jou (Tg c s t n g) v1 m lim m = some y ∧ VOc m (jmp v1 y.1 y.2.1) arJ := by
                  cases hq : jou (Tg c s t n g) v1 m lim m with
                  | none => rw [hq] at j3; rw [j3.1] at h42; exact absurd rfl h42
                  | some y => rw [hq] at j3; exact ⟨y, rfl, j3.2⟩
                have hyB := jou_ok hT hm m (Nat.le_refl m) y hy
                refine k_iinc2 (pc := 46) F (by decide) dX5_join_46 (inc_N _) ?_
                refine k_goto (pc := 49) (tgt := 29) F dX5_join_49 (by decide) ?_
                refine ih (k + 1) (jmp v1 y.1 y.2.1) _ _ (by omega) (by omega) (by omega) (fun q q8 q9 => (j1 q q8 q9).trans (f2 q q8 q9)) (fun q q3 q4 => (j2 q q4).trans (g2 q q3 q4)) (by intro a b ha hb hab; rw [j2 13 (by decide)]; exact tb2 a b ha hb hab) jv (jmp_ok ok2 (by omega)) ?_
                rw [← he, show m - k = (m - (k + 1)) + 1 by omega, jfi_s hy]
              · refine k_vret (pc := 45) F dX5_join_45 ?_
                have hy : jou (Tg c s t n g) v1 m lim m = none := by
                  cases hq : jou (Tg c s t n g) v1 m lim m with
                  | none => rfl
                  | some y => rw [hq] at j3; rw [j3.1] at h42; exact absurd h42 (by decide)
                rw [hy] at j3
                have e := j3.2
                subst e
                rw [jfi_n hy] at he
                exact ⟨rfl, fun q q8 q9 => (j1 q q8 q9).trans (f2 q q8 q9), g2, by rw [← he]; exact vo2, by rw [← he]; exact ok2⟩
        exact L29 (m + 1) 1 (fun k => k) iv ar1 (by omega) (by omega) (by omega) (fun _ _ _ => rfl) (fun q q3 q4 => (f1 q q4).trans (fS q q3)) (by intro a b ha hb hab; rw [f1 13 (by decide)]; exact tS a b ha hb hab) (fun i hi2 => hi i (by omega)) (fun i hi2 => hi2) rfl
      · refine k_aload0 (pc := 14) F dX5_join_14 ?_
        refine g_X5_voiceOf (pc := 15) F dX5_join_15 ?_
        refine k_iload2 (pc := 18) F dX5_join_18 ?_
        refine k_iload2 (pc := 19) F dX5_join_19 ?_
        refine s_c14 (pc := 20) F (by omega) (rfl) dX5_join_20 ?_
        refine k_iinc2 (pc := 21) F (by decide) dX5_join_21 (inc_N _) ?_
        refine k_goto (pc := 24) (tgt := 6) F dX5_join_24 (by decide) ?_
        refine ih (k + 1) _ (by omega) (by omega) (fun q hq => ?_) (fun i hi2 => ?_)
        · rw [up_n hq]; exact f1 q hq
        · rw [up_s]
          by_cases e : i = k
          · subst e; exact upd_at
          · rw [upd_ne e]; exact hi i (by omega)
  exact L6 (m + 1) 0 arS (by omega) (by omega) (fun _ _ => rfl) (fun i hi => by omega)

