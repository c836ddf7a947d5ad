theorem in0 {x : Int32} (k : Nat) (hk : k < 2 ^ 31) : bI ((nI 0).toInt ≤ x.toInt ∧ x.toInt ≤ (nI k).toInt) = bI (inR x (k + 1)) := bI_iff (by rw [nI_toInt hk, show (nI 0).toInt = 0 from rfl]; show _ ↔ 0 ≤ x.toInt ∧ x.toInt < ((k + 1 : Nat) : Int); omega)
theorem inM {x : Int32} (m : Nat) (hm : m ≤ 1000) : bI ((nI 0).toInt ≤ x.toInt ∧ x.toInt ≤ (nI m - nI 1).toInt) = bI (inR x m) := by
  rcases Nat.eq_zero_or_pos m with e | e
  · subst e
    refine bI_iff ?_
    rw [show (nI 0 - nI 1).toInt = -1 from rfl, show (nI 0).toInt = 0 from rfl]
    show _ ↔ 0 ≤ x.toInt ∧ x.toInt < ((0 : Nat) : Int)
    omega
  · rw [pk_sub (show 1 ≤ m from e), in0 (m - 1) (by omega), show m - 1 + 1 = m by omega]
theorem inS {x : Int32} : bI ((-1 : Int32).toInt ≤ x.toInt ∧ x.toInt ≤ (nI 9).toInt) = bI (spk x) := by
  refine bI_iff ?_
  rw [show (-1 : Int32).toInt = -1 from rfl, show (nI 9).toInt = 9 from rfl]
  constructor
  · intro h
    by_cases e : x.toInt = -1
    · exact Or.inl (Int32.toInt_inj.mp (by rw [e]; rfl))
    · exact Or.inr ⟨by omega, by show x.toInt < ((10 : Nat) : Int); omega⟩
  · intro h
    rcases h with h | ⟨h1, h2⟩
    · rw [h]; decide
    · have h3 : x.toInt < ((10 : Nat) : Int) := h2
      omega
theorem inT {x : Int32} : bI ((-1 : Int32).toInt ≤ x.toInt ∧ x.toInt ≤ (nI 99).toInt) = bI (-1 ≤ x.toInt ∧ x.toInt ≤ 99) := bI_iff Iff.rfl
theorem in1 {x : Int32} : bI ((nI 1).toInt ≤ x.toInt ∧ x.toInt ≤ (nI 3).toInt) = bI (1 ≤ x.toInt ∧ x.toInt < 4) := bI_iff (by rw [show (nI 1).toInt = 1 from rfl, show (nI 3).toInt = 3 from rfl]; omega)
theorem in10 {x : Int32} : bI ((nI 10).toInt ≤ x.toInt ∧ x.toInt ≤ (nI 15).toInt) = bI (10 ≤ x.toInt ∧ x.toInt < 16) := bI_iff (by rw [show (nI 10).toInt = 10 from rfl, show (nI 15).toInt = 15 from rfl]; omega)
theorem in1023 {x : Int32} (k : Nat) (hk : k < 2 ^ 31) : bI ((nI 0).toInt ≤ x.toInt ∧ x.toInt ≤ (nI k).toInt) = bI (0 ≤ x.toInt ∧ x.toInt ≤ k) := bI_iff (by rw [nI_toInt hk, show (nI 0).toInt = 0 from rfl])
def hdN (f : Nat → Int32) : Nat → Nat
  | 0 => 0
  | k + 1 => if f k = nI k then hdN f k + 1 else hdN f k
theorem hdN_le (f : Nat → Int32) : ∀ k, hdN f k ≤ k
  | 0 => Nat.le_refl 0
  | k + 1 => by
    have := hdN_le f k
    rw [hdN]
    split <;> omega
theorem hdN_at {w : WT} {b : BT} {f : Nat → Int32} (h : Rl 10 w b f) : ∀ K, K ≤ 10 → hdN f K ≤ bm b ∧ ∀ i, i < bm b → (bf b i < K ↔ i < hdN f K)
  | 0, _ => ⟨Nat.zero_le _, fun i hi => by rw [hdN]; omega⟩
  | K + 1, hK => by
    obtain ⟨h1, h2⟩ := hdN_at h K (by omega)
    have inc : ∀ i j, i < j → j < bm b → bf b i < bf b j := fun i j hij hj => by
      have a := h.2.2.1 i j hij hj
      have c := (h.2.1 i (by omega)).1
      omega
    rw [hdN]
    split
    · next e =>
      obtain ⟨i0, hi0, e0⟩ := Rl.isHead (Nat.le_refl 10) h (by omega) e
      have a1 := h2 i0 hi0
      have ec : i0 = hdN f K := by
        rcases Nat.lt_trichotomy i0 (hdN f K) with c | c | c
        · have := a1.mpr c; omega
        · exact c
        · have b1 := inc (hdN f K) i0 c hi0
          have b2 := h2 (hdN f K) (by omega)
          have := b2.mp (by omega)
          omega
      refine ⟨by omega, fun i hi => ?_⟩
      have a2 := h2 i hi
      constructor
      · intro q
        rcases Nat.lt_trichotomy i i0 with c | c | c
        · omega
        · omega
        · have := inc i0 i c hi; omega
      · intro q
        rcases Nat.lt_or_ge i (hdN f K) with c | c
        · have := a2.mpr c; omega
        · have : i = i0 := by omega
          subst this; omega
    · next e =>
      refine ⟨h1, fun i hi => ?_⟩
      have a2 := h2 i hi
      have : bf b i ≠ K := fun q => e (by rw [← q]; exact h.head hi)
      omega
theorem hdN_bm {w : WT} {b : BT} {f : Nat → Int32} (h : Rl 10 w b f) : hdN f 10 = bm b := by
  obtain ⟨h1, h2⟩ := hdN_at h 10 (Nat.le_refl 10)
  rcases Nat.lt_or_ge (hdN f 10) (bm b) with c | c
  · have := (h2 (hdN f 10) c).mp (by have := (h.2.1 _ c); omega)
    omega
  · omega
set_option maxHeartbeats 4000000 in
theorem c_X8_record {l : Launch} {D : va_G} {cI : ClassId} {ad : Nat → Nat} {iv : IV} {ar : AR} {n : Nat} {c : Nat → Nat} {s t : Nat → Int32} {set : Int32} {lim m : Nat} {g : Nat → Nat} {tt : Nat} {rt : Nat → Int32} (hI : MI n c s t set lim m g tt rt iv ar) {x y : Int32} : Ct l D cI (mw cI ad) yX8_record cX8_record 4 (some .int) 1 22 [.ref (ad 0), .int x, .int y] iv ar (qI (fun x2 iv2 ar2 => Sp (inR x 4 ∧ spk y ∧ n < 30) x2 (nI n) (-1) (MI (n + 1) (va_up c n (cN x)) (upd s n y) (tN t n) set lim m g tt rt iv2 ar2) (MI n c s t set lim m g tt rt iv2 ar2))) := by
  refine Ct.of (lv := [some (.ref (ad 0)), some (.int x), some (.int y), none]) mw_ok (plainFor_of_name (by decide)) (Nat.le_of_ble_eq_true rfl) 1 rfl rfl (fun Z F => ?_)
  have hI0 := hI
  obtain ⟨hA, hT, hSp, hG, hset, hlim, hl2, htt, ht2, hrt⟩ := hI
  have hn := hA.2.1
  have hm8 := hG.2.1
  refine k_iload1 (pc := 0) F dX8_record_0 ?_
  refine k_iconst (pc := 1) (v := nI 0) F dX8_record_1 (by decide) ?_
  refine k_iconst (pc := 2) (v := nI 3) F dX8_record_2 (by decide) ?_
  refine k_callS (pc := 3) F (c_X8_in mw_ok) ok_X8_59 rfl rfl (by decide) (by decide) (Nat.le_of_ble_eq_true rfl) dX8_record_3 (rI.use ?_)
  refine k_top (show _ = bI (inR x 4) from in0 3 (by decide)) ?_
  refine k_if_eqB (pc := 6) (tgt := 28) F dX8_record_6 (by decide) (fun h6 => ?_) (fun h6 => ?_)
  · refine k_iconst (pc := 28) (v := -1) F dX8_record_28 (by decide) ?_
    refine k_iret (pc := 29) F dX8_record_29 ?_
    exact ⟨_, rfl, Or.inr ⟨fun q => by first | exact h6 q.1 | exact h16 q.2.1 | (have := q.2.2; omega), rfl, hI0⟩⟩
  · refine k_iload2 (pc := 9) F dX8_record_9 ?_
    refine k_iconst (pc := 10) (v := -1) F dX8_record_10 (by decide) ?_
    refine k_bipush (pc := 11) (v := nI 9) F dX8_record_11 (by decide) ?_
    refine k_callS (pc := 13) F (c_X8_in mw_ok) ok_X8_59 rfl rfl (by decide) (by decide) (Nat.le_of_ble_eq_true rfl) dX8_record_13 (rI.use ?_)
    refine k_top (inS) ?_
    refine k_if_eqB (pc := 16) (tgt := 28) F dX8_record_16 (by decide) (fun h16 => ?_) (fun h16 => ?_)
    · refine k_iconst (pc := 28) (v := -1) F dX8_record_28 (by decide) ?_
      refine k_iret (pc := 29) F dX8_record_29 ?_
      exact ⟨_, rfl, Or.inr ⟨fun q => by first | exact h6 q.1 | exact h16 q.2.1 | (have := q.2.2; omega), rfl, hI0⟩⟩
    · refine k_aload0 (pc := 19) F dX8_record_19 ?_
      refine g_X8_recordings (pc := 20) F (hA.1) dX8_record_20 ?_
      refine k_bipush (pc := 23) (v := nI 30) F dX8_record_23 (by decide) ?_
      refine k_icmp_neN (pc := 25) (tgt := 30) F dX8_record_25 (by decide) (by omega) (by omega) (fun h25 => ?_) (fun h25 => ?_)
      · refine k_aload0 (pc := 30) F dX8_record_30 ?_
        refine g_X8_channel (pc := 31) F dX8_record_31 ?_
        refine k_aload0 (pc := 34) F dX8_record_34 ?_
        refine g_X8_recordings (pc := 35) F (hA.1) dX8_record_35 ?_
        refine k_iload1 (pc := 38) F dX8_record_38 ?_
        refine s_m1 (pc := 39) F (by omega) (rfl) dX8_record_39 ?_
        refine k_aload0 (pc := 40) F dX8_record_40 ?_
        refine g_X8_speaker (pc := 41) F dX8_record_41 ?_
        refine k_aload0 (pc := 44) F dX8_record_44 ?_
        refine g_X8_recordings (pc := 45) F (hA.1) dX8_record_45 ?_
        refine k_iload2 (pc := 48) F dX8_record_48 ?_
        refine s_m2 (pc := 49) F (by omega) ((up_n (by decide)).trans (rfl)) dX8_record_49 ?_
        refine k_iconst (pc := 50) (v := nI 0) F dX8_record_50 (by decide) ?_
        refine k_istore3 (pc := 51) F (by decide) dX8_record_51 ?_
        have L52 : ∀ (fu : Nat) (i : Nat) (ar1 : AR), 6 - i < fu → i ≤ 6 → ar1 1 = upd (ar 1) n x → ar1 2 = upd (ar 2) n y → (∀ j, j < n * 6 → ar1 0 j = ar 0 j) → (∀ p, p < i → ar1 0 (n * 6 + p) = -1) → ar1 3 = ar 3 → ar1 4 = ar 4 → Z 52 [some (.ref (ad 0)), some (.int x), some (.int y), some (.int (nI i))] [] iv ar1 := by
          intro fu
          induction fu with
          | zero => intro i ar1 hfu; exact absurd hfu (Nat.not_lt_zero _)
          | succ fu ih =>
            intro i ar1 hfu hi a1 a2 a0 b0 a3 a4
            refine k_iload3 (pc := 52) F dX8_record_52 ?_
            refine k_bipush (pc := 53) (v := nI 6) F dX8_record_53 (by decide) ?_
            refine k_icmp_geN (pc := 55) (tgt := 79) F dX8_record_55 (by decide) (by omega) (by omega) (fun h55 => ?_) (fun h55 => ?_)
            · refine k_aload0 (pc := 79) F dX8_record_79 ?_
              refine k_dup (pc := 80) F dX8_record_80 rfl ?_
              refine g_X8_recordings (pc := 81) F (hA.1) dX8_record_81 ?_
              refine k_iconst (pc := 84) (v := nI 1) F dX8_record_84 (by decide) ?_
              refine k_iaddN (pc := 85) F dX8_record_85 ?_
              refine p_X8_recordings (pc := 86) F dX8_record_86 ?_
              refine k_aload0 (pc := 89) F dX8_record_89 ?_
              refine g_X8_recordings (pc := 90) F (up_s) dX8_record_90 ?_
              refine k_iconst (pc := 93) (v := nI 1) F dX8_record_93 (by decide) ?_
              refine k_isubN (pc := 94) F dX8_record_94 (by omega) ?_
              refine k_iret (pc := 95) F dX8_record_95 ?_
              exact ⟨_, rfl, Or.inl ⟨⟨h6, h16, by omega⟩, rfl, hI0.rec_ h6 h16 (by omega) a1 a2 a0 (fun p hp => b0 p (by omega)) a3 a4⟩⟩
            · refine k_aload0 (pc := 58) F dX8_record_58 ?_
              refine g_X8_tone (pc := 59) F dX8_record_59 ?_
              refine k_bipush (pc := 62) (v := nI 6) F dX8_record_62 (by decide) ?_
              refine k_aload0 (pc := 64) F dX8_record_64 ?_
              refine g_X8_recordings (pc := 65) F (hA.1) dX8_record_65 ?_
              refine k_imulN (pc := 68) F dX8_record_68 ?_
              refine k_iload3 (pc := 69) F dX8_record_69 ?_
              refine k_iaddN (pc := 70) F dX8_record_70 ?_
              refine k_iconst (pc := 71) (v := -1) F dX8_record_71 (by decide) ?_
              refine s_m0 (pc := 72) F (by omega) (rfl) dX8_record_72 ?_
              refine k_iinc3 (pc := 73) F (by decide) dX8_record_73 (inc_N _) ?_
              refine k_goto (pc := 76) (tgt := 52) F dX8_record_76 (by decide) ?_
              refine ih (i + 1) _ (by omega) (by omega) (by rw [up_n (by decide)]; exact a1) (by rw [up_n (by decide)]; exact a2) (fun j hj => ?_) (fun p hp => ?_) (by rw [up_n (by decide)]; exact a3) (by rw [up_n (by decide)]; exact a4)
              · rw [up_s, upd_ne (by omega)]; exact a0 j hj
              · rw [up_s]
                by_cases e : p = i
                · subst e; rw [Nat.mul_comm n 6, upd_at]
                · rw [upd_ne (by omega)]; exact b0 p (by omega)
        exact L52 7 0 _ (by omega) (by omega) (by rw [up_n (by decide), up_s]) up_s (fun j hj => rfl) (fun p hp => absurd hp (Nat.not_lt_zero p)) rfl rfl
      · refine k_iconst (pc := 28) (v := -1) F dX8_record_28 (by decide) ?_
        refine k_iret (pc := 29) F dX8_record_29 ?_
        exact ⟨_, rfl, Or.inr ⟨fun q => by first | exact h6 q.1 | exact h16 q.2.1 | (have := q.2.2; omega), rfl, hI0⟩⟩

set_option maxHeartbeats 4000000 in
theorem c_X8_tone {l : Launch} {D : va_G} {cI : ClassId} {ad : Nat → Nat} {iv : IV} {ar : AR} {n : Nat} {c : Nat → Nat} {s t : Nat → Int32} {set : Int32} {lim m : Nat} {g : Nat → Nat} {tt : Nat} {rt : Nat → Int32} (hI : MI n c s t set lim m g tt rt iv ar) {x y v : Int32} : Ct l D cI (mw cI ad) yX8_tone cX8_tone 4 (some .boolean) 2 43 [.ref (ad 0), .int x, .int y, .int v] iv ar (qI (fun x2 iv2 ar2 => Sp (inR x n ∧ inR y 6 ∧ -1 ≤ v.toInt ∧ v.toInt ≤ 99) x2 (nI 1) (nI 0) (MI n c s (upd t (cN x * 6 + cN y) v) set lim m g tt rt iv2 ar2) (MI n c s t set lim m g tt rt iv2 ar2))) := by
  refine Ct.of (lv := [some (.ref (ad 0)), some (.int x), some (.int y), some (.int v)]) mw_ok (plainFor_of_name (by decide)) (Nat.le_of_ble_eq_true rfl) 0 rfl rfl (fun Z F => ?_)
  have hI0 := hI
  obtain ⟨hA, hT, hSp, hG, hset, hlim, hl2, htt, ht2, hrt⟩ := hI
  have hn := hA.2.1
  have hm8 := hG.2.1
  refine k_aload0 (pc := 0) F dX8_tone_0 ?_
  refine k_iload1 (pc := 1) F dX8_tone_1 ?_
  refine k_callV (pc := 2) (q0 := 0) F (c_X8_isRecording hA.1 hA.2.1) ok_X8_63 rfl rfl rfl rfl rfl (by decide) (by decide) (Nat.le_of_ble_eq_true rfl) dX8_tone_2 (rI.use ?_)
  refine k_if_eqB (pc := 5) (tgt := 27) F dX8_tone_5 (by decide) (fun h5 => ?_) (fun h5 => ?_)
  · refine k_iconst (pc := 27) (v := nI 0) F dX8_tone_27 (by decide) ?_
    refine k_zret (pc := 28) F dX8_tone_28 (by decide) ?_
    exact ⟨_, rfl, Or.inr ⟨fun q => by first | exact h5 q.1 | exact h14 q.2.1 | exact h24 q.2.2, rfl, hI0⟩⟩
  · obtain ⟨r, hr, rfl⟩ := nat_of h5
    refine k_iload2 (pc := 8) F dX8_tone_8 ?_
    refine k_iconst (pc := 9) (v := nI 0) F dX8_tone_9 (by decide) ?_
    refine k_iconst (pc := 10) (v := nI 5) F dX8_tone_10 (by decide) ?_
    refine k_callS (pc := 11) F (c_X8_in mw_ok) ok_X8_59 rfl rfl (by decide) (by decide) (Nat.le_of_ble_eq_true rfl) dX8_tone_11 (rI.use ?_)
    refine k_top (show _ = bI (inR y 6) from in0 5 (by decide)) ?_
    refine k_if_eqB (pc := 14) (tgt := 27) F dX8_tone_14 (by decide) (fun h14 => ?_) (fun h14 => ?_)
    · refine k_iconst (pc := 27) (v := nI 0) F dX8_tone_27 (by decide) ?_
      refine k_zret (pc := 28) F dX8_tone_28 (by decide) ?_
      exact ⟨_, rfl, Or.inr ⟨fun q => by first | exact h5 q.1 | exact h14 q.2.1 | exact h24 q.2.2, rfl, hI0⟩⟩
    · obtain ⟨p, hp6, rfl⟩ := nat_of h14
      refine k_iload3 (pc := 17) F dX8_tone_17 ?_
      refine k_iconst (pc := 18) (v := -1) F dX8_tone_18 (by decide) ?_
      refine k_bipush (pc := 19) (v := nI 99) F dX8_tone_19 (by decide) ?_
      refine k_callS (pc := 21) F (c_X8_in mw_ok) ok_X8_59 rfl rfl (by decide) (by decide) (Nat.le_of_ble_eq_true rfl) dX8_tone_21 (rI.use ?_)
      refine k_top (inT) ?_
      refine k_if_neB (pc := 24) (tgt := 29) F dX8_tone_24 (by decide) (fun h24 => ?_) (fun h24 => ?_)
      · refine k_aload0 (pc := 29) F dX8_tone_29 ?_
        refine g_X8_tone (pc := 30) F dX8_tone_30 ?_
        refine k_bipush (pc := 33) (v := nI 6) F dX8_tone_33 (by decide) ?_
        refine k_iload1 (pc := 35) F dX8_tone_35 ?_
        refine k_imulN (pc := 36) F dX8_tone_36 ?_
        refine k_iload2 (pc := 37) F dX8_tone_37 ?_
        refine k_iaddN (pc := 38) F dX8_tone_38 ?_
        refine k_iload3 (pc := 39) F dX8_tone_39 ?_
        refine s_m0 (pc := 40) F (by omega) (rfl) dX8_tone_40 ?_
        refine k_iconst (pc := 41) (v := nI 1) F dX8_tone_41 (by decide) ?_
        refine k_zret (pc := 42) F dX8_tone_42 (by decide) ?_
        refine ⟨_, rfl, Or.inl ⟨⟨h5, h14, h24⟩, rfl, ?_⟩⟩
        unfold cN
        rw [nI_clamp (by omega), nI_clamp (by omega)]
        rw [Nat.mul_comm r 6]
        exact hI0.ton h24
      · refine k_iconst (pc := 27) (v := nI 0) F dX8_tone_27 (by decide) ?_
        refine k_zret (pc := 28) F dX8_tone_28 (by decide) ?_
        exact ⟨_, rfl, Or.inr ⟨fun q => by first | exact h5 q.1 | exact h14 q.2.1 | exact h24 q.2.2, rfl, hI0⟩⟩

set_option maxHeartbeats 4000000 in
theorem c_X8_know {l : Launch} {D : va_G} {cI : ClassId} {ad : Nat → Nat} {iv : IV} {ar : AR} {n : Nat} {c : Nat → Nat} {s t : Nat → Int32} {set : Int32} {lim m : Nat} {g : Nat → Nat} {tt : Nat} {rt : Nat → Int32} (hI : MI n c s t set lim m g tt rt iv ar) {x y : Int32} : Ct l D cI (mw cI ad) yX8_know cX8_know 3 (some .boolean) 2 43 [.ref (ad 0), .int x, .int y] iv ar (qI (fun x2 iv2 ar2 => Sp (inR x n ∧ spk y) x2 (nI 1) (nI 0) (MI n c (upd s (cN x) y) t set lim m g tt rt iv2 ar2) (MI n c s t set lim m g tt rt iv2 ar2))) := by
  refine Ct.of (lv := [some (.ref (ad 0)), some (.int x), some (.int y)]) mw_ok (plainFor_of_name (by decide)) (Nat.le_of_ble_eq_true rfl) 0 rfl rfl (fun Z F => ?_)
  have hI0 := hI
  obtain ⟨hA, hT, hSp, hG, hset, hlim, hl2, htt, ht2, hrt⟩ := hI
  have hn := hA.2.1
  have hm8 := hG.2.1
  refine k_aload0 (pc := 0) F dX8_know_0 ?_
  refine k_iload1 (pc := 1) F dX8_know_1 ?_
  refine k_callV (pc := 2) (q0 := 0) F (c_X8_isRecording hA.1 hA.2.1) ok_X8_63 rfl rfl rfl rfl rfl (by decide) (by decide) (Nat.le_of_ble_eq_true rfl) dX8_know_2 (rI.use ?_)
  refine k_if_eqB (pc := 5) (tgt := 18) F dX8_know_5 (by decide) (fun h5 => ?_) (fun h5 => ?_)
  · refine k_iconst (pc := 18) (v := nI 0) F dX8_know_18 (by decide) ?_
    refine k_zret (pc := 19) F dX8_know_19 (by decide) ?_
    exact ⟨_, rfl, Or.inr ⟨fun q => by first | exact h5 q.1 | exact h15 q.2, rfl, hI0⟩⟩
  · obtain ⟨r, hr, rfl⟩ := nat_of h5
    refine k_iload2 (pc := 8) F dX8_know_8 ?_
    refine k_iconst (pc := 9) (v := -1) F dX8_know_9 (by decide) ?_
    refine k_bipush (pc := 10) (v := nI 9) F dX8_know_10 (by decide) ?_
    refine k_callS (pc := 12) F (c_X8_in mw_ok) ok_X8_59 rfl rfl (by decide) (by decide) (Nat.le_of_ble_eq_true rfl) dX8_know_12 (rI.use ?_)
    refine k_top (inS) ?_
    refine k_if_neB (pc := 15) (tgt := 20) F dX8_know_15 (by decide) (fun h15 => ?_) (fun h15 => ?_)
    · refine k_aload0 (pc := 20) F dX8_know_20 ?_
      refine g_X8_speaker (pc := 21) F dX8_know_21 ?_
      refine k_iload1 (pc := 24) F dX8_know_24 ?_
      refine k_iload2 (pc := 25) F dX8_know_25 ?_
      refine s_m2 (pc := 26) F (by omega) (rfl) dX8_know_26 ?_
      refine k_iconst (pc := 27) (v := nI 1) F dX8_know_27 (by decide) ?_
      refine k_zret (pc := 28) F dX8_know_28 (by decide) ?_
      refine ⟨_, rfl, Or.inl ⟨⟨h5, h15⟩, rfl, ?_⟩⟩
      unfold cN
      rw [nI_clamp (by omega)]
      exact hI0.kno h15
    · refine k_iconst (pc := 18) (v := nI 0) F dX8_know_18 (by decide) ?_
      refine k_zret (pc := 19) F dX8_know_19 (by decide) ?_
      exact ⟨_, rfl, Or.inr ⟨fun q => by first | exact h5 q.1 | exact h15 q.2, rfl, hI0⟩⟩

set_option maxHeartbeats 4000000 in
theorem c_X8_set {l : Launch} {D : va_G} {cI : ClassId} {ad : Nat → Nat} {iv : IV} {ar : AR} {n : Nat} {c : Nat → Nat} {s t : Nat → Int32} {set : Int32} {lim m : Nat} {g : Nat → Nat} {tt : Nat} {rt : Nat → Int32} (hI : MI n c s t set lim m g tt rt iv ar) {x : Int32} : Ct l D cI (mw cI ad) yX8_set cX8_set 2 (some .boolean) 1 22 [.ref (ad 0), .int x] iv ar (qI (fun x2 iv2 ar2 => Sp (0 ≤ x.toInt ∧ x.toInt ≤ 1023) x2 (nI 1) (nI 0) (MI n c s t x lim m g tt rt iv2 ar2) (MI n c s t set lim m g tt rt iv2 ar2))) := by
  refine Ct.of (lv := [some (.ref (ad 0)), some (.int x)]) mw_ok (plainFor_of_name (by decide)) (Nat.le_of_ble_eq_true rfl) 0 rfl rfl (fun Z F => ?_)
  have hI0 := hI
  obtain ⟨hA, hT, hSp, hG, hset, hlim, hl2, htt, ht2, hrt⟩ := hI
  have hn := hA.2.1
  have hm8 := hG.2.1
  refine k_iload1 (pc := 0) F dX8_set_0 ?_
  refine k_iconst (pc := 1) (v := nI 0) F dX8_set_1 (by decide) ?_
  refine k_sipush (pc := 2) (v := nI 1023) F dX8_set_2 (by decide) ?_
  refine k_callS (pc := 5) F (c_X8_in mw_ok) ok_X8_59 rfl rfl (by decide) (by decide) (Nat.le_of_ble_eq_true rfl) dX8_set_5 (rI.use ?_)
  refine k_top (in1023 1023 (by decide)) ?_
  refine k_if_neB (pc := 8) (tgt := 13) F dX8_set_8 (by decide) (fun h8 => ?_) (fun h8 => ?_)
  · refine k_aload0 (pc := 13) F dX8_set_13 ?_
    refine k_iload1 (pc := 14) F dX8_set_14 ?_
    refine p_X8_set (pc := 15) F dX8_set_15 ?_
    refine k_iconst (pc := 18) (v := nI 1) F dX8_set_18 (by decide) ?_
    refine k_zret (pc := 19) F dX8_set_19 (by decide) ?_
    exact ⟨_, rfl, Or.inl ⟨h8, rfl, hI0.set_⟩⟩
  · refine k_iconst (pc := 11) (v := nI 0) F dX8_set_11 (by decide) ?_
    refine k_zret (pc := 12) F dX8_set_12 (by decide) ?_
    exact ⟨_, rfl, Or.inr ⟨fun q => by first | exact h8 q, rfl, hI0⟩⟩

set_option maxHeartbeats 4000000 in
theorem c_X8_limit {l : Launch} {D : va_G} {cI : ClassId} {ad : Nat → Nat} {iv : IV} {ar : AR} {n : Nat} {c : Nat → Nat} {s t : Nat → Int32} {set : Int32} {lim m : Nat} {g : Nat → Nat} {tt : Nat} {rt : Nat → Int32} (hI : MI n c s t set lim m g tt rt iv ar) {x : Int32} : Ct l D cI (mw cI ad) yX8_limit cX8_limit 2 (some .boolean) 1 22 [.ref (ad 0), .int x] iv ar (qI (fun x2 iv2 ar2 => Sp (0 ≤ x.toInt ∧ x.toInt ≤ 200) x2 (nI 1) (nI 0) (MI n c s t set (cN x) m g tt rt iv2 ar2) (MI n c s t set lim m g tt rt iv2 ar2))) := by
  refine Ct.of (lv := [some (.ref (ad 0)), some (.int x)]) mw_ok (plainFor_of_name (by decide)) (Nat.le_of_ble_eq_true rfl) 0 rfl rfl (fun Z F => ?_)
  have hI0 := hI
  obtain ⟨hA, hT, hSp, hG, hset, hlim, hl2, htt, ht2, hrt⟩ := hI
  have hn := hA.2.1
  have hm8 := hG.2.1
  refine k_iload1 (pc := 0) F dX8_limit_0 ?_
  refine k_iconst (pc := 1) (v := nI 0) F dX8_limit_1 (by decide) ?_
  refine k_sipush (pc := 2) (v := nI 200) F dX8_limit_2 (by decide) ?_
  refine k_callS (pc := 5) F (c_X8_in mw_ok) ok_X8_59 rfl rfl (by decide) (by decide) (Nat.le_of_ble_eq_true rfl) dX8_limit_5 (rI.use ?_)
  refine k_top (show _ = bI (0 ≤ x.toInt ∧ x.toInt ≤ 200) from in1023 200 (by decide)) ?_
  refine k_if_neB (pc := 8) (tgt := 13) F dX8_limit_8 (by decide) (fun h8 => ?_) (fun h8 => ?_)
  · refine k_aload0 (pc := 13) F dX8_limit_13 ?_
    refine k_iload1 (pc := 14) F dX8_limit_14 ?_
    refine p_X8_limit (pc := 15) F dX8_limit_15 ?_
    refine k_iconst (pc := 18) (v := nI 1) F dX8_limit_18 (by decide) ?_
    refine k_zret (pc := 19) F dX8_limit_19 (by decide) ?_
    obtain ⟨k, hk, rfl⟩ := nat_of (r := x) (n := 201) ⟨h8.1, by omega⟩
    refine ⟨_, rfl, Or.inl ⟨h8, rfl, ?_⟩⟩
    unfold cN
    rw [nI_clamp (by omega)]
    exact hI0.lim_ (by omega)
  · refine k_iconst (pc := 11) (v := nI 0) F dX8_limit_11 (by decide) ?_
    refine k_zret (pc := 12) F dX8_limit_12 (by decide) ?_
    exact ⟨_, rfl, Or.inr ⟨fun q => by first | exact h8 q, rfl, hI0⟩⟩

set_option maxHeartbeats 4000000 in
theorem c_X8_shift {l : Launch} {D : va_G} {cI : ClassId} {ad : Nat → Nat} {iv : IV} {ar : AR} {n : Nat} {c : Nat → Nat} {s t : Nat → Int32} {set : Int32} {lim m : Nat} {g : Nat → Nat} {tt : Nat} {rt : Nat → Int32} (hI : MI n c s t set lim m g tt rt iv ar) {x y : Int32} : Ct l D cI (mw cI ad) yX8_shift cX8_shift 3 (some .int) 2 50 [.ref (ad 0), .int x, .int y] iv ar (qI (fun x2 iv2 ar2 => x2 = aShift n c s t x y ∧ MI n c s t set lim m g tt rt iv2 ar2)) := by
  refine Ct.of (lv := [some (.ref (ad 0)), some (.int x), some (.int y)]) mw_ok (plainFor_of_name (by decide)) (Nat.le_of_ble_eq_true rfl) 0 rfl rfl (fun Z F => ?_)
  have hI0 := hI
  obtain ⟨hA, hT, hSp, hG, hset, hlim, hl2, htt, ht2, hrt⟩ := hI
  have hn := hA.2.1
  have hm8 := hG.2.1
  refine k_iload1 (pc := 0) F dX8_shift_0 ?_
  refine k_iconst (pc := 1) (v := nI 0) F dX8_shift_1 (by decide) ?_
  refine k_iconst (pc := 2) (v := nI 3) F dX8_shift_2 (by decide) ?_
  refine k_callS (pc := 3) F (c_X8_in mw_ok) ok_X8_59 rfl rfl (by decide) (by decide) (Nat.le_of_ble_eq_true rfl) dX8_shift_3 (rI.use ?_)
  refine k_top (show _ = bI (inR x 4) from in0 3 (by decide)) ?_
  refine k_if_eqB (pc := 6) (tgt := 27) F dX8_shift_6 (by decide) (fun h6 => ?_) (fun h6 => ?_)
  · refine k_ldc (pc := 27) (v := -2147483648) F dX8_shift_27 w_726 ?_
    refine k_iret (pc := 29) F dX8_shift_29 ?_
    refine ⟨_, rfl, ?_, hI0⟩
    rw [aShift, if_neg]
    exact fun q => by first | exact h6 q.1 | exact h15 q.2
  · obtain ⟨k, hk, rfl⟩ := nat_of h6
    refine k_iload2 (pc := 9) F dX8_shift_9 ?_
    refine k_iconst (pc := 10) (v := nI 0) F dX8_shift_10 (by decide) ?_
    refine k_iconst (pc := 11) (v := nI 5) F dX8_shift_11 (by decide) ?_
    refine k_callS (pc := 12) F (c_X8_in mw_ok) ok_X8_59 rfl rfl (by decide) (by decide) (Nat.le_of_ble_eq_true rfl) dX8_shift_12 (rI.use ?_)
    refine k_top (show _ = bI (inR y 6) from in0 5 (by decide)) ?_
    refine k_if_eqB (pc := 15) (tgt := 27) F dX8_shift_15 (by decide) (fun h15 => ?_) (fun h15 => ?_)
    · refine k_ldc (pc := 27) (v := -2147483648) F dX8_shift_27 w_726 ?_
      refine k_iret (pc := 29) F dX8_shift_29 ?_
      refine ⟨_, rfl, ?_, hI0⟩
      rw [aShift, if_neg]
      exact fun q => by first | exact h6 q.1 | exact h15 q.2
    · obtain ⟨p, hp, rfl⟩ := nat_of h15
      refine k_aload0 (pc := 18) F dX8_shift_18 ?_
      refine k_iload1 (pc := 19) F dX8_shift_19 ?_
      refine k_iload2 (pc := 20) F dX8_shift_20 ?_
      refine k_callV (pc := 21) (q0 := 0) F (c_X8_shiftOf hA hT (k := k) (p := p) hk hp) ok_X8_74 rfl rfl rfl rfl rfl (by decide) (by decide) (Nat.le_of_ble_eq_true rfl) dX8_shift_21 (rI.use ?_)
      refine k_goto (pc := 24) (tgt := 29) F dX8_shift_24 (by decide) ?_
      refine k_iret (pc := 29) F dX8_shift_29 ?_
      refine ⟨_, rfl, ?_, hI0.scr (fun q hq => up_n (by omega)) (fun _ _ => rfl)⟩
      rw [aShift, if_pos ⟨h6, h15⟩]
      unfold cN
      rw [nI_clamp (by omega), nI_clamp (by omega)]

set_option maxHeartbeats 4000000 in
theorem c_X8_hidden {l : Launch} {D : va_G} {cI : ClassId} {ad : Nat → Nat} {iv : IV} {ar : AR} {n : Nat} {c : Nat → Nat} {s t : Nat → Int32} {set : Int32} {lim m : Nat} {g : Nat → Nat} {tt : Nat} {rt : Nat → Int32} (hI : MI n c s t set lim m g tt rt iv ar) {x y : Int32} : Ct l D cI (mw cI ad) yX8_hidden cX8_hidden 3 (some .boolean) 1 27 [.ref (ad 0), .int x, .int y] iv ar (qI (fun x2 iv2 ar2 => x2 = aHidden n c s t x y ∧ MI n c s t set lim m g tt rt iv2 ar2)) := by
  refine Ct.of (lv := [some (.ref (ad 0)), some (.int x), some (.int y)]) mw_ok (plainFor_of_name (by decide)) (Nat.le_of_ble_eq_true rfl) 0 rfl rfl (fun Z F => ?_)
  have hI0 := hI
  obtain ⟨hA, hT, hSp, hG, hset, hlim, hl2, htt, ht2, hrt⟩ := hI
  have hn := hA.2.1
  have hm8 := hG.2.1
  refine k_iload1 (pc := 0) F dX8_hidden_0 ?_
  refine k_iconst (pc := 1) (v := nI 1) F dX8_hidden_1 (by decide) ?_
  refine k_iconst (pc := 2) (v := nI 3) F dX8_hidden_2 (by decide) ?_
  refine k_callS (pc := 3) F (c_X8_in mw_ok) ok_X8_59 rfl rfl (by decide) (by decide) (Nat.le_of_ble_eq_true rfl) dX8_hidden_3 (rI.use ?_)
  refine k_top (in1) ?_
  refine k_if_eqB (pc := 6) (tgt := 31) F dX8_hidden_6 (by decide) (fun h6 => ?_) (fun h6 => ?_)
  · refine k_iconst (pc := 31) (v := nI 0) F dX8_hidden_31 (by decide) ?_
    refine k_zret (pc := 32) F dX8_hidden_32 (by decide) ?_
    refine ⟨_, rfl, ?_, hI0⟩
    rw [aHidden, bI_f]
    · rfl
    · intro q
      first
      | exact h15 q.2.1
      | (refine h6 ⟨?_, q.1.2⟩
         rcases Int.lt_or_eq_of_le q.1.1 with c2 | c2
         · omega
         · exfalso
           apply q.2.2.1
           show x.toInt.toNat = 0
           rw [← c2]
           rfl)
  · obtain ⟨k, hk, rfl⟩ := nat_of (r := x) (n := 4) ⟨by omega, h6.2⟩
    have zk := nI_toInt (n := k) (by omega)
    have hk1 : 1 ≤ k := by have := h6.1; rw [zk] at this; omega
    refine k_iload2 (pc := 9) F dX8_hidden_9 ?_
    refine k_iconst (pc := 10) (v := nI 0) F dX8_hidden_10 (by decide) ?_
    refine k_iconst (pc := 11) (v := nI 5) F dX8_hidden_11 (by decide) ?_
    refine k_callS (pc := 12) F (c_X8_in mw_ok) ok_X8_59 rfl rfl (by decide) (by decide) (Nat.le_of_ble_eq_true rfl) dX8_hidden_12 (rI.use ?_)
    refine k_top (show _ = bI (inR y 6) from in0 5 (by decide)) ?_
    refine k_if_eqB (pc := 15) (tgt := 31) F dX8_hidden_15 (by decide) (fun h15 => ?_) (fun h15 => ?_)
    · refine k_iconst (pc := 31) (v := nI 0) F dX8_hidden_31 (by decide) ?_
      refine k_zret (pc := 32) F dX8_hidden_32 (by decide) ?_
      refine ⟨_, rfl, ?_, hI0⟩
      rw [aHidden, bI_f]
      · rfl
      · intro q
        first
        | exact h15 q.2.1
        | (refine h6 ⟨?_, q.1.2⟩
           rcases Int.lt_or_eq_of_le q.1.1 with c2 | c2
           · omega
           · exfalso
             apply q.2.2.1
             show x.toInt.toNat = 0
             rw [← c2]
             rfl)
    · obtain ⟨p, hp, rfl⟩ := nat_of h15
      refine k_aload0 (pc := 18) F dX8_hidden_18 ?_
      refine k_iload1 (pc := 19) F dX8_hidden_19 ?_
      refine k_iload2 (pc := 20) F dX8_hidden_20 ?_
      refine k_callV (pc := 21) (q0 := 0) F (c_X8_shiftPairs hA (k := k) (p := p) hk hp) ok_X8_70 rfl rfl rfl rfl rfl (by decide) (by decide) (Nat.le_of_ble_eq_true rfl) dX8_hidden_21 (rI.use ?_)
      have eo : ounz c s t n p k = oun c s t n p k n := if_neg (by omega)
      rw [eo]
      have hb := oun_le c s t n p k n
      have hb2 : n * n ≤ 30 * 30 := Nat.mul_le_mul hn hn
      refine k_if_neN (pc := 24) (tgt := 31) F dX8_hidden_24 (by decide) (by omega) (fun h24 => ?_) (fun h24 => ?_)
      · refine k_iconst (pc := 31) (v := nI 0) F dX8_hidden_31 (by decide) ?_
        refine k_zret (pc := 32) F dX8_hidden_32 (by decide) ?_
        refine ⟨_, rfl, ?_, hI0.scr (fun q hq => up_n (by omega)) (fun _ _ => rfl)⟩
        rw [aHidden, bI_f]
        · rfl
        · intro q
          have q3 := q.2.2.2
          unfold cN at q3
          rw [nI_clamp (by omega), nI_clamp (by omega)] at q3
          exact h24 q3
      · refine k_iconst (pc := 27) (v := nI 1) F dX8_hidden_27 (by decide) ?_
        refine k_goto (pc := 28) (tgt := 32) F dX8_hidden_28 (by decide) ?_
        refine k_zret (pc := 32) F dX8_hidden_32 (by decide) ?_
        refine ⟨_, rfl, ?_, hI0.scr (fun q hq => up_n (by omega)) (fun _ _ => rfl)⟩
        rw [aHidden, bI_t]
        · rfl
        · refine ⟨⟨by omega, h6.2⟩, h15, ?_⟩
          unfold cN
          rw [nI_clamp (by omega), nI_clamp (by omega)]
          exact ⟨by omega, h24⟩

set_option maxHeartbeats 4000000 in
theorem c_X8_score {l : Launch} {D : va_G} {cI : ClassId} {ad : Nat → Nat} {iv : IV} {ar : AR} {n : Nat} {c : Nat → Nat} {s t : Nat → Int32} {set : Int32} {lim m : Nat} {g : Nat → Nat} {tt : Nat} {rt : Nat → Int32} (hI : MI n c s t set lim m g tt rt iv ar) {x y : Int32} : Ct l D cI (mw cI ad) yX8_score cX8_score 3 (some .int) 3 72 [.ref (ad 0), .int x, .int y] iv ar (qI (fun x2 iv2 ar2 => x2 = aScore n c s t x y ∧ MI n c s t set lim m g tt rt iv2 ar2)) := by
  refine Ct.of (lv := [some (.ref (ad 0)), some (.int x), some (.int y)]) mw_ok (plainFor_of_name (by decide)) (Nat.le_of_ble_eq_true rfl) 0 rfl rfl (fun Z F => ?_)
  have hI0 := hI
  obtain ⟨hA, hT, hSp, hG, hset, hlim, hl2, htt, ht2, hrt⟩ := hI
  have hn := hA.2.1
  have hm8 := hG.2.1
  refine k_aload0 (pc := 0) F dX8_score_0 ?_
  refine k_iload1 (pc := 1) F dX8_score_1 ?_
  refine k_callV (pc := 2) (q0 := 0) F (c_X8_isRecording hA.1 hA.2.1) ok_X8_63 rfl rfl rfl rfl rfl (by decide) (by decide) (Nat.le_of_ble_eq_true rfl) dX8_score_2 (rI.use ?_)
  refine k_if_eqB (pc := 5) (tgt := 21) F dX8_score_5 (by decide) (fun h5 => ?_) (fun h5 => ?_)
  · refine k_iconst (pc := 21) (v := -1) F dX8_score_21 (by decide) ?_
    refine k_iret (pc := 22) F dX8_score_22 ?_
    refine ⟨_, rfl, ?_, hI0⟩
    rw [aScore, if_neg]
    exact fun q => by first | exact h5 q.1 | exact h13 q.2.1 | exact q.2.2 h18
  · refine k_aload0 (pc := 8) F dX8_score_8 ?_
    refine k_iload2 (pc := 9) F dX8_score_9 ?_
    refine k_callV (pc := 10) (q0 := 0) F (c_X8_isRecording hA.1 hA.2.1) ok_X8_63 rfl rfl rfl rfl rfl (by decide) (by decide) (Nat.le_of_ble_eq_true rfl) dX8_score_10 (rI.use ?_)
    refine k_if_eqB (pc := 13) (tgt := 21) F dX8_score_13 (by decide) (fun h13 => ?_) (fun h13 => ?_)
    · refine k_iconst (pc := 21) (v := -1) F dX8_score_21 (by decide) ?_
      refine k_iret (pc := 22) F dX8_score_22 ?_
      refine ⟨_, rfl, ?_, hI0⟩
      rw [aScore, if_neg]
      exact fun q => by first | exact h5 q.1 | exact h13 q.2.1 | exact q.2.2 h18
    · refine k_iload1 (pc := 16) F dX8_score_16 ?_
      refine k_iload2 (pc := 17) F dX8_score_17 ?_
      refine k_icmp_ne (pc := 18) (tgt := 23) F dX8_score_18 (by decide) (fun h18 => ?_) (fun h18 => ?_)
      · obtain ⟨a, ha, rfl⟩ := nat_of h5
        obtain ⟨b, hb, rfl⟩ := nat_of h13
        refine k_aload0 (pc := 23) F dX8_score_23 ?_
        refine k_callV (pc := 24) (q0 := 0) F (c_X8_reckons hA hT) ok_X8_78 rfl rfl rfl rfl rfl (by decide) (by decide) (Nat.le_of_ble_eq_true rfl) dX8_score_24 (qV.use (fun ivR arR hR => ?_))
        obtain ⟨r1, r2, r3⟩ := hR
        have hA1 : MArc n c s t ivR arR := hA.keep (r1 0 (by decide)) (r2 0 (by decide)) (r2 1 (by decide)) (r2 2 (by decide))
        refine k_aload0 (pc := 27) F dX8_score_27 ?_
        refine k_iload1 (pc := 28) F dX8_score_28 ?_
        refine k_iload2 (pc := 29) F dX8_score_29 ?_
        refine k_callV (pc := 30) (q0 := 0) F (cm_scoreOf hA1 r3 (a := a) (b := b) ha hb) ok_X8_81 rfl rfl rfl rfl rfl (by decide) (by decide) (Nat.le_of_ble_eq_true rfl) dX8_score_30 (rI.use ?_)
        refine k_iret (pc := 33) F dX8_score_33 ?_
        refine ⟨_, rfl, ?_, hI0.scr (fun q hq => r1 q (by omega)) (fun q hq => r2 q (by omega))⟩
        rw [aScore, if_pos ⟨h5, h13, h18⟩]
        unfold cN
        rw [nI_clamp (by omega), nI_clamp (by omega)]
      · refine k_iconst (pc := 21) (v := -1) F dX8_score_21 (by decide) ?_
        refine k_iret (pc := 22) F dX8_score_22 ?_
        refine ⟨_, rfl, ?_, hI0⟩
        rw [aScore, if_neg]
        exact fun q => by first | exact h5 q.1 | exact h13 q.2.1 | exact q.2.2 h18

set_option maxHeartbeats 4000000 in
theorem c_X8_band {l : Launch} {D : va_G} {cI : ClassId} {ad : Nat → Nat} {iv : IV} {ar : AR} {n : Nat} {c : Nat → Nat} {s t : Nat → Int32} {set : Int32} {lim m : Nat} {g : Nat → Nat} {tt : Nat} {rt : Nat → Int32} (hI : MI n c s t set lim m g tt rt iv ar) {x y : Int32} : Ct l D cI (mw cI ad) yX8_band cX8_band 3 (some .int) 4 95 [.ref (ad 0), .int x, .int y] iv ar (qI (fun x2 iv2 ar2 => x2 = aBand n c s t set x y ∧ MI n c s t set lim m g tt rt iv2 ar2)) := by
  refine Ct.of (lv := [some (.ref (ad 0)), some (.int x), some (.int y)]) mw_ok (plainFor_of_name (by decide)) (Nat.le_of_ble_eq_true rfl) 0 rfl rfl (fun Z F => ?_)
  have hI0 := hI
  obtain ⟨hA, hT, hSp, hG, hset, hlim, hl2, htt, ht2, hrt⟩ := hI
  have hn := hA.2.1
  have hm8 := hG.2.1
  refine k_iload1 (pc := 0) F dX8_band_0 ?_
  refine k_iconst (pc := 1) (v := nI 0) F dX8_band_1 (by decide) ?_
  refine k_bipush (pc := 2) (v := nI 9) F dX8_band_2 (by decide) ?_
  refine k_callS (pc := 4) F (c_X8_in mw_ok) ok_X8_59 rfl rfl (by decide) (by decide) (Nat.le_of_ble_eq_true rfl) dX8_band_4 (rI.use ?_)
  refine k_top (show _ = bI (inR x 10) from in0 9 (by decide)) ?_
  refine k_if_eqB (pc := 7) (tgt := 19) F dX8_band_7 (by decide) (fun h7 => ?_) (fun h7 => ?_)
  · refine k_iconst (pc := 19) (v := -1) F dX8_band_19 (by decide) ?_
    refine k_iret (pc := 20) F dX8_band_20 ?_
    refine ⟨_, rfl, ?_, hI0⟩
    rw [aBand]
    first
    | rw [if_neg h7]
    | (have y0 : ¬ y = 0 := fun e => h16 (by rw [e]; decide)
       have y1 : ¬ y = 1 := fun e => h16 (by rw [e]; decide)
       rw [if_pos h7]
       first
       | rw [if_neg y0, if_neg y1]
       | (split
          · rfl
          · rw [if_neg y0, if_neg y1]))
  · obtain ⟨k, hk, rfl⟩ := nat_of h7
    refine k_iload2 (pc := 10) F dX8_band_10 ?_
    refine k_iconst (pc := 11) (v := nI 0) F dX8_band_11 (by decide) ?_
    refine k_iconst (pc := 12) (v := nI 1) F dX8_band_12 (by decide) ?_
    refine k_callS (pc := 13) F (c_X8_in mw_ok) ok_X8_59 rfl rfl (by decide) (by decide) (Nat.le_of_ble_eq_true rfl) dX8_band_13 (rI.use ?_)
    refine k_top (show _ = bI (inR y 2) from in0 1 (by decide)) ?_
    refine k_if_neB (pc := 16) (tgt := 21) F dX8_band_16 (by decide) (fun h16 => ?_) (fun h16 => ?_)
    · obtain ⟨q, hq, rfl⟩ := nat_of h16
      refine k_aload0 (pc := 21) F dX8_band_21 ?_
      refine k_callV (pc := 22) (q0 := 0) F (c_X8_counts hA hT hset) ok_X8_95 rfl rfl rfl rfl rfl (by decide) (by decide) (Nat.le_of_ble_eq_true rfl) dX8_band_22 (qV.use (fun ivR arR hR => ?_))
      obtain ⟨r1, r2, r3, r4⟩ := hR
      refine k_iload2 (pc := 25) F dX8_band_25 ?_
      refine k_if_neN (pc := 26) (tgt := 38) F dX8_band_26 (by decide) (by omega) (fun h26 => ?_) (fun h26 => ?_)
      · refine k_aload0 (pc := 38) F dX8_band_38 ?_
        refine g_X8_other (pc := 39) F dX8_band_39 ?_
        refine k_iload1 (pc := 42) F dX8_band_42 ?_
        refine l_m7 (pc := 43) F (by omega) rfl dX8_band_43 ?_
        refine k_iret (pc := 44) F dX8_band_44 ?_
        refine ⟨_, rfl, ?_, hI0.scr (fun q hq => r1 q (by omega)) (fun q hq => r2 q (by omega))⟩
        first
        | (subst h26
           rw [aBand, if_pos h7, if_pos (by decide)]
           unfold cN
           rw [nI_clamp (by omega)]
           exact r4.1 k hk)
        | (have e : q = 1 := by omega
           subst e
           rw [aBand, if_pos h7, if_neg (by decide), if_pos (by decide)]
           unfold cN
           rw [nI_clamp (by omega)]
           exact r4.2 k hk)
      · refine k_aload0 (pc := 29) F dX8_band_29 ?_
        refine g_X8_same (pc := 30) F dX8_band_30 ?_
        refine k_iload1 (pc := 33) F dX8_band_33 ?_
        refine l_m6 (pc := 34) F (by omega) rfl dX8_band_34 ?_
        refine k_goto (pc := 35) (tgt := 44) F dX8_band_35 (by decide) ?_
        refine k_iret (pc := 44) F dX8_band_44 ?_
        refine ⟨_, rfl, ?_, hI0.scr (fun q hq => r1 q (by omega)) (fun q hq => r2 q (by omega))⟩
        first
        | (subst h26
           rw [aBand, if_pos h7, if_pos (by decide)]
           unfold cN
           rw [nI_clamp (by omega)]
           exact r4.1 k hk)
        | (have e : q = 1 := by omega
           subst e
           rw [aBand, if_pos h7, if_neg (by decide), if_pos (by decide)]
           unfold cN
           rw [nI_clamp (by omega)]
           exact r4.2 k hk)
    · refine k_iconst (pc := 19) (v := -1) F dX8_band_19 (by decide) ?_
      refine k_iret (pc := 20) F dX8_band_20 ?_
      refine ⟨_, rfl, ?_, hI0⟩
      rw [aBand]
      first
      | rw [if_neg h7]
      | (have y0 : ¬ y = 0 := fun e => h16 (by rw [e]; decide)
         have y1 : ¬ y = 1 := fun e => h16 (by rw [e]; decide)
         rw [if_pos h7]
         first
         | rw [if_neg y0, if_neg y1]
         | (split
            · rfl
            · rw [if_neg y0, if_neg y1]))

set_option maxHeartbeats 4000000 in
theorem c_X8_block {l : Launch} {D : va_G} {cI : ClassId} {ad : Nat → Nat} {iv : IV} {ar : AR} {n : Nat} {c : Nat → Nat} {s t : Nat → Int32} {set : Int32} {lim m : Nat} {g : Nat → Nat} {tt : Nat} {rt : Nat → Int32} (hI : MI n c s t set lim m g tt rt iv ar) {x y : Int32} : Ct l D cI (mw cI ad) yX8_block cX8_block 5 (some .int) 5 119 [.ref (ad 0), .int x, .int y] iv ar (qI (fun x2 iv2 ar2 => x2 = aBlock n c s t set x y ∧ MI n c s t set lim m g tt rt iv2 ar2)) := by
  refine Ct.of (lv := [some (.ref (ad 0)), some (.int x), some (.int y), none, none]) mw_ok (plainFor_of_name (by decide)) (Nat.le_of_ble_eq_true rfl) 2 rfl rfl (fun Z F => ?_)
  have hI0 := hI
  obtain ⟨hA, hT, hSp, hG, hset, hlim, hl2, htt, ht2, hrt⟩ := hI
  have hn := hA.2.1
  have hm8 := hG.2.1
  refine k_iload1 (pc := 0) F dX8_block_0 ?_
  refine k_iconst (pc := 1) (v := nI 0) F dX8_block_1 (by decide) ?_
  refine k_bipush (pc := 2) (v := nI 9) F dX8_block_2 (by decide) ?_
  refine k_callS (pc := 4) F (c_X8_in mw_ok) ok_X8_59 rfl rfl (by decide) (by decide) (Nat.le_of_ble_eq_true rfl) dX8_block_4 (rI.use ?_)
  refine k_top (show _ = bI (inR x 10) from in0 9 (by decide)) ?_
  refine k_if_eqB (pc := 7) (tgt := 19) F dX8_block_7 (by decide) (fun h7 => ?_) (fun h7 => ?_)
  · refine k_iconst (pc := 19) (v := -1) F dX8_block_19 (by decide) ?_
    refine k_iret (pc := 20) F dX8_block_20 ?_
    refine ⟨_, rfl, ?_, hI0⟩
    rw [aBlock]
    first
    | rw [if_neg h7]
    | (have y0 : ¬ y = 0 := fun e => h16 (by rw [e]; decide)
       have y1 : ¬ y = 1 := fun e => h16 (by rw [e]; decide)
       rw [if_pos h7]
       first
       | rw [if_neg y0, if_neg y1]
       | (split
          · rfl
          · rw [if_neg y0, if_neg y1]))
  · obtain ⟨k, hk, rfl⟩ := nat_of h7
    refine k_iload2 (pc := 10) F dX8_block_10 ?_
    refine k_iconst (pc := 11) (v := nI 0) F dX8_block_11 (by decide) ?_
    refine k_iconst (pc := 12) (v := nI 1) F dX8_block_12 (by decide) ?_
    refine k_callS (pc := 13) F (c_X8_in mw_ok) ok_X8_59 rfl rfl (by decide) (by decide) (Nat.le_of_ble_eq_true rfl) dX8_block_13 (rI.use ?_)
    refine k_top (show _ = bI (inR y 2) from in0 1 (by decide)) ?_
    refine k_if_neB (pc := 16) (tgt := 21) F dX8_block_16 (by decide) (fun h16 => ?_) (fun h16 => ?_)
    · obtain ⟨q, hq, rfl⟩ := nat_of h16
      refine k_aload0 (pc := 21) F dX8_block_21 ?_
      refine k_callV (pc := 22) (q0 := 0) F (c_X8_blocks hA hT hset) ok_X8_105 rfl rfl rfl rfl rfl (by decide) (by decide) (Nat.le_of_ble_eq_true rfl) dX8_block_22 (qV.use (fun ivR arR hR => ?_))
      obtain ⟨r1, r2, r3, r4, r5⟩ := hR
      refine k_iload2 (pc := 25) F dX8_block_25 ?_
      refine k_if_eqN (pc := 26) (tgt := 39) F dX8_block_26 (by decide) (by omega) (fun h26 => ?_) (fun h26 => ?_)
      · subst h26
        refine k_aload0 (pc := 39) F dX8_block_39 ?_
        refine g_X8_first (pc := 40) F dX8_block_40 ?_
        refine k_iload1 (pc := 43) F dX8_block_43 ?_
        refine l_m8 (pc := 44) F (by omega) rfl dX8_block_44 ?_
        refine k_iret (pc := 45) F dX8_block_45 ?_
        refine ⟨_, rfl, ?_, hI0.scr (fun q hq => r1 q (by omega)) (fun q hq => r2 q (by omega))⟩
        have hfk := (r5.fbk hk).1
        rw [aBlock, if_pos h7]
        unfold cN
        rw [nI_clamp (by omega)]
        cases hf : fbk (cou (SC c s t n) s set n) k with
        | none => rw [hf] at hfk; exact hfk
        | some i =>
          rw [hf] at hfk
          first
          | (have hb := (r5.fbk hk).2 i hf
             exact absurd (hfk.symm.trans h36) (nI_ne_m1 (by omega)))
          | exact hfk
      · have e1 : q = 1 := by omega
        subst e1
        refine k_aload0 (pc := 29) F dX8_block_29 ?_
        refine g_X8_first (pc := 30) F dX8_block_30 ?_
        refine k_iload1 (pc := 33) F dX8_block_33 ?_
        refine l_m8 (pc := 34) F (by omega) rfl dX8_block_34 ?_
        refine k_iconst (pc := 35) (v := -1) F dX8_block_35 (by decide) ?_
        refine k_icmp_ne (pc := 36) (tgt := 46) F dX8_block_36 (by decide) (fun h36 => ?_) (fun h36 => ?_)
        · refine k_iload1 (pc := 46) F dX8_block_46 ?_
          refine k_istore3 (pc := 47) F (by decide) dX8_block_47 ?_
          refine k_iload1 (pc := 48) F dX8_block_48 ?_
          refine k_istore4 (pc := 49) F (by decide) dX8_block_49 ?_
          have L51 : ∀ (fu : Nat) (j L : Nat), 10 - j < fu → k ≤ j → j ≤ 10 → L < 10 → arR 8 L = arR 8 k → (∀ z, L < z → z < j → ¬ arR 8 z = arR 8 k) → Z 51 [some (.ref (ad 0)), some (.int (nI k)), some (.int (nI 1)), some (.int (nI L)), some (.int (nI j))] [] ivR arR := by
            intro fu
            induction fu with
            | zero => intro j L hfu; exact absurd hfu (Nat.not_lt_zero _)
            | succ fu ih =>
              intro j L hfu hj hj2 hL hL2 hL3
              refine k_iload4 (pc := 51) F dX8_block_51 ?_
              refine k_bipush (pc := 53) (v := nI 10) F dX8_block_53 (by decide) ?_
              refine k_icmp_geN (pc := 55) (tgt := 83) F dX8_block_55 (by decide) (by omega) (by omega) (fun h55 => ?_) (fun h55 => ?_)
              · refine k_iload3 (pc := 83) F dX8_block_83 ?_
                refine k_iret (pc := 84) F dX8_block_84 ?_
                refine ⟨_, rfl, ?_, hI0.scr (fun q hq => r1 q (by omega)) (fun q hq => r2 q (by omega))⟩
                have hfk := r5.fbk hk
                rw [aBlock, if_pos h7]
                unfold cN
                rw [nI_clamp (by omega)]
                cases hf : fbk (cou (SC c s t n) s set n) k with
                | none => rw [hf] at hfk; exact absurd hfk.1 h36
                | some i =>
                  rw [hf] at hfk
                  obtain ⟨hi, hb1, hb2⟩ := hfk.2 i rfl
                  have e8 : arR 8 k = nI (bf (blk (cou (SC c s t n) s set n)) i) := hfk.1
                  have hbl := r5.2.1 i hi
                  have hmem := (Rl.mem (Nat.le_refl 10) r5 hi hL).mp (hL2.trans e8)
                  have hlast := (Rl.mem (Nat.le_refl 10) r5 hi hbl.2.1).mpr ⟨hbl.1, Nat.le_refl _, hbl.2.2.2⟩
                  show nI L = nI (bl (blk (cou (SC c s t n) s set n)) i)
                  refine congrArg nI ?_
                  rcases Nat.lt_or_ge L (bl (blk (cou (SC c s t n) s set n)) i) with q2 | q2
                  · exact absurd (hlast.trans e8.symm) (hL3 _ q2 (by omega))
                  · omega
              · refine k_aload0 (pc := 58) F dX8_block_58 ?_
                refine g_X8_first (pc := 59) F dX8_block_59 ?_
                refine k_iload4 (pc := 62) F dX8_block_62 ?_
                refine l_m8 (pc := 64) F (by omega) rfl dX8_block_64 ?_
                refine k_aload0 (pc := 65) F dX8_block_65 ?_
                refine g_X8_first (pc := 66) F dX8_block_66 ?_
                refine k_iload1 (pc := 69) F dX8_block_69 ?_
                refine l_m8 (pc := 70) F (by omega) rfl dX8_block_70 ?_
                refine k_icmp_ne (pc := 71) (tgt := 77) F dX8_block_71 (by decide) (fun h71 => ?_) (fun h71 => ?_)
                · refine k_iinc4 (pc := 77) F (by decide) dX8_block_77 (inc_N _) ?_
                  refine k_goto (pc := 80) (tgt := 51) F dX8_block_80 (by decide) ?_
                  exact ih (j + 1) L (by omega) (by omega) (by omega) hL hL2 (fun z h1 h2 => by
                    by_cases e : z = j
                    · subst e; exact h71
                    · exact hL3 z h1 (by omega))
                · refine k_iload4 (pc := 74) F dX8_block_74 ?_
                  refine k_istore3 (pc := 76) F (by decide) dX8_block_76 ?_
                  refine k_iinc4 (pc := 77) F (by decide) dX8_block_77 (inc_N _) ?_
                  refine k_goto (pc := 80) (tgt := 51) F dX8_block_80 (by decide) ?_
                  exact ih (j + 1) j (by omega) (by omega) (by omega) (by omega) h71 (fun z h1 h2 => by omega)
          exact L51 11 k k (by omega) (by omega) (by omega) hk rfl (fun z h1 h2 => by omega)
        · refine k_aload0 (pc := 39) F dX8_block_39 ?_
          refine g_X8_first (pc := 40) F dX8_block_40 ?_
          refine k_iload1 (pc := 43) F dX8_block_43 ?_
          refine l_m8 (pc := 44) F (by omega) rfl dX8_block_44 ?_
          refine k_iret (pc := 45) F dX8_block_45 ?_
          refine ⟨_, rfl, ?_, hI0.scr (fun q hq => r1 q (by omega)) (fun q hq => r2 q (by omega))⟩
          have hfk := (r5.fbk hk).1
          rw [aBlock, if_pos h7]
          unfold cN
          rw [nI_clamp (by omega)]
          cases hf : fbk (cou (SC c s t n) s set n) k with
          | none => rw [hf] at hfk; exact hfk
          | some i =>
            rw [hf] at hfk
            first
            | (have hb := (r5.fbk hk).2 i hf
               exact absurd (hfk.symm.trans h36) (nI_ne_m1 (by omega)))
            | exact hfk
    · refine k_iconst (pc := 19) (v := -1) F dX8_block_19 (by decide) ?_
      refine k_iret (pc := 20) F dX8_block_20 ?_
      refine ⟨_, rfl, ?_, hI0⟩
      rw [aBlock]
      first
      | rw [if_neg h7]
      | (have y0 : ¬ y = 0 := fun e => h16 (by rw [e]; decide)
         have y1 : ¬ y = 1 := fun e => h16 (by rw [e]; decide)
         rw [if_pos h7]
         first
         | rw [if_neg y0, if_neg y1]
         | (split
            · rfl
            · rw [if_neg y0, if_neg y1]))

set_option maxHeartbeats 4000000 in
theorem c_X8_odds {l : Launch} {D : va_G} {cI : ClassId} {ad : Nat → Nat} {iv : IV} {ar : AR} {n : Nat} {c : Nat → Nat} {s t : Nat → Int32} {set : Int32} {lim m : Nat} {g : Nat → Nat} {tt : Nat} {rt : Nat → Int32} (hI : MI n c s t set lim m g tt rt iv ar) {x y : Int32} : Ct l D cI (mw cI ad) yX8_odds cX8_odds 4 (some .int) 5 119 [.ref (ad 0), .int x, .int y] iv ar (qI (fun x2 iv2 ar2 => x2 = aOdds n c s t set x y ∧ MI n c s t set lim m g tt rt iv2 ar2)) := by
  refine Ct.of (lv := [some (.ref (ad 0)), some (.int x), some (.int y), none]) mw_ok (plainFor_of_name (by decide)) (Nat.le_of_ble_eq_true rfl) 1 rfl rfl (fun Z F => ?_)
  have hI0 := hI
  obtain ⟨hA, hT, hSp, hG, hset, hlim, hl2, htt, ht2, hrt⟩ := hI
  have hn := hA.2.1
  have hm8 := hG.2.1
  refine k_iload1 (pc := 0) F dX8_odds_0 ?_
  refine k_if_ge (pc := 1) (tgt := 6) F dX8_odds_1 (by decide) (fun h1 => ?_) (fun h1 => ?_)
  · have h1b : 0 ≤ x.toInt := by rw [i_le, toInt_0] at h1; exact h1
    obtain ⟨v, hv, rfl⟩ := nI_of (x := x) (by rw [i_lt, toInt_0]; omega)
    have hbv := bnd_lt v
    refine k_aload0 (pc := 6) F dX8_odds_6 ?_
    refine k_callV (pc := 7) (q0 := 0) F (c_X8_blocks hA hT hset) ok_X8_105 rfl rfl rfl rfl rfl (by decide) (by decide) (Nat.le_of_ble_eq_true rfl) dX8_odds_7 (qV.use (fun ivR arR hR => ?_))
    obtain ⟨r1, r2, r3, r4, r5⟩ := hR
    refine k_aload0 (pc := 10) F dX8_odds_10 ?_
    refine g_X8_first (pc := 11) F dX8_odds_11 ?_
    refine k_iload1 (pc := 14) F dX8_odds_14 ?_
    refine k_callS (pc := 15) F (c_X8_bandOf mw_ok (v := v) hv) ok_X8_87 rfl rfl (by decide) (by decide) (Nat.le_of_ble_eq_true rfl) dX8_odds_15 (rI.use ?_)
    refine l_m8 (pc := 18) F (by omega) rfl dX8_odds_18 ?_
    have hfk := r5.fbk hbv
    rcases hf : fbk (cou (SC c s t n) s set n) (bnd v) with _ | i
    · rw [hf] at hfk
      refine k_top (y := -1) hfk.1 ?_
      refine k_istore3 (pc := 19) F (by decide) dX8_odds_19 ?_
      refine k_iload3 (pc := 20) F dX8_odds_20 ?_
      refine k_iconst (pc := 21) (v := -1) F dX8_odds_21 (by decide) ?_
      refine k_icmp_ne (pc := 22) (tgt := 27) F dX8_odds_22 (by decide) (fun h => absurd h (by decide)) (fun _ => ?_)
      refine k_iconst (pc := 25) (v := -1) F dX8_odds_25 (by decide) ?_
      refine k_iret (pc := 26) F dX8_odds_26 ?_
      refine ⟨_, rfl, ?_, hI0.scr (fun q hq => r1 q (by omega)) (fun q hq => r2 q (by omega))⟩
      rw [aOdds, if_pos h1b]
      unfold cN
      rw [nI_clamp (by omega)]
      rw [hf]
    · rw [hf] at hfk
      obtain ⟨hi, hb1, hb2⟩ := hfk.2 i rfl
      have hbl := r5.2.1 i hi
      have hbb := blk_bd (w := (cou (SC c s t n) s set n)) (cou_ok hn) hi
      refine k_top (y := nI (bf (blk (cou (SC c s t n) s set n)) i)) hfk.1 ?_
      refine k_istore3 (pc := 19) F (by decide) dX8_odds_19 ?_
      refine k_iload3 (pc := 20) F dX8_odds_20 ?_
      refine k_iconst (pc := 21) (v := -1) F dX8_odds_21 (by decide) ?_
      have z22 : ¬ (nI (bf (blk (cou (SC c s t n) s set n)) i) = -1) := nI_ne_m1 (by omega)
      refine k_icmp_ne (pc := 22) (tgt := 27) F dX8_odds_22 (by decide) (fun _ => ?_) (fun h => absurd h z22)
      refine k_iload2 (pc := 27) F dX8_odds_27 ?_
      by_cases s28_0 : y = 0
      · subst s28_0
        refine k_tin (pc := 28) (tgt := 64) F dX8_odds_28 (by decide) (by decide) rfl (by decide) ?_
        refine k_aload0 (pc := 64) F dX8_odds_64 ?_
        refine k_iload3 (pc := 65) F dX8_odds_65 ?_
        refine k_iconst (pc := 66) (v := nI 1) F dX8_odds_66 (by decide) ?_
        refine k_callV (pc := 67) (q0 := 0) F (c_X8_sumOf1 r4) ok_X8_91 rfl rfl rfl rfl rfl (by decide) (by decide) (Nat.le_of_ble_eq_true rfl) dX8_odds_67 (rI.use ?_)
        refine k_top (congrArg nI (r5.sum1 hi)) ?_
        refine k_iret (pc := 70) F dX8_odds_70 ?_
        refine ⟨_, rfl, ?_, hI0.scr (fun q hq => r1 q (by omega)) (fun q hq => r2 q (by omega))⟩
        rw [aOdds, if_pos h1b]
        unfold cN
        rw [nI_clamp (by omega)]
        rw [hf]
        rfl
      · by_cases s28_1 : y = 1
        · subst s28_1
          refine k_tin (pc := 28) (tgt := 71) F dX8_odds_28 (by decide) (by decide) rfl (by decide) ?_
          refine k_aload0 (pc := 71) F dX8_odds_71 ?_
          refine g_X8_same (pc := 72) F dX8_odds_72 ?_
          refine k_callS (pc := 75) F (c_X8_all6 r4) ok_X8_108 rfl rfl (by decide) (by decide) (Nat.le_of_ble_eq_true rfl) dX8_odds_75 (rI.use ?_)
          refine k_iret (pc := 78) F dX8_odds_78 ?_
          refine ⟨_, rfl, ?_, hI0.scr (fun q hq => r1 q (by omega)) (fun q hq => r2 q (by omega))⟩
          rw [aOdds, if_pos h1b]
          unfold cN
          rw [nI_clamp (by omega)]
          rw [hf]
          rfl
        · by_cases s28_2 : y = 2
          · subst s28_2
            refine k_tin (pc := 28) (tgt := 79) F dX8_odds_28 (by decide) (by decide) rfl (by decide) ?_
            refine k_aload0 (pc := 79) F dX8_odds_79 ?_
            refine k_iload3 (pc := 80) F dX8_odds_80 ?_
            refine k_iconst (pc := 81) (v := nI 0) F dX8_odds_81 (by decide) ?_
            refine k_callV (pc := 82) (q0 := 0) F (c_X8_sumOf0 r4) ok_X8_91 rfl rfl rfl rfl rfl (by decide) (by decide) (Nat.le_of_ble_eq_true rfl) dX8_odds_82 (rI.use ?_)
            refine k_top (congrArg nI (r5.sum2 hi)) ?_
            refine k_iret (pc := 85) F dX8_odds_85 ?_
            refine ⟨_, rfl, ?_, hI0.scr (fun q hq => r1 q (by omega)) (fun q hq => r2 q (by omega))⟩
            rw [aOdds, if_pos h1b]
            unfold cN
            rw [nI_clamp (by omega)]
            rw [hf]
            rfl
          · by_cases s28_3 : y = 3
            · subst s28_3
              refine k_tin (pc := 28) (tgt := 86) F dX8_odds_28 (by decide) (by decide) rfl (by decide) ?_
              refine k_aload0 (pc := 86) F dX8_odds_86 ?_
              refine g_X8_other (pc := 87) F dX8_odds_87 ?_
              refine k_callS (pc := 90) F (c_X8_all7 r4) ok_X8_108 rfl rfl (by decide) (by decide) (Nat.le_of_ble_eq_true rfl) dX8_odds_90 (rI.use ?_)
              refine k_iret (pc := 93) F dX8_odds_93 ?_
              refine ⟨_, rfl, ?_, hI0.scr (fun q hq => r1 q (by omega)) (fun q hq => r2 q (by omega))⟩
              rw [aOdds, if_pos h1b]
              unfold cN
              rw [nI_clamp (by omega)]
              rw [hf]
              rfl
            · by_cases s28_4 : y = 4
              · subst s28_4
                refine k_tin (pc := 28) (tgt := 94) F dX8_odds_28 (by decide) (by decide) rfl (by decide) ?_
                refine k_aload0 (pc := 94) F dX8_odds_94 ?_
                refine k_iload3 (pc := 95) F dX8_odds_95 ?_
                refine k_iconst (pc := 96) (v := nI 1) F dX8_odds_96 (by decide) ?_
                refine k_callV (pc := 97) (q0 := 0) F (c_X8_sumOf1 r4) ok_X8_91 rfl rfl rfl rfl rfl (by decide) (by decide) (Nat.le_of_ble_eq_true rfl) dX8_odds_97 (rI.use ?_)
                refine k_top (congrArg nI (r5.sum1 hi)) ?_
                refine k_if_leN (pc := 100) (tgt := 116) F dX8_odds_100 (by decide) (by omega) (fun h100 => ?_) (fun h100 => ?_)
                · refine k_iconst (pc := 116) (v := nI 0) F dX8_odds_116 (by decide) ?_
                  refine k_iret (pc := 117) F dX8_odds_117 ?_
                  refine ⟨_, rfl, ?_, hI0.scr (fun q hq => r1 q (by omega)) (fun q hq => r2 q (by omega))⟩
                  rw [aOdds, if_pos h1b]
                  unfold cN
                  rw [nI_clamp (by omega)]
                  rw [hf]
                  exact (bI_f (fun q => by first | exact q.1 h100 | exact q.2 h109)).symm
                · refine k_aload0 (pc := 103) F dX8_odds_103 ?_
                  refine k_iload3 (pc := 104) F dX8_odds_104 ?_
                  refine k_iconst (pc := 105) (v := nI 0) F dX8_odds_105 (by decide) ?_
                  refine k_callV (pc := 106) (q0 := 0) F (c_X8_sumOf0 r4) ok_X8_91 rfl rfl rfl rfl rfl (by decide) (by decide) (Nat.le_of_ble_eq_true rfl) dX8_odds_106 (rI.use ?_)
                  refine k_top (congrArg nI (r5.sum2 hi)) ?_
                  refine k_if_leN (pc := 109) (tgt := 116) F dX8_odds_109 (by decide) (by omega) (fun h109 => ?_) (fun h109 => ?_)
                  · refine k_iconst (pc := 116) (v := nI 0) F dX8_odds_116 (by decide) ?_
                    refine k_iret (pc := 117) F dX8_odds_117 ?_
                    refine ⟨_, rfl, ?_, hI0.scr (fun q hq => r1 q (by omega)) (fun q hq => r2 q (by omega))⟩
                    rw [aOdds, if_pos h1b]
                    unfold cN
                    rw [nI_clamp (by omega)]
                    rw [hf]
                    exact (bI_f (fun q => by first | exact q.1 h100 | exact q.2 h109)).symm
                  · refine k_iconst (pc := 112) (v := nI 1) F dX8_odds_112 (by decide) ?_
                    refine k_goto (pc := 113) (tgt := 117) F dX8_odds_113 (by decide) ?_
                    refine k_iret (pc := 117) F dX8_odds_117 ?_
                    refine ⟨_, rfl, ?_, hI0.scr (fun q hq => r1 q (by omega)) (fun q hq => r2 q (by omega))⟩
                    rw [aOdds, if_pos h1b]
                    unfold cN
                    rw [nI_clamp (by omega)]
                    rw [hf]
                    exact (bI_t ⟨Nat.ne_of_gt h100, Nat.ne_of_gt h109⟩).symm
              · have t28_0 := lv_neT s28_0 (a := 0) (by decide)
                have t28_1 := lv_neT s28_1 (a := 1) (by decide)
                have t28_2 := lv_neT s28_2 (a := 2) (by decide)
                have t28_3 := lv_neT s28_3 (a := 3) (by decide)
                have t28_4 := lv_neT s28_4 (a := 4) (by decide)
                refine k_tout (pc := 28) (tgt := 118) F dX8_odds_28 (by omega) (by decide) ?_
                refine k_iconst (pc := 118) (v := -1) F dX8_odds_118 (by decide) ?_
                refine k_iret (pc := 119) F dX8_odds_119 ?_
                refine ⟨_, rfl, ?_, hI0.scr (fun q hq => r1 q (by omega)) (fun q hq => r2 q (by omega))⟩
                rw [aOdds, if_pos h1b]
                unfold cN
                rw [nI_clamp (by omega)]
                rw [hf]
                show _ = if y = 0 then _ else if y = 1 then _ else if y = 2 then _ else if y = 3 then _ else if y = 4 then _ else _
                rw [if_neg s28_0, if_neg s28_1, if_neg s28_2, if_neg s28_3, if_neg s28_4]
  · refine k_iconst (pc := 4) (v := -1) F dX8_odds_4 (by decide) ?_
    refine k_iret (pc := 5) F dX8_odds_5 ?_
    refine ⟨_, rfl, ?_, hI0⟩
    rw [aOdds, if_neg]
    rw [i_le, toInt_0] at h1
    exact h1

set_option maxHeartbeats 4000000 in
theorem c_X8_segment {l : Launch} {D : va_G} {cI : ClassId} {ad : Nat → Nat} {iv : IV} {ar : AR} {n : Nat} {c : Nat → Nat} {s t : Nat → Int32} {set : Int32} {lim m : Nat} {g : Nat → Nat} {tt : Nat} {rt : Nat → Int32} (hI : MI n c s t set lim m g tt rt iv ar) {x : Int32} : Ct l D cI (mw cI ad) yX8_segment cX8_segment 3 (some .int) 2 43 [.ref (ad 0), .int x] iv ar (qI (fun x2 iv2 ar2 => Sp (inR x n ∧ m < 8 ∧ lsB (fun k => nI (g k)) x m = false) x2 (nI (m + 1)) (-1) (MI n c s t set lim (m + 1) (va_up g m (cN x)) tt rt iv2 ar2) (MI n c s t set lim m g tt rt iv2 ar2))) := by
  refine Ct.of (lv := [some (.ref (ad 0)), some (.int x), none]) mw_ok (plainFor_of_name (by decide)) (Nat.le_of_ble_eq_true rfl) 1 rfl rfl (fun Z F => ?_)
  have hI0 := hI
  obtain ⟨hA, hT, hSp, hG, hset, hlim, hl2, htt, ht2, hrt⟩ := hI
  have hn := hA.2.1
  have hm8 := hG.2.1
  have els : lsB (ar 3) x m = lsB (fun k => nI (g k)) x m := lsB_congr m (fun k hk => (hG.2.2 k hk).1)
  refine k_aload0 (pc := 0) F dX8_segment_0 ?_
  refine k_iload1 (pc := 1) F dX8_segment_1 ?_
  refine k_callV (pc := 2) (q0 := 0) F (c_X8_isRecording hA.1 hA.2.1) ok_X8_63 rfl rfl rfl rfl rfl (by decide) (by decide) (Nat.le_of_ble_eq_true rfl) dX8_segment_2 (rI.use ?_)
  refine k_if_eqB (pc := 5) (tgt := 17) F dX8_segment_5 (by decide) (fun h5 => ?_) (fun h5 => ?_)
  · refine k_iconst (pc := 17) (v := -1) F dX8_segment_17 (by decide) ?_
    refine k_iret (pc := 18) F dX8_segment_18 ?_
    exact ⟨_, rfl, Or.inr ⟨fun q => by first | exact h5 q.1 | (have := q.2.1; omega), rfl, hI0⟩⟩
  · refine k_aload0 (pc := 8) F dX8_segment_8 ?_
    refine g_X8_segments (pc := 9) F (hG.1) dX8_segment_9 ?_
    refine k_bipush (pc := 12) (v := nI 8) F dX8_segment_12 (by decide) ?_
    refine k_icmp_neN (pc := 14) (tgt := 19) F dX8_segment_14 (by decide) (by omega) (by omega) (fun h14 => ?_) (fun h14 => ?_)
    · refine k_iconst (pc := 19) (v := nI 0) F dX8_segment_19 (by decide) ?_
      refine k_istore2 (pc := 20) F (by decide) dX8_segment_20 ?_
      have L21 : ∀ (fu : Nat) (k : Nat), m - k < fu → k ≤ m → lsB (ar 3) x k = false → Z 21 [some (.ref (ad 0)), some (.int x), some (.int (nI k))] [] iv ar := by
        intro fu
        induction fu with
        | zero => intro k hfu; exact absurd hfu (Nat.not_lt_zero _)
        | succ fu ih =>
          intro k hfu hk hf
          refine k_iload2 (pc := 21) F dX8_segment_21 ?_
          refine k_aload0 (pc := 22) F dX8_segment_22 ?_
          refine g_X8_segments (pc := 23) F (hG.1) dX8_segment_23 ?_
          refine k_icmp_geN (pc := 26) (tgt := 47) F dX8_segment_26 (by decide) (by omega) (by omega) (fun h26 => ?_) (fun h26 => ?_)
          · refine k_aload0 (pc := 47) F dX8_segment_47 ?_
            refine g_X8_segment (pc := 48) F dX8_segment_48 ?_
            refine k_aload0 (pc := 51) F dX8_segment_51 ?_
            refine g_X8_segments (pc := 52) F (hG.1) dX8_segment_52 ?_
            refine k_iload1 (pc := 55) F dX8_segment_55 ?_
            refine s_m3 (pc := 56) F (by omega) (rfl) dX8_segment_56 ?_
            refine k_aload0 (pc := 57) F dX8_segment_57 ?_
            refine k_dup (pc := 58) F dX8_segment_58 rfl ?_
            refine g_X8_segments (pc := 59) F (hG.1) dX8_segment_59 ?_
            refine k_iconst (pc := 62) (v := nI 1) F dX8_segment_62 (by decide) ?_
            refine k_iaddN (pc := 63) F dX8_segment_63 ?_
            refine p_X8_segments (pc := 64) F dX8_segment_64 ?_
            refine k_aload0 (pc := 67) F dX8_segment_67 ?_
            refine g_X8_segments (pc := 68) F (up_s) dX8_segment_68 ?_
            refine k_iret (pc := 71) F dX8_segment_71 ?_
            have e : k = m := by omega
            subst e
            rw [els] at hf
            obtain ⟨r, hr, rfl⟩ := nat_of h5
            refine ⟨_, rfl, Or.inl ⟨⟨h5, by omega, hf⟩, rfl, ?_⟩⟩
            unfold cN
            rw [nI_clamp (by omega)]
            exact hI0.seg hr (by omega)
          · refine k_aload0 (pc := 29) F dX8_segment_29 ?_
            refine g_X8_segment (pc := 30) F dX8_segment_30 ?_
            refine k_iload2 (pc := 33) F dX8_segment_33 ?_
            refine l_m3 (pc := 34) F (by omega) rfl dX8_segment_34 ?_
            refine k_iload1 (pc := 35) F dX8_segment_35 ?_
            refine k_icmp_ne (pc := 36) (tgt := 41) F dX8_segment_36 (by decide) (fun h36 => ?_) (fun h36 => ?_)
            · refine k_iinc2 (pc := 41) F (by decide) dX8_segment_41 (inc_N _) ?_
              refine k_goto (pc := 44) (tgt := 21) F dX8_segment_44 (by decide) ?_
              exact ih (k + 1) (by omega) (by omega) (by rw [lsB, hf]; simp [h36])
            · refine k_iconst (pc := 39) (v := -1) F dX8_segment_39 (by decide) ?_
              refine k_iret (pc := 40) F dX8_segment_40 ?_
              exact ⟨_, rfl, Or.inr ⟨fun q => by first | (have e := lsB_t h36 m (by omega); rw [els, q.2.2] at e; cases e), rfl, hI0⟩⟩
      exact L21 (m + 1) 0 (by omega) (by omega) rfl
    · refine k_iconst (pc := 17) (v := -1) F dX8_segment_17 (by decide) ?_
      refine k_iret (pc := 18) F dX8_segment_18 ?_
      exact ⟨_, rfl, Or.inr ⟨fun q => by first | exact h5 q.1 | (have := q.2.1; omega), rfl, hI0⟩⟩

set_option maxHeartbeats 4000000 in
theorem c_X8_clear {l : Launch} {D : va_G} {cI : ClassId} {ad : Nat → Nat} {iv : IV} {ar : AR} {n : Nat} {c : Nat → Nat} {s t : Nat → Int32} {set : Int32} {lim m : Nat} {g : Nat → Nat} {tt : Nat} {rt : Nat → Int32} (hI : MI n c s t set lim m g tt rt iv ar)  : Ct l D cI (mw cI ad) yX8_clear cX8_clear 2 (some .int) 0 0 [.ref (ad 0)] iv ar (qI (fun x2 iv2 ar2 => x2 = nI m ∧ MI n c s t set lim 0 g tt rt iv2 ar2)) := by
  refine Ct.of (lv := [some (.ref (ad 0)), none]) mw_ok (plainFor_of_name (by decide)) (Nat.le_of_ble_eq_true rfl) 1 rfl rfl (fun Z F => ?_)
  have hI0 := hI
  obtain ⟨hA, hT, hSp, hG, hset, hlim, hl2, htt, ht2, hrt⟩ := hI
  have hn := hA.2.1
  have hm8 := hG.2.1
  refine k_aload0 (pc := 0) F dX8_clear_0 ?_
  refine g_X8_segments (pc := 1) F (hG.1) dX8_clear_1 ?_
  refine k_istore1 (pc := 4) F (by decide) dX8_clear_4 ?_
  refine k_aload0 (pc := 5) F dX8_clear_5 ?_
  refine k_iconst (pc := 6) (v := nI 0) F dX8_clear_6 (by decide) ?_
  refine p_X8_segments (pc := 7) F dX8_clear_7 ?_
  refine k_iload1 (pc := 10) F dX8_clear_10 ?_
  refine k_iret (pc := 11) F dX8_clear_11 ?_
  exact ⟨_, rfl, rfl, hI0.clr⟩

set_option maxHeartbeats 4000000 in
theorem c_X8_voice {l : Launch} {D : va_G} {cI : ClassId} {ad : Nat → Nat} {iv : IV} {ar : AR} {n : Nat} {c : Nat → Nat} {s t : Nat → Int32} {set : Int32} {lim m : Nat} {g : Nat → Nat} {tt : Nat} {rt : Nat → Int32} (hI : MI n c s t set lim m g tt rt iv ar) {x : Int32} : Ct l D cI (mw cI ad) yX8_voice cX8_voice 2 (some .int) 5 122 [.ref (ad 0), .int x] iv ar (qI (fun x2 iv2 ar2 => x2 = aVoice n c s t lim m g x ∧ MI n c s t set lim m g tt rt iv2 ar2)) := by
  refine Ct.of (lv := [some (.ref (ad 0)), some (.int x)]) mw_ok (plainFor_of_name (by decide)) (Nat.le_of_ble_eq_true rfl) 0 rfl rfl (fun Z F => ?_)
  have hI0 := hI
  obtain ⟨hA, hT, hSp, hG, hset, hlim, hl2, htt, ht2, hrt⟩ := hI
  have hn := hA.2.1
  have hm8 := hG.2.1
  refine k_iload1 (pc := 0) F dX8_voice_0 ?_
  refine k_iconst (pc := 1) (v := nI 0) F dX8_voice_1 (by decide) ?_
  refine k_aload0 (pc := 2) F dX8_voice_2 ?_
  refine g_X8_segments (pc := 3) F (hG.1) dX8_voice_3 ?_
  refine k_iconst (pc := 6) (v := nI 1) F dX8_voice_6 (by decide) ?_
  refine k_isub (pc := 7) F dX8_voice_7 ?_
  refine k_callS (pc := 8) F (c_X8_in mw_ok) ok_X8_59 rfl rfl (by decide) (by decide) (Nat.le_of_ble_eq_true rfl) dX8_voice_8 (rI.use ?_)
  refine k_top (inM m (by omega)) ?_
  refine k_if_neB (pc := 11) (tgt := 16) F dX8_voice_11 (by decide) (fun h11 => ?_) (fun h11 => ?_)
  · obtain ⟨k, hk, rfl⟩ := nat_of h11
    refine k_aload0 (pc := 16) F dX8_voice_16 ?_
    refine k_callV (pc := 17) (q0 := 0) F (c_X8_joins hA hT hG hl2 hlim) ok_X8_124 rfl rfl rfl rfl rfl (by decide) (by decide) (Nat.le_of_ble_eq_true rfl) dX8_voice_17 (qV.use (fun ivJ arJ hJ => ?_))
    obtain ⟨j1, j2, j3, j4⟩ := hJ
    refine k_aload0 (pc := 20) F dX8_voice_20 ?_
    refine g_X8_voice (pc := 21) F dX8_voice_21 ?_
    refine k_iload1 (pc := 24) F dX8_voice_24 ?_
    refine l_m10 (pc := 25) F (by omega) rfl dX8_voice_25 ?_
    refine k_iret (pc := 26) F dX8_voice_26 ?_
    refine ⟨_, rfl, ?_, hI0.scr (fun q hq => j1 q (by omega) (by omega)) (fun q hq => j2 q (by omega) (by omega) (by omega))⟩
    rw [aVoice, if_pos h11]
    unfold cN
    rw [nI_clamp (by omega)]
    exact j3 k hk
  · refine k_iconst (pc := 14) (v := -1) F dX8_voice_14 (by decide) ?_
    refine k_iret (pc := 15) F dX8_voice_15 ?_
    exact ⟨_, rfl, (if_neg h11).symm, hI0⟩

set_option maxHeartbeats 4000000 in
theorem c_X8_voices {l : Launch} {D : va_G} {cI : ClassId} {ad : Nat → Nat} {iv : IV} {ar : AR} {n : Nat} {c : Nat → Nat} {s t : Nat → Int32} {set : Int32} {lim m : Nat} {g : Nat → Nat} {tt : Nat} {rt : Nat → Int32} (hI : MI n c s t set lim m g tt rt iv ar)  : Ct l D cI (mw cI ad) yX8_voices cX8_voices 3 (some .int) 5 122 [.ref (ad 0)] iv ar (qI (fun x2 iv2 ar2 => x2 = nI (cvN (vcs (Tg c s t n g) m lim) m) ∧ MI n c s t set lim m g tt rt iv2 ar2)) := by
  refine Ct.of (lv := [some (.ref (ad 0)), none, none]) mw_ok (plainFor_of_name (by decide)) (Nat.le_of_ble_eq_true rfl) 2 rfl rfl (fun Z F => ?_)
  have hI0 := hI
  obtain ⟨hA, hT, hSp, hG, hset, hlim, hl2, htt, ht2, hrt⟩ := hI
  have hn := hA.2.1
  have hm8 := hG.2.1
  refine k_aload0 (pc := 0) F dX8_voices_0 ?_
  refine k_callV (pc := 1) (q0 := 0) F (c_X8_joins hA hT hG hl2 hlim) ok_X8_124 rfl rfl rfl rfl rfl (by decide) (by decide) (Nat.le_of_ble_eq_true rfl) dX8_voices_1 (qV.use (fun ivJ arJ hJ => ?_))
  obtain ⟨j1, j2, j3, j4⟩ := hJ
  refine k_iconst (pc := 4) (v := nI 0) F dX8_voices_4 (by decide) ?_
  refine k_istore1 (pc := 5) F (by decide) dX8_voices_5 ?_
  refine k_iconst (pc := 6) (v := nI 0) F dX8_voices_6 (by decide) ?_
  refine k_istore2 (pc := 7) F (by decide) dX8_voices_7 ?_
  have L8 : ∀ (fu : Nat) (k : Nat), m - k < fu → k ≤ m → Z 8 [some (.ref (ad 0)), some (.int (nI (cvN (vcs (Tg c s t n g) m lim) k))), some (.int (nI k))] [] ivJ arJ := by
    intro fu
    induction fu with
    | zero => intro k hfu; exact absurd hfu (Nat.not_lt_zero _)
    | succ fu ih =>
      intro k hfu hk
      refine k_iload2 (pc := 8) F dX8_voices_8 ?_
      refine k_aload0 (pc := 9) F dX8_voices_9 ?_
      refine g_X8_segments (pc := 10) F ((j1 3 (by decide) (by decide)).trans hG.1) dX8_voices_10 ?_
      refine k_icmp_geN (pc := 13) (tgt := 40) F dX8_voices_13 (by decide) (by omega) (by omega) (fun h13 => ?_) (fun h13 => ?_)
      · refine k_iload1 (pc := 40) F dX8_voices_40 ?_
        refine k_iret (pc := 41) F dX8_voices_41 ?_
        have e : k = m := by omega
        subst e
        exact ⟨_, rfl, rfl, hI0.scr (fun q hq => j1 q (by omega) (by omega)) (fun q hq => j2 q (by omega) (by omega) (by omega))⟩
      · have hvk := j4 k (by omega)
        refine k_iload1 (pc := 16) F dX8_voices_16 ?_
        refine k_aload0 (pc := 17) F dX8_voices_17 ?_
        refine g_X8_voice (pc := 18) F dX8_voices_18 ?_
        refine k_iload2 (pc := 21) F dX8_voices_21 ?_
        refine l_m10 (pc := 22) F (by omega) (j3 k (by omega)) dX8_voices_22 ?_
        refine k_iload2 (pc := 23) F dX8_voices_23 ?_
        refine k_icmp_neN (pc := 24) (tgt := 31) F dX8_voices_24 (by decide) (by omega) (by omega) (fun h24 => ?_) (fun h24 => ?_)
        · refine k_iconst (pc := 31) (v := nI 0) F dX8_voices_31 (by decide) ?_
          refine k_iaddN (pc := 32) F dX8_voices_32 ?_
          refine k_istore1 (pc := 33) F (by decide) dX8_voices_33 ?_
          refine k_iinc2 (pc := 34) F (by decide) dX8_voices_34 (inc_N _) ?_
          refine k_goto (pc := 37) (tgt := 8) F dX8_voices_37 (by decide) ?_
          have e : cvN (vcs (Tg c s t n g) m lim) (k + 1) = cvN (vcs (Tg c s t n g) m lim) k + 0 := if_neg h24
          have kk := ih (k + 1) (by omega) (by omega)
          rw [e] at kk
          exact kk
        · refine k_iconst (pc := 27) (v := nI 1) F dX8_voices_27 (by decide) ?_
          refine k_goto (pc := 28) (tgt := 32) F dX8_voices_28 (by decide) ?_
          refine k_iaddN (pc := 32) F dX8_voices_32 ?_
          refine k_istore1 (pc := 33) F (by decide) dX8_voices_33 ?_
          refine k_iinc2 (pc := 34) F (by decide) dX8_voices_34 (inc_N _) ?_
          refine k_goto (pc := 37) (tgt := 8) F dX8_voices_37 (by decide) ?_
          have e : cvN (vcs (Tg c s t n g) m lim) (k + 1) = cvN (vcs (Tg c s t n g) m lim) k + 1 := if_pos h24
          have kk := ih (k + 1) (by omega) (by omega)
          rw [e] at kk
          exact kk
  exact L8 (m + 1) 0 (by omega) (by omega)

set_option maxHeartbeats 4000000 in
theorem c_X8_lined {l : Launch} {D : va_G} {cI : ClassId} {ad : Nat → Nat} {iv : IV} {ar : AR} {n : Nat} {c : Nat → Nat} {s t : Nat → Int32} {set : Int32} {lim m : Nat} {g : Nat → Nat} {tt : Nat} {rt : Nat → Int32} (hI : MI n c s t set lim m g tt rt iv ar) {x y : Int32} : Ct l D cI (mw cI ad) yX8_lined cX8_lined 3 (some .int) 4 97 [.ref (ad 0), .int x, .int y] iv ar (qI (fun x2 iv2 ar2 => x2 = aLined n c s t set x y ∧ MI n c s t set lim m g tt rt iv2 ar2)) := by
  refine Ct.of (lv := [some (.ref (ad 0)), some (.int x), some (.int y)]) mw_ok (plainFor_of_name (by decide)) (Nat.le_of_ble_eq_true rfl) 0 rfl rfl (fun Z F => ?_)
  have hI0 := hI
  obtain ⟨hA, hT, hSp, hG, hset, hlim, hl2, htt, ht2, hrt⟩ := hI
  have hn := hA.2.1
  have hm8 := hG.2.1
  refine k_aload0 (pc := 0) F dX8_lined_0 ?_
  refine k_iload1 (pc := 1) F dX8_lined_1 ?_
  refine k_callV (pc := 2) (q0 := 0) F (c_X8_isRecording hA.1 hA.2.1) ok_X8_63 rfl rfl rfl rfl rfl (by decide) (by decide) (Nat.le_of_ble_eq_true rfl) dX8_lined_2 (rI.use ?_)
  refine k_if_eqB (pc := 5) (tgt := 32) F dX8_lined_5 (by decide) (fun h5 => ?_) (fun h5 => ?_)
  · refine k_iconst (pc := 32) (v := -1) F dX8_lined_32 (by decide) ?_
    refine k_iret (pc := 33) F dX8_lined_33 ?_
    exact ⟨_, rfl, (if_neg h5).symm, hI0⟩
  · obtain ⟨a, ha, rfl⟩ := nat_of h5
    have ec : cN (nI a) = a := nI_clamp (by omega)
    refine k_iload2 (pc := 8) F dX8_lined_8 ?_
    refine k_iconst (pc := 9) (v := nI 0) F dX8_lined_9 (by decide) ?_
    refine k_aload0 (pc := 10) F dX8_lined_10 ?_
    refine k_iload1 (pc := 11) F dX8_lined_11 ?_
    refine k_callV (pc := 12) (q0 := 0) F (c_X8_lines hA hT (a := a) ha hset) ok_X8_130 rfl rfl rfl rfl rfl (by decide) (by decide) (Nat.le_of_ble_eq_true rfl) dX8_lined_12 (qI.use (fun xJ ivJ arJ hJ => ?_))
    obtain ⟨j1, j2, j3, j4⟩ := hJ
    have hlin := lin_ok (fun b => SC c s t n a b) s set a n
    refine k_top j3 ?_
    refine k_iconst (pc := 15) (v := nI 1) F dX8_lined_15 (by decide) ?_
    refine k_isub (pc := 16) F dX8_lined_16 ?_
    refine k_callS (pc := 17) F (c_X8_in mw_ok) ok_X8_59 rfl rfl (by decide) (by decide) (Nat.le_of_ble_eq_true rfl) dX8_lined_17 (rI.use ?_)
    refine k_top (inM (lin (fun b => SC c s t n a b) s set a n).1 (by omega)) ?_
    refine k_if_eqB (pc := 20) (tgt := 32) F dX8_lined_20 (by decide) (fun h20 => ?_) (fun h20 => ?_)
    · refine k_iconst (pc := 32) (v := -1) F dX8_lined_32 (by decide) ?_
      refine k_iret (pc := 33) F dX8_lined_33 ?_
      refine ⟨_, rfl, ?_, hI0.scr (fun q hq => j1 q (by omega)) (fun q hq => j2 q (by omega) (by omega))⟩
      rw [aLined, if_pos h5, ec, if_neg h20]
    · obtain ⟨j, hj, rfl⟩ := nat_of h20
      refine k_aload0 (pc := 23) F dX8_lined_23 ?_
      refine g_X8_line (pc := 24) F dX8_lined_24 ?_
      refine k_iload2 (pc := 27) F dX8_lined_27 ?_
      refine l_m12 (pc := 28) F (by omega) rfl dX8_lined_28 ?_
      refine k_goto (pc := 29) (tgt := 33) F dX8_lined_29 (by decide) ?_
      refine k_iret (pc := 33) F dX8_lined_33 ?_
      refine ⟨_, rfl, ?_, hI0.scr (fun q hq => j1 q (by omega)) (fun q hq => j2 q (by omega) (by omega))⟩
      rw [aLined, if_pos h5, ec, if_pos h20]
      unfold cN
      rw [nI_clamp (by omega)]
      exact j4 j hj

set_option maxHeartbeats 4000000 in
theorem c_X8_rank {l : Launch} {D : va_G} {cI : ClassId} {ad : Nat → Nat} {iv : IV} {ar : AR} {n : Nat} {c : Nat → Nat} {s t : Nat → Int32} {set : Int32} {lim m : Nat} {g : Nat → Nat} {tt : Nat} {rt : Nat → Int32} (hI : MI n c s t set lim m g tt rt iv ar) {x y : Int32} : Ct l D cI (mw cI ad) yX8_rank cX8_rank 8 (some .int) 4 97 [.ref (ad 0), .int x, .int y] iv ar (qI (fun x2 iv2 ar2 => x2 = aRank n c s t set x y ∧ MI n c s t set lim m g tt rt iv2 ar2)) := by
  refine Ct.of (lv := [some (.ref (ad 0)), some (.int x), some (.int y), none, none, none, none, none]) mw_ok (plainFor_of_name (by decide)) (Nat.le_of_ble_eq_true rfl) 5 rfl rfl (fun Z F => ?_)
  have hI0 := hI
  obtain ⟨hA, hT, hSp, hG, hset, hlim, hl2, htt, ht2, hrt⟩ := hI
  have hn := hA.2.1
  have hm8 := hG.2.1
  refine k_aload0 (pc := 0) F dX8_rank_0 ?_
  refine k_iload1 (pc := 1) F dX8_rank_1 ?_
  refine k_callV (pc := 2) (q0 := 0) F (c_X8_isRecording hA.1 hA.2.1) ok_X8_63 rfl rfl rfl rfl rfl (by decide) (by decide) (Nat.le_of_ble_eq_true rfl) dX8_rank_2 (rI.use ?_)
  refine k_if_eqB (pc := 5) (tgt := 18) F dX8_rank_5 (by decide) (fun h5 => ?_) (fun h5 => ?_)
  · refine k_iconst (pc := 18) (v := -1) F dX8_rank_18 (by decide) ?_
    refine k_iret (pc := 19) F dX8_rank_19 ?_
    refine ⟨_, rfl, ?_, hI0⟩
    rw [aRank, if_neg]
    exact fun q => by first | exact h5 q.1 | exact h15 q.2
  · obtain ⟨a, ha, rfl⟩ := nat_of h5
    have ec : cN (nI a) = a := nI_clamp (by omega)
    refine k_iload2 (pc := 8) F dX8_rank_8 ?_
    refine k_iconst (pc := 9) (v := nI 0) F dX8_rank_9 (by decide) ?_
    refine k_bipush (pc := 10) (v := nI 9) F dX8_rank_10 (by decide) ?_
    refine k_callS (pc := 12) F (c_X8_in mw_ok) ok_X8_59 rfl rfl (by decide) (by decide) (Nat.le_of_ble_eq_true rfl) dX8_rank_12 (rI.use ?_)
    refine k_top (show _ = bI (inR y 10) from in0 9 (by decide)) ?_
    refine k_if_neB (pc := 15) (tgt := 20) F dX8_rank_15 (by decide) (fun h15 => ?_) (fun h15 => ?_)
    · refine k_aload0 (pc := 20) F dX8_rank_20 ?_
      refine k_iload1 (pc := 21) F dX8_rank_21 ?_
      refine k_callV (pc := 22) (q0 := 0) F (c_X8_lines hA hT (a := a) ha hset) ok_X8_130 rfl rfl rfl rfl rfl (by decide) (by decide) (Nat.le_of_ble_eq_true rfl) dX8_rank_22 (qI.use (fun xJ ivJ arJ hJ => ?_))
      obtain ⟨j1, j2, j3, j4⟩ := hJ
      have hlin := lin_ok (fun b => SC c s t n a b) s set a n
      refine k_top j3 ?_
      refine k_istore3 (pc := 25) F (by decide) dX8_rank_25 ?_
      refine k_iconst (pc := 26) (v := nI 0) F dX8_rank_26 (by decide) ?_
      refine k_istore4 (pc := 27) F (by decide) dX8_rank_27 ?_
      refine k_iconst (pc := 29) (v := nI 0) F dX8_rank_29 (by decide) ?_
      refine k_istore5 (pc := 30) F (by decide) dX8_rank_30 ?_
      refine k_iconst (pc := 32) (v := nI 0) F dX8_rank_32 (by decide) ?_
      refine k_istore6 (pc := 33) F (by decide) dX8_rank_33 ?_
      have L35 : ∀ (fu : Nat) (i : Nat), (lin (fun b => SC c s t n a b) s set a n).1 - i < fu → i ≤ (lin (fun b => SC c s t n a b) s set a n).1 → rkF s (lin (fun b => SC c s t n a b) s set a n).2 y ((lin (fun b => SC c s t n a b) s set a n).1 - i) i = rkF s (lin (fun b => SC c s t n a b) s set a n).2 y (lin (fun b => SC c s t n a b) s set a n).1 0 → Z 35 [some (.ref (ad 0)), some (.int (nI a)), some (.int y), some (.int (nI (lin (fun b => SC c s t n a b) s set a n).1)), some (.int (nI (mkR s (lin (fun b => SC c s t n a b) s set a n).2 i))), some (.int (nI (pcN (mkR s (lin (fun b => SC c s t n a b) s set a n).2 i) 10))), some (.int (nI i)), none] [] ivJ arJ := by
        intro fu
        induction fu with
        | zero => intro i hfu; exact absurd hfu (Nat.not_lt_zero _)
        | succ fu ih =>
          intro i hfu hi he
          have hr : ∀ j, j < (lin (fun b => SC c s t n a b) s set a n).1 → ∃ q, q < 10 ∧ s ((lin (fun b => SC c s t n a b) s set a n).2 j) = nI q := fun j hj => (hSp _ (hlin.2 j hj).1).elim (fun q => absurd q (hlin.2 j hj).2.1.1) id
          have hmk := mkR_lt hr i hi
          refine k_iload6 (pc := 35) F dX8_rank_35 ?_
          refine k_iload3 (pc := 37) F dX8_rank_37 ?_
          refine k_icmp_geN (pc := 38) (tgt := 99) F dX8_rank_38 (by decide) (by omega) (by omega) (fun h38 => ?_) (fun h38 => ?_)
          · refine k_iconst (pc := 99) (v := -1) F dX8_rank_99 (by decide) ?_
            refine k_iret (pc := 100) F dX8_rank_100 ?_
            refine ⟨_, rfl, ?_, hI0.scr (fun q hq => j1 q (by omega)) (fun q hq => j2 q (by omega) (by omega))⟩
            rw [aRank, if_pos ⟨h5, h15⟩, ec, ← he, show (lin (fun b => SC c s t n a b) s set a n).1 - i = 0 by omega]
            rfl
          · have hri := (hlin.2 i (by omega)).1
            refine k_aload0 (pc := 41) F dX8_rank_41 ?_
            refine g_X8_speaker (pc := 42) F dX8_rank_42 ?_
            refine k_aload0 (pc := 45) F dX8_rank_45 ?_
            refine g_X8_line (pc := 46) F dX8_rank_46 ?_
            refine k_iload6 (pc := 49) F dX8_rank_49 ?_
            refine l_m12 (pc := 51) F (by omega) (j4 i (by omega)) dX8_rank_51 ?_
            refine l_m2 (pc := 52) F (by omega) ((congrFun (j2 2 (by decide) (by decide)) _).trans (hA.2.2.2.1 ((lin (fun b => SC c s t n a b) s set a n).2 i) hri)) dX8_rank_52 ?_
            obtain ⟨q, hq, eq⟩ := hr i (by omega)
            refine k_top eq ?_
            refine k_istore7 (pc := 53) F (by decide) dX8_rank_53 ?_
            refine k_iload7 (pc := 55) F dX8_rank_55 ?_
            refine k_iload2 (pc := 57) F dX8_rank_57 ?_
            refine k_icmp_ne (pc := 58) (tgt := 64) F dX8_rank_58 (by decide) (fun h58 => ?_) (fun h58 => ?_)
            · refine k_iload5 (pc := 64) F dX8_rank_64 ?_
              refine k_iload4 (pc := 66) F dX8_rank_66 ?_
              refine k_iload7 (pc := 68) F dX8_rank_68 ?_
              refine k_ishrN (pc := 70) F dX8_rank_70 (by omega) (by omega) ?_
              refine k_iconst (pc := 71) (v := nI 1) F dX8_rank_71 (by decide) ?_
              refine k_iandN (pc := 72) F dX8_rank_72 ?_
              have hbl := bit_le (a := mkR s (lin (fun b => SC c s t n a b) s set a n).2 i) (k := q)
              refine k_if_neN (pc := 73) (tgt := 80) F dX8_rank_73 (by decide) (by omega) (fun h73 => ?_) (fun h73 => ?_)
              · refine k_iconst (pc := 80) (v := nI 0) F dX8_rank_80 (by decide) ?_
                refine k_iaddN (pc := 81) F dX8_rank_81 ?_
                refine k_istore5 (pc := 82) F (by decide) dX8_rank_82 ?_
                refine k_iload4 (pc := 84) F dX8_rank_84 ?_
                refine k_iconst (pc := 86) (v := nI 1) F dX8_rank_86 (by decide) ?_
                refine k_iload7 (pc := 87) F dX8_rank_87 ?_
                refine k_ishlN (pc := 89) F dX8_rank_89 (by omega) ?_
                refine k_iorN (pc := 90) F dX8_rank_90 ?_
                refine k_istore4 (pc := 91) F (by decide) dX8_rank_91 ?_
                refine k_iinc6 (pc := 93) F (by decide) dX8_rank_93 (inc_N _) ?_
                refine k_goto (pc := 96) (tgt := 35) F dX8_rank_96 (by decide) ?_
                refine k_fg7 (pc := 35) F ?_
                have e : rkF s (lin (fun b => SC c s t n a b) s set a n).2 y ((lin (fun b => SC c s t n a b) s set a n).1 - i) i = rkF s (lin (fun b => SC c s t n a b) s set a n).2 y ((lin (fun b => SC c s t n a b) s set a n).1 - (i + 1)) (i + 1) := by
                  rw [show (lin (fun b => SC c s t n a b) s set a n).1 - i = ((lin (fun b => SC c s t n a b) s set a n).1 - (i + 1)) + 1 by omega, rkF, eq, if_neg h58]
                have kk := ih (i + 1) (by omega) (by omega) (by rw [← e]; exact he)
                rw [show mkR s (lin (fun b => SC c s t n a b) s set a n).2 (i + 1) = mkR s (lin (fun b => SC c s t n a b) s set a n).2 i ||| 2 ^ q from by rw [mkR, eq, nI_clamp (by omega)], pcN_or, if_neg (fun z => by have := bit1.mp (Nat.le_antisymm bit_le (Nat.pos_of_ne_zero h73)); exact z.2 this)] at kk
                exact kk
              · refine k_iconst (pc := 76) (v := nI 1) F dX8_rank_76 (by decide) ?_
                refine k_goto (pc := 77) (tgt := 81) F dX8_rank_77 (by decide) ?_
                refine k_iaddN (pc := 81) F dX8_rank_81 ?_
                refine k_istore5 (pc := 82) F (by decide) dX8_rank_82 ?_
                refine k_iload4 (pc := 84) F dX8_rank_84 ?_
                refine k_iconst (pc := 86) (v := nI 1) F dX8_rank_86 (by decide) ?_
                refine k_iload7 (pc := 87) F dX8_rank_87 ?_
                refine k_ishlN (pc := 89) F dX8_rank_89 (by omega) ?_
                refine k_iorN (pc := 90) F dX8_rank_90 ?_
                refine k_istore4 (pc := 91) F (by decide) dX8_rank_91 ?_
                refine k_iinc6 (pc := 93) F (by decide) dX8_rank_93 (inc_N _) ?_
                refine k_goto (pc := 96) (tgt := 35) F dX8_rank_96 (by decide) ?_
                refine k_fg7 (pc := 35) F ?_
                have e : rkF s (lin (fun b => SC c s t n a b) s set a n).2 y ((lin (fun b => SC c s t n a b) s set a n).1 - i) i = rkF s (lin (fun b => SC c s t n a b) s set a n).2 y ((lin (fun b => SC c s t n a b) s set a n).1 - (i + 1)) (i + 1) := by
                  rw [show (lin (fun b => SC c s t n a b) s set a n).1 - i = ((lin (fun b => SC c s t n a b) s set a n).1 - (i + 1)) + 1 by omega, rkF, eq, if_neg h58]
                have kk := ih (i + 1) (by omega) (by omega) (by rw [← e]; exact he)
                rw [show mkR s (lin (fun b => SC c s t n a b) s set a n).2 (i + 1) = mkR s (lin (fun b => SC c s t n a b) s set a n).2 i ||| 2 ^ q from by rw [mkR, eq, nI_clamp (by omega)], pcN_or, if_pos ⟨hq, by rw [bit0.mp h73]; decide⟩] at kk
                exact kk
            · refine k_iload5 (pc := 61) F dX8_rank_61 ?_
              refine k_iret (pc := 63) F dX8_rank_63 ?_
              refine ⟨_, rfl, ?_, hI0.scr (fun q hq => j1 q (by omega)) (fun q hq => j2 q (by omega) (by omega))⟩
              rw [aRank, if_pos ⟨h5, h15⟩, ec, ← he, show (lin (fun b => SC c s t n a b) s set a n).1 - i = ((lin (fun b => SC c s t n a b) s set a n).1 - i - 1) + 1 by omega, rkF, eq, if_pos h58]
      have kk := L35 ((lin (fun b => SC c s t n a b) s set a n).1 + 1) 0 (by omega) (by omega) rfl
      rw [show pcN (mkR s (lin (fun b => SC c s t n a b) s set a n).2 0) 10 = 0 from (by decide : pcN 0 10 = 0)] at kk
      exact kk
    · refine k_iconst (pc := 18) (v := -1) F dX8_rank_18 (by decide) ?_
      refine k_iret (pc := 19) F dX8_rank_19 ?_
      refine ⟨_, rfl, ?_, hI0⟩
      rw [aRank, if_neg]
      exact fun q => by first | exact h5 q.1 | exact h15 q.2

set_option maxHeartbeats 4000000 in
theorem c_X8_test {l : Launch} {D : va_G} {cI : ClassId} {ad : Nat → Nat} {iv : IV} {ar : AR} {n : Nat} {c : Nat → Nat} {s t : Nat → Int32} {set : Int32} {lim m : Nat} {g : Nat → Nat} {tt : Nat} {rt : Nat → Int32} (hI : MI n c s t set lim m g tt rt iv ar) {x y : Int32} : Ct l D cI (mw cI ad) yX8_test cX8_test 6 (some .int) 4 94 [.ref (ad 0), .int x, .int y] iv ar (qI (fun x2 iv2 ar2 => Sp (inR x n ∧ inR y n ∧ ¬ x = y ∧ ¬ s (cN x) = -1 ∧ ¬ s (cN y) = -1 ∧ tt < 60) x2 (says (SC c s t n (cN x) (cN y)) lim) (-1) (MI n c s t set lim m g (tt + 1) (upd rt (spot (SC c s t n (cN x) (cN y)) lim (s (cN x)) (s (cN y))) (rt (spot (SC c s t n (cN x) (cN y)) lim (s (cN x)) (s (cN y))) + nI 1)) iv2 ar2) (MI n c s t set lim m g tt rt iv2 ar2))) := by
  refine Ct.of (lv := [some (.ref (ad 0)), some (.int x), some (.int y), none, none, none]) mw_ok (plainFor_of_name (by decide)) (Nat.le_of_ble_eq_true rfl) 3 rfl rfl (fun Z F => ?_)
  have hI0 := hI
  obtain ⟨hA, hT, hSp, hG, hset, hlim, hl2, htt, ht2, hrt⟩ := hI
  have hn := hA.2.1
  have hm8 := hG.2.1
  refine k_aload0 (pc := 0) F dX8_test_0 ?_
  refine k_iload1 (pc := 1) F dX8_test_1 ?_
  refine k_callV (pc := 2) (q0 := 0) F (c_X8_isRecording hA.1 hA.2.1) ok_X8_63 rfl rfl rfl rfl rfl (by decide) (by decide) (Nat.le_of_ble_eq_true rfl) dX8_test_2 (rI.use ?_)
  refine k_if_eqB (pc := 5) (tgt := 50) F dX8_test_5 (by decide) (fun h5 => ?_) (fun h5 => ?_)
  · refine k_iconst (pc := 50) (v := -1) F dX8_test_50 (by decide) ?_
    refine k_iret (pc := 51) F dX8_test_51 ?_
    exact ⟨_, rfl, Or.inr ⟨fun q => by first | exact h5 q.1 | exact h13 q.2.1 | exact q.2.2.1 h18 | (rw [ea, eb] at q; exact q.2.2.2.1 h28) | (rw [ea, eb] at q; exact q.2.2.2.2.1 h38) | (have := q.2.2.2.2.2; omega), rfl, hI0⟩⟩
  · refine k_aload0 (pc := 8) F dX8_test_8 ?_
    refine k_iload2 (pc := 9) F dX8_test_9 ?_
    refine k_callV (pc := 10) (q0 := 0) F (c_X8_isRecording hA.1 hA.2.1) ok_X8_63 rfl rfl rfl rfl rfl (by decide) (by decide) (Nat.le_of_ble_eq_true rfl) dX8_test_10 (rI.use ?_)
    refine k_if_eqB (pc := 13) (tgt := 50) F dX8_test_13 (by decide) (fun h13 => ?_) (fun h13 => ?_)
    · refine k_iconst (pc := 50) (v := -1) F dX8_test_50 (by decide) ?_
      refine k_iret (pc := 51) F dX8_test_51 ?_
      exact ⟨_, rfl, Or.inr ⟨fun q => by first | exact h5 q.1 | exact h13 q.2.1 | exact q.2.2.1 h18 | (rw [ea, eb] at q; exact q.2.2.2.1 h28) | (rw [ea, eb] at q; exact q.2.2.2.2.1 h38) | (have := q.2.2.2.2.2; omega), rfl, hI0⟩⟩
    · refine k_iload1 (pc := 16) F dX8_test_16 ?_
      refine k_iload2 (pc := 17) F dX8_test_17 ?_
      refine k_icmp_eq (pc := 18) (tgt := 50) F dX8_test_18 (by decide) (fun h18 => ?_) (fun h18 => ?_)
      · refine k_iconst (pc := 50) (v := -1) F dX8_test_50 (by decide) ?_
        refine k_iret (pc := 51) F dX8_test_51 ?_
        exact ⟨_, rfl, Or.inr ⟨fun q => by first | exact h5 q.1 | exact h13 q.2.1 | exact q.2.2.1 h18 | (rw [ea, eb] at q; exact q.2.2.2.1 h28) | (rw [ea, eb] at q; exact q.2.2.2.2.1 h38) | (have := q.2.2.2.2.2; omega), rfl, hI0⟩⟩
      · obtain ⟨a, ha, rfl⟩ := nat_of h5
        obtain ⟨b, hb, rfl⟩ := nat_of h13
        have ea : cN (nI a) = a := nI_clamp (by omega)
        have eb : cN (nI b) = b := nI_clamp (by omega)
        refine k_aload0 (pc := 21) F dX8_test_21 ?_
        refine g_X8_speaker (pc := 22) F dX8_test_22 ?_
        refine k_iload1 (pc := 25) F dX8_test_25 ?_
        refine l_m2 (pc := 26) F (by omega) (hA.2.2.2.1 a ha) dX8_test_26 ?_
        refine k_iconst (pc := 27) (v := -1) F dX8_test_27 (by decide) ?_
        refine k_icmp_eq (pc := 28) (tgt := 50) F dX8_test_28 (by decide) (fun h28 => ?_) (fun h28 => ?_)
        · refine k_iconst (pc := 50) (v := -1) F dX8_test_50 (by decide) ?_
          refine k_iret (pc := 51) F dX8_test_51 ?_
          exact ⟨_, rfl, Or.inr ⟨fun q => by first | exact h5 q.1 | exact h13 q.2.1 | exact q.2.2.1 h18 | (rw [ea, eb] at q; exact q.2.2.2.1 h28) | (rw [ea, eb] at q; exact q.2.2.2.2.1 h38) | (have := q.2.2.2.2.2; omega), rfl, hI0⟩⟩
        · refine k_aload0 (pc := 31) F dX8_test_31 ?_
          refine g_X8_speaker (pc := 32) F dX8_test_32 ?_
          refine k_iload2 (pc := 35) F dX8_test_35 ?_
          refine l_m2 (pc := 36) F (by omega) (hA.2.2.2.1 b hb) dX8_test_36 ?_
          refine k_iconst (pc := 37) (v := -1) F dX8_test_37 (by decide) ?_
          refine k_icmp_eq (pc := 38) (tgt := 50) F dX8_test_38 (by decide) (fun h38 => ?_) (fun h38 => ?_)
          · refine k_iconst (pc := 50) (v := -1) F dX8_test_50 (by decide) ?_
            refine k_iret (pc := 51) F dX8_test_51 ?_
            exact ⟨_, rfl, Or.inr ⟨fun q => by first | exact h5 q.1 | exact h13 q.2.1 | exact q.2.2.1 h18 | (rw [ea, eb] at q; exact q.2.2.2.1 h28) | (rw [ea, eb] at q; exact q.2.2.2.2.1 h38) | (have := q.2.2.2.2.2; omega), rfl, hI0⟩⟩
          · refine k_aload0 (pc := 41) F dX8_test_41 ?_
            refine g_X8_tests (pc := 42) F (htt) dX8_test_42 ?_
            refine k_bipush (pc := 45) (v := nI 60) F dX8_test_45 (by decide) ?_
            refine k_icmp_neN (pc := 47) (tgt := 52) F dX8_test_47 (by decide) (by omega) (by omega) (fun h47 => ?_) (fun h47 => ?_)
            · refine k_aload0 (pc := 52) F dX8_test_52 ?_
              refine k_iload1 (pc := 53) F dX8_test_53 ?_
              refine k_iload2 (pc := 54) F dX8_test_54 ?_
              refine k_callV (pc := 55) (q0 := 0) F (c_X8_score hI0 (x := nI a) (y := nI b)) ok_X8_136 rfl rfl rfl rfl rfl (by decide) (by decide) (Nat.le_of_ble_eq_true rfl) dX8_test_55 (qI.use (fun xV ivV arV hV => ?_))
              obtain ⟨eV, hIV⟩ := hV
              have eV2 : xV = SC c s t n a b := by rw [eV, aScore, if_pos ⟨h5, h13, h18⟩, ea, eb]
              subst eV2
              have hAV := hIV.1
              refine k_istore3 (pc := 58) F (by decide) dX8_test_58 ?_
              refine k_iload3 (pc := 59) F dX8_test_59 ?_
              refine k_iconst (pc := 60) (v := -1) F dX8_test_60 (by decide) ?_
              refine k_icmp_ne (pc := 61) (tgt := 68) F dX8_test_61 (by decide) (fun h61 => ?_) (fun h61 => ?_)
              · refine k_iload3 (pc := 68) F dX8_test_68 ?_
                refine k_aload0 (pc := 69) F dX8_test_69 ?_
                refine g_X8_limit (pc := 70) F (hIV.2.2.2.2.2.1) dX8_test_70 ?_
                refine k_icmp_gt (pc := 73) (tgt := 80) F dX8_test_73 (by decide) (fun h73 => ?_) (fun h73 => ?_)
                · refine k_iconst (pc := 80) (v := nI 0) F dX8_test_80 (by decide) ?_
                  refine k_istore4 (pc := 81) F (by decide) dX8_test_81 ?_
                  refine k_aload0 (pc := 83) F dX8_test_83 ?_
                  refine g_X8_speaker (pc := 84) F dX8_test_84 ?_
                  refine k_iload1 (pc := 87) F dX8_test_87 ?_
                  refine l_m2 (pc := 88) F (by omega) (hAV.2.2.2.1 a ha) dX8_test_88 ?_
                  refine k_aload0 (pc := 89) F dX8_test_89 ?_
                  refine g_X8_speaker (pc := 90) F dX8_test_90 ?_
                  refine k_iload2 (pc := 93) F dX8_test_93 ?_
                  refine l_m2 (pc := 94) F (by omega) (hAV.2.2.2.1 b hb) dX8_test_94 ?_
                  refine k_icmp_ne (pc := 95) (tgt := 102) F dX8_test_95 (by decide) (fun h95 => ?_) (fun h95 => ?_)
                  · refine k_iconst (pc := 102) (v := nI 0) F dX8_test_102 (by decide) ?_
                    refine k_istore5 (pc := 103) F (by decide) dX8_test_103 ?_
                    refine k_aload0 (pc := 105) F dX8_test_105 ?_
                    refine k_dup (pc := 106) F dX8_test_106 rfl ?_
                    refine g_X8_tests (pc := 107) F (hIV.2.2.2.2.2.2.2.1) dX8_test_107 ?_
                    refine k_iconst (pc := 110) (v := nI 1) F dX8_test_110 (by decide) ?_
                    refine k_iaddN (pc := 111) F dX8_test_111 ?_
                    refine p_X8_tests (pc := 112) F dX8_test_112 ?_
                    refine k_aload0 (pc := 115) F dX8_test_115 ?_
                    refine g_X8_right (pc := 116) F dX8_test_116 ?_
                    refine k_iload4 (pc := 119) F dX8_test_119 ?_
                    refine k_iconst (pc := 121) (v := nI 2) F dX8_test_121 (by decide) ?_
                    refine k_icmp_ne (pc := 122) (tgt := 129) F dX8_test_122 (by decide) (fun _ => ?_) (fun h => absurd h (by decide))
                    refine k_iload4 (pc := 129) F dX8_test_129 ?_
                    refine k_iconst (pc := 131) (v := nI 1) F dX8_test_131 (by decide) ?_
                    refine k_icmp_ne (pc := 132) (tgt := 148) F dX8_test_132 (by decide) (fun _ => ?_) (fun h => absurd h (by decide))
                    refine k_iload5 (pc := 148) F dX8_test_148 ?_
                    refine k_if_eq (pc := 150) (tgt := 157) F dX8_test_150 (by decide) (fun _ => ?_) (fun h => absurd h (by decide))
                    refine k_iconst (pc := 157) (v := nI 2) F dX8_test_157 (by decide) ?_
                    refine k_dup2 (pc := 158) F dX8_test_158 rfl rfl ?_
                    refine l_m4 (pc := 159) F (by omega) rfl dX8_test_159 ?_
                    refine k_iconst (pc := 160) (v := nI 1) F dX8_test_160 (by decide) ?_
                    refine k_iadd (pc := 161) F dX8_test_161 ?_
                    refine s_m4 (pc := 162) F (by omega) (rfl) dX8_test_162 ?_
                    refine k_iload4 (pc := 163) F dX8_test_163 ?_
                    refine k_iret (pc := 165) F dX8_test_165 ?_
                    have hle : ¬ SC c s t n a b ≤ nI lim := by rw [i_le]; rw [i_lt] at h73; omega
                    have e1 : spot (SC c s t n a b) lim (s a) (s b) = 2 := by rw [spot, if_neg h61, if_neg hle, if_neg h95]
                    have e2 : says (SC c s t n a b) lim = nI 0 := by rw [says, if_neg h61, if_neg hle]
                    refine ⟨_, rfl, Or.inl ⟨?_, ?_, ?_⟩⟩
                    · rw [ea, eb]; exact ⟨h5, h13, h18, h28, h38, by omega⟩
                    · rw [ea, eb, e2]
                    · rw [ea, eb, e1]; exact hIV.tst (by omega) (by decide)
                  · refine k_iconst (pc := 98) (v := nI 1) F dX8_test_98 (by decide) ?_
                    refine k_goto (pc := 99) (tgt := 103) F dX8_test_99 (by decide) ?_
                    refine k_istore5 (pc := 103) F (by decide) dX8_test_103 ?_
                    refine k_aload0 (pc := 105) F dX8_test_105 ?_
                    refine k_dup (pc := 106) F dX8_test_106 rfl ?_
                    refine g_X8_tests (pc := 107) F (hIV.2.2.2.2.2.2.2.1) dX8_test_107 ?_
                    refine k_iconst (pc := 110) (v := nI 1) F dX8_test_110 (by decide) ?_
                    refine k_iaddN (pc := 111) F dX8_test_111 ?_
                    refine p_X8_tests (pc := 112) F dX8_test_112 ?_
                    refine k_aload0 (pc := 115) F dX8_test_115 ?_
                    refine g_X8_right (pc := 116) F dX8_test_116 ?_
                    refine k_iload4 (pc := 119) F dX8_test_119 ?_
                    refine k_iconst (pc := 121) (v := nI 2) F dX8_test_121 (by decide) ?_
                    refine k_icmp_ne (pc := 122) (tgt := 129) F dX8_test_122 (by decide) (fun _ => ?_) (fun h => absurd h (by decide))
                    refine k_iload4 (pc := 129) F dX8_test_129 ?_
                    refine k_iconst (pc := 131) (v := nI 1) F dX8_test_131 (by decide) ?_
                    refine k_icmp_ne (pc := 132) (tgt := 148) F dX8_test_132 (by decide) (fun _ => ?_) (fun h => absurd h (by decide))
                    refine k_iload5 (pc := 148) F dX8_test_148 ?_
                    refine k_if_eq (pc := 150) (tgt := 157) F dX8_test_150 (by decide) (fun h => absurd h (by decide)) (fun _ => ?_)
                    refine k_iconst (pc := 153) (v := nI 3) F dX8_test_153 (by decide) ?_
                    refine k_goto (pc := 154) (tgt := 158) F dX8_test_154 (by decide) ?_
                    refine k_dup2 (pc := 158) F dX8_test_158 rfl rfl ?_
                    refine l_m4 (pc := 159) F (by omega) rfl dX8_test_159 ?_
                    refine k_iconst (pc := 160) (v := nI 1) F dX8_test_160 (by decide) ?_
                    refine k_iadd (pc := 161) F dX8_test_161 ?_
                    refine s_m4 (pc := 162) F (by omega) (rfl) dX8_test_162 ?_
                    refine k_iload4 (pc := 163) F dX8_test_163 ?_
                    refine k_iret (pc := 165) F dX8_test_165 ?_
                    have hle : ¬ SC c s t n a b ≤ nI lim := by rw [i_le]; rw [i_lt] at h73; omega
                    have e1 : spot (SC c s t n a b) lim (s a) (s b) = 3 := by rw [spot, if_neg h61, if_neg hle, if_pos h95]
                    have e2 : says (SC c s t n a b) lim = nI 0 := by rw [says, if_neg h61, if_neg hle]
                    refine ⟨_, rfl, Or.inl ⟨?_, ?_, ?_⟩⟩
                    · rw [ea, eb]; exact ⟨h5, h13, h18, h28, h38, by omega⟩
                    · rw [ea, eb, e2]
                    · rw [ea, eb, e1]; exact hIV.tst (by omega) (by decide)
                · refine k_iconst (pc := 76) (v := nI 1) F dX8_test_76 (by decide) ?_
                  refine k_goto (pc := 77) (tgt := 81) F dX8_test_77 (by decide) ?_
                  refine k_istore4 (pc := 81) F (by decide) dX8_test_81 ?_
                  refine k_aload0 (pc := 83) F dX8_test_83 ?_
                  refine g_X8_speaker (pc := 84) F dX8_test_84 ?_
                  refine k_iload1 (pc := 87) F dX8_test_87 ?_
                  refine l_m2 (pc := 88) F (by omega) (hAV.2.2.2.1 a ha) dX8_test_88 ?_
                  refine k_aload0 (pc := 89) F dX8_test_89 ?_
                  refine g_X8_speaker (pc := 90) F dX8_test_90 ?_
                  refine k_iload2 (pc := 93) F dX8_test_93 ?_
                  refine l_m2 (pc := 94) F (by omega) (hAV.2.2.2.1 b hb) dX8_test_94 ?_
                  refine k_icmp_ne (pc := 95) (tgt := 102) F dX8_test_95 (by decide) (fun h95 => ?_) (fun h95 => ?_)
                  · refine k_iconst (pc := 102) (v := nI 0) F dX8_test_102 (by decide) ?_
                    refine k_istore5 (pc := 103) F (by decide) dX8_test_103 ?_
                    refine k_aload0 (pc := 105) F dX8_test_105 ?_
                    refine k_dup (pc := 106) F dX8_test_106 rfl ?_
                    refine g_X8_tests (pc := 107) F (hIV.2.2.2.2.2.2.2.1) dX8_test_107 ?_
                    refine k_iconst (pc := 110) (v := nI 1) F dX8_test_110 (by decide) ?_
                    refine k_iaddN (pc := 111) F dX8_test_111 ?_
                    refine p_X8_tests (pc := 112) F dX8_test_112 ?_
                    refine k_aload0 (pc := 115) F dX8_test_115 ?_
                    refine g_X8_right (pc := 116) F dX8_test_116 ?_
                    refine k_iload4 (pc := 119) F dX8_test_119 ?_
                    refine k_iconst (pc := 121) (v := nI 2) F dX8_test_121 (by decide) ?_
                    refine k_icmp_ne (pc := 122) (tgt := 129) F dX8_test_122 (by decide) (fun _ => ?_) (fun h => absurd h (by decide))
                    refine k_iload4 (pc := 129) F dX8_test_129 ?_
                    refine k_iconst (pc := 131) (v := nI 1) F dX8_test_131 (by decide) ?_
                    refine k_icmp_ne (pc := 132) (tgt := 148) F dX8_test_132 (by decide) (fun h => absurd h (by decide)) (fun _ => ?_)
                    refine k_iload5 (pc := 135) F dX8_test_135 ?_
                    refine k_if_eq (pc := 137) (tgt := 144) F dX8_test_137 (by decide) (fun _ => ?_) (fun h => absurd h (by decide))
                    refine k_iconst (pc := 144) (v := nI 1) F dX8_test_144 (by decide) ?_
                    refine k_goto (pc := 145) (tgt := 158) F dX8_test_145 (by decide) ?_
                    refine k_dup2 (pc := 158) F dX8_test_158 rfl rfl ?_
                    refine l_m4 (pc := 159) F (by omega) rfl dX8_test_159 ?_
                    refine k_iconst (pc := 160) (v := nI 1) F dX8_test_160 (by decide) ?_
                    refine k_iadd (pc := 161) F dX8_test_161 ?_
                    refine s_m4 (pc := 162) F (by omega) (rfl) dX8_test_162 ?_
                    refine k_iload4 (pc := 163) F dX8_test_163 ?_
                    refine k_iret (pc := 165) F dX8_test_165 ?_
                    have hle : SC c s t n a b ≤ nI lim := by rw [i_le]; rw [i_lt] at h73; omega
                    have e1 : spot (SC c s t n a b) lim (s a) (s b) = 1 := by rw [spot, if_neg h61, if_pos hle, if_neg h95]
                    have e2 : says (SC c s t n a b) lim = nI 1 := by rw [says, if_neg h61, if_pos hle]
                    refine ⟨_, rfl, Or.inl ⟨?_, ?_, ?_⟩⟩
                    · rw [ea, eb]; exact ⟨h5, h13, h18, h28, h38, by omega⟩
                    · rw [ea, eb, e2]
                    · rw [ea, eb, e1]; exact hIV.tst (by omega) (by decide)
                  · refine k_iconst (pc := 98) (v := nI 1) F dX8_test_98 (by decide) ?_
                    refine k_goto (pc := 99) (tgt := 103) F dX8_test_99 (by decide) ?_
                    refine k_istore5 (pc := 103) F (by decide) dX8_test_103 ?_
                    refine k_aload0 (pc := 105) F dX8_test_105 ?_
                    refine k_dup (pc := 106) F dX8_test_106 rfl ?_
                    refine g_X8_tests (pc := 107) F (hIV.2.2.2.2.2.2.2.1) dX8_test_107 ?_
                    refine k_iconst (pc := 110) (v := nI 1) F dX8_test_110 (by decide) ?_
                    refine k_iaddN (pc := 111) F dX8_test_111 ?_
                    refine p_X8_tests (pc := 112) F dX8_test_112 ?_
                    refine k_aload0 (pc := 115) F dX8_test_115 ?_
                    refine g_X8_right (pc := 116) F dX8_test_116 ?_
                    refine k_iload4 (pc := 119) F dX8_test_119 ?_
                    refine k_iconst (pc := 121) (v := nI 2) F dX8_test_121 (by decide) ?_
                    refine k_icmp_ne (pc := 122) (tgt := 129) F dX8_test_122 (by decide) (fun _ => ?_) (fun h => absurd h (by decide))
                    refine k_iload4 (pc := 129) F dX8_test_129 ?_
                    refine k_iconst (pc := 131) (v := nI 1) F dX8_test_131 (by decide) ?_
                    refine k_icmp_ne (pc := 132) (tgt := 148) F dX8_test_132 (by decide) (fun h => absurd h (by decide)) (fun _ => ?_)
                    refine k_iload5 (pc := 135) F dX8_test_135 ?_
                    refine k_if_eq (pc := 137) (tgt := 144) F dX8_test_137 (by decide) (fun h => absurd h (by decide)) (fun _ => ?_)
                    refine k_iconst (pc := 140) (v := nI 0) F dX8_test_140 (by decide) ?_
                    refine k_goto (pc := 141) (tgt := 158) F dX8_test_141 (by decide) ?_
                    refine k_dup2 (pc := 158) F dX8_test_158 rfl rfl ?_
                    refine l_m4 (pc := 159) F (by omega) rfl dX8_test_159 ?_
                    refine k_iconst (pc := 160) (v := nI 1) F dX8_test_160 (by decide) ?_
                    refine k_iadd (pc := 161) F dX8_test_161 ?_
                    refine s_m4 (pc := 162) F (by omega) (rfl) dX8_test_162 ?_
                    refine k_iload4 (pc := 163) F dX8_test_163 ?_
                    refine k_iret (pc := 165) F dX8_test_165 ?_
                    have hle : SC c s t n a b ≤ nI lim := by rw [i_le]; rw [i_lt] at h73; omega
                    have e1 : spot (SC c s t n a b) lim (s a) (s b) = 0 := by rw [spot, if_neg h61, if_pos hle, if_pos h95]
                    have e2 : says (SC c s t n a b) lim = nI 1 := by rw [says, if_neg h61, if_pos hle]
                    refine ⟨_, rfl, Or.inl ⟨?_, ?_, ?_⟩⟩
                    · rw [ea, eb]; exact ⟨h5, h13, h18, h28, h38, by omega⟩
                    · rw [ea, eb, e2]
                    · rw [ea, eb, e1]; exact hIV.tst (by omega) (by decide)
              · refine k_iconst (pc := 64) (v := nI 2) F dX8_test_64 (by decide) ?_
                refine k_goto (pc := 65) (tgt := 81) F dX8_test_65 (by decide) ?_
                refine k_istore4 (pc := 81) F (by decide) dX8_test_81 ?_
                refine k_aload0 (pc := 83) F dX8_test_83 ?_
                refine g_X8_speaker (pc := 84) F dX8_test_84 ?_
                refine k_iload1 (pc := 87) F dX8_test_87 ?_
                refine l_m2 (pc := 88) F (by omega) (hAV.2.2.2.1 a ha) dX8_test_88 ?_
                refine k_aload0 (pc := 89) F dX8_test_89 ?_
                refine g_X8_speaker (pc := 90) F dX8_test_90 ?_
                refine k_iload2 (pc := 93) F dX8_test_93 ?_
                refine l_m2 (pc := 94) F (by omega) (hAV.2.2.2.1 b hb) dX8_test_94 ?_
                refine k_icmp_ne (pc := 95) (tgt := 102) F dX8_test_95 (by decide) (fun h95 => ?_) (fun h95 => ?_)
                · refine k_iconst (pc := 102) (v := nI 0) F dX8_test_102 (by decide) ?_
                  refine k_istore5 (pc := 103) F (by decide) dX8_test_103 ?_
                  refine k_aload0 (pc := 105) F dX8_test_105 ?_
                  refine k_dup (pc := 106) F dX8_test_106 rfl ?_
                  refine g_X8_tests (pc := 107) F (hIV.2.2.2.2.2.2.2.1) dX8_test_107 ?_
                  refine k_iconst (pc := 110) (v := nI 1) F dX8_test_110 (by decide) ?_
                  refine k_iaddN (pc := 111) F dX8_test_111 ?_
                  refine p_X8_tests (pc := 112) F dX8_test_112 ?_
                  refine k_aload0 (pc := 115) F dX8_test_115 ?_
                  refine g_X8_right (pc := 116) F dX8_test_116 ?_
                  refine k_iload4 (pc := 119) F dX8_test_119 ?_
                  refine k_iconst (pc := 121) (v := nI 2) F dX8_test_121 (by decide) ?_
                  refine k_icmp_ne (pc := 122) (tgt := 129) F dX8_test_122 (by decide) (fun h => absurd h (by decide)) (fun _ => ?_)
                  refine k_iconst (pc := 125) (v := nI 4) F dX8_test_125 (by decide) ?_
                  refine k_goto (pc := 126) (tgt := 158) F dX8_test_126 (by decide) ?_
                  refine k_dup2 (pc := 158) F dX8_test_158 rfl rfl ?_
                  refine l_m4 (pc := 159) F (by omega) rfl dX8_test_159 ?_
                  refine k_iconst (pc := 160) (v := nI 1) F dX8_test_160 (by decide) ?_
                  refine k_iadd (pc := 161) F dX8_test_161 ?_
                  refine s_m4 (pc := 162) F (by omega) (rfl) dX8_test_162 ?_
                  refine k_iload4 (pc := 163) F dX8_test_163 ?_
                  refine k_iret (pc := 165) F dX8_test_165 ?_
                  have e1 : spot (SC c s t n a b) lim (s a) (s b) = 4 := if_pos h61
                  have e2 : says (SC c s t n a b) lim = nI 2 := if_pos h61
                  refine ⟨_, rfl, Or.inl ⟨?_, ?_, ?_⟩⟩
                  · rw [ea, eb]; exact ⟨h5, h13, h18, h28, h38, by omega⟩
                  · rw [ea, eb, e2]
                  · rw [ea, eb, e1]; exact hIV.tst (by omega) (by decide)
                · refine k_iconst (pc := 98) (v := nI 1) F dX8_test_98 (by decide) ?_
                  refine k_goto (pc := 99) (tgt := 103) F dX8_test_99 (by decide) ?_
                  refine k_istore5 (pc := 103) F (by decide) dX8_test_103 ?_
                  refine k_aload0 (pc := 105) F dX8_test_105 ?_
                  refine k_dup (pc := 106) F dX8_test_106 rfl ?_
                  refine g_X8_tests (pc := 107) F (hIV.2.2.2.2.2.2.2.1) dX8_test_107 ?_
                  refine k_iconst (pc := 110) (v := nI 1) F dX8_test_110 (by decide) ?_
                  refine k_iaddN (pc := 111) F dX8_test_111 ?_
                  refine p_X8_tests (pc := 112) F dX8_test_112 ?_
                  refine k_aload0 (pc := 115) F dX8_test_115 ?_
                  refine g_X8_right (pc := 116) F dX8_test_116 ?_
                  refine k_iload4 (pc := 119) F dX8_test_119 ?_
                  refine k_iconst (pc := 121) (v := nI 2) F dX8_test_121 (by decide) ?_
                  refine k_icmp_ne (pc := 122) (tgt := 129) F dX8_test_122 (by decide) (fun h => absurd h (by decide)) (fun _ => ?_)
                  refine k_iconst (pc := 125) (v := nI 4) F dX8_test_125 (by decide) ?_
                  refine k_goto (pc := 126) (tgt := 158) F dX8_test_126 (by decide) ?_
                  refine k_dup2 (pc := 158) F dX8_test_158 rfl rfl ?_
                  refine l_m4 (pc := 159) F (by omega) rfl dX8_test_159 ?_
                  refine k_iconst (pc := 160) (v := nI 1) F dX8_test_160 (by decide) ?_
                  refine k_iadd (pc := 161) F dX8_test_161 ?_
                  refine s_m4 (pc := 162) F (by omega) (rfl) dX8_test_162 ?_
                  refine k_iload4 (pc := 163) F dX8_test_163 ?_
                  refine k_iret (pc := 165) F dX8_test_165 ?_
                  have e1 : spot (SC c s t n a b) lim (s a) (s b) = 4 := if_pos h61
                  have e2 : says (SC c s t n a b) lim = nI 2 := if_pos h61
                  refine ⟨_, rfl, Or.inl ⟨?_, ?_, ?_⟩⟩
                  · rw [ea, eb]; exact ⟨h5, h13, h18, h28, h38, by omega⟩
                  · rw [ea, eb, e2]
                  · rw [ea, eb, e1]; exact hIV.tst (by omega) (by decide)
            · refine k_iconst (pc := 50) (v := -1) F dX8_test_50 (by decide) ?_
              refine k_iret (pc := 51) F dX8_test_51 ?_
              exact ⟨_, rfl, Or.inr ⟨fun q => by first | exact h5 q.1 | exact h13 q.2.1 | exact q.2.2.1 h18 | (rw [ea, eb] at q; exact q.2.2.2.1 h28) | (rw [ea, eb] at q; exact q.2.2.2.2.1 h38) | (have := q.2.2.2.2.2; omega), rfl, hI0⟩⟩

set_option maxHeartbeats 4000000 in
theorem c_X8_right {l : Launch} {D : va_G} {cI : ClassId} {ad : Nat → Nat} {iv : IV} {ar : AR} {n : Nat} {c : Nat → Nat} {s t : Nat → Int32} {set : Int32} {lim m : Nat} {g : Nat → Nat} {tt : Nat} {rt : Nat → Int32} (hI : MI n c s t set lim m g tt rt iv ar) {x : Int32} : Ct l D cI (mw cI ad) yX8_right cX8_right 2 (some .int) 1 22 [.ref (ad 0), .int x] iv ar (qI (fun x2 iv2 ar2 => x2 = aRight rt x ∧ MI n c s t set lim m g tt rt iv2 ar2)) := by
  refine Ct.of (lv := [some (.ref (ad 0)), some (.int x)]) mw_ok (plainFor_of_name (by decide)) (Nat.le_of_ble_eq_true rfl) 0 rfl rfl (fun Z F => ?_)
  have hI0 := hI
  obtain ⟨hA, hT, hSp, hG, hset, hlim, hl2, htt, ht2, hrt⟩ := hI
  have hn := hA.2.1
  have hm8 := hG.2.1
  refine k_iload1 (pc := 0) F dX8_right_0 ?_
  refine k_iconst (pc := 1) (v := nI 0) F dX8_right_1 (by decide) ?_
  refine k_iconst (pc := 2) (v := nI 4) F dX8_right_2 (by decide) ?_
  refine k_callS (pc := 3) F (c_X8_in mw_ok) ok_X8_59 rfl rfl (by decide) (by decide) (Nat.le_of_ble_eq_true rfl) dX8_right_3 (rI.use ?_)
  refine k_top (show _ = bI (inR x 5) from in0 4 (by decide)) ?_
  refine k_if_eqB (pc := 6) (tgt := 18) F dX8_right_6 (by decide) (fun h6 => ?_) (fun h6 => ?_)
  · refine k_iconst (pc := 18) (v := -1) F dX8_right_18 (by decide) ?_
    refine k_iret (pc := 19) F dX8_right_19 ?_
    exact ⟨_, rfl, (if_neg h6).symm, hI0⟩
  · obtain ⟨k, hk, rfl⟩ := nat_of h6
    refine k_aload0 (pc := 9) F dX8_right_9 ?_
    refine g_X8_right (pc := 10) F dX8_right_10 ?_
    refine k_iload1 (pc := 13) F dX8_right_13 ?_
    refine l_m4 (pc := 14) F (by omega) (hrt k hk) dX8_right_14 ?_
    refine k_goto (pc := 15) (tgt := 19) F dX8_right_15 (by decide) ?_
    refine k_iret (pc := 19) F dX8_right_19 ?_
    refine ⟨_, rfl, ?_, hI0⟩
    rw [aRight, if_pos h6]
    unfold cN
    rw [nI_clamp (by omega)]

set_option maxHeartbeats 4000000 in
theorem c_X8_told {l : Launch} {D : va_G} {cI : ClassId} {ad : Nat → Nat} {iv : IV} {ar : AR} {n : Nat} {c : Nat → Nat} {s t : Nat → Int32} {set : Int32} {lim m : Nat} {g : Nat → Nat} {tt : Nat} {rt : Nat → Int32} (hI : MI n c s t set lim m g tt rt iv ar) {x y : Int32} : Ct l D cI (mw cI ad) yX8_told cX8_told 5 (some .int) 2 43 [.ref (ad 0), .int x, .int y] iv ar (qI (fun x2 iv2 ar2 => x2 = aTold n c s t x y ∧ MI n c s t set lim m g tt rt iv2 ar2)) := by
  refine Ct.of (lv := [some (.ref (ad 0)), some (.int x), some (.int y), none, none]) mw_ok (plainFor_of_name (by decide)) (Nat.le_of_ble_eq_true rfl) 2 rfl rfl (fun Z F => ?_)
  have hI0 := hI
  obtain ⟨hA, hT, hSp, hG, hset, hlim, hl2, htt, ht2, hrt⟩ := hI
  have hn := hA.2.1
  have hm8 := hG.2.1
  refine k_aload0 (pc := 0) F dX8_told_0 ?_
  refine k_iload1 (pc := 1) F dX8_told_1 ?_
  refine k_callV (pc := 2) (q0 := 0) F (c_X8_isRecording hA.1 hA.2.1) ok_X8_63 rfl rfl rfl rfl rfl (by decide) (by decide) (Nat.le_of_ble_eq_true rfl) dX8_told_2 (rI.use ?_)
  refine k_if_neB (pc := 5) (tgt := 10) F dX8_told_5 (by decide) (fun h5 => ?_) (fun h5 => ?_)
  · obtain ⟨a, ha, rfl⟩ := nat_of h5
    have ec : cN (nI a) = a := nI_clamp (by omega)
    refine k_iload2 (pc := 10) F dX8_told_10 ?_
    refine k_bipush (pc := 11) (v := nI 10) F dX8_told_11 (by decide) ?_
    refine k_bipush (pc := 13) (v := nI 15) F dX8_told_13 (by decide) ?_
    refine k_callS (pc := 15) F (c_X8_in mw_ok) ok_X8_59 rfl rfl (by decide) (by decide) (Nat.le_of_ble_eq_true rfl) dX8_told_15 (rI.use ?_)
    refine k_top (in10) ?_
    refine k_if_eqB (pc := 18) (tgt := 36) F dX8_told_18 (by decide) (fun h18 => ?_) (fun h18 => ?_)
    · refine k_iconst (pc := 36) (v := nI 0) F dX8_told_36 (by decide) ?_
      refine k_istore3 (pc := 37) F (by decide) dX8_told_37 ?_
      refine k_iload2 (pc := 38) F dX8_told_38 ?_
      by_cases s39_0 : y = 0
      · subst s39_0
        refine k_tin (pc := 39) (tgt := 64) F dX8_told_39 (by decide) (by decide) rfl (by decide) ?_
        refine k_aload0 (pc := 64) F dX8_told_64 ?_
        refine g_X8_channel (pc := 65) F dX8_told_65 ?_
        refine k_iload1 (pc := 68) F dX8_told_68 ?_
        refine l_m1 (pc := 69) F (by omega) ((hA.2.2.1 a ha).1) dX8_told_69 ?_
        refine k_iret (pc := 70) F dX8_told_70 ?_
        refine ⟨_, rfl, ?_, hI0⟩
        rw [aTold, if_pos h5, ec]
        rfl
      · by_cases s39_1 : y = 1
        · subst s39_1
          refine k_tin (pc := 39) (tgt := 71) F dX8_told_39 (by decide) (by decide) rfl (by decide) ?_
          refine k_aload0 (pc := 71) F dX8_told_71 ?_
          refine g_X8_speaker (pc := 72) F dX8_told_72 ?_
          refine k_iload1 (pc := 75) F dX8_told_75 ?_
          refine l_m2 (pc := 76) F (by omega) (hA.2.2.2.1 a ha) dX8_told_76 ?_
          refine k_iret (pc := 77) F dX8_told_77 ?_
          refine ⟨_, rfl, ?_, hI0⟩
          rw [aTold, if_pos h5, ec]
          rfl
        · by_cases s39_2 : y = 2
          · subst s39_2
            refine k_tin (pc := 39) (tgt := 78) F dX8_told_39 (by decide) (by decide) rfl (by decide) ?_
            refine k_iconst (pc := 78) (v := nI 0) F dX8_told_78 (by decide) ?_
            refine k_istore4 (pc := 79) F (by decide) dX8_told_79 ?_
            have L81 : ∀ (fu : Nat) (p : Nat), 6 - p < fu → p ≤ 6 → Z 81 [some (.ref (ad 0)), some (.int (nI a)), some (.int 2), some (.int (nI (cnT t a p))), some (.int (nI p))] [] iv ar := by
              intro fu
              induction fu with
              | zero => intro p hfu; exact absurd hfu (Nat.not_lt_zero _)
              | succ fu ih =>
                intro p hfu hp
                have hcl := cnT_le t a p
                refine k_iload4 (pc := 81) F dX8_told_81 ?_
                refine k_bipush (pc := 83) (v := nI 6) F dX8_told_83 (by decide) ?_
                refine k_icmp_geN (pc := 85) (tgt := 118) F dX8_told_85 (by decide) (by omega) (by omega) (fun h85 => ?_) (fun h85 => ?_)
                · refine k_iload3 (pc := 118) F dX8_told_118 ?_
                  refine k_iret (pc := 119) F dX8_told_119 ?_
                  have e : p = 6 := by omega
                  subst e
                  refine ⟨_, rfl, ?_, hI0⟩
                  rw [aTold, if_pos h5, ec]
                  rfl
                · refine k_iload3 (pc := 88) F dX8_told_88 ?_
                  refine k_aload0 (pc := 89) F dX8_told_89 ?_
                  refine g_X8_tone (pc := 90) F dX8_told_90 ?_
                  refine k_bipush (pc := 93) (v := nI 6) F dX8_told_93 (by decide) ?_
                  refine k_iload1 (pc := 95) F dX8_told_95 ?_
                  refine k_imulN (pc := 96) F dX8_told_96 ?_
                  refine k_iload4 (pc := 97) F dX8_told_97 ?_
                  refine k_iaddN (pc := 99) F dX8_told_99 ?_
                  refine l_m0 (pc := 100) F (by omega) (hA.2.2.2.2 (6 * a + p) (by omega)) dX8_told_100 ?_
                  refine k_iconst (pc := 101) (v := -1) F dX8_told_101 (by decide) ?_
                  refine k_icmp_eq (pc := 102) (tgt := 109) F dX8_told_102 (by decide) (fun h102 => ?_) (fun h102 => ?_)
                  · refine k_iconst (pc := 109) (v := nI 0) F dX8_told_109 (by decide) ?_
                    refine k_iaddN (pc := 110) F dX8_told_110 ?_
                    refine k_istore3 (pc := 111) F (by decide) dX8_told_111 ?_
                    refine k_iinc4 (pc := 112) F (by decide) dX8_told_112 (inc_N _) ?_
                    refine k_goto (pc := 115) (tgt := 81) F dX8_told_115 (by decide) ?_
                    rw [Nat.mul_comm 6 a] at h102
                    have e : cnT t a (p + 1) = cnT t a p + 0 := if_neg (fun q => q h102)
                    have kk := ih (p + 1) (by omega) (by omega)
                    rw [e] at kk
                    exact kk
                  · refine k_iconst (pc := 105) (v := nI 1) F dX8_told_105 (by decide) ?_
                    refine k_goto (pc := 106) (tgt := 110) F dX8_told_106 (by decide) ?_
                    refine k_iaddN (pc := 110) F dX8_told_110 ?_
                    refine k_istore3 (pc := 111) F (by decide) dX8_told_111 ?_
                    refine k_iinc4 (pc := 112) F (by decide) dX8_told_112 (inc_N _) ?_
                    refine k_goto (pc := 115) (tgt := 81) F dX8_told_115 (by decide) ?_
                    rw [Nat.mul_comm 6 a] at h102
                    have e : cnT t a (p + 1) = cnT t a p + 1 := if_pos h102
                    have kk := ih (p + 1) (by omega) (by omega)
                    rw [e] at kk
                    exact kk
            exact L81 7 0 (by omega) (by omega)
          · have t39_0 := lv_neT s39_0 (a := 0) (by decide)
            have t39_1 := lv_neT s39_1 (a := 1) (by decide)
            have t39_2 := lv_neT s39_2 (a := 2) (by decide)
            refine k_tout (pc := 39) (tgt := 120) F dX8_told_39 (by omega) (by decide) ?_
            refine k_iconst (pc := 120) (v := -1) F dX8_told_120 (by decide) ?_
            refine k_iret (pc := 121) F dX8_told_121 ?_
            refine ⟨_, rfl, ?_, hI0⟩
            rw [aTold, if_pos h5, ec]
            rw [if_neg s39_0, if_neg s39_1, if_neg s39_2, if_neg h18]
    · obtain ⟨q, hq, rfl⟩ := nat_of (r := y) (n := 16) ⟨by omega, h18.2⟩
      have zq := nI_toInt (n := q) (by omega)
      have hq10 : 10 ≤ q := by have := h18.1; rw [zq] at this; omega
      refine k_aload0 (pc := 21) F dX8_told_21 ?_
      refine g_X8_tone (pc := 22) F dX8_told_22 ?_
      refine k_bipush (pc := 25) (v := nI 6) F dX8_told_25 (by decide) ?_
      refine k_iload1 (pc := 27) F dX8_told_27 ?_
      refine k_imulN (pc := 28) F dX8_told_28 ?_
      refine k_iload2 (pc := 29) F dX8_told_29 ?_
      refine k_iaddN (pc := 30) F dX8_told_30 ?_
      refine k_bipush (pc := 31) (v := nI 10) F dX8_told_31 (by decide) ?_
      refine k_isubN (pc := 33) F dX8_told_33 (by omega) ?_
      refine l_m0 (pc := 34) F (by omega) (hA.2.2.2.2 (6 * a + q - 10) (by omega)) dX8_told_34 ?_
      refine k_iret (pc := 35) F dX8_told_35 ?_
      refine ⟨_, rfl, ?_, hI0⟩
      rw [aTold, if_pos h5, ec]
      have q0 : ¬ nI q = 0 := fun e => by have := (nI_eq (b := 0) (by omega) (by decide)).mp e; omega
      have q1 : ¬ nI q = 1 := fun e => by have := (nI_eq (b := 1) (by omega) (by decide)).mp e; omega
      have q2 : ¬ nI q = 2 := fun e => by have := (nI_eq (b := 2) (by omega) (by decide)).mp e; omega
      rw [if_neg q0, if_neg q1, if_neg q2, if_pos h18]
      unfold cN
      rw [nI_clamp (by omega)]
      rw [show a * 6 + (q - 10) = 6 * a + q - 10 by omega]
  · refine k_iconst (pc := 8) (v := -1) F dX8_told_8 (by decide) ?_
    refine k_iret (pc := 9) F dX8_told_9 ?_
    exact ⟨_, rfl, (if_neg h5).symm, hI0⟩

set_option maxHeartbeats 4000000 in
theorem c_X8_count {l : Launch} {D : va_G} {cI : ClassId} {ad : Nat → Nat} {iv : IV} {ar : AR} {n : Nat} {c : Nat → Nat} {s t : Nat → Int32} {set : Int32} {lim m : Nat} {g : Nat → Nat} {tt : Nat} {rt : Nat → Int32} (hI : MI n c s t set lim m g tt rt iv ar) {x : Int32} : Ct l D cI (mw cI ad) yX8_count cX8_count 4 (some .int) 5 119 [.ref (ad 0), .int x] iv ar (qI (fun x2 iv2 ar2 => x2 = aCount n c s t set lim m x ∧ MI n c s t set lim m g tt rt iv2 ar2)) := by
  refine Ct.of (lv := [some (.ref (ad 0)), some (.int x), none, none]) mw_ok (plainFor_of_name (by decide)) (Nat.le_of_ble_eq_true rfl) 2 rfl rfl (fun Z F => ?_)
  have hI0 := hI
  obtain ⟨hA, hT, hSp, hG, hset, hlim, hl2, htt, ht2, hrt⟩ := hI
  have hn := hA.2.1
  have hm8 := hG.2.1
  refine k_iconst (pc := 0) (v := nI 0) F dX8_count_0 (by decide) ?_
  refine k_istore2 (pc := 1) F (by decide) dX8_count_1 ?_
  refine k_iload1 (pc := 2) F dX8_count_2 ?_
  by_cases s3_0 : x = 0
  · subst s3_0
    refine k_tin (pc := 3) (tgt := 44) F dX8_count_3 (by decide) (by decide) rfl (by decide) ?_
    refine k_aload0 (pc := 44) F dX8_count_44 ?_
    refine g_X8_recordings (pc := 45) F (hA.1) dX8_count_45 ?_
    refine k_iret (pc := 48) F dX8_count_48 ?_
    exact ⟨_, rfl, rfl, hI0⟩
  · by_cases s3_1 : x = 1
    · subst s3_1
      refine k_tin (pc := 3) (tgt := 49) F dX8_count_3 (by decide) (by decide) rfl (by decide) ?_
      refine k_aload0 (pc := 49) F dX8_count_49 ?_
      refine k_callV (pc := 50) (q0 := 0) F (c_X8_counts hA hT hset) ok_X8_95 rfl rfl rfl rfl rfl (by decide) (by decide) (Nat.le_of_ble_eq_true rfl) dX8_count_50 (qV.use (fun ivR arR hR => ?_))
      obtain ⟨r1, r2, r3, r4⟩ := hR
      refine k_aload0 (pc := 53) F dX8_count_53 ?_
      refine g_X8_same (pc := 54) F dX8_count_54 ?_
      refine k_callS (pc := 57) F (c_X8_all6 r4) ok_X8_108 rfl rfl (by decide) (by decide) (Nat.le_of_ble_eq_true rfl) dX8_count_57 (rI.use ?_)
      refine k_iret (pc := 60) F dX8_count_60 ?_
      exact ⟨_, rfl, rfl, hI0.scr (fun q hq => r1 q (by omega)) (fun q hq => r2 q (by omega))⟩
    · by_cases s3_2 : x = 2
      · subst s3_2
        refine k_tin (pc := 3) (tgt := 61) F dX8_count_3 (by decide) (by decide) rfl (by decide) ?_
        refine k_aload0 (pc := 61) F dX8_count_61 ?_
        refine k_callV (pc := 62) (q0 := 0) F (c_X8_counts hA hT hset) ok_X8_95 rfl rfl rfl rfl rfl (by decide) (by decide) (Nat.le_of_ble_eq_true rfl) dX8_count_62 (qV.use (fun ivR arR hR => ?_))
        obtain ⟨r1, r2, r3, r4⟩ := hR
        refine k_aload0 (pc := 65) F dX8_count_65 ?_
        refine g_X8_other (pc := 66) F dX8_count_66 ?_
        refine k_callS (pc := 69) F (c_X8_all7 r4) ok_X8_108 rfl rfl (by decide) (by decide) (Nat.le_of_ble_eq_true rfl) dX8_count_69 (rI.use ?_)
        refine k_iret (pc := 72) F dX8_count_72 ?_
        exact ⟨_, rfl, rfl, hI0.scr (fun q hq => r1 q (by omega)) (fun q hq => r2 q (by omega))⟩
      · by_cases s3_3 : x = 3
        · subst s3_3
          refine k_tin (pc := 3) (tgt := 73) F dX8_count_3 (by decide) (by decide) rfl (by decide) ?_
          refine k_aload0 (pc := 73) F dX8_count_73 ?_
          refine k_callV (pc := 74) (q0 := 0) F (c_X8_blocks hA hT hset) ok_X8_105 rfl rfl rfl rfl rfl (by decide) (by decide) (Nat.le_of_ble_eq_true rfl) dX8_count_74 (qV.use (fun ivR arR hR => ?_))
          obtain ⟨r1, r2, r3, r4, r5⟩ := hR
          refine k_iconst (pc := 77) (v := nI 0) F dX8_count_77 (by decide) ?_
          refine k_istore3 (pc := 78) F (by decide) dX8_count_78 ?_
          have L79 : ∀ (fu : Nat) (k : Nat), 10 - k < fu → k ≤ 10 → Z 79 [some (.ref (ad 0)), some (.int 3), some (.int (nI (hdN (arR 8) k))), some (.int (nI k))] [] ivR arR := by
            intro fu
            induction fu with
            | zero => intro k hfu; exact absurd hfu (Nat.not_lt_zero _)
            | succ fu ih =>
              intro k hfu hk
              refine k_iload3 (pc := 79) F dX8_count_79 ?_
              refine k_bipush (pc := 80) (v := nI 10) F dX8_count_80 (by decide) ?_
              refine k_icmp_geN (pc := 82) (tgt := 109) F dX8_count_82 (by decide) (by omega) (by omega) (fun h82 => ?_) (fun h82 => ?_)
              · refine k_iload2 (pc := 109) F dX8_count_109 ?_
                refine k_iret (pc := 110) F dX8_count_110 ?_
                have e : k = 10 := by omega
                subst e
                refine ⟨_, rfl, ?_, hI0.scr (fun q hq => r1 q (by omega)) (fun q hq => r2 q (by omega))⟩
                rw [hdN_bm r5]
                rfl
              · refine k_iload2 (pc := 85) F dX8_count_85 ?_
                refine k_aload0 (pc := 86) F dX8_count_86 ?_
                refine g_X8_first (pc := 87) F dX8_count_87 ?_
                refine k_iload3 (pc := 90) F dX8_count_90 ?_
                refine l_m8 (pc := 91) F (by omega) rfl dX8_count_91 ?_
                refine k_iload3 (pc := 92) F dX8_count_92 ?_
                refine k_icmp_ne (pc := 93) (tgt := 100) F dX8_count_93 (by decide) (fun h93 => ?_) (fun h93 => ?_)
                · refine k_iconst (pc := 100) (v := nI 0) F dX8_count_100 (by decide) ?_
                  refine k_iaddN (pc := 101) F dX8_count_101 ?_
                  refine k_istore2 (pc := 102) F (by decide) dX8_count_102 ?_
                  refine k_iinc3 (pc := 103) F (by decide) dX8_count_103 (inc_N _) ?_
                  refine k_goto (pc := 106) (tgt := 79) F dX8_count_106 (by decide) ?_
                  have e : hdN (arR 8) (k + 1) = hdN (arR 8) k + 0 := if_neg h93
                  have kk := ih (k + 1) (by omega) (by omega)
                  rw [e] at kk
                  exact kk
                · refine k_iconst (pc := 96) (v := nI 1) F dX8_count_96 (by decide) ?_
                  refine k_goto (pc := 97) (tgt := 101) F dX8_count_97 (by decide) ?_
                  refine k_iaddN (pc := 101) F dX8_count_101 ?_
                  refine k_istore2 (pc := 102) F (by decide) dX8_count_102 ?_
                  refine k_iinc3 (pc := 103) F (by decide) dX8_count_103 (inc_N _) ?_
                  refine k_goto (pc := 106) (tgt := 79) F dX8_count_106 (by decide) ?_
                  have e : hdN (arR 8) (k + 1) = hdN (arR 8) k + 1 := if_pos h93
                  have kk := ih (k + 1) (by omega) (by omega)
                  rw [e] at kk
                  exact kk
          exact L79 11 0 (by omega) (by omega)
        · by_cases s3_4 : x = 4
          · subst s3_4
            refine k_tin (pc := 3) (tgt := 111) F dX8_count_3 (by decide) (by decide) rfl (by decide) ?_
            refine k_aload0 (pc := 111) F dX8_count_111 ?_
            refine g_X8_segments (pc := 112) F (hG.1) dX8_count_112 ?_
            refine k_iret (pc := 115) F dX8_count_115 ?_
            exact ⟨_, rfl, rfl, hI0⟩
          · by_cases s3_5 : x = 5
            · subst s3_5
              refine k_tin (pc := 3) (tgt := 116) F dX8_count_3 (by decide) (by decide) rfl (by decide) ?_
              refine k_aload0 (pc := 116) F dX8_count_116 ?_
              refine g_X8_limit (pc := 117) F (hlim) dX8_count_117 ?_
              refine k_iret (pc := 120) F dX8_count_120 ?_
              exact ⟨_, rfl, rfl, hI0⟩
            · by_cases s3_6 : x = 6
              · subst s3_6
                refine k_tin (pc := 3) (tgt := 121) F dX8_count_3 (by decide) (by decide) rfl (by decide) ?_
                refine k_aload0 (pc := 121) F dX8_count_121 ?_
                refine g_X8_set (pc := 122) F (hset) dX8_count_122 ?_
                refine k_iret (pc := 125) F dX8_count_125 ?_
                exact ⟨_, rfl, rfl, hI0⟩
              · have t3_0 := lv_neT s3_0 (a := 0) (by decide)
                have t3_1 := lv_neT s3_1 (a := 1) (by decide)
                have t3_2 := lv_neT s3_2 (a := 2) (by decide)
                have t3_3 := lv_neT s3_3 (a := 3) (by decide)
                have t3_4 := lv_neT s3_4 (a := 4) (by decide)
                have t3_5 := lv_neT s3_5 (a := 5) (by decide)
                have t3_6 := lv_neT s3_6 (a := 6) (by decide)
                refine k_tout (pc := 3) (tgt := 126) F dX8_count_3 (by omega) (by decide) ?_
                refine k_iconst (pc := 126) (v := -1) F dX8_count_126 (by decide) ?_
                refine k_iret (pc := 127) F dX8_count_127 ?_
                refine ⟨_, rfl, ?_, hI0⟩
                rw [aCount, if_neg s3_0, if_neg s3_1, if_neg s3_2, if_neg s3_3, if_neg s3_4, if_neg s3_5, if_neg s3_6]

