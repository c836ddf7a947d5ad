/-- where a score goes: behind those that aren't greater -/
def insP (d : Nat → Nat) (x : Nat) : Nat → Nat
  | 0 => 0
  | k + 1 => if x < d k then insP d x k else k + 1
theorem insP_st {d : Nat → Nat} {x k : Nat} : ∀ e, (∀ j, k ≤ j → j < k + e → x < d j) → insP d x (k + e) = insP d x k
  | 0, _ => rfl
  | e + 1, h => by
    show (if x < d (k + e) then insP d x (k + e) else k + e + 1) = _
    rw [if_pos (h (k + e) (by omega) (by omega)), insP_st e (fun j h1 h2 => h j h1 (by omega))]
theorem insP_le (d : Nat → Nat) (x : Nat) : ∀ k, insP d x k ≤ k
  | 0 => Nat.le_refl 0
  | k + 1 => by
    have := insP_le d x k
    rw [insP]
    split <;> omega
abbrev LT : Type := Nat × (Nat → Nat)
def put1 (r : Nat → Nat) (p x : Nat) : Nat → Nat := fun j => if j < p then r j else if j = p then x else r (j - 1)
def insL (dN : Nat → Nat) (L : LT) (x : Nat) : LT := (L.1 + 1, put1 L.2 (insP (fun j => dN (L.2 j)) (dN x) L.1) x)
abbrev dS (S : Nat → Int32) : Nat → Nat := fun r => (S r).toNatClampNeg
/-- the LINE-UP over the first recordings; S: scores with the recording a -/
def lin (S : Nat → Int32) (s : Nat → Int32) (set : Int32) (a : Nat) : Nat → LT
  | 0 => (0, fun _ => 0)
  | r + 1 => if ¬ r = a ∧ ofS set (s r) ∧ ¬ S r = -1 then insL (dS S) (lin S s set a r) r else lin S s set a r
theorem lin_ok (S s : Nat → Int32) (set : Int32) (a : Nat) : ∀ r, (lin S s set a r).1 ≤ r ∧ ∀ j, j < (lin S s set a r).1 → ((lin S s set a r).2 j < r ∧ ofS set (s ((lin S s set a r).2 j)) ∧ ¬ S ((lin S s set a r).2 j) = -1)
  | 0 => ⟨Nat.le_refl 0, fun j hj => absurd hj (Nat.not_lt_zero j)⟩
  | r + 1 => by
    obtain ⟨h1, h2⟩ := lin_ok S s set a r
    rw [lin]
    split
    · next hc =>
      refine ⟨by show (lin S s set a r).1 + 1 ≤ r + 1; omega, fun j hj => ?_⟩
      have hj2 : j < (lin S s set a r).1 + 1 := hj
      have hp := insP_le (fun j => dS S ((lin S s set a r).2 j)) (dS S r) (lin S s set a r).1
      show put1 (lin S s set a r).2 _ r j < r + 1 ∧ ofS set (s (put1 (lin S s set a r).2 _ r j)) ∧ ¬ S (put1 (lin S s set a r).2 _ r j) = -1
      unfold put1
      split
      · have := h2 j (by omega); exact ⟨by omega, this.2⟩
      · split
        · exact ⟨by omega, hc.2⟩
        · have := h2 (j - 1) (by omega); exact ⟨by omega, this.2⟩
    · refine ⟨by omega, fun j hj => ?_⟩
      have := h2 j hj
      exact ⟨by omega, this.2⟩
/-- speakers are -1, or 0 .. 9 -/
def okSp (n : Nat) (s : Nat → Int32) : Prop := ∀ k, k < n → (s k = -1 ∨ ∃ q, q < 10 ∧ s k = nI q)
def mkR (s : Nat → Int32) (r : Nat → Nat) : Nat → Nat
  | 0 => 0
  | i + 1 => mkR s r i ||| 2 ^ (s (r i)).toNatClampNeg
theorem mkR_lt {s : Nat → Int32} {r : Nat → Nat} {m : Nat} (h : ∀ i, i < m → ∃ q, q < 10 ∧ s (r i) = nI q) : ∀ i, i ≤ m → mkR s r i < 1024
  | 0, _ => (by decide : 0 < 1024)
  | i + 1, hi => by
    obtain ⟨q, hq, e⟩ := h i (by omega)
    rw [mkR, e, nI_clamp (by omega)]
    exact Nat.or_lt_two_pow (n := 10) (mkR_lt h i (by omega)) (Nat.pow_lt_pow_right (by decide) hq)
theorem pcN_or (x q : Nat) : ∀ K, pcN (x ||| 2 ^ q) K = pcN x K + (if q < K ∧ ¬ x.testBit q = true then 1 else 0)
  | 0 => by simp [pcN]
  | K + 1 => by
    rw [pcN, pcN, pcN_or x q K, Nat.testBit_or, Nat.testBit_two_pow]
    by_cases e : q = K
    · subst e
      cases hx : x.testBit q <;> simp
    · have e2 : decide (q = K) = false := decide_eq_false e
      rw [e2, Bool.or_false]
      by_cases c : q < K
      · have c2 : q < K + 1 := by omega
        simp only [c, c2, true_and]
        omega
      · have c2 : ¬ q < K + 1 := by omega
        simp only [c, c2, false_and, if_false]
        omega
/-- RANK: of the first that is theirs -/
def rkF (s : Nat → Int32) (r : Nat → Nat) (y : Int32) : Nat → Nat → Int32
  | 0, _ => -1
  | f + 1, i => if s (r i) = y then nI (pcN (mkR s r i) 10) else rkF s r y f (i + 1)
def LNc (dN : Nat → Nat) (L : LT) (iv : IV) (ar : AR) : Prop := iv 10 = nI L.1 ∧ ∀ j, j < L.1 → ar 17 j = nI (L.2 j) ∧ ar 18 j = nI (dN (L.2 j))
theorem dS_nI {S : Nat → Int32} {r : Nat} (h : okSc (S r)) (hne : ¬ S r = -1) : S r = nI (dS S r) ∧ dS S r ≤ 1782 := by
  obtain ⟨v, hv, e⟩ := h.get hne
  unfold dS
  rw [e, nI_clamp (by omega)]
  exact ⟨rfl, hv⟩
set_option maxHeartbeats 4000000 in
theorem c_X2_insert {l : Launch} {D : va_G} {cI : ClassId} {ad : Nat → Nat} {iv : IV} {ar : AR} {k x v : Nat} {r d : Nat → Nat} (hk : k < 30) (hn : iv 10 = nI k) (hv : v ≤ 1782) (h : ∀ j, j < k → ar 17 j = nI (r j) ∧ ar 18 j = nI (d j) ∧ d j ≤ 1782) : Ct l D cI (cw cI ad) yX2_insert cX2_insert 4 none 0 0 [.ref (ad 6), .int (nI x), .int (nI v)] iv ar (qV (fun iv2 ar2 => (∀ q, q ≠ 10 → iv2 q = iv q) ∧ (∀ q, q ≠ 17 → q ≠ 18 → ar2 q = ar q) ∧ iv2 10 = nI (k + 1) ∧ ∀ j, j < k + 1 → ar2 17 j = nI (put1 r (insP d v k) x j) ∧ ar2 18 j = nI (put1 d (insP d v k) v j))) := by
  refine Ct.of (lv := [some (.ref (ad 6)), some (.int (nI x)), some (.int (nI v)), none]) cw_ok (plainFor_of_name (by decide)) (Nat.le_of_ble_eq_true rfl) 1 rfl rfl (fun Z F => ?_)
  refine k_aload0 (pc := 0) F dX2_insert_0 ?_
  refine g_X2_size (pc := 1) F (hn) dX2_insert_1 ?_
  refine k_istore3 (pc := 4) F (by decide) dX2_insert_4 ?_
  have L5 : ∀ (fu : Nat) (q : Nat) (ar1 : AR), q < fu → q ≤ k → (∀ p, p ≠ 17 → p ≠ 18 → ar1 p = ar p) → (∀ j, j < q → ar1 17 j = nI (r j) ∧ ar1 18 j = nI (d j)) → (∀ j, q < j → j ≤ k → ar1 17 j = nI (r (j - 1)) ∧ ar1 18 j = nI (d (j - 1))) → (∀ j, q ≤ j → j < k → v < d j) → Z 5 [some (.ref (ad 6)), some (.int (nI x)), some (.int (nI v)), some (.int (nI q))] [] iv ar1 := by
    intro fu
    induction fu with
    | zero => intro q ar1 hfu; exact absurd hfu (Nat.not_lt_zero _)
    | succ fu ih =>
      intro q ar1 hfu hq f1 hlo hhi hgt
      refine k_iload3 (pc := 5) F dX2_insert_5 ?_
      refine k_if_leN (pc := 6) (tgt := 55) F dX2_insert_6 (by decide) (by omega) (fun h6 => ?_) (fun h6 => ?_)
      · refine k_aload0 (pc := 55) F dX2_insert_55 ?_
        refine g_X2_recordings (pc := 56) F dX2_insert_56 ?_
        refine k_iload3 (pc := 59) F dX2_insert_59 ?_
        refine k_iload1 (pc := 60) F dX2_insert_60 ?_
        refine s_c17 (pc := 61) F (by omega) (rfl) dX2_insert_61 ?_
        refine k_aload0 (pc := 62) F dX2_insert_62 ?_
        refine g_X2_distances (pc := 63) F dX2_insert_63 ?_
        refine k_iload3 (pc := 66) F dX2_insert_66 ?_
        refine k_iload2 (pc := 67) F dX2_insert_67 ?_
        refine s_c18 (pc := 68) F (by omega) ((up_n (by decide)).trans (rfl)) dX2_insert_68 ?_
        refine k_aload0 (pc := 69) F dX2_insert_69 ?_
        refine k_dup (pc := 70) F dX2_insert_70 rfl ?_
        refine g_X2_size (pc := 71) F (hn) dX2_insert_71 ?_
        refine k_iconst (pc := 74) (v := nI 1) F dX2_insert_74 (by decide) ?_
        refine k_iaddN (pc := 75) F dX2_insert_75 ?_
        refine p_X2_size (pc := 76) F dX2_insert_76 ?_
        refine k_vret (pc := 79) F dX2_insert_79 ?_
        have hp : insP d v k = q := by
          have h1 := insP_st (d := d) (x := v) (k := q) (k - q) (fun j h1 h2 => hgt j h1 (by omega))
          rw [show q + (k - q) = k by omega] at h1
          rw [h1]
          first
          | (have e : q = 0 := by omega
             subst e
             rfl)
          | (obtain ⟨q0, rfl⟩ : ∃ q0, q = q0 + 1 := ⟨q - 1, by omega⟩
             have h18b : ¬ v < d q0 := by simpa using h18
             rw [insP, if_neg h18b])
        refine ⟨rfl, fun p hp2 => up_n hp2, fun p p7 p8 => ?_, up_s, fun j hj => ?_⟩
        · rw [up_n p8, up_n p7]; exact f1 p p7 p8
        · rw [hp, up_n (by decide), up_s, up_s, put1, put1]
          rcases Nat.lt_trichotomy j q with c | c | c
          · rw [upd_ne (by omega), upd_ne (by omega), if_pos c, if_pos c]; exact hlo j c
          · subst c; rw [upd_at, upd_at, if_neg (Nat.lt_irrefl j), if_neg (Nat.lt_irrefl j), if_pos rfl, if_pos rfl]; exact ⟨rfl, rfl⟩
          · rw [upd_ne (by omega), upd_ne (by omega), if_neg (by omega), if_neg (by omega), if_neg (by omega), if_neg (by omega)]; exact hhi j c (by omega)
      · have hdq := (h (q - 1) (by omega)).2.2
        refine k_aload0 (pc := 9) F dX2_insert_9 ?_
        refine g_X2_distances (pc := 10) F dX2_insert_10 ?_
        refine k_iload3 (pc := 13) F dX2_insert_13 ?_
        refine k_iconst (pc := 14) (v := nI 1) F dX2_insert_14 (by decide) ?_
        refine k_isubN (pc := 15) F dX2_insert_15 (by omega) ?_
        refine l_c18 (pc := 16) F (by omega) ((hlo (q - 1) (by omega)).2) dX2_insert_16 ?_
        refine k_iload2 (pc := 17) F dX2_insert_17 ?_
        refine k_icmp_leN (pc := 18) (tgt := 55) F dX2_insert_18 (by decide) (by omega) (by omega) (fun h18 => ?_) (fun h18 => ?_)
        · refine k_aload0 (pc := 55) F dX2_insert_55 ?_
          refine g_X2_recordings (pc := 56) F dX2_insert_56 ?_
          refine k_iload3 (pc := 59) F dX2_insert_59 ?_
          refine k_iload1 (pc := 60) F dX2_insert_60 ?_
          refine s_c17 (pc := 61) F (by omega) (rfl) dX2_insert_61 ?_
          refine k_aload0 (pc := 62) F dX2_insert_62 ?_
          refine g_X2_distances (pc := 63) F dX2_insert_63 ?_
          refine k_iload3 (pc := 66) F dX2_insert_66 ?_
          refine k_iload2 (pc := 67) F dX2_insert_67 ?_
          refine s_c18 (pc := 68) F (by omega) ((up_n (by decide)).trans (rfl)) dX2_insert_68 ?_
          refine k_aload0 (pc := 69) F dX2_insert_69 ?_
          refine k_dup (pc := 70) F dX2_insert_70 rfl ?_
          refine g_X2_size (pc := 71) F (hn) dX2_insert_71 ?_
          refine k_iconst (pc := 74) (v := nI 1) F dX2_insert_74 (by decide) ?_
          refine k_iaddN (pc := 75) F dX2_insert_75 ?_
          refine p_X2_size (pc := 76) F dX2_insert_76 ?_
          refine k_vret (pc := 79) F dX2_insert_79 ?_
          have hp : insP d v k = q := by
            have h1 := insP_st (d := d) (x := v) (k := q) (k - q) (fun j h1 h2 => hgt j h1 (by omega))
            rw [show q + (k - q) = k by omega] at h1
            rw [h1]
            first
            | (have e : q = 0 := by omega
               subst e
               rfl)
            | (obtain ⟨q0, rfl⟩ : ∃ q0, q = q0 + 1 := ⟨q - 1, by omega⟩
               have h18b : ¬ v < d q0 := by simpa using h18
               rw [insP, if_neg h18b])
          refine ⟨rfl, fun p hp2 => up_n hp2, fun p p7 p8 => ?_, up_s, fun j hj => ?_⟩
          · rw [up_n p8, up_n p7]; exact f1 p p7 p8
          · rw [hp, up_n (by decide), up_s, up_s, put1, put1]
            rcases Nat.lt_trichotomy j q with c | c | c
            · rw [upd_ne (by omega), upd_ne (by omega), if_pos c, if_pos c]; exact hlo j c
            · subst c; rw [upd_at, upd_at, if_neg (Nat.lt_irrefl j), if_neg (Nat.lt_irrefl j), if_pos rfl, if_pos rfl]; exact ⟨rfl, rfl⟩
            · rw [upd_ne (by omega), upd_ne (by omega), if_neg (by omega), if_neg (by omega), if_neg (by omega), if_neg (by omega)]; exact hhi j c (by omega)
        · refine k_aload0 (pc := 21) F dX2_insert_21 ?_
          refine g_X2_recordings (pc := 22) F dX2_insert_22 ?_
          refine k_iload3 (pc := 25) F dX2_insert_25 ?_
          refine k_aload0 (pc := 26) F dX2_insert_26 ?_
          refine g_X2_recordings (pc := 27) F dX2_insert_27 ?_
          refine k_iload3 (pc := 30) F dX2_insert_30 ?_
          refine k_iconst (pc := 31) (v := nI 1) F dX2_insert_31 (by decide) ?_
          refine k_isubN (pc := 32) F dX2_insert_32 (by omega) ?_
          refine l_c17 (pc := 33) F (by omega) ((hlo (q - 1) (by omega)).1) dX2_insert_33 ?_
          refine s_c17 (pc := 34) F (by omega) (rfl) dX2_insert_34 ?_
          refine k_aload0 (pc := 35) F dX2_insert_35 ?_
          refine g_X2_distances (pc := 36) F dX2_insert_36 ?_
          refine k_iload3 (pc := 39) F dX2_insert_39 ?_
          refine k_aload0 (pc := 40) F dX2_insert_40 ?_
          refine g_X2_distances (pc := 41) F dX2_insert_41 ?_
          refine k_iload3 (pc := 44) F dX2_insert_44 ?_
          refine k_iconst (pc := 45) (v := nI 1) F dX2_insert_45 (by decide) ?_
          refine k_isubN (pc := 46) F dX2_insert_46 (by omega) ?_
          refine l_c18 (pc := 47) F (by omega) ((congrFun ((up_n (by decide)).trans (rfl)) _).trans ((hlo (q - 1) (by omega)).2)) dX2_insert_47 ?_
          refine s_c18 (pc := 48) F (by omega) ((up_n (by decide)).trans (rfl)) dX2_insert_48 ?_
          refine k_iinc3 (pc := 49) F (by decide) dX2_insert_49 (dec_N q (by omega)) ?_
          refine k_goto (pc := 52) (tgt := 5) F dX2_insert_52 (by decide) ?_
          refine ih (q - 1) _ (by omega) (by omega) (fun p p7 p8 => ?_) (fun j hj => ?_) (fun j h1 h2 => ?_) (fun j h1 h2 => ?_)
          · rw [up_n p8, up_n p7]; exact f1 p p7 p8
          · rw [up_n (by decide), up_s, up_s, upd_ne (by omega), upd_ne (by omega)]; exact hlo j (by omega)
          · rw [up_n (by decide), up_s, up_s]
            by_cases e : j = q
            · subst e; exact ⟨upd_at, upd_at⟩
            · rw [upd_ne e, upd_ne e]; exact hhi j (by omega) h2
          · by_cases e : j = q - 1
            · subst e; omega
            · exact hgt j (by omega) h2
  exact L5 (k + 1) k ar (by omega) (by omega) (fun _ _ _ => rfl) (fun j hj => ⟨(h j hj).1, (h j hj).2.1⟩) (fun j h1 h2 => by omega) (fun j h1 h2 => by omega)

set_option maxHeartbeats 4000000 in
theorem c_X2_callFor {l : Launch} {D : va_G} {cI : ClassId} {ad : Nat → Nat} {iv : IV} {ar : AR} {n : Nat} {c : Nat → Nat} {s t : Nat → Int32} (hA : Arch n c s t iv ar) (h5 : ∀ j, j < 24 → ar 5 j = shA c s t n j) (hT0 : okT n t) {a : Nat} (ha : a < n) {set : Int32} : Ct l D cI (cw cI ad) yX2_callFor cX2_callFor 5 none 2 51 [.ref (ad 6), .int (nI a), .int set] iv ar (qV (fun iv2 ar2 => (∀ q, q ≠ 10 → iv2 q = iv q) ∧ (∀ q, q ≠ 17 → q ≠ 18 → ar2 q = ar q) ∧ LNc (dS (fun b => SC c s t n a b)) (lin (fun b => SC c s t n a b) s set a n) iv2 ar2)) := by
  refine Ct.of (lv := [some (.ref (ad 6)), some (.int (nI a)), some (.int set), none, none]) cw_ok (plainFor_of_name (by decide)) (Nat.le_of_ble_eq_true rfl) 2 rfl rfl (fun Z F => ?_)
  have hn := hA.le
  refine k_aload0 (pc := 0) F dX2_callFor_0 ?_
  refine k_iconst (pc := 1) (v := nI 0) F dX2_callFor_1 (by decide) ?_
  refine p_X2_size (pc := 2) F dX2_callFor_2 ?_
  refine k_iconst (pc := 5) (v := nI 0) F dX2_callFor_5 (by decide) ?_
  refine k_istore3 (pc := 6) F (by decide) dX2_callFor_6 ?_
  have L7 : ∀ (fu : Nat) (r : Nat) (iv1 : IV) (ar1 : AR), n - r < fu → r ≤ n → (∀ q, q ≠ 10 → iv1 q = iv q) → (∀ q, q ≠ 17 → q ≠ 18 → ar1 q = ar q) → LNc (dS (fun b => SC c s t n a b)) (lin (fun b => SC c s t n a b) s set a r) iv1 ar1 → Z 7 [some (.ref (ad 6)), some (.int (nI a)), some (.int set), some (.int (nI r)), none] [] iv1 ar1 := by
    intro fu
    induction fu with
    | zero => intro r iv1 ar1 hfu; exact absurd hfu (Nat.not_lt_zero _)
    | succ fu ih =>
      intro r iv1 ar1 hfu hr f1 g1 hL
      have hA1 : Arch n c s t iv1 ar1 := hA.keep (f1 3 (by decide)) (g1 0 (by decide) (by decide)) (g1 1 (by decide) (by decide)) (g1 2 (by decide) (by decide))
      have h51 : ∀ j, j < 24 → ar1 5 j = shA c s t n j := by rw [g1 5 (by decide) (by decide)]; exact h5
      refine k_iload3 (pc := 7) F dX2_callFor_7 ?_
      refine k_aload0 (pc := 8) F dX2_callFor_8 ?_
      refine g_X2_archive (pc := 9) F dX2_callFor_9 ?_
      refine k_callV (pc := 12) (q0 := 1) F (ca_size hA1) ok_X2_30 rfl rfl rfl rfl rfl (by decide) (by decide) (Nat.le_of_ble_eq_true rfl) dX2_callFor_12 (rI.use ?_)
      refine k_icmp_geN (pc := 15) (tgt := 65) F dX2_callFor_15 (by decide) (by omega) (by omega) (fun h15 => ?_) (fun h15 => ?_)
      · have e : n = r := by omega
        subst e
        refine k_vret (pc := 65) F dX2_callFor_65 ?_
        exact ⟨rfl, f1, g1, hL⟩
      · refine k_iload3 (pc := 18) F dX2_callFor_18 ?_
        refine k_iload1 (pc := 19) F dX2_callFor_19 ?_
        refine k_icmp_eqN (pc := 20) (tgt := 59) F dX2_callFor_20 (by decide) (by omega) (by omega) (fun h20 => ?_) (fun h20 => ?_)
        · refine k_iinc3 (pc := 59) F (by decide) dX2_callFor_59 (inc_N _) ?_
          refine k_goto (pc := 62) (tgt := 7) F dX2_callFor_62 (by decide) ?_
          have e : (lin (fun b => SC c s t n a b) s set a (r + 1)) = (lin (fun b => SC c s t n a b) s set a r) := if_neg (fun q => by first | exact q.1 h20 | exact h32 q.2.1 | exact q.2.2 h49)
          exact ih (r + 1) iv1 ar1 (by omega) (by omega) f1 g1 (by rw [e]; exact hL)
        · refine k_aload0 (pc := 23) F dX2_callFor_23 ?_
          refine g_X2_archive (pc := 24) F dX2_callFor_24 ?_
          refine k_iload3 (pc := 27) F dX2_callFor_27 ?_
          refine k_iload2 (pc := 28) F dX2_callFor_28 ?_
          refine k_callV (pc := 29) (q0 := 1) F (ca_isOfSet hA1 (k := r) (by omega)) ok_X2_35 rfl rfl rfl rfl rfl (by decide) (by decide) (Nat.le_of_ble_eq_true rfl) dX2_callFor_29 (rI.use ?_)
          refine k_if_eqB (pc := 32) (tgt := 59) F dX2_callFor_32 (by decide) (fun h32 => ?_) (fun h32 => ?_)
          · refine k_iinc3 (pc := 59) F (by decide) dX2_callFor_59 (inc_N _) ?_
            refine k_goto (pc := 62) (tgt := 7) F dX2_callFor_62 (by decide) ?_
            have e : (lin (fun b => SC c s t n a b) s set a (r + 1)) = (lin (fun b => SC c s t n a b) s set a r) := if_neg (fun q => by first | exact q.1 h20 | exact h32 q.2.1 | exact q.2.2 h49)
            exact ih (r + 1) iv1 ar1 (by omega) (by omega) f1 g1 (by rw [e]; exact hL)
          · refine k_aload0 (pc := 35) F dX2_callFor_35 ?_
            refine g_X2_scores (pc := 36) F dX2_callFor_36 ?_
            refine k_iload1 (pc := 39) F dX2_callFor_39 ?_
            refine k_iload3 (pc := 40) F dX2_callFor_40 ?_
            refine k_callV (pc := 41) (q0 := 3) F (ca_between hA1 h51 (a := a) (b := r) ha (by omega)) ok_X2_39 rfl rfl rfl rfl rfl (by decide) (by decide) (Nat.le_of_ble_eq_true rfl) dX2_callFor_41 (rI.use ?_)
            refine k_istore4 (pc := 44) F (by decide) dX2_callFor_44 ?_
            refine k_iload4 (pc := 46) F dX2_callFor_46 ?_
            refine k_iconst (pc := 48) (v := -1) F dX2_callFor_48 (by decide) ?_
            refine k_icmp_eq (pc := 49) (tgt := 59) F dX2_callFor_49 (by decide) (fun h49 => ?_) (fun h49 => ?_)
            · refine k_iinc3 (pc := 59) F (by decide) dX2_callFor_59 (inc_N _) ?_
              refine k_goto (pc := 62) (tgt := 7) F dX2_callFor_62 (by decide) ?_
              refine k_fg4 (pc := 7) F ?_
              have e : (lin (fun b => SC c s t n a b) s set a (r + 1)) = (lin (fun b => SC c s t n a b) s set a r) := if_neg (fun q => by first | exact q.1 h20 | exact h32 q.2.1 | exact q.2.2 h49)
              exact ih (r + 1) iv1 ar1 (by omega) (by omega) f1 g1 (by rw [e]; exact hL)
            · have hd := dS_nI (S := fun b => SC c s t n a b) (r := r) (SC_B hT0 hn ha (show r < n by omega) (hA.lt ha) (hA.lt (by omega))) h49
              have hlin := lin_ok (fun b => SC c s t n a b) s set a r
              rw [show SC c s t n a r = nI ((dS (fun b => SC c s t n a b)) r) from hd.1]
              refine k_aload0 (pc := 52) F dX2_callFor_52 ?_
              refine k_iload3 (pc := 53) F dX2_callFor_53 ?_
              refine k_iload4 (pc := 54) F dX2_callFor_54 ?_
              refine k_callV (pc := 56) (q0 := 6) F (c_X2_insert (k := (lin (fun b => SC c s t n a b) s set a r).1) (x := r) (v := (dS (fun b => SC c s t n a b)) r) (r := (lin (fun b => SC c s t n a b) s set a r).2) (d := fun j => (dS (fun b => SC c s t n a b)) ((lin (fun b => SC c s t n a b) s set a r).2 j)) (by omega) hL.1 hd.2 (fun j hj => ⟨(hL.2 j hj).1, (hL.2 j hj).2, (dS_nI (S := fun b => SC c s t n a b) (SC_B hT0 hn ha (by have := (hlin.2 j hj).1; omega) (hA.lt ha) (hA.lt (by have := (hlin.2 j hj).1; omega))) (hlin.2 j hj).2.2).2⟩)) ok_X2_45 rfl rfl rfl rfl rfl (by decide) (by decide) (Nat.le_of_ble_eq_true rfl) dX2_callFor_56 (qV.use (fun ivI arI hI => ?_))
              obtain ⟨i1, i2, i3, i4⟩ := hI
              refine k_iinc3 (pc := 59) F (by decide) dX2_callFor_59 (inc_N _) ?_
              refine k_goto (pc := 62) (tgt := 7) F dX2_callFor_62 (by decide) ?_
              refine k_fg4 (pc := 7) F ?_
              have e : (lin (fun b => SC c s t n a b) s set a (r + 1)) = insL (dS (fun b => SC c s t n a b)) (lin (fun b => SC c s t n a b) s set a r) r := if_pos ⟨h20, h32, h49⟩
              refine ih (r + 1) _ _ (by omega) (by omega) (fun q hq => (i1 q hq).trans (f1 q hq)) (fun q q7 q8 => (i2 q q7 q8).trans (g1 q q7 q8)) (by
                rw [e]
                refine ⟨i3, fun j hj => ?_⟩
                have h1 := i4 j hj
                refine ⟨h1.1, h1.2.trans ?_⟩
                show nI (put1 _ _ _ j) = nI ((dS (fun b => SC c s t n a b)) (put1 _ _ r j))
                refine congrArg nI ?_
                unfold put1
                split
                · rfl
                · split <;> rfl)
  exact L7 (n + 1) 0 _ ar (by omega) (by omega) (fun q hq => up_n hq) (fun _ _ _ => rfl) ⟨up_s, fun j hj => absurd hj (Nat.not_lt_zero j)⟩

set_option maxHeartbeats 4000000 in
theorem c_X2_at {l : Launch} {D : va_G} {cI : ClassId} {ad : Nat → Nat} {iv : IV} {ar : AR} {L : LT} {dN : Nat → Nat} (hL : LNc dN L iv ar) (hle : L.1 ≤ 30) {x : Int32} : Ct l D cI (cw cI ad) yX2_at cX2_at 2 (some .int) 0 0 [.ref (ad 6), .int x] iv ar (rI (if 0 ≤ x.toInt ∧ x.toInt < L.1 then nI (L.2 x.toNatClampNeg) else -1) iv ar) := by
  refine Ct.of (lv := [some (.ref (ad 6)), some (.int x)]) cw_ok (plainFor_of_name (by decide)) (Nat.le_of_ble_eq_true rfl) 0 rfl rfl (fun Z F => ?_)
  have zn := nI_toInt (n := L.1) (by omega)
  refine k_iload1 (pc := 0) F dX2_at_0 ?_
  refine k_if_lt (pc := 1) (tgt := 21) F dX2_at_1 (by decide) (fun h1 => ?_) (fun h1 => ?_)
  · refine k_iconst (pc := 21) (v := -1) F dX2_at_21 (by decide) ?_
    refine k_iret (pc := 22) F dX2_at_22 ?_
    refine ⟨?_, rfl, rfl⟩
    rw [if_neg]
    intro q
    first | (rw [i_lt, toInt_0] at h1; omega) | (rw [i_le, zn] at h9; omega)
  · refine k_iload1 (pc := 4) F dX2_at_4 ?_
    refine k_aload0 (pc := 5) F dX2_at_5 ?_
    refine g_X2_size (pc := 6) F (hL.1) dX2_at_6 ?_
    refine k_icmp_ge (pc := 9) (tgt := 21) F dX2_at_9 (by decide) (fun h9 => ?_) (fun h9 => ?_)
    · refine k_iconst (pc := 21) (v := -1) F dX2_at_21 (by decide) ?_
      refine k_iret (pc := 22) F dX2_at_22 ?_
      refine ⟨?_, rfl, rfl⟩
      rw [if_neg]
      intro q
      first | (rw [i_lt, toInt_0] at h1; omega) | (rw [i_le, zn] at h9; omega)
    · rw [i_lt, toInt_0] at h1
      rw [i_le, zn] at h9
      obtain ⟨j, hj, e⟩ := nI_of (x := x) (by rw [i_lt, toInt_0]; exact h1)
      subst e
      have zj := nI_toInt hj
      rw [zj] at h1 h9
      refine k_aload0 (pc := 12) F dX2_at_12 ?_
      refine g_X2_recordings (pc := 13) F dX2_at_13 ?_
      refine k_iload1 (pc := 16) F dX2_at_16 ?_
      refine l_c17 (pc := 17) F (by omega) ((hL.2 j (by omega)).1) dX2_at_17 ?_
      refine k_goto (pc := 18) (tgt := 22) F dX2_at_18 (by decide) ?_
      refine k_iret (pc := 22) F dX2_at_22 ?_
      exact ⟨by rw [if_pos ⟨by rw [zj]; omega, by rw [zj]; omega⟩, nI_clamp hj], rfl, rfl⟩

set_option maxHeartbeats 4000000 in
theorem c_X2_speakersAhead {l : Launch} {D : va_G} {cI : ClassId} {ad : Nat → Nat} {iv : IV} {ar : AR} {n : Nat} {c : Nat → Nat} {s t : Nat → Int32} (hA : Arch n c s t iv ar) {L : LT} {dN : Nat → Nat} (hL : LNc dN L iv ar) (hle : L.1 ≤ 30) (hr : ∀ j, j < L.1 → L.2 j < n ∧ ∃ q, q < 10 ∧ s (L.2 j) = nI q) {y : Int32} : Ct l D cI (cw cI ad) yX2_speakersAhead cX2_speakersAhead 5 (some .int) 1 21 [.ref (ad 6), .int y] iv ar (rI (rkF s L.2 y L.1 0) iv ar) := by
  refine Ct.of (lv := [some (.ref (ad 6)), some (.int y), none, none, none]) cw_ok (plainFor_of_name (by decide)) (Nat.le_of_ble_eq_true rfl) 3 rfl rfl (fun Z F => ?_)
  refine k_iconst (pc := 0) (v := nI 0) F dX2_speakersAhead_0 (by decide) ?_
  refine k_istore2 (pc := 1) F (by decide) dX2_speakersAhead_1 ?_
  refine k_iconst (pc := 2) (v := nI 0) F dX2_speakersAhead_2 (by decide) ?_
  refine k_istore3 (pc := 3) F (by decide) dX2_speakersAhead_3 ?_
  have L4 : ∀ (fu : Nat) (i : Nat), L.1 - i < fu → i ≤ L.1 → rkF s L.2 y (L.1 - i) i = rkF s L.2 y L.1 0 → Z 4 [some (.ref (ad 6)), some (.int y), some (.int (nI (mkR s L.2 i))), some (.int (nI i)), none] [] iv ar := by
    intro fu
    induction fu with
    | zero => intro i hfu; exact absurd hfu (Nat.not_lt_zero _)
    | succ fu ih =>
      intro i hfu hi he
      refine k_iload3 (pc := 4) F dX2_speakersAhead_4 ?_
      refine k_aload0 (pc := 5) F dX2_speakersAhead_5 ?_
      refine g_X2_size (pc := 6) F (hL.1) dX2_speakersAhead_6 ?_
      refine k_icmp_geN (pc := 9) (tgt := 51) F dX2_speakersAhead_9 (by decide) (by omega) (by omega) (fun h9 => ?_) (fun h9 => ?_)
      · refine k_iconst (pc := 51) (v := -1) F dX2_speakersAhead_51 (by decide) ?_
        refine k_iret (pc := 52) F dX2_speakersAhead_52 ?_
        refine ⟨?_, rfl, rfl⟩
        rw [← he, show L.1 - i = 0 by omega]
        rfl
      · have hri := (hr i (by omega)).1
        refine k_aload0 (pc := 12) F dX2_speakersAhead_12 ?_
        refine g_X2_archive (pc := 13) F dX2_speakersAhead_13 ?_
        refine k_aload0 (pc := 16) F dX2_speakersAhead_16 ?_
        refine g_X2_recordings (pc := 17) F dX2_speakersAhead_17 ?_
        refine k_iload3 (pc := 20) F dX2_speakersAhead_20 ?_
        refine l_c17 (pc := 21) F (by omega) ((hL.2 i (by omega)).1) dX2_speakersAhead_21 ?_
        refine k_callV (pc := 22) (q0 := 1) F (ca_speakerOf hA (k := L.2 i) (by omega)) ok_X2_49 rfl rfl rfl rfl rfl (by decide) (by decide) (Nat.le_of_ble_eq_true rfl) dX2_speakersAhead_22 (rI.use ?_)
        obtain ⟨q, hq, eq⟩ := (hr i (by omega)).2
        refine k_top eq ?_
        refine k_istore4 (pc := 25) F (by decide) dX2_speakersAhead_25 ?_
        refine k_iload4 (pc := 27) F dX2_speakersAhead_27 ?_
        refine k_iload1 (pc := 29) F dX2_speakersAhead_29 ?_
        refine k_icmp_ne (pc := 30) (tgt := 38) F dX2_speakersAhead_30 (by decide) (fun h30 => ?_) (fun h30 => ?_)
        · refine k_iload2 (pc := 38) F dX2_speakersAhead_38 ?_
          refine k_iconst (pc := 39) (v := nI 1) F dX2_speakersAhead_39 (by decide) ?_
          refine k_iload4 (pc := 40) F dX2_speakersAhead_40 ?_
          refine k_ishlN (pc := 42) F dX2_speakersAhead_42 (by omega) ?_
          refine k_iorN (pc := 43) F dX2_speakersAhead_43 ?_
          refine k_istore2 (pc := 44) F (by decide) dX2_speakersAhead_44 ?_
          refine k_iinc3 (pc := 45) F (by decide) dX2_speakersAhead_45 (inc_N _) ?_
          refine k_goto (pc := 48) (tgt := 4) F dX2_speakersAhead_48 (by decide) ?_
          refine k_fg4 (pc := 4) F ?_
          have e : rkF s L.2 y (L.1 - i) i = rkF s L.2 y (L.1 - (i + 1)) (i + 1) := by
            rw [show L.1 - i = (L.1 - (i + 1)) + 1 by omega, rkF, eq, if_neg h30]
          have kk := ih (i + 1) (by omega) (by omega) (by rw [← e]; exact he)
          rw [show mkR s L.2 (i + 1) = mkR s L.2 i ||| 2 ^ q from by rw [mkR, eq, nI_clamp (by omega)]] at kk
          exact kk
        · refine k_iload2 (pc := 33) F dX2_speakersAhead_33 ?_
          refine k_callS (pc := 34) F (c_J6_bitCount_0f7a4 cw_ok) ok_X2_53 rfl rfl (by decide) (by decide) (Nat.le_of_ble_eq_true rfl) dX2_speakersAhead_34 (rI.use ?_)
          refine k_iret (pc := 37) F dX2_speakersAhead_37 ?_
          have hlt := mkR_lt (fun j hj => (hr j hj).2) i hi
          refine ⟨?_, rfl, rfl⟩
          rw [← he, show L.1 - i = (L.1 - i - 1) + 1 by omega, rkF, eq, if_pos h30, bcx_N _ hlt]
  exact L4 (L.1 + 1) 0 (by omega) (by omega) rfl

set_option maxHeartbeats 4000000 in
theorem c_X8_lines {l : Launch} {D : va_G} {cI : ClassId} {ad : Nat → Nat} {iv : IV} {ar : AR} {n : Nat} {c : Nat → Nat} {s t : Nat → Int32} (hA : MArc n c s t iv ar) (hT0 : okT n t) {a : Nat} (ha : a < n) {set : Int32} (hset : iv 1 = set) : Ct l D cI (mw cI ad) yX8_lines cX8_lines 6 (some .int) 3 72 [.ref (ad 0), .int (nI a)] iv ar (qI (fun x iv2 ar2 => (∀ q, q ≠ 5 → iv2 q = iv q) ∧ (∀ q, q ≠ 5 → q ≠ 12 → ar2 q = ar q) ∧ x = nI (lin (fun b => SC c s t n a b) s set a n).1 ∧ ∀ j, j < (lin (fun b => SC c s t n a b) s set a n).1 → ar2 12 j = nI ((lin (fun b => SC c s t n a b) s set a n).2 j))) := by
  refine Ct.of (lv := [some (.ref (ad 0)), some (.int (nI a)), none, none, none, none]) mw_ok (plainFor_of_name (by decide)) (Nat.le_of_ble_eq_true rfl) 4 rfl rfl (fun Z F => ?_)
  have hn := hA.le
  refine k_aload0 (pc := 0) F dX8_lines_0 ?_
  refine k_callV (pc := 1) (q0 := 0) F (c_X8_reckons hA hT0) ok_X8_78 rfl rfl rfl rfl rfl (by decide) (by decide) (Nat.le_of_ble_eq_true rfl) dX8_lines_1 (qV.use (fun ivR arR hR => ?_))
  obtain ⟨r1, r2, r3⟩ := hR
  have hAR : MArc n c s t ivR arR := hA.keep (r1 0 (by decide)) (r2 0 (by decide)) (r2 1 (by decide)) (r2 2 (by decide))
  have hsR : ivR 1 = set := by rw [r1 1 (by decide)]; exact hset
  refine k_iconst (pc := 4) (v := nI 0) F dX8_lines_4 (by decide) ?_
  refine k_istore2 (pc := 5) F (by decide) dX8_lines_5 ?_
  refine k_iconst (pc := 6) (v := nI 0) F dX8_lines_6 (by decide) ?_
  refine k_istore3 (pc := 7) F (by decide) dX8_lines_7 ?_
  have L8 : ∀ (fu : Nat) (r : Nat) (ar1 : AR), n - r < fu → r ≤ n → (∀ q, q ≠ 12 → ar1 q = arR q) → (∀ j, j < (lin (fun b => SC c s t n a b) s set a r).1 → ar1 12 j = nI ((lin (fun b => SC c s t n a b) s set a r).2 j)) → Z 8 [some (.ref (ad 0)), some (.int (nI a)), some (.int (nI (lin (fun b => SC c s t n a b) s set a r).1)), some (.int (nI r)), none, none] [] ivR ar1 := by
    intro fu
    induction fu with
    | zero => intro r ar1 hfu; exact absurd hfu (Nat.not_lt_zero _)
    | succ fu ih =>
      intro r ar1 hfu hr g1 hL
      have hA1 : MArc n c s t ivR ar1 := hAR.keep rfl (g1 0 (by decide)) (g1 1 (by decide)) (g1 2 (by decide))
      have h51 : ∀ j, j < 24 → ar1 5 j = shA c s t n j := by rw [g1 5 (by decide)]; exact r3
      have hlin := lin_ok (fun b => SC c s t n a b) s set a r
      refine k_iload3 (pc := 8) F dX8_lines_8 ?_
      refine k_aload0 (pc := 9) F dX8_lines_9 ?_
      refine g_X8_recordings (pc := 10) F (hAR.1) dX8_lines_10 ?_
      refine k_icmp_geN (pc := 13) (tgt := 116) F dX8_lines_13 (by decide) (by omega) (by omega) (fun h13 => ?_) (fun h13 => ?_)
      · have e : n = r := by omega
        subst e
        refine k_iload2 (pc := 116) F dX8_lines_116 ?_
        refine k_iret (pc := 117) F dX8_lines_117 ?_
        refine ⟨_, rfl, r1, fun q q5 q12 => (g1 q q12).trans (r2 q q5), rfl, hL⟩
      · refine k_iload3 (pc := 16) F dX8_lines_16 ?_
        refine k_iload1 (pc := 17) F dX8_lines_17 ?_
        refine k_icmp_eqN (pc := 18) (tgt := 38) F dX8_lines_18 (by decide) (by omega) (by omega) (fun h18 => ?_) (fun h18 => ?_)
        · refine k_iconst (pc := 38) (v := -1) F dX8_lines_38 (by decide) ?_
          refine k_istore4 (pc := 39) F (by decide) dX8_lines_39 ?_
          refine k_iload4 (pc := 41) F dX8_lines_41 ?_
          refine k_iconst (pc := 43) (v := -1) F dX8_lines_43 (by decide) ?_
          refine k_icmp_ne (pc := 44) (tgt := 50) F dX8_lines_44 (by decide) (fun h => absurd h (by decide)) (fun _ => ?_)
          refine k_goto (pc := 47) (tgt := 110) F dX8_lines_47 (by decide) ?_
          refine k_iinc3 (pc := 110) F (by decide) dX8_lines_110 (inc_N _) ?_
          refine k_goto (pc := 113) (tgt := 8) F dX8_lines_113 (by decide) ?_
          refine k_fg4 (pc := 8) F ?_
          have e : (lin (fun b => SC c s t n a b) s set a (r + 1)) = (lin (fun b => SC c s t n a b) s set a r) := if_neg (fun q => by first | exact q.1 h18 | exact h26 q.2.1 | exact q.2.2 h44)
          have kk := ih (r + 1) ar1 (by omega) (by omega) g1 (by rw [e]; exact hL)
          rw [e] at kk
          exact kk
        · refine k_aload0 (pc := 21) F dX8_lines_21 ?_
          refine k_iload3 (pc := 22) F dX8_lines_22 ?_
          refine k_callV (pc := 23) (q0 := 0) F (cm_isOf hA1 hsR (k := r) (by omega)) ok_X8_84 rfl rfl rfl rfl rfl (by decide) (by decide) (Nat.le_of_ble_eq_true rfl) dX8_lines_23 (rI.use ?_)
          refine k_if_eqB (pc := 26) (tgt := 38) F dX8_lines_26 (by decide) (fun h26 => ?_) (fun h26 => ?_)
          · refine k_iconst (pc := 38) (v := -1) F dX8_lines_38 (by decide) ?_
            refine k_istore4 (pc := 39) F (by decide) dX8_lines_39 ?_
            refine k_iload4 (pc := 41) F dX8_lines_41 ?_
            refine k_iconst (pc := 43) (v := -1) F dX8_lines_43 (by decide) ?_
            refine k_icmp_ne (pc := 44) (tgt := 50) F dX8_lines_44 (by decide) (fun h => absurd h (by decide)) (fun _ => ?_)
            refine k_goto (pc := 47) (tgt := 110) F dX8_lines_47 (by decide) ?_
            refine k_iinc3 (pc := 110) F (by decide) dX8_lines_110 (inc_N _) ?_
            refine k_goto (pc := 113) (tgt := 8) F dX8_lines_113 (by decide) ?_
            refine k_fg4 (pc := 8) F ?_
            have e : (lin (fun b => SC c s t n a b) s set a (r + 1)) = (lin (fun b => SC c s t n a b) s set a r) := if_neg (fun q => by first | exact q.1 h18 | exact h26 q.2.1 | exact q.2.2 h44)
            have kk := ih (r + 1) ar1 (by omega) (by omega) g1 (by rw [e]; exact hL)
            rw [e] at kk
            exact kk
          · refine k_aload0 (pc := 29) F dX8_lines_29 ?_
            refine k_iload1 (pc := 30) F dX8_lines_30 ?_
            refine k_iload3 (pc := 31) F dX8_lines_31 ?_
            refine k_callV (pc := 32) (q0 := 0) F (cm_scoreOf hA1 h51 (a := a) (b := r) ha (by omega)) ok_X8_81 rfl rfl rfl rfl rfl (by decide) (by decide) (Nat.le_of_ble_eq_true rfl) dX8_lines_32 (rI.use ?_)
            refine k_goto (pc := 35) (tgt := 39) F dX8_lines_35 (by decide) ?_
            refine k_istore4 (pc := 39) F (by decide) dX8_lines_39 ?_
            refine k_iload4 (pc := 41) F dX8_lines_41 ?_
            refine k_iconst (pc := 43) (v := -1) F dX8_lines_43 (by decide) ?_
            refine k_icmp_ne (pc := 44) (tgt := 50) F dX8_lines_44 (by decide) (fun h44 => ?_) (fun h44 => ?_)
            · have hd := dS_nI (S := fun b => SC c s t n a b) (r := r) (SC_B hT0 hn ha (show r < n by omega) (hA.lt ha) (hA.lt (by omega))) h44
              rw [show SC c s t n a r = nI ((dS (fun b => SC c s t n a b)) r) from hd.1]
              refine k_iload2 (pc := 50) F dX8_lines_50 ?_
              refine k_istore5 (pc := 51) F (by decide) dX8_lines_51 ?_
              have L53 : ∀ (fu : Nat) (q : Nat) (ar2 : AR), q < fu → q ≤ (lin (fun b => SC c s t n a b) s set a r).1 → (∀ p, p ≠ 12 → ar2 p = arR p) → (∀ j, j < q → ar2 12 j = nI ((lin (fun b => SC c s t n a b) s set a r).2 j)) → (∀ j, q < j → j ≤ (lin (fun b => SC c s t n a b) s set a r).1 → ar2 12 j = nI ((lin (fun b => SC c s t n a b) s set a r).2 (j - 1))) → (∀ j, q ≤ j → j < (lin (fun b => SC c s t n a b) s set a r).1 → (dS (fun b => SC c s t n a b)) r < (dS (fun b => SC c s t n a b)) ((lin (fun b => SC c s t n a b) s set a r).2 j)) → Z 53 [some (.ref (ad 0)), some (.int (nI a)), some (.int (nI (lin (fun b => SC c s t n a b) s set a r).1)), some (.int (nI r)), some (.int (nI ((dS (fun b => SC c s t n a b)) r))), some (.int (nI q))] [] ivR ar2 := by
                intro fu
                induction fu with
                | zero => intro q ar2 hfu; exact absurd hfu (Nat.not_lt_zero _)
                | succ fu ih2 =>
                  intro q ar2 hfu hq g2 hlo hhi hgt
                  have hA2 : MArc n c s t ivR ar2 := hAR.keep rfl (g2 0 (by decide)) (g2 1 (by decide)) (g2 2 (by decide))
                  have h52 : ∀ j, j < 24 → ar2 5 j = shA c s t n j := by rw [g2 5 (by decide)]; exact r3
                  refine k_iload5 (pc := 53) F dX8_lines_53 ?_
                  refine k_if_leN (pc := 55) (tgt := 99) F dX8_lines_55 (by decide) (by omega) (fun h55 => ?_) (fun h55 => ?_)
                  · refine k_aload0 (pc := 99) F dX8_lines_99 ?_
                    refine g_X8_line (pc := 100) F dX8_lines_100 ?_
                    refine k_iload5 (pc := 103) F dX8_lines_103 ?_
                    refine k_iload3 (pc := 105) F dX8_lines_105 ?_
                    refine s_m12 (pc := 106) F (by omega) (rfl) dX8_lines_106 ?_
                    refine k_iinc2 (pc := 107) F (by decide) dX8_lines_107 (inc_N _) ?_
                    refine k_iinc3 (pc := 110) F (by decide) dX8_lines_110 (inc_N _) ?_
                    refine k_goto (pc := 113) (tgt := 8) F dX8_lines_113 (by decide) ?_
                    refine k_fg4 (pc := 8) F ?_
                    refine k_fg5 (pc := 8) F ?_
                    have e : (lin (fun b => SC c s t n a b) s set a (r + 1)) = insL (dS (fun b => SC c s t n a b)) (lin (fun b => SC c s t n a b) s set a r) r := if_pos ⟨h18, h26, h44⟩
                    have hp : insP (fun j => (dS (fun b => SC c s t n a b)) ((lin (fun b => SC c s t n a b) s set a r).2 j)) ((dS (fun b => SC c s t n a b)) r) (lin (fun b => SC c s t n a b) s set a r).1 = q := by
                      have h1 := insP_st (d := fun j => (dS (fun b => SC c s t n a b)) ((lin (fun b => SC c s t n a b) s set a r).2 j)) (x := (dS (fun b => SC c s t n a b)) r) (k := q) ((lin (fun b => SC c s t n a b) s set a r).1 - q) (fun j h1 h2 => hgt j h1 (by omega))
                      rw [show q + ((lin (fun b => SC c s t n a b) s set a r).1 - q) = (lin (fun b => SC c s t n a b) s set a r).1 by omega] at h1
                      rw [h1]
                      first
                      | (have e0 : q = 0 := by omega
                         subst e0
                         rfl)
                      | (obtain ⟨q0, rfl⟩ : ∃ q0, q = q0 + 1 := ⟨q - 1, by omega⟩
                         have h74b : ¬ (dS (fun b => SC c s t n a b)) r < (dS (fun b => SC c s t n a b)) ((lin (fun b => SC c s t n a b) s set a r).2 q0) := by simpa using h74
                         rw [insP, if_neg h74b])
                    have kk := ih (r + 1) (va_up ar2 12 (upd (ar2 12) q (nI r))) (by omega) (by omega) (fun p hp2 => by rw [up_n hp2]; exact g2 p hp2) (by
                      rw [e]
                      intro j hj
                      show va_up ar2 12 _ 12 j = nI (put1 (lin (fun b => SC c s t n a b) s set a r).2 (insP (fun j => (dS (fun b => SC c s t n a b)) ((lin (fun b => SC c s t n a b) s set a r).2 j)) ((dS (fun b => SC c s t n a b)) r) (lin (fun b => SC c s t n a b) s set a r).1) r j)
                      have hj2 : j < (lin (fun b => SC c s t n a b) s set a r).1 + 1 := hj
                      rw [hp, up_s, put1]
                      rcases Nat.lt_trichotomy j q with c1 | c1 | c1
                      · rw [upd_ne (by omega), if_pos c1]; exact hlo j c1
                      · subst c1; rw [upd_at, if_neg (Nat.lt_irrefl j), if_pos rfl]
                      · rw [upd_ne (by omega), if_neg (by omega), if_neg (by omega)]; exact hhi j c1 (by omega))
                    rw [e] at kk
                    exact kk
                  · have hrq := hlin.2 (q - 1) (by omega)
                    have hdq := dS_nI (S := fun b => SC c s t n a b) (r := (lin (fun b => SC c s t n a b) s set a r).2 (q - 1)) (SC_B hT0 hn ha (by omega) (hA.lt ha) (hA.lt (by omega))) hrq.2.2
                    refine k_aload0 (pc := 58) F dX8_lines_58 ?_
                    refine k_iload1 (pc := 59) F dX8_lines_59 ?_
                    refine k_aload0 (pc := 60) F dX8_lines_60 ?_
                    refine g_X8_line (pc := 61) F dX8_lines_61 ?_
                    refine k_iload5 (pc := 64) F dX8_lines_64 ?_
                    refine k_iconst (pc := 66) (v := nI 1) F dX8_lines_66 (by decide) ?_
                    refine k_isubN (pc := 67) F dX8_lines_67 (by omega) ?_
                    refine l_m12 (pc := 68) F (by omega) (hlo (q - 1) (by omega)) dX8_lines_68 ?_
                    refine k_callV (pc := 69) (q0 := 0) F (cm_scoreOf hA2 h52 (a := a) (b := (lin (fun b => SC c s t n a b) s set a r).2 (q - 1)) ha (by omega)) ok_X8_81 rfl rfl rfl rfl rfl (by decide) (by decide) (Nat.le_of_ble_eq_true rfl) dX8_lines_69 (rI.use ?_)
                    refine k_top (y := nI ((dS (fun b => SC c s t n a b)) ((lin (fun b => SC c s t n a b) s set a r).2 (q - 1)))) hdq.1 ?_
                    refine k_iload4 (pc := 72) F dX8_lines_72 ?_
                    refine k_icmp_leN (pc := 74) (tgt := 99) F dX8_lines_74 (by decide) (by omega) (by omega) (fun h74 => ?_) (fun h74 => ?_)
                    · refine k_aload0 (pc := 99) F dX8_lines_99 ?_
                      refine g_X8_line (pc := 100) F dX8_lines_100 ?_
                      refine k_iload5 (pc := 103) F dX8_lines_103 ?_
                      refine k_iload3 (pc := 105) F dX8_lines_105 ?_
                      refine s_m12 (pc := 106) F (by omega) (rfl) dX8_lines_106 ?_
                      refine k_iinc2 (pc := 107) F (by decide) dX8_lines_107 (inc_N _) ?_
                      refine k_iinc3 (pc := 110) F (by decide) dX8_lines_110 (inc_N _) ?_
                      refine k_goto (pc := 113) (tgt := 8) F dX8_lines_113 (by decide) ?_
                      refine k_fg4 (pc := 8) F ?_
                      refine k_fg5 (pc := 8) F ?_
                      have e : (lin (fun b => SC c s t n a b) s set a (r + 1)) = insL (dS (fun b => SC c s t n a b)) (lin (fun b => SC c s t n a b) s set a r) r := if_pos ⟨h18, h26, h44⟩
                      have hp : insP (fun j => (dS (fun b => SC c s t n a b)) ((lin (fun b => SC c s t n a b) s set a r).2 j)) ((dS (fun b => SC c s t n a b)) r) (lin (fun b => SC c s t n a b) s set a r).1 = q := by
                        have h1 := insP_st (d := fun j => (dS (fun b => SC c s t n a b)) ((lin (fun b => SC c s t n a b) s set a r).2 j)) (x := (dS (fun b => SC c s t n a b)) r) (k := q) ((lin (fun b => SC c s t n a b) s set a r).1 - q) (fun j h1 h2 => hgt j h1 (by omega))
                        rw [show q + ((lin (fun b => SC c s t n a b) s set a r).1 - q) = (lin (fun b => SC c s t n a b) s set a r).1 by omega] at h1
                        rw [h1]
                        first
                        | (have e0 : q = 0 := by omega
                           subst e0
                           rfl)
                        | (obtain ⟨q0, rfl⟩ : ∃ q0, q = q0 + 1 := ⟨q - 1, by omega⟩
                           have h74b : ¬ (dS (fun b => SC c s t n a b)) r < (dS (fun b => SC c s t n a b)) ((lin (fun b => SC c s t n a b) s set a r).2 q0) := by simpa using h74
                           rw [insP, if_neg h74b])
                      have kk := ih (r + 1) (va_up ar2 12 (upd (ar2 12) q (nI r))) (by omega) (by omega) (fun p hp2 => by rw [up_n hp2]; exact g2 p hp2) (by
                        rw [e]
                        intro j hj
                        show va_up ar2 12 _ 12 j = nI (put1 (lin (fun b => SC c s t n a b) s set a r).2 (insP (fun j => (dS (fun b => SC c s t n a b)) ((lin (fun b => SC c s t n a b) s set a r).2 j)) ((dS (fun b => SC c s t n a b)) r) (lin (fun b => SC c s t n a b) s set a r).1) r j)
                        have hj2 : j < (lin (fun b => SC c s t n a b) s set a r).1 + 1 := hj
                        rw [hp, up_s, put1]
                        rcases Nat.lt_trichotomy j q with c1 | c1 | c1
                        · rw [upd_ne (by omega), if_pos c1]; exact hlo j c1
                        · subst c1; rw [upd_at, if_neg (Nat.lt_irrefl j), if_pos rfl]
                        · rw [upd_ne (by omega), if_neg (by omega), if_neg (by omega)]; exact hhi j c1 (by omega))
                      rw [e] at kk
                      exact kk
                    · refine k_aload0 (pc := 77) F dX8_lines_77 ?_
                      refine g_X8_line (pc := 78) F dX8_lines_78 ?_
                      refine k_iload5 (pc := 81) F dX8_lines_81 ?_
                      refine k_aload0 (pc := 83) F dX8_lines_83 ?_
                      refine g_X8_line (pc := 84) F dX8_lines_84 ?_
                      refine k_iload5 (pc := 87) F dX8_lines_87 ?_
                      refine k_iconst (pc := 89) (v := nI 1) F dX8_lines_89 (by decide) ?_
                      refine k_isubN (pc := 90) F dX8_lines_90 (by omega) ?_
                      refine l_m12 (pc := 91) F (by omega) (hlo (q - 1) (by omega)) dX8_lines_91 ?_
                      refine s_m12 (pc := 92) F (by omega) (rfl) dX8_lines_92 ?_
                      refine k_iinc5 (pc := 93) F (by decide) dX8_lines_93 (dec_N q (by omega)) ?_
                      refine k_goto (pc := 96) (tgt := 53) F dX8_lines_96 (by decide) ?_
                      refine ih2 (q - 1) _ (by omega) (by omega) (fun p hp2 => ?_) (fun j hj => ?_) (fun j h1 h2 => ?_) (fun j h1 h2 => ?_)
                      · rw [up_n hp2]; exact g2 p hp2
                      · rw [up_s, upd_ne (by omega)]; exact hlo j (by omega)
                      · rw [up_s]
                        by_cases e : j = q
                        · subst e; exact upd_at
                        · rw [upd_ne e]; exact hhi j (by omega) h2
                      · by_cases e : j = q - 1
                        · subst e; omega
                        · exact hgt j (by omega) h2
              exact L53 ((lin (fun b => SC c s t n a b) s set a r).1 + 1) (lin (fun b => SC c s t n a b) s set a r).1 ar1 (by omega) (by omega) g1 hL (fun j h1 h2 => by omega) (fun j h1 h2 => by omega)
            · refine k_goto (pc := 47) (tgt := 110) F dX8_lines_47 (by decide) ?_
              refine k_iinc3 (pc := 110) F (by decide) dX8_lines_110 (inc_N _) ?_
              refine k_goto (pc := 113) (tgt := 8) F dX8_lines_113 (by decide) ?_
              refine k_fg4 (pc := 8) F ?_
              have e : (lin (fun b => SC c s t n a b) s set a (r + 1)) = (lin (fun b => SC c s t n a b) s set a r) := if_neg (fun q => by first | exact q.1 h18 | exact h26 q.2.1 | exact q.2.2 h44)
              have kk := ih (r + 1) ar1 (by omega) (by omega) g1 (by rw [e]; exact hL)
              rw [e] at kk
              exact kk
  exact L8 (n + 1) 0 arR (by omega) (by omega) (fun _ _ => rfl) (fun j hj => absurd hj (Nat.not_lt_zero j))

