/-! Pure: bounds, and the two ways to cut down to whole. fb_rng .. fb_negI began as kit/laws/COUNTS.to-paste -/
theorem fb_rng (x : Int32) : -2147483648 ≤ x.toInt ∧ x.toInt < 2147483648 := by
  have h1 := Int32.le_toInt x
  have h2 := Int32.toInt_lt x
  omega
theorem fb_bmod {z : Int} (h1 : -2147483648 ≤ z) (h2 : z < 2147483648) : z.bmod (2 ^ 32) = z := by
  rw [Int.bmod_eq_of_le (by omega) (by omega)]
theorem fb_addI {x y : Int32} (h1 : -2147483648 ≤ x.toInt + y.toInt) (h2 : x.toInt + y.toInt < 2147483648) : (x + y).toInt = x.toInt + y.toInt := by
  rw [Int32.toInt_add, fb_bmod h1 h2]
theorem fb_subI {x y : Int32} (h1 : -2147483648 ≤ x.toInt - y.toInt) (h2 : x.toInt - y.toInt < 2147483648) : (x - y).toInt = x.toInt - y.toInt := by
  rw [Int32.toInt_sub, fb_bmod h1 h2]
theorem fb_mulI {x y : Int32} (h1 : -2147483648 ≤ x.toInt * y.toInt) (h2 : x.toInt * y.toInt < 2147483648) : (x * y).toInt = x.toInt * y.toInt := by
  rw [Int32.toInt_mul, fb_bmod h1 h2]
theorem fb_negI {x : Int32} (h : x.toInt ≠ -2147483648) : (-x).toInt = -x.toInt := by
  have := fb_rng x
  rw [Int32.toInt_neg, fb_bmod (by omega) (by omega)]
theorem toInt_0 : (0 : Int32).toInt = 0 := rfl
theorem toInt_m1 : (-1 : Int32).toInt = -1 := rfl
theorem xor_neg {x y : Int32} (hy : 0 ≤ y.toInt) : (x ^^^ y < 0) ↔ x.toInt < 0 := by
  rw [i_lt, toInt_0, ← Int32.toInt_toBitVec, Int32.toBitVec_xor]
  have h1 : (x.toBitVec ^^^ y.toBitVec).msb = (x.toBitVec.msb ^^ y.toBitVec.msb) := BitVec.msb_xor
  rw [BitVec.msb_eq_toInt, BitVec.msb_eq_toInt, BitVec.msb_eq_toInt] at h1
  have h2 : decide (y.toBitVec.toInt < 0) = false := decide_eq_false (by rw [Int32.toInt_toBitVec]; omega)
  rw [h2, Bool.xor_false] at h1
  have h3 := decide_eq_decide.mp h1
  rw [h3, Int32.toInt_toBitVec]
theorem div_I {x : Int32} {m : Nat} (hm2 : m ≤ 1000) : (x / nI m).toInt = x.toInt.tdiv m := by
  rw [Int32.toInt_div_of_ne_right _ _ (nI_ne_m1 (by omega)), nI_toInt (by omega)]
/-- a number below 0 by a positive one, cut: with quotient and rest of its opposite -/
theorem neg_parts {x : Int32} {m : Nat} (hm : 0 < m) (hx : -100000 ≤ x.toInt) (h : x.toInt < 0) : ∃ d r : Int, 0 ≤ d ∧ 0 ≤ r ∧ r < m ∧ m * d + r = -x.toInt ∧ d ≤ 100000 ∧ 0 ≤ m * d ∧ x.toInt.tdiv m = -d := by
  refine ⟨(-x.toInt) / m, (-x.toInt) % m, Int.ediv_nonneg (by omega) (by omega), Int.emod_nonneg _ (by omega), Int.emod_lt_of_pos _ (by omega), Int.mul_ediv_add_emod _ _, ?_, ?_, ?_⟩
  · exact Int.le_trans (Int.ediv_le_self _ (by omega)) (by omega)
  · exact Int.mul_nonneg (by omega) (Int.ediv_nonneg (by omega) (by omega))
  · have h1 := Int.neg_tdiv (-x.toInt) m
    rw [Int.neg_neg] at h1
    rw [h1, Int.tdiv_eq_ediv_of_nonneg (by omega)]
theorem fdv_I {x : Int32} {m : Nat} (hm : 0 < m) (hm2 : m ≤ 1000) (hx : -100000 ≤ x.toInt) : (fdv x (nI m)).toInt = x.toInt / (m : Int) := by
  have hmI := nI_toInt (n := m) (by omega)
  have hq := div_I (x := x) hm2
  rcases Int.lt_or_le x.toInt 0 with h | h
  · obtain ⟨d, r, d0, r0, r1, e, d1, md, ht⟩ := neg_parts hm hx h
    rw [ht] at hq
    have hxr : x ^^^ nI m < 0 := (xor_neg (by omega)).mpr h
    have hp : (x / nI m * nI m).toInt = -(m * d) := by
      have e2 : (x / nI m).toInt * (nI m).toInt = -(m * d) := by rw [hq, hmI, Int.neg_mul, Int.mul_comm]
      rw [fb_mulI (by rw [e2]; omega) (by rw [e2]; omega), e2]
    by_cases hr : r = 0
    · have hxe : x / nI m * nI m = x := Int32.toInt_inj.mp (by rw [hp]; omega)
      rw [fdv, if_neg (fun q => q.2 hxe), hq]
      refine (((Int.ediv_emod_unique (a := x.toInt) (b := m) (r := 0) (q := -d) (by omega)).mpr ⟨?_, by omega, by omega⟩).1).symm
      rw [Int.mul_neg]
      omega
    · have hxe : ¬ x / nI m * nI m = x := fun q => hr (by rw [q] at hp; omega)
      rw [fdv, if_pos ⟨hxr, hxe⟩, fb_subI (by rw [hq]; show _ ≤ _ - (1 : Int); omega) (by rw [hq]; show _ - (1 : Int) < _; omega), hq]
      refine (((Int.ediv_emod_unique (a := x.toInt) (b := m) (r := m - r) (q := -d - 1) (by omega)).mpr ⟨?_, by omega, by omega⟩).1).symm
      rw [Int.mul_sub, Int.mul_neg, Int.mul_one]
      omega
  · have hxr : ¬ x ^^^ nI m < 0 := fun q => by have := (xor_neg (by omega)).mp q; omega
    rw [fdv, if_neg (fun q => hxr q.1), hq, Int.tdiv_eq_ediv_of_nonneg h]
theorem fdv_pos {x : Int32} {m : Nat} (hm2 : m ≤ 1000) (h : ¬ x < 0) : fdv x (nI m) = x / nI m := by
  have hmI := nI_toInt (n := m) (by omega)
  rw [i_lt, toInt_0] at h
  rw [fdv, if_neg (fun q => by have := (xor_neg (by omega)).mp q.1; omega)]
theorem fdv_neg {x : Int32} {m : Nat} (hm : 0 < m) (hm2 : m ≤ 1000) (hx : -100000 ≤ x.toInt) (h : x < 0) : fdv x (nI m) = -((nI (m - 1) - x) / nI m) := by
  rw [i_lt, toInt_0] at h
  apply Int32.toInt_inj.mp
  rw [fdv_I hm hm2 hx]
  obtain ⟨d, r, d0, r0, r1, e, d1, md, ht⟩ := neg_parts hm hx h
  have hm1 := nI_toInt (n := m - 1) (by omega)
  have hs : (nI (m - 1) - x).toInt = m - 1 - x.toInt := by
    rw [fb_subI (by rw [hm1]; omega) (by rw [hm1]; omega), hm1]
    omega
  by_cases hr : r = 0
  · have h1 : (m - 1 - x.toInt : Int) / m = d := ((Int.ediv_emod_unique (a := m - 1 - x.toInt) (b := m) (r := m - 1) (q := d) (by omega)).mpr ⟨by omega, by omega, by omega⟩).1
    have h2 : ((nI (m - 1) - x) / nI m).toInt = d := by rw [div_I hm2, hs, Int.tdiv_eq_ediv_of_nonneg (by omega), h1]
    rw [fb_negI (by omega), h2]
    refine ((Int.ediv_emod_unique (a := x.toInt) (b := m) (r := 0) (q := -d) (by omega)).mpr ⟨?_, by omega, by omega⟩).1
    rw [Int.mul_neg]
    omega
  · have h1 : (m - 1 - x.toInt : Int) / m = d + 1 := ((Int.ediv_emod_unique (a := m - 1 - x.toInt) (b := m) (r := r - 1) (q := d + 1) (by omega)).mpr ⟨by rw [Int.mul_add, Int.mul_one]; omega, by omega, by omega⟩).1
    have h2 : ((nI (m - 1) - x) / nI m).toInt = d + 1 := by rw [div_I hm2, hs, Int.tdiv_eq_ediv_of_nonneg (by omega), h1]
    rw [fb_negI (by omega), h2]
    refine ((Int.ediv_emod_unique (a := x.toInt) (b := m) (r := m - r) (q := -(d + 1)) (by omega)).mpr ⟨?_, by omega, by omega⟩).1
    rw [Int.mul_neg, Int.mul_add, Int.mul_one]
    omega
/-- tones are -1 .. 99 -/
def okT (n : Nat) (t : Nat → Int32) : Prop := ∀ j, j < n * 6 → -1 ≤ (t j).toInt ∧ (t j).toInt ≤ 99
theorem t_pos {x : Int32} (h : -1 ≤ x.toInt) (hne : ¬ x = -1) : 0 ≤ x.toInt := by
  have h1 : x.toInt ≠ -1 := fun q => hne (Int32.toInt_inj.mp (by rw [q, toInt_m1]))
  omega
def bnW (w : Nat × Int32) : Prop := -(99 * (w.1 : Int)) ≤ w.2.toInt ∧ w.2.toInt ≤ 99 * (w.1 : Int)
theorem inn_B {c : Nat → Nat} {s t : Nat → Int32} {n p a : Nat} (hT : okT n t) (ha : a < n) (hp : p < 6) (hta : ¬ t (a * 6 + p) = -1) {z : Nat × Int32} (hz : bnW z) (hz2 : z.1 ≤ 900) (hn : n ≤ 30) : ∀ b, b ≤ n → bnW (inn c s t p a z b)
  | 0, _ => hz
  | b + 1, hb => by
    have ih := inn_B hT ha hp hta hz hz2 hn b (by omega) (c := c) (s := s)
    have hle := inn_le c s t p a z b
    rw [inn]
    split
    · next hq =>
      have h1 := hT (a * 6 + p) (by omega)
      have h2 := hT (b * 6 + p) (by omega)
      have h3 := t_pos h1.1 hta
      have h4 := t_pos h2.1 hq.2.2
      have h5 : (t (a * 6 + p) - t (b * 6 + p)).toInt = (t (a * 6 + p)).toInt - (t (b * 6 + p)).toInt := fb_subI (by omega) (by omega)
      obtain ⟨i1, i2⟩ := ih
      unfold bnW
      dsimp only
      rw [fb_addI (by rw [h5]; omega) (by rw [h5]; omega), h5]
      omega
    · exact ih
theorem oun_B {c : Nat → Nat} {s t : Nat → Int32} {n p k : Nat} (hT : okT n t) (hp : p < 6) (hn : n ≤ 30) : ∀ a, a ≤ n → bnW (oun c s t n p k a)
  | 0, _ => by simp [bnW, oun]
  | a + 1, ha => by
    have ih := oun_B hT hp hn a (by omega) (c := c) (s := s) (k := k)
    have hle := oun_le c s t n p k a
    have h2 : a * n ≤ 30 * 30 := Nat.mul_le_mul (by omega) hn
    rw [oun]
    split
    · next hq => exact inn_B hT (by omega) hp hq.2.2 ih (by omega) hn n (Nat.le_refl n)
    · exact ih
theorem oun_nn {c : Nat → Nat} {s t : Nat → Int32} {n p k : Nat} (hn : n ≤ 30) : (oun c s t n p k n).1 ≤ 900 := by
  have h1 := oun_le c s t n p k n
  have h2 : n * n ≤ 30 * 30 := Nat.mul_le_mul hn hn
  omega
theorem shf_B {c : Nat → Nat} {s t : Nat → Int32} {n k p : Nat} (hT : okT n t) (hp : p < 6) (hn : n ≤ 30) : -99 ≤ (shf c s t n k p).toInt ∧ (shf c s t n k p).toInt ≤ 99 := by
  rw [shf]
  split
  · rw [toInt_0]; omega
  · have hb := oun_B hT hp hn n (Nat.le_refl n) (c := c) (s := s) (k := k)
    have hl := oun_nn hn (c := c) (s := s) (t := t) (p := p) (k := k)
    rw [mean]
    split
    · rw [toInt_0]; omega
    · next hz =>
      obtain ⟨b1, b2⟩ := hb
      rw [fdv_I (by omega) (by omega) (by omega)]
      exact ⟨(Int.le_ediv_iff_mul_le (by omega)).mpr (by omega), Int.ediv_le_of_le_mul (by omega) (by omega)⟩
theorem iabs_neg (u : Int32) : iabs (-u) = iabs u := by
  by_cases hm : u.toInt = -2147483648
  · have e : -u = u := by
      have h1 : u = Int32.ofInt (-2147483648) := Int32.toInt_inj.mp hm
      rw [h1]
      decide
    rw [e]
  · have h1 := fb_negI hm
    unfold iabs
    by_cases h2 : u < 0
    · rw [if_pos h2, if_neg (by rw [i_lt, h1, toInt_0]; rw [i_lt, toInt_0] at h2; omega)]
    · by_cases h3 : u.toInt = 0
      · have e : u = 0 := Int32.toInt_inj.mp h3
        rw [e]
        decide
      · rw [if_neg h2, if_pos (by rw [i_lt, h1, toInt_0]; rw [i_lt, toInt_0] at h2; omega), Int32.neg_neg]
theorem sub_flip (x y : Int32) : y - x = -(x - y) := (Int32.neg_sub).symm
theorem scw_sym (c : Nat → Nat) (t m : Nat → Int32) (a b : Nat) : ∀ p, scw c t m a b p = scw c t m b a p
  | 0 => rfl
  | p + 1 => by
    rw [scw, scw, scw_sym c t m a b p]
    by_cases h : ¬ t (a * 6 + p) = -1 ∧ ¬ t (b * 6 + p) = -1
    · rw [if_pos h, if_pos ⟨h.2, h.1⟩, sub_flip (t (a * 6 + p) - m (c a * 6 + p)) (t (b * 6 + p) - m (c b * 6 + p)), iabs_neg]
    · rw [if_neg h, if_neg (fun q => h ⟨q.2, q.1⟩)]
theorem sco_sym (c : Nat → Nat) (t m : Nat → Int32) (a b : Nat) : sco c t m a b = sco c t m b a := by
  unfold sco
  rw [scw_sym c t m a b]
theorem scw_congr {c : Nat → Nat} {t m m2 : Nat → Int32} {a b : Nat} (ha : c a < 4) (hb : c b < 4) (h : ∀ j, j < 24 → m j = m2 j) : ∀ p, p ≤ 6 → scw c t m a b p = scw c t m2 a b p
  | 0, _ => rfl
  | p + 1, hp => by
    rw [scw, scw, scw_congr ha hb h p (by omega), h (c a * 6 + p) (by omega), h (c b * 6 + p) (by omega)]
theorem sco_congr {c : Nat → Nat} {t m m2 : Nat → Int32} {a b : Nat} (ha : c a < 4) (hb : c b < 4) (h : ∀ j, j < 24 → m j = m2 j) : sco c t m a b = sco c t m2 a b := by
  unfold sco
  rw [scw_congr ha hb h 6 (Nat.le_refl 6)]
theorem iabs_B {u : Int32} {B : Int} (h1 : -B ≤ u.toInt) (h2 : u.toInt ≤ B) (hB : B < 2147483648) : 0 ≤ (iabs u).toInt ∧ (iabs u).toInt ≤ B := by
  unfold iabs
  split
  · next h => rw [i_lt, toInt_0] at h; rw [fb_negI (by omega)]; omega
  · next h => rw [i_lt, toInt_0] at h; omega
/-- the SHIFTS are -99 .. 99 -/
def okM (m : Nat → Int32) : Prop := ∀ j, j < 24 → -99 ≤ (m j).toInt ∧ (m j).toInt ≤ 99
theorem shA_B {c : Nat → Nat} {s t : Nat → Int32} {n : Nat} (hT : okT n t) (hn : n ≤ 30) : okM (shA c s t n) := fun j _ => shf_B hT (Nat.mod_lt _ (by decide)) hn
theorem scw_B {c : Nat → Nat} {t m : Nat → Int32} {n a b : Nat} (hT : okT n t) (hm : okM m) (ha : a < n) (hb : b < n) (hca : c a < 4) (hcb : c b < 4) : ∀ p, p ≤ 6 → 0 ≤ (scw c t m a b p).2.toInt ∧ (scw c t m a b p).2.toInt ≤ 297 * ((scw c t m a b p).1 : Int)
  | 0, _ => by simp [scw]
  | p + 1, hp => by
    have ih := scw_B hT hm ha hb hca hcb p (by omega)
    have hle := scw_le c t m a b p
    rw [scw]
    split
    · next hq =>
      have t1 := hT (a * 6 + p) (by omega)
      have t2 := hT (b * 6 + p) (by omega)
      have t3 := t_pos t1.1 hq.1
      have t4 := t_pos t2.1 hq.2
      have m1 := hm (c a * 6 + p) (by omega)
      have m2 := hm (c b * 6 + p) (by omega)
      have e1 : (t (a * 6 + p) - m (c a * 6 + p)).toInt = _ := fb_subI (by omega) (by omega)
      have e2 : (t (b * 6 + p) - m (c b * 6 + p)).toInt = _ := fb_subI (by omega) (by omega)
      have e3 : (t (a * 6 + p) - m (c a * 6 + p) - (t (b * 6 + p) - m (c b * 6 + p))).toInt = _ := fb_subI (by rw [e1, e2]; omega) (by rw [e1, e2]; omega)
      have hi := iabs_B (u := t (a * 6 + p) - m (c a * 6 + p) - (t (b * 6 + p) - m (c b * 6 + p))) (B := 297) (by rw [e3, e1, e2]; omega) (by rw [e3, e1, e2]; omega) (by omega)
      dsimp only
      rw [fb_addI (by omega) (by omega)]
      omega
    · exact ih
/-- a SCORE is -1, or 0 .. 1782 -/
def okSc (x : Int32) : Prop := x = -1 ∨ ∃ v : Nat, v ≤ 1782 ∧ x = nI v
theorem sco_B {c : Nat → Nat} {t m : Nat → Int32} {n a b : Nat} (hT : okT n t) (hm : okM m) (ha : a < n) (hb : b < n) (hca : c a < 4) (hcb : c b < 4) : okSc (sco c t m a b) := by
  obtain ⟨h1, h2⟩ := scw_B hT hm ha hb hca hcb 6 (Nat.le_refl 6)
  have hle := scw_le c t m a b 6
  unfold sco
  split
  · exact Or.inl rfl
  · next h3 =>
    obtain ⟨v, hv, e⟩ := nI_of (x := (scw c t m a b 6).2) (by rw [i_lt, toInt_0]; omega)
    have e1 := nI_toInt hv
    rw [e] at h2
    refine Or.inr ⟨v * 6 / (scw c t m a b 6).1, ?_, ?_⟩
    · refine Nat.div_le_of_le_mul ?_
      have h4 : (v : Int) ≤ 297 * ((scw c t m a b 6).1 : Int) := by omega
      have h5 : v * 6 ≤ 1782 * (scw c t m a b 6).1 := by omega
      rw [Nat.mul_comm]
      omega
    · rw [e, pk_mul, pk_div (by omega) (by omega) (by omega)]
theorem ring1 (x f y g : Int32) : x - f - y + g = (x - f) - (y - g) := by
  rw [Int32.sub_eq_add_neg (x - f) (y - g), Int32.neg_sub, Int32.sub_eq_add_neg g y, Int32.add_comm g (-y), ← Int32.add_assoc, ← Int32.sub_eq_add_neg]
