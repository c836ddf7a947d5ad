/-! Pure: VOICES. T: SCORES of segments, v: the VOICE of each, m: how many segments -/
def xin (T : Nat → Nat → Int32) (v : Nat → Nat) (p q j : Nat) (z : Nat × Nat) : Nat → Option (Nat × Nat)
  | 0 => some z
  | k + 1 => match xin T v p q j z k with
    | none => none
    | some w => if v j = p ∧ v k = q then (if T j k = -1 then none else some (w.1 + (T j k).toNatClampNeg, w.2 + 1)) else some w
def xou (T : Nat → Nat → Int32) (v : Nat → Nat) (p q m : Nat) : Nat → Option (Nat × Nat)
  | 0 => some (0, 0)
  | j + 1 => match xou T v p q m j with
    | none => none
    | some w => xin T v p q j w m
theorem xin_step {T : Nat → Nat → Int32} {v : Nat → Nat} {p q j : Nat} {z w : Nat × Nat} {k : Nat} (h : xin T v p q j z k = some w) : xin T v p q j z (k + 1) = if v j = p ∧ v k = q then (if T j k = -1 then none else some (w.1 + (T j k).toNatClampNeg, w.2 + 1)) else some w := by rw [xin, h]
theorem xin_none {T : Nat → Nat → Int32} {v : Nat → Nat} {p q j : Nat} {z : Nat × Nat} {k : Nat} (h : xin T v p q j z k = none) : ∀ d, xin T v p q j z (k + d) = none
  | 0 => h
  | d + 1 => by rw [show k + (d + 1) = (k + d) + 1 from rfl, xin, xin_none h d]
theorem xou_step {T : Nat → Nat → Int32} {v : Nat → Nat} {p q m : Nat} {w : Nat × Nat} {j : Nat} (h : xou T v p q m j = some w) : xou T v p q m (j + 1) = xin T v p q j w m := by rw [xou, h]
theorem xou_none {T : Nat → Nat → Int32} {v : Nat → Nat} {p q m : Nat} {j : Nat} (h : xou T v p q m j = none) : ∀ d, xou T v p q m (j + d) = none
  | 0 => h
  | d + 1 => by rw [show j + (d + 1) = (j + d) + 1 from rfl, xou, xou_none h d]
/-- SCORES of different segments are -1 or small -/
def okTb (m : Nat) (T : Nat → Nat → Int32) : Prop := ∀ j k, j < m → k < m → j ≠ k → okSc (T j k)
theorem xin_B {T : Nat → Nat → Int32} {v : Nat → Nat} {p q j m : Nat} (hT : okTb m T) (hpq : p ≠ q) (hj : j < m) {z w : Nat × Nat} : ∀ k, k ≤ m → xin T v p q j z k = some w → w.1 ≤ z.1 + 1782 * k ∧ w.2 ≤ z.2 + k := by
  intro k
  induction k generalizing w with
  | zero => intro _ h; cases h; omega
  | succ k ih =>
    intro hk h
    cases hx : xin T v p q j z k with
    | none => rw [xin, hx] at h; cases h
    | some u =>
      have hi := ih (by omega) hx
      rw [xin_step hx] at h
      split at h
      · next hc =>
        split at h
        · cases h
        · next hne =>
          cases h
          have hjk : j ≠ k := fun e => hpq (by rw [← hc.1, ← hc.2, e])
          obtain ⟨x, hx1, hx2⟩ := (hT j k hj (by omega) hjk).get hne
          dsimp only
          rw [hx2, nI_clamp (by omega)]
          omega
      · cases h; omega
theorem xou_B {T : Nat → Nat → Int32} {v : Nat → Nat} {p q m : Nat} (hT : okTb m T) (hpq : p ≠ q) (hm : m ≤ 8) {w : Nat × Nat} : ∀ j, j ≤ m → xou T v p q m j = some w → w.1 ≤ 14256 * j ∧ w.2 ≤ 8 * j := by
  intro j
  induction j generalizing w with
  | zero => intro _ h; cases h; omega
  | succ j ih =>
    intro hj h
    cases hx : xou T v p q m j with
    | none => rw [xou, hx] at h; cases h
    | some u =>
      have hi := ih (by omega) hx
      rw [xou_step hx] at h
      have := xin_B hT hpq (by omega) m (Nat.le_refl m) h
      omega
abbrev QT : Type := Nat × Nat × Nat × Nat
/-- one more two, against the best so far -/
def jst (T : Nat → Nat → Int32) (v : Nat → Nat) (m lim a b : Nat) (z : Option QT) : Option QT :=
  if v a = a ∧ v b = b then (match xou T v a b m m with
    | none => z
    | some w => (match z with
      | none => if w.1 ≤ lim * w.2 then some (a, b, w.1, w.2) else none
      | some y => if w.1 * y.2.2.2 < y.2.2.1 * w.2 then some (a, b, w.1, w.2) else some y)) else z
def jin (T : Nat → Nat → Int32) (v : Nat → Nat) (m lim a : Nat) (z : Option QT) : Nat → Option QT
  | 0 => z
  | i + 1 => jst T v m lim a (a + 1 + i) (jin T v m lim a z i)
def jou (T : Nat → Nat → Int32) (v : Nat → Nat) (m lim : Nat) : Nat → Option QT
  | 0 => none
  | a + 1 => jin T v m lim a (jou T v m lim a) (m - (a + 1))
/-- what holds of the best -/
def okQ (v : Nat → Nat) (m lim : Nat) (z : Option QT) : Prop := ∀ y, z = some y → (y.1 < y.2.1 ∧ y.2.1 < m ∧ v y.1 = y.1 ∧ v y.2.1 = y.2.1 ∧ y.2.2.1 ≤ lim * y.2.2.2 ∧ y.2.2.1 ≤ 114048 ∧ y.2.2.2 ≤ 64)
theorem lim_of {lim s p s2 p2 : Nat} (h : s2 * p < s * p2) (hb : s ≤ lim * p) : s2 ≤ lim * p2 := by
  have h1 : s * p2 ≤ lim * p * p2 := Nat.mul_le_mul_right p2 hb
  have h2 : lim * p * p2 = lim * p2 * p := Nat.mul_right_comm lim p p2
  have h3 : s2 * p < lim * p2 * p := by omega
  exact Nat.le_of_lt (Nat.lt_of_mul_lt_mul_right h3)
theorem jst_ok {T : Nat → Nat → Int32} {v : Nat → Nat} {m lim a b : Nat} {z : Option QT} (hT : okTb m T) (hm : m ≤ 8) (hab : a < b) (hb : b < m) (hz : okQ v m lim z) : okQ v m lim (jst T v m lim a b z) := by
  intro y hy
  unfold jst at hy
  split at hy
  · next hc =>
    cases hx : xou T v a b m m with
    | none => rw [hx] at hy; exact hz y hy
    | some w =>
      have hB := xou_B hT (by omega) hm m (Nat.le_refl m) hx
      rw [hx] at hy
      cases hzz : z with
      | none =>
        rw [hzz] at hy
        dsimp only at hy
        split at hy
        · next h1 => cases hy; exact ⟨hab, hb, hc.1, hc.2, h1, by dsimp only; omega, by dsimp only; omega⟩
        · cases hy
      | some u =>
        rw [hzz] at hy
        have hu := hz u hzz
        dsimp only at hy
        split at hy
        · next h1 => cases hy; exact ⟨hab, hb, hc.1, hc.2, lim_of h1 hu.2.2.2.2.1, by dsimp only; omega, by dsimp only; omega⟩
        · cases hy; exact hu
  · exact hz y hy
theorem jin_ok {T : Nat → Nat → Int32} {v : Nat → Nat} {m lim a : Nat} {z : Option QT} (hT : okTb m T) (hm : m ≤ 8) (hz : okQ v m lim z) : ∀ i, a + i < m → okQ v m lim (jin T v m lim a z i)
  | 0, _ => hz
  | i + 1, h => jst_ok hT hm (by omega) (by omega) (jin_ok hT hm hz i (by omega))
theorem jou_ok {T : Nat → Nat → Int32} {v : Nat → Nat} {m lim : Nat} (hT : okTb m T) (hm : m ≤ 8) : ∀ a, a ≤ m → okQ v m lim (jou T v m lim a)
  | 0, _ => fun y h => by cases h
  | a + 1, h => jin_ok hT hm (jou_ok hT hm a (by omega)) (m - (a + 1)) (by omega)
/-- two VOICES put together -/
def jmp (v : Nat → Nat) (a b : Nat) : Nat → Nat := fun k => if v k = b then a else v k
def jfi (T : Nat → Nat → Int32) (m lim : Nat) : Nat → (Nat → Nat) → (Nat → Nat)
  | 0, v => v
  | f + 1, v => match jou T v m lim m with
    | none => v
    | some y => jfi T m lim f (jmp v y.1 y.2.1)
theorem jfi_n {T : Nat → Nat → Int32} {m lim f : Nat} {v : Nat → Nat} (h : jou T v m lim m = none) : jfi T m lim f v = v := by
  cases f with
  | zero => rfl
  | succ f => rw [jfi, h]
theorem jfi_s {T : Nat → Nat → Int32} {m lim f : Nat} {v : Nat → Nat} {y : QT} (h : jou T v m lim m = some y) : jfi T m lim (f + 1) v = jfi T m lim f (jmp v y.1 y.2.1) := by rw [jfi, h]
/-- how many VOICES -/
def cvN (v : Nat → Nat) : Nat → Nat
  | 0 => 0
  | k + 1 => if v k = k then cvN v k + 1 else cvN v k
theorem cvN_le (v : Nat → Nat) : ∀ k, cvN v k ≤ k
  | 0 => Nat.le_refl 0
  | k + 1 => by
    have := cvN_le v k
    rw [cvN]
    split <;> omega
theorem cvN_mono {u v : Nat → Nat} : ∀ n, (∀ k, k < n → u k = k → v k = k) → cvN u n ≤ cvN v n
  | 0, _ => Nat.le_refl 0
  | n + 1, h => by
    have ih := cvN_mono n (fun k hk => h k (by omega))
    rw [cvN, cvN]
    by_cases q : u n = n
    · rw [if_pos q, if_pos (h n (by omega) q)]; omega
    · rw [if_neg q]
      split <;> omega
theorem cvN_drop {u v : Nat → Nat} {b : Nat} : ∀ n, b < n → v b = b → ¬ u b = b → (∀ k, k < n → u k = k → v k = k) → cvN u n + 1 ≤ cvN v n
  | 0, h, _, _, _ => absurd h (Nat.not_lt_zero b)
  | n + 1, h, hv, hu, hm => by
    rw [cvN, cvN]
    by_cases e : b = n
    · subst e
      have := cvN_mono b (fun k hk => hm k (by omega))
      rw [if_neg hu, if_pos hv]
      omega
    · have ih := cvN_drop n (by omega) hv hu (fun k hk => hm k (by omega))
      by_cases q : u n = n
      · rw [if_pos q, if_pos (hm n (by omega) q)]; omega
      · rw [if_neg q]
        split <;> omega
theorem cvN_pos {v : Nat → Nat} {a : Nat} : ∀ n, a < n → v a = a → 1 ≤ cvN v n
  | 0, h, _ => absurd h (Nat.not_lt_zero a)
  | n + 1, h, ha => by
    rw [cvN]
    by_cases e : a = n
    · subst e; rw [if_pos ha]; omega
    · have := cvN_pos n (by omega) ha
      split <;> omega
theorem cvN_two {v : Nat → Nat} {a b : Nat} : ∀ n, a < b → b < n → v a = a → v b = b → 2 ≤ cvN v n
  | 0, _, h, _, _ => absurd h (Nat.not_lt_zero b)
  | n + 1, hab, h, ha, hb => by
    rw [cvN]
    by_cases e : b = n
    · subst e
      have := cvN_pos b hab ha
      rw [if_pos hb]
      omega
    · have := cvN_two n hab (by omega) ha hb
      split <;> omega
theorem cvN_jmp {v : Nat → Nat} {m a b : Nat} (hab : a < b) (hb : b < m) (ha : v a = a) (hb2 : v b = b) : cvN (jmp v a b) m + 1 ≤ cvN v m := by
  refine cvN_drop m hb hb2 ?_ (fun k hk h => ?_)
  · unfold jmp; rw [if_pos hb2]; omega
  · unfold jmp at h
    split at h
    · next q =>
      subst h
      rw [ha] at q
      omega
    · exact h
theorem jou_few {T : Nat → Nat → Int32} {v : Nat → Nat} {m lim : Nat} (hT : okTb m T) (hm : m ≤ 8) (h : cvN v m ≤ 1) : jou T v m lim m = none := by
  cases hq : jou T v m lim m with
  | none => rfl
  | some y =>
    have := jou_ok hT hm m (Nat.le_refl m) y hq
    have := cvN_two m this.1 this.2.1 this.2.2.1 this.2.2.2.1
    omega
theorem jfi_st {T : Nat → Nat → Int32} {m lim : Nat} (hT : okTb m T) (hm : m ≤ 8) : ∀ (f : Nat) (v : Nat → Nat), cvN v m ≤ f + 1 → jfi T m lim (f + 1) v = jfi T m lim f v
  | 0, v, h => by rw [jfi_n (jou_few hT hm h), jfi_n (jou_few hT hm h)]
  | f + 1, v, h => by
    cases hq : jou T v m lim m with
    | none => rw [jfi_n hq, jfi_n hq]
    | some y =>
      have hy := jou_ok hT hm m (Nat.le_refl m) y hq
      have hd := cvN_jmp hy.1 hy.2.1 hy.2.2.1 hy.2.2.2.1
      rw [jfi_s hq, jfi_s hq, jfi_st hT hm f _ (by omega)]
theorem cvN_id : ∀ n, cvN (fun k => k) n = n
  | 0 => rfl
  | n + 1 => by rw [cvN, if_pos rfl, cvN_id n]
/-- the VOICES of segments -/
def vcs (T : Nat → Nat → Int32) (m lim : Nat) : Nat → Nat := jfi T m lim (m - 1) (fun k => k)
/-- a VOICE is a segment's place -/
def okVo (m : Nat) (v : Nat → Nat) : Prop := ∀ k, k < m → v k < m
theorem jmp_ok {m a b : Nat} {v : Nat → Nat} (hv : okVo m v) (ha : a < m) : okVo m (jmp v a b) := fun k hk => by
  unfold jmp
  split
  · exact ha
  · exact hv k hk
