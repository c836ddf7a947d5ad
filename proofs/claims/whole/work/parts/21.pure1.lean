/-! Pure words: SHIFT and SCORE, as both programs reckon them. c: channels (numbers), s: speakers, t: tones (recording * 6 + place), n: how many recordings. -/
theorem upd_u (f : Nat → Int32) (i : Nat) (x y : Int32) : upd (upd f i x) i y = upd f i y := by
  funext j
  unfold upd
  split <;> rfl
theorem upd_id (f : Nat → Int32) (i : Nat) : upd f i (f i) = f := by
  funext j
  unfold upd
  split
  · next h => rw [h]
  · rfl
theorem upd_at {f : Nat → Int32} {k : Nat} {x : Int32} : upd f k x k = x := pk_us
theorem upd_ne {f : Nat → Int32} {k j : Nat} {x : Int32} (h : j ≠ k) : upd f k x j = f j := pk_un h
def iabs (x : Int32) : Int32 := if x < 0 then -x else x
/-- Math.floorDiv, as the JDK writes it -/
def fdv (x y : Int32) : Int32 := if x ^^^ y < 0 ∧ ¬ x / y * y = x then x / y - 1 else x / y
def inn (c : Nat → Nat) (s t : Nat → Int32) (p a : Nat) (z : Nat × Int32) : Nat → Nat × Int32
  | 0 => z
  | b + 1 => if c b = 0 ∧ s b = s a ∧ ¬ t (b * 6 + p) = -1 then ((inn c s t p a z b).1 + 1, (inn c s t p a z b).2 + (t (a * 6 + p) - t (b * 6 + p))) else inn c s t p a z b
def oun (c : Nat → Nat) (s t : Nat → Int32) (n p k : Nat) : Nat → Nat × Int32
  | 0 => (0, 0)
  | a + 1 => if c a = k ∧ ¬ s a = -1 ∧ ¬ t (a * 6 + p) = -1 then inn c s t p a (oun c s t n p k a) n else oun c s t n p k a
def mean (w : Nat × Int32) : Int32 := if w.1 = 0 then 0 else fdv w.2 (nI w.1)
def shf (c : Nat → Nat) (s t : Nat → Int32) (n k p : Nat) : Int32 := if k = 0 then 0 else mean (oun c s t n p k n)
/-- the SHIFTS in one row -/
def shA (c : Nat → Nat) (s t : Nat → Int32) (n : Nat) : Nat → Int32 := fun j => shf c s t n (j / 6) (j % 6)
def scw (c : Nat → Nat) (t m : Nat → Int32) (a b : Nat) : Nat → Nat × Int32
  | 0 => (0, 0)
  | p + 1 => if ¬ t (a * 6 + p) = -1 ∧ ¬ t (b * 6 + p) = -1 then ((scw c t m a b p).1 + 1, (scw c t m a b p).2 + iabs ((t (a * 6 + p) - m (c a * 6 + p)) - (t (b * 6 + p) - m (c b * 6 + p)))) else scw c t m a b p
def sco (c : Nat → Nat) (t m : Nat → Int32) (a b : Nat) : Int32 := if (scw c t m a b 6).1 < 3 then -1 else (scw c t m a b 6).2 * nI 6 / nI (scw c t m a b 6).1
theorem scw_le (c : Nat → Nat) (t m : Nat → Int32) (a b : Nat) : ∀ p, (scw c t m a b p).1 ≤ p
  | 0 => Nat.le_refl 0
  | p + 1 => by
    have ih := scw_le c t m a b p
    rw [scw]
    split
    · show (scw c t m a b p).1 + 1 ≤ p + 1
      omega
    · omega
theorem inn_le (c : Nat → Nat) (s t : Nat → Int32) (p a : Nat) (z : Nat × Int32) : ∀ b, (inn c s t p a z b).1 ≤ z.1 + b
  | 0 => Nat.le_refl _
  | b + 1 => by
    have ih := inn_le c s t p a z b
    rw [inn]
    split
    · show (inn c s t p a z b).1 + 1 ≤ z.1 + (b + 1)
      omega
    · omega
theorem oun_le (c : Nat → Nat) (s t : Nat → Int32) (n p k : Nat) : ∀ a, (oun c s t n p k a).1 ≤ a * n
  | 0 => Nat.zero_le _
  | a + 1 => by
    have ih := oun_le c s t n p k a
    have h1 : (a + 1) * n = a * n + n := Nat.succ_mul a n
    rw [oun]
    split
    · have h2 := inn_le c s t p a (oun c s t n p k a) n
      omega
    · omega
/-- heard tones of a recording -/
def cnT (t : Nat → Int32) (r : Nat) : Nat → Nat
  | 0 => 0
  | p + 1 => if ¬ t (r * 6 + p) = -1 then cnT t r p + 1 else cnT t r p
theorem cnT_le (t : Nat → Int32) (r : Nat) : ∀ p, cnT t r p ≤ p
  | 0 => Nat.le_refl 0
  | p + 1 => by
    have ih := cnT_le t r p
    rw [cnT]
    split <;> omega
/-- whether a speaker is of the set -/
abbrev ofS (set v : Int32) : Prop := ¬ v = -1 ∧ (set >>> (v &&& 31)) &&& nI 1 = nI 1
/-- the class's recordings -/
def Arch (n : Nat) (c : Nat → Nat) (s t : Nat → Int32) (iv : IV) (ar : AR) : Prop := iv 3 = nI n ∧ n ≤ 30 ∧ (∀ k, k < n → ar 0 k = nI (c k) ∧ c k < 4) ∧ (∀ k, k < n → ar 1 k = s k) ∧ (∀ j, j < n * 6 → ar 2 j = t j)
theorem Arch.keep {n : Nat} {c : Nat → Nat} {s t : Nat → Int32} {iv iv2 : IV} {ar ar2 : AR} (h : Arch n c s t iv ar) (h3 : iv2 3 = iv 3) (a0 : ar2 0 = ar 0) (a1 : ar2 1 = ar 1) (a2 : ar2 2 = ar 2) : Arch n c s t iv2 ar2 := by
  obtain ⟨h1, h2, h4, h5, h6⟩ := h
  exact ⟨by rw [h3]; exact h1, h2, by rw [a0]; exact h4, by rw [a1]; exact h5, by rw [a2]; exact h6⟩
theorem Arch.le {n : Nat} {c : Nat → Nat} {s t : Nat → Int32} {iv : IV} {ar : AR} (h : Arch n c s t iv ar) : n ≤ 30 := h.2.1
theorem Arch.lt {n : Nat} {c : Nat → Nat} {s t : Nat → Int32} {iv : IV} {ar : AR} (h : Arch n c s t iv ar) {k : Nat} (hk : k < n) : c k < 4 := (h.2.2.1 k hk).2
