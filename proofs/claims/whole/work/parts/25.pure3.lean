/-! Pure: PAIRS by BANDS, BLOCKS. -/
def smN (f : Nat → Nat) : Nat → Nat
  | 0 => 0
  | k + 1 => smN f k + f k
theorem smN_out (f : Nat → Nat) (i v : Nat) : ∀ n, n ≤ i → smN (va_up f i v) n = smN f n
  | 0, _ => rfl
  | n + 1, h => by rw [smN, smN, smN_out f i v n (by omega), up_n (by omega)]
theorem smN_bump (f : Nat → Nat) {i : Nat} : ∀ n, i < n → smN (va_up f i (f i + 1)) n = smN f n + 1
  | 0, h => absurd h (Nat.not_lt_zero i)
  | n + 1, h => by
    rw [smN, smN]
    rcases Nat.lt_or_ge i n with q | q
    · rw [smN_bump f n q, up_n (by omega)]
      omega
    · have e : n = i := by omega
      subst e
      rw [smN_out f n _ n (Nat.le_refl n), up_s]
      omega
theorem smN_congr {f g : Nat → Nat} : ∀ n, (∀ k, k < n → f k = g k) → smN f n = smN g n
  | 0, _ => rfl
  | n + 1, h => by rw [smN, smN, smN_congr n (fun k hk => h k (by omega)), h n (by omega)]
abbrev WT : Type := (Nat → Nat) × (Nat → Nat)
def bS (x : Int32) : Nat := bnd x.toNatClampNeg
theorem bS_nI {v : Nat} (h : v < 2 ^ 31) : bS (nI v) = bnd v := by rw [bS, nI_clamp h]
def cp1 (S : Nat → Nat → Int32) (s : Nat → Int32) (a b : Nat) (w : WT) : WT := if S a b = -1 then w else if s a = s b then (va_up w.1 (bS (S a b)) (w.1 (bS (S a b)) + 1), w.2) else (w.1, va_up w.2 (bS (S a b)) (w.2 (bS (S a b)) + 1))
def cpr (S : Nat → Nat → Int32) (s : Nat → Int32) (set : Int32) (a b : Nat) (w : WT) : WT := if ofS set (s a) ∧ ofS set (s b) then cp1 S s a b w else w
def cin (S : Nat → Nat → Int32) (s : Nat → Int32) (set : Int32) (b : Nat) (z : WT) : Nat → WT
  | 0 => z
  | a + 1 => cpr S s set a b (cin S s set b z a)
def cou (S : Nat → Nat → Int32) (s : Nat → Int32) (set : Int32) : Nat → WT
  | 0 => (fun _ => 0, fun _ => 0)
  | b + 1 => cin S s set b (cou S s set b) b
theorem cp1_le (S : Nat → Nat → Int32) (s : Nat → Int32) (a b : Nat) (w : WT) (k : Nat) : (cp1 S s a b w).1 k ≤ w.1 k + 1 ∧ (cp1 S s a b w).2 k ≤ w.2 k + 1 := by
  unfold cp1
  split
  · exact ⟨by omega, by omega⟩
  · split
    · refine ⟨?_, by dsimp only; omega⟩
      dsimp only [va_up]
      split
      · next h => rw [h]; exact Nat.le_refl _
      · omega
    · refine ⟨by dsimp only; omega, ?_⟩
      dsimp only [va_up]
      split
      · next h => rw [h]; exact Nat.le_refl _
      · omega
theorem cin_le (S : Nat → Nat → Int32) (s : Nat → Int32) (set : Int32) (b : Nat) (z : WT) (k : Nat) : ∀ a, (cin S s set b z a).1 k ≤ z.1 k + a ∧ (cin S s set b z a).2 k ≤ z.2 k + a
  | 0 => ⟨Nat.le_refl _, Nat.le_refl _⟩
  | a + 1 => by
    have ih := cin_le S s set b z k a
    rw [cin, cpr]
    split
    · have h := cp1_le S s a b (cin S s set b z a) k
      omega
    · omega
theorem cou_le (S : Nat → Nat → Int32) (s : Nat → Int32) (set : Int32) (k : Nat) : ∀ b, b ≤ 30 → (cou S s set b).1 k ≤ b * 30 ∧ (cou S s set b).2 k ≤ b * 30
  | 0, _ => ⟨Nat.le_refl _, Nat.le_refl _⟩
  | b + 1, hb => by
    have ih := cou_le S s set k b (by omega)
    have h := cin_le S s set b (cou S s set b) k b
    rw [cou]
    omega
/-- counts are small -/
def okC (w : WT) : Prop := ∀ k, w.1 k ≤ 900 ∧ w.2 k ≤ 900
theorem cou_ok {S : Nat → Nat → Int32} {s : Nat → Int32} {set : Int32} {n : Nat} (hn : n ≤ 30) : okC (cou S s set n) := fun k => by
  have h := cou_le S s set k n hn
  omega
theorem cp1_congr {S S2 : Nat → Nat → Int32} {s s2 : Nat → Int32} {a b : Nat} (h : S a b = S2 a b) (ha : s a = s2 a) (hb : s b = s2 b) (w : WT) : cp1 S s a b w = cp1 S2 s2 a b w := by
  unfold cp1
  rw [h, ha, hb]
theorem cin_congr {S S2 : Nat → Nat → Int32} {s s2 : Nat → Int32} {set : Int32} {b n : Nat} (hS : ∀ a b, a < n → b < n → S a b = S2 a b) (hs : ∀ a, a < n → s a = s2 a) (hb : b < n) (z : WT) : ∀ a, a ≤ n → cin S s set b z a = cin S2 s2 set b z a
  | 0, _ => rfl
  | a + 1, ha => by
    rw [cin, cin, cin_congr hS hs hb z a (by omega), cpr, cpr, cp1_congr (hS a b (by omega) hb) (hs a (by omega)) (hs b hb), hs a (by omega), hs b hb]
theorem cou_congr {S S2 : Nat → Nat → Int32} {s s2 : Nat → Int32} {set : Int32} {n : Nat} (hS : ∀ a b, a < n → b < n → S a b = S2 a b) (hs : ∀ a, a < n → s a = s2 a) : ∀ b, b ≤ n → cou S s set b = cou S2 s2 set b
  | 0, _ => rfl
  | b + 1, hb => by rw [cou, cou, cou_congr hS hs b (by omega), cin_congr hS hs (by omega) _ b (by omega)]
/-! BLOCKS: how many, first BAND, last BAND, SAME, OTHER of each -/
abbrev BT : Type := Nat × (Nat → Nat) × (Nat → Nat) × (Nat → Nat) × (Nat → Nat)
abbrev bm (b : BT) : Nat := b.1
abbrev bf (b : BT) : Nat → Nat := b.2.1
abbrev bl (b : BT) : Nat → Nat := b.2.2.1
abbrev bs (b : BT) : Nat → Nat := b.2.2.2.1
abbrev bo (b : BT) : Nat → Nat := b.2.2.2.2
def mkB (w : WT) : Nat → BT
  | 0 => (0, fun _ => 0, fun _ => 0, fun _ => 0, fun _ => 0)
  | k + 1 => if w.1 k + w.2 k = 0 then mkB w k else (bm (mkB w k) + 1, va_up (bf (mkB w k)) (bm (mkB w k)) k, va_up (bl (mkB w k)) (bm (mkB w k)) k, va_up (bs (mkB w k)) (bm (mkB w k)) (w.1 k), va_up (bo (mkB w k)) (bm (mkB w k)) (w.2 k))
theorem mkB_le (w : WT) : ∀ k, bm (mkB w k) ≤ k
  | 0 => Nat.le_refl 0
  | k + 1 => by
    have ih := mkB_le w k
    rw [mkB]
    split
    · omega
    · show bm (mkB w k) + 1 ≤ k + 1
      omega
/-- two BLOCKS side by side are out of order -/
abbrev oo (b : BT) (i : Nat) : Prop := nI (bs b i * (bs b (i + 1) + bo b (i + 1))) ≤ nI (bs b (i + 1) * (bs b i + bo b i))
def foF (b : BT) : Nat → Nat → Option Nat
  | 0, _ => none
  | f + 1, i => if i + 1 < bm b then (if oo b i then some i else foF b f (i + 1)) else none
/-- the first two out of order, if there are such -/
def foB (b : BT) : Option Nat := foF b 10 0
theorem foF_none {b : BT} : ∀ (f i : Nat), bm b ≤ i + f → (∀ j, i ≤ j → j + 1 < bm b → ¬ oo b j) → foF b f i = none
  | 0, _, _, _ => rfl
  | f + 1, i, hf, h => by
    rw [foF]
    split
    · next h1 => rw [if_neg (h i (Nat.le_refl i) h1)]; exact foF_none f (i + 1) (by omega) (fun j hj => h j (by omega))
    · rfl
theorem foF_some {b : BT} {k : Nat} (hk : k + 1 < bm b) (hok : oo b k) : ∀ (f i : Nat), i ≤ k → k < i + f → (∀ j, i ≤ j → j < k → ¬ oo b j) → foF b f i = some k
  | 0, i, h1, h2, _ => by omega
  | f + 1, i, h1, h2, h => by
    rw [foF, if_pos (by omega)]
    by_cases e : i = k
    · subst e; rw [if_pos hok]
    · rw [if_neg (h i (Nat.le_refl i) (by omega))]
      exact foF_some hk hok f (i + 1) (by omega) (by omega) (fun j hj => h j (by omega))
theorem foF_spec {b : BT} {k : Nat} : ∀ (f i : Nat), foF b f i = some k → i ≤ k ∧ k + 1 < bm b ∧ oo b k
  | 0, i, h => by cases h
  | f + 1, i, h => by
    rw [foF] at h
    split at h
    · next h1 =>
      split at h
      · next h2 => cases h; exact ⟨Nat.le_refl _, h1, h2⟩
      · have := foF_spec f (i + 1) h
        exact ⟨by omega, this.2⟩
    · cases h
theorem foB_none {b : BT} (hm : bm b ≤ 10) (h : ∀ j, j + 1 < bm b → ¬ oo b j) : foB b = none := foF_none 10 0 (by omega) (fun j _ => h j)
theorem foB_some {b : BT} {k : Nat} (hm : bm b ≤ 10) (hk : k + 1 < bm b) (hok : oo b k) (h : ∀ j, j < k → ¬ oo b j) : foB b = some k := foF_some hk hok 10 0 (by omega) (by omega) (fun j _ => h j)
/-- two put together -/
def mrg (b : BT) (i : Nat) : BT := (bm b - 1, fun j => if j ≤ i then bf b j else bf b (j + 1), fun j => if j < i then bl b j else bl b (j + 1), fun j => if j < i then bs b j else if j = i then bs b i + bs b (i + 1) else bs b (j + 1), fun j => if j < i then bo b j else if j = i then bo b i + bo b (i + 1) else bo b (j + 1))
def bfin : Nat → BT → BT
  | 0, b => b
  | f + 1, b => match foB b with
    | none => b
    | some i => bfin f (mrg b i)
theorem bfin_n {f : Nat} {b : BT} (h : foB b = none) : bfin f b = b := by
  cases f with
  | zero => rfl
  | succ f => rw [bfin, h]
theorem bfin_s {f i : Nat} {b : BT} (h : foB b = some i) : bfin (f + 1) b = bfin f (mrg b i) := by rw [bfin, h]
theorem bfin_st : ∀ (f : Nat) (b : BT), bm b ≤ f → bfin (f + 1) b = bfin f b
  | 0, b, h => by
    have h1 : foB b = none := foB_none (by omega) (fun j hj => by omega)
    rw [bfin_n h1, bfin_n h1]
  | f + 1, b, h => by
    cases hq : foB b with
    | none => rw [bfin_n hq, bfin_n hq]
    | some i => rw [bfin_s hq, bfin_s hq, bfin_st f (mrg b i) (by show bm b - 1 ≤ f; omega)]
theorem bfin_ge : ∀ (g f : Nat) (b : BT), bm b ≤ f → bfin (f + g) b = bfin f b
  | 0, f, b, h => rfl
  | g + 1, f, b, h => by rw [show f + (g + 1) = (f + g) + 1 from rfl, bfin_st (f + g) b (by omega), bfin_ge g f b h]
/-- the BLOCKS of a count -/
def blk (w : WT) : BT := bfin 10 (mkB w 10)
theorem bm_bfin : ∀ (f : Nat) (b : BT), bm (bfin f b) ≤ bm b
  | 0, b => Nat.le_refl _
  | f + 1, b => by
    cases hq : foB b with
    | none => rw [bfin_n hq]; exact Nat.le_refl _
    | some i =>
      rw [bfin_s hq]
      have h := bm_bfin f (mrg b i)
      have h2 : bm (mrg b i) = bm b - 1 := rfl
      omega
theorem blk_le (w : WT) : bm (blk w) ≤ 10 := Nat.le_trans (bm_bfin 10 _) (mkB_le w 10)
/-- the BLOCK in which a BAND is: the first whose last BAND isn't ahead of it -/
def fbF (b : BT) (k : Nat) : Nat → Nat → Option Nat
  | 0, _ => none
  | f + 1, i => if i < bm b then (if k ≤ bl b i then some i else fbF b k f (i + 1)) else none
def fbk (w : WT) (k : Nat) : Option Nat := if w.1 k + w.2 k = 0 then none else fbF (blk w) k 11 0
theorem fbF_none {b : BT} {k : Nat} : ∀ (f i : Nat), bm b ≤ i + f → (∀ j, i ≤ j → j < bm b → ¬ k ≤ bl b j) → fbF b k f i = none
  | 0, _, _, _ => rfl
  | f + 1, i, hf, h => by
    rw [fbF]
    split
    · next h1 => rw [if_neg (h i (Nat.le_refl i) h1)]; exact fbF_none f (i + 1) (by omega) (fun j hj => h j (by omega))
    · rfl
theorem fbF_some {b : BT} {k q : Nat} (hq : q < bm b) (hk : k ≤ bl b q) : ∀ (f i : Nat), i ≤ q → q < i + f → (∀ j, i ≤ j → j < q → ¬ k ≤ bl b j) → fbF b k f i = some q
  | 0, i, h1, h2, _ => by omega
  | f + 1, i, h1, h2, h => by
    rw [fbF, if_pos (by omega)]
    by_cases e : i = q
    · subst e; rw [if_pos hk]
    · rw [if_neg (h i (Nat.le_refl i) (by omega))]
      exact fbF_some hq hk f (i + 1) (by omega) (by omega) (fun j hj => h j (by omega))
theorem fbF_lt {b : BT} {k q : Nat} : ∀ (f i : Nat), fbF b k f i = some q → q < bm b
  | 0, i, h => by cases h
  | f + 1, i, h => by
    rw [fbF] at h
    split at h
    · next h1 =>
      split at h
      · cases h; exact h1
      · exact fbF_lt f (i + 1) h
    · cases h
theorem fbk_lt {w : WT} {k q : Nat} (h : fbk w k = some q) : q < bm (blk w) := by
  unfold fbk at h
  split at h
  · cases h
  · exact fbF_lt 11 0 h
