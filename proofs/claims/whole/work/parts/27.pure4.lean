/-! Pure: the reference's row 'first' and the BLOCKS. fm: the row; b: the BLOCKS; over the BANDS below K -/
abbrev ne (w : WT) (k : Nat) : Prop := 0 < w.1 k + w.2 k
def rs (f : Nat → Nat) (lo hi : Nat) : Nat := smN (fun k => if lo ≤ k ∧ k ≤ hi then f k else 0) 10
def Rl (K : Nat) (w : WT) (b : BT) (fm : Nat → Int32) : Prop :=
  bm b ≤ K ∧ (∀ i, i < bm b → bf b i ≤ bl b i ∧ bl b i < K ∧ ne w (bf b i) ∧ ne w (bl b i)) ∧ (∀ i j, i < j → j < bm b → bl b i < bf b j) ∧ (∀ k, k < K → w.1 k + w.2 k = 0 → fm k = -1) ∧ (∀ k, k < K → ne w k → ∃ i, i < bm b ∧ bf b i ≤ k ∧ k ≤ bl b i ∧ fm k = nI (bf b i)) ∧ (∀ i, i < bm b → bs b i = rs w.1 (bf b i) (bl b i) ∧ bo b i = rs w.2 (bf b i) (bl b i))
theorem smN_one (f : Nat → Nat) (k : Nat) : ∀ n, k < n → smN (fun j => if k ≤ j ∧ j ≤ k then f j else 0) n = f k
  | 0, h => absurd h (Nat.not_lt_zero k)
  | n + 1, h => by
    rw [smN]
    rcases Nat.lt_or_ge k n with q | q
    · rw [smN_one f k n q, if_neg (by omega), Nat.add_zero]
    · have e : k = n := by omega
      subst e
      rw [if_pos (by omega)]
      have h0 : ∀ m, m ≤ k → smN (fun j => if k ≤ j ∧ j ≤ k then f j else 0) m = 0 := by
        intro m
        induction m with
        | zero => intro _; rfl
        | succ m ih => intro hm; rw [smN, ih (by omega), if_neg (by omega)]
      rw [h0 k (Nat.le_refl k), Nat.zero_add]
theorem smN_add (f g : Nat → Nat) : ∀ n, smN (fun k => f k + g k) n = smN f n + smN g n
  | 0 => rfl
  | n + 1 => by
    rw [smN, smN, smN, smN_add f g n]
    omega
section RL
variable {K : Nat} {w : WT} {b : BT} {fm : Nat → Int32}
theorem Rl.uniq (h : Rl K w b fm) {i j k : Nat} (hi : i < bm b) (hj : j < bm b) (h1 : bf b i ≤ k) (h2 : k ≤ bl b i) (h3 : bf b j ≤ k) (h4 : k ≤ bl b j) : i = j := by
  obtain ⟨_, _, ho, _⟩ := h
  rcases Nat.lt_trichotomy i j with q | q | q
  · have := ho i j q hj; omega
  · exact q
  · have := ho j i q hi; omega
theorem Rl.head (h : Rl K w b fm) {i : Nat} (hi : i < bm b) : fm (bf b i) = nI (bf b i) := by
  have hr := h.2.1 i hi
  obtain ⟨j, hj, h1, h2, h3⟩ := h.2.2.2.2.1 (bf b i) (by omega) hr.2.2.1
  have e := h.uniq hi hj (Nat.le_refl _) hr.1 h1 h2
  rw [h3, e]
theorem Rl.isHead (hK : K ≤ 10) (h : Rl K w b fm) {k : Nat} (hk : k < K) (e : fm k = nI k) : ∃ i, i < bm b ∧ bf b i = k := by
  by_cases q : w.1 k + w.2 k = 0
  · exact absurd (e.symm.trans (h.2.2.2.1 k hk q)) (nI_ne_m1 (by omega))
  · obtain ⟨i, hi, h1, h2, h3⟩ := h.2.2.2.2.1 k hk (by omega)
    refine ⟨i, hi, ?_⟩
    have hr := h.2.1 i hi
    exact (nI_eq (by omega) (by omega)).mp (h3.symm.trans e)
/-- which BANDS the row puts into a BLOCK -/
theorem Rl.mem (hK : K ≤ 10) (h : Rl K w b fm) {i k : Nat} (hi : i < bm b) (hk : k < K) : fm k = nI (bf b i) ↔ (bf b i ≤ k ∧ k ≤ bl b i ∧ ne w k) := by
  have hr := h.2.1 i hi
  constructor
  · intro e
    by_cases q : w.1 k + w.2 k = 0
    · exact absurd (e.symm.trans (h.2.2.2.1 k hk q)) (nI_ne_m1 (by omega))
    · obtain ⟨j, hj, h1, h2, h3⟩ := h.2.2.2.2.1 k hk (by omega)
      have hrj := h.2.1 j hj
      have e2 : bf b j = bf b i := (nI_eq (by omega) (by omega)).mp (h3.symm.trans e)
      have e3 := h.uniq hi hj (Nat.le_refl _) hr.1 (by omega) (by omega)
      subst e3
      exact ⟨h1, h2, by omega⟩
  · rintro ⟨h1, h2, h3⟩
    obtain ⟨j, hj, g1, g2, g3⟩ := h.2.2.2.2.1 k hk h3
    rw [g3, h.uniq hi hj h1 h2 g1 g2]
theorem Rl.sum1 (h : Rl 10 w b fm) {i : Nat} (hi : i < bm b) : smN (fun k => if fm k = nI (bf b i) then w.1 k else 0) 10 = bs b i := by
  rw [(h.2.2.2.2.2 i hi).1, rs]
  refine smN_congr 10 (fun k hk => ?_)
  have hm := h.mem (by decide) hi hk
  by_cases q : fm k = nI (bf b i)
  · have := hm.mp q
    rw [if_pos q, if_pos ⟨this.1, this.2.1⟩]
  · rw [if_neg q]
    by_cases q2 : bf b i ≤ k ∧ k ≤ bl b i
    · rw [if_pos q2]
      have : ¬ ne w k := fun z => q (hm.mpr ⟨q2.1, q2.2, z⟩)
      omega
    · rw [if_neg q2]
theorem Rl.sum2 (h : Rl 10 w b fm) {i : Nat} (hi : i < bm b) : smN (fun k => if fm k = nI (bf b i) then w.2 k else 0) 10 = bo b i := by
  rw [(h.2.2.2.2.2 i hi).2, rs]
  refine smN_congr 10 (fun k hk => ?_)
  have hm := h.mem (by decide) hi hk
  by_cases q : fm k = nI (bf b i)
  · have := hm.mp q
    rw [if_pos q, if_pos ⟨this.1, this.2.1⟩]
  · rw [if_neg q]
    by_cases q2 : bf b i ≤ k ∧ k ≤ bl b i
    · rw [if_pos q2]
      have : ¬ ne w k := fun z => q (hm.mpr ⟨q2.1, q2.2, z⟩)
      omega
    · rw [if_neg q2]
/-- two BLOCKS put together, and the row -/
theorem Rl.mrg (h : Rl 10 w b fm) {i : Nat} (hi : i + 1 < bm b) {fm2 : Nat → Int32} (h2 : ∀ k, k < 10 → fm2 k = if fm k = nI (bf b (i + 1)) then nI (bf b i) else fm k) : Rl 10 w (mrg b i) fm2 := by
  have h0 := h
  obtain ⟨m10, rng, ord, emp, inn, sm⟩ := h0
  have ri := rng i (by omega)
  have rj := rng (i + 1) hi
  have oij := ord i (i + 1) (by omega) hi
  have F : ∀ j, bf (Jvm.Pilot.CVoiceHouseLaw_law_r7926_d51bb9.mrg b i) j = if j ≤ i then bf b j else bf b (j + 1) := fun _ => rfl
  have L : ∀ j, bl (Jvm.Pilot.CVoiceHouseLaw_law_r7926_d51bb9.mrg b i) j = if j < i then bl b j else bl b (j + 1) := fun _ => rfl
  have M : bm (Jvm.Pilot.CVoiceHouseLaw_law_r7926_d51bb9.mrg b i) = bm b - 1 := rfl
  refine ⟨by rw [M]; omega, fun j hj => ?_, fun j q hjq hq => ?_, fun k hk hz => ?_, fun k hk hz => ?_, fun j hj => ?_⟩
  · rw [M] at hj
    rw [F, L]
    rcases Nat.lt_trichotomy j i with q | q | q
    · rw [if_pos (by omega), if_pos q]; exact rng j (by omega)
    · subst q
      rw [if_pos (Nat.le_refl j), if_neg (Nat.lt_irrefl j)]
      exact ⟨by omega, rj.2.1, ri.2.2.1, rj.2.2.2⟩
    · rw [if_neg (by omega), if_neg (by omega)]; exact rng (j + 1) (by omega)
  · rw [M] at hq
    rw [F, L]
    by_cases c1 : j < i
    · rw [if_pos c1]
      by_cases c2 : q ≤ i
      · rw [if_pos c2]; exact ord j q hjq (by omega)
      · rw [if_neg c2]; exact ord j (q + 1) (by omega) (by omega)
    · rw [if_neg c1, if_neg (by omega)]; exact ord (j + 1) (q + 1) (by omega) (by omega)
  · rw [h2 k hk, emp k hk hz, if_neg (fun e => nI_ne_m1 (by omega) e.symm)]
  · obtain ⟨j, hj, g1, g2, g3⟩ := inn k hk hz
    by_cases c1 : j ≤ i
    · refine ⟨j, by rw [M]; omega, by rw [F, if_pos c1]; exact g1, ?_, ?_⟩
      · rw [L]
        by_cases c2 : j < i
        · rw [if_pos c2]; exact g2
        · rw [if_neg c2, show j = i by omega]
          have : bl b j = bl b i := by rw [show j = i by omega]
          omega
      · rw [h2 k hk, g3, F, if_pos c1, if_neg]
        intro e
        have e2 := (nI_eq (by have := rng j hj; omega) (by omega)).mp e
        have := ord j (i + 1) (by omega) hi
        have := rng j hj
        omega
    · by_cases c2 : j = i + 1
      · subst c2
        refine ⟨i, by rw [M]; omega, by rw [F, if_pos (Nat.le_refl i)]; omega, by rw [L, if_neg (Nat.lt_irrefl i)]; exact g2, ?_⟩
        rw [h2 k hk, g3, if_pos rfl, F, if_pos (Nat.le_refl i)]
      · refine ⟨j - 1, by rw [M]; omega, ?_, ?_, ?_⟩
        · rw [F, if_neg (by omega), show j - 1 + 1 = j by omega]; exact g1
        · rw [L, if_neg (by omega), show j - 1 + 1 = j by omega]; exact g2
        · have hne : ¬ nI (bf b j) = nI (bf b (i + 1)) := by
            intro e
            have e2 := (nI_eq (by have := rng j hj; omega) (by omega)).mp e
            have := ord (i + 1) j (by omega) hj
            omega
          rw [h2 k hk, g3, if_neg hne, F, if_neg (by omega), show j - 1 + 1 = j by omega]
  · rw [M] at hj
    have S : ∀ j, bs (Jvm.Pilot.CVoiceHouseLaw_law_r7926_d51bb9.mrg b i) j = if j < i then bs b j else if j = i then bs b i + bs b (i + 1) else bs b (j + 1) := fun _ => rfl
    have O : ∀ j, bo (Jvm.Pilot.CVoiceHouseLaw_law_r7926_d51bb9.mrg b i) j = if j < i then bo b j else if j = i then bo b i + bo b (i + 1) else bo b (j + 1) := fun _ => rfl
    rw [S, O, F, L]
    rcases Nat.lt_trichotomy j i with q | q | q
    · rw [if_pos q, if_pos q, if_pos (by omega), if_pos q]; exact sm j (by omega)
    · subst q
      rw [if_neg (Nat.lt_irrefl j), if_pos rfl, if_neg (Nat.lt_irrefl j), if_pos rfl, if_pos (Nat.le_refl j), if_neg (Nat.lt_irrefl j)]
      have s1 := sm j (by omega)
      have s2 := sm (j + 1) hi
      rw [s1.1, s2.1, s1.2, s2.2]
      have key : ∀ f : Nat → Nat, (∀ k, k < 10 → ¬ ne w k → f k = 0) → rs f (bf b j) (bl b j) + rs f (bf b (j + 1)) (bl b (j + 1)) = rs f (bf b j) (bl b (j + 1)) := by
        intro f hf
        unfold rs
        rw [← smN_add]
        refine smN_congr 10 (fun k hk => ?_)
        by_cases c1 : bf b j ≤ k ∧ k ≤ bl b j
        · rw [if_pos c1, if_neg (by omega), if_pos (by omega)]; omega
        · rw [if_neg c1]
          by_cases c2 : bf b (j + 1) ≤ k ∧ k ≤ bl b (j + 1)
          · rw [if_pos c2, if_pos (by omega)]; omega
          · rw [if_neg c2]
            by_cases c3 : bf b j ≤ k ∧ k ≤ bl b (j + 1)
            · rw [if_pos c3, hf k hk]
              intro hz
              obtain ⟨q, hq, g1, g2, -⟩ := inn k hk hz
              rcases Nat.lt_trichotomy q j with z | z | z
              · have := ord q j z (by omega); omega
              · subst z; omega
              · rcases Nat.lt_trichotomy q (j + 1) with y | y | y
                · omega
                · subst y; omega
                · have := ord (j + 1) q y hq; omega
            · rw [if_neg c3]
      exact ⟨key w.1 (fun k _ hz => by omega), key w.2 (fun k _ hz => by omega)⟩
    · rw [if_neg (by omega), if_neg (by omega), if_neg (by omega), if_neg (by omega), if_neg (by omega), if_neg (by omega)]; exact sm (j + 1) (by omega)
end RL
/-- the row at first -/
def fmI (w : WT) : Nat → Int32 := fun k => if w.1 k + w.2 k = 0 then -1 else nI k
theorem Rl.init (w : WT) {fm : Nat → Int32} (hf : ∀ k, k < 10 → fm k = fmI w k) : ∀ K, K ≤ 10 → Rl K w (mkB w K) fm
  | 0, _ => ⟨Nat.le_refl 0, fun i hi => absurd hi (Nat.not_lt_zero i), fun i j _ hj => absurd hj (Nat.not_lt_zero j), fun k hk => absurd hk (Nat.not_lt_zero k), fun k hk => absurd hk (Nat.not_lt_zero k), fun i hi => absurd hi (Nat.not_lt_zero i)⟩
  | K + 1, hK => by
    obtain ⟨m10, rng, ord, emp, inn, sm⟩ := Rl.init w hf K (by omega)
    rw [mkB]
    by_cases q : w.1 K + w.2 K = 0
    · rw [if_pos q]
      refine ⟨by omega, fun i hi => ?_, ord, fun k hk hz => ?_, fun k hk hz => ?_, sm⟩
      · have := rng i hi; exact ⟨this.1, by omega, this.2.2⟩
      · rcases Nat.lt_or_ge k K with c | c
        · exact emp k c hz
        · rw [hf k (by omega), fmI, if_pos hz]
      · rcases Nat.lt_or_ge k K with c | c
        · exact inn k c hz
        · have e : k = K := by omega
          subst e
          exact absurd q (by omega)
    · rw [if_neg q]
      have M : bm (mkB w K) ≤ K := m10
      generalize mkB w K = x at *
      refine ⟨?_, fun i hi => ?_, fun i j hij hj => ?_, fun k hk hz => ?_, fun k hk hz => ?_, fun i hi => ?_⟩
      · show bm x + 1 ≤ K + 1; omega
      · have hi2 : i < bm x + 1 := hi
        show va_up (bf x) (bm x) K i ≤ va_up (bl x) (bm x) K i ∧ va_up (bl x) (bm x) K i < K + 1 ∧ ne w (va_up (bf x) (bm x) K i) ∧ ne w (va_up (bl x) (bm x) K i)
        by_cases e : i = bm x
        · rw [e, up_s, up_s]; exact ⟨Nat.le_refl _, by omega, by omega, by omega⟩
        · rw [up_n e, up_n e]
          have := rng i (by omega)
          exact ⟨this.1, by omega, this.2.2⟩
      · have hj2 : j < bm x + 1 := hj
        show va_up (bl x) (bm x) K i < va_up (bf x) (bm x) K j
        rw [up_n (by omega)]
        by_cases e : j = bm x
        · rw [e, up_s]; exact (rng i (by omega)).2.1
        · rw [up_n e]; exact ord i j hij (by omega)
      · rcases Nat.lt_or_ge k K with c | c
        · exact emp k c hz
        · have e : k = K := by omega
          subst e
          exact absurd hz q
      · show ∃ i, i < bm x + 1 ∧ va_up (bf x) (bm x) K i ≤ k ∧ k ≤ va_up (bl x) (bm x) K i ∧ fm k = nI (va_up (bf x) (bm x) K i)
        rcases Nat.lt_or_ge k K with c | c
        · obtain ⟨i, hi, g1, g2, g3⟩ := inn k c hz
          refine ⟨i, by omega, ?_, ?_, ?_⟩ <;> rw [up_n (by omega)] <;> assumption
        · have e : k = K := by omega
          subst e
          refine ⟨bm x, by omega, ?_, ?_, ?_⟩
          · rw [up_s]; exact Nat.le_refl _
          · rw [up_s]; exact Nat.le_refl _
          · rw [up_s, hf k (by omega), fmI, if_neg q]
      · have hi2 : i < bm x + 1 := hi
        show va_up (bs x) (bm x) (w.1 K) i = rs w.1 (va_up (bf x) (bm x) K i) (va_up (bl x) (bm x) K i) ∧ va_up (bo x) (bm x) (w.2 K) i = rs w.2 (va_up (bf x) (bm x) K i) (va_up (bl x) (bm x) K i)
        by_cases e : i = bm x
        · rw [e, up_s, up_s, up_s, up_s]
          exact ⟨(smN_one w.1 K 10 (by omega)).symm, (smN_one w.2 K 10 (by omega)).symm⟩
        · rw [up_n e, up_n e, up_n e, up_n e]
          exact sm i (by omega)
/-- the row's answer of a BAND -/
theorem Rl.fbk {w : WT} {fm : Nat → Int32} (h : Rl 10 w (blk w) fm) {k : Nat} (hk : k < 10) : fm k = (match fbk w k with | none => -1 | some i => nI (bf (blk w) i)) ∧ ∀ i, fbk w k = some i → (i < bm (blk w) ∧ bf (blk w) i ≤ k ∧ k ≤ bl (blk w) i) := by
  by_cases q : w.1 k + w.2 k = 0
  · have e : Jvm.Pilot.CVoiceHouseLaw_law_r7926_d51bb9.fbk w k = none := if_pos q
    rw [e]
    exact ⟨h.2.2.2.1 k hk q, fun i hi => by cases hi⟩
  · obtain ⟨i, hi, g1, g2, g3⟩ := h.2.2.2.2.1 k hk (by omega)
    have e : Jvm.Pilot.CVoiceHouseLaw_law_r7926_d51bb9.fbk w k = some i := by
      rw [Jvm.Pilot.CVoiceHouseLaw_law_r7926_d51bb9.fbk, if_neg q, fbF_some hi g2 11 0 (by omega) (by have := h.1; omega) (fun j _ hj => ?_)]
      have := h.2.2.1 j i hj hi
      omega
    rw [e]
    exact ⟨g3, fun j hj => by cases hj; exact ⟨hi, g1, g2⟩⟩
