/-! What a call changes of the house, on both sides -/
theorem foF_lt {b : BT} : ∀ (f i : Nat) {k : Nat}, foF b f i = some k → k + 1 < bm b
  | 0, _, _, h => by cases h
  | f + 1, i, k, h => by
    rw [foF] at h
    split at h
    · next h1 =>
      split at h
      · cases h; exact h1
      · exact foF_lt f (i + 1) h
    · cases h
theorem Rl_fin {w : WT} : ∀ (f : Nat) (b : BT) (fm : Nat → Int32), Rl 10 w b fm → ∃ fm2, Rl 10 w (bfin f b) fm2
  | 0, b, fm, h => ⟨fm, h⟩
  | f + 1, b, fm, h => by
    cases hq : foB b with
    | none => rw [bfin_n hq]; exact ⟨fm, h⟩
    | some i => rw [bfin_s hq]; exact Rl_fin f _ _ (h.mrg (foF_lt 10 0 hq) (fm2 := fun k => if fm k = nI (bf b (i + 1)) then nI (bf b i) else fm k) (fun k _ => rfl))
theorem blk_bd {w : WT} (hC : okC w) {i : Nat} (hi : i < bm (blk w)) : bs (blk w) i ≤ 9000 ∧ bo (blk w) i ≤ 9000 := by
  obtain ⟨fm, h⟩ := Rl_fin 10 (mkB w 10) _ (Rl.init w (fm := fmI w) (fun k _ => rfl) 10 (Nat.le_refl 10))
  have h2 : Rl 10 w (blk w) fm := h
  rw [← h2.sum1 hi, ← h2.sum2 hi]
  refine ⟨Nat.le_trans (smN_bd (K := 900) 10 (fun k _ => ?_)) (by decide), Nat.le_trans (smN_bd (K := 900) 10 (fun k _ => ?_)) (by decide)⟩
  · split
    · exact (hC k).1
    · exact Nat.zero_le _
  · split
    · exact (hC k).2
    · exact Nat.zero_le _
theorem cnT_congr {t t2 : Nat → Int32} {r : Nat} : ∀ p, (∀ q, q < p → t (r * 6 + q) = t2 (r * 6 + q)) → cnT t r p = cnT t2 r p
  | 0, _ => rfl
  | p + 1, h => by rw [cnT, cnT, h p (by omega), cnT_congr p (fun q hq => h q (by omega))]
abbrev tN (t : Nat → Int32) (n : Nat) : Nat → Int32 := fun j => if j < n * 6 then t j else -1
abbrev spk (y : Int32) : Prop := y = -1 ∨ inR y 10
section CH
variable {n : Nat} {c : Nat → Nat} {s t : Nat → Int32} {set : Int32} {lim m : Nat} {g : Nat → Nat} {tt : Nat} {rt : Nat → Int32} {iv iv2 : IV} {ar ar2 : AR} {x y v : Int32} {r p : Nat}
theorem okSp_upd (h : okSp n s) (hy : spk y) {N : Nat} (hN : N ≤ n + 1) (hr : N ≤ n ∨ r = n) : okSp N (upd s r y) := fun k hk => by
  by_cases e : k = r
  · subst e
    rw [upd_at]
    rcases hy with q | q
    · exact Or.inl q
    · obtain ⟨q, hq, e⟩ := nat_of q
      exact Or.inr ⟨q, hq, e⟩
  · rw [upd_ne e]; exact h k (by omega)
theorem okT_more (h : okT n t) : okT (n + 1) (tN t n) := fun j hj => by
  show -1 ≤ (if j < n * 6 then t j else -1).toInt ∧ (if j < n * 6 then t j else -1).toInt ≤ 99
  by_cases e : j < n * 6
  · rw [if_pos e]; exact h j e
  · rw [if_neg e]; decide
theorem okT_upd (h : okT n t) (hv : -1 ≤ v.toInt ∧ v.toInt ≤ 99) : okT n (upd t r v) := fun j hj => by
  by_cases e : j = r
  · subst e; rw [upd_at]; exact hv
  · rw [upd_ne e]; exact h j hj
theorem CI.rec_ (h : CI n c s t set lim m g tt rt iv ar) (hx : inR x 4) (hy : spk y) (hn : n < 30) : CI (n + 1) (va_up c n (cN x)) (upd s n y) (tN t n) set lim m g tt rt (va_up iv 3 (nI (n + 1))) (va_up (va_up ar 0 (upd (ar 0) n x)) 1 (upd (ar 1) n y)) := by
  obtain ⟨h1, h2, h3, h4, h5, h6, h7, h8, h9, h10, h11, h12, h13, h14⟩ := h
  obtain ⟨k, hk, rfl⟩ := nat_of hx
  have hc : ∀ b, b < n → c b = va_up c n (cN (nI k)) b := fun b hb => (up_n (by omega)).symm
  have hs : ∀ b, b < n → s b = upd s n y b := fun b hb => (upd_ne (by omega)).symm
  have ht : ∀ j, j < n * 6 → t j = tN t n j := fun j hj => (if_pos hj).symm
  have hl : ∀ p, p < 6 → tN t n (n * 6 + p) = -1 := fun p _ => if_neg (by omega)
  refine ⟨⟨up_s, by omega, fun b hb => ?_, fun b hb => ?_, fun j hj => ?_⟩, okT_more h2, okSp_upd h3 hy (Nat.le_refl _) (Or.inr rfl), fun j hj hj2 => ?_, fun j hj => ?_, fun k p hk hk2 hp => ?_, ⟨?_, h7.2.1, fun k hk => ⟨(h7.2.2 k hk).1, by have := (h7.2.2 k hk).2; omega⟩⟩, ?_, ?_, h10, ?_, ?_, h13, ?_⟩
  · rw [up_n (by decide), up_s]
    by_cases e : b = n
    · subst e; rw [upd_at, up_s]; unfold cN; rw [nI_clamp (by omega)]; exact ⟨rfl, hk⟩
    · rw [upd_ne e, up_n e]; exact h1.2.2.1 b (by omega)
  · rw [up_s]
    by_cases e : b = n
    · subst e; rw [upd_at, upd_at]
    · rw [upd_ne e, upd_ne e]; exact h1.2.2.2.1 b (by omega)
  · show ar 2 j = if j < n * 6 then t j else -1
    by_cases e : j < n * 6
    · rw [if_pos e]; exact h1.2.2.2.2 j e
    · rw [if_neg e]; exact h4 j (by omega) (by omega)
  · exact h4 j (by omega) hj2
  · rw [more_shA hc hs ht hl j hj]; exact h5 j hj
  · rw [oun_more hc hs (fun b hb => ht _ (by omega)) (hl p hp)]; exact h6 k p hk hk2 hp
  · rw [up_n (by decide)]; exact h7.1
  · rw [up_n (by decide)]; exact h8
  · rw [up_n (by decide)]; exact h9
  · rw [up_n (by decide), more_cou hc hs ht hl (fun b hb => h1.lt hb)]
    rcases h11 with q | ⟨q1, q2, q3⟩
    · exact Or.inl q
    · exact Or.inr ⟨q1, q2, q3⟩
  · rw [up_n (by decide)]; exact h12
  · exact h14
theorem Arch.ton (h : Arch n c s t iv ar) : Arch n c s (upd t r v) iv (va_up ar 2 (upd (ar 2) r v)) := by
  refine ⟨h.1, h.2.1, h.2.2.1, h.2.2.2.1, fun j hj => ?_⟩
  rw [up_s]
  by_cases e : j = r
  · subst e; rw [upd_at, upd_at]
  · rw [upd_ne e, upd_ne e]; exact h.2.2.2.2 j hj
theorem Arch.kno (h : Arch n c s t iv ar) : Arch n c (upd s r y) t iv (va_up ar 1 (upd (ar 1) r y)) := by
  refine ⟨h.1, h.2.1, h.2.2.1, fun j hj => ?_, h.2.2.2.2⟩
  rw [up_s]
  by_cases e : j = r
  · subst e; rw [upd_at, upd_at]
  · rw [upd_ne e, upd_ne e]; exact h.2.2.2.1 j hj
theorem CI.ton (h : CI n c s t set lim m g tt rt iv ar) (hr : r < n) (hp : p < 6) (hv : -1 ≤ v.toInt ∧ v.toInt ≤ 99)
    (f : ∀ k, k ≠ 3 → k ≠ 4 → k ≠ 5 → ar2 k = va_up ar 2 (upd (ar 2) (r * 6 + p) v) k)
    (g1 : ∀ k, 1 ≤ k → k < 4 → ar2 4 (k * 6 + p) = nI (oun c s (upd t (r * 6 + p) v) n p k n).1 ∧ ar2 5 (k * 6 + p) = mean (oun c s (upd t (r * 6 + p) v) n p k n))
    (g2 : ∀ j, (∀ k, 1 ≤ k → k < 4 → j ≠ k * 6 + p) → ar2 4 j = va_up ar 2 (upd (ar 2) (r * 6 + p) v) 4 j ∧ ar2 5 j = va_up ar 2 (upd (ar 2) (r * 6 + p) v) 5 j) : CI n c s (upd t (r * 6 + p) v) set lim m g tt rt (va_up iv 2 (nI 1)) ar2 := by
  obtain ⟨h1, h2, h3, h4, h5, h6, h7, h8, h9, h10, h11, h12, h13, h14⟩ := h
  have hle := h1.le
  have same : ∀ q k, q < 6 → q ≠ p → oun c s (upd t (r * 6 + p) v) n q k n = oun c s t n q k n := fun q k hq hqp => oun_congr (fun _ _ => rfl) (fun _ _ => rfl) (fun b hb => upd_ne (by omega)) n (Nat.le_refl n)
  refine ⟨(h1.ton (r := r * 6 + p) (v := v)).keep (up_n (by decide)) (f 0 (by decide) (by decide) (by decide)) (f 1 (by decide) (by decide) (by decide)) (f 2 (by decide) (by decide) (by decide)), okT_upd h2 hv, h3, fun j hj hj2 => ?_, fun j hj => ?_, fun k q hk hk2 hq => ?_, h7.keep (up_n (by decide)) (f 12 (by decide) (by decide) (by decide)), ?_, ?_, h10, Or.inl up_s, ?_, h13, ?_⟩
  · rw [f 2 (by decide) (by decide) (by decide), up_s, upd_ne (by omega)]; exact h4 j hj hj2
  · by_cases e0 : j / 6 = 0
    · rw [(g2 j (fun k hk _ => by omega)).2]
      show ar 5 j = _
      rw [h5 j hj]
      show shf c s t n (j / 6) (j % 6) = shf c s _ n (j / 6) (j % 6)
      unfold shf
      rw [if_pos e0, if_pos e0]
    · by_cases e1 : j % 6 = p
      · have ej : j = (j / 6) * 6 + p := by omega
        have := (g1 (j / 6) (by omega) (by omega)).2
        rw [← ej] at this
        rw [this]
        show _ = shf c s _ n (j / 6) (j % 6)
        unfold shf
        rw [if_neg e0, e1]
      · rw [(g2 j (fun k hk _ => by omega)).2]
        show ar 5 j = _
        rw [h5 j hj]
        show shf c s t n (j / 6) (j % 6) = shf c s _ n (j / 6) (j % 6)
        unfold shf
        rw [if_neg e0, if_neg e0, same _ _ (by omega) e1]
  · by_cases e1 : q = p
    · subst e1; exact (g1 k hk hk2).1
    · rw [(g2 (k * 6 + q) (fun k2 _ _ => by omega)).1, same q k hq e1]; exact h6 k q hk hk2 hq
  · rw [up_n (by decide)]; exact h8
  · rw [up_n (by decide)]; exact h9
  · rw [up_n (by decide)]; exact h12
  · rw [f 19 (by decide) (by decide) (by decide)]; exact h14
theorem CI.kno (h : CI n c s t set lim m g tt rt iv ar) (hr : r < n) (hy : spk y)
    (f : ∀ k, k ≠ 3 → k ≠ 4 → k ≠ 5 → ar2 k = va_up ar 1 (upd (ar 1) r y) k)
    (g1 : ∀ p, p < 6 → ∀ k, 1 ≤ k → k < 4 → ar2 4 (k * 6 + p) = nI (oun c (upd s r y) t n p k n).1 ∧ ar2 5 (k * 6 + p) = mean (oun c (upd s r y) t n p k n))
    (g2 : ∀ p, p < 6 → ar2 5 p = va_up ar 1 (upd (ar 1) r y) 5 p) : CI n c (upd s r y) t set lim m g tt rt (va_up iv 2 (nI 1)) ar2 := by
  obtain ⟨h1, h2, h3, h4, h5, h6, h7, h8, h9, h10, h11, h12, h13, h14⟩ := h
  have hle := h1.le
  refine ⟨(h1.kno (r := r) (y := y)).keep (up_n (by decide)) (f 0 (by decide) (by decide) (by decide)) (f 1 (by decide) (by decide) (by decide)) (f 2 (by decide) (by decide) (by decide)), h2, okSp_upd h3 hy (Nat.le_succ n) (Or.inl (Nat.le_refl n)), fun j hj hj2 => ?_, fun j hj => ?_, fun k q hk hk2 hq => (g1 q hq k hk hk2).1, h7.keep (up_n (by decide)) (f 12 (by decide) (by decide) (by decide)), ?_, ?_, h10, Or.inl up_s, ?_, h13, ?_⟩
  · rw [f 2 (by decide) (by decide) (by decide)]; exact h4 j hj hj2
  · by_cases e0 : j / 6 = 0
    · rw [g2 j (by omega)]
      show ar 5 j = _
      rw [h5 j hj]
      show shf c s t n (j / 6) (j % 6) = shf c _ t n (j / 6) (j % 6)
      unfold shf
      rw [if_pos e0, if_pos e0]
    · have ej : j = (j / 6) * 6 + j % 6 := by omega
      have := (g1 (j % 6) (by omega) (j / 6) (by omega) (by omega)).2
      rw [← ej] at this
      rw [this]
      show _ = shf c _ t n (j / 6) (j % 6)
      unfold shf
      rw [if_neg e0]
  · rw [up_n (by decide)]; exact h8
  · rw [up_n (by decide)]; exact h9
  · rw [up_n (by decide)]; exact h12
  · rw [f 19 (by decide) (by decide) (by decide)]; exact h14
theorem CI.set_ (h : CI n c s t set lim m g tt rt iv ar) : CI n c s t x lim m g tt rt (va_up (va_up iv 0 x) 2 (nI 1)) ar := by
  obtain ⟨h1, h2, h3, h4, h5, h6, h7, h8, h9, h10, h11, h12, h13, h14⟩ := h
  exact ⟨h1, h2, h3, h4, h5, h6, h7, rfl, h9, h10, Or.inl rfl, h12, h13, h14⟩
theorem CI.lim_ (h : CI n c s t set lim m g tt rt iv ar) {k : Nat} (hk : k ≤ 200) : CI n c s t set k m g tt rt (va_up iv 1 (nI k)) ar := by
  obtain ⟨h1, h2, h3, h4, h5, h6, h7, h8, h9, h10, h11, h12, h13, h14⟩ := h
  exact ⟨h1, h2, h3, h4, h5, h6, h7, h8, rfl, hk, h11, h12, h13, h14⟩
theorem CI.seg (h : CI n c s t set lim m g tt rt iv ar) {k : Nat} (hk : k < n) (hm : m < 8) : CI n c s t set lim (m + 1) (va_up g m k) tt rt (va_up iv 7 (nI (m + 1))) (va_up ar 12 (upd (ar 12) m (nI k))) := by
  obtain ⟨h1, h2, h3, h4, h5, h6, h7, h8, h9, h10, h11, h12, h13, h14⟩ := h
  refine ⟨h1, h2, h3, h4, h5, h6, ⟨rfl, by omega, fun j hj => ?_⟩, h8, h9, h10, h11, h12, h13, h14⟩
  rw [up_s]
  by_cases e : j = m
  · subst e; rw [upd_at, up_s]; exact ⟨rfl, hk⟩
  · rw [upd_ne e, up_n e]; exact h7.2.2 j (by omega)
theorem CI.clr (h : CI n c s t set lim m g tt rt iv ar) : CI n c s t set lim 0 g tt rt (va_up iv 7 (nI 0)) ar := by
  obtain ⟨h1, h2, h3, h4, h5, h6, h7, h8, h9, h10, h11, h12, h13, h14⟩ := h
  exact ⟨h1, h2, h3, h4, h5, h6, ⟨rfl, by omega, fun j hj => absurd hj (Nat.not_lt_zero j)⟩, h8, h9, h10, h11, h12, h13, h14⟩
theorem CI.tst (h : CI n c s t set lim m g tt rt iv ar) (ht : tt < 60) {k : Nat} (hk : k < 5) : CI n c s t set lim m g (tt + 1) (upd rt k (rt k + nI 1)) (va_up iv 11 (nI (tt + 1))) (va_up ar 19 (upd (ar 19) k (ar 19 k + nI 1))) := by
  obtain ⟨h1, h2, h3, h4, h5, h6, h7, h8, h9, h10, h11, h12, h13, h14⟩ := h
  refine ⟨h1, h2, h3, h4, h5, h6, h7, h8, h9, h10, h11, rfl, by omega, fun j hj => ?_⟩
  rw [up_s]
  by_cases e : j = k
  · subst e; rw [upd_at, upd_at, h14 j hj]
  · rw [upd_ne e, upd_ne e]; exact h14 j hj
theorem MI.rec_ (h : MI n c s t set lim m g tt rt iv ar) (hx : inR x 4) (hy : spk y) (hn : n < 30) (a1 : ar2 1 = upd (ar 1) n x) (a2 : ar2 2 = upd (ar 2) n y) (a0 : ∀ j, j < n * 6 → ar2 0 j = ar 0 j) (b0 : ∀ p, p < 6 → ar2 0 (n * 6 + p) = -1) (a3 : ar2 3 = ar 3) (a4 : ar2 4 = ar 4) : MI (n + 1) (va_up c n (cN x)) (upd s n y) (tN t n) set lim m g tt rt (va_up iv 0 (nI (n + 1))) ar2 := by
  obtain ⟨h1, h2, h3, h4, h5, h6, h7, h8, h9, h10⟩ := h
  obtain ⟨k, hk, rfl⟩ := nat_of hx
  refine ⟨⟨up_s, by omega, fun b hb => ?_, fun b hb => ?_, fun j hj => ?_⟩, okT_more h2, okSp_upd h3 hy (Nat.le_refl _) (Or.inr rfl), ⟨h4.1, h4.2.1, fun k hk => ⟨by rw [a3]; exact (h4.2.2 k hk).1, by have := (h4.2.2 k hk).2; omega⟩⟩, h5, h6, h7, h8, h9, by rw [a4]; exact h10⟩
  · rw [a1]
    by_cases e : b = n
    · subst e; rw [upd_at, up_s]; unfold cN; rw [nI_clamp (by omega)]; exact ⟨rfl, hk⟩
    · rw [upd_ne e, up_n e]; exact h1.2.2.1 b (by omega)
  · rw [a2]
    by_cases e : b = n
    · subst e; rw [upd_at, upd_at]
    · rw [upd_ne e, upd_ne e]; exact h1.2.2.2.1 b (by omega)
  · show ar2 0 j = if j < n * 6 then t j else -1
    by_cases e : j < n * 6
    · rw [if_pos e, a0 j e]; exact h1.2.2.2.2 j e
    · rw [if_neg e, show j = n * 6 + (j - n * 6) by omega]; exact b0 _ (by omega)
theorem MI.ton (h : MI n c s t set lim m g tt rt iv ar) (hv : -1 ≤ v.toInt ∧ v.toInt ≤ 99) : MI n c s (upd t r v) set lim m g tt rt iv (va_up ar 0 (upd (ar 0) r v)) := by
  obtain ⟨h1, h2, h3, h4, h5, h6, h7, h8, h9, h10⟩ := h
  refine ⟨⟨h1.1, h1.2.1, h1.2.2.1, h1.2.2.2.1, fun j hj => ?_⟩, okT_upd h2 hv, h3, h4, h5, h6, h7, h8, h9, h10⟩
  rw [up_s]
  by_cases e : j = r
  · subst e; rw [upd_at, upd_at]
  · rw [upd_ne e, upd_ne e]; exact h1.2.2.2.2 j hj
theorem MI.kno (h : MI n c s t set lim m g tt rt iv ar) (hy : spk y) : MI n c (upd s r y) t set lim m g tt rt iv (va_up ar 2 (upd (ar 2) r y)) := by
  obtain ⟨h1, h2, h3, h4, h5, h6, h7, h8, h9, h10⟩ := h
  refine ⟨⟨h1.1, h1.2.1, h1.2.2.1, fun j hj => ?_, h1.2.2.2.2⟩, h2, okSp_upd h3 hy (Nat.le_succ n) (Or.inl (Nat.le_refl n)), h4, h5, h6, h7, h8, h9, h10⟩
  rw [up_s]
  by_cases e : j = r
  · subst e; rw [upd_at, upd_at]
  · rw [upd_ne e, upd_ne e]; exact h1.2.2.2.1 j hj
theorem MI.set_ (h : MI n c s t set lim m g tt rt iv ar) : MI n c s t x lim m g tt rt (va_up iv 1 x) ar := by
  obtain ⟨h1, h2, h3, h4, h5, h6, h7, h8, h9, h10⟩ := h
  exact ⟨h1, h2, h3, h4, rfl, h6, h7, h8, h9, h10⟩
theorem MI.lim_ (h : MI n c s t set lim m g tt rt iv ar) {k : Nat} (hk : k ≤ 200) : MI n c s t set k m g tt rt (va_up iv 2 (nI k)) ar := by
  obtain ⟨h1, h2, h3, h4, h5, h6, h7, h8, h9, h10⟩ := h
  exact ⟨h1, h2, h3, h4, h5, rfl, hk, h8, h9, h10⟩
theorem MI.seg (h : MI n c s t set lim m g tt rt iv ar) {k : Nat} (hk : k < n) (hm : m < 8) : MI n c s t set lim (m + 1) (va_up g m k) tt rt (va_up iv 3 (nI (m + 1))) (va_up ar 3 (upd (ar 3) m (nI k))) := by
  obtain ⟨h1, h2, h3, h4, h5, h6, h7, h8, h9, h10⟩ := h
  refine ⟨h1, h2, h3, ⟨rfl, by omega, fun j hj => ?_⟩, h5, h6, h7, h8, h9, h10⟩
  rw [up_s]
  by_cases e : j = m
  · subst e; rw [upd_at, up_s]; exact ⟨rfl, hk⟩
  · rw [upd_ne e, up_n e]; exact h4.2.2 j (by omega)
theorem MI.clr (h : MI n c s t set lim m g tt rt iv ar) : MI n c s t set lim 0 g tt rt (va_up iv 3 (nI 0)) ar := by
  obtain ⟨h1, h2, h3, h4, h5, h6, h7, h8, h9, h10⟩ := h
  exact ⟨h1, h2, h3, ⟨rfl, by omega, fun j hj => absurd hj (Nat.not_lt_zero j)⟩, h5, h6, h7, h8, h9, h10⟩
theorem MI.tst (h : MI n c s t set lim m g tt rt iv ar) (ht : tt < 60) {k : Nat} (hk : k < 5) : MI n c s t set lim m g (tt + 1) (upd rt k (rt k + nI 1)) (va_up iv 4 (nI (tt + 1))) (va_up ar 4 (upd (ar 4) k (ar 4 k + nI 1))) := by
  obtain ⟨h1, h2, h3, h4, h5, h6, h7, h8, h9, h10⟩ := h
  refine ⟨h1, h2, h3, h4, h5, h6, h7, rfl, by omega, fun j hj => ?_⟩
  rw [up_s]
  by_cases e : j = k
  · subst e; rw [upd_at, upd_at, h10 j hj]
  · rw [upd_ne e, upd_ne e]; exact h10 j hj
end CH
/-- an answer that is a cell -/
def qR (r : Nat) (q : IV → AR → Prop) : PST := fun v iv2 ar2 => v = some (.ref r) ∧ q iv2 ar2
theorem qR.use {Z : ZT} {pc : Nat} {lv : LV} {rest : List Value} {r : Nat} {q : IV → AR → Prop} (k : ∀ iv2 ar2, q iv2 ar2 → Z pc lv (.ref r :: rest) iv2 ar2) : ∀ v iv2 ar2, qR r q v iv2 ar2 → Z pc lv (v.toList ++ rest) iv2 ar2 := fun v iv2 ar2 h => by
  obtain ⟨rfl, h⟩ := h
  exact k iv2 ar2 h
