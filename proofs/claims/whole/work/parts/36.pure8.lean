/-! Pure: what a call leaves as it was; the state of the house -/
section PC
variable {c c2 : Nat → Nat} {s s2 t t2 : Nat → Int32} {n p k : Nat}
theorem inn_congr (hc : ∀ b, b < n → c b = c2 b) (hs : ∀ b, b < n → s b = s2 b) (ht : ∀ b, b < n → t (b * 6 + p) = t2 (b * 6 + p)) {a : Nat} (ha : a < n) (z : Nat × Int32) : ∀ b, b ≤ n → inn c s t p a z b = inn c2 s2 t2 p a z b
  | 0, _ => rfl
  | b + 1, hb => by rw [inn, inn, inn_congr hc hs ht ha z b (by omega), hc b (by omega), hs b (by omega), hs a ha, ht b (by omega), ht a ha]
theorem oun_congr (hc : ∀ b, b < n → c b = c2 b) (hs : ∀ b, b < n → s b = s2 b) (ht : ∀ b, b < n → t (b * 6 + p) = t2 (b * 6 + p)) : ∀ a, a ≤ n → oun c s t n p k a = oun c2 s2 t2 n p k a
  | 0, _ => rfl
  | a + 1, ha => by rw [oun, oun, oun_congr hc hs ht a (by omega), inn_congr hc hs ht (by omega) _ n (Nat.le_refl n), hc a (by omega), hs a (by omega), ht a (by omega)]
theorem oun_more (hc : ∀ b, b < n → c b = c2 b) (hs : ∀ b, b < n → s b = s2 b) (ht : ∀ b, b < n → t (b * 6 + p) = t2 (b * 6 + p)) (hn : t2 (n * 6 + p) = -1) : oun c2 s2 t2 (n + 1) p k (n + 1) = oun c s t n p k n := by
  have h1 : ∀ a, a ≤ n → oun c2 s2 t2 (n + 1) p k a = oun c s t n p k a := by
    intro a
    induction a with
    | zero => intro _; rfl
    | succ a ih =>
      intro ha
      have e : ∀ z, inn c2 s2 t2 p a z (n + 1) = inn c2 s2 t2 p a z n := fun z => if_neg (fun q => q.2.2 hn)
      rw [oun, oun, ih (by omega), e, ← inn_congr hc hs ht (by omega) _ n (Nat.le_refl n), hc a (by omega), hs a (by omega), ht a (by omega)]
  have e : oun c2 s2 t2 (n + 1) p k (n + 1) = oun c2 s2 t2 (n + 1) p k n := if_neg (fun q => q.2.2 hn)
  rw [e, h1 n (Nat.le_refl n)]
theorem scw_congr2 {m m2 : Nat → Int32} {a b : Nat} (ha : c a = c2 a) (hb : c b = c2 b) (hta : ∀ p, p < 6 → t (a * 6 + p) = t2 (a * 6 + p)) (htb : ∀ p, p < 6 → t (b * 6 + p) = t2 (b * 6 + p)) (hca : c a < 4) (hcb : c b < 4) (hm : ∀ j, j < 24 → m j = m2 j) : ∀ p, p ≤ 6 → scw c t m a b p = scw c2 t2 m2 a b p
  | 0, _ => rfl
  | p + 1, hp => by rw [scw, scw, scw_congr2 ha hb hta htb hca hcb hm p (by omega), hta p (by omega), htb p (by omega), ← ha, ← hb, hm (c a * 6 + p) (by omega), hm (c b * 6 + p) (by omega)]
theorem sco_congr2 {m m2 : Nat → Int32} {a b : Nat} (ha : c a = c2 a) (hb : c b = c2 b) (hta : ∀ p, p < 6 → t (a * 6 + p) = t2 (a * 6 + p)) (htb : ∀ p, p < 6 → t (b * 6 + p) = t2 (b * 6 + p)) (hca : c a < 4) (hcb : c b < 4) (hm : ∀ j, j < 24 → m j = m2 j) : sco c t m a b = sco c2 t2 m2 a b := by
  unfold sco
  rw [scw_congr2 ha hb hta htb hca hcb hm 6 (Nat.le_refl 6)]
theorem scw_lost {m : Nat → Int32} {a b : Nat} (hb : ∀ p, p < 6 → t (b * 6 + p) = -1) : ∀ p, p ≤ 6 → scw c t m a b p = (0, 0)
  | 0, _ => rfl
  | p + 1, hp => by rw [scw, if_neg (fun q => q.2 (hb p (by omega))), scw_lost hb p (by omega)]
theorem sco_lost {m : Nat → Int32} {a b : Nat} (hb : ∀ p, p < 6 → t (b * 6 + p) = -1) : sco c t m a b = -1 := by
  unfold sco
  rw [scw_lost hb 6 (Nat.le_refl 6)]
  rfl
theorem shA_congr (h : ∀ k p, 1 ≤ k → k < 4 → p < 6 → oun c s t n p k n = oun c2 s2 t2 n p k n) : ∀ j, j < 24 → shA c s t n j = shA c2 s2 t2 n j := by
  intro j hj
  unfold shA shf
  split
  · rfl
  · rw [h (j / 6) (j % 6) (by omega) (by omega) (by omega)]
/-- one more recording, without tones: SHIFTS, SCORES and PAIRS stay -/
theorem more_shA (hc : ∀ b, b < n → c b = c2 b) (hs : ∀ b, b < n → s b = s2 b) (ht : ∀ j, j < n * 6 → t j = t2 j) (hn : ∀ p, p < 6 → t2 (n * 6 + p) = -1) : ∀ j, j < 24 → shA c2 s2 t2 (n + 1) j = shA c s t n j := by
  intro j hj
  unfold shA shf
  split
  · rfl
  · rw [oun_more hc hs (fun b hb => ht _ (by omega)) (hn _ (by omega))]
theorem more_SC (hc : ∀ b, b < n → c b = c2 b) (hs : ∀ b, b < n → s b = s2 b) (ht : ∀ j, j < n * 6 → t j = t2 j) (hn : ∀ p, p < 6 → t2 (n * 6 + p) = -1) (h4 : ∀ b, b < n → c b < 4) {a b : Nat} (ha : a < n) (hb : b < n) : SC c2 s2 t2 (n + 1) a b = SC c s t n a b :=
  (sco_congr2 (hc a ha) (hc b hb) (fun p hp => ht _ (by omega)) (fun p hp => ht _ (by omega)) (h4 a ha) (h4 b hb) (fun j hj => (more_shA hc hs ht hn j hj).symm)).symm
theorem more_cou {set : Int32} (hc : ∀ b, b < n → c b = c2 b) (hs : ∀ b, b < n → s b = s2 b) (ht : ∀ j, j < n * 6 → t j = t2 j) (hn : ∀ p, p < 6 → t2 (n * 6 + p) = -1) (h4 : ∀ b, b < n → c b < 4) : cou (SC c2 s2 t2 (n + 1)) s2 set (n + 1) = cou (SC c s t n) s set n := by
  have h1 : cou (SC c2 s2 t2 (n + 1)) s2 set n = cou (SC c s t n) s set n := cou_congr (n := n) (fun a b ha hb => more_SC hc hs ht hn h4 ha hb) (fun a ha => (hs a ha).symm) n (Nat.le_refl n)
  have h2 : ∀ (z : WT) a, cin (SC c2 s2 t2 (n + 1)) s2 set n z a = z := by
    intro z a
    induction a with
    | zero => rfl
    | succ a ih =>
      rw [cin, ih, cpr]
      split
      · exact if_pos (sco_lost hn)
      · rfl
  rw [cou, h2, h1]
end PC
/-- the class's state; its picture: n recordings with channels c, speakers s, tones t; set, limit, m segments g, tt tests with outcomes rt -/
def CI (n : Nat) (c : Nat → Nat) (s t : Nat → Int32) (set : Int32) (lim m : Nat) (g : Nat → Nat) (tt : Nat) (rt : Nat → Int32) (iv : IV) (ar : AR) : Prop :=
  Arch n c s t iv ar ∧ okT n t ∧ okSp n s ∧ (∀ j, n * 6 ≤ j → j < 180 → ar 2 j = -1) ∧ (∀ j, j < 24 → ar 5 j = shA c s t n j) ∧ (∀ k p, 1 ≤ k → k < 4 → p < 6 → ar 4 (k * 6 + p) = nI (oun c s t n p k n).1) ∧ SG n m g iv ar ∧ iv 0 = set ∧ iv 1 = nI lim ∧ lim ≤ 200 ∧ (iv 2 = nI 1 ∨ (iv 2 = nI 0 ∧ PB (cou (SC c s t n) s set n) iv ar ∧ BB (blk (cou (SC c s t n) s set n)) iv ar)) ∧ iv 11 = nI tt ∧ tt ≤ 60 ∧ (∀ k, k < 5 → ar 19 k = rt k)
/-- the reference's state -/
def MI (n : Nat) (c : Nat → Nat) (s t : Nat → Int32) (set : Int32) (lim m : Nat) (g : Nat → Nat) (tt : Nat) (rt : Nat → Int32) (iv : IV) (ar : AR) : Prop :=
  MArc n c s t iv ar ∧ okT n t ∧ okSp n s ∧ MG n m g iv ar ∧ iv 1 = set ∧ iv 2 = nI lim ∧ lim ≤ 200 ∧ iv 4 = nI tt ∧ tt ≤ 60 ∧ (∀ k, k < 5 → ar 4 k = rt k)
section CK
variable {n : Nat} {c : Nat → Nat} {s t : Nat → Int32} {set : Int32} {lim m : Nat} {g : Nat → Nat} {tt : Nat} {rt : Nat → Int32} {iv iv2 : IV} {ar ar2 : AR}
/-- what only scratch rows hold may change -/
theorem CI.scr (h : CI n c s t set lim m g tt rt iv ar) (hi : ∀ q, q ≠ 8 → q ≠ 9 → q ≠ 10 → iv2 q = iv q) (ha : ∀ q, q < 13 ∨ 19 ≤ q → ar2 q = ar q) : CI n c s t set lim m g tt rt iv2 ar2 := by
  obtain ⟨h1, h2, h3, h4, h5, h6, h7, h8, h9, h10, h11, h12, h13, h14⟩ := h
  refine ⟨h1.keep (hi 3 (by decide) (by decide) (by decide)) (ha 0 (by decide)) (ha 1 (by decide)) (ha 2 (by decide)), h2, h3, by rw [ha 2 (by decide)]; exact h4, by rw [ha 5 (by decide)]; exact h5, by rw [ha 4 (by decide)]; exact h6, h7.keep (hi 7 (by decide) (by decide) (by decide)) (ha 12 (by decide)), by rw [hi 0 (by decide) (by decide) (by decide)]; exact h8, by rw [hi 1 (by decide) (by decide) (by decide)]; exact h9, h10, ?_, by rw [hi 11 (by decide) (by decide) (by decide)]; exact h12, h13, by rw [ha 19 (by decide)]; exact h14⟩
  rw [hi 2 (by decide) (by decide) (by decide)]
  rcases h11 with q | ⟨q1, q2, q3⟩
  · exact Or.inl q
  · refine Or.inr ⟨q1, ⟨by rw [ha 6 (by decide)]; exact q2.1, by rw [ha 7 (by decide)]; exact q2.2.1, by rw [hi 5 (by decide) (by decide) (by decide)]; exact q2.2.2.1, by rw [hi 6 (by decide) (by decide) (by decide)]; exact q2.2.2.2⟩, ?_⟩
    refine ⟨by rw [hi 4 (by decide) (by decide) (by decide)]; exact q3.1, ?_⟩
    rw [ha 8 (by decide), ha 9 (by decide), ha 10 (by decide), ha 11 (by decide)]
    exact q3.2
/-- the PAIRS are counted anew -/
theorem CI.fresh (h : CI n c s t set lim m g tt rt iv ar) (hi : ∀ q, q ≠ 2 → q ≠ 4 → q ≠ 5 → q ≠ 6 → iv2 q = iv q) (ha : ∀ q, q < 6 ∨ 12 ≤ q → ar2 q = ar q) (h2 : iv2 2 = nI 0) (hP : PB (cou (SC c s t n) s set n) iv2 ar2) (hB : BB (blk (cou (SC c s t n) s set n)) iv2 ar2) : CI n c s t set lim m g tt rt iv2 ar2 := by
  obtain ⟨h1, k2, h3, h4, h5, h6, h7, h8, h9, h10, h11, h12, h13, h14⟩ := h
  exact ⟨h1.keep (hi 3 (by decide) (by decide) (by decide) (by decide)) (ha 0 (by decide)) (ha 1 (by decide)) (ha 2 (by decide)), k2, h3, by rw [ha 2 (by decide)]; exact h4, by rw [ha 5 (by decide)]; exact h5, by rw [ha 4 (by decide)]; exact h6, h7.keep (hi 7 (by decide) (by decide) (by decide) (by decide)) (ha 12 (by decide)), by rw [hi 0 (by decide) (by decide) (by decide) (by decide)]; exact h8, by rw [hi 1 (by decide) (by decide) (by decide) (by decide)]; exact h9, h10, Or.inr ⟨h2, hP, hB⟩, by rw [hi 11 (by decide) (by decide) (by decide) (by decide)]; exact h12, h13, by rw [ha 19 (by decide)]; exact h14⟩
theorem MI.scr (h : MI n c s t set lim m g tt rt iv ar) (hi : ∀ q, q < 5 → iv2 q = iv q) (ha : ∀ q, q < 5 → ar2 q = ar q) : MI n c s t set lim m g tt rt iv2 ar2 := by
  obtain ⟨h1, h2, h3, h4, h5, h6, h7, h8, h9, h10⟩ := h
  exact ⟨h1.keep (hi 0 (by decide)) (ha 0 (by decide)) (ha 1 (by decide)) (ha 2 (by decide)), h2, h3, h4.keep (hi 3 (by decide)) (ha 3 (by decide)), by rw [hi 1 (by decide)]; exact h5, by rw [hi 2 (by decide)]; exact h6, h7, by rw [hi 4 (by decide)]; exact h8, h9, by rw [ha 4 (by decide)]; exact h10⟩
end CK
theorem nat_of {r : Int32} {n : Nat} (h : 0 ≤ r.toInt ∧ r.toInt < n) : ∃ k, k < n ∧ r = nI k := by
  obtain ⟨k, hk, e⟩ := nI_of (x := r) (by rw [i_lt, toInt_0]; omega)
  subst e
  rw [nI_toInt hk] at h
  exact ⟨k, by omega, rfl⟩
/-- an answer by a condition, with what holds behind each -/
def Sp (p : Prop) (x a b : Int32) (K L : Prop) : Prop := (p ∧ x = a ∧ K) ∨ (¬ p ∧ x = b ∧ L)
theorem Sp.two {p : Prop} {x y a b : Int32} {K L M N : Prop} (h1 : Sp p x a b K L) (h2 : Sp p y a b M N) : x = y ∧ ((K ∧ M) ∨ (L ∧ N)) := by
  rcases h1 with ⟨p1, e1, k1⟩ | ⟨p1, e1, k1⟩
  · rcases h2 with ⟨p2, e2, k2⟩ | ⟨p2, e2, k2⟩
    · exact ⟨by rw [e1, e2], Or.inl ⟨k1, k2⟩⟩
    · exact absurd p1 p2
  · rcases h2 with ⟨p2, e2, k2⟩ | ⟨p2, e2, k2⟩
    · exact absurd p2 p1
    · exact ⟨by rw [e1, e2], Or.inr ⟨k1, k2⟩⟩
abbrev inR (x : Int32) (n : Nat) : Prop := 0 ≤ x.toInt ∧ x.toInt < n
abbrev cN (x : Int32) : Nat := x.toNatClampNeg
/-! the answers -/
abbrev WW (c : Nat → Nat) (s t : Nat → Int32) (n : Nat) (set : Int32) : WT := cou (SC c s t n) s set n
def aShift (n : Nat) (c : Nat → Nat) (s t : Nat → Int32) (x y : Int32) : Int32 := if inR x 4 ∧ inR y 6 then shf c s t n (cN x) (cN y) else -2147483648
def aHidden (n : Nat) (c : Nat → Nat) (s t : Nat → Int32) (x y : Int32) : Int32 := bI (inR x 4 ∧ inR y 6 ∧ ¬ cN x = 0 ∧ (oun c s t n (cN y) (cN x) n).1 = 0)
def aScore (n : Nat) (c : Nat → Nat) (s t : Nat → Int32) (x y : Int32) : Int32 := if inR x n ∧ inR y n ∧ ¬ x = y then SC c s t n (cN x) (cN y) else -1
def aBand (n : Nat) (c : Nat → Nat) (s t : Nat → Int32) (set x y : Int32) : Int32 := if inR x 10 then (if y = 0 then nI ((WW c s t n set).1 (cN x)) else if y = 1 then nI ((WW c s t n set).2 (cN x)) else -1) else -1
def aBlock (n : Nat) (c : Nat → Nat) (s t : Nat → Int32) (set x y : Int32) : Int32 := if inR x 10 then (match fbk (WW c s t n set) (cN x) with | none => -1 | some i => if y = 0 then nI (bf (blk (WW c s t n set)) i) else if y = 1 then nI (bl (blk (WW c s t n set)) i) else -1) else -1
def aOdds (n : Nat) (c : Nat → Nat) (s t : Nat → Int32) (set x y : Int32) : Int32 := if 0 ≤ x.toInt then (match fbk (WW c s t n set) (bnd (cN x)) with | none => -1 | some i => if y = 0 then nI (bs (blk (WW c s t n set)) i) else if y = 1 then nI (smN (WW c s t n set).1 10) else if y = 2 then nI (bo (blk (WW c s t n set)) i) else if y = 3 then nI (smN (WW c s t n set).2 10) else if y = 4 then bI (¬ bs (blk (WW c s t n set)) i = 0 ∧ ¬ bo (blk (WW c s t n set)) i = 0) else -1) else -1
def aVoice (n : Nat) (c : Nat → Nat) (s t : Nat → Int32) (lim m : Nat) (g : Nat → Nat) (x : Int32) : Int32 := if inR x m then nI (vcs (Tg c s t n g) m lim (cN x)) else -1
abbrev LL (n : Nat) (c : Nat → Nat) (s t : Nat → Int32) (set : Int32) (a : Nat) : LT := lin (fun b => SC c s t n a b) s set a n
def aLined (n : Nat) (c : Nat → Nat) (s t : Nat → Int32) (set x y : Int32) : Int32 := if inR x n then (if inR y (LL n c s t set (cN x)).1 then nI ((LL n c s t set (cN x)).2 (cN y)) else -1) else -1
def aRank (n : Nat) (c : Nat → Nat) (s t : Nat → Int32) (set x y : Int32) : Int32 := if inR x n ∧ inR y 10 then rkF s (LL n c s t set (cN x)).2 y (LL n c s t set (cN x)).1 0 else -1
def aRight (rt : Nat → Int32) (x : Int32) : Int32 := if inR x 5 then rt (cN x) else -1
def aTold (n : Nat) (c : Nat → Nat) (s t : Nat → Int32) (x y : Int32) : Int32 := if inR x n then (if y = 0 then nI (c (cN x)) else if y = 1 then s (cN x) else if y = 2 then nI (cnT t (cN x) 6) else if 10 ≤ y.toInt ∧ y.toInt < 16 then t (cN x * 6 + (cN y - 10)) else -1) else -1
def aCount (n : Nat) (c : Nat → Nat) (s t : Nat → Int32) (set : Int32) (lim m : Nat) (x : Int32) : Int32 := if x = 0 then nI n else if x = 1 then nI (smN (WW c s t n set).1 10) else if x = 2 then nI (smN (WW c s t n set).2 10) else if x = 3 then nI (bm (blk (WW c s t n set))) else if x = 4 then nI m else if x = 5 then nI lim else if x = 6 then set else -1
def says (v : Int32) (lim : Nat) : Int32 := if v = -1 then nI 2 else if v ≤ nI lim then nI 1 else nI 0
def spot (v : Int32) (lim : Nat) (p q : Int32) : Nat := if v = -1 then 4 else if v ≤ nI lim then (if p = q then 0 else 1) else (if p = q then 3 else 2)
