/-! Pure: SPARE. Parts of the list of segments are numbers, bit k for segment k -/
abbrev sb (B S : Nat) : Prop := B &&& S = B
theorem and_parts (a b : Nat) : a &&& b = 2 * (a / 2 &&& b / 2) + (a % 2) * (b % 2) := by
  have h1 : (a &&& b) / 2 = a / 2 &&& b / 2 := Nat.and_div_two
  have h2 : (a &&& b) % 2 = (a % 2) * (b % 2) := by
    have h3 : (a &&& b) % 2 = 1 ↔ a % 2 = 1 ∧ b % 2 = 1 := Nat.and_mod_two_eq_one
    by_cases q : (a &&& b) % 2 = 1
    · obtain ⟨ha, hb⟩ := h3.mp q
      rw [q, ha, hb]
    · have z : ¬ (a % 2 = 1 ∧ b % 2 = 1) := fun z => q (h3.mpr z)
      have e0 : (a &&& b) % 2 = 0 := by omega
      rw [e0]
      rcases Nat.mod_two_eq_zero_or_one a with ha | ha
      · rw [ha, Nat.zero_mul]
      · have hb : b % 2 = 0 := by omega
        rw [hb, Nat.mul_zero]
  omega
theorem sub_next : ∀ (C R X : Nat), sb C R → sb X R → X < C → X ≤ (C - 1) &&& R := by
  intro C
  induction C using Nat.strongRecOn with
  | _ C ih =>
    intro R X hC hX hlt
    have c1 : C / 2 &&& R / 2 = C / 2 := by rw [← Nat.and_div_two, hC]
    have x1 : X / 2 &&& R / 2 = X / 2 := by rw [← Nat.and_div_two, hX]
    have x2 : X % 2 ≤ R % 2 := by
      have h3 : (X &&& R) % 2 = 1 ↔ X % 2 = 1 ∧ R % 2 = 1 := Nat.and_mod_two_eq_one
      rw [hX] at h3
      omega
    rw [and_parts]
    rcases Nat.mod_two_eq_zero_or_one C with h | h
    · have := ih (C / 2) (by omega) (R / 2) (X / 2) c1 x1 (by omega)
      rw [show (C - 1) / 2 = C / 2 - 1 by omega, show (C - 1) % 2 = 1 by omega, Nat.one_mul]
      omega
    · rw [show (C - 1) / 2 = C / 2 by omega, show (C - 1) % 2 = 0 by omega, Nat.zero_mul, c1]
      omega
def lo (S : Nat) : Nat := S &&& (S - 1)
def tzF : Nat → Nat → Nat
  | 0, _ => 0
  | f + 1, S => if S % 2 = 1 then 0 else tzF f (S / 2) + 1
def tz (S : Nat) : Nat := tzF 9 S
def alB (p : Nat → Bool) : Nat → Bool
  | 0 => true
  | n + 1 => p n && alB p n
theorem alB_at {p : Nat → Bool} : ∀ n, alB p n = true → ∀ k, k < n → p k = true
  | 0, _, k, hk => absurd hk (Nat.not_lt_zero k)
  | n + 1, h, k, hk => by
    rw [alB, Bool.and_eq_true] at h
    by_cases e : k = n
    · rw [e]; exact h.1
    · exact alB_at n h.2 k (by omega)
theorem alB2 {p : Nat → Nat → Bool} (h : alB (fun S => alB (p S) 256) 256 = true) {S B : Nat} (hS : S < 256) (hB : B < 256) : p S B = true := alB_at 256 (alB_at 256 h S hS) B hB
theorem impB {a b : Bool} (h : (!a || b) = true) (ha : a = true) : b = true := by rw [ha] at h; exact h
theorem beqT {a b : Nat} (h : a = b) : Nat.beq a b = true := by rw [h]; exact Nat.beq_refl b
def ck1 (S B : Nat) : Bool := !(Nat.beq (B &&& S) B) || (Nat.blt (S ^^^ B) 256 && (Nat.beq ((S ^^^ B) &&& S) (S ^^^ B) && ((Nat.beq B 0 || Nat.blt (S ^^^ B) S) && Nat.ble B S)))
theorem ck1_all : alB (fun S => alB (ck1 S) 256) 256 = true := by decide +kernel
theorem bx1 (S : Nat) (hS : S < 256) (B : Nat) (hB : B < 256) (hs : sb B S) : S ^^^ B < 256 ∧ sb (S ^^^ B) S ∧ (B ≠ 0 → S ^^^ B < S) ∧ B ≤ S := by
  have h := impB (alB2 ck1_all hS hB) (beqT hs)
  simp only [Bool.and_eq_true, Bool.or_eq_true] at h
  obtain ⟨h1, h2, h3, h4⟩ := h
  refine ⟨Nat.le_of_ble_eq_true h1, Nat.eq_of_beq_eq_true h2, fun hne => ?_, Nat.le_of_ble_eq_true h4⟩
  rcases h3 with q | q
  · exact absurd (Nat.eq_of_beq_eq_true q) hne
  · exact Nat.le_of_ble_eq_true q
theorem lx1 : ∀ S, S < 256 → 0 < S → (tz S < 8 ∧ S.testBit (tz S) = true ∧ S ^^^ lo S = 2 ^ tz S ∧ sb (lo S) S ∧ lo S < S ∧ sb (2 ^ tz S) S ∧ S ^^^ (2 ^ tz S) = lo S ∧ 2 ^ tz S < 256) := by decide +kernel
theorem lx2 : ∀ S, S < 256 → 0 < S → ∀ i, i < 8 → ((lo S).testBit i = (S.testBit i && !decide (i = tz S)) ∧ (i < tz S → S.testBit i = false)) := by decide +kernel
def ck3 (S X : Nat) : Bool := !(Nat.ble 1 S && Nat.beq (X &&& lo S) X) || (Nat.beq ((X ||| (S ^^^ lo S)) &&& S) (X ||| (S ^^^ lo S)) && (Nat.ble 1 (X ||| (S ^^^ lo S)) && (Nat.blt (X ||| (S ^^^ lo S)) 256 && (Nat.beq (S ^^^ (X ||| (S ^^^ lo S))) (lo S ^^^ X) && (Nat.ble (X ||| (S ^^^ lo S)) S && Nat.blt (lo S ^^^ X) S)))))
theorem ck3_all : alB (fun S => alB (ck3 S) 256) 256 = true := by decide +kernel
theorem lx3 (S : Nat) (hS : S < 256) (h0 : 0 < S) (X : Nat) (hX : X < 256) (hs : sb X (lo S)) : sb (X ||| (S ^^^ lo S)) S ∧ X ||| (S ^^^ lo S) ≠ 0 ∧ X ||| (S ^^^ lo S) < 256 ∧ S ^^^ (X ||| (S ^^^ lo S)) = lo S ^^^ X ∧ X ||| (S ^^^ lo S) ≤ S ∧ lo S ^^^ X < S := by
  have h := impB (alB2 ck3_all hS hX) (by rw [Bool.and_eq_true]; exact ⟨Nat.ble_eq_true_of_le h0, beqT hs⟩)
  simp only [Bool.and_eq_true] at h
  obtain ⟨h1, h2, h3, h4, h5, h6⟩ := h
  have h2 := Nat.le_of_ble_eq_true h2
  exact ⟨Nat.eq_of_beq_eq_true h1, by omega, Nat.le_of_ble_eq_true h3, Nat.eq_of_beq_eq_true h4, Nat.le_of_ble_eq_true h5, Nat.le_of_ble_eq_true h6⟩
def ck4 (S B : Nat) : Bool := !(Nat.ble 1 S && (Nat.beq (B &&& S) B && B.testBit (tz S))) || (Nat.beq ((B ^^^ (S ^^^ lo S)) &&& lo S) (B ^^^ (S ^^^ lo S)) && Nat.beq ((B ^^^ (S ^^^ lo S)) ||| (S ^^^ lo S)) B)
theorem ck4_all : alB (fun S => alB (ck4 S) 256) 256 = true := by decide +kernel
theorem lx4 (S : Nat) (hS : S < 256) (h0 : 0 < S) (B : Nat) (hB : B < 256) (hs : sb B S) (ht : B.testBit (tz S) = true) : sb (B ^^^ (S ^^^ lo S)) (lo S) ∧ (B ^^^ (S ^^^ lo S)) ||| (S ^^^ lo S) = B := by
  have h := impB (alB2 ck4_all hS hB) (by rw [Bool.and_eq_true, Bool.and_eq_true]; exact ⟨Nat.ble_eq_true_of_le h0, beqT hs, ht⟩)
  simp only [Bool.and_eq_true] at h
  exact ⟨Nat.eq_of_beq_eq_true h.1, Nat.eq_of_beq_eq_true h.2⟩
theorem tx1 : ∀ S, S < 256 → 0 < S → (S.testBit S.log2 = true ∧ S.log2 < 8) := by decide +kernel
def ck5 (S B : Nat) : Bool := !(Nat.beq (B &&& S) B) || (Nat.blt S (2 * B) == B.testBit S.log2)
theorem ck5_all : alB (fun S => alB (ck5 S) 256) 256 = true := by decide +kernel
theorem tx2 (S : Nat) (hS : S < 256) (B : Nat) (hB : B < 256) (hs : sb B S) : S < 2 * B ↔ B.testBit S.log2 = true := by
  have h := eq_of_beq (impB (alB2 ck5_all hS hB) (beqT hs))
  rw [← h]
  exact ⟨fun q => Nat.ble_eq_true_of_le q, fun q => Nat.le_of_ble_eq_true q⟩
/-! sums over the twos of a part -/
def inb (S i x : Nat) : Nat := if S.testBit i = true then x else 0
def grw (h : Nat → Nat → Nat) (S i : Nat) : Nat := smN (fun j => inb S j (h i j)) i
def psF (h : Nat → Nat → Nat) (S m : Nat) : Nat := smN (fun i => inb S i (grw h S i)) m
theorem smN_zero {f : Nat → Nat} : ∀ n, (∀ k, k < n → f k = 0) → smN f n = 0
  | 0, _ => rfl
  | n + 1, h => by rw [smN, smN_zero n (fun k hk => h k (by omega)), h n (by omega)]
theorem smN_ind (f c : Nat) : ∀ n, smN (fun j => if j = f then c else 0) n = if f < n then c else 0
  | 0 => rfl
  | n + 1 => by
    rw [smN, smN_ind f c n]
    by_cases e : n = f
    · subst e; rw [if_neg (Nat.lt_irrefl n), if_pos rfl, if_pos (by omega)]; omega
    · rw [if_neg e]
      by_cases q : f < n
      · rw [if_pos q, if_pos (by omega)]; omega
      · rw [if_neg q, if_neg (by omega)]
theorem psF_lo {h : Nat → Nat → Nat} {S m : Nat} (h0 : 0 < S) (hS : S < 256) (hm : m ≤ 8) (hsym : ∀ i j, i < m → j < m → h i j = h j i) (htz : tz S < m) : psF h S m = psF h (lo S) m + smN (fun k => inb (lo S) k (h (tz S) k)) m := by
  unfold psF
  rw [← smN_add]
  refine smN_congr m (fun i hi => ?_)
  have hl := lx2 S hS h0 i (by omega)
  have h1 := lx1 S hS h0
  by_cases e : i = tz S
  · have z : (lo S).testBit i = false := by rw [hl.1]; simp [e]
    have g0 : grw h S i = 0 := smN_zero i (fun j hj => by
      have := (lx2 S hS h0 j (by omega)).2 (by omega)
      unfold inb
      rw [this]
      rfl)
    rw [g0]
    unfold inb
    rw [z]
    simp
  · have z : (lo S).testBit i = S.testBit i := by rw [hl.1]; simp [e]
    unfold inb
    rw [z]
    by_cases q : S.testBit i = true
    · rw [if_pos q, if_pos q, if_pos q]
      have hlt : tz S < i := by
        rcases Nat.lt_trichotomy i (tz S) with c | c | c
        · rw [hl.2 c] at q; cases q
        · exact absurd c e
        · exact c
      have g1 : grw h S i = smN (fun j => inb (lo S) j (h i j) + (if j = tz S then h i (tz S) else 0)) i := smN_congr i (fun j hj => by
        have hj2 := (lx2 S hS h0 j (by omega)).1
        unfold inb
        by_cases c : j = tz S
        · subst c
          rw [hj2, h1.2.1]
          simp
        · rw [hj2]
          simp [c])
      rw [g1, smN_add, smN_ind, if_pos hlt, hsym i (tz S) hi htz]
      rfl
    · rw [if_neg q, if_neg q, if_neg q]
/-- a VOICE's cost: none if a SCORE is missing -/
def msT (T : Nat → Nat → Int32) (i j : Nat) : Nat := if T i j = -1 then 1 else 0
def tnT (T : Nat → Nat → Int32) (i j : Nat) : Nat := (T i j).toNatClampNeg
def vl (T : Nat → Nat → Int32) (m lim S : Nat) : Option Nat := if psF (msT T) S m = 0 then some (lim + psF (tnT T) S m) else none
/-- S parted into k VOICES at the cost c -/
def Pt (val : Nat → Option Nat) : Nat → Nat → Nat → Prop
  | 0, S, c => S = 0 ∧ c = 0
  | k + 1, S, c => ∃ B v d, B ≠ 0 ∧ B < 256 ∧ sb B S ∧ val B = some v ∧ Pt val k (S ^^^ B) d ∧ c = v + d
theorem sb_trans {A B C : Nat} (h1 : sb A B) (h2 : sb B C) : sb A C := by
  have h3 : A &&& B = A := h1
  have h4 : B &&& C = B := h2
  show A &&& C = A
  rw [← h3, Nat.and_assoc, h4]
theorem Pt_pick {val : Nat → Option Nat} {x : Nat} : ∀ (k S c : Nat), S < 256 → Pt val k S c → S.testBit x = true → ∃ j B v d, B.testBit x = true ∧ B ≠ 0 ∧ B < 256 ∧ sb B S ∧ val B = some v ∧ Pt val j (S ^^^ B) d ∧ c = v + d
  | 0, S, c, _, h, hx => by rw [h.1] at hx; simp at hx
  | k + 1, S, c, hS, ⟨B0, v0, d0, b1, b2, b3, b4, b5, b6⟩, hx => by
    by_cases q : B0.testBit x = true
    · exact ⟨k, B0, v0, d0, q, b1, b2, b3, b4, b5, b6⟩
    · have hb := bx1 S hS B0 b2 b3
      have hx2 : (S ^^^ B0).testBit x = true := by rw [Nat.testBit_xor, hx]; simp [q]
      obtain ⟨j, B, v, d, g1, g2, g3, g4, g5, g6, g7⟩ := Pt_pick k (S ^^^ B0) d0 hb.1 b5 hx2
      have s1 : sb B S := sb_trans g4 hb.2.1
      have b3' : B0 &&& S = B0 := b3
      have g4' : B &&& (S ^^^ B0) = B := g4
      have z0 : B0 &&& (S ^^^ B0) = 0 := by rw [Nat.and_xor_distrib_left, b3', Nat.and_self, Nat.xor_self]
      have z1 : B0 &&& B = 0 := by rw [← g4', ← Nat.and_assoc, Nat.and_comm B0 B, Nat.and_assoc, z0, Nat.and_zero]
      have s2 : sb B0 (S ^^^ B) := by
        show B0 &&& (S ^^^ B) = B0
        rw [Nat.and_xor_distrib_left, b3', z1, Nat.xor_zero]
      refine ⟨j + 1, B, v, v0 + d, g1, g2, g3, s1, g5, ⟨B0, v0, d, b1, b2, s2, b4, ?_, rfl⟩, by omega⟩
      rw [Nat.xor_assoc, Nat.xor_comm B B0, ← Nat.xor_assoc]
      exact g6
def isOp (val : Nat → Option Nat) (S L : Nat) : Prop := (∃ k, Pt val k S L) ∧ ∀ k c, Pt val k S c → L ≤ c
/-- the least cost -/
noncomputable def opt (val : Nat → Option Nat) (S : Nat) : Nat := @dite _ (∃ L, isOp val S L) (Classical.propDecidable _) (fun h => h.choose) (fun _ => 0)
theorem opt_spec {val : Nat → Option Nat} {S : Nat} (h : ∃ L, isOp val S L) : isOp val S (opt val S) := by
  unfold opt
  rw [dif_pos h]
  exact h.choose_spec
theorem isOp_ex {val : Nat → Option Nat} {S : Nat} (h : ∃ c k, Pt val k S c) : ∃ L, isOp val S L := by
  obtain ⟨L, h1, h2⟩ := pk_least (fun c => ∃ k, Pt val k S c) h
  exact ⟨L, h1, fun k c hc => Nat.le_of_not_lt (fun q => h2 c q ⟨k, hc⟩)⟩
theorem single_vl {T : Nat → Nat → Int32} {m lim f : Nat} : vl T m lim (2 ^ f) = some lim := by
  have key : ∀ h : Nat → Nat → Nat, psF h (2 ^ f) m = 0 := by
    intro h
    unfold psF
    refine smN_zero m (fun i hi => ?_)
    unfold inb
    by_cases q : f = i
    · subst q
      rw [Nat.testBit_two_pow_self, if_pos rfl]
      refine smN_zero f (fun j hj => ?_)
      unfold inb
      rw [Nat.testBit_two_pow_of_ne (by omega)]
      rfl
    · rw [Nat.testBit_two_pow_of_ne q]
      rfl
  unfold vl
  rw [key, if_pos rfl, key, Nat.add_zero]
theorem singles {T : Nat → Nat → Int32} {m lim : Nat} : ∀ S, S < 256 → ∃ c k, Pt (vl T m lim) k S c ∧ c ≤ lim * S := by
  intro S
  induction S using Nat.strongRecOn with
  | _ S ih =>
    intro hS
    by_cases h0 : S = 0
    · exact ⟨0, 0, ⟨h0, rfl⟩, Nat.zero_le _⟩
    · have h1 := lx1 S hS (by omega)
      obtain ⟨c, k, h2, h3⟩ := ih (lo S) (by omega) (by omega)
      refine ⟨lim + c, k + 1, ⟨2 ^ tz S, lim, c, ?_, h1.2.2.2.2.2.2.2, h1.2.2.2.2.2.1, single_vl, by rw [h1.2.2.2.2.2.2.1]; exact h2, rfl⟩, ?_⟩
      · have := Nat.two_pow_pos (tz S); omega
      · have h4 : lim * (lo S + 1) ≤ lim * S := Nat.mul_le_mul_left lim (by omega)
        rw [Nat.mul_add, Nat.mul_one] at h4
        omega
theorem opt_is {T : Nat → Nat → Int32} {m lim S : Nat} (hS : S < 256) : isOp (vl T m lim) S (opt (vl T m lim) S) := by
  obtain ⟨c, k, h, _⟩ := singles (T := T) (m := m) (lim := lim) S hS
  exact opt_spec (isOp_ex ⟨c, k, h⟩)
theorem opt_B {T : Nat → Nat → Int32} {m lim S : Nat} (hS : S < 256) : opt (vl T m lim) S ≤ lim * S := by
  obtain ⟨c, k, h, hc⟩ := singles (T := T) (m := m) (lim := lim) S hS
  exact Nat.le_trans ((opt_is hS).2 k c h) hc
theorem opt_0 {T : Nat → Nat → Int32} {m lim : Nat} : opt (vl T m lim) 0 = 0 := by
  have := opt_B (T := T) (m := m) (lim := lim) (S := 0) (by decide)
  omega
/-- each way is at least the least -/
theorem opt_le {T : Nat → Nat → Int32} {m lim S B v : Nat} (hS : S < 256) (h0 : B ≠ 0) (hB : B < 256) (hs : sb B S) (hv : vl T m lim B = some v) : opt (vl T m lim) S ≤ v + opt (vl T m lim) (S ^^^ B) := by
  have hb := bx1 S hS B hB hs
  obtain ⟨k, hk⟩ := (opt_is (T := T) (m := m) (lim := lim) hb.1).1
  exact (opt_is hS).2 (k + 1) _ ⟨B, v, _, h0, hB, hs, hv, hk, rfl⟩
/-- one with the segment x in its first VOICE is the least -/
theorem opt_at {T : Nat → Nat → Int32} {m lim S x : Nat} (hS : S < 256) (hx : S.testBit x = true) : ∃ B v, B.testBit x = true ∧ B ≠ 0 ∧ B < 256 ∧ sb B S ∧ vl T m lim B = some v ∧ v + opt (vl T m lim) (S ^^^ B) ≤ opt (vl T m lim) S := by
  obtain ⟨k, hk⟩ := (opt_is (T := T) (m := m) (lim := lim) hS).1
  obtain ⟨j, B, v, d, g1, g2, g3, g4, g5, g6, g7⟩ := Pt_pick k S _ hS hk hx
  refine ⟨B, v, g1, g2, g3, g4, g5, ?_⟩
  have := (opt_is (T := T) (m := m) (lim := lim) (bx1 S hS B g3 g4).1).2 j d g6
  omega
