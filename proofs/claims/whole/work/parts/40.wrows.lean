/-! THE SAME OVER EXPLICIT WORLDS: a list of cells, and the room that is used. For the constructors, and for the law. -/
abbrev ZW : Type := Nat → LV → List Value → va_W → Nat → Nat → Prop
def Fw (l : Launch) (D : va_G) (cI : ClassId) (own : String) (cc : ByteArray) (mL : Nat) (R : Room) (ini : Bool) (Z : ZW) : Prop :=
  ∃ (p : Program) (e : Env) (s : State) (m : MethodId) (args : Array Value) (below : List Frame) (meth : Method) (c : Code) (A : Nat → Prop) (Q : State → Prop), p.tables.exec = Jvm.exec ∧ c.code = cc ∧ c.maxLocals = mL ∧ (ini = true → meth.name = "<init>") ∧ s.vm.findClass own = some m.cls ∧ (∀ w ∈ tG, w.before args s = true) ∧ nW s ∧ va_K D classes [(cI, .int)] s ∧ (∀ q : Nat, s.heap.size ≤ q → A q) ∧ Z = (fun pc lv st ws k n => ∀ (H : Heap) (locs : List Loc) (ls : Array Slot), va_P D classes ws H → va_D A ws → va_S A s.heap H locs → lh ls mL lv → W p l e R s m args below meth c H locs k n Q (F0 m pc ls st))
/-- a constructor's contract: from the cells w0 to some cells that B tells of -/
def Cc (l : Launch) (D : va_G) (cI : ClassId) (y : MethodName) (cc : ByteArray) (mL fr cs ss lo : Nat) (as : List Value) (w0 : va_W) (B : va_W → Prop) : Prop := ∀ sz : Nat, Met l y (.code y cc mL none :: tG) { frames := fr, cells := cs, slots := ss, locals := lo } (va_Pc as (fun U => U.heap.size = sz ∧ va_P D classes w0 U.heap ∧ va_K D classes [(cI, .int)] U ∧ va_D (fun _ => True) w0 ∧ nW U)) (va_Qv B (fun ws t => va_P D classes ws t.heap ∧ va_D (va_A w0 sz) ws) (va_A w0 sz)) cs ss (va_A w0 sz)
theorem lh_of {as : List Value} {mL n : Nat} {lv : LV} (hn : (lg_sl as).length ≤ mL) (hlv : lv = as.map some ++ List.replicate n none) (hc : as.all (fun v => v.category == 1) = true) : lh (lg_sl as ++ List.replicate (mL - (lg_sl as).length) Slot.unset).toArray mL lv := by
  have hc1 : ∀ v ∈ as, v.category = 1 := fun v hv => by simpa using List.all_eq_true.mp hc v hv
  have hl := lv_entry as (n := mL) hn
  refine ⟨?_, ?_⟩
  · rw [hlv, asc_args as 0 n hc1]
    exact hl
  · intro v hv
    rw [hlv] at hv
    rcases List.mem_append.mp hv with h | h
    · obtain ⟨u, hu, e⟩ := List.mem_map.mp h
      cases e
      exact hc1 v hu
    · have := (List.mem_replicate.mp h).2
      cases this
theorem Cc.of {l : Launch} {D : va_G} {cI : ClassId} {y : MethodName} {cc : ByteArray} {mL fr cs ss lo : Nat} {as : List Value} {w0 : va_W} {B : va_W → Prop} {lv : LV} (hy : plainFor y = true) (hin : y.name = "<init>") (hn : (lg_sl as).length ≤ mL) (n : Nat) (hlv : lv = as.map some ++ List.replicate n none) (hc : as.all (fun v => v.category == 1) = true) (body : ∀ Z, Fw l D cI y.cls cc mL { frames := fr, cells := cs, slots := ss, locals := lo } true Z → (∀ pc lv2 ws, decode cc pc = .ok (.return_, 1) → B ws → Z pc lv2 [] ws cs ss) → Z 0 lv [] w0 0 0) : Cc l D cI y cc mL fr cs ss lo as w0 B := by
  intro sz
  refine va_MetF (cc := cc) (maxL := mL) (ret := none) hy rfl ?_
  intro p e s m args below meth c s₁ B' hml hv
  obtain ⟨rfl, hsz, hP, hK, hD, hnw⟩ := hv
  subst hsz
  have hts := atoms_spec (ws := .code y cc mL none :: tG) B'.pre
  have hown : s.vm.findClass y.cls = some m.cls := findClass_of_methodNamed B'.named
  have hnm : meth.name = "<init>" := by
    have h := (name_of_methodNamed B'.named B'.method).1
    rw [hin] at h
    exact h
  rw [lg_entry_eq]
  refine body _ ⟨p, e, s, m, _, below, meth, c, va_A w0 s.heap.size, _, B'.exec, B'.bytes, hml, fun _ => hnm, hown, fun w hw => hts w (List.mem_cons_of_mem _ hw), hnw, hK, fun q h => Or.inr h, rfl⟩ (fun pc lv2 ws hd hB H locs ls hP1 hD1 hS hl => ?_) s.heap [] _ hP hD.self va_S.rf (lh_of hn hlv hc)
  exact W.vret B'.exec B'.bytes B'.returns (fun t ht hW => ⟨⟨ws, rfl, hB, by rw [ht]; exact hP1, hD1⟩, hS.F ht⟩) hS.2.2 hd
theorem D_fst {A : Nat → Prop} {w w2 : va_W} (h : va_D A w) (e : w2.map Prod.fst = w.map Prod.fst) : va_D A w2 := by
  have at' : ∀ (k : Nat) (q : Nat × va_E), w2[k]? = some q → ∃ x, w[k]? = some (q.1, x) := by
    intro k q hk
    have h1 : (w2.map Prod.fst)[k]? = some q.1 := by rw [List.getElem?_map, hk]; rfl
    rw [e, List.getElem?_map] at h1
    cases hq : w[k]? with
    | none => rw [hq] at h1; cases h1
    | some x => rw [hq] at h1; exact ⟨x.2, by rw [← Option.some.inj h1]⟩
  refine ⟨fun i j p q hi hj e => ?_, fun k q hk => ?_⟩
  · obtain ⟨x, hx⟩ := at' i p hi
    obtain ⟨y, hy⟩ := at' j q hj
    exact h.1 i j _ _ hx hy e
  · obtain ⟨x, hx⟩ := at' k q hk
    exact h.2 k (q.1, x) hx
theorem at1 {w1 w2 w3 : va_W} {k : Nat} {q : Nat × va_E} (h : w1[k]? = some q) : k < w1.length ∧ (w1 ++ w2 ++ w3)[k]? = some q := by
  have hl := (List.getElem?_eq_some_iff.mp h).1
  exact ⟨hl, by rw [List.append_assoc, List.getElem?_append_left hl]; exact h⟩
theorem at2 {w1 w2 w3 : va_W} {k : Nat} {q : Nat × va_E} (h : w2[k]? = some q) : k < w2.length ∧ (w1 ++ w2 ++ w3)[w1.length + k]? = some q := by
  have hl := (List.getElem?_eq_some_iff.mp h).1
  refine ⟨hl, ?_⟩
  rw [List.append_assoc, List.getElem?_append_right (by omega), show w1.length + k - w1.length = k by omega, List.getElem?_append_left hl]
  exact h
theorem at3 {w1 w2 w3 : va_W} {k : Nat} {q : Nat × va_E} (h : w3[k]? = some q) : (w1 ++ w2 ++ w3)[w1.length + w2.length + k]? = some q := by
  rw [List.append_assoc, List.getElem?_append_right (by omega), List.getElem?_append_right (by omega), show w1.length + w2.length + k - w1.length - w2.length = k by omega]
  exact h
theorem w_swap {D : va_G} {A : Nat → Prop} {w1 w3 : va_W} {wf : WF} {iv iv2 : IV} {ar ar2 : AR} {H H1 : Heap} (hwf : wfOk wf) (hP : va_P D classes (w1 ++ wf iv ar ++ w3) H) (hD : va_D A (w1 ++ wf iv ar ++ w3)) (hk : ∀ q : Nat, q < H.size → ¬ adr wf q → H1[q]? = H[q]?) (hP1 : va_P D classes (wf iv2 ar2) H1) : va_P D classes (w1 ++ wf iv2 ar2 ++ w3) H1 ∧ va_D A (w1 ++ wf iv2 ar2 ++ w3) := by
  refine ⟨va_P.app (va_P.app (fun k q h => ?_) hP1) (fun k q h => ?_), D_fst hD ?_⟩
  · obtain ⟨hl, h2⟩ := at1 (w2 := wf iv ar) (w3 := w3) h
    have ha := hP _ _ h2
    refine ha.kept (hk _ ha.lt ?_)
    rintro ⟨j, e, hj⟩
    obtain ⟨e', he'⟩ := hwf.at (iv2 := iv) (ar2 := ar) hj
    have := hD.1 _ _ _ _ h2 (at2 (w1 := w1) (w3 := w3) he').2 rfl
    omega
  · have h2 := at3 (w1 := w1) (w2 := wf iv ar) h
    have ha := hP _ _ h2
    refine ha.kept (hk _ ha.lt ?_)
    rintro ⟨j, e, hj⟩
    obtain ⟨e', he'⟩ := hwf.at (iv2 := iv) (ar2 := ar) hj
    have h3 := at2 (w1 := w1) (w3 := w3) he'
    have := hD.1 _ _ _ _ h2 h3.2 rfl
    omega
  · rw [List.map_append, List.map_append, List.map_append, List.map_append, hwf iv2 ar2, hwf iv ar]
theorem P_mid {D : va_G} {w1 w2 w3 : va_W} {H : Heap} (hP : va_P D classes (w1 ++ w2 ++ w3) H) : va_P D classes w2 H := fun k q h => hP _ _ (at2 h).2
theorem D_mid {A : Nat → Prop} {w1 w2 w3 : va_W} (hD : va_D A (w1 ++ w2 ++ w3)) : va_D A w2 := ⟨fun i j p q hi hj e => by have := hD.1 _ _ _ _ (at2 (w1 := w1) (w3 := w3) hi).2 (at2 (w1 := w1) (w3 := w3) hj).2 e; omega, fun k q h => hD.2 _ _ (at2 h).2⟩
theorem w_back {p : Program} {l : Launch} {D : va_G} {e : Env} {R : Room} {s : State} {m : MethodId} {args : Array Value} {below : List Frame} {meth : Method} {c : Code} {H : Heap} {locs : List Loc} {cells slots : Nat} {Q : State → Prop} {ls : Array Slot} {st0 rest : List Value} {a : Array Value} {post2 : PST} {A : Nat → Prop} {w1 w3 : va_W} {wf : WF} {iv : IV} {ar : AR} {pc : Nat} (hr : va_Run p l e R s m args below meth c H locs cells slots 0 0 (F0 m pc ls st0) rest (Qk D wf post2 a) (adr wf)) (hwf : wfOk wf) (hP : va_P D classes (w1 ++ wf iv ar ++ w3) H) (hD : va_D A (w1 ++ wf iv ar ++ w3)) (hS : va_S A s.heap H locs) (kk : ∀ (v : Option Value) (iv2 : IV) (ar2 : AR) (H1 : Heap) (locs1 : List Loc), post2 v iv2 ar2 → va_P D classes (w1 ++ wf iv2 ar2 ++ w3) H1 → va_D A (w1 ++ wf iv2 ar2 ++ w3) → va_S A s.heap H1 locs1 → W p l e R s m args below meth c H1 locs1 cells slots Q (F0 m (pc + 3) ls (v.toList ++ rest))) : W p l e R s m args below meth c H locs cells slots Q (F0 m pc ls st0) := by
  intro T hT X
  obtain ⟨v, st₀, t, T', L, h0, X', hL, e1, e2, ⟨⟨v2, iv2, ar2, hv, hp, hb⟩, hz, hk⟩, st⟩ := hr T hT X
  cases hv
  rw [h0] at hz hk
  have hsub : ∀ q, adr wf q → A q := by
    rintro q ⟨j, e, hj⟩
    obtain ⟨e', he'⟩ := hwf.at (iv2 := iv) (ar2 := ar) hj
    exact hD.2 _ _ (at2 (w1 := w1) (w3 := w3) he').2
  have hk2 : ∀ q : Nat, q < H.size → ¬ adr wf q → T'.heap[q]? = H[q]? := by rw [e1]; exact hk
  obtain ⟨hP2, hD2⟩ := w_swap (iv2 := iv2) (ar2 := ar2) hwf hP hD hk2 (by rw [e1]; exact hb)
  obtain ⟨t2, a1, b1⟩ := kk v iv2 ar2 T'.heap (locs ++ L) hp hP2 hD2
    ⟨Nat.le_trans hS.1 (by rw [e1]; exact hz), fun q h1 h2 => by rw [hk2 q (Nat.lt_of_lt_of_le h1 hS.1) (fun z => h2 (hsub q z))]; exact hS.2.1 q h1 h2, fun q hq => by
      rcases List.mem_append.mp hq with h | h
      · exact hS.2.2 q h
      · exact hsub _ (hL q h)⟩ T' rfl X'
  exact ⟨t2, st t2 a1, b1⟩
/-- what the tables must hold for a constructor's call -/
def okI (own : String) (i : Nat) (y : MethodName) (cc2 : ByteArray) (mL2 : Nat) (n : Nat) : Prop := okN y n ∧ Cond.code y cc2 mL2 none ∈ tG ∧ Cond.initialized y.cls ∈ tG ∧ Cond.methodLink own i y ∈ tG ∧ Cond.instanceMethod y ∈ tG ∧ y.name = "<init>"
section KW
variable {l : Launch} {D : va_G} {cI : ClassId} {own : String} {cc : ByteArray} {mL : Nat} {R : Room} {ini : Bool} {Z : ZW} {pc : Nat} {lv : LV} {st : List Value} {ws : va_W} {k n : Nat}
theorem w_aload0 (F : Fw l D cI own cc mL R ini Z) {r : LV} {x : Nat} (hd : decode cc pc = .ok (.aload_n 0, 1)) (kk : Z (pc + 1) (some (.ref x) :: r) (.ref x :: st) ws k n) : Z pc (some (.ref x) :: r) st ws k n := by
  obtain ⟨p, e, s, m, args, below, meth, c, A, Q, hx, hb, hml, hin, ho, hts, hnw, hK, hA, rfl⟩ := F
  exact fun H locs ls hP hD hS hl => lv_aload_n hx hb hd rfl (hl.at (k := 0) rfl) (kk H locs ls hP hD hS hl)
theorem w_astore0 (F : Fw l D cI own cc mL R ini Z) {r : LV} {x : Nat} {y : Option Value} (hi : 0 < mL) (hd : decode cc pc = .ok (.astore_n 0, 1)) (kk : Z (pc + 1) (some (.ref x) :: r) st ws k n) : Z pc (y :: r) (.ref x :: st) ws k n := by
  obtain ⟨p, e, s, m, args, below, meth, c, A, Q, hx, hb, hml, hin, ho, hts, hnw, hK, hA, rfl⟩ := F
  exact fun H locs ls hP hD hS hl => lv_astore_n hx hb hd rfl hl.1 hi rfl (fun ls2 h2 => kk H locs ls2 hP hD hS (hl.put (i := 0) rfl h2 (by simp)))
theorem w_aload1 (F : Fw l D cI own cc mL R ini Z) {a0 : Option Value} {r : LV} {x : Nat} (hd : decode cc pc = .ok (.aload_n 1, 1)) (kk : Z (pc + 1) (a0 :: some (.ref x) :: r) (.ref x :: st) ws k n) : Z pc (a0 :: some (.ref x) :: r) st ws k n := by
  obtain ⟨p, e, s, m, args, below, meth, c, A, Q, hx, hb, hml, hin, ho, hts, hnw, hK, hA, rfl⟩ := F
  exact fun H locs ls hP hD hS hl => lv_aload_n hx hb hd rfl (hl.at (k := 1) rfl) (kk H locs ls hP hD hS hl)
theorem w_astore1 (F : Fw l D cI own cc mL R ini Z) {a0 : Option Value} {r : LV} {x : Nat} {y : Option Value} (hi : 1 < mL) (hd : decode cc pc = .ok (.astore_n 1, 1)) (kk : Z (pc + 1) (a0 :: some (.ref x) :: r) st ws k n) : Z pc (a0 :: y :: r) (.ref x :: st) ws k n := by
  obtain ⟨p, e, s, m, args, below, meth, c, A, Q, hx, hb, hml, hin, ho, hts, hnw, hK, hA, rfl⟩ := F
  exact fun H locs ls hP hD hS hl => lv_astore_n hx hb hd rfl hl.1 hi rfl (fun ls2 h2 => kk H locs ls2 hP hD hS (hl.put (i := 1) rfl h2 (by simp)))
theorem w_aload2 (F : Fw l D cI own cc mL R ini Z) {a0 a1 : Option Value} {r : LV} {x : Nat} (hd : decode cc pc = .ok (.aload_n 2, 1)) (kk : Z (pc + 1) (a0 :: a1 :: some (.ref x) :: r) (.ref x :: st) ws k n) : Z pc (a0 :: a1 :: some (.ref x) :: r) st ws k n := by
  obtain ⟨p, e, s, m, args, below, meth, c, A, Q, hx, hb, hml, hin, ho, hts, hnw, hK, hA, rfl⟩ := F
  exact fun H locs ls hP hD hS hl => lv_aload_n hx hb hd rfl (hl.at (k := 2) rfl) (kk H locs ls hP hD hS hl)
theorem w_astore2 (F : Fw l D cI own cc mL R ini Z) {a0 a1 : Option Value} {r : LV} {x : Nat} {y : Option Value} (hi : 2 < mL) (hd : decode cc pc = .ok (.astore_n 2, 1)) (kk : Z (pc + 1) (a0 :: a1 :: some (.ref x) :: r) st ws k n) : Z pc (a0 :: a1 :: y :: r) (.ref x :: st) ws k n := by
  obtain ⟨p, e, s, m, args, below, meth, c, A, Q, hx, hb, hml, hin, ho, hts, hnw, hK, hA, rfl⟩ := F
  exact fun H locs ls hP hD hS hl => lv_astore_n hx hb hd rfl hl.1 hi rfl (fun ls2 h2 => kk H locs ls2 hP hD hS (hl.put (i := 2) rfl h2 (by simp)))
theorem w_iload3 (F : Fw l D cI own cc mL R ini Z) {a0 a1 a2 : Option Value} {r : LV} {x : Int32} (hd : decode cc pc = .ok (.iload_n 3, 1)) (kk : Z (pc + 1) (a0 :: a1 :: a2 :: some (.int x) :: r) (.int x :: st) ws k n) : Z pc (a0 :: a1 :: a2 :: some (.int x) :: r) st ws k n := by
  obtain ⟨p, e, s, m, args, below, meth, c, A, Q, hx, hb, hml, hin, ho, hts, hnw, hK, hA, rfl⟩ := F
  exact fun H locs ls hP hD hS hl => lv_iload_n hx hb hd rfl (hl.at (k := 3) rfl) (kk H locs ls hP hD hS hl)
theorem w_istore3 (F : Fw l D cI own cc mL R ini Z) {a0 a1 a2 : Option Value} {r : LV} {x : Int32} {y : Option Value} (hi : 3 < mL) (hd : decode cc pc = .ok (.istore_n 3, 1)) (kk : Z (pc + 1) (a0 :: a1 :: a2 :: some (.int x) :: r) st ws k n) : Z pc (a0 :: a1 :: a2 :: y :: r) (.int x :: st) ws k n := by
  obtain ⟨p, e, s, m, args, below, meth, c, A, Q, hx, hb, hml, hin, ho, hts, hnw, hK, hA, rfl⟩ := F
  exact fun H locs ls hP hD hS hl => lv_istore_n hx hb hd rfl hl.1 hi rfl (fun ls2 h2 => kk H locs ls2 hP hD hS (hl.put (i := 3) rfl h2 (by simp)))
theorem w_iinc3 (F : Fw l D cI own cc mL R ini Z) {a0 a1 a2 : Option Value} {r : LV} {x v : Int32} {d : Int} (hi : 3 < mL) (hd : decode cc pc = .ok (.iinc 3 d, 3)) (hv : x + Int32.ofInt d = v) (kk : Z (pc + 3) (a0 :: a1 :: a2 :: some (.int v) :: r) st ws k n) : Z pc (a0 :: a1 :: a2 :: some (.int x) :: r) st ws k n := by
  obtain ⟨p, e, s, m, args, below, meth, c, A, Q, hx, hb, hml, hin, ho, hts, hnw, hK, hA, rfl⟩ := F
  intro H locs ls hP hD hS hl
  obtain ⟨q, hq⟩ := List.getElem?_of_mem ((asc_mem (a0 :: a1 :: a2 :: some (.int x) :: r) 0 3 (.int x)).mpr ⟨Nat.zero_le _, rfl⟩)
  exact lv_iinc hx hb hd hl.1 hq hv hi rfl (fun ls2 h2 => kk H locs ls2 hP hD hS (hl.put (i := 3) rfl h2 (by simp)))
theorem w_iconst (F : Fw l D cI own cc mL R ini Z) {d : Int} {v : Int32} (hd : decode cc pc = .ok (.iconst d, 1)) (hv : Int32.ofInt d = v) (kk : Z (pc + 1) lv (.int v :: st) ws k n) : Z pc lv st ws k n := by
  obtain ⟨p, e, s, m, args, below, meth, c, A, Q, hx, hb, hml, hin, ho, hts, hnw, hK, hA, rfl⟩ := F
  exact fun H locs ls hP hD hS hl => lv_iconst hx hb hd hv (kk H locs ls hP hD hS hl)
theorem w_bipush (F : Fw l D cI own cc mL R ini Z) {d : Int} {v : Int32} (hd : decode cc pc = .ok (.bipush d, 2)) (hv : (Int8.ofInt d).toInt32 = v) (kk : Z (pc + 2) lv (.int v :: st) ws k n) : Z pc lv st ws k n := by
  obtain ⟨p, e, s, m, args, below, meth, c, A, Q, hx, hb, hml, hin, ho, hts, hnw, hK, hA, rfl⟩ := F
  exact fun H locs ls hP hD hS hl => lv_bipush hx hb hd hv (kk H locs ls hP hD hS hl)
theorem w_sipush (F : Fw l D cI own cc mL R ini Z) {d : Int} {v : Int32} (hd : decode cc pc = .ok (.sipush d, 3)) (hv : (Int16.ofInt d).toInt32 = v) (kk : Z (pc + 3) lv (.int v :: st) ws k n) : Z pc lv st ws k n := by
  obtain ⟨p, e, s, m, args, below, meth, c, A, Q, hx, hb, hml, hin, ho, hts, hnw, hK, hA, rfl⟩ := F
  exact fun H locs ls hP hD hS hl => lv_sipush hx hb hd hv (kk H locs ls hP hD hS hl)
theorem w_dup (F : Fw l D cI own cc mL R ini Z) {v : Value} (hd : decode cc pc = .ok (.dup, 1)) (hv : v.category = 1) (kk : Z (pc + 1) lv (v :: v :: st) ws k n) : Z pc lv (v :: st) ws k n := by
  obtain ⟨p, e, s, m, args, below, meth, c, A, Q, hx, hb, hml, hin, ho, hts, hnw, hK, hA, rfl⟩ := F
  exact fun H locs ls hP hD hS hl => lv_dup hx hb hd hv (kk H locs ls hP hD hS hl)
theorem w_iadd (F : Fw l D cI own cc mL R ini Z) {x y z : Int32} (hd : decode cc pc = .ok (.iadd, 1)) (hz : x + y = z) (kk : Z (pc + 1) lv (.int z :: st) ws k n) : Z pc lv (.int y :: .int x :: st) ws k n := by
  obtain ⟨p, e, s, m, args, below, meth, c, A, Q, hx, hb, hml, hin, ho, hts, hnw, hK, hA, rfl⟩ := F
  exact fun H locs ls hP hD hS hl => lv_iadd hx hb hd (by rw [hz]; exact (kk H locs ls hP hD hS hl))
theorem w_isub (F : Fw l D cI own cc mL R ini Z) {x y z : Int32} (hd : decode cc pc = .ok (.isub, 1)) (hz : x - y = z) (kk : Z (pc + 1) lv (.int z :: st) ws k n) : Z pc lv (.int y :: .int x :: st) ws k n := by
  obtain ⟨p, e, s, m, args, below, meth, c, A, Q, hx, hb, hml, hin, ho, hts, hnw, hK, hA, rfl⟩ := F
  exact fun H locs ls hP hD hS hl => lv_isub hx hb hd (by rw [hz]; exact (kk H locs ls hP hD hS hl))
theorem w_iand (F : Fw l D cI own cc mL R ini Z) {x y : Int32} (hd : decode cc pc = .ok (.iand, 1)) (kk : Z (pc + 1) lv (.int (x &&& y) :: st) ws k n) : Z pc lv (.int y :: .int x :: st) ws k n := by
  obtain ⟨p, e, s, m, args, below, meth, c, A, Q, hx, hb, hml, hin, ho, hts, hnw, hK, hA, rfl⟩ := F
  exact fun H locs ls hP hD hS hl => lv_iand hx hb hd (kk H locs ls hP hD hS hl)
theorem w_goto (F : Fw l D cI own cc mL R ini Z) {off : Int} {tgt : Nat} (hd : decode cc pc = .ok (.goto off, 3)) (ht : (pc : Int) + off = (tgt : Int)) (kk : Z tgt lv st ws k n) : Z pc lv st ws k n := by
  obtain ⟨p, e, s, m, args, below, meth, c, A, Q, hx, hb, hml, hin, ho, hts, hnw, hK, hA, rfl⟩ := F
  exact fun H locs ls hP hD hS hl => lv_goto hx hb hd ht (kk H locs ls hP hD hS hl)
theorem w_eq (F : Fw l D cI own cc mL R ini Z) {x y : Int32} {off : Int} {tgt : Nat} (hd : decode cc pc = .ok (.if_icmp .eq off, 3)) (ht : (pc : Int) + off = (tgt : Int)) (he : x = y) (kk : Z tgt lv st ws k n) : Z pc lv (.int y :: .int x :: st) ws k n := by
  obtain ⟨p, e, s, m, args, below, meth, c, A, Q, hx, hb, hml, hin, ho, hts, hnw, hK, hA, rfl⟩ := F
  exact fun H locs ls hP hD hS hl => lv_icmp_eq hx hb hd ht (fun _ => (kk H locs ls hP hD hS hl)) (fun h => absurd he h)
theorem w_gt (F : Fw l D cI own cc mL R ini Z) {x y : Int32} {off : Int} {tgt : Nat} (hd : decode cc pc = .ok (.if_icmp .gt off, 3)) (ht : (pc : Int) + off = (tgt : Int)) (kt : y < x → Z tgt lv st ws k n) (kf : ¬ y < x → Z (pc + 3) lv st ws k n) : Z pc lv (.int y :: .int x :: st) ws k n := by
  obtain ⟨p, e, s, m, args, below, meth, c, A, Q, hx, hb, hml, hin, ho, hts, hnw, hK, hA, rfl⟩ := F
  exact fun H locs ls hP hD hS hl => lv_icmp_gt hx hb hd ht (fun h => kt h H locs ls hP hD hS hl) (fun h => kf h H locs ls hP hD hS hl)
theorem w_tin (F : Fw l D cI own cc mL R ini Z) {dflt lo2 hi : Int} {offs : Array Int} {len : Nat} {x : Int32} {off : Int} {tgt : Nat} (hd : decode cc pc = .ok (.tableswitch dflt lo2 hi offs, len)) (h1 : ¬ x.toInt < lo2) (h2 : ¬ hi < x.toInt) (hof : offs[(x.toInt - lo2).toNat]? = some off) (ht : (pc : Int) + off = (tgt : Int)) (kk : Z tgt lv st ws k n) : Z pc lv (.int x :: st) ws k n := by
  obtain ⟨p, e, s, m, args, below, meth, c, A, Q, hx, hb, hml, hin, ho, hts, hnw, hK, hA, rfl⟩ := F
  exact fun H locs ls hP hD hS hl => lv_tableIn hx hb hd h1 h2 hof ht (kk H locs ls hP hD hS hl)
theorem w_tout (F : Fw l D cI own cc mL R ini Z) {dflt lo2 hi : Int} {offs : Array Int} {len : Nat} {x : Int32} {tgt : Nat} (hd : decode cc pc = .ok (.tableswitch dflt lo2 hi offs, len)) (h : x.toInt < lo2 ∨ hi < x.toInt) (ht : (pc : Int) + dflt = (tgt : Int)) (kk : Z tgt lv st ws k n) : Z pc lv (.int x :: st) ws k n := by
  obtain ⟨p, e, s, m, args, below, meth, c, A, Q, hx, hb, hml, hin, ho, hts, hnw, hK, hA, rfl⟩ := F
  exact fun H locs ls hP hD hS hl => lv_tableOut hx hb hd h ht (kk H locs ls hP hD hS hl)
theorem w_obj (F : Fw l D cI own cc mL R ini Z) {idx a : Nat} (h1 : Cond.methodLink own idx objectInit ∈ tG) (h2 : Cond.instanceMethod objectInit ∈ tG) (h3 : Cond.code objectInit ⟨#[0xb1]⟩ 1 none ∈ tG) (hf : 1 ≤ R.frames) (hlo : 12 ≤ R.locals) (hd : decode cc pc = .ok (.invokespecial idx, 3)) (kk : Z (pc + 3) lv [] ws k n) : Z pc lv [.ref a] ws k n := by
  obtain ⟨p, e, s, m, args, below, meth, c, A, Q, hx, hb, hml, hin, ho, hts, hnw, hK, hA, rfl⟩ := F
  exact fun H locs ls hP hD hS hl => W.objInit hx hb ho (hts _ h1) (hts _ h2) (hts _ h3) rfl (by rw [hml]; exact hl.1.1) rfl hd hf (by show 2 * 0 + 0 + 12 ≤ R.locals; omega) (W.eq (g2 := F0 m (pc + 3) ls []) rfl (kk H locs ls hP hD hS hl))
theorem w_newa (F : Fw l D cI own cc mL R ini Z) {N : Nat} (hw : Cond.arrayClass .int ∈ tG) (hN : N < 2 ^ 31) (hby : N * componentBytes .int ≤ 536870912) (hc : k + 1 ≤ R.cells) (hs : n + N ≤ R.slots) (hd : decode cc pc = .ok (.newarray .int, 2)) (kk : ∀ q, Z (pc + 2) lv (.ref q :: st) (ws ++ [(q, .inl (cI, N, .inl (fun _ => 0)))]) (k + 1) (n + N)) : Z pc lv (.int (nI N) :: st) ws k n := by
  obtain ⟨p, e, s, m, args, below, meth, c, A, Q, hx, hb, hml, hin, ho, hts, hnw, hK, hA, rfl⟩ := F
  intro H locs ls hP hD hS hl
  refine va_newa (a0 := (N, .inl (fun _ => 0))) (atype := .int) (ty := .int) hx hb (hts _ hw) rfl hK hP hD hS hA (fun cA => rfl) (by rw [i_lt, nI_toInt hN, toInt_0]; omega) (nI_clamp hN) hby hc hs hd (fun q cA H1 hK1 hP1 hD1 hS1 => ?_)
  have e : cA = cI := Option.some.inj ((hK1.2 1 (cA, .int) rfl).2.symm.trans (hK.2 0 (cI, .int) rfl).2)
  subst e
  exact kk q H1 locs ls hP1 hD1 hS1 hl
theorem w_new (F : Fw l D cI own cc mL R ini Z) {C : String} {T : u_T} {N ci index : Nat} {fs : List Value} (ty : Nat → FieldType) (hty : ∀ k, k < N → parseFieldDescriptor (T k).2.2.1 = some (ty k)) (hw : ∀ w ∈ u_ws C T N, w ∈ tG) (h1 : Cond.classLink own index C ∈ tG) (h2 : Cond.instantiable C N ∈ tG) (h3 : Cond.initialized C ∈ tG) (hc : classes[ci]? = some (C, T, N)) (hfs : ∀ j, j < N → defaultValue (ty j) = vp_V fs j) (hk : k + 1 ≤ R.cells) (hn : n + N ≤ R.slots) (hd : decode cc pc = .ok (.new index, 3)) (kk : ∀ q, Z (pc + 3) lv (.ref q :: st) (ws ++ [(q, .inr (ci, fs))]) (k + 1) (n + N)) : Z pc lv st ws k n := by
  obtain ⟨p, e, s, m, args, below, meth, c, A, Q, hx, hb, hml, hin, ho, hts, hnw, hK, hA, rfl⟩ := F
  exact fun H locs ls hP hD hS hl => va_new hx hb hts hw ty hty ho (hts _ h1) (hts _ h2) (hts _ h3) hK hP hD hS hA hc hfs hk hn hd (fun q H1 hP1 hD1 hS1 => kk q H1 locs ls hP1 hD1 hS1 hl)
theorem w_get (F : Fw l D cI own cc mL R ini Z) {ref C : String} {T : u_T} {N ci i q0 a k0 : Nat} {fs : List Value} {v : Value} (hw : ∀ w ∈ u_ws C T N, w ∈ tG) (he : ws[q0]? = some (a, .inr (ci, fs))) (hc : classes[ci]? = some (C, T, N)) (hk : k0 < N) (hlink : Cond.fieldLink own i ref (T k0).2.1 (T k0).2.2.1 ∈ tG) (hsame : (T k0).1 = ref) (hv : fs[k0]? = some v) (hd : decode cc pc = .ok (.getfield i, 3)) (kk : Z (pc + 3) lv (v :: st) ws k n) : Z pc lv (.ref a :: st) ws k n := by
  obtain ⟨p, e, s, m, args, below, meth, c, A, Q, hx, hb, hml, hin, ho, hts, hnw, hK, hA, rfl⟩ := F
  exact fun H locs ls hP hD hS hl => va_get hx hb hts hw ho hK hP q0 he hc k0 hk (hts _ hlink) (fun _ h => by rw [← hsame]; exact h) hv hd (kk H locs ls hP hD hS hl)
theorem w_put (F : Fw l D cI own cc mL R ini Z) {ref C : String} {T : u_T} {N ci i q0 a k0 : Nat} {fs : List Value} {v : Value} {ty : FieldType} {ws2 : va_W} (ty0 : Nat → FieldType) (hty : ∀ k, k < N → parseFieldDescriptor (T k).2.2.1 = some (ty0 k)) (hnm : ∀ a, a < N → ∀ b, b < N → a ≠ b → (T a).2.1 ≠ (T b).2.1) (hw : ∀ w ∈ u_ws C T N, w ∈ tG) (he : ws[q0]? = some (a, .inr (ci, fs))) (hc : classes[ci]? = some (C, T, N)) (hk : k0 < N) (hlink : Cond.fieldLink own i ref (T k0).2.1 (T k0).2.2.1 ∈ tG) (hsame : (T k0).1 = ref) (hfin : (T k0).2.2.2 = false) (hd0 : parseFieldDescriptor (T k0).2.2.1 = some ty) (hn : narrow ty v = v) (hfit : fits ty v = true) (hl0 : k0 < fs.length) (hset : ws.set q0 (a, .inr (ci, fs.set k0 v)) = ws2) (hd : decode cc pc = .ok (.putfield i, 3)) (kk : Z (pc + 3) lv st ws2 k n) : Z pc lv (v :: .ref a :: st) ws k n := by
  obtain ⟨p, e, s, m, args, below, meth, c, A, Q, hx, hb, hml, hin, ho, hts, hnw, hK, hA, rfl⟩ := F
  subst hset
  exact fun H locs ls hP hD hS hl => va_put hx hb hts hw ty0 hty hnm ho hK hP hD hS q0 he hc k0 hk (hts _ hlink) (fun _ h => by rw [← hsame]; exact h) hfin hd0 hn hfit hl0 hd (fun H1 locs1 hP1 hD1 hS1 => kk H1 locs1 ls hP1 hD1 hS1 hl)
theorem w_putF (F : Fw l D cI own cc mL R true Z) {ref C : String} {T : u_T} {N ci i q0 a k0 : Nat} {fs : List Value} {v : Value} {ty : FieldType} {ws2 : va_W} (ty0 : Nat → FieldType) (hty : ∀ k, k < N → parseFieldDescriptor (T k).2.2.1 = some (ty0 k)) (hnm : ∀ a, a < N → ∀ b, b < N → a ≠ b → (T a).2.1 ≠ (T b).2.1) (hw : ∀ w ∈ u_ws C T N, w ∈ tG) (he : ws[q0]? = some (a, .inr (ci, fs))) (hc : classes[ci]? = some (C, T, N)) (hk : k0 < N) (hlink : Cond.fieldLink own i ref (T k0).2.1 (T k0).2.2.1 ∈ tG) (hsame : (T k0).1 = ref) (hfin : (T k0).2.2.2 = true) (hdecl : (T k0).1 = own) (hd0 : parseFieldDescriptor (T k0).2.2.1 = some ty) (hn : narrow ty v = v) (hfit : fits ty v = true) (hl0 : k0 < fs.length) (hset : ws.set q0 (a, .inr (ci, fs.set k0 v)) = ws2) (hd : decode cc pc = .ok (.putfield i, 3)) (kk : Z (pc + 3) lv st ws2 k n) : Z pc lv (v :: .ref a :: st) ws k n := by
  obtain ⟨p, e, s, m, args, below, meth, c, A, Q, hx, hb, hml, hin, ho, hts, hnw, hK, hA, rfl⟩ := F
  subst hset
  exact fun H locs ls hP hD hS hl => va_putF hx hb hts hw ty0 hty hnm ho hK hP hD hS q0 he hc k0 hk (hts _ hlink) (fun _ h => by rw [← hsame]; exact h) hfin (hin rfl) hdecl hd0 hn hfit hl0 hd (fun H1 locs1 hP1 hD1 hS1 => kk H1 locs1 ls hP1 hD1 hS1 hl)
theorem w_init (F : Fw l D cI own cc mL R ini Z) {y : MethodName} {cc2 : ByteArray} {mL2 fr2 cs2 ss2 lo2 b i n0 : Nat} {As rest : List Value} {wr : va_W} {x : Nat × va_E} {B2 : va_W → Prop} (hM : Cc l D cI y cc2 mL2 fr2 cs2 ss2 lo2 (.ref b :: As) [x] B2) (ok : okI own i y cc2 mL2 n0) (isR : List Nat) (j : Nat) (hC : [j].map (fun i => ws[i]?) = [x].map some) (hR : isR.map (fun i => ws[i]?) = wr.map some) (hnd : va_nd isR = true) (hdis : ∀ i ∈ isR, i ∉ [j]) (hn : As.length = n0) (hst : st = As.reverse ++ .ref b :: rest) (hfr : fr2 + 1 ≤ R.frames) (hlo : 8 + (mL2 + 11) + lo2 ≤ R.locals) (hrm : (rest.map fun v => v.category).sum ≤ 8) (hcs : k + cs2 ≤ R.cells ∧ n + ss2 ≤ R.slots) (hd : decode cc pc = .ok (.invokespecial i, 3)) (kk : ∀ w1, B2 w1 → Z (pc + 3) lv rest (wr ++ w1) (k + cs2) (n + ss2)) : Z pc lv st ws k n := by
  obtain ⟨p, e, s, m, args, below, meth, c, A, Q, hx, hb, hml, hin, ho, hts, hnw, hK, hA, rfl⟩ := F
  obtain ⟨⟨h1, h2, h3⟩, k1, k2, k3, k4, k5⟩ := ok
  intro H locs ls hP hD hS hl
  have hj : ws[j]? = some x := by simpa using hC
  have hPc : va_P D classes [x] H := hP.sub [j] (by simp [hj])
  have hDc : va_D A [x] := hD.sub [j] rfl hC
  have hFc := va_free (wc := [x]) hD hS hA [j] hC
  have hcb := callB_of (R := R) (rm := { frames := fr2, cells := cs2, slots := ss2, locals := lo2 }) (mc := cs2) (ms := ss2) n0 hts (tblIn k1) rfl rfl rfl (hts _ k2) (hts _ k3) ⟨h1, h2, h3⟩ ⟨hfr, hlo⟩
  refine va_callv (va_runI (As := As) (rest := rest) (b := b) ⟨hx, hb, hml, ho, hts⟩ (hM H.size) ⟨hcb, k5, hts _ k4⟩ ⟨fun a U g mk q => ?_, fun U hU hW => ⟨rfl, by rw [hU], by rw [hU]; exact hPc, va_K.moved hW.alike hK, hDc.weaken (fun _ _ _ _ => trivial), va_Nw.warmM hW hnw⟩⟩ rfl hn hl.1.1 hst (lv_room hrm) hd hcs) hS (fun q _ h => hFc q h) hFc (fun w1 t H1 locs1 ht hvm hw hB hz1 hk1 hS1 => ?_)
  · obtain ⟨q0, q1, qP, qK, qD, qN⟩ := q
    exact ⟨q0, q1, qP, va_K.moved (u := U) (U := U.calling g mk a) (Vm.Alike.refl U.vm) qK, qD, va_Nw.same rfl (u := U) (U := U.calling g mk a) rfl qN⟩
  · obtain ⟨hP1, hD1⟩ := hB
    rw [ht] at hP1
    obtain ⟨hP2, hD2⟩ := va_join (wr := wr) (w1 := w1) hP hD [j] isR hC hR hnd hdis hk1 hFc hP1 hD1
    exact kk w1 hw H1 locs1 ls hP2 hD2 hS1 hl
theorem w_callV (F : Fw l D cI own cc mL R ini Z) {y : MethodName} {cc2 : ByteArray} {mL2 fr2 lo2 a i n0 q0 ci : Nat} {ret2 : Option FieldType} {As rest : List Value} {w1 w3 : va_W} {wf : WF} {iv : IV} {ar : AR} {post2 : PST} {q : vw_C} {fs : List Value} (hwf : wfOk wf) (hM : Ct l D cI wf y cc2 mL2 ret2 fr2 lo2 (.ref a :: As) iv ar post2) (ok : okV own i y cc2 mL2 ret2 n0) (he : (wf iv ar)[q0]? = some (a, .inr (ci, fs))) (hc : classes[ci]? = some q) (hq : q.1 = y.cls) (hn : As.length = n0) (hst : st = As.reverse ++ .ref a :: rest) (hfr : fr2 + 1 ≤ R.frames) (hlo : 8 + (mL2 + 11) + lo2 ≤ R.locals) (hrm : (rest.map fun v => v.category).sum ≤ 8) (hcs : k ≤ R.cells ∧ n ≤ R.slots) (hd : decode cc pc = .ok (.invokevirtual i, 3)) (kk : ∀ v iv2 ar2, post2 v iv2 ar2 → Z (pc + 3) lv (v.toList ++ rest) (w1 ++ wf iv2 ar2 ++ w3) k n) : Z pc lv st (w1 ++ wf iv ar ++ w3) k n := by
  obtain ⟨p, e, s, m, args, below, meth, c, A, Q, hx, hb, hml, hin, ho, hts, hnw, hK, hA, rfl⟩ := F
  obtain ⟨⟨h1, h2, h3⟩, k1, k2, k3, k4, k5⟩ := ok
  intro H locs ls hP hD hS hl
  have hPm := P_mid hP
  have hDm := hwf.D (D_mid hD) iv ar
  have hcb := callB_of (R := R) (rm := { frames := fr2, cells := 0, slots := 0, locals := lo2 }) (mc := 0) (ms := 0) n0 hts (tblIn k1) rfl rfl rfl (hts _ k2) (hts _ k3) ⟨h1, h2, h3⟩ ⟨hfr, hlo⟩
  have hrv := va_recv hK hPm hc he
  rw [hq] at hrv
  exact w_back (va_runV (C := y.cls) (As := As) (rest := rest) (b := a) ⟨hx, hb, hml, ho, hts⟩ hM ⟨hcb, hts _ k4, hts _ k5⟩ ⟨Bk_blind, hrv, Bk_pre hnw hK hPm hDm (.ref a :: As)⟩ rfl hn hl.1.1 hst (lv_room hrm) hd hcs) hwf hP hD hS (fun v iv2 ar2 H1 locs1 hp hP1 hD1 hS1 => kk v iv2 ar2 hp H1 locs1 ls hP1 hD1 hS1 hl)
theorem w_callS (F : Fw l D cI own cc mL R ini Z) {y : MethodName} {cc2 : ByteArray} {mL2 fr2 lo2 i n0 : Nat} {ret2 : Option FieldType} {As rest : List Value} {w1 w3 : va_W} {wf : WF} {iv : IV} {ar : AR} {post2 : PST} (hwf : wfOk wf) (hM : Ct l D cI wf y cc2 mL2 ret2 fr2 lo2 As iv ar post2) (ok : okS own i y cc2 mL2 ret2 n0) (hn : As.length = n0) (hst : st = As.reverse ++ rest) (hfr : fr2 + 1 ≤ R.frames) (hlo : 8 + (mL2 + 11) + lo2 ≤ R.locals) (hrm : (rest.map fun v => v.category).sum ≤ 8) (hcs : k ≤ R.cells ∧ n ≤ R.slots) (hd : decode cc pc = .ok (.invokestatic i, 3)) (kk : ∀ v iv2 ar2, post2 v iv2 ar2 → Z (pc + 3) lv (v.toList ++ rest) (w1 ++ wf iv2 ar2 ++ w3) k n) : Z pc lv st (w1 ++ wf iv ar ++ w3) k n := by
  obtain ⟨p, e, s, m, args, below, meth, c, A, Q, hx, hb, hml, hin, ho, hts, hnw, hK, hA, rfl⟩ := F
  obtain ⟨⟨h1, h2, h3⟩, k1, k2, k3, k4⟩ := ok
  intro H locs ls hP hD hS hl
  have hPm := P_mid hP
  have hDm := hwf.D (D_mid hD) iv ar
  have hcb := callB_of (R := R) (rm := { frames := fr2, cells := 0, slots := 0, locals := lo2 }) (mc := 0) (ms := 0) n0 hts (tblIn k1) rfl rfl rfl (hts _ k2) (hts _ k3) ⟨h1, h2, h3⟩ ⟨hfr, hlo⟩
  exact w_back (va_runS (As := As) (rest := rest) ⟨hx, hb, hml, ho, hts⟩ hM ⟨hcb, hts _ k4⟩ ⟨Bk_blind, Bk_pre hnw hK hPm hDm As⟩ rfl hn hl.1.1 hst (lv_room hrm) hd hcs) hwf hP hD hS (fun v iv2 ar2 H1 locs1 hp hP1 hD1 hS1 => kk v iv2 ar2 hp H1 locs1 ls hP1 hD1 hS1 hl)
theorem w_perm (F : Fw l D cI own cc mL R ini Z) {ws2 : va_W} (is : List Nat) (hnd : va_nd is = true) (h1 : is.filterMap (fun i => ws[i]?) = ws2) (h2 : is.map (fun i => ws[i]?) = ws2.map some) (kk : Z pc lv st ws2 k n) : Z pc lv st ws k n := by
  obtain ⟨p, e, s, m, args, below, meth, c, A, Q, hx, hb, hml, hin, ho, hts, hnw, hK, hA, rfl⟩ := F
  exact fun H locs ls hP hD hS hl => kk H locs ls (hP.sub is h1) (hD.sub is hnd h2) hS hl
end KW
