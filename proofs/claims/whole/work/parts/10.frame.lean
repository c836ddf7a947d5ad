/-! THE COMPACT JUDGEMENT. A world is a function wf of the int fields (iv) and the int arrays (ar); Z pc lv st iv ar says that the machine, at pc with locals lv and stack st in a heap that holds wf iv ar, comes to the method's end with 'post'. -/
abbrev IV : Type := Nat → Int32
abbrev AR : Type := Nat → Nat → Int32
abbrev WF : Type := IV → AR → va_W
abbrev PST : Type := Option Value → IV → AR → Prop
abbrev LV : Type := List (Option Value)
abbrev ZT : Type := Nat → LV → List Value → IV → AR → Prop
abbrev classes : List vw_C := [(RX0, TX0, 4), (RX1, TX1, 2), (RX2, TX2, 5), (RX3, TX3, 11), (RX4, TX4, 2), (RX5, TX5, 9), (RX6, TX6, 4), (RX7, TX7, 10), (RX8, TX8, 20)]
/-- the tables' words that hold in every state behind the start -/
def tG : List Cond := lw_tbl.filter goodWord
theorem mG {w : Cond} (h : w ∈ lw_tbl) (hg : goodWord w = true) : w ∈ tG := List.mem_filter.mpr ⟨h, hg⟩
def adr (wf : WF) : Nat → Prop := fun q => ∃ (k : Nat) (e : va_E), (wf (fun _ => 0) (fun _ _ => 0))[k]? = some (q, e)
def wfOk (wf : WF) : Prop := ∀ iv ar, (wf iv ar).map Prod.fst = (wf (fun _ => 0) (fun _ _ => 0)).map Prod.fst
theorem wfOk.at {wf : WF} (h : wfOk wf) {iv iv2 : IV} {ar ar2 : AR} {k : Nat} {q : Nat × va_E} (hk : (wf iv ar)[k]? = some q) : ∃ e, (wf iv2 ar2)[k]? = some (q.1, e) := by
  have h1 : ((wf iv ar).map Prod.fst)[k]? = some q.1 := by rw [List.getElem?_map, hk]; rfl
  rw [h iv ar, ← h iv2 ar2, List.getElem?_map] at h1
  cases hq : (wf iv2 ar2)[k]? with
  | none => rw [hq] at h1; cases h1
  | some x => rw [hq] at h1; exact ⟨x.2, by rw [← Option.some.inj h1]⟩
theorem wfOk.adr {wf : WF} (h : wfOk wf) {iv : IV} {ar : AR} {k : Nat} {q : Nat × va_E} (hk : (wf iv ar)[k]? = some q) : adr wf q.1 := by
  obtain ⟨e, he⟩ := h.at (iv2 := fun _ => 0) (ar2 := fun _ _ => 0) hk
  exact ⟨k, e, he⟩
theorem wfOk.D {wf : WF} (h : wfOk wf) {A : Nat → Prop} {iv : IV} {ar : AR} (hD : va_D A (wf iv ar)) (iv2 : IV) (ar2 : AR) : va_D (_root_.Jvm.Pilot.CVoiceHouseLaw_law_r7926_d51bb9.adr wf) (wf iv2 ar2) := by
  refine ⟨fun i j p q hi hj e => ?_, fun k q hk => h.adr hk⟩
  obtain ⟨e1, h1⟩ := h.at (iv2 := iv) (ar2 := ar) hi
  obtain ⟨e2, h2⟩ := h.at (iv2 := iv) (ar2 := ar) hj
  exact hD.1 i j _ _ h1 h2 e
/-- the one word on a nest mate's private method -/
def nW (U : State) : Prop := va_Nw (.methodLinkNest RX3 88 yX7_bandOf RX7) U
def Qk (D : va_G) (wf : WF) (post : PST) : Array Value → State → Outcome → State → Prop := fun _ st oc t => (∃ (v : Option Value) (iv : IV) (ar : AR), oc = .returned v ∧ post v iv ar ∧ va_P D classes (wf iv ar) t.heap) ∧ va_F (adr wf) st t
def Bk (D : va_G) (cI : ClassId) (wf : WF) (iv : IV) (ar : AR) (U : State) : Prop := va_P D classes (wf iv ar) U.heap ∧ va_K D classes [(cI, .int)] U ∧ va_D (fun _ => True) (wf iv ar) ∧ nW U
/-- a method's contract -/
def Ct (l : Launch) (D : va_G) (cI : ClassId) (wf : WF) (y : MethodName) (cc : ByteArray) (mL : Nat) (ret : Option FieldType) (fr lo : Nat) (as : List Value) (iv : IV) (ar : AR) (post : PST) : Prop := Met l y (.code y cc mL ret :: tG) { frames := fr, cells := 0, slots := 0, locals := lo } (va_Pc as (Bk D cI wf iv ar)) (Qk D wf post) 0 0 (adr wf)
/-- the locals: what is known of each -/
def asc : Nat → LV → List (Nat × Value)
  | _, [] => []
  | i, none :: r => asc (i + 1) r
  | i, some v :: r => (i, v) :: asc (i + 1) r
theorem asc_mem : ∀ (lv : LV) (i k : Nat) (v : Value), (k, v) ∈ asc i lv ↔ (i ≤ k ∧ lv[k - i]? = some (some v))
  | [], i, k, v => by simp [asc]
  | none :: r, i, k, v => by
    rw [asc, asc_mem r (i + 1) k v]
    constructor
    · rintro ⟨h1, h2⟩
      refine ⟨by omega, ?_⟩
      rw [show k - i = (k - (i + 1)) + 1 by omega]
      exact h2
    · rintro ⟨h1, h2⟩
      rcases Nat.lt_or_ge i k with q | q
      · refine ⟨q, ?_⟩
        rw [show k - i = (k - (i + 1)) + 1 by omega] at h2
        exact h2
      · rw [show k - i = 0 by omega] at h2
        cases h2
  | some u :: r, i, k, v => by
    rw [asc, List.mem_cons, asc_mem r (i + 1) k v]
    constructor
    · rintro (h | ⟨h1, h2⟩)
      · cases h
        refine ⟨Nat.le_refl _, ?_⟩
        rw [Nat.sub_self]
        rfl
      · refine ⟨by omega, ?_⟩
        rw [show k - i = (k - (i + 1)) + 1 by omega]
        exact h2
    · rintro ⟨h1, h2⟩
      rcases Nat.lt_or_ge i k with q | q
      · refine Or.inr ⟨q, ?_⟩
        rw [show k - i = (k - (i + 1)) + 1 by omega] at h2
        exact h2
      · rw [show k - i = 0 by omega] at h2
        have e : k = i := by omega
        subst e
        cases h2
        exact Or.inl rfl
def lh (ls : Array Slot) (mL : Nat) (lv : LV) : Prop := lv_has ls mL (asc 0 lv) ∧ ∀ v, some v ∈ lv → v.category = 1
theorem lh.at {ls : Array Slot} {mL : Nat} {lv : LV} (h : lh ls mL lv) {k : Nat} {v : Value} (hk : lv[k]? = some (some v)) : ls[k]? = some (.val v) := h.1.2.2 (k, v) ((asc_mem lv 0 k v).mpr ⟨Nat.zero_le k, hk⟩)
theorem lh.put {ls ls2 : Array Slot} {mL i : Nat} {lv : LV} {v : Value} (h : lh ls mL lv) (hc : v.category = 1) (h2 : lv_has ls2 mL ((i, v) :: (asc 0 lv).filter (fun q => !(q.1 == i) && !(q.1 + 1 == i && q.2.category == 2)))) (hi : i < lv.length) : lh ls2 mL (lv.set i (some v)) := by
  refine ⟨⟨h2.1, h2.2.1, fun q hq => ?_⟩, fun u hu => ?_⟩
  · obtain ⟨k, u⟩ := q
    have hk := ((asc_mem _ 0 k u).mp hq).2
    rw [Nat.sub_zero, List.getElem?_set] at hk
    refine h2.2.2 (k, u) ?_
    rcases Decidable.em (i = k) with e | e
    · rw [if_pos e, if_pos hi] at hk
      cases hk
      subst e
      exact List.mem_cons_self
    · rw [if_neg e] at hk
      refine List.mem_cons_of_mem _ (List.mem_filter.mpr ⟨(asc_mem _ 0 k u).mpr ⟨Nat.zero_le k, hk⟩, ?_⟩)
      have hc1 : u.category = 1 := h.2 u (List.mem_of_getElem? hk)
      have e2 : ¬ k = i := fun q => e q.symm
      simp [hc1, e2]
  · rcases List.mem_or_eq_of_mem_set hu with h3 | h3
    · exact h.2 u h3
    · cases h3
      exact hc
theorem lh.weak {ls : Array Slot} {mL : Nat} {lv lv2 : LV} (h : lh ls mL lv) (hs : ∀ (k : Nat) (v : Value), lv2[k]? = some (some v) → lv[k]? = some (some v)) : lh ls mL lv2 := by
  refine ⟨⟨h.1.1, h.1.2.1, fun q hq => ?_⟩, fun u hu => ?_⟩
  · obtain ⟨k, u⟩ := q
    have hk := ((asc_mem _ 0 k u).mp hq).2
    exact h.at (hs _ _ hk)
  · obtain ⟨k, hk⟩ := List.getElem?_of_mem hu
    exact h.2 u (List.mem_of_getElem? (hs k u hk))
/-- the frame of a walk: what stays the same through a method -/
def Fx (l : Launch) (D : va_G) (cI : ClassId) (wf : WF) (own : String) (cc : ByteArray) (mL : Nat) (ret : Option FieldType) (fr lo : Nat) (post : PST) (Z : ZT) : Prop :=
  wfOk wf ∧ ∃ (p : Program) (e : Env) (s : State) (m : MethodId) (args : Array Value) (below : List Frame) (meth : Method) (c : Code), p.tables.exec = Jvm.exec ∧ c.code = cc ∧ c.maxLocals = mL ∧ meth.sig.returnType = ret ∧ meth.locks = false ∧ s.vm.findClass own = some m.cls ∧ (∀ w ∈ tG, w.before args s = true) ∧ nW s ∧ va_K D classes [(cI, .int)] s ∧ (∀ iv ar, va_D (adr wf) (wf iv ar)) ∧ Z = (fun pc lv st iv ar => ∀ (H : Heap) (locs : List Loc) (ls : Array Slot), va_P D classes (wf iv ar) H → va_S (adr wf) s.heap H locs → lh ls mL lv → W p l e { frames := fr, cells := 0, slots := 0, locals := lo } s m args below meth c H locs 0 0 (MQ below (Qk D wf post) args s 0 0 (adr wf)) (F0 m pc ls st))
theorem asc_args : ∀ (as : List Value) (i n : Nat), (∀ v ∈ as, v.category = 1) → asc i (as.map some ++ List.replicate n none) = lv_args i as
  | [], i, n, _ => by
    show asc i (List.replicate n none) = []
    induction n generalizing i with
    | zero => rfl
    | succ n ih => exact ih (i + 1)
  | v :: r, i, n, h => by
    have hv : v.category = 1 := h v List.mem_cons_self
    show (i, v) :: asc (i + 1) (r.map some ++ List.replicate n none) = (i, v) :: lv_args (if v.category = 2 then i + 2 else i + 1) r
    rw [asc_args r (i + 1) n (fun u hu => h u (List.mem_cons_of_mem _ hu)), hv]
    rfl
theorem Ct.of {l : Launch} {D : va_G} {cI : ClassId} {wf : WF} {y : MethodName} {cc : ByteArray} {mL : Nat} {ret : Option FieldType} {fr lo : Nat} {as : List Value} {iv : IV} {ar : AR} {post : PST} {lv : LV} (hwf : wfOk wf) (hy : plainFor y = true) (hn : (lg_sl as).length ≤ mL) (n : Nat) (hlv : lv = as.map some ++ List.replicate n none) (hc : as.all (fun v => v.category == 1) = true) (body : ∀ Z, Fx l D cI wf y.cls cc mL ret fr lo post Z → Z 0 lv [] iv ar) : Ct l D cI wf y cc mL ret fr lo as iv ar post := by
  refine va_MetF (cc := cc) (maxL := mL) (ret := ret) hy rfl ?_
  intro p e s m args below meth c s₁ B hml hv
  obtain ⟨rfl, hP, hK, hD, hnw⟩ := hv
  have hts := atoms_spec (ws := .code y cc mL ret :: tG) B.pre
  have hown : s.vm.findClass y.cls = some m.cls := findClass_of_methodNamed B.named
  have hc1 : ∀ v ∈ as, v.category = 1 := fun v hv => by simpa using List.all_eq_true.mp hc v hv
  have hl := lv_entry as (n := mL) hn
  rw [lg_entry_eq]
  refine body _ ⟨hwf, p, e, s, m, _, below, meth, c, B.exec, B.bytes, hml, B.returns, B.notSynchronized, hown, fun w hw => hts w (List.mem_cons_of_mem _ hw), hnw, hK, fun iv2 ar2 => hwf.D hD iv2 ar2, rfl⟩ s.heap [] _ hP va_S.rf ⟨?_, ?_⟩
  · rw [hlv, asc_args as 0 n hc1]
    exact hl
  · intro v hv
    rw [hlv] at hv
    rcases List.mem_append.mp hv with h | h
    · obtain ⟨u, hu, e⟩ := List.mem_map.mp h
      cases e
      exact hc1 v hu
    · have := (List.mem_replicate.mp h).2
      cases this
section KR
variable {l : Launch} {D : va_G} {cI : ClassId} {wf : WF} {own : String} {cc : ByteArray} {mL : Nat} {ret : Option FieldType} {fr lo : Nat} {post : PST} {Z : ZT} {pc : Nat} {lv : LV} {st : List Value} {iv : IV} {ar : AR}

theorem ofInt_nI (n : Nat) : Int32.ofInt (n : Int) = nI n := rfl
theorem k_iconst (F : Fx l D cI wf own cc mL ret fr lo post Z) {n : Int} {v : Int32} (hd : decode cc pc = .ok (.iconst n, 1)) (hv : Int32.ofInt n = v) (k : Z (pc + 1) lv (.int v :: st) iv ar) : Z pc lv st iv ar := by
  obtain ⟨hwf, p, e, s, m, args, below, meth, c, hx, hb, hml, hr, hlk, ho, hts, hnw, hK, hD, rfl⟩ := F
  exact fun H locs ls hP hS hl => lv_iconst hx hb hd hv (k H locs ls hP hS hl)
theorem k_bipush (F : Fx l D cI wf own cc mL ret fr lo post Z) {n : Int} {v : Int32} (hd : decode cc pc = .ok (.bipush n, 2)) (hv : (Int8.ofInt n).toInt32 = v) (k : Z (pc + 2) lv (.int v :: st) iv ar) : Z pc lv st iv ar := by
  obtain ⟨hwf, p, e, s, m, args, below, meth, c, hx, hb, hml, hr, hlk, ho, hts, hnw, hK, hD, rfl⟩ := F
  exact fun H locs ls hP hS hl => lv_bipush hx hb hd hv (k H locs ls hP hS hl)
theorem k_sipush (F : Fx l D cI wf own cc mL ret fr lo post Z) {n : Int} {v : Int32} (hd : decode cc pc = .ok (.sipush n, 3)) (hv : (Int16.ofInt n).toInt32 = v) (k : Z (pc + 3) lv (.int v :: st) iv ar) : Z pc lv st iv ar := by
  obtain ⟨hwf, p, e, s, m, args, below, meth, c, hx, hb, hml, hr, hlk, ho, hts, hnw, hK, hD, rfl⟩ := F
  exact fun H locs ls hP hS hl => lv_sipush hx hb hd hv (k H locs ls hP hS hl)
theorem k_ldc (F : Fx l D cI wf own cc mL ret fr lo post Z) {i : Nat} {v : Int32} (hd : decode cc pc = .ok (.ldc i, 2)) (hm : Cond.constant own i v ∈ tG) (k : Z (pc + 2) lv (.int v :: st) iv ar) : Z pc lv st iv ar := by
  obtain ⟨hwf, p, e, s, m, args, below, meth, c, hx, hb, hml, hr, hlk, ho, hts, hnw, hK, hD, rfl⟩ := F
  exact fun H locs ls hP hS hl => lv_ldc hx hb ho (hts _ hm) hd (k H locs ls hP hS hl)
theorem k_ldcw (F : Fx l D cI wf own cc mL ret fr lo post Z) {i : Nat} {v : Int32} (hd : decode cc pc = .ok (.ldc_w i, 3)) (hm : Cond.constant own i v ∈ tG) (k : Z (pc + 3) lv (.int v :: st) iv ar) : Z pc lv st iv ar := by
  obtain ⟨hwf, p, e, s, m, args, below, meth, c, hx, hb, hml, hr, hlk, ho, hts, hnw, hK, hD, rfl⟩ := F
  exact fun H locs ls hP hS hl => lv_ldcw hx hb ho (hts _ hm) hd (k H locs ls hP hS hl)
theorem k_iload0 (F : Fx l D cI wf own cc mL ret fr lo post Z) {r : LV} {x : Int32} (hd : decode cc pc = .ok (.iload_n 0, 1)) (k : Z (pc + 1) (some (.int x) :: r) (.int x :: st) iv ar) : Z pc (some (.int x) :: r) st iv ar := by
  obtain ⟨hwf, p, e, s, m, args, below, meth, c, hx, hb, hml, hr, hlk, ho, hts, hnw, hK, hD, rfl⟩ := F
  exact fun H locs ls hP hS hl => lv_iload_n hx hb hd rfl (hl.at (k := 0) rfl) (k H locs ls hP hS hl)
theorem k_istore0 (F : Fx l D cI wf own cc mL ret fr lo post Z) {r : LV} {x : Int32} {y : Option Value} (hi : 0 < mL) (hd : decode cc pc = .ok (.istore_n 0, 1)) (k : Z (pc + 1) (some (.int x) :: r) st iv ar) : Z pc (y :: r) (.int x :: st) iv ar := by
  obtain ⟨hwf, p, e, s, m, args, below, meth, c, hx, hb, hml, hr, hlk, ho, hts, hnw, hK, hD, rfl⟩ := F
  exact fun H locs ls hP hS hl => lv_istore_n hx hb hd rfl hl.1 hi rfl (fun ls2 h2 => k H locs ls2 hP hS (hl.put (i := 0) rfl h2 (by simp)))
theorem k_aload0 (F : Fx l D cI wf own cc mL ret fr lo post Z) {r : LV} {x : Nat} (hd : decode cc pc = .ok (.aload_n 0, 1)) (k : Z (pc + 1) (some (.ref x) :: r) (.ref x :: st) iv ar) : Z pc (some (.ref x) :: r) st iv ar := by
  obtain ⟨hwf, p, e, s, m, args, below, meth, c, hx, hb, hml, hr, hlk, ho, hts, hnw, hK, hD, rfl⟩ := F
  exact fun H locs ls hP hS hl => lv_aload_n hx hb hd rfl (hl.at (k := 0) rfl) (k H locs ls hP hS hl)
theorem k_astore0 (F : Fx l D cI wf own cc mL ret fr lo post Z) {r : LV} {x : Nat} {y : Option Value} (hi : 0 < mL) (hd : decode cc pc = .ok (.astore_n 0, 1)) (k : Z (pc + 1) (some (.ref x) :: r) st iv ar) : Z pc (y :: r) (.ref x :: st) iv ar := by
  obtain ⟨hwf, p, e, s, m, args, below, meth, c, hx, hb, hml, hr, hlk, ho, hts, hnw, hK, hD, rfl⟩ := F
  exact fun H locs ls hP hS hl => lv_astore_n hx hb hd rfl hl.1 hi rfl (fun ls2 h2 => k H locs ls2 hP hS (hl.put (i := 0) rfl h2 (by simp)))
theorem k_iinc0 (F : Fx l D cI wf own cc mL ret fr lo post Z) {r : LV} {x v : Int32} {n : Int} (hi : 0 < mL) (hd : decode cc pc = .ok (.iinc 0 n, 3)) (hv : x + Int32.ofInt n = v) (k : Z (pc + 3) (some (.int v) :: r) st iv ar) : Z pc (some (.int x) :: r) st iv ar := by
  obtain ⟨hwf, p, e, s, m, args, below, meth, c, hx, hb, hml, hr, hlk, ho, hts, hnw, hK, hD, rfl⟩ := F
  intro H locs ls hP hS hl
  obtain ⟨q, hq⟩ := List.getElem?_of_mem ((asc_mem (some (.int x) :: r) 0 0 (.int x)).mpr ⟨Nat.zero_le _, rfl⟩)
  exact lv_iinc hx hb hd hl.1 hq hv hi rfl (fun ls2 h2 => k H locs ls2 hP hS (hl.put (i := 0) rfl h2 (by simp)))
theorem k_fg0 (F : Fx l D cI wf own cc mL ret fr lo post Z) {r : LV} {y : Option Value} (k : Z pc (none :: r) st iv ar) : Z pc (y :: r) st iv ar := by
  obtain ⟨hwf, p, e, s, m, args, below, meth, c, hx, hb, hml, hr, hlk, ho, hts, hnw, hK, hD, rfl⟩ := F
  refine fun H locs ls hP hS hl => k H locs ls hP hS (hl.weak (fun q v h => ?_))
  match q, h with
  | 0, h => cases h
  | q + 1, h => exact h
theorem k_iload1 (F : Fx l D cI wf own cc mL ret fr lo post Z) {a0 : Option Value} {r : LV} {x : Int32} (hd : decode cc pc = .ok (.iload_n 1, 1)) (k : Z (pc + 1) (a0 :: some (.int x) :: r) (.int x :: st) iv ar) : Z pc (a0 :: some (.int x) :: r) st iv ar := by
  obtain ⟨hwf, p, e, s, m, args, below, meth, c, hx, hb, hml, hr, hlk, ho, hts, hnw, hK, hD, rfl⟩ := F
  exact fun H locs ls hP hS hl => lv_iload_n hx hb hd rfl (hl.at (k := 1) rfl) (k H locs ls hP hS hl)
theorem k_istore1 (F : Fx l D cI wf own cc mL ret fr lo post Z) {a0 : Option Value} {r : LV} {x : Int32} {y : Option Value} (hi : 1 < mL) (hd : decode cc pc = .ok (.istore_n 1, 1)) (k : Z (pc + 1) (a0 :: some (.int x) :: r) st iv ar) : Z pc (a0 :: y :: r) (.int x :: st) iv ar := by
  obtain ⟨hwf, p, e, s, m, args, below, meth, c, hx, hb, hml, hr, hlk, ho, hts, hnw, hK, hD, rfl⟩ := F
  exact fun H locs ls hP hS hl => lv_istore_n hx hb hd rfl hl.1 hi rfl (fun ls2 h2 => k H locs ls2 hP hS (hl.put (i := 1) rfl h2 (by simp)))
theorem k_aload1 (F : Fx l D cI wf own cc mL ret fr lo post Z) {a0 : Option Value} {r : LV} {x : Nat} (hd : decode cc pc = .ok (.aload_n 1, 1)) (k : Z (pc + 1) (a0 :: some (.ref x) :: r) (.ref x :: st) iv ar) : Z pc (a0 :: some (.ref x) :: r) st iv ar := by
  obtain ⟨hwf, p, e, s, m, args, below, meth, c, hx, hb, hml, hr, hlk, ho, hts, hnw, hK, hD, rfl⟩ := F
  exact fun H locs ls hP hS hl => lv_aload_n hx hb hd rfl (hl.at (k := 1) rfl) (k H locs ls hP hS hl)
theorem k_astore1 (F : Fx l D cI wf own cc mL ret fr lo post Z) {a0 : Option Value} {r : LV} {x : Nat} {y : Option Value} (hi : 1 < mL) (hd : decode cc pc = .ok (.astore_n 1, 1)) (k : Z (pc + 1) (a0 :: some (.ref x) :: r) st iv ar) : Z pc (a0 :: y :: r) (.ref x :: st) iv ar := by
  obtain ⟨hwf, p, e, s, m, args, below, meth, c, hx, hb, hml, hr, hlk, ho, hts, hnw, hK, hD, rfl⟩ := F
  exact fun H locs ls hP hS hl => lv_astore_n hx hb hd rfl hl.1 hi rfl (fun ls2 h2 => k H locs ls2 hP hS (hl.put (i := 1) rfl h2 (by simp)))
theorem k_iinc1 (F : Fx l D cI wf own cc mL ret fr lo post Z) {a0 : Option Value} {r : LV} {x v : Int32} {n : Int} (hi : 1 < mL) (hd : decode cc pc = .ok (.iinc 1 n, 3)) (hv : x + Int32.ofInt n = v) (k : Z (pc + 3) (a0 :: some (.int v) :: r) st iv ar) : Z pc (a0 :: some (.int x) :: r) st iv ar := by
  obtain ⟨hwf, p, e, s, m, args, below, meth, c, hx, hb, hml, hr, hlk, ho, hts, hnw, hK, hD, rfl⟩ := F
  intro H locs ls hP hS hl
  obtain ⟨q, hq⟩ := List.getElem?_of_mem ((asc_mem (a0 :: some (.int x) :: r) 0 1 (.int x)).mpr ⟨Nat.zero_le _, rfl⟩)
  exact lv_iinc hx hb hd hl.1 hq hv hi rfl (fun ls2 h2 => k H locs ls2 hP hS (hl.put (i := 1) rfl h2 (by simp)))
theorem k_fg1 (F : Fx l D cI wf own cc mL ret fr lo post Z) {a0 : Option Value} {r : LV} {y : Option Value} (k : Z pc (a0 :: none :: r) st iv ar) : Z pc (a0 :: y :: r) st iv ar := by
  obtain ⟨hwf, p, e, s, m, args, below, meth, c, hx, hb, hml, hr, hlk, ho, hts, hnw, hK, hD, rfl⟩ := F
  refine fun H locs ls hP hS hl => k H locs ls hP hS (hl.weak (fun q v h => ?_))
  match q, h with
  | 0, h => exact h
  | 1, h => cases h
  | q + 2, h => exact h
theorem k_iload2 (F : Fx l D cI wf own cc mL ret fr lo post Z) {a0 a1 : Option Value} {r : LV} {x : Int32} (hd : decode cc pc = .ok (.iload_n 2, 1)) (k : Z (pc + 1) (a0 :: a1 :: some (.int x) :: r) (.int x :: st) iv ar) : Z pc (a0 :: a1 :: some (.int x) :: r) st iv ar := by
  obtain ⟨hwf, p, e, s, m, args, below, meth, c, hx, hb, hml, hr, hlk, ho, hts, hnw, hK, hD, rfl⟩ := F
  exact fun H locs ls hP hS hl => lv_iload_n hx hb hd rfl (hl.at (k := 2) rfl) (k H locs ls hP hS hl)
theorem k_istore2 (F : Fx l D cI wf own cc mL ret fr lo post Z) {a0 a1 : Option Value} {r : LV} {x : Int32} {y : Option Value} (hi : 2 < mL) (hd : decode cc pc = .ok (.istore_n 2, 1)) (k : Z (pc + 1) (a0 :: a1 :: some (.int x) :: r) st iv ar) : Z pc (a0 :: a1 :: y :: r) (.int x :: st) iv ar := by
  obtain ⟨hwf, p, e, s, m, args, below, meth, c, hx, hb, hml, hr, hlk, ho, hts, hnw, hK, hD, rfl⟩ := F
  exact fun H locs ls hP hS hl => lv_istore_n hx hb hd rfl hl.1 hi rfl (fun ls2 h2 => k H locs ls2 hP hS (hl.put (i := 2) rfl h2 (by simp)))
theorem k_aload2 (F : Fx l D cI wf own cc mL ret fr lo post Z) {a0 a1 : Option Value} {r : LV} {x : Nat} (hd : decode cc pc = .ok (.aload_n 2, 1)) (k : Z (pc + 1) (a0 :: a1 :: some (.ref x) :: r) (.ref x :: st) iv ar) : Z pc (a0 :: a1 :: some (.ref x) :: r) st iv ar := by
  obtain ⟨hwf, p, e, s, m, args, below, meth, c, hx, hb, hml, hr, hlk, ho, hts, hnw, hK, hD, rfl⟩ := F
  exact fun H locs ls hP hS hl => lv_aload_n hx hb hd rfl (hl.at (k := 2) rfl) (k H locs ls hP hS hl)
theorem k_astore2 (F : Fx l D cI wf own cc mL ret fr lo post Z) {a0 a1 : Option Value} {r : LV} {x : Nat} {y : Option Value} (hi : 2 < mL) (hd : decode cc pc = .ok (.astore_n 2, 1)) (k : Z (pc + 1) (a0 :: a1 :: some (.ref x) :: r) st iv ar) : Z pc (a0 :: a1 :: y :: r) (.ref x :: st) iv ar := by
  obtain ⟨hwf, p, e, s, m, args, below, meth, c, hx, hb, hml, hr, hlk, ho, hts, hnw, hK, hD, rfl⟩ := F
  exact fun H locs ls hP hS hl => lv_astore_n hx hb hd rfl hl.1 hi rfl (fun ls2 h2 => k H locs ls2 hP hS (hl.put (i := 2) rfl h2 (by simp)))
theorem k_iinc2 (F : Fx l D cI wf own cc mL ret fr lo post Z) {a0 a1 : Option Value} {r : LV} {x v : Int32} {n : Int} (hi : 2 < mL) (hd : decode cc pc = .ok (.iinc 2 n, 3)) (hv : x + Int32.ofInt n = v) (k : Z (pc + 3) (a0 :: a1 :: some (.int v) :: r) st iv ar) : Z pc (a0 :: a1 :: some (.int x) :: r) st iv ar := by
  obtain ⟨hwf, p, e, s, m, args, below, meth, c, hx, hb, hml, hr, hlk, ho, hts, hnw, hK, hD, rfl⟩ := F
  intro H locs ls hP hS hl
  obtain ⟨q, hq⟩ := List.getElem?_of_mem ((asc_mem (a0 :: a1 :: some (.int x) :: r) 0 2 (.int x)).mpr ⟨Nat.zero_le _, rfl⟩)
  exact lv_iinc hx hb hd hl.1 hq hv hi rfl (fun ls2 h2 => k H locs ls2 hP hS (hl.put (i := 2) rfl h2 (by simp)))
theorem k_fg2 (F : Fx l D cI wf own cc mL ret fr lo post Z) {a0 a1 : Option Value} {r : LV} {y : Option Value} (k : Z pc (a0 :: a1 :: none :: r) st iv ar) : Z pc (a0 :: a1 :: y :: r) st iv ar := by
  obtain ⟨hwf, p, e, s, m, args, below, meth, c, hx, hb, hml, hr, hlk, ho, hts, hnw, hK, hD, rfl⟩ := F
  refine fun H locs ls hP hS hl => k H locs ls hP hS (hl.weak (fun q v h => ?_))
  match q, h with
  | 0, h => exact h
  | 1, h => exact h
  | 2, h => cases h
  | q + 3, h => exact h
theorem k_iload3 (F : Fx l D cI wf own cc mL ret fr lo post Z) {a0 a1 a2 : Option Value} {r : LV} {x : Int32} (hd : decode cc pc = .ok (.iload_n 3, 1)) (k : Z (pc + 1) (a0 :: a1 :: a2 :: some (.int x) :: r) (.int x :: st) iv ar) : Z pc (a0 :: a1 :: a2 :: some (.int x) :: r) st iv ar := by
  obtain ⟨hwf, p, e, s, m, args, below, meth, c, hx, hb, hml, hr, hlk, ho, hts, hnw, hK, hD, rfl⟩ := F
  exact fun H locs ls hP hS hl => lv_iload_n hx hb hd rfl (hl.at (k := 3) rfl) (k H locs ls hP hS hl)
theorem k_istore3 (F : Fx l D cI wf own cc mL ret fr lo post Z) {a0 a1 a2 : Option Value} {r : LV} {x : Int32} {y : Option Value} (hi : 3 < mL) (hd : decode cc pc = .ok (.istore_n 3, 1)) (k : Z (pc + 1) (a0 :: a1 :: a2 :: some (.int x) :: r) st iv ar) : Z pc (a0 :: a1 :: a2 :: y :: r) (.int x :: st) iv ar := by
  obtain ⟨hwf, p, e, s, m, args, below, meth, c, hx, hb, hml, hr, hlk, ho, hts, hnw, hK, hD, rfl⟩ := F
  exact fun H locs ls hP hS hl => lv_istore_n hx hb hd rfl hl.1 hi rfl (fun ls2 h2 => k H locs ls2 hP hS (hl.put (i := 3) rfl h2 (by simp)))
theorem k_aload3 (F : Fx l D cI wf own cc mL ret fr lo post Z) {a0 a1 a2 : Option Value} {r : LV} {x : Nat} (hd : decode cc pc = .ok (.aload_n 3, 1)) (k : Z (pc + 1) (a0 :: a1 :: a2 :: some (.ref x) :: r) (.ref x :: st) iv ar) : Z pc (a0 :: a1 :: a2 :: some (.ref x) :: r) st iv ar := by
  obtain ⟨hwf, p, e, s, m, args, below, meth, c, hx, hb, hml, hr, hlk, ho, hts, hnw, hK, hD, rfl⟩ := F
  exact fun H locs ls hP hS hl => lv_aload_n hx hb hd rfl (hl.at (k := 3) rfl) (k H locs ls hP hS hl)
theorem k_astore3 (F : Fx l D cI wf own cc mL ret fr lo post Z) {a0 a1 a2 : Option Value} {r : LV} {x : Nat} {y : Option Value} (hi : 3 < mL) (hd : decode cc pc = .ok (.astore_n 3, 1)) (k : Z (pc + 1) (a0 :: a1 :: a2 :: some (.ref x) :: r) st iv ar) : Z pc (a0 :: a1 :: a2 :: y :: r) (.ref x :: st) iv ar := by
  obtain ⟨hwf, p, e, s, m, args, below, meth, c, hx, hb, hml, hr, hlk, ho, hts, hnw, hK, hD, rfl⟩ := F
  exact fun H locs ls hP hS hl => lv_astore_n hx hb hd rfl hl.1 hi rfl (fun ls2 h2 => k H locs ls2 hP hS (hl.put (i := 3) rfl h2 (by simp)))
theorem k_iinc3 (F : Fx l D cI wf own cc mL ret fr lo post Z) {a0 a1 a2 : Option Value} {r : LV} {x v : Int32} {n : Int} (hi : 3 < mL) (hd : decode cc pc = .ok (.iinc 3 n, 3)) (hv : x + Int32.ofInt n = v) (k : Z (pc + 3) (a0 :: a1 :: a2 :: some (.int v) :: r) st iv ar) : Z pc (a0 :: a1 :: a2 :: some (.int x) :: r) st iv ar := by
  obtain ⟨hwf, p, e, s, m, args, below, meth, c, hx, hb, hml, hr, hlk, ho, hts, hnw, hK, hD, rfl⟩ := F
  intro H locs ls hP hS hl
  obtain ⟨q, hq⟩ := List.getElem?_of_mem ((asc_mem (a0 :: a1 :: a2 :: some (.int x) :: r) 0 3 (.int x)).mpr ⟨Nat.zero_le _, rfl⟩)
  exact lv_iinc hx hb hd hl.1 hq hv hi rfl (fun ls2 h2 => k H locs ls2 hP hS (hl.put (i := 3) rfl h2 (by simp)))
theorem k_fg3 (F : Fx l D cI wf own cc mL ret fr lo post Z) {a0 a1 a2 : Option Value} {r : LV} {y : Option Value} (k : Z pc (a0 :: a1 :: a2 :: none :: r) st iv ar) : Z pc (a0 :: a1 :: a2 :: y :: r) st iv ar := by
  obtain ⟨hwf, p, e, s, m, args, below, meth, c, hx, hb, hml, hr, hlk, ho, hts, hnw, hK, hD, rfl⟩ := F
  refine fun H locs ls hP hS hl => k H locs ls hP hS (hl.weak (fun q v h => ?_))
  match q, h with
  | 0, h => exact h
  | 1, h => exact h
  | 2, h => exact h
  | 3, h => cases h
  | q + 4, h => exact h
theorem k_iload4 (F : Fx l D cI wf own cc mL ret fr lo post Z) {a0 a1 a2 a3 : Option Value} {r : LV} {x : Int32} (hd : decode cc pc = .ok (.iload 4, 2)) (k : Z (pc + 2) (a0 :: a1 :: a2 :: a3 :: some (.int x) :: r) (.int x :: st) iv ar) : Z pc (a0 :: a1 :: a2 :: a3 :: some (.int x) :: r) st iv ar := by
  obtain ⟨hwf, p, e, s, m, args, below, meth, c, hx, hb, hml, hr, hlk, ho, hts, hnw, hK, hD, rfl⟩ := F
  exact fun H locs ls hP hS hl => lv_iload hx hb hd (hl.at (k := 4) rfl) (k H locs ls hP hS hl)
theorem k_istore4 (F : Fx l D cI wf own cc mL ret fr lo post Z) {a0 a1 a2 a3 : Option Value} {r : LV} {x : Int32} {y : Option Value} (hi : 4 < mL) (hd : decode cc pc = .ok (.istore 4, 2)) (k : Z (pc + 2) (a0 :: a1 :: a2 :: a3 :: some (.int x) :: r) st iv ar) : Z pc (a0 :: a1 :: a2 :: a3 :: y :: r) (.int x :: st) iv ar := by
  obtain ⟨hwf, p, e, s, m, args, below, meth, c, hx, hb, hml, hr, hlk, ho, hts, hnw, hK, hD, rfl⟩ := F
  exact fun H locs ls hP hS hl => lv_istore hx hb hd hl.1 hi rfl (fun ls2 h2 => k H locs ls2 hP hS (hl.put (i := 4) rfl h2 (by simp)))
theorem k_aload4 (F : Fx l D cI wf own cc mL ret fr lo post Z) {a0 a1 a2 a3 : Option Value} {r : LV} {x : Nat} (hd : decode cc pc = .ok (.aload 4, 2)) (k : Z (pc + 2) (a0 :: a1 :: a2 :: a3 :: some (.ref x) :: r) (.ref x :: st) iv ar) : Z pc (a0 :: a1 :: a2 :: a3 :: some (.ref x) :: r) st iv ar := by
  obtain ⟨hwf, p, e, s, m, args, below, meth, c, hx, hb, hml, hr, hlk, ho, hts, hnw, hK, hD, rfl⟩ := F
  exact fun H locs ls hP hS hl => lv_aload hx hb hd (hl.at (k := 4) rfl) (k H locs ls hP hS hl)
theorem k_iinc4 (F : Fx l D cI wf own cc mL ret fr lo post Z) {a0 a1 a2 a3 : Option Value} {r : LV} {x v : Int32} {n : Int} (hi : 4 < mL) (hd : decode cc pc = .ok (.iinc 4 n, 3)) (hv : x + Int32.ofInt n = v) (k : Z (pc + 3) (a0 :: a1 :: a2 :: a3 :: some (.int v) :: r) st iv ar) : Z pc (a0 :: a1 :: a2 :: a3 :: some (.int x) :: r) st iv ar := by
  obtain ⟨hwf, p, e, s, m, args, below, meth, c, hx, hb, hml, hr, hlk, ho, hts, hnw, hK, hD, rfl⟩ := F
  intro H locs ls hP hS hl
  obtain ⟨q, hq⟩ := List.getElem?_of_mem ((asc_mem (a0 :: a1 :: a2 :: a3 :: some (.int x) :: r) 0 4 (.int x)).mpr ⟨Nat.zero_le _, rfl⟩)
  exact lv_iinc hx hb hd hl.1 hq hv hi rfl (fun ls2 h2 => k H locs ls2 hP hS (hl.put (i := 4) rfl h2 (by simp)))
theorem k_fg4 (F : Fx l D cI wf own cc mL ret fr lo post Z) {a0 a1 a2 a3 : Option Value} {r : LV} {y : Option Value} (k : Z pc (a0 :: a1 :: a2 :: a3 :: none :: r) st iv ar) : Z pc (a0 :: a1 :: a2 :: a3 :: y :: r) st iv ar := by
  obtain ⟨hwf, p, e, s, m, args, below, meth, c, hx, hb, hml, hr, hlk, ho, hts, hnw, hK, hD, rfl⟩ := F
  refine fun H locs ls hP hS hl => k H locs ls hP hS (hl.weak (fun q v h => ?_))
  match q, h with
  | 0, h => exact h
  | 1, h => exact h
  | 2, h => exact h
  | 3, h => exact h
  | 4, h => cases h
  | q + 5, h => exact h
theorem k_iload5 (F : Fx l D cI wf own cc mL ret fr lo post Z) {a0 a1 a2 a3 a4 : Option Value} {r : LV} {x : Int32} (hd : decode cc pc = .ok (.iload 5, 2)) (k : Z (pc + 2) (a0 :: a1 :: a2 :: a3 :: a4 :: some (.int x) :: r) (.int x :: st) iv ar) : Z pc (a0 :: a1 :: a2 :: a3 :: a4 :: some (.int x) :: r) st iv ar := by
  obtain ⟨hwf, p, e, s, m, args, below, meth, c, hx, hb, hml, hr, hlk, ho, hts, hnw, hK, hD, rfl⟩ := F
  exact fun H locs ls hP hS hl => lv_iload hx hb hd (hl.at (k := 5) rfl) (k H locs ls hP hS hl)
theorem k_istore5 (F : Fx l D cI wf own cc mL ret fr lo post Z) {a0 a1 a2 a3 a4 : Option Value} {r : LV} {x : Int32} {y : Option Value} (hi : 5 < mL) (hd : decode cc pc = .ok (.istore 5, 2)) (k : Z (pc + 2) (a0 :: a1 :: a2 :: a3 :: a4 :: some (.int x) :: r) st iv ar) : Z pc (a0 :: a1 :: a2 :: a3 :: a4 :: y :: r) (.int x :: st) iv ar := by
  obtain ⟨hwf, p, e, s, m, args, below, meth, c, hx, hb, hml, hr, hlk, ho, hts, hnw, hK, hD, rfl⟩ := F
  exact fun H locs ls hP hS hl => lv_istore hx hb hd hl.1 hi rfl (fun ls2 h2 => k H locs ls2 hP hS (hl.put (i := 5) rfl h2 (by simp)))
theorem k_aload5 (F : Fx l D cI wf own cc mL ret fr lo post Z) {a0 a1 a2 a3 a4 : Option Value} {r : LV} {x : Nat} (hd : decode cc pc = .ok (.aload 5, 2)) (k : Z (pc + 2) (a0 :: a1 :: a2 :: a3 :: a4 :: some (.ref x) :: r) (.ref x :: st) iv ar) : Z pc (a0 :: a1 :: a2 :: a3 :: a4 :: some (.ref x) :: r) st iv ar := by
  obtain ⟨hwf, p, e, s, m, args, below, meth, c, hx, hb, hml, hr, hlk, ho, hts, hnw, hK, hD, rfl⟩ := F
  exact fun H locs ls hP hS hl => lv_aload hx hb hd (hl.at (k := 5) rfl) (k H locs ls hP hS hl)
theorem k_iinc5 (F : Fx l D cI wf own cc mL ret fr lo post Z) {a0 a1 a2 a3 a4 : Option Value} {r : LV} {x v : Int32} {n : Int} (hi : 5 < mL) (hd : decode cc pc = .ok (.iinc 5 n, 3)) (hv : x + Int32.ofInt n = v) (k : Z (pc + 3) (a0 :: a1 :: a2 :: a3 :: a4 :: some (.int v) :: r) st iv ar) : Z pc (a0 :: a1 :: a2 :: a3 :: a4 :: some (.int x) :: r) st iv ar := by
  obtain ⟨hwf, p, e, s, m, args, below, meth, c, hx, hb, hml, hr, hlk, ho, hts, hnw, hK, hD, rfl⟩ := F
  intro H locs ls hP hS hl
  obtain ⟨q, hq⟩ := List.getElem?_of_mem ((asc_mem (a0 :: a1 :: a2 :: a3 :: a4 :: some (.int x) :: r) 0 5 (.int x)).mpr ⟨Nat.zero_le _, rfl⟩)
  exact lv_iinc hx hb hd hl.1 hq hv hi rfl (fun ls2 h2 => k H locs ls2 hP hS (hl.put (i := 5) rfl h2 (by simp)))
theorem k_fg5 (F : Fx l D cI wf own cc mL ret fr lo post Z) {a0 a1 a2 a3 a4 : Option Value} {r : LV} {y : Option Value} (k : Z pc (a0 :: a1 :: a2 :: a3 :: a4 :: none :: r) st iv ar) : Z pc (a0 :: a1 :: a2 :: a3 :: a4 :: y :: r) st iv ar := by
  obtain ⟨hwf, p, e, s, m, args, below, meth, c, hx, hb, hml, hr, hlk, ho, hts, hnw, hK, hD, rfl⟩ := F
  refine fun H locs ls hP hS hl => k H locs ls hP hS (hl.weak (fun q v h => ?_))
  match q, h with
  | 0, h => exact h
  | 1, h => exact h
  | 2, h => exact h
  | 3, h => exact h
  | 4, h => exact h
  | 5, h => cases h
  | q + 6, h => exact h
theorem k_iload6 (F : Fx l D cI wf own cc mL ret fr lo post Z) {a0 a1 a2 a3 a4 a5 : Option Value} {r : LV} {x : Int32} (hd : decode cc pc = .ok (.iload 6, 2)) (k : Z (pc + 2) (a0 :: a1 :: a2 :: a3 :: a4 :: a5 :: some (.int x) :: r) (.int x :: st) iv ar) : Z pc (a0 :: a1 :: a2 :: a3 :: a4 :: a5 :: some (.int x) :: r) st iv ar := by
  obtain ⟨hwf, p, e, s, m, args, below, meth, c, hx, hb, hml, hr, hlk, ho, hts, hnw, hK, hD, rfl⟩ := F
  exact fun H locs ls hP hS hl => lv_iload hx hb hd (hl.at (k := 6) rfl) (k H locs ls hP hS hl)
theorem k_istore6 (F : Fx l D cI wf own cc mL ret fr lo post Z) {a0 a1 a2 a3 a4 a5 : Option Value} {r : LV} {x : Int32} {y : Option Value} (hi : 6 < mL) (hd : decode cc pc = .ok (.istore 6, 2)) (k : Z (pc + 2) (a0 :: a1 :: a2 :: a3 :: a4 :: a5 :: some (.int x) :: r) st iv ar) : Z pc (a0 :: a1 :: a2 :: a3 :: a4 :: a5 :: y :: r) (.int x :: st) iv ar := by
  obtain ⟨hwf, p, e, s, m, args, below, meth, c, hx, hb, hml, hr, hlk, ho, hts, hnw, hK, hD, rfl⟩ := F
  exact fun H locs ls hP hS hl => lv_istore hx hb hd hl.1 hi rfl (fun ls2 h2 => k H locs ls2 hP hS (hl.put (i := 6) rfl h2 (by simp)))
theorem k_aload6 (F : Fx l D cI wf own cc mL ret fr lo post Z) {a0 a1 a2 a3 a4 a5 : Option Value} {r : LV} {x : Nat} (hd : decode cc pc = .ok (.aload 6, 2)) (k : Z (pc + 2) (a0 :: a1 :: a2 :: a3 :: a4 :: a5 :: some (.ref x) :: r) (.ref x :: st) iv ar) : Z pc (a0 :: a1 :: a2 :: a3 :: a4 :: a5 :: some (.ref x) :: r) st iv ar := by
  obtain ⟨hwf, p, e, s, m, args, below, meth, c, hx, hb, hml, hr, hlk, ho, hts, hnw, hK, hD, rfl⟩ := F
  exact fun H locs ls hP hS hl => lv_aload hx hb hd (hl.at (k := 6) rfl) (k H locs ls hP hS hl)
theorem k_iinc6 (F : Fx l D cI wf own cc mL ret fr lo post Z) {a0 a1 a2 a3 a4 a5 : Option Value} {r : LV} {x v : Int32} {n : Int} (hi : 6 < mL) (hd : decode cc pc = .ok (.iinc 6 n, 3)) (hv : x + Int32.ofInt n = v) (k : Z (pc + 3) (a0 :: a1 :: a2 :: a3 :: a4 :: a5 :: some (.int v) :: r) st iv ar) : Z pc (a0 :: a1 :: a2 :: a3 :: a4 :: a5 :: some (.int x) :: r) st iv ar := by
  obtain ⟨hwf, p, e, s, m, args, below, meth, c, hx, hb, hml, hr, hlk, ho, hts, hnw, hK, hD, rfl⟩ := F
  intro H locs ls hP hS hl
  obtain ⟨q, hq⟩ := List.getElem?_of_mem ((asc_mem (a0 :: a1 :: a2 :: a3 :: a4 :: a5 :: some (.int x) :: r) 0 6 (.int x)).mpr ⟨Nat.zero_le _, rfl⟩)
  exact lv_iinc hx hb hd hl.1 hq hv hi rfl (fun ls2 h2 => k H locs ls2 hP hS (hl.put (i := 6) rfl h2 (by simp)))
theorem k_fg6 (F : Fx l D cI wf own cc mL ret fr lo post Z) {a0 a1 a2 a3 a4 a5 : Option Value} {r : LV} {y : Option Value} (k : Z pc (a0 :: a1 :: a2 :: a3 :: a4 :: a5 :: none :: r) st iv ar) : Z pc (a0 :: a1 :: a2 :: a3 :: a4 :: a5 :: y :: r) st iv ar := by
  obtain ⟨hwf, p, e, s, m, args, below, meth, c, hx, hb, hml, hr, hlk, ho, hts, hnw, hK, hD, rfl⟩ := F
  refine fun H locs ls hP hS hl => k H locs ls hP hS (hl.weak (fun q v h => ?_))
  match q, h with
  | 0, h => exact h
  | 1, h => exact h
  | 2, h => exact h
  | 3, h => exact h
  | 4, h => exact h
  | 5, h => exact h
  | 6, h => cases h
  | q + 7, h => exact h
theorem k_iload7 (F : Fx l D cI wf own cc mL ret fr lo post Z) {a0 a1 a2 a3 a4 a5 a6 : Option Value} {r : LV} {x : Int32} (hd : decode cc pc = .ok (.iload 7, 2)) (k : Z (pc + 2) (a0 :: a1 :: a2 :: a3 :: a4 :: a5 :: a6 :: some (.int x) :: r) (.int x :: st) iv ar) : Z pc (a0 :: a1 :: a2 :: a3 :: a4 :: a5 :: a6 :: some (.int x) :: r) st iv ar := by
  obtain ⟨hwf, p, e, s, m, args, below, meth, c, hx, hb, hml, hr, hlk, ho, hts, hnw, hK, hD, rfl⟩ := F
  exact fun H locs ls hP hS hl => lv_iload hx hb hd (hl.at (k := 7) rfl) (k H locs ls hP hS hl)
theorem k_istore7 (F : Fx l D cI wf own cc mL ret fr lo post Z) {a0 a1 a2 a3 a4 a5 a6 : Option Value} {r : LV} {x : Int32} {y : Option Value} (hi : 7 < mL) (hd : decode cc pc = .ok (.istore 7, 2)) (k : Z (pc + 2) (a0 :: a1 :: a2 :: a3 :: a4 :: a5 :: a6 :: some (.int x) :: r) st iv ar) : Z pc (a0 :: a1 :: a2 :: a3 :: a4 :: a5 :: a6 :: y :: r) (.int x :: st) iv ar := by
  obtain ⟨hwf, p, e, s, m, args, below, meth, c, hx, hb, hml, hr, hlk, ho, hts, hnw, hK, hD, rfl⟩ := F
  exact fun H locs ls hP hS hl => lv_istore hx hb hd hl.1 hi rfl (fun ls2 h2 => k H locs ls2 hP hS (hl.put (i := 7) rfl h2 (by simp)))
theorem k_aload7 (F : Fx l D cI wf own cc mL ret fr lo post Z) {a0 a1 a2 a3 a4 a5 a6 : Option Value} {r : LV} {x : Nat} (hd : decode cc pc = .ok (.aload 7, 2)) (k : Z (pc + 2) (a0 :: a1 :: a2 :: a3 :: a4 :: a5 :: a6 :: some (.ref x) :: r) (.ref x :: st) iv ar) : Z pc (a0 :: a1 :: a2 :: a3 :: a4 :: a5 :: a6 :: some (.ref x) :: r) st iv ar := by
  obtain ⟨hwf, p, e, s, m, args, below, meth, c, hx, hb, hml, hr, hlk, ho, hts, hnw, hK, hD, rfl⟩ := F
  exact fun H locs ls hP hS hl => lv_aload hx hb hd (hl.at (k := 7) rfl) (k H locs ls hP hS hl)
theorem k_iinc7 (F : Fx l D cI wf own cc mL ret fr lo post Z) {a0 a1 a2 a3 a4 a5 a6 : Option Value} {r : LV} {x v : Int32} {n : Int} (hi : 7 < mL) (hd : decode cc pc = .ok (.iinc 7 n, 3)) (hv : x + Int32.ofInt n = v) (k : Z (pc + 3) (a0 :: a1 :: a2 :: a3 :: a4 :: a5 :: a6 :: some (.int v) :: r) st iv ar) : Z pc (a0 :: a1 :: a2 :: a3 :: a4 :: a5 :: a6 :: some (.int x) :: r) st iv ar := by
  obtain ⟨hwf, p, e, s, m, args, below, meth, c, hx, hb, hml, hr, hlk, ho, hts, hnw, hK, hD, rfl⟩ := F
  intro H locs ls hP hS hl
  obtain ⟨q, hq⟩ := List.getElem?_of_mem ((asc_mem (a0 :: a1 :: a2 :: a3 :: a4 :: a5 :: a6 :: some (.int x) :: r) 0 7 (.int x)).mpr ⟨Nat.zero_le _, rfl⟩)
  exact lv_iinc hx hb hd hl.1 hq hv hi rfl (fun ls2 h2 => k H locs ls2 hP hS (hl.put (i := 7) rfl h2 (by simp)))
theorem k_fg7 (F : Fx l D cI wf own cc mL ret fr lo post Z) {a0 a1 a2 a3 a4 a5 a6 : Option Value} {r : LV} {y : Option Value} (k : Z pc (a0 :: a1 :: a2 :: a3 :: a4 :: a5 :: a6 :: none :: r) st iv ar) : Z pc (a0 :: a1 :: a2 :: a3 :: a4 :: a5 :: a6 :: y :: r) st iv ar := by
  obtain ⟨hwf, p, e, s, m, args, below, meth, c, hx, hb, hml, hr, hlk, ho, hts, hnw, hK, hD, rfl⟩ := F
  refine fun H locs ls hP hS hl => k H locs ls hP hS (hl.weak (fun q v h => ?_))
  match q, h with
  | 0, h => exact h
  | 1, h => exact h
  | 2, h => exact h
  | 3, h => exact h
  | 4, h => exact h
  | 5, h => exact h
  | 6, h => exact h
  | 7, h => cases h
  | q + 8, h => exact h
theorem k_iload8 (F : Fx l D cI wf own cc mL ret fr lo post Z) {a0 a1 a2 a3 a4 a5 a6 a7 : Option Value} {r : LV} {x : Int32} (hd : decode cc pc = .ok (.iload 8, 2)) (k : Z (pc + 2) (a0 :: a1 :: a2 :: a3 :: a4 :: a5 :: a6 :: a7 :: some (.int x) :: r) (.int x :: st) iv ar) : Z pc (a0 :: a1 :: a2 :: a3 :: a4 :: a5 :: a6 :: a7 :: some (.int x) :: r) st iv ar := by
  obtain ⟨hwf, p, e, s, m, args, below, meth, c, hx, hb, hml, hr, hlk, ho, hts, hnw, hK, hD, rfl⟩ := F
  exact fun H locs ls hP hS hl => lv_iload hx hb hd (hl.at (k := 8) rfl) (k H locs ls hP hS hl)
theorem k_istore8 (F : Fx l D cI wf own cc mL ret fr lo post Z) {a0 a1 a2 a3 a4 a5 a6 a7 : Option Value} {r : LV} {x : Int32} {y : Option Value} (hi : 8 < mL) (hd : decode cc pc = .ok (.istore 8, 2)) (k : Z (pc + 2) (a0 :: a1 :: a2 :: a3 :: a4 :: a5 :: a6 :: a7 :: some (.int x) :: r) st iv ar) : Z pc (a0 :: a1 :: a2 :: a3 :: a4 :: a5 :: a6 :: a7 :: y :: r) (.int x :: st) iv ar := by
  obtain ⟨hwf, p, e, s, m, args, below, meth, c, hx, hb, hml, hr, hlk, ho, hts, hnw, hK, hD, rfl⟩ := F
  exact fun H locs ls hP hS hl => lv_istore hx hb hd hl.1 hi rfl (fun ls2 h2 => k H locs ls2 hP hS (hl.put (i := 8) rfl h2 (by simp)))
theorem k_aload8 (F : Fx l D cI wf own cc mL ret fr lo post Z) {a0 a1 a2 a3 a4 a5 a6 a7 : Option Value} {r : LV} {x : Nat} (hd : decode cc pc = .ok (.aload 8, 2)) (k : Z (pc + 2) (a0 :: a1 :: a2 :: a3 :: a4 :: a5 :: a6 :: a7 :: some (.ref x) :: r) (.ref x :: st) iv ar) : Z pc (a0 :: a1 :: a2 :: a3 :: a4 :: a5 :: a6 :: a7 :: some (.ref x) :: r) st iv ar := by
  obtain ⟨hwf, p, e, s, m, args, below, meth, c, hx, hb, hml, hr, hlk, ho, hts, hnw, hK, hD, rfl⟩ := F
  exact fun H locs ls hP hS hl => lv_aload hx hb hd (hl.at (k := 8) rfl) (k H locs ls hP hS hl)
theorem k_iinc8 (F : Fx l D cI wf own cc mL ret fr lo post Z) {a0 a1 a2 a3 a4 a5 a6 a7 : Option Value} {r : LV} {x v : Int32} {n : Int} (hi : 8 < mL) (hd : decode cc pc = .ok (.iinc 8 n, 3)) (hv : x + Int32.ofInt n = v) (k : Z (pc + 3) (a0 :: a1 :: a2 :: a3 :: a4 :: a5 :: a6 :: a7 :: some (.int v) :: r) st iv ar) : Z pc (a0 :: a1 :: a2 :: a3 :: a4 :: a5 :: a6 :: a7 :: some (.int x) :: r) st iv ar := by
  obtain ⟨hwf, p, e, s, m, args, below, meth, c, hx, hb, hml, hr, hlk, ho, hts, hnw, hK, hD, rfl⟩ := F
  intro H locs ls hP hS hl
  obtain ⟨q, hq⟩ := List.getElem?_of_mem ((asc_mem (a0 :: a1 :: a2 :: a3 :: a4 :: a5 :: a6 :: a7 :: some (.int x) :: r) 0 8 (.int x)).mpr ⟨Nat.zero_le _, rfl⟩)
  exact lv_iinc hx hb hd hl.1 hq hv hi rfl (fun ls2 h2 => k H locs ls2 hP hS (hl.put (i := 8) rfl h2 (by simp)))
theorem k_fg8 (F : Fx l D cI wf own cc mL ret fr lo post Z) {a0 a1 a2 a3 a4 a5 a6 a7 : Option Value} {r : LV} {y : Option Value} (k : Z pc (a0 :: a1 :: a2 :: a3 :: a4 :: a5 :: a6 :: a7 :: none :: r) st iv ar) : Z pc (a0 :: a1 :: a2 :: a3 :: a4 :: a5 :: a6 :: a7 :: y :: r) st iv ar := by
  obtain ⟨hwf, p, e, s, m, args, below, meth, c, hx, hb, hml, hr, hlk, ho, hts, hnw, hK, hD, rfl⟩ := F
  refine fun H locs ls hP hS hl => k H locs ls hP hS (hl.weak (fun q v h => ?_))
  match q, h with
  | 0, h => exact h
  | 1, h => exact h
  | 2, h => exact h
  | 3, h => exact h
  | 4, h => exact h
  | 5, h => exact h
  | 6, h => exact h
  | 7, h => exact h
  | 8, h => cases h
  | q + 9, h => exact h
theorem k_iload9 (F : Fx l D cI wf own cc mL ret fr lo post Z) {a0 a1 a2 a3 a4 a5 a6 a7 a8 : Option Value} {r : LV} {x : Int32} (hd : decode cc pc = .ok (.iload 9, 2)) (k : Z (pc + 2) (a0 :: a1 :: a2 :: a3 :: a4 :: a5 :: a6 :: a7 :: a8 :: some (.int x) :: r) (.int x :: st) iv ar) : Z pc (a0 :: a1 :: a2 :: a3 :: a4 :: a5 :: a6 :: a7 :: a8 :: some (.int x) :: r) st iv ar := by
  obtain ⟨hwf, p, e, s, m, args, below, meth, c, hx, hb, hml, hr, hlk, ho, hts, hnw, hK, hD, rfl⟩ := F
  exact fun H locs ls hP hS hl => lv_iload hx hb hd (hl.at (k := 9) rfl) (k H locs ls hP hS hl)
theorem k_istore9 (F : Fx l D cI wf own cc mL ret fr lo post Z) {a0 a1 a2 a3 a4 a5 a6 a7 a8 : Option Value} {r : LV} {x : Int32} {y : Option Value} (hi : 9 < mL) (hd : decode cc pc = .ok (.istore 9, 2)) (k : Z (pc + 2) (a0 :: a1 :: a2 :: a3 :: a4 :: a5 :: a6 :: a7 :: a8 :: some (.int x) :: r) st iv ar) : Z pc (a0 :: a1 :: a2 :: a3 :: a4 :: a5 :: a6 :: a7 :: a8 :: y :: r) (.int x :: st) iv ar := by
  obtain ⟨hwf, p, e, s, m, args, below, meth, c, hx, hb, hml, hr, hlk, ho, hts, hnw, hK, hD, rfl⟩ := F
  exact fun H locs ls hP hS hl => lv_istore hx hb hd hl.1 hi rfl (fun ls2 h2 => k H locs ls2 hP hS (hl.put (i := 9) rfl h2 (by simp)))
theorem k_aload9 (F : Fx l D cI wf own cc mL ret fr lo post Z) {a0 a1 a2 a3 a4 a5 a6 a7 a8 : Option Value} {r : LV} {x : Nat} (hd : decode cc pc = .ok (.aload 9, 2)) (k : Z (pc + 2) (a0 :: a1 :: a2 :: a3 :: a4 :: a5 :: a6 :: a7 :: a8 :: some (.ref x) :: r) (.ref x :: st) iv ar) : Z pc (a0 :: a1 :: a2 :: a3 :: a4 :: a5 :: a6 :: a7 :: a8 :: some (.ref x) :: r) st iv ar := by
  obtain ⟨hwf, p, e, s, m, args, below, meth, c, hx, hb, hml, hr, hlk, ho, hts, hnw, hK, hD, rfl⟩ := F
  exact fun H locs ls hP hS hl => lv_aload hx hb hd (hl.at (k := 9) rfl) (k H locs ls hP hS hl)
theorem k_iinc9 (F : Fx l D cI wf own cc mL ret fr lo post Z) {a0 a1 a2 a3 a4 a5 a6 a7 a8 : Option Value} {r : LV} {x v : Int32} {n : Int} (hi : 9 < mL) (hd : decode cc pc = .ok (.iinc 9 n, 3)) (hv : x + Int32.ofInt n = v) (k : Z (pc + 3) (a0 :: a1 :: a2 :: a3 :: a4 :: a5 :: a6 :: a7 :: a8 :: some (.int v) :: r) st iv ar) : Z pc (a0 :: a1 :: a2 :: a3 :: a4 :: a5 :: a6 :: a7 :: a8 :: some (.int x) :: r) st iv ar := by
  obtain ⟨hwf, p, e, s, m, args, below, meth, c, hx, hb, hml, hr, hlk, ho, hts, hnw, hK, hD, rfl⟩ := F
  intro H locs ls hP hS hl
  obtain ⟨q, hq⟩ := List.getElem?_of_mem ((asc_mem (a0 :: a1 :: a2 :: a3 :: a4 :: a5 :: a6 :: a7 :: a8 :: some (.int x) :: r) 0 9 (.int x)).mpr ⟨Nat.zero_le _, rfl⟩)
  exact lv_iinc hx hb hd hl.1 hq hv hi rfl (fun ls2 h2 => k H locs ls2 hP hS (hl.put (i := 9) rfl h2 (by simp)))
theorem k_fg9 (F : Fx l D cI wf own cc mL ret fr lo post Z) {a0 a1 a2 a3 a4 a5 a6 a7 a8 : Option Value} {r : LV} {y : Option Value} (k : Z pc (a0 :: a1 :: a2 :: a3 :: a4 :: a5 :: a6 :: a7 :: a8 :: none :: r) st iv ar) : Z pc (a0 :: a1 :: a2 :: a3 :: a4 :: a5 :: a6 :: a7 :: a8 :: y :: r) st iv ar := by
  obtain ⟨hwf, p, e, s, m, args, below, meth, c, hx, hb, hml, hr, hlk, ho, hts, hnw, hK, hD, rfl⟩ := F
  refine fun H locs ls hP hS hl => k H locs ls hP hS (hl.weak (fun q v h => ?_))
  match q, h with
  | 0, h => exact h
  | 1, h => exact h
  | 2, h => exact h
  | 3, h => exact h
  | 4, h => exact h
  | 5, h => exact h
  | 6, h => exact h
  | 7, h => exact h
  | 8, h => exact h
  | 9, h => cases h
  | q + 10, h => exact h
theorem k_iadd (F : Fx l D cI wf own cc mL ret fr lo post Z) {x y : Int32} (hd : decode cc pc = .ok (.iadd, 1)) (k : Z (pc + 1) lv (.int (x + y) :: st) iv ar) : Z pc lv (.int y :: .int x :: st) iv ar := by
  obtain ⟨hwf, p, e, s, m, args, below, meth, c, hx, hb, hml, hr, hlk, ho, hts, hnw, hK, hD, rfl⟩ := F
  exact fun H locs ls hP hS hl => lv_iadd hx hb hd (k H locs ls hP hS hl)
theorem k_isub (F : Fx l D cI wf own cc mL ret fr lo post Z) {x y : Int32} (hd : decode cc pc = .ok (.isub, 1)) (k : Z (pc + 1) lv (.int (x - y) :: st) iv ar) : Z pc lv (.int y :: .int x :: st) iv ar := by
  obtain ⟨hwf, p, e, s, m, args, below, meth, c, hx, hb, hml, hr, hlk, ho, hts, hnw, hK, hD, rfl⟩ := F
  exact fun H locs ls hP hS hl => lv_isub hx hb hd (k H locs ls hP hS hl)
theorem k_imul (F : Fx l D cI wf own cc mL ret fr lo post Z) {x y : Int32} (hd : decode cc pc = .ok (.imul, 1)) (k : Z (pc + 1) lv (.int (x * y) :: st) iv ar) : Z pc lv (.int y :: .int x :: st) iv ar := by
  obtain ⟨hwf, p, e, s, m, args, below, meth, c, hx, hb, hml, hr, hlk, ho, hts, hnw, hK, hD, rfl⟩ := F
  exact fun H locs ls hP hS hl => lv_imul hx hb hd (k H locs ls hP hS hl)
theorem k_iand (F : Fx l D cI wf own cc mL ret fr lo post Z) {x y : Int32} (hd : decode cc pc = .ok (.iand, 1)) (k : Z (pc + 1) lv (.int (x &&& y) :: st) iv ar) : Z pc lv (.int y :: .int x :: st) iv ar := by
  obtain ⟨hwf, p, e, s, m, args, below, meth, c, hx, hb, hml, hr, hlk, ho, hts, hnw, hK, hD, rfl⟩ := F
  exact fun H locs ls hP hS hl => lv_iand hx hb hd (k H locs ls hP hS hl)
theorem k_ior (F : Fx l D cI wf own cc mL ret fr lo post Z) {x y : Int32} (hd : decode cc pc = .ok (.ior, 1)) (k : Z (pc + 1) lv (.int (x ||| y) :: st) iv ar) : Z pc lv (.int y :: .int x :: st) iv ar := by
  obtain ⟨hwf, p, e, s, m, args, below, meth, c, hx, hb, hml, hr, hlk, ho, hts, hnw, hK, hD, rfl⟩ := F
  exact fun H locs ls hP hS hl => lv_ior hx hb hd (k H locs ls hP hS hl)
theorem k_ixor (F : Fx l D cI wf own cc mL ret fr lo post Z) {x y : Int32} (hd : decode cc pc = .ok (.ixor, 1)) (k : Z (pc + 1) lv (.int (x ^^^ y) :: st) iv ar) : Z pc lv (.int y :: .int x :: st) iv ar := by
  obtain ⟨hwf, p, e, s, m, args, below, meth, c, hx, hb, hml, hr, hlk, ho, hts, hnw, hK, hD, rfl⟩ := F
  exact fun H locs ls hP hS hl => lv_ixor hx hb hd (k H locs ls hP hS hl)
theorem k_ishl (F : Fx l D cI wf own cc mL ret fr lo post Z) {x y : Int32} (hd : decode cc pc = .ok (.ishl, 1)) (k : Z (pc + 1) lv (.int (x <<< (y &&& 31)) :: st) iv ar) : Z pc lv (.int y :: .int x :: st) iv ar := by
  obtain ⟨hwf, p, e, s, m, args, below, meth, c, hx, hb, hml, hr, hlk, ho, hts, hnw, hK, hD, rfl⟩ := F
  exact fun H locs ls hP hS hl => lv_ishl hx hb hd (k H locs ls hP hS hl)
theorem k_ishr (F : Fx l D cI wf own cc mL ret fr lo post Z) {x y : Int32} (hd : decode cc pc = .ok (.ishr, 1)) (k : Z (pc + 1) lv (.int (x >>> (y &&& 31)) :: st) iv ar) : Z pc lv (.int y :: .int x :: st) iv ar := by
  obtain ⟨hwf, p, e, s, m, args, below, meth, c, hx, hb, hml, hr, hlk, ho, hts, hnw, hK, hD, rfl⟩ := F
  exact fun H locs ls hP hS hl => lv_ishr hx hb hd (k H locs ls hP hS hl)
theorem k_iushr (F : Fx l D cI wf own cc mL ret fr lo post Z) {x y : Int32} (hd : decode cc pc = .ok (.iushr, 1)) (k : Z (pc + 1) lv (.int ((x.toUInt32 >>> (y.toUInt32 &&& Int32.toUInt32 31)).toInt32) :: st) iv ar) : Z pc lv (.int y :: .int x :: st) iv ar := by
  obtain ⟨hwf, p, e, s, m, args, below, meth, c, hx, hb, hml, hr, hlk, ho, hts, hnw, hK, hD, rfl⟩ := F
  exact fun H locs ls hP hS hl => lv_iushr hx hb hd rfl (k H locs ls hP hS hl)
theorem k_idiv (F : Fx l D cI wf own cc mL ret fr lo post Z) {x y : Int32} (hd : decode cc pc = .ok (.idiv, 1)) (hne : ¬ y = 0) (k : Z (pc + 1) lv (.int (x / y) :: st) iv ar) : Z pc lv (.int y :: .int x :: st) iv ar := by
  obtain ⟨hwf, p, e, s, m, args, below, meth, c, hx, hb, hml, hr, hlk, ho, hts, hnw, hK, hD, rfl⟩ := F
  exact fun H locs ls hP hS hl => lv_idiv hx hb hd hne (k H locs ls hP hS hl)
theorem k_ineg (F : Fx l D cI wf own cc mL ret fr lo post Z) {x : Int32} (hd : decode cc pc = .ok (.ineg, 1)) (k : Z (pc + 1) lv (.int (-x) :: st) iv ar) : Z pc lv (.int x :: st) iv ar := by
  obtain ⟨hwf, p, e, s, m, args, below, meth, c, hx, hb, hml, hr, hlk, ho, hts, hnw, hK, hD, rfl⟩ := F
  exact fun H locs ls hP hS hl => lv_ineg hx hb hd (k H locs ls hP hS hl)
theorem k_iaddN (F : Fx l D cI wf own cc mL ret fr lo post Z) {a b : Nat} (hd : decode cc pc = .ok (.iadd, 1)) (k : Z (pc + 1) lv (.int (nI (a + b)) :: st) iv ar) : Z pc lv (.int (nI b) :: .int (nI a) :: st) iv ar := k_iadd F hd (by rw [nI_add]; exact k)
theorem k_imulN (F : Fx l D cI wf own cc mL ret fr lo post Z) {a b : Nat} (hd : decode cc pc = .ok (.imul, 1)) (k : Z (pc + 1) lv (.int (nI (a * b)) :: st) iv ar) : Z pc lv (.int (nI b) :: .int (nI a) :: st) iv ar := k_imul F hd (by rw [pk_mul]; exact k)
theorem k_isubN (F : Fx l D cI wf own cc mL ret fr lo post Z) {a b : Nat} (hd : decode cc pc = .ok (.isub, 1)) (h : b ≤ a) (k : Z (pc + 1) lv (.int (nI (a - b)) :: st) iv ar) : Z pc lv (.int (nI b) :: .int (nI a) :: st) iv ar := k_isub F hd (by rw [pk_sub h]; exact k)
theorem k_top {x y : Int32} (h : x = y) (k : Z pc lv (.int y :: st) iv ar) : Z pc lv (.int x :: st) iv ar := by rw [h]; exact k
theorem k_top2 {x y : Int32} {v : Value} (h : x = y) (k : Z pc lv (v :: .int y :: st) iv ar) : Z pc lv (v :: .int x :: st) iv ar := by rw [h]; exact k
theorem k_dup (F : Fx l D cI wf own cc mL ret fr lo post Z) {v : Value} (hd : decode cc pc = .ok (.dup, 1)) (hv : v.category = 1) (k : Z (pc + 1) lv (v :: v :: st) iv ar) : Z pc lv (v :: st) iv ar := by
  obtain ⟨hwf, p, e, s, m, args, below, meth, c, hx, hb, hml, hr, hlk, ho, hts, hnw, hK, hD, rfl⟩ := F
  exact fun H locs ls hP hS hl => lv_dup hx hb hd hv (k H locs ls hP hS hl)
theorem k_dup2 (F : Fx l D cI wf own cc mL ret fr lo post Z) {v u : Value} (hd : decode cc pc = .ok (.dup2, 1)) (hv : v.category = 1) (hu : u.category = 1) (k : Z (pc + 1) lv (v :: u :: v :: u :: st) iv ar) : Z pc lv (v :: u :: st) iv ar := by
  obtain ⟨hwf, p, e, s, m, args, below, meth, c, hx, hb, hml, hr, hlk, ho, hts, hnw, hK, hD, rfl⟩ := F
  exact fun H locs ls hP hS hl => lv_dup2_11 hx hb hd hv hu (k H locs ls hP hS hl)
theorem k_dup_x1 (F : Fx l D cI wf own cc mL ret fr lo post Z) {v u : Value} (hd : decode cc pc = .ok (.dup_x1, 1)) (hv : v.category = 1) (hu : u.category = 1) (k : Z (pc + 1) lv (v :: u :: v :: st) iv ar) : Z pc lv (v :: u :: st) iv ar := by
  obtain ⟨hwf, p, e, s, m, args, below, meth, c, hx, hb, hml, hr, hlk, ho, hts, hnw, hK, hD, rfl⟩ := F
  exact fun H locs ls hP hS hl => lv_dup_x1 hx hb hd hv hu (k H locs ls hP hS hl)
theorem k_pop (F : Fx l D cI wf own cc mL ret fr lo post Z) {v : Value} (hd : decode cc pc = .ok (.pop, 1)) (hv : v.category = 1) (k : Z (pc + 1) lv st iv ar) : Z pc lv (v :: st) iv ar := by
  obtain ⟨hwf, p, e, s, m, args, below, meth, c, hx, hb, hml, hr, hlk, ho, hts, hnw, hK, hD, rfl⟩ := F
  exact fun H locs ls hP hS hl => lv_pop hx hb hd hv (k H locs ls hP hS hl)
theorem k_if_eq (F : Fx l D cI wf own cc mL ret fr lo post Z) {x : Int32} {off : Int} {tgt : Nat} (hd : decode cc pc = .ok (.ifCond .eq off, 3)) (ht : (pc : Int) + off = (tgt : Int)) (kt : x = 0 → Z tgt lv st iv ar) (kf : ¬ x = 0 → Z (pc + 3) lv st iv ar) : Z pc lv (.int x :: st) iv ar := by
  obtain ⟨hwf, p, e, s, m, args, below, meth, c, hx, hb, hml, hr, hlk, ho, hts, hnw, hK, hD, rfl⟩ := F
  exact fun H locs ls hP hS hl => lv_if_eq hx hb hd ht (fun h => kt h H locs ls hP hS hl) (fun h => kf h H locs ls hP hS hl)
theorem k_icmp_eq (F : Fx l D cI wf own cc mL ret fr lo post Z) {x y : Int32} {off : Int} {tgt : Nat} (hd : decode cc pc = .ok (.if_icmp .eq off, 3)) (ht : (pc : Int) + off = (tgt : Int)) (kt : x = y → Z tgt lv st iv ar) (kf : ¬ x = y → Z (pc + 3) lv st iv ar) : Z pc lv (.int y :: .int x :: st) iv ar := by
  obtain ⟨hwf, p, e, s, m, args, below, meth, c, hx, hb, hml, hr, hlk, ho, hts, hnw, hK, hD, rfl⟩ := F
  exact fun H locs ls hP hS hl => lv_icmp_eq hx hb hd ht (fun h => kt h H locs ls hP hS hl) (fun h => kf h H locs ls hP hS hl)
theorem k_if_ne (F : Fx l D cI wf own cc mL ret fr lo post Z) {x : Int32} {off : Int} {tgt : Nat} (hd : decode cc pc = .ok (.ifCond .ne off, 3)) (ht : (pc : Int) + off = (tgt : Int)) (kt : ¬ x = 0 → Z tgt lv st iv ar) (kf : x = 0 → Z (pc + 3) lv st iv ar) : Z pc lv (.int x :: st) iv ar := by
  obtain ⟨hwf, p, e, s, m, args, below, meth, c, hx, hb, hml, hr, hlk, ho, hts, hnw, hK, hD, rfl⟩ := F
  exact fun H locs ls hP hS hl => lv_if_ne hx hb hd ht (fun h => kt h H locs ls hP hS hl) (fun h => kf h H locs ls hP hS hl)
theorem k_icmp_ne (F : Fx l D cI wf own cc mL ret fr lo post Z) {x y : Int32} {off : Int} {tgt : Nat} (hd : decode cc pc = .ok (.if_icmp .ne off, 3)) (ht : (pc : Int) + off = (tgt : Int)) (kt : ¬ x = y → Z tgt lv st iv ar) (kf : x = y → Z (pc + 3) lv st iv ar) : Z pc lv (.int y :: .int x :: st) iv ar := by
  obtain ⟨hwf, p, e, s, m, args, below, meth, c, hx, hb, hml, hr, hlk, ho, hts, hnw, hK, hD, rfl⟩ := F
  exact fun H locs ls hP hS hl => lv_icmp_ne hx hb hd ht (fun h => kt h H locs ls hP hS hl) (fun h => kf h H locs ls hP hS hl)
theorem k_if_lt (F : Fx l D cI wf own cc mL ret fr lo post Z) {x : Int32} {off : Int} {tgt : Nat} (hd : decode cc pc = .ok (.ifCond .lt off, 3)) (ht : (pc : Int) + off = (tgt : Int)) (kt : x < 0 → Z tgt lv st iv ar) (kf : ¬ x < 0 → Z (pc + 3) lv st iv ar) : Z pc lv (.int x :: st) iv ar := by
  obtain ⟨hwf, p, e, s, m, args, below, meth, c, hx, hb, hml, hr, hlk, ho, hts, hnw, hK, hD, rfl⟩ := F
  exact fun H locs ls hP hS hl => lv_if_lt hx hb hd ht (fun h => kt h H locs ls hP hS hl) (fun h => kf h H locs ls hP hS hl)
theorem k_icmp_lt (F : Fx l D cI wf own cc mL ret fr lo post Z) {x y : Int32} {off : Int} {tgt : Nat} (hd : decode cc pc = .ok (.if_icmp .lt off, 3)) (ht : (pc : Int) + off = (tgt : Int)) (kt : x < y → Z tgt lv st iv ar) (kf : ¬ x < y → Z (pc + 3) lv st iv ar) : Z pc lv (.int y :: .int x :: st) iv ar := by
  obtain ⟨hwf, p, e, s, m, args, below, meth, c, hx, hb, hml, hr, hlk, ho, hts, hnw, hK, hD, rfl⟩ := F
  exact fun H locs ls hP hS hl => lv_icmp_lt hx hb hd ht (fun h => kt h H locs ls hP hS hl) (fun h => kf h H locs ls hP hS hl)
theorem k_if_ge (F : Fx l D cI wf own cc mL ret fr lo post Z) {x : Int32} {off : Int} {tgt : Nat} (hd : decode cc pc = .ok (.ifCond .ge off, 3)) (ht : (pc : Int) + off = (tgt : Int)) (kt : 0 ≤ x → Z tgt lv st iv ar) (kf : ¬ 0 ≤ x → Z (pc + 3) lv st iv ar) : Z pc lv (.int x :: st) iv ar := by
  obtain ⟨hwf, p, e, s, m, args, below, meth, c, hx, hb, hml, hr, hlk, ho, hts, hnw, hK, hD, rfl⟩ := F
  exact fun H locs ls hP hS hl => lv_if_ge hx hb hd ht (fun h => kt h H locs ls hP hS hl) (fun h => kf h H locs ls hP hS hl)
theorem k_icmp_ge (F : Fx l D cI wf own cc mL ret fr lo post Z) {x y : Int32} {off : Int} {tgt : Nat} (hd : decode cc pc = .ok (.if_icmp .ge off, 3)) (ht : (pc : Int) + off = (tgt : Int)) (kt : y ≤ x → Z tgt lv st iv ar) (kf : ¬ y ≤ x → Z (pc + 3) lv st iv ar) : Z pc lv (.int y :: .int x :: st) iv ar := by
  obtain ⟨hwf, p, e, s, m, args, below, meth, c, hx, hb, hml, hr, hlk, ho, hts, hnw, hK, hD, rfl⟩ := F
  exact fun H locs ls hP hS hl => lv_icmp_ge hx hb hd ht (fun h => kt h H locs ls hP hS hl) (fun h => kf h H locs ls hP hS hl)
theorem k_if_gt (F : Fx l D cI wf own cc mL ret fr lo post Z) {x : Int32} {off : Int} {tgt : Nat} (hd : decode cc pc = .ok (.ifCond .gt off, 3)) (ht : (pc : Int) + off = (tgt : Int)) (kt : 0 < x → Z tgt lv st iv ar) (kf : ¬ 0 < x → Z (pc + 3) lv st iv ar) : Z pc lv (.int x :: st) iv ar := by
  obtain ⟨hwf, p, e, s, m, args, below, meth, c, hx, hb, hml, hr, hlk, ho, hts, hnw, hK, hD, rfl⟩ := F
  exact fun H locs ls hP hS hl => lv_if_gt hx hb hd ht (fun h => kt h H locs ls hP hS hl) (fun h => kf h H locs ls hP hS hl)
theorem k_icmp_gt (F : Fx l D cI wf own cc mL ret fr lo post Z) {x y : Int32} {off : Int} {tgt : Nat} (hd : decode cc pc = .ok (.if_icmp .gt off, 3)) (ht : (pc : Int) + off = (tgt : Int)) (kt : y < x → Z tgt lv st iv ar) (kf : ¬ y < x → Z (pc + 3) lv st iv ar) : Z pc lv (.int y :: .int x :: st) iv ar := by
  obtain ⟨hwf, p, e, s, m, args, below, meth, c, hx, hb, hml, hr, hlk, ho, hts, hnw, hK, hD, rfl⟩ := F
  exact fun H locs ls hP hS hl => lv_icmp_gt hx hb hd ht (fun h => kt h H locs ls hP hS hl) (fun h => kf h H locs ls hP hS hl)
theorem k_if_le (F : Fx l D cI wf own cc mL ret fr lo post Z) {x : Int32} {off : Int} {tgt : Nat} (hd : decode cc pc = .ok (.ifCond .le off, 3)) (ht : (pc : Int) + off = (tgt : Int)) (kt : x ≤ 0 → Z tgt lv st iv ar) (kf : ¬ x ≤ 0 → Z (pc + 3) lv st iv ar) : Z pc lv (.int x :: st) iv ar := by
  obtain ⟨hwf, p, e, s, m, args, below, meth, c, hx, hb, hml, hr, hlk, ho, hts, hnw, hK, hD, rfl⟩ := F
  exact fun H locs ls hP hS hl => lv_if_le hx hb hd ht (fun h => kt h H locs ls hP hS hl) (fun h => kf h H locs ls hP hS hl)
theorem k_icmp_le (F : Fx l D cI wf own cc mL ret fr lo post Z) {x y : Int32} {off : Int} {tgt : Nat} (hd : decode cc pc = .ok (.if_icmp .le off, 3)) (ht : (pc : Int) + off = (tgt : Int)) (kt : x ≤ y → Z tgt lv st iv ar) (kf : ¬ x ≤ y → Z (pc + 3) lv st iv ar) : Z pc lv (.int y :: .int x :: st) iv ar := by
  obtain ⟨hwf, p, e, s, m, args, below, meth, c, hx, hb, hml, hr, hlk, ho, hts, hnw, hK, hD, rfl⟩ := F
  exact fun H locs ls hP hS hl => lv_icmp_le hx hb hd ht (fun h => kt h H locs ls hP hS hl) (fun h => kf h H locs ls hP hS hl)
theorem k_icmp_eqN (F : Fx l D cI wf own cc mL ret fr lo post Z) {a b : Nat} {off : Int} {tgt : Nat} (hd : decode cc pc = .ok (.if_icmp .eq off, 3)) (ht : (pc : Int) + off = (tgt : Int)) (ha : a < 2 ^ 31) (hb : b < 2 ^ 31) (kt : a = b → Z tgt lv st iv ar) (kf : ¬ a = b → Z (pc + 3) lv st iv ar) : Z pc lv (.int (nI b) :: .int (nI a) :: st) iv ar := k_icmp_eq F hd ht (fun h => kt ((nI_eq ha hb).mp h)) (fun h => kf (fun q => h ((nI_eq ha hb).mpr q)))
theorem k_icmp_neN (F : Fx l D cI wf own cc mL ret fr lo post Z) {a b : Nat} {off : Int} {tgt : Nat} (hd : decode cc pc = .ok (.if_icmp .ne off, 3)) (ht : (pc : Int) + off = (tgt : Int)) (ha : a < 2 ^ 31) (hb : b < 2 ^ 31) (kt : ¬ a = b → Z tgt lv st iv ar) (kf : a = b → Z (pc + 3) lv st iv ar) : Z pc lv (.int (nI b) :: .int (nI a) :: st) iv ar := k_icmp_ne F hd ht (fun h => kt (fun q => h ((nI_eq ha hb).mpr q))) (fun h => kf ((nI_eq ha hb).mp h))
theorem k_icmp_ltN (F : Fx l D cI wf own cc mL ret fr lo post Z) {a b : Nat} {off : Int} {tgt : Nat} (hd : decode cc pc = .ok (.if_icmp .lt off, 3)) (ht : (pc : Int) + off = (tgt : Int)) (ha : a < 2 ^ 31) (hb : b < 2 ^ 31) (kt : a < b → Z tgt lv st iv ar) (kf : ¬ a < b → Z (pc + 3) lv st iv ar) : Z pc lv (.int (nI b) :: .int (nI a) :: st) iv ar := k_icmp_lt F hd ht (fun h => kt ((nI_ltI ha hb).mp h)) (fun h => kf (fun q => h ((nI_ltI ha hb).mpr q)))
theorem k_icmp_geN (F : Fx l D cI wf own cc mL ret fr lo post Z) {a b : Nat} {off : Int} {tgt : Nat} (hd : decode cc pc = .ok (.if_icmp .ge off, 3)) (ht : (pc : Int) + off = (tgt : Int)) (ha : a < 2 ^ 31) (hb : b < 2 ^ 31) (kt : b ≤ a → Z tgt lv st iv ar) (kf : ¬ b ≤ a → Z (pc + 3) lv st iv ar) : Z pc lv (.int (nI b) :: .int (nI a) :: st) iv ar := k_icmp_ge F hd ht (fun h => kt ((nI_leI hb ha).mp h)) (fun h => kf (fun q => h ((nI_leI hb ha).mpr q)))
theorem k_icmp_gtN (F : Fx l D cI wf own cc mL ret fr lo post Z) {a b : Nat} {off : Int} {tgt : Nat} (hd : decode cc pc = .ok (.if_icmp .gt off, 3)) (ht : (pc : Int) + off = (tgt : Int)) (ha : a < 2 ^ 31) (hb : b < 2 ^ 31) (kt : b < a → Z tgt lv st iv ar) (kf : ¬ b < a → Z (pc + 3) lv st iv ar) : Z pc lv (.int (nI b) :: .int (nI a) :: st) iv ar := k_icmp_gt F hd ht (fun h => kt ((nI_ltI hb ha).mp h)) (fun h => kf (fun q => h ((nI_ltI hb ha).mpr q)))
theorem k_icmp_leN (F : Fx l D cI wf own cc mL ret fr lo post Z) {a b : Nat} {off : Int} {tgt : Nat} (hd : decode cc pc = .ok (.if_icmp .le off, 3)) (ht : (pc : Int) + off = (tgt : Int)) (ha : a < 2 ^ 31) (hb : b < 2 ^ 31) (kt : a ≤ b → Z tgt lv st iv ar) (kf : ¬ a ≤ b → Z (pc + 3) lv st iv ar) : Z pc lv (.int (nI b) :: .int (nI a) :: st) iv ar := k_icmp_le F hd ht (fun h => kt ((nI_leI ha hb).mp h)) (fun h => kf (fun q => h ((nI_leI ha hb).mpr q)))
/-- a condition as an answer -/
def bI (c : Prop) [Decidable c] : Int32 := if c then 1 else 0
theorem bI_0 {c : Prop} [Decidable c] : bI c = 0 ↔ ¬ c := by unfold bI; by_cases h : c <;> simp [h]
theorem bI_t {c : Prop} [Decidable c] (h : c) : bI c = 1 := if_pos h
theorem bI_f {c : Prop} [Decidable c] (h : ¬ c) : bI c = 0 := if_neg h
theorem k_if_eqB (F : Fx l D cI wf own cc mL ret fr lo post Z) {c : Prop} [Decidable c] {off : Int} {tgt : Nat} (hd : decode cc pc = .ok (.ifCond .eq off, 3)) (ht : (pc : Int) + off = (tgt : Int)) (kt : ¬ c → Z tgt lv st iv ar) (kf : c → Z (pc + 3) lv st iv ar) : Z pc lv (.int (bI c) :: st) iv ar := k_if_eq F hd ht (fun h => kt (bI_0.mp h)) (fun h => kf (Decidable.byContradiction (fun q => h (bI_0.mpr q))))
theorem k_if_neB (F : Fx l D cI wf own cc mL ret fr lo post Z) {c : Prop} [Decidable c] {off : Int} {tgt : Nat} (hd : decode cc pc = .ok (.ifCond .ne off, 3)) (ht : (pc : Int) + off = (tgt : Int)) (kt : c → Z tgt lv st iv ar) (kf : ¬ c → Z (pc + 3) lv st iv ar) : Z pc lv (.int (bI c) :: st) iv ar := k_if_ne F hd ht (fun h => kt (Decidable.byContradiction (fun q => h (bI_0.mpr q)))) (fun h => kf (bI_0.mp h))
theorem k_goto (F : Fx l D cI wf own cc mL ret fr lo post Z) {off : Int} {tgt : Nat} (hd : decode cc pc = .ok (.goto off, 3)) (ht : (pc : Int) + off = (tgt : Int)) (k : Z tgt lv st iv ar) : Z pc lv st iv ar := by
  obtain ⟨hwf, p, e, s, m, args, below, meth, c, hx, hb, hml, hr, hlk, ho, hts, hnw, hK, hD, rfl⟩ := F
  exact fun H locs ls hP hS hl => lv_goto hx hb hd ht (k H locs ls hP hS hl)
theorem k_tin (F : Fx l D cI wf own cc mL ret fr lo post Z) {dflt lo2 hi : Int} {offs : Array Int} {len : Nat} {x : Int32} {off : Int} {tgt : Nat} (hd : decode cc pc = .ok (.tableswitch dflt lo2 hi offs, len)) (h1 : ¬ x.toInt < lo2) (h2 : ¬ hi < x.toInt) (hof : offs[(x.toInt - lo2).toNat]? = some off) (ht : (pc : Int) + off = (tgt : Int)) (k : Z tgt lv st iv ar) : Z pc lv (.int x :: st) iv ar := by
  obtain ⟨hwf, p, e, s, m, args, below, meth, c, hx, hb, hml, hr, hlk, ho, hts, hnw, hK, hD, rfl⟩ := F
  exact fun H locs ls hP hS hl => lv_tableIn hx hb hd h1 h2 hof ht (k H locs ls hP hS hl)
theorem k_tout (F : Fx l D cI wf own cc mL ret fr lo post Z) {dflt lo2 hi : Int} {offs : Array Int} {len : Nat} {x : Int32} {tgt : Nat} (hd : decode cc pc = .ok (.tableswitch dflt lo2 hi offs, len)) (h : x.toInt < lo2 ∨ hi < x.toInt) (ht : (pc : Int) + dflt = (tgt : Int)) (k : Z tgt lv st iv ar) : Z pc lv (.int x :: st) iv ar := by
  obtain ⟨hwf, p, e, s, m, args, below, meth, c, hx, hb, hml, hr, hlk, ho, hts, hnw, hK, hD, rfl⟩ := F
  exact fun H locs ls hP hS hl => lv_tableOut hx hb hd h ht (k H locs ls hP hS hl)
theorem k_lkp (F : Fx l D cI wf own cc mL ret fr lo post Z) {dflt : Int} {ps : Array (Int × Int)} {len : Nat} {x : Int32} {off : Int} {tgt : Nat} (hd : decode cc pc = .ok (.lookupswitch dflt ps, len)) (hp : (ps.toList.zip (ps.toList.drop 1)).all (fun (a, next) => a.1 < next.1) = true) (hof : Op.lookupswitch.offset ps.toList dflt x.toInt = off) (ht : (pc : Int) + off = (tgt : Int)) (k : Z tgt lv st iv ar) : Z pc lv (.int x :: st) iv ar := by
  obtain ⟨hwf, p, e, s, m, args, below, meth, c, hx, hb, hml, hr, hlk, ho, hts, hnw, hK, hD, rfl⟩ := F
  exact fun H locs ls hP hS hl => lv_lookup hx hb hd hp hof ht (k H locs ls hP hS hl)
theorem k_iret (F : Fx l D cI wf own cc mL (some .int) fr lo post Z) {x : Int32} (hd : decode cc pc = .ok (.ireturn, 1)) (hq : post (some (.int x)) iv ar) : Z pc lv [.int x] iv ar := by
  obtain ⟨hwf, p, e, s, m, args, below, meth, c, hx, hb, hml, hr, hlk, ho, hts, hnw, hK, hD, rfl⟩ := F
  exact fun H locs ls hP hS hl => W.iret (v := x) hx hb hr (fun t ht hW => ⟨⟨_, iv, ar, rfl, hq, by rw [ht]; exact hP⟩, hS.F ht⟩) hS.2.2 hd
theorem k_zret (F : Fx l D cI wf own cc mL (some .boolean) fr lo post Z) {x : Int32} (hd : decode cc pc = .ok (.ireturn, 1)) (hn : narrow .boolean (.int x) = .int x) (hq : post (some (.int x)) iv ar) : Z pc lv [.int x] iv ar := by
  obtain ⟨hwf, p, e, s, m, args, below, meth, c, hx, hb, hml, hr, hlk, ho, hts, hnw, hK, hD, rfl⟩ := F
  exact fun H locs ls hP hS hl => W.zret (v := x) hx hb hr hn (fun t ht hW => ⟨⟨_, iv, ar, rfl, hq, by rw [ht]; exact hP⟩, hS.F ht⟩) hS.2.2 hd
theorem k_vret (F : Fx l D cI wf own cc mL none fr lo post Z) (hd : decode cc pc = .ok (.return_, 1)) (hq : post none iv ar) : Z pc lv [] iv ar := by
  obtain ⟨hwf, p, e, s, m, args, below, meth, c, hx, hb, hml, hr, hlk, ho, hts, hnw, hK, hD, rfl⟩ := F
  exact fun H locs ls hP hS hl => W.vret hx hb hr (fun t ht hW => ⟨⟨_, iv, ar, rfl, hq, by rw [ht]; exact hP⟩, hS.F ht⟩) hS.2.2 hd
theorem k_aret {cn : String} (F : Fx l D cI wf own cc mL (some (.object cn)) fr lo post Z) {x : Nat} (hd : decode cc pc = .ok (.areturn, 1)) (hq : post (some (.ref x)) iv ar) : Z pc lv [.ref x] iv ar := by
  obtain ⟨hwf, p, e, s, m, args, below, meth, c, hx, hb, hml, hr, hlk, ho, hts, hnw, hK, hD, rfl⟩ := F
  exact fun H locs ls hP hS hl => W.aret hx hb hr (Or.inl ⟨_, rfl⟩) (Or.inr ⟨_, rfl⟩) (fun t ht hW => ⟨⟨_, iv, ar, rfl, hq, by rw [ht]; exact hP⟩, hS.F ht⟩) hS.2.2 hd
theorem bI_nar {c : Prop} [Decidable c] : narrow .boolean (.int (bI c)) = .int (bI c) := by unfold bI; by_cases h : c <;> simp [h] <;> decide
theorem k_get (F : Fx l D cI wf own cc mL ret fr lo post Z) {ref C : String} {T : u_T} {N ci i q0 a k : Nat} {fs : List Value} {v : Value} (hin : ∀ w ∈ u_ws C T N, w ∈ tG) (he : (wf iv ar)[q0]? = some (a, .inr (ci, fs))) (hc : classes[ci]? = some (C, T, N)) (hk : k < N) (hlink : Cond.fieldLink own i ref (T k).2.1 (T k).2.2.1 ∈ tG) (hsame : (T k).1 = ref) (hv : fs[k]? = some v) (hd : decode cc pc = .ok (.getfield i, 3)) (kk : Z (pc + 3) lv (v :: st) iv ar) : Z pc lv (.ref a :: st) iv ar := by
  obtain ⟨hwf, p, e, s, m, args, below, meth, c, hx, hb, hml, hr, hlk, ho, hts, hnw, hK, hD, rfl⟩ := F
  exact fun H locs ls hP hS hl => va_get hx hb hts hin ho hK hP q0 he hc k hk (hts _ hlink) (fun _ h => by rw [← hsame]; exact h) hv hd (kk H locs ls hP hS hl)
theorem k_put (F : Fx l D cI wf own cc mL ret fr lo post Z) {ref C : String} {T : u_T} {N ci i q0 a k : Nat} {fs : List Value} {v : Value} {ty : FieldType} {iv2 : IV} (ty0 : Nat → FieldType) (hty : ∀ k, k < N → parseFieldDescriptor (T k).2.2.1 = some (ty0 k)) (hnm : ∀ a, a < N → ∀ b, b < N → a ≠ b → (T a).2.1 ≠ (T b).2.1) (hin : ∀ w ∈ u_ws C T N, w ∈ tG) (he : (wf iv ar)[q0]? = some (a, .inr (ci, fs))) (hc : classes[ci]? = some (C, T, N)) (hk : k < N) (hlink : Cond.fieldLink own i ref (T k).2.1 (T k).2.2.1 ∈ tG) (hsame : (T k).1 = ref) (hfin : (T k).2.2.2 = false) (hd0 : parseFieldDescriptor (T k).2.2.1 = some ty) (hn : narrow ty v = v) (hfit : fits ty v = true) (hl0 : k < fs.length) (hset : (wf iv ar).set q0 (a, .inr (ci, fs.set k v)) = wf iv2 ar) (hd : decode cc pc = .ok (.putfield i, 3)) (kk : Z (pc + 3) lv st iv2 ar) : Z pc lv (v :: .ref a :: st) iv ar := by
  obtain ⟨hwf, p, e, s, m, args, below, meth, c, hx, hb, hml, hr, hlk, ho, hts, hnw, hK, hD, rfl⟩ := F
  exact fun H locs ls hP hS hl => va_put hx hb hts hin ty0 hty hnm ho hK hP (hD iv ar) hS q0 he hc k hk (hts _ hlink) (fun _ h => by rw [← hsame]; exact h) hfin hd0 hn hfit hl0 hd (fun H1 locs1 hP1 _ hS1 => kk H1 locs1 ls (by rw [← hset]; exact hP1) hS1 hl)
theorem k_ald (F : Fx l D cI wf own cc mL ret fr lo post Z) {q0 a n N : Nat} {f : Nat → Int32} {v : Int32} (he : (wf iv ar)[q0]? = some (a, .inl (cI, N, .inl f))) (hN : N < 2 ^ 31) (hn : n < N) (hv : f n = v) (hd : decode cc pc = .ok (.iaload, 1)) (kk : Z (pc + 1) lv (.int v :: st) iv ar) : Z pc lv (.int (nI n) :: .ref a :: st) iv ar := by
  obtain ⟨hwf, p, e, s, m, args, below, meth, c, hx, hb, hml, hr, hlk, ho, hts, hnw, hK, hD, rfl⟩ := F
  intro H locs ls hP hS hl
  have h1 := va_iald (args := args) (Q := MQ below (Qk D wf post) args s 0 0 (adr wf)) (rest := st) (locs := locs) (e := e) (l := l) (R := { frames := fr, cells := 0, slots := 0, locals := lo }) (below := below) (meth := meth) (m := m) (ls := ls) (cells := 0) (slots := 0) hx hb hK hP q0 0 he rfl (i := nI n) (vp_in_nI hn hN) hd
  rw [nI_clamp (Nat.lt_trans hn hN), hv] at h1
  exact h1 (kk H locs ls hP hS hl)
theorem k_ast (F : Fx l D cI wf own cc mL ret fr lo post Z) {q0 a n N : Nat} {f : Nat → Int32} {x : Int32} {ar2 : AR} (he : (wf iv ar)[q0]? = some (a, .inl (cI, N, .inl f))) (hN : N < 2 ^ 31) (hset : (wf iv ar).set q0 (a, .inl (cI, N, .inl (upd f n x))) = wf iv ar2) (hn : n < N) (hd : decode cc pc = .ok (.iastore, 1)) (kk : Z (pc + 1) lv st iv ar2) : Z pc lv (.int x :: .int (nI n) :: .ref a :: st) iv ar := by
  obtain ⟨hwf, p, e, s, m, args, below, meth, c, hx, hb, hml, hr, hlk, ho, hts, hnw, hK, hD, rfl⟩ := F
  intro H locs ls hP hS hl
  refine va_iast hx hb hK hP (hD iv ar) hS q0 0 he rfl (vp_in_nI hn hN) hd (fun H1 locs1 hP1 _ hS1 => kk H1 locs1 ls ?_ hS1 hl)
  rw [← hset]
  rw [nI_clamp (Nat.lt_trans hn hN)] at hP1
  exact hP1
theorem k_alen (F : Fx l D cI wf own cc mL ret fr lo post Z) {q0 a N : Nat} {f : Nat → Int32} (he : (wf iv ar)[q0]? = some (a, .inl (cI, N, .inl f))) (hd : decode cc pc = .ok (.arraylength, 1)) (kk : Z (pc + 1) lv (.int (nI N) :: st) iv ar) : Z pc lv (.ref a :: st) iv ar := by
  obtain ⟨hwf, p, e, s, m, args, below, meth, c, hx, hb, hml, hr, hlk, ho, hts, hnw, hK, hD, rfl⟩ := F
  exact fun H locs ls hP hS hl => va_alen hx hb hK hP q0 0 he rfl rfl hd (kk H locs ls hP hS hl)
theorem tblIn {w : Cond} (h : w ∈ tG) : GoodIn tG (w :: tG) := by
  intro u hu
  have hm : u ∈ tG := (List.mem_cons.mp hu).elim (fun e => by rw [e]; exact h) id
  exact ⟨hm, good_of_word (List.mem_filter.mp hm).2⟩
theorem Bk_blind {as : List Value} : FrameBlind (va_Pc as (Bk D cI wf iv ar)) := fun a U g mk q => by
  obtain ⟨q0, qP, qK, qD, qN⟩ := q
  exact ⟨q0, qP, va_K.moved (u := U) (U := U.calling g mk a) (Vm.Alike.refl U.vm) qK, qD, va_Nw.same rfl (u := U) (U := U.calling g mk a) rfl qN⟩
theorem Bk_pre {s : State} {H : Heap} (hnw : nW s) (hK : va_K D classes [(cI, .int)] s) (hP : va_P D classes (wf iv ar) H) (hD : va_D (adr wf) (wf iv ar)) (as : List Value) : ∀ U : State, U.heap = H → s.WarmedH U.vm → va_Pc as (Bk D cI wf iv ar) as.toArray U := fun U hU hW => ⟨rfl, by rw [hU]; exact hP, va_K.moved hW.alike hK, hD.weaken (fun _ _ _ _ => trivial), va_Nw.warmM hW hnw⟩
theorem Z_back {p : Program} {e : Env} {R : Room} {s : State} {m : MethodId} {args : Array Value} {below : List Frame} {meth : Method} {c : Code} {H : Heap} {locs : List Loc} {cells slots : Nat} {Q : State → Prop} {ls : Array Slot} {st0 rest : List Value} {a : Array Value} {post2 : PST} (hr : va_Run p l e R s m args below meth c H locs cells slots 0 0 (F0 m pc ls st0) rest (Qk D wf post2 a) (adr wf)) (hS : va_S (adr wf) s.heap H locs) (kk : ∀ (v : Option Value) (iv2 : IV) (ar2 : AR) (H1 : Heap) (locs1 : List Loc), post2 v iv2 ar2 → va_P D classes (wf iv2 ar2) H1 → va_S (adr wf) s.heap H1 locs1 → W p l e R s m args below meth c H1 locs1 cells slots Q (F0 m (pc + 3) ls (v.toList ++ rest))) : W p l e R s m args below meth c H locs cells slots Q (F0 m pc ls st0) := by
  intro T hT X
  obtain ⟨v, st₀, t, T', L, h0, X', hL, e1, e2, ⟨⟨v2, iv2, ar2, hv, hp, hb⟩, hz, hk⟩, st⟩ := hr T hT X
  cases hv
  rw [h0] at hz hk
  obtain ⟨t2, a1, b1⟩ := kk v iv2 ar2 T'.heap (locs ++ L) hp (by rw [e1]; exact hb)
    ⟨Nat.le_trans hS.1 (by rw [e1]; exact hz), fun q h1 h2 => by rw [e1, hk q (Nat.lt_of_lt_of_le h1 hS.1) h2]; exact hS.2.1 q h1 h2, fun q hq => by
      rcases List.mem_append.mp hq with h | h
      · exact hS.2.2 q h
      · exact hL q h⟩ T' rfl X'
  exact ⟨t2, st t2 a1, b1⟩
variable {y : MethodName} {cc2 : ByteArray} {mL2 : Nat} {ret2 : Option FieldType} {fr2 lo2 : Nat} {post2 : PST} {i n : Nat} {As rest : List Value} {a : Nat}
def okN (y : MethodName) (n : Nat) : Prop := y.cls ≠ "java/lang/invoke/MethodHandle" ∧ y.cls ≠ "java/lang/invoke/VarHandle" ∧ (parseMethodDescriptor y.desc).map (fun d => d.parameters.length) = some n
/-- what the tables must hold for a call of an instance method -/
def okV (own : String) (i : Nat) (y : MethodName) (cc2 : ByteArray) (mL2 : Nat) (ret2 : Option FieldType) (n : Nat) : Prop := okN y n ∧ Cond.code y cc2 mL2 ret2 ∈ tG ∧ Cond.initialized y.cls ∈ tG ∧ Cond.methodLink own i y ∈ tG ∧ Cond.instanceMethod y ∈ tG ∧ Cond.selects y.cls y y ∈ tG
def okS (own : String) (i : Nat) (y : MethodName) (cc2 : ByteArray) (mL2 : Nat) (ret2 : Option FieldType) (n : Nat) : Prop := okN y n ∧ Cond.code y cc2 mL2 ret2 ∈ tG ∧ Cond.initialized y.cls ∈ tG ∧ Cond.methodLink own i y ∈ tG ∧ Cond.static y ∈ tG
def okSN (y : MethodName) (cc2 : ByteArray) (mL2 : Nat) (ret2 : Option FieldType) (n : Nat) : Prop := okN y n ∧ Cond.code y cc2 mL2 ret2 ∈ tG ∧ Cond.initialized y.cls ∈ tG ∧ Cond.static y ∈ tG
theorem k_callV (F : Fx l D cI wf own cc mL ret fr lo post Z) {q0 ci : Nat} {q : vw_C} {fs : List Value} (hM : Ct l D cI wf y cc2 mL2 ret2 fr2 lo2 (.ref a :: As) iv ar post2) (ok : okV own i y cc2 mL2 ret2 n) (he : (wf iv ar)[q0]? = some (a, .inr (ci, fs))) (hc : classes[ci]? = some q) (hq : q.1 = y.cls) (hn : As.length = n) (hst : st = As.reverse ++ .ref a :: rest) (hfr : fr2 + 1 ≤ fr) (hlo : 8 + (mL2 + 11) + lo2 ≤ lo) (hrm : (rest.map fun v => v.category).sum ≤ 8) (hd : decode cc pc = .ok (.invokevirtual i, 3)) (kk : ∀ v iv2 ar2, post2 v iv2 ar2 → Z (pc + 3) lv (v.toList ++ rest) iv2 ar2) : Z pc lv st iv ar := by
  obtain ⟨hwf, p, e, s, m, args, below, meth, c, hx, hb, hml, hr, hlk, ho, hts, hnw, hK, hD, rfl⟩ := F
  obtain ⟨⟨h1, h2, h3⟩, k1, k2, k3, k4, k5⟩ := ok
  intro H locs ls hP hS hl
  have hcb := callB_of (R := { frames := fr, cells := 0, slots := 0, locals := lo }) (rm := { frames := fr2, cells := 0, slots := 0, locals := lo2 }) (mc := 0) (ms := 0) n hts (tblIn k1) rfl rfl rfl (hts _ k2) (hts _ k3) ⟨h1, h2, h3⟩ ⟨hfr, hlo⟩
  have hrv := va_recv hK hP hc he
  rw [hq] at hrv
  exact Z_back (va_runV (C := y.cls) (As := As) (rest := rest) (b := a) ⟨hx, hb, hml, ho, hts⟩ hM ⟨hcb, hts _ k4, hts _ k5⟩ ⟨Bk_blind, hrv, Bk_pre hnw hK hP (hD iv ar) (.ref a :: As)⟩ rfl hn hl.1.1 hst (lv_room hrm) hd ⟨Nat.le_refl 0, Nat.le_refl 0⟩) hS (fun v iv2 ar2 H1 locs1 hp hP1 hS1 => kk v iv2 ar2 hp H1 locs1 ls hP1 hS1 hl)
theorem k_callS (F : Fx l D cI wf own cc mL ret fr lo post Z) (hM : Ct l D cI wf y cc2 mL2 ret2 fr2 lo2 As iv ar post2) (ok : okS own i y cc2 mL2 ret2 n) (hn : As.length = n) (hst : st = As.reverse ++ rest) (hfr : fr2 + 1 ≤ fr) (hlo : 8 + (mL2 + 11) + lo2 ≤ lo) (hrm : (rest.map fun v => v.category).sum ≤ 8) (hd : decode cc pc = .ok (.invokestatic i, 3)) (kk : ∀ v iv2 ar2, post2 v iv2 ar2 → Z (pc + 3) lv (v.toList ++ rest) iv2 ar2) : Z pc lv st iv ar := by
  obtain ⟨hwf, p, e, s, m, args, below, meth, c, hx, hb, hml, hr, hlk, ho, hts, hnw, hK, hD, rfl⟩ := F
  obtain ⟨⟨h1, h2, h3⟩, k1, k2, k3, k4⟩ := ok
  intro H locs ls hP hS hl
  have hcb := callB_of (R := { frames := fr, cells := 0, slots := 0, locals := lo }) (rm := { frames := fr2, cells := 0, slots := 0, locals := lo2 }) (mc := 0) (ms := 0) n hts (tblIn k1) rfl rfl rfl (hts _ k2) (hts _ k3) ⟨h1, h2, h3⟩ ⟨hfr, hlo⟩
  exact Z_back (va_runS (As := As) (rest := rest) ⟨hx, hb, hml, ho, hts⟩ hM ⟨hcb, hts _ k4⟩ ⟨Bk_blind, Bk_pre hnw hK hP (hD iv ar) As⟩ rfl hn hl.1.1 hst (lv_room hrm) hd ⟨Nat.le_refl 0, Nat.le_refl 0⟩) hS (fun v iv2 ar2 H1 locs1 hp hP1 hS1 => kk v iv2 ar2 hp H1 locs1 ls hP1 hS1 hl)
theorem k_callSN (F : Fx l D cI wf RX3 cc mL ret fr lo post Z) (hM : Ct l D cI wf yX7_bandOf cc2 mL2 ret2 fr2 lo2 As iv ar post2) (ok : okSN yX7_bandOf cc2 mL2 ret2 n) (hn : As.length = n) (hst : st = As.reverse ++ rest) (hfr : fr2 + 1 ≤ fr) (hlo : 8 + (mL2 + 11) + lo2 ≤ lo) (hrm : (rest.map fun v => v.category).sum ≤ 8) (hd : decode cc pc = .ok (.invokestatic 88, 3)) (kk : ∀ v iv2 ar2, post2 v iv2 ar2 → Z (pc + 3) lv (v.toList ++ rest) iv2 ar2) : Z pc lv st iv ar := by
  obtain ⟨hwf, p, e, s, m, args, below, meth, c, hx, hb, hml, hr, hlk, ho, hts, hnw, hK, hD, rfl⟩ := F
  obtain ⟨⟨h1, h2, h3⟩, k1, k2, k4⟩ := ok
  intro H locs ls hP hS hl
  have hG := tblIn k1
  have hcn : va_CN { frames := fr, cells := 0, slots := 0, locals := lo } s args RX3 88 yX7_bandOf RX7 cc2 mL2 ret2 (Cond.code yX7_bandOf cc2 mL2 ret2 :: tG) { frames := fr2, cells := 0, slots := 0, locals := lo2 } 0 0 n := by
    refine ⟨⟨rfl, rfl, hfr, hlo, pay_in hts hG, List.mem_cons_self⟩, hts _ k1, hts _ k2, ⟨h1, h2⟩, fun sig h => ?_, va_Nw.use rfl hnw⟩
    have h2 := h3
    rw [h] at h2
    exact (Option.some.inj h2).symm
  exact Z_back (va_runSN (As := As) (rest := rest) ⟨hx, hb, hml, ho, hts⟩ hM ⟨hcn, hts _ k4, trivial⟩ ⟨Bk_blind, Bk_pre hnw hK hP (hD iv ar) As⟩ rfl hn hl.1.1 hst (lv_room hrm) hd ⟨Nat.le_refl 0, Nat.le_refl 0⟩) hS (fun v iv2 ar2 H1 locs1 hp hP1 hS1 => kk v iv2 ar2 hp H1 locs1 ls hP1 hS1 hl)
end KR
/-- an int answer, and the state behind it -/
def rI (x : Int32) (iv1 : IV) (ar1 : AR) : PST := fun v iv2 ar2 => v = some (.int x) ∧ iv2 = iv1 ∧ ar2 = ar1
def rV (iv1 : IV) (ar1 : AR) : PST := fun v iv2 ar2 => v = none ∧ iv2 = iv1 ∧ ar2 = ar1
theorem rI.use {Z : ZT} {pc : Nat} {lv : LV} {rest : List Value} {x : Int32} {iv1 : IV} {ar1 : AR} (k : Z pc lv (.int x :: rest) iv1 ar1) : ∀ v iv2 ar2, rI x iv1 ar1 v iv2 ar2 → Z pc lv (v.toList ++ rest) iv2 ar2 := fun v iv2 ar2 h => by
  obtain ⟨rfl, rfl, rfl⟩ := h
  exact k
theorem rV.use {Z : ZT} {pc : Nat} {lv : LV} {rest : List Value} {iv1 : IV} {ar1 : AR} (k : Z pc lv rest iv1 ar1) : ∀ v iv2 ar2, rV iv1 ar1 v iv2 ar2 → Z pc lv (v.toList ++ rest) iv2 ar2 := fun v iv2 ar2 h => by
  obtain ⟨rfl, rfl, rfl⟩ := h
  exact k
/-- an int answer, or none, with a relation -/
def qI (q : Int32 → IV → AR → Prop) : PST := fun v iv2 ar2 => ∃ x, v = some (.int x) ∧ q x iv2 ar2
def qV (q : IV → AR → Prop) : PST := fun v iv2 ar2 => v = none ∧ q iv2 ar2
theorem qI.use {Z : ZT} {pc : Nat} {lv : LV} {rest : List Value} {q : Int32 → IV → AR → Prop} (k : ∀ x iv2 ar2, q x iv2 ar2 → Z pc lv (.int x :: rest) iv2 ar2) : ∀ v iv2 ar2, qI q v iv2 ar2 → Z pc lv (v.toList ++ rest) iv2 ar2 := fun v iv2 ar2 h => by
  obtain ⟨x, rfl, h⟩ := h
  exact k x iv2 ar2 h
theorem qV.use {Z : ZT} {pc : Nat} {lv : LV} {rest : List Value} {q : IV → AR → Prop} (k : ∀ iv2 ar2, q iv2 ar2 → Z pc lv rest iv2 ar2) : ∀ v iv2 ar2, qV q v iv2 ar2 → Z pc lv (v.toList ++ rest) iv2 ar2 := fun v iv2 ar2 h => by
  obtain ⟨rfl, h⟩ := h
  exact k iv2 ar2 h
