set_option maxRecDepth 20000 in
theorem nest_in : (Jvm.Cond.methodLinkNest "VoiceHouse$PairBook" (88 : Nat) ({ cls := "VoiceHouse", name := "bandOf", desc := "(I)I" } : Jvm.MethodName) "VoiceHouse") ∈ lw_tbl := List.mem_append_right _ (List.mem_append_right _ (List.mem_append_left _ (List.mem_of_getElem? (i := 131) rfl)))
set_option maxHeartbeats 4000000 in
set_option maxRecDepth 100000 in
/-- THE LAW, from its entry -/
theorem whole_start {p : Program} {e : Env} {s : State} {m : MethodId} {below : List Frame} {meth : Method} {c : Code} (l : Launch) {b L : Nat} {xs : Nat → Int32} (hL : L ≤ 2048) (C0 : lw_At p s m meth c b L xs) : W p l e room_1 s m #[Value.ref b] below meth c s.heap [] 0 0 (lw_Z below #[Value.ref b] s) (entryFrame m ([Value.ref b] : List Value).toArray 4) := by
  obtain ⟨hx, hb, hr, hml, hown, hts, hX, hbl, hlocks, hgv⟩ := C0
  have htg : ∀ w ∈ tG, w.before #[Value.ref b] s = true := fun w hw => hts w (List.mem_filter.mp hw).1
  have hbA : ¬ (fun q : Nat => s.heap.size ≤ q) b := Nat.not_le.mpr hbl
  obtain ⟨c0, i0, k0⟩ := u_known (C := RX0) (T := TX0) (N := 4) (n := 4) htg in_X0 (htg _ w_22)
  obtain ⟨c1, i1, k1⟩ := u_known (C := RX1) (T := TX1) (N := 2) (n := 2) htg in_X1 (htg _ w_173)
  obtain ⟨c2, i2, k2⟩ := u_known (C := RX2) (T := TX2) (N := 5) (n := 5) htg in_X2 (htg _ w_151)
  obtain ⟨c3, i3, k3⟩ := u_known (C := RX3) (T := TX3) (N := 11) (n := 11) htg in_X3 (htg _ w_77)
  obtain ⟨c4, i4, k4⟩ := u_known (C := RX4) (T := TX4) (N := 2) (n := 2) htg in_X4 (htg _ w_64)
  obtain ⟨c5, i5, k5⟩ := u_known (C := RX5) (T := TX5) (N := 9) (n := 9) htg in_X5 (htg _ w_117)
  obtain ⟨c6, i6, k6⟩ := u_known (C := RX6) (T := TX6) (N := 4) (n := 4) htg in_X6 (htg _ w_45)
  obtain ⟨c7, i7, k7⟩ := u_known (C := RX7) (T := TX7) (N := 10) (n := 10) htg in_X7 (htg _ w_14)
  obtain ⟨c8, i8, k8⟩ := u_known (C := RX8) (T := TX8) (N := 20) (n := 20) htg in_X8 (htg _ w_621)
  obtain ⟨D, hKc⟩ : ∃ D : va_G, ∀ (k : Nat) (q : vw_C), classes[k]? = some q → u_Kn s q.1 q.2.1 q.2.2 (D.1 k) (D.2 k) := by
    refine ⟨(fun k => [c0, c1, c2, c3, c4, c5, c6, c7, c8].getD k c0, fun k => [i0, i1, i2, i3, i4, i5, i6, i7, i8].getD k i0), ?_⟩
    intro k q hq
    match k, hq with
    | 0, hq => cases hq; exact k0
    | 1, hq => cases hq; exact k1
    | 2, hq => cases hq; exact k2
    | 3, hq => cases hq; exact k3
    | 4, hq => cases hq; exact k4
    | 5, hq => cases hq; exact k5
    | 6, hq => cases hq; exact k6
    | 7, hq => cases hq; exact k7
    | 8, hq => cases hq; exact k8
    | k + 9, hq => simp [classes] at hq
  obtain ⟨cI, kA, comp, a1, a2, a3⟩ := Cond.arrayClass_spec (htg _ w_43)
  have hK : va_K D classes [(cI, .int)] s := ⟨hKc, fun k q h => by
    have hz : k < 1 := (List.getElem?_eq_some_iff.mp h).1
    rw [show k = 0 by omega] at h
    cases h
    exact ⟨fun n z => ⟨fun k h => (by cases h), kA, a2, comp, a3⟩, a1⟩⟩
  have hnw : nW s := va_Nw.of rfl (hts _ nest_in)
  rw [lg_entry_eq]
  obtain ⟨Z, hZ⟩ : ∃ Z : ZW, Z = (fun pc lv st ws k n => ∀ (H : Heap) (locs : List Loc) (ls : Array Slot), va_P D classes ws H → va_D (fun q : Nat => s.heap.size ≤ q) ws → va_S (fun q : Nat => s.heap.size ≤ q) s.heap H locs → lh ls 4 lv → W p l e room_1 s m #[Value.ref b] below meth c H locs k n (lw_Z below #[Value.ref b] s) (F0 m pc ls st)) := ⟨_, rfl⟩
  have F : Fw l D cI RL cL_law 4 room_1 false Z := ⟨p, e, s, m, _, below, meth, c, _, _, hx, hb, hml, fun h => (by cases h), hown, htg, hnw, hK, fun _ h => h, hZ⟩
  have X : LX Z b L xs := by
    subst hZ
    refine ⟨fun pc lv st ws k n i hi hd kk H locs ls hP hD hS hl => ?_, fun pc lv st ws k n hd kk H locs ls hP hD hS hl => ?_, fun pc lv ws hd H locs ls hP hD hS hl => ?_⟩
    · refine va_sld hx hb hX hbl hbA hS (i := nI i) (vp_in_nI hi (by omega)) hd ?_
      rw [nI_clamp (by omega)]
      exact kk H locs ls hP hD hS hl
    · exact va_slen hx hb hX hbl hbA hS hd (kk H locs ls hP hD hS hl)
    · exact va_forget (fun q hq => hS.2.2 q hq) (lw_ret hx hb hr hlocks hd)
  have start : Z 0 [some (.ref b), none, none, none] [] [] 0 0 := by
    refine w_new (pc := 0) (C := RX7) (T := TX7) (N := 10) (ci := 7) (fs := [.null, .null, .null, .null, .null, .null, .null, .int 0, .int 0, .int 0]) F tyX7 tyX7_ok in_X7 w_13 w_14 w_1 rfl (by decide) (Nat.le_of_ble_eq_true rfl) (Nat.le_of_ble_eq_true rfl) dL_law_0 (fun q1 => ?_)
    refine w_dup (pc := 3) F dL_law_3 rfl ?_
    refine w_init (pc := 4) (wr := []) F (c_X7_init (h0 := q1)) okI_L_9 [] 0 rfl rfl rfl (by decide) rfl rfl (Nat.le_of_ble_eq_true rfl) (Nat.le_of_ble_eq_true rfl) (Nat.le_of_ble_eq_true rfl) ⟨Nat.le_of_ble_eq_true rfl, Nat.le_of_ble_eq_true rfl⟩ dL_law_4 (fun w4 h4 => ?_)
    obtain ⟨ad, f, e0, hf, rfl⟩ := h4
    subst e0
    refine w_astore1 (pc := 7) F (by decide) dL_law_7 ?_
    refine w_new (pc := 8) (C := RX8) (T := TX8) (N := 20) (ci := 8) (fs := [.int 0, .null, .null, .null, .int 0, .int 0, .int 0, .null, .int 0, .null, .int 0, .null, .null, .null, .null, .null, .null, .int 0, .null, .null]) F tyX8 tyX8_ok in_X8 w_620 w_621 w_10 rfl (by decide) (Nat.le_of_ble_eq_true rfl) (Nat.le_of_ble_eq_true rfl) dL_law_8 (fun q2 => ?_)
    refine w_dup (pc := 11) F dL_law_11 rfl ?_
    refine w_init (pc := 12) (wr := cw cI ad (fun k => [(nI 1023), (nI 20), (nI 0), (nI 0), (nI 0), (nI 0), (nI 0), (nI 0), (nI 0), (nI 0), (nI 0), (nI 0)].getD k 0) (fun k => if k = 2 then f else fun _ => 0)) F (c_X8_init (h0 := q2)) okI_L_12 [0, 1, 2, 3, 4, 5, 6, 7, 8, 9, 10, 11, 12, 13, 14, 15, 16, 17, 18, 19, 20, 21, 22, 23, 24, 25, 26, 27] 28 rfl rfl rfl (by decide) rfl rfl (Nat.le_of_ble_eq_true rfl) (Nat.le_of_ble_eq_true rfl) (Nat.le_of_ble_eq_true rfl) ⟨Nat.le_of_ble_eq_true rfl, Nat.le_of_ble_eq_true rfl⟩ dL_law_12 (fun w12 h12 => ?_)
    obtain ⟨ad2, e0, rfl⟩ := h12
    subst e0
    refine w_astore2 (pc := 15) F (by decide) dL_law_15 ?_
    refine w_iconst (pc := 16) (v := nI 0) F dL_law_16 (by decide) ?_
    refine w_istore3 (pc := 17) F (by decide) dL_law_17 ?_
    exact law_loop F X hL (L + 1) 0 _ _ _ _ _ _ _ _ _ _ _ _ _ _ (by omega) (Nat.zero_le L) (CI_0 hf) MI_0
  subst hZ
  exact start s.heap [] _ (fun k q h => by simp at h) ⟨fun i j p q h => by simp at h, fun k q h => by simp at h⟩ va_S.rf (lh_of (as := [.ref b]) (mL := 4) (n := 3) (Nat.le_of_ble_eq_true rfl) rfl rfl)
