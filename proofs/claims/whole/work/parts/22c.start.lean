-- ===== the law, whole: from its entry =====
theorem start_arr {s : State} {args : Array Value} {ty : FieldType} (h : (Cond.arrayClass ty).before args s = true) : ∃ c : ClassId, ArrOfT s c ty ∧ s.vm.findClass ("[" ++ ty.toString) = some c := by
  obtain ⟨c, k, comp, h1, h2, h3⟩ := Cond.arrayClass_spec h
  exact ⟨c, fun n z => ⟨fun k h => (by cases h), k, h2, comp, h3⟩, h1⟩
theorem start_tap {s : State} {args : Array Value} {C : String} (h : (Cond.arrayOver (.object C)).before args s = true) : ∃ c : ClassId, ArrOfT s c (.object C) ∧ va_RA s c (.object C) := by
  obtain ⟨comp, c, k, h1, h2, h3, h4, h5⟩ := Cond.arrayOver_spec h
  exact ⟨c, fun n z => ⟨fun k h => (by cases h), k, h3, comp, h4⟩, k, comp, h3, h4, h1, h5⟩
/-- the static table at the start -/
theorem start_tab {s : State} {b : Nat} (hts : ∀ w ∈ lw_tbl, w.before #[Value.ref b] s = true) (hgv : (Jvm.Cond.and given_1 narrow_1).before #[Value.ref b] s = true) : ∃ t : Nat, va_Z RX9 "CYCLE_WORTH" "[I" (.ref t) (fun q => s.heap.size ≤ q) s s.heap ∧ va_T .int t 7 q_cyT (fun q => s.heap.size ≤ q) s s.heap := by
  have hf := flat_of_before _ hgv
  have hA : ∀ a : Nat, a < s.heap.size → ¬ (fun q : Nat => s.heap.size ≤ q) a := fun a h => Nat.not_le.mpr h
  have ha : (Cond.arrayOf (.static RX9 "CYCLE_WORTH" "[I") .int).before #[Value.ref b] s = true := hf _ (by decide +kernel)
  have hn : (Cond.eq (.length (.static RX9 "CYCLE_WORTH" "[I")) (.int 7)).before #[Value.ref b] s = true := hf _ (by decide +kernel)
  have h0 : (Cond.eq (.elem (.static RX9 "CYCLE_WORTH" "[I") (.int 0)) (.int 0)).before #[Value.ref b] s = true := hf _ (by decide +kernel)
  have h1 : (Cond.eq (.elem (.static RX9 "CYCLE_WORTH" "[I") (.int 1)) (.int 100000)).before #[Value.ref b] s = true := hf _ (by decide +kernel)
  have h2 : (Cond.eq (.elem (.static RX9 "CYCLE_WORTH" "[I") (.int 2)) (.int 10000)).before #[Value.ref b] s = true := hf _ (by decide +kernel)
  have h3 : (Cond.eq (.elem (.static RX9 "CYCLE_WORTH" "[I") (.int 3)) (.int 1000)).before #[Value.ref b] s = true := hf _ (by decide +kernel)
  have h4 : (Cond.eq (.elem (.static RX9 "CYCLE_WORTH" "[I") (.int 4)) (.int 100)).before #[Value.ref b] s = true := hf _ (by decide +kernel)
  have h5 : (Cond.eq (.elem (.static RX9 "CYCLE_WORTH" "[I") (.int 5)) (.int 10)).before #[Value.ref b] s = true := hf _ (by decide +kernel)
  have h6 : (Cond.eq (.elem (.static RX9 "CYCLE_WORTH" "[I") (.int 6)) (.int 1)).before #[Value.ref b] s = true := hf _ (by decide +kernel)
  have hel : ∀ j : Nat, j < 7 → (Term.elem (.static RX9 "CYCLE_WORTH" "[I") (.int (Int32.ofNat j))).eval #[Value.ref b] s none [] s = some (q_cyT j) := by
    intro j hj
    obtain rfl | rfl | rfl | rfl | rfl | rfl | rfl : j = 0 ∨ j = 1 ∨ j = 2 ∨ j = 3 ∨ j = 4 ∨ j = 5 ∨ j = 6 := by omega
    · exact va_eqt h0
    · exact va_eqt h1
    · exact va_eqt h2
    · exact va_eqt h3
    · exact va_eqt h4
    · exact va_eqt h5
    · exact va_eqt h6
  obtain ⟨t, e, hT⟩ := va_Tof (N := 7) (f := q_cyT) (A := fun q : Nat => s.heap.size ≤ q) (by decide) ha (va_eqt hn) hel hA
  exact ⟨t, va_Zof (hts _ tw_2_128) (hts _ (qt_in tw_1_1)) e hA, hT⟩
/-- what is known at the start: the classes, the array classes, the table; what the constructors need -/
theorem start_EX {s : State} {b : Nat} (hts : ∀ w ∈ lw_tbl, w.before #[Value.ref b] s = true) (hgv : (Jvm.Cond.and given_1 narrow_1).before #[Value.ref b] s = true) : ∃ G : GX, EX G (fun q => s.heap.size ≤ q) s ∧ NI s := by
  have hq : ∀ w ∈ qt, w.before #[Value.ref b] s = true := fun w h => hts w (qt_in h)
  obtain ⟨k0, j0, h0⟩ := u_known (C := RX1) (T := TX1) (N := 3) (n := 3) hq inX1 (hq _ tw_1_144)
  obtain ⟨k1, j1, h1⟩ := u_known (C := RX3) (T := TX3) (N := 14) (n := 14) hq inX3 (hq _ tw_1_25)
  obtain ⟨k2, j2, h2⟩ := u_known (C := RX4) (T := TX4) (N := 4) (n := 4) hq inX4 (hq _ tw_1_121)
  obtain ⟨k3, j3, h3⟩ := u_known (C := RX5) (T := TX5) (N := 5) (n := 5) hq inX5 (hq _ tw_1_92)
  obtain ⟨k4, j4, h4⟩ := u_known (C := RX6) (T := TX6) (N := 3) (n := 3) hq inX6 (hq _ tw_1_207)
  obtain ⟨k5, j5, h5⟩ := u_known (C := RX7) (T := TX7) (N := 5) (n := 5) hq inX7 (hq _ tw_1_163)
  obtain ⟨k6, j6, h6⟩ := u_known (C := RX8) (T := TX8) (N := 3) (n := 3) hq inX8 (hq _ tw_1_187)
  obtain ⟨k7, j7, h7⟩ := u_known (C := RX9) (T := TX9) (N := 11) (n := 11) hq inX9 (hq _ tw_1_17)
  obtain ⟨k8, j8, h8⟩ := u_known (C := RX10) (T := TX10) (N := 31) (n := 31) hq inX10 (hq _ tw_3_221)
  obtain ⟨dC, dI, hKc⟩ : ∃ (dC : Nat → ClassId) (dI : Nat → Nat → Nat), ∀ (k : Nat) (q : vw_C), vwCl[k]? = some q → u_Kn s q.1 q.2.1 q.2.2 (dC k) (dI k) := by
    refine ⟨fun k => if k = 0 then k0 else if k = 1 then k1 else if k = 2 then k2 else if k = 3 then k3 else if k = 4 then k4 else if k = 5 then k5 else if k = 6 then k6 else if k = 7 then k7 else k8, fun k => if k = 0 then j0 else if k = 1 then j1 else if k = 2 then j2 else if k = 3 then j3 else if k = 4 then j4 else if k = 5 then j5 else if k = 6 then j6 else if k = 7 then j7 else j8, ?_⟩
    intro k q hq
    match k, hq with
    | 0, hq => cases hq; exact h0
    | 1, hq => cases hq; exact h1
    | 2, hq => cases hq; exact h2
    | 3, hq => cases hq; exact h3
    | 4, hq => cases hq; exact h4
    | 5, hq => cases hq; exact h5
    | 6, hq => cases hq; exact h6
    | 7, hq => cases hq; exact h7
    | 8, hq => cases hq; exact h8
    | k + 9, hq => simp [vwCl] at hq
  obtain ⟨c1, a1, b1⟩ := start_arr (hq _ tw_1_90)
  obtain ⟨c2, a2, b2⟩ := start_arr (hq _ tw_4_83)
  obtain ⟨c3, a3, b3⟩ := start_arr (hq _ tw_1_225)
  obtain ⟨c4, a4, b4⟩ := start_tap (hts _ tw_1_206)
  obtain ⟨t, hZ, hT⟩ := start_tab hts hgv
  refine ⟨((dC, dI), (c1, c2, c3, c4), t), ⟨⟨hKc, ?_⟩, fun _ h => h, hZ, hT, va_Nw.of rfl (hts _ tw_2_127)⟩, va_AO.of (hts _ tw_1_206), ?_⟩
  · intro k q hk
    match k, hk with
    | 0, hk => cases hk; exact ⟨a1, b1⟩
    | 1, hk => cases hk; exact ⟨a2, b2⟩
    | 2, hk => cases hk; exact ⟨a3, b3⟩
    | 3, hk => cases hk; exact ⟨a4, b4⟩
    | k + 4, hk => simp [TY] at hk
  · intro q hq
    simp only [q_nest, List.mem_cons, List.not_mem_nil, or_false] at hq
    rcases hq with rfl | rfl | rfl | rfl | rfl | rfl
    · exact va_Nw.of rfl (hts _ tw_1_93)
    · exact va_Nw.of rfl (hts _ tw_1_122)
    · exact va_Nw.of rfl (hts _ tw_1_145)
    · exact va_Nw.of rfl (hts _ tw_1_164)
    · exact va_Nw.of rfl (hts _ tw_1_188)
    · exact va_Nw.of rfl (hts _ tw_1_208)
set_option maxHeartbeats 8000000 in
set_option maxRecDepth 100000 in
/-- YOUR PART: from the entry, for every script of at most 3072 ints, the law comes to its end with true -/
theorem whole_start {p : Program} {e : Env} {s : State} {m : MethodId} {below : List Frame} {meth : Method} {c : Code} (l : Launch) (_hflags : l.flags = flags0) {b L : Nat} {xs : Nat → Int32} (hL : L ≤ 3072) (C0 : lw_At p s m meth c b L xs) : W p l e room_1 s m #[Value.ref b] below meth c s.heap [] 0 0 (lw_Z below #[Value.ref b] s) (entryFrame m ([Value.ref b] : List Value).toArray 4) := by
  obtain ⟨hx, hb, hr, hml, hown, hts, hX, hbl, hlk, hgv⟩ := id C0
  obtain ⟨G, E, N0⟩ := start_EX hts hgv
  have X : CX RL code 4 ret p s m #[Value.ref b] meth c := ⟨hx, hb, hml, hown, fun w h => hts w (qt_in h), hr, hlk⟩
  have hbA : ¬ (fun q : Nat => s.heap.size ≤ q) b := Nat.not_le.mpr hbl
  obtain ⟨rk, gr, ms, e1, e2, e3, hRR⟩ := start_RR
  have hl := lv_entry ([.ref b]) (n := 4) (Nat.le_of_ble_eq_true rfl)
  rw [lg_entry_eq]
  generalize (lg_sl ([.ref b]) ++ List.replicate (4 - (lg_sl ([.ref b])).length) Slot.unset).toArray = ls at hl ⊢
  have hl : lv_has ls 4 [(0, .ref b)] := hl
  have hI : IN (fun q : Nat => s.heap.size ≤ q) G ([] : va_W) s s.heap [] := ⟨fun k q h => by simp at h, ⟨fun i j p q h => by simp at h, fun k q h => by simp at h⟩, va_S.rf⟩
  refine x_new (pc := 0) (ci := 7) (fs := [.null, .null, .int 0, .null, .null, .null, .null, .null, .null, .null, .null]) X E hI inX9 tyX9 tyX9_ok tw_1_16 tw_1_17 tw_1_1 rfl (fun j hj => by rcases (show j = 0 ∨ j = 1 ∨ j = 2 ∨ j = 3 ∨ j = 4 ∨ j = 5 ∨ j = 6 ∨ j = 7 ∨ j = 8 ∨ j = 9 ∨ j = 10 by omega) with rfl | rfl | rfl | rfl | rfl | rfl | rfl | rfl | rfl | rfl | rfl <;> rfl) (Nat.le_of_ble_eq_true rfl) (Nat.le_of_ble_eq_true rfl) dL_law_0 (fun q1 H hI => ?_)
  refine lv_dup (pc := 3) hx hb dL_law_3 rfl ?_
  refine x_cI (pc := 4) X E N0 hI (c_X9_init l G q1 e1 e2) rfl tw_1_18 tw_1_19 tw_1_1 tw_1_20 hi_X9_init ⟨rfl, rfl⟩ (by decide) hl.1 rfl (Nat.le_of_ble_eq_true rfl) dL_law_4 ⟨(Nat.le_of_ble_eq_true rfl), (Nat.le_of_ble_eq_true rfl)⟩ (fun ad1 H locs had1 hI => ?_)
  simp only [List.nil_append] at hI
  refine lv_astore_n (pc := 7) (lv' := [(1, .ref q1), (0, .ref b)]) hx hb dL_law_7 rfl hl (by decide) rfl (fun ls hl => ?_)
  refine x_new (pc := 8) (ci := 8) (fs := [.int 0, .null, .null, .int 0, .int 0, .null, .null, .int 0, .null, .null, .null, .null, .null, .null, .int 0, .null, .null, .int 0, .null, .int 0, .int 0, .int 0, .int 0, .int 0, .null, .null, .null, .null, .null, .null, .null]) X E hI inX10 tyX10 tyX10_ok tw_3_220 tw_3_221 tw_1_11 rfl (fun j hj => by rcases (show j = 0 ∨ j = 1 ∨ j = 2 ∨ j = 3 ∨ j = 4 ∨ j = 5 ∨ j = 6 ∨ j = 7 ∨ j = 8 ∨ j = 9 ∨ j = 10 ∨ j = 11 ∨ j = 12 ∨ j = 13 ∨ j = 14 ∨ j = 15 ∨ j = 16 ∨ j = 17 ∨ j = 18 ∨ j = 19 ∨ j = 20 ∨ j = 21 ∨ j = 22 ∨ j = 23 ∨ j = 24 ∨ j = 25 ∨ j = 26 ∨ j = 27 ∨ j = 28 ∨ j = 29 ∨ j = 30 by omega) with rfl | rfl | rfl | rfl | rfl | rfl | rfl | rfl | rfl | rfl | rfl | rfl | rfl | rfl | rfl | rfl | rfl | rfl | rfl | rfl | rfl | rfl | rfl | rfl | rfl | rfl | rfl | rfl | rfl | rfl | rfl <;> rfl) (Nat.le_of_ble_eq_true rfl) (Nat.le_of_ble_eq_true rfl) dL_law_8 (fun q2 H hI => ?_)
  refine lv_dup (pc := 11) hx hb dL_law_11 rfl ?_
  refine x_cI (pc := 12) X E N0 hI (c_X10_init l G q2 e3) rfl tw_3_222 tw_3_223 tw_1_11 tw_3_224 hi_X10_init ⟨rfl, rfl⟩ (by decide) hl.1 rfl (Nat.le_of_ble_eq_true rfl) dL_law_12 ⟨(Nat.le_of_ble_eq_true rfl), (Nat.le_of_ble_eq_true rfl)⟩ (fun ad2 H locs had2 hI => ?_)
  rw [List.append_assoc] at hI
  refine lv_astore_n (pc := 15) (lv' := [(2, .ref q2), (1, .ref q1), (0, .ref b)]) hx hb dL_law_15 rfl hl (by decide) rfl (fun ls hl => ?_)
  refine lv_iconst (pc := 16) (v := 0) hx hb dL_law_16 (by decide) ?_
  refine lv_istore_n (pc := 17) (lv' := [(3, .int 0), (2, .ref q2), (1, .ref q1), (0, .ref b)]) hx hb dL_law_17 rfl hl (by decide) rfl (fun ls hl => ?_)
  have hl2 : lv_has ls 4 [(0, .ref b), (1, .ref (ad1 0)), (2, .ref (ad2 0)), (3, .int (nI 0))] := by
    rw [had1, had2]
    exact lv_sub hl [3, 2, 1, 0] rfl
  refine law_loop X E hX hbl hbA hL (fun H locs ls C S hC hS hVS => ?_) 512 0 _ _ H locs ls (by omega) (by decide) (Nat.le_of_ble_eq_true rfl) (Nat.le_of_ble_eq_true rfl) ⟨ad1, ad2, ad1 34, ad1 35, ad1 36, ad1 37, ad1 38, ad1 39, ad1 40, ad1 41, _, _, _, _, _, _, _, _, _, _, _, _, _, _, _, _, _, _, _, _, _, _, _, _, _, _, _, _, _, _, _, _, _, _, _, _, _, _, _, _, _, _, _, _, _, _, _, _, _, _, _, _, _, _, _, _, _, _, _, _, _, _, _, _, _, _, _, _, _, _, _, _, _, _, _, _, _, _, _, _, _, _, _, _, _, _, _, _, _, _, _, _, _, _, _, _, fun j hj => ?_, hRR, hI, hl2⟩
  · refine lv_iconst (pc := 1498) (v := 1) hx hb dL_law_1498 (by decide) ?_
    refine va_forget hVS.2.2 ?_
    refine W.widen hC hS ?_
    exact lw_ret (d0 := s.drawn) (Drawn.sameBut.refl s.drawn lw_cs) hx hb hr hlk dL_law_1499
  · obtain rfl | rfl | rfl | rfl | rfl | rfl : j = 0 ∨ j = 1 ∨ j = 2 ∨ j = 3 ∨ j = 4 ∨ j = 5 := by omega
    all_goals rfl
